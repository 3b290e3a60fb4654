abbrev LT_Fo_append_2 : Type := (St → Int32 → Int32 → St) × (St → Int32 → Int32 → St)
abbrev LW_Fo_append_2 : Type := (St → Int32 → Int32 → Prop) × (St → Int32 → Int32 → Prop)
def hl_Fo_append_2 (d : Nat) (lp : LT_Fo_append_2) (wlp : LW_Fo_append_2) : Prop := (∀ (s : St) (v1 : Int32) (v2 : Int32), wlp.1 s v1 v2 → X m_Fo_append d 2 [some (.inr (.inr (some 2))), some (.inl v1), some (.inl v2)] [] (hp s) (qVs (lp.1 s v1 v2))) ∧ (∀ (s : St) (v1 : Int32) (v2 : Int32), wlp.2 s v1 v2 → X m_Fo_append d 23 [some (.inr (.inr (some 2))), some (.inl v1), some (.inl v2)] [] (hp s) (qVs (lp.2 s v1 v2)))
def b_Fo_append_2 (fu : Nat) (lp : LT_Fo_append_2) (s : St) (v1 : Int32) (v2 : Int32) : St := (cond (cn1 .lt v2) s (cond (cn2 .ge (sI s 2 2) (2000 : Int32)) s (lp.2 (pI (pA s 3 (upd (sA s 3) (Int32.toNatClampNeg (sI s 2 2)) ((Int32.toInt8 ((Int32.toInt8 (v1 >>> (v2 &&& 31))).toInt32)).toInt32))) 2 2 ((sI s 2 2) + (1 : Int32))) v1 v2)))
def v_Fo_append_2 (fu : Nat) (lp : LT_Fo_append_2) (wlp : LW_Fo_append_2) (s : St) (v1 : Int32) (v2 : Int32) : Prop := ((cn1 .lt v2) = true → True) ∧ ((cn1 .lt v2) = false → ((cn2 .ge (sI s 2 2) (2000 : Int32)) = true → True) ∧ ((cn2 .ge (sI s 2 2) (2000 : Int32)) = false → (vp_in (sI s 2 2) 2000 ∧ (wlp.2 (pI (pA s 3 (upd (sA s 3) (Int32.toNatClampNeg (sI s 2 2)) ((Int32.toInt8 ((Int32.toInt8 (v1 >>> (v2 &&& 31))).toInt32)).toInt32))) 2 2 ((sI s 2 2) + (1 : Int32))) v1 v2))))
theorem cb_Fo_append_2 {d : Nat} (fu : Nat) {lp : LT_Fo_append_2} {wlp : LW_Fo_append_2} (hlp : hl_Fo_append_2 (d) lp wlp) (s : St) (v1 : Int32) (v2 : Int32) (hw : v_Fo_append_2 fu lp wlp s v1 v2) : X m_Fo_append (d) 2 [some (.inr (.inr (some 2))), some (.inl v1), some (.inl v2)] [] (hp s) (qVs (b_Fo_append_2 fu lp s v1 v2)) := by
  unfold b_Fo_append_2
  unfold v_Fo_append_2 at hw
  refine X_run 2 (i1 := cond (cn1 .lt v2) 25 4) (L1 := [some (.inr (.inr (some 2))), some (.inl v1), some (.inl v2)]) (st1 := []) rfl ?_
  refine X_brq (fun hb => ?_) (fun hb => ?_)
  · skip
    exact X_ret rfl rfl qVs_i
  · have hw := hw.2 hb
    refine X_run 1 (i1 := 5) (L1 := [some (.inr (.inr (some 2))), some (.inl v1), some (.inl v2)]) (st1 := [.inr (.inr (some 2))]) rfl ?_
    refine X_gF (v := .inl (sI s 2 2)) rfl rfl rfl rfl ?_
    refine X_run 2 (i1 := cond (cn2 .ge (sI s 2 2) (2000 : Int32)) 25 8) (L1 := [some (.inr (.inr (some 2))), some (.inl v1), some (.inl v2)]) (st1 := []) rfl ?_
    refine X_brq (fun hb => ?_) (fun hb => ?_)
    · skip
      exact X_ret rfl rfl qVs_i
    · have hw := hw.2 hb
      refine X_run 1 (i1 := 9) (L1 := [some (.inr (.inr (some 2))), some (.inl v1), some (.inl v2)]) (st1 := [.inr (.inr (some 2))]) rfl ?_
      refine X_gF (v := .inr (.inr (some 3))) rfl rfl rfl rfl ?_
      refine X_run 1 (i1 := 11) (L1 := [some (.inr (.inr (some 2))), some (.inl v1), some (.inl v2)]) (st1 := [.inr (.inr (some 2)), .inr (.inr (some 3))]) rfl ?_
      refine X_gF (v := .inl (sI s 2 2)) rfl rfl rfl rfl ?_
      refine X_run 4 (i1 := 16) (L1 := [some (.inr (.inr (some 2))), some (.inl v1), some (.inl v2)]) (st1 := [.inl ((Int32.toInt8 (v1 >>> (v2 &&& 31))).toInt32), .inl (sI s 2 2), .inr (.inr (some 3))]) rfl ?_
      obtain ⟨hin, hw⟩ := hw
      refine X_sY rfl rfl hin ?_
      show X _ _ 17 [some (.inr (.inr (some 2))), some (.inl v1), some (.inl v2)] [] (hp (pA s 3 (upd (sA s 3) (Int32.toNatClampNeg (sI s 2 2)) ((Int32.toInt8 ((Int32.toInt8 (v1 >>> (v2 &&& 31))).toInt32)).toInt32)))) _
      refine X_run 2 (i1 := 19) (L1 := [some (.inr (.inr (some 2))), some (.inl v1), some (.inl v2)]) (st1 := [.inr (.inr (some 2)), .inr (.inr (some 2))]) rfl ?_
      refine X_gF (v := .inl (sI s 2 2)) rfl rfl rfl rfl ?_
      refine X_run 2 (i1 := 22) (L1 := [some (.inr (.inr (some 2))), some (.inl v1), some (.inl v2)]) (st1 := [.inl ((sI s 2 2) + (1 : Int32)), .inr (.inr (some 2))]) rfl ?_
      refine X_pI rfl rfl rfl rfl ?_
      show X _ _ 23 [some (.inr (.inr (some 2))), some (.inl v1), some (.inl v2)] [] (hp (pI (pA s 3 (upd (sA s 3) (Int32.toNatClampNeg (sI s 2 2)) ((Int32.toInt8 ((Int32.toInt8 (v1 >>> (v2 &&& 31))).toInt32)).toInt32))) 2 2 ((sI s 2 2) + (1 : Int32)))) _
      exact hlp.2 (pI (pA s 3 (upd (sA s 3) (Int32.toNatClampNeg (sI s 2 2)) ((Int32.toInt8 ((Int32.toInt8 (v1 >>> (v2 &&& 31))).toInt32)).toInt32))) 2 2 ((sI s 2 2) + (1 : Int32))) v1 v2 hw
def b_Fo_append_23 (fu : Nat) (lp : LT_Fo_append_2) (s : St) (v1 : Int32) (v2 : Int32) : St := (lp.1 s v1 (v2 + Int32.ofInt (-8)))
def v_Fo_append_23 (fu : Nat) (lp : LT_Fo_append_2) (wlp : LW_Fo_append_2) (s : St) (v1 : Int32) (v2 : Int32) : Prop := (wlp.1 s v1 (v2 + Int32.ofInt (-8)))
theorem cb_Fo_append_23 {d : Nat} (fu : Nat) {lp : LT_Fo_append_2} {wlp : LW_Fo_append_2} (hlp : hl_Fo_append_2 (d) lp wlp) (s : St) (v1 : Int32) (v2 : Int32) (hw : v_Fo_append_23 fu lp wlp s v1 v2) : X m_Fo_append (d) 23 [some (.inr (.inr (some 2))), some (.inl v1), some (.inl v2)] [] (hp s) (qVs (b_Fo_append_23 fu lp s v1 v2)) := by
  unfold b_Fo_append_23
  unfold v_Fo_append_23 at hw
  refine X_run 2 (i1 := 2) (L1 := [some (.inr (.inr (some 2))), some (.inl v1), some (.inl (v2 + Int32.ofInt (-8)))]) (st1 := []) rfl ?_
  exact hlp.1 s v1 (v2 + Int32.ofInt (-8)) hw
def T_Fo_append_2 (fu : Nat) : Nat → LT_Fo_append_2
  | 0 => (fun s _ _ => s, fun s _ _ => s)
  | n + 1 => (fun s v1 v2 => b_Fo_append_2 fu (T_Fo_append_2 fu n) s v1 v2, fun s v1 v2 => b_Fo_append_23 fu (T_Fo_append_2 fu n) s v1 v2)
def WT_Fo_append_2 (fu : Nat) : Nat → LW_Fo_append_2
  | 0 => (fun _ _ _ => False, fun _ _ _ => False)
  | n + 1 => (fun s v1 v2 => v_Fo_append_2 fu (T_Fo_append_2 fu n) (WT_Fo_append_2 fu n) s v1 v2, fun s v1 v2 => v_Fo_append_23 fu (T_Fo_append_2 fu n) (WT_Fo_append_2 fu n) s v1 v2)
theorem cT_Fo_append_2 {d : Nat} (fu : Nat) : ∀ n : Nat, hl_Fo_append_2 (d) (T_Fo_append_2 fu n) (WT_Fo_append_2 fu n)
  | 0 => ⟨fun _ _ _ hw => hw.elim, fun _ _ _ hw => hw.elim⟩
  | n + 1 => ⟨fun s v1 v2 hw => cb_Fo_append_2 fu (cT_Fo_append_2 fu n) s v1 v2 hw, fun s v1 v2 hw => cb_Fo_append_23 fu (cT_Fo_append_2 fu n) s v1 v2 hw⟩
def f_Fo_append (fu : Nat) (s : St) (a0 : Int32) : St := ((T_Fo_append_2 fu fu).1 s a0 (24 : Int32))
def w_Fo_append (fu : Nat) (s : St) (a0 : Int32) : Prop := ((WT_Fo_append_2 fu fu).1 s a0 (24 : Int32))
theorem c_Fo_append {d : Nat} (fu : Nat) (s : St) (a0 : Int32) (hw : w_Fo_append fu s a0) : X m_Fo_append (d) 0 (entL 3 [.inr (.inr (some 2)), .inl a0]) [] (hp s) (qVs (f_Fo_append fu s a0)) := by
  unfold f_Fo_append
  unfold w_Fo_append at hw
  refine X_run 2 (i1 := 2) (L1 := [some (.inr (.inr (some 2))), some (.inl a0), some (.inl (24 : Int32))]) (st1 := []) rfl ?_
  exact (cT_Fo_append_2 fu fu).1 s a0 (24 : Int32) hw
def f_Fo_bytesOf (a0 : Int32) : Int32 := (if a0 = (1 : Int32) then (1 : Int32) else (if a0 = (2 : Int32) then (2 : Int32) else (if a0 = (3 : Int32) then (2 : Int32) else (if a0 = (4 : Int32) then (4 : Int32) else (if a0 = (5 : Int32) then (8 : Int32) else (if a0 = (6 : Int32) then (4 : Int32) else (if a0 = (7 : Int32) then (8 : Int32) else (if a0 = (8 : Int32) then (1 : Int32) else (4 : Int32)))))))))
theorem c_Fo_bytesOf {d : Nat} {P : AP} (a0 : Int32) : X m_Fo_bytesOf (d) 0 (entL 1 [.inl a0]) [] P (qI P (f_Fo_bytesOf a0)) := by
  unfold f_Fo_bytesOf
  refine X_run 1 (i1 := 1) (L1 := [some (.inl a0)]) (st1 := [.inl a0]) rfl ?_
  refine X_itq (fun h => ?_) (fun h1_0 => ?_)
  · refine X_tsk rfl h rfl ?_
    refine X_run 1 (i1 := 3) (L1 := [some (.inl a0)]) (st1 := [.inl (1 : Int32)]) rfl ?_
    exact X_iret rfl rfl ⟨rfl, rfl⟩
  refine X_itq (fun h => ?_) (fun h1_1 => ?_)
  · refine X_tsk rfl h rfl ?_
    refine X_run 1 (i1 := 5) (L1 := [some (.inl a0)]) (st1 := [.inl (2 : Int32)]) rfl ?_
    exact X_iret rfl rfl ⟨rfl, rfl⟩
  refine X_itq (fun h => ?_) (fun h1_2 => ?_)
  · refine X_tsk rfl h rfl ?_
    refine X_run 1 (i1 := 5) (L1 := [some (.inl a0)]) (st1 := [.inl (2 : Int32)]) rfl ?_
    exact X_iret rfl rfl ⟨rfl, rfl⟩
  refine X_itq (fun h => ?_) (fun h1_3 => ?_)
  · refine X_tsk rfl h rfl ?_
    refine X_run 1 (i1 := 9) (L1 := [some (.inl a0)]) (st1 := [.inl (4 : Int32)]) rfl ?_
    exact X_iret rfl rfl ⟨rfl, rfl⟩
  refine X_itq (fun h => ?_) (fun h1_4 => ?_)
  · refine X_tsk rfl h rfl ?_
    refine X_run 1 (i1 := 7) (L1 := [some (.inl a0)]) (st1 := [.inl (8 : Int32)]) rfl ?_
    exact X_iret rfl rfl ⟨rfl, rfl⟩
  refine X_itq (fun h => ?_) (fun h1_5 => ?_)
  · refine X_tsk rfl h rfl ?_
    refine X_run 1 (i1 := 9) (L1 := [some (.inl a0)]) (st1 := [.inl (4 : Int32)]) rfl ?_
    exact X_iret rfl rfl ⟨rfl, rfl⟩
  refine X_itq (fun h => ?_) (fun h1_6 => ?_)
  · refine X_tsk rfl h rfl ?_
    refine X_run 1 (i1 := 7) (L1 := [some (.inl a0)]) (st1 := [.inl (8 : Int32)]) rfl ?_
    exact X_iret rfl rfl ⟨rfl, rfl⟩
  refine X_itq (fun h => ?_) (fun h1_7 => ?_)
  · refine X_tsk rfl h rfl ?_
    refine X_run 1 (i1 := 3) (L1 := [some (.inl a0)]) (st1 := [.inl (1 : Int32)]) rfl ?_
    exact X_iret rfl rfl ⟨rfl, rfl⟩
  refine X_tsd rfl ((sw_out (1) 8 (by decide) (by decide) (fun j hj => by
    match j, hj with
    | 0, _ => exact h1_0
    | 1, _ => exact h1_1
    | 2, _ => exact h1_2
    | 3, _ => exact h1_3
    | 4, _ => exact h1_4
    | 5, _ => exact h1_5
    | 6, _ => exact h1_6
    | 7, _ => exact h1_7
    | j + 8, hj => exact absurd hj (by omega))).imp id (fun h => by omega)) ?_
  refine X_run 1 (i1 := 9) (L1 := [some (.inl a0)]) (st1 := [.inl (4 : Int32)]) rfl ?_
  exact X_iret rfl rfl ⟨rfl, rfl⟩
def t_Fo_readBytes_17 (fu : Nat) : Nat → St → Int32 → Int64 → Int32 → Int64 × St
  | 0, s, _, _, _ => (0, s)
  | n + 1, s, v1, v2, v4 => (cond (cn2 .ge v4 v1) (v2, pI s 2 5 ((sI s 2 5) + v1)) (t_Fo_readBytes_17 fu n s v1 ((v2 <<< (Int32.toInt64 (8 : Int32) &&& 63)) ||| (Int32.toInt64 ((sA s 3 (Int32.toNatClampNeg ((sI s 2 5) + v4))) &&& (255 : Int32)))) (v4 + Int32.ofInt (1))))
def w_Fo_readBytes_17 (fu : Nat) : Nat → St → Int32 → Int64 → Int32 → Prop
  | 0, _, _, _, _ => False
  | n + 1, s, v1, v2, v4 => ((cn2 .ge v4 v1) = true → True) ∧ ((cn2 .ge v4 v1) = false → (vp_in ((sI s 2 5) + v4) 2000 ∧ (w_Fo_readBytes_17 fu n s v1 ((v2 <<< (Int32.toInt64 (8 : Int32) &&& 63)) ||| (Int32.toInt64 ((sA s 3 (Int32.toNatClampNeg ((sI s 2 5) + v4))) &&& (255 : Int32)))) (v4 + Int32.ofInt (1)))))
theorem ct_Fo_readBytes_17 {d : Nat} (fu : Nat) : ∀ (n : Nat) (s : St) (v1 : Int32) (v2 : Int64) (v4 : Int32), w_Fo_readBytes_17 fu n s v1 v2 v4 → X m_Fo_readBytes (d + 2) 17 [some (.inr (.inr (some 2))), some (.inl v1), some (.inr (.inl v2)), none, some (.inl v4)] [] (hp s) (qLs (t_Fo_readBytes_17 fu n s v1 v2 v4))
  | 0, s, v1, v2, v4, hw => hw.elim
  | n + 1, s, v1, v2, v4, hw => by
    have ih := @ct_Fo_readBytes_17 d fu n
    unfold t_Fo_readBytes_17
    unfold w_Fo_readBytes_17 at hw
    refine X_run 3 (i1 := cond (cn2 .ge v4 v1) 37 20) (L1 := [some (.inr (.inr (some 2))), some (.inl v1), some (.inr (.inl v2)), none, some (.inl v4)]) (st1 := []) rfl ?_
    refine X_brq (fun hb => ?_) (fun hb => ?_)
    · skip
      refine X_run 2 (i1 := 39) (L1 := [some (.inr (.inr (some 2))), some (.inl v1), some (.inr (.inl v2)), none, some (.inl v4)]) (st1 := [.inr (.inr (some 2)), .inr (.inr (some 2))]) rfl ?_
      refine X_gF (v := .inl (sI s 2 5)) rfl rfl rfl rfl ?_
      refine X_run 2 (i1 := 42) (L1 := [some (.inr (.inr (some 2))), some (.inl v1), some (.inr (.inl v2)), none, some (.inl v4)]) (st1 := [.inl ((sI s 2 5) + v1), .inr (.inr (some 2))]) rfl ?_
      refine X_pI rfl rfl rfl rfl ?_
      refine X_run 1 (i1 := 44) (L1 := [some (.inr (.inr (some 2))), some (.inl v1), some (.inr (.inl v2)), none, some (.inl v4)]) (st1 := [.inr (.inl v2)]) rfl ?_
      exact X_lret rfl rfl qLs_i
    · have hw := hw.2 hb
      refine X_run 4 (i1 := 24) (L1 := [some (.inr (.inr (some 2))), some (.inl v1), some (.inr (.inl v2)), none, some (.inl v4)]) (st1 := [.inr (.inr (some 2)), .inr (.inl (v2 <<< (Int32.toInt64 (8 : Int32) &&& 63)))]) rfl ?_
      refine X_gF (v := .inr (.inr (some 3))) rfl rfl rfl rfl ?_
      refine X_run 1 (i1 := 26) (L1 := [some (.inr (.inr (some 2))), some (.inl v1), some (.inr (.inl v2)), none, some (.inl v4)]) (st1 := [.inr (.inr (some 2)), .inr (.inr (some 3)), .inr (.inl (v2 <<< (Int32.toInt64 (8 : Int32) &&& 63)))]) rfl ?_
      refine X_gF (v := .inl (sI s 2 5)) rfl rfl rfl rfl ?_
      refine X_run 2 (i1 := 29) (L1 := [some (.inr (.inr (some 2))), some (.inl v1), some (.inr (.inl v2)), none, some (.inl v4)]) (st1 := [.inl ((sI s 2 5) + v4), .inr (.inr (some 3)), .inr (.inl (v2 <<< (Int32.toInt64 (8 : Int32) &&& 63)))]) rfl ?_
      obtain ⟨hin, hw⟩ := hw
      refine X_aY rfl rfl hin ?_
      show X _ _ 30 [some (.inr (.inr (some 2))), some (.inl v1), some (.inr (.inl v2)), none, some (.inl v4)] [.inl (sA s 3 (Int32.toNatClampNeg ((sI s 2 5) + v4))), .inr (.inl (v2 <<< (Int32.toInt64 (8 : Int32) &&& 63)))] (hp s) _
      refine X_run 7 (i1 := 17) (L1 := [some (.inr (.inr (some 2))), some (.inl v1), some (.inr (.inl ((v2 <<< (Int32.toInt64 (8 : Int32) &&& 63)) ||| (Int32.toInt64 ((sA s 3 (Int32.toNatClampNeg ((sI s 2 5) + v4))) &&& (255 : Int32)))))), none, some (.inl (v4 + Int32.ofInt (1)))]) (st1 := []) rfl ?_
      exact ih s v1 ((v2 <<< (Int32.toInt64 (8 : Int32) &&& 63)) ||| (Int32.toInt64 ((sA s 3 (Int32.toNatClampNeg ((sI s 2 5) + v4))) &&& (255 : Int32)))) (v4 + Int32.ofInt (1)) hw
def t_Fo_readBytes_11 (fu : Nat) (s : St) : Int64 × St := ((0 : Int64), s)
def w_Fo_readBytes_11 (fu : Nat) (s : St) : Prop := True
theorem ct_Fo_readBytes_11 {d : Nat} (fu : Nat) (s : St) (hw : w_Fo_readBytes_11 fu s) : X m_Fo_readBytes (d + 2) 11 [none, none, none, none, none] [] (hp s) (qLs (t_Fo_readBytes_11 fu s)) := by
  unfold t_Fo_readBytes_11
  unfold w_Fo_readBytes_11 at hw
  refine X_run 1 (i1 := 12) (L1 := [none, none, none, none, none]) (st1 := [.inr (.inl (0 : Int64))]) rfl ?_
  exact X_lret rfl rfl qLs_i
def f_Fo_readBytes (fu : Nat) (s : St) (a0 : Int32) : Int64 × St := (cond (cn2 .le ((sI s 2 5) + a0) (sI s 2 6)) (t_Fo_readBytes_17 fu fu s a0 (0 : Int64) (0 : Int32)) (t_Fo_readBytes_11 fu (f_Le_fault s (2 : Int32))))
def w_Fo_readBytes (fu : Nat) (s : St) (a0 : Int32) : Prop := ((cn2 .le ((sI s 2 5) + a0) (sI s 2 6)) = true → (w_Fo_readBytes_17 fu fu s a0 (0 : Int64) (0 : Int32))) ∧ ((cn2 .le ((sI s 2 5) + a0) (sI s 2 6)) = false → (w_Le_fault s (2 : Int32) ∧ (w_Fo_readBytes_11 fu (f_Le_fault s (2 : Int32)))))
theorem c_Fo_readBytes {d : Nat} (fu : Nat) (s : St) (a0 : Int32) (hw : w_Fo_readBytes fu s a0) : X m_Fo_readBytes (d + 2) 0 (entL 5 [.inr (.inr (some 2)), .inl a0]) [] (hp s) (qLs (f_Fo_readBytes fu s a0)) := by
  unfold f_Fo_readBytes
  unfold w_Fo_readBytes at hw
  refine X_run 1 (i1 := 1) (L1 := [some (.inr (.inr (some 2))), some (.inl a0), none, none, none]) (st1 := [.inr (.inr (some 2))]) rfl ?_
  refine X_gF (v := .inl (sI s 2 5)) rfl rfl rfl rfl ?_
  refine X_run 3 (i1 := 5) (L1 := [some (.inr (.inr (some 2))), some (.inl a0), none, none, none]) (st1 := [.inr (.inr (some 2)), .inl ((sI s 2 5) + a0)]) rfl ?_
  refine X_gF (v := .inl (sI s 2 6)) rfl rfl rfl rfl ?_
  refine X_run 1 (i1 := cond (cn2 .le ((sI s 2 5) + a0) (sI s 2 6)) 13 7) (L1 := [some (.inr (.inr (some 2))), some (.inl a0), none, none, none]) (st1 := []) rfl ?_
  refine X_brq (fun hb => ?_) (fun hb => ?_)
  · have hw := hw.1 hb
    refine X_run 4 (i1 := 17) (L1 := [some (.inr (.inr (some 2))), some (.inl a0), some (.inr (.inl (0 : Int64))), none, some (.inl (0 : Int32))]) (st1 := []) rfl ?_
    exact ct_Fo_readBytes_17 fu fu s a0 (0 : Int64) (0 : Int32) hw
  · have hw := hw.2 hb
    refine X_run 1 (i1 := 8) (L1 := [some (.inr (.inr (some 2))), some (.inl a0), none, none, none]) (st1 := [.inr (.inr (some 2))]) rfl ?_
    refine X_gF (v := .inr (.inr (some 1))) rfl rfl rfl rfl ?_
    refine X_run 1 (i1 := 10) (L1 := [some (.inr (.inr (some 2))), some (.inl a0), none, none, none]) (st1 := [.inl (2 : Int32), .inr (.inr (some 1))]) rfl ?_
    obtain ⟨hc, hw⟩ := hw
    refine X_callv m_Le_fault (As := [.inl (2 : Int32)]) (st := []) ok_Le_fault rfl rfl rfl (hp_obj rfl) rfl (Nat.le_of_ble_eq_true rfl) (Nat.le_of_ble_eq_true rfl) (c_Le_fault (d := d) s (2 : Int32) hc) ?_
    rintro _ _ ⟨rfl, rfl⟩
    show X _ _ 11 [some (.inr (.inr (some 2))), some (.inl a0), none, none, none] [] (hp (f_Le_fault s (2 : Int32))) _
    show X _ _ 11 [some (.inr (.inr (some 2))), some (.inl a0), none, none, none] [] (hp (f_Le_fault s (2 : Int32))) _
    refine X_mask [false, false, true, true, true] ?_
    exact ct_Fo_readBytes_11 fu (f_Le_fault s (2 : Int32)) hw
def t_Fo_readSize_26 (fu : Nat) (s : St) (v1 : Int32) (w0 : Int32) : Int32 × St := (cond (cn1 .eq w0) ((-1 : Int32), s) (v1, s))
def w_Fo_readSize_26 (fu : Nat) (s : St) (v1 : Int32) (w0 : Int32) : Prop := True
theorem ct_Fo_readSize_26 {d : Nat} (fu : Nat) (s : St) (v1 : Int32) (w0 : Int32) (hw : w_Fo_readSize_26 fu s v1 w0) : X m_Fo_readSize (d + 3) 26 [none, some (.inl v1)] [.inl w0] (hp s) (qIs (t_Fo_readSize_26 fu s v1 w0)) := by
  unfold t_Fo_readSize_26
  unfold w_Fo_readSize_26 at hw
  refine X_run 1 (i1 := cond (cn1 .eq w0) 29 27) (L1 := [none, some (.inl v1)]) (st1 := []) rfl ?_
  refine X_brq (fun hb => ?_) (fun hb => ?_)
  · skip
    refine X_run 1 (i1 := 30) (L1 := [none, some (.inl v1)]) (st1 := [.inl (-1 : Int32)]) rfl ?_
    exact X_iret rfl rfl qIs_i
  · skip
    refine X_run 2 (i1 := 30) (L1 := [none, some (.inl v1)]) (st1 := [.inl v1]) rfl ?_
    exact X_iret rfl rfl qIs_i
def t_Fo_readSize_3 (fu : Nat) (s : St) (w0 : Int64) : Int32 × St := (cond (cn1 .eq (b2i (f_Le_stopped s))) (cond (cn1 .ge (Int64.toInt32 w0)) (t_Fo_readSize_26 fu ((f_Le_make s ((1 : Int64) + (Int32.toInt64 (Int64.toInt32 w0)))).2) (Int64.toInt32 w0) (b2i (f_Le_make s ((1 : Int64) + (Int32.toInt64 (Int64.toInt32 w0)))).1)) ((-1 : Int32), (f_Le_fault s (3 : Int32)))) ((-1 : Int32), s))
def w_Fo_readSize_3 (fu : Nat) (s : St) (w0 : Int64) : Prop := (w_Le_stopped s ∧ ((cn1 .eq (b2i (f_Le_stopped s))) = true → ((cn1 .ge (Int64.toInt32 w0)) = true → (w_Le_make s ((1 : Int64) + (Int32.toInt64 (Int64.toInt32 w0))) ∧ (w_Fo_readSize_26 fu ((f_Le_make s ((1 : Int64) + (Int32.toInt64 (Int64.toInt32 w0)))).2) (Int64.toInt32 w0) (b2i (f_Le_make s ((1 : Int64) + (Int32.toInt64 (Int64.toInt32 w0)))).1)))) ∧ ((cn1 .ge (Int64.toInt32 w0)) = false → (w_Le_fault s (3 : Int32) ∧ True))) ∧ ((cn1 .eq (b2i (f_Le_stopped s))) = false → True))
theorem ct_Fo_readSize_3 {d : Nat} (fu : Nat) (s : St) (w0 : Int64) (hw : w_Fo_readSize_3 fu s w0) : X m_Fo_readSize (d + 3) 3 [some (.inr (.inr (some 2))), none] [.inr (.inl w0)] (hp s) (qIs (t_Fo_readSize_3 fu s w0)) := by
  unfold t_Fo_readSize_3
  unfold w_Fo_readSize_3 at hw
  refine X_run 3 (i1 := 6) (L1 := [some (.inr (.inr (some 2))), some (.inl (Int64.toInt32 w0))]) (st1 := [.inr (.inr (some 2))]) rfl ?_
  refine X_gF (v := .inr (.inr (some 1))) rfl rfl rfl rfl ?_
  obtain ⟨hc, hw⟩ := hw
  refine X_callv m_Le_stopped (As := []) (st := []) ok_Le_stopped rfl rfl rfl (hp_obj rfl) rfl (Nat.le_of_ble_eq_true rfl) (Nat.le_of_ble_eq_true rfl) (c_Le_stopped (d := d + 2) s hc) ?_
  rintro _ _ ⟨rfl, rfl⟩
  show X _ _ 8 [some (.inr (.inr (some 2))), some (.inl (Int64.toInt32 w0))] [.inl (b2i (f_Le_stopped s))] (hp s) _
  refine X_run 1 (i1 := cond (cn1 .eq (b2i (f_Le_stopped s))) 11 9) (L1 := [some (.inr (.inr (some 2))), some (.inl (Int64.toInt32 w0))]) (st1 := []) rfl ?_
  refine X_brq (fun hb => ?_) (fun hb => ?_)
  · have hw := hw.1 hb
    refine X_run 2 (i1 := cond (cn1 .ge (Int64.toInt32 w0)) 19 13) (L1 := [some (.inr (.inr (some 2))), some (.inl (Int64.toInt32 w0))]) (st1 := []) rfl ?_
    refine X_brq (fun hb => ?_) (fun hb => ?_)
    · have hw := hw.1 hb
      refine X_run 1 (i1 := 20) (L1 := [some (.inr (.inr (some 2))), some (.inl (Int64.toInt32 w0))]) (st1 := [.inr (.inr (some 2))]) rfl ?_
      refine X_gF (v := .inr (.inr (some 1))) rfl rfl rfl rfl ?_
      refine X_run 4 (i1 := 25) (L1 := [some (.inr (.inr (some 2))), some (.inl (Int64.toInt32 w0))]) (st1 := [.inr (.inl ((1 : Int64) + (Int32.toInt64 (Int64.toInt32 w0)))), .inr (.inr (some 1))]) rfl ?_
      obtain ⟨hc, hw⟩ := hw
      refine X_callv m_Le_make (As := [.inr (.inl ((1 : Int64) + (Int32.toInt64 (Int64.toInt32 w0))))]) (st := []) ok_Le_make rfl rfl rfl (hp_obj rfl) rfl (Nat.le_of_ble_eq_true rfl) (Nat.le_of_ble_eq_true rfl) (c_Le_make (d := d + 2) s ((1 : Int64) + (Int32.toInt64 (Int64.toInt32 w0))) hc) ?_
      rintro _ _ ⟨rfl, rfl⟩
      show X _ _ 26 [some (.inr (.inr (some 2))), some (.inl (Int64.toInt32 w0))] [.inl (b2i (f_Le_make s ((1 : Int64) + (Int32.toInt64 (Int64.toInt32 w0)))).1)] (hp ((f_Le_make s ((1 : Int64) + (Int32.toInt64 (Int64.toInt32 w0)))).2)) _
      show X _ _ 26 [some (.inr (.inr (some 2))), some (.inl (Int64.toInt32 w0))] [.inl (b2i (f_Le_make s ((1 : Int64) + (Int32.toInt64 (Int64.toInt32 w0)))).1)] (hp ((f_Le_make s ((1 : Int64) + (Int32.toInt64 (Int64.toInt32 w0)))).2)) _
      refine X_mask [false, true] ?_
      exact ct_Fo_readSize_26 fu ((f_Le_make s ((1 : Int64) + (Int32.toInt64 (Int64.toInt32 w0)))).2) (Int64.toInt32 w0) (b2i (f_Le_make s ((1 : Int64) + (Int32.toInt64 (Int64.toInt32 w0)))).1) hw
    · have hw := hw.2 hb
      refine X_run 1 (i1 := 14) (L1 := [some (.inr (.inr (some 2))), some (.inl (Int64.toInt32 w0))]) (st1 := [.inr (.inr (some 2))]) rfl ?_
      refine X_gF (v := .inr (.inr (some 1))) rfl rfl rfl rfl ?_
      refine X_run 1 (i1 := 16) (L1 := [some (.inr (.inr (some 2))), some (.inl (Int64.toInt32 w0))]) (st1 := [.inl (3 : Int32), .inr (.inr (some 1))]) rfl ?_
      obtain ⟨hc, hw⟩ := hw
      refine X_callv m_Le_fault (As := [.inl (3 : Int32)]) (st := []) ok_Le_fault rfl rfl rfl (hp_obj rfl) rfl (Nat.le_of_ble_eq_true rfl) (Nat.le_of_ble_eq_true rfl) (c_Le_fault (d := d + 1) s (3 : Int32) hc) ?_
      rintro _ _ ⟨rfl, rfl⟩
      show X _ _ 17 [some (.inr (.inr (some 2))), some (.inl (Int64.toInt32 w0))] [] (hp (f_Le_fault s (3 : Int32))) _
      refine X_run 1 (i1 := 18) (L1 := [some (.inr (.inr (some 2))), some (.inl (Int64.toInt32 w0))]) (st1 := [.inl (-1 : Int32)]) rfl ?_
      exact X_iret rfl rfl qIs_i
  · skip
    refine X_run 1 (i1 := 10) (L1 := [some (.inr (.inr (some 2))), some (.inl (Int64.toInt32 w0))]) (st1 := [.inl (-1 : Int32)]) rfl ?_
    exact X_iret rfl rfl qIs_i
def f_Fo_readSize (fu : Nat) (s : St) : Int32 × St := (t_Fo_readSize_3 fu ((f_Fo_readBytes fu s (4 : Int32)).2) ((f_Fo_readBytes fu s (4 : Int32)).1))
def w_Fo_readSize (fu : Nat) (s : St) : Prop := (w_Fo_readBytes fu s (4 : Int32) ∧ (w_Fo_readSize_3 fu ((f_Fo_readBytes fu s (4 : Int32)).2) ((f_Fo_readBytes fu s (4 : Int32)).1)))
theorem c_Fo_readSize {d : Nat} (fu : Nat) (s : St) (hw : w_Fo_readSize fu s) : X m_Fo_readSize (d + 3) 0 (entL 2 [.inr (.inr (some 2))]) [] (hp s) (qIs (f_Fo_readSize fu s)) := by
  unfold f_Fo_readSize
  unfold w_Fo_readSize at hw
  refine X_run 2 (i1 := 2) (L1 := [some (.inr (.inr (some 2))), none]) (st1 := [.inl (4 : Int32), .inr (.inr (some 2))]) rfl ?_
  obtain ⟨hc, hw⟩ := hw
  refine X_callv m_Fo_readBytes (As := [.inl (4 : Int32)]) (st := []) ok_Fo_readBytes rfl rfl rfl (hp_obj rfl) rfl (Nat.le_of_ble_eq_true rfl) (Nat.le_of_ble_eq_true rfl) (c_Fo_readBytes (d := d) fu s (4 : Int32) hc) ?_
  rintro _ _ ⟨rfl, rfl⟩
  show X _ _ 3 [some (.inr (.inr (some 2))), none] [.inr (.inl ((f_Fo_readBytes fu s (4 : Int32)).1))] (hp ((f_Fo_readBytes fu s (4 : Int32)).2)) _
  show X _ _ 3 [some (.inr (.inr (some 2))), none] [.inr (.inl ((f_Fo_readBytes fu s (4 : Int32)).1))] (hp ((f_Fo_readBytes fu s (4 : Int32)).2)) _
  exact ct_Fo_readSize_3 fu ((f_Fo_readBytes fu s (4 : Int32)).2) ((f_Fo_readBytes fu s (4 : Int32)).1) hw
abbrev LT_Fo_readRow_15 : Type := (St → Int32 → Int32 → Option Nat → Int32 → Option Nat × St) × (St → Int32 → Int32 → Option Nat → Int32 → Int64 → Int32 → Option Nat → Option Nat × St) × (St → Int32 → Int32 → Option Nat → Int32 → Option Nat × St)
abbrev LW_Fo_readRow_15 : Type := (St → Int32 → Int32 → Option Nat → Int32 → Prop) × (St → Int32 → Int32 → Option Nat → Int32 → Int64 → Int32 → Option Nat → Prop) × (St → Int32 → Int32 → Option Nat → Int32 → Prop)
def hl_Fo_readRow_15 (d : Nat) (lp : LT_Fo_readRow_15) (wlp : LW_Fo_readRow_15) : Prop := (∀ (s : St) (v1 : Int32) (v2 : Int32) (v3 : Option Nat) (v4 : Int32), wlp.1 s v1 v2 v3 v4 → X m_Fo_readRow d 15 [some (.inr (.inr (some 2))), some (.inl v1), some (.inl v2), some (.inr (.inr v3)), some (.inl v4)] [] (hp s) (qRs (lp.1 s v1 v2 v3 v4))) ∧ (∀ (s : St) (v1 : Int32) (v2 : Int32) (v3 : Option Nat) (v4 : Int32) (w0 : Int64) (w1 : Int32) (w2 : Option Nat), wlp.2.1 s v1 v2 v3 v4 w0 w1 w2 → X m_Fo_readRow d 28 [some (.inr (.inr (some 2))), some (.inl v1), some (.inl v2), some (.inr (.inr v3)), some (.inl v4)] [.inr (.inl w0), .inl w1, .inr (.inr w2)] (hp s) (qRs (lp.2.1 s v1 v2 v3 v4 w0 w1 w2))) ∧ (∀ (s : St) (v1 : Int32) (v2 : Int32) (v3 : Option Nat) (v4 : Int32), wlp.2.2 s v1 v2 v3 v4 → X m_Fo_readRow d 29 [some (.inr (.inr (some 2))), some (.inl v1), some (.inl v2), some (.inr (.inr v3)), some (.inl v4)] [] (hp s) (qRs (lp.2.2 s v1 v2 v3 v4)))
def b_Fo_readRow_15 (fu : Nat) (lp : LT_Fo_readRow_15) (s : St) (v1 : Int32) (v2 : Int32) (v3 : Option Nat) (v4 : Int32) : Option Nat × St := (cond (cn2 .ge v4 v2) (v3, s) (cond (cn1 .ne (b2i (f_Le_stopped s))) (v3, s) (lp.2.1 ((f_Fo_readBytes fu s (f_Fo_bytesOf v1)).2) v1 v2 v3 v4 ((f_Fo_readBytes fu s (f_Fo_bytesOf v1)).1) v4 v3)))
def v_Fo_readRow_15 (fu : Nat) (lp : LT_Fo_readRow_15) (wlp : LW_Fo_readRow_15) (s : St) (v1 : Int32) (v2 : Int32) (v3 : Option Nat) (v4 : Int32) : Prop := ((cn2 .ge v4 v2) = true → True) ∧ ((cn2 .ge v4 v2) = false → (w_Le_stopped s ∧ ((cn1 .ne (b2i (f_Le_stopped s))) = true → True) ∧ ((cn1 .ne (b2i (f_Le_stopped s))) = false → (w_Fo_readBytes fu s (f_Fo_bytesOf v1) ∧ (wlp.2.1 ((f_Fo_readBytes fu s (f_Fo_bytesOf v1)).2) v1 v2 v3 v4 ((f_Fo_readBytes fu s (f_Fo_bytesOf v1)).1) v4 v3)))))
theorem cb_Fo_readRow_15 {d : Nat} (fu : Nat) {lp : LT_Fo_readRow_15} {wlp : LW_Fo_readRow_15} (hlp : hl_Fo_readRow_15 (d + 4) lp wlp) (s : St) (v1 : Int32) (v2 : Int32) (v3 : Option Nat) (v4 : Int32) (hw : v_Fo_readRow_15 fu lp wlp s v1 v2 v3 v4) : X m_Fo_readRow (d + 4) 15 [some (.inr (.inr (some 2))), some (.inl v1), some (.inl v2), some (.inr (.inr v3)), some (.inl v4)] [] (hp s) (qRs (b_Fo_readRow_15 fu lp s v1 v2 v3 v4)) := by
  unfold b_Fo_readRow_15
  unfold v_Fo_readRow_15 at hw
  refine X_run 3 (i1 := cond (cn2 .ge v4 v2) 31 18) (L1 := [some (.inr (.inr (some 2))), some (.inl v1), some (.inl v2), some (.inr (.inr v3)), some (.inl v4)]) (st1 := []) rfl ?_
  refine X_brq (fun hb => ?_) (fun hb => ?_)
  · skip
    refine X_run 1 (i1 := 32) (L1 := [some (.inr (.inr (some 2))), some (.inl v1), some (.inl v2), some (.inr (.inr v3)), some (.inl v4)]) (st1 := [.inr (.inr v3)]) rfl ?_
    exact X_aret rfl rfl qRs_i
  · have hw := hw.2 hb
    refine X_run 1 (i1 := 19) (L1 := [some (.inr (.inr (some 2))), some (.inl v1), some (.inl v2), some (.inr (.inr v3)), some (.inl v4)]) (st1 := [.inr (.inr (some 2))]) rfl ?_
    refine X_gF (v := .inr (.inr (some 1))) rfl rfl rfl rfl ?_
    obtain ⟨hc, hw⟩ := hw
    refine X_callv m_Le_stopped (As := []) (st := []) ok_Le_stopped rfl rfl rfl (hp_obj rfl) rfl (Nat.le_of_ble_eq_true rfl) (Nat.le_of_ble_eq_true rfl) (c_Le_stopped (d := d + 3) s hc) ?_
    rintro _ _ ⟨rfl, rfl⟩
    show X _ _ 21 [some (.inr (.inr (some 2))), some (.inl v1), some (.inl v2), some (.inr (.inr v3)), some (.inl v4)] [.inl (b2i (f_Le_stopped s))] (hp s) _
    refine X_run 1 (i1 := cond (cn1 .ne (b2i (f_Le_stopped s))) 31 22) (L1 := [some (.inr (.inr (some 2))), some (.inl v1), some (.inl v2), some (.inr (.inr v3)), some (.inl v4)]) (st1 := []) rfl ?_
    refine X_brq (fun hb => ?_) (fun hb => ?_)
    · skip
      refine X_run 1 (i1 := 32) (L1 := [some (.inr (.inr (some 2))), some (.inl v1), some (.inl v2), some (.inr (.inr v3)), some (.inl v4)]) (st1 := [.inr (.inr v3)]) rfl ?_
      exact X_aret rfl rfl qRs_i
    · have hw := hw.2 hb
      refine X_run 4 (i1 := 26) (L1 := [some (.inr (.inr (some 2))), some (.inl v1), some (.inl v2), some (.inr (.inr v3)), some (.inl v4)]) (st1 := [.inl v1, .inr (.inr (some 2)), .inl v4, .inr (.inr v3)]) rfl ?_
      refine X_calls m_Fo_bytesOf (As := [.inl v1]) (st := [.inr (.inr (some 2)), .inl v4, .inr (.inr v3)]) ok_Fo_bytesOf rfl rfl rfl (Nat.le_of_ble_eq_true rfl) (Nat.le_of_ble_eq_true rfl) (c_Fo_bytesOf (d := d + 3) v1) ?_
      rintro _ _ ⟨rfl, rfl⟩
      show X _ _ 27 [some (.inr (.inr (some 2))), some (.inl v1), some (.inl v2), some (.inr (.inr v3)), some (.inl v4)] [.inl (f_Fo_bytesOf v1), .inr (.inr (some 2)), .inl v4, .inr (.inr v3)] (hp s) _
      obtain ⟨hc, hw⟩ := hw
      refine X_callv m_Fo_readBytes (As := [.inl (f_Fo_bytesOf v1)]) (st := [.inl v4, .inr (.inr v3)]) ok_Fo_readBytes rfl rfl rfl (hp_obj rfl) rfl (Nat.le_of_ble_eq_true rfl) (Nat.le_of_ble_eq_true rfl) (c_Fo_readBytes (d := d + 1) fu s (f_Fo_bytesOf v1) hc) ?_
      rintro _ _ ⟨rfl, rfl⟩
      show X _ _ 28 [some (.inr (.inr (some 2))), some (.inl v1), some (.inl v2), some (.inr (.inr v3)), some (.inl v4)] [.inr (.inl ((f_Fo_readBytes fu s (f_Fo_bytesOf v1)).1)), .inl v4, .inr (.inr v3)] (hp ((f_Fo_readBytes fu s (f_Fo_bytesOf v1)).2)) _
      show X _ _ 28 [some (.inr (.inr (some 2))), some (.inl v1), some (.inl v2), some (.inr (.inr v3)), some (.inl v4)] [.inr (.inl ((f_Fo_readBytes fu s (f_Fo_bytesOf v1)).1)), .inl v4, .inr (.inr v3)] (hp ((f_Fo_readBytes fu s (f_Fo_bytesOf v1)).2)) _
      exact hlp.2.1 ((f_Fo_readBytes fu s (f_Fo_bytesOf v1)).2) v1 v2 v3 v4 ((f_Fo_readBytes fu s (f_Fo_bytesOf v1)).1) v4 v3 hw
def b_Fo_readRow_28 (fu : Nat) (lp : LT_Fo_readRow_15) (s : St) (v1 : Int32) (v2 : Int32) (v3 : Option Nat) (v4 : Int32) (w0 : Int64) (w1 : Int32) (w2 : Option Nat) : Option Nat × St := (lp.2.2 (f_Ro_put s w2 w1 w0) v1 v2 v3 v4)
def v_Fo_readRow_28 (fu : Nat) (lp : LT_Fo_readRow_15) (wlp : LW_Fo_readRow_15) (s : St) (v1 : Int32) (v2 : Int32) (v3 : Option Nat) (v4 : Int32) (w0 : Int64) (w1 : Int32) (w2 : Option Nat) : Prop := (w_Ro_put s w2 w1 w0 ∧ (oC (sD s) w2 = some 6 ∧ (wlp.2.2 (f_Ro_put s w2 w1 w0) v1 v2 v3 v4)))
theorem cb_Fo_readRow_28 {d : Nat} (fu : Nat) {lp : LT_Fo_readRow_15} {wlp : LW_Fo_readRow_15} (hlp : hl_Fo_readRow_15 (d + 4) lp wlp) (s : St) (v1 : Int32) (v2 : Int32) (v3 : Option Nat) (v4 : Int32) (w0 : Int64) (w1 : Int32) (w2 : Option Nat) (hw : v_Fo_readRow_28 fu lp wlp s v1 v2 v3 v4 w0 w1 w2) : X m_Fo_readRow (d + 4) 28 [some (.inr (.inr (some 2))), some (.inl v1), some (.inl v2), some (.inr (.inr v3)), some (.inl v4)] [.inr (.inl w0), .inl w1, .inr (.inr w2)] (hp s) (qRs (b_Fo_readRow_28 fu lp s v1 v2 v3 v4 w0 w1 w2)) := by
  unfold b_Fo_readRow_28
  unfold v_Fo_readRow_28 at hw
  obtain ⟨hc, hw⟩ := hw
  obtain ⟨hr, hw⟩ := hw
  refine X_dcallv m_Ro_put (As := [.inl w1, .inr (.inl w0)]) (st := []) ok_Ro_put rfl rfl rfl hr rfl (Nat.le_of_ble_eq_true rfl) (Nat.le_of_ble_eq_true rfl) (c_Ro_put (d := d) s w2 w1 w0 hc) ?_
  rintro _ _ ⟨rfl, rfl⟩
  show X _ _ 29 [some (.inr (.inr (some 2))), some (.inl v1), some (.inl v2), some (.inr (.inr v3)), some (.inl v4)] [] (hp (f_Ro_put s w2 w1 w0)) _
  show X _ _ 29 [some (.inr (.inr (some 2))), some (.inl v1), some (.inl v2), some (.inr (.inr v3)), some (.inl v4)] [] (hp (f_Ro_put s w2 w1 w0)) _
  exact hlp.2.2 (f_Ro_put s w2 w1 w0) v1 v2 v3 v4 hw
def b_Fo_readRow_29 (fu : Nat) (lp : LT_Fo_readRow_15) (s : St) (v1 : Int32) (v2 : Int32) (v3 : Option Nat) (v4 : Int32) : Option Nat × St := (lp.1 s v1 v2 v3 (v4 + Int32.ofInt (1)))
def v_Fo_readRow_29 (fu : Nat) (lp : LT_Fo_readRow_15) (wlp : LW_Fo_readRow_15) (s : St) (v1 : Int32) (v2 : Int32) (v3 : Option Nat) (v4 : Int32) : Prop := (wlp.1 s v1 v2 v3 (v4 + Int32.ofInt (1)))
theorem cb_Fo_readRow_29 {d : Nat} (fu : Nat) {lp : LT_Fo_readRow_15} {wlp : LW_Fo_readRow_15} (hlp : hl_Fo_readRow_15 (d + 4) lp wlp) (s : St) (v1 : Int32) (v2 : Int32) (v3 : Option Nat) (v4 : Int32) (hw : v_Fo_readRow_29 fu lp wlp s v1 v2 v3 v4) : X m_Fo_readRow (d + 4) 29 [some (.inr (.inr (some 2))), some (.inl v1), some (.inl v2), some (.inr (.inr v3)), some (.inl v4)] [] (hp s) (qRs (b_Fo_readRow_29 fu lp s v1 v2 v3 v4)) := by
  unfold b_Fo_readRow_29
  unfold v_Fo_readRow_29 at hw
  refine X_run 2 (i1 := 15) (L1 := [some (.inr (.inr (some 2))), some (.inl v1), some (.inl v2), some (.inr (.inr v3)), some (.inl (v4 + Int32.ofInt (1)))]) (st1 := []) rfl ?_
  exact hlp.1 s v1 v2 v3 (v4 + Int32.ofInt (1)) hw
def T_Fo_readRow_15 (fu : Nat) : Nat → LT_Fo_readRow_15
  | 0 => (fun s _ _ _ _ => (none, s), fun s _ _ _ _ _ _ _ => (none, s), fun s _ _ _ _ => (none, s))
  | n + 1 => (fun s v1 v2 v3 v4 => b_Fo_readRow_15 fu (T_Fo_readRow_15 fu n) s v1 v2 v3 v4, fun s v1 v2 v3 v4 w0 w1 w2 => b_Fo_readRow_28 fu (T_Fo_readRow_15 fu n) s v1 v2 v3 v4 w0 w1 w2, fun s v1 v2 v3 v4 => b_Fo_readRow_29 fu (T_Fo_readRow_15 fu n) s v1 v2 v3 v4)
def WT_Fo_readRow_15 (fu : Nat) : Nat → LW_Fo_readRow_15
  | 0 => (fun _ _ _ _ _ => False, fun _ _ _ _ _ _ _ _ => False, fun _ _ _ _ _ => False)
  | n + 1 => (fun s v1 v2 v3 v4 => v_Fo_readRow_15 fu (T_Fo_readRow_15 fu n) (WT_Fo_readRow_15 fu n) s v1 v2 v3 v4, fun s v1 v2 v3 v4 w0 w1 w2 => v_Fo_readRow_28 fu (T_Fo_readRow_15 fu n) (WT_Fo_readRow_15 fu n) s v1 v2 v3 v4 w0 w1 w2, fun s v1 v2 v3 v4 => v_Fo_readRow_29 fu (T_Fo_readRow_15 fu n) (WT_Fo_readRow_15 fu n) s v1 v2 v3 v4)
theorem cT_Fo_readRow_15 {d : Nat} (fu : Nat) : ∀ n : Nat, hl_Fo_readRow_15 (d + 4) (T_Fo_readRow_15 fu n) (WT_Fo_readRow_15 fu n)
  | 0 => ⟨fun _ _ _ _ _ hw => hw.elim, fun _ _ _ _ _ _ _ _ hw => hw.elim, fun _ _ _ _ _ hw => hw.elim⟩
  | n + 1 => ⟨fun s v1 v2 v3 v4 hw => cb_Fo_readRow_15 fu (cT_Fo_readRow_15 fu n) s v1 v2 v3 v4 hw, fun s v1 v2 v3 v4 w0 w1 w2 hw => cb_Fo_readRow_28 fu (cT_Fo_readRow_15 fu n) s v1 v2 v3 v4 w0 w1 w2 hw, fun s v1 v2 v3 v4 hw => cb_Fo_readRow_29 fu (cT_Fo_readRow_15 fu n) s v1 v2 v3 v4 hw⟩
def t_Fo_readRow_12 (fu : Nat) (s : St) (v1 : Int32) (v2 : Int32) (w0 : Option Nat) : Option Nat × St := ((T_Fo_readRow_15 fu fu).1 s v1 v2 w0 (0 : Int32))
def w_Fo_readRow_12 (fu : Nat) (s : St) (v1 : Int32) (v2 : Int32) (w0 : Option Nat) : Prop := ((WT_Fo_readRow_15 fu fu).1 s v1 v2 w0 (0 : Int32))
theorem ct_Fo_readRow_12 {d : Nat} (fu : Nat) (s : St) (v1 : Int32) (v2 : Int32) (w0 : Option Nat) (hw : w_Fo_readRow_12 fu s v1 v2 w0) : X m_Fo_readRow (d + 4) 12 [some (.inr (.inr (some 2))), some (.inl v1), some (.inl v2), none, none] [.inr (.inr w0)] (hp s) (qRs (t_Fo_readRow_12 fu s v1 v2 w0)) := by
  unfold t_Fo_readRow_12
  unfold w_Fo_readRow_12 at hw
  refine X_run 3 (i1 := 15) (L1 := [some (.inr (.inr (some 2))), some (.inl v1), some (.inl v2), some (.inr (.inr w0)), some (.inl (0 : Int32))]) (st1 := []) rfl ?_
  exact (cT_Fo_readRow_15 fu fu).1 s v1 v2 w0 (0 : Int32) hw
def t_Fo_readRow_2 (fu : Nat) (s : St) (v1 : Int32) (w0 : Int32) : Option Nat × St := (cond (cn1 .ge w0) (t_Fo_readRow_12 fu (f_Ro_init (pQ s (nwO (sD s) (sN s) 6) ((sN s) + 1) ((sU s) + 2)) (some (sN s)) v1 w0) v1 w0 (some (sN s))) (none, s))
def w_Fo_readRow_2 (fu : Nat) (s : St) (v1 : Int32) (w0 : Int32) : Prop := ((cn1 .ge w0) = true → (rm (sN s) (sU s) 2 ∧ (w_Ro_init (pQ s (nwO (sD s) (sN s) 6) ((sN s) + 1) ((sU s) + 2)) (some (sN s)) v1 w0 ∧ ((oC (nwO (sD s) (sN s) 6) (some (sN s))).isSome = true ∧ (w_Fo_readRow_12 fu (f_Ro_init (pQ s (nwO (sD s) (sN s) 6) ((sN s) + 1) ((sU s) + 2)) (some (sN s)) v1 w0) v1 w0 (some (sN s))))))) ∧ ((cn1 .ge w0) = false → True)
theorem ct_Fo_readRow_2 {d : Nat} (fu : Nat) (s : St) (v1 : Int32) (w0 : Int32) (hw : w_Fo_readRow_2 fu s v1 w0) : X m_Fo_readRow (d + 4) 2 [some (.inr (.inr (some 2))), some (.inl v1), none, none, none] [.inl w0] (hp s) (qRs (t_Fo_readRow_2 fu s v1 w0)) := by
  unfold t_Fo_readRow_2
  unfold w_Fo_readRow_2 at hw
  refine X_run 3 (i1 := cond (cn1 .ge w0) 7 5) (L1 := [some (.inr (.inr (some 2))), some (.inl v1), some (.inl w0), none, none]) (st1 := []) rfl ?_
  refine X_brq (fun hb => ?_) (fun hb => ?_)
  · have hw := hw.1 hb
    obtain ⟨hr, hw⟩ := hw
    refine X_dnew rfl rfl rfl hr ?_
    show X _ _ 8 [some (.inr (.inr (some 2))), some (.inl v1), some (.inl w0), none, none] [.inr (.inr (some (sN s)))] (hp (pQ s (nwO (sD s) (sN s) 6) ((sN s) + 1) ((sU s) + 2))) _
    refine X_run 3 (i1 := 11) (L1 := [some (.inr (.inr (some 2))), some (.inl v1), some (.inl w0), none, none]) (st1 := [.inl w0, .inl v1, .inr (.inr (some (sN s))), .inr (.inr (some (sN s)))]) rfl ?_
    obtain ⟨hc, hw⟩ := hw
    obtain ⟨hr, hw⟩ := hw
    refine X_dcalln m_Ro_init (As := [.inl v1, .inl w0]) (st := [.inr (.inr (some (sN s)))]) ok_Ro_init rfl rfl rfl rfl hr (Nat.le_of_ble_eq_true rfl) (Nat.le_of_ble_eq_true rfl) (c_Ro_init (d := d + 1) (pQ s (nwO (sD s) (sN s) 6) ((sN s) + 1) ((sU s) + 2)) (some (sN s)) v1 w0 hc) ?_
    rintro _ _ ⟨rfl, rfl⟩
    show X _ _ 12 [some (.inr (.inr (some 2))), some (.inl v1), some (.inl w0), none, none] [.inr (.inr (some (sN s)))] (hp (f_Ro_init (pQ s (nwO (sD s) (sN s) 6) ((sN s) + 1) ((sU s) + 2)) (some (sN s)) v1 w0)) _
    show X _ _ 12 [some (.inr (.inr (some 2))), some (.inl v1), some (.inl w0), none, none] [.inr (.inr (some (sN s)))] (hp (f_Ro_init (pQ s (nwO (sD s) (sN s) 6) ((sN s) + 1) ((sU s) + 2)) (some (sN s)) v1 w0)) _
    exact ct_Fo_readRow_12 fu (f_Ro_init (pQ s (nwO (sD s) (sN s) 6) ((sN s) + 1) ((sU s) + 2)) (some (sN s)) v1 w0) v1 w0 (some (sN s)) hw
  · skip
    refine X_run 1 (i1 := 6) (L1 := [some (.inr (.inr (some 2))), some (.inl v1), some (.inl w0), none, none]) (st1 := [.inr (.inr none)]) rfl ?_
    exact X_aret rfl rfl qRs_i
def f_Fo_readRow (fu : Nat) (s : St) (a0 : Int32) : Option Nat × St := (t_Fo_readRow_2 fu ((f_Fo_readSize fu s).2) a0 ((f_Fo_readSize fu s).1))
def w_Fo_readRow (fu : Nat) (s : St) (a0 : Int32) : Prop := (w_Fo_readSize fu s ∧ (w_Fo_readRow_2 fu ((f_Fo_readSize fu s).2) a0 ((f_Fo_readSize fu s).1)))
theorem c_Fo_readRow {d : Nat} (fu : Nat) (s : St) (a0 : Int32) (hw : w_Fo_readRow fu s a0) : X m_Fo_readRow (d + 4) 0 (entL 5 [.inr (.inr (some 2)), .inl a0]) [] (hp s) (qRs (f_Fo_readRow fu s a0)) := by
  unfold f_Fo_readRow
  unfold w_Fo_readRow at hw
  refine X_run 1 (i1 := 1) (L1 := [some (.inr (.inr (some 2))), some (.inl a0), none, none, none]) (st1 := [.inr (.inr (some 2))]) rfl ?_
  obtain ⟨hc, hw⟩ := hw
  refine X_callv m_Fo_readSize (As := []) (st := []) ok_Fo_readSize rfl rfl rfl (hp_obj rfl) rfl (Nat.le_of_ble_eq_true rfl) (Nat.le_of_ble_eq_true rfl) (c_Fo_readSize (d := d) fu s hc) ?_
  rintro _ _ ⟨rfl, rfl⟩
  show X _ _ 2 [some (.inr (.inr (some 2))), some (.inl a0), none, none, none] [.inl ((f_Fo_readSize fu s).1)] (hp ((f_Fo_readSize fu s).2)) _
  show X _ _ 2 [some (.inr (.inr (some 2))), some (.inl a0), none, none, none] [.inl ((f_Fo_readSize fu s).1)] (hp ((f_Fo_readSize fu s).2)) _
  exact ct_Fo_readRow_2 fu ((f_Fo_readSize fu s).2) a0 ((f_Fo_readSize fu s).1) hw
abbrev G_read : Type := (St → Int32 → Option Nat × St) × (St → Int32 → Int32 → Option Nat × St) × (St → Int32 → Int32 → Option Nat × St) × (St → Option Nat → Int32 → St)
abbrev GW_read : Type := (St → Int32 → Prop) × (St → Int32 → Int32 → Prop) × (St → Int32 → Int32 → Prop) × (St → Option Nat → Int32 → Prop)
def hr_read (d : Nat) (rec : G_read) (wrec : GW_read) : Prop := (∀ (s : St) (a0 : Int32), wrec.1 s a0 → X m_Fo_readThing d 0 (entL 3 [.inr (.inr (some 2)), .inl a0]) [] (hp s) (qRs (rec.1 s a0))) ∧ (∀ (s : St) (a0 : Int32) (a1 : Int32), wrec.2.1 s a0 a1 → X m_Fo_readShelf d 0 (entL 9 [.inr (.inr (some 2)), .inl a0, .inl a1]) [] (hp s) (qRs (rec.2.1 s a0 a1))) ∧ (∀ (s : St) (a0 : Int32) (a1 : Int32), wrec.2.2.1 s a0 a1 → X m_Fo_readPart d 0 (entL 4 [.inr (.inr (some 2)), .inl a0, .inl a1]) [] (hp s) (qRs (rec.2.2.1 s a0 a1))) ∧ (∀ (s : St) (a0 : Option Nat) (a1 : Int32), wrec.2.2.2 s a0 a1 → X m_Fo_readInner d 0 (entL 5 [.inr (.inr (some 2)), .inr (.inr a0), .inl a1]) [] (hp s) (qVs (rec.2.2.2 s a0 a1)))
def t_Fo_readThing_62 (rec : G_read) (fu : Nat) (s : St) (w0 : Int64) (w1 : Option Nat) (w2 : Option Nat) : Option Nat × St := (w2, (f_Tr_init s w1 (Int64.toInt32 w0)))
def w_Fo_readThing_62 (rec : G_read) (wrec : GW_read) (fu : Nat) (s : St) (w0 : Int64) (w1 : Option Nat) (w2 : Option Nat) : Prop := (w_Tr_init s w1 (Int64.toInt32 w0) ∧ ((oC (sD s) w1).isSome = true ∧ True))
theorem ct_Fo_readThing_62 {d : Nat} {rec : G_read} {wrec : GW_read} (hrec : hr_read (d + 4) rec wrec) (fu : Nat) (s : St) (w0 : Int64) (w1 : Option Nat) (w2 : Option Nat) (hw : w_Fo_readThing_62 rec wrec fu s w0 w1 w2) : X m_Fo_readThing (d + 5) 62 [none, none, none] [.inr (.inl w0), .inr (.inr w1), .inr (.inr w2)] (hp s) (qRs (t_Fo_readThing_62 rec fu s w0 w1 w2)) := by
  unfold t_Fo_readThing_62
  unfold w_Fo_readThing_62 at hw
  refine X_run 1 (i1 := 63) (L1 := [none, none, none]) (st1 := [.inl (Int64.toInt32 w0), .inr (.inr w1), .inr (.inr w2)]) rfl ?_
  obtain ⟨hc, hw⟩ := hw
  obtain ⟨hr, hw⟩ := hw
  refine X_dcalln m_Tr_init (As := [.inl (Int64.toInt32 w0)]) (st := [.inr (.inr w2)]) ok_Tr_init rfl rfl rfl rfl hr (Nat.le_of_ble_eq_true rfl) (Nat.le_of_ble_eq_true rfl) (c_Tr_init (d := d + 2) s w1 (Int64.toInt32 w0) hc) ?_
  rintro _ _ ⟨rfl, rfl⟩
  show X _ _ 64 [none, none, none] [.inr (.inr w2)] (hp (f_Tr_init s w1 (Int64.toInt32 w0))) _
  refine X_run 1 (i1 := 66) (L1 := [none, none, none]) (st1 := [.inr (.inr w2)]) rfl ?_
  exact X_aret rfl rfl qRs_i
def t_Fo_readThing_56 (rec : G_read) (fu : Nat) (s : St) (w0 : Int32) : Option Nat × St := (cond (cn1 .eq w0) (none, s) (t_Fo_readThing_62 rec fu ((f_Fo_readBytes fu (pQ s (nwO (sD s) (sN s) 8) ((sN s) + 1) ((sU s) + 1)) (4 : Int32)).2) ((f_Fo_readBytes fu (pQ s (nwO (sD s) (sN s) 8) ((sN s) + 1) ((sU s) + 1)) (4 : Int32)).1) (some (sN s)) (some (sN s))))
def w_Fo_readThing_56 (rec : G_read) (wrec : GW_read) (fu : Nat) (s : St) (w0 : Int32) : Prop := ((cn1 .eq w0) = true → True) ∧ ((cn1 .eq w0) = false → (rm (sN s) (sU s) 1 ∧ (w_Fo_readBytes fu (pQ s (nwO (sD s) (sN s) 8) ((sN s) + 1) ((sU s) + 1)) (4 : Int32) ∧ (w_Fo_readThing_62 rec wrec fu ((f_Fo_readBytes fu (pQ s (nwO (sD s) (sN s) 8) ((sN s) + 1) ((sU s) + 1)) (4 : Int32)).2) ((f_Fo_readBytes fu (pQ s (nwO (sD s) (sN s) 8) ((sN s) + 1) ((sU s) + 1)) (4 : Int32)).1) (some (sN s)) (some (sN s))))))
theorem ct_Fo_readThing_56 {d : Nat} {rec : G_read} {wrec : GW_read} (hrec : hr_read (d + 4) rec wrec) (fu : Nat) (s : St) (w0 : Int32) (hw : w_Fo_readThing_56 rec wrec fu s w0) : X m_Fo_readThing (d + 5) 56 [some (.inr (.inr (some 2))), none, none] [.inl w0] (hp s) (qRs (t_Fo_readThing_56 rec fu s w0)) := by
  unfold t_Fo_readThing_56
  unfold w_Fo_readThing_56 at hw
  refine X_run 1 (i1 := cond (cn1 .eq w0) 65 57) (L1 := [some (.inr (.inr (some 2))), none, none]) (st1 := []) rfl ?_
  refine X_brq (fun hb => ?_) (fun hb => ?_)
  · skip
    refine X_run 1 (i1 := 66) (L1 := [some (.inr (.inr (some 2))), none, none]) (st1 := [.inr (.inr none)]) rfl ?_
    exact X_aret rfl rfl qRs_i
  · have hw := hw.2 hb
    obtain ⟨hr, hw⟩ := hw
    refine X_dnew rfl rfl rfl hr ?_
    show X _ _ 58 [some (.inr (.inr (some 2))), none, none] [.inr (.inr (some (sN s)))] (hp (pQ s (nwO (sD s) (sN s) 8) ((sN s) + 1) ((sU s) + 1))) _
    refine X_run 3 (i1 := 61) (L1 := [some (.inr (.inr (some 2))), none, none]) (st1 := [.inl (4 : Int32), .inr (.inr (some 2)), .inr (.inr (some (sN s))), .inr (.inr (some (sN s)))]) rfl ?_
    obtain ⟨hc, hw⟩ := hw
    refine X_callv m_Fo_readBytes (As := [.inl (4 : Int32)]) (st := [.inr (.inr (some (sN s))), .inr (.inr (some (sN s)))]) ok_Fo_readBytes rfl rfl rfl (hp_obj rfl) rfl (Nat.le_of_ble_eq_true rfl) (Nat.le_of_ble_eq_true rfl) (c_Fo_readBytes (d := d + 2) fu (pQ s (nwO (sD s) (sN s) 8) ((sN s) + 1) ((sU s) + 1)) (4 : Int32) hc) ?_
    rintro _ _ ⟨rfl, rfl⟩
    show X _ _ 62 [some (.inr (.inr (some 2))), none, none] [.inr (.inl ((f_Fo_readBytes fu (pQ s (nwO (sD s) (sN s) 8) ((sN s) + 1) ((sU s) + 1)) (4 : Int32)).1)), .inr (.inr (some (sN s))), .inr (.inr (some (sN s)))] (hp ((f_Fo_readBytes fu (pQ s (nwO (sD s) (sN s) 8) ((sN s) + 1) ((sU s) + 1)) (4 : Int32)).2)) _
    show X _ _ 62 [some (.inr (.inr (some 2))), none, none] [.inr (.inl ((f_Fo_readBytes fu (pQ s (nwO (sD s) (sN s) 8) ((sN s) + 1) ((sU s) + 1)) (4 : Int32)).1)), .inr (.inr (some (sN s))), .inr (.inr (some (sN s)))] (hp ((f_Fo_readBytes fu (pQ s (nwO (sD s) (sN s) 8) ((sN s) + 1) ((sU s) + 1)) (4 : Int32)).2)) _
    refine X_mask [false, true, true] ?_
    exact ct_Fo_readThing_62 hrec fu ((f_Fo_readBytes fu (pQ s (nwO (sD s) (sN s) 8) ((sN s) + 1) ((sU s) + 1)) (4 : Int32)).2) ((f_Fo_readBytes fu (pQ s (nwO (sD s) (sN s) 8) ((sN s) + 1) ((sU s) + 1)) (4 : Int32)).1) (some (sN s)) (some (sN s)) hw
def t_Fo_readThing_12 (rec : G_read) (fu : Nat) (s : St) (v1 : Int32) (w0 : Int64) : Option Nat × St := (cond (cn1 .ne (b2i (f_Le_stopped s))) (none, s) (cond (cn1 .ne ((Int64.toInt32 w0) &&& (255 : Int32))) (cond (cn2 .gt ((Int64.toInt32 w0) &&& (255 : Int32)) (8 : Int32)) (cond (cn2 .gt ((Int64.toInt32 w0) &&& (255 : Int32)) (10 : Int32)) (cond (cn2 .ge ((Int64.toInt32 w0) &&& (255 : Int32)) (16 : Int32)) (cond (cn2 .ne ((Int64.toInt32 w0) &&& (255 : Int32)) (16 : Int32)) (none, (f_Le_fault s (4 : Int32))) (t_Fo_readThing_56 rec fu ((f_Le_make s (4 : Int64)).2) (b2i (f_Le_make s (4 : Int64)).1))) (rec.2.2.1 s (((Int64.toInt32 w0) &&& (255 : Int32)) - (11 : Int32)) v1)) (rec.2.1 s ((Int64.toInt32 w0) &&& (255 : Int32)) v1)) (f_Fo_readRow fu s ((Int64.toInt32 w0) &&& (255 : Int32)))) (none, s)))
def w_Fo_readThing_12 (rec : G_read) (wrec : GW_read) (fu : Nat) (s : St) (v1 : Int32) (w0 : Int64) : Prop := (w_Le_stopped s ∧ ((cn1 .ne (b2i (f_Le_stopped s))) = true → True) ∧ ((cn1 .ne (b2i (f_Le_stopped s))) = false → ((cn1 .ne ((Int64.toInt32 w0) &&& (255 : Int32))) = true → ((cn2 .gt ((Int64.toInt32 w0) &&& (255 : Int32)) (8 : Int32)) = true → ((cn2 .gt ((Int64.toInt32 w0) &&& (255 : Int32)) (10 : Int32)) = true → ((cn2 .ge ((Int64.toInt32 w0) &&& (255 : Int32)) (16 : Int32)) = true → ((cn2 .ne ((Int64.toInt32 w0) &&& (255 : Int32)) (16 : Int32)) = true → (w_Le_fault s (4 : Int32) ∧ True)) ∧ ((cn2 .ne ((Int64.toInt32 w0) &&& (255 : Int32)) (16 : Int32)) = false → (w_Le_make s (4 : Int64) ∧ (w_Fo_readThing_56 rec wrec fu ((f_Le_make s (4 : Int64)).2) (b2i (f_Le_make s (4 : Int64)).1))))) ∧ ((cn2 .ge ((Int64.toInt32 w0) &&& (255 : Int32)) (16 : Int32)) = false → (wrec.2.2.1 s (((Int64.toInt32 w0) &&& (255 : Int32)) - (11 : Int32)) v1 ∧ True))) ∧ ((cn2 .gt ((Int64.toInt32 w0) &&& (255 : Int32)) (10 : Int32)) = false → (wrec.2.1 s ((Int64.toInt32 w0) &&& (255 : Int32)) v1 ∧ True))) ∧ ((cn2 .gt ((Int64.toInt32 w0) &&& (255 : Int32)) (8 : Int32)) = false → (w_Fo_readRow fu s ((Int64.toInt32 w0) &&& (255 : Int32)) ∧ True))) ∧ ((cn1 .ne ((Int64.toInt32 w0) &&& (255 : Int32))) = false → True)))
theorem ct_Fo_readThing_12 {d : Nat} {rec : G_read} {wrec : GW_read} (hrec : hr_read (d + 4) rec wrec) (fu : Nat) (s : St) (v1 : Int32) (w0 : Int64) (hw : w_Fo_readThing_12 rec wrec fu s v1 w0) : X m_Fo_readThing (d + 5) 12 [some (.inr (.inr (some 2))), some (.inl v1), none] [.inr (.inl w0)] (hp s) (qRs (t_Fo_readThing_12 rec fu s v1 w0)) := by
  unfold t_Fo_readThing_12
  unfold w_Fo_readThing_12 at hw
  refine X_run 5 (i1 := 17) (L1 := [some (.inr (.inr (some 2))), some (.inl v1), some (.inl ((Int64.toInt32 w0) &&& (255 : Int32)))]) (st1 := [.inr (.inr (some 2))]) rfl ?_
  refine X_gF (v := .inr (.inr (some 1))) rfl rfl rfl rfl ?_
  obtain ⟨hc, hw⟩ := hw
  refine X_callv m_Le_stopped (As := []) (st := []) ok_Le_stopped rfl rfl rfl (hp_obj rfl) rfl (Nat.le_of_ble_eq_true rfl) (Nat.le_of_ble_eq_true rfl) (c_Le_stopped (d := d + 4) s hc) ?_
  rintro _ _ ⟨rfl, rfl⟩
  show X _ _ 19 [some (.inr (.inr (some 2))), some (.inl v1), some (.inl ((Int64.toInt32 w0) &&& (255 : Int32)))] [.inl (b2i (f_Le_stopped s))] (hp s) _
  refine X_run 1 (i1 := cond (cn1 .ne (b2i (f_Le_stopped s))) 22 20) (L1 := [some (.inr (.inr (some 2))), some (.inl v1), some (.inl ((Int64.toInt32 w0) &&& (255 : Int32)))]) (st1 := []) rfl ?_
  refine X_brq (fun hb => ?_) (fun hb => ?_)
  · skip
    refine X_run 1 (i1 := 23) (L1 := [some (.inr (.inr (some 2))), some (.inl v1), some (.inl ((Int64.toInt32 w0) &&& (255 : Int32)))]) (st1 := [.inr (.inr none)]) rfl ?_
    exact X_aret rfl rfl qRs_i
  · have hw := hw.2 hb
    refine X_run 2 (i1 := cond (cn1 .ne ((Int64.toInt32 w0) &&& (255 : Int32))) 24 22) (L1 := [some (.inr (.inr (some 2))), some (.inl v1), some (.inl ((Int64.toInt32 w0) &&& (255 : Int32)))]) (st1 := []) rfl ?_
    refine X_brq (fun hb => ?_) (fun hb => ?_)
    · have hw := hw.1 hb
      refine X_run 3 (i1 := cond (cn2 .gt ((Int64.toInt32 w0) &&& (255 : Int32)) (8 : Int32)) 31 27) (L1 := [some (.inr (.inr (some 2))), some (.inl v1), some (.inl ((Int64.toInt32 w0) &&& (255 : Int32)))]) (st1 := []) rfl ?_
      refine X_brq (fun hb => ?_) (fun hb => ?_)
      · have hw := hw.1 hb
        refine X_run 3 (i1 := cond (cn2 .gt ((Int64.toInt32 w0) &&& (255 : Int32)) (10 : Int32)) 39 34) (L1 := [some (.inr (.inr (some 2))), some (.inl v1), some (.inl ((Int64.toInt32 w0) &&& (255 : Int32)))]) (st1 := []) rfl ?_
        refine X_brq (fun hb => ?_) (fun hb => ?_)
        · have hw := hw.1 hb
          refine X_run 3 (i1 := cond (cn2 .ge ((Int64.toInt32 w0) &&& (255 : Int32)) (16 : Int32)) 49 42) (L1 := [some (.inr (.inr (some 2))), some (.inl v1), some (.inl ((Int64.toInt32 w0) &&& (255 : Int32)))]) (st1 := []) rfl ?_
          refine X_brq (fun hb => ?_) (fun hb => ?_)
          · have hw := hw.1 hb
            refine X_run 3 (i1 := cond (cn2 .ne ((Int64.toInt32 w0) &&& (255 : Int32)) (16 : Int32)) 67 52) (L1 := [some (.inr (.inr (some 2))), some (.inl v1), some (.inl ((Int64.toInt32 w0) &&& (255 : Int32)))]) (st1 := []) rfl ?_
            refine X_brq (fun hb => ?_) (fun hb => ?_)
            · have hw := hw.1 hb
              refine X_run 1 (i1 := 68) (L1 := [some (.inr (.inr (some 2))), some (.inl v1), some (.inl ((Int64.toInt32 w0) &&& (255 : Int32)))]) (st1 := [.inr (.inr (some 2))]) rfl ?_
              refine X_gF (v := .inr (.inr (some 1))) rfl rfl rfl rfl ?_
              refine X_run 1 (i1 := 70) (L1 := [some (.inr (.inr (some 2))), some (.inl v1), some (.inl ((Int64.toInt32 w0) &&& (255 : Int32)))]) (st1 := [.inl (4 : Int32), .inr (.inr (some 1))]) rfl ?_
              obtain ⟨hc, hw⟩ := hw
              refine X_callv m_Le_fault (As := [.inl (4 : Int32)]) (st := []) ok_Le_fault rfl rfl rfl (hp_obj rfl) rfl (Nat.le_of_ble_eq_true rfl) (Nat.le_of_ble_eq_true rfl) (c_Le_fault (d := d + 3) s (4 : Int32) hc) ?_
              rintro _ _ ⟨rfl, rfl⟩
              show X _ _ 71 [some (.inr (.inr (some 2))), some (.inl v1), some (.inl ((Int64.toInt32 w0) &&& (255 : Int32)))] [] (hp (f_Le_fault s (4 : Int32))) _
              refine X_run 1 (i1 := 72) (L1 := [some (.inr (.inr (some 2))), some (.inl v1), some (.inl ((Int64.toInt32 w0) &&& (255 : Int32)))]) (st1 := [.inr (.inr none)]) rfl ?_
              exact X_aret rfl rfl qRs_i
            · have hw := hw.2 hb
              refine X_run 1 (i1 := 53) (L1 := [some (.inr (.inr (some 2))), some (.inl v1), some (.inl ((Int64.toInt32 w0) &&& (255 : Int32)))]) (st1 := [.inr (.inr (some 2))]) rfl ?_
              refine X_gF (v := .inr (.inr (some 1))) rfl rfl rfl rfl ?_
              refine X_run 1 (i1 := 55) (L1 := [some (.inr (.inr (some 2))), some (.inl v1), some (.inl ((Int64.toInt32 w0) &&& (255 : Int32)))]) (st1 := [.inr (.inl (4 : Int64)), .inr (.inr (some 1))]) rfl ?_
              obtain ⟨hc, hw⟩ := hw
              refine X_callv m_Le_make (As := [.inr (.inl (4 : Int64))]) (st := []) ok_Le_make rfl rfl rfl (hp_obj rfl) rfl (Nat.le_of_ble_eq_true rfl) (Nat.le_of_ble_eq_true rfl) (c_Le_make (d := d + 4) s (4 : Int64) hc) ?_
              rintro _ _ ⟨rfl, rfl⟩
              show X _ _ 56 [some (.inr (.inr (some 2))), some (.inl v1), some (.inl ((Int64.toInt32 w0) &&& (255 : Int32)))] [.inl (b2i (f_Le_make s (4 : Int64)).1)] (hp ((f_Le_make s (4 : Int64)).2)) _
              show X _ _ 56 [some (.inr (.inr (some 2))), some (.inl v1), some (.inl ((Int64.toInt32 w0) &&& (255 : Int32)))] [.inl (b2i (f_Le_make s (4 : Int64)).1)] (hp ((f_Le_make s (4 : Int64)).2)) _
              refine X_mask [true, false, false] ?_
              exact ct_Fo_readThing_56 hrec fu ((f_Le_make s (4 : Int64)).2) (b2i (f_Le_make s (4 : Int64)).1) hw
          · have hw := hw.2 hb
            refine X_run 5 (i1 := 47) (L1 := [some (.inr (.inr (some 2))), some (.inl v1), some (.inl ((Int64.toInt32 w0) &&& (255 : Int32)))]) (st1 := [.inl v1, .inl (((Int64.toInt32 w0) &&& (255 : Int32)) - (11 : Int32)), .inr (.inr (some 2))]) rfl ?_
            obtain ⟨hc, hw⟩ := hw
            refine X_callv m_Fo_readPart (As := [.inl (((Int64.toInt32 w0) &&& (255 : Int32)) - (11 : Int32)), .inl v1]) (st := []) ok_Fo_readPart rfl rfl rfl (hp_obj rfl) rfl (Nat.le_of_ble_eq_true rfl) (Nat.le_of_ble_eq_true rfl) (hrec.2.2.1 s (((Int64.toInt32 w0) &&& (255 : Int32)) - (11 : Int32)) v1 hc) ?_
            rintro _ _ ⟨rfl, rfl⟩
            show X _ _ 48 [some (.inr (.inr (some 2))), some (.inl v1), some (.inl ((Int64.toInt32 w0) &&& (255 : Int32)))] [.inr (.inr ((rec.2.2.1 s (((Int64.toInt32 w0) &&& (255 : Int32)) - (11 : Int32)) v1).1))] (hp ((rec.2.2.1 s (((Int64.toInt32 w0) &&& (255 : Int32)) - (11 : Int32)) v1).2)) _
            exact X_aret rfl rfl qRs_p
        · have hw := hw.2 hb
          refine X_run 3 (i1 := 37) (L1 := [some (.inr (.inr (some 2))), some (.inl v1), some (.inl ((Int64.toInt32 w0) &&& (255 : Int32)))]) (st1 := [.inl v1, .inl ((Int64.toInt32 w0) &&& (255 : Int32)), .inr (.inr (some 2))]) rfl ?_
          obtain ⟨hc, hw⟩ := hw
          refine X_callv m_Fo_readShelf (As := [.inl ((Int64.toInt32 w0) &&& (255 : Int32)), .inl v1]) (st := []) ok_Fo_readShelf rfl rfl rfl (hp_obj rfl) rfl (Nat.le_of_ble_eq_true rfl) (Nat.le_of_ble_eq_true rfl) (hrec.2.1 s ((Int64.toInt32 w0) &&& (255 : Int32)) v1 hc) ?_
          rintro _ _ ⟨rfl, rfl⟩
          show X _ _ 38 [some (.inr (.inr (some 2))), some (.inl v1), some (.inl ((Int64.toInt32 w0) &&& (255 : Int32)))] [.inr (.inr ((rec.2.1 s ((Int64.toInt32 w0) &&& (255 : Int32)) v1).1))] (hp ((rec.2.1 s ((Int64.toInt32 w0) &&& (255 : Int32)) v1).2)) _
          exact X_aret rfl rfl qRs_p
      · have hw := hw.2 hb
        refine X_run 2 (i1 := 29) (L1 := [some (.inr (.inr (some 2))), some (.inl v1), some (.inl ((Int64.toInt32 w0) &&& (255 : Int32)))]) (st1 := [.inl ((Int64.toInt32 w0) &&& (255 : Int32)), .inr (.inr (some 2))]) rfl ?_
        obtain ⟨hc, hw⟩ := hw
        refine X_callv m_Fo_readRow (As := [.inl ((Int64.toInt32 w0) &&& (255 : Int32))]) (st := []) ok_Fo_readRow rfl rfl rfl (hp_obj rfl) rfl (Nat.le_of_ble_eq_true rfl) (Nat.le_of_ble_eq_true rfl) (c_Fo_readRow (d := d) fu s ((Int64.toInt32 w0) &&& (255 : Int32)) hc) ?_
        rintro _ _ ⟨rfl, rfl⟩
        show X _ _ 30 [some (.inr (.inr (some 2))), some (.inl v1), some (.inl ((Int64.toInt32 w0) &&& (255 : Int32)))] [.inr (.inr ((f_Fo_readRow fu s ((Int64.toInt32 w0) &&& (255 : Int32))).1))] (hp ((f_Fo_readRow fu s ((Int64.toInt32 w0) &&& (255 : Int32))).2)) _
        exact X_aret rfl rfl qRs_p
    · skip
      refine X_run 1 (i1 := 23) (L1 := [some (.inr (.inr (some 2))), some (.inl v1), some (.inl ((Int64.toInt32 w0) &&& (255 : Int32)))]) (st1 := [.inr (.inr none)]) rfl ?_
      exact X_aret rfl rfl qRs_i
def f_Fo_readThing (rec : G_read) (fu : Nat) (s : St) (a0 : Int32) : Option Nat × St := (cond (cn2 .le a0 (30 : Int32)) (t_Fo_readThing_12 rec fu ((f_Fo_readBytes fu s (1 : Int32)).2) a0 ((f_Fo_readBytes fu s (1 : Int32)).1)) (none, (f_Le_fault s (8 : Int32))))
def w_Fo_readThing (rec : G_read) (wrec : GW_read) (fu : Nat) (s : St) (a0 : Int32) : Prop := ((cn2 .le a0 (30 : Int32)) = true → (w_Fo_readBytes fu s (1 : Int32) ∧ (w_Fo_readThing_12 rec wrec fu ((f_Fo_readBytes fu s (1 : Int32)).2) a0 ((f_Fo_readBytes fu s (1 : Int32)).1)))) ∧ ((cn2 .le a0 (30 : Int32)) = false → (w_Le_fault s (8 : Int32) ∧ True))
theorem c_Fo_readThing {d : Nat} {rec : G_read} {wrec : GW_read} (hrec : hr_read (d + 4) rec wrec) (fu : Nat) (s : St) (a0 : Int32) (hw : w_Fo_readThing rec wrec fu s a0) : X m_Fo_readThing (d + 5) 0 (entL 3 [.inr (.inr (some 2)), .inl a0]) [] (hp s) (qRs (f_Fo_readThing rec fu s a0)) := by
  unfold f_Fo_readThing
  unfold w_Fo_readThing at hw
  refine X_run 3 (i1 := cond (cn2 .le a0 (30 : Int32)) 9 3) (L1 := [some (.inr (.inr (some 2))), some (.inl a0), none]) (st1 := []) rfl ?_
  refine X_brq (fun hb => ?_) (fun hb => ?_)
  · have hw := hw.1 hb
    refine X_run 2 (i1 := 11) (L1 := [some (.inr (.inr (some 2))), some (.inl a0), none]) (st1 := [.inl (1 : Int32), .inr (.inr (some 2))]) rfl ?_
    obtain ⟨hc, hw⟩ := hw
    refine X_callv m_Fo_readBytes (As := [.inl (1 : Int32)]) (st := []) ok_Fo_readBytes rfl rfl rfl (hp_obj rfl) rfl (Nat.le_of_ble_eq_true rfl) (Nat.le_of_ble_eq_true rfl) (c_Fo_readBytes (d := d + 2) fu s (1 : Int32) hc) ?_
    rintro _ _ ⟨rfl, rfl⟩
    show X _ _ 12 [some (.inr (.inr (some 2))), some (.inl a0), none] [.inr (.inl ((f_Fo_readBytes fu s (1 : Int32)).1))] (hp ((f_Fo_readBytes fu s (1 : Int32)).2)) _
    show X _ _ 12 [some (.inr (.inr (some 2))), some (.inl a0), none] [.inr (.inl ((f_Fo_readBytes fu s (1 : Int32)).1))] (hp ((f_Fo_readBytes fu s (1 : Int32)).2)) _
    exact ct_Fo_readThing_12 hrec fu ((f_Fo_readBytes fu s (1 : Int32)).2) a0 ((f_Fo_readBytes fu s (1 : Int32)).1) hw
  · have hw := hw.2 hb
    refine X_run 1 (i1 := 4) (L1 := [some (.inr (.inr (some 2))), some (.inl a0), none]) (st1 := [.inr (.inr (some 2))]) rfl ?_
    refine X_gF (v := .inr (.inr (some 1))) rfl rfl rfl rfl ?_
    refine X_run 1 (i1 := 6) (L1 := [some (.inr (.inr (some 2))), some (.inl a0), none]) (st1 := [.inl (8 : Int32), .inr (.inr (some 1))]) rfl ?_
    obtain ⟨hc, hw⟩ := hw
    refine X_callv m_Le_fault (As := [.inl (8 : Int32)]) (st := []) ok_Le_fault rfl rfl rfl (hp_obj rfl) rfl (Nat.le_of_ble_eq_true rfl) (Nat.le_of_ble_eq_true rfl) (c_Le_fault (d := d + 3) s (8 : Int32) hc) ?_
    rintro _ _ ⟨rfl, rfl⟩
    show X _ _ 7 [some (.inr (.inr (some 2))), some (.inl a0), none] [] (hp (f_Le_fault s (8 : Int32))) _
    refine X_run 1 (i1 := 8) (L1 := [some (.inr (.inr (some 2))), some (.inl a0), none]) (st1 := [.inr (.inr none)]) rfl ?_
    exact X_aret rfl rfl qRs_i
abbrev LT_Fo_readShelf_40 : Type := (St → Int32 → Int32 → Option Nat → Int32 → Option Nat × St) × (St → Int32 → Int32 → Option Nat → Int32 → Option Nat → Option Nat × St) × (St → Int32 → Int32 → Option Nat → Int32 → Option Nat → Int32 → Option Nat × St) × (St → Int32 → Int32 → Option Nat → Int32 → Option Nat → Option Nat × St)
abbrev LW_Fo_readShelf_40 : Type := (St → Int32 → Int32 → Option Nat → Int32 → Prop) × (St → Int32 → Int32 → Option Nat → Int32 → Option Nat → Prop) × (St → Int32 → Int32 → Option Nat → Int32 → Option Nat → Int32 → Prop) × (St → Int32 → Int32 → Option Nat → Int32 → Option Nat → Prop)
def hl_Fo_readShelf_40 (d : Nat) (lp : LT_Fo_readShelf_40) (wlp : LW_Fo_readShelf_40) : Prop := (∀ (s : St) (v2 : Int32) (v4 : Int32) (v5 : Option Nat) (v6 : Int32), wlp.1 s v2 v4 v5 v6 → X m_Fo_readShelf d 40 [some (.inr (.inr (some 2))), none, some (.inl v2), none, some (.inl v4), some (.inr (.inr v5)), some (.inl v6), none, none] [] (hp s) (qRs (lp.1 s v2 v4 v5 v6))) ∧ (∀ (s : St) (v2 : Int32) (v4 : Int32) (v5 : Option Nat) (v6 : Int32) (w0 : Option Nat), wlp.2.1 s v2 v4 v5 v6 w0 → X m_Fo_readShelf d 52 [some (.inr (.inr (some 2))), none, some (.inl v2), none, some (.inl v4), some (.inr (.inr v5)), some (.inl v6), none, none] [.inr (.inr w0)] (hp s) (qRs (lp.2.1 s v2 v4 v5 v6 w0))) ∧ (∀ (s : St) (v2 : Int32) (v4 : Int32) (v5 : Option Nat) (v6 : Int32) (v7 : Option Nat) (w0 : Int32), wlp.2.2.1 s v2 v4 v5 v6 v7 w0 → X m_Fo_readShelf d 62 [some (.inr (.inr (some 2))), none, some (.inl v2), none, some (.inl v4), some (.inr (.inr v5)), some (.inl v6), some (.inr (.inr v7)), none] [.inl w0] (hp s) (qRs (lp.2.2.1 s v2 v4 v5 v6 v7 w0))) ∧ (∀ (s : St) (v2 : Int32) (v4 : Int32) (v5 : Option Nat) (v6 : Int32) (v7 : Option Nat), wlp.2.2.2 s v2 v4 v5 v6 v7 → X m_Fo_readShelf d 69 [some (.inr (.inr (some 2))), none, some (.inl v2), none, some (.inl v4), some (.inr (.inr v5)), some (.inl v6), some (.inr (.inr v7)), none] [] (hp s) (qRs (lp.2.2.2 s v2 v4 v5 v6 v7)))
def b_Fo_readShelf_40 (rec : G_read) (fu : Nat) (lp : LT_Fo_readShelf_40) (s : St) (v2 : Int32) (v4 : Int32) (v5 : Option Nat) (v6 : Int32) : Option Nat × St := (cond (cn2 .ge v6 v4) (v5, s) (cond (cn1 .ne (b2i (f_Le_stopped s))) (v5, s) (lp.2.1 ((rec.1 s (v2 + (1 : Int32))).2) v2 v4 v5 v6 ((rec.1 s (v2 + (1 : Int32))).1))))
def v_Fo_readShelf_40 (rec : G_read) (wrec : GW_read) (fu : Nat) (lp : LT_Fo_readShelf_40) (wlp : LW_Fo_readShelf_40) (s : St) (v2 : Int32) (v4 : Int32) (v5 : Option Nat) (v6 : Int32) : Prop := ((cn2 .ge v6 v4) = true → True) ∧ ((cn2 .ge v6 v4) = false → (w_Le_stopped s ∧ ((cn1 .ne (b2i (f_Le_stopped s))) = true → True) ∧ ((cn1 .ne (b2i (f_Le_stopped s))) = false → (wrec.1 s (v2 + (1 : Int32)) ∧ (wlp.2.1 ((rec.1 s (v2 + (1 : Int32))).2) v2 v4 v5 v6 ((rec.1 s (v2 + (1 : Int32))).1))))))
theorem cb_Fo_readShelf_40 {d : Nat} {rec : G_read} {wrec : GW_read} (hrec : hr_read (d + 4) rec wrec) (fu : Nat) {lp : LT_Fo_readShelf_40} {wlp : LW_Fo_readShelf_40} (hlp : hl_Fo_readShelf_40 (d + 5) lp wlp) (s : St) (v2 : Int32) (v4 : Int32) (v5 : Option Nat) (v6 : Int32) (hw : v_Fo_readShelf_40 rec wrec fu lp wlp s v2 v4 v5 v6) : X m_Fo_readShelf (d + 5) 40 [some (.inr (.inr (some 2))), none, some (.inl v2), none, some (.inl v4), some (.inr (.inr v5)), some (.inl v6), none, none] [] (hp s) (qRs (b_Fo_readShelf_40 rec fu lp s v2 v4 v5 v6)) := by
  unfold b_Fo_readShelf_40
  unfold v_Fo_readShelf_40 at hw
  refine X_run 3 (i1 := cond (cn2 .ge v6 v4) 76 43) (L1 := [some (.inr (.inr (some 2))), none, some (.inl v2), none, some (.inl v4), some (.inr (.inr v5)), some (.inl v6), none, none]) (st1 := []) rfl ?_
  refine X_brq (fun hb => ?_) (fun hb => ?_)
  · skip
    refine X_run 1 (i1 := 77) (L1 := [some (.inr (.inr (some 2))), none, some (.inl v2), none, some (.inl v4), some (.inr (.inr v5)), some (.inl v6), none, none]) (st1 := [.inr (.inr v5)]) rfl ?_
    exact X_aret rfl rfl qRs_i
  · have hw := hw.2 hb
    refine X_run 1 (i1 := 44) (L1 := [some (.inr (.inr (some 2))), none, some (.inl v2), none, some (.inl v4), some (.inr (.inr v5)), some (.inl v6), none, none]) (st1 := [.inr (.inr (some 2))]) rfl ?_
    refine X_gF (v := .inr (.inr (some 1))) rfl rfl rfl rfl ?_
    obtain ⟨hc, hw⟩ := hw
    refine X_callv m_Le_stopped (As := []) (st := []) ok_Le_stopped rfl rfl rfl (hp_obj rfl) rfl (Nat.le_of_ble_eq_true rfl) (Nat.le_of_ble_eq_true rfl) (c_Le_stopped (d := d + 4) s hc) ?_
    rintro _ _ ⟨rfl, rfl⟩
    show X _ _ 46 [some (.inr (.inr (some 2))), none, some (.inl v2), none, some (.inl v4), some (.inr (.inr v5)), some (.inl v6), none, none] [.inl (b2i (f_Le_stopped s))] (hp s) _
    refine X_run 1 (i1 := cond (cn1 .ne (b2i (f_Le_stopped s))) 76 47) (L1 := [some (.inr (.inr (some 2))), none, some (.inl v2), none, some (.inl v4), some (.inr (.inr v5)), some (.inl v6), none, none]) (st1 := []) rfl ?_
    refine X_brq (fun hb => ?_) (fun hb => ?_)
    · skip
      refine X_run 1 (i1 := 77) (L1 := [some (.inr (.inr (some 2))), none, some (.inl v2), none, some (.inl v4), some (.inr (.inr v5)), some (.inl v6), none, none]) (st1 := [.inr (.inr v5)]) rfl ?_
      exact X_aret rfl rfl qRs_i
    · have hw := hw.2 hb
      refine X_run 4 (i1 := 51) (L1 := [some (.inr (.inr (some 2))), none, some (.inl v2), none, some (.inl v4), some (.inr (.inr v5)), some (.inl v6), none, none]) (st1 := [.inl (v2 + (1 : Int32)), .inr (.inr (some 2))]) rfl ?_
      obtain ⟨hc, hw⟩ := hw
      refine X_callv m_Fo_readThing (As := [.inl (v2 + (1 : Int32))]) (st := []) ok_Fo_readThing rfl rfl rfl (hp_obj rfl) rfl (Nat.le_of_ble_eq_true rfl) (Nat.le_of_ble_eq_true rfl) (hrec.1 s (v2 + (1 : Int32)) hc) ?_
      rintro _ _ ⟨rfl, rfl⟩
      show X _ _ 52 [some (.inr (.inr (some 2))), none, some (.inl v2), none, some (.inl v4), some (.inr (.inr v5)), some (.inl v6), none, none] [.inr (.inr ((rec.1 s (v2 + (1 : Int32))).1))] (hp ((rec.1 s (v2 + (1 : Int32))).2)) _
      show X _ _ 52 [some (.inr (.inr (some 2))), none, some (.inl v2), none, some (.inl v4), some (.inr (.inr v5)), some (.inl v6), none, none] [.inr (.inr ((rec.1 s (v2 + (1 : Int32))).1))] (hp ((rec.1 s (v2 + (1 : Int32))).2)) _
      exact hlp.2.1 ((rec.1 s (v2 + (1 : Int32))).2) v2 v4 v5 v6 ((rec.1 s (v2 + (1 : Int32))).1) hw
def b_Fo_readShelf_52 (rec : G_read) (fu : Nat) (lp : LT_Fo_readShelf_40) (s : St) (v2 : Int32) (v4 : Int32) (v5 : Option Nat) (v6 : Int32) (w0 : Option Nat) : Option Nat × St := (cond (cn1 .eq (b2i (f_Le_stopped s))) (lp.2.2.1 s v2 v4 v5 v6 w0 (f_Sh_refusal s v5 w0)) (lp.2.2.1 s v2 v4 v5 v6 w0 (0 : Int32)))
def v_Fo_readShelf_52 (rec : G_read) (wrec : GW_read) (fu : Nat) (lp : LT_Fo_readShelf_40) (wlp : LW_Fo_readShelf_40) (s : St) (v2 : Int32) (v4 : Int32) (v5 : Option Nat) (v6 : Int32) (w0 : Option Nat) : Prop := (w_Le_stopped s ∧ ((cn1 .eq (b2i (f_Le_stopped s))) = true → (w_Sh_refusal s v5 w0 ∧ (oC (sD s) v5 = some 7 ∧ (wlp.2.2.1 s v2 v4 v5 v6 w0 (f_Sh_refusal s v5 w0))))) ∧ ((cn1 .eq (b2i (f_Le_stopped s))) = false → (wlp.2.2.1 s v2 v4 v5 v6 w0 (0 : Int32))))
theorem cb_Fo_readShelf_52 {d : Nat} {rec : G_read} {wrec : GW_read} (hrec : hr_read (d + 4) rec wrec) (fu : Nat) {lp : LT_Fo_readShelf_40} {wlp : LW_Fo_readShelf_40} (hlp : hl_Fo_readShelf_40 (d + 5) lp wlp) (s : St) (v2 : Int32) (v4 : Int32) (v5 : Option Nat) (v6 : Int32) (w0 : Option Nat) (hw : v_Fo_readShelf_52 rec wrec fu lp wlp s v2 v4 v5 v6 w0) : X m_Fo_readShelf (d + 5) 52 [some (.inr (.inr (some 2))), none, some (.inl v2), none, some (.inl v4), some (.inr (.inr v5)), some (.inl v6), none, none] [.inr (.inr w0)] (hp s) (qRs (b_Fo_readShelf_52 rec fu lp s v2 v4 v5 v6 w0)) := by
  unfold b_Fo_readShelf_52
  unfold v_Fo_readShelf_52 at hw
  refine X_run 2 (i1 := 54) (L1 := [some (.inr (.inr (some 2))), none, some (.inl v2), none, some (.inl v4), some (.inr (.inr v5)), some (.inl v6), some (.inr (.inr w0)), none]) (st1 := [.inr (.inr (some 2))]) rfl ?_
  refine X_gF (v := .inr (.inr (some 1))) rfl rfl rfl rfl ?_
  obtain ⟨hc, hw⟩ := hw
  refine X_callv m_Le_stopped (As := []) (st := []) ok_Le_stopped rfl rfl rfl (hp_obj rfl) rfl (Nat.le_of_ble_eq_true rfl) (Nat.le_of_ble_eq_true rfl) (c_Le_stopped (d := d + 4) s hc) ?_
  rintro _ _ ⟨rfl, rfl⟩
  show X _ _ 56 [some (.inr (.inr (some 2))), none, some (.inl v2), none, some (.inl v4), some (.inr (.inr v5)), some (.inl v6), some (.inr (.inr w0)), none] [.inl (b2i (f_Le_stopped s))] (hp s) _
  refine X_run 1 (i1 := cond (cn1 .eq (b2i (f_Le_stopped s))) 59 57) (L1 := [some (.inr (.inr (some 2))), none, some (.inl v2), none, some (.inl v4), some (.inr (.inr v5)), some (.inl v6), some (.inr (.inr w0)), none]) (st1 := []) rfl ?_
  refine X_brq (fun hb => ?_) (fun hb => ?_)
  · have hw := hw.1 hb
    refine X_run 2 (i1 := 61) (L1 := [some (.inr (.inr (some 2))), none, some (.inl v2), none, some (.inl v4), some (.inr (.inr v5)), some (.inl v6), some (.inr (.inr w0)), none]) (st1 := [.inr (.inr w0), .inr (.inr v5)]) rfl ?_
    obtain ⟨hc, hw⟩ := hw
    obtain ⟨hr, hw⟩ := hw
    refine X_dcallv m_Sh_refusal (As := [.inr (.inr w0)]) (st := []) ok_Sh_refusal rfl rfl rfl hr rfl (Nat.le_of_ble_eq_true rfl) (Nat.le_of_ble_eq_true rfl) (c_Sh_refusal (d := d + 3) s v5 w0 hc) ?_
    rintro _ _ ⟨rfl, rfl⟩
    show X _ _ 62 [some (.inr (.inr (some 2))), none, some (.inl v2), none, some (.inl v4), some (.inr (.inr v5)), some (.inl v6), some (.inr (.inr w0)), none] [.inl (f_Sh_refusal s v5 w0)] (hp s) _
    show X _ _ 62 [some (.inr (.inr (some 2))), none, some (.inl v2), none, some (.inl v4), some (.inr (.inr v5)), some (.inl v6), some (.inr (.inr w0)), none] [.inl (f_Sh_refusal s v5 w0)] (hp s) _
    exact hlp.2.2.1 s v2 v4 v5 v6 w0 (f_Sh_refusal s v5 w0) hw
  · have hw := hw.2 hb
    refine X_run 2 (i1 := 62) (L1 := [some (.inr (.inr (some 2))), none, some (.inl v2), none, some (.inl v4), some (.inr (.inr v5)), some (.inl v6), some (.inr (.inr w0)), none]) (st1 := [.inl (0 : Int32)]) rfl ?_
    exact hlp.2.2.1 s v2 v4 v5 v6 w0 (0 : Int32) hw
def b_Fo_readShelf_62 (rec : G_read) (fu : Nat) (lp : LT_Fo_readShelf_40) (s : St) (v2 : Int32) (v4 : Int32) (v5 : Option Nat) (v6 : Int32) (v7 : Option Nat) (w0 : Int32) : Option Nat × St := (cond (cn1 .eq w0) (lp.2.2.2 s v2 v4 v5 v6 v7) (lp.2.2.2 (f_Le_fault s w0) v2 v4 v5 v6 v7))
def v_Fo_readShelf_62 (rec : G_read) (wrec : GW_read) (fu : Nat) (lp : LT_Fo_readShelf_40) (wlp : LW_Fo_readShelf_40) (s : St) (v2 : Int32) (v4 : Int32) (v5 : Option Nat) (v6 : Int32) (v7 : Option Nat) (w0 : Int32) : Prop := ((cn1 .eq w0) = true → (wlp.2.2.2 s v2 v4 v5 v6 v7)) ∧ ((cn1 .eq w0) = false → (w_Le_fault s w0 ∧ (wlp.2.2.2 (f_Le_fault s w0) v2 v4 v5 v6 v7)))
theorem cb_Fo_readShelf_62 {d : Nat} {rec : G_read} {wrec : GW_read} (hrec : hr_read (d + 4) rec wrec) (fu : Nat) {lp : LT_Fo_readShelf_40} {wlp : LW_Fo_readShelf_40} (hlp : hl_Fo_readShelf_40 (d + 5) lp wlp) (s : St) (v2 : Int32) (v4 : Int32) (v5 : Option Nat) (v6 : Int32) (v7 : Option Nat) (w0 : Int32) (hw : v_Fo_readShelf_62 rec wrec fu lp wlp s v2 v4 v5 v6 v7 w0) : X m_Fo_readShelf (d + 5) 62 [some (.inr (.inr (some 2))), none, some (.inl v2), none, some (.inl v4), some (.inr (.inr v5)), some (.inl v6), some (.inr (.inr v7)), none] [.inl w0] (hp s) (qRs (b_Fo_readShelf_62 rec fu lp s v2 v4 v5 v6 v7 w0)) := by
  unfold b_Fo_readShelf_62
  unfold v_Fo_readShelf_62 at hw
  refine X_run 3 (i1 := cond (cn1 .eq w0) 69 65) (L1 := [some (.inr (.inr (some 2))), none, some (.inl v2), none, some (.inl v4), some (.inr (.inr v5)), some (.inl v6), some (.inr (.inr v7)), some (.inl w0)]) (st1 := []) rfl ?_
  refine X_brq (fun hb => ?_) (fun hb => ?_)
  · have hw := hw.1 hb
    refine X_mask [true, true, true, true, true, true, true, true, false] ?_
    exact hlp.2.2.2 s v2 v4 v5 v6 v7 hw
  · have hw := hw.2 hb
    refine X_run 1 (i1 := 66) (L1 := [some (.inr (.inr (some 2))), none, some (.inl v2), none, some (.inl v4), some (.inr (.inr v5)), some (.inl v6), some (.inr (.inr v7)), some (.inl w0)]) (st1 := [.inr (.inr (some 2))]) rfl ?_
    refine X_gF (v := .inr (.inr (some 1))) rfl rfl rfl rfl ?_
    refine X_run 1 (i1 := 68) (L1 := [some (.inr (.inr (some 2))), none, some (.inl v2), none, some (.inl v4), some (.inr (.inr v5)), some (.inl v6), some (.inr (.inr v7)), some (.inl w0)]) (st1 := [.inl w0, .inr (.inr (some 1))]) rfl ?_
    obtain ⟨hc, hw⟩ := hw
    refine X_callv m_Le_fault (As := [.inl w0]) (st := []) ok_Le_fault rfl rfl rfl (hp_obj rfl) rfl (Nat.le_of_ble_eq_true rfl) (Nat.le_of_ble_eq_true rfl) (c_Le_fault (d := d + 3) s w0 hc) ?_
    rintro _ _ ⟨rfl, rfl⟩
    show X _ _ 69 [some (.inr (.inr (some 2))), none, some (.inl v2), none, some (.inl v4), some (.inr (.inr v5)), some (.inl v6), some (.inr (.inr v7)), some (.inl w0)] [] (hp (f_Le_fault s w0)) _
    show X _ _ 69 [some (.inr (.inr (some 2))), none, some (.inl v2), none, some (.inl v4), some (.inr (.inr v5)), some (.inl v6), some (.inr (.inr v7)), some (.inl w0)] [] (hp (f_Le_fault s w0)) _
    refine X_mask [true, true, true, true, true, true, true, true, false] ?_
    exact hlp.2.2.2 (f_Le_fault s w0) v2 v4 v5 v6 v7 hw
def b_Fo_readShelf_69 (rec : G_read) (fu : Nat) (lp : LT_Fo_readShelf_40) (s : St) (v2 : Int32) (v4 : Int32) (v5 : Option Nat) (v6 : Int32) (v7 : Option Nat) : Option Nat × St := (lp.1 (pQ s (dR (sD s) (gR (sD s) v5 1) (va_up (aRF (sD s) (gR (sD s) v5 1)) (Int32.toNatClampNeg v6) v7)) (sN s) (sU s)) v2 v4 v5 (v6 + Int32.ofInt (1)))
def v_Fo_readShelf_69 (rec : G_read) (wrec : GW_read) (fu : Nat) (lp : LT_Fo_readShelf_40) (wlp : LW_Fo_readShelf_40) (s : St) (v2 : Int32) (v4 : Int32) (v5 : Option Nat) (v6 : Int32) (v7 : Option Nat) : Prop := (ob (sD s) v5 7 ∧ (isR (sD s) (gR (sD s) v5 1) ∧ (vp_in v6 (aRN (sD s) (gR (sD s) v5 1)) ∧ (tho (sD s) v7 ∧ (wlp.1 (pQ s (dR (sD s) (gR (sD s) v5 1) (va_up (aRF (sD s) (gR (sD s) v5 1)) (Int32.toNatClampNeg v6) v7)) (sN s) (sU s)) v2 v4 v5 (v6 + Int32.ofInt (1)))))))
theorem cb_Fo_readShelf_69 {d : Nat} {rec : G_read} {wrec : GW_read} (hrec : hr_read (d + 4) rec wrec) (fu : Nat) {lp : LT_Fo_readShelf_40} {wlp : LW_Fo_readShelf_40} (hlp : hl_Fo_readShelf_40 (d + 5) lp wlp) (s : St) (v2 : Int32) (v4 : Int32) (v5 : Option Nat) (v6 : Int32) (v7 : Option Nat) (hw : v_Fo_readShelf_69 rec wrec fu lp wlp s v2 v4 v5 v6 v7) : X m_Fo_readShelf (d + 5) 69 [some (.inr (.inr (some 2))), none, some (.inl v2), none, some (.inl v4), some (.inr (.inr v5)), some (.inl v6), some (.inr (.inr v7)), none] [] (hp s) (qRs (b_Fo_readShelf_69 rec fu lp s v2 v4 v5 v6 v7)) := by
  unfold b_Fo_readShelf_69
  unfold v_Fo_readShelf_69 at hw
  refine X_run 1 (i1 := 70) (L1 := [some (.inr (.inr (some 2))), none, some (.inl v2), none, some (.inl v4), some (.inr (.inr v5)), some (.inl v6), some (.inr (.inr v7)), none]) (st1 := [.inr (.inr v5)]) rfl ?_
  obtain ⟨hc, hw⟩ := hw
  refine X_dR rfl hc rfl ?_
  show X _ _ 71 [some (.inr (.inr (some 2))), none, some (.inl v2), none, some (.inl v4), some (.inr (.inr v5)), some (.inl v6), some (.inr (.inr v7)), none] [.inr (.inr (gR (sD s) v5 1))] (hp s) _
  refine X_run 2 (i1 := 73) (L1 := [some (.inr (.inr (some 2))), none, some (.inl v2), none, some (.inl v4), some (.inr (.inr v5)), some (.inl v6), some (.inr (.inr v7)), none]) (st1 := [.inr (.inr v7), .inl v6, .inr (.inr (gR (sD s) v5 1))]) rfl ?_
  obtain ⟨hc, hw⟩ := hw
  obtain ⟨hin, hw⟩ := hw
  obtain ⟨hv, hw⟩ := hw
  refine X_dsR rfl hc hin hv ?_
  show X _ _ 74 [some (.inr (.inr (some 2))), none, some (.inl v2), none, some (.inl v4), some (.inr (.inr v5)), some (.inl v6), some (.inr (.inr v7)), none] [] (hp (pQ s (dR (sD s) (gR (sD s) v5 1) (va_up (aRF (sD s) (gR (sD s) v5 1)) (Int32.toNatClampNeg v6) v7)) (sN s) (sU s))) _
  refine X_run 2 (i1 := 40) (L1 := [some (.inr (.inr (some 2))), none, some (.inl v2), none, some (.inl v4), some (.inr (.inr v5)), some (.inl (v6 + Int32.ofInt (1))), some (.inr (.inr v7)), none]) (st1 := []) rfl ?_
  refine X_mask [true, true, true, true, true, true, true, false, true] ?_
  exact hlp.1 (pQ s (dR (sD s) (gR (sD s) v5 1) (va_up (aRF (sD s) (gR (sD s) v5 1)) (Int32.toNatClampNeg v6) v7)) (sN s) (sU s)) v2 v4 v5 (v6 + Int32.ofInt (1)) hw
def T_Fo_readShelf_40 (rec : G_read) (fu : Nat) : Nat → LT_Fo_readShelf_40
  | 0 => (fun s _ _ _ _ => (none, s), fun s _ _ _ _ _ => (none, s), fun s _ _ _ _ _ _ => (none, s), fun s _ _ _ _ _ => (none, s))
  | n + 1 => (fun s v2 v4 v5 v6 => b_Fo_readShelf_40 rec fu (T_Fo_readShelf_40 rec fu n) s v2 v4 v5 v6, fun s v2 v4 v5 v6 w0 => b_Fo_readShelf_52 rec fu (T_Fo_readShelf_40 rec fu n) s v2 v4 v5 v6 w0, fun s v2 v4 v5 v6 v7 w0 => b_Fo_readShelf_62 rec fu (T_Fo_readShelf_40 rec fu n) s v2 v4 v5 v6 v7 w0, fun s v2 v4 v5 v6 v7 => b_Fo_readShelf_69 rec fu (T_Fo_readShelf_40 rec fu n) s v2 v4 v5 v6 v7)
def WT_Fo_readShelf_40 (rec : G_read) (wrec : GW_read) (fu : Nat) : Nat → LW_Fo_readShelf_40
  | 0 => (fun _ _ _ _ _ => False, fun _ _ _ _ _ _ => False, fun _ _ _ _ _ _ _ => False, fun _ _ _ _ _ _ => False)
  | n + 1 => (fun s v2 v4 v5 v6 => v_Fo_readShelf_40 rec wrec fu (T_Fo_readShelf_40 rec fu n) (WT_Fo_readShelf_40 rec wrec fu n) s v2 v4 v5 v6, fun s v2 v4 v5 v6 w0 => v_Fo_readShelf_52 rec wrec fu (T_Fo_readShelf_40 rec fu n) (WT_Fo_readShelf_40 rec wrec fu n) s v2 v4 v5 v6 w0, fun s v2 v4 v5 v6 v7 w0 => v_Fo_readShelf_62 rec wrec fu (T_Fo_readShelf_40 rec fu n) (WT_Fo_readShelf_40 rec wrec fu n) s v2 v4 v5 v6 v7 w0, fun s v2 v4 v5 v6 v7 => v_Fo_readShelf_69 rec wrec fu (T_Fo_readShelf_40 rec fu n) (WT_Fo_readShelf_40 rec wrec fu n) s v2 v4 v5 v6 v7)
theorem cT_Fo_readShelf_40 {d : Nat} {rec : G_read} {wrec : GW_read} (hrec : hr_read (d + 4) rec wrec) (fu : Nat) : ∀ n : Nat, hl_Fo_readShelf_40 (d + 5) (T_Fo_readShelf_40 rec fu n) (WT_Fo_readShelf_40 rec wrec fu n)
  | 0 => ⟨fun _ _ _ _ _ hw => hw.elim, fun _ _ _ _ _ _ hw => hw.elim, fun _ _ _ _ _ _ _ hw => hw.elim, fun _ _ _ _ _ _ hw => hw.elim⟩
  | n + 1 => ⟨fun s v2 v4 v5 v6 hw => cb_Fo_readShelf_40 hrec fu (cT_Fo_readShelf_40 hrec fu n) s v2 v4 v5 v6 hw, fun s v2 v4 v5 v6 w0 hw => cb_Fo_readShelf_52 hrec fu (cT_Fo_readShelf_40 hrec fu n) s v2 v4 v5 v6 w0 hw, fun s v2 v4 v5 v6 v7 w0 hw => cb_Fo_readShelf_62 hrec fu (cT_Fo_readShelf_40 hrec fu n) s v2 v4 v5 v6 v7 w0 hw, fun s v2 v4 v5 v6 v7 hw => cb_Fo_readShelf_69 hrec fu (cT_Fo_readShelf_40 hrec fu n) s v2 v4 v5 v6 v7 hw⟩
def t_Fo_readShelf_37 (rec : G_read) (fu : Nat) (s : St) (v2 : Int32) (v4 : Int32) (w0 : Option Nat) : Option Nat × St := ((T_Fo_readShelf_40 rec fu fu).1 s v2 v4 w0 (0 : Int32))
def w_Fo_readShelf_37 (rec : G_read) (wrec : GW_read) (fu : Nat) (s : St) (v2 : Int32) (v4 : Int32) (w0 : Option Nat) : Prop := ((WT_Fo_readShelf_40 rec wrec fu fu).1 s v2 v4 w0 (0 : Int32))
theorem ct_Fo_readShelf_37 {d : Nat} {rec : G_read} {wrec : GW_read} (hrec : hr_read (d + 4) rec wrec) (fu : Nat) (s : St) (v2 : Int32) (v4 : Int32) (w0 : Option Nat) (hw : w_Fo_readShelf_37 rec wrec fu s v2 v4 w0) : X m_Fo_readShelf (d + 5) 37 [some (.inr (.inr (some 2))), none, some (.inl v2), none, some (.inl v4), none, none, none, none] [.inr (.inr w0)] (hp s) (qRs (t_Fo_readShelf_37 rec fu s v2 v4 w0)) := by
  unfold t_Fo_readShelf_37
  unfold w_Fo_readShelf_37 at hw
  refine X_run 3 (i1 := 40) (L1 := [some (.inr (.inr (some 2))), none, some (.inl v2), none, some (.inl v4), some (.inr (.inr w0)), some (.inl (0 : Int32)), none, none]) (st1 := []) rfl ?_
  exact (cT_Fo_readShelf_40 hrec fu fu).1 s v2 v4 w0 (0 : Int32) hw
def t_Fo_readShelf_27 (rec : G_read) (fu : Nat) (s : St) (v2 : Int32) (v3 : Int32) (w0 : Int32) : Option Nat × St := (cond (cn1 .ge w0) (t_Fo_readShelf_37 rec fu (f_Sh_init (pQ s (nwO (sD s) (sN s) 7) ((sN s) + 1) ((sU s) + 2)) (some (sN s)) v3 w0) v2 w0 (some (sN s))) (none, s))
def w_Fo_readShelf_27 (rec : G_read) (wrec : GW_read) (fu : Nat) (s : St) (v2 : Int32) (v3 : Int32) (w0 : Int32) : Prop := ((cn1 .ge w0) = true → (rm (sN s) (sU s) 2 ∧ (w_Sh_init (pQ s (nwO (sD s) (sN s) 7) ((sN s) + 1) ((sU s) + 2)) (some (sN s)) v3 w0 ∧ ((oC (nwO (sD s) (sN s) 7) (some (sN s))).isSome = true ∧ (w_Fo_readShelf_37 rec wrec fu (f_Sh_init (pQ s (nwO (sD s) (sN s) 7) ((sN s) + 1) ((sU s) + 2)) (some (sN s)) v3 w0) v2 w0 (some (sN s))))))) ∧ ((cn1 .ge w0) = false → True)
theorem ct_Fo_readShelf_27 {d : Nat} {rec : G_read} {wrec : GW_read} (hrec : hr_read (d + 4) rec wrec) (fu : Nat) (s : St) (v2 : Int32) (v3 : Int32) (w0 : Int32) (hw : w_Fo_readShelf_27 rec wrec fu s v2 v3 w0) : X m_Fo_readShelf (d + 5) 27 [some (.inr (.inr (some 2))), none, some (.inl v2), some (.inl v3), none, none, none, none, none] [.inl w0] (hp s) (qRs (t_Fo_readShelf_27 rec fu s v2 v3 w0)) := by
  unfold t_Fo_readShelf_27
  unfold w_Fo_readShelf_27 at hw
  refine X_run 3 (i1 := cond (cn1 .ge w0) 32 30) (L1 := [some (.inr (.inr (some 2))), none, some (.inl v2), some (.inl v3), some (.inl w0), none, none, none, none]) (st1 := []) rfl ?_
  refine X_brq (fun hb => ?_) (fun hb => ?_)
  · have hw := hw.1 hb
    obtain ⟨hr, hw⟩ := hw
    refine X_dnew rfl rfl rfl hr ?_
    show X _ _ 33 [some (.inr (.inr (some 2))), none, some (.inl v2), some (.inl v3), some (.inl w0), none, none, none, none] [.inr (.inr (some (sN s)))] (hp (pQ s (nwO (sD s) (sN s) 7) ((sN s) + 1) ((sU s) + 2))) _
    refine X_run 3 (i1 := 36) (L1 := [some (.inr (.inr (some 2))), none, some (.inl v2), some (.inl v3), some (.inl w0), none, none, none, none]) (st1 := [.inl w0, .inl v3, .inr (.inr (some (sN s))), .inr (.inr (some (sN s)))]) rfl ?_
    obtain ⟨hc, hw⟩ := hw
    obtain ⟨hr, hw⟩ := hw
    refine X_dcalln m_Sh_init (As := [.inl v3, .inl w0]) (st := [.inr (.inr (some (sN s)))]) ok_Sh_init rfl rfl rfl rfl hr (Nat.le_of_ble_eq_true rfl) (Nat.le_of_ble_eq_true rfl) (c_Sh_init (d := d + 2) (pQ s (nwO (sD s) (sN s) 7) ((sN s) + 1) ((sU s) + 2)) (some (sN s)) v3 w0 hc) ?_
    rintro _ _ ⟨rfl, rfl⟩
    show X _ _ 37 [some (.inr (.inr (some 2))), none, some (.inl v2), some (.inl v3), some (.inl w0), none, none, none, none] [.inr (.inr (some (sN s)))] (hp (f_Sh_init (pQ s (nwO (sD s) (sN s) 7) ((sN s) + 1) ((sU s) + 2)) (some (sN s)) v3 w0)) _
    show X _ _ 37 [some (.inr (.inr (some 2))), none, some (.inl v2), some (.inl v3), some (.inl w0), none, none, none, none] [.inr (.inr (some (sN s)))] (hp (f_Sh_init (pQ s (nwO (sD s) (sN s) 7) ((sN s) + 1) ((sU s) + 2)) (some (sN s)) v3 w0)) _
    refine X_mask [true, true, true, false, true, true, true, true, true] ?_
    exact ct_Fo_readShelf_37 hrec fu (f_Sh_init (pQ s (nwO (sD s) (sN s) 7) ((sN s) + 1) ((sU s) + 2)) (some (sN s)) v3 w0) v2 w0 (some (sN s)) hw
  · skip
    refine X_run 1 (i1 := 31) (L1 := [some (.inr (.inr (some 2))), none, some (.inl v2), some (.inl v3), some (.inl w0), none, none, none, none]) (st1 := [.inr (.inr none)]) rfl ?_
    exact X_aret rfl rfl qRs_i
def t_Fo_readShelf_9 (rec : G_read) (fu : Nat) (s : St) (v2 : Int32) (w0 : Int32) : Option Nat × St := (cond (cn1 .eq (b2i (f_Le_stopped s))) (cond (cn2 .lt w0 (5 : Int32)) (t_Fo_readShelf_27 rec fu ((f_Fo_readSize fu s).2) v2 w0 ((f_Fo_readSize fu s).1)) (none, (f_Le_fault s (4 : Int32)))) (none, s))
def w_Fo_readShelf_9 (rec : G_read) (wrec : GW_read) (fu : Nat) (s : St) (v2 : Int32) (w0 : Int32) : Prop := (w_Le_stopped s ∧ ((cn1 .eq (b2i (f_Le_stopped s))) = true → ((cn2 .lt w0 (5 : Int32)) = true → (w_Fo_readSize fu s ∧ (w_Fo_readShelf_27 rec wrec fu ((f_Fo_readSize fu s).2) v2 w0 ((f_Fo_readSize fu s).1)))) ∧ ((cn2 .lt w0 (5 : Int32)) = false → (w_Le_fault s (4 : Int32) ∧ True))) ∧ ((cn1 .eq (b2i (f_Le_stopped s))) = false → True))
theorem ct_Fo_readShelf_9 {d : Nat} {rec : G_read} {wrec : GW_read} (hrec : hr_read (d + 4) rec wrec) (fu : Nat) (s : St) (v2 : Int32) (w0 : Int32) (hw : w_Fo_readShelf_9 rec wrec fu s v2 w0) : X m_Fo_readShelf (d + 5) 9 [some (.inr (.inr (some 2))), none, some (.inl v2), none, none, none, none, none, none] [.inl w0] (hp s) (qRs (t_Fo_readShelf_9 rec fu s v2 w0)) := by
  unfold t_Fo_readShelf_9
  unfold w_Fo_readShelf_9 at hw
  refine X_run 2 (i1 := 11) (L1 := [some (.inr (.inr (some 2))), none, some (.inl v2), some (.inl w0), none, none, none, none, none]) (st1 := [.inr (.inr (some 2))]) rfl ?_
  refine X_gF (v := .inr (.inr (some 1))) rfl rfl rfl rfl ?_
  obtain ⟨hc, hw⟩ := hw
  refine X_callv m_Le_stopped (As := []) (st := []) ok_Le_stopped rfl rfl rfl (hp_obj rfl) rfl (Nat.le_of_ble_eq_true rfl) (Nat.le_of_ble_eq_true rfl) (c_Le_stopped (d := d + 4) s hc) ?_
  rintro _ _ ⟨rfl, rfl⟩
  show X _ _ 13 [some (.inr (.inr (some 2))), none, some (.inl v2), some (.inl w0), none, none, none, none, none] [.inl (b2i (f_Le_stopped s))] (hp s) _
  refine X_run 1 (i1 := cond (cn1 .eq (b2i (f_Le_stopped s))) 16 14) (L1 := [some (.inr (.inr (some 2))), none, some (.inl v2), some (.inl w0), none, none, none, none, none]) (st1 := []) rfl ?_
  refine X_brq (fun hb => ?_) (fun hb => ?_)
  · have hw := hw.1 hb
    refine X_run 3 (i1 := cond (cn2 .lt w0 (5 : Int32)) 25 19) (L1 := [some (.inr (.inr (some 2))), none, some (.inl v2), some (.inl w0), none, none, none, none, none]) (st1 := []) rfl ?_
    refine X_brq (fun hb => ?_) (fun hb => ?_)
    · have hw := hw.1 hb
      refine X_run 1 (i1 := 26) (L1 := [some (.inr (.inr (some 2))), none, some (.inl v2), some (.inl w0), none, none, none, none, none]) (st1 := [.inr (.inr (some 2))]) rfl ?_
      obtain ⟨hc, hw⟩ := hw
      refine X_callv m_Fo_readSize (As := []) (st := []) ok_Fo_readSize rfl rfl rfl (hp_obj rfl) rfl (Nat.le_of_ble_eq_true rfl) (Nat.le_of_ble_eq_true rfl) (c_Fo_readSize (d := d + 1) fu s hc) ?_
      rintro _ _ ⟨rfl, rfl⟩
      show X _ _ 27 [some (.inr (.inr (some 2))), none, some (.inl v2), some (.inl w0), none, none, none, none, none] [.inl ((f_Fo_readSize fu s).1)] (hp ((f_Fo_readSize fu s).2)) _
      show X _ _ 27 [some (.inr (.inr (some 2))), none, some (.inl v2), some (.inl w0), none, none, none, none, none] [.inl ((f_Fo_readSize fu s).1)] (hp ((f_Fo_readSize fu s).2)) _
      exact ct_Fo_readShelf_27 hrec fu ((f_Fo_readSize fu s).2) v2 w0 ((f_Fo_readSize fu s).1) hw
    · have hw := hw.2 hb
      refine X_run 1 (i1 := 20) (L1 := [some (.inr (.inr (some 2))), none, some (.inl v2), some (.inl w0), none, none, none, none, none]) (st1 := [.inr (.inr (some 2))]) rfl ?_
      refine X_gF (v := .inr (.inr (some 1))) rfl rfl rfl rfl ?_
      refine X_run 1 (i1 := 22) (L1 := [some (.inr (.inr (some 2))), none, some (.inl v2), some (.inl w0), none, none, none, none, none]) (st1 := [.inl (4 : Int32), .inr (.inr (some 1))]) rfl ?_
      obtain ⟨hc, hw⟩ := hw
      refine X_callv m_Le_fault (As := [.inl (4 : Int32)]) (st := []) ok_Le_fault rfl rfl rfl (hp_obj rfl) rfl (Nat.le_of_ble_eq_true rfl) (Nat.le_of_ble_eq_true rfl) (c_Le_fault (d := d + 3) s (4 : Int32) hc) ?_
      rintro _ _ ⟨rfl, rfl⟩
      show X _ _ 23 [some (.inr (.inr (some 2))), none, some (.inl v2), some (.inl w0), none, none, none, none, none] [] (hp (f_Le_fault s (4 : Int32))) _
      refine X_run 1 (i1 := 24) (L1 := [some (.inr (.inr (some 2))), none, some (.inl v2), some (.inl w0), none, none, none, none, none]) (st1 := [.inr (.inr none)]) rfl ?_
      exact X_aret rfl rfl qRs_i
  · skip
    refine X_run 1 (i1 := 15) (L1 := [some (.inr (.inr (some 2))), none, some (.inl v2), some (.inl w0), none, none, none, none, none]) (st1 := [.inr (.inr none)]) rfl ?_
    exact X_aret rfl rfl qRs_i
def t_Fo_readShelf_6 (rec : G_read) (fu : Nat) (s : St) (v2 : Int32) (w0 : Int64) : Option Nat × St := (t_Fo_readShelf_9 rec fu s v2 (Int64.toInt32 w0))
def w_Fo_readShelf_6 (rec : G_read) (wrec : GW_read) (fu : Nat) (s : St) (v2 : Int32) (w0 : Int64) : Prop := (w_Fo_readShelf_9 rec wrec fu s v2 (Int64.toInt32 w0))
theorem ct_Fo_readShelf_6 {d : Nat} {rec : G_read} {wrec : GW_read} (hrec : hr_read (d + 4) rec wrec) (fu : Nat) (s : St) (v2 : Int32) (w0 : Int64) (hw : w_Fo_readShelf_6 rec wrec fu s v2 w0) : X m_Fo_readShelf (d + 5) 6 [some (.inr (.inr (some 2))), none, some (.inl v2), none, none, none, none, none, none] [.inr (.inl w0)] (hp s) (qRs (t_Fo_readShelf_6 rec fu s v2 w0)) := by
  unfold t_Fo_readShelf_6
  unfold w_Fo_readShelf_6 at hw
  refine X_run 2 (i1 := 9) (L1 := [some (.inr (.inr (some 2))), none, some (.inl v2), none, none, none, none, none, none]) (st1 := [.inl (Int64.toInt32 w0)]) rfl ?_
  exact ct_Fo_readShelf_9 hrec fu s v2 (Int64.toInt32 w0) hw
def f_Fo_readShelf (rec : G_read) (fu : Nat) (s : St) (a0 : Int32) (a1 : Int32) : Option Nat × St := (cond (cn2 .ne a0 (10 : Int32)) (t_Fo_readShelf_9 rec fu s a1 (-1 : Int32)) (t_Fo_readShelf_6 rec fu ((f_Fo_readBytes fu s (1 : Int32)).2) a1 ((f_Fo_readBytes fu s (1 : Int32)).1)))
def w_Fo_readShelf (rec : G_read) (wrec : GW_read) (fu : Nat) (s : St) (a0 : Int32) (a1 : Int32) : Prop := ((cn2 .ne a0 (10 : Int32)) = true → (w_Fo_readShelf_9 rec wrec fu s a1 (-1 : Int32))) ∧ ((cn2 .ne a0 (10 : Int32)) = false → (w_Fo_readBytes fu s (1 : Int32) ∧ (w_Fo_readShelf_6 rec wrec fu ((f_Fo_readBytes fu s (1 : Int32)).2) a1 ((f_Fo_readBytes fu s (1 : Int32)).1))))
theorem c_Fo_readShelf {d : Nat} {rec : G_read} {wrec : GW_read} (hrec : hr_read (d + 4) rec wrec) (fu : Nat) (s : St) (a0 : Int32) (a1 : Int32) (hw : w_Fo_readShelf rec wrec fu s a0 a1) : X m_Fo_readShelf (d + 5) 0 (entL 9 [.inr (.inr (some 2)), .inl a0, .inl a1]) [] (hp s) (qRs (f_Fo_readShelf rec fu s a0 a1)) := by
  unfold f_Fo_readShelf
  unfold w_Fo_readShelf at hw
  refine X_run 3 (i1 := cond (cn2 .ne a0 (10 : Int32)) 8 3) (L1 := [some (.inr (.inr (some 2))), some (.inl a0), some (.inl a1), none, none, none, none, none, none]) (st1 := []) rfl ?_
  refine X_brq (fun hb => ?_) (fun hb => ?_)
  · have hw := hw.1 hb
    refine X_run 1 (i1 := 9) (L1 := [some (.inr (.inr (some 2))), some (.inl a0), some (.inl a1), none, none, none, none, none, none]) (st1 := [.inl (-1 : Int32)]) rfl ?_
    refine X_mask [true, false, true, true, true, true, true, true, true] ?_
    exact ct_Fo_readShelf_9 hrec fu s a1 (-1 : Int32) hw
  · have hw := hw.2 hb
    refine X_run 2 (i1 := 5) (L1 := [some (.inr (.inr (some 2))), some (.inl a0), some (.inl a1), none, none, none, none, none, none]) (st1 := [.inl (1 : Int32), .inr (.inr (some 2))]) rfl ?_
    obtain ⟨hc, hw⟩ := hw
    refine X_callv m_Fo_readBytes (As := [.inl (1 : Int32)]) (st := []) ok_Fo_readBytes rfl rfl rfl (hp_obj rfl) rfl (Nat.le_of_ble_eq_true rfl) (Nat.le_of_ble_eq_true rfl) (c_Fo_readBytes (d := d + 2) fu s (1 : Int32) hc) ?_
    rintro _ _ ⟨rfl, rfl⟩
    show X _ _ 6 [some (.inr (.inr (some 2))), some (.inl a0), some (.inl a1), none, none, none, none, none, none] [.inr (.inl ((f_Fo_readBytes fu s (1 : Int32)).1))] (hp ((f_Fo_readBytes fu s (1 : Int32)).2)) _
    show X _ _ 6 [some (.inr (.inr (some 2))), some (.inl a0), some (.inl a1), none, none, none, none, none, none] [.inr (.inl ((f_Fo_readBytes fu s (1 : Int32)).1))] (hp ((f_Fo_readBytes fu s (1 : Int32)).2)) _
    refine X_mask [true, false, true, true, true, true, true, true, true] ?_
    exact ct_Fo_readShelf_6 hrec fu ((f_Fo_readBytes fu s (1 : Int32)).2) a1 ((f_Fo_readBytes fu s (1 : Int32)).1) hw
def t_Fo_readPart_41 (rec : G_read) (fu : Nat) (s : St) (v1 : Int32) (v2 : Int32) (v3 : Option Nat) : Option Nat × St := (cond (cn1 .ne (b2i (f_Le_stopped s))) (v3, s) (cond (cn2 .ne v1 (4 : Int32)) (v3, s) (v3, (rec.2.2.2 s v3 v2))))
def w_Fo_readPart_41 (rec : G_read) (wrec : GW_read) (fu : Nat) (s : St) (v1 : Int32) (v2 : Int32) (v3 : Option Nat) : Prop := (w_Le_stopped s ∧ ((cn1 .ne (b2i (f_Le_stopped s))) = true → True) ∧ ((cn1 .ne (b2i (f_Le_stopped s))) = false → ((cn2 .ne v1 (4 : Int32)) = true → True) ∧ ((cn2 .ne v1 (4 : Int32)) = false → (wrec.2.2.2 s v3 v2 ∧ True))))
theorem ct_Fo_readPart_41 {d : Nat} {rec : G_read} {wrec : GW_read} (hrec : hr_read (d + 4) rec wrec) (fu : Nat) (s : St) (v1 : Int32) (v2 : Int32) (v3 : Option Nat) (hw : w_Fo_readPart_41 rec wrec fu s v1 v2 v3) : X m_Fo_readPart (d + 5) 41 [some (.inr (.inr (some 2))), some (.inl v1), some (.inl v2), some (.inr (.inr v3))] [] (hp s) (qRs (t_Fo_readPart_41 rec fu s v1 v2 v3)) := by
  unfold t_Fo_readPart_41
  unfold w_Fo_readPart_41 at hw
  refine X_run 1 (i1 := 42) (L1 := [some (.inr (.inr (some 2))), some (.inl v1), some (.inl v2), some (.inr (.inr v3))]) (st1 := [.inr (.inr (some 2))]) rfl ?_
  refine X_gF (v := .inr (.inr (some 1))) rfl rfl rfl rfl ?_
  obtain ⟨hc, hw⟩ := hw
  refine X_callv m_Le_stopped (As := []) (st := []) ok_Le_stopped rfl rfl rfl (hp_obj rfl) rfl (Nat.le_of_ble_eq_true rfl) (Nat.le_of_ble_eq_true rfl) (c_Le_stopped (d := d + 4) s hc) ?_
  rintro _ _ ⟨rfl, rfl⟩
  show X _ _ 44 [some (.inr (.inr (some 2))), some (.inl v1), some (.inl v2), some (.inr (.inr v3))] [.inl (b2i (f_Le_stopped s))] (hp s) _
  refine X_run 1 (i1 := cond (cn1 .ne (b2i (f_Le_stopped s))) 52 45) (L1 := [some (.inr (.inr (some 2))), some (.inl v1), some (.inl v2), some (.inr (.inr v3))]) (st1 := []) rfl ?_
  refine X_brq (fun hb => ?_) (fun hb => ?_)
  · skip
    refine X_run 1 (i1 := 53) (L1 := [some (.inr (.inr (some 2))), some (.inl v1), some (.inl v2), some (.inr (.inr v3))]) (st1 := [.inr (.inr v3)]) rfl ?_
    exact X_aret rfl rfl qRs_i
  · have hw := hw.2 hb
    refine X_run 3 (i1 := cond (cn2 .ne v1 (4 : Int32)) 52 48) (L1 := [some (.inr (.inr (some 2))), some (.inl v1), some (.inl v2), some (.inr (.inr v3))]) (st1 := []) rfl ?_
    refine X_brq (fun hb => ?_) (fun hb => ?_)
    · skip
      refine X_run 1 (i1 := 53) (L1 := [some (.inr (.inr (some 2))), some (.inl v1), some (.inl v2), some (.inr (.inr v3))]) (st1 := [.inr (.inr v3)]) rfl ?_
      exact X_aret rfl rfl qRs_i
    · have hw := hw.2 hb
      refine X_run 3 (i1 := 51) (L1 := [some (.inr (.inr (some 2))), some (.inl v1), some (.inl v2), some (.inr (.inr v3))]) (st1 := [.inl v2, .inr (.inr v3), .inr (.inr (some 2))]) rfl ?_
      obtain ⟨hc, hw⟩ := hw
      refine X_callv m_Fo_readInner (As := [.inr (.inr v3), .inl v2]) (st := []) ok_Fo_readInner rfl rfl rfl (hp_obj rfl) rfl (Nat.le_of_ble_eq_true rfl) (Nat.le_of_ble_eq_true rfl) (hrec.2.2.2 s v3 v2 hc) ?_
      rintro _ _ ⟨rfl, rfl⟩
      show X _ _ 52 [some (.inr (.inr (some 2))), some (.inl v1), some (.inl v2), some (.inr (.inr v3))] [] (hp (rec.2.2.2 s v3 v2)) _
      refine X_run 1 (i1 := 53) (L1 := [some (.inr (.inr (some 2))), some (.inl v1), some (.inl v2), some (.inr (.inr v3))]) (st1 := [.inr (.inr v3)]) rfl ?_
      exact X_aret rfl rfl qRs_i
def t_Fo_readPart_39 (rec : G_read) (fu : Nat) (s : St) (v1 : Int32) (v2 : Int32) (v3 : Option Nat) (w0 : Int64) (w1 : Option Nat) : Option Nat × St := (t_Fo_readPart_41 rec fu (pQ s (dF (sD s) w1 3 (.inl (Int64.toInt32 w0))) (sN s) (sU s)) v1 v2 v3)
def w_Fo_readPart_39 (rec : G_read) (wrec : GW_read) (fu : Nat) (s : St) (v1 : Int32) (v2 : Int32) (v3 : Option Nat) (w0 : Int64) (w1 : Option Nat) : Prop := (ob (sD s) w1 4 ∧ (w_Fo_readPart_41 rec wrec fu (pQ s (dF (sD s) w1 3 (.inl (Int64.toInt32 w0))) (sN s) (sU s)) v1 v2 v3))
theorem ct_Fo_readPart_39 {d : Nat} {rec : G_read} {wrec : GW_read} (hrec : hr_read (d + 4) rec wrec) (fu : Nat) (s : St) (v1 : Int32) (v2 : Int32) (v3 : Option Nat) (w0 : Int64) (w1 : Option Nat) (hw : w_Fo_readPart_39 rec wrec fu s v1 v2 v3 w0 w1) : X m_Fo_readPart (d + 5) 39 [some (.inr (.inr (some 2))), some (.inl v1), some (.inl v2), some (.inr (.inr v3))] [.inr (.inl w0), .inr (.inr w1)] (hp s) (qRs (t_Fo_readPart_39 rec fu s v1 v2 v3 w0 w1)) := by
  unfold t_Fo_readPart_39
  unfold w_Fo_readPart_39 at hw
  refine X_run 1 (i1 := 40) (L1 := [some (.inr (.inr (some 2))), some (.inl v1), some (.inl v2), some (.inr (.inr v3))]) (st1 := [.inl (Int64.toInt32 w0), .inr (.inr w1)]) rfl ?_
  obtain ⟨hc, hw⟩ := hw
  refine X_dP rfl hc rfl ?_
  show X _ _ 41 [some (.inr (.inr (some 2))), some (.inl v1), some (.inl v2), some (.inr (.inr v3))] [] (hp (pQ s (dF (sD s) w1 3 (.inl (Int64.toInt32 w0))) (sN s) (sU s))) _
  show X _ _ 41 [some (.inr (.inr (some 2))), some (.inl v1), some (.inl v2), some (.inr (.inr v3))] [] (hp (pQ s (dF (sD s) w1 3 (.inl (Int64.toInt32 w0))) (sN s) (sU s))) _
  exact ct_Fo_readPart_41 hrec fu (pQ s (dF (sD s) w1 3 (.inl (Int64.toInt32 w0))) (sN s) (sU s)) v1 v2 v3 hw
def t_Fo_readPart_28 (rec : G_read) (fu : Nat) (s : St) (v1 : Int32) (v2 : Int32) (v3 : Option Nat) : Option Nat × St := (cond (cn1 .ne (b2i (f_Le_stopped s))) (t_Fo_readPart_41 rec fu s v1 v2 v3) (cond (cn1 .eq (b2i (f_Pa_isPriced s v3))) (t_Fo_readPart_41 rec fu s v1 v2 v3) (t_Fo_readPart_39 rec fu ((f_Fo_readBytes fu s (4 : Int32)).2) v1 v2 v3 ((f_Fo_readBytes fu s (4 : Int32)).1) v3)))
def w_Fo_readPart_28 (rec : G_read) (wrec : GW_read) (fu : Nat) (s : St) (v1 : Int32) (v2 : Int32) (v3 : Option Nat) : Prop := (w_Le_stopped s ∧ ((cn1 .ne (b2i (f_Le_stopped s))) = true → (w_Fo_readPart_41 rec wrec fu s v1 v2 v3)) ∧ ((cn1 .ne (b2i (f_Le_stopped s))) = false → (w_Pa_isPriced s v3 ∧ (oC (sD s) v3 = some 4 ∧ ((cn1 .eq (b2i (f_Pa_isPriced s v3))) = true → (w_Fo_readPart_41 rec wrec fu s v1 v2 v3)) ∧ ((cn1 .eq (b2i (f_Pa_isPriced s v3))) = false → (w_Fo_readBytes fu s (4 : Int32) ∧ (w_Fo_readPart_39 rec wrec fu ((f_Fo_readBytes fu s (4 : Int32)).2) v1 v2 v3 ((f_Fo_readBytes fu s (4 : Int32)).1) v3)))))))
theorem ct_Fo_readPart_28 {d : Nat} {rec : G_read} {wrec : GW_read} (hrec : hr_read (d + 4) rec wrec) (fu : Nat) (s : St) (v1 : Int32) (v2 : Int32) (v3 : Option Nat) (hw : w_Fo_readPart_28 rec wrec fu s v1 v2 v3) : X m_Fo_readPart (d + 5) 28 [some (.inr (.inr (some 2))), some (.inl v1), some (.inl v2), some (.inr (.inr v3))] [] (hp s) (qRs (t_Fo_readPart_28 rec fu s v1 v2 v3)) := by
  unfold t_Fo_readPart_28
  unfold w_Fo_readPart_28 at hw
  refine X_run 1 (i1 := 29) (L1 := [some (.inr (.inr (some 2))), some (.inl v1), some (.inl v2), some (.inr (.inr v3))]) (st1 := [.inr (.inr (some 2))]) rfl ?_
  refine X_gF (v := .inr (.inr (some 1))) rfl rfl rfl rfl ?_
  obtain ⟨hc, hw⟩ := hw
  refine X_callv m_Le_stopped (As := []) (st := []) ok_Le_stopped rfl rfl rfl (hp_obj rfl) rfl (Nat.le_of_ble_eq_true rfl) (Nat.le_of_ble_eq_true rfl) (c_Le_stopped (d := d + 4) s hc) ?_
  rintro _ _ ⟨rfl, rfl⟩
  show X _ _ 31 [some (.inr (.inr (some 2))), some (.inl v1), some (.inl v2), some (.inr (.inr v3))] [.inl (b2i (f_Le_stopped s))] (hp s) _
  refine X_run 1 (i1 := cond (cn1 .ne (b2i (f_Le_stopped s))) 41 32) (L1 := [some (.inr (.inr (some 2))), some (.inl v1), some (.inl v2), some (.inr (.inr v3))]) (st1 := []) rfl ?_
  refine X_brq (fun hb => ?_) (fun hb => ?_)
  · have hw := hw.1 hb
    exact ct_Fo_readPart_41 hrec fu s v1 v2 v3 hw
  · have hw := hw.2 hb
    refine X_run 1 (i1 := 33) (L1 := [some (.inr (.inr (some 2))), some (.inl v1), some (.inl v2), some (.inr (.inr v3))]) (st1 := [.inr (.inr v3)]) rfl ?_
    obtain ⟨hc, hw⟩ := hw
    obtain ⟨hr, hw⟩ := hw
    refine X_dcallv m_Pa_isPriced (As := []) (st := []) ok_Pa_isPriced rfl rfl rfl hr rfl (Nat.le_of_ble_eq_true rfl) (Nat.le_of_ble_eq_true rfl) (c_Pa_isPriced (d := d + 3) s v3 hc) ?_
    rintro _ _ ⟨rfl, rfl⟩
    show X _ _ 34 [some (.inr (.inr (some 2))), some (.inl v1), some (.inl v2), some (.inr (.inr v3))] [.inl (b2i (f_Pa_isPriced s v3))] (hp s) _
    refine X_run 1 (i1 := cond (cn1 .eq (b2i (f_Pa_isPriced s v3))) 41 35) (L1 := [some (.inr (.inr (some 2))), some (.inl v1), some (.inl v2), some (.inr (.inr v3))]) (st1 := []) rfl ?_
    refine X_brq (fun hb => ?_) (fun hb => ?_)
    · have hw := hw.1 hb
      exact ct_Fo_readPart_41 hrec fu s v1 v2 v3 hw
    · have hw := hw.2 hb
      refine X_run 3 (i1 := 38) (L1 := [some (.inr (.inr (some 2))), some (.inl v1), some (.inl v2), some (.inr (.inr v3))]) (st1 := [.inl (4 : Int32), .inr (.inr (some 2)), .inr (.inr v3)]) rfl ?_
      obtain ⟨hc, hw⟩ := hw
      refine X_callv m_Fo_readBytes (As := [.inl (4 : Int32)]) (st := [.inr (.inr v3)]) ok_Fo_readBytes rfl rfl rfl (hp_obj rfl) rfl (Nat.le_of_ble_eq_true rfl) (Nat.le_of_ble_eq_true rfl) (c_Fo_readBytes (d := d + 2) fu s (4 : Int32) hc) ?_
      rintro _ _ ⟨rfl, rfl⟩
      show X _ _ 39 [some (.inr (.inr (some 2))), some (.inl v1), some (.inl v2), some (.inr (.inr v3))] [.inr (.inl ((f_Fo_readBytes fu s (4 : Int32)).1)), .inr (.inr v3)] (hp ((f_Fo_readBytes fu s (4 : Int32)).2)) _
      show X _ _ 39 [some (.inr (.inr (some 2))), some (.inl v1), some (.inl v2), some (.inr (.inr v3))] [.inr (.inl ((f_Fo_readBytes fu s (4 : Int32)).1)), .inr (.inr v3)] (hp ((f_Fo_readBytes fu s (4 : Int32)).2)) _
      exact ct_Fo_readPart_39 hrec fu ((f_Fo_readBytes fu s (4 : Int32)).2) v1 v2 v3 ((f_Fo_readBytes fu s (4 : Int32)).1) v3 hw
def t_Fo_readPart_26 (rec : G_read) (fu : Nat) (s : St) (v1 : Int32) (v2 : Int32) (v3 : Option Nat) (w0 : Int64) (w1 : Option Nat) : Option Nat × St := (t_Fo_readPart_28 rec fu (pQ s (dF (sD s) w1 2 (.inr (.inl (f_Re_plain w0)))) (sN s) (sU s)) v1 v2 v3)
def w_Fo_readPart_26 (rec : G_read) (wrec : GW_read) (fu : Nat) (s : St) (v1 : Int32) (v2 : Int32) (v3 : Option Nat) (w0 : Int64) (w1 : Option Nat) : Prop := (ob (sD s) w1 4 ∧ (w_Fo_readPart_28 rec wrec fu (pQ s (dF (sD s) w1 2 (.inr (.inl (f_Re_plain w0)))) (sN s) (sU s)) v1 v2 v3))
theorem ct_Fo_readPart_26 {d : Nat} {rec : G_read} {wrec : GW_read} (hrec : hr_read (d + 4) rec wrec) (fu : Nat) (s : St) (v1 : Int32) (v2 : Int32) (v3 : Option Nat) (w0 : Int64) (w1 : Option Nat) (hw : w_Fo_readPart_26 rec wrec fu s v1 v2 v3 w0 w1) : X m_Fo_readPart (d + 5) 26 [some (.inr (.inr (some 2))), some (.inl v1), some (.inl v2), some (.inr (.inr v3))] [.inr (.inl w0), .inr (.inr w1)] (hp s) (qRs (t_Fo_readPart_26 rec fu s v1 v2 v3 w0 w1)) := by
  unfold t_Fo_readPart_26
  unfold w_Fo_readPart_26 at hw
  refine X_calls m_Re_plain (As := [.inr (.inl w0)]) (st := [.inr (.inr w1)]) ok_Re_plain rfl rfl rfl (Nat.le_of_ble_eq_true rfl) (Nat.le_of_ble_eq_true rfl) (c_Re_plain (d := d + 3) w0) ?_
  rintro _ _ ⟨rfl, rfl⟩
  show X _ _ 27 [some (.inr (.inr (some 2))), some (.inl v1), some (.inl v2), some (.inr (.inr v3))] [.inr (.inl (f_Re_plain w0)), .inr (.inr w1)] (hp s) _
  obtain ⟨hc, hw⟩ := hw
  refine X_dP rfl hc rfl ?_
  show X _ _ 28 [some (.inr (.inr (some 2))), some (.inl v1), some (.inl v2), some (.inr (.inr v3))] [] (hp (pQ s (dF (sD s) w1 2 (.inr (.inl (f_Re_plain w0)))) (sN s) (sU s))) _
  show X _ _ 28 [some (.inr (.inr (some 2))), some (.inl v1), some (.inl v2), some (.inr (.inr v3))] [] (hp (pQ s (dF (sD s) w1 2 (.inr (.inl (f_Re_plain w0)))) (sN s) (sU s))) _
  exact ct_Fo_readPart_28 hrec fu (pQ s (dF (sD s) w1 2 (.inr (.inl (f_Re_plain w0)))) (sN s) (sU s)) v1 v2 v3 hw
def t_Fo_readPart_16 (rec : G_read) (fu : Nat) (s : St) (v1 : Int32) (v2 : Int32) (v3 : Option Nat) (w0 : Int64) (w1 : Option Nat) : Option Nat × St := (cond (cn1 .ne (b2i (f_Le_stopped (pQ s (dF (sD s) w1 1 (.inl (Int64.toInt32 w0))) (sN s) (sU s))))) (t_Fo_readPart_28 rec fu (pQ s (dF (sD s) w1 1 (.inl (Int64.toInt32 w0))) (sN s) (sU s)) v1 v2 v3) (t_Fo_readPart_26 rec fu ((f_Fo_readBytes fu (pQ s (dF (sD s) w1 1 (.inl (Int64.toInt32 w0))) (sN s) (sU s)) (8 : Int32)).2) v1 v2 v3 ((f_Fo_readBytes fu (pQ s (dF (sD s) w1 1 (.inl (Int64.toInt32 w0))) (sN s) (sU s)) (8 : Int32)).1) v3))
def w_Fo_readPart_16 (rec : G_read) (wrec : GW_read) (fu : Nat) (s : St) (v1 : Int32) (v2 : Int32) (v3 : Option Nat) (w0 : Int64) (w1 : Option Nat) : Prop := (ob (sD s) w1 4 ∧ (w_Le_stopped (pQ s (dF (sD s) w1 1 (.inl (Int64.toInt32 w0))) (sN s) (sU s)) ∧ ((cn1 .ne (b2i (f_Le_stopped (pQ s (dF (sD s) w1 1 (.inl (Int64.toInt32 w0))) (sN s) (sU s))))) = true → (w_Fo_readPart_28 rec wrec fu (pQ s (dF (sD s) w1 1 (.inl (Int64.toInt32 w0))) (sN s) (sU s)) v1 v2 v3)) ∧ ((cn1 .ne (b2i (f_Le_stopped (pQ s (dF (sD s) w1 1 (.inl (Int64.toInt32 w0))) (sN s) (sU s))))) = false → (w_Fo_readBytes fu (pQ s (dF (sD s) w1 1 (.inl (Int64.toInt32 w0))) (sN s) (sU s)) (8 : Int32) ∧ (w_Fo_readPart_26 rec wrec fu ((f_Fo_readBytes fu (pQ s (dF (sD s) w1 1 (.inl (Int64.toInt32 w0))) (sN s) (sU s)) (8 : Int32)).2) v1 v2 v3 ((f_Fo_readBytes fu (pQ s (dF (sD s) w1 1 (.inl (Int64.toInt32 w0))) (sN s) (sU s)) (8 : Int32)).1) v3)))))
theorem ct_Fo_readPart_16 {d : Nat} {rec : G_read} {wrec : GW_read} (hrec : hr_read (d + 4) rec wrec) (fu : Nat) (s : St) (v1 : Int32) (v2 : Int32) (v3 : Option Nat) (w0 : Int64) (w1 : Option Nat) (hw : w_Fo_readPart_16 rec wrec fu s v1 v2 v3 w0 w1) : X m_Fo_readPart (d + 5) 16 [some (.inr (.inr (some 2))), some (.inl v1), some (.inl v2), some (.inr (.inr v3))] [.inr (.inl w0), .inr (.inr w1)] (hp s) (qRs (t_Fo_readPart_16 rec fu s v1 v2 v3 w0 w1)) := by
  unfold t_Fo_readPart_16
  unfold w_Fo_readPart_16 at hw
  refine X_run 1 (i1 := 17) (L1 := [some (.inr (.inr (some 2))), some (.inl v1), some (.inl v2), some (.inr (.inr v3))]) (st1 := [.inl (Int64.toInt32 w0), .inr (.inr w1)]) rfl ?_
  obtain ⟨hc, hw⟩ := hw
  refine X_dP rfl hc rfl ?_
  show X _ _ 18 [some (.inr (.inr (some 2))), some (.inl v1), some (.inl v2), some (.inr (.inr v3))] [] (hp (pQ s (dF (sD s) w1 1 (.inl (Int64.toInt32 w0))) (sN s) (sU s))) _
  refine X_run 1 (i1 := 19) (L1 := [some (.inr (.inr (some 2))), some (.inl v1), some (.inl v2), some (.inr (.inr v3))]) (st1 := [.inr (.inr (some 2))]) rfl ?_
  refine X_gF (v := .inr (.inr (some 1))) rfl rfl rfl rfl ?_
  obtain ⟨hc, hw⟩ := hw
  refine X_callv m_Le_stopped (As := []) (st := []) ok_Le_stopped rfl rfl rfl (hp_obj rfl) rfl (Nat.le_of_ble_eq_true rfl) (Nat.le_of_ble_eq_true rfl) (c_Le_stopped (d := d + 4) (pQ s (dF (sD s) w1 1 (.inl (Int64.toInt32 w0))) (sN s) (sU s)) hc) ?_
  rintro _ _ ⟨rfl, rfl⟩
  show X _ _ 21 [some (.inr (.inr (some 2))), some (.inl v1), some (.inl v2), some (.inr (.inr v3))] [.inl (b2i (f_Le_stopped (pQ s (dF (sD s) w1 1 (.inl (Int64.toInt32 w0))) (sN s) (sU s))))] (hp (pQ s (dF (sD s) w1 1 (.inl (Int64.toInt32 w0))) (sN s) (sU s))) _
  refine X_run 1 (i1 := cond (cn1 .ne (b2i (f_Le_stopped (pQ s (dF (sD s) w1 1 (.inl (Int64.toInt32 w0))) (sN s) (sU s))))) 28 22) (L1 := [some (.inr (.inr (some 2))), some (.inl v1), some (.inl v2), some (.inr (.inr v3))]) (st1 := []) rfl ?_
  refine X_brq (fun hb => ?_) (fun hb => ?_)
  · have hw := hw.1 hb
    exact ct_Fo_readPart_28 hrec fu (pQ s (dF (sD s) w1 1 (.inl (Int64.toInt32 w0))) (sN s) (sU s)) v1 v2 v3 hw
  · have hw := hw.2 hb
    refine X_run 3 (i1 := 25) (L1 := [some (.inr (.inr (some 2))), some (.inl v1), some (.inl v2), some (.inr (.inr v3))]) (st1 := [.inl (8 : Int32), .inr (.inr (some 2)), .inr (.inr v3)]) rfl ?_
    obtain ⟨hc, hw⟩ := hw
    refine X_callv m_Fo_readBytes (As := [.inl (8 : Int32)]) (st := [.inr (.inr v3)]) ok_Fo_readBytes rfl rfl rfl (hp_obj rfl) rfl (Nat.le_of_ble_eq_true rfl) (Nat.le_of_ble_eq_true rfl) (c_Fo_readBytes (d := d + 2) fu (pQ s (dF (sD s) w1 1 (.inl (Int64.toInt32 w0))) (sN s) (sU s)) (8 : Int32) hc) ?_
    rintro _ _ ⟨rfl, rfl⟩
    show X _ _ 26 [some (.inr (.inr (some 2))), some (.inl v1), some (.inl v2), some (.inr (.inr v3))] [.inr (.inl ((f_Fo_readBytes fu (pQ s (dF (sD s) w1 1 (.inl (Int64.toInt32 w0))) (sN s) (sU s)) (8 : Int32)).1)), .inr (.inr v3)] (hp ((f_Fo_readBytes fu (pQ s (dF (sD s) w1 1 (.inl (Int64.toInt32 w0))) (sN s) (sU s)) (8 : Int32)).2)) _
    show X _ _ 26 [some (.inr (.inr (some 2))), some (.inl v1), some (.inl v2), some (.inr (.inr v3))] [.inr (.inl ((f_Fo_readBytes fu (pQ s (dF (sD s) w1 1 (.inl (Int64.toInt32 w0))) (sN s) (sU s)) (8 : Int32)).1)), .inr (.inr v3)] (hp ((f_Fo_readBytes fu (pQ s (dF (sD s) w1 1 (.inl (Int64.toInt32 w0))) (sN s) (sU s)) (8 : Int32)).2)) _
    exact ct_Fo_readPart_26 hrec fu ((f_Fo_readBytes fu (pQ s (dF (sD s) w1 1 (.inl (Int64.toInt32 w0))) (sN s) (sU s)) (8 : Int32)).2) v1 v2 v3 ((f_Fo_readBytes fu (pQ s (dF (sD s) w1 1 (.inl (Int64.toInt32 w0))) (sN s) (sU s)) (8 : Int32)).1) v3 hw
def t_Fo_readPart_11 (rec : G_read) (fu : Nat) (s : St) (v1 : Int32) (v2 : Int32) (w0 : Option Nat) : Option Nat × St := (t_Fo_readPart_16 rec fu ((f_Fo_readBytes fu s (4 : Int32)).2) v1 v2 w0 ((f_Fo_readBytes fu s (4 : Int32)).1) w0)
def w_Fo_readPart_11 (rec : G_read) (wrec : GW_read) (fu : Nat) (s : St) (v1 : Int32) (v2 : Int32) (w0 : Option Nat) : Prop := (w_Fo_readBytes fu s (4 : Int32) ∧ (w_Fo_readPart_16 rec wrec fu ((f_Fo_readBytes fu s (4 : Int32)).2) v1 v2 w0 ((f_Fo_readBytes fu s (4 : Int32)).1) w0))
theorem ct_Fo_readPart_11 {d : Nat} {rec : G_read} {wrec : GW_read} (hrec : hr_read (d + 4) rec wrec) (fu : Nat) (s : St) (v1 : Int32) (v2 : Int32) (w0 : Option Nat) (hw : w_Fo_readPart_11 rec wrec fu s v1 v2 w0) : X m_Fo_readPart (d + 5) 11 [some (.inr (.inr (some 2))), some (.inl v1), some (.inl v2), none] [.inr (.inr w0)] (hp s) (qRs (t_Fo_readPart_11 rec fu s v1 v2 w0)) := by
  unfold t_Fo_readPart_11
  unfold w_Fo_readPart_11 at hw
  refine X_run 4 (i1 := 15) (L1 := [some (.inr (.inr (some 2))), some (.inl v1), some (.inl v2), some (.inr (.inr w0))]) (st1 := [.inl (4 : Int32), .inr (.inr (some 2)), .inr (.inr w0)]) rfl ?_
  obtain ⟨hc, hw⟩ := hw
  refine X_callv m_Fo_readBytes (As := [.inl (4 : Int32)]) (st := [.inr (.inr w0)]) ok_Fo_readBytes rfl rfl rfl (hp_obj rfl) rfl (Nat.le_of_ble_eq_true rfl) (Nat.le_of_ble_eq_true rfl) (c_Fo_readBytes (d := d + 2) fu s (4 : Int32) hc) ?_
  rintro _ _ ⟨rfl, rfl⟩
  show X _ _ 16 [some (.inr (.inr (some 2))), some (.inl v1), some (.inl v2), some (.inr (.inr w0))] [.inr (.inl ((f_Fo_readBytes fu s (4 : Int32)).1)), .inr (.inr w0)] (hp ((f_Fo_readBytes fu s (4 : Int32)).2)) _
  show X _ _ 16 [some (.inr (.inr (some 2))), some (.inl v1), some (.inl v2), some (.inr (.inr w0))] [.inr (.inl ((f_Fo_readBytes fu s (4 : Int32)).1)), .inr (.inr w0)] (hp ((f_Fo_readBytes fu s (4 : Int32)).2)) _
  exact ct_Fo_readPart_16 hrec fu ((f_Fo_readBytes fu s (4 : Int32)).2) v1 v2 w0 ((f_Fo_readBytes fu s (4 : Int32)).1) w0 hw
def t_Fo_readPart_4 (rec : G_read) (fu : Nat) (s : St) (v1 : Int32) (v2 : Int32) (w0 : Int32) : Option Nat × St := (cond (cn1 .ne w0) (t_Fo_readPart_11 rec fu (f_Pa_init (pQ s (nwO (sD s) (sN s) 4) ((sN s) + 1) ((sU s) + 5)) (some (sN s)) v1) v1 v2 (some (sN s))) (none, s))
def w_Fo_readPart_4 (rec : G_read) (wrec : GW_read) (fu : Nat) (s : St) (v1 : Int32) (v2 : Int32) (w0 : Int32) : Prop := ((cn1 .ne w0) = true → (rm (sN s) (sU s) 5 ∧ (w_Pa_init (pQ s (nwO (sD s) (sN s) 4) ((sN s) + 1) ((sU s) + 5)) (some (sN s)) v1 ∧ ((oC (nwO (sD s) (sN s) 4) (some (sN s))).isSome = true ∧ (w_Fo_readPart_11 rec wrec fu (f_Pa_init (pQ s (nwO (sD s) (sN s) 4) ((sN s) + 1) ((sU s) + 5)) (some (sN s)) v1) v1 v2 (some (sN s))))))) ∧ ((cn1 .ne w0) = false → True)
theorem ct_Fo_readPart_4 {d : Nat} {rec : G_read} {wrec : GW_read} (hrec : hr_read (d + 4) rec wrec) (fu : Nat) (s : St) (v1 : Int32) (v2 : Int32) (w0 : Int32) (hw : w_Fo_readPart_4 rec wrec fu s v1 v2 w0) : X m_Fo_readPart (d + 5) 4 [some (.inr (.inr (some 2))), some (.inl v1), some (.inl v2), none] [.inl w0] (hp s) (qRs (t_Fo_readPart_4 rec fu s v1 v2 w0)) := by
  unfold t_Fo_readPart_4
  unfold w_Fo_readPart_4 at hw
  refine X_run 1 (i1 := cond (cn1 .ne w0) 7 5) (L1 := [some (.inr (.inr (some 2))), some (.inl v1), some (.inl v2), none]) (st1 := []) rfl ?_
  refine X_brq (fun hb => ?_) (fun hb => ?_)
  · have hw := hw.1 hb
    obtain ⟨hr, hw⟩ := hw
    refine X_dnew rfl rfl rfl hr ?_
    show X _ _ 8 [some (.inr (.inr (some 2))), some (.inl v1), some (.inl v2), none] [.inr (.inr (some (sN s)))] (hp (pQ s (nwO (sD s) (sN s) 4) ((sN s) + 1) ((sU s) + 5))) _
    refine X_run 2 (i1 := 10) (L1 := [some (.inr (.inr (some 2))), some (.inl v1), some (.inl v2), none]) (st1 := [.inl v1, .inr (.inr (some (sN s))), .inr (.inr (some (sN s)))]) rfl ?_
    obtain ⟨hc, hw⟩ := hw
    obtain ⟨hr, hw⟩ := hw
    refine X_dcalln m_Pa_init (As := [.inl v1]) (st := [.inr (.inr (some (sN s)))]) ok_Pa_init rfl rfl rfl rfl hr (Nat.le_of_ble_eq_true rfl) (Nat.le_of_ble_eq_true rfl) (c_Pa_init (d := d + 2) (pQ s (nwO (sD s) (sN s) 4) ((sN s) + 1) ((sU s) + 5)) (some (sN s)) v1 hc) ?_
    rintro _ _ ⟨rfl, rfl⟩
    show X _ _ 11 [some (.inr (.inr (some 2))), some (.inl v1), some (.inl v2), none] [.inr (.inr (some (sN s)))] (hp (f_Pa_init (pQ s (nwO (sD s) (sN s) 4) ((sN s) + 1) ((sU s) + 5)) (some (sN s)) v1)) _
    show X _ _ 11 [some (.inr (.inr (some 2))), some (.inl v1), some (.inl v2), none] [.inr (.inr (some (sN s)))] (hp (f_Pa_init (pQ s (nwO (sD s) (sN s) 4) ((sN s) + 1) ((sU s) + 5)) (some (sN s)) v1)) _
    exact ct_Fo_readPart_11 hrec fu (f_Pa_init (pQ s (nwO (sD s) (sN s) 4) ((sN s) + 1) ((sU s) + 5)) (some (sN s)) v1) v1 v2 (some (sN s)) hw
  · skip
    refine X_run 1 (i1 := 6) (L1 := [some (.inr (.inr (some 2))), some (.inl v1), some (.inl v2), none]) (st1 := [.inr (.inr none)]) rfl ?_
    exact X_aret rfl rfl qRs_i
def f_Fo_readPart (rec : G_read) (fu : Nat) (s : St) (a0 : Int32) (a1 : Int32) : Option Nat × St := (t_Fo_readPart_4 rec fu ((f_Le_make s (4 : Int64)).2) a0 a1 (b2i (f_Le_make s (4 : Int64)).1))
def w_Fo_readPart (rec : G_read) (wrec : GW_read) (fu : Nat) (s : St) (a0 : Int32) (a1 : Int32) : Prop := (w_Le_make s (4 : Int64) ∧ (w_Fo_readPart_4 rec wrec fu ((f_Le_make s (4 : Int64)).2) a0 a1 (b2i (f_Le_make s (4 : Int64)).1)))
theorem c_Fo_readPart {d : Nat} {rec : G_read} {wrec : GW_read} (hrec : hr_read (d + 4) rec wrec) (fu : Nat) (s : St) (a0 : Int32) (a1 : Int32) (hw : w_Fo_readPart rec wrec fu s a0 a1) : X m_Fo_readPart (d + 5) 0 (entL 4 [.inr (.inr (some 2)), .inl a0, .inl a1]) [] (hp s) (qRs (f_Fo_readPart rec fu s a0 a1)) := by
  unfold f_Fo_readPart
  unfold w_Fo_readPart at hw
  refine X_run 1 (i1 := 1) (L1 := [some (.inr (.inr (some 2))), some (.inl a0), some (.inl a1), none]) (st1 := [.inr (.inr (some 2))]) rfl ?_
  refine X_gF (v := .inr (.inr (some 1))) rfl rfl rfl rfl ?_
  refine X_run 1 (i1 := 3) (L1 := [some (.inr (.inr (some 2))), some (.inl a0), some (.inl a1), none]) (st1 := [.inr (.inl (4 : Int64)), .inr (.inr (some 1))]) rfl ?_
  obtain ⟨hc, hw⟩ := hw
  refine X_callv m_Le_make (As := [.inr (.inl (4 : Int64))]) (st := []) ok_Le_make rfl rfl rfl (hp_obj rfl) rfl (Nat.le_of_ble_eq_true rfl) (Nat.le_of_ble_eq_true rfl) (c_Le_make (d := d + 4) s (4 : Int64) hc) ?_
  rintro _ _ ⟨rfl, rfl⟩
  show X _ _ 4 [some (.inr (.inr (some 2))), some (.inl a0), some (.inl a1), none] [.inl (b2i (f_Le_make s (4 : Int64)).1)] (hp ((f_Le_make s (4 : Int64)).2)) _
  show X _ _ 4 [some (.inr (.inr (some 2))), some (.inl a0), some (.inl a1), none] [.inl (b2i (f_Le_make s (4 : Int64)).1)] (hp ((f_Le_make s (4 : Int64)).2)) _
  exact ct_Fo_readPart_4 hrec fu ((f_Le_make s (4 : Int64)).2) a0 a1 (b2i (f_Le_make s (4 : Int64)).1) hw
def t_Fo_readInner_27 (rec : G_read) (fu : Nat) (s : St) : St := (f_Le_fault s (4 : Int32))
def w_Fo_readInner_27 (rec : G_read) (wrec : GW_read) (fu : Nat) (s : St) : Prop := (w_Le_fault s (4 : Int32) ∧ True)
theorem ct_Fo_readInner_27 {d : Nat} {rec : G_read} {wrec : GW_read} (hrec : hr_read (d + 4) rec wrec) (fu : Nat) (s : St) (hw : w_Fo_readInner_27 rec wrec fu s) : X m_Fo_readInner (d + 5) 27 [some (.inr (.inr (some 2))), none, none, none, none] [] (hp s) (qVs (t_Fo_readInner_27 rec fu s)) := by
  unfold t_Fo_readInner_27
  unfold w_Fo_readInner_27 at hw
  refine X_run 1 (i1 := 28) (L1 := [some (.inr (.inr (some 2))), none, none, none, none]) (st1 := [.inr (.inr (some 2))]) rfl ?_
  refine X_gF (v := .inr (.inr (some 1))) rfl rfl rfl rfl ?_
  refine X_run 1 (i1 := 30) (L1 := [some (.inr (.inr (some 2))), none, none, none, none]) (st1 := [.inl (4 : Int32), .inr (.inr (some 1))]) rfl ?_
  obtain ⟨hc, hw⟩ := hw
  refine X_callv m_Le_fault (As := [.inl (4 : Int32)]) (st := []) ok_Le_fault rfl rfl rfl (hp_obj rfl) rfl (Nat.le_of_ble_eq_true rfl) (Nat.le_of_ble_eq_true rfl) (c_Le_fault (d := d + 3) s (4 : Int32) hc) ?_
  rintro _ _ ⟨rfl, rfl⟩
  show X _ _ 31 [some (.inr (.inr (some 2))), none, none, none, none] [] (hp (f_Le_fault s (4 : Int32))) _
  exact X_ret rfl rfl qVs_i
def t_Fo_readInner_5 (rec : G_read) (fu : Nat) (s : St) (v1 : Option Nat) (w0 : Option Nat) : St := (cond (cn1 .ne (b2i (f_Le_stopped s))) s (cond (Option.isNone w0) s (cond (cn1 .eq (b2i (isc (sD s) w0 2))) (t_Fo_readInner_27 rec fu s) (cond (cn2 .ne (f_Sh_kind s w0) (10 : Int32)) (t_Fo_readInner_27 rec fu s) (pQ s (dF (sD s) v1 4 (.inr (.inr w0))) (sN s) (sU s))))))
def w_Fo_readInner_5 (rec : G_read) (wrec : GW_read) (fu : Nat) (s : St) (v1 : Option Nat) (w0 : Option Nat) : Prop := (w_Le_stopped s ∧ ((cn1 .ne (b2i (f_Le_stopped s))) = true → True) ∧ ((cn1 .ne (b2i (f_Le_stopped s))) = false → ((Option.isNone w0) = true → True) ∧ ((Option.isNone w0) = false → (tho (sD s) w0 ∧ ((cn1 .eq (b2i (isc (sD s) w0 2))) = true → (w_Fo_readInner_27 rec wrec fu s)) ∧ ((cn1 .eq (b2i (isc (sD s) w0 2))) = false → (cst (sD s) w0 2 ∧ (w_Sh_kind s w0 ∧ (oC (sD s) w0 = some 7 ∧ ((cn2 .ne (f_Sh_kind s w0) (10 : Int32)) = true → (w_Fo_readInner_27 rec wrec fu s)) ∧ ((cn2 .ne (f_Sh_kind s w0) (10 : Int32)) = false → (ob (sD s) v1 4 ∧ True))))))))))
theorem ct_Fo_readInner_5 {d : Nat} {rec : G_read} {wrec : GW_read} (hrec : hr_read (d + 4) rec wrec) (fu : Nat) (s : St) (v1 : Option Nat) (w0 : Option Nat) (hw : w_Fo_readInner_5 rec wrec fu s v1 w0) : X m_Fo_readInner (d + 5) 5 [some (.inr (.inr (some 2))), some (.inr (.inr v1)), none, none, none] [.inr (.inr w0)] (hp s) (qVs (t_Fo_readInner_5 rec fu s v1 w0)) := by
  unfold t_Fo_readInner_5
  unfold w_Fo_readInner_5 at hw
  refine X_run 2 (i1 := 7) (L1 := [some (.inr (.inr (some 2))), some (.inr (.inr v1)), none, some (.inr (.inr w0)), none]) (st1 := [.inr (.inr (some 2))]) rfl ?_
  refine X_gF (v := .inr (.inr (some 1))) rfl rfl rfl rfl ?_
  obtain ⟨hc, hw⟩ := hw
  refine X_callv m_Le_stopped (As := []) (st := []) ok_Le_stopped rfl rfl rfl (hp_obj rfl) rfl (Nat.le_of_ble_eq_true rfl) (Nat.le_of_ble_eq_true rfl) (c_Le_stopped (d := d + 4) s hc) ?_
  rintro _ _ ⟨rfl, rfl⟩
  show X _ _ 9 [some (.inr (.inr (some 2))), some (.inr (.inr v1)), none, some (.inr (.inr w0)), none] [.inl (b2i (f_Le_stopped s))] (hp s) _
  refine X_run 1 (i1 := cond (cn1 .ne (b2i (f_Le_stopped s))) 12 10) (L1 := [some (.inr (.inr (some 2))), some (.inr (.inr v1)), none, some (.inr (.inr w0)), none]) (st1 := []) rfl ?_
  refine X_brq (fun hb => ?_) (fun hb => ?_)
  · skip
    exact X_ret rfl rfl qVs_i
  · have hw := hw.2 hb
    refine X_run 2 (i1 := cond (Option.isNone w0) 12 13) (L1 := [some (.inr (.inr (some 2))), some (.inr (.inr v1)), none, some (.inr (.inr w0)), none]) (st1 := []) rfl ?_
    refine X_brq (fun hb => ?_) (fun hb => ?_)
    · skip
      exact X_ret rfl rfl qVs_i
    · have hw := hw.2 hb
      refine X_run 1 (i1 := 14) (L1 := [some (.inr (.inr (some 2))), some (.inr (.inr v1)), none, some (.inr (.inr w0)), none]) (st1 := [.inr (.inr w0)]) rfl ?_
      obtain ⟨hc, hw⟩ := hw
      refine X_dinst rfl (by decide) hc ?_
      show X _ _ 15 [some (.inr (.inr (some 2))), some (.inr (.inr v1)), none, some (.inr (.inr w0)), none] [.inl (b2i (isc (sD s) w0 2))] (hp s) _
      refine X_run 1 (i1 := cond (cn1 .eq (b2i (isc (sD s) w0 2))) 27 16) (L1 := [some (.inr (.inr (some 2))), some (.inr (.inr v1)), none, some (.inr (.inr w0)), none]) (st1 := []) rfl ?_
      refine X_brq (fun hb => ?_) (fun hb => ?_)
      · have hw := hw.1 hb
        refine X_mask [true, false, true, false, true] ?_
        exact ct_Fo_readInner_27 hrec fu s hw
      · have hw := hw.2 hb
        refine X_run 1 (i1 := 17) (L1 := [some (.inr (.inr (some 2))), some (.inr (.inr v1)), none, some (.inr (.inr w0)), none]) (st1 := [.inr (.inr w0)]) rfl ?_
        obtain ⟨hc, hw⟩ := hw
        refine X_dcast rfl hc ?_
        refine X_run 2 (i1 := 20) (L1 := [some (.inr (.inr (some 2))), some (.inr (.inr v1)), none, some (.inr (.inr w0)), some (.inr (.inr w0))]) (st1 := [.inr (.inr w0)]) rfl ?_
        obtain ⟨hc, hw⟩ := hw
        obtain ⟨hr, hw⟩ := hw
        refine X_dcallv m_Sh_kind (As := []) (st := []) ok_Sh_kind rfl rfl rfl hr rfl (Nat.le_of_ble_eq_true rfl) (Nat.le_of_ble_eq_true rfl) (c_Sh_kind (d := d + 4) s w0 hc) ?_
        rintro _ _ ⟨rfl, rfl⟩
        show X _ _ 21 [some (.inr (.inr (some 2))), some (.inr (.inr v1)), none, some (.inr (.inr w0)), some (.inr (.inr w0))] [.inl (f_Sh_kind s w0)] (hp s) _
        refine X_run 2 (i1 := cond (cn2 .ne (f_Sh_kind s w0) (10 : Int32)) 27 23) (L1 := [some (.inr (.inr (some 2))), some (.inr (.inr v1)), none, some (.inr (.inr w0)), some (.inr (.inr w0))]) (st1 := []) rfl ?_
        refine X_brq (fun hb => ?_) (fun hb => ?_)
        · have hw := hw.1 hb
          refine X_mask [true, false, true, false, false] ?_
          exact ct_Fo_readInner_27 hrec fu s hw
        · have hw := hw.2 hb
          refine X_run 2 (i1 := 25) (L1 := [some (.inr (.inr (some 2))), some (.inr (.inr v1)), none, some (.inr (.inr w0)), some (.inr (.inr w0))]) (st1 := [.inr (.inr w0), .inr (.inr v1)]) rfl ?_
          obtain ⟨hc, hw⟩ := hw
          refine X_dP rfl hc rfl ?_
          show X _ _ 26 [some (.inr (.inr (some 2))), some (.inr (.inr v1)), none, some (.inr (.inr w0)), some (.inr (.inr w0))] [] (hp (pQ s (dF (sD s) v1 4 (.inr (.inr w0))) (sN s) (sU s))) _
          refine X_run 1 (i1 := 31) (L1 := [some (.inr (.inr (some 2))), some (.inr (.inr v1)), none, some (.inr (.inr w0)), some (.inr (.inr w0))]) (st1 := []) rfl ?_
          exact X_ret rfl rfl qVs_i
def f_Fo_readInner (rec : G_read) (fu : Nat) (s : St) (a0 : Option Nat) (a1 : Int32) : St := (t_Fo_readInner_5 rec fu ((rec.1 s (a1 + (1 : Int32))).2) a0 ((rec.1 s (a1 + (1 : Int32))).1))
def w_Fo_readInner (rec : G_read) (wrec : GW_read) (fu : Nat) (s : St) (a0 : Option Nat) (a1 : Int32) : Prop := (wrec.1 s (a1 + (1 : Int32)) ∧ (w_Fo_readInner_5 rec wrec fu ((rec.1 s (a1 + (1 : Int32))).2) a0 ((rec.1 s (a1 + (1 : Int32))).1)))
theorem c_Fo_readInner {d : Nat} {rec : G_read} {wrec : GW_read} (hrec : hr_read (d + 4) rec wrec) (fu : Nat) (s : St) (a0 : Option Nat) (a1 : Int32) (hw : w_Fo_readInner rec wrec fu s a0 a1) : X m_Fo_readInner (d + 5) 0 (entL 5 [.inr (.inr (some 2)), .inr (.inr a0), .inl a1]) [] (hp s) (qVs (f_Fo_readInner rec fu s a0 a1)) := by
  unfold f_Fo_readInner
  unfold w_Fo_readInner at hw
  refine X_run 4 (i1 := 4) (L1 := [some (.inr (.inr (some 2))), some (.inr (.inr a0)), some (.inl a1), none, none]) (st1 := [.inl (a1 + (1 : Int32)), .inr (.inr (some 2))]) rfl ?_
  obtain ⟨hc, hw⟩ := hw
  refine X_callv m_Fo_readThing (As := [.inl (a1 + (1 : Int32))]) (st := []) ok_Fo_readThing rfl rfl rfl (hp_obj rfl) rfl (Nat.le_of_ble_eq_true rfl) (Nat.le_of_ble_eq_true rfl) (hrec.1 s (a1 + (1 : Int32)) hc) ?_
  rintro _ _ ⟨rfl, rfl⟩
  show X _ _ 5 [some (.inr (.inr (some 2))), some (.inr (.inr a0)), some (.inl a1), none, none] [.inr (.inr ((rec.1 s (a1 + (1 : Int32))).1))] (hp ((rec.1 s (a1 + (1 : Int32))).2)) _
  show X _ _ 5 [some (.inr (.inr (some 2))), some (.inr (.inr a0)), some (.inl a1), none, none] [.inr (.inr ((rec.1 s (a1 + (1 : Int32))).1))] (hp ((rec.1 s (a1 + (1 : Int32))).2)) _
  refine X_mask [true, true, false, true, true] ?_
  exact ct_Fo_readInner_5 hrec fu ((rec.1 s (a1 + (1 : Int32))).2) a0 ((rec.1 s (a1 + (1 : Int32))).1) hw
def F_read (fu : Nat) : Nat → G_read
  | 0 => (fun s _ => (none, s), fun s _ _ => (none, s), fun s _ _ => (none, s), fun s _ _ => s)
  | n + 1 => (fun s a0 => f_Fo_readThing (F_read fu n) fu s a0, fun s a0 a1 => f_Fo_readShelf (F_read fu n) fu s a0 a1, fun s a0 a1 => f_Fo_readPart (F_read fu n) fu s a0 a1, fun s a0 a1 => f_Fo_readInner (F_read fu n) fu s a0 a1)
def W_read (fu : Nat) : Nat → GW_read
  | 0 => (fun _ _ => False, fun _ _ _ => False, fun _ _ _ => False, fun _ _ _ => False)
  | n + 1 => (fun s a0 => w_Fo_readThing (F_read fu n) (W_read fu n) fu s a0, fun s a0 a1 => w_Fo_readShelf (F_read fu n) (W_read fu n) fu s a0 a1, fun s a0 a1 => w_Fo_readPart (F_read fu n) (W_read fu n) fu s a0 a1, fun s a0 a1 => w_Fo_readInner (F_read fu n) (W_read fu n) fu s a0 a1)
theorem cF_read (fu : Nat) : ∀ (n d : Nat), hr_read (d + n + 5) (F_read fu n) (W_read fu n)
  | 0, d => ⟨fun _ _ hw => hw.elim, fun _ _ _ hw => hw.elim, fun _ _ _ hw => hw.elim, fun _ _ _ hw => hw.elim⟩
  | n + 1, d => by
    have hrec : hr_read (d + 1 + n + 5 - 1) (F_read fu n) (W_read fu n) := by
      have h := cF_read fu n d
      rw [show d + 1 + n + 5 - 1 = d + n + 5 by omega]; exact h
    have e : d + (n + 1) + 5 = (d + 1 + n) + 5 := by omega
    rw [e]
    exact ⟨(fun s a0 hw => c_Fo_readThing (d := d + 1 + n) hrec fu s a0 hw), (fun s a0 a1 hw => c_Fo_readShelf (d := d + 1 + n) hrec fu s a0 a1 hw), (fun s a0 a1 hw => c_Fo_readPart (d := d + 1 + n) hrec fu s a0 a1 hw), (fun s a0 a1 hw => c_Fo_readInner (d := d + 1 + n) hrec fu s a0 a1 hw)⟩
def f_Fo_readTape (fu : Nat) (s : St) (a0 : Int32) : Option Nat × St := ((F_read fu 96).1 (pI (pI s 2 5 (0 : Int32)) 2 6 a0) (1 : Int32))
def w_Fo_readTape (fu : Nat) (s : St) (a0 : Int32) : Prop := ((W_read fu 96).1 (pI (pI s 2 5 (0 : Int32)) 2 6 a0) (1 : Int32) ∧ True)
theorem c_Fo_readTape {d : Nat} (fu : Nat) (s : St) (a0 : Int32) (hw : w_Fo_readTape fu s a0) : X m_Fo_readTape (d + 102) 0 (entL 2 [.inr (.inr (some 2)), .inl a0]) [] (hp s) (qRs (f_Fo_readTape fu s a0)) := by
  unfold f_Fo_readTape
  unfold w_Fo_readTape at hw
  refine X_run 2 (i1 := 2) (L1 := [some (.inr (.inr (some 2))), some (.inl a0)]) (st1 := [.inl (0 : Int32), .inr (.inr (some 2))]) rfl ?_
  refine X_pI rfl rfl rfl rfl ?_
  refine X_run 2 (i1 := 5) (L1 := [some (.inr (.inr (some 2))), some (.inl a0)]) (st1 := [.inl a0, .inr (.inr (some 2))]) rfl ?_
  refine X_pI rfl rfl rfl rfl ?_
  refine X_run 2 (i1 := 8) (L1 := [some (.inr (.inr (some 2))), some (.inl a0)]) (st1 := [.inl (1 : Int32), .inr (.inr (some 2))]) rfl ?_
  obtain ⟨hc, hw⟩ := hw
  refine X_callv m_Fo_readThing (As := [.inl (1 : Int32)]) (st := []) ok_Fo_readThing rfl rfl rfl (hp_obj rfl) rfl (Nat.le_of_ble_eq_true rfl) (Nat.le_of_ble_eq_true rfl) ((cF_read fu 96 (d)).1 (pI (pI s 2 5 (0 : Int32)) 2 6 a0) (1 : Int32) hc) ?_
  rintro _ _ ⟨rfl, rfl⟩
  show X _ _ 9 [some (.inr (.inr (some 2))), some (.inl a0)] [.inr (.inr (((F_read fu 96).1 (pI (pI s 2 5 (0 : Int32)) 2 6 a0) (1 : Int32)).1))] (hp (((F_read fu 96).1 (pI (pI s 2 5 (0 : Int32)) 2 6 a0) (1 : Int32)).2)) _
  exact X_aret rfl rfl qRs_p
abbrev LT_Fo_writeBytes_16 : Type := (St → Int64 → Int32 → Int32 → St) × (St → Int64 → Int32 → Int32 → St)
abbrev LW_Fo_writeBytes_16 : Type := (St → Int64 → Int32 → Int32 → Prop) × (St → Int64 → Int32 → Int32 → Prop)
def hl_Fo_writeBytes_16 (d : Nat) (lp : LT_Fo_writeBytes_16) (wlp : LW_Fo_writeBytes_16) : Prop := (∀ (s : St) (v1 : Int64) (v3 : Int32) (v4 : Int32), wlp.1 s v1 v3 v4 → X m_Fo_writeBytes d 16 [some (.inr (.inr (some 2))), some (.inr (.inl v1)), none, some (.inl v3), some (.inl v4)] [] (hp s) (qVs (lp.1 s v1 v3 v4))) ∧ (∀ (s : St) (v1 : Int64) (v3 : Int32) (v4 : Int32), wlp.2 s v1 v3 v4 → X m_Fo_writeBytes d 37 [some (.inr (.inr (some 2))), some (.inr (.inl v1)), none, some (.inl v3), some (.inl v4)] [] (hp s) (qVs (lp.2 s v1 v3 v4)))
def b_Fo_writeBytes_16 (fu : Nat) (lp : LT_Fo_writeBytes_16) (s : St) (v1 : Int64) (v3 : Int32) (v4 : Int32) : St := (cond (cn2 .ge v4 v3) (pI s 2 3 ((sI s 2 3) + v3)) (lp.2 (pA s 4 (upd (sA s 4) (Int32.toNatClampNeg ((sI s 2 3) + v4)) ((Int32.toInt8 ((Int32.toInt8 (Int64.toInt32 (v1 >>> (Int32.toInt64 ((8 : Int32) * ((v3 - (1 : Int32)) - v4)) &&& 63)))).toInt32)).toInt32))) v1 v3 v4))
def v_Fo_writeBytes_16 (fu : Nat) (lp : LT_Fo_writeBytes_16) (wlp : LW_Fo_writeBytes_16) (s : St) (v1 : Int64) (v3 : Int32) (v4 : Int32) : Prop := ((cn2 .ge v4 v3) = true → True) ∧ ((cn2 .ge v4 v3) = false → (vp_in ((sI s 2 3) + v4) 2000 ∧ (wlp.2 (pA s 4 (upd (sA s 4) (Int32.toNatClampNeg ((sI s 2 3) + v4)) ((Int32.toInt8 ((Int32.toInt8 (Int64.toInt32 (v1 >>> (Int32.toInt64 ((8 : Int32) * ((v3 - (1 : Int32)) - v4)) &&& 63)))).toInt32)).toInt32))) v1 v3 v4)))
theorem cb_Fo_writeBytes_16 {d : Nat} (fu : Nat) {lp : LT_Fo_writeBytes_16} {wlp : LW_Fo_writeBytes_16} (hlp : hl_Fo_writeBytes_16 (d) lp wlp) (s : St) (v1 : Int64) (v3 : Int32) (v4 : Int32) (hw : v_Fo_writeBytes_16 fu lp wlp s v1 v3 v4) : X m_Fo_writeBytes (d) 16 [some (.inr (.inr (some 2))), some (.inr (.inl v1)), none, some (.inl v3), some (.inl v4)] [] (hp s) (qVs (b_Fo_writeBytes_16 fu lp s v1 v3 v4)) := by
  unfold b_Fo_writeBytes_16
  unfold v_Fo_writeBytes_16 at hw
  refine X_run 3 (i1 := cond (cn2 .ge v4 v3) 39 19) (L1 := [some (.inr (.inr (some 2))), some (.inr (.inl v1)), none, some (.inl v3), some (.inl v4)]) (st1 := []) rfl ?_
  refine X_brq (fun hb => ?_) (fun hb => ?_)
  · skip
    refine X_run 2 (i1 := 41) (L1 := [some (.inr (.inr (some 2))), some (.inr (.inl v1)), none, some (.inl v3), some (.inl v4)]) (st1 := [.inr (.inr (some 2)), .inr (.inr (some 2))]) rfl ?_
    refine X_gF (v := .inl (sI s 2 3)) rfl rfl rfl rfl ?_
    refine X_run 2 (i1 := 44) (L1 := [some (.inr (.inr (some 2))), some (.inr (.inl v1)), none, some (.inl v3), some (.inl v4)]) (st1 := [.inl ((sI s 2 3) + v3), .inr (.inr (some 2))]) rfl ?_
    refine X_pI rfl rfl rfl rfl ?_
    exact X_ret rfl rfl qVs_i
  · have hw := hw.2 hb
    refine X_run 1 (i1 := 20) (L1 := [some (.inr (.inr (some 2))), some (.inr (.inl v1)), none, some (.inl v3), some (.inl v4)]) (st1 := [.inr (.inr (some 2))]) rfl ?_
    refine X_gF (v := .inr (.inr (some 4))) rfl rfl rfl rfl ?_
    refine X_run 1 (i1 := 22) (L1 := [some (.inr (.inr (some 2))), some (.inr (.inl v1)), none, some (.inl v3), some (.inl v4)]) (st1 := [.inr (.inr (some 2)), .inr (.inr (some 4))]) rfl ?_
    refine X_gF (v := .inl (sI s 2 3)) rfl rfl rfl rfl ?_
    refine X_run 13 (i1 := 36) (L1 := [some (.inr (.inr (some 2))), some (.inr (.inl v1)), none, some (.inl v3), some (.inl v4)]) (st1 := [.inl ((Int32.toInt8 (Int64.toInt32 (v1 >>> (Int32.toInt64 ((8 : Int32) * ((v3 - (1 : Int32)) - v4)) &&& 63)))).toInt32), .inl ((sI s 2 3) + v4), .inr (.inr (some 4))]) rfl ?_
    obtain ⟨hin, hw⟩ := hw
    refine X_sY rfl rfl hin ?_
    show X _ _ 37 [some (.inr (.inr (some 2))), some (.inr (.inl v1)), none, some (.inl v3), some (.inl v4)] [] (hp (pA s 4 (upd (sA s 4) (Int32.toNatClampNeg ((sI s 2 3) + v4)) ((Int32.toInt8 ((Int32.toInt8 (Int64.toInt32 (v1 >>> (Int32.toInt64 ((8 : Int32) * ((v3 - (1 : Int32)) - v4)) &&& 63)))).toInt32)).toInt32)))) _
    show X _ _ 37 [some (.inr (.inr (some 2))), some (.inr (.inl v1)), none, some (.inl v3), some (.inl v4)] [] (hp (pA s 4 (upd (sA s 4) (Int32.toNatClampNeg ((sI s 2 3) + v4)) ((Int32.toInt8 ((Int32.toInt8 (Int64.toInt32 (v1 >>> (Int32.toInt64 ((8 : Int32) * ((v3 - (1 : Int32)) - v4)) &&& 63)))).toInt32)).toInt32)))) _
    exact hlp.2 (pA s 4 (upd (sA s 4) (Int32.toNatClampNeg ((sI s 2 3) + v4)) ((Int32.toInt8 ((Int32.toInt8 (Int64.toInt32 (v1 >>> (Int32.toInt64 ((8 : Int32) * ((v3 - (1 : Int32)) - v4)) &&& 63)))).toInt32)).toInt32))) v1 v3 v4 hw
def b_Fo_writeBytes_37 (fu : Nat) (lp : LT_Fo_writeBytes_16) (s : St) (v1 : Int64) (v3 : Int32) (v4 : Int32) : St := (lp.1 s v1 v3 (v4 + Int32.ofInt (1)))
def v_Fo_writeBytes_37 (fu : Nat) (lp : LT_Fo_writeBytes_16) (wlp : LW_Fo_writeBytes_16) (s : St) (v1 : Int64) (v3 : Int32) (v4 : Int32) : Prop := (wlp.1 s v1 v3 (v4 + Int32.ofInt (1)))
theorem cb_Fo_writeBytes_37 {d : Nat} (fu : Nat) {lp : LT_Fo_writeBytes_16} {wlp : LW_Fo_writeBytes_16} (hlp : hl_Fo_writeBytes_16 (d) lp wlp) (s : St) (v1 : Int64) (v3 : Int32) (v4 : Int32) (hw : v_Fo_writeBytes_37 fu lp wlp s v1 v3 v4) : X m_Fo_writeBytes (d) 37 [some (.inr (.inr (some 2))), some (.inr (.inl v1)), none, some (.inl v3), some (.inl v4)] [] (hp s) (qVs (b_Fo_writeBytes_37 fu lp s v1 v3 v4)) := by
  unfold b_Fo_writeBytes_37
  unfold v_Fo_writeBytes_37 at hw
  refine X_run 2 (i1 := 16) (L1 := [some (.inr (.inr (some 2))), some (.inr (.inl v1)), none, some (.inl v3), some (.inl (v4 + Int32.ofInt (1)))]) (st1 := []) rfl ?_
  exact hlp.1 s v1 v3 (v4 + Int32.ofInt (1)) hw
def T_Fo_writeBytes_16 (fu : Nat) : Nat → LT_Fo_writeBytes_16
  | 0 => (fun s _ _ _ => s, fun s _ _ _ => s)
  | n + 1 => (fun s v1 v3 v4 => b_Fo_writeBytes_16 fu (T_Fo_writeBytes_16 fu n) s v1 v3 v4, fun s v1 v3 v4 => b_Fo_writeBytes_37 fu (T_Fo_writeBytes_16 fu n) s v1 v3 v4)
def WT_Fo_writeBytes_16 (fu : Nat) : Nat → LW_Fo_writeBytes_16
  | 0 => (fun _ _ _ _ => False, fun _ _ _ _ => False)
  | n + 1 => (fun s v1 v3 v4 => v_Fo_writeBytes_16 fu (T_Fo_writeBytes_16 fu n) (WT_Fo_writeBytes_16 fu n) s v1 v3 v4, fun s v1 v3 v4 => v_Fo_writeBytes_37 fu (T_Fo_writeBytes_16 fu n) (WT_Fo_writeBytes_16 fu n) s v1 v3 v4)
theorem cT_Fo_writeBytes_16 {d : Nat} (fu : Nat) : ∀ n : Nat, hl_Fo_writeBytes_16 (d) (T_Fo_writeBytes_16 fu n) (WT_Fo_writeBytes_16 fu n)
  | 0 => ⟨fun _ _ _ _ hw => hw.elim, fun _ _ _ _ hw => hw.elim⟩
  | n + 1 => ⟨fun s v1 v3 v4 hw => cb_Fo_writeBytes_16 fu (cT_Fo_writeBytes_16 fu n) s v1 v3 v4 hw, fun s v1 v3 v4 hw => cb_Fo_writeBytes_37 fu (cT_Fo_writeBytes_16 fu n) s v1 v3 v4 hw⟩
def f_Fo_writeBytes (fu : Nat) (s : St) (a0 : Int64) (a1 : Int32) : St := (cond (cn1 .eq (sI s 2 7)) (cond (cn2 .le ((sI s 2 3) + a1) (2000 : Int32)) ((T_Fo_writeBytes_16 fu fu).1 s a0 a1 (0 : Int32)) (pI s 2 7 (2 : Int32))) s)
def w_Fo_writeBytes (fu : Nat) (s : St) (a0 : Int64) (a1 : Int32) : Prop := ((cn1 .eq (sI s 2 7)) = true → ((cn2 .le ((sI s 2 3) + a1) (2000 : Int32)) = true → ((WT_Fo_writeBytes_16 fu fu).1 s a0 a1 (0 : Int32))) ∧ ((cn2 .le ((sI s 2 3) + a1) (2000 : Int32)) = false → True)) ∧ ((cn1 .eq (sI s 2 7)) = false → True)
theorem c_Fo_writeBytes {d : Nat} (fu : Nat) (s : St) (a0 : Int64) (a1 : Int32) (hw : w_Fo_writeBytes fu s a0 a1) : X m_Fo_writeBytes (d) 0 (entL 5 [.inr (.inr (some 2)), .inr (.inl a0), .inl a1]) [] (hp s) (qVs (f_Fo_writeBytes fu s a0 a1)) := by
  unfold f_Fo_writeBytes
  unfold w_Fo_writeBytes at hw
  refine X_run 1 (i1 := 1) (L1 := [some (.inr (.inr (some 2))), some (.inr (.inl a0)), none, some (.inl a1), none]) (st1 := [.inr (.inr (some 2))]) rfl ?_
  refine X_gF (v := .inl (sI s 2 7)) rfl rfl rfl rfl ?_
  refine X_run 1 (i1 := cond (cn1 .eq (sI s 2 7)) 4 3) (L1 := [some (.inr (.inr (some 2))), some (.inr (.inl a0)), none, some (.inl a1), none]) (st1 := []) rfl ?_
  refine X_brq (fun hb => ?_) (fun hb => ?_)
  · have hw := hw.1 hb
    refine X_run 1 (i1 := 5) (L1 := [some (.inr (.inr (some 2))), some (.inr (.inl a0)), none, some (.inl a1), none]) (st1 := [.inr (.inr (some 2))]) rfl ?_
    refine X_gF (v := .inl (sI s 2 3)) rfl rfl rfl rfl ?_
    refine X_run 4 (i1 := cond (cn2 .le ((sI s 2 3) + a1) (2000 : Int32)) 14 10) (L1 := [some (.inr (.inr (some 2))), some (.inr (.inl a0)), none, some (.inl a1), none]) (st1 := []) rfl ?_
    refine X_brq (fun hb => ?_) (fun hb => ?_)
    · have hw := hw.1 hb
      refine X_run 2 (i1 := 16) (L1 := [some (.inr (.inr (some 2))), some (.inr (.inl a0)), none, some (.inl a1), some (.inl (0 : Int32))]) (st1 := []) rfl ?_
      exact (cT_Fo_writeBytes_16 fu fu).1 s a0 a1 (0 : Int32) hw
    · skip
      refine X_run 2 (i1 := 12) (L1 := [some (.inr (.inr (some 2))), some (.inr (.inl a0)), none, some (.inl a1), none]) (st1 := [.inl (2 : Int32), .inr (.inr (some 2))]) rfl ?_
      refine X_pI rfl rfl rfl rfl ?_
      exact X_ret rfl rfl qVs_i
  · skip
    exact X_ret rfl rfl qVs_i
abbrev LT_Fo_writeRow_9 : Type := (St → Option Nat → Int32 → St) × (St → Option Nat → Int32 → St)
abbrev LW_Fo_writeRow_9 : Type := (St → Option Nat → Int32 → Prop) × (St → Option Nat → Int32 → Prop)
def hl_Fo_writeRow_9 (d : Nat) (lp : LT_Fo_writeRow_9) (wlp : LW_Fo_writeRow_9) : Prop := (∀ (s : St) (v1 : Option Nat) (v2 : Int32), wlp.1 s v1 v2 → X m_Fo_writeRow d 9 [some (.inr (.inr (some 2))), some (.inr (.inr v1)), some (.inl v2)] [] (hp s) (qVs (lp.1 s v1 v2))) ∧ (∀ (s : St) (v1 : Option Nat) (v2 : Int32), wlp.2 s v1 v2 → X m_Fo_writeRow d 26 [some (.inr (.inr (some 2))), some (.inr (.inr v1)), some (.inl v2)] [] (hp s) (qVs (lp.2 s v1 v2)))
def b_Fo_writeRow_9 (fu : Nat) (lp : LT_Fo_writeRow_9) (s : St) (v1 : Option Nat) (v2 : Int32) : St := (cond (cn2 .ge v2 (Int32.ofNat (aLN (sD s) (gR (sD s) v1 1)))) s (cond (cn1 .ne (sI s 2 7)) s (lp.2 (f_Fo_writeBytes fu s (aLF (sD s) (gR (sD s) v1 1) (Int32.toNatClampNeg v2)) (f_Fo_bytesOf (gI (sD s) v1 0))) v1 v2)))
def v_Fo_writeRow_9 (fu : Nat) (lp : LT_Fo_writeRow_9) (wlp : LW_Fo_writeRow_9) (s : St) (v1 : Option Nat) (v2 : Int32) : Prop := (ob (sD s) v1 6 ∧ (isL (sD s) (gR (sD s) v1 1) ∧ ((cn2 .ge v2 (Int32.ofNat (aLN (sD s) (gR (sD s) v1 1)))) = true → True) ∧ ((cn2 .ge v2 (Int32.ofNat (aLN (sD s) (gR (sD s) v1 1)))) = false → ((cn1 .ne (sI s 2 7)) = true → True) ∧ ((cn1 .ne (sI s 2 7)) = false → (ob (sD s) v1 6 ∧ (isL (sD s) (gR (sD s) v1 1) ∧ (vp_in v2 (aLN (sD s) (gR (sD s) v1 1)) ∧ (ob (sD s) v1 6 ∧ (w_Fo_writeBytes fu s (aLF (sD s) (gR (sD s) v1 1) (Int32.toNatClampNeg v2)) (f_Fo_bytesOf (gI (sD s) v1 0)) ∧ (wlp.2 (f_Fo_writeBytes fu s (aLF (sD s) (gR (sD s) v1 1) (Int32.toNatClampNeg v2)) (f_Fo_bytesOf (gI (sD s) v1 0))) v1 v2))))))))))
theorem cb_Fo_writeRow_9 {d : Nat} (fu : Nat) {lp : LT_Fo_writeRow_9} {wlp : LW_Fo_writeRow_9} (hlp : hl_Fo_writeRow_9 (d + 1) lp wlp) (s : St) (v1 : Option Nat) (v2 : Int32) (hw : v_Fo_writeRow_9 fu lp wlp s v1 v2) : X m_Fo_writeRow (d + 1) 9 [some (.inr (.inr (some 2))), some (.inr (.inr v1)), some (.inl v2)] [] (hp s) (qVs (b_Fo_writeRow_9 fu lp s v1 v2)) := by
  unfold b_Fo_writeRow_9
  unfold v_Fo_writeRow_9 at hw
  refine X_run 2 (i1 := 11) (L1 := [some (.inr (.inr (some 2))), some (.inr (.inr v1)), some (.inl v2)]) (st1 := [.inr (.inr v1), .inl v2]) rfl ?_
  obtain ⟨hc, hw⟩ := hw
  refine X_dR rfl hc rfl ?_
  show X _ _ 12 [some (.inr (.inr (some 2))), some (.inr (.inr v1)), some (.inl v2)] [.inr (.inr (gR (sD s) v1 1)), .inl v2] (hp s) _
  obtain ⟨hc, hw⟩ := hw
  refine X_dlen rfl hc ?_
  show X _ _ 13 [some (.inr (.inr (some 2))), some (.inr (.inr v1)), some (.inl v2)] [.inl (Int32.ofNat (aLN (sD s) (gR (sD s) v1 1))), .inl v2] (hp s) _
  refine X_run 1 (i1 := cond (cn2 .ge v2 (Int32.ofNat (aLN (sD s) (gR (sD s) v1 1)))) 28 14) (L1 := [some (.inr (.inr (some 2))), some (.inr (.inr v1)), some (.inl v2)]) (st1 := []) rfl ?_
  refine X_brq (fun hb => ?_) (fun hb => ?_)
  · skip
    exact X_ret rfl rfl qVs_i
  · have hw := hw.2 hb
    refine X_run 1 (i1 := 15) (L1 := [some (.inr (.inr (some 2))), some (.inr (.inr v1)), some (.inl v2)]) (st1 := [.inr (.inr (some 2))]) rfl ?_
    refine X_gF (v := .inl (sI s 2 7)) rfl rfl rfl rfl ?_
    refine X_run 1 (i1 := cond (cn1 .ne (sI s 2 7)) 28 17) (L1 := [some (.inr (.inr (some 2))), some (.inr (.inr v1)), some (.inl v2)]) (st1 := []) rfl ?_
    refine X_brq (fun hb => ?_) (fun hb => ?_)
    · skip
      exact X_ret rfl rfl qVs_i
    · have hw := hw.2 hb
      refine X_run 2 (i1 := 19) (L1 := [some (.inr (.inr (some 2))), some (.inr (.inr v1)), some (.inl v2)]) (st1 := [.inr (.inr v1), .inr (.inr (some 2))]) rfl ?_
      obtain ⟨hc, hw⟩ := hw
      refine X_dR rfl hc rfl ?_
      show X _ _ 20 [some (.inr (.inr (some 2))), some (.inr (.inr v1)), some (.inl v2)] [.inr (.inr (gR (sD s) v1 1)), .inr (.inr (some 2))] (hp s) _
      refine X_run 1 (i1 := 21) (L1 := [some (.inr (.inr (some 2))), some (.inr (.inr v1)), some (.inl v2)]) (st1 := [.inl v2, .inr (.inr (gR (sD s) v1 1)), .inr (.inr (some 2))]) rfl ?_
      obtain ⟨hc, hw⟩ := hw
      obtain ⟨hin, hw⟩ := hw
      refine X_daL rfl hc hin ?_
      show X _ _ 22 [some (.inr (.inr (some 2))), some (.inr (.inr v1)), some (.inl v2)] [.inr (.inl (aLF (sD s) (gR (sD s) v1 1) (Int32.toNatClampNeg v2))), .inr (.inr (some 2))] (hp s) _
      refine X_run 1 (i1 := 23) (L1 := [some (.inr (.inr (some 2))), some (.inr (.inr v1)), some (.inl v2)]) (st1 := [.inr (.inr v1), .inr (.inl (aLF (sD s) (gR (sD s) v1 1) (Int32.toNatClampNeg v2))), .inr (.inr (some 2))]) rfl ?_
      obtain ⟨hc, hw⟩ := hw
      refine X_dI rfl hc rfl ?_
      show X _ _ 24 [some (.inr (.inr (some 2))), some (.inr (.inr v1)), some (.inl v2)] [.inl (gI (sD s) v1 0), .inr (.inl (aLF (sD s) (gR (sD s) v1 1) (Int32.toNatClampNeg v2))), .inr (.inr (some 2))] (hp s) _
      refine X_calls m_Fo_bytesOf (As := [.inl (gI (sD s) v1 0)]) (st := [.inr (.inl (aLF (sD s) (gR (sD s) v1 1) (Int32.toNatClampNeg v2))), .inr (.inr (some 2))]) ok_Fo_bytesOf rfl rfl rfl (Nat.le_of_ble_eq_true rfl) (Nat.le_of_ble_eq_true rfl) (c_Fo_bytesOf (d := d) (gI (sD s) v1 0)) ?_
      rintro _ _ ⟨rfl, rfl⟩
      show X _ _ 25 [some (.inr (.inr (some 2))), some (.inr (.inr v1)), some (.inl v2)] [.inl (f_Fo_bytesOf (gI (sD s) v1 0)), .inr (.inl (aLF (sD s) (gR (sD s) v1 1) (Int32.toNatClampNeg v2))), .inr (.inr (some 2))] (hp s) _
      obtain ⟨hc, hw⟩ := hw
      refine X_callv m_Fo_writeBytes (As := [.inr (.inl (aLF (sD s) (gR (sD s) v1 1) (Int32.toNatClampNeg v2))), .inl (f_Fo_bytesOf (gI (sD s) v1 0))]) (st := []) ok_Fo_writeBytes rfl rfl rfl (hp_obj rfl) rfl (Nat.le_of_ble_eq_true rfl) (Nat.le_of_ble_eq_true rfl) (c_Fo_writeBytes (d := d) fu s (aLF (sD s) (gR (sD s) v1 1) (Int32.toNatClampNeg v2)) (f_Fo_bytesOf (gI (sD s) v1 0)) hc) ?_
      rintro _ _ ⟨rfl, rfl⟩
      show X _ _ 26 [some (.inr (.inr (some 2))), some (.inr (.inr v1)), some (.inl v2)] [] (hp (f_Fo_writeBytes fu s (aLF (sD s) (gR (sD s) v1 1) (Int32.toNatClampNeg v2)) (f_Fo_bytesOf (gI (sD s) v1 0)))) _
      show X _ _ 26 [some (.inr (.inr (some 2))), some (.inr (.inr v1)), some (.inl v2)] [] (hp (f_Fo_writeBytes fu s (aLF (sD s) (gR (sD s) v1 1) (Int32.toNatClampNeg v2)) (f_Fo_bytesOf (gI (sD s) v1 0)))) _
      exact hlp.2 (f_Fo_writeBytes fu s (aLF (sD s) (gR (sD s) v1 1) (Int32.toNatClampNeg v2)) (f_Fo_bytesOf (gI (sD s) v1 0))) v1 v2 hw
def b_Fo_writeRow_26 (fu : Nat) (lp : LT_Fo_writeRow_9) (s : St) (v1 : Option Nat) (v2 : Int32) : St := (lp.1 s v1 (v2 + Int32.ofInt (1)))
def v_Fo_writeRow_26 (fu : Nat) (lp : LT_Fo_writeRow_9) (wlp : LW_Fo_writeRow_9) (s : St) (v1 : Option Nat) (v2 : Int32) : Prop := (wlp.1 s v1 (v2 + Int32.ofInt (1)))
theorem cb_Fo_writeRow_26 {d : Nat} (fu : Nat) {lp : LT_Fo_writeRow_9} {wlp : LW_Fo_writeRow_9} (hlp : hl_Fo_writeRow_9 (d + 1) lp wlp) (s : St) (v1 : Option Nat) (v2 : Int32) (hw : v_Fo_writeRow_26 fu lp wlp s v1 v2) : X m_Fo_writeRow (d + 1) 26 [some (.inr (.inr (some 2))), some (.inr (.inr v1)), some (.inl v2)] [] (hp s) (qVs (b_Fo_writeRow_26 fu lp s v1 v2)) := by
  unfold b_Fo_writeRow_26
  unfold v_Fo_writeRow_26 at hw
  refine X_run 2 (i1 := 9) (L1 := [some (.inr (.inr (some 2))), some (.inr (.inr v1)), some (.inl (v2 + Int32.ofInt (1)))]) (st1 := []) rfl ?_
  exact hlp.1 s v1 (v2 + Int32.ofInt (1)) hw
def T_Fo_writeRow_9 (fu : Nat) : Nat → LT_Fo_writeRow_9
  | 0 => (fun s _ _ => s, fun s _ _ => s)
  | n + 1 => (fun s v1 v2 => b_Fo_writeRow_9 fu (T_Fo_writeRow_9 fu n) s v1 v2, fun s v1 v2 => b_Fo_writeRow_26 fu (T_Fo_writeRow_9 fu n) s v1 v2)
def WT_Fo_writeRow_9 (fu : Nat) : Nat → LW_Fo_writeRow_9
  | 0 => (fun _ _ _ => False, fun _ _ _ => False)
  | n + 1 => (fun s v1 v2 => v_Fo_writeRow_9 fu (T_Fo_writeRow_9 fu n) (WT_Fo_writeRow_9 fu n) s v1 v2, fun s v1 v2 => v_Fo_writeRow_26 fu (T_Fo_writeRow_9 fu n) (WT_Fo_writeRow_9 fu n) s v1 v2)
theorem cT_Fo_writeRow_9 {d : Nat} (fu : Nat) : ∀ n : Nat, hl_Fo_writeRow_9 (d + 1) (T_Fo_writeRow_9 fu n) (WT_Fo_writeRow_9 fu n)
  | 0 => ⟨fun _ _ _ hw => hw.elim, fun _ _ _ hw => hw.elim⟩
  | n + 1 => ⟨fun s v1 v2 hw => cb_Fo_writeRow_9 fu (cT_Fo_writeRow_9 fu n) s v1 v2 hw, fun s v1 v2 hw => cb_Fo_writeRow_26 fu (cT_Fo_writeRow_9 fu n) s v1 v2 hw⟩
def t_Fo_writeRow_7 (fu : Nat) (s : St) (v1 : Option Nat) : St := ((T_Fo_writeRow_9 fu fu).1 s v1 (0 : Int32))
def w_Fo_writeRow_7 (fu : Nat) (s : St) (v1 : Option Nat) : Prop := ((WT_Fo_writeRow_9 fu fu).1 s v1 (0 : Int32))
theorem ct_Fo_writeRow_7 {d : Nat} (fu : Nat) (s : St) (v1 : Option Nat) (hw : w_Fo_writeRow_7 fu s v1) : X m_Fo_writeRow (d + 1) 7 [some (.inr (.inr (some 2))), some (.inr (.inr v1)), none] [] (hp s) (qVs (t_Fo_writeRow_7 fu s v1)) := by
  unfold t_Fo_writeRow_7
  unfold w_Fo_writeRow_7 at hw
  refine X_run 2 (i1 := 9) (L1 := [some (.inr (.inr (some 2))), some (.inr (.inr v1)), some (.inl (0 : Int32))]) (st1 := []) rfl ?_
  exact (cT_Fo_writeRow_9 fu fu).1 s v1 (0 : Int32) hw
def f_Fo_writeRow (fu : Nat) (s : St) (a0 : Option Nat) : St := (t_Fo_writeRow_7 fu (f_Fo_writeBytes fu s (Int32.toInt64 (Int32.ofNat (aLN (sD s) (gR (sD s) a0 1)))) (4 : Int32)) a0)
def w_Fo_writeRow (fu : Nat) (s : St) (a0 : Option Nat) : Prop := (ob (sD s) a0 6 ∧ (isL (sD s) (gR (sD s) a0 1) ∧ (w_Fo_writeBytes fu s (Int32.toInt64 (Int32.ofNat (aLN (sD s) (gR (sD s) a0 1)))) (4 : Int32) ∧ (w_Fo_writeRow_7 fu (f_Fo_writeBytes fu s (Int32.toInt64 (Int32.ofNat (aLN (sD s) (gR (sD s) a0 1)))) (4 : Int32)) a0))))
theorem c_Fo_writeRow {d : Nat} (fu : Nat) (s : St) (a0 : Option Nat) (hw : w_Fo_writeRow fu s a0) : X m_Fo_writeRow (d + 1) 0 (entL 3 [.inr (.inr (some 2)), .inr (.inr a0)]) [] (hp s) (qVs (f_Fo_writeRow fu s a0)) := by
  unfold f_Fo_writeRow
  unfold w_Fo_writeRow at hw
  refine X_run 2 (i1 := 2) (L1 := [some (.inr (.inr (some 2))), some (.inr (.inr a0)), none]) (st1 := [.inr (.inr a0), .inr (.inr (some 2))]) rfl ?_
  obtain ⟨hc, hw⟩ := hw
  refine X_dR rfl hc rfl ?_
  show X _ _ 3 [some (.inr (.inr (some 2))), some (.inr (.inr a0)), none] [.inr (.inr (gR (sD s) a0 1)), .inr (.inr (some 2))] (hp s) _
  obtain ⟨hc, hw⟩ := hw
  refine X_dlen rfl hc ?_
  show X _ _ 4 [some (.inr (.inr (some 2))), some (.inr (.inr a0)), none] [.inl (Int32.ofNat (aLN (sD s) (gR (sD s) a0 1))), .inr (.inr (some 2))] (hp s) _
  refine X_run 2 (i1 := 6) (L1 := [some (.inr (.inr (some 2))), some (.inr (.inr a0)), none]) (st1 := [.inl (4 : Int32), .inr (.inl (Int32.toInt64 (Int32.ofNat (aLN (sD s) (gR (sD s) a0 1))))), .inr (.inr (some 2))]) rfl ?_
  obtain ⟨hc, hw⟩ := hw
  refine X_callv m_Fo_writeBytes (As := [.inr (.inl (Int32.toInt64 (Int32.ofNat (aLN (sD s) (gR (sD s) a0 1))))), .inl (4 : Int32)]) (st := []) ok_Fo_writeBytes rfl rfl rfl (hp_obj rfl) rfl (Nat.le_of_ble_eq_true rfl) (Nat.le_of_ble_eq_true rfl) (c_Fo_writeBytes (d := d) fu s (Int32.toInt64 (Int32.ofNat (aLN (sD s) (gR (sD s) a0 1)))) (4 : Int32) hc) ?_
  rintro _ _ ⟨rfl, rfl⟩
  show X _ _ 7 [some (.inr (.inr (some 2))), some (.inr (.inr a0)), none] [] (hp (f_Fo_writeBytes fu s (Int32.toInt64 (Int32.ofNat (aLN (sD s) (gR (sD s) a0 1)))) (4 : Int32))) _
  show X _ _ 7 [some (.inr (.inr (some 2))), some (.inr (.inr a0)), none] [] (hp (f_Fo_writeBytes fu s (Int32.toInt64 (Int32.ofNat (aLN (sD s) (gR (sD s) a0 1)))) (4 : Int32))) _
  exact ct_Fo_writeRow_7 fu (f_Fo_writeBytes fu s (Int32.toInt64 (Int32.ofNat (aLN (sD s) (gR (sD s) a0 1)))) (4 : Int32)) a0 hw
abbrev G_wr : Type := (St → Option Nat → Int32 → St) × (St → Option Nat → Int32 → St) × (St → Option Nat → Int32 → St)
abbrev GW_wr : Type := (St → Option Nat → Int32 → Prop) × (St → Option Nat → Int32 → Prop) × (St → Option Nat → Int32 → Prop)
def hr_wr (d : Nat) (rec : G_wr) (wrec : GW_wr) : Prop := (∀ (s : St) (a0 : Option Nat) (a1 : Int32), wrec.1 s a0 a1 → X m_Fo_writeThing d 0 (entL 7 [.inr (.inr (some 2)), .inr (.inr a0), .inl a1]) [] (hp s) (qVs (rec.1 s a0 a1))) ∧ (∀ (s : St) (a0 : Option Nat) (a1 : Int32), wrec.2.1 s a0 a1 → X m_Fo_writeShelf d 0 (entL 4 [.inr (.inr (some 2)), .inr (.inr a0), .inl a1]) [] (hp s) (qVs (rec.2.1 s a0 a1))) ∧ (∀ (s : St) (a0 : Option Nat) (a1 : Int32), wrec.2.2 s a0 a1 → X m_Fo_writePart d 0 (entL 3 [.inr (.inr (some 2)), .inr (.inr a0), .inl a1]) [] (hp s) (qVs (rec.2.2 s a0 a1)))
def t_Fo_writeThing_17 (rec : G_wr) (fu : Nat) (s : St) (v1 : Option Nat) (v2 : Int32) : St := (cond (cn1 .eq (b2i (isc (sD s) v1 1))) (cond (cn1 .eq (b2i (isc (sD s) v1 2))) (cond (cn1 .eq (b2i (isc (sD s) v1 0))) (cond (cn1 .eq (b2i (isc (sD s) v1 3))) s (f_Fo_writeBytes fu s (Int32.toInt64 (gI (sD s) v1 0)) (4 : Int32))) (rec.2.2 s v1 v2)) (rec.2.1 s v1 v2)) (f_Fo_writeRow fu s v1))
def w_Fo_writeThing_17 (rec : G_wr) (wrec : GW_wr) (fu : Nat) (s : St) (v1 : Option Nat) (v2 : Int32) : Prop := (tho (sD s) v1 ∧ ((cn1 .eq (b2i (isc (sD s) v1 1))) = true → (tho (sD s) v1 ∧ ((cn1 .eq (b2i (isc (sD s) v1 2))) = true → (tho (sD s) v1 ∧ ((cn1 .eq (b2i (isc (sD s) v1 0))) = true → (tho (sD s) v1 ∧ ((cn1 .eq (b2i (isc (sD s) v1 3))) = true → True) ∧ ((cn1 .eq (b2i (isc (sD s) v1 3))) = false → (cst (sD s) v1 3 ∧ (ob (sD s) v1 8 ∧ (w_Fo_writeBytes fu s (Int32.toInt64 (gI (sD s) v1 0)) (4 : Int32) ∧ True)))))) ∧ ((cn1 .eq (b2i (isc (sD s) v1 0))) = false → (cst (sD s) v1 0 ∧ (wrec.2.2 s v1 v2 ∧ True))))) ∧ ((cn1 .eq (b2i (isc (sD s) v1 2))) = false → (cst (sD s) v1 2 ∧ (wrec.2.1 s v1 v2 ∧ True))))) ∧ ((cn1 .eq (b2i (isc (sD s) v1 1))) = false → (cst (sD s) v1 1 ∧ (w_Fo_writeRow fu s v1 ∧ True))))
theorem ct_Fo_writeThing_17 {d : Nat} {rec : G_wr} {wrec : GW_wr} (hrec : hr_wr (d + 1) rec wrec) (fu : Nat) (s : St) (v1 : Option Nat) (v2 : Int32) (hw : w_Fo_writeThing_17 rec wrec fu s v1 v2) : X m_Fo_writeThing (d + 2) 17 [some (.inr (.inr (some 2))), some (.inr (.inr v1)), some (.inl v2), none, none, none, none] [] (hp s) (qVs (t_Fo_writeThing_17 rec fu s v1 v2)) := by
  unfold t_Fo_writeThing_17
  unfold w_Fo_writeThing_17 at hw
  refine X_run 1 (i1 := 18) (L1 := [some (.inr (.inr (some 2))), some (.inr (.inr v1)), some (.inl v2), none, none, none, none]) (st1 := [.inr (.inr v1)]) rfl ?_
  obtain ⟨hc, hw⟩ := hw
  refine X_dinst rfl (by decide) hc ?_
  show X _ _ 19 [some (.inr (.inr (some 2))), some (.inr (.inr v1)), some (.inl v2), none, none, none, none] [.inl (b2i (isc (sD s) v1 1))] (hp s) _
  refine X_run 1 (i1 := cond (cn1 .eq (b2i (isc (sD s) v1 1))) 27 20) (L1 := [some (.inr (.inr (some 2))), some (.inr (.inr v1)), some (.inl v2), none, none, none, none]) (st1 := []) rfl ?_
  refine X_brq (fun hb => ?_) (fun hb => ?_)
  · have hw := hw.1 hb
    refine X_run 1 (i1 := 28) (L1 := [some (.inr (.inr (some 2))), some (.inr (.inr v1)), some (.inl v2), none, none, none, none]) (st1 := [.inr (.inr v1)]) rfl ?_
    obtain ⟨hc, hw⟩ := hw
    refine X_dinst rfl (by decide) hc ?_
    show X _ _ 29 [some (.inr (.inr (some 2))), some (.inr (.inr v1)), some (.inl v2), none, none, none, none] [.inl (b2i (isc (sD s) v1 2))] (hp s) _
    refine X_run 1 (i1 := cond (cn1 .eq (b2i (isc (sD s) v1 2))) 38 30) (L1 := [some (.inr (.inr (some 2))), some (.inr (.inr v1)), some (.inl v2), none, none, none, none]) (st1 := []) rfl ?_
    refine X_brq (fun hb => ?_) (fun hb => ?_)
    · have hw := hw.1 hb
      refine X_run 1 (i1 := 39) (L1 := [some (.inr (.inr (some 2))), some (.inr (.inr v1)), some (.inl v2), none, none, none, none]) (st1 := [.inr (.inr v1)]) rfl ?_
      obtain ⟨hc, hw⟩ := hw
      refine X_dinst rfl (by decide) hc ?_
      show X _ _ 40 [some (.inr (.inr (some 2))), some (.inr (.inr v1)), some (.inl v2), none, none, none, none] [.inl (b2i (isc (sD s) v1 0))] (hp s) _
      refine X_run 1 (i1 := cond (cn1 .eq (b2i (isc (sD s) v1 0))) 49 41) (L1 := [some (.inr (.inr (some 2))), some (.inr (.inr v1)), some (.inl v2), none, none, none, none]) (st1 := []) rfl ?_
      refine X_brq (fun hb => ?_) (fun hb => ?_)
      · have hw := hw.1 hb
        refine X_run 1 (i1 := 50) (L1 := [some (.inr (.inr (some 2))), some (.inr (.inr v1)), some (.inl v2), none, none, none, none]) (st1 := [.inr (.inr v1)]) rfl ?_
        obtain ⟨hc, hw⟩ := hw
        refine X_dinst rfl (by decide) hc ?_
        show X _ _ 51 [some (.inr (.inr (some 2))), some (.inr (.inr v1)), some (.inl v2), none, none, none, none] [.inl (b2i (isc (sD s) v1 3))] (hp s) _
        refine X_run 1 (i1 := cond (cn1 .eq (b2i (isc (sD s) v1 3))) 61 52) (L1 := [some (.inr (.inr (some 2))), some (.inr (.inr v1)), some (.inl v2), none, none, none, none]) (st1 := []) rfl ?_
        refine X_brq (fun hb => ?_) (fun hb => ?_)
        · skip
          exact X_ret rfl rfl qVs_i
        · have hw := hw.2 hb
          refine X_run 1 (i1 := 53) (L1 := [some (.inr (.inr (some 2))), some (.inr (.inr v1)), some (.inl v2), none, none, none, none]) (st1 := [.inr (.inr v1)]) rfl ?_
          obtain ⟨hc, hw⟩ := hw
          refine X_dcast rfl hc ?_
          refine X_run 3 (i1 := 57) (L1 := [some (.inr (.inr (some 2))), some (.inr (.inr v1)), some (.inl v2), none, none, none, some (.inr (.inr v1))]) (st1 := [.inr (.inr v1), .inr (.inr (some 2))]) rfl ?_
          obtain ⟨hc, hw⟩ := hw
          refine X_dI rfl hc rfl ?_
          show X _ _ 58 [some (.inr (.inr (some 2))), some (.inr (.inr v1)), some (.inl v2), none, none, none, some (.inr (.inr v1))] [.inl (gI (sD s) v1 0), .inr (.inr (some 2))] (hp s) _
          refine X_run 2 (i1 := 60) (L1 := [some (.inr (.inr (some 2))), some (.inr (.inr v1)), some (.inl v2), none, none, none, some (.inr (.inr v1))]) (st1 := [.inl (4 : Int32), .inr (.inl (Int32.toInt64 (gI (sD s) v1 0))), .inr (.inr (some 2))]) rfl ?_
          obtain ⟨hc, hw⟩ := hw
          refine X_callv m_Fo_writeBytes (As := [.inr (.inl (Int32.toInt64 (gI (sD s) v1 0))), .inl (4 : Int32)]) (st := []) ok_Fo_writeBytes rfl rfl rfl (hp_obj rfl) rfl (Nat.le_of_ble_eq_true rfl) (Nat.le_of_ble_eq_true rfl) (c_Fo_writeBytes (d := d + 1) fu s (Int32.toInt64 (gI (sD s) v1 0)) (4 : Int32) hc) ?_
          rintro _ _ ⟨rfl, rfl⟩
          show X _ _ 61 [some (.inr (.inr (some 2))), some (.inr (.inr v1)), some (.inl v2), none, none, none, some (.inr (.inr v1))] [] (hp (f_Fo_writeBytes fu s (Int32.toInt64 (gI (sD s) v1 0)) (4 : Int32))) _
          exact X_ret rfl rfl qVs_i
      · have hw := hw.2 hb
        refine X_run 1 (i1 := 42) (L1 := [some (.inr (.inr (some 2))), some (.inr (.inr v1)), some (.inl v2), none, none, none, none]) (st1 := [.inr (.inr v1)]) rfl ?_
        obtain ⟨hc, hw⟩ := hw
        refine X_dcast rfl hc ?_
        refine X_run 4 (i1 := 47) (L1 := [some (.inr (.inr (some 2))), some (.inr (.inr v1)), some (.inl v2), none, none, some (.inr (.inr v1)), none]) (st1 := [.inl v2, .inr (.inr v1), .inr (.inr (some 2))]) rfl ?_
        obtain ⟨hc, hw⟩ := hw
        refine X_callv m_Fo_writePart (As := [.inr (.inr v1), .inl v2]) (st := []) ok_Fo_writePart rfl rfl rfl (hp_obj rfl) rfl (Nat.le_of_ble_eq_true rfl) (Nat.le_of_ble_eq_true rfl) (hrec.2.2 s v1 v2 hc) ?_
        rintro _ _ ⟨rfl, rfl⟩
        show X _ _ 48 [some (.inr (.inr (some 2))), some (.inr (.inr v1)), some (.inl v2), none, none, some (.inr (.inr v1)), none] [] (hp (rec.2.2 s v1 v2)) _
        refine X_run 1 (i1 := 61) (L1 := [some (.inr (.inr (some 2))), some (.inr (.inr v1)), some (.inl v2), none, none, some (.inr (.inr v1)), none]) (st1 := []) rfl ?_
        exact X_ret rfl rfl qVs_i
    · have hw := hw.2 hb
      refine X_run 1 (i1 := 31) (L1 := [some (.inr (.inr (some 2))), some (.inr (.inr v1)), some (.inl v2), none, none, none, none]) (st1 := [.inr (.inr v1)]) rfl ?_
      obtain ⟨hc, hw⟩ := hw
      refine X_dcast rfl hc ?_
      refine X_run 4 (i1 := 36) (L1 := [some (.inr (.inr (some 2))), some (.inr (.inr v1)), some (.inl v2), none, some (.inr (.inr v1)), none, none]) (st1 := [.inl v2, .inr (.inr v1), .inr (.inr (some 2))]) rfl ?_
      obtain ⟨hc, hw⟩ := hw
      refine X_callv m_Fo_writeShelf (As := [.inr (.inr v1), .inl v2]) (st := []) ok_Fo_writeShelf rfl rfl rfl (hp_obj rfl) rfl (Nat.le_of_ble_eq_true rfl) (Nat.le_of_ble_eq_true rfl) (hrec.2.1 s v1 v2 hc) ?_
      rintro _ _ ⟨rfl, rfl⟩
      show X _ _ 37 [some (.inr (.inr (some 2))), some (.inr (.inr v1)), some (.inl v2), none, some (.inr (.inr v1)), none, none] [] (hp (rec.2.1 s v1 v2)) _
      refine X_run 1 (i1 := 61) (L1 := [some (.inr (.inr (some 2))), some (.inr (.inr v1)), some (.inl v2), none, some (.inr (.inr v1)), none, none]) (st1 := []) rfl ?_
      exact X_ret rfl rfl qVs_i
  · have hw := hw.2 hb
    refine X_run 1 (i1 := 21) (L1 := [some (.inr (.inr (some 2))), some (.inr (.inr v1)), some (.inl v2), none, none, none, none]) (st1 := [.inr (.inr v1)]) rfl ?_
    obtain ⟨hc, hw⟩ := hw
    refine X_dcast rfl hc ?_
    refine X_run 3 (i1 := 25) (L1 := [some (.inr (.inr (some 2))), some (.inr (.inr v1)), some (.inl v2), some (.inr (.inr v1)), none, none, none]) (st1 := [.inr (.inr v1), .inr (.inr (some 2))]) rfl ?_
    obtain ⟨hc, hw⟩ := hw
    refine X_callv m_Fo_writeRow (As := [.inr (.inr v1)]) (st := []) ok_Fo_writeRow rfl rfl rfl (hp_obj rfl) rfl (Nat.le_of_ble_eq_true rfl) (Nat.le_of_ble_eq_true rfl) (c_Fo_writeRow (d := d) fu s v1 hc) ?_
    rintro _ _ ⟨rfl, rfl⟩
    show X _ _ 26 [some (.inr (.inr (some 2))), some (.inr (.inr v1)), some (.inl v2), some (.inr (.inr v1)), none, none, none] [] (hp (f_Fo_writeRow fu s v1)) _
    refine X_run 1 (i1 := 61) (L1 := [some (.inr (.inr (some 2))), some (.inr (.inr v1)), some (.inl v2), some (.inr (.inr v1)), none, none, none]) (st1 := []) rfl ?_
    exact X_ret rfl rfl qVs_i
def t_Fo_writeThing_15 (rec : G_wr) (fu : Nat) (s : St) (v1 : Option Nat) (v2 : Int32) (w0 : Int64) : St := (t_Fo_writeThing_17 rec fu (f_Fo_writeBytes fu s w0 (1 : Int32)) v1 v2)
def w_Fo_writeThing_15 (rec : G_wr) (wrec : GW_wr) (fu : Nat) (s : St) (v1 : Option Nat) (v2 : Int32) (w0 : Int64) : Prop := (w_Fo_writeBytes fu s w0 (1 : Int32) ∧ (w_Fo_writeThing_17 rec wrec fu (f_Fo_writeBytes fu s w0 (1 : Int32)) v1 v2))
theorem ct_Fo_writeThing_15 {d : Nat} {rec : G_wr} {wrec : GW_wr} (hrec : hr_wr (d + 1) rec wrec) (fu : Nat) (s : St) (v1 : Option Nat) (v2 : Int32) (w0 : Int64) (hw : w_Fo_writeThing_15 rec wrec fu s v1 v2 w0) : X m_Fo_writeThing (d + 2) 15 [some (.inr (.inr (some 2))), some (.inr (.inr v1)), some (.inl v2), none, none, none, none] [.inr (.inl w0), .inr (.inr (some 2))] (hp s) (qVs (t_Fo_writeThing_15 rec fu s v1 v2 w0)) := by
  unfold t_Fo_writeThing_15
  unfold w_Fo_writeThing_15 at hw
  refine X_run 1 (i1 := 16) (L1 := [some (.inr (.inr (some 2))), some (.inr (.inr v1)), some (.inl v2), none, none, none, none]) (st1 := [.inl (1 : Int32), .inr (.inl w0), .inr (.inr (some 2))]) rfl ?_
  obtain ⟨hc, hw⟩ := hw
  refine X_callv m_Fo_writeBytes (As := [.inr (.inl w0), .inl (1 : Int32)]) (st := []) ok_Fo_writeBytes rfl rfl rfl (hp_obj rfl) rfl (Nat.le_of_ble_eq_true rfl) (Nat.le_of_ble_eq_true rfl) (c_Fo_writeBytes (d := d + 1) fu s w0 (1 : Int32) hc) ?_
  rintro _ _ ⟨rfl, rfl⟩
  show X _ _ 17 [some (.inr (.inr (some 2))), some (.inr (.inr v1)), some (.inl v2), none, none, none, none] [] (hp (f_Fo_writeBytes fu s w0 (1 : Int32))) _
  show X _ _ 17 [some (.inr (.inr (some 2))), some (.inr (.inr v1)), some (.inl v2), none, none, none, none] [] (hp (f_Fo_writeBytes fu s w0 (1 : Int32))) _
  exact ct_Fo_writeThing_17 hrec fu (f_Fo_writeBytes fu s w0 (1 : Int32)) v1 v2 hw
def f_Fo_writeThing (rec : G_wr) (fu : Nat) (s : St) (a0 : Option Nat) (a1 : Int32) : St := (cond (cn2 .le a1 (30 : Int32)) (cond (Option.isNone a0) (t_Fo_writeThing_15 rec fu s a0 a1 (0 : Int64)) (t_Fo_writeThing_15 rec fu s a0 a1 (Int32.toInt64 (u_kind s a0)))) (pI s 2 7 (8 : Int32)))
def w_Fo_writeThing (rec : G_wr) (wrec : GW_wr) (fu : Nat) (s : St) (a0 : Option Nat) (a1 : Int32) : Prop := ((cn2 .le a1 (30 : Int32)) = true → ((Option.isNone a0) = true → (w_Fo_writeThing_15 rec wrec fu s a0 a1 (0 : Int64))) ∧ ((Option.isNone a0) = false → (wu_kind s a0 ∧ (w_Fo_writeThing_15 rec wrec fu s a0 a1 (Int32.toInt64 (u_kind s a0)))))) ∧ ((cn2 .le a1 (30 : Int32)) = false → True)
theorem c_Fo_writeThing {d : Nat} {rec : G_wr} {wrec : GW_wr} (hrec : hr_wr (d + 1) rec wrec) (fu : Nat) (s : St) (a0 : Option Nat) (a1 : Int32) (hw : w_Fo_writeThing rec wrec fu s a0 a1) : X m_Fo_writeThing (d + 2) 0 (entL 7 [.inr (.inr (some 2)), .inr (.inr a0), .inl a1]) [] (hp s) (qVs (f_Fo_writeThing rec fu s a0 a1)) := by
  unfold f_Fo_writeThing
  unfold w_Fo_writeThing at hw
  refine X_run 3 (i1 := cond (cn2 .le a1 (30 : Int32)) 7 3) (L1 := [some (.inr (.inr (some 2))), some (.inr (.inr a0)), some (.inl a1), none, none, none, none]) (st1 := []) rfl ?_
  refine X_brq (fun hb => ?_) (fun hb => ?_)
  · have hw := hw.1 hb
    refine X_run 3 (i1 := cond (Option.isNone a0) 10 12) (L1 := [some (.inr (.inr (some 2))), some (.inr (.inr a0)), some (.inl a1), none, none, none, none]) (st1 := [.inr (.inr (some 2))]) rfl ?_
    refine X_brq (fun hb => ?_) (fun hb => ?_)
    · have hw := hw.1 hb
      refine X_run 2 (i1 := 15) (L1 := [some (.inr (.inr (some 2))), some (.inr (.inr a0)), some (.inl a1), none, none, none, none]) (st1 := [.inr (.inl (0 : Int64)), .inr (.inr (some 2))]) rfl ?_
      exact ct_Fo_writeThing_15 hrec fu s a0 a1 (0 : Int64) hw
    · have hw := hw.2 hb
      refine X_run 1 (i1 := 13) (L1 := [some (.inr (.inr (some 2))), some (.inr (.inr a0)), some (.inl a1), none, none, none, none]) (st1 := [.inr (.inr a0), .inr (.inr (some 2))]) rfl ?_
      obtain ⟨hc, hw⟩ := hw
      refine X_ukind (d := d + 1) rfl (Nat.le_of_ble_eq_true rfl) hc ?_
      show X _ _ 14 [some (.inr (.inr (some 2))), some (.inr (.inr a0)), some (.inl a1), none, none, none, none] [.inl (u_kind s a0), .inr (.inr (some 2))] (hp s) _
      refine X_run 1 (i1 := 15) (L1 := [some (.inr (.inr (some 2))), some (.inr (.inr a0)), some (.inl a1), none, none, none, none]) (st1 := [.inr (.inl (Int32.toInt64 (u_kind s a0))), .inr (.inr (some 2))]) rfl ?_
      exact ct_Fo_writeThing_15 hrec fu s a0 a1 (Int32.toInt64 (u_kind s a0)) hw
  · skip
    refine X_run 2 (i1 := 5) (L1 := [some (.inr (.inr (some 2))), some (.inr (.inr a0)), some (.inl a1), none, none, none, none]) (st1 := [.inl (8 : Int32), .inr (.inr (some 2))]) rfl ?_
    refine X_pI rfl rfl rfl rfl ?_
    exact X_ret rfl rfl qVs_i
abbrev LT_Fo_writeShelf_19 : Type := (St → Option Nat → Int32 → Int32 → St) × (St → Option Nat → Int32 → Int32 → St)
abbrev LW_Fo_writeShelf_19 : Type := (St → Option Nat → Int32 → Int32 → Prop) × (St → Option Nat → Int32 → Int32 → Prop)
def hl_Fo_writeShelf_19 (d : Nat) (lp : LT_Fo_writeShelf_19) (wlp : LW_Fo_writeShelf_19) : Prop := (∀ (s : St) (v1 : Option Nat) (v2 : Int32) (v3 : Int32), wlp.1 s v1 v2 v3 → X m_Fo_writeShelf d 19 [some (.inr (.inr (some 2))), some (.inr (.inr v1)), some (.inl v2), some (.inl v3)] [] (hp s) (qVs (lp.1 s v1 v2 v3))) ∧ (∀ (s : St) (v1 : Option Nat) (v2 : Int32) (v3 : Int32), wlp.2 s v1 v2 v3 → X m_Fo_writeShelf d 36 [some (.inr (.inr (some 2))), some (.inr (.inr v1)), some (.inl v2), some (.inl v3)] [] (hp s) (qVs (lp.2 s v1 v2 v3)))
def b_Fo_writeShelf_19 (rec : G_wr) (fu : Nat) (lp : LT_Fo_writeShelf_19) (s : St) (v1 : Option Nat) (v2 : Int32) (v3 : Int32) : St := (cond (cn2 .ge v3 (Int32.ofNat (aRN (sD s) (gR (sD s) v1 1)))) s (cond (cn1 .ne (sI s 2 7)) s (lp.2 (rec.1 s (aRF (sD s) (gR (sD s) v1 1) (Int32.toNatClampNeg v3)) (v2 + (1 : Int32))) v1 v2 v3)))
def v_Fo_writeShelf_19 (rec : G_wr) (wrec : GW_wr) (fu : Nat) (lp : LT_Fo_writeShelf_19) (wlp : LW_Fo_writeShelf_19) (s : St) (v1 : Option Nat) (v2 : Int32) (v3 : Int32) : Prop := (ob (sD s) v1 7 ∧ (isR (sD s) (gR (sD s) v1 1) ∧ ((cn2 .ge v3 (Int32.ofNat (aRN (sD s) (gR (sD s) v1 1)))) = true → True) ∧ ((cn2 .ge v3 (Int32.ofNat (aRN (sD s) (gR (sD s) v1 1)))) = false → ((cn1 .ne (sI s 2 7)) = true → True) ∧ ((cn1 .ne (sI s 2 7)) = false → (ob (sD s) v1 7 ∧ (isR (sD s) (gR (sD s) v1 1) ∧ (vp_in v3 (aRN (sD s) (gR (sD s) v1 1)) ∧ (wrec.1 s (aRF (sD s) (gR (sD s) v1 1) (Int32.toNatClampNeg v3)) (v2 + (1 : Int32)) ∧ (wlp.2 (rec.1 s (aRF (sD s) (gR (sD s) v1 1) (Int32.toNatClampNeg v3)) (v2 + (1 : Int32))) v1 v2 v3)))))))))
theorem cb_Fo_writeShelf_19 {d : Nat} {rec : G_wr} {wrec : GW_wr} (hrec : hr_wr (d + 1) rec wrec) (fu : Nat) {lp : LT_Fo_writeShelf_19} {wlp : LW_Fo_writeShelf_19} (hlp : hl_Fo_writeShelf_19 (d + 2) lp wlp) (s : St) (v1 : Option Nat) (v2 : Int32) (v3 : Int32) (hw : v_Fo_writeShelf_19 rec wrec fu lp wlp s v1 v2 v3) : X m_Fo_writeShelf (d + 2) 19 [some (.inr (.inr (some 2))), some (.inr (.inr v1)), some (.inl v2), some (.inl v3)] [] (hp s) (qVs (b_Fo_writeShelf_19 rec fu lp s v1 v2 v3)) := by
  unfold b_Fo_writeShelf_19
  unfold v_Fo_writeShelf_19 at hw
  refine X_run 2 (i1 := 21) (L1 := [some (.inr (.inr (some 2))), some (.inr (.inr v1)), some (.inl v2), some (.inl v3)]) (st1 := [.inr (.inr v1), .inl v3]) rfl ?_
  obtain ⟨hc, hw⟩ := hw
  refine X_dR rfl hc rfl ?_
  show X _ _ 22 [some (.inr (.inr (some 2))), some (.inr (.inr v1)), some (.inl v2), some (.inl v3)] [.inr (.inr (gR (sD s) v1 1)), .inl v3] (hp s) _
  obtain ⟨hc, hw⟩ := hw
  refine X_drlen rfl hc ?_
  show X _ _ 23 [some (.inr (.inr (some 2))), some (.inr (.inr v1)), some (.inl v2), some (.inl v3)] [.inl (Int32.ofNat (aRN (sD s) (gR (sD s) v1 1))), .inl v3] (hp s) _
  refine X_run 1 (i1 := cond (cn2 .ge v3 (Int32.ofNat (aRN (sD s) (gR (sD s) v1 1)))) 38 24) (L1 := [some (.inr (.inr (some 2))), some (.inr (.inr v1)), some (.inl v2), some (.inl v3)]) (st1 := []) rfl ?_
  refine X_brq (fun hb => ?_) (fun hb => ?_)
  · skip
    exact X_ret rfl rfl qVs_i
  · have hw := hw.2 hb
    refine X_run 1 (i1 := 25) (L1 := [some (.inr (.inr (some 2))), some (.inr (.inr v1)), some (.inl v2), some (.inl v3)]) (st1 := [.inr (.inr (some 2))]) rfl ?_
    refine X_gF (v := .inl (sI s 2 7)) rfl rfl rfl rfl ?_
    refine X_run 1 (i1 := cond (cn1 .ne (sI s 2 7)) 38 27) (L1 := [some (.inr (.inr (some 2))), some (.inr (.inr v1)), some (.inl v2), some (.inl v3)]) (st1 := []) rfl ?_
    refine X_brq (fun hb => ?_) (fun hb => ?_)
    · skip
      exact X_ret rfl rfl qVs_i
    · have hw := hw.2 hb
      refine X_run 2 (i1 := 29) (L1 := [some (.inr (.inr (some 2))), some (.inr (.inr v1)), some (.inl v2), some (.inl v3)]) (st1 := [.inr (.inr v1), .inr (.inr (some 2))]) rfl ?_
      obtain ⟨hc, hw⟩ := hw
      refine X_dR rfl hc rfl ?_
      show X _ _ 30 [some (.inr (.inr (some 2))), some (.inr (.inr v1)), some (.inl v2), some (.inl v3)] [.inr (.inr (gR (sD s) v1 1)), .inr (.inr (some 2))] (hp s) _
      refine X_run 1 (i1 := 31) (L1 := [some (.inr (.inr (some 2))), some (.inr (.inr v1)), some (.inl v2), some (.inl v3)]) (st1 := [.inl v3, .inr (.inr (gR (sD s) v1 1)), .inr (.inr (some 2))]) rfl ?_
      obtain ⟨hc, hw⟩ := hw
      obtain ⟨hin, hw⟩ := hw
      refine X_daR rfl hc hin ?_
      show X _ _ 32 [some (.inr (.inr (some 2))), some (.inr (.inr v1)), some (.inl v2), some (.inl v3)] [.inr (.inr (aRF (sD s) (gR (sD s) v1 1) (Int32.toNatClampNeg v3))), .inr (.inr (some 2))] (hp s) _
      refine X_run 3 (i1 := 35) (L1 := [some (.inr (.inr (some 2))), some (.inr (.inr v1)), some (.inl v2), some (.inl v3)]) (st1 := [.inl (v2 + (1 : Int32)), .inr (.inr (aRF (sD s) (gR (sD s) v1 1) (Int32.toNatClampNeg v3))), .inr (.inr (some 2))]) rfl ?_
      obtain ⟨hc, hw⟩ := hw
      refine X_callv m_Fo_writeThing (As := [.inr (.inr (aRF (sD s) (gR (sD s) v1 1) (Int32.toNatClampNeg v3))), .inl (v2 + (1 : Int32))]) (st := []) ok_Fo_writeThing rfl rfl rfl (hp_obj rfl) rfl (Nat.le_of_ble_eq_true rfl) (Nat.le_of_ble_eq_true rfl) (hrec.1 s (aRF (sD s) (gR (sD s) v1 1) (Int32.toNatClampNeg v3)) (v2 + (1 : Int32)) hc) ?_
      rintro _ _ ⟨rfl, rfl⟩
      show X _ _ 36 [some (.inr (.inr (some 2))), some (.inr (.inr v1)), some (.inl v2), some (.inl v3)] [] (hp (rec.1 s (aRF (sD s) (gR (sD s) v1 1) (Int32.toNatClampNeg v3)) (v2 + (1 : Int32)))) _
      show X _ _ 36 [some (.inr (.inr (some 2))), some (.inr (.inr v1)), some (.inl v2), some (.inl v3)] [] (hp (rec.1 s (aRF (sD s) (gR (sD s) v1 1) (Int32.toNatClampNeg v3)) (v2 + (1 : Int32)))) _
      exact hlp.2 (rec.1 s (aRF (sD s) (gR (sD s) v1 1) (Int32.toNatClampNeg v3)) (v2 + (1 : Int32))) v1 v2 v3 hw
def b_Fo_writeShelf_36 (rec : G_wr) (fu : Nat) (lp : LT_Fo_writeShelf_19) (s : St) (v1 : Option Nat) (v2 : Int32) (v3 : Int32) : St := (lp.1 s v1 v2 (v3 + Int32.ofInt (1)))
def v_Fo_writeShelf_36 (rec : G_wr) (wrec : GW_wr) (fu : Nat) (lp : LT_Fo_writeShelf_19) (wlp : LW_Fo_writeShelf_19) (s : St) (v1 : Option Nat) (v2 : Int32) (v3 : Int32) : Prop := (wlp.1 s v1 v2 (v3 + Int32.ofInt (1)))
theorem cb_Fo_writeShelf_36 {d : Nat} {rec : G_wr} {wrec : GW_wr} (hrec : hr_wr (d + 1) rec wrec) (fu : Nat) {lp : LT_Fo_writeShelf_19} {wlp : LW_Fo_writeShelf_19} (hlp : hl_Fo_writeShelf_19 (d + 2) lp wlp) (s : St) (v1 : Option Nat) (v2 : Int32) (v3 : Int32) (hw : v_Fo_writeShelf_36 rec wrec fu lp wlp s v1 v2 v3) : X m_Fo_writeShelf (d + 2) 36 [some (.inr (.inr (some 2))), some (.inr (.inr v1)), some (.inl v2), some (.inl v3)] [] (hp s) (qVs (b_Fo_writeShelf_36 rec fu lp s v1 v2 v3)) := by
  unfold b_Fo_writeShelf_36
  unfold v_Fo_writeShelf_36 at hw
  refine X_run 2 (i1 := 19) (L1 := [some (.inr (.inr (some 2))), some (.inr (.inr v1)), some (.inl v2), some (.inl (v3 + Int32.ofInt (1)))]) (st1 := []) rfl ?_
  exact hlp.1 s v1 v2 (v3 + Int32.ofInt (1)) hw
def T_Fo_writeShelf_19 (rec : G_wr) (fu : Nat) : Nat → LT_Fo_writeShelf_19
  | 0 => (fun s _ _ _ => s, fun s _ _ _ => s)
  | n + 1 => (fun s v1 v2 v3 => b_Fo_writeShelf_19 rec fu (T_Fo_writeShelf_19 rec fu n) s v1 v2 v3, fun s v1 v2 v3 => b_Fo_writeShelf_36 rec fu (T_Fo_writeShelf_19 rec fu n) s v1 v2 v3)
def WT_Fo_writeShelf_19 (rec : G_wr) (wrec : GW_wr) (fu : Nat) : Nat → LW_Fo_writeShelf_19
  | 0 => (fun _ _ _ _ => False, fun _ _ _ _ => False)
  | n + 1 => (fun s v1 v2 v3 => v_Fo_writeShelf_19 rec wrec fu (T_Fo_writeShelf_19 rec fu n) (WT_Fo_writeShelf_19 rec wrec fu n) s v1 v2 v3, fun s v1 v2 v3 => v_Fo_writeShelf_36 rec wrec fu (T_Fo_writeShelf_19 rec fu n) (WT_Fo_writeShelf_19 rec wrec fu n) s v1 v2 v3)
theorem cT_Fo_writeShelf_19 {d : Nat} {rec : G_wr} {wrec : GW_wr} (hrec : hr_wr (d + 1) rec wrec) (fu : Nat) : ∀ n : Nat, hl_Fo_writeShelf_19 (d + 2) (T_Fo_writeShelf_19 rec fu n) (WT_Fo_writeShelf_19 rec wrec fu n)
  | 0 => ⟨fun _ _ _ _ hw => hw.elim, fun _ _ _ _ hw => hw.elim⟩
  | n + 1 => ⟨fun s v1 v2 v3 hw => cb_Fo_writeShelf_19 hrec fu (cT_Fo_writeShelf_19 hrec fu n) s v1 v2 v3 hw, fun s v1 v2 v3 hw => cb_Fo_writeShelf_36 hrec fu (cT_Fo_writeShelf_19 hrec fu n) s v1 v2 v3 hw⟩
def t_Fo_writeShelf_17 (rec : G_wr) (fu : Nat) (s : St) (v1 : Option Nat) (v2 : Int32) : St := ((T_Fo_writeShelf_19 rec fu fu).1 s v1 v2 (0 : Int32))
def w_Fo_writeShelf_17 (rec : G_wr) (wrec : GW_wr) (fu : Nat) (s : St) (v1 : Option Nat) (v2 : Int32) : Prop := ((WT_Fo_writeShelf_19 rec wrec fu fu).1 s v1 v2 (0 : Int32))
theorem ct_Fo_writeShelf_17 {d : Nat} {rec : G_wr} {wrec : GW_wr} (hrec : hr_wr (d + 1) rec wrec) (fu : Nat) (s : St) (v1 : Option Nat) (v2 : Int32) (hw : w_Fo_writeShelf_17 rec wrec fu s v1 v2) : X m_Fo_writeShelf (d + 2) 17 [some (.inr (.inr (some 2))), some (.inr (.inr v1)), some (.inl v2), none] [] (hp s) (qVs (t_Fo_writeShelf_17 rec fu s v1 v2)) := by
  unfold t_Fo_writeShelf_17
  unfold w_Fo_writeShelf_17 at hw
  refine X_run 2 (i1 := 19) (L1 := [some (.inr (.inr (some 2))), some (.inr (.inr v1)), some (.inl v2), some (.inl (0 : Int32))]) (st1 := []) rfl ?_
  exact (cT_Fo_writeShelf_19 hrec fu fu).1 s v1 v2 (0 : Int32) hw
def t_Fo_writeShelf_10 (rec : G_wr) (fu : Nat) (s : St) (v1 : Option Nat) (v2 : Int32) : St := (t_Fo_writeShelf_17 rec fu (f_Fo_writeBytes fu s (Int32.toInt64 (Int32.ofNat (aRN (sD s) (gR (sD s) v1 1)))) (4 : Int32)) v1 v2)
def w_Fo_writeShelf_10 (rec : G_wr) (wrec : GW_wr) (fu : Nat) (s : St) (v1 : Option Nat) (v2 : Int32) : Prop := (ob (sD s) v1 7 ∧ (isR (sD s) (gR (sD s) v1 1) ∧ (w_Fo_writeBytes fu s (Int32.toInt64 (Int32.ofNat (aRN (sD s) (gR (sD s) v1 1)))) (4 : Int32) ∧ (w_Fo_writeShelf_17 rec wrec fu (f_Fo_writeBytes fu s (Int32.toInt64 (Int32.ofNat (aRN (sD s) (gR (sD s) v1 1)))) (4 : Int32)) v1 v2))))
theorem ct_Fo_writeShelf_10 {d : Nat} {rec : G_wr} {wrec : GW_wr} (hrec : hr_wr (d + 1) rec wrec) (fu : Nat) (s : St) (v1 : Option Nat) (v2 : Int32) (hw : w_Fo_writeShelf_10 rec wrec fu s v1 v2) : X m_Fo_writeShelf (d + 2) 10 [some (.inr (.inr (some 2))), some (.inr (.inr v1)), some (.inl v2), none] [] (hp s) (qVs (t_Fo_writeShelf_10 rec fu s v1 v2)) := by
  unfold t_Fo_writeShelf_10
  unfold w_Fo_writeShelf_10 at hw
  refine X_run 2 (i1 := 12) (L1 := [some (.inr (.inr (some 2))), some (.inr (.inr v1)), some (.inl v2), none]) (st1 := [.inr (.inr v1), .inr (.inr (some 2))]) rfl ?_
  obtain ⟨hc, hw⟩ := hw
  refine X_dR rfl hc rfl ?_
  show X _ _ 13 [some (.inr (.inr (some 2))), some (.inr (.inr v1)), some (.inl v2), none] [.inr (.inr (gR (sD s) v1 1)), .inr (.inr (some 2))] (hp s) _
  obtain ⟨hc, hw⟩ := hw
  refine X_drlen rfl hc ?_
  show X _ _ 14 [some (.inr (.inr (some 2))), some (.inr (.inr v1)), some (.inl v2), none] [.inl (Int32.ofNat (aRN (sD s) (gR (sD s) v1 1))), .inr (.inr (some 2))] (hp s) _
  refine X_run 2 (i1 := 16) (L1 := [some (.inr (.inr (some 2))), some (.inr (.inr v1)), some (.inl v2), none]) (st1 := [.inl (4 : Int32), .inr (.inl (Int32.toInt64 (Int32.ofNat (aRN (sD s) (gR (sD s) v1 1))))), .inr (.inr (some 2))]) rfl ?_
  obtain ⟨hc, hw⟩ := hw
  refine X_callv m_Fo_writeBytes (As := [.inr (.inl (Int32.toInt64 (Int32.ofNat (aRN (sD s) (gR (sD s) v1 1))))), .inl (4 : Int32)]) (st := []) ok_Fo_writeBytes rfl rfl rfl (hp_obj rfl) rfl (Nat.le_of_ble_eq_true rfl) (Nat.le_of_ble_eq_true rfl) (c_Fo_writeBytes (d := d + 1) fu s (Int32.toInt64 (Int32.ofNat (aRN (sD s) (gR (sD s) v1 1)))) (4 : Int32) hc) ?_
  rintro _ _ ⟨rfl, rfl⟩
  show X _ _ 17 [some (.inr (.inr (some 2))), some (.inr (.inr v1)), some (.inl v2), none] [] (hp (f_Fo_writeBytes fu s (Int32.toInt64 (Int32.ofNat (aRN (sD s) (gR (sD s) v1 1)))) (4 : Int32))) _
  show X _ _ 17 [some (.inr (.inr (some 2))), some (.inr (.inr v1)), some (.inl v2), none] [] (hp (f_Fo_writeBytes fu s (Int32.toInt64 (Int32.ofNat (aRN (sD s) (gR (sD s) v1 1)))) (4 : Int32))) _
  exact ct_Fo_writeShelf_17 hrec fu (f_Fo_writeBytes fu s (Int32.toInt64 (Int32.ofNat (aRN (sD s) (gR (sD s) v1 1)))) (4 : Int32)) v1 v2 hw
def f_Fo_writeShelf (rec : G_wr) (fu : Nat) (s : St) (a0 : Option Nat) (a1 : Int32) : St := (cond (cn2 .eq (gI (sD s) a0 0) (-1 : Int32)) (t_Fo_writeShelf_10 rec fu s a0 a1) (t_Fo_writeShelf_10 rec fu (f_Fo_writeBytes fu s (Int32.toInt64 (gI (sD s) a0 0)) (1 : Int32)) a0 a1))
def w_Fo_writeShelf (rec : G_wr) (wrec : GW_wr) (fu : Nat) (s : St) (a0 : Option Nat) (a1 : Int32) : Prop := (ob (sD s) a0 7 ∧ ((cn2 .eq (gI (sD s) a0 0) (-1 : Int32)) = true → (w_Fo_writeShelf_10 rec wrec fu s a0 a1)) ∧ ((cn2 .eq (gI (sD s) a0 0) (-1 : Int32)) = false → (ob (sD s) a0 7 ∧ (w_Fo_writeBytes fu s (Int32.toInt64 (gI (sD s) a0 0)) (1 : Int32) ∧ (w_Fo_writeShelf_10 rec wrec fu (f_Fo_writeBytes fu s (Int32.toInt64 (gI (sD s) a0 0)) (1 : Int32)) a0 a1)))))
theorem c_Fo_writeShelf {d : Nat} {rec : G_wr} {wrec : GW_wr} (hrec : hr_wr (d + 1) rec wrec) (fu : Nat) (s : St) (a0 : Option Nat) (a1 : Int32) (hw : w_Fo_writeShelf rec wrec fu s a0 a1) : X m_Fo_writeShelf (d + 2) 0 (entL 4 [.inr (.inr (some 2)), .inr (.inr a0), .inl a1]) [] (hp s) (qVs (f_Fo_writeShelf rec fu s a0 a1)) := by
  unfold f_Fo_writeShelf
  unfold w_Fo_writeShelf at hw
  refine X_run 1 (i1 := 1) (L1 := [some (.inr (.inr (some 2))), some (.inr (.inr a0)), some (.inl a1), none]) (st1 := [.inr (.inr a0)]) rfl ?_
  obtain ⟨hc, hw⟩ := hw
  refine X_dI rfl hc rfl ?_
  show X _ _ 2 [some (.inr (.inr (some 2))), some (.inr (.inr a0)), some (.inl a1), none] [.inl (gI (sD s) a0 0)] (hp s) _
  refine X_run 2 (i1 := cond (cn2 .eq (gI (sD s) a0 0) (-1 : Int32)) 10 4) (L1 := [some (.inr (.inr (some 2))), some (.inr (.inr a0)), some (.inl a1), none]) (st1 := []) rfl ?_
  refine X_brq (fun hb => ?_) (fun hb => ?_)
  · have hw := hw.1 hb
    exact ct_Fo_writeShelf_10 hrec fu s a0 a1 hw
  · have hw := hw.2 hb
    refine X_run 2 (i1 := 6) (L1 := [some (.inr (.inr (some 2))), some (.inr (.inr a0)), some (.inl a1), none]) (st1 := [.inr (.inr a0), .inr (.inr (some 2))]) rfl ?_
    obtain ⟨hc, hw⟩ := hw
    refine X_dI rfl hc rfl ?_
    show X _ _ 7 [some (.inr (.inr (some 2))), some (.inr (.inr a0)), some (.inl a1), none] [.inl (gI (sD s) a0 0), .inr (.inr (some 2))] (hp s) _
    refine X_run 2 (i1 := 9) (L1 := [some (.inr (.inr (some 2))), some (.inr (.inr a0)), some (.inl a1), none]) (st1 := [.inl (1 : Int32), .inr (.inl (Int32.toInt64 (gI (sD s) a0 0))), .inr (.inr (some 2))]) rfl ?_
    obtain ⟨hc, hw⟩ := hw
    refine X_callv m_Fo_writeBytes (As := [.inr (.inl (Int32.toInt64 (gI (sD s) a0 0))), .inl (1 : Int32)]) (st := []) ok_Fo_writeBytes rfl rfl rfl (hp_obj rfl) rfl (Nat.le_of_ble_eq_true rfl) (Nat.le_of_ble_eq_true rfl) (c_Fo_writeBytes (d := d + 1) fu s (Int32.toInt64 (gI (sD s) a0 0)) (1 : Int32) hc) ?_
    rintro _ _ ⟨rfl, rfl⟩
    show X _ _ 10 [some (.inr (.inr (some 2))), some (.inr (.inr a0)), some (.inl a1), none] [] (hp (f_Fo_writeBytes fu s (Int32.toInt64 (gI (sD s) a0 0)) (1 : Int32))) _
    show X _ _ 10 [some (.inr (.inr (some 2))), some (.inr (.inr a0)), some (.inl a1), none] [] (hp (f_Fo_writeBytes fu s (Int32.toInt64 (gI (sD s) a0 0)) (1 : Int32))) _
    exact ct_Fo_writeShelf_10 hrec fu (f_Fo_writeBytes fu s (Int32.toInt64 (gI (sD s) a0 0)) (1 : Int32)) a0 a1 hw
def t_Fo_writePart_20 (rec : G_wr) (fu : Nat) (s : St) (v1 : Option Nat) (v2 : Int32) : St := (cond (cn2 .ne (gI (sD s) v1 0) (4 : Int32)) s (cond (cn1 .ne (sI s 2 7)) s (rec.1 s (gR (sD s) v1 4) (v2 + (1 : Int32)))))
def w_Fo_writePart_20 (rec : G_wr) (wrec : GW_wr) (fu : Nat) (s : St) (v1 : Option Nat) (v2 : Int32) : Prop := (ob (sD s) v1 4 ∧ ((cn2 .ne (gI (sD s) v1 0) (4 : Int32)) = true → True) ∧ ((cn2 .ne (gI (sD s) v1 0) (4 : Int32)) = false → ((cn1 .ne (sI s 2 7)) = true → True) ∧ ((cn1 .ne (sI s 2 7)) = false → (ob (sD s) v1 4 ∧ (wrec.1 s (gR (sD s) v1 4) (v2 + (1 : Int32)) ∧ True)))))
theorem ct_Fo_writePart_20 {d : Nat} {rec : G_wr} {wrec : GW_wr} (hrec : hr_wr (d + 1) rec wrec) (fu : Nat) (s : St) (v1 : Option Nat) (v2 : Int32) (hw : w_Fo_writePart_20 rec wrec fu s v1 v2) : X m_Fo_writePart (d + 2) 20 [some (.inr (.inr (some 2))), some (.inr (.inr v1)), some (.inl v2)] [] (hp s) (qVs (t_Fo_writePart_20 rec fu s v1 v2)) := by
  unfold t_Fo_writePart_20
  unfold w_Fo_writePart_20 at hw
  refine X_run 1 (i1 := 21) (L1 := [some (.inr (.inr (some 2))), some (.inr (.inr v1)), some (.inl v2)]) (st1 := [.inr (.inr v1)]) rfl ?_
  obtain ⟨hc, hw⟩ := hw
  refine X_dI rfl hc rfl ?_
  show X _ _ 22 [some (.inr (.inr (some 2))), some (.inr (.inr v1)), some (.inl v2)] [.inl (gI (sD s) v1 0)] (hp s) _
  refine X_run 2 (i1 := cond (cn2 .ne (gI (sD s) v1 0) (4 : Int32)) 34 24) (L1 := [some (.inr (.inr (some 2))), some (.inr (.inr v1)), some (.inl v2)]) (st1 := []) rfl ?_
  refine X_brq (fun hb => ?_) (fun hb => ?_)
  · skip
    exact X_ret rfl rfl qVs_i
  · have hw := hw.2 hb
    refine X_run 1 (i1 := 25) (L1 := [some (.inr (.inr (some 2))), some (.inr (.inr v1)), some (.inl v2)]) (st1 := [.inr (.inr (some 2))]) rfl ?_
    refine X_gF (v := .inl (sI s 2 7)) rfl rfl rfl rfl ?_
    refine X_run 1 (i1 := cond (cn1 .ne (sI s 2 7)) 34 27) (L1 := [some (.inr (.inr (some 2))), some (.inr (.inr v1)), some (.inl v2)]) (st1 := []) rfl ?_
    refine X_brq (fun hb => ?_) (fun hb => ?_)
    · skip
      exact X_ret rfl rfl qVs_i
    · have hw := hw.2 hb
      refine X_run 2 (i1 := 29) (L1 := [some (.inr (.inr (some 2))), some (.inr (.inr v1)), some (.inl v2)]) (st1 := [.inr (.inr v1), .inr (.inr (some 2))]) rfl ?_
      obtain ⟨hc, hw⟩ := hw
      refine X_dR rfl hc rfl ?_
      show X _ _ 30 [some (.inr (.inr (some 2))), some (.inr (.inr v1)), some (.inl v2)] [.inr (.inr (gR (sD s) v1 4)), .inr (.inr (some 2))] (hp s) _
      refine X_run 3 (i1 := 33) (L1 := [some (.inr (.inr (some 2))), some (.inr (.inr v1)), some (.inl v2)]) (st1 := [.inl (v2 + (1 : Int32)), .inr (.inr (gR (sD s) v1 4)), .inr (.inr (some 2))]) rfl ?_
      obtain ⟨hc, hw⟩ := hw
      refine X_callv m_Fo_writeThing (As := [.inr (.inr (gR (sD s) v1 4)), .inl (v2 + (1 : Int32))]) (st := []) ok_Fo_writeThing rfl rfl rfl (hp_obj rfl) rfl (Nat.le_of_ble_eq_true rfl) (Nat.le_of_ble_eq_true rfl) (hrec.1 s (gR (sD s) v1 4) (v2 + (1 : Int32)) hc) ?_
      rintro _ _ ⟨rfl, rfl⟩
      show X _ _ 34 [some (.inr (.inr (some 2))), some (.inr (.inr v1)), some (.inl v2)] [] (hp (rec.1 s (gR (sD s) v1 4) (v2 + (1 : Int32)))) _
      exact X_ret rfl rfl qVs_i
def t_Fo_writePart_11 (rec : G_wr) (fu : Nat) (s : St) (v1 : Option Nat) (v2 : Int32) : St := (cond (cn1 .eq (b2i (f_Pa_isPriced s v1))) (t_Fo_writePart_20 rec fu s v1 v2) (t_Fo_writePart_20 rec fu (f_Fo_writeBytes fu s (Int32.toInt64 (gI (sD s) v1 3)) (4 : Int32)) v1 v2))
def w_Fo_writePart_11 (rec : G_wr) (wrec : GW_wr) (fu : Nat) (s : St) (v1 : Option Nat) (v2 : Int32) : Prop := (w_Pa_isPriced s v1 ∧ (oC (sD s) v1 = some 4 ∧ ((cn1 .eq (b2i (f_Pa_isPriced s v1))) = true → (w_Fo_writePart_20 rec wrec fu s v1 v2)) ∧ ((cn1 .eq (b2i (f_Pa_isPriced s v1))) = false → (ob (sD s) v1 4 ∧ (w_Fo_writeBytes fu s (Int32.toInt64 (gI (sD s) v1 3)) (4 : Int32) ∧ (w_Fo_writePart_20 rec wrec fu (f_Fo_writeBytes fu s (Int32.toInt64 (gI (sD s) v1 3)) (4 : Int32)) v1 v2))))))
theorem ct_Fo_writePart_11 {d : Nat} {rec : G_wr} {wrec : GW_wr} (hrec : hr_wr (d + 1) rec wrec) (fu : Nat) (s : St) (v1 : Option Nat) (v2 : Int32) (hw : w_Fo_writePart_11 rec wrec fu s v1 v2) : X m_Fo_writePart (d + 2) 11 [some (.inr (.inr (some 2))), some (.inr (.inr v1)), some (.inl v2)] [] (hp s) (qVs (t_Fo_writePart_11 rec fu s v1 v2)) := by
  unfold t_Fo_writePart_11
  unfold w_Fo_writePart_11 at hw
  refine X_run 1 (i1 := 12) (L1 := [some (.inr (.inr (some 2))), some (.inr (.inr v1)), some (.inl v2)]) (st1 := [.inr (.inr v1)]) rfl ?_
  obtain ⟨hc, hw⟩ := hw
  obtain ⟨hr, hw⟩ := hw
  refine X_dcallv m_Pa_isPriced (As := []) (st := []) ok_Pa_isPriced rfl rfl rfl hr rfl (Nat.le_of_ble_eq_true rfl) (Nat.le_of_ble_eq_true rfl) (c_Pa_isPriced (d := d) s v1 hc) ?_
  rintro _ _ ⟨rfl, rfl⟩
  show X _ _ 13 [some (.inr (.inr (some 2))), some (.inr (.inr v1)), some (.inl v2)] [.inl (b2i (f_Pa_isPriced s v1))] (hp s) _
  refine X_run 1 (i1 := cond (cn1 .eq (b2i (f_Pa_isPriced s v1))) 20 14) (L1 := [some (.inr (.inr (some 2))), some (.inr (.inr v1)), some (.inl v2)]) (st1 := []) rfl ?_
  refine X_brq (fun hb => ?_) (fun hb => ?_)
  · have hw := hw.1 hb
    exact ct_Fo_writePart_20 hrec fu s v1 v2 hw
  · have hw := hw.2 hb
    refine X_run 2 (i1 := 16) (L1 := [some (.inr (.inr (some 2))), some (.inr (.inr v1)), some (.inl v2)]) (st1 := [.inr (.inr v1), .inr (.inr (some 2))]) rfl ?_
    obtain ⟨hc, hw⟩ := hw
    refine X_dI rfl hc rfl ?_
    show X _ _ 17 [some (.inr (.inr (some 2))), some (.inr (.inr v1)), some (.inl v2)] [.inl (gI (sD s) v1 3), .inr (.inr (some 2))] (hp s) _
    refine X_run 2 (i1 := 19) (L1 := [some (.inr (.inr (some 2))), some (.inr (.inr v1)), some (.inl v2)]) (st1 := [.inl (4 : Int32), .inr (.inl (Int32.toInt64 (gI (sD s) v1 3))), .inr (.inr (some 2))]) rfl ?_
    obtain ⟨hc, hw⟩ := hw
    refine X_callv m_Fo_writeBytes (As := [.inr (.inl (Int32.toInt64 (gI (sD s) v1 3))), .inl (4 : Int32)]) (st := []) ok_Fo_writeBytes rfl rfl rfl (hp_obj rfl) rfl (Nat.le_of_ble_eq_true rfl) (Nat.le_of_ble_eq_true rfl) (c_Fo_writeBytes (d := d + 1) fu s (Int32.toInt64 (gI (sD s) v1 3)) (4 : Int32) hc) ?_
    rintro _ _ ⟨rfl, rfl⟩
    show X _ _ 20 [some (.inr (.inr (some 2))), some (.inr (.inr v1)), some (.inl v2)] [] (hp (f_Fo_writeBytes fu s (Int32.toInt64 (gI (sD s) v1 3)) (4 : Int32))) _
    show X _ _ 20 [some (.inr (.inr (some 2))), some (.inr (.inr v1)), some (.inl v2)] [] (hp (f_Fo_writeBytes fu s (Int32.toInt64 (gI (sD s) v1 3)) (4 : Int32))) _
    exact ct_Fo_writePart_20 hrec fu (f_Fo_writeBytes fu s (Int32.toInt64 (gI (sD s) v1 3)) (4 : Int32)) v1 v2 hw
def t_Fo_writePart_6 (rec : G_wr) (fu : Nat) (s : St) (v1 : Option Nat) (v2 : Int32) : St := (t_Fo_writePart_11 rec fu (f_Fo_writeBytes fu s (gL (sD s) v1 2) (8 : Int32)) v1 v2)
def w_Fo_writePart_6 (rec : G_wr) (wrec : GW_wr) (fu : Nat) (s : St) (v1 : Option Nat) (v2 : Int32) : Prop := (ob (sD s) v1 4 ∧ (w_Fo_writeBytes fu s (gL (sD s) v1 2) (8 : Int32) ∧ (w_Fo_writePart_11 rec wrec fu (f_Fo_writeBytes fu s (gL (sD s) v1 2) (8 : Int32)) v1 v2)))
theorem ct_Fo_writePart_6 {d : Nat} {rec : G_wr} {wrec : GW_wr} (hrec : hr_wr (d + 1) rec wrec) (fu : Nat) (s : St) (v1 : Option Nat) (v2 : Int32) (hw : w_Fo_writePart_6 rec wrec fu s v1 v2) : X m_Fo_writePart (d + 2) 6 [some (.inr (.inr (some 2))), some (.inr (.inr v1)), some (.inl v2)] [] (hp s) (qVs (t_Fo_writePart_6 rec fu s v1 v2)) := by
  unfold t_Fo_writePart_6
  unfold w_Fo_writePart_6 at hw
  refine X_run 2 (i1 := 8) (L1 := [some (.inr (.inr (some 2))), some (.inr (.inr v1)), some (.inl v2)]) (st1 := [.inr (.inr v1), .inr (.inr (some 2))]) rfl ?_
  obtain ⟨hc, hw⟩ := hw
  refine X_dG rfl hc rfl ?_
  show X _ _ 9 [some (.inr (.inr (some 2))), some (.inr (.inr v1)), some (.inl v2)] [.inr (.inl (gL (sD s) v1 2)), .inr (.inr (some 2))] (hp s) _
  refine X_run 1 (i1 := 10) (L1 := [some (.inr (.inr (some 2))), some (.inr (.inr v1)), some (.inl v2)]) (st1 := [.inl (8 : Int32), .inr (.inl (gL (sD s) v1 2)), .inr (.inr (some 2))]) rfl ?_
  obtain ⟨hc, hw⟩ := hw
  refine X_callv m_Fo_writeBytes (As := [.inr (.inl (gL (sD s) v1 2)), .inl (8 : Int32)]) (st := []) ok_Fo_writeBytes rfl rfl rfl (hp_obj rfl) rfl (Nat.le_of_ble_eq_true rfl) (Nat.le_of_ble_eq_true rfl) (c_Fo_writeBytes (d := d + 1) fu s (gL (sD s) v1 2) (8 : Int32) hc) ?_
  rintro _ _ ⟨rfl, rfl⟩
  show X _ _ 11 [some (.inr (.inr (some 2))), some (.inr (.inr v1)), some (.inl v2)] [] (hp (f_Fo_writeBytes fu s (gL (sD s) v1 2) (8 : Int32))) _
  show X _ _ 11 [some (.inr (.inr (some 2))), some (.inr (.inr v1)), some (.inl v2)] [] (hp (f_Fo_writeBytes fu s (gL (sD s) v1 2) (8 : Int32))) _
  exact ct_Fo_writePart_11 hrec fu (f_Fo_writeBytes fu s (gL (sD s) v1 2) (8 : Int32)) v1 v2 hw
def f_Fo_writePart (rec : G_wr) (fu : Nat) (s : St) (a0 : Option Nat) (a1 : Int32) : St := (t_Fo_writePart_6 rec fu (f_Fo_writeBytes fu s (Int32.toInt64 (gI (sD s) a0 1)) (4 : Int32)) a0 a1)
def w_Fo_writePart (rec : G_wr) (wrec : GW_wr) (fu : Nat) (s : St) (a0 : Option Nat) (a1 : Int32) : Prop := (ob (sD s) a0 4 ∧ (w_Fo_writeBytes fu s (Int32.toInt64 (gI (sD s) a0 1)) (4 : Int32) ∧ (w_Fo_writePart_6 rec wrec fu (f_Fo_writeBytes fu s (Int32.toInt64 (gI (sD s) a0 1)) (4 : Int32)) a0 a1)))
theorem c_Fo_writePart {d : Nat} {rec : G_wr} {wrec : GW_wr} (hrec : hr_wr (d + 1) rec wrec) (fu : Nat) (s : St) (a0 : Option Nat) (a1 : Int32) (hw : w_Fo_writePart rec wrec fu s a0 a1) : X m_Fo_writePart (d + 2) 0 (entL 3 [.inr (.inr (some 2)), .inr (.inr a0), .inl a1]) [] (hp s) (qVs (f_Fo_writePart rec fu s a0 a1)) := by
  unfold f_Fo_writePart
  unfold w_Fo_writePart at hw
  refine X_run 2 (i1 := 2) (L1 := [some (.inr (.inr (some 2))), some (.inr (.inr a0)), some (.inl a1)]) (st1 := [.inr (.inr a0), .inr (.inr (some 2))]) rfl ?_
  obtain ⟨hc, hw⟩ := hw
  refine X_dI rfl hc rfl ?_
  show X _ _ 3 [some (.inr (.inr (some 2))), some (.inr (.inr a0)), some (.inl a1)] [.inl (gI (sD s) a0 1), .inr (.inr (some 2))] (hp s) _
  refine X_run 2 (i1 := 5) (L1 := [some (.inr (.inr (some 2))), some (.inr (.inr a0)), some (.inl a1)]) (st1 := [.inl (4 : Int32), .inr (.inl (Int32.toInt64 (gI (sD s) a0 1))), .inr (.inr (some 2))]) rfl ?_
  obtain ⟨hc, hw⟩ := hw
  refine X_callv m_Fo_writeBytes (As := [.inr (.inl (Int32.toInt64 (gI (sD s) a0 1))), .inl (4 : Int32)]) (st := []) ok_Fo_writeBytes rfl rfl rfl (hp_obj rfl) rfl (Nat.le_of_ble_eq_true rfl) (Nat.le_of_ble_eq_true rfl) (c_Fo_writeBytes (d := d + 1) fu s (Int32.toInt64 (gI (sD s) a0 1)) (4 : Int32) hc) ?_
  rintro _ _ ⟨rfl, rfl⟩
  show X _ _ 6 [some (.inr (.inr (some 2))), some (.inr (.inr a0)), some (.inl a1)] [] (hp (f_Fo_writeBytes fu s (Int32.toInt64 (gI (sD s) a0 1)) (4 : Int32))) _
  show X _ _ 6 [some (.inr (.inr (some 2))), some (.inr (.inr a0)), some (.inl a1)] [] (hp (f_Fo_writeBytes fu s (Int32.toInt64 (gI (sD s) a0 1)) (4 : Int32))) _
  exact ct_Fo_writePart_6 hrec fu (f_Fo_writeBytes fu s (Int32.toInt64 (gI (sD s) a0 1)) (4 : Int32)) a0 a1 hw
def F_wr (fu : Nat) : Nat → G_wr
  | 0 => (fun s _ _ => s, fun s _ _ => s, fun s _ _ => s)
  | n + 1 => (fun s a0 a1 => f_Fo_writeThing (F_wr fu n) fu s a0 a1, fun s a0 a1 => f_Fo_writeShelf (F_wr fu n) fu s a0 a1, fun s a0 a1 => f_Fo_writePart (F_wr fu n) fu s a0 a1)
def W_wr (fu : Nat) : Nat → GW_wr
  | 0 => (fun _ _ _ => False, fun _ _ _ => False, fun _ _ _ => False)
  | n + 1 => (fun s a0 a1 => w_Fo_writeThing (F_wr fu n) (W_wr fu n) fu s a0 a1, fun s a0 a1 => w_Fo_writeShelf (F_wr fu n) (W_wr fu n) fu s a0 a1, fun s a0 a1 => w_Fo_writePart (F_wr fu n) (W_wr fu n) fu s a0 a1)
theorem cF_wr (fu : Nat) : ∀ (n d : Nat), hr_wr (d + n + 2) (F_wr fu n) (W_wr fu n)
  | 0, d => ⟨fun _ _ _ hw => hw.elim, fun _ _ _ hw => hw.elim, fun _ _ _ hw => hw.elim⟩
  | n + 1, d => by
    have hrec : hr_wr (d + 1 + n + 2 - 1) (F_wr fu n) (W_wr fu n) := by
      have h := cF_wr fu n d
      rw [show d + 1 + n + 2 - 1 = d + n + 2 by omega]; exact h
    have e : d + (n + 1) + 2 = (d + 1 + n) + 2 := by omega
    rw [e]
    exact ⟨(fun s a0 a1 hw => c_Fo_writeThing (d := d + 1 + n) hrec fu s a0 a1 hw), (fun s a0 a1 hw => c_Fo_writeShelf (d := d + 1 + n) hrec fu s a0 a1 hw), (fun s a0 a1 hw => c_Fo_writePart (d := d + 1 + n) hrec fu s a0 a1 hw)⟩
def t_Fo_writeOut_10 (fu : Nat) (s : St) : Int32 × St := (cond (cn1 .eq (sI s 2 7)) (sI s 2 3, s) ((-1 : Int32) - (sI s 2 7), pI s 2 3 (0 : Int32)))
def w_Fo_writeOut_10 (fu : Nat) (s : St) : Prop := True
theorem ct_Fo_writeOut_10 {d : Nat} (fu : Nat) (s : St) (hw : w_Fo_writeOut_10 fu s) : X m_Fo_writeOut (d + 67) 10 [some (.inr (.inr (some 2))), none] [] (hp s) (qIs (t_Fo_writeOut_10 fu s)) := by
  unfold t_Fo_writeOut_10
  unfold w_Fo_writeOut_10 at hw
  refine X_run 1 (i1 := 11) (L1 := [some (.inr (.inr (some 2))), none]) (st1 := [.inr (.inr (some 2))]) rfl ?_
  refine X_gF (v := .inl (sI s 2 7)) rfl rfl rfl rfl ?_
  refine X_run 1 (i1 := cond (cn1 .eq (sI s 2 7)) 21 13) (L1 := [some (.inr (.inr (some 2))), none]) (st1 := []) rfl ?_
  refine X_brq (fun hb => ?_) (fun hb => ?_)
  · skip
    refine X_run 1 (i1 := 22) (L1 := [some (.inr (.inr (some 2))), none]) (st1 := [.inr (.inr (some 2))]) rfl ?_
    refine X_gF (v := .inl (sI s 2 3)) rfl rfl rfl rfl ?_
    exact X_iret rfl rfl qIs_i
  · skip
    refine X_run 2 (i1 := 15) (L1 := [some (.inr (.inr (some 2))), none]) (st1 := [.inl (0 : Int32), .inr (.inr (some 2))]) rfl ?_
    refine X_pI rfl rfl rfl rfl ?_
    refine X_run 2 (i1 := 18) (L1 := [some (.inr (.inr (some 2))), none]) (st1 := [.inr (.inr (some 2)), .inl (-1 : Int32)]) rfl ?_
    refine X_gF (v := .inl (sI s 2 7)) rfl rfl rfl rfl ?_
    refine X_run 1 (i1 := 20) (L1 := [some (.inr (.inr (some 2))), none]) (st1 := [.inl ((-1 : Int32) - (sI s 2 7))]) rfl ?_
    exact X_iret rfl rfl qIs_i
def f_Fo_writeOut (fu : Nat) (s : St) (a0 : Option Nat) : Int32 × St := (t_Fo_writeOut_10 fu ((F_wr fu 64).1 (pI (pI s 2 3 (0 : Int32)) 2 7 (0 : Int32)) a0 (1 : Int32)))
def w_Fo_writeOut (fu : Nat) (s : St) (a0 : Option Nat) : Prop := ((W_wr fu 64).1 (pI (pI s 2 3 (0 : Int32)) 2 7 (0 : Int32)) a0 (1 : Int32) ∧ (w_Fo_writeOut_10 fu ((F_wr fu 64).1 (pI (pI s 2 3 (0 : Int32)) 2 7 (0 : Int32)) a0 (1 : Int32))))
theorem c_Fo_writeOut {d : Nat} (fu : Nat) (s : St) (a0 : Option Nat) (hw : w_Fo_writeOut fu s a0) : X m_Fo_writeOut (d + 67) 0 (entL 2 [.inr (.inr (some 2)), .inr (.inr a0)]) [] (hp s) (qIs (f_Fo_writeOut fu s a0)) := by
  unfold f_Fo_writeOut
  unfold w_Fo_writeOut at hw
  refine X_run 2 (i1 := 2) (L1 := [some (.inr (.inr (some 2))), some (.inr (.inr a0))]) (st1 := [.inl (0 : Int32), .inr (.inr (some 2))]) rfl ?_
  refine X_pI rfl rfl rfl rfl ?_
  refine X_run 2 (i1 := 5) (L1 := [some (.inr (.inr (some 2))), some (.inr (.inr a0))]) (st1 := [.inl (0 : Int32), .inr (.inr (some 2))]) rfl ?_
  refine X_pI rfl rfl rfl rfl ?_
  refine X_run 3 (i1 := 9) (L1 := [some (.inr (.inr (some 2))), some (.inr (.inr a0))]) (st1 := [.inl (1 : Int32), .inr (.inr a0), .inr (.inr (some 2))]) rfl ?_
  obtain ⟨hc, hw⟩ := hw
  refine X_callv m_Fo_writeThing (As := [.inr (.inr a0), .inl (1 : Int32)]) (st := []) ok_Fo_writeThing rfl rfl rfl (hp_obj rfl) rfl (Nat.le_of_ble_eq_true rfl) (Nat.le_of_ble_eq_true rfl) ((cF_wr fu 64 (d)).1 (pI (pI s 2 3 (0 : Int32)) 2 7 (0 : Int32)) a0 (1 : Int32) hc) ?_
  rintro _ _ ⟨rfl, rfl⟩
  show X _ _ 10 [some (.inr (.inr (some 2))), some (.inr (.inr a0))] [] (hp ((F_wr fu 64).1 (pI (pI s 2 3 (0 : Int32)) 2 7 (0 : Int32)) a0 (1 : Int32))) _
  show X _ _ 10 [some (.inr (.inr (some 2))), some (.inr (.inr a0))] [] (hp ((F_wr fu 64).1 (pI (pI s 2 3 (0 : Int32)) 2 7 (0 : Int32)) a0 (1 : Int32))) _
  refine X_mask [true, false] ?_
  exact ct_Fo_writeOut_10 fu ((F_wr fu 64).1 (pI (pI s 2 3 (0 : Int32)) 2 7 (0 : Int32)) a0 (1 : Int32)) hw
