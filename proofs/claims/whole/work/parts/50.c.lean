def f_Le_settle (s : St) : St := (pI (pI (pI s 1 3 (0 : Int32)) 1 4 (0 : Int32)) 1 5 (0 : Int32))
def w_Le_settle (s : St) : Prop := True
theorem c_Le_settle {d : Nat} (s : St) (hw : w_Le_settle s) : X m_Le_settle (d) 0 (entL 1 [.inr (.inr (some 1))]) [] (hp s) (qVs (f_Le_settle s)) := by
  unfold f_Le_settle
  unfold w_Le_settle at hw
  refine X_run 2 (i1 := 2) (L1 := [some (.inr (.inr (some 1)))]) (st1 := [.inl (0 : Int32), .inr (.inr (some 1))]) rfl ?_
  refine X_pI rfl rfl rfl rfl ?_
  refine X_run 2 (i1 := 5) (L1 := [some (.inr (.inr (some 1)))]) (st1 := [.inl (0 : Int32), .inr (.inr (some 1))]) rfl ?_
  refine X_pI rfl rfl rfl rfl ?_
  refine X_run 2 (i1 := 8) (L1 := [some (.inr (.inr (some 1)))]) (st1 := [.inl (0 : Int32), .inr (.inr (some 1))]) rfl ?_
  refine X_pI rfl rfl rfl rfl ?_
  exact X_ret rfl rfl qVs_i
def f_Le_stopped (s : St) : Bool := (cond (cn1 .eq (sI s 1 3)) false true)
def w_Le_stopped (s : St) : Prop := True
theorem c_Le_stopped {d : Nat} (s : St) (hw : w_Le_stopped s) : X m_Le_stopped (d) 0 (entL 1 [.inr (.inr (some 1))]) [] (hp s) (qB (hp s) (f_Le_stopped s)) := by
  unfold f_Le_stopped
  unfold w_Le_stopped at hw
  refine X_run 1 (i1 := 1) (L1 := [some (.inr (.inr (some 1)))]) (st1 := [.inr (.inr (some 1))]) rfl ?_
  refine X_gF (v := .inl (sI s 1 3)) rfl rfl rfl rfl ?_
  refine X_run 1 (i1 := cond (cn1 .eq (sI s 1 3)) 5 3) (L1 := [some (.inr (.inr (some 1)))]) (st1 := []) rfl ?_
  refine X_brq (fun hb => ?_) (fun hb => ?_)
  · skip
    refine X_run 1 (i1 := 6) (L1 := [some (.inr (.inr (some 1)))]) (st1 := [.inl (0 : Int32)]) rfl ?_
    exact X_zret rfl rfl (b2i_01 false) qB_i
  · skip
    refine X_run 2 (i1 := 6) (L1 := [some (.inr (.inr (some 1)))]) (st1 := [.inl (1 : Int32)]) rfl ?_
    exact X_zret rfl rfl (b2i_01 true) qB_i
def f_Le_make (s : St) (a0 : Int64) : Bool × St := (cond (cn1 .le (lg_cmp ((Int32.toInt64 (sI s 1 0)) + a0) (40000 : Int64))) (true, pI s 1 0 ((sI s 1 0) + (Int64.toInt32 a0))) (false, pI (pI s 1 1 (1 : Int32)) 1 3 (3 : Int32)))
def w_Le_make (s : St) (a0 : Int64) : Prop := True
theorem c_Le_make {d : Nat} (s : St) (a0 : Int64) (hw : w_Le_make s a0) : X m_Le_make (d) 0 (entL 3 [.inr (.inr (some 1)), .inr (.inl a0)]) [] (hp s) (qBs (f_Le_make s a0)) := by
  unfold f_Le_make
  unfold w_Le_make at hw
  refine X_run 1 (i1 := 1) (L1 := [some (.inr (.inr (some 1))), some (.inr (.inl a0)), none]) (st1 := [.inr (.inr (some 1))]) rfl ?_
  refine X_gF (v := .inl (sI s 1 0)) rfl rfl rfl rfl ?_
  refine X_run 6 (i1 := cond (cn1 .le (lg_cmp ((Int32.toInt64 (sI s 1 0)) + a0) (40000 : Int64))) 16 8) (L1 := [some (.inr (.inr (some 1))), some (.inr (.inl a0)), none]) (st1 := []) rfl ?_
  refine X_brq (fun hb => ?_) (fun hb => ?_)
  · skip
    refine X_run 2 (i1 := 18) (L1 := [some (.inr (.inr (some 1))), some (.inr (.inl a0)), none]) (st1 := [.inr (.inr (some 1)), .inr (.inr (some 1))]) rfl ?_
    refine X_gF (v := .inl (sI s 1 0)) rfl rfl rfl rfl ?_
    refine X_run 3 (i1 := 22) (L1 := [some (.inr (.inr (some 1))), some (.inr (.inl a0)), none]) (st1 := [.inl ((sI s 1 0) + (Int64.toInt32 a0)), .inr (.inr (some 1))]) rfl ?_
    refine X_pI rfl rfl rfl rfl ?_
    refine X_run 1 (i1 := 24) (L1 := [some (.inr (.inr (some 1))), some (.inr (.inl a0)), none]) (st1 := [.inl (1 : Int32)]) rfl ?_
    exact X_zret rfl rfl (b2i_01 true) qBs_i
  · skip
    refine X_run 2 (i1 := 10) (L1 := [some (.inr (.inr (some 1))), some (.inr (.inl a0)), none]) (st1 := [.inl (1 : Int32), .inr (.inr (some 1))]) rfl ?_
    refine X_pI rfl rfl rfl rfl ?_
    refine X_run 2 (i1 := 13) (L1 := [some (.inr (.inr (some 1))), some (.inr (.inl a0)), none]) (st1 := [.inl (3 : Int32), .inr (.inr (some 1))]) rfl ?_
    refine X_pI rfl rfl rfl rfl ?_
    refine X_run 1 (i1 := 15) (L1 := [some (.inr (.inr (some 1))), some (.inr (.inl a0)), none]) (st1 := [.inl (0 : Int32)]) rfl ?_
    exact X_zret rfl rfl (b2i_01 false) qBs_i
def f_Le_burn (s : St) (a0 : Int64) : Bool × St := (cond (cn1 .le (lg_cmp a0 (Int32.toInt64 (sI s 1 2)))) (true, pI s 1 2 ((sI s 1 2) - (Int64.toInt32 a0))) (false, pI (pI s 1 2 (0 : Int32)) 1 3 (2 : Int32)))
def w_Le_burn (s : St) (a0 : Int64) : Prop := True
theorem c_Le_burn {d : Nat} (s : St) (a0 : Int64) (hw : w_Le_burn s a0) : X m_Le_burn (d) 0 (entL 3 [.inr (.inr (some 1)), .inr (.inl a0)]) [] (hp s) (qBs (f_Le_burn s a0)) := by
  unfold f_Le_burn
  unfold w_Le_burn at hw
  refine X_run 2 (i1 := 2) (L1 := [some (.inr (.inr (some 1))), some (.inr (.inl a0)), none]) (st1 := [.inr (.inr (some 1)), .inr (.inl a0)]) rfl ?_
  refine X_gF (v := .inl (sI s 1 2)) rfl rfl rfl rfl ?_
  refine X_run 3 (i1 := cond (cn1 .le (lg_cmp a0 (Int32.toInt64 (sI s 1 2)))) 14 6) (L1 := [some (.inr (.inr (some 1))), some (.inr (.inl a0)), none]) (st1 := []) rfl ?_
  refine X_brq (fun hb => ?_) (fun hb => ?_)
  · skip
    refine X_run 2 (i1 := 16) (L1 := [some (.inr (.inr (some 1))), some (.inr (.inl a0)), none]) (st1 := [.inr (.inr (some 1)), .inr (.inr (some 1))]) rfl ?_
    refine X_gF (v := .inl (sI s 1 2)) rfl rfl rfl rfl ?_
    refine X_run 3 (i1 := 20) (L1 := [some (.inr (.inr (some 1))), some (.inr (.inl a0)), none]) (st1 := [.inl ((sI s 1 2) - (Int64.toInt32 a0)), .inr (.inr (some 1))]) rfl ?_
    refine X_pI rfl rfl rfl rfl ?_
    refine X_run 1 (i1 := 22) (L1 := [some (.inr (.inr (some 1))), some (.inr (.inl a0)), none]) (st1 := [.inl (1 : Int32)]) rfl ?_
    exact X_zret rfl rfl (b2i_01 true) qBs_i
  · skip
    refine X_run 2 (i1 := 8) (L1 := [some (.inr (.inr (some 1))), some (.inr (.inl a0)), none]) (st1 := [.inl (0 : Int32), .inr (.inr (some 1))]) rfl ?_
    refine X_pI rfl rfl rfl rfl ?_
    refine X_run 2 (i1 := 11) (L1 := [some (.inr (.inr (some 1))), some (.inr (.inl a0)), none]) (st1 := [.inl (2 : Int32), .inr (.inr (some 1))]) rfl ?_
    refine X_pI rfl rfl rfl rfl ?_
    refine X_run 1 (i1 := 13) (L1 := [some (.inr (.inr (some 1))), some (.inr (.inl a0)), none]) (st1 := [.inl (0 : Int32)]) rfl ?_
    exact X_zret rfl rfl (b2i_01 false) qBs_i
def f_Le_handOn (s : St) (a0 : Int32) (a1 : Int32) : St := (pI (pI (pI s 1 3 (1 : Int32)) 1 4 a0) 1 5 a1)
def w_Le_handOn (s : St) (a0 : Int32) (a1 : Int32) : Prop := True
theorem c_Le_handOn {d : Nat} (s : St) (a0 : Int32) (a1 : Int32) (hw : w_Le_handOn s a0 a1) : X m_Le_handOn (d) 0 (entL 3 [.inr (.inr (some 1)), .inl a0, .inl a1]) [] (hp s) (qVs (f_Le_handOn s a0 a1)) := by
  unfold f_Le_handOn
  unfold w_Le_handOn at hw
  refine X_run 2 (i1 := 2) (L1 := [some (.inr (.inr (some 1))), some (.inl a0), some (.inl a1)]) (st1 := [.inl (1 : Int32), .inr (.inr (some 1))]) rfl ?_
  refine X_pI rfl rfl rfl rfl ?_
  refine X_run 2 (i1 := 5) (L1 := [some (.inr (.inr (some 1))), some (.inl a0), some (.inl a1)]) (st1 := [.inl a0, .inr (.inr (some 1))]) rfl ?_
  refine X_pI rfl rfl rfl rfl ?_
  refine X_run 2 (i1 := 8) (L1 := [some (.inr (.inr (some 1))), some (.inl a0), some (.inl a1)]) (st1 := [.inl a1, .inr (.inr (some 1))]) rfl ?_
  refine X_pI rfl rfl rfl rfl ?_
  exact X_ret rfl rfl qVs_i
def t_Le_fault_3 (s : St) (v1 : Int32) (w0 : Int32) : St := (cond (cn1 .eq w0) s (f_Le_handOn s v1 (0 : Int32)))
def w_Le_fault_3 (s : St) (v1 : Int32) (w0 : Int32) : Prop := ((cn1 .eq w0) = true → True) ∧ ((cn1 .eq w0) = false → (w_Le_handOn s v1 (0 : Int32) ∧ True))
theorem ct_Le_fault_3 {d : Nat} (s : St) (v1 : Int32) (w0 : Int32) (hw : w_Le_fault_3 s v1 w0) : X m_Le_fault (d + 1) 3 [some (.inr (.inr (some 1))), some (.inl v1)] [.inl w0] (hp s) (qVs (t_Le_fault_3 s v1 w0)) := by
  unfold t_Le_fault_3
  unfold w_Le_fault_3 at hw
  refine X_run 1 (i1 := cond (cn1 .eq w0) 8 4) (L1 := [some (.inr (.inr (some 1))), some (.inl v1)]) (st1 := []) rfl ?_
  refine X_brq (fun hb => ?_) (fun hb => ?_)
  · skip
    exact X_ret rfl rfl qVs_i
  · have hw := hw.2 hb
    refine X_run 3 (i1 := 7) (L1 := [some (.inr (.inr (some 1))), some (.inl v1)]) (st1 := [.inl (0 : Int32), .inl v1, .inr (.inr (some 1))]) rfl ?_
    obtain ⟨hc, hw⟩ := hw
    refine X_callv m_Le_handOn (As := [.inl v1, .inl (0 : Int32)]) (st := []) ok_Le_handOn rfl rfl rfl (hp_obj rfl) rfl (Nat.le_of_ble_eq_true rfl) (Nat.le_of_ble_eq_true rfl) (c_Le_handOn (d := d) s v1 (0 : Int32) hc) ?_
    rintro _ _ ⟨rfl, rfl⟩
    show X _ _ 8 [some (.inr (.inr (some 1))), some (.inl v1)] [] (hp (f_Le_handOn s v1 (0 : Int32))) _
    exact X_ret rfl rfl qVs_i
def f_Le_fault (s : St) (a0 : Int32) : St := (t_Le_fault_3 ((f_Le_make s (8 : Int64)).2) a0 (b2i (f_Le_make s (8 : Int64)).1))
def w_Le_fault (s : St) (a0 : Int32) : Prop := (w_Le_make s (8 : Int64) ∧ (w_Le_fault_3 ((f_Le_make s (8 : Int64)).2) a0 (b2i (f_Le_make s (8 : Int64)).1)))
theorem c_Le_fault {d : Nat} (s : St) (a0 : Int32) (hw : w_Le_fault s a0) : X m_Le_fault (d + 1) 0 (entL 2 [.inr (.inr (some 1)), .inl a0]) [] (hp s) (qVs (f_Le_fault s a0)) := by
  unfold f_Le_fault
  unfold w_Le_fault at hw
  refine X_run 2 (i1 := 2) (L1 := [some (.inr (.inr (some 1))), some (.inl a0)]) (st1 := [.inr (.inl (8 : Int64)), .inr (.inr (some 1))]) rfl ?_
  obtain ⟨hc, hw⟩ := hw
  refine X_callv m_Le_make (As := [.inr (.inl (8 : Int64))]) (st := []) ok_Le_make rfl rfl rfl (hp_obj rfl) rfl (Nat.le_of_ble_eq_true rfl) (Nat.le_of_ble_eq_true rfl) (c_Le_make (d := d) s (8 : Int64) hc) ?_
  rintro _ _ ⟨rfl, rfl⟩
  show X _ _ 3 [some (.inr (.inr (some 1))), some (.inl a0)] [.inl (b2i (f_Le_make s (8 : Int64)).1)] (hp ((f_Le_make s (8 : Int64)).2)) _
  show X _ _ 3 [some (.inr (.inr (some 1))), some (.inl a0)] [.inl (b2i (f_Le_make s (8 : Int64)).1)] (hp ((f_Le_make s (8 : Int64)).2)) _
  exact ct_Le_fault_3 ((f_Le_make s (8 : Int64)).2) a0 (b2i (f_Le_make s (8 : Int64)).1) hw
def t_Le_faultTold_3 (s : St) (v1 : Int32) (w0 : Int32) : St := (cond (cn1 .eq w0) s (f_Le_handOn s (7 : Int32) v1))
def w_Le_faultTold_3 (s : St) (v1 : Int32) (w0 : Int32) : Prop := ((cn1 .eq w0) = true → True) ∧ ((cn1 .eq w0) = false → (w_Le_handOn s (7 : Int32) v1 ∧ True))
theorem ct_Le_faultTold_3 {d : Nat} (s : St) (v1 : Int32) (w0 : Int32) (hw : w_Le_faultTold_3 s v1 w0) : X m_Le_faultTold (d + 1) 3 [some (.inr (.inr (some 1))), some (.inl v1)] [.inl w0] (hp s) (qVs (t_Le_faultTold_3 s v1 w0)) := by
  unfold t_Le_faultTold_3
  unfold w_Le_faultTold_3 at hw
  refine X_run 1 (i1 := cond (cn1 .eq w0) 8 4) (L1 := [some (.inr (.inr (some 1))), some (.inl v1)]) (st1 := []) rfl ?_
  refine X_brq (fun hb => ?_) (fun hb => ?_)
  · skip
    exact X_ret rfl rfl qVs_i
  · have hw := hw.2 hb
    refine X_run 3 (i1 := 7) (L1 := [some (.inr (.inr (some 1))), some (.inl v1)]) (st1 := [.inl v1, .inl (7 : Int32), .inr (.inr (some 1))]) rfl ?_
    obtain ⟨hc, hw⟩ := hw
    refine X_callv m_Le_handOn (As := [.inl (7 : Int32), .inl v1]) (st := []) ok_Le_handOn rfl rfl rfl (hp_obj rfl) rfl (Nat.le_of_ble_eq_true rfl) (Nat.le_of_ble_eq_true rfl) (c_Le_handOn (d := d) s (7 : Int32) v1 hc) ?_
    rintro _ _ ⟨rfl, rfl⟩
    show X _ _ 8 [some (.inr (.inr (some 1))), some (.inl v1)] [] (hp (f_Le_handOn s (7 : Int32) v1)) _
    exact X_ret rfl rfl qVs_i
def f_Le_faultTold (s : St) (a0 : Int32) : St := (t_Le_faultTold_3 ((f_Le_make s (8 : Int64)).2) a0 (b2i (f_Le_make s (8 : Int64)).1))
def w_Le_faultTold (s : St) (a0 : Int32) : Prop := (w_Le_make s (8 : Int64) ∧ (w_Le_faultTold_3 ((f_Le_make s (8 : Int64)).2) a0 (b2i (f_Le_make s (8 : Int64)).1)))
theorem c_Le_faultTold {d : Nat} (s : St) (a0 : Int32) (hw : w_Le_faultTold s a0) : X m_Le_faultTold (d + 1) 0 (entL 2 [.inr (.inr (some 1)), .inl a0]) [] (hp s) (qVs (f_Le_faultTold s a0)) := by
  unfold f_Le_faultTold
  unfold w_Le_faultTold at hw
  refine X_run 2 (i1 := 2) (L1 := [some (.inr (.inr (some 1))), some (.inl a0)]) (st1 := [.inr (.inl (8 : Int64)), .inr (.inr (some 1))]) rfl ?_
  obtain ⟨hc, hw⟩ := hw
  refine X_callv m_Le_make (As := [.inr (.inl (8 : Int64))]) (st := []) ok_Le_make rfl rfl rfl (hp_obj rfl) rfl (Nat.le_of_ble_eq_true rfl) (Nat.le_of_ble_eq_true rfl) (c_Le_make (d := d) s (8 : Int64) hc) ?_
  rintro _ _ ⟨rfl, rfl⟩
  show X _ _ 3 [some (.inr (.inr (some 1))), some (.inl a0)] [.inl (b2i (f_Le_make s (8 : Int64)).1)] (hp ((f_Le_make s (8 : Int64)).2)) _
  show X _ _ 3 [some (.inr (.inr (some 1))), some (.inl a0)] [.inl (b2i (f_Le_make s (8 : Int64)).1)] (hp ((f_Le_make s (8 : Int64)).2)) _
  exact ct_Le_faultTold_3 ((f_Le_make s (8 : Int64)).2) a0 (b2i (f_Le_make s (8 : Int64)).1) hw
def f_Th_init (s : St) (o : Option Nat) : St := s
def w_Th_init (s : St) (o : Option Nat) : Prop := ((oC (sD s) o).isSome = true ∧ True)
theorem c_Th_init {d : Nat} (s : St) (o : Option Nat) (hw : w_Th_init s o) : X m_Th_init (d + 1) 0 (entL 1 [.inr (.inr o)]) [] (hp s) (qVs (f_Th_init s o)) := by
  unfold f_Th_init
  unfold w_Th_init at hw
  refine X_run 1 (i1 := 1) (L1 := [some (.inr (.inr o))]) (st1 := [.inr (.inr o)]) rfl ?_
  obtain ⟨hc, hw⟩ := hw
  refine X_dobj rfl (Nat.succ_pos _) (Nat.le_of_ble_eq_true rfl) hc ?_
  show X _ _ 2 [some (.inr (.inr o))] [] (hp s) _
  exact X_ret rfl rfl qVs_i
def f_Th_size (s : St) (o : Option Nat) : Int32 := (-1 : Int32)
def w_Th_size (s : St) (o : Option Nat) : Prop := True
theorem c_Th_size {d : Nat} (s : St) (o : Option Nat) (hw : w_Th_size s o) : X m_Th_size (d) 0 (entL 1 [.inr (.inr o)]) [] (hp s) (qI (hp s) (f_Th_size s o)) := by
  unfold f_Th_size
  unfold w_Th_size at hw
  refine X_run 1 (i1 := 1) (L1 := [some (.inr (.inr o))]) (st1 := [.inl (-1 : Int32)]) rfl ?_
  exact X_iret rfl rfl qI_i
def f_Th_twin (s : St) (o : Option Nat) : Option Nat := none
def w_Th_twin (s : St) (o : Option Nat) : Prop := True
theorem c_Th_twin {d : Nat} (s : St) (o : Option Nat) (hw : w_Th_twin s o) : X m_Th_twin (d) 0 (entL 1 [.inr (.inr o)]) [] (hp s) (qR (hp s) (f_Th_twin s o)) := by
  unfold f_Th_twin
  unfold w_Th_twin at hw
  refine X_run 1 (i1 := 1) (L1 := [some (.inr (.inr o))]) (st1 := [.inr (.inr none)]) rfl ?_
  exact X_aret rfl rfl qR_i
def f_Th_putBack (s : St) (o : Option Nat) (a0 : Option Nat) : St := s
def w_Th_putBack (s : St) (o : Option Nat) (a0 : Option Nat) : Prop := True
theorem c_Th_putBack {d : Nat} (s : St) (o : Option Nat) (a0 : Option Nat) (hw : w_Th_putBack s o a0) : X m_Th_putBack (d) 0 (entL 2 [.inr (.inr o), .inr (.inr a0)]) [] (hp s) (qVs (f_Th_putBack s o a0)) := by
  unfold f_Th_putBack
  unfold w_Th_putBack at hw
  show X _ _ 0 [some (.inr (.inr o)), some (.inr (.inr a0))] [] (hp s) _
  exact X_ret rfl rfl qVs_i
def t_Pa_init_2 (s : St) (v0 : Option Nat) (v1 : Int32) : St := (pQ s (dF (sD s) v0 0 (.inl v1)) (sN s) (sU s))
def w_Pa_init_2 (s : St) (v0 : Option Nat) (v1 : Int32) : Prop := (ob (sD s) v0 4 ∧ True)
theorem ct_Pa_init_2 {d : Nat} (s : St) (v0 : Option Nat) (v1 : Int32) (hw : w_Pa_init_2 s v0 v1) : X m_Pa_init (d + 2) 2 [some (.inr (.inr v0)), some (.inl v1)] [] (hp s) (qVs (t_Pa_init_2 s v0 v1)) := by
  unfold t_Pa_init_2
  unfold w_Pa_init_2 at hw
  refine X_run 2 (i1 := 4) (L1 := [some (.inr (.inr v0)), some (.inl v1)]) (st1 := [.inl v1, .inr (.inr v0)]) rfl ?_
  obtain ⟨hc, hw⟩ := hw
  refine X_dP rfl hc rfl ?_
  show X _ _ 5 [some (.inr (.inr v0)), some (.inl v1)] [] (hp (pQ s (dF (sD s) v0 0 (.inl v1)) (sN s) (sU s))) _
  exact X_ret rfl rfl qVs_i
def f_Pa_init (s : St) (o : Option Nat) (a0 : Int32) : St := (t_Pa_init_2 (f_Th_init s o) o a0)
def w_Pa_init (s : St) (o : Option Nat) (a0 : Int32) : Prop := (w_Th_init s o ∧ ((oC (sD s) o).isSome = true ∧ (w_Pa_init_2 (f_Th_init s o) o a0)))
theorem c_Pa_init {d : Nat} (s : St) (o : Option Nat) (a0 : Int32) (hw : w_Pa_init s o a0) : X m_Pa_init (d + 2) 0 (entL 2 [.inr (.inr o), .inl a0]) [] (hp s) (qVs (f_Pa_init s o a0)) := by
  unfold f_Pa_init
  unfold w_Pa_init at hw
  refine X_run 1 (i1 := 1) (L1 := [some (.inr (.inr o)), some (.inl a0)]) (st1 := [.inr (.inr o)]) rfl ?_
  obtain ⟨hc, hw⟩ := hw
  obtain ⟨hr, hw⟩ := hw
  refine X_dcalln m_Th_init (As := []) (st := []) ok_Th_init rfl rfl rfl rfl hr (Nat.le_of_ble_eq_true rfl) (Nat.le_of_ble_eq_true rfl) (c_Th_init (d := d) s o hc) ?_
  rintro _ _ ⟨rfl, rfl⟩
  show X _ _ 2 [some (.inr (.inr o)), some (.inl a0)] [] (hp (f_Th_init s o)) _
  show X _ _ 2 [some (.inr (.inr o)), some (.inl a0)] [] (hp (f_Th_init s o)) _
  exact ct_Pa_init_2 (f_Th_init s o) o a0 hw
def f_Pa_kind (s : St) (o : Option Nat) : Int32 := ((11 : Int32) + (gI (sD s) o 0))
def w_Pa_kind (s : St) (o : Option Nat) : Prop := (ob (sD s) o 4 ∧ True)
theorem c_Pa_kind {d : Nat} (s : St) (o : Option Nat) (hw : w_Pa_kind s o) : X m_Pa_kind (d) 0 (entL 1 [.inr (.inr o)]) [] (hp s) (qI (hp s) (f_Pa_kind s o)) := by
  unfold f_Pa_kind
  unfold w_Pa_kind at hw
  refine X_run 2 (i1 := 2) (L1 := [some (.inr (.inr o))]) (st1 := [.inr (.inr o), .inl (11 : Int32)]) rfl ?_
  obtain ⟨hc, hw⟩ := hw
  refine X_dI rfl hc rfl ?_
  show X _ _ 3 [some (.inr (.inr o))] [.inl (gI (sD s) o 0), .inl (11 : Int32)] (hp s) _
  refine X_run 1 (i1 := 4) (L1 := [some (.inr (.inr o))]) (st1 := [.inl ((11 : Int32) + (gI (sD s) o 0))]) rfl ?_
  exact X_iret rfl rfl qI_i
def t_Pa_isBelow_11 (v0 : Int32) (v1 : Int32) : Bool := (cond (cn2 .ne v1 (3 : Int32)) false (cond (cn2 .ne v0 (4 : Int32)) false true))
theorem ct_Pa_isBelow_11 {d : Nat} {P : AP} (v0 : Int32) (v1 : Int32) : X m_Pa_isBelow (d) 11 [some (.inl v0), some (.inl v1)] [] P (qB P (t_Pa_isBelow_11 v0 v1)) := by
  unfold t_Pa_isBelow_11
  refine X_run 3 (i1 := cond (cn2 .ne v1 (3 : Int32)) 19 14) (L1 := [some (.inl v0), some (.inl v1)]) (st1 := []) rfl ?_
  refine X_brq (fun hb13 => ?_) (fun hb13 => ?_)
  · refine X_run 1 (i1 := 20) (L1 := [some (.inl v0), some (.inl v1)]) (st1 := [.inl (0 : Int32)]) rfl ?_
    exact X_zret rfl rfl (b2i_01 false) ⟨rfl, rfl⟩
  · refine X_run 3 (i1 := cond (cn2 .ne v0 (4 : Int32)) 19 17) (L1 := [some (.inl v0), some (.inl v1)]) (st1 := []) rfl ?_
    refine X_brq (fun hb16 => ?_) (fun hb16 => ?_)
    · refine X_run 1 (i1 := 20) (L1 := [some (.inl v0), some (.inl v1)]) (st1 := [.inl (0 : Int32)]) rfl ?_
      exact X_zret rfl rfl (b2i_01 false) ⟨rfl, rfl⟩
    · refine X_run 2 (i1 := 20) (L1 := [some (.inl v0), some (.inl v1)]) (st1 := [.inl (1 : Int32)]) rfl ?_
      exact X_zret rfl rfl (b2i_01 true) ⟨rfl, rfl⟩
def f_Pa_isBelow (a0 : Int32) (a1 : Int32) : Bool := (cond (cn1 .eq a1) true (cond (cn2 .eq a0 a1) true (cond (cn2 .ne a1 (1 : Int32)) (t_Pa_isBelow_11 a0 a1) (cond (cn2 .eq a0 (2 : Int32)) true (t_Pa_isBelow_11 a0 a1)))))
theorem c_Pa_isBelow {d : Nat} {P : AP} (a0 : Int32) (a1 : Int32) : X m_Pa_isBelow (d) 0 (entL 2 [.inl a0, .inl a1]) [] P (qB P (f_Pa_isBelow a0 a1)) := by
  unfold f_Pa_isBelow
  refine X_run 2 (i1 := cond (cn1 .eq a1) 17 2) (L1 := [some (.inl a0), some (.inl a1)]) (st1 := []) rfl ?_
  refine X_brq (fun hb1 => ?_) (fun hb1 => ?_)
  · refine X_run 2 (i1 := 20) (L1 := [some (.inl a0), some (.inl a1)]) (st1 := [.inl (1 : Int32)]) rfl ?_
    exact X_zret rfl rfl (b2i_01 true) ⟨rfl, rfl⟩
  · refine X_run 3 (i1 := cond (cn2 .eq a0 a1) 17 5) (L1 := [some (.inl a0), some (.inl a1)]) (st1 := []) rfl ?_
    refine X_brq (fun hb4 => ?_) (fun hb4 => ?_)
    · refine X_run 2 (i1 := 20) (L1 := [some (.inl a0), some (.inl a1)]) (st1 := [.inl (1 : Int32)]) rfl ?_
      exact X_zret rfl rfl (b2i_01 true) ⟨rfl, rfl⟩
    · refine X_run 3 (i1 := cond (cn2 .ne a1 (1 : Int32)) 11 8) (L1 := [some (.inl a0), some (.inl a1)]) (st1 := []) rfl ?_
      refine X_brq (fun hb7 => ?_) (fun hb7 => ?_)
      · exact ct_Pa_isBelow_11 a0 a1
      · refine X_run 3 (i1 := cond (cn2 .eq a0 (2 : Int32)) 17 11) (L1 := [some (.inl a0), some (.inl a1)]) (st1 := []) rfl ?_
        refine X_brq (fun hb10 => ?_) (fun hb10 => ?_)
        · refine X_run 2 (i1 := 20) (L1 := [some (.inl a0), some (.inl a1)]) (st1 := [.inl (1 : Int32)]) rfl ?_
          exact X_zret rfl rfl (b2i_01 true) ⟨rfl, rfl⟩
        · exact ct_Pa_isBelow_11 a0 a1
def f_Pa_isWeighed (s : St) (o : Option Nat) : Bool := (cond (cn1 .eq (gI (sD s) o 0)) false true)
def w_Pa_isWeighed (s : St) (o : Option Nat) : Prop := (ob (sD s) o 4 ∧ True)
theorem c_Pa_isWeighed {d : Nat} (s : St) (o : Option Nat) (hw : w_Pa_isWeighed s o) : X m_Pa_isWeighed (d) 0 (entL 1 [.inr (.inr o)]) [] (hp s) (qB (hp s) (f_Pa_isWeighed s o)) := by
  unfold f_Pa_isWeighed
  unfold w_Pa_isWeighed at hw
  refine X_run 1 (i1 := 1) (L1 := [some (.inr (.inr o))]) (st1 := [.inr (.inr o)]) rfl ?_
  obtain ⟨hc, hw⟩ := hw
  refine X_dI rfl hc rfl ?_
  show X _ _ 2 [some (.inr (.inr o))] [.inl (gI (sD s) o 0)] (hp s) _
  refine X_run 1 (i1 := cond (cn1 .eq (gI (sD s) o 0)) 5 3) (L1 := [some (.inr (.inr o))]) (st1 := []) rfl ?_
  refine X_brq (fun hb => ?_) (fun hb => ?_)
  · skip
    refine X_run 1 (i1 := 6) (L1 := [some (.inr (.inr o))]) (st1 := [.inl (0 : Int32)]) rfl ?_
    exact X_zret rfl rfl (b2i_01 false) qB_i
  · skip
    refine X_run 2 (i1 := 6) (L1 := [some (.inr (.inr o))]) (st1 := [.inl (1 : Int32)]) rfl ?_
    exact X_zret rfl rfl (b2i_01 true) qB_i
def f_Pa_isPriced (s : St) (o : Option Nat) : Bool := (f_Pa_isBelow (gI (sD s) o 0) (3 : Int32))
def w_Pa_isPriced (s : St) (o : Option Nat) : Prop := (ob (sD s) o 4 ∧ True)
theorem c_Pa_isPriced {d : Nat} (s : St) (o : Option Nat) (hw : w_Pa_isPriced s o) : X m_Pa_isPriced (d + 1) 0 (entL 1 [.inr (.inr o)]) [] (hp s) (qB (hp s) (f_Pa_isPriced s o)) := by
  unfold f_Pa_isPriced
  unfold w_Pa_isPriced at hw
  refine X_run 1 (i1 := 1) (L1 := [some (.inr (.inr o))]) (st1 := [.inr (.inr o)]) rfl ?_
  obtain ⟨hc, hw⟩ := hw
  refine X_dI rfl hc rfl ?_
  show X _ _ 2 [some (.inr (.inr o))] [.inl (gI (sD s) o 0)] (hp s) _
  refine X_run 1 (i1 := 3) (L1 := [some (.inr (.inr o))]) (st1 := [.inl (3 : Int32), .inl (gI (sD s) o 0)]) rfl ?_
  refine X_calls m_Pa_isBelow (As := [.inl (gI (sD s) o 0), .inl (3 : Int32)]) (st := []) ok_Pa_isBelow rfl rfl rfl (Nat.le_of_ble_eq_true rfl) (Nat.le_of_ble_eq_true rfl) (c_Pa_isBelow (d := d) (gI (sD s) o 0) (3 : Int32)) ?_
  rintro _ _ ⟨rfl, rfl⟩
  show X _ _ 4 [some (.inr (.inr o))] [.inl (b2i (f_Pa_isBelow (gI (sD s) o 0) (3 : Int32)))] (hp s) _
  exact X_zret rfl rfl (b2i_01 (f_Pa_isBelow (gI (sD s) o 0) (3 : Int32))) qB_i
def f_Pa_tellable (s : St) (o : Option Nat) : Int32 := (cond (cn1 .eq (b2i (f_Pa_isPriced s o))) (2 : Int32) (3 : Int32))
def w_Pa_tellable (s : St) (o : Option Nat) : Prop := (w_Pa_isPriced s o ∧ (oC (sD s) o = some 4 ∧ True))
theorem c_Pa_tellable {d : Nat} (s : St) (o : Option Nat) (hw : w_Pa_tellable s o) : X m_Pa_tellable (d + 2) 0 (entL 1 [.inr (.inr o)]) [] (hp s) (qI (hp s) (f_Pa_tellable s o)) := by
  unfold f_Pa_tellable
  unfold w_Pa_tellable at hw
  refine X_run 1 (i1 := 1) (L1 := [some (.inr (.inr o))]) (st1 := [.inr (.inr o)]) rfl ?_
  obtain ⟨hc, hw⟩ := hw
  obtain ⟨hr, hw⟩ := hw
  refine X_dcallv m_Pa_isPriced (As := []) (st := []) ok_Pa_isPriced rfl rfl rfl hr rfl (Nat.le_of_ble_eq_true rfl) (Nat.le_of_ble_eq_true rfl) (c_Pa_isPriced (d := d) s o hc) ?_
  rintro _ _ ⟨rfl, rfl⟩
  show X _ _ 2 [some (.inr (.inr o))] [.inl (b2i (f_Pa_isPriced s o))] (hp s) _
  refine X_run 1 (i1 := cond (cn1 .eq (b2i (f_Pa_isPriced s o))) 5 3) (L1 := [some (.inr (.inr o))]) (st1 := []) rfl ?_
  refine X_brq (fun hb => ?_) (fun hb => ?_)
  · skip
    refine X_run 1 (i1 := 6) (L1 := [some (.inr (.inr o))]) (st1 := [.inl (2 : Int32)]) rfl ?_
    exact X_iret rfl rfl qI_i
  · skip
    refine X_run 2 (i1 := 6) (L1 := [some (.inr (.inr o))]) (st1 := [.inl (3 : Int32)]) rfl ?_
    exact X_iret rfl rfl qI_i
def f_Pa_told (s : St) (o : Option Nat) (a0 : Int32) : Int64 := (cond (cn1 .ne a0) (cond (cn2 .ne a0 (1 : Int32)) (Int32.toInt64 (gI (sD s) o 3)) (gL (sD s) o 2)) (Int32.toInt64 (gI (sD s) o 1)))
def w_Pa_told (s : St) (o : Option Nat) (a0 : Int32) : Prop := ((cn1 .ne a0) = true → ((cn2 .ne a0 (1 : Int32)) = true → (ob (sD s) o 4 ∧ True)) ∧ ((cn2 .ne a0 (1 : Int32)) = false → (ob (sD s) o 4 ∧ True))) ∧ ((cn1 .ne a0) = false → (ob (sD s) o 4 ∧ True))
theorem c_Pa_told {d : Nat} (s : St) (o : Option Nat) (a0 : Int32) (hw : w_Pa_told s o a0) : X m_Pa_told (d) 0 (entL 2 [.inr (.inr o), .inl a0]) [] (hp s) (qL (hp s) (f_Pa_told s o a0)) := by
  unfold f_Pa_told
  unfold w_Pa_told at hw
  refine X_run 2 (i1 := cond (cn1 .ne a0) 6 2) (L1 := [some (.inr (.inr o)), some (.inl a0)]) (st1 := []) rfl ?_
  refine X_brq (fun hb => ?_) (fun hb => ?_)
  · have hw := hw.1 hb
    refine X_run 3 (i1 := cond (cn2 .ne a0 (1 : Int32)) 12 9) (L1 := [some (.inr (.inr o)), some (.inl a0)]) (st1 := []) rfl ?_
    refine X_brq (fun hb => ?_) (fun hb => ?_)
    · have hw := hw.1 hb
      refine X_run 1 (i1 := 13) (L1 := [some (.inr (.inr o)), some (.inl a0)]) (st1 := [.inr (.inr o)]) rfl ?_
      obtain ⟨hc, hw⟩ := hw
      refine X_dI rfl hc rfl ?_
      show X _ _ 14 [some (.inr (.inr o)), some (.inl a0)] [.inl (gI (sD s) o 3)] (hp s) _
      refine X_run 1 (i1 := 15) (L1 := [some (.inr (.inr o)), some (.inl a0)]) (st1 := [.inr (.inl (Int32.toInt64 (gI (sD s) o 3)))]) rfl ?_
      exact X_lret rfl rfl qL_i
    · have hw := hw.2 hb
      refine X_run 1 (i1 := 10) (L1 := [some (.inr (.inr o)), some (.inl a0)]) (st1 := [.inr (.inr o)]) rfl ?_
      obtain ⟨hc, hw⟩ := hw
      refine X_dG rfl hc rfl ?_
      show X _ _ 11 [some (.inr (.inr o)), some (.inl a0)] [.inr (.inl (gL (sD s) o 2))] (hp s) _
      refine X_run 1 (i1 := 15) (L1 := [some (.inr (.inr o)), some (.inl a0)]) (st1 := [.inr (.inl (gL (sD s) o 2))]) rfl ?_
      exact X_lret rfl rfl qL_i
  · have hw := hw.2 hb
    refine X_run 1 (i1 := 3) (L1 := [some (.inr (.inr o)), some (.inl a0)]) (st1 := [.inr (.inr o)]) rfl ?_
    obtain ⟨hc, hw⟩ := hw
    refine X_dI rfl hc rfl ?_
    show X _ _ 4 [some (.inr (.inr o)), some (.inl a0)] [.inl (gI (sD s) o 1)] (hp s) _
    refine X_run 2 (i1 := 15) (L1 := [some (.inr (.inr o)), some (.inl a0)]) (st1 := [.inr (.inl (Int32.toInt64 (gI (sD s) o 1)))]) rfl ?_
    exact X_lret rfl rfl qL_i
def f_Pa_has (s : St) (o : Option Nat) (a0 : Int32) : Bool := (cond (cn2 .lt a0 (2 : Int32)) true (cond (cn2 .ne a0 (2 : Int32)) (cond (cn2 .ne (gI (sD s) o 0) (4 : Int32)) false true) (cond (cn1 .eq (b2i (f_Pa_isPriced s o))) false true)))
def w_Pa_has (s : St) (o : Option Nat) (a0 : Int32) : Prop := ((cn2 .lt a0 (2 : Int32)) = true → True) ∧ ((cn2 .lt a0 (2 : Int32)) = false → ((cn2 .ne a0 (2 : Int32)) = true → (ob (sD s) o 4 ∧ True)) ∧ ((cn2 .ne a0 (2 : Int32)) = false → (w_Pa_isPriced s o ∧ (oC (sD s) o = some 4 ∧ True))))
theorem c_Pa_has {d : Nat} (s : St) (o : Option Nat) (a0 : Int32) (hw : w_Pa_has s o a0) : X m_Pa_has (d + 2) 0 (entL 2 [.inr (.inr o), .inl a0]) [] (hp s) (qB (hp s) (f_Pa_has s o a0)) := by
  unfold f_Pa_has
  unfold w_Pa_has at hw
  refine X_run 3 (i1 := cond (cn2 .lt a0 (2 : Int32)) 14 3) (L1 := [some (.inr (.inr o)), some (.inl a0)]) (st1 := []) rfl ?_
  refine X_brq (fun hb => ?_) (fun hb => ?_)
  · skip
    refine X_run 2 (i1 := 17) (L1 := [some (.inr (.inr o)), some (.inl a0)]) (st1 := [.inl (1 : Int32)]) rfl ?_
    exact X_zret rfl rfl (b2i_01 true) qB_i
  · have hw := hw.2 hb
    refine X_run 3 (i1 := cond (cn2 .ne a0 (2 : Int32)) 10 6) (L1 := [some (.inr (.inr o)), some (.inl a0)]) (st1 := []) rfl ?_
    refine X_brq (fun hb => ?_) (fun hb => ?_)
    · have hw := hw.1 hb
      refine X_run 1 (i1 := 11) (L1 := [some (.inr (.inr o)), some (.inl a0)]) (st1 := [.inr (.inr o)]) rfl ?_
      obtain ⟨hc, hw⟩ := hw
      refine X_dI rfl hc rfl ?_
      show X _ _ 12 [some (.inr (.inr o)), some (.inl a0)] [.inl (gI (sD s) o 0)] (hp s) _
      refine X_run 2 (i1 := cond (cn2 .ne (gI (sD s) o 0) (4 : Int32)) 16 14) (L1 := [some (.inr (.inr o)), some (.inl a0)]) (st1 := []) rfl ?_
      refine X_brq (fun hb => ?_) (fun hb => ?_)
      · skip
        refine X_run 1 (i1 := 17) (L1 := [some (.inr (.inr o)), some (.inl a0)]) (st1 := [.inl (0 : Int32)]) rfl ?_
        exact X_zret rfl rfl (b2i_01 false) qB_i
      · skip
        refine X_run 2 (i1 := 17) (L1 := [some (.inr (.inr o)), some (.inl a0)]) (st1 := [.inl (1 : Int32)]) rfl ?_
        exact X_zret rfl rfl (b2i_01 true) qB_i
    · have hw := hw.2 hb
      refine X_run 1 (i1 := 7) (L1 := [some (.inr (.inr o)), some (.inl a0)]) (st1 := [.inr (.inr o)]) rfl ?_
      obtain ⟨hc, hw⟩ := hw
      obtain ⟨hr, hw⟩ := hw
      refine X_dcallv m_Pa_isPriced (As := []) (st := []) ok_Pa_isPriced rfl rfl rfl hr rfl (Nat.le_of_ble_eq_true rfl) (Nat.le_of_ble_eq_true rfl) (c_Pa_isPriced (d := d) s o hc) ?_
      rintro _ _ ⟨rfl, rfl⟩
      show X _ _ 8 [some (.inr (.inr o)), some (.inl a0)] [.inl (b2i (f_Pa_isPriced s o))] (hp s) _
      refine X_run 1 (i1 := cond (cn1 .eq (b2i (f_Pa_isPriced s o))) 16 9) (L1 := [some (.inr (.inr o)), some (.inl a0)]) (st1 := []) rfl ?_
      refine X_brq (fun hb => ?_) (fun hb => ?_)
      · skip
        refine X_run 1 (i1 := 17) (L1 := [some (.inr (.inr o)), some (.inl a0)]) (st1 := [.inl (0 : Int32)]) rfl ?_
        exact X_zret rfl rfl (b2i_01 false) qB_i
      · skip
        refine X_run 3 (i1 := 17) (L1 := [some (.inr (.inr o)), some (.inl a0)]) (st1 := [.inl (1 : Int32)]) rfl ?_
        exact X_zret rfl rfl (b2i_01 true) qB_i
def f_Pa_answers (s : St) (o : Option Nat) (a0 : Int32) : Bool := (if a0 = (1 : Int32) then (f_Pa_isWeighed s o) else (if a0 = (2 : Int32) then (f_Pa_isPriced s o) else (if a0 = (3 : Int32) then (f_Pa_isBelow (gI (sD s) o 0) (1 : Int32)) else (if a0 = (4 : Int32) then (f_Pa_isBelow (gI (sD s) o 0) (3 : Int32)) else true))))
def w_Pa_answers (s : St) (o : Option Nat) (a0 : Int32) : Prop := ((a0 = (1 : Int32) → (w_Pa_isWeighed s o ∧ (oC (sD s) o = some 4 ∧ True))) ∧ (¬ a0 = (1 : Int32) → ((a0 = (2 : Int32) → (w_Pa_isPriced s o ∧ (oC (sD s) o = some 4 ∧ True))) ∧ (¬ a0 = (2 : Int32) → ((a0 = (3 : Int32) → (ob (sD s) o 4 ∧ True)) ∧ (¬ a0 = (3 : Int32) → ((a0 = (4 : Int32) → (ob (sD s) o 4 ∧ True)) ∧ (¬ a0 = (4 : Int32) → True))))))))
theorem c_Pa_answers {d : Nat} (s : St) (o : Option Nat) (a0 : Int32) (hw : w_Pa_answers s o a0) : X m_Pa_answers (d + 2) 0 (entL 2 [.inr (.inr o), .inl a0]) [] (hp s) (qB (hp s) (f_Pa_answers s o a0)) := by
  unfold f_Pa_answers
  unfold w_Pa_answers at hw
  refine X_run 1 (i1 := 1) (L1 := [some (.inr (.inr o)), some (.inl a0)]) (st1 := [.inl a0]) rfl ?_
  refine X_itq (fun h => ?_) (fun h1_0 => ?_)
  · refine X_tsk rfl h rfl ?_
    have hw := hw.1 h
    refine X_run 1 (i1 := 3) (L1 := [some (.inr (.inr o)), some (.inl a0)]) (st1 := [.inr (.inr o)]) rfl ?_
    obtain ⟨hc, hw⟩ := hw
    obtain ⟨hr, hw⟩ := hw
    refine X_dcallv m_Pa_isWeighed (As := []) (st := []) ok_Pa_isWeighed rfl rfl rfl hr rfl (Nat.le_of_ble_eq_true rfl) (Nat.le_of_ble_eq_true rfl) (c_Pa_isWeighed (d := d + 1) s o hc) ?_
    rintro _ _ ⟨rfl, rfl⟩
    show X _ _ 4 [some (.inr (.inr o)), some (.inl a0)] [.inl (b2i (f_Pa_isWeighed s o))] (hp s) _
    exact X_zret rfl rfl (b2i_01 (f_Pa_isWeighed s o)) qB_i
  have hw := hw.2 h1_0
  refine X_itq (fun h => ?_) (fun h1_1 => ?_)
  · refine X_tsk rfl h rfl ?_
    have hw := hw.1 h
    refine X_run 1 (i1 := 6) (L1 := [some (.inr (.inr o)), some (.inl a0)]) (st1 := [.inr (.inr o)]) rfl ?_
    obtain ⟨hc, hw⟩ := hw
    obtain ⟨hr, hw⟩ := hw
    refine X_dcallv m_Pa_isPriced (As := []) (st := []) ok_Pa_isPriced rfl rfl rfl hr rfl (Nat.le_of_ble_eq_true rfl) (Nat.le_of_ble_eq_true rfl) (c_Pa_isPriced (d := d) s o hc) ?_
    rintro _ _ ⟨rfl, rfl⟩
    show X _ _ 7 [some (.inr (.inr o)), some (.inl a0)] [.inl (b2i (f_Pa_isPriced s o))] (hp s) _
    exact X_zret rfl rfl (b2i_01 (f_Pa_isPriced s o)) qB_i
  have hw := hw.2 h1_1
  refine X_itq (fun h => ?_) (fun h1_2 => ?_)
  · refine X_tsk rfl h rfl ?_
    have hw := hw.1 h
    refine X_run 1 (i1 := 9) (L1 := [some (.inr (.inr o)), some (.inl a0)]) (st1 := [.inr (.inr o)]) rfl ?_
    obtain ⟨hc, hw⟩ := hw
    refine X_dI rfl hc rfl ?_
    show X _ _ 10 [some (.inr (.inr o)), some (.inl a0)] [.inl (gI (sD s) o 0)] (hp s) _
    refine X_run 1 (i1 := 11) (L1 := [some (.inr (.inr o)), some (.inl a0)]) (st1 := [.inl (1 : Int32), .inl (gI (sD s) o 0)]) rfl ?_
    refine X_calls m_Pa_isBelow (As := [.inl (gI (sD s) o 0), .inl (1 : Int32)]) (st := []) ok_Pa_isBelow rfl rfl rfl (Nat.le_of_ble_eq_true rfl) (Nat.le_of_ble_eq_true rfl) (c_Pa_isBelow (d := d + 1) (gI (sD s) o 0) (1 : Int32)) ?_
    rintro _ _ ⟨rfl, rfl⟩
    show X _ _ 12 [some (.inr (.inr o)), some (.inl a0)] [.inl (b2i (f_Pa_isBelow (gI (sD s) o 0) (1 : Int32)))] (hp s) _
    exact X_zret rfl rfl (b2i_01 (f_Pa_isBelow (gI (sD s) o 0) (1 : Int32))) qB_i
  have hw := hw.2 h1_2
  refine X_itq (fun h => ?_) (fun h1_3 => ?_)
  · refine X_tsk rfl h rfl ?_
    have hw := hw.1 h
    refine X_run 1 (i1 := 14) (L1 := [some (.inr (.inr o)), some (.inl a0)]) (st1 := [.inr (.inr o)]) rfl ?_
    obtain ⟨hc, hw⟩ := hw
    refine X_dI rfl hc rfl ?_
    show X _ _ 15 [some (.inr (.inr o)), some (.inl a0)] [.inl (gI (sD s) o 0)] (hp s) _
    refine X_run 1 (i1 := 16) (L1 := [some (.inr (.inr o)), some (.inl a0)]) (st1 := [.inl (3 : Int32), .inl (gI (sD s) o 0)]) rfl ?_
    refine X_calls m_Pa_isBelow (As := [.inl (gI (sD s) o 0), .inl (3 : Int32)]) (st := []) ok_Pa_isBelow rfl rfl rfl (Nat.le_of_ble_eq_true rfl) (Nat.le_of_ble_eq_true rfl) (c_Pa_isBelow (d := d + 1) (gI (sD s) o 0) (3 : Int32)) ?_
    rintro _ _ ⟨rfl, rfl⟩
    show X _ _ 17 [some (.inr (.inr o)), some (.inl a0)] [.inl (b2i (f_Pa_isBelow (gI (sD s) o 0) (3 : Int32)))] (hp s) _
    exact X_zret rfl rfl (b2i_01 (f_Pa_isBelow (gI (sD s) o 0) (3 : Int32))) qB_i
  refine X_tsd rfl ((sw_out (1) 4 (by decide) (by decide) (fun j hj => by
    match j, hj with
    | 0, _ => exact h1_0
    | 1, _ => exact h1_1
    | 2, _ => exact h1_2
    | 3, _ => exact h1_3
    | j + 4, hj => exact absurd hj (by omega))).imp id (fun h => by omega)) ?_
  refine X_run 1 (i1 := 19) (L1 := [some (.inr (.inr o)), some (.inl a0)]) (st1 := [.inl (1 : Int32)]) rfl ?_
  exact X_zret rfl rfl (b2i_01 true) qB_i
def f_Pa_label (s : St) (o : Option Nat) : Int32 := (if (gI (sD s) o 0) = (1 : Int32) then (12 : Int32) else (if (gI (sD s) o 0) = (2 : Int32) then (123 : Int32) else (if (gI (sD s) o 0) = (3 : Int32) then (1 : Int32) else (if (gI (sD s) o 0) = (4 : Int32) then (51 : Int32) else (1 : Int32)))))
def w_Pa_label (s : St) (o : Option Nat) : Prop := (ob (sD s) o 4 ∧ True)
theorem c_Pa_label {d : Nat} (s : St) (o : Option Nat) (hw : w_Pa_label s o) : X m_Pa_label (d) 0 (entL 1 [.inr (.inr o)]) [] (hp s) (qI (hp s) (f_Pa_label s o)) := by
  unfold f_Pa_label
  unfold w_Pa_label at hw
  refine X_run 1 (i1 := 1) (L1 := [some (.inr (.inr o))]) (st1 := [.inr (.inr o)]) rfl ?_
  obtain ⟨hc, hw⟩ := hw
  refine X_dI rfl hc rfl ?_
  show X _ _ 2 [some (.inr (.inr o))] [.inl (gI (sD s) o 0)] (hp s) _
  refine X_itq (fun h => ?_) (fun h2_0 => ?_)
  · refine X_tsk rfl h rfl ?_
    refine X_run 1 (i1 := 4) (L1 := [some (.inr (.inr o))]) (st1 := [.inl (12 : Int32)]) rfl ?_
    exact X_iret rfl rfl qI_i
  refine X_itq (fun h => ?_) (fun h2_1 => ?_)
  · refine X_tsk rfl h rfl ?_
    refine X_run 1 (i1 := 6) (L1 := [some (.inr (.inr o))]) (st1 := [.inl (123 : Int32)]) rfl ?_
    exact X_iret rfl rfl qI_i
  refine X_itq (fun h => ?_) (fun h2_2 => ?_)
  · refine X_tsk rfl h rfl ?_
    refine X_run 1 (i1 := 10) (L1 := [some (.inr (.inr o))]) (st1 := [.inl (1 : Int32)]) rfl ?_
    exact X_iret rfl rfl qI_i
  refine X_itq (fun h => ?_) (fun h2_3 => ?_)
  · refine X_tsk rfl h rfl ?_
    refine X_run 1 (i1 := 8) (L1 := [some (.inr (.inr o))]) (st1 := [.inl (51 : Int32)]) rfl ?_
    exact X_iret rfl rfl qI_i
  refine X_tsd rfl ((sw_out (1) 4 (by decide) (by decide) (fun j hj => by
    match j, hj with
    | 0, _ => exact h2_0
    | 1, _ => exact h2_1
    | 2, _ => exact h2_2
    | 3, _ => exact h2_3
    | j + 4, hj => exact absurd hj (by omega))).imp id (fun h => by omega)) ?_
  refine X_run 1 (i1 := 10) (L1 := [some (.inr (.inr o))]) (st1 := [.inl (1 : Int32)]) rfl ?_
  exact X_iret rfl rfl qI_i
def t_Pa_loadOf_18 (s : St) (v0 : Option Nat) (v6 : Int64) : Int64 := (cond (cn2 .ne (gI (sD s) v0 0) (4 : Int32)) v6 (f_Re_sum v6 (4607182418800017408 : Int64)))
def w_Pa_loadOf_18 (s : St) (v0 : Option Nat) (v6 : Int64) : Prop := (ob (sD s) v0 4 ∧ True)
theorem ct_Pa_loadOf_18 {d : Nat} (s : St) (v0 : Option Nat) (v6 : Int64) (hw : w_Pa_loadOf_18 s v0 v6) : X m_Pa_loadOf (d + 3) 18 [some (.inr (.inr v0)), none, none, none, none, none, some (.inr (.inl v6)), none] [] (hp s) (qL (hp s) (t_Pa_loadOf_18 s v0 v6)) := by
  unfold t_Pa_loadOf_18
  unfold w_Pa_loadOf_18 at hw
  refine X_run 1 (i1 := 19) (L1 := [some (.inr (.inr v0)), none, none, none, none, none, some (.inr (.inl v6)), none]) (st1 := [.inr (.inr v0)]) rfl ?_
  obtain ⟨hc, hw⟩ := hw
  refine X_dI rfl hc rfl ?_
  show X _ _ 20 [some (.inr (.inr v0)), none, none, none, none, none, some (.inr (.inl v6)), none] [.inl (gI (sD s) v0 0)] (hp s) _
  refine X_run 2 (i1 := cond (cn2 .ne (gI (sD s) v0 0) (4 : Int32)) 26 22) (L1 := [some (.inr (.inr v0)), none, none, none, none, none, some (.inr (.inl v6)), none]) (st1 := []) rfl ?_
  refine X_brq (fun hb => ?_) (fun hb => ?_)
  · skip
    refine X_run 1 (i1 := 27) (L1 := [some (.inr (.inr v0)), none, none, none, none, none, some (.inr (.inl v6)), none]) (st1 := [.inr (.inl v6)]) rfl ?_
    exact X_lret rfl rfl qL_i
  · skip
    refine X_run 2 (i1 := 24) (L1 := [some (.inr (.inr v0)), none, none, none, none, none, some (.inr (.inl v6)), none]) (st1 := [.inr (.inl (4607182418800017408 : Int64)), .inr (.inl v6)]) rfl ?_
    refine X_calls m_Re_sum (As := [.inr (.inl v6), .inr (.inl (4607182418800017408 : Int64))]) (st := []) ok_Re_sum rfl rfl rfl (Nat.le_of_ble_eq_true rfl) (Nat.le_of_ble_eq_true rfl) (c_Re_sum (d := d) v6 (4607182418800017408 : Int64)) ?_
    rintro _ _ ⟨rfl, rfl⟩
    show X _ _ 25 [some (.inr (.inr v0)), none, none, none, none, none, some (.inr (.inl v6)), none] [.inr (.inl (f_Re_sum v6 (4607182418800017408 : Int64)))] (hp s) _
    refine X_run 1 (i1 := 27) (L1 := [some (.inr (.inr v0)), none, none, none, none, none, some (.inr (.inl v6)), none]) (st1 := [.inr (.inl (f_Re_sum v6 (4607182418800017408 : Int64)))]) rfl ?_
    exact X_lret rfl rfl qL_i
def f_Pa_loadOf (s : St) (o : Option Nat) (a0 : Int32) (a1 : Int64) : Int64 := (cond (cn1 .eq (b2i (f_Pa_isPriced s o))) (t_Pa_loadOf_18 s o (f_Re_product (f_Re_ofInt a0) a1)) (t_Pa_loadOf_18 s o (f_Re_sum (f_Re_product (f_Re_ofInt a0) a1) (f_Re_product (f_Re_ofInt a0) (f_Re_ofInt (gI (sD s) o 3))))))
def w_Pa_loadOf (s : St) (o : Option Nat) (a0 : Int32) (a1 : Int64) : Prop := (w_Pa_isPriced s o ∧ (oC (sD s) o = some 4 ∧ ((cn1 .eq (b2i (f_Pa_isPriced s o))) = true → (w_Pa_loadOf_18 s o (f_Re_product (f_Re_ofInt a0) a1))) ∧ ((cn1 .eq (b2i (f_Pa_isPriced s o))) = false → (ob (sD s) o 4 ∧ (w_Pa_loadOf_18 s o (f_Re_sum (f_Re_product (f_Re_ofInt a0) a1) (f_Re_product (f_Re_ofInt a0) (f_Re_ofInt (gI (sD s) o 3)))))))))
theorem c_Pa_loadOf {d : Nat} (s : St) (o : Option Nat) (a0 : Int32) (a1 : Int64) (hw : w_Pa_loadOf s o a0 a1) : X m_Pa_loadOf (d + 3) 0 (entL 8 [.inr (.inr o), .inl a0, .inr (.inl a1)]) [] (hp s) (qL (hp s) (f_Pa_loadOf s o a0 a1)) := by
  unfold f_Pa_loadOf
  unfold w_Pa_loadOf at hw
  refine X_run 1 (i1 := 1) (L1 := [some (.inr (.inr o)), some (.inl a0), some (.inr (.inl a1)), none, none, none, none, none]) (st1 := [.inl a0]) rfl ?_
  refine X_calls m_Re_ofInt (As := [.inl a0]) (st := []) ok_Re_ofInt rfl rfl rfl (Nat.le_of_ble_eq_true rfl) (Nat.le_of_ble_eq_true rfl) (c_Re_ofInt (d := d + 1) a0) ?_
  rintro _ _ ⟨rfl, rfl⟩
  show X _ _ 2 [some (.inr (.inr o)), some (.inl a0), some (.inr (.inl a1)), none, none, none, none, none] [.inr (.inl (f_Re_ofInt a0))] (hp s) _
  refine X_run 3 (i1 := 5) (L1 := [some (.inr (.inr o)), some (.inl a0), some (.inr (.inl a1)), none, some (.inr (.inl (f_Re_ofInt a0))), none, none, none]) (st1 := [.inr (.inl a1), .inr (.inl (f_Re_ofInt a0))]) rfl ?_
  refine X_calls m_Re_product (As := [.inr (.inl (f_Re_ofInt a0)), .inr (.inl a1)]) (st := []) ok_Re_product rfl rfl rfl (Nat.le_of_ble_eq_true rfl) (Nat.le_of_ble_eq_true rfl) (c_Re_product (d := d) (f_Re_ofInt a0) a1) ?_
  rintro _ _ ⟨rfl, rfl⟩
  show X _ _ 6 [some (.inr (.inr o)), some (.inl a0), some (.inr (.inl a1)), none, some (.inr (.inl (f_Re_ofInt a0))), none, none, none] [.inr (.inl (f_Re_product (f_Re_ofInt a0) a1))] (hp s) _
  refine X_run 2 (i1 := 8) (L1 := [some (.inr (.inr o)), some (.inl a0), some (.inr (.inl a1)), none, some (.inr (.inl (f_Re_ofInt a0))), none, some (.inr (.inl (f_Re_product (f_Re_ofInt a0) a1))), none]) (st1 := [.inr (.inr o)]) rfl ?_
  obtain ⟨hc, hw⟩ := hw
  obtain ⟨hr, hw⟩ := hw
  refine X_dcallv m_Pa_isPriced (As := []) (st := []) ok_Pa_isPriced rfl rfl rfl hr rfl (Nat.le_of_ble_eq_true rfl) (Nat.le_of_ble_eq_true rfl) (c_Pa_isPriced (d := d + 1) s o hc) ?_
  rintro _ _ ⟨rfl, rfl⟩
  show X _ _ 9 [some (.inr (.inr o)), some (.inl a0), some (.inr (.inl a1)), none, some (.inr (.inl (f_Re_ofInt a0))), none, some (.inr (.inl (f_Re_product (f_Re_ofInt a0) a1))), none] [.inl (b2i (f_Pa_isPriced s o))] (hp s) _
  refine X_run 1 (i1 := cond (cn1 .eq (b2i (f_Pa_isPriced s o))) 18 10) (L1 := [some (.inr (.inr o)), some (.inl a0), some (.inr (.inl a1)), none, some (.inr (.inl (f_Re_ofInt a0))), none, some (.inr (.inl (f_Re_product (f_Re_ofInt a0) a1))), none]) (st1 := []) rfl ?_
  refine X_brq (fun hb => ?_) (fun hb => ?_)
  · have hw := hw.1 hb
    refine X_mask [true, false, false, true, false, true, true, true] ?_
    exact ct_Pa_loadOf_18 s o (f_Re_product (f_Re_ofInt a0) a1) hw
  · have hw := hw.2 hb
    refine X_run 3 (i1 := 13) (L1 := [some (.inr (.inr o)), some (.inl a0), some (.inr (.inl a1)), none, some (.inr (.inl (f_Re_ofInt a0))), none, some (.inr (.inl (f_Re_product (f_Re_ofInt a0) a1))), none]) (st1 := [.inr (.inr o), .inr (.inl (f_Re_ofInt a0)), .inr (.inl (f_Re_product (f_Re_ofInt a0) a1))]) rfl ?_
    obtain ⟨hc, hw⟩ := hw
    refine X_dI rfl hc rfl ?_
    show X _ _ 14 [some (.inr (.inr o)), some (.inl a0), some (.inr (.inl a1)), none, some (.inr (.inl (f_Re_ofInt a0))), none, some (.inr (.inl (f_Re_product (f_Re_ofInt a0) a1))), none] [.inl (gI (sD s) o 3), .inr (.inl (f_Re_ofInt a0)), .inr (.inl (f_Re_product (f_Re_ofInt a0) a1))] (hp s) _
    refine X_calls m_Re_ofInt (As := [.inl (gI (sD s) o 3)]) (st := [.inr (.inl (f_Re_ofInt a0)), .inr (.inl (f_Re_product (f_Re_ofInt a0) a1))]) ok_Re_ofInt rfl rfl rfl (Nat.le_of_ble_eq_true rfl) (Nat.le_of_ble_eq_true rfl) (c_Re_ofInt (d := d + 1) (gI (sD s) o 3)) ?_
    rintro _ _ ⟨rfl, rfl⟩
    show X _ _ 15 [some (.inr (.inr o)), some (.inl a0), some (.inr (.inl a1)), none, some (.inr (.inl (f_Re_ofInt a0))), none, some (.inr (.inl (f_Re_product (f_Re_ofInt a0) a1))), none] [.inr (.inl (f_Re_ofInt (gI (sD s) o 3))), .inr (.inl (f_Re_ofInt a0)), .inr (.inl (f_Re_product (f_Re_ofInt a0) a1))] (hp s) _
    refine X_calls m_Re_product (As := [.inr (.inl (f_Re_ofInt a0)), .inr (.inl (f_Re_ofInt (gI (sD s) o 3)))]) (st := [.inr (.inl (f_Re_product (f_Re_ofInt a0) a1))]) ok_Re_product rfl rfl rfl (Nat.le_of_ble_eq_true rfl) (Nat.le_of_ble_eq_true rfl) (c_Re_product (d := d) (f_Re_ofInt a0) (f_Re_ofInt (gI (sD s) o 3))) ?_
    rintro _ _ ⟨rfl, rfl⟩
    show X _ _ 16 [some (.inr (.inr o)), some (.inl a0), some (.inr (.inl a1)), none, some (.inr (.inl (f_Re_ofInt a0))), none, some (.inr (.inl (f_Re_product (f_Re_ofInt a0) a1))), none] [.inr (.inl (f_Re_product (f_Re_ofInt a0) (f_Re_ofInt (gI (sD s) o 3)))), .inr (.inl (f_Re_product (f_Re_ofInt a0) a1))] (hp s) _
    refine X_calls m_Re_sum (As := [.inr (.inl (f_Re_product (f_Re_ofInt a0) a1)), .inr (.inl (f_Re_product (f_Re_ofInt a0) (f_Re_ofInt (gI (sD s) o 3))))]) (st := []) ok_Re_sum rfl rfl rfl (Nat.le_of_ble_eq_true rfl) (Nat.le_of_ble_eq_true rfl) (c_Re_sum (d := d) (f_Re_product (f_Re_ofInt a0) a1) (f_Re_product (f_Re_ofInt a0) (f_Re_ofInt (gI (sD s) o 3)))) ?_
    rintro _ _ ⟨rfl, rfl⟩
    show X _ _ 17 [some (.inr (.inr o)), some (.inl a0), some (.inr (.inl a1)), none, some (.inr (.inl (f_Re_ofInt a0))), none, some (.inr (.inl (f_Re_product (f_Re_ofInt a0) a1))), none] [.inr (.inl (f_Re_sum (f_Re_product (f_Re_ofInt a0) a1) (f_Re_product (f_Re_ofInt a0) (f_Re_ofInt (gI (sD s) o 3)))))] (hp s) _
    refine X_run 1 (i1 := 18) (L1 := [some (.inr (.inr o)), some (.inl a0), some (.inr (.inl a1)), none, some (.inr (.inl (f_Re_ofInt a0))), none, some (.inr (.inl (f_Re_sum (f_Re_product (f_Re_ofInt a0) a1) (f_Re_product (f_Re_ofInt a0) (f_Re_ofInt (gI (sD s) o 3)))))), none]) (st1 := []) rfl ?_
    refine X_mask [true, false, false, true, false, true, true, true] ?_
    exact ct_Pa_loadOf_18 s o (f_Re_sum (f_Re_product (f_Re_ofInt a0) a1) (f_Re_product (f_Re_ofInt a0) (f_Re_ofInt (gI (sD s) o 3)))) hw
def t_Tr_init_2 (s : St) (v0 : Option Nat) (v1 : Int32) : St := (pQ s (dF (sD s) v0 0 (.inl v1)) (sN s) (sU s))
def w_Tr_init_2 (s : St) (v0 : Option Nat) (v1 : Int32) : Prop := (ob (sD s) v0 8 ∧ True)
theorem ct_Tr_init_2 {d : Nat} (s : St) (v0 : Option Nat) (v1 : Int32) (hw : w_Tr_init_2 s v0 v1) : X m_Tr_init (d + 2) 2 [some (.inr (.inr v0)), some (.inl v1)] [] (hp s) (qVs (t_Tr_init_2 s v0 v1)) := by
  unfold t_Tr_init_2
  unfold w_Tr_init_2 at hw
  refine X_run 2 (i1 := 4) (L1 := [some (.inr (.inr v0)), some (.inl v1)]) (st1 := [.inl v1, .inr (.inr v0)]) rfl ?_
  obtain ⟨hc, hw⟩ := hw
  refine X_dP rfl hc rfl ?_
  show X _ _ 5 [some (.inr (.inr v0)), some (.inl v1)] [] (hp (pQ s (dF (sD s) v0 0 (.inl v1)) (sN s) (sU s))) _
  exact X_ret rfl rfl qVs_i
def f_Tr_init (s : St) (o : Option Nat) (a0 : Int32) : St := (t_Tr_init_2 (f_Th_init s o) o a0)
def w_Tr_init (s : St) (o : Option Nat) (a0 : Int32) : Prop := (w_Th_init s o ∧ ((oC (sD s) o).isSome = true ∧ (w_Tr_init_2 (f_Th_init s o) o a0)))
theorem c_Tr_init {d : Nat} (s : St) (o : Option Nat) (a0 : Int32) (hw : w_Tr_init s o a0) : X m_Tr_init (d + 2) 0 (entL 2 [.inr (.inr o), .inl a0]) [] (hp s) (qVs (f_Tr_init s o a0)) := by
  unfold f_Tr_init
  unfold w_Tr_init at hw
  refine X_run 1 (i1 := 1) (L1 := [some (.inr (.inr o)), some (.inl a0)]) (st1 := [.inr (.inr o)]) rfl ?_
  obtain ⟨hc, hw⟩ := hw
  obtain ⟨hr, hw⟩ := hw
  refine X_dcalln m_Th_init (As := []) (st := []) ok_Th_init rfl rfl rfl rfl hr (Nat.le_of_ble_eq_true rfl) (Nat.le_of_ble_eq_true rfl) (c_Th_init (d := d) s o hc) ?_
  rintro _ _ ⟨rfl, rfl⟩
  show X _ _ 2 [some (.inr (.inr o)), some (.inl a0)] [] (hp (f_Th_init s o)) _
  show X _ _ 2 [some (.inr (.inr o)), some (.inl a0)] [] (hp (f_Th_init s o)) _
  exact ct_Tr_init_2 (f_Th_init s o) o a0 hw
def f_Tr_kind (s : St) (o : Option Nat) : Int32 := (16 : Int32)
def w_Tr_kind (s : St) (o : Option Nat) : Prop := True
theorem c_Tr_kind {d : Nat} (s : St) (o : Option Nat) (hw : w_Tr_kind s o) : X m_Tr_kind (d) 0 (entL 1 [.inr (.inr o)]) [] (hp s) (qI (hp s) (f_Tr_kind s o)) := by
  unfold f_Tr_kind
  unfold w_Tr_kind at hw
  refine X_run 1 (i1 := 1) (L1 := [some (.inr (.inr o))]) (st1 := [.inl (16 : Int32)]) rfl ?_
  exact X_iret rfl rfl qI_i
def f_Tr_tellable (s : St) (o : Option Nat) : Int32 := (1 : Int32)
def w_Tr_tellable (s : St) (o : Option Nat) : Prop := True
theorem c_Tr_tellable {d : Nat} (s : St) (o : Option Nat) (hw : w_Tr_tellable s o) : X m_Tr_tellable (d) 0 (entL 1 [.inr (.inr o)]) [] (hp s) (qI (hp s) (f_Tr_tellable s o)) := by
  unfold f_Tr_tellable
  unfold w_Tr_tellable at hw
  refine X_run 1 (i1 := 1) (L1 := [some (.inr (.inr o))]) (st1 := [.inl (1 : Int32)]) rfl ?_
  exact X_iret rfl rfl qI_i
def f_Tr_told (s : St) (o : Option Nat) (a0 : Int32) : Int64 := (Int32.toInt64 (gI (sD s) o 0))
def w_Tr_told (s : St) (o : Option Nat) (a0 : Int32) : Prop := (ob (sD s) o 8 ∧ True)
theorem c_Tr_told {d : Nat} (s : St) (o : Option Nat) (a0 : Int32) (hw : w_Tr_told s o a0) : X m_Tr_told (d) 0 (entL 2 [.inr (.inr o), .inl a0]) [] (hp s) (qL (hp s) (f_Tr_told s o a0)) := by
  unfold f_Tr_told
  unfold w_Tr_told at hw
  refine X_run 1 (i1 := 1) (L1 := [some (.inr (.inr o)), some (.inl a0)]) (st1 := [.inr (.inr o)]) rfl ?_
  obtain ⟨hc, hw⟩ := hw
  refine X_dI rfl hc rfl ?_
  show X _ _ 2 [some (.inr (.inr o)), some (.inl a0)] [.inl (gI (sD s) o 0)] (hp s) _
  refine X_run 1 (i1 := 3) (L1 := [some (.inr (.inr o)), some (.inl a0)]) (st1 := [.inr (.inl (Int32.toInt64 (gI (sD s) o 0)))]) rfl ?_
  exact X_lret rfl rfl qL_i
def t_Ro_init_2 (s : St) (v0 : Option Nat) (v1 : Int32) (v2 : Int32) : St := (pQ s (dF (nwL (dF (sD s) v0 0 (.inl v1)) (sN s) v2) v0 1 (.inr (.inr (some (sN s))))) ((sN s) + 1) ((sU s) + Int32.toNatClampNeg v2))
def w_Ro_init_2 (s : St) (v0 : Option Nat) (v1 : Int32) (v2 : Int32) : Prop := (ob (sD s) v0 6 ∧ (¬ v2 < 0 ∧ (rm (sN s) (sU s) (Int32.toNatClampNeg v2) ∧ (ob (nwL (dF (sD s) v0 0 (.inl v1)) (sN s) v2) v0 6 ∧ True))))
theorem ct_Ro_init_2 {d : Nat} (s : St) (v0 : Option Nat) (v1 : Int32) (v2 : Int32) (hw : w_Ro_init_2 s v0 v1 v2) : X m_Ro_init (d + 2) 2 [some (.inr (.inr v0)), some (.inl v1), some (.inl v2)] [] (hp s) (qVs (t_Ro_init_2 s v0 v1 v2)) := by
  unfold t_Ro_init_2
  unfold w_Ro_init_2 at hw
  refine X_run 2 (i1 := 4) (L1 := [some (.inr (.inr v0)), some (.inl v1), some (.inl v2)]) (st1 := [.inl v1, .inr (.inr v0)]) rfl ?_
  obtain ⟨hc, hw⟩ := hw
  refine X_dP rfl hc rfl ?_
  show X _ _ 5 [some (.inr (.inr v0)), some (.inl v1), some (.inl v2)] [] (hp (pQ s (dF (sD s) v0 0 (.inl v1)) (sN s) (sU s))) _
  refine X_run 2 (i1 := 7) (L1 := [some (.inr (.inr v0)), some (.inl v1), some (.inl v2)]) (st1 := [.inl v2, .inr (.inr v0)]) rfl ?_
  obtain ⟨hz, hw⟩ := hw
  obtain ⟨hr, hw⟩ := hw
  refine X_dnl rfl hz hr ?_
  show X _ _ 8 [some (.inr (.inr v0)), some (.inl v1), some (.inl v2)] [.inr (.inr (some (sN s))), .inr (.inr v0)] (hp (pQ s (nwL (dF (sD s) v0 0 (.inl v1)) (sN s) v2) ((sN s) + 1) ((sU s) + Int32.toNatClampNeg v2))) _
  obtain ⟨hc, hw⟩ := hw
  refine X_dP rfl hc rfl ?_
  show X _ _ 9 [some (.inr (.inr v0)), some (.inl v1), some (.inl v2)] [] (hp (pQ s (dF (nwL (dF (sD s) v0 0 (.inl v1)) (sN s) v2) v0 1 (.inr (.inr (some (sN s))))) ((sN s) + 1) ((sU s) + Int32.toNatClampNeg v2))) _
  exact X_ret rfl rfl qVs_i
def f_Ro_init (s : St) (o : Option Nat) (a0 : Int32) (a1 : Int32) : St := (t_Ro_init_2 (f_Th_init s o) o a0 a1)
def w_Ro_init (s : St) (o : Option Nat) (a0 : Int32) (a1 : Int32) : Prop := (w_Th_init s o ∧ ((oC (sD s) o).isSome = true ∧ (w_Ro_init_2 (f_Th_init s o) o a0 a1)))
theorem c_Ro_init {d : Nat} (s : St) (o : Option Nat) (a0 : Int32) (a1 : Int32) (hw : w_Ro_init s o a0 a1) : X m_Ro_init (d + 2) 0 (entL 3 [.inr (.inr o), .inl a0, .inl a1]) [] (hp s) (qVs (f_Ro_init s o a0 a1)) := by
  unfold f_Ro_init
  unfold w_Ro_init at hw
  refine X_run 1 (i1 := 1) (L1 := [some (.inr (.inr o)), some (.inl a0), some (.inl a1)]) (st1 := [.inr (.inr o)]) rfl ?_
  obtain ⟨hc, hw⟩ := hw
  obtain ⟨hr, hw⟩ := hw
  refine X_dcalln m_Th_init (As := []) (st := []) ok_Th_init rfl rfl rfl rfl hr (Nat.le_of_ble_eq_true rfl) (Nat.le_of_ble_eq_true rfl) (c_Th_init (d := d) s o hc) ?_
  rintro _ _ ⟨rfl, rfl⟩
  show X _ _ 2 [some (.inr (.inr o)), some (.inl a0), some (.inl a1)] [] (hp (f_Th_init s o)) _
  show X _ _ 2 [some (.inr (.inr o)), some (.inl a0), some (.inl a1)] [] (hp (f_Th_init s o)) _
  exact ct_Ro_init_2 (f_Th_init s o) o a0 a1 hw
def f_Ro_kind (s : St) (o : Option Nat) : Int32 := (gI (sD s) o 0)
def w_Ro_kind (s : St) (o : Option Nat) : Prop := (ob (sD s) o 6 ∧ True)
theorem c_Ro_kind {d : Nat} (s : St) (o : Option Nat) (hw : w_Ro_kind s o) : X m_Ro_kind (d) 0 (entL 1 [.inr (.inr o)]) [] (hp s) (qI (hp s) (f_Ro_kind s o)) := by
  unfold f_Ro_kind
  unfold w_Ro_kind at hw
  refine X_run 1 (i1 := 1) (L1 := [some (.inr (.inr o))]) (st1 := [.inr (.inr o)]) rfl ?_
  obtain ⟨hc, hw⟩ := hw
  refine X_dI rfl hc rfl ?_
  show X _ _ 2 [some (.inr (.inr o))] [.inl (gI (sD s) o 0)] (hp s) _
  exact X_iret rfl rfl qI_i
def f_Ro_tellable (s : St) (o : Option Nat) : Int32 := (Int32.ofNat (aLN (sD s) (gR (sD s) o 1)))
def w_Ro_tellable (s : St) (o : Option Nat) : Prop := (ob (sD s) o 6 ∧ (isL (sD s) (gR (sD s) o 1) ∧ True))
theorem c_Ro_tellable {d : Nat} (s : St) (o : Option Nat) (hw : w_Ro_tellable s o) : X m_Ro_tellable (d) 0 (entL 1 [.inr (.inr o)]) [] (hp s) (qI (hp s) (f_Ro_tellable s o)) := by
  unfold f_Ro_tellable
  unfold w_Ro_tellable at hw
  refine X_run 1 (i1 := 1) (L1 := [some (.inr (.inr o))]) (st1 := [.inr (.inr o)]) rfl ?_
  obtain ⟨hc, hw⟩ := hw
  refine X_dR rfl hc rfl ?_
  show X _ _ 2 [some (.inr (.inr o))] [.inr (.inr (gR (sD s) o 1))] (hp s) _
  obtain ⟨hc, hw⟩ := hw
  refine X_dlen rfl hc ?_
  show X _ _ 3 [some (.inr (.inr o))] [.inl (Int32.ofNat (aLN (sD s) (gR (sD s) o 1)))] (hp s) _
  exact X_iret rfl rfl qI_i
def f_Ro_told (s : St) (o : Option Nat) (a0 : Int32) : Int64 := (cond (cn1 .lt a0) (-1 : Int64) (cond (cn2 .ge a0 (Int32.ofNat (aLN (sD s) (gR (sD s) o 1)))) (-1 : Int64) (aLF (sD s) (gR (sD s) o 1) (Int32.toNatClampNeg a0))))
def w_Ro_told (s : St) (o : Option Nat) (a0 : Int32) : Prop := ((cn1 .lt a0) = true → True) ∧ ((cn1 .lt a0) = false → (ob (sD s) o 6 ∧ (isL (sD s) (gR (sD s) o 1) ∧ ((cn2 .ge a0 (Int32.ofNat (aLN (sD s) (gR (sD s) o 1)))) = true → True) ∧ ((cn2 .ge a0 (Int32.ofNat (aLN (sD s) (gR (sD s) o 1)))) = false → (ob (sD s) o 6 ∧ (isL (sD s) (gR (sD s) o 1) ∧ (vp_in a0 (aLN (sD s) (gR (sD s) o 1)) ∧ True)))))))
theorem c_Ro_told {d : Nat} (s : St) (o : Option Nat) (a0 : Int32) (hw : w_Ro_told s o a0) : X m_Ro_told (d) 0 (entL 2 [.inr (.inr o), .inl a0]) [] (hp s) (qL (hp s) (f_Ro_told s o a0)) := by
  unfold f_Ro_told
  unfold w_Ro_told at hw
  refine X_run 2 (i1 := cond (cn1 .lt a0) 12 2) (L1 := [some (.inr (.inr o)), some (.inl a0)]) (st1 := []) rfl ?_
  refine X_brq (fun hb => ?_) (fun hb => ?_)
  · skip
    refine X_run 1 (i1 := 13) (L1 := [some (.inr (.inr o)), some (.inl a0)]) (st1 := [.inr (.inl (-1 : Int64))]) rfl ?_
    exact X_lret rfl rfl qL_i
  · have hw := hw.2 hb
    refine X_run 2 (i1 := 4) (L1 := [some (.inr (.inr o)), some (.inl a0)]) (st1 := [.inr (.inr o), .inl a0]) rfl ?_
    obtain ⟨hc, hw⟩ := hw
    refine X_dR rfl hc rfl ?_
    show X _ _ 5 [some (.inr (.inr o)), some (.inl a0)] [.inr (.inr (gR (sD s) o 1)), .inl a0] (hp s) _
    obtain ⟨hc, hw⟩ := hw
    refine X_dlen rfl hc ?_
    show X _ _ 6 [some (.inr (.inr o)), some (.inl a0)] [.inl (Int32.ofNat (aLN (sD s) (gR (sD s) o 1))), .inl a0] (hp s) _
    refine X_run 1 (i1 := cond (cn2 .ge a0 (Int32.ofNat (aLN (sD s) (gR (sD s) o 1)))) 12 7) (L1 := [some (.inr (.inr o)), some (.inl a0)]) (st1 := []) rfl ?_
    refine X_brq (fun hb => ?_) (fun hb => ?_)
    · skip
      refine X_run 1 (i1 := 13) (L1 := [some (.inr (.inr o)), some (.inl a0)]) (st1 := [.inr (.inl (-1 : Int64))]) rfl ?_
      exact X_lret rfl rfl qL_i
    · have hw := hw.2 hb
      refine X_run 1 (i1 := 8) (L1 := [some (.inr (.inr o)), some (.inl a0)]) (st1 := [.inr (.inr o)]) rfl ?_
      obtain ⟨hc, hw⟩ := hw
      refine X_dR rfl hc rfl ?_
      show X _ _ 9 [some (.inr (.inr o)), some (.inl a0)] [.inr (.inr (gR (sD s) o 1))] (hp s) _
      refine X_run 1 (i1 := 10) (L1 := [some (.inr (.inr o)), some (.inl a0)]) (st1 := [.inl a0, .inr (.inr (gR (sD s) o 1))]) rfl ?_
      obtain ⟨hc, hw⟩ := hw
      obtain ⟨hin, hw⟩ := hw
      refine X_daL rfl hc hin ?_
      show X _ _ 11 [some (.inr (.inr o)), some (.inl a0)] [.inr (.inl (aLF (sD s) (gR (sD s) o 1) (Int32.toNatClampNeg a0)))] (hp s) _
      refine X_run 1 (i1 := 13) (L1 := [some (.inr (.inr o)), some (.inl a0)]) (st1 := [.inr (.inl (aLF (sD s) (gR (sD s) o 1) (Int32.toNatClampNeg a0)))]) rfl ?_
      exact X_lret rfl rfl qL_i
def f_Ro_size (s : St) (o : Option Nat) : Int32 := (Int32.ofNat (aLN (sD s) (gR (sD s) o 1)))
def w_Ro_size (s : St) (o : Option Nat) : Prop := (ob (sD s) o 6 ∧ (isL (sD s) (gR (sD s) o 1) ∧ True))
theorem c_Ro_size {d : Nat} (s : St) (o : Option Nat) (hw : w_Ro_size s o) : X m_Ro_size (d) 0 (entL 1 [.inr (.inr o)]) [] (hp s) (qI (hp s) (f_Ro_size s o)) := by
  unfold f_Ro_size
  unfold w_Ro_size at hw
  refine X_run 1 (i1 := 1) (L1 := [some (.inr (.inr o))]) (st1 := [.inr (.inr o)]) rfl ?_
  obtain ⟨hc, hw⟩ := hw
  refine X_dR rfl hc rfl ?_
  show X _ _ 2 [some (.inr (.inr o))] [.inr (.inr (gR (sD s) o 1))] (hp s) _
  obtain ⟨hc, hw⟩ := hw
  refine X_dlen rfl hc ?_
  show X _ _ 3 [some (.inr (.inr o))] [.inl (Int32.ofNat (aLN (sD s) (gR (sD s) o 1)))] (hp s) _
  exact X_iret rfl rfl qI_i
def f_Ro_narrowed (a0 : Int32) (a1 : Int64) : Int64 := (if a0 = (1 : Int32) then (Int32.toInt64 ((Int32.toInt8 (Int64.toInt32 a1)).toInt32)) else (if a0 = (2 : Int32) then (Int32.toInt64 ((Int32.toUInt32 (Int64.toInt32 a1) % 65536).toInt32)) else (if a0 = (3 : Int32) then (Int32.toInt64 ((Int32.toInt16 (Int64.toInt32 a1)).toInt32)) else (if a0 = (4 : Int32) then (Int32.toInt64 (Int64.toInt32 a1)) else (if a0 = (5 : Int32) then a1 else (if a0 = (6 : Int32) then (Int32.toInt64 (f_Re_plainFloat (Int64.toInt32 a1))) else (if a0 = (7 : Int32) then (f_Re_plain a1) else (if a0 = (8 : Int32) then (a1 &&& (1 : Int64)) else a1))))))))
theorem c_Ro_narrowed {d : Nat} {P : AP} (a0 : Int32) (a1 : Int64) : X m_Ro_narrowed (d + 2) 0 (entL 3 [.inl a0, .inr (.inl a1)]) [] P (qL P (f_Ro_narrowed a0 a1)) := by
  unfold f_Ro_narrowed
  refine X_run 1 (i1 := 1) (L1 := [some (.inl a0), some (.inr (.inl a1)), none]) (st1 := [.inl a0]) rfl ?_
  refine X_itq (fun h => ?_) (fun h1_0 => ?_)
  · refine X_tsk rfl h rfl ?_
    refine X_run 4 (i1 := 6) (L1 := [some (.inl a0), some (.inr (.inl a1)), none]) (st1 := [.inr (.inl (Int32.toInt64 ((Int32.toInt8 (Int64.toInt32 a1)).toInt32)))]) rfl ?_
    exact X_lret rfl rfl ⟨rfl, rfl⟩
  refine X_itq (fun h => ?_) (fun h1_1 => ?_)
  · refine X_tsk rfl h rfl ?_
    refine X_run 4 (i1 := 11) (L1 := [some (.inl a0), some (.inr (.inl a1)), none]) (st1 := [.inr (.inl (Int32.toInt64 ((Int32.toUInt32 (Int64.toInt32 a1) % 65536).toInt32)))]) rfl ?_
    exact X_lret rfl rfl ⟨rfl, rfl⟩
  refine X_itq (fun h => ?_) (fun h1_2 => ?_)
  · refine X_tsk rfl h rfl ?_
    refine X_run 4 (i1 := 16) (L1 := [some (.inl a0), some (.inr (.inl a1)), none]) (st1 := [.inr (.inl (Int32.toInt64 ((Int32.toInt16 (Int64.toInt32 a1)).toInt32)))]) rfl ?_
    exact X_lret rfl rfl ⟨rfl, rfl⟩
  refine X_itq (fun h => ?_) (fun h1_3 => ?_)
  · refine X_tsk rfl h rfl ?_
    refine X_run 3 (i1 := 20) (L1 := [some (.inl a0), some (.inr (.inl a1)), none]) (st1 := [.inr (.inl (Int32.toInt64 (Int64.toInt32 a1)))]) rfl ?_
    exact X_lret rfl rfl ⟨rfl, rfl⟩
  refine X_itq (fun h => ?_) (fun h1_4 => ?_)
  · refine X_tsk rfl h rfl ?_
    refine X_run 1 (i1 := 34) (L1 := [some (.inl a0), some (.inr (.inl a1)), none]) (st1 := [.inr (.inl a1)]) rfl ?_
    exact X_lret rfl rfl ⟨rfl, rfl⟩
  refine X_itq (fun h => ?_) (fun h1_5 => ?_)
  · refine X_tsk rfl h rfl ?_
    refine X_run 2 (i1 := 23) (L1 := [some (.inl a0), some (.inr (.inl a1)), none]) (st1 := [.inl (Int64.toInt32 a1)]) rfl ?_
    refine X_calls m_Re_plainFloat (As := [.inl (Int64.toInt32 a1)]) (st := []) ok_Re_plainFloat rfl rfl rfl (Nat.le_of_ble_eq_true rfl) (Nat.le_of_ble_eq_true rfl) (c_Re_plainFloat (d := d + 1) (Int64.toInt32 a1)) ?_
    rintro _ _ ⟨rfl, rfl⟩
    show X _ _ 24 [some (.inl a0), some (.inr (.inl a1)), none] [.inl (f_Re_plainFloat (Int64.toInt32 a1))] _ _
    refine X_run 1 (i1 := 25) (L1 := [some (.inl a0), some (.inr (.inl a1)), none]) (st1 := [.inr (.inl (Int32.toInt64 (f_Re_plainFloat (Int64.toInt32 a1))))]) rfl ?_
    exact X_lret rfl rfl ⟨rfl, rfl⟩
  refine X_itq (fun h => ?_) (fun h1_6 => ?_)
  · refine X_tsk rfl h rfl ?_
    refine X_run 1 (i1 := 27) (L1 := [some (.inl a0), some (.inr (.inl a1)), none]) (st1 := [.inr (.inl a1)]) rfl ?_
    refine X_calls m_Re_plain (As := [.inr (.inl a1)]) (st := []) ok_Re_plain rfl rfl rfl (Nat.le_of_ble_eq_true rfl) (Nat.le_of_ble_eq_true rfl) (c_Re_plain (d := d) a1) ?_
    rintro _ _ ⟨rfl, rfl⟩
    show X _ _ 28 [some (.inl a0), some (.inr (.inl a1)), none] [.inr (.inl (f_Re_plain a1))] _ _
    exact X_lret rfl rfl ⟨rfl, rfl⟩
  refine X_itq (fun h => ?_) (fun h1_7 => ?_)
  · refine X_tsk rfl h rfl ?_
    refine X_run 3 (i1 := 32) (L1 := [some (.inl a0), some (.inr (.inl a1)), none]) (st1 := [.inr (.inl (a1 &&& (1 : Int64)))]) rfl ?_
    exact X_lret rfl rfl ⟨rfl, rfl⟩
  refine X_tsd rfl ((sw_out (1) 8 (by decide) (by decide) (fun j hj => by
    match j, hj with
    | 0, _ => exact h1_0
    | 1, _ => exact h1_1
    | 2, _ => exact h1_2
    | 3, _ => exact h1_3
    | 4, _ => exact h1_4
    | 5, _ => exact h1_5
    | 6, _ => exact h1_6
    | 7, _ => exact h1_7
    | j + 8, hj => exact absurd hj (by omega))).imp id (fun h => by omega)) ?_
  refine X_run 1 (i1 := 34) (L1 := [some (.inl a0), some (.inr (.inl a1)), none]) (st1 := [.inr (.inl a1)]) rfl ?_
  exact X_lret rfl rfl ⟨rfl, rfl⟩
def f_Ro_put (s : St) (o : Option Nat) (a0 : Int32) (a1 : Int64) : St := (cond (cn1 .lt a0) s (cond (cn2 .ge a0 (Int32.ofNat (aLN (sD s) (gR (sD s) o 1)))) s (pQ s (dL (sD s) (gR (sD s) o 1) (vp_updL (aLF (sD s) (gR (sD s) o 1)) (Int32.toNatClampNeg a0) (f_Ro_narrowed (gI (sD s) o 0) a1))) (sN s) (sU s))))
def w_Ro_put (s : St) (o : Option Nat) (a0 : Int32) (a1 : Int64) : Prop := ((cn1 .lt a0) = true → True) ∧ ((cn1 .lt a0) = false → (ob (sD s) o 6 ∧ (isL (sD s) (gR (sD s) o 1) ∧ ((cn2 .ge a0 (Int32.ofNat (aLN (sD s) (gR (sD s) o 1)))) = true → True) ∧ ((cn2 .ge a0 (Int32.ofNat (aLN (sD s) (gR (sD s) o 1)))) = false → (ob (sD s) o 6 ∧ (ob (sD s) o 6 ∧ (isL (sD s) (gR (sD s) o 1) ∧ (vp_in a0 (aLN (sD s) (gR (sD s) o 1)) ∧ True))))))))
theorem c_Ro_put {d : Nat} (s : St) (o : Option Nat) (a0 : Int32) (a1 : Int64) (hw : w_Ro_put s o a0 a1) : X m_Ro_put (d + 3) 0 (entL 4 [.inr (.inr o), .inl a0, .inr (.inl a1)]) [] (hp s) (qVs (f_Ro_put s o a0 a1)) := by
  unfold f_Ro_put
  unfold w_Ro_put at hw
  refine X_run 2 (i1 := cond (cn1 .lt a0) 15 2) (L1 := [some (.inr (.inr o)), some (.inl a0), some (.inr (.inl a1)), none]) (st1 := []) rfl ?_
  refine X_brq (fun hb => ?_) (fun hb => ?_)
  · skip
    exact X_ret rfl rfl qVs_i
  · have hw := hw.2 hb
    refine X_run 2 (i1 := 4) (L1 := [some (.inr (.inr o)), some (.inl a0), some (.inr (.inl a1)), none]) (st1 := [.inr (.inr o), .inl a0]) rfl ?_
    obtain ⟨hc, hw⟩ := hw
    refine X_dR rfl hc rfl ?_
    show X _ _ 5 [some (.inr (.inr o)), some (.inl a0), some (.inr (.inl a1)), none] [.inr (.inr (gR (sD s) o 1)), .inl a0] (hp s) _
    obtain ⟨hc, hw⟩ := hw
    refine X_dlen rfl hc ?_
    show X _ _ 6 [some (.inr (.inr o)), some (.inl a0), some (.inr (.inl a1)), none] [.inl (Int32.ofNat (aLN (sD s) (gR (sD s) o 1))), .inl a0] (hp s) _
    refine X_run 1 (i1 := cond (cn2 .ge a0 (Int32.ofNat (aLN (sD s) (gR (sD s) o 1)))) 15 7) (L1 := [some (.inr (.inr o)), some (.inl a0), some (.inr (.inl a1)), none]) (st1 := []) rfl ?_
    refine X_brq (fun hb => ?_) (fun hb => ?_)
    · skip
      exact X_ret rfl rfl qVs_i
    · have hw := hw.2 hb
      refine X_run 1 (i1 := 8) (L1 := [some (.inr (.inr o)), some (.inl a0), some (.inr (.inl a1)), none]) (st1 := [.inr (.inr o)]) rfl ?_
      obtain ⟨hc, hw⟩ := hw
      refine X_dR rfl hc rfl ?_
      show X _ _ 9 [some (.inr (.inr o)), some (.inl a0), some (.inr (.inl a1)), none] [.inr (.inr (gR (sD s) o 1))] (hp s) _
      refine X_run 2 (i1 := 11) (L1 := [some (.inr (.inr o)), some (.inl a0), some (.inr (.inl a1)), none]) (st1 := [.inr (.inr o), .inl a0, .inr (.inr (gR (sD s) o 1))]) rfl ?_
      obtain ⟨hc, hw⟩ := hw
      refine X_dI rfl hc rfl ?_
      show X _ _ 12 [some (.inr (.inr o)), some (.inl a0), some (.inr (.inl a1)), none] [.inl (gI (sD s) o 0), .inl a0, .inr (.inr (gR (sD s) o 1))] (hp s) _
      refine X_run 1 (i1 := 13) (L1 := [some (.inr (.inr o)), some (.inl a0), some (.inr (.inl a1)), none]) (st1 := [.inr (.inl a1), .inl (gI (sD s) o 0), .inl a0, .inr (.inr (gR (sD s) o 1))]) rfl ?_
      refine X_calls m_Ro_narrowed (As := [.inl (gI (sD s) o 0), .inr (.inl a1)]) (st := [.inl a0, .inr (.inr (gR (sD s) o 1))]) ok_Ro_narrowed rfl rfl rfl (Nat.le_of_ble_eq_true rfl) (Nat.le_of_ble_eq_true rfl) (c_Ro_narrowed (d := d) (gI (sD s) o 0) a1) ?_
      rintro _ _ ⟨rfl, rfl⟩
      show X _ _ 14 [some (.inr (.inr o)), some (.inl a0), some (.inr (.inl a1)), none] [.inr (.inl (f_Ro_narrowed (gI (sD s) o 0) a1)), .inl a0, .inr (.inr (gR (sD s) o 1))] (hp s) _
      obtain ⟨hc, hw⟩ := hw
      obtain ⟨hin, hw⟩ := hw
      refine X_dsL rfl hc hin ?_
      show X _ _ 15 [some (.inr (.inr o)), some (.inl a0), some (.inr (.inl a1)), none] [] (hp (pQ s (dL (sD s) (gR (sD s) o 1) (vp_updL (aLF (sD s) (gR (sD s) o 1)) (Int32.toNatClampNeg a0) (f_Ro_narrowed (gI (sD s) o 0) a1))) (sN s) (sU s))) _
      exact X_ret rfl rfl qVs_i
def t_Ro_twin_8 (s : St) (v0 : Option Nat) (w0 : Option Nat) : Option Nat × St := (w0, pQ s (dL (sD s) (gR (sD s) w0 1) (va_cpy (aLF (sD s) (gR (sD s) v0 1)) (aLF (sD s) (gR (sD s) w0 1)) (Int32.toNatClampNeg (0 : Int32)) (Int32.toNatClampNeg (0 : Int32)) (Int32.toNatClampNeg (Int32.ofNat (aLN (sD s) (gR (sD s) v0 1)))))) (sN s) (sU s))
def w_Ro_twin_8 (s : St) (v0 : Option Nat) (w0 : Option Nat) : Prop := (ob (sD s) v0 6 ∧ (ob (sD s) w0 6 ∧ (ob (sD s) v0 6 ∧ (isL (sD s) (gR (sD s) v0 1) ∧ (isL (sD s) (gR (sD s) v0 1) ∧ (isL (sD s) (gR (sD s) w0 1) ∧ (cpok (0 : Int32) (0 : Int32) (Int32.ofNat (aLN (sD s) (gR (sD s) v0 1))) (aLN (sD s) (gR (sD s) v0 1)) (aLN (sD s) (gR (sD s) w0 1)) ∧ True)))))))
theorem ct_Ro_twin_8 {d : Nat} (s : St) (v0 : Option Nat) (w0 : Option Nat) (hw : w_Ro_twin_8 s v0 w0) : X m_Ro_twin (d + 3) 8 [some (.inr (.inr v0)), none] [.inr (.inr w0)] (hp s) (qRs (t_Ro_twin_8 s v0 w0)) := by
  unfold t_Ro_twin_8
  unfold w_Ro_twin_8 at hw
  refine X_run 2 (i1 := 10) (L1 := [some (.inr (.inr v0)), some (.inr (.inr w0))]) (st1 := [.inr (.inr v0)]) rfl ?_
  obtain ⟨hc, hw⟩ := hw
  refine X_dR rfl hc rfl ?_
  show X _ _ 11 [some (.inr (.inr v0)), some (.inr (.inr w0))] [.inr (.inr (gR (sD s) v0 1))] (hp s) _
  refine X_run 2 (i1 := 13) (L1 := [some (.inr (.inr v0)), some (.inr (.inr w0))]) (st1 := [.inr (.inr w0), .inl (0 : Int32), .inr (.inr (gR (sD s) v0 1))]) rfl ?_
  obtain ⟨hc, hw⟩ := hw
  refine X_dR rfl hc rfl ?_
  show X _ _ 14 [some (.inr (.inr v0)), some (.inr (.inr w0))] [.inr (.inr (gR (sD s) w0 1)), .inl (0 : Int32), .inr (.inr (gR (sD s) v0 1))] (hp s) _
  refine X_run 2 (i1 := 16) (L1 := [some (.inr (.inr v0)), some (.inr (.inr w0))]) (st1 := [.inr (.inr v0), .inl (0 : Int32), .inr (.inr (gR (sD s) w0 1)), .inl (0 : Int32), .inr (.inr (gR (sD s) v0 1))]) rfl ?_
  obtain ⟨hc, hw⟩ := hw
  refine X_dR rfl hc rfl ?_
  show X _ _ 17 [some (.inr (.inr v0)), some (.inr (.inr w0))] [.inr (.inr (gR (sD s) v0 1)), .inl (0 : Int32), .inr (.inr (gR (sD s) w0 1)), .inl (0 : Int32), .inr (.inr (gR (sD s) v0 1))] (hp s) _
  obtain ⟨hc, hw⟩ := hw
  refine X_dlen rfl hc ?_
  show X _ _ 18 [some (.inr (.inr v0)), some (.inr (.inr w0))] [.inl (Int32.ofNat (aLN (sD s) (gR (sD s) v0 1))), .inl (0 : Int32), .inr (.inr (gR (sD s) w0 1)), .inl (0 : Int32), .inr (.inr (gR (sD s) v0 1))] (hp s) _
  obtain ⟨ha, hw⟩ := hw
  obtain ⟨hb, hw⟩ := hw
  obtain ⟨hc, hw⟩ := hw
  refine X_dcopy rfl (Nat.le_of_ble_eq_true rfl) ha hb hc ?_
  show X _ _ 19 [some (.inr (.inr v0)), some (.inr (.inr w0))] [] (hp (pQ s (dL (sD s) (gR (sD s) w0 1) (va_cpy (aLF (sD s) (gR (sD s) v0 1)) (aLF (sD s) (gR (sD s) w0 1)) (Int32.toNatClampNeg (0 : Int32)) (Int32.toNatClampNeg (0 : Int32)) (Int32.toNatClampNeg (Int32.ofNat (aLN (sD s) (gR (sD s) v0 1)))))) (sN s) (sU s))) _
  refine X_run 1 (i1 := 20) (L1 := [some (.inr (.inr v0)), some (.inr (.inr w0))]) (st1 := [.inr (.inr w0)]) rfl ?_
  exact X_aret rfl rfl qRs_i
def f_Ro_twin (s : St) (o : Option Nat) : Option Nat × St := (t_Ro_twin_8 (f_Ro_init (pQ s (nwO (sD s) (sN s) 6) ((sN s) + 1) ((sU s) + 2)) (some (sN s)) (gI (nwO (sD s) (sN s) 6) o 0) (Int32.ofNat (aLN (nwO (sD s) (sN s) 6) (gR (nwO (sD s) (sN s) 6) o 1)))) o (some (sN s)))
def w_Ro_twin (s : St) (o : Option Nat) : Prop := (rm (sN s) (sU s) 2 ∧ (ob (nwO (sD s) (sN s) 6) o 6 ∧ (ob (nwO (sD s) (sN s) 6) o 6 ∧ (isL (nwO (sD s) (sN s) 6) (gR (nwO (sD s) (sN s) 6) o 1) ∧ (w_Ro_init (pQ s (nwO (sD s) (sN s) 6) ((sN s) + 1) ((sU s) + 2)) (some (sN s)) (gI (nwO (sD s) (sN s) 6) o 0) (Int32.ofNat (aLN (nwO (sD s) (sN s) 6) (gR (nwO (sD s) (sN s) 6) o 1))) ∧ ((oC (nwO (sD s) (sN s) 6) (some (sN s))).isSome = true ∧ (w_Ro_twin_8 (f_Ro_init (pQ s (nwO (sD s) (sN s) 6) ((sN s) + 1) ((sU s) + 2)) (some (sN s)) (gI (nwO (sD s) (sN s) 6) o 0) (Int32.ofNat (aLN (nwO (sD s) (sN s) 6) (gR (nwO (sD s) (sN s) 6) o 1)))) o (some (sN s)))))))))
theorem c_Ro_twin {d : Nat} (s : St) (o : Option Nat) (hw : w_Ro_twin s o) : X m_Ro_twin (d + 3) 0 (entL 2 [.inr (.inr o)]) [] (hp s) (qRs (f_Ro_twin s o)) := by
  unfold f_Ro_twin
  unfold w_Ro_twin at hw
  show X _ _ 0 [some (.inr (.inr o)), none] [] (hp s) _
  obtain ⟨hr, hw⟩ := hw
  refine X_dnew rfl rfl rfl hr ?_
  show X _ _ 1 [some (.inr (.inr o)), none] [.inr (.inr (some (sN s)))] (hp (pQ s (nwO (sD s) (sN s) 6) ((sN s) + 1) ((sU s) + 2))) _
  refine X_run 2 (i1 := 3) (L1 := [some (.inr (.inr o)), none]) (st1 := [.inr (.inr o), .inr (.inr (some (sN s))), .inr (.inr (some (sN s)))]) rfl ?_
  obtain ⟨hc, hw⟩ := hw
  refine X_dI rfl hc rfl ?_
  show X _ _ 4 [some (.inr (.inr o)), none] [.inl (gI (nwO (sD s) (sN s) 6) o 0), .inr (.inr (some (sN s))), .inr (.inr (some (sN s)))] (hp (pQ s (nwO (sD s) (sN s) 6) ((sN s) + 1) ((sU s) + 2))) _
  refine X_run 1 (i1 := 5) (L1 := [some (.inr (.inr o)), none]) (st1 := [.inr (.inr o), .inl (gI (nwO (sD s) (sN s) 6) o 0), .inr (.inr (some (sN s))), .inr (.inr (some (sN s)))]) rfl ?_
  obtain ⟨hc, hw⟩ := hw
  refine X_dR rfl hc rfl ?_
  show X _ _ 6 [some (.inr (.inr o)), none] [.inr (.inr (gR (nwO (sD s) (sN s) 6) o 1)), .inl (gI (nwO (sD s) (sN s) 6) o 0), .inr (.inr (some (sN s))), .inr (.inr (some (sN s)))] (hp (pQ s (nwO (sD s) (sN s) 6) ((sN s) + 1) ((sU s) + 2))) _
  obtain ⟨hc, hw⟩ := hw
  refine X_dlen rfl hc ?_
  show X _ _ 7 [some (.inr (.inr o)), none] [.inl (Int32.ofNat (aLN (nwO (sD s) (sN s) 6) (gR (nwO (sD s) (sN s) 6) o 1))), .inl (gI (nwO (sD s) (sN s) 6) o 0), .inr (.inr (some (sN s))), .inr (.inr (some (sN s)))] (hp (pQ s (nwO (sD s) (sN s) 6) ((sN s) + 1) ((sU s) + 2))) _
  obtain ⟨hc, hw⟩ := hw
  obtain ⟨hr, hw⟩ := hw
  refine X_dcalln m_Ro_init (As := [.inl (gI (nwO (sD s) (sN s) 6) o 0), .inl (Int32.ofNat (aLN (nwO (sD s) (sN s) 6) (gR (nwO (sD s) (sN s) 6) o 1)))]) (st := [.inr (.inr (some (sN s)))]) ok_Ro_init rfl rfl rfl rfl hr (Nat.le_of_ble_eq_true rfl) (Nat.le_of_ble_eq_true rfl) (c_Ro_init (d := d) (pQ s (nwO (sD s) (sN s) 6) ((sN s) + 1) ((sU s) + 2)) (some (sN s)) (gI (nwO (sD s) (sN s) 6) o 0) (Int32.ofNat (aLN (nwO (sD s) (sN s) 6) (gR (nwO (sD s) (sN s) 6) o 1))) hc) ?_
  rintro _ _ ⟨rfl, rfl⟩
  show X _ _ 8 [some (.inr (.inr o)), none] [.inr (.inr (some (sN s)))] (hp (f_Ro_init (pQ s (nwO (sD s) (sN s) 6) ((sN s) + 1) ((sU s) + 2)) (some (sN s)) (gI (nwO (sD s) (sN s) 6) o 0) (Int32.ofNat (aLN (nwO (sD s) (sN s) 6) (gR (nwO (sD s) (sN s) 6) o 1))))) _
  show X _ _ 8 [some (.inr (.inr o)), none] [.inr (.inr (some (sN s)))] (hp (f_Ro_init (pQ s (nwO (sD s) (sN s) 6) ((sN s) + 1) ((sU s) + 2)) (some (sN s)) (gI (nwO (sD s) (sN s) 6) o 0) (Int32.ofNat (aLN (nwO (sD s) (sN s) 6) (gR (nwO (sD s) (sN s) 6) o 1))))) _
  exact ct_Ro_twin_8 (f_Ro_init (pQ s (nwO (sD s) (sN s) 6) ((sN s) + 1) ((sU s) + 2)) (some (sN s)) (gI (nwO (sD s) (sN s) 6) o 0) (Int32.ofNat (aLN (nwO (sD s) (sN s) 6) (gR (nwO (sD s) (sN s) 6) o 1)))) o (some (sN s)) hw
def f_Ro_putBack (s : St) (o : Option Nat) (a0 : Option Nat) : St := (cond (cn1 .eq (b2i (isc (sD s) a0 1))) s (cond (cn2 .ne (Int32.ofNat (aLN (sD s) (gR (sD s) a0 1))) (Int32.ofNat (aLN (sD s) (gR (sD s) o 1)))) s (pQ s (dL (sD s) (gR (sD s) o 1) (va_cpy (aLF (sD s) (gR (sD s) a0 1)) (aLF (sD s) (gR (sD s) o 1)) (Int32.toNatClampNeg (0 : Int32)) (Int32.toNatClampNeg (0 : Int32)) (Int32.toNatClampNeg (Int32.ofNat (aLN (sD s) (gR (sD s) o 1)))))) (sN s) (sU s))))
def w_Ro_putBack (s : St) (o : Option Nat) (a0 : Option Nat) : Prop := (tho (sD s) a0 ∧ ((cn1 .eq (b2i (isc (sD s) a0 1))) = true → True) ∧ ((cn1 .eq (b2i (isc (sD s) a0 1))) = false → (cst (sD s) a0 1 ∧ (ob (sD s) a0 6 ∧ (isL (sD s) (gR (sD s) a0 1) ∧ (ob (sD s) o 6 ∧ (isL (sD s) (gR (sD s) o 1) ∧ ((cn2 .ne (Int32.ofNat (aLN (sD s) (gR (sD s) a0 1))) (Int32.ofNat (aLN (sD s) (gR (sD s) o 1)))) = true → True) ∧ ((cn2 .ne (Int32.ofNat (aLN (sD s) (gR (sD s) a0 1))) (Int32.ofNat (aLN (sD s) (gR (sD s) o 1)))) = false → (ob (sD s) a0 6 ∧ (ob (sD s) o 6 ∧ (ob (sD s) o 6 ∧ (isL (sD s) (gR (sD s) o 1) ∧ (isL (sD s) (gR (sD s) a0 1) ∧ (isL (sD s) (gR (sD s) o 1) ∧ (cpok (0 : Int32) (0 : Int32) (Int32.ofNat (aLN (sD s) (gR (sD s) o 1))) (aLN (sD s) (gR (sD s) a0 1)) (aLN (sD s) (gR (sD s) o 1)) ∧ True)))))))))))))))
theorem c_Ro_putBack {d : Nat} (s : St) (o : Option Nat) (a0 : Option Nat) (hw : w_Ro_putBack s o a0) : X m_Ro_putBack (d + 1) 0 (entL 3 [.inr (.inr o), .inr (.inr a0)]) [] (hp s) (qVs (f_Ro_putBack s o a0)) := by
  unfold f_Ro_putBack
  unfold w_Ro_putBack at hw
  refine X_run 1 (i1 := 1) (L1 := [some (.inr (.inr o)), some (.inr (.inr a0)), none]) (st1 := [.inr (.inr a0)]) rfl ?_
  obtain ⟨hc, hw⟩ := hw
  refine X_dinst rfl (by decide) hc ?_
  show X _ _ 2 [some (.inr (.inr o)), some (.inr (.inr a0)), none] [.inl (b2i (isc (sD s) a0 1))] (hp s) _
  refine X_run 1 (i1 := cond (cn1 .eq (b2i (isc (sD s) a0 1))) 23 3) (L1 := [some (.inr (.inr o)), some (.inr (.inr a0)), none]) (st1 := []) rfl ?_
  refine X_brq (fun hb => ?_) (fun hb => ?_)
  · skip
    exact X_ret rfl rfl qVs_i
  · have hw := hw.2 hb
    refine X_run 1 (i1 := 4) (L1 := [some (.inr (.inr o)), some (.inr (.inr a0)), none]) (st1 := [.inr (.inr a0)]) rfl ?_
    obtain ⟨hc, hw⟩ := hw
    refine X_dcast rfl hc ?_
    refine X_run 2 (i1 := 7) (L1 := [some (.inr (.inr o)), some (.inr (.inr a0)), some (.inr (.inr a0))]) (st1 := [.inr (.inr a0)]) rfl ?_
    obtain ⟨hc, hw⟩ := hw
    refine X_dR rfl hc rfl ?_
    show X _ _ 8 [some (.inr (.inr o)), some (.inr (.inr a0)), some (.inr (.inr a0))] [.inr (.inr (gR (sD s) a0 1))] (hp s) _
    obtain ⟨hc, hw⟩ := hw
    refine X_dlen rfl hc ?_
    show X _ _ 9 [some (.inr (.inr o)), some (.inr (.inr a0)), some (.inr (.inr a0))] [.inl (Int32.ofNat (aLN (sD s) (gR (sD s) a0 1)))] (hp s) _
    refine X_run 1 (i1 := 10) (L1 := [some (.inr (.inr o)), some (.inr (.inr a0)), some (.inr (.inr a0))]) (st1 := [.inr (.inr o), .inl (Int32.ofNat (aLN (sD s) (gR (sD s) a0 1)))]) rfl ?_
    obtain ⟨hc, hw⟩ := hw
    refine X_dR rfl hc rfl ?_
    show X _ _ 11 [some (.inr (.inr o)), some (.inr (.inr a0)), some (.inr (.inr a0))] [.inr (.inr (gR (sD s) o 1)), .inl (Int32.ofNat (aLN (sD s) (gR (sD s) a0 1)))] (hp s) _
    obtain ⟨hc, hw⟩ := hw
    refine X_dlen rfl hc ?_
    show X _ _ 12 [some (.inr (.inr o)), some (.inr (.inr a0)), some (.inr (.inr a0))] [.inl (Int32.ofNat (aLN (sD s) (gR (sD s) o 1))), .inl (Int32.ofNat (aLN (sD s) (gR (sD s) a0 1)))] (hp s) _
    refine X_run 1 (i1 := cond (cn2 .ne (Int32.ofNat (aLN (sD s) (gR (sD s) a0 1))) (Int32.ofNat (aLN (sD s) (gR (sD s) o 1)))) 23 13) (L1 := [some (.inr (.inr o)), some (.inr (.inr a0)), some (.inr (.inr a0))]) (st1 := []) rfl ?_
    refine X_brq (fun hb => ?_) (fun hb => ?_)
    · skip
      exact X_ret rfl rfl qVs_i
    · have hw := hw.2 hb
      refine X_run 1 (i1 := 14) (L1 := [some (.inr (.inr o)), some (.inr (.inr a0)), some (.inr (.inr a0))]) (st1 := [.inr (.inr a0)]) rfl ?_
      obtain ⟨hc, hw⟩ := hw
      refine X_dR rfl hc rfl ?_
      show X _ _ 15 [some (.inr (.inr o)), some (.inr (.inr a0)), some (.inr (.inr a0))] [.inr (.inr (gR (sD s) a0 1))] (hp s) _
      refine X_run 2 (i1 := 17) (L1 := [some (.inr (.inr o)), some (.inr (.inr a0)), some (.inr (.inr a0))]) (st1 := [.inr (.inr o), .inl (0 : Int32), .inr (.inr (gR (sD s) a0 1))]) rfl ?_
      obtain ⟨hc, hw⟩ := hw
      refine X_dR rfl hc rfl ?_
      show X _ _ 18 [some (.inr (.inr o)), some (.inr (.inr a0)), some (.inr (.inr a0))] [.inr (.inr (gR (sD s) o 1)), .inl (0 : Int32), .inr (.inr (gR (sD s) a0 1))] (hp s) _
      refine X_run 2 (i1 := 20) (L1 := [some (.inr (.inr o)), some (.inr (.inr a0)), some (.inr (.inr a0))]) (st1 := [.inr (.inr o), .inl (0 : Int32), .inr (.inr (gR (sD s) o 1)), .inl (0 : Int32), .inr (.inr (gR (sD s) a0 1))]) rfl ?_
      obtain ⟨hc, hw⟩ := hw
      refine X_dR rfl hc rfl ?_
      show X _ _ 21 [some (.inr (.inr o)), some (.inr (.inr a0)), some (.inr (.inr a0))] [.inr (.inr (gR (sD s) o 1)), .inl (0 : Int32), .inr (.inr (gR (sD s) o 1)), .inl (0 : Int32), .inr (.inr (gR (sD s) a0 1))] (hp s) _
      obtain ⟨hc, hw⟩ := hw
      refine X_dlen rfl hc ?_
      show X _ _ 22 [some (.inr (.inr o)), some (.inr (.inr a0)), some (.inr (.inr a0))] [.inl (Int32.ofNat (aLN (sD s) (gR (sD s) o 1))), .inl (0 : Int32), .inr (.inr (gR (sD s) o 1)), .inl (0 : Int32), .inr (.inr (gR (sD s) a0 1))] (hp s) _
      obtain ⟨ha, hw⟩ := hw
      obtain ⟨hb, hw⟩ := hw
      obtain ⟨hc, hw⟩ := hw
      refine X_dcopy rfl (Nat.le_of_ble_eq_true rfl) ha hb hc ?_
      show X _ _ 23 [some (.inr (.inr o)), some (.inr (.inr a0)), some (.inr (.inr a0))] [] (hp (pQ s (dL (sD s) (gR (sD s) o 1) (va_cpy (aLF (sD s) (gR (sD s) a0 1)) (aLF (sD s) (gR (sD s) o 1)) (Int32.toNatClampNeg (0 : Int32)) (Int32.toNatClampNeg (0 : Int32)) (Int32.toNatClampNeg (Int32.ofNat (aLN (sD s) (gR (sD s) o 1)))))) (sN s) (sU s))) _
      exact X_ret rfl rfl qVs_i
def t_Sh_init_2 (s : St) (v0 : Option Nat) (v1 : Int32) (v2 : Int32) : St := (pQ s (dF (nwR (dF (sD s) v0 0 (.inl v1)) (sN s) v2) v0 1 (.inr (.inr (some (sN s))))) ((sN s) + 1) ((sU s) + Int32.toNatClampNeg v2))
def w_Sh_init_2 (s : St) (v0 : Option Nat) (v1 : Int32) (v2 : Int32) : Prop := (ob (sD s) v0 7 ∧ (¬ v2 < 0 ∧ (rm (sN s) (sU s) (Int32.toNatClampNeg v2) ∧ (ob (nwR (dF (sD s) v0 0 (.inl v1)) (sN s) v2) v0 7 ∧ True))))
theorem ct_Sh_init_2 {d : Nat} (s : St) (v0 : Option Nat) (v1 : Int32) (v2 : Int32) (hw : w_Sh_init_2 s v0 v1 v2) : X m_Sh_init (d + 2) 2 [some (.inr (.inr v0)), some (.inl v1), some (.inl v2)] [] (hp s) (qVs (t_Sh_init_2 s v0 v1 v2)) := by
  unfold t_Sh_init_2
  unfold w_Sh_init_2 at hw
  refine X_run 2 (i1 := 4) (L1 := [some (.inr (.inr v0)), some (.inl v1), some (.inl v2)]) (st1 := [.inl v1, .inr (.inr v0)]) rfl ?_
  obtain ⟨hc, hw⟩ := hw
  refine X_dP rfl hc rfl ?_
  show X _ _ 5 [some (.inr (.inr v0)), some (.inl v1), some (.inl v2)] [] (hp (pQ s (dF (sD s) v0 0 (.inl v1)) (sN s) (sU s))) _
  refine X_run 2 (i1 := 7) (L1 := [some (.inr (.inr v0)), some (.inl v1), some (.inl v2)]) (st1 := [.inl v2, .inr (.inr v0)]) rfl ?_
  obtain ⟨hz, hw⟩ := hw
  obtain ⟨hr, hw⟩ := hw
  refine X_dnr rfl hz hr ?_
  show X _ _ 8 [some (.inr (.inr v0)), some (.inl v1), some (.inl v2)] [.inr (.inr (some (sN s))), .inr (.inr v0)] (hp (pQ s (nwR (dF (sD s) v0 0 (.inl v1)) (sN s) v2) ((sN s) + 1) ((sU s) + Int32.toNatClampNeg v2))) _
  obtain ⟨hc, hw⟩ := hw
  refine X_dP rfl hc rfl ?_
  show X _ _ 9 [some (.inr (.inr v0)), some (.inl v1), some (.inl v2)] [] (hp (pQ s (dF (nwR (dF (sD s) v0 0 (.inl v1)) (sN s) v2) v0 1 (.inr (.inr (some (sN s))))) ((sN s) + 1) ((sU s) + Int32.toNatClampNeg v2))) _
  exact X_ret rfl rfl qVs_i
def f_Sh_init (s : St) (o : Option Nat) (a0 : Int32) (a1 : Int32) : St := (t_Sh_init_2 (f_Th_init s o) o a0 a1)
def w_Sh_init (s : St) (o : Option Nat) (a0 : Int32) (a1 : Int32) : Prop := (w_Th_init s o ∧ ((oC (sD s) o).isSome = true ∧ (w_Sh_init_2 (f_Th_init s o) o a0 a1)))
theorem c_Sh_init {d : Nat} (s : St) (o : Option Nat) (a0 : Int32) (a1 : Int32) (hw : w_Sh_init s o a0 a1) : X m_Sh_init (d + 2) 0 (entL 3 [.inr (.inr o), .inl a0, .inl a1]) [] (hp s) (qVs (f_Sh_init s o a0 a1)) := by
  unfold f_Sh_init
  unfold w_Sh_init at hw
  refine X_run 1 (i1 := 1) (L1 := [some (.inr (.inr o)), some (.inl a0), some (.inl a1)]) (st1 := [.inr (.inr o)]) rfl ?_
  obtain ⟨hc, hw⟩ := hw
  obtain ⟨hr, hw⟩ := hw
  refine X_dcalln m_Th_init (As := []) (st := []) ok_Th_init rfl rfl rfl rfl hr (Nat.le_of_ble_eq_true rfl) (Nat.le_of_ble_eq_true rfl) (c_Th_init (d := d) s o hc) ?_
  rintro _ _ ⟨rfl, rfl⟩
  show X _ _ 2 [some (.inr (.inr o)), some (.inl a0), some (.inl a1)] [] (hp (f_Th_init s o)) _
  show X _ _ 2 [some (.inr (.inr o)), some (.inl a0), some (.inl a1)] [] (hp (f_Th_init s o)) _
  exact ct_Sh_init_2 (f_Th_init s o) o a0 a1 hw
def f_Sh_kind (s : St) (o : Option Nat) : Int32 := (cond (cn2 .ne (gI (sD s) o 0) (-1 : Int32)) (10 : Int32) (9 : Int32))
def w_Sh_kind (s : St) (o : Option Nat) : Prop := (ob (sD s) o 7 ∧ True)
theorem c_Sh_kind {d : Nat} (s : St) (o : Option Nat) (hw : w_Sh_kind s o) : X m_Sh_kind (d) 0 (entL 1 [.inr (.inr o)]) [] (hp s) (qI (hp s) (f_Sh_kind s o)) := by
  unfold f_Sh_kind
  unfold w_Sh_kind at hw
  refine X_run 1 (i1 := 1) (L1 := [some (.inr (.inr o))]) (st1 := [.inr (.inr o)]) rfl ?_
  obtain ⟨hc, hw⟩ := hw
  refine X_dI rfl hc rfl ?_
  show X _ _ 2 [some (.inr (.inr o))] [.inl (gI (sD s) o 0)] (hp s) _
  refine X_run 2 (i1 := cond (cn2 .ne (gI (sD s) o 0) (-1 : Int32)) 6 4) (L1 := [some (.inr (.inr o))]) (st1 := []) rfl ?_
  refine X_brq (fun hb => ?_) (fun hb => ?_)
  · skip
    refine X_run 1 (i1 := 7) (L1 := [some (.inr (.inr o))]) (st1 := [.inl (10 : Int32)]) rfl ?_
    exact X_iret rfl rfl qI_i
  · skip
    refine X_run 2 (i1 := 7) (L1 := [some (.inr (.inr o))]) (st1 := [.inl (9 : Int32)]) rfl ?_
    exact X_iret rfl rfl qI_i
def f_Sh_tellable (s : St) (o : Option Nat) : Int32 := (Int32.ofNat (aRN (sD s) (gR (sD s) o 1)))
def w_Sh_tellable (s : St) (o : Option Nat) : Prop := (ob (sD s) o 7 ∧ (isR (sD s) (gR (sD s) o 1) ∧ True))
theorem c_Sh_tellable {d : Nat} (s : St) (o : Option Nat) (hw : w_Sh_tellable s o) : X m_Sh_tellable (d) 0 (entL 1 [.inr (.inr o)]) [] (hp s) (qI (hp s) (f_Sh_tellable s o)) := by
  unfold f_Sh_tellable
  unfold w_Sh_tellable at hw
  refine X_run 1 (i1 := 1) (L1 := [some (.inr (.inr o))]) (st1 := [.inr (.inr o)]) rfl ?_
  obtain ⟨hc, hw⟩ := hw
  refine X_dR rfl hc rfl ?_
  show X _ _ 2 [some (.inr (.inr o))] [.inr (.inr (gR (sD s) o 1))] (hp s) _
  obtain ⟨hc, hw⟩ := hw
  refine X_drlen rfl hc ?_
  show X _ _ 3 [some (.inr (.inr o))] [.inl (Int32.ofNat (aRN (sD s) (gR (sD s) o 1)))] (hp s) _
  exact X_iret rfl rfl qI_i
def f_Sh_size (s : St) (o : Option Nat) : Int32 := (Int32.ofNat (aRN (sD s) (gR (sD s) o 1)))
def w_Sh_size (s : St) (o : Option Nat) : Prop := (ob (sD s) o 7 ∧ (isR (sD s) (gR (sD s) o 1) ∧ True))
theorem c_Sh_size {d : Nat} (s : St) (o : Option Nat) (hw : w_Sh_size s o) : X m_Sh_size (d) 0 (entL 1 [.inr (.inr o)]) [] (hp s) (qI (hp s) (f_Sh_size s o)) := by
  unfold f_Sh_size
  unfold w_Sh_size at hw
  refine X_run 1 (i1 := 1) (L1 := [some (.inr (.inr o))]) (st1 := [.inr (.inr o)]) rfl ?_
  obtain ⟨hc, hw⟩ := hw
  refine X_dR rfl hc rfl ?_
  show X _ _ 2 [some (.inr (.inr o))] [.inr (.inr (gR (sD s) o 1))] (hp s) _
  obtain ⟨hc, hw⟩ := hw
  refine X_drlen rfl hc ?_
  show X _ _ 3 [some (.inr (.inr o))] [.inl (Int32.ofNat (aRN (sD s) (gR (sD s) o 1)))] (hp s) _
  exact X_iret rfl rfl qI_i
def u_kind (s : St) (o : Option Nat) : Int32 := if oC (sD s) o = some 4 then f_Pa_kind s o else if oC (sD s) o = some 6 then f_Ro_kind s o else if oC (sD s) o = some 7 then f_Sh_kind s o else f_Tr_kind s o
def wu_kind (s : St) (o : Option Nat) : Prop := (oC (sD s) o = some 4 ∧ w_Pa_kind s o) ∨ (oC (sD s) o = some 6 ∧ w_Ro_kind s o) ∨ (oC (sD s) o = some 7 ∧ w_Sh_kind s o) ∨ (oC (sD s) o = some 8 ∧ w_Tr_kind s o)
theorem X_ukind {m : MI} {d i : Nat} {L : AL} {st : List AV} {Q : Option AV → AP → Prop} {pc : Nat} {ps : List Nat} {s : St} {o : Option Nat} (hq : (mi_cd m)[i]? = some (pc, .invokeinterface 0 0, ps)) (hst : (st.map av_c).sum ≤ 8) (hw : wu_kind s o) (k : X m (d + 1) (i + 1) L (.inl (u_kind s o) :: st) (hp s) Q) : X m (d + 1) i L (.inr (.inr o) :: st) (hp s) Q := by
  rcases hw with ⟨h, hw⟩ | ⟨h, hw⟩ | ⟨h, hw⟩ | ⟨h, hw⟩
  · have e : u_kind s o = f_Pa_kind s o := by unfold u_kind; rw [if_pos h]
    rw [e] at k
    refine X_dcallu m_Pa_kind (As := []) (st := st) (e5 := (634, 635)) ok_Pa_kind hq (by decide) rfl h (Nat.le_of_ble_eq_true rfl) hst (c_Pa_kind (d := d) s o hw) ?_
    rintro _ _ ⟨rfl, rfl⟩
    exact k
  · have e : u_kind s o = f_Ro_kind s o := by unfold u_kind; rw [if_neg (by rw [h]; decide), if_pos h]
    rw [e] at k
    refine X_dcallu m_Ro_kind (As := []) (st := st) (e5 := (637, 638)) ok_Ro_kind hq (by decide) rfl h (Nat.le_of_ble_eq_true rfl) hst (c_Ro_kind (d := d) s o hw) ?_
    rintro _ _ ⟨rfl, rfl⟩
    exact k
  · have e : u_kind s o = f_Sh_kind s o := by unfold u_kind; rw [if_neg (by rw [h]; decide), if_neg (by rw [h]; decide), if_pos h]
    rw [e] at k
    refine X_dcallu m_Sh_kind (As := []) (st := st) (e5 := (640, 641)) ok_Sh_kind hq (by decide) rfl h (Nat.le_of_ble_eq_true rfl) hst (c_Sh_kind (d := d) s o hw) ?_
    rintro _ _ ⟨rfl, rfl⟩
    exact k
  · have e : u_kind s o = f_Tr_kind s o := by unfold u_kind; rw [if_neg (by rw [h]; decide), if_neg (by rw [h]; decide), if_neg (by rw [h]; decide)]
    rw [e] at k
    refine X_dcallu m_Tr_kind (As := []) (st := st) (e5 := (643, 644)) ok_Tr_kind hq (by decide) rfl h (Nat.le_of_ble_eq_true rfl) hst (c_Tr_kind (d := d) s o hw) ?_
    rintro _ _ ⟨rfl, rfl⟩
    exact k
def u_tellable (s : St) (o : Option Nat) : Int32 := if oC (sD s) o = some 4 then f_Pa_tellable s o else if oC (sD s) o = some 6 then f_Ro_tellable s o else if oC (sD s) o = some 7 then f_Sh_tellable s o else f_Tr_tellable s o
def wu_tellable (s : St) (o : Option Nat) : Prop := (oC (sD s) o = some 4 ∧ w_Pa_tellable s o) ∨ (oC (sD s) o = some 6 ∧ w_Ro_tellable s o) ∨ (oC (sD s) o = some 7 ∧ w_Sh_tellable s o) ∨ (oC (sD s) o = some 8 ∧ w_Tr_tellable s o)
theorem X_utellable {m : MI} {d i : Nat} {L : AL} {st : List AV} {Q : Option AV → AP → Prop} {pc : Nat} {ps : List Nat} {s : St} {o : Option Nat} (hq : (mi_cd m)[i]? = some (pc, .invokeinterface 1 0, ps)) (hst : (st.map av_c).sum ≤ 8) (hw : wu_tellable s o) (k : X m (d + 3) (i + 1) L (.inl (u_tellable s o) :: st) (hp s) Q) : X m (d + 3) i L (.inr (.inr o) :: st) (hp s) Q := by
  rcases hw with ⟨h, hw⟩ | ⟨h, hw⟩ | ⟨h, hw⟩ | ⟨h, hw⟩
  · have e : u_tellable s o = f_Pa_tellable s o := by unfold u_tellable; rw [if_pos h]
    rw [e] at k
    refine X_dcallu m_Pa_tellable (As := []) (st := st) (e5 := (1291, 1292)) ok_Pa_tellable hq (by decide) rfl h (Nat.le_of_ble_eq_true rfl) hst (c_Pa_tellable (d := d) s o hw) ?_
    rintro _ _ ⟨rfl, rfl⟩
    exact k
  · have e : u_tellable s o = f_Ro_tellable s o := by unfold u_tellable; rw [if_neg (by rw [h]; decide), if_pos h]
    rw [e] at k
    refine X_dcallu m_Ro_tellable (As := []) (st := st) (e5 := (1294, 1295)) ok_Ro_tellable hq (by decide) rfl h (Nat.le_of_ble_eq_true rfl) hst (c_Ro_tellable (d := d + 2) s o hw) ?_
    rintro _ _ ⟨rfl, rfl⟩
    exact k
  · have e : u_tellable s o = f_Sh_tellable s o := by unfold u_tellable; rw [if_neg (by rw [h]; decide), if_neg (by rw [h]; decide), if_pos h]
    rw [e] at k
    refine X_dcallu m_Sh_tellable (As := []) (st := st) (e5 := (1297, 1298)) ok_Sh_tellable hq (by decide) rfl h (Nat.le_of_ble_eq_true rfl) hst (c_Sh_tellable (d := d + 2) s o hw) ?_
    rintro _ _ ⟨rfl, rfl⟩
    exact k
  · have e : u_tellable s o = f_Tr_tellable s o := by unfold u_tellable; rw [if_neg (by rw [h]; decide), if_neg (by rw [h]; decide), if_neg (by rw [h]; decide)]
    rw [e] at k
    refine X_dcallu m_Tr_tellable (As := []) (st := st) (e5 := (1300, 1301)) ok_Tr_tellable hq (by decide) rfl h (Nat.le_of_ble_eq_true rfl) hst (c_Tr_tellable (d := d + 2) s o hw) ?_
    rintro _ _ ⟨rfl, rfl⟩
    exact k
def u_size (s : St) (o : Option Nat) : Int32 := if oC (sD s) o = some 4 then f_Th_size s o else if oC (sD s) o = some 6 then f_Ro_size s o else if oC (sD s) o = some 7 then f_Sh_size s o else f_Th_size s o
def wu_size (s : St) (o : Option Nat) : Prop := (oC (sD s) o = some 4 ∧ w_Th_size s o) ∨ (oC (sD s) o = some 6 ∧ w_Ro_size s o) ∨ (oC (sD s) o = some 7 ∧ w_Sh_size s o) ∨ (oC (sD s) o = some 8 ∧ w_Th_size s o)
theorem X_usize {m : MI} {d i : Nat} {L : AL} {st : List AV} {Q : Option AV → AP → Prop} {pc : Nat} {ps : List Nat} {s : St} {o : Option Nat} (hq : (mi_cd m)[i]? = some (pc, .invokeinterface 3 0, ps)) (hst : (st.map av_c).sum ≤ 8) (hw : wu_size s o) (k : X m (d + 1) (i + 1) L (.inl (u_size s o) :: st) (hp s) Q) : X m (d + 1) i L (.inr (.inr o) :: st) (hp s) Q := by
  rcases hw with ⟨h, hw⟩ | ⟨h, hw⟩ | ⟨h, hw⟩ | ⟨h, hw⟩
  · have e : u_size s o = f_Th_size s o := by unfold u_size; rw [if_pos h]
    rw [e] at k
    refine X_dcallu m_Th_size (As := []) (st := st) (e5 := (836, 834)) ok_Th_size hq (by decide) rfl h (Nat.le_of_ble_eq_true rfl) hst (c_Th_size (d := d) s o hw) ?_
    rintro _ _ ⟨rfl, rfl⟩
    exact k
  · have e : u_size s o = f_Ro_size s o := by unfold u_size; rw [if_neg (by rw [h]; decide), if_pos h]
    rw [e] at k
    refine X_dcallu m_Ro_size (As := []) (st := st) (e5 := (837, 838)) ok_Ro_size hq (by decide) rfl h (Nat.le_of_ble_eq_true rfl) hst (c_Ro_size (d := d) s o hw) ?_
    rintro _ _ ⟨rfl, rfl⟩
    exact k
  · have e : u_size s o = f_Sh_size s o := by unfold u_size; rw [if_neg (by rw [h]; decide), if_neg (by rw [h]; decide), if_pos h]
    rw [e] at k
    refine X_dcallu m_Sh_size (As := []) (st := st) (e5 := (840, 841)) ok_Sh_size hq (by decide) rfl h (Nat.le_of_ble_eq_true rfl) hst (c_Sh_size (d := d) s o hw) ?_
    rintro _ _ ⟨rfl, rfl⟩
    exact k
  · have e : u_size s o = f_Th_size s o := by unfold u_size; rw [if_neg (by rw [h]; decide), if_neg (by rw [h]; decide), if_neg (by rw [h]; decide)]
    rw [e] at k
    refine X_dcallu m_Th_size (As := []) (st := st) (e5 := (843, 834)) ok_Th_size hq (by decide) rfl h (Nat.le_of_ble_eq_true rfl) hst (c_Th_size (d := d) s o hw) ?_
    rintro _ _ ⟨rfl, rfl⟩
    exact k
def t_Sh_told_13 (s : St) (w0 : Option Nat) : Int64 := (cond (cn1 .eq (b2i (isc (sD s) w0 0))) (cond (Option.isNone w0) (-1 : Int64) (Int32.toInt64 (u_size s w0))) (Int32.toInt64 (gI (sD s) w0 0)))
def w_Sh_told_13 (s : St) (w0 : Option Nat) : Prop := (tho (sD s) w0 ∧ ((cn1 .eq (b2i (isc (sD s) w0 0))) = true → ((Option.isNone w0) = true → True) ∧ ((Option.isNone w0) = false → (wu_size s w0 ∧ True))) ∧ ((cn1 .eq (b2i (isc (sD s) w0 0))) = false → (cst (sD s) w0 0 ∧ (ob (sD s) w0 4 ∧ True))))
theorem ct_Sh_told_13 {d : Nat} (s : St) (w0 : Option Nat) (hw : w_Sh_told_13 s w0) : X m_Sh_told (d + 1) 13 [none, none, none, none] [.inr (.inr w0)] (hp s) (qL (hp s) (t_Sh_told_13 s w0)) := by
  unfold t_Sh_told_13
  unfold w_Sh_told_13 at hw
  refine X_run 2 (i1 := 15) (L1 := [none, none, some (.inr (.inr w0)), none]) (st1 := [.inr (.inr w0)]) rfl ?_
  obtain ⟨hc, hw⟩ := hw
  refine X_dinst rfl (by decide) hc ?_
  show X _ _ 16 [none, none, some (.inr (.inr w0)), none] [.inl (b2i (isc (sD s) w0 0))] (hp s) _
  refine X_run 1 (i1 := cond (cn1 .eq (b2i (isc (sD s) w0 0))) 24 17) (L1 := [none, none, some (.inr (.inr w0)), none]) (st1 := []) rfl ?_
  refine X_brq (fun hb => ?_) (fun hb => ?_)
  · have hw := hw.1 hb
    refine X_run 2 (i1 := cond (Option.isNone w0) 26 28) (L1 := [none, none, some (.inr (.inr w0)), none]) (st1 := []) rfl ?_
    refine X_brq (fun hb => ?_) (fun hb => ?_)
    · skip
      refine X_run 2 (i1 := 31) (L1 := [none, none, some (.inr (.inr w0)), none]) (st1 := [.inr (.inl (-1 : Int64))]) rfl ?_
      exact X_lret rfl rfl qL_i
    · have hw := hw.2 hb
      refine X_run 1 (i1 := 29) (L1 := [none, none, some (.inr (.inr w0)), none]) (st1 := [.inr (.inr w0)]) rfl ?_
      obtain ⟨hc, hw⟩ := hw
      refine X_usize (d := d) rfl (Nat.le_of_ble_eq_true rfl) hc ?_
      show X _ _ 30 [none, none, some (.inr (.inr w0)), none] [.inl (u_size s w0)] (hp s) _
      refine X_run 1 (i1 := 31) (L1 := [none, none, some (.inr (.inr w0)), none]) (st1 := [.inr (.inl (Int32.toInt64 (u_size s w0)))]) rfl ?_
      exact X_lret rfl rfl qL_i
  · have hw := hw.2 hb
    refine X_run 1 (i1 := 18) (L1 := [none, none, some (.inr (.inr w0)), none]) (st1 := [.inr (.inr w0)]) rfl ?_
    obtain ⟨hc, hw⟩ := hw
    refine X_dcast rfl hc ?_
    refine X_run 2 (i1 := 21) (L1 := [none, none, some (.inr (.inr w0)), some (.inr (.inr w0))]) (st1 := [.inr (.inr w0)]) rfl ?_
    obtain ⟨hc, hw⟩ := hw
    refine X_dI rfl hc rfl ?_
    show X _ _ 22 [none, none, some (.inr (.inr w0)), some (.inr (.inr w0))] [.inl (gI (sD s) w0 0)] (hp s) _
    refine X_run 1 (i1 := 23) (L1 := [none, none, some (.inr (.inr w0)), some (.inr (.inr w0))]) (st1 := [.inr (.inl (Int32.toInt64 (gI (sD s) w0 0)))]) rfl ?_
    exact X_lret rfl rfl qL_i
def t_Sh_told_12 (s : St) : Int64 := (t_Sh_told_13 s none)
def w_Sh_told_12 (s : St) : Prop := (w_Sh_told_13 s none)
theorem ct_Sh_told_12 {d : Nat} (s : St) (hw : w_Sh_told_12 s) : X m_Sh_told (d + 1) 12 [none, none, none, none] [] (hp s) (qL (hp s) (t_Sh_told_12 s)) := by
  unfold t_Sh_told_12
  unfold w_Sh_told_12 at hw
  refine X_run 1 (i1 := 13) (L1 := [none, none, none, none]) (st1 := [.inr (.inr none)]) rfl ?_
  exact ct_Sh_told_13 s none hw
def f_Sh_told (s : St) (o : Option Nat) (a0 : Int32) : Int64 := (cond (cn1 .lt a0) (t_Sh_told_12 s) (cond (cn2 .ge a0 (Int32.ofNat (aRN (sD s) (gR (sD s) o 1)))) (t_Sh_told_12 s) (t_Sh_told_13 s (aRF (sD s) (gR (sD s) o 1) (Int32.toNatClampNeg a0)))))
def w_Sh_told (s : St) (o : Option Nat) (a0 : Int32) : Prop := ((cn1 .lt a0) = true → (w_Sh_told_12 s)) ∧ ((cn1 .lt a0) = false → (ob (sD s) o 7 ∧ (isR (sD s) (gR (sD s) o 1) ∧ ((cn2 .ge a0 (Int32.ofNat (aRN (sD s) (gR (sD s) o 1)))) = true → (w_Sh_told_12 s)) ∧ ((cn2 .ge a0 (Int32.ofNat (aRN (sD s) (gR (sD s) o 1)))) = false → (ob (sD s) o 7 ∧ (isR (sD s) (gR (sD s) o 1) ∧ (vp_in a0 (aRN (sD s) (gR (sD s) o 1)) ∧ (w_Sh_told_13 s (aRF (sD s) (gR (sD s) o 1) (Int32.toNatClampNeg a0))))))))))
theorem c_Sh_told {d : Nat} (s : St) (o : Option Nat) (a0 : Int32) (hw : w_Sh_told s o a0) : X m_Sh_told (d + 1) 0 (entL 4 [.inr (.inr o), .inl a0]) [] (hp s) (qL (hp s) (f_Sh_told s o a0)) := by
  unfold f_Sh_told
  unfold w_Sh_told at hw
  refine X_run 2 (i1 := cond (cn1 .lt a0) 12 2) (L1 := [some (.inr (.inr o)), some (.inl a0), none, none]) (st1 := []) rfl ?_
  refine X_brq (fun hb => ?_) (fun hb => ?_)
  · have hw := hw.1 hb
    refine X_mask [false, false, true, true] ?_
    exact ct_Sh_told_12 s hw
  · have hw := hw.2 hb
    refine X_run 2 (i1 := 4) (L1 := [some (.inr (.inr o)), some (.inl a0), none, none]) (st1 := [.inr (.inr o), .inl a0]) rfl ?_
    obtain ⟨hc, hw⟩ := hw
    refine X_dR rfl hc rfl ?_
    show X _ _ 5 [some (.inr (.inr o)), some (.inl a0), none, none] [.inr (.inr (gR (sD s) o 1)), .inl a0] (hp s) _
    obtain ⟨hc, hw⟩ := hw
    refine X_drlen rfl hc ?_
    show X _ _ 6 [some (.inr (.inr o)), some (.inl a0), none, none] [.inl (Int32.ofNat (aRN (sD s) (gR (sD s) o 1))), .inl a0] (hp s) _
    refine X_run 1 (i1 := cond (cn2 .ge a0 (Int32.ofNat (aRN (sD s) (gR (sD s) o 1)))) 12 7) (L1 := [some (.inr (.inr o)), some (.inl a0), none, none]) (st1 := []) rfl ?_
    refine X_brq (fun hb => ?_) (fun hb => ?_)
    · have hw := hw.1 hb
      refine X_mask [false, false, true, true] ?_
      exact ct_Sh_told_12 s hw
    · have hw := hw.2 hb
      refine X_run 1 (i1 := 8) (L1 := [some (.inr (.inr o)), some (.inl a0), none, none]) (st1 := [.inr (.inr o)]) rfl ?_
      obtain ⟨hc, hw⟩ := hw
      refine X_dR rfl hc rfl ?_
      show X _ _ 9 [some (.inr (.inr o)), some (.inl a0), none, none] [.inr (.inr (gR (sD s) o 1))] (hp s) _
      refine X_run 1 (i1 := 10) (L1 := [some (.inr (.inr o)), some (.inl a0), none, none]) (st1 := [.inl a0, .inr (.inr (gR (sD s) o 1))]) rfl ?_
      obtain ⟨hc, hw⟩ := hw
      obtain ⟨hin, hw⟩ := hw
      refine X_daR rfl hc hin ?_
      show X _ _ 11 [some (.inr (.inr o)), some (.inl a0), none, none] [.inr (.inr (aRF (sD s) (gR (sD s) o 1) (Int32.toNatClampNeg a0)))] (hp s) _
      refine X_run 1 (i1 := 13) (L1 := [some (.inr (.inr o)), some (.inl a0), none, none]) (st1 := [.inr (.inr (aRF (sD s) (gR (sD s) o 1) (Int32.toNatClampNeg a0)))]) rfl ?_
      refine X_mask [false, false, true, true] ?_
      exact ct_Sh_told_13 s (aRF (sD s) (gR (sD s) o 1) (Int32.toNatClampNeg a0)) hw
abbrev LT_Sh_putBack_15 : Type := (St → Option Nat → Option Nat → Int32 → St) × (St → Option Nat → Option Nat → Int32 → St)
abbrev LW_Sh_putBack_15 : Type := (St → Option Nat → Option Nat → Int32 → Prop) × (St → Option Nat → Option Nat → Int32 → Prop)
def hl_Sh_putBack_15 (d : Nat) (lp : LT_Sh_putBack_15) (wlp : LW_Sh_putBack_15) : Prop := (∀ (s : St) (v0 : Option Nat) (v2 : Option Nat) (v3 : Int32), wlp.1 s v0 v2 v3 → X m_Sh_putBack d 15 [some (.inr (.inr v0)), none, some (.inr (.inr v2)), some (.inl v3)] [] (hp s) (qVs (lp.1 s v0 v2 v3))) ∧ (∀ (s : St) (v0 : Option Nat) (v2 : Option Nat) (v3 : Int32), wlp.2 s v0 v2 v3 → X m_Sh_putBack d 28 [some (.inr (.inr v0)), none, some (.inr (.inr v2)), some (.inl v3)] [] (hp s) (qVs (lp.2 s v0 v2 v3)))
def b_Sh_putBack_15 (fu : Nat) (lp : LT_Sh_putBack_15) (s : St) (v0 : Option Nat) (v2 : Option Nat) (v3 : Int32) : St := (cond (cn2 .ge v3 (Int32.ofNat (aRN (sD s) (gR (sD s) v0 1)))) s (lp.2 (pQ s (dR (sD s) (gR (sD s) v0 1) (va_up (aRF (sD s) (gR (sD s) v0 1)) (Int32.toNatClampNeg v3) (aRF (sD s) (gR (sD s) v2 1) (Int32.toNatClampNeg v3)))) (sN s) (sU s)) v0 v2 v3))
def v_Sh_putBack_15 (fu : Nat) (lp : LT_Sh_putBack_15) (wlp : LW_Sh_putBack_15) (s : St) (v0 : Option Nat) (v2 : Option Nat) (v3 : Int32) : Prop := (ob (sD s) v0 7 ∧ (isR (sD s) (gR (sD s) v0 1) ∧ ((cn2 .ge v3 (Int32.ofNat (aRN (sD s) (gR (sD s) v0 1)))) = true → True) ∧ ((cn2 .ge v3 (Int32.ofNat (aRN (sD s) (gR (sD s) v0 1)))) = false → (ob (sD s) v0 7 ∧ (ob (sD s) v2 7 ∧ (isR (sD s) (gR (sD s) v2 1) ∧ (vp_in v3 (aRN (sD s) (gR (sD s) v2 1)) ∧ (isR (sD s) (gR (sD s) v0 1) ∧ (vp_in v3 (aRN (sD s) (gR (sD s) v0 1)) ∧ (tho (sD s) (aRF (sD s) (gR (sD s) v2 1) (Int32.toNatClampNeg v3)) ∧ (wlp.2 (pQ s (dR (sD s) (gR (sD s) v0 1) (va_up (aRF (sD s) (gR (sD s) v0 1)) (Int32.toNatClampNeg v3) (aRF (sD s) (gR (sD s) v2 1) (Int32.toNatClampNeg v3)))) (sN s) (sU s)) v0 v2 v3)))))))))))
theorem cb_Sh_putBack_15 {d : Nat} (fu : Nat) {lp : LT_Sh_putBack_15} {wlp : LW_Sh_putBack_15} (hlp : hl_Sh_putBack_15 (d) lp wlp) (s : St) (v0 : Option Nat) (v2 : Option Nat) (v3 : Int32) (hw : v_Sh_putBack_15 fu lp wlp s v0 v2 v3) : X m_Sh_putBack (d) 15 [some (.inr (.inr v0)), none, some (.inr (.inr v2)), some (.inl v3)] [] (hp s) (qVs (b_Sh_putBack_15 fu lp s v0 v2 v3)) := by
  unfold b_Sh_putBack_15
  unfold v_Sh_putBack_15 at hw
  refine X_run 2 (i1 := 17) (L1 := [some (.inr (.inr v0)), none, some (.inr (.inr v2)), some (.inl v3)]) (st1 := [.inr (.inr v0), .inl v3]) rfl ?_
  obtain ⟨hc, hw⟩ := hw
  refine X_dR rfl hc rfl ?_
  show X _ _ 18 [some (.inr (.inr v0)), none, some (.inr (.inr v2)), some (.inl v3)] [.inr (.inr (gR (sD s) v0 1)), .inl v3] (hp s) _
  obtain ⟨hc, hw⟩ := hw
  refine X_drlen rfl hc ?_
  show X _ _ 19 [some (.inr (.inr v0)), none, some (.inr (.inr v2)), some (.inl v3)] [.inl (Int32.ofNat (aRN (sD s) (gR (sD s) v0 1))), .inl v3] (hp s) _
  refine X_run 1 (i1 := cond (cn2 .ge v3 (Int32.ofNat (aRN (sD s) (gR (sD s) v0 1)))) 30 20) (L1 := [some (.inr (.inr v0)), none, some (.inr (.inr v2)), some (.inl v3)]) (st1 := []) rfl ?_
  refine X_brq (fun hb => ?_) (fun hb => ?_)
  · skip
    exact X_ret rfl rfl qVs_i
  · have hw := hw.2 hb
    refine X_run 1 (i1 := 21) (L1 := [some (.inr (.inr v0)), none, some (.inr (.inr v2)), some (.inl v3)]) (st1 := [.inr (.inr v0)]) rfl ?_
    obtain ⟨hc, hw⟩ := hw
    refine X_dR rfl hc rfl ?_
    show X _ _ 22 [some (.inr (.inr v0)), none, some (.inr (.inr v2)), some (.inl v3)] [.inr (.inr (gR (sD s) v0 1))] (hp s) _
    refine X_run 2 (i1 := 24) (L1 := [some (.inr (.inr v0)), none, some (.inr (.inr v2)), some (.inl v3)]) (st1 := [.inr (.inr v2), .inl v3, .inr (.inr (gR (sD s) v0 1))]) rfl ?_
    obtain ⟨hc, hw⟩ := hw
    refine X_dR rfl hc rfl ?_
    show X _ _ 25 [some (.inr (.inr v0)), none, some (.inr (.inr v2)), some (.inl v3)] [.inr (.inr (gR (sD s) v2 1)), .inl v3, .inr (.inr (gR (sD s) v0 1))] (hp s) _
    refine X_run 1 (i1 := 26) (L1 := [some (.inr (.inr v0)), none, some (.inr (.inr v2)), some (.inl v3)]) (st1 := [.inl v3, .inr (.inr (gR (sD s) v2 1)), .inl v3, .inr (.inr (gR (sD s) v0 1))]) rfl ?_
    obtain ⟨hc, hw⟩ := hw
    obtain ⟨hin, hw⟩ := hw
    refine X_daR rfl hc hin ?_
    show X _ _ 27 [some (.inr (.inr v0)), none, some (.inr (.inr v2)), some (.inl v3)] [.inr (.inr (aRF (sD s) (gR (sD s) v2 1) (Int32.toNatClampNeg v3))), .inl v3, .inr (.inr (gR (sD s) v0 1))] (hp s) _
    obtain ⟨hc, hw⟩ := hw
    obtain ⟨hin, hw⟩ := hw
    obtain ⟨hv, hw⟩ := hw
    refine X_dsR rfl hc hin hv ?_
    show X _ _ 28 [some (.inr (.inr v0)), none, some (.inr (.inr v2)), some (.inl v3)] [] (hp (pQ s (dR (sD s) (gR (sD s) v0 1) (va_up (aRF (sD s) (gR (sD s) v0 1)) (Int32.toNatClampNeg v3) (aRF (sD s) (gR (sD s) v2 1) (Int32.toNatClampNeg v3)))) (sN s) (sU s))) _
    show X _ _ 28 [some (.inr (.inr v0)), none, some (.inr (.inr v2)), some (.inl v3)] [] (hp (pQ s (dR (sD s) (gR (sD s) v0 1) (va_up (aRF (sD s) (gR (sD s) v0 1)) (Int32.toNatClampNeg v3) (aRF (sD s) (gR (sD s) v2 1) (Int32.toNatClampNeg v3)))) (sN s) (sU s))) _
    exact hlp.2 (pQ s (dR (sD s) (gR (sD s) v0 1) (va_up (aRF (sD s) (gR (sD s) v0 1)) (Int32.toNatClampNeg v3) (aRF (sD s) (gR (sD s) v2 1) (Int32.toNatClampNeg v3)))) (sN s) (sU s)) v0 v2 v3 hw
def b_Sh_putBack_28 (fu : Nat) (lp : LT_Sh_putBack_15) (s : St) (v0 : Option Nat) (v2 : Option Nat) (v3 : Int32) : St := (lp.1 s v0 v2 (v3 + Int32.ofInt (1)))
def v_Sh_putBack_28 (fu : Nat) (lp : LT_Sh_putBack_15) (wlp : LW_Sh_putBack_15) (s : St) (v0 : Option Nat) (v2 : Option Nat) (v3 : Int32) : Prop := (wlp.1 s v0 v2 (v3 + Int32.ofInt (1)))
theorem cb_Sh_putBack_28 {d : Nat} (fu : Nat) {lp : LT_Sh_putBack_15} {wlp : LW_Sh_putBack_15} (hlp : hl_Sh_putBack_15 (d) lp wlp) (s : St) (v0 : Option Nat) (v2 : Option Nat) (v3 : Int32) (hw : v_Sh_putBack_28 fu lp wlp s v0 v2 v3) : X m_Sh_putBack (d) 28 [some (.inr (.inr v0)), none, some (.inr (.inr v2)), some (.inl v3)] [] (hp s) (qVs (b_Sh_putBack_28 fu lp s v0 v2 v3)) := by
  unfold b_Sh_putBack_28
  unfold v_Sh_putBack_28 at hw
  refine X_run 2 (i1 := 15) (L1 := [some (.inr (.inr v0)), none, some (.inr (.inr v2)), some (.inl (v3 + Int32.ofInt (1)))]) (st1 := []) rfl ?_
  exact hlp.1 s v0 v2 (v3 + Int32.ofInt (1)) hw
def T_Sh_putBack_15 (fu : Nat) : Nat → LT_Sh_putBack_15
  | 0 => (fun s _ _ _ => s, fun s _ _ _ => s)
  | n + 1 => (fun s v0 v2 v3 => b_Sh_putBack_15 fu (T_Sh_putBack_15 fu n) s v0 v2 v3, fun s v0 v2 v3 => b_Sh_putBack_28 fu (T_Sh_putBack_15 fu n) s v0 v2 v3)
def WT_Sh_putBack_15 (fu : Nat) : Nat → LW_Sh_putBack_15
  | 0 => (fun _ _ _ _ => False, fun _ _ _ _ => False)
  | n + 1 => (fun s v0 v2 v3 => v_Sh_putBack_15 fu (T_Sh_putBack_15 fu n) (WT_Sh_putBack_15 fu n) s v0 v2 v3, fun s v0 v2 v3 => v_Sh_putBack_28 fu (T_Sh_putBack_15 fu n) (WT_Sh_putBack_15 fu n) s v0 v2 v3)
theorem cT_Sh_putBack_15 {d : Nat} (fu : Nat) : ∀ n : Nat, hl_Sh_putBack_15 (d) (T_Sh_putBack_15 fu n) (WT_Sh_putBack_15 fu n)
  | 0 => ⟨fun _ _ _ _ hw => hw.elim, fun _ _ _ _ hw => hw.elim⟩
  | n + 1 => ⟨fun s v0 v2 v3 hw => cb_Sh_putBack_15 fu (cT_Sh_putBack_15 fu n) s v0 v2 v3 hw, fun s v0 v2 v3 hw => cb_Sh_putBack_28 fu (cT_Sh_putBack_15 fu n) s v0 v2 v3 hw⟩
def f_Sh_putBack (fu : Nat) (s : St) (o : Option Nat) (a0 : Option Nat) : St := (cond (cn1 .eq (b2i (isc (sD s) a0 2))) s (cond (cn2 .ne (Int32.ofNat (aRN (sD s) (gR (sD s) a0 1))) (Int32.ofNat (aRN (sD s) (gR (sD s) o 1)))) s ((T_Sh_putBack_15 fu fu).1 s o a0 (0 : Int32))))
def w_Sh_putBack (fu : Nat) (s : St) (o : Option Nat) (a0 : Option Nat) : Prop := (tho (sD s) a0 ∧ ((cn1 .eq (b2i (isc (sD s) a0 2))) = true → True) ∧ ((cn1 .eq (b2i (isc (sD s) a0 2))) = false → (cst (sD s) a0 2 ∧ (ob (sD s) a0 7 ∧ (isR (sD s) (gR (sD s) a0 1) ∧ (ob (sD s) o 7 ∧ (isR (sD s) (gR (sD s) o 1) ∧ ((cn2 .ne (Int32.ofNat (aRN (sD s) (gR (sD s) a0 1))) (Int32.ofNat (aRN (sD s) (gR (sD s) o 1)))) = true → True) ∧ ((cn2 .ne (Int32.ofNat (aRN (sD s) (gR (sD s) a0 1))) (Int32.ofNat (aRN (sD s) (gR (sD s) o 1)))) = false → ((WT_Sh_putBack_15 fu fu).1 s o a0 (0 : Int32))))))))))
theorem c_Sh_putBack {d : Nat} (fu : Nat) (s : St) (o : Option Nat) (a0 : Option Nat) (hw : w_Sh_putBack fu s o a0) : X m_Sh_putBack (d) 0 (entL 4 [.inr (.inr o), .inr (.inr a0)]) [] (hp s) (qVs (f_Sh_putBack fu s o a0)) := by
  unfold f_Sh_putBack
  unfold w_Sh_putBack at hw
  refine X_run 1 (i1 := 1) (L1 := [some (.inr (.inr o)), some (.inr (.inr a0)), none, none]) (st1 := [.inr (.inr a0)]) rfl ?_
  obtain ⟨hc, hw⟩ := hw
  refine X_dinst rfl (by decide) hc ?_
  show X _ _ 2 [some (.inr (.inr o)), some (.inr (.inr a0)), none, none] [.inl (b2i (isc (sD s) a0 2))] (hp s) _
  refine X_run 1 (i1 := cond (cn1 .eq (b2i (isc (sD s) a0 2))) 30 3) (L1 := [some (.inr (.inr o)), some (.inr (.inr a0)), none, none]) (st1 := []) rfl ?_
  refine X_brq (fun hb => ?_) (fun hb => ?_)
  · skip
    exact X_ret rfl rfl qVs_i
  · have hw := hw.2 hb
    refine X_run 1 (i1 := 4) (L1 := [some (.inr (.inr o)), some (.inr (.inr a0)), none, none]) (st1 := [.inr (.inr a0)]) rfl ?_
    obtain ⟨hc, hw⟩ := hw
    refine X_dcast rfl hc ?_
    refine X_run 2 (i1 := 7) (L1 := [some (.inr (.inr o)), some (.inr (.inr a0)), some (.inr (.inr a0)), none]) (st1 := [.inr (.inr a0)]) rfl ?_
    obtain ⟨hc, hw⟩ := hw
    refine X_dR rfl hc rfl ?_
    show X _ _ 8 [some (.inr (.inr o)), some (.inr (.inr a0)), some (.inr (.inr a0)), none] [.inr (.inr (gR (sD s) a0 1))] (hp s) _
    obtain ⟨hc, hw⟩ := hw
    refine X_drlen rfl hc ?_
    show X _ _ 9 [some (.inr (.inr o)), some (.inr (.inr a0)), some (.inr (.inr a0)), none] [.inl (Int32.ofNat (aRN (sD s) (gR (sD s) a0 1)))] (hp s) _
    refine X_run 1 (i1 := 10) (L1 := [some (.inr (.inr o)), some (.inr (.inr a0)), some (.inr (.inr a0)), none]) (st1 := [.inr (.inr o), .inl (Int32.ofNat (aRN (sD s) (gR (sD s) a0 1)))]) rfl ?_
    obtain ⟨hc, hw⟩ := hw
    refine X_dR rfl hc rfl ?_
    show X _ _ 11 [some (.inr (.inr o)), some (.inr (.inr a0)), some (.inr (.inr a0)), none] [.inr (.inr (gR (sD s) o 1)), .inl (Int32.ofNat (aRN (sD s) (gR (sD s) a0 1)))] (hp s) _
    obtain ⟨hc, hw⟩ := hw
    refine X_drlen rfl hc ?_
    show X _ _ 12 [some (.inr (.inr o)), some (.inr (.inr a0)), some (.inr (.inr a0)), none] [.inl (Int32.ofNat (aRN (sD s) (gR (sD s) o 1))), .inl (Int32.ofNat (aRN (sD s) (gR (sD s) a0 1)))] (hp s) _
    refine X_run 1 (i1 := cond (cn2 .ne (Int32.ofNat (aRN (sD s) (gR (sD s) a0 1))) (Int32.ofNat (aRN (sD s) (gR (sD s) o 1)))) 30 13) (L1 := [some (.inr (.inr o)), some (.inr (.inr a0)), some (.inr (.inr a0)), none]) (st1 := []) rfl ?_
    refine X_brq (fun hb => ?_) (fun hb => ?_)
    · skip
      exact X_ret rfl rfl qVs_i
    · have hw := hw.2 hb
      refine X_run 2 (i1 := 15) (L1 := [some (.inr (.inr o)), some (.inr (.inr a0)), some (.inr (.inr a0)), some (.inl (0 : Int32))]) (st1 := []) rfl ?_
      refine X_mask [true, false, true, true] ?_
      exact (cT_Sh_putBack_15 fu fu).1 s o a0 (0 : Int32) hw
def t_Sh_twin_8 (fu : Nat) (s : St) (v0 : Option Nat) (w0 : Option Nat) : Option Nat × St := (w0, (f_Sh_putBack fu s w0 v0))
def w_Sh_twin_8 (fu : Nat) (s : St) (v0 : Option Nat) (w0 : Option Nat) : Prop := (w_Sh_putBack fu s w0 v0 ∧ (oC (sD s) w0 = some 7 ∧ True))
theorem ct_Sh_twin_8 {d : Nat} (fu : Nat) (s : St) (v0 : Option Nat) (w0 : Option Nat) (hw : w_Sh_twin_8 fu s v0 w0) : X m_Sh_twin (d + 3) 8 [some (.inr (.inr v0)), none] [.inr (.inr w0)] (hp s) (qRs (t_Sh_twin_8 fu s v0 w0)) := by
  unfold t_Sh_twin_8
  unfold w_Sh_twin_8 at hw
  refine X_run 3 (i1 := 11) (L1 := [some (.inr (.inr v0)), some (.inr (.inr w0))]) (st1 := [.inr (.inr v0), .inr (.inr w0)]) rfl ?_
  obtain ⟨hc, hw⟩ := hw
  obtain ⟨hr, hw⟩ := hw
  refine X_dcallv m_Sh_putBack (As := [.inr (.inr v0)]) (st := []) ok_Sh_putBack rfl rfl rfl hr rfl (Nat.le_of_ble_eq_true rfl) (Nat.le_of_ble_eq_true rfl) (c_Sh_putBack (d := d + 2) fu s w0 v0 hc) ?_
  rintro _ _ ⟨rfl, rfl⟩
  show X _ _ 12 [some (.inr (.inr v0)), some (.inr (.inr w0))] [] (hp (f_Sh_putBack fu s w0 v0)) _
  refine X_run 1 (i1 := 13) (L1 := [some (.inr (.inr v0)), some (.inr (.inr w0))]) (st1 := [.inr (.inr w0)]) rfl ?_
  exact X_aret rfl rfl qRs_i
def f_Sh_twin (fu : Nat) (s : St) (o : Option Nat) : Option Nat × St := (t_Sh_twin_8 fu (f_Sh_init (pQ s (nwO (sD s) (sN s) 7) ((sN s) + 1) ((sU s) + 2)) (some (sN s)) (gI (nwO (sD s) (sN s) 7) o 0) (Int32.ofNat (aRN (nwO (sD s) (sN s) 7) (gR (nwO (sD s) (sN s) 7) o 1)))) o (some (sN s)))
def w_Sh_twin (fu : Nat) (s : St) (o : Option Nat) : Prop := (rm (sN s) (sU s) 2 ∧ (ob (nwO (sD s) (sN s) 7) o 7 ∧ (ob (nwO (sD s) (sN s) 7) o 7 ∧ (isR (nwO (sD s) (sN s) 7) (gR (nwO (sD s) (sN s) 7) o 1) ∧ (w_Sh_init (pQ s (nwO (sD s) (sN s) 7) ((sN s) + 1) ((sU s) + 2)) (some (sN s)) (gI (nwO (sD s) (sN s) 7) o 0) (Int32.ofNat (aRN (nwO (sD s) (sN s) 7) (gR (nwO (sD s) (sN s) 7) o 1))) ∧ ((oC (nwO (sD s) (sN s) 7) (some (sN s))).isSome = true ∧ (w_Sh_twin_8 fu (f_Sh_init (pQ s (nwO (sD s) (sN s) 7) ((sN s) + 1) ((sU s) + 2)) (some (sN s)) (gI (nwO (sD s) (sN s) 7) o 0) (Int32.ofNat (aRN (nwO (sD s) (sN s) 7) (gR (nwO (sD s) (sN s) 7) o 1)))) o (some (sN s)))))))))
theorem c_Sh_twin {d : Nat} (fu : Nat) (s : St) (o : Option Nat) (hw : w_Sh_twin fu s o) : X m_Sh_twin (d + 3) 0 (entL 2 [.inr (.inr o)]) [] (hp s) (qRs (f_Sh_twin fu s o)) := by
  unfold f_Sh_twin
  unfold w_Sh_twin at hw
  show X _ _ 0 [some (.inr (.inr o)), none] [] (hp s) _
  obtain ⟨hr, hw⟩ := hw
  refine X_dnew rfl rfl rfl hr ?_
  show X _ _ 1 [some (.inr (.inr o)), none] [.inr (.inr (some (sN s)))] (hp (pQ s (nwO (sD s) (sN s) 7) ((sN s) + 1) ((sU s) + 2))) _
  refine X_run 2 (i1 := 3) (L1 := [some (.inr (.inr o)), none]) (st1 := [.inr (.inr o), .inr (.inr (some (sN s))), .inr (.inr (some (sN s)))]) rfl ?_
  obtain ⟨hc, hw⟩ := hw
  refine X_dI rfl hc rfl ?_
  show X _ _ 4 [some (.inr (.inr o)), none] [.inl (gI (nwO (sD s) (sN s) 7) o 0), .inr (.inr (some (sN s))), .inr (.inr (some (sN s)))] (hp (pQ s (nwO (sD s) (sN s) 7) ((sN s) + 1) ((sU s) + 2))) _
  refine X_run 1 (i1 := 5) (L1 := [some (.inr (.inr o)), none]) (st1 := [.inr (.inr o), .inl (gI (nwO (sD s) (sN s) 7) o 0), .inr (.inr (some (sN s))), .inr (.inr (some (sN s)))]) rfl ?_
  obtain ⟨hc, hw⟩ := hw
  refine X_dR rfl hc rfl ?_
  show X _ _ 6 [some (.inr (.inr o)), none] [.inr (.inr (gR (nwO (sD s) (sN s) 7) o 1)), .inl (gI (nwO (sD s) (sN s) 7) o 0), .inr (.inr (some (sN s))), .inr (.inr (some (sN s)))] (hp (pQ s (nwO (sD s) (sN s) 7) ((sN s) + 1) ((sU s) + 2))) _
  obtain ⟨hc, hw⟩ := hw
  refine X_drlen rfl hc ?_
  show X _ _ 7 [some (.inr (.inr o)), none] [.inl (Int32.ofNat (aRN (nwO (sD s) (sN s) 7) (gR (nwO (sD s) (sN s) 7) o 1))), .inl (gI (nwO (sD s) (sN s) 7) o 0), .inr (.inr (some (sN s))), .inr (.inr (some (sN s)))] (hp (pQ s (nwO (sD s) (sN s) 7) ((sN s) + 1) ((sU s) + 2))) _
  obtain ⟨hc, hw⟩ := hw
  obtain ⟨hr, hw⟩ := hw
  refine X_dcalln m_Sh_init (As := [.inl (gI (nwO (sD s) (sN s) 7) o 0), .inl (Int32.ofNat (aRN (nwO (sD s) (sN s) 7) (gR (nwO (sD s) (sN s) 7) o 1)))]) (st := [.inr (.inr (some (sN s)))]) ok_Sh_init rfl rfl rfl rfl hr (Nat.le_of_ble_eq_true rfl) (Nat.le_of_ble_eq_true rfl) (c_Sh_init (d := d) (pQ s (nwO (sD s) (sN s) 7) ((sN s) + 1) ((sU s) + 2)) (some (sN s)) (gI (nwO (sD s) (sN s) 7) o 0) (Int32.ofNat (aRN (nwO (sD s) (sN s) 7) (gR (nwO (sD s) (sN s) 7) o 1))) hc) ?_
  rintro _ _ ⟨rfl, rfl⟩
  show X _ _ 8 [some (.inr (.inr o)), none] [.inr (.inr (some (sN s)))] (hp (f_Sh_init (pQ s (nwO (sD s) (sN s) 7) ((sN s) + 1) ((sU s) + 2)) (some (sN s)) (gI (nwO (sD s) (sN s) 7) o 0) (Int32.ofNat (aRN (nwO (sD s) (sN s) 7) (gR (nwO (sD s) (sN s) 7) o 1))))) _
  show X _ _ 8 [some (.inr (.inr o)), none] [.inr (.inr (some (sN s)))] (hp (f_Sh_init (pQ s (nwO (sD s) (sN s) 7) ((sN s) + 1) ((sU s) + 2)) (some (sN s)) (gI (nwO (sD s) (sN s) 7) o 0) (Int32.ofNat (aRN (nwO (sD s) (sN s) 7) (gR (nwO (sD s) (sN s) 7) o 1))))) _
  exact ct_Sh_twin_8 fu (f_Sh_init (pQ s (nwO (sD s) (sN s) 7) ((sN s) + 1) ((sU s) + 2)) (some (sN s)) (gI (nwO (sD s) (sN s) 7) o 0) (Int32.ofNat (aRN (nwO (sD s) (sN s) 7) (gR (nwO (sD s) (sN s) 7) o 1)))) o (some (sN s)) hw
def f_Sh_refusal (s : St) (o : Option Nat) (a0 : Option Nat) : Int32 := (cond (Option.isNone a0) (0 : Int32) (cond (cn2 .ne (gI (sD s) o 0) (-1 : Int32)) (cond (cn1 .eq (b2i (isc (sD s) a0 0))) (4 : Int32) (cond (cn1 .eq (b2i (f_Pa_isBelow (gI (sD s) a0 0) (gI (sD s) o 0)))) (5 : Int32) (0 : Int32))) (cond (cn2 .ne (u_kind s a0) (4 : Int32)) (4 : Int32) (0 : Int32))))
def w_Sh_refusal (s : St) (o : Option Nat) (a0 : Option Nat) : Prop := ((Option.isNone a0) = true → True) ∧ ((Option.isNone a0) = false → (ob (sD s) o 7 ∧ ((cn2 .ne (gI (sD s) o 0) (-1 : Int32)) = true → (tho (sD s) a0 ∧ ((cn1 .eq (b2i (isc (sD s) a0 0))) = true → True) ∧ ((cn1 .eq (b2i (isc (sD s) a0 0))) = false → (cst (sD s) a0 0 ∧ (ob (sD s) a0 4 ∧ (ob (sD s) o 7 ∧ True)))))) ∧ ((cn2 .ne (gI (sD s) o 0) (-1 : Int32)) = false → (wu_kind s a0 ∧ True))))
theorem c_Sh_refusal {d : Nat} (s : St) (o : Option Nat) (a0 : Option Nat) (hw : w_Sh_refusal s o a0) : X m_Sh_refusal (d + 1) 0 (entL 3 [.inr (.inr o), .inr (.inr a0)]) [] (hp s) (qI (hp s) (f_Sh_refusal s o a0)) := by
  unfold f_Sh_refusal
  unfold w_Sh_refusal at hw
  refine X_run 2 (i1 := cond (Option.isNone a0) 2 4) (L1 := [some (.inr (.inr o)), some (.inr (.inr a0)), none]) (st1 := []) rfl ?_
  refine X_brq (fun hb => ?_) (fun hb => ?_)
  · skip
    refine X_run 1 (i1 := 3) (L1 := [some (.inr (.inr o)), some (.inr (.inr a0)), none]) (st1 := [.inl (0 : Int32)]) rfl ?_
    exact X_iret rfl rfl qI_i
  · have hw := hw.2 hb
    refine X_run 1 (i1 := 5) (L1 := [some (.inr (.inr o)), some (.inr (.inr a0)), none]) (st1 := [.inr (.inr o)]) rfl ?_
    obtain ⟨hc, hw⟩ := hw
    refine X_dI rfl hc rfl ?_
    show X _ _ 6 [some (.inr (.inr o)), some (.inr (.inr a0)), none] [.inl (gI (sD s) o 0)] (hp s) _
    refine X_run 2 (i1 := cond (cn2 .ne (gI (sD s) o 0) (-1 : Int32)) 16 8) (L1 := [some (.inr (.inr o)), some (.inr (.inr a0)), none]) (st1 := []) rfl ?_
    refine X_brq (fun hb => ?_) (fun hb => ?_)
    · have hw := hw.1 hb
      refine X_run 1 (i1 := 17) (L1 := [some (.inr (.inr o)), some (.inr (.inr a0)), none]) (st1 := [.inr (.inr a0)]) rfl ?_
      obtain ⟨hc, hw⟩ := hw
      refine X_dinst rfl (by decide) hc ?_
      show X _ _ 18 [some (.inr (.inr o)), some (.inr (.inr a0)), none] [.inl (b2i (isc (sD s) a0 0))] (hp s) _
      refine X_run 1 (i1 := cond (cn1 .eq (b2i (isc (sD s) a0 0))) 32 19) (L1 := [some (.inr (.inr o)), some (.inr (.inr a0)), none]) (st1 := []) rfl ?_
      refine X_brq (fun hb => ?_) (fun hb => ?_)
      · skip
        refine X_run 1 (i1 := 33) (L1 := [some (.inr (.inr o)), some (.inr (.inr a0)), none]) (st1 := [.inl (4 : Int32)]) rfl ?_
        exact X_iret rfl rfl qI_i
      · have hw := hw.2 hb
        refine X_run 1 (i1 := 20) (L1 := [some (.inr (.inr o)), some (.inr (.inr a0)), none]) (st1 := [.inr (.inr a0)]) rfl ?_
        obtain ⟨hc, hw⟩ := hw
        refine X_dcast rfl hc ?_
        refine X_run 2 (i1 := 23) (L1 := [some (.inr (.inr o)), some (.inr (.inr a0)), some (.inr (.inr a0))]) (st1 := [.inr (.inr a0)]) rfl ?_
        obtain ⟨hc, hw⟩ := hw
        refine X_dI rfl hc rfl ?_
        show X _ _ 24 [some (.inr (.inr o)), some (.inr (.inr a0)), some (.inr (.inr a0))] [.inl (gI (sD s) a0 0)] (hp s) _
        refine X_run 1 (i1 := 25) (L1 := [some (.inr (.inr o)), some (.inr (.inr a0)), some (.inr (.inr a0))]) (st1 := [.inr (.inr o), .inl (gI (sD s) a0 0)]) rfl ?_
        obtain ⟨hc, hw⟩ := hw
        refine X_dI rfl hc rfl ?_
        show X _ _ 26 [some (.inr (.inr o)), some (.inr (.inr a0)), some (.inr (.inr a0))] [.inl (gI (sD s) o 0), .inl (gI (sD s) a0 0)] (hp s) _
        refine X_calls m_Pa_isBelow (As := [.inl (gI (sD s) a0 0), .inl (gI (sD s) o 0)]) (st := []) ok_Pa_isBelow rfl rfl rfl (Nat.le_of_ble_eq_true rfl) (Nat.le_of_ble_eq_true rfl) (c_Pa_isBelow (d := d) (gI (sD s) a0 0) (gI (sD s) o 0)) ?_
        rintro _ _ ⟨rfl, rfl⟩
        show X _ _ 27 [some (.inr (.inr o)), some (.inr (.inr a0)), some (.inr (.inr a0))] [.inl (b2i (f_Pa_isBelow (gI (sD s) a0 0) (gI (sD s) o 0)))] (hp s) _
        refine X_run 1 (i1 := cond (cn1 .eq (b2i (f_Pa_isBelow (gI (sD s) a0 0) (gI (sD s) o 0)))) 30 28) (L1 := [some (.inr (.inr o)), some (.inr (.inr a0)), some (.inr (.inr a0))]) (st1 := []) rfl ?_
        refine X_brq (fun hb => ?_) (fun hb => ?_)
        · skip
          refine X_run 1 (i1 := 31) (L1 := [some (.inr (.inr o)), some (.inr (.inr a0)), some (.inr (.inr a0))]) (st1 := [.inl (5 : Int32)]) rfl ?_
          exact X_iret rfl rfl qI_i
        · skip
          refine X_run 2 (i1 := 31) (L1 := [some (.inr (.inr o)), some (.inr (.inr a0)), some (.inr (.inr a0))]) (st1 := [.inl (0 : Int32)]) rfl ?_
          exact X_iret rfl rfl qI_i
    · have hw := hw.2 hb
      refine X_run 1 (i1 := 9) (L1 := [some (.inr (.inr o)), some (.inr (.inr a0)), none]) (st1 := [.inr (.inr a0)]) rfl ?_
      obtain ⟨hc, hw⟩ := hw
      refine X_ukind (d := d) rfl (Nat.le_of_ble_eq_true rfl) hc ?_
      show X _ _ 10 [some (.inr (.inr o)), some (.inr (.inr a0)), none] [.inl (u_kind s a0)] (hp s) _
      refine X_run 2 (i1 := cond (cn2 .ne (u_kind s a0) (4 : Int32)) 14 12) (L1 := [some (.inr (.inr o)), some (.inr (.inr a0)), none]) (st1 := []) rfl ?_
      refine X_brq (fun hb => ?_) (fun hb => ?_)
      · skip
        refine X_run 1 (i1 := 15) (L1 := [some (.inr (.inr o)), some (.inr (.inr a0)), none]) (st1 := [.inl (4 : Int32)]) rfl ?_
        exact X_iret rfl rfl qI_i
      · skip
        refine X_run 2 (i1 := 15) (L1 := [some (.inr (.inr o)), some (.inr (.inr a0)), none]) (st1 := [.inl (0 : Int32)]) rfl ?_
        exact X_iret rfl rfl qI_i
abbrev LT_Sh_takeFrom_30 : Type := (St → Option Nat → Option Nat → Int32 → Int32 → Int32 → Int32 → Bool × St) × (St → Option Nat → Option Nat → Int32 → Int32 → Int32 → Int32 → Bool × St)
abbrev LW_Sh_takeFrom_30 : Type := (St → Option Nat → Option Nat → Int32 → Int32 → Int32 → Int32 → Prop) × (St → Option Nat → Option Nat → Int32 → Int32 → Int32 → Int32 → Prop)
def hl_Sh_takeFrom_30 (d : Nat) (lp : LT_Sh_takeFrom_30) (wlp : LW_Sh_takeFrom_30) : Prop := (∀ (s : St) (v0 : Option Nat) (v1 : Option Nat) (v2 : Int32) (v3 : Int32) (v4 : Int32) (v5 : Int32), wlp.1 s v0 v1 v2 v3 v4 v5 → X m_Sh_takeFrom d 30 [some (.inr (.inr v0)), some (.inr (.inr v1)), some (.inl v2), some (.inl v3), some (.inl v4), some (.inl v5), none] [] (hp s) (qBs (lp.1 s v0 v1 v2 v3 v4 v5))) ∧ (∀ (s : St) (v0 : Option Nat) (v1 : Option Nat) (v2 : Int32) (v3 : Int32) (v4 : Int32) (v5 : Int32), wlp.2 s v0 v1 v2 v3 v4 v5 → X m_Sh_takeFrom d 53 [some (.inr (.inr v0)), some (.inr (.inr v1)), some (.inl v2), some (.inl v3), some (.inl v4), some (.inl v5), none] [] (hp s) (qBs (lp.2 s v0 v1 v2 v3 v4 v5)))
def b_Sh_takeFrom_30 (fu : Nat) (lp : LT_Sh_takeFrom_30) (s : St) (v0 : Option Nat) (v1 : Option Nat) (v2 : Int32) (v3 : Int32) (v4 : Int32) (v5 : Int32) : Bool × St := (cond (cn2 .ge v5 v4) (true, s) (cond (cn1 .eq (f_Sh_refusal s v0 (aRF (sD s) (gR (sD s) v1 1) (Int32.toNatClampNeg (v2 + v5))))) (lp.2 (pQ s (dR (sD s) (gR (sD s) v0 1) (va_up (aRF (sD s) (gR (sD s) v0 1)) (Int32.toNatClampNeg (v3 + v5)) (aRF (sD s) (gR (sD s) v1 1) (Int32.toNatClampNeg (v2 + v5))))) (sN s) (sU s)) v0 v1 v2 v3 v4 v5) (false, s)))
def v_Sh_takeFrom_30 (fu : Nat) (lp : LT_Sh_takeFrom_30) (wlp : LW_Sh_takeFrom_30) (s : St) (v0 : Option Nat) (v1 : Option Nat) (v2 : Int32) (v3 : Int32) (v4 : Int32) (v5 : Int32) : Prop := ((cn2 .ge v5 v4) = true → True) ∧ ((cn2 .ge v5 v4) = false → (ob (sD s) v1 7 ∧ (isR (sD s) (gR (sD s) v1 1) ∧ (vp_in (v2 + v5) (aRN (sD s) (gR (sD s) v1 1)) ∧ (w_Sh_refusal s v0 (aRF (sD s) (gR (sD s) v1 1) (Int32.toNatClampNeg (v2 + v5))) ∧ (oC (sD s) v0 = some 7 ∧ ((cn1 .eq (f_Sh_refusal s v0 (aRF (sD s) (gR (sD s) v1 1) (Int32.toNatClampNeg (v2 + v5))))) = true → (ob (sD s) v0 7 ∧ (isR (sD s) (gR (sD s) v0 1) ∧ (vp_in (v3 + v5) (aRN (sD s) (gR (sD s) v0 1)) ∧ (tho (sD s) (aRF (sD s) (gR (sD s) v1 1) (Int32.toNatClampNeg (v2 + v5))) ∧ (wlp.2 (pQ s (dR (sD s) (gR (sD s) v0 1) (va_up (aRF (sD s) (gR (sD s) v0 1)) (Int32.toNatClampNeg (v3 + v5)) (aRF (sD s) (gR (sD s) v1 1) (Int32.toNatClampNeg (v2 + v5))))) (sN s) (sU s)) v0 v1 v2 v3 v4 v5)))))) ∧ ((cn1 .eq (f_Sh_refusal s v0 (aRF (sD s) (gR (sD s) v1 1) (Int32.toNatClampNeg (v2 + v5))))) = false → True)))))))
theorem cb_Sh_takeFrom_30 {d : Nat} (fu : Nat) {lp : LT_Sh_takeFrom_30} {wlp : LW_Sh_takeFrom_30} (hlp : hl_Sh_takeFrom_30 (d + 2) lp wlp) (s : St) (v0 : Option Nat) (v1 : Option Nat) (v2 : Int32) (v3 : Int32) (v4 : Int32) (v5 : Int32) (hw : v_Sh_takeFrom_30 fu lp wlp s v0 v1 v2 v3 v4 v5) : X m_Sh_takeFrom (d + 2) 30 [some (.inr (.inr v0)), some (.inr (.inr v1)), some (.inl v2), some (.inl v3), some (.inl v4), some (.inl v5), none] [] (hp s) (qBs (b_Sh_takeFrom_30 fu lp s v0 v1 v2 v3 v4 v5)) := by
  unfold b_Sh_takeFrom_30
  unfold v_Sh_takeFrom_30 at hw
  refine X_run 3 (i1 := cond (cn2 .ge v5 v4) 55 33) (L1 := [some (.inr (.inr v0)), some (.inr (.inr v1)), some (.inl v2), some (.inl v3), some (.inl v4), some (.inl v5), none]) (st1 := []) rfl ?_
  refine X_brq (fun hb => ?_) (fun hb => ?_)
  · skip
    refine X_run 1 (i1 := 56) (L1 := [some (.inr (.inr v0)), some (.inr (.inr v1)), some (.inl v2), some (.inl v3), some (.inl v4), some (.inl v5), none]) (st1 := [.inl (1 : Int32)]) rfl ?_
    exact X_zret rfl rfl (b2i_01 true) qBs_i
  · have hw := hw.2 hb
    refine X_run 1 (i1 := 34) (L1 := [some (.inr (.inr v0)), some (.inr (.inr v1)), some (.inl v2), some (.inl v3), some (.inl v4), some (.inl v5), none]) (st1 := [.inr (.inr v1)]) rfl ?_
    obtain ⟨hc, hw⟩ := hw
    refine X_dR rfl hc rfl ?_
    show X _ _ 35 [some (.inr (.inr v0)), some (.inr (.inr v1)), some (.inl v2), some (.inl v3), some (.inl v4), some (.inl v5), none] [.inr (.inr (gR (sD s) v1 1))] (hp s) _
    refine X_run 3 (i1 := 38) (L1 := [some (.inr (.inr v0)), some (.inr (.inr v1)), some (.inl v2), some (.inl v3), some (.inl v4), some (.inl v5), none]) (st1 := [.inl (v2 + v5), .inr (.inr (gR (sD s) v1 1))]) rfl ?_
    obtain ⟨hc, hw⟩ := hw
    obtain ⟨hin, hw⟩ := hw
    refine X_daR rfl hc hin ?_
    show X _ _ 39 [some (.inr (.inr v0)), some (.inr (.inr v1)), some (.inl v2), some (.inl v3), some (.inl v4), some (.inl v5), none] [.inr (.inr (aRF (sD s) (gR (sD s) v1 1) (Int32.toNatClampNeg (v2 + v5))))] (hp s) _
    refine X_run 3 (i1 := 42) (L1 := [some (.inr (.inr v0)), some (.inr (.inr v1)), some (.inl v2), some (.inl v3), some (.inl v4), some (.inl v5), some (.inr (.inr (aRF (sD s) (gR (sD s) v1 1) (Int32.toNatClampNeg (v2 + v5)))))]) (st1 := [.inr (.inr (aRF (sD s) (gR (sD s) v1 1) (Int32.toNatClampNeg (v2 + v5)))), .inr (.inr v0)]) rfl ?_
    obtain ⟨hc, hw⟩ := hw
    obtain ⟨hr, hw⟩ := hw
    refine X_dcallv m_Sh_refusal (As := [.inr (.inr (aRF (sD s) (gR (sD s) v1 1) (Int32.toNatClampNeg (v2 + v5))))]) (st := []) ok_Sh_refusal rfl rfl rfl hr rfl (Nat.le_of_ble_eq_true rfl) (Nat.le_of_ble_eq_true rfl) (c_Sh_refusal (d := d) s v0 (aRF (sD s) (gR (sD s) v1 1) (Int32.toNatClampNeg (v2 + v5))) hc) ?_
    rintro _ _ ⟨rfl, rfl⟩
    show X _ _ 43 [some (.inr (.inr v0)), some (.inr (.inr v1)), some (.inl v2), some (.inl v3), some (.inl v4), some (.inl v5), some (.inr (.inr (aRF (sD s) (gR (sD s) v1 1) (Int32.toNatClampNeg (v2 + v5)))))] [.inl (f_Sh_refusal s v0 (aRF (sD s) (gR (sD s) v1 1) (Int32.toNatClampNeg (v2 + v5))))] (hp s) _
    refine X_run 1 (i1 := cond (cn1 .eq (f_Sh_refusal s v0 (aRF (sD s) (gR (sD s) v1 1) (Int32.toNatClampNeg (v2 + v5))))) 46 44) (L1 := [some (.inr (.inr v0)), some (.inr (.inr v1)), some (.inl v2), some (.inl v3), some (.inl v4), some (.inl v5), some (.inr (.inr (aRF (sD s) (gR (sD s) v1 1) (Int32.toNatClampNeg (v2 + v5)))))]) (st1 := []) rfl ?_
    refine X_brq (fun hb => ?_) (fun hb => ?_)
    · have hw := hw.1 hb
      refine X_run 1 (i1 := 47) (L1 := [some (.inr (.inr v0)), some (.inr (.inr v1)), some (.inl v2), some (.inl v3), some (.inl v4), some (.inl v5), some (.inr (.inr (aRF (sD s) (gR (sD s) v1 1) (Int32.toNatClampNeg (v2 + v5)))))]) (st1 := [.inr (.inr v0)]) rfl ?_
      obtain ⟨hc, hw⟩ := hw
      refine X_dR rfl hc rfl ?_
      show X _ _ 48 [some (.inr (.inr v0)), some (.inr (.inr v1)), some (.inl v2), some (.inl v3), some (.inl v4), some (.inl v5), some (.inr (.inr (aRF (sD s) (gR (sD s) v1 1) (Int32.toNatClampNeg (v2 + v5)))))] [.inr (.inr (gR (sD s) v0 1))] (hp s) _
      refine X_run 4 (i1 := 52) (L1 := [some (.inr (.inr v0)), some (.inr (.inr v1)), some (.inl v2), some (.inl v3), some (.inl v4), some (.inl v5), some (.inr (.inr (aRF (sD s) (gR (sD s) v1 1) (Int32.toNatClampNeg (v2 + v5)))))]) (st1 := [.inr (.inr (aRF (sD s) (gR (sD s) v1 1) (Int32.toNatClampNeg (v2 + v5)))), .inl (v3 + v5), .inr (.inr (gR (sD s) v0 1))]) rfl ?_
      obtain ⟨hc, hw⟩ := hw
      obtain ⟨hin, hw⟩ := hw
      obtain ⟨hv, hw⟩ := hw
      refine X_dsR rfl hc hin hv ?_
      show X _ _ 53 [some (.inr (.inr v0)), some (.inr (.inr v1)), some (.inl v2), some (.inl v3), some (.inl v4), some (.inl v5), some (.inr (.inr (aRF (sD s) (gR (sD s) v1 1) (Int32.toNatClampNeg (v2 + v5)))))] [] (hp (pQ s (dR (sD s) (gR (sD s) v0 1) (va_up (aRF (sD s) (gR (sD s) v0 1)) (Int32.toNatClampNeg (v3 + v5)) (aRF (sD s) (gR (sD s) v1 1) (Int32.toNatClampNeg (v2 + v5))))) (sN s) (sU s))) _
      show X _ _ 53 [some (.inr (.inr v0)), some (.inr (.inr v1)), some (.inl v2), some (.inl v3), some (.inl v4), some (.inl v5), some (.inr (.inr (aRF (sD s) (gR (sD s) v1 1) (Int32.toNatClampNeg (v2 + v5)))))] [] (hp (pQ s (dR (sD s) (gR (sD s) v0 1) (va_up (aRF (sD s) (gR (sD s) v0 1)) (Int32.toNatClampNeg (v3 + v5)) (aRF (sD s) (gR (sD s) v1 1) (Int32.toNatClampNeg (v2 + v5))))) (sN s) (sU s))) _
      refine X_mask [true, true, true, true, true, true, false] ?_
      exact hlp.2 (pQ s (dR (sD s) (gR (sD s) v0 1) (va_up (aRF (sD s) (gR (sD s) v0 1)) (Int32.toNatClampNeg (v3 + v5)) (aRF (sD s) (gR (sD s) v1 1) (Int32.toNatClampNeg (v2 + v5))))) (sN s) (sU s)) v0 v1 v2 v3 v4 v5 hw
    · skip
      refine X_run 1 (i1 := 45) (L1 := [some (.inr (.inr v0)), some (.inr (.inr v1)), some (.inl v2), some (.inl v3), some (.inl v4), some (.inl v5), some (.inr (.inr (aRF (sD s) (gR (sD s) v1 1) (Int32.toNatClampNeg (v2 + v5)))))]) (st1 := [.inl (0 : Int32)]) rfl ?_
      exact X_zret rfl rfl (b2i_01 false) qBs_i
def b_Sh_takeFrom_53 (fu : Nat) (lp : LT_Sh_takeFrom_30) (s : St) (v0 : Option Nat) (v1 : Option Nat) (v2 : Int32) (v3 : Int32) (v4 : Int32) (v5 : Int32) : Bool × St := (lp.1 s v0 v1 v2 v3 v4 (v5 + Int32.ofInt (1)))
def v_Sh_takeFrom_53 (fu : Nat) (lp : LT_Sh_takeFrom_30) (wlp : LW_Sh_takeFrom_30) (s : St) (v0 : Option Nat) (v1 : Option Nat) (v2 : Int32) (v3 : Int32) (v4 : Int32) (v5 : Int32) : Prop := (wlp.1 s v0 v1 v2 v3 v4 (v5 + Int32.ofInt (1)))
theorem cb_Sh_takeFrom_53 {d : Nat} (fu : Nat) {lp : LT_Sh_takeFrom_30} {wlp : LW_Sh_takeFrom_30} (hlp : hl_Sh_takeFrom_30 (d + 2) lp wlp) (s : St) (v0 : Option Nat) (v1 : Option Nat) (v2 : Int32) (v3 : Int32) (v4 : Int32) (v5 : Int32) (hw : v_Sh_takeFrom_53 fu lp wlp s v0 v1 v2 v3 v4 v5) : X m_Sh_takeFrom (d + 2) 53 [some (.inr (.inr v0)), some (.inr (.inr v1)), some (.inl v2), some (.inl v3), some (.inl v4), some (.inl v5), none] [] (hp s) (qBs (b_Sh_takeFrom_53 fu lp s v0 v1 v2 v3 v4 v5)) := by
  unfold b_Sh_takeFrom_53
  unfold v_Sh_takeFrom_53 at hw
  refine X_run 2 (i1 := 30) (L1 := [some (.inr (.inr v0)), some (.inr (.inr v1)), some (.inl v2), some (.inl v3), some (.inl v4), some (.inl (v5 + Int32.ofInt (1))), none]) (st1 := []) rfl ?_
  exact hlp.1 s v0 v1 v2 v3 v4 (v5 + Int32.ofInt (1)) hw
def T_Sh_takeFrom_30 (fu : Nat) : Nat → LT_Sh_takeFrom_30
  | 0 => (fun s _ _ _ _ _ _ => (false, s), fun s _ _ _ _ _ _ => (false, s))
  | n + 1 => (fun s v0 v1 v2 v3 v4 v5 => b_Sh_takeFrom_30 fu (T_Sh_takeFrom_30 fu n) s v0 v1 v2 v3 v4 v5, fun s v0 v1 v2 v3 v4 v5 => b_Sh_takeFrom_53 fu (T_Sh_takeFrom_30 fu n) s v0 v1 v2 v3 v4 v5)
def WT_Sh_takeFrom_30 (fu : Nat) : Nat → LW_Sh_takeFrom_30
  | 0 => (fun _ _ _ _ _ _ _ => False, fun _ _ _ _ _ _ _ => False)
  | n + 1 => (fun s v0 v1 v2 v3 v4 v5 => v_Sh_takeFrom_30 fu (T_Sh_takeFrom_30 fu n) (WT_Sh_takeFrom_30 fu n) s v0 v1 v2 v3 v4 v5, fun s v0 v1 v2 v3 v4 v5 => v_Sh_takeFrom_53 fu (T_Sh_takeFrom_30 fu n) (WT_Sh_takeFrom_30 fu n) s v0 v1 v2 v3 v4 v5)
theorem cT_Sh_takeFrom_30 {d : Nat} (fu : Nat) : ∀ n : Nat, hl_Sh_takeFrom_30 (d + 2) (T_Sh_takeFrom_30 fu n) (WT_Sh_takeFrom_30 fu n)
  | 0 => ⟨fun _ _ _ _ _ _ _ hw => hw.elim, fun _ _ _ _ _ _ _ hw => hw.elim⟩
  | n + 1 => ⟨fun s v0 v1 v2 v3 v4 v5 hw => cb_Sh_takeFrom_30 fu (cT_Sh_takeFrom_30 fu n) s v0 v1 v2 v3 v4 v5 hw, fun s v0 v1 v2 v3 v4 v5 hw => cb_Sh_takeFrom_53 fu (cT_Sh_takeFrom_30 fu n) s v0 v1 v2 v3 v4 v5 hw⟩
def t_Sh_takeFrom_28 (fu : Nat) (s : St) (v0 : Option Nat) (v1 : Option Nat) (v2 : Int32) (v3 : Int32) (v4 : Int32) : Bool × St := ((T_Sh_takeFrom_30 fu fu).1 s v0 v1 v2 v3 v4 (0 : Int32))
def w_Sh_takeFrom_28 (fu : Nat) (s : St) (v0 : Option Nat) (v1 : Option Nat) (v2 : Int32) (v3 : Int32) (v4 : Int32) : Prop := ((WT_Sh_takeFrom_30 fu fu).1 s v0 v1 v2 v3 v4 (0 : Int32))
theorem ct_Sh_takeFrom_28 {d : Nat} (fu : Nat) (s : St) (v0 : Option Nat) (v1 : Option Nat) (v2 : Int32) (v3 : Int32) (v4 : Int32) (hw : w_Sh_takeFrom_28 fu s v0 v1 v2 v3 v4) : X m_Sh_takeFrom (d + 2) 28 [some (.inr (.inr v0)), some (.inr (.inr v1)), some (.inl v2), some (.inl v3), some (.inl v4), none, none] [] (hp s) (qBs (t_Sh_takeFrom_28 fu s v0 v1 v2 v3 v4)) := by
  unfold t_Sh_takeFrom_28
  unfold w_Sh_takeFrom_28 at hw
  refine X_run 2 (i1 := 30) (L1 := [some (.inr (.inr v0)), some (.inr (.inr v1)), some (.inl v2), some (.inl v3), some (.inl v4), some (.inl (0 : Int32)), none]) (st1 := []) rfl ?_
  exact (cT_Sh_takeFrom_30 fu fu).1 s v0 v1 v2 v3 v4 (0 : Int32) hw
abbrev LT_Sh_takeFrom_10 : Type := (St → Option Nat → Int32 → Int32 → Int32 → Bool × St) × (St → Option Nat → Int32 → Int32 → Int32 → Bool × St)
abbrev LW_Sh_takeFrom_10 : Type := (St → Option Nat → Int32 → Int32 → Int32 → Prop) × (St → Option Nat → Int32 → Int32 → Int32 → Prop)
def hl_Sh_takeFrom_10 (d : Nat) (lp : LT_Sh_takeFrom_10) (wlp : LW_Sh_takeFrom_10) : Prop := (∀ (s : St) (v0 : Option Nat) (v2 : Int32) (v3 : Int32) (v5 : Int32), wlp.1 s v0 v2 v3 v5 → X m_Sh_takeFrom d 10 [some (.inr (.inr v0)), none, some (.inl v2), some (.inl v3), none, some (.inl v5), none] [] (hp s) (qBs (lp.1 s v0 v2 v3 v5))) ∧ (∀ (s : St) (v0 : Option Nat) (v2 : Int32) (v3 : Int32) (v5 : Int32), wlp.2 s v0 v2 v3 v5 → X m_Sh_takeFrom d 24 [some (.inr (.inr v0)), none, some (.inl v2), some (.inl v3), none, some (.inl v5), none] [] (hp s) (qBs (lp.2 s v0 v2 v3 v5)))
def b_Sh_takeFrom_10 (fu : Nat) (lp : LT_Sh_takeFrom_10) (s : St) (v0 : Option Nat) (v2 : Int32) (v3 : Int32) (v5 : Int32) : Bool × St := (cond (cn1 .lt v5) (true, s) (lp.2 (pQ s (dR (sD s) (gR (sD s) v0 1) (va_up (aRF (sD s) (gR (sD s) v0 1)) (Int32.toNatClampNeg (v3 + v5)) (aRF (sD s) (gR (sD s) v0 1) (Int32.toNatClampNeg (v2 + v5))))) (sN s) (sU s)) v0 v2 v3 v5))
def v_Sh_takeFrom_10 (fu : Nat) (lp : LT_Sh_takeFrom_10) (wlp : LW_Sh_takeFrom_10) (s : St) (v0 : Option Nat) (v2 : Int32) (v3 : Int32) (v5 : Int32) : Prop := ((cn1 .lt v5) = true → True) ∧ ((cn1 .lt v5) = false → (ob (sD s) v0 7 ∧ (ob (sD s) v0 7 ∧ (isR (sD s) (gR (sD s) v0 1) ∧ (vp_in (v2 + v5) (aRN (sD s) (gR (sD s) v0 1)) ∧ (isR (sD s) (gR (sD s) v0 1) ∧ (vp_in (v3 + v5) (aRN (sD s) (gR (sD s) v0 1)) ∧ (tho (sD s) (aRF (sD s) (gR (sD s) v0 1) (Int32.toNatClampNeg (v2 + v5))) ∧ (wlp.2 (pQ s (dR (sD s) (gR (sD s) v0 1) (va_up (aRF (sD s) (gR (sD s) v0 1)) (Int32.toNatClampNeg (v3 + v5)) (aRF (sD s) (gR (sD s) v0 1) (Int32.toNatClampNeg (v2 + v5))))) (sN s) (sU s)) v0 v2 v3 v5)))))))))
theorem cb_Sh_takeFrom_10 {d : Nat} (fu : Nat) {lp : LT_Sh_takeFrom_10} {wlp : LW_Sh_takeFrom_10} (hlp : hl_Sh_takeFrom_10 (d + 2) lp wlp) (s : St) (v0 : Option Nat) (v2 : Int32) (v3 : Int32) (v5 : Int32) (hw : v_Sh_takeFrom_10 fu lp wlp s v0 v2 v3 v5) : X m_Sh_takeFrom (d + 2) 10 [some (.inr (.inr v0)), none, some (.inl v2), some (.inl v3), none, some (.inl v5), none] [] (hp s) (qBs (b_Sh_takeFrom_10 fu lp s v0 v2 v3 v5)) := by
  unfold b_Sh_takeFrom_10
  unfold v_Sh_takeFrom_10 at hw
  refine X_run 2 (i1 := cond (cn1 .lt v5) 26 12) (L1 := [some (.inr (.inr v0)), none, some (.inl v2), some (.inl v3), none, some (.inl v5), none]) (st1 := []) rfl ?_
  refine X_brq (fun hb => ?_) (fun hb => ?_)
  · skip
    refine X_run 1 (i1 := 27) (L1 := [some (.inr (.inr v0)), none, some (.inl v2), some (.inl v3), none, some (.inl v5), none]) (st1 := [.inl (1 : Int32)]) rfl ?_
    exact X_zret rfl rfl (b2i_01 true) qBs_i
  · have hw := hw.2 hb
    refine X_run 1 (i1 := 13) (L1 := [some (.inr (.inr v0)), none, some (.inl v2), some (.inl v3), none, some (.inl v5), none]) (st1 := [.inr (.inr v0)]) rfl ?_
    obtain ⟨hc, hw⟩ := hw
    refine X_dR rfl hc rfl ?_
    show X _ _ 14 [some (.inr (.inr v0)), none, some (.inl v2), some (.inl v3), none, some (.inl v5), none] [.inr (.inr (gR (sD s) v0 1))] (hp s) _
    refine X_run 4 (i1 := 18) (L1 := [some (.inr (.inr v0)), none, some (.inl v2), some (.inl v3), none, some (.inl v5), none]) (st1 := [.inr (.inr v0), .inl (v3 + v5), .inr (.inr (gR (sD s) v0 1))]) rfl ?_
    obtain ⟨hc, hw⟩ := hw
    refine X_dR rfl hc rfl ?_
    show X _ _ 19 [some (.inr (.inr v0)), none, some (.inl v2), some (.inl v3), none, some (.inl v5), none] [.inr (.inr (gR (sD s) v0 1)), .inl (v3 + v5), .inr (.inr (gR (sD s) v0 1))] (hp s) _
    refine X_run 3 (i1 := 22) (L1 := [some (.inr (.inr v0)), none, some (.inl v2), some (.inl v3), none, some (.inl v5), none]) (st1 := [.inl (v2 + v5), .inr (.inr (gR (sD s) v0 1)), .inl (v3 + v5), .inr (.inr (gR (sD s) v0 1))]) rfl ?_
    obtain ⟨hc, hw⟩ := hw
    obtain ⟨hin, hw⟩ := hw
    refine X_daR rfl hc hin ?_
    show X _ _ 23 [some (.inr (.inr v0)), none, some (.inl v2), some (.inl v3), none, some (.inl v5), none] [.inr (.inr (aRF (sD s) (gR (sD s) v0 1) (Int32.toNatClampNeg (v2 + v5)))), .inl (v3 + v5), .inr (.inr (gR (sD s) v0 1))] (hp s) _
    obtain ⟨hc, hw⟩ := hw
    obtain ⟨hin, hw⟩ := hw
    obtain ⟨hv, hw⟩ := hw
    refine X_dsR rfl hc hin hv ?_
    show X _ _ 24 [some (.inr (.inr v0)), none, some (.inl v2), some (.inl v3), none, some (.inl v5), none] [] (hp (pQ s (dR (sD s) (gR (sD s) v0 1) (va_up (aRF (sD s) (gR (sD s) v0 1)) (Int32.toNatClampNeg (v3 + v5)) (aRF (sD s) (gR (sD s) v0 1) (Int32.toNatClampNeg (v2 + v5))))) (sN s) (sU s))) _
    show X _ _ 24 [some (.inr (.inr v0)), none, some (.inl v2), some (.inl v3), none, some (.inl v5), none] [] (hp (pQ s (dR (sD s) (gR (sD s) v0 1) (va_up (aRF (sD s) (gR (sD s) v0 1)) (Int32.toNatClampNeg (v3 + v5)) (aRF (sD s) (gR (sD s) v0 1) (Int32.toNatClampNeg (v2 + v5))))) (sN s) (sU s))) _
    exact hlp.2 (pQ s (dR (sD s) (gR (sD s) v0 1) (va_up (aRF (sD s) (gR (sD s) v0 1)) (Int32.toNatClampNeg (v3 + v5)) (aRF (sD s) (gR (sD s) v0 1) (Int32.toNatClampNeg (v2 + v5))))) (sN s) (sU s)) v0 v2 v3 v5 hw
def b_Sh_takeFrom_24 (fu : Nat) (lp : LT_Sh_takeFrom_10) (s : St) (v0 : Option Nat) (v2 : Int32) (v3 : Int32) (v5 : Int32) : Bool × St := (lp.1 s v0 v2 v3 (v5 + Int32.ofInt (-1)))
def v_Sh_takeFrom_24 (fu : Nat) (lp : LT_Sh_takeFrom_10) (wlp : LW_Sh_takeFrom_10) (s : St) (v0 : Option Nat) (v2 : Int32) (v3 : Int32) (v5 : Int32) : Prop := (wlp.1 s v0 v2 v3 (v5 + Int32.ofInt (-1)))
theorem cb_Sh_takeFrom_24 {d : Nat} (fu : Nat) {lp : LT_Sh_takeFrom_10} {wlp : LW_Sh_takeFrom_10} (hlp : hl_Sh_takeFrom_10 (d + 2) lp wlp) (s : St) (v0 : Option Nat) (v2 : Int32) (v3 : Int32) (v5 : Int32) (hw : v_Sh_takeFrom_24 fu lp wlp s v0 v2 v3 v5) : X m_Sh_takeFrom (d + 2) 24 [some (.inr (.inr v0)), none, some (.inl v2), some (.inl v3), none, some (.inl v5), none] [] (hp s) (qBs (b_Sh_takeFrom_24 fu lp s v0 v2 v3 v5)) := by
  unfold b_Sh_takeFrom_24
  unfold v_Sh_takeFrom_24 at hw
  refine X_run 2 (i1 := 10) (L1 := [some (.inr (.inr v0)), none, some (.inl v2), some (.inl v3), none, some (.inl (v5 + Int32.ofInt (-1))), none]) (st1 := []) rfl ?_
  exact hlp.1 s v0 v2 v3 (v5 + Int32.ofInt (-1)) hw
def T_Sh_takeFrom_10 (fu : Nat) : Nat → LT_Sh_takeFrom_10
  | 0 => (fun s _ _ _ _ => (false, s), fun s _ _ _ _ => (false, s))
  | n + 1 => (fun s v0 v2 v3 v5 => b_Sh_takeFrom_10 fu (T_Sh_takeFrom_10 fu n) s v0 v2 v3 v5, fun s v0 v2 v3 v5 => b_Sh_takeFrom_24 fu (T_Sh_takeFrom_10 fu n) s v0 v2 v3 v5)
def WT_Sh_takeFrom_10 (fu : Nat) : Nat → LW_Sh_takeFrom_10
  | 0 => (fun _ _ _ _ _ => False, fun _ _ _ _ _ => False)
  | n + 1 => (fun s v0 v2 v3 v5 => v_Sh_takeFrom_10 fu (T_Sh_takeFrom_10 fu n) (WT_Sh_takeFrom_10 fu n) s v0 v2 v3 v5, fun s v0 v2 v3 v5 => v_Sh_takeFrom_24 fu (T_Sh_takeFrom_10 fu n) (WT_Sh_takeFrom_10 fu n) s v0 v2 v3 v5)
theorem cT_Sh_takeFrom_10 {d : Nat} (fu : Nat) : ∀ n : Nat, hl_Sh_takeFrom_10 (d + 2) (T_Sh_takeFrom_10 fu n) (WT_Sh_takeFrom_10 fu n)
  | 0 => ⟨fun _ _ _ _ _ hw => hw.elim, fun _ _ _ _ _ hw => hw.elim⟩
  | n + 1 => ⟨fun s v0 v2 v3 v5 hw => cb_Sh_takeFrom_10 fu (cT_Sh_takeFrom_10 fu n) s v0 v2 v3 v5 hw, fun s v0 v2 v3 v5 hw => cb_Sh_takeFrom_24 fu (cT_Sh_takeFrom_10 fu n) s v0 v2 v3 v5 hw⟩
def f_Sh_takeFrom (fu : Nat) (s : St) (o : Option Nat) (a0 : Option Nat) (a1 : Int32) (a2 : Int32) (a3 : Int32) : Bool × St := (if a0 = o then (cond (cn2 .ge a1 a2) (t_Sh_takeFrom_28 fu s o a0 a1 a2 a3) ((T_Sh_takeFrom_10 fu fu).1 s o a1 a2 (a3 - (1 : Int32)))) else (t_Sh_takeFrom_28 fu s o a0 a1 a2 a3))
def w_Sh_takeFrom (fu : Nat) (s : St) (o : Option Nat) (a0 : Option Nat) (a1 : Int32) (a2 : Int32) (a3 : Int32) : Prop := (lx a0 ∧ (lx o ∧ ((a0 = o → ((cn2 .ge a1 a2) = true → (w_Sh_takeFrom_28 fu s o a0 a1 a2 a3)) ∧ ((cn2 .ge a1 a2) = false → ((WT_Sh_takeFrom_10 fu fu).1 s o a1 a2 (a3 - (1 : Int32))))) ∧ (¬ a0 = o → (w_Sh_takeFrom_28 fu s o a0 a1 a2 a3)))))
theorem c_Sh_takeFrom {d : Nat} (fu : Nat) (s : St) (o : Option Nat) (a0 : Option Nat) (a1 : Int32) (a2 : Int32) (a3 : Int32) (hw : w_Sh_takeFrom fu s o a0 a1 a2 a3) : X m_Sh_takeFrom (d + 2) 0 (entL 7 [.inr (.inr o), .inr (.inr a0), .inl a1, .inl a2, .inl a3]) [] (hp s) (qBs (f_Sh_takeFrom fu s o a0 a1 a2 a3)) := by
  unfold f_Sh_takeFrom
  unfold w_Sh_takeFrom at hw
  refine X_run 2 (i1 := 2) (L1 := [some (.inr (.inr o)), some (.inr (.inr a0)), some (.inl a1), some (.inl a2), some (.inl a3), none, none]) (st1 := [.inr (.inr o), .inr (.inr a0)]) rfl ?_
  obtain ⟨h1, hw⟩ := hw
  obtain ⟨h2, hw⟩ := hw
  refine X_acq rfl h1 h2 (fun hb => ?_) (fun hb => ?_)
  · have hw := hw.1 hb
    refine X_run 3 (i1 := cond (cn2 .ge a1 a2) 28 6) (L1 := [some (.inr (.inr o)), some (.inr (.inr a0)), some (.inl a1), some (.inl a2), some (.inl a3), none, none]) (st1 := []) rfl ?_
    refine X_brq (fun hb => ?_) (fun hb => ?_)
    · have hw := hw.1 hb
      exact ct_Sh_takeFrom_28 fu s o a0 a1 a2 a3 hw
    · have hw := hw.2 hb
      refine X_run 4 (i1 := 10) (L1 := [some (.inr (.inr o)), some (.inr (.inr a0)), some (.inl a1), some (.inl a2), some (.inl a3), some (.inl (a3 - (1 : Int32))), none]) (st1 := []) rfl ?_
      refine X_mask [true, false, true, true, false, true, true] ?_
      exact (cT_Sh_takeFrom_10 fu fu).1 s o a1 a2 (a3 - (1 : Int32)) hw
  · have hw := hw.2 hb
    exact ct_Sh_takeFrom_28 fu s o a0 a1 a2 a3 hw
def u_told (s : St) (o : Option Nat) (a0 : Int32) : Int64 := if oC (sD s) o = some 4 then f_Pa_told s o a0 else if oC (sD s) o = some 6 then f_Ro_told s o a0 else if oC (sD s) o = some 7 then f_Sh_told s o a0 else f_Tr_told s o a0
def wu_told (s : St) (o : Option Nat) (a0 : Int32) : Prop := (oC (sD s) o = some 4 ∧ w_Pa_told s o a0) ∨ (oC (sD s) o = some 6 ∧ w_Ro_told s o a0) ∨ (oC (sD s) o = some 7 ∧ w_Sh_told s o a0) ∨ (oC (sD s) o = some 8 ∧ w_Tr_told s o a0)
theorem X_utold {m : MI} {d i : Nat} {L : AL} {st : List AV} {Q : Option AV → AP → Prop} {pc : Nat} {ps : List Nat} {s : St} {o : Option Nat} {a0 : Int32} (hq : (mi_cd m)[i]? = some (pc, .invokeinterface 2 0, ps)) (hst : (st.map av_c).sum ≤ 8) (hw : wu_told s o a0) (k : X m (d + 2) (i + 1) L (.inr (.inl (u_told s o a0)) :: st) (hp s) Q) : X m (d + 2) i L (.inl a0 :: .inr (.inr o) :: st) (hp s) Q := by
  rcases hw with ⟨h, hw⟩ | ⟨h, hw⟩ | ⟨h, hw⟩ | ⟨h, hw⟩
  · have e : u_told s o a0 = f_Pa_told s o a0 := by unfold u_told; rw [if_pos h]
    rw [e] at k
    refine X_dcallu m_Pa_told (As := [.inl a0]) (st := st) (e5 := (1307, 1308)) ok_Pa_told hq (by decide) rfl h (Nat.le_of_ble_eq_true rfl) hst (c_Pa_told (d := d + 1) s o a0 hw) ?_
    rintro _ _ ⟨rfl, rfl⟩
    exact k
  · have e : u_told s o a0 = f_Ro_told s o a0 := by unfold u_told; rw [if_neg (by rw [h]; decide), if_pos h]
    rw [e] at k
    refine X_dcallu m_Ro_told (As := [.inl a0]) (st := st) (e5 := (1310, 1311)) ok_Ro_told hq (by decide) rfl h (Nat.le_of_ble_eq_true rfl) hst (c_Ro_told (d := d + 1) s o a0 hw) ?_
    rintro _ _ ⟨rfl, rfl⟩
    exact k
  · have e : u_told s o a0 = f_Sh_told s o a0 := by unfold u_told; rw [if_neg (by rw [h]; decide), if_neg (by rw [h]; decide), if_pos h]
    rw [e] at k
    refine X_dcallu m_Sh_told (As := [.inl a0]) (st := st) (e5 := (1314, 1315)) ok_Sh_told hq (by decide) rfl h (Nat.le_of_ble_eq_true rfl) hst (c_Sh_told (d := d) s o a0 hw) ?_
    rintro _ _ ⟨rfl, rfl⟩
    exact k
  · have e : u_told s o a0 = f_Tr_told s o a0 := by unfold u_told; rw [if_neg (by rw [h]; decide), if_neg (by rw [h]; decide), if_neg (by rw [h]; decide)]
    rw [e] at k
    refine X_dcallu m_Tr_told (As := [.inl a0]) (st := st) (e5 := (1319, 1320)) ok_Tr_told hq (by decide) rfl h (Nat.le_of_ble_eq_true rfl) hst (c_Tr_told (d := d + 1) s o a0 hw) ?_
    rintro _ _ ⟨rfl, rfl⟩
    exact k
def u_twin (fu : Nat) (s : St) (o : Option Nat) : Option Nat × St := if oC (sD s) o = some 4 then (f_Th_twin s o, s) else if oC (sD s) o = some 6 then f_Ro_twin s o else if oC (sD s) o = some 7 then f_Sh_twin fu s o else (f_Th_twin s o, s)
def wu_twin (fu : Nat) (s : St) (o : Option Nat) : Prop := (oC (sD s) o = some 4 ∧ w_Th_twin s o) ∨ (oC (sD s) o = some 6 ∧ w_Ro_twin s o) ∨ (oC (sD s) o = some 7 ∧ w_Sh_twin fu s o) ∨ (oC (sD s) o = some 8 ∧ w_Th_twin s o)
theorem X_utwin {m : MI} {d i : Nat} {L : AL} {st : List AV} {Q : Option AV → AP → Prop} {pc : Nat} {ps : List Nat} {fu : Nat} {s : St} {o : Option Nat} (hq : (mi_cd m)[i]? = some (pc, .invokeinterface 4 0, ps)) (hst : (st.map av_c).sum ≤ 8) (hw : wu_twin fu s o) (k : X m (d + 4) (i + 1) L (.inr (.inr (u_twin fu s o).1) :: st) (hp (u_twin fu s o).2) Q) : X m (d + 4) i L (.inr (.inr o) :: st) (hp s) Q := by
  rcases hw with ⟨h, hw⟩ | ⟨h, hw⟩ | ⟨h, hw⟩ | ⟨h, hw⟩
  · have e : u_twin fu s o = (f_Th_twin s o, s) := by unfold u_twin; rw [if_pos h]
    rw [e] at k
    refine X_dcallu m_Th_twin (As := []) (st := st) (e5 := (849, 847)) ok_Th_twin hq (by decide) rfl h (Nat.le_of_ble_eq_true rfl) hst (c_Th_twin (d := d + 3) s o hw) ?_
    rintro _ _ ⟨rfl, rfl⟩
    exact k
  · have e : u_twin fu s o = f_Ro_twin s o := by unfold u_twin; rw [if_neg (by rw [h]; decide), if_pos h]
    rw [e] at k
    refine X_dcallu m_Ro_twin (As := []) (st := st) (e5 := (850, 851)) ok_Ro_twin hq (by decide) rfl h (Nat.le_of_ble_eq_true rfl) hst (c_Ro_twin (d := d) s o hw) ?_
    rintro _ _ ⟨rfl, rfl⟩
    exact k
  · have e : u_twin fu s o = f_Sh_twin fu s o := by unfold u_twin; rw [if_neg (by rw [h]; decide), if_neg (by rw [h]; decide), if_pos h]
    rw [e] at k
    refine X_dcallu m_Sh_twin (As := []) (st := st) (e5 := (854, 855)) ok_Sh_twin hq (by decide) rfl h (Nat.le_of_ble_eq_true rfl) hst (c_Sh_twin (d := d) fu s o hw) ?_
    rintro _ _ ⟨rfl, rfl⟩
    exact k
  · have e : u_twin fu s o = (f_Th_twin s o, s) := by unfold u_twin; rw [if_neg (by rw [h]; decide), if_neg (by rw [h]; decide), if_neg (by rw [h]; decide)]
    rw [e] at k
    refine X_dcallu m_Th_twin (As := []) (st := st) (e5 := (859, 847)) ok_Th_twin hq (by decide) rfl h (Nat.le_of_ble_eq_true rfl) hst (c_Th_twin (d := d + 3) s o hw) ?_
    rintro _ _ ⟨rfl, rfl⟩
    exact k
def u_putBack (fu : Nat) (s : St) (o : Option Nat) (a0 : Option Nat) : St := if oC (sD s) o = some 4 then f_Th_putBack s o a0 else if oC (sD s) o = some 6 then f_Ro_putBack s o a0 else if oC (sD s) o = some 7 then f_Sh_putBack fu s o a0 else f_Th_putBack s o a0
def wu_putBack (fu : Nat) (s : St) (o : Option Nat) (a0 : Option Nat) : Prop := (oC (sD s) o = some 4 ∧ w_Th_putBack s o a0) ∨ (oC (sD s) o = some 6 ∧ w_Ro_putBack s o a0) ∨ (oC (sD s) o = some 7 ∧ w_Sh_putBack fu s o a0) ∨ (oC (sD s) o = some 8 ∧ w_Th_putBack s o a0)
theorem X_uputBack {m : MI} {d i : Nat} {L : AL} {st : List AV} {Q : Option AV → AP → Prop} {pc : Nat} {ps : List Nat} {fu : Nat} {s : St} {o : Option Nat} {a0 : Option Nat} (hq : (mi_cd m)[i]? = some (pc, .invokeinterface 5 0, ps)) (hst : (st.map av_c).sum ≤ 8) (hw : wu_putBack fu s o a0) (k : X m (d + 2) (i + 1) L st (hp (u_putBack fu s o a0)) Q) : X m (d + 2) i L (.inr (.inr a0) :: .inr (.inr o) :: st) (hp s) Q := by
  rcases hw with ⟨h, hw⟩ | ⟨h, hw⟩ | ⟨h, hw⟩ | ⟨h, hw⟩
  · have e : u_putBack fu s o a0 = f_Th_putBack s o a0 := by unfold u_putBack; rw [if_pos h]
    rw [e] at k
    refine X_dcallu m_Th_putBack (As := [.inr (.inr a0)]) (st := st) (e5 := (786, 784)) ok_Th_putBack hq (by decide) rfl h (Nat.le_of_ble_eq_true rfl) hst (c_Th_putBack (d := d + 1) s o a0 hw) ?_
    rintro _ _ ⟨rfl, rfl⟩
    exact k
  · have e : u_putBack fu s o a0 = f_Ro_putBack s o a0 := by unfold u_putBack; rw [if_neg (by rw [h]; decide), if_pos h]
    rw [e] at k
    refine X_dcallu m_Ro_putBack (As := [.inr (.inr a0)]) (st := st) (e5 := (787, 788)) ok_Ro_putBack hq (by decide) rfl h (Nat.le_of_ble_eq_true rfl) hst (c_Ro_putBack (d := d) s o a0 hw) ?_
    rintro _ _ ⟨rfl, rfl⟩
    exact k
  · have e : u_putBack fu s o a0 = f_Sh_putBack fu s o a0 := by unfold u_putBack; rw [if_neg (by rw [h]; decide), if_neg (by rw [h]; decide), if_pos h]
    rw [e] at k
    refine X_dcallu m_Sh_putBack (As := [.inr (.inr a0)]) (st := st) (e5 := (792, 793)) ok_Sh_putBack hq (by decide) rfl h (Nat.le_of_ble_eq_true rfl) hst (c_Sh_putBack (d := d + 1) fu s o a0 hw) ?_
    rintro _ _ ⟨rfl, rfl⟩
    exact k
  · have e : u_putBack fu s o a0 = f_Th_putBack s o a0 := by unfold u_putBack; rw [if_neg (by rw [h]; decide), if_neg (by rw [h]; decide), if_neg (by rw [h]; decide)]
    rw [e] at k
    refine X_dcallu m_Th_putBack (As := [.inr (.inr a0)]) (st := st) (e5 := (796, 784)) ok_Th_putBack hq (by decide) rfl h (Nat.le_of_ble_eq_true rfl) hst (c_Th_putBack (d := d + 1) s o a0 hw) ?_
    rintro _ _ ⟨rfl, rfl⟩
    exact k
abbrev G_pweighs : Type := (St → Option Nat → Int32 → Int64 × St)
abbrev GW_pweighs : Type := (St → Option Nat → Int32 → Prop)
def hr_pweighs (d : Nat) (rec : G_pweighs) (wrec : GW_pweighs) : Prop := (∀ (s : St) (o : Option Nat) (a1 : Int32), wrec s o a1 → X m_Pa_weighs d 0 (entL 8 [.inr (.inr o), .inr (.inr (some 1)), .inl a1]) [] (hp s) (qLs (rec s o a1)))
abbrev LT_Pa_weighs_47 : Type := (St → Option Nat → Int32 → Int64 → Int32 → Int64 × St) × (St → Option Nat → Int32 → Int32 → Int64 → Int64 → Int64 × St) × (St → Option Nat → Int32 → Int64 → Int32 → Int64 × St)
abbrev LW_Pa_weighs_47 : Type := (St → Option Nat → Int32 → Int64 → Int32 → Prop) × (St → Option Nat → Int32 → Int32 → Int64 → Int64 → Prop) × (St → Option Nat → Int32 → Int64 → Int32 → Prop)
def hl_Pa_weighs_47 (d : Nat) (lp : LT_Pa_weighs_47) (wlp : LW_Pa_weighs_47) : Prop := (∀ (s : St) (v0 : Option Nat) (v2 : Int32) (v3 : Int64) (v5 : Int32), wlp.1 s v0 v2 v3 v5 → X m_Pa_weighs d 47 [some (.inr (.inr v0)), some (.inr (.inr (some 1))), some (.inl v2), some (.inr (.inl v3)), none, some (.inl v5), none, none] [] (hp s) (qLs (lp.1 s v0 v2 v3 v5))) ∧ (∀ (s : St) (v0 : Option Nat) (v2 : Int32) (v5 : Int32) (w0 : Int64) (w1 : Int64), wlp.2.1 s v0 v2 v5 w0 w1 → X m_Pa_weighs d 75 [some (.inr (.inr v0)), some (.inr (.inr (some 1))), some (.inl v2), none, none, some (.inl v5), none, none] [.inr (.inl w0), .inr (.inl w1)] (hp s) (qLs (lp.2.1 s v0 v2 v5 w0 w1))) ∧ (∀ (s : St) (v0 : Option Nat) (v2 : Int32) (v3 : Int64) (v5 : Int32), wlp.2.2 s v0 v2 v3 v5 → X m_Pa_weighs d 81 [some (.inr (.inr v0)), some (.inr (.inr (some 1))), some (.inl v2), some (.inr (.inl v3)), none, some (.inl v5), none, none] [] (hp s) (qLs (lp.2.2 s v0 v2 v3 v5)))
def b_Pa_weighs_47 (rec : G_pweighs) (fu : Nat) (lp : LT_Pa_weighs_47) (s : St) (v0 : Option Nat) (v2 : Int32) (v3 : Int64) (v5 : Int32) : Int64 × St := (cond (cn2 .ge v5 (Int32.ofNat (aRN (sD s) (gR (sD s) (gR (sD s) v0 4) 1)))) (v3, s) (cond (cn1 .ne (b2i (f_Le_stopped s))) (v3, s) (cond (cn1 .eq (b2i (isc (sD s) (aRF (sD s) (gR (sD s) (gR (sD s) v0 4) 1) (Int32.toNatClampNeg v5)) 0))) (lp.2.2 (f_Le_fault s (1 : Int32)) v0 v2 v3 v5) (lp.2.1 ((rec s (aRF (sD s) (gR (sD s) (gR (sD s) v0 4) 1) (Int32.toNatClampNeg v5)) (v2 + (1 : Int32))).2) v0 v2 v5 ((rec s (aRF (sD s) (gR (sD s) (gR (sD s) v0 4) 1) (Int32.toNatClampNeg v5)) (v2 + (1 : Int32))).1) v3))))
def v_Pa_weighs_47 (rec : G_pweighs) (wrec : GW_pweighs) (fu : Nat) (lp : LT_Pa_weighs_47) (wlp : LW_Pa_weighs_47) (s : St) (v0 : Option Nat) (v2 : Int32) (v3 : Int64) (v5 : Int32) : Prop := (ob (sD s) v0 4 ∧ (ob (sD s) (gR (sD s) v0 4) 7 ∧ (isR (sD s) (gR (sD s) (gR (sD s) v0 4) 1) ∧ ((cn2 .ge v5 (Int32.ofNat (aRN (sD s) (gR (sD s) (gR (sD s) v0 4) 1)))) = true → True) ∧ ((cn2 .ge v5 (Int32.ofNat (aRN (sD s) (gR (sD s) (gR (sD s) v0 4) 1)))) = false → (w_Le_stopped s ∧ ((cn1 .ne (b2i (f_Le_stopped s))) = true → True) ∧ ((cn1 .ne (b2i (f_Le_stopped s))) = false → (ob (sD s) v0 4 ∧ (ob (sD s) (gR (sD s) v0 4) 7 ∧ (isR (sD s) (gR (sD s) (gR (sD s) v0 4) 1) ∧ (vp_in v5 (aRN (sD s) (gR (sD s) (gR (sD s) v0 4) 1)) ∧ (tho (sD s) (aRF (sD s) (gR (sD s) (gR (sD s) v0 4) 1) (Int32.toNatClampNeg v5)) ∧ ((cn1 .eq (b2i (isc (sD s) (aRF (sD s) (gR (sD s) (gR (sD s) v0 4) 1) (Int32.toNatClampNeg v5)) 0))) = true → (w_Le_fault s (1 : Int32) ∧ (wlp.2.2 (f_Le_fault s (1 : Int32)) v0 v2 v3 v5))) ∧ ((cn1 .eq (b2i (isc (sD s) (aRF (sD s) (gR (sD s) (gR (sD s) v0 4) 1) (Int32.toNatClampNeg v5)) 0))) = false → (cst (sD s) (aRF (sD s) (gR (sD s) (gR (sD s) v0 4) 1) (Int32.toNatClampNeg v5)) 0 ∧ (wrec s (aRF (sD s) (gR (sD s) (gR (sD s) v0 4) 1) (Int32.toNatClampNeg v5)) (v2 + (1 : Int32)) ∧ (oC (sD s) (aRF (sD s) (gR (sD s) (gR (sD s) v0 4) 1) (Int32.toNatClampNeg v5)) = some 4 ∧ (wlp.2.1 ((rec s (aRF (sD s) (gR (sD s) (gR (sD s) v0 4) 1) (Int32.toNatClampNeg v5)) (v2 + (1 : Int32))).2) v0 v2 v5 ((rec s (aRF (sD s) (gR (sD s) (gR (sD s) v0 4) 1) (Int32.toNatClampNeg v5)) (v2 + (1 : Int32))).1) v3))))))))))))))))
theorem cb_Pa_weighs_47 {d : Nat} {rec : G_pweighs} {wrec : GW_pweighs} (hrec : hr_pweighs (d + 2) rec wrec) (fu : Nat) {lp : LT_Pa_weighs_47} {wlp : LW_Pa_weighs_47} (hlp : hl_Pa_weighs_47 (d + 3) lp wlp) (s : St) (v0 : Option Nat) (v2 : Int32) (v3 : Int64) (v5 : Int32) (hw : v_Pa_weighs_47 rec wrec fu lp wlp s v0 v2 v3 v5) : X m_Pa_weighs (d + 3) 47 [some (.inr (.inr v0)), some (.inr (.inr (some 1))), some (.inl v2), some (.inr (.inl v3)), none, some (.inl v5), none, none] [] (hp s) (qLs (b_Pa_weighs_47 rec fu lp s v0 v2 v3 v5)) := by
  unfold b_Pa_weighs_47
  unfold v_Pa_weighs_47 at hw
  refine X_run 2 (i1 := 49) (L1 := [some (.inr (.inr v0)), some (.inr (.inr (some 1))), some (.inl v2), some (.inr (.inl v3)), none, some (.inl v5), none, none]) (st1 := [.inr (.inr v0), .inl v5]) rfl ?_
  obtain ⟨hc, hw⟩ := hw
  refine X_dR rfl hc rfl ?_
  show X _ _ 50 [some (.inr (.inr v0)), some (.inr (.inr (some 1))), some (.inl v2), some (.inr (.inl v3)), none, some (.inl v5), none, none] [.inr (.inr (gR (sD s) v0 4)), .inl v5] (hp s) _
  obtain ⟨hc, hw⟩ := hw
  refine X_dR rfl hc rfl ?_
  show X _ _ 51 [some (.inr (.inr v0)), some (.inr (.inr (some 1))), some (.inl v2), some (.inr (.inl v3)), none, some (.inl v5), none, none] [.inr (.inr (gR (sD s) (gR (sD s) v0 4) 1)), .inl v5] (hp s) _
  obtain ⟨hc, hw⟩ := hw
  refine X_drlen rfl hc ?_
  show X _ _ 52 [some (.inr (.inr v0)), some (.inr (.inr (some 1))), some (.inl v2), some (.inr (.inl v3)), none, some (.inl v5), none, none] [.inl (Int32.ofNat (aRN (sD s) (gR (sD s) (gR (sD s) v0 4) 1))), .inl v5] (hp s) _
  refine X_run 1 (i1 := cond (cn2 .ge v5 (Int32.ofNat (aRN (sD s) (gR (sD s) (gR (sD s) v0 4) 1)))) 83 53) (L1 := [some (.inr (.inr v0)), some (.inr (.inr (some 1))), some (.inl v2), some (.inr (.inl v3)), none, some (.inl v5), none, none]) (st1 := []) rfl ?_
  refine X_brq (fun hb => ?_) (fun hb => ?_)
  · skip
    refine X_run 1 (i1 := 84) (L1 := [some (.inr (.inr v0)), some (.inr (.inr (some 1))), some (.inl v2), some (.inr (.inl v3)), none, some (.inl v5), none, none]) (st1 := [.inr (.inl v3)]) rfl ?_
    exact X_lret rfl rfl qLs_i
  · have hw := hw.2 hb
    refine X_run 1 (i1 := 54) (L1 := [some (.inr (.inr v0)), some (.inr (.inr (some 1))), some (.inl v2), some (.inr (.inl v3)), none, some (.inl v5), none, none]) (st1 := [.inr (.inr (some 1))]) rfl ?_
    obtain ⟨hc, hw⟩ := hw
    refine X_callv m_Le_stopped (As := []) (st := []) ok_Le_stopped rfl rfl rfl (hp_obj rfl) rfl (Nat.le_of_ble_eq_true rfl) (Nat.le_of_ble_eq_true rfl) (c_Le_stopped (d := d + 2) s hc) ?_
    rintro _ _ ⟨rfl, rfl⟩
    show X _ _ 55 [some (.inr (.inr v0)), some (.inr (.inr (some 1))), some (.inl v2), some (.inr (.inl v3)), none, some (.inl v5), none, none] [.inl (b2i (f_Le_stopped s))] (hp s) _
    refine X_run 1 (i1 := cond (cn1 .ne (b2i (f_Le_stopped s))) 83 56) (L1 := [some (.inr (.inr v0)), some (.inr (.inr (some 1))), some (.inl v2), some (.inr (.inl v3)), none, some (.inl v5), none, none]) (st1 := []) rfl ?_
    refine X_brq (fun hb => ?_) (fun hb => ?_)
    · skip
      refine X_run 1 (i1 := 84) (L1 := [some (.inr (.inr v0)), some (.inr (.inr (some 1))), some (.inl v2), some (.inr (.inl v3)), none, some (.inl v5), none, none]) (st1 := [.inr (.inl v3)]) rfl ?_
      exact X_lret rfl rfl qLs_i
    · have hw := hw.2 hb
      refine X_run 1 (i1 := 57) (L1 := [some (.inr (.inr v0)), some (.inr (.inr (some 1))), some (.inl v2), some (.inr (.inl v3)), none, some (.inl v5), none, none]) (st1 := [.inr (.inr v0)]) rfl ?_
      obtain ⟨hc, hw⟩ := hw
      refine X_dR rfl hc rfl ?_
      show X _ _ 58 [some (.inr (.inr v0)), some (.inr (.inr (some 1))), some (.inl v2), some (.inr (.inl v3)), none, some (.inl v5), none, none] [.inr (.inr (gR (sD s) v0 4))] (hp s) _
      obtain ⟨hc, hw⟩ := hw
      refine X_dR rfl hc rfl ?_
      show X _ _ 59 [some (.inr (.inr v0)), some (.inr (.inr (some 1))), some (.inl v2), some (.inr (.inl v3)), none, some (.inl v5), none, none] [.inr (.inr (gR (sD s) (gR (sD s) v0 4) 1))] (hp s) _
      refine X_run 1 (i1 := 60) (L1 := [some (.inr (.inr v0)), some (.inr (.inr (some 1))), some (.inl v2), some (.inr (.inl v3)), none, some (.inl v5), none, none]) (st1 := [.inl v5, .inr (.inr (gR (sD s) (gR (sD s) v0 4) 1))]) rfl ?_
      obtain ⟨hc, hw⟩ := hw
      obtain ⟨hin, hw⟩ := hw
      refine X_daR rfl hc hin ?_
      show X _ _ 61 [some (.inr (.inr v0)), some (.inr (.inr (some 1))), some (.inl v2), some (.inr (.inl v3)), none, some (.inl v5), none, none] [.inr (.inr (aRF (sD s) (gR (sD s) (gR (sD s) v0 4) 1) (Int32.toNatClampNeg v5)))] (hp s) _
      refine X_run 2 (i1 := 63) (L1 := [some (.inr (.inr v0)), some (.inr (.inr (some 1))), some (.inl v2), some (.inr (.inl v3)), none, some (.inl v5), none, some (.inr (.inr (aRF (sD s) (gR (sD s) (gR (sD s) v0 4) 1) (Int32.toNatClampNeg v5))))]) (st1 := [.inr (.inr (aRF (sD s) (gR (sD s) (gR (sD s) v0 4) 1) (Int32.toNatClampNeg v5)))]) rfl ?_
      obtain ⟨hc, hw⟩ := hw
      refine X_dinst rfl (by decide) hc ?_
      show X _ _ 64 [some (.inr (.inr v0)), some (.inr (.inr (some 1))), some (.inl v2), some (.inr (.inl v3)), none, some (.inl v5), none, some (.inr (.inr (aRF (sD s) (gR (sD s) (gR (sD s) v0 4) 1) (Int32.toNatClampNeg v5))))] [.inl (b2i (isc (sD s) (aRF (sD s) (gR (sD s) (gR (sD s) v0 4) 1) (Int32.toNatClampNeg v5)) 0))] (hp s) _
      refine X_run 1 (i1 := cond (cn1 .eq (b2i (isc (sD s) (aRF (sD s) (gR (sD s) (gR (sD s) v0 4) 1) (Int32.toNatClampNeg v5)) 0))) 78 65) (L1 := [some (.inr (.inr v0)), some (.inr (.inr (some 1))), some (.inl v2), some (.inr (.inl v3)), none, some (.inl v5), none, some (.inr (.inr (aRF (sD s) (gR (sD s) (gR (sD s) v0 4) 1) (Int32.toNatClampNeg v5))))]) (st1 := []) rfl ?_
      refine X_brq (fun hb => ?_) (fun hb => ?_)
      · have hw := hw.1 hb
        refine X_run 2 (i1 := 80) (L1 := [some (.inr (.inr v0)), some (.inr (.inr (some 1))), some (.inl v2), some (.inr (.inl v3)), none, some (.inl v5), none, some (.inr (.inr (aRF (sD s) (gR (sD s) (gR (sD s) v0 4) 1) (Int32.toNatClampNeg v5))))]) (st1 := [.inl (1 : Int32), .inr (.inr (some 1))]) rfl ?_
        obtain ⟨hc, hw⟩ := hw
        refine X_callv m_Le_fault (As := [.inl (1 : Int32)]) (st := []) ok_Le_fault rfl rfl rfl (hp_obj rfl) rfl (Nat.le_of_ble_eq_true rfl) (Nat.le_of_ble_eq_true rfl) (c_Le_fault (d := d + 1) s (1 : Int32) hc) ?_
        rintro _ _ ⟨rfl, rfl⟩
        show X _ _ 81 [some (.inr (.inr v0)), some (.inr (.inr (some 1))), some (.inl v2), some (.inr (.inl v3)), none, some (.inl v5), none, some (.inr (.inr (aRF (sD s) (gR (sD s) (gR (sD s) v0 4) 1) (Int32.toNatClampNeg v5))))] [] (hp (f_Le_fault s (1 : Int32))) _
        show X _ _ 81 [some (.inr (.inr v0)), some (.inr (.inr (some 1))), some (.inl v2), some (.inr (.inl v3)), none, some (.inl v5), none, some (.inr (.inr (aRF (sD s) (gR (sD s) (gR (sD s) v0 4) 1) (Int32.toNatClampNeg v5))))] [] (hp (f_Le_fault s (1 : Int32))) _
        refine X_mask [true, true, true, true, true, true, true, false] ?_
        exact hlp.2.2 (f_Le_fault s (1 : Int32)) v0 v2 v3 v5 hw
      · have hw := hw.2 hb
        refine X_run 1 (i1 := 66) (L1 := [some (.inr (.inr v0)), some (.inr (.inr (some 1))), some (.inl v2), some (.inr (.inl v3)), none, some (.inl v5), none, some (.inr (.inr (aRF (sD s) (gR (sD s) (gR (sD s) v0 4) 1) (Int32.toNatClampNeg v5))))]) (st1 := [.inr (.inr (aRF (sD s) (gR (sD s) (gR (sD s) v0 4) 1) (Int32.toNatClampNeg v5)))]) rfl ?_
        obtain ⟨hc, hw⟩ := hw
        refine X_dcast rfl hc ?_
        refine X_run 7 (i1 := 74) (L1 := [some (.inr (.inr v0)), some (.inr (.inr (some 1))), some (.inl v2), some (.inr (.inl v3)), none, some (.inl v5), some (.inr (.inr (aRF (sD s) (gR (sD s) (gR (sD s) v0 4) 1) (Int32.toNatClampNeg v5)))), some (.inr (.inr (aRF (sD s) (gR (sD s) (gR (sD s) v0 4) 1) (Int32.toNatClampNeg v5))))]) (st1 := [.inl (v2 + (1 : Int32)), .inr (.inr (some 1)), .inr (.inr (aRF (sD s) (gR (sD s) (gR (sD s) v0 4) 1) (Int32.toNatClampNeg v5))), .inr (.inl v3)]) rfl ?_
        obtain ⟨hc, hw⟩ := hw
        obtain ⟨hr, hw⟩ := hw
        refine X_dcallv m_Pa_weighs (As := [.inr (.inr (some 1)), .inl (v2 + (1 : Int32))]) (st := [.inr (.inl v3)]) ok_Pa_weighs rfl rfl rfl hr rfl (Nat.le_of_ble_eq_true rfl) (Nat.le_of_ble_eq_true rfl) (hrec s (aRF (sD s) (gR (sD s) (gR (sD s) v0 4) 1) (Int32.toNatClampNeg v5)) (v2 + (1 : Int32)) hc) ?_
        rintro _ _ ⟨rfl, rfl⟩
        show X _ _ 75 [some (.inr (.inr v0)), some (.inr (.inr (some 1))), some (.inl v2), some (.inr (.inl v3)), none, some (.inl v5), some (.inr (.inr (aRF (sD s) (gR (sD s) (gR (sD s) v0 4) 1) (Int32.toNatClampNeg v5)))), some (.inr (.inr (aRF (sD s) (gR (sD s) (gR (sD s) v0 4) 1) (Int32.toNatClampNeg v5))))] [.inr (.inl ((rec s (aRF (sD s) (gR (sD s) (gR (sD s) v0 4) 1) (Int32.toNatClampNeg v5)) (v2 + (1 : Int32))).1)), .inr (.inl v3)] (hp ((rec s (aRF (sD s) (gR (sD s) (gR (sD s) v0 4) 1) (Int32.toNatClampNeg v5)) (v2 + (1 : Int32))).2)) _
        show X _ _ 75 [some (.inr (.inr v0)), some (.inr (.inr (some 1))), some (.inl v2), some (.inr (.inl v3)), none, some (.inl v5), some (.inr (.inr (aRF (sD s) (gR (sD s) (gR (sD s) v0 4) 1) (Int32.toNatClampNeg v5)))), some (.inr (.inr (aRF (sD s) (gR (sD s) (gR (sD s) v0 4) 1) (Int32.toNatClampNeg v5))))] [.inr (.inl ((rec s (aRF (sD s) (gR (sD s) (gR (sD s) v0 4) 1) (Int32.toNatClampNeg v5)) (v2 + (1 : Int32))).1)), .inr (.inl v3)] (hp ((rec s (aRF (sD s) (gR (sD s) (gR (sD s) v0 4) 1) (Int32.toNatClampNeg v5)) (v2 + (1 : Int32))).2)) _
        refine X_mask [true, true, true, false, true, true, false, false] ?_
        exact hlp.2.1 ((rec s (aRF (sD s) (gR (sD s) (gR (sD s) v0 4) 1) (Int32.toNatClampNeg v5)) (v2 + (1 : Int32))).2) v0 v2 v5 ((rec s (aRF (sD s) (gR (sD s) (gR (sD s) v0 4) 1) (Int32.toNatClampNeg v5)) (v2 + (1 : Int32))).1) v3 hw
def b_Pa_weighs_75 (rec : G_pweighs) (fu : Nat) (lp : LT_Pa_weighs_47) (s : St) (v0 : Option Nat) (v2 : Int32) (v5 : Int32) (w0 : Int64) (w1 : Int64) : Int64 × St := (lp.2.2 s v0 v2 (f_Re_sum w1 w0) v5)
def v_Pa_weighs_75 (rec : G_pweighs) (wrec : GW_pweighs) (fu : Nat) (lp : LT_Pa_weighs_47) (wlp : LW_Pa_weighs_47) (s : St) (v0 : Option Nat) (v2 : Int32) (v5 : Int32) (w0 : Int64) (w1 : Int64) : Prop := (wlp.2.2 s v0 v2 (f_Re_sum w1 w0) v5)
theorem cb_Pa_weighs_75 {d : Nat} {rec : G_pweighs} {wrec : GW_pweighs} (hrec : hr_pweighs (d + 2) rec wrec) (fu : Nat) {lp : LT_Pa_weighs_47} {wlp : LW_Pa_weighs_47} (hlp : hl_Pa_weighs_47 (d + 3) lp wlp) (s : St) (v0 : Option Nat) (v2 : Int32) (v5 : Int32) (w0 : Int64) (w1 : Int64) (hw : v_Pa_weighs_75 rec wrec fu lp wlp s v0 v2 v5 w0 w1) : X m_Pa_weighs (d + 3) 75 [some (.inr (.inr v0)), some (.inr (.inr (some 1))), some (.inl v2), none, none, some (.inl v5), none, none] [.inr (.inl w0), .inr (.inl w1)] (hp s) (qLs (b_Pa_weighs_75 rec fu lp s v0 v2 v5 w0 w1)) := by
  unfold b_Pa_weighs_75
  unfold v_Pa_weighs_75 at hw
  refine X_calls m_Re_sum (As := [.inr (.inl w1), .inr (.inl w0)]) (st := []) ok_Re_sum rfl rfl rfl (Nat.le_of_ble_eq_true rfl) (Nat.le_of_ble_eq_true rfl) (c_Re_sum (d := d) w1 w0) ?_
  rintro _ _ ⟨rfl, rfl⟩
  show X _ _ 76 [some (.inr (.inr v0)), some (.inr (.inr (some 1))), some (.inl v2), none, none, some (.inl v5), none, none] [.inr (.inl (f_Re_sum w1 w0))] (hp s) _
  refine X_run 2 (i1 := 81) (L1 := [some (.inr (.inr v0)), some (.inr (.inr (some 1))), some (.inl v2), some (.inr (.inl (f_Re_sum w1 w0))), none, some (.inl v5), none, none]) (st1 := []) rfl ?_
  exact hlp.2.2 s v0 v2 (f_Re_sum w1 w0) v5 hw
def b_Pa_weighs_81 (rec : G_pweighs) (fu : Nat) (lp : LT_Pa_weighs_47) (s : St) (v0 : Option Nat) (v2 : Int32) (v3 : Int64) (v5 : Int32) : Int64 × St := (lp.1 s v0 v2 v3 (v5 + Int32.ofInt (1)))
def v_Pa_weighs_81 (rec : G_pweighs) (wrec : GW_pweighs) (fu : Nat) (lp : LT_Pa_weighs_47) (wlp : LW_Pa_weighs_47) (s : St) (v0 : Option Nat) (v2 : Int32) (v3 : Int64) (v5 : Int32) : Prop := (wlp.1 s v0 v2 v3 (v5 + Int32.ofInt (1)))
theorem cb_Pa_weighs_81 {d : Nat} {rec : G_pweighs} {wrec : GW_pweighs} (hrec : hr_pweighs (d + 2) rec wrec) (fu : Nat) {lp : LT_Pa_weighs_47} {wlp : LW_Pa_weighs_47} (hlp : hl_Pa_weighs_47 (d + 3) lp wlp) (s : St) (v0 : Option Nat) (v2 : Int32) (v3 : Int64) (v5 : Int32) (hw : v_Pa_weighs_81 rec wrec fu lp wlp s v0 v2 v3 v5) : X m_Pa_weighs (d + 3) 81 [some (.inr (.inr v0)), some (.inr (.inr (some 1))), some (.inl v2), some (.inr (.inl v3)), none, some (.inl v5), none, none] [] (hp s) (qLs (b_Pa_weighs_81 rec fu lp s v0 v2 v3 v5)) := by
  unfold b_Pa_weighs_81
  unfold v_Pa_weighs_81 at hw
  refine X_run 2 (i1 := 47) (L1 := [some (.inr (.inr v0)), some (.inr (.inr (some 1))), some (.inl v2), some (.inr (.inl v3)), none, some (.inl (v5 + Int32.ofInt (1))), none, none]) (st1 := []) rfl ?_
  exact hlp.1 s v0 v2 v3 (v5 + Int32.ofInt (1)) hw
def T_Pa_weighs_47 (rec : G_pweighs) (fu : Nat) : Nat → LT_Pa_weighs_47
  | 0 => (fun s _ _ _ _ => (0, s), fun s _ _ _ _ _ => (0, s), fun s _ _ _ _ => (0, s))
  | n + 1 => (fun s v0 v2 v3 v5 => b_Pa_weighs_47 rec fu (T_Pa_weighs_47 rec fu n) s v0 v2 v3 v5, fun s v0 v2 v5 w0 w1 => b_Pa_weighs_75 rec fu (T_Pa_weighs_47 rec fu n) s v0 v2 v5 w0 w1, fun s v0 v2 v3 v5 => b_Pa_weighs_81 rec fu (T_Pa_weighs_47 rec fu n) s v0 v2 v3 v5)
def WT_Pa_weighs_47 (rec : G_pweighs) (wrec : GW_pweighs) (fu : Nat) : Nat → LW_Pa_weighs_47
  | 0 => (fun _ _ _ _ _ => False, fun _ _ _ _ _ _ => False, fun _ _ _ _ _ => False)
  | n + 1 => (fun s v0 v2 v3 v5 => v_Pa_weighs_47 rec wrec fu (T_Pa_weighs_47 rec fu n) (WT_Pa_weighs_47 rec wrec fu n) s v0 v2 v3 v5, fun s v0 v2 v5 w0 w1 => v_Pa_weighs_75 rec wrec fu (T_Pa_weighs_47 rec fu n) (WT_Pa_weighs_47 rec wrec fu n) s v0 v2 v5 w0 w1, fun s v0 v2 v3 v5 => v_Pa_weighs_81 rec wrec fu (T_Pa_weighs_47 rec fu n) (WT_Pa_weighs_47 rec wrec fu n) s v0 v2 v3 v5)
theorem cT_Pa_weighs_47 {d : Nat} {rec : G_pweighs} {wrec : GW_pweighs} (hrec : hr_pweighs (d + 2) rec wrec) (fu : Nat) : ∀ n : Nat, hl_Pa_weighs_47 (d + 3) (T_Pa_weighs_47 rec fu n) (WT_Pa_weighs_47 rec wrec fu n)
  | 0 => ⟨fun _ _ _ _ _ hw => hw.elim, fun _ _ _ _ _ _ hw => hw.elim, fun _ _ _ _ _ hw => hw.elim⟩
  | n + 1 => ⟨fun s v0 v2 v3 v5 hw => cb_Pa_weighs_47 hrec fu (cT_Pa_weighs_47 hrec fu n) s v0 v2 v3 v5 hw, fun s v0 v2 v5 w0 w1 hw => cb_Pa_weighs_75 hrec fu (cT_Pa_weighs_47 hrec fu n) s v0 v2 v5 w0 w1 hw, fun s v0 v2 v3 v5 hw => cb_Pa_weighs_81 hrec fu (cT_Pa_weighs_47 hrec fu n) s v0 v2 v3 v5 hw⟩
def t_Pa_weighs_40 (rec : G_pweighs) (fu : Nat) (s : St) : Int64 × St := ((0 : Int64), s)
def w_Pa_weighs_40 (rec : G_pweighs) (wrec : GW_pweighs) (fu : Nat) (s : St) : Prop := True
theorem ct_Pa_weighs_40 {d : Nat} {rec : G_pweighs} {wrec : GW_pweighs} (hrec : hr_pweighs (d + 2) rec wrec) (fu : Nat) (s : St) (hw : w_Pa_weighs_40 rec wrec fu s) : X m_Pa_weighs (d + 3) 40 [none, none, none, none, none, none, none, none] [] (hp s) (qLs (t_Pa_weighs_40 rec fu s)) := by
  unfold t_Pa_weighs_40
  unfold w_Pa_weighs_40 at hw
  refine X_run 1 (i1 := 41) (L1 := [none, none, none, none, none, none, none, none]) (st1 := [.inr (.inl (0 : Int64))]) rfl ?_
  exact X_lret rfl rfl qLs_i
def t_Pa_weighs_11 (rec : G_pweighs) (fu : Nat) (s : St) (v0 : Option Nat) (v2 : Int32) (w0 : Int32) : Int64 × St := (cond (cn1 .ne w0) (cond (cn2 .ne (gI (sD s) v0 0) (2 : Int32)) (cond (cn2 .eq (gI (sD s) v0 0) (4 : Int32)) (cond (Option.isNone (gR (sD s) v0 4)) (t_Pa_weighs_40 rec fu (f_Le_fault s (1 : Int32))) ((T_Pa_weighs_47 rec fu fu).1 s v0 v2 (gL (sD s) v0 2) (0 : Int32))) (gL (sD s) v0 2, s)) (f_Re_sum (gL (sD s) v0 2) (f_Re_product (4598175219545276416 : Int64) (f_Re_ofInt (gI (sD s) v0 1))), s)) ((0 : Int64), s))
def w_Pa_weighs_11 (rec : G_pweighs) (wrec : GW_pweighs) (fu : Nat) (s : St) (v0 : Option Nat) (v2 : Int32) (w0 : Int32) : Prop := ((cn1 .ne w0) = true → (ob (sD s) v0 4 ∧ ((cn2 .ne (gI (sD s) v0 0) (2 : Int32)) = true → (ob (sD s) v0 4 ∧ ((cn2 .eq (gI (sD s) v0 0) (4 : Int32)) = true → (ob (sD s) v0 4 ∧ ((Option.isNone (gR (sD s) v0 4)) = true → (w_Le_fault s (1 : Int32) ∧ (w_Pa_weighs_40 rec wrec fu (f_Le_fault s (1 : Int32))))) ∧ ((Option.isNone (gR (sD s) v0 4)) = false → (ob (sD s) v0 4 ∧ ((WT_Pa_weighs_47 rec wrec fu fu).1 s v0 v2 (gL (sD s) v0 2) (0 : Int32)))))) ∧ ((cn2 .eq (gI (sD s) v0 0) (4 : Int32)) = false → (ob (sD s) v0 4 ∧ True)))) ∧ ((cn2 .ne (gI (sD s) v0 0) (2 : Int32)) = false → (ob (sD s) v0 4 ∧ (ob (sD s) v0 4 ∧ True))))) ∧ ((cn1 .ne w0) = false → True)
theorem ct_Pa_weighs_11 {d : Nat} {rec : G_pweighs} {wrec : GW_pweighs} (hrec : hr_pweighs (d + 2) rec wrec) (fu : Nat) (s : St) (v0 : Option Nat) (v2 : Int32) (w0 : Int32) (hw : w_Pa_weighs_11 rec wrec fu s v0 v2 w0) : X m_Pa_weighs (d + 3) 11 [some (.inr (.inr v0)), some (.inr (.inr (some 1))), some (.inl v2), none, none, none, none, none] [.inl w0] (hp s) (qLs (t_Pa_weighs_11 rec fu s v0 v2 w0)) := by
  unfold t_Pa_weighs_11
  unfold w_Pa_weighs_11 at hw
  refine X_run 1 (i1 := cond (cn1 .ne w0) 14 12) (L1 := [some (.inr (.inr v0)), some (.inr (.inr (some 1))), some (.inl v2), none, none, none, none, none]) (st1 := []) rfl ?_
  refine X_brq (fun hb => ?_) (fun hb => ?_)
  · have hw := hw.1 hb
    refine X_run 1 (i1 := 15) (L1 := [some (.inr (.inr v0)), some (.inr (.inr (some 1))), some (.inl v2), none, none, none, none, none]) (st1 := [.inr (.inr v0)]) rfl ?_
    obtain ⟨hc, hw⟩ := hw
    refine X_dI rfl hc rfl ?_
    show X _ _ 16 [some (.inr (.inr v0)), some (.inr (.inr (some 1))), some (.inl v2), none, none, none, none, none] [.inl (gI (sD s) v0 0)] (hp s) _
    refine X_run 2 (i1 := cond (cn2 .ne (gI (sD s) v0 0) (2 : Int32)) 27 18) (L1 := [some (.inr (.inr v0)), some (.inr (.inr (some 1))), some (.inl v2), none, none, none, none, none]) (st1 := []) rfl ?_
    refine X_brq (fun hb => ?_) (fun hb => ?_)
    · have hw := hw.1 hb
      refine X_run 1 (i1 := 28) (L1 := [some (.inr (.inr v0)), some (.inr (.inr (some 1))), some (.inl v2), none, none, none, none, none]) (st1 := [.inr (.inr v0)]) rfl ?_
      obtain ⟨hc, hw⟩ := hw
      refine X_dI rfl hc rfl ?_
      show X _ _ 29 [some (.inr (.inr v0)), some (.inr (.inr (some 1))), some (.inl v2), none, none, none, none, none] [.inl (gI (sD s) v0 0)] (hp s) _
      refine X_run 2 (i1 := cond (cn2 .eq (gI (sD s) v0 0) (4 : Int32)) 34 31) (L1 := [some (.inr (.inr v0)), some (.inr (.inr (some 1))), some (.inl v2), none, none, none, none, none]) (st1 := []) rfl ?_
      refine X_brq (fun hb => ?_) (fun hb => ?_)
      · have hw := hw.1 hb
        refine X_run 1 (i1 := 35) (L1 := [some (.inr (.inr v0)), some (.inr (.inr (some 1))), some (.inl v2), none, none, none, none, none]) (st1 := [.inr (.inr v0)]) rfl ?_
        obtain ⟨hc, hw⟩ := hw
        refine X_dR rfl hc rfl ?_
        show X _ _ 36 [some (.inr (.inr v0)), some (.inr (.inr (some 1))), some (.inl v2), none, none, none, none, none] [.inr (.inr (gR (sD s) v0 4))] (hp s) _
        refine X_run 1 (i1 := cond (Option.isNone (gR (sD s) v0 4)) 37 42) (L1 := [some (.inr (.inr v0)), some (.inr (.inr (some 1))), some (.inl v2), none, none, none, none, none]) (st1 := []) rfl ?_
        refine X_brq (fun hb => ?_) (fun hb => ?_)
        · have hw := hw.1 hb
          refine X_run 2 (i1 := 39) (L1 := [some (.inr (.inr v0)), some (.inr (.inr (some 1))), some (.inl v2), none, none, none, none, none]) (st1 := [.inl (1 : Int32), .inr (.inr (some 1))]) rfl ?_
          obtain ⟨hc, hw⟩ := hw
          refine X_callv m_Le_fault (As := [.inl (1 : Int32)]) (st := []) ok_Le_fault rfl rfl rfl (hp_obj rfl) rfl (Nat.le_of_ble_eq_true rfl) (Nat.le_of_ble_eq_true rfl) (c_Le_fault (d := d + 1) s (1 : Int32) hc) ?_
          rintro _ _ ⟨rfl, rfl⟩
          show X _ _ 40 [some (.inr (.inr v0)), some (.inr (.inr (some 1))), some (.inl v2), none, none, none, none, none] [] (hp (f_Le_fault s (1 : Int32))) _
          show X _ _ 40 [some (.inr (.inr v0)), some (.inr (.inr (some 1))), some (.inl v2), none, none, none, none, none] [] (hp (f_Le_fault s (1 : Int32))) _
          refine X_mask [false, false, false, true, true, true, true, true] ?_
          exact ct_Pa_weighs_40 hrec fu (f_Le_fault s (1 : Int32)) hw
        · have hw := hw.2 hb
          refine X_run 1 (i1 := 43) (L1 := [some (.inr (.inr v0)), some (.inr (.inr (some 1))), some (.inl v2), none, none, none, none, none]) (st1 := [.inr (.inr v0)]) rfl ?_
          obtain ⟨hc, hw⟩ := hw
          refine X_dG rfl hc rfl ?_
          show X _ _ 44 [some (.inr (.inr v0)), some (.inr (.inr (some 1))), some (.inl v2), none, none, none, none, none] [.inr (.inl (gL (sD s) v0 2))] (hp s) _
          refine X_run 3 (i1 := 47) (L1 := [some (.inr (.inr v0)), some (.inr (.inr (some 1))), some (.inl v2), some (.inr (.inl (gL (sD s) v0 2))), none, some (.inl (0 : Int32)), none, none]) (st1 := []) rfl ?_
          exact (cT_Pa_weighs_47 hrec fu fu).1 s v0 v2 (gL (sD s) v0 2) (0 : Int32) hw
      · have hw := hw.2 hb
        refine X_run 1 (i1 := 32) (L1 := [some (.inr (.inr v0)), some (.inr (.inr (some 1))), some (.inl v2), none, none, none, none, none]) (st1 := [.inr (.inr v0)]) rfl ?_
        obtain ⟨hc, hw⟩ := hw
        refine X_dG rfl hc rfl ?_
        show X _ _ 33 [some (.inr (.inr v0)), some (.inr (.inr (some 1))), some (.inl v2), none, none, none, none, none] [.inr (.inl (gL (sD s) v0 2))] (hp s) _
        exact X_lret rfl rfl qLs_i
    · have hw := hw.2 hb
      refine X_run 1 (i1 := 19) (L1 := [some (.inr (.inr v0)), some (.inr (.inr (some 1))), some (.inl v2), none, none, none, none, none]) (st1 := [.inr (.inr v0)]) rfl ?_
      obtain ⟨hc, hw⟩ := hw
      refine X_dG rfl hc rfl ?_
      show X _ _ 20 [some (.inr (.inr v0)), some (.inr (.inr (some 1))), some (.inl v2), none, none, none, none, none] [.inr (.inl (gL (sD s) v0 2))] (hp s) _
      refine X_run 2 (i1 := 22) (L1 := [some (.inr (.inr v0)), some (.inr (.inr (some 1))), some (.inl v2), none, none, none, none, none]) (st1 := [.inr (.inr v0), .inr (.inl (4598175219545276416 : Int64)), .inr (.inl (gL (sD s) v0 2))]) rfl ?_
      obtain ⟨hc, hw⟩ := hw
      refine X_dI rfl hc rfl ?_
      show X _ _ 23 [some (.inr (.inr v0)), some (.inr (.inr (some 1))), some (.inl v2), none, none, none, none, none] [.inl (gI (sD s) v0 1), .inr (.inl (4598175219545276416 : Int64)), .inr (.inl (gL (sD s) v0 2))] (hp s) _
      refine X_calls m_Re_ofInt (As := [.inl (gI (sD s) v0 1)]) (st := [.inr (.inl (4598175219545276416 : Int64)), .inr (.inl (gL (sD s) v0 2))]) ok_Re_ofInt rfl rfl rfl (Nat.le_of_ble_eq_true rfl) (Nat.le_of_ble_eq_true rfl) (c_Re_ofInt (d := d + 1) (gI (sD s) v0 1)) ?_
      rintro _ _ ⟨rfl, rfl⟩
      show X _ _ 24 [some (.inr (.inr v0)), some (.inr (.inr (some 1))), some (.inl v2), none, none, none, none, none] [.inr (.inl (f_Re_ofInt (gI (sD s) v0 1))), .inr (.inl (4598175219545276416 : Int64)), .inr (.inl (gL (sD s) v0 2))] (hp s) _
      refine X_calls m_Re_product (As := [.inr (.inl (4598175219545276416 : Int64)), .inr (.inl (f_Re_ofInt (gI (sD s) v0 1)))]) (st := [.inr (.inl (gL (sD s) v0 2))]) ok_Re_product rfl rfl rfl (Nat.le_of_ble_eq_true rfl) (Nat.le_of_ble_eq_true rfl) (c_Re_product (d := d) (4598175219545276416 : Int64) (f_Re_ofInt (gI (sD s) v0 1))) ?_
      rintro _ _ ⟨rfl, rfl⟩
      show X _ _ 25 [some (.inr (.inr v0)), some (.inr (.inr (some 1))), some (.inl v2), none, none, none, none, none] [.inr (.inl (f_Re_product (4598175219545276416 : Int64) (f_Re_ofInt (gI (sD s) v0 1)))), .inr (.inl (gL (sD s) v0 2))] (hp s) _
      refine X_calls m_Re_sum (As := [.inr (.inl (gL (sD s) v0 2)), .inr (.inl (f_Re_product (4598175219545276416 : Int64) (f_Re_ofInt (gI (sD s) v0 1))))]) (st := []) ok_Re_sum rfl rfl rfl (Nat.le_of_ble_eq_true rfl) (Nat.le_of_ble_eq_true rfl) (c_Re_sum (d := d) (gL (sD s) v0 2) (f_Re_product (4598175219545276416 : Int64) (f_Re_ofInt (gI (sD s) v0 1)))) ?_
      rintro _ _ ⟨rfl, rfl⟩
      show X _ _ 26 [some (.inr (.inr v0)), some (.inr (.inr (some 1))), some (.inl v2), none, none, none, none, none] [.inr (.inl (f_Re_sum (gL (sD s) v0 2) (f_Re_product (4598175219545276416 : Int64) (f_Re_ofInt (gI (sD s) v0 1)))))] (hp s) _
      exact X_lret rfl rfl qLs_i
  · skip
    refine X_run 1 (i1 := 13) (L1 := [some (.inr (.inr v0)), some (.inr (.inr (some 1))), some (.inl v2), none, none, none, none, none]) (st1 := [.inr (.inl (0 : Int64))]) rfl ?_
    exact X_lret rfl rfl qLs_i
def t_Pa_weighs_6 (rec : G_pweighs) (fu : Nat) (s : St) : Int64 × St := ((0 : Int64), s)
def w_Pa_weighs_6 (rec : G_pweighs) (wrec : GW_pweighs) (fu : Nat) (s : St) : Prop := True
theorem ct_Pa_weighs_6 {d : Nat} {rec : G_pweighs} {wrec : GW_pweighs} (hrec : hr_pweighs (d + 2) rec wrec) (fu : Nat) (s : St) (hw : w_Pa_weighs_6 rec wrec fu s) : X m_Pa_weighs (d + 3) 6 [none, none, none, none, none, none, none, none] [] (hp s) (qLs (t_Pa_weighs_6 rec fu s)) := by
  unfold t_Pa_weighs_6
  unfold w_Pa_weighs_6 at hw
  refine X_run 1 (i1 := 7) (L1 := [none, none, none, none, none, none, none, none]) (st1 := [.inr (.inl (0 : Int64))]) rfl ?_
  exact X_lret rfl rfl qLs_i
def f_Pa_weighs (rec : G_pweighs) (fu : Nat) (s : St) (o : Option Nat) (a1 : Int32) : Int64 × St := (cond (cn2 .le a1 (30 : Int32)) (t_Pa_weighs_11 rec fu ((f_Le_burn s (1 : Int64)).2) o a1 (b2i (f_Le_burn s (1 : Int64)).1)) (t_Pa_weighs_6 rec fu (f_Le_fault s (8 : Int32))))
def w_Pa_weighs (rec : G_pweighs) (wrec : GW_pweighs) (fu : Nat) (s : St) (o : Option Nat) (a1 : Int32) : Prop := ((cn2 .le a1 (30 : Int32)) = true → (w_Le_burn s (1 : Int64) ∧ (w_Pa_weighs_11 rec wrec fu ((f_Le_burn s (1 : Int64)).2) o a1 (b2i (f_Le_burn s (1 : Int64)).1)))) ∧ ((cn2 .le a1 (30 : Int32)) = false → (w_Le_fault s (8 : Int32) ∧ (w_Pa_weighs_6 rec wrec fu (f_Le_fault s (8 : Int32)))))
theorem c_Pa_weighs {d : Nat} {rec : G_pweighs} {wrec : GW_pweighs} (hrec : hr_pweighs (d + 2) rec wrec) (fu : Nat) (s : St) (o : Option Nat) (a1 : Int32) (hw : w_Pa_weighs rec wrec fu s o a1) : X m_Pa_weighs (d + 3) 0 (entL 8 [.inr (.inr o), .inr (.inr (some 1)), .inl a1]) [] (hp s) (qLs (f_Pa_weighs rec fu s o a1)) := by
  unfold f_Pa_weighs
  unfold w_Pa_weighs at hw
  refine X_run 3 (i1 := cond (cn2 .le a1 (30 : Int32)) 8 3) (L1 := [some (.inr (.inr o)), some (.inr (.inr (some 1))), some (.inl a1), none, none, none, none, none]) (st1 := []) rfl ?_
  refine X_brq (fun hb => ?_) (fun hb => ?_)
  · have hw := hw.1 hb
    refine X_run 2 (i1 := 10) (L1 := [some (.inr (.inr o)), some (.inr (.inr (some 1))), some (.inl a1), none, none, none, none, none]) (st1 := [.inr (.inl (1 : Int64)), .inr (.inr (some 1))]) rfl ?_
    obtain ⟨hc, hw⟩ := hw
    refine X_callv m_Le_burn (As := [.inr (.inl (1 : Int64))]) (st := []) ok_Le_burn rfl rfl rfl (hp_obj rfl) rfl (Nat.le_of_ble_eq_true rfl) (Nat.le_of_ble_eq_true rfl) (c_Le_burn (d := d + 2) s (1 : Int64) hc) ?_
    rintro _ _ ⟨rfl, rfl⟩
    show X _ _ 11 [some (.inr (.inr o)), some (.inr (.inr (some 1))), some (.inl a1), none, none, none, none, none] [.inl (b2i (f_Le_burn s (1 : Int64)).1)] (hp ((f_Le_burn s (1 : Int64)).2)) _
    show X _ _ 11 [some (.inr (.inr o)), some (.inr (.inr (some 1))), some (.inl a1), none, none, none, none, none] [.inl (b2i (f_Le_burn s (1 : Int64)).1)] (hp ((f_Le_burn s (1 : Int64)).2)) _
    exact ct_Pa_weighs_11 hrec fu ((f_Le_burn s (1 : Int64)).2) o a1 (b2i (f_Le_burn s (1 : Int64)).1) hw
  · have hw := hw.2 hb
    refine X_run 2 (i1 := 5) (L1 := [some (.inr (.inr o)), some (.inr (.inr (some 1))), some (.inl a1), none, none, none, none, none]) (st1 := [.inl (8 : Int32), .inr (.inr (some 1))]) rfl ?_
    obtain ⟨hc, hw⟩ := hw
    refine X_callv m_Le_fault (As := [.inl (8 : Int32)]) (st := []) ok_Le_fault rfl rfl rfl (hp_obj rfl) rfl (Nat.le_of_ble_eq_true rfl) (Nat.le_of_ble_eq_true rfl) (c_Le_fault (d := d + 1) s (8 : Int32) hc) ?_
    rintro _ _ ⟨rfl, rfl⟩
    show X _ _ 6 [some (.inr (.inr o)), some (.inr (.inr (some 1))), some (.inl a1), none, none, none, none, none] [] (hp (f_Le_fault s (8 : Int32))) _
    show X _ _ 6 [some (.inr (.inr o)), some (.inr (.inr (some 1))), some (.inl a1), none, none, none, none, none] [] (hp (f_Le_fault s (8 : Int32))) _
    refine X_mask [false, false, false, true, true, true, true, true] ?_
    exact ct_Pa_weighs_6 hrec fu (f_Le_fault s (8 : Int32)) hw
def F_pweighs (fu : Nat) : Nat → G_pweighs
  | 0 => fun s _ _ => (0, s)
  | n + 1 => fun s o a1 => f_Pa_weighs (F_pweighs fu n) fu s o a1
def W_pweighs (fu : Nat) : Nat → GW_pweighs
  | 0 => fun _ _ _ => False
  | n + 1 => fun s o a1 => w_Pa_weighs (F_pweighs fu n) (W_pweighs fu n) fu s o a1
theorem cF_pweighs (fu : Nat) : ∀ (n d : Nat), hr_pweighs (d + n + 3) (F_pweighs fu n) (W_pweighs fu n)
  | 0, d => fun _ _ _ hw => hw.elim
  | n + 1, d => by
    have hrec : hr_pweighs (d + 1 + n + 3 - 1) (F_pweighs fu n) (W_pweighs fu n) := by
      have h := cF_pweighs fu n d
      rw [show d + 1 + n + 3 - 1 = d + n + 3 by omega]; exact h
    have e : d + (n + 1) + 3 = (d + 1 + n) + 3 := by omega
    rw [e]
    exact (fun s o a1 hw => c_Pa_weighs (d := d + 1 + n) hrec fu s o a1 hw)
