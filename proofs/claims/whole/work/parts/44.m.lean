def f_M_has (s : St) (a0 : Int32) : Bool := (cond (cn2 .gt ((sI s 21 30) + a0) (sI s 21 23)) false true)
def w_M_has (s : St) (a0 : Int32) : Prop := True
theorem c_M_has {d : Nat} (s : St) (a0 : Int32) (hw : w_M_has s a0) : X m_M_has (d) 0 (entL 2 [.inr (.inr (some 21)), .inl a0]) [] (hp s) (qB (hp s) (f_M_has s a0)) := by
  unfold f_M_has
  unfold w_M_has at hw
  refine X_run 1 (i1 := 1) (L1 := [some (.inr (.inr (some 21))), some (.inl a0)]) (st1 := [.inr (.inr (some 21))]) rfl ?_
  refine X_gF (v := .inl (sI s 21 30)) rfl rfl rfl rfl ?_
  refine X_run 3 (i1 := 5) (L1 := [some (.inr (.inr (some 21))), some (.inl a0)]) (st1 := [.inr (.inr (some 21)), .inl ((sI s 21 30) + a0)]) rfl ?_
  refine X_gF (v := .inl (sI s 21 23)) rfl rfl rfl rfl ?_
  refine X_run 1 (i1 := cond (cn2 .gt ((sI s 21 30) + a0) (sI s 21 23)) 9 7) (L1 := [some (.inr (.inr (some 21))), some (.inl a0)]) (st1 := []) rfl ?_
  refine X_brq (fun hb => ?_) (fun hb => ?_)
  · skip
    refine X_run 1 (i1 := 10) (L1 := [some (.inr (.inr (some 21))), some (.inl a0)]) (st1 := [.inl (0 : Int32)]) rfl ?_
    exact X_zret rfl rfl (b2i_01 false) qB_i
  · skip
    refine X_run 2 (i1 := 10) (L1 := [some (.inr (.inr (some 21))), some (.inl a0)]) (st1 := [.inl (1 : Int32)]) rfl ?_
    exact X_zret rfl rfl (b2i_01 true) qB_i
def t_M_next_4 (fu : Nat) : Nat → St → Int32 → Int64 → Int32 → Int64 × St
  | 0, s, _, _, _ => (0, s)
  | n + 1, s, v1, v2, v4 => (cond (cn2 .ge v4 v1) (v2, pI s 21 30 ((sI s 21 30) + v1)) (t_M_next_4 fu n s v1 ((v2 <<< (Int32.toInt64 (8 : Int32) &&& 63)) ||| (Int32.toInt64 (sA s 32 (Int32.toNatClampNeg ((sI s 21 30) + v4))))) (v4 + Int32.ofInt (1))))
def w_M_next_4 (fu : Nat) : Nat → St → Int32 → Int64 → Int32 → Prop
  | 0, _, _, _, _ => False
  | n + 1, s, v1, v2, v4 => ((cn2 .ge v4 v1) = true → True) ∧ ((cn2 .ge v4 v1) = false → (vp_in ((sI s 21 30) + v4) 2000 ∧ (w_M_next_4 fu n s v1 ((v2 <<< (Int32.toInt64 (8 : Int32) &&& 63)) ||| (Int32.toInt64 (sA s 32 (Int32.toNatClampNeg ((sI s 21 30) + v4))))) (v4 + Int32.ofInt (1)))))
theorem ct_M_next_4 {d : Nat} (fu : Nat) : ∀ (n : Nat) (s : St) (v1 : Int32) (v2 : Int64) (v4 : Int32), w_M_next_4 fu n s v1 v2 v4 → X m_M_next (d) 4 [some (.inr (.inr (some 21))), some (.inl v1), some (.inr (.inl v2)), none, some (.inl v4)] [] (hp s) (qLs (t_M_next_4 fu n s v1 v2 v4))
  | 0, s, v1, v2, v4, hw => hw.elim
  | n + 1, s, v1, v2, v4, hw => by
    have ih := @ct_M_next_4 d fu n
    unfold t_M_next_4
    unfold w_M_next_4 at hw
    refine X_run 3 (i1 := cond (cn2 .ge v4 v1) 22 7) (L1 := [some (.inr (.inr (some 21))), some (.inl v1), some (.inr (.inl v2)), none, some (.inl v4)]) (st1 := []) rfl ?_
    refine X_brq (fun hb => ?_) (fun hb => ?_)
    · skip
      refine X_run 2 (i1 := 24) (L1 := [some (.inr (.inr (some 21))), some (.inl v1), some (.inr (.inl v2)), none, some (.inl v4)]) (st1 := [.inr (.inr (some 21)), .inr (.inr (some 21))]) rfl ?_
      refine X_gF (v := .inl (sI s 21 30)) rfl rfl rfl rfl ?_
      refine X_run 2 (i1 := 27) (L1 := [some (.inr (.inr (some 21))), some (.inl v1), some (.inr (.inl v2)), none, some (.inl v4)]) (st1 := [.inl ((sI s 21 30) + v1), .inr (.inr (some 21))]) rfl ?_
      refine X_pI rfl rfl rfl rfl ?_
      refine X_run 1 (i1 := 29) (L1 := [some (.inr (.inr (some 21))), some (.inl v1), some (.inr (.inl v2)), none, some (.inl v4)]) (st1 := [.inr (.inl v2)]) rfl ?_
      exact X_lret rfl rfl qLs_i
    · have hw := hw.2 hb
      refine X_run 4 (i1 := 11) (L1 := [some (.inr (.inr (some 21))), some (.inl v1), some (.inr (.inl v2)), none, some (.inl v4)]) (st1 := [.inr (.inr (some 21)), .inr (.inl (v2 <<< (Int32.toInt64 (8 : Int32) &&& 63)))]) rfl ?_
      refine X_gF (v := .inr (.inr (some 32))) rfl rfl rfl rfl ?_
      refine X_run 1 (i1 := 13) (L1 := [some (.inr (.inr (some 21))), some (.inl v1), some (.inr (.inl v2)), none, some (.inl v4)]) (st1 := [.inr (.inr (some 21)), .inr (.inr (some 32)), .inr (.inl (v2 <<< (Int32.toInt64 (8 : Int32) &&& 63)))]) rfl ?_
      refine X_gF (v := .inl (sI s 21 30)) rfl rfl rfl rfl ?_
      refine X_run 2 (i1 := 16) (L1 := [some (.inr (.inr (some 21))), some (.inl v1), some (.inr (.inl v2)), none, some (.inl v4)]) (st1 := [.inl ((sI s 21 30) + v4), .inr (.inr (some 32)), .inr (.inl (v2 <<< (Int32.toInt64 (8 : Int32) &&& 63)))]) rfl ?_
      obtain ⟨hin, hw⟩ := hw
      refine X_aI rfl rfl hin ?_
      show X _ _ 17 [some (.inr (.inr (some 21))), some (.inl v1), some (.inr (.inl v2)), none, some (.inl v4)] [.inl (sA s 32 (Int32.toNatClampNeg ((sI s 21 30) + v4))), .inr (.inl (v2 <<< (Int32.toInt64 (8 : Int32) &&& 63)))] (hp s) _
      refine X_run 5 (i1 := 4) (L1 := [some (.inr (.inr (some 21))), some (.inl v1), some (.inr (.inl ((v2 <<< (Int32.toInt64 (8 : Int32) &&& 63)) ||| (Int32.toInt64 (sA s 32 (Int32.toNatClampNeg ((sI s 21 30) + v4))))))), none, some (.inl (v4 + Int32.ofInt (1)))]) (st1 := []) rfl ?_
      exact ih s v1 ((v2 <<< (Int32.toInt64 (8 : Int32) &&& 63)) ||| (Int32.toInt64 (sA s 32 (Int32.toNatClampNeg ((sI s 21 30) + v4))))) (v4 + Int32.ofInt (1)) hw
def f_M_next (fu : Nat) (s : St) (a0 : Int32) : Int64 × St := (t_M_next_4 fu fu s a0 (0 : Int64) (0 : Int32))
def w_M_next (fu : Nat) (s : St) (a0 : Int32) : Prop := (w_M_next_4 fu fu s a0 (0 : Int64) (0 : Int32))
theorem c_M_next {d : Nat} (fu : Nat) (s : St) (a0 : Int32) (hw : w_M_next fu s a0) : X m_M_next (d) 0 (entL 5 [.inr (.inr (some 21)), .inl a0]) [] (hp s) (qLs (f_M_next fu s a0)) := by
  unfold f_M_next
  unfold w_M_next at hw
  refine X_run 4 (i1 := 4) (L1 := [some (.inr (.inr (some 21))), some (.inl a0), some (.inr (.inl (0 : Int64))), none, some (.inl (0 : Int32))]) (st1 := []) rfl ?_
  exact ct_M_next_4 fu fu s a0 (0 : Int64) (0 : Int32) hw
def f_M_wideOf (a0 : Int32) : Int32 := (cond (cn2 .eq a0 (1 : Int32)) (1 : Int32) (cond (cn2 .ne a0 (8 : Int32)) (cond (cn2 .ge a0 (4 : Int32)) (cond (cn2 .eq a0 (5 : Int32)) (8 : Int32) (cond (cn2 .ne a0 (7 : Int32)) (4 : Int32) (8 : Int32))) (2 : Int32)) (1 : Int32)))
theorem c_M_wideOf {d : Nat} {P : AP} (a0 : Int32) : X m_M_wideOf (d) 0 (entL 1 [.inl a0]) [] P (qI P (f_M_wideOf a0)) := by
  unfold f_M_wideOf
  refine X_run 3 (i1 := cond (cn2 .eq a0 (1 : Int32)) 6 3) (L1 := [some (.inl a0)]) (st1 := []) rfl ?_
  refine X_brq (fun hb2 => ?_) (fun hb2 => ?_)
  · refine X_run 2 (i1 := 22) (L1 := [some (.inl a0)]) (st1 := [.inl (1 : Int32)]) rfl ?_
    exact X_iret rfl rfl ⟨rfl, rfl⟩
  · refine X_run 3 (i1 := cond (cn2 .ne a0 (8 : Int32)) 8 6) (L1 := [some (.inl a0)]) (st1 := []) rfl ?_
    refine X_brq (fun hb5 => ?_) (fun hb5 => ?_)
    · refine X_run 3 (i1 := cond (cn2 .ge a0 (4 : Int32)) 13 11) (L1 := [some (.inl a0)]) (st1 := []) rfl ?_
      refine X_brq (fun hb10 => ?_) (fun hb10 => ?_)
      · refine X_run 3 (i1 := cond (cn2 .eq a0 (5 : Int32)) 19 16) (L1 := [some (.inl a0)]) (st1 := []) rfl ?_
        refine X_brq (fun hb15 => ?_) (fun hb15 => ?_)
        · refine X_run 2 (i1 := 22) (L1 := [some (.inl a0)]) (st1 := [.inl (8 : Int32)]) rfl ?_
          exact X_iret rfl rfl ⟨rfl, rfl⟩
        · refine X_run 3 (i1 := cond (cn2 .ne a0 (7 : Int32)) 21 19) (L1 := [some (.inl a0)]) (st1 := []) rfl ?_
          refine X_brq (fun hb18 => ?_) (fun hb18 => ?_)
          · refine X_run 1 (i1 := 22) (L1 := [some (.inl a0)]) (st1 := [.inl (4 : Int32)]) rfl ?_
            exact X_iret rfl rfl ⟨rfl, rfl⟩
          · refine X_run 2 (i1 := 22) (L1 := [some (.inl a0)]) (st1 := [.inl (8 : Int32)]) rfl ?_
            exact X_iret rfl rfl ⟨rfl, rfl⟩
      · refine X_run 2 (i1 := 22) (L1 := [some (.inl a0)]) (st1 := [.inl (2 : Int32)]) rfl ?_
        exact X_iret rfl rfl ⟨rfl, rfl⟩
    · refine X_run 2 (i1 := 22) (L1 := [some (.inl a0)]) (st1 := [.inl (1 : Int32)]) rfl ?_
      exact X_iret rfl rfl ⟨rfl, rfl⟩
def t_M_parseTrouble_29 (fu : Nat) (s : St) (v1 : Int32) (w0 : Int64) (w1 : Int32) : Int32 × St := ((0 : Int32), pI (pB s 26 (vp_updL (sB s 26) (Int32.toNatClampNeg w1) (Int32.toInt64 (Int64.toInt32 w0)))) 21 31 v1)
def w_M_parseTrouble_29 (fu : Nat) (s : St) (v1 : Int32) (w0 : Int64) (w1 : Int32) : Prop := (vp_in w1 40001 ∧ True)
theorem ct_M_parseTrouble_29 {d : Nat} (fu : Nat) (s : St) (v1 : Int32) (w0 : Int64) (w1 : Int32) (hw : w_M_parseTrouble_29 fu s v1 w0 w1) : X m_M_parseTrouble (d + 3) 29 [some (.inr (.inr (some 21))), some (.inl v1)] [.inr (.inl w0), .inl w1, .inr (.inr (some 26))] (hp s) (qIs (t_M_parseTrouble_29 fu s v1 w0 w1)) := by
  unfold t_M_parseTrouble_29
  unfold w_M_parseTrouble_29 at hw
  refine X_run 2 (i1 := 31) (L1 := [some (.inr (.inr (some 21))), some (.inl v1)]) (st1 := [.inr (.inl (Int32.toInt64 (Int64.toInt32 w0))), .inl w1, .inr (.inr (some 26))]) rfl ?_
  obtain ⟨hin, hw⟩ := hw
  refine X_sL rfl rfl hin ?_
  show X _ _ 32 [some (.inr (.inr (some 21))), some (.inl v1)] [] (hp (pB s 26 (vp_updL (sB s 26) (Int32.toNatClampNeg w1) (Int32.toInt64 (Int64.toInt32 w0))))) _
  refine X_run 2 (i1 := 34) (L1 := [some (.inr (.inr (some 21))), some (.inl v1)]) (st1 := [.inl v1, .inr (.inr (some 21))]) rfl ?_
  refine X_pI rfl rfl rfl rfl ?_
  refine X_run 1 (i1 := 36) (L1 := [some (.inr (.inr (some 21))), some (.inl v1)]) (st1 := [.inl (0 : Int32)]) rfl ?_
  exact X_iret rfl rfl qIs_i
def t_M_parseTrouble_11 (fu : Nat) (s : St) (w0 : Int32) : Int32 × St := (cond (cn1 .ne (b2i (f_M_has s (4 : Int32)))) (t_M_parseTrouble_29 fu ((f_M_next fu s (4 : Int32)).2) w0 ((f_M_next fu s (4 : Int32)).1) (sA s 23 (Int32.toNatClampNeg w0))) (f_M_fails s (2 : Int32)))
def w_M_parseTrouble_11 (fu : Nat) (s : St) (w0 : Int32) : Prop := (w_M_has s (4 : Int32) ∧ ((cn1 .ne (b2i (f_M_has s (4 : Int32)))) = true → (vp_in w0 40001 ∧ (w_M_next fu s (4 : Int32) ∧ (w_M_parseTrouble_29 fu ((f_M_next fu s (4 : Int32)).2) w0 ((f_M_next fu s (4 : Int32)).1) (sA s 23 (Int32.toNatClampNeg w0)))))) ∧ ((cn1 .ne (b2i (f_M_has s (4 : Int32)))) = false → (w_M_fails s (2 : Int32) ∧ True)))
theorem ct_M_parseTrouble_11 {d : Nat} (fu : Nat) (s : St) (w0 : Int32) (hw : w_M_parseTrouble_11 fu s w0) : X m_M_parseTrouble (d + 3) 11 [some (.inr (.inr (some 21))), none] [.inl w0] (hp s) (qIs (t_M_parseTrouble_11 fu s w0)) := by
  unfold t_M_parseTrouble_11
  unfold w_M_parseTrouble_11 at hw
  refine X_run 3 (i1 := 14) (L1 := [some (.inr (.inr (some 21))), some (.inl w0)]) (st1 := [.inl (4 : Int32), .inr (.inr (some 21))]) rfl ?_
  obtain ⟨hc, hw⟩ := hw
  refine X_callv m_M_has (As := [.inl (4 : Int32)]) (st := []) ok_M_has rfl rfl rfl (hp_obj rfl) rfl (Nat.le_of_ble_eq_true rfl) (Nat.le_of_ble_eq_true rfl) (c_M_has (d := d + 2) s (4 : Int32) hc) ?_
  rintro _ _ ⟨rfl, rfl⟩
  show X _ _ 15 [some (.inr (.inr (some 21))), some (.inl w0)] [.inl (b2i (f_M_has s (4 : Int32)))] (hp s) _
  refine X_run 1 (i1 := cond (cn1 .ne (b2i (f_M_has s (4 : Int32)))) 20 16) (L1 := [some (.inr (.inr (some 21))), some (.inl w0)]) (st1 := []) rfl ?_
  refine X_brq (fun hb => ?_) (fun hb => ?_)
  · have hw := hw.1 hb
    refine X_run 1 (i1 := 21) (L1 := [some (.inr (.inr (some 21))), some (.inl w0)]) (st1 := [.inr (.inr (some 21))]) rfl ?_
    refine X_gF (v := .inr (.inr (some 26))) rfl rfl rfl rfl ?_
    refine X_run 1 (i1 := 23) (L1 := [some (.inr (.inr (some 21))), some (.inl w0)]) (st1 := [.inr (.inr (some 21)), .inr (.inr (some 26))]) rfl ?_
    refine X_gF (v := .inr (.inr (some 23))) rfl rfl rfl rfl ?_
    refine X_run 1 (i1 := 25) (L1 := [some (.inr (.inr (some 21))), some (.inl w0)]) (st1 := [.inl w0, .inr (.inr (some 23)), .inr (.inr (some 26))]) rfl ?_
    obtain ⟨hin, hw⟩ := hw
    refine X_aI rfl rfl hin ?_
    show X _ _ 26 [some (.inr (.inr (some 21))), some (.inl w0)] [.inl (sA s 23 (Int32.toNatClampNeg w0)), .inr (.inr (some 26))] (hp s) _
    refine X_run 2 (i1 := 28) (L1 := [some (.inr (.inr (some 21))), some (.inl w0)]) (st1 := [.inl (4 : Int32), .inr (.inr (some 21)), .inl (sA s 23 (Int32.toNatClampNeg w0)), .inr (.inr (some 26))]) rfl ?_
    obtain ⟨hc, hw⟩ := hw
    refine X_callv m_M_next (As := [.inl (4 : Int32)]) (st := [.inl (sA s 23 (Int32.toNatClampNeg w0)), .inr (.inr (some 26))]) ok_M_next rfl rfl rfl (hp_obj rfl) rfl (Nat.le_of_ble_eq_true rfl) (Nat.le_of_ble_eq_true rfl) (c_M_next (d := d + 2) fu s (4 : Int32) hc) ?_
    rintro _ _ ⟨rfl, rfl⟩
    show X _ _ 29 [some (.inr (.inr (some 21))), some (.inl w0)] [.inr (.inl ((f_M_next fu s (4 : Int32)).1)), .inl (sA s 23 (Int32.toNatClampNeg w0)), .inr (.inr (some 26))] (hp ((f_M_next fu s (4 : Int32)).2)) _
    show X _ _ 29 [some (.inr (.inr (some 21))), some (.inl w0)] [.inr (.inl ((f_M_next fu s (4 : Int32)).1)), .inl (sA s 23 (Int32.toNatClampNeg w0)), .inr (.inr (some 26))] (hp ((f_M_next fu s (4 : Int32)).2)) _
    exact ct_M_parseTrouble_29 fu ((f_M_next fu s (4 : Int32)).2) w0 ((f_M_next fu s (4 : Int32)).1) (sA s 23 (Int32.toNatClampNeg w0)) hw
  · have hw := hw.2 hb
    refine X_run 2 (i1 := 18) (L1 := [some (.inr (.inr (some 21))), some (.inl w0)]) (st1 := [.inl (2 : Int32), .inr (.inr (some 21))]) rfl ?_
    obtain ⟨hc, hw⟩ := hw
    refine X_callv m_M_fails (As := [.inl (2 : Int32)]) (st := []) ok_M_fails rfl rfl rfl (hp_obj rfl) rfl (Nat.le_of_ble_eq_true rfl) (Nat.le_of_ble_eq_true rfl) (c_M_fails (d := d) s (2 : Int32) hc) ?_
    rintro _ _ ⟨rfl, rfl⟩
    show X _ _ 19 [some (.inr (.inr (some 21))), some (.inl w0)] [.inl ((f_M_fails s (2 : Int32)).1)] (hp ((f_M_fails s (2 : Int32)).2)) _
    exact X_iret rfl rfl qIs_p
def t_M_parseTrouble_3 (fu : Nat) (s : St) (w0 : Int32) : Int32 × St := (cond (cn1 .ne w0) (t_M_parseTrouble_11 fu ((f_M_thing s (16 : Int32) (0 : Int32) (0 : Int32)).2) ((f_M_thing s (16 : Int32) (0 : Int32) (0 : Int32)).1)) ((3 : Int32), s))
def w_M_parseTrouble_3 (fu : Nat) (s : St) (w0 : Int32) : Prop := ((cn1 .ne w0) = true → (w_M_thing s (16 : Int32) (0 : Int32) (0 : Int32) ∧ (w_M_parseTrouble_11 fu ((f_M_thing s (16 : Int32) (0 : Int32) (0 : Int32)).2) ((f_M_thing s (16 : Int32) (0 : Int32) (0 : Int32)).1)))) ∧ ((cn1 .ne w0) = false → True)
theorem ct_M_parseTrouble_3 {d : Nat} (fu : Nat) (s : St) (w0 : Int32) (hw : w_M_parseTrouble_3 fu s w0) : X m_M_parseTrouble (d + 3) 3 [some (.inr (.inr (some 21))), none] [.inl w0] (hp s) (qIs (t_M_parseTrouble_3 fu s w0)) := by
  unfold t_M_parseTrouble_3
  unfold w_M_parseTrouble_3 at hw
  refine X_run 1 (i1 := cond (cn1 .ne w0) 6 4) (L1 := [some (.inr (.inr (some 21))), none]) (st1 := []) rfl ?_
  refine X_brq (fun hb => ?_) (fun hb => ?_)
  · have hw := hw.1 hb
    refine X_run 4 (i1 := 10) (L1 := [some (.inr (.inr (some 21))), none]) (st1 := [.inl (0 : Int32), .inl (0 : Int32), .inl (16 : Int32), .inr (.inr (some 21))]) rfl ?_
    obtain ⟨hc, hw⟩ := hw
    refine X_callv m_M_thing (As := [.inl (16 : Int32), .inl (0 : Int32), .inl (0 : Int32)]) (st := []) ok_M_thing rfl rfl rfl (hp_obj rfl) rfl (Nat.le_of_ble_eq_true rfl) (Nat.le_of_ble_eq_true rfl) (c_M_thing (d := d + 2) s (16 : Int32) (0 : Int32) (0 : Int32) hc) ?_
    rintro _ _ ⟨rfl, rfl⟩
    show X _ _ 11 [some (.inr (.inr (some 21))), none] [.inl ((f_M_thing s (16 : Int32) (0 : Int32) (0 : Int32)).1)] (hp ((f_M_thing s (16 : Int32) (0 : Int32) (0 : Int32)).2)) _
    show X _ _ 11 [some (.inr (.inr (some 21))), none] [.inl ((f_M_thing s (16 : Int32) (0 : Int32) (0 : Int32)).1)] (hp ((f_M_thing s (16 : Int32) (0 : Int32) (0 : Int32)).2)) _
    exact ct_M_parseTrouble_11 fu ((f_M_thing s (16 : Int32) (0 : Int32) (0 : Int32)).2) ((f_M_thing s (16 : Int32) (0 : Int32) (0 : Int32)).1) hw
  · skip
    refine X_run 1 (i1 := 5) (L1 := [some (.inr (.inr (some 21))), none]) (st1 := [.inl (3 : Int32)]) rfl ?_
    exact X_iret rfl rfl qIs_i
def f_M_parseTrouble (fu : Nat) (s : St) : Int32 × St := (t_M_parseTrouble_3 fu ((f_M_pays s (4 : Int64)).2) (b2i (f_M_pays s (4 : Int64)).1))
def w_M_parseTrouble (fu : Nat) (s : St) : Prop := (w_M_pays s (4 : Int64) ∧ (w_M_parseTrouble_3 fu ((f_M_pays s (4 : Int64)).2) (b2i (f_M_pays s (4 : Int64)).1)))
theorem c_M_parseTrouble {d : Nat} (fu : Nat) (s : St) (hw : w_M_parseTrouble fu s) : X m_M_parseTrouble (d + 3) 0 (entL 2 [.inr (.inr (some 21))]) [] (hp s) (qIs (f_M_parseTrouble fu s)) := by
  unfold f_M_parseTrouble
  unfold w_M_parseTrouble at hw
  refine X_run 2 (i1 := 2) (L1 := [some (.inr (.inr (some 21))), none]) (st1 := [.inr (.inl (4 : Int64)), .inr (.inr (some 21))]) rfl ?_
  obtain ⟨hc, hw⟩ := hw
  refine X_callv m_M_pays (As := [.inr (.inl (4 : Int64))]) (st := []) ok_M_pays rfl rfl rfl (hp_obj rfl) rfl (Nat.le_of_ble_eq_true rfl) (Nat.le_of_ble_eq_true rfl) (c_M_pays (d := d + 2) s (4 : Int64) hc) ?_
  rintro _ _ ⟨rfl, rfl⟩
  show X _ _ 3 [some (.inr (.inr (some 21))), none] [.inl (b2i (f_M_pays s (4 : Int64)).1)] (hp ((f_M_pays s (4 : Int64)).2)) _
  show X _ _ 3 [some (.inr (.inr (some 21))), none] [.inl (b2i (f_M_pays s (4 : Int64)).1)] (hp ((f_M_pays s (4 : Int64)).2)) _
  exact ct_M_parseTrouble_3 fu ((f_M_pays s (4 : Int64)).2) (b2i (f_M_pays s (4 : Int64)).1) hw
abbrev G_parse : Type := (St → Int32 → Int32 × St) × (St → Int32 → Int32 → Int32 × St) × (St → Int32 → Int32 → Int32 × St)
abbrev GW_parse : Type := (St → Int32 → Prop) × (St → Int32 → Int32 → Prop) × (St → Int32 → Int32 → Prop)
def hr_parse (d : Nat) (rec : G_parse) (wrec : GW_parse) : Prop := (∀ (s : St) (a0 : Int32), wrec.1 s a0 → X m_M_parse d 0 (entL 3 [.inr (.inr (some 21)), .inl a0]) [] (hp s) (qIs (rec.1 s a0))) ∧ (∀ (s : St) (a0 : Int32) (a1 : Int32), wrec.2.1 s a0 a1 → X m_M_parseMany d 0 (entL 10 [.inr (.inr (some 21)), .inl a0, .inl a1]) [] (hp s) (qIs (rec.2.1 s a0 a1))) ∧ (∀ (s : St) (a0 : Int32) (a1 : Int32), wrec.2.2 s a0 a1 → X m_M_parsePart d 0 (entL 6 [.inr (.inr (some 21)), .inl a0, .inl a1]) [] (hp s) (qIs (rec.2.2 s a0 a1)))
def t_M_parse_18 (rec : G_parse) (fu : Nat) (s : St) (v1 : Int32) (w0 : Int64) : Int32 × St := (cond (cn2 .le (Int64.toInt32 w0) (16 : Int32)) (cond (cn1 .ne (Int64.toInt32 w0)) (cond (cn2 .ge (Int64.toInt32 w0) (11 : Int32)) (cond (cn2 .ne (Int64.toInt32 w0) (16 : Int32)) (rec.2.2 s (Int64.toInt32 w0) v1) (f_M_parseTrouble fu s)) (rec.2.1 s (Int64.toInt32 w0) v1)) ((0 : Int32), pI s 21 31 (0 : Int32))) (f_M_fails s (4 : Int32)))
def w_M_parse_18 (rec : G_parse) (wrec : GW_parse) (fu : Nat) (s : St) (v1 : Int32) (w0 : Int64) : Prop := ((cn2 .le (Int64.toInt32 w0) (16 : Int32)) = true → ((cn1 .ne (Int64.toInt32 w0)) = true → ((cn2 .ge (Int64.toInt32 w0) (11 : Int32)) = true → ((cn2 .ne (Int64.toInt32 w0) (16 : Int32)) = true → (wrec.2.2 s (Int64.toInt32 w0) v1 ∧ True)) ∧ ((cn2 .ne (Int64.toInt32 w0) (16 : Int32)) = false → (w_M_parseTrouble fu s ∧ True))) ∧ ((cn2 .ge (Int64.toInt32 w0) (11 : Int32)) = false → (wrec.2.1 s (Int64.toInt32 w0) v1 ∧ True))) ∧ ((cn1 .ne (Int64.toInt32 w0)) = false → True)) ∧ ((cn2 .le (Int64.toInt32 w0) (16 : Int32)) = false → (w_M_fails s (4 : Int32) ∧ True))
theorem ct_M_parse_18 {d : Nat} {rec : G_parse} {wrec : GW_parse} (hrec : hr_parse (d + 3) rec wrec) (fu : Nat) (s : St) (v1 : Int32) (w0 : Int64) (hw : w_M_parse_18 rec wrec fu s v1 w0) : X m_M_parse (d + 4) 18 [some (.inr (.inr (some 21))), some (.inl v1), none] [.inr (.inl w0)] (hp s) (qIs (t_M_parse_18 rec fu s v1 w0)) := by
  unfold t_M_parse_18
  unfold w_M_parse_18 at hw
  refine X_run 5 (i1 := cond (cn2 .le (Int64.toInt32 w0) (16 : Int32)) 27 23) (L1 := [some (.inr (.inr (some 21))), some (.inl v1), some (.inl (Int64.toInt32 w0))]) (st1 := []) rfl ?_
  refine X_brq (fun hb => ?_) (fun hb => ?_)
  · have hw := hw.1 hb
    refine X_run 2 (i1 := cond (cn1 .ne (Int64.toInt32 w0)) 34 29) (L1 := [some (.inr (.inr (some 21))), some (.inl v1), some (.inl (Int64.toInt32 w0))]) (st1 := []) rfl ?_
    refine X_brq (fun hb => ?_) (fun hb => ?_)
    · have hw := hw.1 hb
      refine X_run 3 (i1 := cond (cn2 .ge (Int64.toInt32 w0) (11 : Int32)) 42 37) (L1 := [some (.inr (.inr (some 21))), some (.inl v1), some (.inl (Int64.toInt32 w0))]) (st1 := []) rfl ?_
      refine X_brq (fun hb => ?_) (fun hb => ?_)
      · have hw := hw.1 hb
        refine X_run 3 (i1 := cond (cn2 .ne (Int64.toInt32 w0) (16 : Int32)) 48 45) (L1 := [some (.inr (.inr (some 21))), some (.inl v1), some (.inl (Int64.toInt32 w0))]) (st1 := []) rfl ?_
        refine X_brq (fun hb => ?_) (fun hb => ?_)
        · have hw := hw.1 hb
          refine X_run 3 (i1 := 51) (L1 := [some (.inr (.inr (some 21))), some (.inl v1), some (.inl (Int64.toInt32 w0))]) (st1 := [.inl v1, .inl (Int64.toInt32 w0), .inr (.inr (some 21))]) rfl ?_
          obtain ⟨hc, hw⟩ := hw
          refine X_callv m_M_parsePart (As := [.inl (Int64.toInt32 w0), .inl v1]) (st := []) ok_M_parsePart rfl rfl rfl (hp_obj rfl) rfl (Nat.le_of_ble_eq_true rfl) (Nat.le_of_ble_eq_true rfl) (hrec.2.2 s (Int64.toInt32 w0) v1 hc) ?_
          rintro _ _ ⟨rfl, rfl⟩
          show X _ _ 52 [some (.inr (.inr (some 21))), some (.inl v1), some (.inl (Int64.toInt32 w0))] [.inl ((rec.2.2 s (Int64.toInt32 w0) v1).1)] (hp ((rec.2.2 s (Int64.toInt32 w0) v1).2)) _
          exact X_iret rfl rfl qIs_p
        · have hw := hw.2 hb
          refine X_run 1 (i1 := 46) (L1 := [some (.inr (.inr (some 21))), some (.inl v1), some (.inl (Int64.toInt32 w0))]) (st1 := [.inr (.inr (some 21))]) rfl ?_
          obtain ⟨hc, hw⟩ := hw
          refine X_callv m_M_parseTrouble (As := []) (st := []) ok_M_parseTrouble rfl rfl rfl (hp_obj rfl) rfl (Nat.le_of_ble_eq_true rfl) (Nat.le_of_ble_eq_true rfl) (c_M_parseTrouble (d := d) fu s hc) ?_
          rintro _ _ ⟨rfl, rfl⟩
          show X _ _ 47 [some (.inr (.inr (some 21))), some (.inl v1), some (.inl (Int64.toInt32 w0))] [.inl ((f_M_parseTrouble fu s).1)] (hp ((f_M_parseTrouble fu s).2)) _
          refine X_run 1 (i1 := 52) (L1 := [some (.inr (.inr (some 21))), some (.inl v1), some (.inl (Int64.toInt32 w0))]) (st1 := [.inl ((f_M_parseTrouble fu s).1)]) rfl ?_
          exact X_iret rfl rfl qIs_p
      · have hw := hw.2 hb
        refine X_run 3 (i1 := 40) (L1 := [some (.inr (.inr (some 21))), some (.inl v1), some (.inl (Int64.toInt32 w0))]) (st1 := [.inl v1, .inl (Int64.toInt32 w0), .inr (.inr (some 21))]) rfl ?_
        obtain ⟨hc, hw⟩ := hw
        refine X_callv m_M_parseMany (As := [.inl (Int64.toInt32 w0), .inl v1]) (st := []) ok_M_parseMany rfl rfl rfl (hp_obj rfl) rfl (Nat.le_of_ble_eq_true rfl) (Nat.le_of_ble_eq_true rfl) (hrec.2.1 s (Int64.toInt32 w0) v1 hc) ?_
        rintro _ _ ⟨rfl, rfl⟩
        show X _ _ 41 [some (.inr (.inr (some 21))), some (.inl v1), some (.inl (Int64.toInt32 w0))] [.inl ((rec.2.1 s (Int64.toInt32 w0) v1).1)] (hp ((rec.2.1 s (Int64.toInt32 w0) v1).2)) _
        refine X_run 1 (i1 := 52) (L1 := [some (.inr (.inr (some 21))), some (.inl v1), some (.inl (Int64.toInt32 w0))]) (st1 := [.inl ((rec.2.1 s (Int64.toInt32 w0) v1).1)]) rfl ?_
        exact X_iret rfl rfl qIs_p
    · skip
      refine X_run 2 (i1 := 31) (L1 := [some (.inr (.inr (some 21))), some (.inl v1), some (.inl (Int64.toInt32 w0))]) (st1 := [.inl (0 : Int32), .inr (.inr (some 21))]) rfl ?_
      refine X_pI rfl rfl rfl rfl ?_
      refine X_run 1 (i1 := 33) (L1 := [some (.inr (.inr (some 21))), some (.inl v1), some (.inl (Int64.toInt32 w0))]) (st1 := [.inl (0 : Int32)]) rfl ?_
      exact X_iret rfl rfl qIs_i
  · have hw := hw.2 hb
    refine X_run 2 (i1 := 25) (L1 := [some (.inr (.inr (some 21))), some (.inl v1), some (.inl (Int64.toInt32 w0))]) (st1 := [.inl (4 : Int32), .inr (.inr (some 21))]) rfl ?_
    obtain ⟨hc, hw⟩ := hw
    refine X_callv m_M_fails (As := [.inl (4 : Int32)]) (st := []) ok_M_fails rfl rfl rfl (hp_obj rfl) rfl (Nat.le_of_ble_eq_true rfl) (Nat.le_of_ble_eq_true rfl) (c_M_fails (d := d + 1) s (4 : Int32) hc) ?_
    rintro _ _ ⟨rfl, rfl⟩
    show X _ _ 26 [some (.inr (.inr (some 21))), some (.inl v1), some (.inl (Int64.toInt32 w0))] [.inl ((f_M_fails s (4 : Int32)).1)] (hp ((f_M_fails s (4 : Int32)).2)) _
    exact X_iret rfl rfl qIs_p
def f_M_parse (rec : G_parse) (fu : Nat) (s : St) (a0 : Int32) : Int32 × St := (cond (cn2 .le a0 (30 : Int32)) (cond (cn1 .ne (b2i (f_M_has s (1 : Int32)))) (t_M_parse_18 rec fu ((f_M_next fu s (1 : Int32)).2) a0 ((f_M_next fu s (1 : Int32)).1)) (f_M_fails s (2 : Int32))) (f_M_fails s (8 : Int32)))
def w_M_parse (rec : G_parse) (wrec : GW_parse) (fu : Nat) (s : St) (a0 : Int32) : Prop := ((cn2 .le a0 (30 : Int32)) = true → (w_M_has s (1 : Int32) ∧ ((cn1 .ne (b2i (f_M_has s (1 : Int32)))) = true → (w_M_next fu s (1 : Int32) ∧ (w_M_parse_18 rec wrec fu ((f_M_next fu s (1 : Int32)).2) a0 ((f_M_next fu s (1 : Int32)).1)))) ∧ ((cn1 .ne (b2i (f_M_has s (1 : Int32)))) = false → (w_M_fails s (2 : Int32) ∧ True)))) ∧ ((cn2 .le a0 (30 : Int32)) = false → (w_M_fails s (8 : Int32) ∧ True))
theorem c_M_parse {d : Nat} {rec : G_parse} {wrec : GW_parse} (hrec : hr_parse (d + 3) rec wrec) (fu : Nat) (s : St) (a0 : Int32) (hw : w_M_parse rec wrec fu s a0) : X m_M_parse (d + 4) 0 (entL 3 [.inr (.inr (some 21)), .inl a0]) [] (hp s) (qIs (f_M_parse rec fu s a0)) := by
  unfold f_M_parse
  unfold w_M_parse at hw
  refine X_run 3 (i1 := cond (cn2 .le a0 (30 : Int32)) 7 3) (L1 := [some (.inr (.inr (some 21))), some (.inl a0), none]) (st1 := []) rfl ?_
  refine X_brq (fun hb => ?_) (fun hb => ?_)
  · have hw := hw.1 hb
    refine X_run 2 (i1 := 9) (L1 := [some (.inr (.inr (some 21))), some (.inl a0), none]) (st1 := [.inl (1 : Int32), .inr (.inr (some 21))]) rfl ?_
    obtain ⟨hc, hw⟩ := hw
    refine X_callv m_M_has (As := [.inl (1 : Int32)]) (st := []) ok_M_has rfl rfl rfl (hp_obj rfl) rfl (Nat.le_of_ble_eq_true rfl) (Nat.le_of_ble_eq_true rfl) (c_M_has (d := d + 3) s (1 : Int32) hc) ?_
    rintro _ _ ⟨rfl, rfl⟩
    show X _ _ 10 [some (.inr (.inr (some 21))), some (.inl a0), none] [.inl (b2i (f_M_has s (1 : Int32)))] (hp s) _
    refine X_run 1 (i1 := cond (cn1 .ne (b2i (f_M_has s (1 : Int32)))) 15 11) (L1 := [some (.inr (.inr (some 21))), some (.inl a0), none]) (st1 := []) rfl ?_
    refine X_brq (fun hb => ?_) (fun hb => ?_)
    · have hw := hw.1 hb
      refine X_run 2 (i1 := 17) (L1 := [some (.inr (.inr (some 21))), some (.inl a0), none]) (st1 := [.inl (1 : Int32), .inr (.inr (some 21))]) rfl ?_
      obtain ⟨hc, hw⟩ := hw
      refine X_callv m_M_next (As := [.inl (1 : Int32)]) (st := []) ok_M_next rfl rfl rfl (hp_obj rfl) rfl (Nat.le_of_ble_eq_true rfl) (Nat.le_of_ble_eq_true rfl) (c_M_next (d := d + 3) fu s (1 : Int32) hc) ?_
      rintro _ _ ⟨rfl, rfl⟩
      show X _ _ 18 [some (.inr (.inr (some 21))), some (.inl a0), none] [.inr (.inl ((f_M_next fu s (1 : Int32)).1))] (hp ((f_M_next fu s (1 : Int32)).2)) _
      show X _ _ 18 [some (.inr (.inr (some 21))), some (.inl a0), none] [.inr (.inl ((f_M_next fu s (1 : Int32)).1))] (hp ((f_M_next fu s (1 : Int32)).2)) _
      exact ct_M_parse_18 hrec fu ((f_M_next fu s (1 : Int32)).2) a0 ((f_M_next fu s (1 : Int32)).1) hw
    · have hw := hw.2 hb
      refine X_run 2 (i1 := 13) (L1 := [some (.inr (.inr (some 21))), some (.inl a0), none]) (st1 := [.inl (2 : Int32), .inr (.inr (some 21))]) rfl ?_
      obtain ⟨hc, hw⟩ := hw
      refine X_callv m_M_fails (As := [.inl (2 : Int32)]) (st := []) ok_M_fails rfl rfl rfl (hp_obj rfl) rfl (Nat.le_of_ble_eq_true rfl) (Nat.le_of_ble_eq_true rfl) (c_M_fails (d := d + 1) s (2 : Int32) hc) ?_
      rintro _ _ ⟨rfl, rfl⟩
      show X _ _ 14 [some (.inr (.inr (some 21))), some (.inl a0), none] [.inl ((f_M_fails s (2 : Int32)).1)] (hp ((f_M_fails s (2 : Int32)).2)) _
      exact X_iret rfl rfl qIs_p
  · have hw := hw.2 hb
    refine X_run 2 (i1 := 5) (L1 := [some (.inr (.inr (some 21))), some (.inl a0), none]) (st1 := [.inl (8 : Int32), .inr (.inr (some 21))]) rfl ?_
    obtain ⟨hc, hw⟩ := hw
    refine X_callv m_M_fails (As := [.inl (8 : Int32)]) (st := []) ok_M_fails rfl rfl rfl (hp_obj rfl) rfl (Nat.le_of_ble_eq_true rfl) (Nat.le_of_ble_eq_true rfl) (c_M_fails (d := d + 1) s (8 : Int32) hc) ?_
    rintro _ _ ⟨rfl, rfl⟩
    show X _ _ 6 [some (.inr (.inr (some 21))), some (.inl a0), none] [.inl ((f_M_fails s (8 : Int32)).1)] (hp ((f_M_fails s (8 : Int32)).2)) _
    exact X_iret rfl rfl qIs_p
def t_M_parseMany_144 (rec : G_parse) (fu : Nat) (s : St) : Int32 × St := (f_M_fails s (4 : Int32))
def w_M_parseMany_144 (rec : G_parse) (wrec : GW_parse) (fu : Nat) (s : St) : Prop := (w_M_fails s (4 : Int32) ∧ True)
theorem ct_M_parseMany_144 {d : Nat} {rec : G_parse} {wrec : GW_parse} (hrec : hr_parse (d + 3) rec wrec) (fu : Nat) (s : St) (hw : w_M_parseMany_144 rec wrec fu s) : X m_M_parseMany (d + 4) 144 [some (.inr (.inr (some 21))), none, none, none, none, none, none, none, none, none] [] (hp s) (qIs (t_M_parseMany_144 rec fu s)) := by
  unfold t_M_parseMany_144
  unfold w_M_parseMany_144 at hw
  refine X_run 2 (i1 := 146) (L1 := [some (.inr (.inr (some 21))), none, none, none, none, none, none, none, none, none]) (st1 := [.inl (4 : Int32), .inr (.inr (some 21))]) rfl ?_
  obtain ⟨hc, hw⟩ := hw
  refine X_callv m_M_fails (As := [.inl (4 : Int32)]) (st := []) ok_M_fails rfl rfl rfl (hp_obj rfl) rfl (Nat.le_of_ble_eq_true rfl) (Nat.le_of_ble_eq_true rfl) (c_M_fails (d := d + 1) s (4 : Int32) hc) ?_
  rintro _ _ ⟨rfl, rfl⟩
  show X _ _ 147 [some (.inr (.inr (some 21))), none, none, none, none, none, none, none, none, none] [.inl ((f_M_fails s (4 : Int32)).1)] (hp ((f_M_fails s (4 : Int32)).2)) _
  exact X_iret rfl rfl qIs_p
abbrev LT_M_parseMany_64 : Type := (St → Int32 → Int32 → Int32 → Int32 → Int32 → Int32 → Int32 × St) × (St → Int32 → Int32 → Int32 → Int32 → Int32 → Int32 → Int64 → Int32 × St) × (St → Int32 → Int32 → Int32 → Int32 → Int32 → Int32 → Int64 → Int32 → Int32 × St) × (St → Int32 → Int32 → Int32 → Int32 → Int32 → Int32 → Int32 → Int32 × St) × (St → Int32 → Int32 → Int32 → Int32 → Int32 → Int32 → Int32 × St) × (St → Int32 → Int32 → Int32 → Int32 → Int32 → Int32 → Int32 × St)
abbrev LW_M_parseMany_64 : Type := (St → Int32 → Int32 → Int32 → Int32 → Int32 → Int32 → Prop) × (St → Int32 → Int32 → Int32 → Int32 → Int32 → Int32 → Int64 → Prop) × (St → Int32 → Int32 → Int32 → Int32 → Int32 → Int32 → Int64 → Int32 → Prop) × (St → Int32 → Int32 → Int32 → Int32 → Int32 → Int32 → Int32 → Prop) × (St → Int32 → Int32 → Int32 → Int32 → Int32 → Int32 → Prop) × (St → Int32 → Int32 → Int32 → Int32 → Int32 → Int32 → Prop)
def hl_M_parseMany_64 (d : Nat) (lp : LT_M_parseMany_64) (wlp : LW_M_parseMany_64) : Prop := (∀ (s : St) (v1 : Int32) (v2 : Int32) (v4 : Int32) (v5 : Int32) (v6 : Int32) (v7 : Int32), wlp.1 s v1 v2 v4 v5 v6 v7 → X m_M_parseMany d 64 [some (.inr (.inr (some 21))), some (.inl v1), some (.inl v2), none, some (.inl v4), some (.inl v5), some (.inl v6), some (.inl v7), none, none] [] (hp s) (qIs (lp.1 s v1 v2 v4 v5 v6 v7))) ∧ (∀ (s : St) (v1 : Int32) (v2 : Int32) (v4 : Int32) (v5 : Int32) (v6 : Int32) (v7 : Int32) (w0 : Int64), wlp.2.1 s v1 v2 v4 v5 v6 v7 w0 → X m_M_parseMany d 81 [some (.inr (.inr (some 21))), some (.inl v1), some (.inl v2), none, some (.inl v4), some (.inl v5), some (.inl v6), some (.inl v7), none, none] [.inr (.inl w0)] (hp s) (qIs (lp.2.1 s v1 v2 v4 v5 v6 v7 w0))) ∧ (∀ (s : St) (v1 : Int32) (v2 : Int32) (v4 : Int32) (v5 : Int32) (v6 : Int32) (v7 : Int32) (w0 : Int64) (w1 : Int32), wlp.2.2.1 s v1 v2 v4 v5 v6 v7 w0 w1 → X m_M_parseMany d 113 [some (.inr (.inr (some 21))), some (.inl v1), some (.inl v2), none, some (.inl v4), some (.inl v5), some (.inl v6), some (.inl v7), none, none] [.inr (.inl w0), .inl w1, .inr (.inr (some 26))] (hp s) (qIs (lp.2.2.1 s v1 v2 v4 v5 v6 v7 w0 w1))) ∧ (∀ (s : St) (v1 : Int32) (v2 : Int32) (v4 : Int32) (v5 : Int32) (v6 : Int32) (v7 : Int32) (w0 : Int32), wlp.2.2.2.1 s v1 v2 v4 v5 v6 v7 w0 → X m_M_parseMany d 120 [some (.inr (.inr (some 21))), some (.inl v1), some (.inl v2), none, some (.inl v4), some (.inl v5), some (.inl v6), some (.inl v7), none, none] [.inl w0] (hp s) (qIs (lp.2.2.2.1 s v1 v2 v4 v5 v6 v7 w0))) ∧ (∀ (s : St) (v1 : Int32) (v2 : Int32) (v4 : Int32) (v5 : Int32) (v6 : Int32) (v7 : Int32), wlp.2.2.2.2.1 s v1 v2 v4 v5 v6 v7 → X m_M_parseMany d 148 [some (.inr (.inr (some 21))), some (.inl v1), some (.inl v2), none, some (.inl v4), some (.inl v5), some (.inl v6), some (.inl v7), none, none] [] (hp s) (qIs (lp.2.2.2.2.1 s v1 v2 v4 v5 v6 v7))) ∧ (∀ (s : St) (v1 : Int32) (v2 : Int32) (v4 : Int32) (v5 : Int32) (v6 : Int32) (v7 : Int32), wlp.2.2.2.2.2 s v1 v2 v4 v5 v6 v7 → X m_M_parseMany d 170 [some (.inr (.inr (some 21))), some (.inl v1), some (.inl v2), none, some (.inl v4), some (.inl v5), some (.inl v6), some (.inl v7), none, none] [] (hp s) (qIs (lp.2.2.2.2.2 s v1 v2 v4 v5 v6 v7)))
def b_M_parseMany_64 (rec : G_parse) (fu : Nat) (lp : LT_M_parseMany_64) (s : St) (v1 : Int32) (v2 : Int32) (v4 : Int32) (v5 : Int32) (v6 : Int32) (v7 : Int32) : Int32 × St := (cond (cn2 .ge v7 v4) ((0 : Int32), pI s 21 31 v5) (cond (cn2 .ge v1 (9 : Int32)) (lp.2.2.2.1 ((rec.1 s (v2 + (1 : Int32))).2) v1 v2 v4 v5 v6 v7 ((rec.1 s (v2 + (1 : Int32))).1)) (cond (cn1 .ne (b2i (f_M_has s v6))) (lp.2.1 ((f_M_next fu s v6).2) v1 v2 v4 v5 v6 v7 ((f_M_next fu s v6).1)) (f_M_fails s (2 : Int32)))))
def v_M_parseMany_64 (rec : G_parse) (wrec : GW_parse) (fu : Nat) (lp : LT_M_parseMany_64) (wlp : LW_M_parseMany_64) (s : St) (v1 : Int32) (v2 : Int32) (v4 : Int32) (v5 : Int32) (v6 : Int32) (v7 : Int32) : Prop := ((cn2 .ge v7 v4) = true → True) ∧ ((cn2 .ge v7 v4) = false → ((cn2 .ge v1 (9 : Int32)) = true → (wrec.1 s (v2 + (1 : Int32)) ∧ (wlp.2.2.2.1 ((rec.1 s (v2 + (1 : Int32))).2) v1 v2 v4 v5 v6 v7 ((rec.1 s (v2 + (1 : Int32))).1)))) ∧ ((cn2 .ge v1 (9 : Int32)) = false → (w_M_has s v6 ∧ ((cn1 .ne (b2i (f_M_has s v6))) = true → (w_M_next fu s v6 ∧ (wlp.2.1 ((f_M_next fu s v6).2) v1 v2 v4 v5 v6 v7 ((f_M_next fu s v6).1)))) ∧ ((cn1 .ne (b2i (f_M_has s v6))) = false → (w_M_fails s (2 : Int32) ∧ True)))))
theorem cb_M_parseMany_64 {d : Nat} {rec : G_parse} {wrec : GW_parse} (hrec : hr_parse (d + 3) rec wrec) (fu : Nat) {lp : LT_M_parseMany_64} {wlp : LW_M_parseMany_64} (hlp : hl_M_parseMany_64 (d + 4) lp wlp) (s : St) (v1 : Int32) (v2 : Int32) (v4 : Int32) (v5 : Int32) (v6 : Int32) (v7 : Int32) (hw : v_M_parseMany_64 rec wrec fu lp wlp s v1 v2 v4 v5 v6 v7) : X m_M_parseMany (d + 4) 64 [some (.inr (.inr (some 21))), some (.inl v1), some (.inl v2), none, some (.inl v4), some (.inl v5), some (.inl v6), some (.inl v7), none, none] [] (hp s) (qIs (b_M_parseMany_64 rec fu lp s v1 v2 v4 v5 v6 v7)) := by
  unfold b_M_parseMany_64
  unfold v_M_parseMany_64 at hw
  refine X_run 3 (i1 := cond (cn2 .ge v7 v4) 172 67) (L1 := [some (.inr (.inr (some 21))), some (.inl v1), some (.inl v2), none, some (.inl v4), some (.inl v5), some (.inl v6), some (.inl v7), none, none]) (st1 := []) rfl ?_
  refine X_brq (fun hb => ?_) (fun hb => ?_)
  · skip
    refine X_run 2 (i1 := 174) (L1 := [some (.inr (.inr (some 21))), some (.inl v1), some (.inl v2), none, some (.inl v4), some (.inl v5), some (.inl v6), some (.inl v7), none, none]) (st1 := [.inl v5, .inr (.inr (some 21))]) rfl ?_
    refine X_pI rfl rfl rfl rfl ?_
    refine X_run 1 (i1 := 176) (L1 := [some (.inr (.inr (some 21))), some (.inl v1), some (.inl v2), none, some (.inl v4), some (.inl v5), some (.inl v6), some (.inl v7), none, none]) (st1 := [.inl (0 : Int32)]) rfl ?_
    exact X_iret rfl rfl qIs_i
  · have hw := hw.2 hb
    refine X_run 3 (i1 := cond (cn2 .ge v1 (9 : Int32)) 115 70) (L1 := [some (.inr (.inr (some 21))), some (.inl v1), some (.inl v2), none, some (.inl v4), some (.inl v5), some (.inl v6), some (.inl v7), none, none]) (st1 := []) rfl ?_
    refine X_brq (fun hb => ?_) (fun hb => ?_)
    · have hw := hw.1 hb
      refine X_run 4 (i1 := 119) (L1 := [some (.inr (.inr (some 21))), some (.inl v1), some (.inl v2), none, some (.inl v4), some (.inl v5), some (.inl v6), some (.inl v7), none, none]) (st1 := [.inl (v2 + (1 : Int32)), .inr (.inr (some 21))]) rfl ?_
      obtain ⟨hc, hw⟩ := hw
      refine X_callv m_M_parse (As := [.inl (v2 + (1 : Int32))]) (st := []) ok_M_parse rfl rfl rfl (hp_obj rfl) rfl (Nat.le_of_ble_eq_true rfl) (Nat.le_of_ble_eq_true rfl) (hrec.1 s (v2 + (1 : Int32)) hc) ?_
      rintro _ _ ⟨rfl, rfl⟩
      show X _ _ 120 [some (.inr (.inr (some 21))), some (.inl v1), some (.inl v2), none, some (.inl v4), some (.inl v5), some (.inl v6), some (.inl v7), none, none] [.inl ((rec.1 s (v2 + (1 : Int32))).1)] (hp ((rec.1 s (v2 + (1 : Int32))).2)) _
      show X _ _ 120 [some (.inr (.inr (some 21))), some (.inl v1), some (.inl v2), none, some (.inl v4), some (.inl v5), some (.inl v6), some (.inl v7), none, none] [.inl ((rec.1 s (v2 + (1 : Int32))).1)] (hp ((rec.1 s (v2 + (1 : Int32))).2)) _
      exact hlp.2.2.2.1 ((rec.1 s (v2 + (1 : Int32))).2) v1 v2 v4 v5 v6 v7 ((rec.1 s (v2 + (1 : Int32))).1) hw
    · have hw := hw.2 hb
      refine X_run 2 (i1 := 72) (L1 := [some (.inr (.inr (some 21))), some (.inl v1), some (.inl v2), none, some (.inl v4), some (.inl v5), some (.inl v6), some (.inl v7), none, none]) (st1 := [.inl v6, .inr (.inr (some 21))]) rfl ?_
      obtain ⟨hc, hw⟩ := hw
      refine X_callv m_M_has (As := [.inl v6]) (st := []) ok_M_has rfl rfl rfl (hp_obj rfl) rfl (Nat.le_of_ble_eq_true rfl) (Nat.le_of_ble_eq_true rfl) (c_M_has (d := d + 3) s v6 hc) ?_
      rintro _ _ ⟨rfl, rfl⟩
      show X _ _ 73 [some (.inr (.inr (some 21))), some (.inl v1), some (.inl v2), none, some (.inl v4), some (.inl v5), some (.inl v6), some (.inl v7), none, none] [.inl (b2i (f_M_has s v6))] (hp s) _
      refine X_run 1 (i1 := cond (cn1 .ne (b2i (f_M_has s v6))) 78 74) (L1 := [some (.inr (.inr (some 21))), some (.inl v1), some (.inl v2), none, some (.inl v4), some (.inl v5), some (.inl v6), some (.inl v7), none, none]) (st1 := []) rfl ?_
      refine X_brq (fun hb => ?_) (fun hb => ?_)
      · have hw := hw.1 hb
        refine X_run 2 (i1 := 80) (L1 := [some (.inr (.inr (some 21))), some (.inl v1), some (.inl v2), none, some (.inl v4), some (.inl v5), some (.inl v6), some (.inl v7), none, none]) (st1 := [.inl v6, .inr (.inr (some 21))]) rfl ?_
        obtain ⟨hc, hw⟩ := hw
        refine X_callv m_M_next (As := [.inl v6]) (st := []) ok_M_next rfl rfl rfl (hp_obj rfl) rfl (Nat.le_of_ble_eq_true rfl) (Nat.le_of_ble_eq_true rfl) (c_M_next (d := d + 3) fu s v6 hc) ?_
        rintro _ _ ⟨rfl, rfl⟩
        show X _ _ 81 [some (.inr (.inr (some 21))), some (.inl v1), some (.inl v2), none, some (.inl v4), some (.inl v5), some (.inl v6), some (.inl v7), none, none] [.inr (.inl ((f_M_next fu s v6).1))] (hp ((f_M_next fu s v6).2)) _
        show X _ _ 81 [some (.inr (.inr (some 21))), some (.inl v1), some (.inl v2), none, some (.inl v4), some (.inl v5), some (.inl v6), some (.inl v7), none, none] [.inr (.inl ((f_M_next fu s v6).1))] (hp ((f_M_next fu s v6).2)) _
        exact hlp.2.1 ((f_M_next fu s v6).2) v1 v2 v4 v5 v6 v7 ((f_M_next fu s v6).1) hw
      · have hw := hw.2 hb
        refine X_run 2 (i1 := 76) (L1 := [some (.inr (.inr (some 21))), some (.inl v1), some (.inl v2), none, some (.inl v4), some (.inl v5), some (.inl v6), some (.inl v7), none, none]) (st1 := [.inl (2 : Int32), .inr (.inr (some 21))]) rfl ?_
        obtain ⟨hc, hw⟩ := hw
        refine X_callv m_M_fails (As := [.inl (2 : Int32)]) (st := []) ok_M_fails rfl rfl rfl (hp_obj rfl) rfl (Nat.le_of_ble_eq_true rfl) (Nat.le_of_ble_eq_true rfl) (c_M_fails (d := d + 1) s (2 : Int32) hc) ?_
        rintro _ _ ⟨rfl, rfl⟩
        show X _ _ 77 [some (.inr (.inr (some 21))), some (.inl v1), some (.inl v2), none, some (.inl v4), some (.inl v5), some (.inl v6), some (.inl v7), none, none] [.inl ((f_M_fails s (2 : Int32)).1)] (hp ((f_M_fails s (2 : Int32)).2)) _
        exact X_iret rfl rfl qIs_p
def b_M_parseMany_81 (rec : G_parse) (fu : Nat) (lp : LT_M_parseMany_64) (s : St) (v1 : Int32) (v2 : Int32) (v4 : Int32) (v5 : Int32) (v6 : Int32) (v7 : Int32) (w0 : Int64) : Int32 × St := (cond (cn2 .ne v1 (7 : Int32)) (cond (cn2 .ne v1 (6 : Int32)) (cond (cn2 .ne v1 (5 : Int32)) (lp.2.2.1 s v1 v2 v4 v5 v6 v7 (f_M_cut v1 (Int64.toInt32 w0)) ((sA s 23 (Int32.toNatClampNeg v5)) + v7)) (lp.2.2.1 s v1 v2 v4 v5 v6 v7 w0 ((sA s 23 (Int32.toNatClampNeg v5)) + v7))) (lp.2.2.1 s v1 v2 v4 v5 v6 v7 (Int32.toInt64 (f_M_keptNarrow (Int64.toInt32 w0))) ((sA s 23 (Int32.toNatClampNeg v5)) + v7))) (lp.2.2.1 s v1 v2 v4 v5 v6 v7 (f_M_kept w0) ((sA s 23 (Int32.toNatClampNeg v5)) + v7)))
def v_M_parseMany_81 (rec : G_parse) (wrec : GW_parse) (fu : Nat) (lp : LT_M_parseMany_64) (wlp : LW_M_parseMany_64) (s : St) (v1 : Int32) (v2 : Int32) (v4 : Int32) (v5 : Int32) (v6 : Int32) (v7 : Int32) (w0 : Int64) : Prop := (vp_in v5 40001 ∧ ((cn2 .ne v1 (7 : Int32)) = true → ((cn2 .ne v1 (6 : Int32)) = true → ((cn2 .ne v1 (5 : Int32)) = true → (wlp.2.2.1 s v1 v2 v4 v5 v6 v7 (f_M_cut v1 (Int64.toInt32 w0)) ((sA s 23 (Int32.toNatClampNeg v5)) + v7))) ∧ ((cn2 .ne v1 (5 : Int32)) = false → (wlp.2.2.1 s v1 v2 v4 v5 v6 v7 w0 ((sA s 23 (Int32.toNatClampNeg v5)) + v7)))) ∧ ((cn2 .ne v1 (6 : Int32)) = false → (wlp.2.2.1 s v1 v2 v4 v5 v6 v7 (Int32.toInt64 (f_M_keptNarrow (Int64.toInt32 w0))) ((sA s 23 (Int32.toNatClampNeg v5)) + v7)))) ∧ ((cn2 .ne v1 (7 : Int32)) = false → (wlp.2.2.1 s v1 v2 v4 v5 v6 v7 (f_M_kept w0) ((sA s 23 (Int32.toNatClampNeg v5)) + v7))))
theorem cb_M_parseMany_81 {d : Nat} {rec : G_parse} {wrec : GW_parse} (hrec : hr_parse (d + 3) rec wrec) (fu : Nat) {lp : LT_M_parseMany_64} {wlp : LW_M_parseMany_64} (hlp : hl_M_parseMany_64 (d + 4) lp wlp) (s : St) (v1 : Int32) (v2 : Int32) (v4 : Int32) (v5 : Int32) (v6 : Int32) (v7 : Int32) (w0 : Int64) (hw : v_M_parseMany_81 rec wrec fu lp wlp s v1 v2 v4 v5 v6 v7 w0) : X m_M_parseMany (d + 4) 81 [some (.inr (.inr (some 21))), some (.inl v1), some (.inl v2), none, some (.inl v4), some (.inl v5), some (.inl v6), some (.inl v7), none, none] [.inr (.inl w0)] (hp s) (qIs (b_M_parseMany_81 rec fu lp s v1 v2 v4 v5 v6 v7 w0)) := by
  unfold b_M_parseMany_81
  unfold v_M_parseMany_81 at hw
  refine X_run 2 (i1 := 83) (L1 := [some (.inr (.inr (some 21))), some (.inl v1), some (.inl v2), none, some (.inl v4), some (.inl v5), some (.inl v6), some (.inl v7), some (.inr (.inl w0)), none]) (st1 := [.inr (.inr (some 21))]) rfl ?_
  refine X_gF (v := .inr (.inr (some 26))) rfl rfl rfl rfl ?_
  refine X_run 1 (i1 := 85) (L1 := [some (.inr (.inr (some 21))), some (.inl v1), some (.inl v2), none, some (.inl v4), some (.inl v5), some (.inl v6), some (.inl v7), some (.inr (.inl w0)), none]) (st1 := [.inr (.inr (some 21)), .inr (.inr (some 26))]) rfl ?_
  refine X_gF (v := .inr (.inr (some 23))) rfl rfl rfl rfl ?_
  refine X_run 1 (i1 := 87) (L1 := [some (.inr (.inr (some 21))), some (.inl v1), some (.inl v2), none, some (.inl v4), some (.inl v5), some (.inl v6), some (.inl v7), some (.inr (.inl w0)), none]) (st1 := [.inl v5, .inr (.inr (some 23)), .inr (.inr (some 26))]) rfl ?_
  obtain ⟨hin, hw⟩ := hw
  refine X_aI rfl rfl hin ?_
  show X _ _ 88 [some (.inr (.inr (some 21))), some (.inl v1), some (.inl v2), none, some (.inl v4), some (.inl v5), some (.inl v6), some (.inl v7), some (.inr (.inl w0)), none] [.inl (sA s 23 (Int32.toNatClampNeg v5)), .inr (.inr (some 26))] (hp s) _
  refine X_run 5 (i1 := cond (cn2 .ne v1 (7 : Int32)) 96 93) (L1 := [some (.inr (.inr (some 21))), some (.inl v1), some (.inl v2), none, some (.inl v4), some (.inl v5), some (.inl v6), some (.inl v7), some (.inr (.inl w0)), none]) (st1 := [.inl ((sA s 23 (Int32.toNatClampNeg v5)) + v7), .inr (.inr (some 26))]) rfl ?_
  refine X_brq (fun hb => ?_) (fun hb => ?_)
  · have hw := hw.1 hb
    refine X_run 3 (i1 := cond (cn2 .ne v1 (6 : Int32)) 104 99) (L1 := [some (.inr (.inr (some 21))), some (.inl v1), some (.inl v2), none, some (.inl v4), some (.inl v5), some (.inl v6), some (.inl v7), some (.inr (.inl w0)), none]) (st1 := [.inl ((sA s 23 (Int32.toNatClampNeg v5)) + v7), .inr (.inr (some 26))]) rfl ?_
    refine X_brq (fun hb => ?_) (fun hb => ?_)
    · have hw := hw.1 hb
      refine X_run 3 (i1 := cond (cn2 .ne v1 (5 : Int32)) 109 107) (L1 := [some (.inr (.inr (some 21))), some (.inl v1), some (.inl v2), none, some (.inl v4), some (.inl v5), some (.inl v6), some (.inl v7), some (.inr (.inl w0)), none]) (st1 := [.inl ((sA s 23 (Int32.toNatClampNeg v5)) + v7), .inr (.inr (some 26))]) rfl ?_
      refine X_brq (fun hb => ?_) (fun hb => ?_)
      · have hw := hw.1 hb
        refine X_run 3 (i1 := 112) (L1 := [some (.inr (.inr (some 21))), some (.inl v1), some (.inl v2), none, some (.inl v4), some (.inl v5), some (.inl v6), some (.inl v7), some (.inr (.inl w0)), none]) (st1 := [.inl (Int64.toInt32 w0), .inl v1, .inl ((sA s 23 (Int32.toNatClampNeg v5)) + v7), .inr (.inr (some 26))]) rfl ?_
        refine X_calls m_M_cut (As := [.inl v1, .inl (Int64.toInt32 w0)]) (st := [.inl ((sA s 23 (Int32.toNatClampNeg v5)) + v7), .inr (.inr (some 26))]) ok_M_cut rfl rfl rfl (Nat.le_of_ble_eq_true rfl) (Nat.le_of_ble_eq_true rfl) (c_M_cut (d := d + 3) v1 (Int64.toInt32 w0)) ?_
        rintro _ _ ⟨rfl, rfl⟩
        show X _ _ 113 [some (.inr (.inr (some 21))), some (.inl v1), some (.inl v2), none, some (.inl v4), some (.inl v5), some (.inl v6), some (.inl v7), some (.inr (.inl w0)), none] [.inr (.inl (f_M_cut v1 (Int64.toInt32 w0))), .inl ((sA s 23 (Int32.toNatClampNeg v5)) + v7), .inr (.inr (some 26))] (hp s) _
        show X _ _ 113 [some (.inr (.inr (some 21))), some (.inl v1), some (.inl v2), none, some (.inl v4), some (.inl v5), some (.inl v6), some (.inl v7), some (.inr (.inl w0)), none] [.inr (.inl (f_M_cut v1 (Int64.toInt32 w0))), .inl ((sA s 23 (Int32.toNatClampNeg v5)) + v7), .inr (.inr (some 26))] (hp s) _
        refine X_mask [true, true, true, true, true, true, true, true, false, true] ?_
        exact hlp.2.2.1 s v1 v2 v4 v5 v6 v7 (f_M_cut v1 (Int64.toInt32 w0)) ((sA s 23 (Int32.toNatClampNeg v5)) + v7) hw
      · have hw := hw.2 hb
        refine X_run 2 (i1 := 113) (L1 := [some (.inr (.inr (some 21))), some (.inl v1), some (.inl v2), none, some (.inl v4), some (.inl v5), some (.inl v6), some (.inl v7), some (.inr (.inl w0)), none]) (st1 := [.inr (.inl w0), .inl ((sA s 23 (Int32.toNatClampNeg v5)) + v7), .inr (.inr (some 26))]) rfl ?_
        refine X_mask [true, true, true, true, true, true, true, true, false, true] ?_
        exact hlp.2.2.1 s v1 v2 v4 v5 v6 v7 w0 ((sA s 23 (Int32.toNatClampNeg v5)) + v7) hw
    · have hw := hw.2 hb
      refine X_run 2 (i1 := 101) (L1 := [some (.inr (.inr (some 21))), some (.inl v1), some (.inl v2), none, some (.inl v4), some (.inl v5), some (.inl v6), some (.inl v7), some (.inr (.inl w0)), none]) (st1 := [.inl (Int64.toInt32 w0), .inl ((sA s 23 (Int32.toNatClampNeg v5)) + v7), .inr (.inr (some 26))]) rfl ?_
      refine X_calls m_M_keptNarrow (As := [.inl (Int64.toInt32 w0)]) (st := [.inl ((sA s 23 (Int32.toNatClampNeg v5)) + v7), .inr (.inr (some 26))]) ok_M_keptNarrow rfl rfl rfl (Nat.le_of_ble_eq_true rfl) (Nat.le_of_ble_eq_true rfl) (c_M_keptNarrow (d := d + 3) (Int64.toInt32 w0)) ?_
      rintro _ _ ⟨rfl, rfl⟩
      show X _ _ 102 [some (.inr (.inr (some 21))), some (.inl v1), some (.inl v2), none, some (.inl v4), some (.inl v5), some (.inl v6), some (.inl v7), some (.inr (.inl w0)), none] [.inl (f_M_keptNarrow (Int64.toInt32 w0)), .inl ((sA s 23 (Int32.toNatClampNeg v5)) + v7), .inr (.inr (some 26))] (hp s) _
      refine X_run 2 (i1 := 113) (L1 := [some (.inr (.inr (some 21))), some (.inl v1), some (.inl v2), none, some (.inl v4), some (.inl v5), some (.inl v6), some (.inl v7), some (.inr (.inl w0)), none]) (st1 := [.inr (.inl (Int32.toInt64 (f_M_keptNarrow (Int64.toInt32 w0)))), .inl ((sA s 23 (Int32.toNatClampNeg v5)) + v7), .inr (.inr (some 26))]) rfl ?_
      refine X_mask [true, true, true, true, true, true, true, true, false, true] ?_
      exact hlp.2.2.1 s v1 v2 v4 v5 v6 v7 (Int32.toInt64 (f_M_keptNarrow (Int64.toInt32 w0))) ((sA s 23 (Int32.toNatClampNeg v5)) + v7) hw
  · have hw := hw.2 hb
    refine X_run 1 (i1 := 94) (L1 := [some (.inr (.inr (some 21))), some (.inl v1), some (.inl v2), none, some (.inl v4), some (.inl v5), some (.inl v6), some (.inl v7), some (.inr (.inl w0)), none]) (st1 := [.inr (.inl w0), .inl ((sA s 23 (Int32.toNatClampNeg v5)) + v7), .inr (.inr (some 26))]) rfl ?_
    refine X_calls m_M_kept (As := [.inr (.inl w0)]) (st := [.inl ((sA s 23 (Int32.toNatClampNeg v5)) + v7), .inr (.inr (some 26))]) ok_M_kept rfl rfl rfl (Nat.le_of_ble_eq_true rfl) (Nat.le_of_ble_eq_true rfl) (c_M_kept (d := d + 2) w0) ?_
    rintro _ _ ⟨rfl, rfl⟩
    show X _ _ 95 [some (.inr (.inr (some 21))), some (.inl v1), some (.inl v2), none, some (.inl v4), some (.inl v5), some (.inl v6), some (.inl v7), some (.inr (.inl w0)), none] [.inr (.inl (f_M_kept w0)), .inl ((sA s 23 (Int32.toNatClampNeg v5)) + v7), .inr (.inr (some 26))] (hp s) _
    refine X_run 1 (i1 := 113) (L1 := [some (.inr (.inr (some 21))), some (.inl v1), some (.inl v2), none, some (.inl v4), some (.inl v5), some (.inl v6), some (.inl v7), some (.inr (.inl w0)), none]) (st1 := [.inr (.inl (f_M_kept w0)), .inl ((sA s 23 (Int32.toNatClampNeg v5)) + v7), .inr (.inr (some 26))]) rfl ?_
    refine X_mask [true, true, true, true, true, true, true, true, false, true] ?_
    exact hlp.2.2.1 s v1 v2 v4 v5 v6 v7 (f_M_kept w0) ((sA s 23 (Int32.toNatClampNeg v5)) + v7) hw
def b_M_parseMany_113 (rec : G_parse) (fu : Nat) (lp : LT_M_parseMany_64) (s : St) (v1 : Int32) (v2 : Int32) (v4 : Int32) (v5 : Int32) (v6 : Int32) (v7 : Int32) (w0 : Int64) (w1 : Int32) : Int32 × St := (lp.2.2.2.2.2 (pB s 26 (vp_updL (sB s 26) (Int32.toNatClampNeg w1) w0)) v1 v2 v4 v5 v6 v7)
def v_M_parseMany_113 (rec : G_parse) (wrec : GW_parse) (fu : Nat) (lp : LT_M_parseMany_64) (wlp : LW_M_parseMany_64) (s : St) (v1 : Int32) (v2 : Int32) (v4 : Int32) (v5 : Int32) (v6 : Int32) (v7 : Int32) (w0 : Int64) (w1 : Int32) : Prop := (vp_in w1 40001 ∧ (wlp.2.2.2.2.2 (pB s 26 (vp_updL (sB s 26) (Int32.toNatClampNeg w1) w0)) v1 v2 v4 v5 v6 v7))
theorem cb_M_parseMany_113 {d : Nat} {rec : G_parse} {wrec : GW_parse} (hrec : hr_parse (d + 3) rec wrec) (fu : Nat) {lp : LT_M_parseMany_64} {wlp : LW_M_parseMany_64} (hlp : hl_M_parseMany_64 (d + 4) lp wlp) (s : St) (v1 : Int32) (v2 : Int32) (v4 : Int32) (v5 : Int32) (v6 : Int32) (v7 : Int32) (w0 : Int64) (w1 : Int32) (hw : v_M_parseMany_113 rec wrec fu lp wlp s v1 v2 v4 v5 v6 v7 w0 w1) : X m_M_parseMany (d + 4) 113 [some (.inr (.inr (some 21))), some (.inl v1), some (.inl v2), none, some (.inl v4), some (.inl v5), some (.inl v6), some (.inl v7), none, none] [.inr (.inl w0), .inl w1, .inr (.inr (some 26))] (hp s) (qIs (b_M_parseMany_113 rec fu lp s v1 v2 v4 v5 v6 v7 w0 w1)) := by
  unfold b_M_parseMany_113
  unfold v_M_parseMany_113 at hw
  obtain ⟨hin, hw⟩ := hw
  refine X_sL rfl rfl hin ?_
  show X _ _ 114 [some (.inr (.inr (some 21))), some (.inl v1), some (.inl v2), none, some (.inl v4), some (.inl v5), some (.inl v6), some (.inl v7), none, none] [] (hp (pB s 26 (vp_updL (sB s 26) (Int32.toNatClampNeg w1) w0))) _
  refine X_run 1 (i1 := 170) (L1 := [some (.inr (.inr (some 21))), some (.inl v1), some (.inl v2), none, some (.inl v4), some (.inl v5), some (.inl v6), some (.inl v7), none, none]) (st1 := []) rfl ?_
  exact hlp.2.2.2.2.2 (pB s 26 (vp_updL (sB s 26) (Int32.toNatClampNeg w1) w0)) v1 v2 v4 v5 v6 v7 hw
def b_M_parseMany_120 (rec : G_parse) (fu : Nat) (lp : LT_M_parseMany_64) (s : St) (v1 : Int32) (v2 : Int32) (v4 : Int32) (v5 : Int32) (v6 : Int32) (v7 : Int32) (w0 : Int32) : Int32 × St := (cond (cn1 .eq w0) (cond (cn1 .le (sI s 21 31)) (lp.2.2.2.2.1 s v1 v2 v4 v5 v6 v7) (cond (cn2 .ne v1 (9 : Int32)) (cond (cn1 .ne (b2i (f_M_isPart s (sI s 21 31)))) (lp.2.2.2.2.1 s v1 v2 v4 v5 v6 v7) (t_M_parseMany_144 rec fu s)) (cond (cn2 .eq (sA s 22 (Int32.toNatClampNeg (sI s 21 31))) (4 : Int32)) (lp.2.2.2.2.1 s v1 v2 v4 v5 v6 v7) (t_M_parseMany_144 rec fu s)))) (w0, s))
def v_M_parseMany_120 (rec : G_parse) (wrec : GW_parse) (fu : Nat) (lp : LT_M_parseMany_64) (wlp : LW_M_parseMany_64) (s : St) (v1 : Int32) (v2 : Int32) (v4 : Int32) (v5 : Int32) (v6 : Int32) (v7 : Int32) (w0 : Int32) : Prop := ((cn1 .eq w0) = true → ((cn1 .le (sI s 21 31)) = true → (wlp.2.2.2.2.1 s v1 v2 v4 v5 v6 v7)) ∧ ((cn1 .le (sI s 21 31)) = false → ((cn2 .ne v1 (9 : Int32)) = true → (w_M_isPart s (sI s 21 31) ∧ ((cn1 .ne (b2i (f_M_isPart s (sI s 21 31)))) = true → (wlp.2.2.2.2.1 s v1 v2 v4 v5 v6 v7)) ∧ ((cn1 .ne (b2i (f_M_isPart s (sI s 21 31)))) = false → (w_M_parseMany_144 rec wrec fu s)))) ∧ ((cn2 .ne v1 (9 : Int32)) = false → (vp_in (sI s 21 31) 40001 ∧ ((cn2 .eq (sA s 22 (Int32.toNatClampNeg (sI s 21 31))) (4 : Int32)) = true → (wlp.2.2.2.2.1 s v1 v2 v4 v5 v6 v7)) ∧ ((cn2 .eq (sA s 22 (Int32.toNatClampNeg (sI s 21 31))) (4 : Int32)) = false → (w_M_parseMany_144 rec wrec fu s)))))) ∧ ((cn1 .eq w0) = false → True)
theorem cb_M_parseMany_120 {d : Nat} {rec : G_parse} {wrec : GW_parse} (hrec : hr_parse (d + 3) rec wrec) (fu : Nat) {lp : LT_M_parseMany_64} {wlp : LW_M_parseMany_64} (hlp : hl_M_parseMany_64 (d + 4) lp wlp) (s : St) (v1 : Int32) (v2 : Int32) (v4 : Int32) (v5 : Int32) (v6 : Int32) (v7 : Int32) (w0 : Int32) (hw : v_M_parseMany_120 rec wrec fu lp wlp s v1 v2 v4 v5 v6 v7 w0) : X m_M_parseMany (d + 4) 120 [some (.inr (.inr (some 21))), some (.inl v1), some (.inl v2), none, some (.inl v4), some (.inl v5), some (.inl v6), some (.inl v7), none, none] [.inl w0] (hp s) (qIs (b_M_parseMany_120 rec fu lp s v1 v2 v4 v5 v6 v7 w0)) := by
  unfold b_M_parseMany_120
  unfold v_M_parseMany_120 at hw
  refine X_run 3 (i1 := cond (cn1 .eq w0) 125 123) (L1 := [some (.inr (.inr (some 21))), some (.inl v1), some (.inl v2), none, some (.inl v4), some (.inl v5), some (.inl v6), some (.inl v7), some (.inl w0), none]) (st1 := []) rfl ?_
  refine X_brq (fun hb => ?_) (fun hb => ?_)
  · have hw := hw.1 hb
    refine X_run 1 (i1 := 126) (L1 := [some (.inr (.inr (some 21))), some (.inl v1), some (.inl v2), none, some (.inl v4), some (.inl v5), some (.inl v6), some (.inl v7), some (.inl w0), none]) (st1 := [.inr (.inr (some 21))]) rfl ?_
    refine X_gF (v := .inl (sI s 21 31)) rfl rfl rfl rfl ?_
    refine X_run 1 (i1 := cond (cn1 .le (sI s 21 31)) 148 128) (L1 := [some (.inr (.inr (some 21))), some (.inl v1), some (.inl v2), none, some (.inl v4), some (.inl v5), some (.inl v6), some (.inl v7), some (.inl w0), none]) (st1 := []) rfl ?_
    refine X_brq (fun hb => ?_) (fun hb => ?_)
    · have hw := hw.1 hb
      refine X_mask [true, true, true, true, true, true, true, true, false, true] ?_
      exact hlp.2.2.2.2.1 s v1 v2 v4 v5 v6 v7 hw
    · have hw := hw.2 hb
      refine X_run 3 (i1 := cond (cn2 .ne v1 (9 : Int32)) 139 131) (L1 := [some (.inr (.inr (some 21))), some (.inl v1), some (.inl v2), none, some (.inl v4), some (.inl v5), some (.inl v6), some (.inl v7), some (.inl w0), none]) (st1 := []) rfl ?_
      refine X_brq (fun hb => ?_) (fun hb => ?_)
      · have hw := hw.1 hb
        refine X_run 2 (i1 := 141) (L1 := [some (.inr (.inr (some 21))), some (.inl v1), some (.inl v2), none, some (.inl v4), some (.inl v5), some (.inl v6), some (.inl v7), some (.inl w0), none]) (st1 := [.inr (.inr (some 21)), .inr (.inr (some 21))]) rfl ?_
        refine X_gF (v := .inl (sI s 21 31)) rfl rfl rfl rfl ?_
        obtain ⟨hc, hw⟩ := hw
        refine X_callv m_M_isPart (As := [.inl (sI s 21 31)]) (st := []) ok_M_isPart rfl rfl rfl (hp_obj rfl) rfl (Nat.le_of_ble_eq_true rfl) (Nat.le_of_ble_eq_true rfl) (c_M_isPart (d := d + 3) s (sI s 21 31) hc) ?_
        rintro _ _ ⟨rfl, rfl⟩
        show X _ _ 143 [some (.inr (.inr (some 21))), some (.inl v1), some (.inl v2), none, some (.inl v4), some (.inl v5), some (.inl v6), some (.inl v7), some (.inl w0), none] [.inl (b2i (f_M_isPart s (sI s 21 31)))] (hp s) _
        refine X_run 1 (i1 := cond (cn1 .ne (b2i (f_M_isPart s (sI s 21 31)))) 148 144) (L1 := [some (.inr (.inr (some 21))), some (.inl v1), some (.inl v2), none, some (.inl v4), some (.inl v5), some (.inl v6), some (.inl v7), some (.inl w0), none]) (st1 := []) rfl ?_
        refine X_brq (fun hb => ?_) (fun hb => ?_)
        · have hw := hw.1 hb
          refine X_mask [true, true, true, true, true, true, true, true, false, true] ?_
          exact hlp.2.2.2.2.1 s v1 v2 v4 v5 v6 v7 hw
        · have hw := hw.2 hb
          refine X_mask [true, false, false, true, false, false, false, false, false, true] ?_
          exact ct_M_parseMany_144 hrec fu s hw
      · have hw := hw.2 hb
        refine X_run 1 (i1 := 132) (L1 := [some (.inr (.inr (some 21))), some (.inl v1), some (.inl v2), none, some (.inl v4), some (.inl v5), some (.inl v6), some (.inl v7), some (.inl w0), none]) (st1 := [.inr (.inr (some 21))]) rfl ?_
        refine X_gF (v := .inr (.inr (some 22))) rfl rfl rfl rfl ?_
        refine X_run 1 (i1 := 134) (L1 := [some (.inr (.inr (some 21))), some (.inl v1), some (.inl v2), none, some (.inl v4), some (.inl v5), some (.inl v6), some (.inl v7), some (.inl w0), none]) (st1 := [.inr (.inr (some 21)), .inr (.inr (some 22))]) rfl ?_
        refine X_gF (v := .inl (sI s 21 31)) rfl rfl rfl rfl ?_
        obtain ⟨hin, hw⟩ := hw
        refine X_aI rfl rfl hin ?_
        show X _ _ 136 [some (.inr (.inr (some 21))), some (.inl v1), some (.inl v2), none, some (.inl v4), some (.inl v5), some (.inl v6), some (.inl v7), some (.inl w0), none] [.inl (sA s 22 (Int32.toNatClampNeg (sI s 21 31)))] (hp s) _
        refine X_run 2 (i1 := cond (cn2 .eq (sA s 22 (Int32.toNatClampNeg (sI s 21 31))) (4 : Int32)) 148 138) (L1 := [some (.inr (.inr (some 21))), some (.inl v1), some (.inl v2), none, some (.inl v4), some (.inl v5), some (.inl v6), some (.inl v7), some (.inl w0), none]) (st1 := []) rfl ?_
        refine X_brq (fun hb => ?_) (fun hb => ?_)
        · have hw := hw.1 hb
          refine X_mask [true, true, true, true, true, true, true, true, false, true] ?_
          exact hlp.2.2.2.2.1 s v1 v2 v4 v5 v6 v7 hw
        · have hw := hw.2 hb
          refine X_run 1 (i1 := 144) (L1 := [some (.inr (.inr (some 21))), some (.inl v1), some (.inl v2), none, some (.inl v4), some (.inl v5), some (.inl v6), some (.inl v7), some (.inl w0), none]) (st1 := []) rfl ?_
          refine X_mask [true, false, false, true, false, false, false, false, false, true] ?_
          exact ct_M_parseMany_144 hrec fu s hw
  · skip
    refine X_run 1 (i1 := 124) (L1 := [some (.inr (.inr (some 21))), some (.inl v1), some (.inl v2), none, some (.inl v4), some (.inl v5), some (.inl v6), some (.inl v7), some (.inl w0), none]) (st1 := [.inl w0]) rfl ?_
    exact X_iret rfl rfl qIs_i
def b_M_parseMany_148 (rec : G_parse) (fu : Nat) (lp : LT_M_parseMany_64) (s : St) (v1 : Int32) (v2 : Int32) (v4 : Int32) (v5 : Int32) (v6 : Int32) (v7 : Int32) : Int32 × St := (cond (cn1 .ne (b2i (f_M_goes s (sI s 21 31) v5))) (lp.2.2.2.2.2 (pB s 26 (vp_updL (sB s 26) (Int32.toNatClampNeg ((sA s 23 (Int32.toNatClampNeg v5)) + v7)) (Int32.toInt64 (sI s 21 31)))) v1 v2 v4 v5 v6 v7) (f_M_fails s (5 : Int32)))
def v_M_parseMany_148 (rec : G_parse) (wrec : GW_parse) (fu : Nat) (lp : LT_M_parseMany_64) (wlp : LW_M_parseMany_64) (s : St) (v1 : Int32) (v2 : Int32) (v4 : Int32) (v5 : Int32) (v6 : Int32) (v7 : Int32) : Prop := (w_M_goes s (sI s 21 31) v5 ∧ ((cn1 .ne (b2i (f_M_goes s (sI s 21 31) v5))) = true → (vp_in v5 40001 ∧ (vp_in ((sA s 23 (Int32.toNatClampNeg v5)) + v7) 40001 ∧ (wlp.2.2.2.2.2 (pB s 26 (vp_updL (sB s 26) (Int32.toNatClampNeg ((sA s 23 (Int32.toNatClampNeg v5)) + v7)) (Int32.toInt64 (sI s 21 31)))) v1 v2 v4 v5 v6 v7)))) ∧ ((cn1 .ne (b2i (f_M_goes s (sI s 21 31) v5))) = false → (w_M_fails s (5 : Int32) ∧ True)))
theorem cb_M_parseMany_148 {d : Nat} {rec : G_parse} {wrec : GW_parse} (hrec : hr_parse (d + 3) rec wrec) (fu : Nat) {lp : LT_M_parseMany_64} {wlp : LW_M_parseMany_64} (hlp : hl_M_parseMany_64 (d + 4) lp wlp) (s : St) (v1 : Int32) (v2 : Int32) (v4 : Int32) (v5 : Int32) (v6 : Int32) (v7 : Int32) (hw : v_M_parseMany_148 rec wrec fu lp wlp s v1 v2 v4 v5 v6 v7) : X m_M_parseMany (d + 4) 148 [some (.inr (.inr (some 21))), some (.inl v1), some (.inl v2), none, some (.inl v4), some (.inl v5), some (.inl v6), some (.inl v7), none, none] [] (hp s) (qIs (b_M_parseMany_148 rec fu lp s v1 v2 v4 v5 v6 v7)) := by
  unfold b_M_parseMany_148
  unfold v_M_parseMany_148 at hw
  refine X_run 2 (i1 := 150) (L1 := [some (.inr (.inr (some 21))), some (.inl v1), some (.inl v2), none, some (.inl v4), some (.inl v5), some (.inl v6), some (.inl v7), none, none]) (st1 := [.inr (.inr (some 21)), .inr (.inr (some 21))]) rfl ?_
  refine X_gF (v := .inl (sI s 21 31)) rfl rfl rfl rfl ?_
  refine X_run 1 (i1 := 152) (L1 := [some (.inr (.inr (some 21))), some (.inl v1), some (.inl v2), none, some (.inl v4), some (.inl v5), some (.inl v6), some (.inl v7), none, none]) (st1 := [.inl v5, .inl (sI s 21 31), .inr (.inr (some 21))]) rfl ?_
  obtain ⟨hc, hw⟩ := hw
  refine X_callv m_M_goes (As := [.inl (sI s 21 31), .inl v5]) (st := []) ok_M_goes rfl rfl rfl (hp_obj rfl) rfl (Nat.le_of_ble_eq_true rfl) (Nat.le_of_ble_eq_true rfl) (c_M_goes (d := d + 2) s (sI s 21 31) v5 hc) ?_
  rintro _ _ ⟨rfl, rfl⟩
  show X _ _ 153 [some (.inr (.inr (some 21))), some (.inl v1), some (.inl v2), none, some (.inl v4), some (.inl v5), some (.inl v6), some (.inl v7), none, none] [.inl (b2i (f_M_goes s (sI s 21 31) v5))] (hp s) _
  refine X_run 1 (i1 := cond (cn1 .ne (b2i (f_M_goes s (sI s 21 31) v5))) 158 154) (L1 := [some (.inr (.inr (some 21))), some (.inl v1), some (.inl v2), none, some (.inl v4), some (.inl v5), some (.inl v6), some (.inl v7), none, none]) (st1 := []) rfl ?_
  refine X_brq (fun hb => ?_) (fun hb => ?_)
  · have hw := hw.1 hb
    refine X_run 1 (i1 := 159) (L1 := [some (.inr (.inr (some 21))), some (.inl v1), some (.inl v2), none, some (.inl v4), some (.inl v5), some (.inl v6), some (.inl v7), none, none]) (st1 := [.inr (.inr (some 21))]) rfl ?_
    refine X_gF (v := .inr (.inr (some 26))) rfl rfl rfl rfl ?_
    refine X_run 1 (i1 := 161) (L1 := [some (.inr (.inr (some 21))), some (.inl v1), some (.inl v2), none, some (.inl v4), some (.inl v5), some (.inl v6), some (.inl v7), none, none]) (st1 := [.inr (.inr (some 21)), .inr (.inr (some 26))]) rfl ?_
    refine X_gF (v := .inr (.inr (some 23))) rfl rfl rfl rfl ?_
    refine X_run 1 (i1 := 163) (L1 := [some (.inr (.inr (some 21))), some (.inl v1), some (.inl v2), none, some (.inl v4), some (.inl v5), some (.inl v6), some (.inl v7), none, none]) (st1 := [.inl v5, .inr (.inr (some 23)), .inr (.inr (some 26))]) rfl ?_
    obtain ⟨hin, hw⟩ := hw
    refine X_aI rfl rfl hin ?_
    show X _ _ 164 [some (.inr (.inr (some 21))), some (.inl v1), some (.inl v2), none, some (.inl v4), some (.inl v5), some (.inl v6), some (.inl v7), none, none] [.inl (sA s 23 (Int32.toNatClampNeg v5)), .inr (.inr (some 26))] (hp s) _
    refine X_run 3 (i1 := 167) (L1 := [some (.inr (.inr (some 21))), some (.inl v1), some (.inl v2), none, some (.inl v4), some (.inl v5), some (.inl v6), some (.inl v7), none, none]) (st1 := [.inr (.inr (some 21)), .inl ((sA s 23 (Int32.toNatClampNeg v5)) + v7), .inr (.inr (some 26))]) rfl ?_
    refine X_gF (v := .inl (sI s 21 31)) rfl rfl rfl rfl ?_
    refine X_run 1 (i1 := 169) (L1 := [some (.inr (.inr (some 21))), some (.inl v1), some (.inl v2), none, some (.inl v4), some (.inl v5), some (.inl v6), some (.inl v7), none, none]) (st1 := [.inr (.inl (Int32.toInt64 (sI s 21 31))), .inl ((sA s 23 (Int32.toNatClampNeg v5)) + v7), .inr (.inr (some 26))]) rfl ?_
    obtain ⟨hin, hw⟩ := hw
    refine X_sL rfl rfl hin ?_
    show X _ _ 170 [some (.inr (.inr (some 21))), some (.inl v1), some (.inl v2), none, some (.inl v4), some (.inl v5), some (.inl v6), some (.inl v7), none, none] [] (hp (pB s 26 (vp_updL (sB s 26) (Int32.toNatClampNeg ((sA s 23 (Int32.toNatClampNeg v5)) + v7)) (Int32.toInt64 (sI s 21 31))))) _
    show X _ _ 170 [some (.inr (.inr (some 21))), some (.inl v1), some (.inl v2), none, some (.inl v4), some (.inl v5), some (.inl v6), some (.inl v7), none, none] [] (hp (pB s 26 (vp_updL (sB s 26) (Int32.toNatClampNeg ((sA s 23 (Int32.toNatClampNeg v5)) + v7)) (Int32.toInt64 (sI s 21 31))))) _
    exact hlp.2.2.2.2.2 (pB s 26 (vp_updL (sB s 26) (Int32.toNatClampNeg ((sA s 23 (Int32.toNatClampNeg v5)) + v7)) (Int32.toInt64 (sI s 21 31)))) v1 v2 v4 v5 v6 v7 hw
  · have hw := hw.2 hb
    refine X_run 2 (i1 := 156) (L1 := [some (.inr (.inr (some 21))), some (.inl v1), some (.inl v2), none, some (.inl v4), some (.inl v5), some (.inl v6), some (.inl v7), none, none]) (st1 := [.inl (5 : Int32), .inr (.inr (some 21))]) rfl ?_
    obtain ⟨hc, hw⟩ := hw
    refine X_callv m_M_fails (As := [.inl (5 : Int32)]) (st := []) ok_M_fails rfl rfl rfl (hp_obj rfl) rfl (Nat.le_of_ble_eq_true rfl) (Nat.le_of_ble_eq_true rfl) (c_M_fails (d := d + 1) s (5 : Int32) hc) ?_
    rintro _ _ ⟨rfl, rfl⟩
    show X _ _ 157 [some (.inr (.inr (some 21))), some (.inl v1), some (.inl v2), none, some (.inl v4), some (.inl v5), some (.inl v6), some (.inl v7), none, none] [.inl ((f_M_fails s (5 : Int32)).1)] (hp ((f_M_fails s (5 : Int32)).2)) _
    exact X_iret rfl rfl qIs_p
def b_M_parseMany_170 (rec : G_parse) (fu : Nat) (lp : LT_M_parseMany_64) (s : St) (v1 : Int32) (v2 : Int32) (v4 : Int32) (v5 : Int32) (v6 : Int32) (v7 : Int32) : Int32 × St := (lp.1 s v1 v2 v4 v5 v6 (v7 + Int32.ofInt (1)))
def v_M_parseMany_170 (rec : G_parse) (wrec : GW_parse) (fu : Nat) (lp : LT_M_parseMany_64) (wlp : LW_M_parseMany_64) (s : St) (v1 : Int32) (v2 : Int32) (v4 : Int32) (v5 : Int32) (v6 : Int32) (v7 : Int32) : Prop := (wlp.1 s v1 v2 v4 v5 v6 (v7 + Int32.ofInt (1)))
theorem cb_M_parseMany_170 {d : Nat} {rec : G_parse} {wrec : GW_parse} (hrec : hr_parse (d + 3) rec wrec) (fu : Nat) {lp : LT_M_parseMany_64} {wlp : LW_M_parseMany_64} (hlp : hl_M_parseMany_64 (d + 4) lp wlp) (s : St) (v1 : Int32) (v2 : Int32) (v4 : Int32) (v5 : Int32) (v6 : Int32) (v7 : Int32) (hw : v_M_parseMany_170 rec wrec fu lp wlp s v1 v2 v4 v5 v6 v7) : X m_M_parseMany (d + 4) 170 [some (.inr (.inr (some 21))), some (.inl v1), some (.inl v2), none, some (.inl v4), some (.inl v5), some (.inl v6), some (.inl v7), none, none] [] (hp s) (qIs (b_M_parseMany_170 rec fu lp s v1 v2 v4 v5 v6 v7)) := by
  unfold b_M_parseMany_170
  unfold v_M_parseMany_170 at hw
  refine X_run 2 (i1 := 64) (L1 := [some (.inr (.inr (some 21))), some (.inl v1), some (.inl v2), none, some (.inl v4), some (.inl v5), some (.inl v6), some (.inl (v7 + Int32.ofInt (1))), none, none]) (st1 := []) rfl ?_
  exact hlp.1 s v1 v2 v4 v5 v6 (v7 + Int32.ofInt (1)) hw
def T_M_parseMany_64 (rec : G_parse) (fu : Nat) : Nat → LT_M_parseMany_64
  | 0 => (fun s _ _ _ _ _ _ => (0, s), fun s _ _ _ _ _ _ _ => (0, s), fun s _ _ _ _ _ _ _ _ => (0, s), fun s _ _ _ _ _ _ _ => (0, s), fun s _ _ _ _ _ _ => (0, s), fun s _ _ _ _ _ _ => (0, s))
  | n + 1 => (fun s v1 v2 v4 v5 v6 v7 => b_M_parseMany_64 rec fu (T_M_parseMany_64 rec fu n) s v1 v2 v4 v5 v6 v7, fun s v1 v2 v4 v5 v6 v7 w0 => b_M_parseMany_81 rec fu (T_M_parseMany_64 rec fu n) s v1 v2 v4 v5 v6 v7 w0, fun s v1 v2 v4 v5 v6 v7 w0 w1 => b_M_parseMany_113 rec fu (T_M_parseMany_64 rec fu n) s v1 v2 v4 v5 v6 v7 w0 w1, fun s v1 v2 v4 v5 v6 v7 w0 => b_M_parseMany_120 rec fu (T_M_parseMany_64 rec fu n) s v1 v2 v4 v5 v6 v7 w0, fun s v1 v2 v4 v5 v6 v7 => b_M_parseMany_148 rec fu (T_M_parseMany_64 rec fu n) s v1 v2 v4 v5 v6 v7, fun s v1 v2 v4 v5 v6 v7 => b_M_parseMany_170 rec fu (T_M_parseMany_64 rec fu n) s v1 v2 v4 v5 v6 v7)
def WT_M_parseMany_64 (rec : G_parse) (wrec : GW_parse) (fu : Nat) : Nat → LW_M_parseMany_64
  | 0 => (fun _ _ _ _ _ _ _ => False, fun _ _ _ _ _ _ _ _ => False, fun _ _ _ _ _ _ _ _ _ => False, fun _ _ _ _ _ _ _ _ => False, fun _ _ _ _ _ _ _ => False, fun _ _ _ _ _ _ _ => False)
  | n + 1 => (fun s v1 v2 v4 v5 v6 v7 => v_M_parseMany_64 rec wrec fu (T_M_parseMany_64 rec fu n) (WT_M_parseMany_64 rec wrec fu n) s v1 v2 v4 v5 v6 v7, fun s v1 v2 v4 v5 v6 v7 w0 => v_M_parseMany_81 rec wrec fu (T_M_parseMany_64 rec fu n) (WT_M_parseMany_64 rec wrec fu n) s v1 v2 v4 v5 v6 v7 w0, fun s v1 v2 v4 v5 v6 v7 w0 w1 => v_M_parseMany_113 rec wrec fu (T_M_parseMany_64 rec fu n) (WT_M_parseMany_64 rec wrec fu n) s v1 v2 v4 v5 v6 v7 w0 w1, fun s v1 v2 v4 v5 v6 v7 w0 => v_M_parseMany_120 rec wrec fu (T_M_parseMany_64 rec fu n) (WT_M_parseMany_64 rec wrec fu n) s v1 v2 v4 v5 v6 v7 w0, fun s v1 v2 v4 v5 v6 v7 => v_M_parseMany_148 rec wrec fu (T_M_parseMany_64 rec fu n) (WT_M_parseMany_64 rec wrec fu n) s v1 v2 v4 v5 v6 v7, fun s v1 v2 v4 v5 v6 v7 => v_M_parseMany_170 rec wrec fu (T_M_parseMany_64 rec fu n) (WT_M_parseMany_64 rec wrec fu n) s v1 v2 v4 v5 v6 v7)
theorem cT_M_parseMany_64 {d : Nat} {rec : G_parse} {wrec : GW_parse} (hrec : hr_parse (d + 3) rec wrec) (fu : Nat) : ∀ n : Nat, hl_M_parseMany_64 (d + 4) (T_M_parseMany_64 rec fu n) (WT_M_parseMany_64 rec wrec fu n)
  | 0 => ⟨fun _ _ _ _ _ _ _ hw => hw.elim, fun _ _ _ _ _ _ _ _ hw => hw.elim, fun _ _ _ _ _ _ _ _ _ hw => hw.elim, fun _ _ _ _ _ _ _ _ hw => hw.elim, fun _ _ _ _ _ _ _ hw => hw.elim, fun _ _ _ _ _ _ _ hw => hw.elim⟩
  | n + 1 => ⟨fun s v1 v2 v4 v5 v6 v7 hw => cb_M_parseMany_64 hrec fu (cT_M_parseMany_64 hrec fu n) s v1 v2 v4 v5 v6 v7 hw, fun s v1 v2 v4 v5 v6 v7 w0 hw => cb_M_parseMany_81 hrec fu (cT_M_parseMany_64 hrec fu n) s v1 v2 v4 v5 v6 v7 w0 hw, fun s v1 v2 v4 v5 v6 v7 w0 w1 hw => cb_M_parseMany_113 hrec fu (cT_M_parseMany_64 hrec fu n) s v1 v2 v4 v5 v6 v7 w0 w1 hw, fun s v1 v2 v4 v5 v6 v7 w0 hw => cb_M_parseMany_120 hrec fu (cT_M_parseMany_64 hrec fu n) s v1 v2 v4 v5 v6 v7 w0 hw, fun s v1 v2 v4 v5 v6 v7 hw => cb_M_parseMany_148 hrec fu (cT_M_parseMany_64 hrec fu n) s v1 v2 v4 v5 v6 v7 hw, fun s v1 v2 v4 v5 v6 v7 hw => cb_M_parseMany_170 hrec fu (cT_M_parseMany_64 hrec fu n) s v1 v2 v4 v5 v6 v7 hw⟩
def t_M_parseMany_58 (rec : G_parse) (fu : Nat) (s : St) (v1 : Int32) (v2 : Int32) (v4 : Int32) (w0 : Int32) : Int32 × St := ((T_M_parseMany_64 rec fu fu).1 s v1 v2 v4 w0 (f_M_wideOf v1) (0 : Int32))
def w_M_parseMany_58 (rec : G_parse) (wrec : GW_parse) (fu : Nat) (s : St) (v1 : Int32) (v2 : Int32) (v4 : Int32) (w0 : Int32) : Prop := ((WT_M_parseMany_64 rec wrec fu fu).1 s v1 v2 v4 w0 (f_M_wideOf v1) (0 : Int32))
theorem ct_M_parseMany_58 {d : Nat} {rec : G_parse} {wrec : GW_parse} (hrec : hr_parse (d + 3) rec wrec) (fu : Nat) (s : St) (v1 : Int32) (v2 : Int32) (v4 : Int32) (w0 : Int32) (hw : w_M_parseMany_58 rec wrec fu s v1 v2 v4 w0) : X m_M_parseMany (d + 4) 58 [some (.inr (.inr (some 21))), some (.inl v1), some (.inl v2), none, some (.inl v4), none, none, none, none, none] [.inl w0] (hp s) (qIs (t_M_parseMany_58 rec fu s v1 v2 v4 w0)) := by
  unfold t_M_parseMany_58
  unfold w_M_parseMany_58 at hw
  refine X_run 2 (i1 := 60) (L1 := [some (.inr (.inr (some 21))), some (.inl v1), some (.inl v2), none, some (.inl v4), some (.inl w0), none, none, none, none]) (st1 := [.inl v1]) rfl ?_
  refine X_calls m_M_wideOf (As := [.inl v1]) (st := []) ok_M_wideOf rfl rfl rfl (Nat.le_of_ble_eq_true rfl) (Nat.le_of_ble_eq_true rfl) (c_M_wideOf (d := d + 3) v1) ?_
  rintro _ _ ⟨rfl, rfl⟩
  show X _ _ 61 [some (.inr (.inr (some 21))), some (.inl v1), some (.inl v2), none, some (.inl v4), some (.inl w0), none, none, none, none] [.inl (f_M_wideOf v1)] (hp s) _
  refine X_run 3 (i1 := 64) (L1 := [some (.inr (.inr (some 21))), some (.inl v1), some (.inl v2), none, some (.inl v4), some (.inl w0), some (.inl (f_M_wideOf v1)), some (.inl (0 : Int32)), none, none]) (st1 := []) rfl ?_
  exact (cT_M_parseMany_64 hrec fu fu).1 s v1 v2 v4 w0 (f_M_wideOf v1) (0 : Int32) hw
def t_M_parseMany_50 (rec : G_parse) (fu : Nat) (s : St) (v1 : Int32) (v2 : Int32) (v3 : Int32) (v4 : Int32) (w0 : Int32) : Int32 × St := (cond (cn1 .ne w0) (t_M_parseMany_58 rec fu ((f_M_thing s v1 v4 v3).2) v1 v2 v4 ((f_M_thing s v1 v4 v3).1)) ((3 : Int32), s))
def w_M_parseMany_50 (rec : G_parse) (wrec : GW_parse) (fu : Nat) (s : St) (v1 : Int32) (v2 : Int32) (v3 : Int32) (v4 : Int32) (w0 : Int32) : Prop := ((cn1 .ne w0) = true → (w_M_thing s v1 v4 v3 ∧ (w_M_parseMany_58 rec wrec fu ((f_M_thing s v1 v4 v3).2) v1 v2 v4 ((f_M_thing s v1 v4 v3).1)))) ∧ ((cn1 .ne w0) = false → True)
theorem ct_M_parseMany_50 {d : Nat} {rec : G_parse} {wrec : GW_parse} (hrec : hr_parse (d + 3) rec wrec) (fu : Nat) (s : St) (v1 : Int32) (v2 : Int32) (v3 : Int32) (v4 : Int32) (w0 : Int32) (hw : w_M_parseMany_50 rec wrec fu s v1 v2 v3 v4 w0) : X m_M_parseMany (d + 4) 50 [some (.inr (.inr (some 21))), some (.inl v1), some (.inl v2), some (.inl v3), some (.inl v4), none, none, none, none, none] [.inl w0] (hp s) (qIs (t_M_parseMany_50 rec fu s v1 v2 v3 v4 w0)) := by
  unfold t_M_parseMany_50
  unfold w_M_parseMany_50 at hw
  refine X_run 1 (i1 := cond (cn1 .ne w0) 53 51) (L1 := [some (.inr (.inr (some 21))), some (.inl v1), some (.inl v2), some (.inl v3), some (.inl v4), none, none, none, none, none]) (st1 := []) rfl ?_
  refine X_brq (fun hb => ?_) (fun hb => ?_)
  · have hw := hw.1 hb
    refine X_run 4 (i1 := 57) (L1 := [some (.inr (.inr (some 21))), some (.inl v1), some (.inl v2), some (.inl v3), some (.inl v4), none, none, none, none, none]) (st1 := [.inl v3, .inl v4, .inl v1, .inr (.inr (some 21))]) rfl ?_
    obtain ⟨hc, hw⟩ := hw
    refine X_callv m_M_thing (As := [.inl v1, .inl v4, .inl v3]) (st := []) ok_M_thing rfl rfl rfl (hp_obj rfl) rfl (Nat.le_of_ble_eq_true rfl) (Nat.le_of_ble_eq_true rfl) (c_M_thing (d := d + 3) s v1 v4 v3 hc) ?_
    rintro _ _ ⟨rfl, rfl⟩
    show X _ _ 58 [some (.inr (.inr (some 21))), some (.inl v1), some (.inl v2), some (.inl v3), some (.inl v4), none, none, none, none, none] [.inl ((f_M_thing s v1 v4 v3).1)] (hp ((f_M_thing s v1 v4 v3).2)) _
    show X _ _ 58 [some (.inr (.inr (some 21))), some (.inl v1), some (.inl v2), some (.inl v3), some (.inl v4), none, none, none, none, none] [.inl ((f_M_thing s v1 v4 v3).1)] (hp ((f_M_thing s v1 v4 v3).2)) _
    refine X_mask [true, true, true, false, true, true, true, true, true, true] ?_
    exact ct_M_parseMany_58 hrec fu ((f_M_thing s v1 v4 v3).2) v1 v2 v4 ((f_M_thing s v1 v4 v3).1) hw
  · skip
    refine X_run 1 (i1 := 52) (L1 := [some (.inr (.inr (some 21))), some (.inl v1), some (.inl v2), some (.inl v3), some (.inl v4), none, none, none, none, none]) (st1 := [.inl (3 : Int32)]) rfl ?_
    exact X_iret rfl rfl qIs_i
def t_M_parseMany_36 (rec : G_parse) (fu : Nat) (s : St) (v1 : Int32) (v2 : Int32) (v3 : Int32) (w0 : Int64) : Int32 × St := (cond (cn1 .ge (Int64.toInt32 w0)) (t_M_parseMany_50 rec fu ((f_M_pays s ((1 : Int64) + (Int32.toInt64 (Int64.toInt32 w0)))).2) v1 v2 v3 (Int64.toInt32 w0) (b2i (f_M_pays s ((1 : Int64) + (Int32.toInt64 (Int64.toInt32 w0)))).1)) (f_M_fails s (3 : Int32)))
def w_M_parseMany_36 (rec : G_parse) (wrec : GW_parse) (fu : Nat) (s : St) (v1 : Int32) (v2 : Int32) (v3 : Int32) (w0 : Int64) : Prop := ((cn1 .ge (Int64.toInt32 w0)) = true → (w_M_pays s ((1 : Int64) + (Int32.toInt64 (Int64.toInt32 w0))) ∧ (w_M_parseMany_50 rec wrec fu ((f_M_pays s ((1 : Int64) + (Int32.toInt64 (Int64.toInt32 w0)))).2) v1 v2 v3 (Int64.toInt32 w0) (b2i (f_M_pays s ((1 : Int64) + (Int32.toInt64 (Int64.toInt32 w0)))).1)))) ∧ ((cn1 .ge (Int64.toInt32 w0)) = false → (w_M_fails s (3 : Int32) ∧ True))
theorem ct_M_parseMany_36 {d : Nat} {rec : G_parse} {wrec : GW_parse} (hrec : hr_parse (d + 3) rec wrec) (fu : Nat) (s : St) (v1 : Int32) (v2 : Int32) (v3 : Int32) (w0 : Int64) (hw : w_M_parseMany_36 rec wrec fu s v1 v2 v3 w0) : X m_M_parseMany (d + 4) 36 [some (.inr (.inr (some 21))), some (.inl v1), some (.inl v2), some (.inl v3), none, none, none, none, none, none] [.inr (.inl w0)] (hp s) (qIs (t_M_parseMany_36 rec fu s v1 v2 v3 w0)) := by
  unfold t_M_parseMany_36
  unfold w_M_parseMany_36 at hw
  refine X_run 4 (i1 := cond (cn1 .ge (Int64.toInt32 w0)) 44 40) (L1 := [some (.inr (.inr (some 21))), some (.inl v1), some (.inl v2), some (.inl v3), some (.inl (Int64.toInt32 w0)), none, none, none, none, none]) (st1 := []) rfl ?_
  refine X_brq (fun hb => ?_) (fun hb => ?_)
  · have hw := hw.1 hb
    refine X_run 5 (i1 := 49) (L1 := [some (.inr (.inr (some 21))), some (.inl v1), some (.inl v2), some (.inl v3), some (.inl (Int64.toInt32 w0)), none, none, none, none, none]) (st1 := [.inr (.inl ((1 : Int64) + (Int32.toInt64 (Int64.toInt32 w0)))), .inr (.inr (some 21))]) rfl ?_
    obtain ⟨hc, hw⟩ := hw
    refine X_callv m_M_pays (As := [.inr (.inl ((1 : Int64) + (Int32.toInt64 (Int64.toInt32 w0))))]) (st := []) ok_M_pays rfl rfl rfl (hp_obj rfl) rfl (Nat.le_of_ble_eq_true rfl) (Nat.le_of_ble_eq_true rfl) (c_M_pays (d := d + 3) s ((1 : Int64) + (Int32.toInt64 (Int64.toInt32 w0))) hc) ?_
    rintro _ _ ⟨rfl, rfl⟩
    show X _ _ 50 [some (.inr (.inr (some 21))), some (.inl v1), some (.inl v2), some (.inl v3), some (.inl (Int64.toInt32 w0)), none, none, none, none, none] [.inl (b2i (f_M_pays s ((1 : Int64) + (Int32.toInt64 (Int64.toInt32 w0)))).1)] (hp ((f_M_pays s ((1 : Int64) + (Int32.toInt64 (Int64.toInt32 w0)))).2)) _
    show X _ _ 50 [some (.inr (.inr (some 21))), some (.inl v1), some (.inl v2), some (.inl v3), some (.inl (Int64.toInt32 w0)), none, none, none, none, none] [.inl (b2i (f_M_pays s ((1 : Int64) + (Int32.toInt64 (Int64.toInt32 w0)))).1)] (hp ((f_M_pays s ((1 : Int64) + (Int32.toInt64 (Int64.toInt32 w0)))).2)) _
    exact ct_M_parseMany_50 hrec fu ((f_M_pays s ((1 : Int64) + (Int32.toInt64 (Int64.toInt32 w0)))).2) v1 v2 v3 (Int64.toInt32 w0) (b2i (f_M_pays s ((1 : Int64) + (Int32.toInt64 (Int64.toInt32 w0)))).1) hw
  · have hw := hw.2 hb
    refine X_run 2 (i1 := 42) (L1 := [some (.inr (.inr (some 21))), some (.inl v1), some (.inl v2), some (.inl v3), some (.inl (Int64.toInt32 w0)), none, none, none, none, none]) (st1 := [.inl (3 : Int32), .inr (.inr (some 21))]) rfl ?_
    obtain ⟨hc, hw⟩ := hw
    refine X_callv m_M_fails (As := [.inl (3 : Int32)]) (st := []) ok_M_fails rfl rfl rfl (hp_obj rfl) rfl (Nat.le_of_ble_eq_true rfl) (Nat.le_of_ble_eq_true rfl) (c_M_fails (d := d + 1) s (3 : Int32) hc) ?_
    rintro _ _ ⟨rfl, rfl⟩
    show X _ _ 43 [some (.inr (.inr (some 21))), some (.inl v1), some (.inl v2), some (.inl v3), some (.inl (Int64.toInt32 w0)), none, none, none, none, none] [.inl ((f_M_fails s (3 : Int32)).1)] (hp ((f_M_fails s (3 : Int32)).2)) _
    exact X_iret rfl rfl qIs_p
def t_M_parseMany_25 (rec : G_parse) (fu : Nat) (s : St) (v1 : Int32) (v2 : Int32) (v3 : Int32) : Int32 × St := (cond (cn1 .ne (b2i (f_M_has s (4 : Int32)))) (t_M_parseMany_36 rec fu ((f_M_next fu s (4 : Int32)).2) v1 v2 v3 ((f_M_next fu s (4 : Int32)).1)) (f_M_fails s (2 : Int32)))
def w_M_parseMany_25 (rec : G_parse) (wrec : GW_parse) (fu : Nat) (s : St) (v1 : Int32) (v2 : Int32) (v3 : Int32) : Prop := (w_M_has s (4 : Int32) ∧ ((cn1 .ne (b2i (f_M_has s (4 : Int32)))) = true → (w_M_next fu s (4 : Int32) ∧ (w_M_parseMany_36 rec wrec fu ((f_M_next fu s (4 : Int32)).2) v1 v2 v3 ((f_M_next fu s (4 : Int32)).1)))) ∧ ((cn1 .ne (b2i (f_M_has s (4 : Int32)))) = false → (w_M_fails s (2 : Int32) ∧ True)))
theorem ct_M_parseMany_25 {d : Nat} {rec : G_parse} {wrec : GW_parse} (hrec : hr_parse (d + 3) rec wrec) (fu : Nat) (s : St) (v1 : Int32) (v2 : Int32) (v3 : Int32) (hw : w_M_parseMany_25 rec wrec fu s v1 v2 v3) : X m_M_parseMany (d + 4) 25 [some (.inr (.inr (some 21))), some (.inl v1), some (.inl v2), some (.inl v3), none, none, none, none, none, none] [] (hp s) (qIs (t_M_parseMany_25 rec fu s v1 v2 v3)) := by
  unfold t_M_parseMany_25
  unfold w_M_parseMany_25 at hw
  refine X_run 2 (i1 := 27) (L1 := [some (.inr (.inr (some 21))), some (.inl v1), some (.inl v2), some (.inl v3), none, none, none, none, none, none]) (st1 := [.inl (4 : Int32), .inr (.inr (some 21))]) rfl ?_
  obtain ⟨hc, hw⟩ := hw
  refine X_callv m_M_has (As := [.inl (4 : Int32)]) (st := []) ok_M_has rfl rfl rfl (hp_obj rfl) rfl (Nat.le_of_ble_eq_true rfl) (Nat.le_of_ble_eq_true rfl) (c_M_has (d := d + 3) s (4 : Int32) hc) ?_
  rintro _ _ ⟨rfl, rfl⟩
  show X _ _ 28 [some (.inr (.inr (some 21))), some (.inl v1), some (.inl v2), some (.inl v3), none, none, none, none, none, none] [.inl (b2i (f_M_has s (4 : Int32)))] (hp s) _
  refine X_run 1 (i1 := cond (cn1 .ne (b2i (f_M_has s (4 : Int32)))) 33 29) (L1 := [some (.inr (.inr (some 21))), some (.inl v1), some (.inl v2), some (.inl v3), none, none, none, none, none, none]) (st1 := []) rfl ?_
  refine X_brq (fun hb => ?_) (fun hb => ?_)
  · have hw := hw.1 hb
    refine X_run 2 (i1 := 35) (L1 := [some (.inr (.inr (some 21))), some (.inl v1), some (.inl v2), some (.inl v3), none, none, none, none, none, none]) (st1 := [.inl (4 : Int32), .inr (.inr (some 21))]) rfl ?_
    obtain ⟨hc, hw⟩ := hw
    refine X_callv m_M_next (As := [.inl (4 : Int32)]) (st := []) ok_M_next rfl rfl rfl (hp_obj rfl) rfl (Nat.le_of_ble_eq_true rfl) (Nat.le_of_ble_eq_true rfl) (c_M_next (d := d + 3) fu s (4 : Int32) hc) ?_
    rintro _ _ ⟨rfl, rfl⟩
    show X _ _ 36 [some (.inr (.inr (some 21))), some (.inl v1), some (.inl v2), some (.inl v3), none, none, none, none, none, none] [.inr (.inl ((f_M_next fu s (4 : Int32)).1))] (hp ((f_M_next fu s (4 : Int32)).2)) _
    show X _ _ 36 [some (.inr (.inr (some 21))), some (.inl v1), some (.inl v2), some (.inl v3), none, none, none, none, none, none] [.inr (.inl ((f_M_next fu s (4 : Int32)).1))] (hp ((f_M_next fu s (4 : Int32)).2)) _
    exact ct_M_parseMany_36 hrec fu ((f_M_next fu s (4 : Int32)).2) v1 v2 v3 ((f_M_next fu s (4 : Int32)).1) hw
  · have hw := hw.2 hb
    refine X_run 2 (i1 := 31) (L1 := [some (.inr (.inr (some 21))), some (.inl v1), some (.inl v2), some (.inl v3), none, none, none, none, none, none]) (st1 := [.inl (2 : Int32), .inr (.inr (some 21))]) rfl ?_
    obtain ⟨hc, hw⟩ := hw
    refine X_callv m_M_fails (As := [.inl (2 : Int32)]) (st := []) ok_M_fails rfl rfl rfl (hp_obj rfl) rfl (Nat.le_of_ble_eq_true rfl) (Nat.le_of_ble_eq_true rfl) (c_M_fails (d := d + 1) s (2 : Int32) hc) ?_
    rintro _ _ ⟨rfl, rfl⟩
    show X _ _ 32 [some (.inr (.inr (some 21))), some (.inl v1), some (.inl v2), some (.inl v3), none, none, none, none, none, none] [.inl ((f_M_fails s (2 : Int32)).1)] (hp ((f_M_fails s (2 : Int32)).2)) _
    exact X_iret rfl rfl qIs_p
def t_M_parseMany_16 (rec : G_parse) (fu : Nat) (s : St) (v1 : Int32) (v2 : Int32) (w0 : Int64) : Int32 × St := (cond (cn2 .le (Int64.toInt32 w0) (4 : Int32)) (t_M_parseMany_25 rec fu s v1 v2 (Int64.toInt32 w0)) (f_M_fails s (4 : Int32)))
def w_M_parseMany_16 (rec : G_parse) (wrec : GW_parse) (fu : Nat) (s : St) (v1 : Int32) (v2 : Int32) (w0 : Int64) : Prop := ((cn2 .le (Int64.toInt32 w0) (4 : Int32)) = true → (w_M_parseMany_25 rec wrec fu s v1 v2 (Int64.toInt32 w0))) ∧ ((cn2 .le (Int64.toInt32 w0) (4 : Int32)) = false → (w_M_fails s (4 : Int32) ∧ True))
theorem ct_M_parseMany_16 {d : Nat} {rec : G_parse} {wrec : GW_parse} (hrec : hr_parse (d + 3) rec wrec) (fu : Nat) (s : St) (v1 : Int32) (v2 : Int32) (w0 : Int64) (hw : w_M_parseMany_16 rec wrec fu s v1 v2 w0) : X m_M_parseMany (d + 4) 16 [some (.inr (.inr (some 21))), some (.inl v1), some (.inl v2), none, none, none, none, none, none, none] [.inr (.inl w0)] (hp s) (qIs (t_M_parseMany_16 rec fu s v1 v2 w0)) := by
  unfold t_M_parseMany_16
  unfold w_M_parseMany_16 at hw
  refine X_run 5 (i1 := cond (cn2 .le (Int64.toInt32 w0) (4 : Int32)) 25 21) (L1 := [some (.inr (.inr (some 21))), some (.inl v1), some (.inl v2), some (.inl (Int64.toInt32 w0)), none, none, none, none, none, none]) (st1 := []) rfl ?_
  refine X_brq (fun hb => ?_) (fun hb => ?_)
  · have hw := hw.1 hb
    exact ct_M_parseMany_25 hrec fu s v1 v2 (Int64.toInt32 w0) hw
  · have hw := hw.2 hb
    refine X_run 2 (i1 := 23) (L1 := [some (.inr (.inr (some 21))), some (.inl v1), some (.inl v2), some (.inl (Int64.toInt32 w0)), none, none, none, none, none, none]) (st1 := [.inl (4 : Int32), .inr (.inr (some 21))]) rfl ?_
    obtain ⟨hc, hw⟩ := hw
    refine X_callv m_M_fails (As := [.inl (4 : Int32)]) (st := []) ok_M_fails rfl rfl rfl (hp_obj rfl) rfl (Nat.le_of_ble_eq_true rfl) (Nat.le_of_ble_eq_true rfl) (c_M_fails (d := d + 1) s (4 : Int32) hc) ?_
    rintro _ _ ⟨rfl, rfl⟩
    show X _ _ 24 [some (.inr (.inr (some 21))), some (.inl v1), some (.inl v2), some (.inl (Int64.toInt32 w0)), none, none, none, none, none, none] [.inl ((f_M_fails s (4 : Int32)).1)] (hp ((f_M_fails s (4 : Int32)).2)) _
    exact X_iret rfl rfl qIs_p
def f_M_parseMany (rec : G_parse) (fu : Nat) (s : St) (a0 : Int32) (a1 : Int32) : Int32 × St := (cond (cn2 .ne a0 (10 : Int32)) (t_M_parseMany_25 rec fu s a0 a1 (0 : Int32)) (cond (cn1 .ne (b2i (f_M_has s (1 : Int32)))) (t_M_parseMany_16 rec fu ((f_M_next fu s (1 : Int32)).2) a0 a1 ((f_M_next fu s (1 : Int32)).1)) (f_M_fails s (2 : Int32))))
def w_M_parseMany (rec : G_parse) (wrec : GW_parse) (fu : Nat) (s : St) (a0 : Int32) (a1 : Int32) : Prop := ((cn2 .ne a0 (10 : Int32)) = true → (w_M_parseMany_25 rec wrec fu s a0 a1 (0 : Int32))) ∧ ((cn2 .ne a0 (10 : Int32)) = false → (w_M_has s (1 : Int32) ∧ ((cn1 .ne (b2i (f_M_has s (1 : Int32)))) = true → (w_M_next fu s (1 : Int32) ∧ (w_M_parseMany_16 rec wrec fu ((f_M_next fu s (1 : Int32)).2) a0 a1 ((f_M_next fu s (1 : Int32)).1)))) ∧ ((cn1 .ne (b2i (f_M_has s (1 : Int32)))) = false → (w_M_fails s (2 : Int32) ∧ True))))
theorem c_M_parseMany {d : Nat} {rec : G_parse} {wrec : GW_parse} (hrec : hr_parse (d + 3) rec wrec) (fu : Nat) (s : St) (a0 : Int32) (a1 : Int32) (hw : w_M_parseMany rec wrec fu s a0 a1) : X m_M_parseMany (d + 4) 0 (entL 10 [.inr (.inr (some 21)), .inl a0, .inl a1]) [] (hp s) (qIs (f_M_parseMany rec fu s a0 a1)) := by
  unfold f_M_parseMany
  unfold w_M_parseMany at hw
  refine X_run 5 (i1 := cond (cn2 .ne a0 (10 : Int32)) 25 5) (L1 := [some (.inr (.inr (some 21))), some (.inl a0), some (.inl a1), some (.inl (0 : Int32)), none, none, none, none, none, none]) (st1 := []) rfl ?_
  refine X_brq (fun hb => ?_) (fun hb => ?_)
  · have hw := hw.1 hb
    exact ct_M_parseMany_25 hrec fu s a0 a1 (0 : Int32) hw
  · have hw := hw.2 hb
    refine X_run 2 (i1 := 7) (L1 := [some (.inr (.inr (some 21))), some (.inl a0), some (.inl a1), some (.inl (0 : Int32)), none, none, none, none, none, none]) (st1 := [.inl (1 : Int32), .inr (.inr (some 21))]) rfl ?_
    obtain ⟨hc, hw⟩ := hw
    refine X_callv m_M_has (As := [.inl (1 : Int32)]) (st := []) ok_M_has rfl rfl rfl (hp_obj rfl) rfl (Nat.le_of_ble_eq_true rfl) (Nat.le_of_ble_eq_true rfl) (c_M_has (d := d + 3) s (1 : Int32) hc) ?_
    rintro _ _ ⟨rfl, rfl⟩
    show X _ _ 8 [some (.inr (.inr (some 21))), some (.inl a0), some (.inl a1), some (.inl (0 : Int32)), none, none, none, none, none, none] [.inl (b2i (f_M_has s (1 : Int32)))] (hp s) _
    refine X_run 1 (i1 := cond (cn1 .ne (b2i (f_M_has s (1 : Int32)))) 13 9) (L1 := [some (.inr (.inr (some 21))), some (.inl a0), some (.inl a1), some (.inl (0 : Int32)), none, none, none, none, none, none]) (st1 := []) rfl ?_
    refine X_brq (fun hb => ?_) (fun hb => ?_)
    · have hw := hw.1 hb
      refine X_run 2 (i1 := 15) (L1 := [some (.inr (.inr (some 21))), some (.inl a0), some (.inl a1), some (.inl (0 : Int32)), none, none, none, none, none, none]) (st1 := [.inl (1 : Int32), .inr (.inr (some 21))]) rfl ?_
      obtain ⟨hc, hw⟩ := hw
      refine X_callv m_M_next (As := [.inl (1 : Int32)]) (st := []) ok_M_next rfl rfl rfl (hp_obj rfl) rfl (Nat.le_of_ble_eq_true rfl) (Nat.le_of_ble_eq_true rfl) (c_M_next (d := d + 3) fu s (1 : Int32) hc) ?_
      rintro _ _ ⟨rfl, rfl⟩
      show X _ _ 16 [some (.inr (.inr (some 21))), some (.inl a0), some (.inl a1), some (.inl (0 : Int32)), none, none, none, none, none, none] [.inr (.inl ((f_M_next fu s (1 : Int32)).1))] (hp ((f_M_next fu s (1 : Int32)).2)) _
      show X _ _ 16 [some (.inr (.inr (some 21))), some (.inl a0), some (.inl a1), some (.inl (0 : Int32)), none, none, none, none, none, none] [.inr (.inl ((f_M_next fu s (1 : Int32)).1))] (hp ((f_M_next fu s (1 : Int32)).2)) _
      refine X_mask [true, true, true, false, true, true, true, true, true, true] ?_
      exact ct_M_parseMany_16 hrec fu ((f_M_next fu s (1 : Int32)).2) a0 a1 ((f_M_next fu s (1 : Int32)).1) hw
    · have hw := hw.2 hb
      refine X_run 2 (i1 := 11) (L1 := [some (.inr (.inr (some 21))), some (.inl a0), some (.inl a1), some (.inl (0 : Int32)), none, none, none, none, none, none]) (st1 := [.inl (2 : Int32), .inr (.inr (some 21))]) rfl ?_
      obtain ⟨hc, hw⟩ := hw
      refine X_callv m_M_fails (As := [.inl (2 : Int32)]) (st := []) ok_M_fails rfl rfl rfl (hp_obj rfl) rfl (Nat.le_of_ble_eq_true rfl) (Nat.le_of_ble_eq_true rfl) (c_M_fails (d := d + 1) s (2 : Int32) hc) ?_
      rintro _ _ ⟨rfl, rfl⟩
      show X _ _ 12 [some (.inr (.inr (some 21))), some (.inl a0), some (.inl a1), some (.inl (0 : Int32)), none, none, none, none, none, none] [.inl ((f_M_fails s (2 : Int32)).1)] (hp ((f_M_fails s (2 : Int32)).2)) _
      exact X_iret rfl rfl qIs_p
def t_M_parsePart_110 (rec : G_parse) (fu : Nat) (s : St) (v3 : Int32) : Int32 × St := ((0 : Int32), pI s 21 31 v3)
def w_M_parsePart_110 (rec : G_parse) (wrec : GW_parse) (fu : Nat) (s : St) (v3 : Int32) : Prop := True
theorem ct_M_parsePart_110 {d : Nat} {rec : G_parse} {wrec : GW_parse} (hrec : hr_parse (d + 3) rec wrec) (fu : Nat) (s : St) (v3 : Int32) (hw : w_M_parsePart_110 rec wrec fu s v3) : X m_M_parsePart (d + 4) 110 [some (.inr (.inr (some 21))), none, none, some (.inl v3), none, none] [] (hp s) (qIs (t_M_parsePart_110 rec fu s v3)) := by
  unfold t_M_parsePart_110
  unfold w_M_parsePart_110 at hw
  refine X_run 2 (i1 := 112) (L1 := [some (.inr (.inr (some 21))), none, none, some (.inl v3), none, none]) (st1 := [.inl v3, .inr (.inr (some 21))]) rfl ?_
  refine X_pI rfl rfl rfl rfl ?_
  refine X_run 1 (i1 := 114) (L1 := [some (.inr (.inr (some 21))), none, none, some (.inl v3), none, none]) (st1 := [.inl (0 : Int32)]) rfl ?_
  exact X_iret rfl rfl qIs_i
def t_M_parsePart_101 (rec : G_parse) (fu : Nat) (s : St) (v3 : Int32) (v4 : Int32) : Int32 × St := (t_M_parsePart_110 rec fu (pB s 26 (vp_updL (sB s 26) (Int32.toNatClampNeg (v4 + (3 : Int32))) (Int32.toInt64 (sI s 21 31)))) v3)
def w_M_parsePart_101 (rec : G_parse) (wrec : GW_parse) (fu : Nat) (s : St) (v3 : Int32) (v4 : Int32) : Prop := (vp_in (v4 + (3 : Int32)) 40001 ∧ (w_M_parsePart_110 rec wrec fu (pB s 26 (vp_updL (sB s 26) (Int32.toNatClampNeg (v4 + (3 : Int32))) (Int32.toInt64 (sI s 21 31)))) v3))
theorem ct_M_parsePart_101 {d : Nat} {rec : G_parse} {wrec : GW_parse} (hrec : hr_parse (d + 3) rec wrec) (fu : Nat) (s : St) (v3 : Int32) (v4 : Int32) (hw : w_M_parsePart_101 rec wrec fu s v3 v4) : X m_M_parsePart (d + 4) 101 [some (.inr (.inr (some 21))), none, none, some (.inl v3), some (.inl v4), none] [] (hp s) (qIs (t_M_parsePart_101 rec fu s v3 v4)) := by
  unfold t_M_parsePart_101
  unfold w_M_parsePart_101 at hw
  refine X_run 1 (i1 := 102) (L1 := [some (.inr (.inr (some 21))), none, none, some (.inl v3), some (.inl v4), none]) (st1 := [.inr (.inr (some 21))]) rfl ?_
  refine X_gF (v := .inr (.inr (some 26))) rfl rfl rfl rfl ?_
  refine X_run 4 (i1 := 107) (L1 := [some (.inr (.inr (some 21))), none, none, some (.inl v3), some (.inl v4), none]) (st1 := [.inr (.inr (some 21)), .inl (v4 + (3 : Int32)), .inr (.inr (some 26))]) rfl ?_
  refine X_gF (v := .inl (sI s 21 31)) rfl rfl rfl rfl ?_
  refine X_run 1 (i1 := 109) (L1 := [some (.inr (.inr (some 21))), none, none, some (.inl v3), some (.inl v4), none]) (st1 := [.inr (.inl (Int32.toInt64 (sI s 21 31))), .inl (v4 + (3 : Int32)), .inr (.inr (some 26))]) rfl ?_
  obtain ⟨hin, hw⟩ := hw
  refine X_sL rfl rfl hin ?_
  show X _ _ 110 [some (.inr (.inr (some 21))), none, none, some (.inl v3), some (.inl v4), none] [] (hp (pB s 26 (vp_updL (sB s 26) (Int32.toNatClampNeg (v4 + (3 : Int32))) (Int32.toInt64 (sI s 21 31))))) _
  show X _ _ 110 [some (.inr (.inr (some 21))), none, none, some (.inl v3), some (.inl v4), none] [] (hp (pB s 26 (vp_updL (sB s 26) (Int32.toNatClampNeg (v4 + (3 : Int32))) (Int32.toInt64 (sI s 21 31))))) _
  refine X_mask [true, true, true, true, false, true] ?_
  exact ct_M_parsePart_110 hrec fu (pB s 26 (vp_updL (sB s 26) (Int32.toNatClampNeg (v4 + (3 : Int32))) (Int32.toInt64 (sI s 21 31)))) v3 hw
def t_M_parsePart_82 (rec : G_parse) (fu : Nat) (s : St) (v3 : Int32) (v4 : Int32) (w0 : Int32) : Int32 × St := (cond (cn1 .eq w0) (cond (cn1 .le (sI s 21 31)) (t_M_parsePart_101 rec fu s v3 v4) (cond (cn2 .eq (sA s 22 (Int32.toNatClampNeg (sI s 21 31))) (10 : Int32)) (t_M_parsePart_101 rec fu s v3 v4) (f_M_fails s (4 : Int32)))) (w0, s))
def w_M_parsePart_82 (rec : G_parse) (wrec : GW_parse) (fu : Nat) (s : St) (v3 : Int32) (v4 : Int32) (w0 : Int32) : Prop := ((cn1 .eq w0) = true → ((cn1 .le (sI s 21 31)) = true → (w_M_parsePart_101 rec wrec fu s v3 v4)) ∧ ((cn1 .le (sI s 21 31)) = false → (vp_in (sI s 21 31) 40001 ∧ ((cn2 .eq (sA s 22 (Int32.toNatClampNeg (sI s 21 31))) (10 : Int32)) = true → (w_M_parsePart_101 rec wrec fu s v3 v4)) ∧ ((cn2 .eq (sA s 22 (Int32.toNatClampNeg (sI s 21 31))) (10 : Int32)) = false → (w_M_fails s (4 : Int32) ∧ True))))) ∧ ((cn1 .eq w0) = false → True)
theorem ct_M_parsePart_82 {d : Nat} {rec : G_parse} {wrec : GW_parse} (hrec : hr_parse (d + 3) rec wrec) (fu : Nat) (s : St) (v3 : Int32) (v4 : Int32) (w0 : Int32) (hw : w_M_parsePart_82 rec wrec fu s v3 v4 w0) : X m_M_parsePart (d + 4) 82 [some (.inr (.inr (some 21))), none, none, some (.inl v3), some (.inl v4), none] [.inl w0] (hp s) (qIs (t_M_parsePart_82 rec fu s v3 v4 w0)) := by
  unfold t_M_parsePart_82
  unfold w_M_parsePart_82 at hw
  refine X_run 3 (i1 := cond (cn1 .eq w0) 87 85) (L1 := [some (.inr (.inr (some 21))), none, none, some (.inl v3), some (.inl v4), some (.inl w0)]) (st1 := []) rfl ?_
  refine X_brq (fun hb => ?_) (fun hb => ?_)
  · have hw := hw.1 hb
    refine X_run 1 (i1 := 88) (L1 := [some (.inr (.inr (some 21))), none, none, some (.inl v3), some (.inl v4), some (.inl w0)]) (st1 := [.inr (.inr (some 21))]) rfl ?_
    refine X_gF (v := .inl (sI s 21 31)) rfl rfl rfl rfl ?_
    refine X_run 1 (i1 := cond (cn1 .le (sI s 21 31)) 101 90) (L1 := [some (.inr (.inr (some 21))), none, none, some (.inl v3), some (.inl v4), some (.inl w0)]) (st1 := []) rfl ?_
    refine X_brq (fun hb => ?_) (fun hb => ?_)
    · have hw := hw.1 hb
      refine X_mask [true, true, true, true, true, false] ?_
      exact ct_M_parsePart_101 hrec fu s v3 v4 hw
    · have hw := hw.2 hb
      refine X_run 1 (i1 := 91) (L1 := [some (.inr (.inr (some 21))), none, none, some (.inl v3), some (.inl v4), some (.inl w0)]) (st1 := [.inr (.inr (some 21))]) rfl ?_
      refine X_gF (v := .inr (.inr (some 22))) rfl rfl rfl rfl ?_
      refine X_run 1 (i1 := 93) (L1 := [some (.inr (.inr (some 21))), none, none, some (.inl v3), some (.inl v4), some (.inl w0)]) (st1 := [.inr (.inr (some 21)), .inr (.inr (some 22))]) rfl ?_
      refine X_gF (v := .inl (sI s 21 31)) rfl rfl rfl rfl ?_
      obtain ⟨hin, hw⟩ := hw
      refine X_aI rfl rfl hin ?_
      show X _ _ 95 [some (.inr (.inr (some 21))), none, none, some (.inl v3), some (.inl v4), some (.inl w0)] [.inl (sA s 22 (Int32.toNatClampNeg (sI s 21 31)))] (hp s) _
      refine X_run 2 (i1 := cond (cn2 .eq (sA s 22 (Int32.toNatClampNeg (sI s 21 31))) (10 : Int32)) 101 97) (L1 := [some (.inr (.inr (some 21))), none, none, some (.inl v3), some (.inl v4), some (.inl w0)]) (st1 := []) rfl ?_
      refine X_brq (fun hb => ?_) (fun hb => ?_)
      · have hw := hw.1 hb
        refine X_mask [true, true, true, true, true, false] ?_
        exact ct_M_parsePart_101 hrec fu s v3 v4 hw
      · have hw := hw.2 hb
        refine X_run 2 (i1 := 99) (L1 := [some (.inr (.inr (some 21))), none, none, some (.inl v3), some (.inl v4), some (.inl w0)]) (st1 := [.inl (4 : Int32), .inr (.inr (some 21))]) rfl ?_
        obtain ⟨hc, hw⟩ := hw
        refine X_callv m_M_fails (As := [.inl (4 : Int32)]) (st := []) ok_M_fails rfl rfl rfl (hp_obj rfl) rfl (Nat.le_of_ble_eq_true rfl) (Nat.le_of_ble_eq_true rfl) (c_M_fails (d := d + 1) s (4 : Int32) hc) ?_
        rintro _ _ ⟨rfl, rfl⟩
        show X _ _ 100 [some (.inr (.inr (some 21))), none, none, some (.inl v3), some (.inl v4), some (.inl w0)] [.inl ((f_M_fails s (4 : Int32)).1)] (hp ((f_M_fails s (4 : Int32)).2)) _
        exact X_iret rfl rfl qIs_p
  · skip
    refine X_run 1 (i1 := 86) (L1 := [some (.inr (.inr (some 21))), none, none, some (.inl v3), some (.inl v4), some (.inl w0)]) (st1 := [.inl w0]) rfl ?_
    exact X_iret rfl rfl qIs_i
def t_M_parsePart_74 (rec : G_parse) (fu : Nat) (s : St) (v1 : Int32) (v2 : Int32) (v3 : Int32) (v4 : Int32) : Int32 × St := (cond (cn2 .ne v1 (15 : Int32)) (t_M_parsePart_110 rec fu s v3) (t_M_parsePart_82 rec fu ((rec.1 s (v2 + (1 : Int32))).2) v3 v4 ((rec.1 s (v2 + (1 : Int32))).1)))
def w_M_parsePart_74 (rec : G_parse) (wrec : GW_parse) (fu : Nat) (s : St) (v1 : Int32) (v2 : Int32) (v3 : Int32) (v4 : Int32) : Prop := ((cn2 .ne v1 (15 : Int32)) = true → (w_M_parsePart_110 rec wrec fu s v3)) ∧ ((cn2 .ne v1 (15 : Int32)) = false → (wrec.1 s (v2 + (1 : Int32)) ∧ (w_M_parsePart_82 rec wrec fu ((rec.1 s (v2 + (1 : Int32))).2) v3 v4 ((rec.1 s (v2 + (1 : Int32))).1))))
theorem ct_M_parsePart_74 {d : Nat} {rec : G_parse} {wrec : GW_parse} (hrec : hr_parse (d + 3) rec wrec) (fu : Nat) (s : St) (v1 : Int32) (v2 : Int32) (v3 : Int32) (v4 : Int32) (hw : w_M_parsePart_74 rec wrec fu s v1 v2 v3 v4) : X m_M_parsePart (d + 4) 74 [some (.inr (.inr (some 21))), some (.inl v1), some (.inl v2), some (.inl v3), some (.inl v4), none] [] (hp s) (qIs (t_M_parsePart_74 rec fu s v1 v2 v3 v4)) := by
  unfold t_M_parsePart_74
  unfold w_M_parsePart_74 at hw
  refine X_run 3 (i1 := cond (cn2 .ne v1 (15 : Int32)) 110 77) (L1 := [some (.inr (.inr (some 21))), some (.inl v1), some (.inl v2), some (.inl v3), some (.inl v4), none]) (st1 := []) rfl ?_
  refine X_brq (fun hb => ?_) (fun hb => ?_)
  · have hw := hw.1 hb
    refine X_mask [true, false, false, true, false, true] ?_
    exact ct_M_parsePart_110 hrec fu s v3 hw
  · have hw := hw.2 hb
    refine X_run 4 (i1 := 81) (L1 := [some (.inr (.inr (some 21))), some (.inl v1), some (.inl v2), some (.inl v3), some (.inl v4), none]) (st1 := [.inl (v2 + (1 : Int32)), .inr (.inr (some 21))]) rfl ?_
    obtain ⟨hc, hw⟩ := hw
    refine X_callv m_M_parse (As := [.inl (v2 + (1 : Int32))]) (st := []) ok_M_parse rfl rfl rfl (hp_obj rfl) rfl (Nat.le_of_ble_eq_true rfl) (Nat.le_of_ble_eq_true rfl) (hrec.1 s (v2 + (1 : Int32)) hc) ?_
    rintro _ _ ⟨rfl, rfl⟩
    show X _ _ 82 [some (.inr (.inr (some 21))), some (.inl v1), some (.inl v2), some (.inl v3), some (.inl v4), none] [.inl ((rec.1 s (v2 + (1 : Int32))).1)] (hp ((rec.1 s (v2 + (1 : Int32))).2)) _
    show X _ _ 82 [some (.inr (.inr (some 21))), some (.inl v1), some (.inl v2), some (.inl v3), some (.inl v4), none] [.inl ((rec.1 s (v2 + (1 : Int32))).1)] (hp ((rec.1 s (v2 + (1 : Int32))).2)) _
    refine X_mask [true, false, false, true, true, true] ?_
    exact ct_M_parsePart_82 hrec fu ((rec.1 s (v2 + (1 : Int32))).2) v3 v4 ((rec.1 s (v2 + (1 : Int32))).1) hw
def t_M_parsePart_71 (rec : G_parse) (fu : Nat) (s : St) (v1 : Int32) (v2 : Int32) (v3 : Int32) (v4 : Int32) (w0 : Int64) (w1 : Int32) : Int32 × St := (t_M_parsePart_74 rec fu (pB s 26 (vp_updL (sB s 26) (Int32.toNatClampNeg w1) (Int32.toInt64 (Int64.toInt32 w0)))) v1 v2 v3 v4)
def w_M_parsePart_71 (rec : G_parse) (wrec : GW_parse) (fu : Nat) (s : St) (v1 : Int32) (v2 : Int32) (v3 : Int32) (v4 : Int32) (w0 : Int64) (w1 : Int32) : Prop := (vp_in w1 40001 ∧ (w_M_parsePart_74 rec wrec fu (pB s 26 (vp_updL (sB s 26) (Int32.toNatClampNeg w1) (Int32.toInt64 (Int64.toInt32 w0)))) v1 v2 v3 v4))
theorem ct_M_parsePart_71 {d : Nat} {rec : G_parse} {wrec : GW_parse} (hrec : hr_parse (d + 3) rec wrec) (fu : Nat) (s : St) (v1 : Int32) (v2 : Int32) (v3 : Int32) (v4 : Int32) (w0 : Int64) (w1 : Int32) (hw : w_M_parsePart_71 rec wrec fu s v1 v2 v3 v4 w0 w1) : X m_M_parsePart (d + 4) 71 [some (.inr (.inr (some 21))), some (.inl v1), some (.inl v2), some (.inl v3), some (.inl v4), none] [.inr (.inl w0), .inl w1, .inr (.inr (some 26))] (hp s) (qIs (t_M_parsePart_71 rec fu s v1 v2 v3 v4 w0 w1)) := by
  unfold t_M_parsePart_71
  unfold w_M_parsePart_71 at hw
  refine X_run 2 (i1 := 73) (L1 := [some (.inr (.inr (some 21))), some (.inl v1), some (.inl v2), some (.inl v3), some (.inl v4), none]) (st1 := [.inr (.inl (Int32.toInt64 (Int64.toInt32 w0))), .inl w1, .inr (.inr (some 26))]) rfl ?_
  obtain ⟨hin, hw⟩ := hw
  refine X_sL rfl rfl hin ?_
  show X _ _ 74 [some (.inr (.inr (some 21))), some (.inl v1), some (.inl v2), some (.inl v3), some (.inl v4), none] [] (hp (pB s 26 (vp_updL (sB s 26) (Int32.toNatClampNeg w1) (Int32.toInt64 (Int64.toInt32 w0))))) _
  show X _ _ 74 [some (.inr (.inr (some 21))), some (.inl v1), some (.inl v2), some (.inl v3), some (.inl v4), none] [] (hp (pB s 26 (vp_updL (sB s 26) (Int32.toNatClampNeg w1) (Int32.toInt64 (Int64.toInt32 w0))))) _
  exact ct_M_parsePart_74 hrec fu (pB s 26 (vp_updL (sB s 26) (Int32.toNatClampNeg w1) (Int32.toInt64 (Int64.toInt32 w0)))) v1 v2 v3 v4 hw
def t_M_parsePart_50 (rec : G_parse) (fu : Nat) (s : St) (v1 : Int32) (v2 : Int32) (v3 : Int32) (v4 : Int32) (w0 : Int64) (w1 : Int32) : Int32 × St := (cond (cn2 .le v1 (13 : Int32)) (t_M_parsePart_74 rec fu (pB s 26 (vp_updL (sB s 26) (Int32.toNatClampNeg w1) (f_M_kept w0))) v1 v2 v3 v4) (cond (cn1 .ne (b2i (f_M_has (pB s 26 (vp_updL (sB s 26) (Int32.toNatClampNeg w1) (f_M_kept w0))) (4 : Int32)))) (t_M_parsePart_71 rec fu ((f_M_next fu (pB s 26 (vp_updL (sB s 26) (Int32.toNatClampNeg w1) (f_M_kept w0))) (4 : Int32)).2) v1 v2 v3 v4 ((f_M_next fu (pB s 26 (vp_updL (sB s 26) (Int32.toNatClampNeg w1) (f_M_kept w0))) (4 : Int32)).1) (v4 + (2 : Int32))) (f_M_fails (pB s 26 (vp_updL (sB s 26) (Int32.toNatClampNeg w1) (f_M_kept w0))) (2 : Int32))))
def w_M_parsePart_50 (rec : G_parse) (wrec : GW_parse) (fu : Nat) (s : St) (v1 : Int32) (v2 : Int32) (v3 : Int32) (v4 : Int32) (w0 : Int64) (w1 : Int32) : Prop := (vp_in w1 40001 ∧ ((cn2 .le v1 (13 : Int32)) = true → (w_M_parsePart_74 rec wrec fu (pB s 26 (vp_updL (sB s 26) (Int32.toNatClampNeg w1) (f_M_kept w0))) v1 v2 v3 v4)) ∧ ((cn2 .le v1 (13 : Int32)) = false → (w_M_has (pB s 26 (vp_updL (sB s 26) (Int32.toNatClampNeg w1) (f_M_kept w0))) (4 : Int32) ∧ ((cn1 .ne (b2i (f_M_has (pB s 26 (vp_updL (sB s 26) (Int32.toNatClampNeg w1) (f_M_kept w0))) (4 : Int32)))) = true → (w_M_next fu (pB s 26 (vp_updL (sB s 26) (Int32.toNatClampNeg w1) (f_M_kept w0))) (4 : Int32) ∧ (w_M_parsePart_71 rec wrec fu ((f_M_next fu (pB s 26 (vp_updL (sB s 26) (Int32.toNatClampNeg w1) (f_M_kept w0))) (4 : Int32)).2) v1 v2 v3 v4 ((f_M_next fu (pB s 26 (vp_updL (sB s 26) (Int32.toNatClampNeg w1) (f_M_kept w0))) (4 : Int32)).1) (v4 + (2 : Int32))))) ∧ ((cn1 .ne (b2i (f_M_has (pB s 26 (vp_updL (sB s 26) (Int32.toNatClampNeg w1) (f_M_kept w0))) (4 : Int32)))) = false → (w_M_fails (pB s 26 (vp_updL (sB s 26) (Int32.toNatClampNeg w1) (f_M_kept w0))) (2 : Int32) ∧ True)))))
theorem ct_M_parsePart_50 {d : Nat} {rec : G_parse} {wrec : GW_parse} (hrec : hr_parse (d + 3) rec wrec) (fu : Nat) (s : St) (v1 : Int32) (v2 : Int32) (v3 : Int32) (v4 : Int32) (w0 : Int64) (w1 : Int32) (hw : w_M_parsePart_50 rec wrec fu s v1 v2 v3 v4 w0 w1) : X m_M_parsePart (d + 4) 50 [some (.inr (.inr (some 21))), some (.inl v1), some (.inl v2), some (.inl v3), some (.inl v4), none] [.inr (.inl w0), .inl w1, .inr (.inr (some 26))] (hp s) (qIs (t_M_parsePart_50 rec fu s v1 v2 v3 v4 w0 w1)) := by
  unfold t_M_parsePart_50
  unfold w_M_parsePart_50 at hw
  refine X_calls m_M_kept (As := [.inr (.inl w0)]) (st := [.inl w1, .inr (.inr (some 26))]) ok_M_kept rfl rfl rfl (Nat.le_of_ble_eq_true rfl) (Nat.le_of_ble_eq_true rfl) (c_M_kept (d := d + 2) w0) ?_
  rintro _ _ ⟨rfl, rfl⟩
  show X _ _ 51 [some (.inr (.inr (some 21))), some (.inl v1), some (.inl v2), some (.inl v3), some (.inl v4), none] [.inr (.inl (f_M_kept w0)), .inl w1, .inr (.inr (some 26))] (hp s) _
  obtain ⟨hin, hw⟩ := hw
  refine X_sL rfl rfl hin ?_
  show X _ _ 52 [some (.inr (.inr (some 21))), some (.inl v1), some (.inl v2), some (.inl v3), some (.inl v4), none] [] (hp (pB s 26 (vp_updL (sB s 26) (Int32.toNatClampNeg w1) (f_M_kept w0)))) _
  refine X_run 3 (i1 := cond (cn2 .le v1 (13 : Int32)) 74 55) (L1 := [some (.inr (.inr (some 21))), some (.inl v1), some (.inl v2), some (.inl v3), some (.inl v4), none]) (st1 := []) rfl ?_
  refine X_brq (fun hb => ?_) (fun hb => ?_)
  · have hw := hw.1 hb
    exact ct_M_parsePart_74 hrec fu (pB s 26 (vp_updL (sB s 26) (Int32.toNatClampNeg w1) (f_M_kept w0))) v1 v2 v3 v4 hw
  · have hw := hw.2 hb
    refine X_run 2 (i1 := 57) (L1 := [some (.inr (.inr (some 21))), some (.inl v1), some (.inl v2), some (.inl v3), some (.inl v4), none]) (st1 := [.inl (4 : Int32), .inr (.inr (some 21))]) rfl ?_
    obtain ⟨hc, hw⟩ := hw
    refine X_callv m_M_has (As := [.inl (4 : Int32)]) (st := []) ok_M_has rfl rfl rfl (hp_obj rfl) rfl (Nat.le_of_ble_eq_true rfl) (Nat.le_of_ble_eq_true rfl) (c_M_has (d := d + 3) (pB s 26 (vp_updL (sB s 26) (Int32.toNatClampNeg w1) (f_M_kept w0))) (4 : Int32) hc) ?_
    rintro _ _ ⟨rfl, rfl⟩
    show X _ _ 58 [some (.inr (.inr (some 21))), some (.inl v1), some (.inl v2), some (.inl v3), some (.inl v4), none] [.inl (b2i (f_M_has (pB s 26 (vp_updL (sB s 26) (Int32.toNatClampNeg w1) (f_M_kept w0))) (4 : Int32)))] (hp (pB s 26 (vp_updL (sB s 26) (Int32.toNatClampNeg w1) (f_M_kept w0)))) _
    refine X_run 1 (i1 := cond (cn1 .ne (b2i (f_M_has (pB s 26 (vp_updL (sB s 26) (Int32.toNatClampNeg w1) (f_M_kept w0))) (4 : Int32)))) 63 59) (L1 := [some (.inr (.inr (some 21))), some (.inl v1), some (.inl v2), some (.inl v3), some (.inl v4), none]) (st1 := []) rfl ?_
    refine X_brq (fun hb => ?_) (fun hb => ?_)
    · have hw := hw.1 hb
      refine X_run 1 (i1 := 64) (L1 := [some (.inr (.inr (some 21))), some (.inl v1), some (.inl v2), some (.inl v3), some (.inl v4), none]) (st1 := [.inr (.inr (some 21))]) rfl ?_
      refine X_gF (v := .inr (.inr (some 26))) rfl rfl rfl rfl ?_
      refine X_run 5 (i1 := 70) (L1 := [some (.inr (.inr (some 21))), some (.inl v1), some (.inl v2), some (.inl v3), some (.inl v4), none]) (st1 := [.inl (4 : Int32), .inr (.inr (some 21)), .inl (v4 + (2 : Int32)), .inr (.inr (some 26))]) rfl ?_
      obtain ⟨hc, hw⟩ := hw
      refine X_callv m_M_next (As := [.inl (4 : Int32)]) (st := [.inl (v4 + (2 : Int32)), .inr (.inr (some 26))]) ok_M_next rfl rfl rfl (hp_obj rfl) rfl (Nat.le_of_ble_eq_true rfl) (Nat.le_of_ble_eq_true rfl) (c_M_next (d := d + 3) fu (pB s 26 (vp_updL (sB s 26) (Int32.toNatClampNeg w1) (f_M_kept w0))) (4 : Int32) hc) ?_
      rintro _ _ ⟨rfl, rfl⟩
      show X _ _ 71 [some (.inr (.inr (some 21))), some (.inl v1), some (.inl v2), some (.inl v3), some (.inl v4), none] [.inr (.inl ((f_M_next fu (pB s 26 (vp_updL (sB s 26) (Int32.toNatClampNeg w1) (f_M_kept w0))) (4 : Int32)).1)), .inl (v4 + (2 : Int32)), .inr (.inr (some 26))] (hp ((f_M_next fu (pB s 26 (vp_updL (sB s 26) (Int32.toNatClampNeg w1) (f_M_kept w0))) (4 : Int32)).2)) _
      show X _ _ 71 [some (.inr (.inr (some 21))), some (.inl v1), some (.inl v2), some (.inl v3), some (.inl v4), none] [.inr (.inl ((f_M_next fu (pB s 26 (vp_updL (sB s 26) (Int32.toNatClampNeg w1) (f_M_kept w0))) (4 : Int32)).1)), .inl (v4 + (2 : Int32)), .inr (.inr (some 26))] (hp ((f_M_next fu (pB s 26 (vp_updL (sB s 26) (Int32.toNatClampNeg w1) (f_M_kept w0))) (4 : Int32)).2)) _
      exact ct_M_parsePart_71 hrec fu ((f_M_next fu (pB s 26 (vp_updL (sB s 26) (Int32.toNatClampNeg w1) (f_M_kept w0))) (4 : Int32)).2) v1 v2 v3 v4 ((f_M_next fu (pB s 26 (vp_updL (sB s 26) (Int32.toNatClampNeg w1) (f_M_kept w0))) (4 : Int32)).1) (v4 + (2 : Int32)) hw
    · have hw := hw.2 hb
      refine X_run 2 (i1 := 61) (L1 := [some (.inr (.inr (some 21))), some (.inl v1), some (.inl v2), some (.inl v3), some (.inl v4), none]) (st1 := [.inl (2 : Int32), .inr (.inr (some 21))]) rfl ?_
      obtain ⟨hc, hw⟩ := hw
      refine X_callv m_M_fails (As := [.inl (2 : Int32)]) (st := []) ok_M_fails rfl rfl rfl (hp_obj rfl) rfl (Nat.le_of_ble_eq_true rfl) (Nat.le_of_ble_eq_true rfl) (c_M_fails (d := d + 1) (pB s 26 (vp_updL (sB s 26) (Int32.toNatClampNeg w1) (f_M_kept w0))) (2 : Int32) hc) ?_
      rintro _ _ ⟨rfl, rfl⟩
      show X _ _ 62 [some (.inr (.inr (some 21))), some (.inl v1), some (.inl v2), some (.inl v3), some (.inl v4), none] [.inl ((f_M_fails (pB s 26 (vp_updL (sB s 26) (Int32.toNatClampNeg w1) (f_M_kept w0))) (2 : Int32)).1)] (hp ((f_M_fails (pB s 26 (vp_updL (sB s 26) (Int32.toNatClampNeg w1) (f_M_kept w0))) (2 : Int32)).2)) _
      exact X_iret rfl rfl qIs_p
def t_M_parsePart_31 (rec : G_parse) (fu : Nat) (s : St) (v1 : Int32) (v2 : Int32) (v3 : Int32) (v4 : Int32) (w0 : Int64) (w1 : Int32) : Int32 × St := (cond (cn1 .ne (b2i (f_M_has (pB s 26 (vp_updL (sB s 26) (Int32.toNatClampNeg w1) (Int32.toInt64 (Int64.toInt32 w0)))) (8 : Int32)))) (t_M_parsePart_50 rec fu ((f_M_next fu (pB s 26 (vp_updL (sB s 26) (Int32.toNatClampNeg w1) (Int32.toInt64 (Int64.toInt32 w0)))) (8 : Int32)).2) v1 v2 v3 v4 ((f_M_next fu (pB s 26 (vp_updL (sB s 26) (Int32.toNatClampNeg w1) (Int32.toInt64 (Int64.toInt32 w0)))) (8 : Int32)).1) (v4 + (1 : Int32))) (f_M_fails (pB s 26 (vp_updL (sB s 26) (Int32.toNatClampNeg w1) (Int32.toInt64 (Int64.toInt32 w0)))) (2 : Int32)))
def w_M_parsePart_31 (rec : G_parse) (wrec : GW_parse) (fu : Nat) (s : St) (v1 : Int32) (v2 : Int32) (v3 : Int32) (v4 : Int32) (w0 : Int64) (w1 : Int32) : Prop := (vp_in w1 40001 ∧ (w_M_has (pB s 26 (vp_updL (sB s 26) (Int32.toNatClampNeg w1) (Int32.toInt64 (Int64.toInt32 w0)))) (8 : Int32) ∧ ((cn1 .ne (b2i (f_M_has (pB s 26 (vp_updL (sB s 26) (Int32.toNatClampNeg w1) (Int32.toInt64 (Int64.toInt32 w0)))) (8 : Int32)))) = true → (w_M_next fu (pB s 26 (vp_updL (sB s 26) (Int32.toNatClampNeg w1) (Int32.toInt64 (Int64.toInt32 w0)))) (8 : Int32) ∧ (w_M_parsePart_50 rec wrec fu ((f_M_next fu (pB s 26 (vp_updL (sB s 26) (Int32.toNatClampNeg w1) (Int32.toInt64 (Int64.toInt32 w0)))) (8 : Int32)).2) v1 v2 v3 v4 ((f_M_next fu (pB s 26 (vp_updL (sB s 26) (Int32.toNatClampNeg w1) (Int32.toInt64 (Int64.toInt32 w0)))) (8 : Int32)).1) (v4 + (1 : Int32))))) ∧ ((cn1 .ne (b2i (f_M_has (pB s 26 (vp_updL (sB s 26) (Int32.toNatClampNeg w1) (Int32.toInt64 (Int64.toInt32 w0)))) (8 : Int32)))) = false → (w_M_fails (pB s 26 (vp_updL (sB s 26) (Int32.toNatClampNeg w1) (Int32.toInt64 (Int64.toInt32 w0)))) (2 : Int32) ∧ True))))
theorem ct_M_parsePart_31 {d : Nat} {rec : G_parse} {wrec : GW_parse} (hrec : hr_parse (d + 3) rec wrec) (fu : Nat) (s : St) (v1 : Int32) (v2 : Int32) (v3 : Int32) (v4 : Int32) (w0 : Int64) (w1 : Int32) (hw : w_M_parsePart_31 rec wrec fu s v1 v2 v3 v4 w0 w1) : X m_M_parsePart (d + 4) 31 [some (.inr (.inr (some 21))), some (.inl v1), some (.inl v2), some (.inl v3), some (.inl v4), none] [.inr (.inl w0), .inl w1, .inr (.inr (some 26))] (hp s) (qIs (t_M_parsePart_31 rec fu s v1 v2 v3 v4 w0 w1)) := by
  unfold t_M_parsePart_31
  unfold w_M_parsePart_31 at hw
  refine X_run 2 (i1 := 33) (L1 := [some (.inr (.inr (some 21))), some (.inl v1), some (.inl v2), some (.inl v3), some (.inl v4), none]) (st1 := [.inr (.inl (Int32.toInt64 (Int64.toInt32 w0))), .inl w1, .inr (.inr (some 26))]) rfl ?_
  obtain ⟨hin, hw⟩ := hw
  refine X_sL rfl rfl hin ?_
  show X _ _ 34 [some (.inr (.inr (some 21))), some (.inl v1), some (.inl v2), some (.inl v3), some (.inl v4), none] [] (hp (pB s 26 (vp_updL (sB s 26) (Int32.toNatClampNeg w1) (Int32.toInt64 (Int64.toInt32 w0))))) _
  refine X_run 2 (i1 := 36) (L1 := [some (.inr (.inr (some 21))), some (.inl v1), some (.inl v2), some (.inl v3), some (.inl v4), none]) (st1 := [.inl (8 : Int32), .inr (.inr (some 21))]) rfl ?_
  obtain ⟨hc, hw⟩ := hw
  refine X_callv m_M_has (As := [.inl (8 : Int32)]) (st := []) ok_M_has rfl rfl rfl (hp_obj rfl) rfl (Nat.le_of_ble_eq_true rfl) (Nat.le_of_ble_eq_true rfl) (c_M_has (d := d + 3) (pB s 26 (vp_updL (sB s 26) (Int32.toNatClampNeg w1) (Int32.toInt64 (Int64.toInt32 w0)))) (8 : Int32) hc) ?_
  rintro _ _ ⟨rfl, rfl⟩
  show X _ _ 37 [some (.inr (.inr (some 21))), some (.inl v1), some (.inl v2), some (.inl v3), some (.inl v4), none] [.inl (b2i (f_M_has (pB s 26 (vp_updL (sB s 26) (Int32.toNatClampNeg w1) (Int32.toInt64 (Int64.toInt32 w0)))) (8 : Int32)))] (hp (pB s 26 (vp_updL (sB s 26) (Int32.toNatClampNeg w1) (Int32.toInt64 (Int64.toInt32 w0))))) _
  refine X_run 1 (i1 := cond (cn1 .ne (b2i (f_M_has (pB s 26 (vp_updL (sB s 26) (Int32.toNatClampNeg w1) (Int32.toInt64 (Int64.toInt32 w0)))) (8 : Int32)))) 42 38) (L1 := [some (.inr (.inr (some 21))), some (.inl v1), some (.inl v2), some (.inl v3), some (.inl v4), none]) (st1 := []) rfl ?_
  refine X_brq (fun hb => ?_) (fun hb => ?_)
  · have hw := hw.1 hb
    refine X_run 1 (i1 := 43) (L1 := [some (.inr (.inr (some 21))), some (.inl v1), some (.inl v2), some (.inl v3), some (.inl v4), none]) (st1 := [.inr (.inr (some 21))]) rfl ?_
    refine X_gF (v := .inr (.inr (some 26))) rfl rfl rfl rfl ?_
    refine X_run 5 (i1 := 49) (L1 := [some (.inr (.inr (some 21))), some (.inl v1), some (.inl v2), some (.inl v3), some (.inl v4), none]) (st1 := [.inl (8 : Int32), .inr (.inr (some 21)), .inl (v4 + (1 : Int32)), .inr (.inr (some 26))]) rfl ?_
    obtain ⟨hc, hw⟩ := hw
    refine X_callv m_M_next (As := [.inl (8 : Int32)]) (st := [.inl (v4 + (1 : Int32)), .inr (.inr (some 26))]) ok_M_next rfl rfl rfl (hp_obj rfl) rfl (Nat.le_of_ble_eq_true rfl) (Nat.le_of_ble_eq_true rfl) (c_M_next (d := d + 3) fu (pB s 26 (vp_updL (sB s 26) (Int32.toNatClampNeg w1) (Int32.toInt64 (Int64.toInt32 w0)))) (8 : Int32) hc) ?_
    rintro _ _ ⟨rfl, rfl⟩
    show X _ _ 50 [some (.inr (.inr (some 21))), some (.inl v1), some (.inl v2), some (.inl v3), some (.inl v4), none] [.inr (.inl ((f_M_next fu (pB s 26 (vp_updL (sB s 26) (Int32.toNatClampNeg w1) (Int32.toInt64 (Int64.toInt32 w0)))) (8 : Int32)).1)), .inl (v4 + (1 : Int32)), .inr (.inr (some 26))] (hp ((f_M_next fu (pB s 26 (vp_updL (sB s 26) (Int32.toNatClampNeg w1) (Int32.toInt64 (Int64.toInt32 w0)))) (8 : Int32)).2)) _
    show X _ _ 50 [some (.inr (.inr (some 21))), some (.inl v1), some (.inl v2), some (.inl v3), some (.inl v4), none] [.inr (.inl ((f_M_next fu (pB s 26 (vp_updL (sB s 26) (Int32.toNatClampNeg w1) (Int32.toInt64 (Int64.toInt32 w0)))) (8 : Int32)).1)), .inl (v4 + (1 : Int32)), .inr (.inr (some 26))] (hp ((f_M_next fu (pB s 26 (vp_updL (sB s 26) (Int32.toNatClampNeg w1) (Int32.toInt64 (Int64.toInt32 w0)))) (8 : Int32)).2)) _
    exact ct_M_parsePart_50 hrec fu ((f_M_next fu (pB s 26 (vp_updL (sB s 26) (Int32.toNatClampNeg w1) (Int32.toInt64 (Int64.toInt32 w0)))) (8 : Int32)).2) v1 v2 v3 v4 ((f_M_next fu (pB s 26 (vp_updL (sB s 26) (Int32.toNatClampNeg w1) (Int32.toInt64 (Int64.toInt32 w0)))) (8 : Int32)).1) (v4 + (1 : Int32)) hw
  · have hw := hw.2 hb
    refine X_run 2 (i1 := 40) (L1 := [some (.inr (.inr (some 21))), some (.inl v1), some (.inl v2), some (.inl v3), some (.inl v4), none]) (st1 := [.inl (2 : Int32), .inr (.inr (some 21))]) rfl ?_
    obtain ⟨hc, hw⟩ := hw
    refine X_callv m_M_fails (As := [.inl (2 : Int32)]) (st := []) ok_M_fails rfl rfl rfl (hp_obj rfl) rfl (Nat.le_of_ble_eq_true rfl) (Nat.le_of_ble_eq_true rfl) (c_M_fails (d := d + 1) (pB s 26 (vp_updL (sB s 26) (Int32.toNatClampNeg w1) (Int32.toInt64 (Int64.toInt32 w0)))) (2 : Int32) hc) ?_
    rintro _ _ ⟨rfl, rfl⟩
    show X _ _ 41 [some (.inr (.inr (some 21))), some (.inl v1), some (.inl v2), some (.inl v3), some (.inl v4), none] [.inl ((f_M_fails (pB s 26 (vp_updL (sB s 26) (Int32.toNatClampNeg w1) (Int32.toInt64 (Int64.toInt32 w0)))) (2 : Int32)).1)] (hp ((f_M_fails (pB s 26 (vp_updL (sB s 26) (Int32.toNatClampNeg w1) (Int32.toInt64 (Int64.toInt32 w0)))) (2 : Int32)).2)) _
    exact X_iret rfl rfl qIs_p
def t_M_parsePart_11 (rec : G_parse) (fu : Nat) (s : St) (v1 : Int32) (v2 : Int32) (w0 : Int32) : Int32 × St := (cond (cn1 .ne (b2i (f_M_has s (4 : Int32)))) (t_M_parsePart_31 rec fu ((f_M_next fu s (4 : Int32)).2) v1 v2 w0 (sA s 23 (Int32.toNatClampNeg w0)) ((f_M_next fu s (4 : Int32)).1) (sA s 23 (Int32.toNatClampNeg w0))) (f_M_fails s (2 : Int32)))
def w_M_parsePart_11 (rec : G_parse) (wrec : GW_parse) (fu : Nat) (s : St) (v1 : Int32) (v2 : Int32) (w0 : Int32) : Prop := (vp_in w0 40001 ∧ (w_M_has s (4 : Int32) ∧ ((cn1 .ne (b2i (f_M_has s (4 : Int32)))) = true → (w_M_next fu s (4 : Int32) ∧ (w_M_parsePart_31 rec wrec fu ((f_M_next fu s (4 : Int32)).2) v1 v2 w0 (sA s 23 (Int32.toNatClampNeg w0)) ((f_M_next fu s (4 : Int32)).1) (sA s 23 (Int32.toNatClampNeg w0))))) ∧ ((cn1 .ne (b2i (f_M_has s (4 : Int32)))) = false → (w_M_fails s (2 : Int32) ∧ True))))
theorem ct_M_parsePart_11 {d : Nat} {rec : G_parse} {wrec : GW_parse} (hrec : hr_parse (d + 3) rec wrec) (fu : Nat) (s : St) (v1 : Int32) (v2 : Int32) (w0 : Int32) (hw : w_M_parsePart_11 rec wrec fu s v1 v2 w0) : X m_M_parsePart (d + 4) 11 [some (.inr (.inr (some 21))), some (.inl v1), some (.inl v2), none, none, none] [.inl w0] (hp s) (qIs (t_M_parsePart_11 rec fu s v1 v2 w0)) := by
  unfold t_M_parsePart_11
  unfold w_M_parsePart_11 at hw
  refine X_run 2 (i1 := 13) (L1 := [some (.inr (.inr (some 21))), some (.inl v1), some (.inl v2), some (.inl w0), none, none]) (st1 := [.inr (.inr (some 21))]) rfl ?_
  refine X_gF (v := .inr (.inr (some 23))) rfl rfl rfl rfl ?_
  refine X_run 1 (i1 := 15) (L1 := [some (.inr (.inr (some 21))), some (.inl v1), some (.inl v2), some (.inl w0), none, none]) (st1 := [.inl w0, .inr (.inr (some 23))]) rfl ?_
  obtain ⟨hin, hw⟩ := hw
  refine X_aI rfl rfl hin ?_
  show X _ _ 16 [some (.inr (.inr (some 21))), some (.inl v1), some (.inl v2), some (.inl w0), none, none] [.inl (sA s 23 (Int32.toNatClampNeg w0))] (hp s) _
  refine X_run 3 (i1 := 19) (L1 := [some (.inr (.inr (some 21))), some (.inl v1), some (.inl v2), some (.inl w0), some (.inl (sA s 23 (Int32.toNatClampNeg w0))), none]) (st1 := [.inl (4 : Int32), .inr (.inr (some 21))]) rfl ?_
  obtain ⟨hc, hw⟩ := hw
  refine X_callv m_M_has (As := [.inl (4 : Int32)]) (st := []) ok_M_has rfl rfl rfl (hp_obj rfl) rfl (Nat.le_of_ble_eq_true rfl) (Nat.le_of_ble_eq_true rfl) (c_M_has (d := d + 3) s (4 : Int32) hc) ?_
  rintro _ _ ⟨rfl, rfl⟩
  show X _ _ 20 [some (.inr (.inr (some 21))), some (.inl v1), some (.inl v2), some (.inl w0), some (.inl (sA s 23 (Int32.toNatClampNeg w0))), none] [.inl (b2i (f_M_has s (4 : Int32)))] (hp s) _
  refine X_run 1 (i1 := cond (cn1 .ne (b2i (f_M_has s (4 : Int32)))) 25 21) (L1 := [some (.inr (.inr (some 21))), some (.inl v1), some (.inl v2), some (.inl w0), some (.inl (sA s 23 (Int32.toNatClampNeg w0))), none]) (st1 := []) rfl ?_
  refine X_brq (fun hb => ?_) (fun hb => ?_)
  · have hw := hw.1 hb
    refine X_run 1 (i1 := 26) (L1 := [some (.inr (.inr (some 21))), some (.inl v1), some (.inl v2), some (.inl w0), some (.inl (sA s 23 (Int32.toNatClampNeg w0))), none]) (st1 := [.inr (.inr (some 21))]) rfl ?_
    refine X_gF (v := .inr (.inr (some 26))) rfl rfl rfl rfl ?_
    refine X_run 3 (i1 := 30) (L1 := [some (.inr (.inr (some 21))), some (.inl v1), some (.inl v2), some (.inl w0), some (.inl (sA s 23 (Int32.toNatClampNeg w0))), none]) (st1 := [.inl (4 : Int32), .inr (.inr (some 21)), .inl (sA s 23 (Int32.toNatClampNeg w0)), .inr (.inr (some 26))]) rfl ?_
    obtain ⟨hc, hw⟩ := hw
    refine X_callv m_M_next (As := [.inl (4 : Int32)]) (st := [.inl (sA s 23 (Int32.toNatClampNeg w0)), .inr (.inr (some 26))]) ok_M_next rfl rfl rfl (hp_obj rfl) rfl (Nat.le_of_ble_eq_true rfl) (Nat.le_of_ble_eq_true rfl) (c_M_next (d := d + 3) fu s (4 : Int32) hc) ?_
    rintro _ _ ⟨rfl, rfl⟩
    show X _ _ 31 [some (.inr (.inr (some 21))), some (.inl v1), some (.inl v2), some (.inl w0), some (.inl (sA s 23 (Int32.toNatClampNeg w0))), none] [.inr (.inl ((f_M_next fu s (4 : Int32)).1)), .inl (sA s 23 (Int32.toNatClampNeg w0)), .inr (.inr (some 26))] (hp ((f_M_next fu s (4 : Int32)).2)) _
    show X _ _ 31 [some (.inr (.inr (some 21))), some (.inl v1), some (.inl v2), some (.inl w0), some (.inl (sA s 23 (Int32.toNatClampNeg w0))), none] [.inr (.inl ((f_M_next fu s (4 : Int32)).1)), .inl (sA s 23 (Int32.toNatClampNeg w0)), .inr (.inr (some 26))] (hp ((f_M_next fu s (4 : Int32)).2)) _
    exact ct_M_parsePart_31 hrec fu ((f_M_next fu s (4 : Int32)).2) v1 v2 w0 (sA s 23 (Int32.toNatClampNeg w0)) ((f_M_next fu s (4 : Int32)).1) (sA s 23 (Int32.toNatClampNeg w0)) hw
  · have hw := hw.2 hb
    refine X_run 2 (i1 := 23) (L1 := [some (.inr (.inr (some 21))), some (.inl v1), some (.inl v2), some (.inl w0), some (.inl (sA s 23 (Int32.toNatClampNeg w0))), none]) (st1 := [.inl (2 : Int32), .inr (.inr (some 21))]) rfl ?_
    obtain ⟨hc, hw⟩ := hw
    refine X_callv m_M_fails (As := [.inl (2 : Int32)]) (st := []) ok_M_fails rfl rfl rfl (hp_obj rfl) rfl (Nat.le_of_ble_eq_true rfl) (Nat.le_of_ble_eq_true rfl) (c_M_fails (d := d + 1) s (2 : Int32) hc) ?_
    rintro _ _ ⟨rfl, rfl⟩
    show X _ _ 24 [some (.inr (.inr (some 21))), some (.inl v1), some (.inl v2), some (.inl w0), some (.inl (sA s 23 (Int32.toNatClampNeg w0))), none] [.inl ((f_M_fails s (2 : Int32)).1)] (hp ((f_M_fails s (2 : Int32)).2)) _
    exact X_iret rfl rfl qIs_p
def t_M_parsePart_3 (rec : G_parse) (fu : Nat) (s : St) (v1 : Int32) (v2 : Int32) (w0 : Int32) : Int32 × St := (cond (cn1 .ne w0) (t_M_parsePart_11 rec fu ((f_M_thing s v1 (0 : Int32) (0 : Int32)).2) v1 v2 ((f_M_thing s v1 (0 : Int32) (0 : Int32)).1)) ((3 : Int32), s))
def w_M_parsePart_3 (rec : G_parse) (wrec : GW_parse) (fu : Nat) (s : St) (v1 : Int32) (v2 : Int32) (w0 : Int32) : Prop := ((cn1 .ne w0) = true → (w_M_thing s v1 (0 : Int32) (0 : Int32) ∧ (w_M_parsePart_11 rec wrec fu ((f_M_thing s v1 (0 : Int32) (0 : Int32)).2) v1 v2 ((f_M_thing s v1 (0 : Int32) (0 : Int32)).1)))) ∧ ((cn1 .ne w0) = false → True)
theorem ct_M_parsePart_3 {d : Nat} {rec : G_parse} {wrec : GW_parse} (hrec : hr_parse (d + 3) rec wrec) (fu : Nat) (s : St) (v1 : Int32) (v2 : Int32) (w0 : Int32) (hw : w_M_parsePart_3 rec wrec fu s v1 v2 w0) : X m_M_parsePart (d + 4) 3 [some (.inr (.inr (some 21))), some (.inl v1), some (.inl v2), none, none, none] [.inl w0] (hp s) (qIs (t_M_parsePart_3 rec fu s v1 v2 w0)) := by
  unfold t_M_parsePart_3
  unfold w_M_parsePart_3 at hw
  refine X_run 1 (i1 := cond (cn1 .ne w0) 6 4) (L1 := [some (.inr (.inr (some 21))), some (.inl v1), some (.inl v2), none, none, none]) (st1 := []) rfl ?_
  refine X_brq (fun hb => ?_) (fun hb => ?_)
  · have hw := hw.1 hb
    refine X_run 4 (i1 := 10) (L1 := [some (.inr (.inr (some 21))), some (.inl v1), some (.inl v2), none, none, none]) (st1 := [.inl (0 : Int32), .inl (0 : Int32), .inl v1, .inr (.inr (some 21))]) rfl ?_
    obtain ⟨hc, hw⟩ := hw
    refine X_callv m_M_thing (As := [.inl v1, .inl (0 : Int32), .inl (0 : Int32)]) (st := []) ok_M_thing rfl rfl rfl (hp_obj rfl) rfl (Nat.le_of_ble_eq_true rfl) (Nat.le_of_ble_eq_true rfl) (c_M_thing (d := d + 3) s v1 (0 : Int32) (0 : Int32) hc) ?_
    rintro _ _ ⟨rfl, rfl⟩
    show X _ _ 11 [some (.inr (.inr (some 21))), some (.inl v1), some (.inl v2), none, none, none] [.inl ((f_M_thing s v1 (0 : Int32) (0 : Int32)).1)] (hp ((f_M_thing s v1 (0 : Int32) (0 : Int32)).2)) _
    show X _ _ 11 [some (.inr (.inr (some 21))), some (.inl v1), some (.inl v2), none, none, none] [.inl ((f_M_thing s v1 (0 : Int32) (0 : Int32)).1)] (hp ((f_M_thing s v1 (0 : Int32) (0 : Int32)).2)) _
    exact ct_M_parsePart_11 hrec fu ((f_M_thing s v1 (0 : Int32) (0 : Int32)).2) v1 v2 ((f_M_thing s v1 (0 : Int32) (0 : Int32)).1) hw
  · skip
    refine X_run 1 (i1 := 5) (L1 := [some (.inr (.inr (some 21))), some (.inl v1), some (.inl v2), none, none, none]) (st1 := [.inl (3 : Int32)]) rfl ?_
    exact X_iret rfl rfl qIs_i
def f_M_parsePart (rec : G_parse) (fu : Nat) (s : St) (a0 : Int32) (a1 : Int32) : Int32 × St := (t_M_parsePart_3 rec fu ((f_M_pays s (4 : Int64)).2) a0 a1 (b2i (f_M_pays s (4 : Int64)).1))
def w_M_parsePart (rec : G_parse) (wrec : GW_parse) (fu : Nat) (s : St) (a0 : Int32) (a1 : Int32) : Prop := (w_M_pays s (4 : Int64) ∧ (w_M_parsePart_3 rec wrec fu ((f_M_pays s (4 : Int64)).2) a0 a1 (b2i (f_M_pays s (4 : Int64)).1)))
theorem c_M_parsePart {d : Nat} {rec : G_parse} {wrec : GW_parse} (hrec : hr_parse (d + 3) rec wrec) (fu : Nat) (s : St) (a0 : Int32) (a1 : Int32) (hw : w_M_parsePart rec wrec fu s a0 a1) : X m_M_parsePart (d + 4) 0 (entL 6 [.inr (.inr (some 21)), .inl a0, .inl a1]) [] (hp s) (qIs (f_M_parsePart rec fu s a0 a1)) := by
  unfold f_M_parsePart
  unfold w_M_parsePart at hw
  refine X_run 2 (i1 := 2) (L1 := [some (.inr (.inr (some 21))), some (.inl a0), some (.inl a1), none, none, none]) (st1 := [.inr (.inl (4 : Int64)), .inr (.inr (some 21))]) rfl ?_
  obtain ⟨hc, hw⟩ := hw
  refine X_callv m_M_pays (As := [.inr (.inl (4 : Int64))]) (st := []) ok_M_pays rfl rfl rfl (hp_obj rfl) rfl (Nat.le_of_ble_eq_true rfl) (Nat.le_of_ble_eq_true rfl) (c_M_pays (d := d + 3) s (4 : Int64) hc) ?_
  rintro _ _ ⟨rfl, rfl⟩
  show X _ _ 3 [some (.inr (.inr (some 21))), some (.inl a0), some (.inl a1), none, none, none] [.inl (b2i (f_M_pays s (4 : Int64)).1)] (hp ((f_M_pays s (4 : Int64)).2)) _
  show X _ _ 3 [some (.inr (.inr (some 21))), some (.inl a0), some (.inl a1), none, none, none] [.inl (b2i (f_M_pays s (4 : Int64)).1)] (hp ((f_M_pays s (4 : Int64)).2)) _
  exact ct_M_parsePart_3 hrec fu ((f_M_pays s (4 : Int64)).2) a0 a1 (b2i (f_M_pays s (4 : Int64)).1) hw
def F_parse (fu : Nat) : Nat → G_parse
  | 0 => (fun s _ => (0, s), fun s _ _ => (0, s), fun s _ _ => (0, s))
  | n + 1 => (fun s a0 => f_M_parse (F_parse fu n) fu s a0, fun s a0 a1 => f_M_parseMany (F_parse fu n) fu s a0 a1, fun s a0 a1 => f_M_parsePart (F_parse fu n) fu s a0 a1)
def W_parse (fu : Nat) : Nat → GW_parse
  | 0 => (fun _ _ => False, fun _ _ _ => False, fun _ _ _ => False)
  | n + 1 => (fun s a0 => w_M_parse (F_parse fu n) (W_parse fu n) fu s a0, fun s a0 a1 => w_M_parseMany (F_parse fu n) (W_parse fu n) fu s a0 a1, fun s a0 a1 => w_M_parsePart (F_parse fu n) (W_parse fu n) fu s a0 a1)
theorem cF_parse (fu : Nat) : ∀ (n d : Nat), hr_parse (d + n + 4) (F_parse fu n) (W_parse fu n)
  | 0, d => ⟨fun _ _ hw => hw.elim, fun _ _ _ hw => hw.elim, fun _ _ _ hw => hw.elim⟩
  | n + 1, d => by
    have hrec : hr_parse (d + 1 + n + 4 - 1) (F_parse fu n) (W_parse fu n) := by
      have h := cF_parse fu n d
      rw [show d + 1 + n + 4 - 1 = d + n + 4 by omega]; exact h
    have e : d + (n + 1) + 4 = (d + 1 + n) + 4 := by omega
    rw [e]
    exact ⟨(fun s a0 hw => c_M_parse (d := d + 1 + n) hrec fu s a0 hw), (fun s a0 a1 hw => c_M_parseMany (d := d + 1 + n) hrec fu s a0 a1 hw), (fun s a0 a1 hw => c_M_parsePart (d := d + 1 + n) hrec fu s a0 a1 hw)⟩
def t_M_load_21 (fu : Nat) (s : St) (v1 : Int32) (w0 : Int32) : Int32 × St := (cond (cn2 .ne w0 (3 : Int32)) (cond (cn2 .ne w0 (1 : Int32)) ((0 : Int32), pA (pI s 21 23 (0 : Int32)) 27 (upd (sA s 27) (Int32.toNatClampNeg v1) (sI s 21 31))) (sI s 21 9, pI s 21 23 (0 : Int32))) ((9 : Int32), pI s 21 23 (0 : Int32)))
def w_M_load_21 (fu : Nat) (s : St) (v1 : Int32) (w0 : Int32) : Prop := ((cn2 .ne w0 (3 : Int32)) = true → ((cn2 .ne w0 (1 : Int32)) = true → (vp_in v1 16 ∧ True)) ∧ ((cn2 .ne w0 (1 : Int32)) = false → True)) ∧ ((cn2 .ne w0 (3 : Int32)) = false → True)
theorem ct_M_load_21 {d : Nat} (fu : Nat) (s : St) (v1 : Int32) (w0 : Int32) (hw : w_M_load_21 fu s v1 w0) : X m_M_load (d + 69) 21 [some (.inr (.inr (some 21))), some (.inl v1), none] [.inl w0] (hp s) (qIs (t_M_load_21 fu s v1 w0)) := by
  unfold t_M_load_21
  unfold w_M_load_21 at hw
  refine X_run 3 (i1 := 24) (L1 := [some (.inr (.inr (some 21))), some (.inl v1), some (.inl w0)]) (st1 := [.inl (0 : Int32), .inr (.inr (some 21))]) rfl ?_
  refine X_pI rfl rfl rfl rfl ?_
  refine X_run 3 (i1 := cond (cn2 .ne w0 (3 : Int32)) 30 28) (L1 := [some (.inr (.inr (some 21))), some (.inl v1), some (.inl w0)]) (st1 := []) rfl ?_
  refine X_brq (fun hb => ?_) (fun hb => ?_)
  · have hw := hw.1 hb
    refine X_run 3 (i1 := cond (cn2 .ne w0 (1 : Int32)) 36 33) (L1 := [some (.inr (.inr (some 21))), some (.inl v1), some (.inl w0)]) (st1 := []) rfl ?_
    refine X_brq (fun hb => ?_) (fun hb => ?_)
    · have hw := hw.1 hb
      refine X_run 1 (i1 := 37) (L1 := [some (.inr (.inr (some 21))), some (.inl v1), some (.inl w0)]) (st1 := [.inr (.inr (some 21))]) rfl ?_
      refine X_gF (v := .inr (.inr (some 27))) rfl rfl rfl rfl ?_
      refine X_run 2 (i1 := 40) (L1 := [some (.inr (.inr (some 21))), some (.inl v1), some (.inl w0)]) (st1 := [.inr (.inr (some 21)), .inl v1, .inr (.inr (some 27))]) rfl ?_
      refine X_gF (v := .inl (sI s 21 31)) rfl rfl rfl rfl ?_
      obtain ⟨hin, hw⟩ := hw
      refine X_sI rfl rfl hin ?_
      show X _ _ 42 [some (.inr (.inr (some 21))), some (.inl v1), some (.inl w0)] [] (hp (pA (pI s 21 23 (0 : Int32)) 27 (upd (sA s 27) (Int32.toNatClampNeg v1) (sI s 21 31)))) _
      refine X_run 1 (i1 := 43) (L1 := [some (.inr (.inr (some 21))), some (.inl v1), some (.inl w0)]) (st1 := [.inl (0 : Int32)]) rfl ?_
      exact X_iret rfl rfl qIs_i
    · skip
      refine X_run 1 (i1 := 34) (L1 := [some (.inr (.inr (some 21))), some (.inl v1), some (.inl w0)]) (st1 := [.inr (.inr (some 21))]) rfl ?_
      refine X_gF (v := .inl (sI s 21 9)) rfl rfl rfl rfl ?_
      exact X_iret rfl rfl qIs_i
  · skip
    refine X_run 1 (i1 := 29) (L1 := [some (.inr (.inr (some 21))), some (.inl v1), some (.inl w0)]) (st1 := [.inl (9 : Int32)]) rfl ?_
    exact X_iret rfl rfl qIs_i
def f_M_load (fu : Nat) (s : St) (a0 : Int32) : Int32 × St := (cond (cn1 .lt a0) ((-1 : Int32), pI s 21 0 (0 : Int32)) (cond (cn2 .le a0 (15 : Int32)) (cond (cn1 .eq (sI s 21 15)) (t_M_load_21 fu (((F_parse fu 64).1 (pI (pI s 21 0 (0 : Int32)) 21 30 (0 : Int32)) (1 : Int32)).2) a0 (((F_parse fu 64).1 (pI (pI s 21 0 (0 : Int32)) 21 30 (0 : Int32)) (1 : Int32)).1)) (t_M_load_21 fu (pI (pI s 21 0 (0 : Int32)) 21 30 (0 : Int32)) a0 (3 : Int32))) ((-1 : Int32), pI s 21 0 (0 : Int32))))
def w_M_load (fu : Nat) (s : St) (a0 : Int32) : Prop := ((cn1 .lt a0) = true → True) ∧ ((cn1 .lt a0) = false → ((cn2 .le a0 (15 : Int32)) = true → ((cn1 .eq (sI s 21 15)) = true → ((W_parse fu 64).1 (pI (pI s 21 0 (0 : Int32)) 21 30 (0 : Int32)) (1 : Int32) ∧ (w_M_load_21 fu (((F_parse fu 64).1 (pI (pI s 21 0 (0 : Int32)) 21 30 (0 : Int32)) (1 : Int32)).2) a0 (((F_parse fu 64).1 (pI (pI s 21 0 (0 : Int32)) 21 30 (0 : Int32)) (1 : Int32)).1)))) ∧ ((cn1 .eq (sI s 21 15)) = false → (w_M_load_21 fu (pI (pI s 21 0 (0 : Int32)) 21 30 (0 : Int32)) a0 (3 : Int32)))) ∧ ((cn2 .le a0 (15 : Int32)) = false → True))
theorem c_M_load {d : Nat} (fu : Nat) (s : St) (a0 : Int32) (hw : w_M_load fu s a0) : X m_M_load (d + 69) 0 (entL 3 [.inr (.inr (some 21)), .inl a0]) [] (hp s) (qIs (f_M_load fu s a0)) := by
  unfold f_M_load
  unfold w_M_load at hw
  refine X_run 2 (i1 := 2) (L1 := [some (.inr (.inr (some 21))), some (.inl a0), none]) (st1 := [.inl (0 : Int32), .inr (.inr (some 21))]) rfl ?_
  refine X_pI rfl rfl rfl rfl ?_
  refine X_run 2 (i1 := cond (cn1 .lt a0) 8 5) (L1 := [some (.inr (.inr (some 21))), some (.inl a0), none]) (st1 := []) rfl ?_
  refine X_brq (fun hb => ?_) (fun hb => ?_)
  · skip
    refine X_run 1 (i1 := 9) (L1 := [some (.inr (.inr (some 21))), some (.inl a0), none]) (st1 := [.inl (-1 : Int32)]) rfl ?_
    exact X_iret rfl rfl qIs_i
  · have hw := hw.2 hb
    refine X_run 3 (i1 := cond (cn2 .le a0 (15 : Int32)) 10 8) (L1 := [some (.inr (.inr (some 21))), some (.inl a0), none]) (st1 := []) rfl ?_
    refine X_brq (fun hb => ?_) (fun hb => ?_)
    · have hw := hw.1 hb
      refine X_run 2 (i1 := 12) (L1 := [some (.inr (.inr (some 21))), some (.inl a0), none]) (st1 := [.inl (0 : Int32), .inr (.inr (some 21))]) rfl ?_
      refine X_pI rfl rfl rfl rfl ?_
      refine X_run 1 (i1 := 14) (L1 := [some (.inr (.inr (some 21))), some (.inl a0), none]) (st1 := [.inr (.inr (some 21))]) rfl ?_
      refine X_gF (v := .inl (sI s 21 15)) rfl rfl rfl rfl ?_
      refine X_run 1 (i1 := cond (cn1 .eq (sI s 21 15)) 18 16) (L1 := [some (.inr (.inr (some 21))), some (.inl a0), none]) (st1 := []) rfl ?_
      refine X_brq (fun hb => ?_) (fun hb => ?_)
      · have hw := hw.1 hb
        refine X_run 2 (i1 := 20) (L1 := [some (.inr (.inr (some 21))), some (.inl a0), none]) (st1 := [.inl (1 : Int32), .inr (.inr (some 21))]) rfl ?_
        obtain ⟨hc, hw⟩ := hw
        refine X_callv m_M_parse (As := [.inl (1 : Int32)]) (st := []) ok_M_parse rfl rfl rfl (hp_obj rfl) rfl (Nat.le_of_ble_eq_true rfl) (Nat.le_of_ble_eq_true rfl) ((cF_parse fu 64 (d)).1 (pI (pI s 21 0 (0 : Int32)) 21 30 (0 : Int32)) (1 : Int32) hc) ?_
        rintro _ _ ⟨rfl, rfl⟩
        show X _ _ 21 [some (.inr (.inr (some 21))), some (.inl a0), none] [.inl (((F_parse fu 64).1 (pI (pI s 21 0 (0 : Int32)) 21 30 (0 : Int32)) (1 : Int32)).1)] (hp (((F_parse fu 64).1 (pI (pI s 21 0 (0 : Int32)) 21 30 (0 : Int32)) (1 : Int32)).2)) _
        show X _ _ 21 [some (.inr (.inr (some 21))), some (.inl a0), none] [.inl (((F_parse fu 64).1 (pI (pI s 21 0 (0 : Int32)) 21 30 (0 : Int32)) (1 : Int32)).1)] (hp (((F_parse fu 64).1 (pI (pI s 21 0 (0 : Int32)) 21 30 (0 : Int32)) (1 : Int32)).2)) _
        exact ct_M_load_21 fu (((F_parse fu 64).1 (pI (pI s 21 0 (0 : Int32)) 21 30 (0 : Int32)) (1 : Int32)).2) a0 (((F_parse fu 64).1 (pI (pI s 21 0 (0 : Int32)) 21 30 (0 : Int32)) (1 : Int32)).1) hw
      · have hw := hw.2 hb
        refine X_run 2 (i1 := 21) (L1 := [some (.inr (.inr (some 21))), some (.inl a0), none]) (st1 := [.inl (3 : Int32)]) rfl ?_
        exact ct_M_load_21 fu (pI (pI s 21 0 (0 : Int32)) 21 30 (0 : Int32)) a0 (3 : Int32) hw
    · skip
      refine X_run 1 (i1 := 9) (L1 := [some (.inr (.inr (some 21))), some (.inl a0), none]) (st1 := [.inl (-1 : Int32)]) rfl ?_
      exact X_iret rfl rfl qIs_i
abbrev LT_M_tell_4 : Type := (St → Int64 → Int32 → Int32 × St) × (St → Int64 → Int32 → Int32 × St)
abbrev LW_M_tell_4 : Type := (St → Int64 → Int32 → Prop) × (St → Int64 → Int32 → Prop)
def hl_M_tell_4 (d : Nat) (lp : LT_M_tell_4) (wlp : LW_M_tell_4) : Prop := (∀ (s : St) (v1 : Int64) (v4 : Int32), wlp.1 s v1 v4 → X m_M_tell d 4 [some (.inr (.inr (some 21))), some (.inr (.inl v1)), none, none, some (.inl v4)] [] (hp s) (qIs (lp.1 s v1 v4))) ∧ (∀ (s : St) (v1 : Int64) (v4 : Int32), wlp.2 s v1 v4 → X m_M_tell d 31 [some (.inr (.inr (some 21))), some (.inr (.inl v1)), none, none, some (.inl v4)] [] (hp s) (qIs (lp.2 s v1 v4)))
def b_M_tell_4 (fu : Nat) (lp : LT_M_tell_4) (s : St) (v1 : Int64) (v4 : Int32) : Int32 × St := (cond (cn1 .lt v4) ((0 : Int32), s) (cond (cn2 .ne (sI s 21 24) (2000 : Int32)) (lp.2 (pI (pA s 33 (upd (sA s 33) (Int32.toNatClampNeg (sI s 21 24)) ((Int64.toInt32 (v1 >>> (Int32.toInt64 ((8 : Int32) * v4) &&& 63))) &&& (255 : Int32)))) 21 24 ((sI s 21 24) + (1 : Int32))) v1 v4) ((2 : Int32), s)))
def v_M_tell_4 (fu : Nat) (lp : LT_M_tell_4) (wlp : LW_M_tell_4) (s : St) (v1 : Int64) (v4 : Int32) : Prop := ((cn1 .lt v4) = true → True) ∧ ((cn1 .lt v4) = false → ((cn2 .ne (sI s 21 24) (2000 : Int32)) = true → (vp_in (sI s 21 24) 2000 ∧ (wlp.2 (pI (pA s 33 (upd (sA s 33) (Int32.toNatClampNeg (sI s 21 24)) ((Int64.toInt32 (v1 >>> (Int32.toInt64 ((8 : Int32) * v4) &&& 63))) &&& (255 : Int32)))) 21 24 ((sI s 21 24) + (1 : Int32))) v1 v4))) ∧ ((cn2 .ne (sI s 21 24) (2000 : Int32)) = false → True))
theorem cb_M_tell_4 {d : Nat} (fu : Nat) {lp : LT_M_tell_4} {wlp : LW_M_tell_4} (hlp : hl_M_tell_4 (d) lp wlp) (s : St) (v1 : Int64) (v4 : Int32) (hw : v_M_tell_4 fu lp wlp s v1 v4) : X m_M_tell (d) 4 [some (.inr (.inr (some 21))), some (.inr (.inl v1)), none, none, some (.inl v4)] [] (hp s) (qIs (b_M_tell_4 fu lp s v1 v4)) := by
  unfold b_M_tell_4
  unfold v_M_tell_4 at hw
  refine X_run 2 (i1 := cond (cn1 .lt v4) 33 6) (L1 := [some (.inr (.inr (some 21))), some (.inr (.inl v1)), none, none, some (.inl v4)]) (st1 := []) rfl ?_
  refine X_brq (fun hb => ?_) (fun hb => ?_)
  · skip
    refine X_run 1 (i1 := 34) (L1 := [some (.inr (.inr (some 21))), some (.inr (.inl v1)), none, none, some (.inl v4)]) (st1 := [.inl (0 : Int32)]) rfl ?_
    exact X_iret rfl rfl qIs_i
  · have hw := hw.2 hb
    refine X_run 1 (i1 := 7) (L1 := [some (.inr (.inr (some 21))), some (.inr (.inl v1)), none, none, some (.inl v4)]) (st1 := [.inr (.inr (some 21))]) rfl ?_
    refine X_gF (v := .inl (sI s 21 24)) rfl rfl rfl rfl ?_
    refine X_run 2 (i1 := cond (cn2 .ne (sI s 21 24) (2000 : Int32)) 12 10) (L1 := [some (.inr (.inr (some 21))), some (.inr (.inl v1)), none, none, some (.inl v4)]) (st1 := []) rfl ?_
    refine X_brq (fun hb => ?_) (fun hb => ?_)
    · have hw := hw.1 hb
      refine X_run 1 (i1 := 13) (L1 := [some (.inr (.inr (some 21))), some (.inr (.inl v1)), none, none, some (.inl v4)]) (st1 := [.inr (.inr (some 21))]) rfl ?_
      refine X_gF (v := .inr (.inr (some 33))) rfl rfl rfl rfl ?_
      refine X_run 1 (i1 := 15) (L1 := [some (.inr (.inr (some 21))), some (.inr (.inl v1)), none, none, some (.inl v4)]) (st1 := [.inr (.inr (some 21)), .inr (.inr (some 33))]) rfl ?_
      refine X_gF (v := .inl (sI s 21 24)) rfl rfl rfl rfl ?_
      refine X_run 8 (i1 := 24) (L1 := [some (.inr (.inr (some 21))), some (.inr (.inl v1)), none, none, some (.inl v4)]) (st1 := [.inl ((Int64.toInt32 (v1 >>> (Int32.toInt64 ((8 : Int32) * v4) &&& 63))) &&& (255 : Int32)), .inl (sI s 21 24), .inr (.inr (some 33))]) rfl ?_
      obtain ⟨hin, hw⟩ := hw
      refine X_sI rfl rfl hin ?_
      show X _ _ 25 [some (.inr (.inr (some 21))), some (.inr (.inl v1)), none, none, some (.inl v4)] [] (hp (pA s 33 (upd (sA s 33) (Int32.toNatClampNeg (sI s 21 24)) ((Int64.toInt32 (v1 >>> (Int32.toInt64 ((8 : Int32) * v4) &&& 63))) &&& (255 : Int32))))) _
      refine X_run 2 (i1 := 27) (L1 := [some (.inr (.inr (some 21))), some (.inr (.inl v1)), none, none, some (.inl v4)]) (st1 := [.inr (.inr (some 21)), .inr (.inr (some 21))]) rfl ?_
      refine X_gF (v := .inl (sI s 21 24)) rfl rfl rfl rfl ?_
      refine X_run 2 (i1 := 30) (L1 := [some (.inr (.inr (some 21))), some (.inr (.inl v1)), none, none, some (.inl v4)]) (st1 := [.inl ((sI s 21 24) + (1 : Int32)), .inr (.inr (some 21))]) rfl ?_
      refine X_pI rfl rfl rfl rfl ?_
      show X _ _ 31 [some (.inr (.inr (some 21))), some (.inr (.inl v1)), none, none, some (.inl v4)] [] (hp (pI (pA s 33 (upd (sA s 33) (Int32.toNatClampNeg (sI s 21 24)) ((Int64.toInt32 (v1 >>> (Int32.toInt64 ((8 : Int32) * v4) &&& 63))) &&& (255 : Int32)))) 21 24 ((sI s 21 24) + (1 : Int32)))) _
      exact hlp.2 (pI (pA s 33 (upd (sA s 33) (Int32.toNatClampNeg (sI s 21 24)) ((Int64.toInt32 (v1 >>> (Int32.toInt64 ((8 : Int32) * v4) &&& 63))) &&& (255 : Int32)))) 21 24 ((sI s 21 24) + (1 : Int32))) v1 v4 hw
    · skip
      refine X_run 1 (i1 := 11) (L1 := [some (.inr (.inr (some 21))), some (.inr (.inl v1)), none, none, some (.inl v4)]) (st1 := [.inl (2 : Int32)]) rfl ?_
      exact X_iret rfl rfl qIs_i
def b_M_tell_31 (fu : Nat) (lp : LT_M_tell_4) (s : St) (v1 : Int64) (v4 : Int32) : Int32 × St := (lp.1 s v1 (v4 + Int32.ofInt (-1)))
def v_M_tell_31 (fu : Nat) (lp : LT_M_tell_4) (wlp : LW_M_tell_4) (s : St) (v1 : Int64) (v4 : Int32) : Prop := (wlp.1 s v1 (v4 + Int32.ofInt (-1)))
theorem cb_M_tell_31 {d : Nat} (fu : Nat) {lp : LT_M_tell_4} {wlp : LW_M_tell_4} (hlp : hl_M_tell_4 (d) lp wlp) (s : St) (v1 : Int64) (v4 : Int32) (hw : v_M_tell_31 fu lp wlp s v1 v4) : X m_M_tell (d) 31 [some (.inr (.inr (some 21))), some (.inr (.inl v1)), none, none, some (.inl v4)] [] (hp s) (qIs (b_M_tell_31 fu lp s v1 v4)) := by
  unfold b_M_tell_31
  unfold v_M_tell_31 at hw
  refine X_run 2 (i1 := 4) (L1 := [some (.inr (.inr (some 21))), some (.inr (.inl v1)), none, none, some (.inl (v4 + Int32.ofInt (-1)))]) (st1 := []) rfl ?_
  exact hlp.1 s v1 (v4 + Int32.ofInt (-1)) hw
def T_M_tell_4 (fu : Nat) : Nat → LT_M_tell_4
  | 0 => (fun s _ _ => (0, s), fun s _ _ => (0, s))
  | n + 1 => (fun s v1 v4 => b_M_tell_4 fu (T_M_tell_4 fu n) s v1 v4, fun s v1 v4 => b_M_tell_31 fu (T_M_tell_4 fu n) s v1 v4)
def WT_M_tell_4 (fu : Nat) : Nat → LW_M_tell_4
  | 0 => (fun _ _ _ => False, fun _ _ _ => False)
  | n + 1 => (fun s v1 v4 => v_M_tell_4 fu (T_M_tell_4 fu n) (WT_M_tell_4 fu n) s v1 v4, fun s v1 v4 => v_M_tell_31 fu (T_M_tell_4 fu n) (WT_M_tell_4 fu n) s v1 v4)
theorem cT_M_tell_4 {d : Nat} (fu : Nat) : ∀ n : Nat, hl_M_tell_4 (d) (T_M_tell_4 fu n) (WT_M_tell_4 fu n)
  | 0 => ⟨fun _ _ _ hw => hw.elim, fun _ _ _ hw => hw.elim⟩
  | n + 1 => ⟨fun s v1 v4 hw => cb_M_tell_4 fu (cT_M_tell_4 fu n) s v1 v4 hw, fun s v1 v4 hw => cb_M_tell_31 fu (cT_M_tell_4 fu n) s v1 v4 hw⟩
def f_M_tell (fu : Nat) (s : St) (a0 : Int64) (a1 : Int32) : Int32 × St := ((T_M_tell_4 fu fu).1 s a0 (a1 - (1 : Int32)))
def w_M_tell (fu : Nat) (s : St) (a0 : Int64) (a1 : Int32) : Prop := ((WT_M_tell_4 fu fu).1 s a0 (a1 - (1 : Int32)))
theorem c_M_tell {d : Nat} (fu : Nat) (s : St) (a0 : Int64) (a1 : Int32) (hw : w_M_tell fu s a0 a1) : X m_M_tell (d) 0 (entL 5 [.inr (.inr (some 21)), .inr (.inl a0), .inl a1]) [] (hp s) (qIs (f_M_tell fu s a0 a1)) := by
  unfold f_M_tell
  unfold w_M_tell at hw
  refine X_run 4 (i1 := 4) (L1 := [some (.inr (.inr (some 21))), some (.inr (.inl a0)), none, some (.inl a1), some (.inl (a1 - (1 : Int32)))]) (st1 := []) rfl ?_
  refine X_mask [true, true, true, false, true] ?_
  exact (cT_M_tell_4 fu fu).1 s a0 (a1 - (1 : Int32)) hw
abbrev G_write : Type := (St → Int32 → Int32 → Int32 × St)
abbrev GW_write : Type := (St → Int32 → Int32 → Prop)
def hr_write (d : Nat) (rec : G_write) (wrec : GW_write) : Prop := (∀ (s : St) (a0 : Int32) (a1 : Int32), wrec s a0 a1 → X m_M_write d 0 (entL 7 [.inr (.inr (some 21)), .inl a0, .inl a1]) [] (hp s) (qIs (rec s a0 a1)))
abbrev LT_M_write_120 : Type := (St → Int32 → Int32 → Int32 → Int32 → Int32 → Int32 → Int32 × St) × (St → Int32 → Int32 → Int32 → Int32 → Int32 → Int32 → Int32 × St) × (St → Int32 → Int32 → Int32 → Int32 → Int32 → Int32 → Int32 × St)
abbrev LW_M_write_120 : Type := (St → Int32 → Int32 → Int32 → Int32 → Int32 → Int32 → Prop) × (St → Int32 → Int32 → Int32 → Int32 → Int32 → Int32 → Prop) × (St → Int32 → Int32 → Int32 → Int32 → Int32 → Int32 → Prop)
def hl_M_write_120 (d : Nat) (lp : LT_M_write_120) (wlp : LW_M_write_120) : Prop := (∀ (s : St) (v1 : Int32) (v2 : Int32) (v3 : Int32) (v4 : Int32) (v5 : Int32) (v6 : Int32), wlp.1 s v1 v2 v3 v4 v5 v6 → X m_M_write d 120 [some (.inr (.inr (some 21))), some (.inl v1), some (.inl v2), some (.inl v3), some (.inl v4), some (.inl v5), some (.inl v6)] [] (hp s) (qIs (lp.1 s v1 v2 v3 v4 v5 v6))) ∧ (∀ (s : St) (v1 : Int32) (v2 : Int32) (v3 : Int32) (v5 : Int32) (v6 : Int32) (w0 : Int32), wlp.2.1 s v1 v2 v3 v5 v6 w0 → X m_M_write d 141 [some (.inr (.inr (some 21))), some (.inl v1), some (.inl v2), some (.inl v3), none, some (.inl v5), some (.inl v6)] [.inl w0] (hp s) (qIs (lp.2.1 s v1 v2 v3 v5 v6 w0))) ∧ (∀ (s : St) (v1 : Int32) (v2 : Int32) (v3 : Int32) (v5 : Int32) (v6 : Int32) (w0 : Int32), wlp.2.2 s v1 v2 v3 v5 v6 w0 → X m_M_write d 154 [some (.inr (.inr (some 21))), some (.inl v1), some (.inl v2), some (.inl v3), none, some (.inl v5), some (.inl v6)] [.inl w0] (hp s) (qIs (lp.2.2 s v1 v2 v3 v5 v6 w0)))
def b_M_write_120 (rec : G_write) (fu : Nat) (lp : LT_M_write_120) (s : St) (v1 : Int32) (v2 : Int32) (v3 : Int32) (v4 : Int32) (v5 : Int32) (v6 : Int32) : Int32 × St := (cond (cn2 .ge v6 (sA s 24 (Int32.toNatClampNeg v1))) (v4, s) (cond (cn1 .ne v4) (v4, s) (cond (cn2 .ge v3 (9 : Int32)) (lp.2.2 ((rec s (Int64.toInt32 (sB s 26 (Int32.toNatClampNeg (v5 + v6)))) (v2 + (1 : Int32))).2) v1 v2 v3 v5 v6 ((rec s (Int64.toInt32 (sB s 26 (Int32.toNatClampNeg (v5 + v6)))) (v2 + (1 : Int32))).1)) (lp.2.1 ((f_M_tell fu s (sB s 26 (Int32.toNatClampNeg (v5 + v6))) (f_M_wideOf v3)).2) v1 v2 v3 v5 v6 ((f_M_tell fu s (sB s 26 (Int32.toNatClampNeg (v5 + v6))) (f_M_wideOf v3)).1)))))
def v_M_write_120 (rec : G_write) (wrec : GW_write) (fu : Nat) (lp : LT_M_write_120) (wlp : LW_M_write_120) (s : St) (v1 : Int32) (v2 : Int32) (v3 : Int32) (v4 : Int32) (v5 : Int32) (v6 : Int32) : Prop := (vp_in v1 40001 ∧ ((cn2 .ge v6 (sA s 24 (Int32.toNatClampNeg v1))) = true → True) ∧ ((cn2 .ge v6 (sA s 24 (Int32.toNatClampNeg v1))) = false → ((cn1 .ne v4) = true → True) ∧ ((cn1 .ne v4) = false → ((cn2 .ge v3 (9 : Int32)) = true → (vp_in (v5 + v6) 40001 ∧ (wrec s (Int64.toInt32 (sB s 26 (Int32.toNatClampNeg (v5 + v6)))) (v2 + (1 : Int32)) ∧ (wlp.2.2 ((rec s (Int64.toInt32 (sB s 26 (Int32.toNatClampNeg (v5 + v6)))) (v2 + (1 : Int32))).2) v1 v2 v3 v5 v6 ((rec s (Int64.toInt32 (sB s 26 (Int32.toNatClampNeg (v5 + v6)))) (v2 + (1 : Int32))).1))))) ∧ ((cn2 .ge v3 (9 : Int32)) = false → (vp_in (v5 + v6) 40001 ∧ (w_M_tell fu s (sB s 26 (Int32.toNatClampNeg (v5 + v6))) (f_M_wideOf v3) ∧ (wlp.2.1 ((f_M_tell fu s (sB s 26 (Int32.toNatClampNeg (v5 + v6))) (f_M_wideOf v3)).2) v1 v2 v3 v5 v6 ((f_M_tell fu s (sB s 26 (Int32.toNatClampNeg (v5 + v6))) (f_M_wideOf v3)).1))))))))
theorem cb_M_write_120 {d : Nat} {rec : G_write} {wrec : GW_write} (hrec : hr_write (d) rec wrec) (fu : Nat) {lp : LT_M_write_120} {wlp : LW_M_write_120} (hlp : hl_M_write_120 (d + 1) lp wlp) (s : St) (v1 : Int32) (v2 : Int32) (v3 : Int32) (v4 : Int32) (v5 : Int32) (v6 : Int32) (hw : v_M_write_120 rec wrec fu lp wlp s v1 v2 v3 v4 v5 v6) : X m_M_write (d + 1) 120 [some (.inr (.inr (some 21))), some (.inl v1), some (.inl v2), some (.inl v3), some (.inl v4), some (.inl v5), some (.inl v6)] [] (hp s) (qIs (b_M_write_120 rec fu lp s v1 v2 v3 v4 v5 v6)) := by
  unfold b_M_write_120
  unfold v_M_write_120 at hw
  refine X_run 2 (i1 := 122) (L1 := [some (.inr (.inr (some 21))), some (.inl v1), some (.inl v2), some (.inl v3), some (.inl v4), some (.inl v5), some (.inl v6)]) (st1 := [.inr (.inr (some 21)), .inl v6]) rfl ?_
  refine X_gF (v := .inr (.inr (some 24))) rfl rfl rfl rfl ?_
  refine X_run 1 (i1 := 124) (L1 := [some (.inr (.inr (some 21))), some (.inl v1), some (.inl v2), some (.inl v3), some (.inl v4), some (.inl v5), some (.inl v6)]) (st1 := [.inl v1, .inr (.inr (some 24)), .inl v6]) rfl ?_
  obtain ⟨hin, hw⟩ := hw
  refine X_aI rfl rfl hin ?_
  show X _ _ 125 [some (.inr (.inr (some 21))), some (.inl v1), some (.inl v2), some (.inl v3), some (.inl v4), some (.inl v5), some (.inl v6)] [.inl (sA s 24 (Int32.toNatClampNeg v1)), .inl v6] (hp s) _
  refine X_run 1 (i1 := cond (cn2 .ge v6 (sA s 24 (Int32.toNatClampNeg v1))) 157 126) (L1 := [some (.inr (.inr (some 21))), some (.inl v1), some (.inl v2), some (.inl v3), some (.inl v4), some (.inl v5), some (.inl v6)]) (st1 := []) rfl ?_
  refine X_brq (fun hb => ?_) (fun hb => ?_)
  · skip
    refine X_run 1 (i1 := 158) (L1 := [some (.inr (.inr (some 21))), some (.inl v1), some (.inl v2), some (.inl v3), some (.inl v4), some (.inl v5), some (.inl v6)]) (st1 := [.inl v4]) rfl ?_
    exact X_iret rfl rfl qIs_i
  · have hw := hw.2 hb
    refine X_run 2 (i1 := cond (cn1 .ne v4) 157 128) (L1 := [some (.inr (.inr (some 21))), some (.inl v1), some (.inl v2), some (.inl v3), some (.inl v4), some (.inl v5), some (.inl v6)]) (st1 := []) rfl ?_
    refine X_brq (fun hb => ?_) (fun hb => ?_)
    · skip
      refine X_run 1 (i1 := 158) (L1 := [some (.inr (.inr (some 21))), some (.inl v1), some (.inl v2), some (.inl v3), some (.inl v4), some (.inl v5), some (.inl v6)]) (st1 := [.inl v4]) rfl ?_
      exact X_iret rfl rfl qIs_i
    · have hw := hw.2 hb
      refine X_run 3 (i1 := cond (cn2 .ge v3 (9 : Int32)) 142 131) (L1 := [some (.inr (.inr (some 21))), some (.inl v1), some (.inl v2), some (.inl v3), some (.inl v4), some (.inl v5), some (.inl v6)]) (st1 := []) rfl ?_
      refine X_brq (fun hb => ?_) (fun hb => ?_)
      · have hw := hw.1 hb
        refine X_run 2 (i1 := 144) (L1 := [some (.inr (.inr (some 21))), some (.inl v1), some (.inl v2), some (.inl v3), some (.inl v4), some (.inl v5), some (.inl v6)]) (st1 := [.inr (.inr (some 21)), .inr (.inr (some 21))]) rfl ?_
        refine X_gF (v := .inr (.inr (some 26))) rfl rfl rfl rfl ?_
        refine X_run 3 (i1 := 148) (L1 := [some (.inr (.inr (some 21))), some (.inl v1), some (.inl v2), some (.inl v3), some (.inl v4), some (.inl v5), some (.inl v6)]) (st1 := [.inl (v5 + v6), .inr (.inr (some 26)), .inr (.inr (some 21))]) rfl ?_
        obtain ⟨hin, hw⟩ := hw
        refine X_aL rfl rfl hin ?_
        show X _ _ 149 [some (.inr (.inr (some 21))), some (.inl v1), some (.inl v2), some (.inl v3), some (.inl v4), some (.inl v5), some (.inl v6)] [.inr (.inl (sB s 26 (Int32.toNatClampNeg (v5 + v6)))), .inr (.inr (some 21))] (hp s) _
        refine X_run 4 (i1 := 153) (L1 := [some (.inr (.inr (some 21))), some (.inl v1), some (.inl v2), some (.inl v3), some (.inl v4), some (.inl v5), some (.inl v6)]) (st1 := [.inl (v2 + (1 : Int32)), .inl (Int64.toInt32 (sB s 26 (Int32.toNatClampNeg (v5 + v6)))), .inr (.inr (some 21))]) rfl ?_
        obtain ⟨hc, hw⟩ := hw
        refine X_callv m_M_write (As := [.inl (Int64.toInt32 (sB s 26 (Int32.toNatClampNeg (v5 + v6)))), .inl (v2 + (1 : Int32))]) (st := []) ok_M_write rfl rfl rfl (hp_obj rfl) rfl (Nat.le_of_ble_eq_true rfl) (Nat.le_of_ble_eq_true rfl) (hrec s (Int64.toInt32 (sB s 26 (Int32.toNatClampNeg (v5 + v6)))) (v2 + (1 : Int32)) hc) ?_
        rintro _ _ ⟨rfl, rfl⟩
        show X _ _ 154 [some (.inr (.inr (some 21))), some (.inl v1), some (.inl v2), some (.inl v3), some (.inl v4), some (.inl v5), some (.inl v6)] [.inl ((rec s (Int64.toInt32 (sB s 26 (Int32.toNatClampNeg (v5 + v6)))) (v2 + (1 : Int32))).1)] (hp ((rec s (Int64.toInt32 (sB s 26 (Int32.toNatClampNeg (v5 + v6)))) (v2 + (1 : Int32))).2)) _
        show X _ _ 154 [some (.inr (.inr (some 21))), some (.inl v1), some (.inl v2), some (.inl v3), some (.inl v4), some (.inl v5), some (.inl v6)] [.inl ((rec s (Int64.toInt32 (sB s 26 (Int32.toNatClampNeg (v5 + v6)))) (v2 + (1 : Int32))).1)] (hp ((rec s (Int64.toInt32 (sB s 26 (Int32.toNatClampNeg (v5 + v6)))) (v2 + (1 : Int32))).2)) _
        refine X_mask [true, true, true, true, false, true, true] ?_
        exact hlp.2.2 ((rec s (Int64.toInt32 (sB s 26 (Int32.toNatClampNeg (v5 + v6)))) (v2 + (1 : Int32))).2) v1 v2 v3 v5 v6 ((rec s (Int64.toInt32 (sB s 26 (Int32.toNatClampNeg (v5 + v6)))) (v2 + (1 : Int32))).1) hw
      · have hw := hw.2 hb
        refine X_run 2 (i1 := 133) (L1 := [some (.inr (.inr (some 21))), some (.inl v1), some (.inl v2), some (.inl v3), some (.inl v4), some (.inl v5), some (.inl v6)]) (st1 := [.inr (.inr (some 21)), .inr (.inr (some 21))]) rfl ?_
        refine X_gF (v := .inr (.inr (some 26))) rfl rfl rfl rfl ?_
        refine X_run 3 (i1 := 137) (L1 := [some (.inr (.inr (some 21))), some (.inl v1), some (.inl v2), some (.inl v3), some (.inl v4), some (.inl v5), some (.inl v6)]) (st1 := [.inl (v5 + v6), .inr (.inr (some 26)), .inr (.inr (some 21))]) rfl ?_
        obtain ⟨hin, hw⟩ := hw
        refine X_aL rfl rfl hin ?_
        show X _ _ 138 [some (.inr (.inr (some 21))), some (.inl v1), some (.inl v2), some (.inl v3), some (.inl v4), some (.inl v5), some (.inl v6)] [.inr (.inl (sB s 26 (Int32.toNatClampNeg (v5 + v6)))), .inr (.inr (some 21))] (hp s) _
        refine X_run 1 (i1 := 139) (L1 := [some (.inr (.inr (some 21))), some (.inl v1), some (.inl v2), some (.inl v3), some (.inl v4), some (.inl v5), some (.inl v6)]) (st1 := [.inl v3, .inr (.inl (sB s 26 (Int32.toNatClampNeg (v5 + v6)))), .inr (.inr (some 21))]) rfl ?_
        refine X_calls m_M_wideOf (As := [.inl v3]) (st := [.inr (.inl (sB s 26 (Int32.toNatClampNeg (v5 + v6)))), .inr (.inr (some 21))]) ok_M_wideOf rfl rfl rfl (Nat.le_of_ble_eq_true rfl) (Nat.le_of_ble_eq_true rfl) (c_M_wideOf (d := d) v3) ?_
        rintro _ _ ⟨rfl, rfl⟩
        show X _ _ 140 [some (.inr (.inr (some 21))), some (.inl v1), some (.inl v2), some (.inl v3), some (.inl v4), some (.inl v5), some (.inl v6)] [.inl (f_M_wideOf v3), .inr (.inl (sB s 26 (Int32.toNatClampNeg (v5 + v6)))), .inr (.inr (some 21))] (hp s) _
        obtain ⟨hc, hw⟩ := hw
        refine X_callv m_M_tell (As := [.inr (.inl (sB s 26 (Int32.toNatClampNeg (v5 + v6)))), .inl (f_M_wideOf v3)]) (st := []) ok_M_tell rfl rfl rfl (hp_obj rfl) rfl (Nat.le_of_ble_eq_true rfl) (Nat.le_of_ble_eq_true rfl) (c_M_tell (d := d) fu s (sB s 26 (Int32.toNatClampNeg (v5 + v6))) (f_M_wideOf v3) hc) ?_
        rintro _ _ ⟨rfl, rfl⟩
        show X _ _ 141 [some (.inr (.inr (some 21))), some (.inl v1), some (.inl v2), some (.inl v3), some (.inl v4), some (.inl v5), some (.inl v6)] [.inl ((f_M_tell fu s (sB s 26 (Int32.toNatClampNeg (v5 + v6))) (f_M_wideOf v3)).1)] (hp ((f_M_tell fu s (sB s 26 (Int32.toNatClampNeg (v5 + v6))) (f_M_wideOf v3)).2)) _
        show X _ _ 141 [some (.inr (.inr (some 21))), some (.inl v1), some (.inl v2), some (.inl v3), some (.inl v4), some (.inl v5), some (.inl v6)] [.inl ((f_M_tell fu s (sB s 26 (Int32.toNatClampNeg (v5 + v6))) (f_M_wideOf v3)).1)] (hp ((f_M_tell fu s (sB s 26 (Int32.toNatClampNeg (v5 + v6))) (f_M_wideOf v3)).2)) _
        refine X_mask [true, true, true, true, false, true, true] ?_
        exact hlp.2.1 ((f_M_tell fu s (sB s 26 (Int32.toNatClampNeg (v5 + v6))) (f_M_wideOf v3)).2) v1 v2 v3 v5 v6 ((f_M_tell fu s (sB s 26 (Int32.toNatClampNeg (v5 + v6))) (f_M_wideOf v3)).1) hw
def b_M_write_141 (rec : G_write) (fu : Nat) (lp : LT_M_write_120) (s : St) (v1 : Int32) (v2 : Int32) (v3 : Int32) (v5 : Int32) (v6 : Int32) (w0 : Int32) : Int32 × St := (lp.2.2 s v1 v2 v3 v5 v6 w0)
def v_M_write_141 (rec : G_write) (wrec : GW_write) (fu : Nat) (lp : LT_M_write_120) (wlp : LW_M_write_120) (s : St) (v1 : Int32) (v2 : Int32) (v3 : Int32) (v5 : Int32) (v6 : Int32) (w0 : Int32) : Prop := (wlp.2.2 s v1 v2 v3 v5 v6 w0)
theorem cb_M_write_141 {d : Nat} {rec : G_write} {wrec : GW_write} (hrec : hr_write (d) rec wrec) (fu : Nat) {lp : LT_M_write_120} {wlp : LW_M_write_120} (hlp : hl_M_write_120 (d + 1) lp wlp) (s : St) (v1 : Int32) (v2 : Int32) (v3 : Int32) (v5 : Int32) (v6 : Int32) (w0 : Int32) (hw : v_M_write_141 rec wrec fu lp wlp s v1 v2 v3 v5 v6 w0) : X m_M_write (d + 1) 141 [some (.inr (.inr (some 21))), some (.inl v1), some (.inl v2), some (.inl v3), none, some (.inl v5), some (.inl v6)] [.inl w0] (hp s) (qIs (b_M_write_141 rec fu lp s v1 v2 v3 v5 v6 w0)) := by
  unfold b_M_write_141
  unfold v_M_write_141 at hw
  refine X_run 1 (i1 := 154) (L1 := [some (.inr (.inr (some 21))), some (.inl v1), some (.inl v2), some (.inl v3), none, some (.inl v5), some (.inl v6)]) (st1 := [.inl w0]) rfl ?_
  exact hlp.2.2 s v1 v2 v3 v5 v6 w0 hw
def b_M_write_154 (rec : G_write) (fu : Nat) (lp : LT_M_write_120) (s : St) (v1 : Int32) (v2 : Int32) (v3 : Int32) (v5 : Int32) (v6 : Int32) (w0 : Int32) : Int32 × St := (lp.1 s v1 v2 v3 w0 v5 (v6 + Int32.ofInt (1)))
def v_M_write_154 (rec : G_write) (wrec : GW_write) (fu : Nat) (lp : LT_M_write_120) (wlp : LW_M_write_120) (s : St) (v1 : Int32) (v2 : Int32) (v3 : Int32) (v5 : Int32) (v6 : Int32) (w0 : Int32) : Prop := (wlp.1 s v1 v2 v3 w0 v5 (v6 + Int32.ofInt (1)))
theorem cb_M_write_154 {d : Nat} {rec : G_write} {wrec : GW_write} (hrec : hr_write (d) rec wrec) (fu : Nat) {lp : LT_M_write_120} {wlp : LW_M_write_120} (hlp : hl_M_write_120 (d + 1) lp wlp) (s : St) (v1 : Int32) (v2 : Int32) (v3 : Int32) (v5 : Int32) (v6 : Int32) (w0 : Int32) (hw : v_M_write_154 rec wrec fu lp wlp s v1 v2 v3 v5 v6 w0) : X m_M_write (d + 1) 154 [some (.inr (.inr (some 21))), some (.inl v1), some (.inl v2), some (.inl v3), none, some (.inl v5), some (.inl v6)] [.inl w0] (hp s) (qIs (b_M_write_154 rec fu lp s v1 v2 v3 v5 v6 w0)) := by
  unfold b_M_write_154
  unfold v_M_write_154 at hw
  refine X_run 3 (i1 := 120) (L1 := [some (.inr (.inr (some 21))), some (.inl v1), some (.inl v2), some (.inl v3), some (.inl w0), some (.inl v5), some (.inl (v6 + Int32.ofInt (1)))]) (st1 := []) rfl ?_
  exact hlp.1 s v1 v2 v3 w0 v5 (v6 + Int32.ofInt (1)) hw
def T_M_write_120 (rec : G_write) (fu : Nat) : Nat → LT_M_write_120
  | 0 => (fun s _ _ _ _ _ _ => (0, s), fun s _ _ _ _ _ _ => (0, s), fun s _ _ _ _ _ _ => (0, s))
  | n + 1 => (fun s v1 v2 v3 v4 v5 v6 => b_M_write_120 rec fu (T_M_write_120 rec fu n) s v1 v2 v3 v4 v5 v6, fun s v1 v2 v3 v5 v6 w0 => b_M_write_141 rec fu (T_M_write_120 rec fu n) s v1 v2 v3 v5 v6 w0, fun s v1 v2 v3 v5 v6 w0 => b_M_write_154 rec fu (T_M_write_120 rec fu n) s v1 v2 v3 v5 v6 w0)
def WT_M_write_120 (rec : G_write) (wrec : GW_write) (fu : Nat) : Nat → LW_M_write_120
  | 0 => (fun _ _ _ _ _ _ _ => False, fun _ _ _ _ _ _ _ => False, fun _ _ _ _ _ _ _ => False)
  | n + 1 => (fun s v1 v2 v3 v4 v5 v6 => v_M_write_120 rec wrec fu (T_M_write_120 rec fu n) (WT_M_write_120 rec wrec fu n) s v1 v2 v3 v4 v5 v6, fun s v1 v2 v3 v5 v6 w0 => v_M_write_141 rec wrec fu (T_M_write_120 rec fu n) (WT_M_write_120 rec wrec fu n) s v1 v2 v3 v5 v6 w0, fun s v1 v2 v3 v5 v6 w0 => v_M_write_154 rec wrec fu (T_M_write_120 rec fu n) (WT_M_write_120 rec wrec fu n) s v1 v2 v3 v5 v6 w0)
theorem cT_M_write_120 {d : Nat} {rec : G_write} {wrec : GW_write} (hrec : hr_write (d) rec wrec) (fu : Nat) : ∀ n : Nat, hl_M_write_120 (d + 1) (T_M_write_120 rec fu n) (WT_M_write_120 rec wrec fu n)
  | 0 => ⟨fun _ _ _ _ _ _ _ hw => hw.elim, fun _ _ _ _ _ _ _ hw => hw.elim, fun _ _ _ _ _ _ _ hw => hw.elim⟩
  | n + 1 => ⟨fun s v1 v2 v3 v4 v5 v6 hw => cb_M_write_120 hrec fu (cT_M_write_120 hrec fu n) s v1 v2 v3 v4 v5 v6 hw, fun s v1 v2 v3 v5 v6 w0 hw => cb_M_write_141 hrec fu (cT_M_write_120 hrec fu n) s v1 v2 v3 v5 v6 w0 hw, fun s v1 v2 v3 v5 v6 w0 hw => cb_M_write_154 hrec fu (cT_M_write_120 hrec fu n) s v1 v2 v3 v5 v6 w0 hw⟩
def t_M_write_118 (rec : G_write) (fu : Nat) (s : St) (v1 : Int32) (v2 : Int32) (v3 : Int32) (v4 : Int32) (v5 : Int32) : Int32 × St := ((T_M_write_120 rec fu fu).1 s v1 v2 v3 v4 v5 (0 : Int32))
def w_M_write_118 (rec : G_write) (wrec : GW_write) (fu : Nat) (s : St) (v1 : Int32) (v2 : Int32) (v3 : Int32) (v4 : Int32) (v5 : Int32) : Prop := ((WT_M_write_120 rec wrec fu fu).1 s v1 v2 v3 v4 v5 (0 : Int32))
theorem ct_M_write_118 {d : Nat} {rec : G_write} {wrec : GW_write} (hrec : hr_write (d) rec wrec) (fu : Nat) (s : St) (v1 : Int32) (v2 : Int32) (v3 : Int32) (v4 : Int32) (v5 : Int32) (hw : w_M_write_118 rec wrec fu s v1 v2 v3 v4 v5) : X m_M_write (d + 1) 118 [some (.inr (.inr (some 21))), some (.inl v1), some (.inl v2), some (.inl v3), some (.inl v4), some (.inl v5), none] [] (hp s) (qIs (t_M_write_118 rec fu s v1 v2 v3 v4 v5)) := by
  unfold t_M_write_118
  unfold w_M_write_118 at hw
  refine X_run 2 (i1 := 120) (L1 := [some (.inr (.inr (some 21))), some (.inl v1), some (.inl v2), some (.inl v3), some (.inl v4), some (.inl v5), some (.inl (0 : Int32))]) (st1 := []) rfl ?_
  exact (cT_M_write_120 hrec fu fu).1 s v1 v2 v3 v4 v5 (0 : Int32) hw
def t_M_write_117 (rec : G_write) (fu : Nat) (s : St) (v1 : Int32) (v2 : Int32) (v3 : Int32) (v5 : Int32) (w0 : Int32) : Int32 × St := (t_M_write_118 rec fu s v1 v2 v3 w0 v5)
def w_M_write_117 (rec : G_write) (wrec : GW_write) (fu : Nat) (s : St) (v1 : Int32) (v2 : Int32) (v3 : Int32) (v5 : Int32) (w0 : Int32) : Prop := (w_M_write_118 rec wrec fu s v1 v2 v3 w0 v5)
theorem ct_M_write_117 {d : Nat} {rec : G_write} {wrec : GW_write} (hrec : hr_write (d) rec wrec) (fu : Nat) (s : St) (v1 : Int32) (v2 : Int32) (v3 : Int32) (v5 : Int32) (w0 : Int32) (hw : w_M_write_117 rec wrec fu s v1 v2 v3 v5 w0) : X m_M_write (d + 1) 117 [some (.inr (.inr (some 21))), some (.inl v1), some (.inl v2), some (.inl v3), none, some (.inl v5), none] [.inl w0] (hp s) (qIs (t_M_write_117 rec fu s v1 v2 v3 v5 w0)) := by
  unfold t_M_write_117
  unfold w_M_write_117 at hw
  refine X_run 1 (i1 := 118) (L1 := [some (.inr (.inr (some 21))), some (.inl v1), some (.inl v2), some (.inl v3), some (.inl w0), some (.inl v5), none]) (st1 := []) rfl ?_
  exact ct_M_write_118 hrec fu s v1 v2 v3 w0 v5 hw
def t_M_write_107 (rec : G_write) (fu : Nat) (s : St) (v1 : Int32) (v2 : Int32) (v3 : Int32) (v4 : Int32) (v5 : Int32) : Int32 × St := (cond (cn1 .ne v4) (t_M_write_118 rec fu s v1 v2 v3 v4 v5) (t_M_write_117 rec fu ((f_M_tell fu s (Int32.toInt64 (sA s 24 (Int32.toNatClampNeg v1))) (4 : Int32)).2) v1 v2 v3 v5 ((f_M_tell fu s (Int32.toInt64 (sA s 24 (Int32.toNatClampNeg v1))) (4 : Int32)).1)))
def w_M_write_107 (rec : G_write) (wrec : GW_write) (fu : Nat) (s : St) (v1 : Int32) (v2 : Int32) (v3 : Int32) (v4 : Int32) (v5 : Int32) : Prop := ((cn1 .ne v4) = true → (w_M_write_118 rec wrec fu s v1 v2 v3 v4 v5)) ∧ ((cn1 .ne v4) = false → (vp_in v1 40001 ∧ (w_M_tell fu s (Int32.toInt64 (sA s 24 (Int32.toNatClampNeg v1))) (4 : Int32) ∧ (w_M_write_117 rec wrec fu ((f_M_tell fu s (Int32.toInt64 (sA s 24 (Int32.toNatClampNeg v1))) (4 : Int32)).2) v1 v2 v3 v5 ((f_M_tell fu s (Int32.toInt64 (sA s 24 (Int32.toNatClampNeg v1))) (4 : Int32)).1)))))
theorem ct_M_write_107 {d : Nat} {rec : G_write} {wrec : GW_write} (hrec : hr_write (d) rec wrec) (fu : Nat) (s : St) (v1 : Int32) (v2 : Int32) (v3 : Int32) (v4 : Int32) (v5 : Int32) (hw : w_M_write_107 rec wrec fu s v1 v2 v3 v4 v5) : X m_M_write (d + 1) 107 [some (.inr (.inr (some 21))), some (.inl v1), some (.inl v2), some (.inl v3), some (.inl v4), some (.inl v5), none] [] (hp s) (qIs (t_M_write_107 rec fu s v1 v2 v3 v4 v5)) := by
  unfold t_M_write_107
  unfold w_M_write_107 at hw
  refine X_run 2 (i1 := cond (cn1 .ne v4) 118 109) (L1 := [some (.inr (.inr (some 21))), some (.inl v1), some (.inl v2), some (.inl v3), some (.inl v4), some (.inl v5), none]) (st1 := []) rfl ?_
  refine X_brq (fun hb => ?_) (fun hb => ?_)
  · have hw := hw.1 hb
    exact ct_M_write_118 hrec fu s v1 v2 v3 v4 v5 hw
  · have hw := hw.2 hb
    refine X_run 2 (i1 := 111) (L1 := [some (.inr (.inr (some 21))), some (.inl v1), some (.inl v2), some (.inl v3), some (.inl v4), some (.inl v5), none]) (st1 := [.inr (.inr (some 21)), .inr (.inr (some 21))]) rfl ?_
    refine X_gF (v := .inr (.inr (some 24))) rfl rfl rfl rfl ?_
    refine X_run 1 (i1 := 113) (L1 := [some (.inr (.inr (some 21))), some (.inl v1), some (.inl v2), some (.inl v3), some (.inl v4), some (.inl v5), none]) (st1 := [.inl v1, .inr (.inr (some 24)), .inr (.inr (some 21))]) rfl ?_
    obtain ⟨hin, hw⟩ := hw
    refine X_aI rfl rfl hin ?_
    show X _ _ 114 [some (.inr (.inr (some 21))), some (.inl v1), some (.inl v2), some (.inl v3), some (.inl v4), some (.inl v5), none] [.inl (sA s 24 (Int32.toNatClampNeg v1)), .inr (.inr (some 21))] (hp s) _
    refine X_run 2 (i1 := 116) (L1 := [some (.inr (.inr (some 21))), some (.inl v1), some (.inl v2), some (.inl v3), some (.inl v4), some (.inl v5), none]) (st1 := [.inl (4 : Int32), .inr (.inl (Int32.toInt64 (sA s 24 (Int32.toNatClampNeg v1)))), .inr (.inr (some 21))]) rfl ?_
    obtain ⟨hc, hw⟩ := hw
    refine X_callv m_M_tell (As := [.inr (.inl (Int32.toInt64 (sA s 24 (Int32.toNatClampNeg v1)))), .inl (4 : Int32)]) (st := []) ok_M_tell rfl rfl rfl (hp_obj rfl) rfl (Nat.le_of_ble_eq_true rfl) (Nat.le_of_ble_eq_true rfl) (c_M_tell (d := d) fu s (Int32.toInt64 (sA s 24 (Int32.toNatClampNeg v1))) (4 : Int32) hc) ?_
    rintro _ _ ⟨rfl, rfl⟩
    show X _ _ 117 [some (.inr (.inr (some 21))), some (.inl v1), some (.inl v2), some (.inl v3), some (.inl v4), some (.inl v5), none] [.inl ((f_M_tell fu s (Int32.toInt64 (sA s 24 (Int32.toNatClampNeg v1))) (4 : Int32)).1)] (hp ((f_M_tell fu s (Int32.toInt64 (sA s 24 (Int32.toNatClampNeg v1))) (4 : Int32)).2)) _
    show X _ _ 117 [some (.inr (.inr (some 21))), some (.inl v1), some (.inl v2), some (.inl v3), some (.inl v4), some (.inl v5), none] [.inl ((f_M_tell fu s (Int32.toInt64 (sA s 24 (Int32.toNatClampNeg v1))) (4 : Int32)).1)] (hp ((f_M_tell fu s (Int32.toInt64 (sA s 24 (Int32.toNatClampNeg v1))) (4 : Int32)).2)) _
    refine X_mask [true, true, true, true, false, true, true] ?_
    exact ct_M_write_117 hrec fu ((f_M_tell fu s (Int32.toInt64 (sA s 24 (Int32.toNatClampNeg v1))) (4 : Int32)).2) v1 v2 v3 v5 ((f_M_tell fu s (Int32.toInt64 (sA s 24 (Int32.toNatClampNeg v1))) (4 : Int32)).1) hw
def t_M_write_106 (rec : G_write) (fu : Nat) (s : St) (v1 : Int32) (v2 : Int32) (v3 : Int32) (v5 : Int32) (w0 : Int32) : Int32 × St := (t_M_write_107 rec fu s v1 v2 v3 w0 v5)
def w_M_write_106 (rec : G_write) (wrec : GW_write) (fu : Nat) (s : St) (v1 : Int32) (v2 : Int32) (v3 : Int32) (v5 : Int32) (w0 : Int32) : Prop := (w_M_write_107 rec wrec fu s v1 v2 v3 w0 v5)
theorem ct_M_write_106 {d : Nat} {rec : G_write} {wrec : GW_write} (hrec : hr_write (d) rec wrec) (fu : Nat) (s : St) (v1 : Int32) (v2 : Int32) (v3 : Int32) (v5 : Int32) (w0 : Int32) (hw : w_M_write_106 rec wrec fu s v1 v2 v3 v5 w0) : X m_M_write (d + 1) 106 [some (.inr (.inr (some 21))), some (.inl v1), some (.inl v2), some (.inl v3), none, some (.inl v5), none] [.inl w0] (hp s) (qIs (t_M_write_106 rec fu s v1 v2 v3 v5 w0)) := by
  unfold t_M_write_106
  unfold w_M_write_106 at hw
  refine X_run 1 (i1 := 107) (L1 := [some (.inr (.inr (some 21))), some (.inl v1), some (.inl v2), some (.inl v3), some (.inl w0), some (.inl v5), none]) (st1 := []) rfl ?_
  exact ct_M_write_107 hrec fu s v1 v2 v3 w0 v5 hw
def t_M_write_75 (rec : G_write) (fu : Nat) (s : St) (v2 : Int32) (v3 : Int32) (v4 : Int32) (v5 : Int32) : Int32 × St := (cond (cn1 .ne v4) (v4, s) (cond (cn2 .ne v3 (15 : Int32)) (v4, s) (rec s (Int64.toInt32 (sB s 26 (Int32.toNatClampNeg (v5 + (3 : Int32))))) (v2 + (1 : Int32)))))
def w_M_write_75 (rec : G_write) (wrec : GW_write) (fu : Nat) (s : St) (v2 : Int32) (v3 : Int32) (v4 : Int32) (v5 : Int32) : Prop := ((cn1 .ne v4) = true → True) ∧ ((cn1 .ne v4) = false → ((cn2 .ne v3 (15 : Int32)) = true → True) ∧ ((cn2 .ne v3 (15 : Int32)) = false → (vp_in (v5 + (3 : Int32)) 40001 ∧ (wrec s (Int64.toInt32 (sB s 26 (Int32.toNatClampNeg (v5 + (3 : Int32))))) (v2 + (1 : Int32)) ∧ True))))
theorem ct_M_write_75 {d : Nat} {rec : G_write} {wrec : GW_write} (hrec : hr_write (d) rec wrec) (fu : Nat) (s : St) (v2 : Int32) (v3 : Int32) (v4 : Int32) (v5 : Int32) (hw : w_M_write_75 rec wrec fu s v2 v3 v4 v5) : X m_M_write (d + 1) 75 [some (.inr (.inr (some 21))), none, some (.inl v2), some (.inl v3), some (.inl v4), some (.inl v5), none] [] (hp s) (qIs (t_M_write_75 rec fu s v2 v3 v4 v5)) := by
  unfold t_M_write_75
  unfold w_M_write_75 at hw
  refine X_run 2 (i1 := cond (cn1 .ne v4) 93 77) (L1 := [some (.inr (.inr (some 21))), none, some (.inl v2), some (.inl v3), some (.inl v4), some (.inl v5), none]) (st1 := []) rfl ?_
  refine X_brq (fun hb => ?_) (fun hb => ?_)
  · skip
    refine X_run 1 (i1 := 94) (L1 := [some (.inr (.inr (some 21))), none, some (.inl v2), some (.inl v3), some (.inl v4), some (.inl v5), none]) (st1 := [.inl v4]) rfl ?_
    exact X_iret rfl rfl qIs_i
  · have hw := hw.2 hb
    refine X_run 3 (i1 := cond (cn2 .ne v3 (15 : Int32)) 93 80) (L1 := [some (.inr (.inr (some 21))), none, some (.inl v2), some (.inl v3), some (.inl v4), some (.inl v5), none]) (st1 := []) rfl ?_
    refine X_brq (fun hb => ?_) (fun hb => ?_)
    · skip
      refine X_run 1 (i1 := 94) (L1 := [some (.inr (.inr (some 21))), none, some (.inl v2), some (.inl v3), some (.inl v4), some (.inl v5), none]) (st1 := [.inl v4]) rfl ?_
      exact X_iret rfl rfl qIs_i
    · have hw := hw.2 hb
      refine X_run 2 (i1 := 82) (L1 := [some (.inr (.inr (some 21))), none, some (.inl v2), some (.inl v3), some (.inl v4), some (.inl v5), none]) (st1 := [.inr (.inr (some 21)), .inr (.inr (some 21))]) rfl ?_
      refine X_gF (v := .inr (.inr (some 26))) rfl rfl rfl rfl ?_
      refine X_run 3 (i1 := 86) (L1 := [some (.inr (.inr (some 21))), none, some (.inl v2), some (.inl v3), some (.inl v4), some (.inl v5), none]) (st1 := [.inl (v5 + (3 : Int32)), .inr (.inr (some 26)), .inr (.inr (some 21))]) rfl ?_
      obtain ⟨hin, hw⟩ := hw
      refine X_aL rfl rfl hin ?_
      show X _ _ 87 [some (.inr (.inr (some 21))), none, some (.inl v2), some (.inl v3), some (.inl v4), some (.inl v5), none] [.inr (.inl (sB s 26 (Int32.toNatClampNeg (v5 + (3 : Int32))))), .inr (.inr (some 21))] (hp s) _
      refine X_run 4 (i1 := 91) (L1 := [some (.inr (.inr (some 21))), none, some (.inl v2), some (.inl v3), some (.inl v4), some (.inl v5), none]) (st1 := [.inl (v2 + (1 : Int32)), .inl (Int64.toInt32 (sB s 26 (Int32.toNatClampNeg (v5 + (3 : Int32))))), .inr (.inr (some 21))]) rfl ?_
      obtain ⟨hc, hw⟩ := hw
      refine X_callv m_M_write (As := [.inl (Int64.toInt32 (sB s 26 (Int32.toNatClampNeg (v5 + (3 : Int32))))), .inl (v2 + (1 : Int32))]) (st := []) ok_M_write rfl rfl rfl (hp_obj rfl) rfl (Nat.le_of_ble_eq_true rfl) (Nat.le_of_ble_eq_true rfl) (hrec s (Int64.toInt32 (sB s 26 (Int32.toNatClampNeg (v5 + (3 : Int32))))) (v2 + (1 : Int32)) hc) ?_
      rintro _ _ ⟨rfl, rfl⟩
      show X _ _ 92 [some (.inr (.inr (some 21))), none, some (.inl v2), some (.inl v3), some (.inl v4), some (.inl v5), none] [.inl ((rec s (Int64.toInt32 (sB s 26 (Int32.toNatClampNeg (v5 + (3 : Int32))))) (v2 + (1 : Int32))).1)] (hp ((rec s (Int64.toInt32 (sB s 26 (Int32.toNatClampNeg (v5 + (3 : Int32))))) (v2 + (1 : Int32))).2)) _
      refine X_run 1 (i1 := 94) (L1 := [some (.inr (.inr (some 21))), none, some (.inl v2), some (.inl v3), some (.inl v4), some (.inl v5), none]) (st1 := [.inl ((rec s (Int64.toInt32 (sB s 26 (Int32.toNatClampNeg (v5 + (3 : Int32))))) (v2 + (1 : Int32))).1)]) rfl ?_
      exact X_iret rfl rfl qIs_p
def t_M_write_74 (rec : G_write) (fu : Nat) (s : St) (v2 : Int32) (v3 : Int32) (v5 : Int32) (w0 : Int32) : Int32 × St := (t_M_write_75 rec fu s v2 v3 w0 v5)
def w_M_write_74 (rec : G_write) (wrec : GW_write) (fu : Nat) (s : St) (v2 : Int32) (v3 : Int32) (v5 : Int32) (w0 : Int32) : Prop := (w_M_write_75 rec wrec fu s v2 v3 w0 v5)
theorem ct_M_write_74 {d : Nat} {rec : G_write} {wrec : GW_write} (hrec : hr_write (d) rec wrec) (fu : Nat) (s : St) (v2 : Int32) (v3 : Int32) (v5 : Int32) (w0 : Int32) (hw : w_M_write_74 rec wrec fu s v2 v3 v5 w0) : X m_M_write (d + 1) 74 [some (.inr (.inr (some 21))), none, some (.inl v2), some (.inl v3), none, some (.inl v5), none] [.inl w0] (hp s) (qIs (t_M_write_74 rec fu s v2 v3 v5 w0)) := by
  unfold t_M_write_74
  unfold w_M_write_74 at hw
  refine X_run 1 (i1 := 75) (L1 := [some (.inr (.inr (some 21))), none, some (.inl v2), some (.inl v3), some (.inl w0), some (.inl v5), none]) (st1 := []) rfl ?_
  exact ct_M_write_75 hrec fu s v2 v3 w0 v5 hw
def t_M_write_57 (rec : G_write) (fu : Nat) (s : St) (v2 : Int32) (v3 : Int32) (v4 : Int32) (v5 : Int32) : Int32 × St := (cond (cn1 .ne v4) (t_M_write_75 rec fu s v2 v3 v4 v5) (cond (cn2 .ge v3 (16 : Int32)) (t_M_write_75 rec fu s v2 v3 v4 v5) (cond (cn2 .le v3 (13 : Int32)) (t_M_write_75 rec fu s v2 v3 v4 v5) (t_M_write_74 rec fu ((f_M_tell fu s (sB s 26 (Int32.toNatClampNeg (v5 + (2 : Int32)))) (4 : Int32)).2) v2 v3 v5 ((f_M_tell fu s (sB s 26 (Int32.toNatClampNeg (v5 + (2 : Int32)))) (4 : Int32)).1)))))
def w_M_write_57 (rec : G_write) (wrec : GW_write) (fu : Nat) (s : St) (v2 : Int32) (v3 : Int32) (v4 : Int32) (v5 : Int32) : Prop := ((cn1 .ne v4) = true → (w_M_write_75 rec wrec fu s v2 v3 v4 v5)) ∧ ((cn1 .ne v4) = false → ((cn2 .ge v3 (16 : Int32)) = true → (w_M_write_75 rec wrec fu s v2 v3 v4 v5)) ∧ ((cn2 .ge v3 (16 : Int32)) = false → ((cn2 .le v3 (13 : Int32)) = true → (w_M_write_75 rec wrec fu s v2 v3 v4 v5)) ∧ ((cn2 .le v3 (13 : Int32)) = false → (vp_in (v5 + (2 : Int32)) 40001 ∧ (w_M_tell fu s (sB s 26 (Int32.toNatClampNeg (v5 + (2 : Int32)))) (4 : Int32) ∧ (w_M_write_74 rec wrec fu ((f_M_tell fu s (sB s 26 (Int32.toNatClampNeg (v5 + (2 : Int32)))) (4 : Int32)).2) v2 v3 v5 ((f_M_tell fu s (sB s 26 (Int32.toNatClampNeg (v5 + (2 : Int32)))) (4 : Int32)).1)))))))
theorem ct_M_write_57 {d : Nat} {rec : G_write} {wrec : GW_write} (hrec : hr_write (d) rec wrec) (fu : Nat) (s : St) (v2 : Int32) (v3 : Int32) (v4 : Int32) (v5 : Int32) (hw : w_M_write_57 rec wrec fu s v2 v3 v4 v5) : X m_M_write (d + 1) 57 [some (.inr (.inr (some 21))), none, some (.inl v2), some (.inl v3), some (.inl v4), some (.inl v5), none] [] (hp s) (qIs (t_M_write_57 rec fu s v2 v3 v4 v5)) := by
  unfold t_M_write_57
  unfold w_M_write_57 at hw
  refine X_run 2 (i1 := cond (cn1 .ne v4) 75 59) (L1 := [some (.inr (.inr (some 21))), none, some (.inl v2), some (.inl v3), some (.inl v4), some (.inl v5), none]) (st1 := []) rfl ?_
  refine X_brq (fun hb => ?_) (fun hb => ?_)
  · have hw := hw.1 hb
    exact ct_M_write_75 hrec fu s v2 v3 v4 v5 hw
  · have hw := hw.2 hb
    refine X_run 3 (i1 := cond (cn2 .ge v3 (16 : Int32)) 75 62) (L1 := [some (.inr (.inr (some 21))), none, some (.inl v2), some (.inl v3), some (.inl v4), some (.inl v5), none]) (st1 := []) rfl ?_
    refine X_brq (fun hb => ?_) (fun hb => ?_)
    · have hw := hw.1 hb
      exact ct_M_write_75 hrec fu s v2 v3 v4 v5 hw
    · have hw := hw.2 hb
      refine X_run 3 (i1 := cond (cn2 .le v3 (13 : Int32)) 75 65) (L1 := [some (.inr (.inr (some 21))), none, some (.inl v2), some (.inl v3), some (.inl v4), some (.inl v5), none]) (st1 := []) rfl ?_
      refine X_brq (fun hb => ?_) (fun hb => ?_)
      · have hw := hw.1 hb
        exact ct_M_write_75 hrec fu s v2 v3 v4 v5 hw
      · have hw := hw.2 hb
        refine X_run 2 (i1 := 67) (L1 := [some (.inr (.inr (some 21))), none, some (.inl v2), some (.inl v3), some (.inl v4), some (.inl v5), none]) (st1 := [.inr (.inr (some 21)), .inr (.inr (some 21))]) rfl ?_
        refine X_gF (v := .inr (.inr (some 26))) rfl rfl rfl rfl ?_
        refine X_run 3 (i1 := 71) (L1 := [some (.inr (.inr (some 21))), none, some (.inl v2), some (.inl v3), some (.inl v4), some (.inl v5), none]) (st1 := [.inl (v5 + (2 : Int32)), .inr (.inr (some 26)), .inr (.inr (some 21))]) rfl ?_
        obtain ⟨hin, hw⟩ := hw
        refine X_aL rfl rfl hin ?_
        show X _ _ 72 [some (.inr (.inr (some 21))), none, some (.inl v2), some (.inl v3), some (.inl v4), some (.inl v5), none] [.inr (.inl (sB s 26 (Int32.toNatClampNeg (v5 + (2 : Int32))))), .inr (.inr (some 21))] (hp s) _
        refine X_run 1 (i1 := 73) (L1 := [some (.inr (.inr (some 21))), none, some (.inl v2), some (.inl v3), some (.inl v4), some (.inl v5), none]) (st1 := [.inl (4 : Int32), .inr (.inl (sB s 26 (Int32.toNatClampNeg (v5 + (2 : Int32))))), .inr (.inr (some 21))]) rfl ?_
        obtain ⟨hc, hw⟩ := hw
        refine X_callv m_M_tell (As := [.inr (.inl (sB s 26 (Int32.toNatClampNeg (v5 + (2 : Int32))))), .inl (4 : Int32)]) (st := []) ok_M_tell rfl rfl rfl (hp_obj rfl) rfl (Nat.le_of_ble_eq_true rfl) (Nat.le_of_ble_eq_true rfl) (c_M_tell (d := d) fu s (sB s 26 (Int32.toNatClampNeg (v5 + (2 : Int32)))) (4 : Int32) hc) ?_
        rintro _ _ ⟨rfl, rfl⟩
        show X _ _ 74 [some (.inr (.inr (some 21))), none, some (.inl v2), some (.inl v3), some (.inl v4), some (.inl v5), none] [.inl ((f_M_tell fu s (sB s 26 (Int32.toNatClampNeg (v5 + (2 : Int32)))) (4 : Int32)).1)] (hp ((f_M_tell fu s (sB s 26 (Int32.toNatClampNeg (v5 + (2 : Int32)))) (4 : Int32)).2)) _
        show X _ _ 74 [some (.inr (.inr (some 21))), none, some (.inl v2), some (.inl v3), some (.inl v4), some (.inl v5), none] [.inl ((f_M_tell fu s (sB s 26 (Int32.toNatClampNeg (v5 + (2 : Int32)))) (4 : Int32)).1)] (hp ((f_M_tell fu s (sB s 26 (Int32.toNatClampNeg (v5 + (2 : Int32)))) (4 : Int32)).2)) _
        refine X_mask [true, true, true, true, false, true, true] ?_
        exact ct_M_write_74 hrec fu ((f_M_tell fu s (sB s 26 (Int32.toNatClampNeg (v5 + (2 : Int32)))) (4 : Int32)).2) v2 v3 v5 ((f_M_tell fu s (sB s 26 (Int32.toNatClampNeg (v5 + (2 : Int32)))) (4 : Int32)).1) hw
def t_M_write_56 (rec : G_write) (fu : Nat) (s : St) (v2 : Int32) (v3 : Int32) (v5 : Int32) (w0 : Int32) : Int32 × St := (t_M_write_57 rec fu s v2 v3 w0 v5)
def w_M_write_56 (rec : G_write) (wrec : GW_write) (fu : Nat) (s : St) (v2 : Int32) (v3 : Int32) (v5 : Int32) (w0 : Int32) : Prop := (w_M_write_57 rec wrec fu s v2 v3 w0 v5)
theorem ct_M_write_56 {d : Nat} {rec : G_write} {wrec : GW_write} (hrec : hr_write (d) rec wrec) (fu : Nat) (s : St) (v2 : Int32) (v3 : Int32) (v5 : Int32) (w0 : Int32) (hw : w_M_write_56 rec wrec fu s v2 v3 v5 w0) : X m_M_write (d + 1) 56 [some (.inr (.inr (some 21))), none, some (.inl v2), some (.inl v3), none, some (.inl v5), none] [.inl w0] (hp s) (qIs (t_M_write_56 rec fu s v2 v3 v5 w0)) := by
  unfold t_M_write_56
  unfold w_M_write_56 at hw
  refine X_run 1 (i1 := 57) (L1 := [some (.inr (.inr (some 21))), none, some (.inl v2), some (.inl v3), some (.inl w0), some (.inl v5), none]) (st1 := []) rfl ?_
  exact ct_M_write_57 hrec fu s v2 v3 w0 v5 hw
def t_M_write_41 (rec : G_write) (fu : Nat) (s : St) (v2 : Int32) (v3 : Int32) (v5 : Int32) (w0 : Int32) : Int32 × St := (cond (cn1 .ne w0) (t_M_write_57 rec fu s v2 v3 w0 v5) (cond (cn2 .ge v3 (16 : Int32)) (t_M_write_57 rec fu s v2 v3 w0 v5) (t_M_write_56 rec fu ((f_M_tell fu s (sB s 26 (Int32.toNatClampNeg (v5 + (1 : Int32)))) (8 : Int32)).2) v2 v3 v5 ((f_M_tell fu s (sB s 26 (Int32.toNatClampNeg (v5 + (1 : Int32)))) (8 : Int32)).1))))
def w_M_write_41 (rec : G_write) (wrec : GW_write) (fu : Nat) (s : St) (v2 : Int32) (v3 : Int32) (v5 : Int32) (w0 : Int32) : Prop := ((cn1 .ne w0) = true → (w_M_write_57 rec wrec fu s v2 v3 w0 v5)) ∧ ((cn1 .ne w0) = false → ((cn2 .ge v3 (16 : Int32)) = true → (w_M_write_57 rec wrec fu s v2 v3 w0 v5)) ∧ ((cn2 .ge v3 (16 : Int32)) = false → (vp_in (v5 + (1 : Int32)) 40001 ∧ (w_M_tell fu s (sB s 26 (Int32.toNatClampNeg (v5 + (1 : Int32)))) (8 : Int32) ∧ (w_M_write_56 rec wrec fu ((f_M_tell fu s (sB s 26 (Int32.toNatClampNeg (v5 + (1 : Int32)))) (8 : Int32)).2) v2 v3 v5 ((f_M_tell fu s (sB s 26 (Int32.toNatClampNeg (v5 + (1 : Int32)))) (8 : Int32)).1))))))
theorem ct_M_write_41 {d : Nat} {rec : G_write} {wrec : GW_write} (hrec : hr_write (d) rec wrec) (fu : Nat) (s : St) (v2 : Int32) (v3 : Int32) (v5 : Int32) (w0 : Int32) (hw : w_M_write_41 rec wrec fu s v2 v3 v5 w0) : X m_M_write (d + 1) 41 [some (.inr (.inr (some 21))), none, some (.inl v2), some (.inl v3), none, some (.inl v5), none] [.inl w0] (hp s) (qIs (t_M_write_41 rec fu s v2 v3 v5 w0)) := by
  unfold t_M_write_41
  unfold w_M_write_41 at hw
  refine X_run 3 (i1 := cond (cn1 .ne w0) 57 44) (L1 := [some (.inr (.inr (some 21))), none, some (.inl v2), some (.inl v3), some (.inl w0), some (.inl v5), none]) (st1 := []) rfl ?_
  refine X_brq (fun hb => ?_) (fun hb => ?_)
  · have hw := hw.1 hb
    exact ct_M_write_57 hrec fu s v2 v3 w0 v5 hw
  · have hw := hw.2 hb
    refine X_run 3 (i1 := cond (cn2 .ge v3 (16 : Int32)) 57 47) (L1 := [some (.inr (.inr (some 21))), none, some (.inl v2), some (.inl v3), some (.inl w0), some (.inl v5), none]) (st1 := []) rfl ?_
    refine X_brq (fun hb => ?_) (fun hb => ?_)
    · have hw := hw.1 hb
      exact ct_M_write_57 hrec fu s v2 v3 w0 v5 hw
    · have hw := hw.2 hb
      refine X_run 2 (i1 := 49) (L1 := [some (.inr (.inr (some 21))), none, some (.inl v2), some (.inl v3), some (.inl w0), some (.inl v5), none]) (st1 := [.inr (.inr (some 21)), .inr (.inr (some 21))]) rfl ?_
      refine X_gF (v := .inr (.inr (some 26))) rfl rfl rfl rfl ?_
      refine X_run 3 (i1 := 53) (L1 := [some (.inr (.inr (some 21))), none, some (.inl v2), some (.inl v3), some (.inl w0), some (.inl v5), none]) (st1 := [.inl (v5 + (1 : Int32)), .inr (.inr (some 26)), .inr (.inr (some 21))]) rfl ?_
      obtain ⟨hin, hw⟩ := hw
      refine X_aL rfl rfl hin ?_
      show X _ _ 54 [some (.inr (.inr (some 21))), none, some (.inl v2), some (.inl v3), some (.inl w0), some (.inl v5), none] [.inr (.inl (sB s 26 (Int32.toNatClampNeg (v5 + (1 : Int32))))), .inr (.inr (some 21))] (hp s) _
      refine X_run 1 (i1 := 55) (L1 := [some (.inr (.inr (some 21))), none, some (.inl v2), some (.inl v3), some (.inl w0), some (.inl v5), none]) (st1 := [.inl (8 : Int32), .inr (.inl (sB s 26 (Int32.toNatClampNeg (v5 + (1 : Int32))))), .inr (.inr (some 21))]) rfl ?_
      obtain ⟨hc, hw⟩ := hw
      refine X_callv m_M_tell (As := [.inr (.inl (sB s 26 (Int32.toNatClampNeg (v5 + (1 : Int32))))), .inl (8 : Int32)]) (st := []) ok_M_tell rfl rfl rfl (hp_obj rfl) rfl (Nat.le_of_ble_eq_true rfl) (Nat.le_of_ble_eq_true rfl) (c_M_tell (d := d) fu s (sB s 26 (Int32.toNatClampNeg (v5 + (1 : Int32)))) (8 : Int32) hc) ?_
      rintro _ _ ⟨rfl, rfl⟩
      show X _ _ 56 [some (.inr (.inr (some 21))), none, some (.inl v2), some (.inl v3), some (.inl w0), some (.inl v5), none] [.inl ((f_M_tell fu s (sB s 26 (Int32.toNatClampNeg (v5 + (1 : Int32)))) (8 : Int32)).1)] (hp ((f_M_tell fu s (sB s 26 (Int32.toNatClampNeg (v5 + (1 : Int32)))) (8 : Int32)).2)) _
      show X _ _ 56 [some (.inr (.inr (some 21))), none, some (.inl v2), some (.inl v3), some (.inl w0), some (.inl v5), none] [.inl ((f_M_tell fu s (sB s 26 (Int32.toNatClampNeg (v5 + (1 : Int32)))) (8 : Int32)).1)] (hp ((f_M_tell fu s (sB s 26 (Int32.toNatClampNeg (v5 + (1 : Int32)))) (8 : Int32)).2)) _
      refine X_mask [true, true, true, true, false, true, true] ?_
      exact ct_M_write_56 hrec fu ((f_M_tell fu s (sB s 26 (Int32.toNatClampNeg (v5 + (1 : Int32)))) (8 : Int32)).2) v2 v3 v5 ((f_M_tell fu s (sB s 26 (Int32.toNatClampNeg (v5 + (1 : Int32)))) (8 : Int32)).1) hw
def t_M_write_19 (rec : G_write) (fu : Nat) (s : St) (v1 : Int32) (v2 : Int32) (v3 : Int32) (w0 : Int32) : Int32 × St := (cond (cn1 .gt w0) (w0, s) (cond (cn1 .ne v1) (cond (cn2 .lt v3 (11 : Int32)) (cond (cn2 .ne v3 (10 : Int32)) (t_M_write_107 rec fu s v1 v2 v3 w0 (sA s 23 (Int32.toNatClampNeg v1))) (t_M_write_106 rec fu ((f_M_tell fu s (Int32.toInt64 (sA s 25 (Int32.toNatClampNeg v1))) (1 : Int32)).2) v1 v2 v3 (sA s 23 (Int32.toNatClampNeg v1)) ((f_M_tell fu s (Int32.toInt64 (sA s 25 (Int32.toNatClampNeg v1))) (1 : Int32)).1))) (t_M_write_41 rec fu ((f_M_tell fu s (sB s 26 (Int32.toNatClampNeg (sA s 23 (Int32.toNatClampNeg v1)))) (4 : Int32)).2) v2 v3 (sA s 23 (Int32.toNatClampNeg v1)) ((f_M_tell fu s (sB s 26 (Int32.toNatClampNeg (sA s 23 (Int32.toNatClampNeg v1)))) (4 : Int32)).1))) (w0, s)))
def w_M_write_19 (rec : G_write) (wrec : GW_write) (fu : Nat) (s : St) (v1 : Int32) (v2 : Int32) (v3 : Int32) (w0 : Int32) : Prop := ((cn1 .gt w0) = true → True) ∧ ((cn1 .gt w0) = false → ((cn1 .ne v1) = true → (vp_in v1 40001 ∧ ((cn2 .lt v3 (11 : Int32)) = true → ((cn2 .ne v3 (10 : Int32)) = true → (w_M_write_107 rec wrec fu s v1 v2 v3 w0 (sA s 23 (Int32.toNatClampNeg v1)))) ∧ ((cn2 .ne v3 (10 : Int32)) = false → (vp_in v1 40001 ∧ (w_M_tell fu s (Int32.toInt64 (sA s 25 (Int32.toNatClampNeg v1))) (1 : Int32) ∧ (w_M_write_106 rec wrec fu ((f_M_tell fu s (Int32.toInt64 (sA s 25 (Int32.toNatClampNeg v1))) (1 : Int32)).2) v1 v2 v3 (sA s 23 (Int32.toNatClampNeg v1)) ((f_M_tell fu s (Int32.toInt64 (sA s 25 (Int32.toNatClampNeg v1))) (1 : Int32)).1)))))) ∧ ((cn2 .lt v3 (11 : Int32)) = false → (vp_in (sA s 23 (Int32.toNatClampNeg v1)) 40001 ∧ (w_M_tell fu s (sB s 26 (Int32.toNatClampNeg (sA s 23 (Int32.toNatClampNeg v1)))) (4 : Int32) ∧ (w_M_write_41 rec wrec fu ((f_M_tell fu s (sB s 26 (Int32.toNatClampNeg (sA s 23 (Int32.toNatClampNeg v1)))) (4 : Int32)).2) v2 v3 (sA s 23 (Int32.toNatClampNeg v1)) ((f_M_tell fu s (sB s 26 (Int32.toNatClampNeg (sA s 23 (Int32.toNatClampNeg v1)))) (4 : Int32)).1))))))) ∧ ((cn1 .ne v1) = false → True))
theorem ct_M_write_19 {d : Nat} {rec : G_write} {wrec : GW_write} (hrec : hr_write (d) rec wrec) (fu : Nat) (s : St) (v1 : Int32) (v2 : Int32) (v3 : Int32) (w0 : Int32) (hw : w_M_write_19 rec wrec fu s v1 v2 v3 w0) : X m_M_write (d + 1) 19 [some (.inr (.inr (some 21))), some (.inl v1), some (.inl v2), some (.inl v3), none, none, none] [.inl w0] (hp s) (qIs (t_M_write_19 rec fu s v1 v2 v3 w0)) := by
  unfold t_M_write_19
  unfold w_M_write_19 at hw
  refine X_run 3 (i1 := cond (cn1 .gt w0) 24 22) (L1 := [some (.inr (.inr (some 21))), some (.inl v1), some (.inl v2), some (.inl v3), some (.inl w0), none, none]) (st1 := []) rfl ?_
  refine X_brq (fun hb => ?_) (fun hb => ?_)
  · skip
    refine X_run 1 (i1 := 25) (L1 := [some (.inr (.inr (some 21))), some (.inl v1), some (.inl v2), some (.inl v3), some (.inl w0), none, none]) (st1 := [.inl w0]) rfl ?_
    exact X_iret rfl rfl qIs_i
  · have hw := hw.2 hb
    refine X_run 2 (i1 := cond (cn1 .ne v1) 26 24) (L1 := [some (.inr (.inr (some 21))), some (.inl v1), some (.inl v2), some (.inl v3), some (.inl w0), none, none]) (st1 := []) rfl ?_
    refine X_brq (fun hb => ?_) (fun hb => ?_)
    · have hw := hw.1 hb
      refine X_run 1 (i1 := 27) (L1 := [some (.inr (.inr (some 21))), some (.inl v1), some (.inl v2), some (.inl v3), some (.inl w0), none, none]) (st1 := [.inr (.inr (some 21))]) rfl ?_
      refine X_gF (v := .inr (.inr (some 23))) rfl rfl rfl rfl ?_
      refine X_run 1 (i1 := 29) (L1 := [some (.inr (.inr (some 21))), some (.inl v1), some (.inl v2), some (.inl v3), some (.inl w0), none, none]) (st1 := [.inl v1, .inr (.inr (some 23))]) rfl ?_
      obtain ⟨hin, hw⟩ := hw
      refine X_aI rfl rfl hin ?_
      show X _ _ 30 [some (.inr (.inr (some 21))), some (.inl v1), some (.inl v2), some (.inl v3), some (.inl w0), none, none] [.inl (sA s 23 (Int32.toNatClampNeg v1))] (hp s) _
      refine X_run 4 (i1 := cond (cn2 .lt v3 (11 : Int32)) 95 34) (L1 := [some (.inr (.inr (some 21))), some (.inl v1), some (.inl v2), some (.inl v3), some (.inl w0), some (.inl (sA s 23 (Int32.toNatClampNeg v1))), none]) (st1 := []) rfl ?_
      refine X_brq (fun hb => ?_) (fun hb => ?_)
      · have hw := hw.1 hb
        refine X_run 3 (i1 := cond (cn2 .ne v3 (10 : Int32)) 107 98) (L1 := [some (.inr (.inr (some 21))), some (.inl v1), some (.inl v2), some (.inl v3), some (.inl w0), some (.inl (sA s 23 (Int32.toNatClampNeg v1))), none]) (st1 := []) rfl ?_
        refine X_brq (fun hb => ?_) (fun hb => ?_)
        · have hw := hw.1 hb
          exact ct_M_write_107 hrec fu s v1 v2 v3 w0 (sA s 23 (Int32.toNatClampNeg v1)) hw
        · have hw := hw.2 hb
          refine X_run 2 (i1 := 100) (L1 := [some (.inr (.inr (some 21))), some (.inl v1), some (.inl v2), some (.inl v3), some (.inl w0), some (.inl (sA s 23 (Int32.toNatClampNeg v1))), none]) (st1 := [.inr (.inr (some 21)), .inr (.inr (some 21))]) rfl ?_
          refine X_gF (v := .inr (.inr (some 25))) rfl rfl rfl rfl ?_
          refine X_run 1 (i1 := 102) (L1 := [some (.inr (.inr (some 21))), some (.inl v1), some (.inl v2), some (.inl v3), some (.inl w0), some (.inl (sA s 23 (Int32.toNatClampNeg v1))), none]) (st1 := [.inl v1, .inr (.inr (some 25)), .inr (.inr (some 21))]) rfl ?_
          obtain ⟨hin, hw⟩ := hw
          refine X_aI rfl rfl hin ?_
          show X _ _ 103 [some (.inr (.inr (some 21))), some (.inl v1), some (.inl v2), some (.inl v3), some (.inl w0), some (.inl (sA s 23 (Int32.toNatClampNeg v1))), none] [.inl (sA s 25 (Int32.toNatClampNeg v1)), .inr (.inr (some 21))] (hp s) _
          refine X_run 2 (i1 := 105) (L1 := [some (.inr (.inr (some 21))), some (.inl v1), some (.inl v2), some (.inl v3), some (.inl w0), some (.inl (sA s 23 (Int32.toNatClampNeg v1))), none]) (st1 := [.inl (1 : Int32), .inr (.inl (Int32.toInt64 (sA s 25 (Int32.toNatClampNeg v1)))), .inr (.inr (some 21))]) rfl ?_
          obtain ⟨hc, hw⟩ := hw
          refine X_callv m_M_tell (As := [.inr (.inl (Int32.toInt64 (sA s 25 (Int32.toNatClampNeg v1)))), .inl (1 : Int32)]) (st := []) ok_M_tell rfl rfl rfl (hp_obj rfl) rfl (Nat.le_of_ble_eq_true rfl) (Nat.le_of_ble_eq_true rfl) (c_M_tell (d := d) fu s (Int32.toInt64 (sA s 25 (Int32.toNatClampNeg v1))) (1 : Int32) hc) ?_
          rintro _ _ ⟨rfl, rfl⟩
          show X _ _ 106 [some (.inr (.inr (some 21))), some (.inl v1), some (.inl v2), some (.inl v3), some (.inl w0), some (.inl (sA s 23 (Int32.toNatClampNeg v1))), none] [.inl ((f_M_tell fu s (Int32.toInt64 (sA s 25 (Int32.toNatClampNeg v1))) (1 : Int32)).1)] (hp ((f_M_tell fu s (Int32.toInt64 (sA s 25 (Int32.toNatClampNeg v1))) (1 : Int32)).2)) _
          show X _ _ 106 [some (.inr (.inr (some 21))), some (.inl v1), some (.inl v2), some (.inl v3), some (.inl w0), some (.inl (sA s 23 (Int32.toNatClampNeg v1))), none] [.inl ((f_M_tell fu s (Int32.toInt64 (sA s 25 (Int32.toNatClampNeg v1))) (1 : Int32)).1)] (hp ((f_M_tell fu s (Int32.toInt64 (sA s 25 (Int32.toNatClampNeg v1))) (1 : Int32)).2)) _
          refine X_mask [true, true, true, true, false, true, true] ?_
          exact ct_M_write_106 hrec fu ((f_M_tell fu s (Int32.toInt64 (sA s 25 (Int32.toNatClampNeg v1))) (1 : Int32)).2) v1 v2 v3 (sA s 23 (Int32.toNatClampNeg v1)) ((f_M_tell fu s (Int32.toInt64 (sA s 25 (Int32.toNatClampNeg v1))) (1 : Int32)).1) hw
      · have hw := hw.2 hb
        refine X_run 2 (i1 := 36) (L1 := [some (.inr (.inr (some 21))), some (.inl v1), some (.inl v2), some (.inl v3), some (.inl w0), some (.inl (sA s 23 (Int32.toNatClampNeg v1))), none]) (st1 := [.inr (.inr (some 21)), .inr (.inr (some 21))]) rfl ?_
        refine X_gF (v := .inr (.inr (some 26))) rfl rfl rfl rfl ?_
        refine X_run 1 (i1 := 38) (L1 := [some (.inr (.inr (some 21))), some (.inl v1), some (.inl v2), some (.inl v3), some (.inl w0), some (.inl (sA s 23 (Int32.toNatClampNeg v1))), none]) (st1 := [.inl (sA s 23 (Int32.toNatClampNeg v1)), .inr (.inr (some 26)), .inr (.inr (some 21))]) rfl ?_
        obtain ⟨hin, hw⟩ := hw
        refine X_aL rfl rfl hin ?_
        show X _ _ 39 [some (.inr (.inr (some 21))), some (.inl v1), some (.inl v2), some (.inl v3), some (.inl w0), some (.inl (sA s 23 (Int32.toNatClampNeg v1))), none] [.inr (.inl (sB s 26 (Int32.toNatClampNeg (sA s 23 (Int32.toNatClampNeg v1))))), .inr (.inr (some 21))] (hp s) _
        refine X_run 1 (i1 := 40) (L1 := [some (.inr (.inr (some 21))), some (.inl v1), some (.inl v2), some (.inl v3), some (.inl w0), some (.inl (sA s 23 (Int32.toNatClampNeg v1))), none]) (st1 := [.inl (4 : Int32), .inr (.inl (sB s 26 (Int32.toNatClampNeg (sA s 23 (Int32.toNatClampNeg v1))))), .inr (.inr (some 21))]) rfl ?_
        obtain ⟨hc, hw⟩ := hw
        refine X_callv m_M_tell (As := [.inr (.inl (sB s 26 (Int32.toNatClampNeg (sA s 23 (Int32.toNatClampNeg v1))))), .inl (4 : Int32)]) (st := []) ok_M_tell rfl rfl rfl (hp_obj rfl) rfl (Nat.le_of_ble_eq_true rfl) (Nat.le_of_ble_eq_true rfl) (c_M_tell (d := d) fu s (sB s 26 (Int32.toNatClampNeg (sA s 23 (Int32.toNatClampNeg v1)))) (4 : Int32) hc) ?_
        rintro _ _ ⟨rfl, rfl⟩
        show X _ _ 41 [some (.inr (.inr (some 21))), some (.inl v1), some (.inl v2), some (.inl v3), some (.inl w0), some (.inl (sA s 23 (Int32.toNatClampNeg v1))), none] [.inl ((f_M_tell fu s (sB s 26 (Int32.toNatClampNeg (sA s 23 (Int32.toNatClampNeg v1)))) (4 : Int32)).1)] (hp ((f_M_tell fu s (sB s 26 (Int32.toNatClampNeg (sA s 23 (Int32.toNatClampNeg v1)))) (4 : Int32)).2)) _
        show X _ _ 41 [some (.inr (.inr (some 21))), some (.inl v1), some (.inl v2), some (.inl v3), some (.inl w0), some (.inl (sA s 23 (Int32.toNatClampNeg v1))), none] [.inl ((f_M_tell fu s (sB s 26 (Int32.toNatClampNeg (sA s 23 (Int32.toNatClampNeg v1)))) (4 : Int32)).1)] (hp ((f_M_tell fu s (sB s 26 (Int32.toNatClampNeg (sA s 23 (Int32.toNatClampNeg v1)))) (4 : Int32)).2)) _
        refine X_mask [true, false, true, true, false, true, true] ?_
        exact ct_M_write_41 hrec fu ((f_M_tell fu s (sB s 26 (Int32.toNatClampNeg (sA s 23 (Int32.toNatClampNeg v1)))) (4 : Int32)).2) v2 v3 (sA s 23 (Int32.toNatClampNeg v1)) ((f_M_tell fu s (sB s 26 (Int32.toNatClampNeg (sA s 23 (Int32.toNatClampNeg v1)))) (4 : Int32)).1) hw
    · skip
      refine X_run 1 (i1 := 25) (L1 := [some (.inr (.inr (some 21))), some (.inl v1), some (.inl v2), some (.inl v3), some (.inl w0), none, none]) (st1 := [.inl w0]) rfl ?_
      exact X_iret rfl rfl qIs_i
def t_M_write_13 (rec : G_write) (fu : Nat) (s : St) (v1 : Int32) (v2 : Int32) (w0 : Int32) : Int32 × St := (t_M_write_19 rec fu ((f_M_tell fu s (Int32.toInt64 w0) (1 : Int32)).2) v1 v2 w0 ((f_M_tell fu s (Int32.toInt64 w0) (1 : Int32)).1))
def w_M_write_13 (rec : G_write) (wrec : GW_write) (fu : Nat) (s : St) (v1 : Int32) (v2 : Int32) (w0 : Int32) : Prop := (w_M_tell fu s (Int32.toInt64 w0) (1 : Int32) ∧ (w_M_write_19 rec wrec fu ((f_M_tell fu s (Int32.toInt64 w0) (1 : Int32)).2) v1 v2 w0 ((f_M_tell fu s (Int32.toInt64 w0) (1 : Int32)).1)))
theorem ct_M_write_13 {d : Nat} {rec : G_write} {wrec : GW_write} (hrec : hr_write (d) rec wrec) (fu : Nat) (s : St) (v1 : Int32) (v2 : Int32) (w0 : Int32) (hw : w_M_write_13 rec wrec fu s v1 v2 w0) : X m_M_write (d + 1) 13 [some (.inr (.inr (some 21))), some (.inl v1), some (.inl v2), none, none, none, none] [.inl w0] (hp s) (qIs (t_M_write_13 rec fu s v1 v2 w0)) := by
  unfold t_M_write_13
  unfold w_M_write_13 at hw
  refine X_run 5 (i1 := 18) (L1 := [some (.inr (.inr (some 21))), some (.inl v1), some (.inl v2), some (.inl w0), none, none, none]) (st1 := [.inl (1 : Int32), .inr (.inl (Int32.toInt64 w0)), .inr (.inr (some 21))]) rfl ?_
  obtain ⟨hc, hw⟩ := hw
  refine X_callv m_M_tell (As := [.inr (.inl (Int32.toInt64 w0)), .inl (1 : Int32)]) (st := []) ok_M_tell rfl rfl rfl (hp_obj rfl) rfl (Nat.le_of_ble_eq_true rfl) (Nat.le_of_ble_eq_true rfl) (c_M_tell (d := d) fu s (Int32.toInt64 w0) (1 : Int32) hc) ?_
  rintro _ _ ⟨rfl, rfl⟩
  show X _ _ 19 [some (.inr (.inr (some 21))), some (.inl v1), some (.inl v2), some (.inl w0), none, none, none] [.inl ((f_M_tell fu s (Int32.toInt64 w0) (1 : Int32)).1)] (hp ((f_M_tell fu s (Int32.toInt64 w0) (1 : Int32)).2)) _
  show X _ _ 19 [some (.inr (.inr (some 21))), some (.inl v1), some (.inl v2), some (.inl w0), none, none, none] [.inl ((f_M_tell fu s (Int32.toInt64 w0) (1 : Int32)).1)] (hp ((f_M_tell fu s (Int32.toInt64 w0) (1 : Int32)).2)) _
  exact ct_M_write_19 hrec fu ((f_M_tell fu s (Int32.toInt64 w0) (1 : Int32)).2) v1 v2 w0 ((f_M_tell fu s (Int32.toInt64 w0) (1 : Int32)).1) hw
def f_M_write (rec : G_write) (fu : Nat) (s : St) (a0 : Int32) (a1 : Int32) : Int32 × St := (cond (cn2 .le a1 (30 : Int32)) (cond (cn1 .ne a0) (t_M_write_13 rec fu s a0 a1 (sA s 22 (Int32.toNatClampNeg a0))) (t_M_write_13 rec fu s a0 a1 (0 : Int32))) ((8 : Int32), s))
def w_M_write (rec : G_write) (wrec : GW_write) (fu : Nat) (s : St) (a0 : Int32) (a1 : Int32) : Prop := ((cn2 .le a1 (30 : Int32)) = true → ((cn1 .ne a0) = true → (vp_in a0 40001 ∧ (w_M_write_13 rec wrec fu s a0 a1 (sA s 22 (Int32.toNatClampNeg a0))))) ∧ ((cn1 .ne a0) = false → (w_M_write_13 rec wrec fu s a0 a1 (0 : Int32)))) ∧ ((cn2 .le a1 (30 : Int32)) = false → True)
theorem c_M_write {d : Nat} {rec : G_write} {wrec : GW_write} (hrec : hr_write (d) rec wrec) (fu : Nat) (s : St) (a0 : Int32) (a1 : Int32) (hw : w_M_write rec wrec fu s a0 a1) : X m_M_write (d + 1) 0 (entL 7 [.inr (.inr (some 21)), .inl a0, .inl a1]) [] (hp s) (qIs (f_M_write rec fu s a0 a1)) := by
  unfold f_M_write
  unfold w_M_write at hw
  refine X_run 3 (i1 := cond (cn2 .le a1 (30 : Int32)) 5 3) (L1 := [some (.inr (.inr (some 21))), some (.inl a0), some (.inl a1), none, none, none, none]) (st1 := []) rfl ?_
  refine X_brq (fun hb => ?_) (fun hb => ?_)
  · have hw := hw.1 hb
    refine X_run 2 (i1 := cond (cn1 .ne a0) 9 7) (L1 := [some (.inr (.inr (some 21))), some (.inl a0), some (.inl a1), none, none, none, none]) (st1 := []) rfl ?_
    refine X_brq (fun hb => ?_) (fun hb => ?_)
    · have hw := hw.1 hb
      refine X_run 1 (i1 := 10) (L1 := [some (.inr (.inr (some 21))), some (.inl a0), some (.inl a1), none, none, none, none]) (st1 := [.inr (.inr (some 21))]) rfl ?_
      refine X_gF (v := .inr (.inr (some 22))) rfl rfl rfl rfl ?_
      refine X_run 1 (i1 := 12) (L1 := [some (.inr (.inr (some 21))), some (.inl a0), some (.inl a1), none, none, none, none]) (st1 := [.inl a0, .inr (.inr (some 22))]) rfl ?_
      obtain ⟨hin, hw⟩ := hw
      refine X_aI rfl rfl hin ?_
      show X _ _ 13 [some (.inr (.inr (some 21))), some (.inl a0), some (.inl a1), none, none, none, none] [.inl (sA s 22 (Int32.toNatClampNeg a0))] (hp s) _
      show X _ _ 13 [some (.inr (.inr (some 21))), some (.inl a0), some (.inl a1), none, none, none, none] [.inl (sA s 22 (Int32.toNatClampNeg a0))] (hp s) _
      exact ct_M_write_13 hrec fu s a0 a1 (sA s 22 (Int32.toNatClampNeg a0)) hw
    · have hw := hw.2 hb
      refine X_run 2 (i1 := 13) (L1 := [some (.inr (.inr (some 21))), some (.inl a0), some (.inl a1), none, none, none, none]) (st1 := [.inl (0 : Int32)]) rfl ?_
      exact ct_M_write_13 hrec fu s a0 a1 (0 : Int32) hw
  · skip
    refine X_run 1 (i1 := 4) (L1 := [some (.inr (.inr (some 21))), some (.inl a0), some (.inl a1), none, none, none, none]) (st1 := [.inl (8 : Int32)]) rfl ?_
    exact X_iret rfl rfl qIs_i
def F_write (fu : Nat) : Nat → G_write
  | 0 => fun s _ _ => (0, s)
  | n + 1 => fun s a0 a1 => f_M_write (F_write fu n) fu s a0 a1
def W_write (fu : Nat) : Nat → GW_write
  | 0 => fun _ _ _ => False
  | n + 1 => fun s a0 a1 => w_M_write (F_write fu n) (W_write fu n) fu s a0 a1
theorem cF_write (fu : Nat) : ∀ (n d : Nat), hr_write (d + n + 1) (F_write fu n) (W_write fu n)
  | 0, d => fun _ _ _ hw => hw.elim
  | n + 1, d => by
    have hrec : hr_write (d + 1 + n + 1 - 1) (F_write fu n) (W_write fu n) := by
      have h := cF_write fu n d
      rw [show d + 1 + n + 1 - 1 = d + n + 1 by omega]; exact h
    have e : d + (n + 1) + 1 = (d + 1 + n) + 1 := by omega
    rw [e]
    exact (fun s a0 a1 hw => c_M_write (d := d + 1 + n) hrec fu s a0 a1 hw)
def t_M_save_26 (fu : Nat) (s : St) (v2 : Int32) : Int32 × St := (cond (cn1 .le v2) (sI s 21 24, s) ((-1 : Int32) - v2, s))
def w_M_save_26 (fu : Nat) (s : St) (v2 : Int32) : Prop := True
theorem ct_M_save_26 {d : Nat} (fu : Nat) (s : St) (v2 : Int32) (hw : w_M_save_26 fu s v2) : X m_M_save (d + 34) 26 [some (.inr (.inr (some 21))), none, some (.inl v2)] [] (hp s) (qIs (t_M_save_26 fu s v2)) := by
  unfold t_M_save_26
  unfold w_M_save_26 at hw
  refine X_run 2 (i1 := cond (cn1 .le v2) 32 28) (L1 := [some (.inr (.inr (some 21))), none, some (.inl v2)]) (st1 := []) rfl ?_
  refine X_brq (fun hb => ?_) (fun hb => ?_)
  · skip
    refine X_run 1 (i1 := 33) (L1 := [some (.inr (.inr (some 21))), none, some (.inl v2)]) (st1 := [.inr (.inr (some 21))]) rfl ?_
    refine X_gF (v := .inl (sI s 21 24)) rfl rfl rfl rfl ?_
    exact X_iret rfl rfl qIs_i
  · skip
    refine X_run 4 (i1 := 34) (L1 := [some (.inr (.inr (some 21))), none, some (.inl v2)]) (st1 := [.inl ((-1 : Int32) - v2)]) rfl ?_
    exact X_iret rfl rfl qIs_i
def t_M_save_20 (fu : Nat) (s : St) (w0 : Int32) : Int32 × St := (cond (cn1 .le w0) (t_M_save_26 fu s w0) (t_M_save_26 fu (pI s 21 24 (0 : Int32)) w0))
def w_M_save_20 (fu : Nat) (s : St) (w0 : Int32) : Prop := ((cn1 .le w0) = true → (w_M_save_26 fu s w0)) ∧ ((cn1 .le w0) = false → (w_M_save_26 fu (pI s 21 24 (0 : Int32)) w0))
theorem ct_M_save_20 {d : Nat} (fu : Nat) (s : St) (w0 : Int32) (hw : w_M_save_20 fu s w0) : X m_M_save (d + 34) 20 [some (.inr (.inr (some 21))), none, none] [.inl w0] (hp s) (qIs (t_M_save_20 fu s w0)) := by
  unfold t_M_save_20
  unfold w_M_save_20 at hw
  refine X_run 3 (i1 := cond (cn1 .le w0) 26 23) (L1 := [some (.inr (.inr (some 21))), none, some (.inl w0)]) (st1 := []) rfl ?_
  refine X_brq (fun hb => ?_) (fun hb => ?_)
  · have hw := hw.1 hb
    exact ct_M_save_26 fu s w0 hw
  · have hw := hw.2 hb
    refine X_run 2 (i1 := 25) (L1 := [some (.inr (.inr (some 21))), none, some (.inl w0)]) (st1 := [.inl (0 : Int32), .inr (.inr (some 21))]) rfl ?_
    refine X_pI rfl rfl rfl rfl ?_
    show X _ _ 26 [some (.inr (.inr (some 21))), none, some (.inl w0)] [] (hp (pI s 21 24 (0 : Int32))) _
    exact ct_M_save_26 fu (pI s 21 24 (0 : Int32)) w0 hw
def f_M_save (fu : Nat) (s : St) (a0 : Int32) : Int32 × St := (cond (cn1 .lt a0) ((-1 : Int32), pI s 21 0 (0 : Int32)) (cond (cn2 .le a0 (15 : Int32)) (t_M_save_20 fu (((F_write fu 32) (pI (pI s 21 0 (0 : Int32)) 21 24 (0 : Int32)) (sA s 27 (Int32.toNatClampNeg a0)) (1 : Int32)).2) (((F_write fu 32) (pI (pI s 21 0 (0 : Int32)) 21 24 (0 : Int32)) (sA s 27 (Int32.toNatClampNeg a0)) (1 : Int32)).1)) ((-1 : Int32), pI s 21 0 (0 : Int32))))
def w_M_save (fu : Nat) (s : St) (a0 : Int32) : Prop := ((cn1 .lt a0) = true → True) ∧ ((cn1 .lt a0) = false → ((cn2 .le a0 (15 : Int32)) = true → (vp_in a0 16 ∧ ((W_write fu 32) (pI (pI s 21 0 (0 : Int32)) 21 24 (0 : Int32)) (sA s 27 (Int32.toNatClampNeg a0)) (1 : Int32) ∧ (w_M_save_20 fu (((F_write fu 32) (pI (pI s 21 0 (0 : Int32)) 21 24 (0 : Int32)) (sA s 27 (Int32.toNatClampNeg a0)) (1 : Int32)).2) (((F_write fu 32) (pI (pI s 21 0 (0 : Int32)) 21 24 (0 : Int32)) (sA s 27 (Int32.toNatClampNeg a0)) (1 : Int32)).1))))) ∧ ((cn2 .le a0 (15 : Int32)) = false → True))
theorem c_M_save {d : Nat} (fu : Nat) (s : St) (a0 : Int32) (hw : w_M_save fu s a0) : X m_M_save (d + 34) 0 (entL 3 [.inr (.inr (some 21)), .inl a0]) [] (hp s) (qIs (f_M_save fu s a0)) := by
  unfold f_M_save
  unfold w_M_save at hw
  refine X_run 2 (i1 := 2) (L1 := [some (.inr (.inr (some 21))), some (.inl a0), none]) (st1 := [.inl (0 : Int32), .inr (.inr (some 21))]) rfl ?_
  refine X_pI rfl rfl rfl rfl ?_
  refine X_run 2 (i1 := cond (cn1 .lt a0) 8 5) (L1 := [some (.inr (.inr (some 21))), some (.inl a0), none]) (st1 := []) rfl ?_
  refine X_brq (fun hb => ?_) (fun hb => ?_)
  · skip
    refine X_run 1 (i1 := 9) (L1 := [some (.inr (.inr (some 21))), some (.inl a0), none]) (st1 := [.inl (-1 : Int32)]) rfl ?_
    exact X_iret rfl rfl qIs_i
  · have hw := hw.2 hb
    refine X_run 3 (i1 := cond (cn2 .le a0 (15 : Int32)) 10 8) (L1 := [some (.inr (.inr (some 21))), some (.inl a0), none]) (st1 := []) rfl ?_
    refine X_brq (fun hb => ?_) (fun hb => ?_)
    · have hw := hw.1 hb
      refine X_run 2 (i1 := 12) (L1 := [some (.inr (.inr (some 21))), some (.inl a0), none]) (st1 := [.inl (0 : Int32), .inr (.inr (some 21))]) rfl ?_
      refine X_pI rfl rfl rfl rfl ?_
      refine X_run 2 (i1 := 15) (L1 := [some (.inr (.inr (some 21))), some (.inl a0), none]) (st1 := [.inr (.inr (some 21)), .inr (.inr (some 21))]) rfl ?_
      refine X_gF (v := .inr (.inr (some 27))) rfl rfl rfl rfl ?_
      refine X_run 1 (i1 := 17) (L1 := [some (.inr (.inr (some 21))), some (.inl a0), none]) (st1 := [.inl a0, .inr (.inr (some 27)), .inr (.inr (some 21))]) rfl ?_
      obtain ⟨hin, hw⟩ := hw
      refine X_aI rfl rfl hin ?_
      show X _ _ 18 [some (.inr (.inr (some 21))), some (.inl a0), none] [.inl (sA s 27 (Int32.toNatClampNeg a0)), .inr (.inr (some 21))] (hp (pI (pI s 21 0 (0 : Int32)) 21 24 (0 : Int32))) _
      refine X_run 1 (i1 := 19) (L1 := [some (.inr (.inr (some 21))), some (.inl a0), none]) (st1 := [.inl (1 : Int32), .inl (sA s 27 (Int32.toNatClampNeg a0)), .inr (.inr (some 21))]) rfl ?_
      obtain ⟨hc, hw⟩ := hw
      refine X_callv m_M_write (As := [.inl (sA s 27 (Int32.toNatClampNeg a0)), .inl (1 : Int32)]) (st := []) ok_M_write rfl rfl rfl (hp_obj rfl) rfl (Nat.le_of_ble_eq_true rfl) (Nat.le_of_ble_eq_true rfl) ((cF_write fu 32 (d)) (pI (pI s 21 0 (0 : Int32)) 21 24 (0 : Int32)) (sA s 27 (Int32.toNatClampNeg a0)) (1 : Int32) hc) ?_
      rintro _ _ ⟨rfl, rfl⟩
      show X _ _ 20 [some (.inr (.inr (some 21))), some (.inl a0), none] [.inl (((F_write fu 32) (pI (pI s 21 0 (0 : Int32)) 21 24 (0 : Int32)) (sA s 27 (Int32.toNatClampNeg a0)) (1 : Int32)).1)] (hp (((F_write fu 32) (pI (pI s 21 0 (0 : Int32)) 21 24 (0 : Int32)) (sA s 27 (Int32.toNatClampNeg a0)) (1 : Int32)).2)) _
      show X _ _ 20 [some (.inr (.inr (some 21))), some (.inl a0), none] [.inl (((F_write fu 32) (pI (pI s 21 0 (0 : Int32)) 21 24 (0 : Int32)) (sA s 27 (Int32.toNatClampNeg a0)) (1 : Int32)).1)] (hp (((F_write fu 32) (pI (pI s 21 0 (0 : Int32)) 21 24 (0 : Int32)) (sA s 27 (Int32.toNatClampNeg a0)) (1 : Int32)).2)) _
      refine X_mask [true, false, true] ?_
      exact ct_M_save_20 fu (((F_write fu 32) (pI (pI s 21 0 (0 : Int32)) 21 24 (0 : Int32)) (sA s 27 (Int32.toNatClampNeg a0)) (1 : Int32)).2) (((F_write fu 32) (pI (pI s 21 0 (0 : Int32)) 21 24 (0 : Int32)) (sA s 27 (Int32.toNatClampNeg a0)) (1 : Int32)).1) hw
    · skip
      refine X_run 1 (i1 := 9) (L1 := [some (.inr (.inr (some 21))), some (.inl a0), none]) (st1 := [.inl (-1 : Int32)]) rfl ?_
      exact X_iret rfl rfl qIs_i
