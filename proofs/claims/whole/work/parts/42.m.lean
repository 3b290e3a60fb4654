abbrev LT_M_cloned_17 : Type := (St → Int32 → Int32 → Int32 → Int32 × St) × (St → Int32 → Int32 → Int32 → Int32 × St)
abbrev LW_M_cloned_17 : Type := (St → Int32 → Int32 → Int32 → Prop) × (St → Int32 → Int32 → Int32 → Prop)
def hl_M_cloned_17 (d : Nat) (lp : LT_M_cloned_17) (wlp : LW_M_cloned_17) : Prop := (∀ (s : St) (v1 : Int32) (v2 : Int32) (v3 : Int32), wlp.1 s v1 v2 v3 → X m_M_cloned d 17 [some (.inr (.inr (some 21))), some (.inl v1), some (.inl v2), some (.inl v3)] [] (hp s) (qIs (lp.1 s v1 v2 v3))) ∧ (∀ (s : St) (v1 : Int32) (v2 : Int32) (v3 : Int32), wlp.2 s v1 v2 v3 → X m_M_cloned d 41 [some (.inr (.inr (some 21))), some (.inl v1), some (.inl v2), some (.inl v3)] [] (hp s) (qIs (lp.2 s v1 v2 v3)))
def b_M_cloned_17 (fu : Nat) (lp : LT_M_cloned_17) (s : St) (v1 : Int32) (v2 : Int32) (v3 : Int32) : Int32 × St := (cond (cn2 .ge v3 (sA s 24 (Int32.toNatClampNeg v1))) (v2, s) (lp.2 (pB s 26 (vp_updL (sB s 26) (Int32.toNatClampNeg ((sA s 23 (Int32.toNatClampNeg v2)) + v3)) (sB s 26 (Int32.toNatClampNeg ((sA s 23 (Int32.toNatClampNeg v1)) + v3))))) v1 v2 v3))
def v_M_cloned_17 (fu : Nat) (lp : LT_M_cloned_17) (wlp : LW_M_cloned_17) (s : St) (v1 : Int32) (v2 : Int32) (v3 : Int32) : Prop := (vp_in v1 40001 ∧ ((cn2 .ge v3 (sA s 24 (Int32.toNatClampNeg v1))) = true → True) ∧ ((cn2 .ge v3 (sA s 24 (Int32.toNatClampNeg v1))) = false → (vp_in v2 40001 ∧ (vp_in v1 40001 ∧ (vp_in ((sA s 23 (Int32.toNatClampNeg v1)) + v3) 40001 ∧ (vp_in ((sA s 23 (Int32.toNatClampNeg v2)) + v3) 40001 ∧ (wlp.2 (pB s 26 (vp_updL (sB s 26) (Int32.toNatClampNeg ((sA s 23 (Int32.toNatClampNeg v2)) + v3)) (sB s 26 (Int32.toNatClampNeg ((sA s 23 (Int32.toNatClampNeg v1)) + v3))))) v1 v2 v3)))))))
theorem cb_M_cloned_17 {d : Nat} (fu : Nat) {lp : LT_M_cloned_17} {wlp : LW_M_cloned_17} (hlp : hl_M_cloned_17 (d + 1) lp wlp) (s : St) (v1 : Int32) (v2 : Int32) (v3 : Int32) (hw : v_M_cloned_17 fu lp wlp s v1 v2 v3) : X m_M_cloned (d + 1) 17 [some (.inr (.inr (some 21))), some (.inl v1), some (.inl v2), some (.inl v3)] [] (hp s) (qIs (b_M_cloned_17 fu lp s v1 v2 v3)) := by
  unfold b_M_cloned_17
  unfold v_M_cloned_17 at hw
  refine X_run 2 (i1 := 19) (L1 := [some (.inr (.inr (some 21))), some (.inl v1), some (.inl v2), some (.inl v3)]) (st1 := [.inr (.inr (some 21)), .inl v3]) rfl ?_
  refine X_gF (v := .inr (.inr (some 24))) rfl rfl rfl rfl ?_
  refine X_run 1 (i1 := 21) (L1 := [some (.inr (.inr (some 21))), some (.inl v1), some (.inl v2), some (.inl v3)]) (st1 := [.inl v1, .inr (.inr (some 24)), .inl v3]) rfl ?_
  obtain ⟨hin, hw⟩ := hw
  refine X_aI rfl rfl hin ?_
  show X _ _ 22 [some (.inr (.inr (some 21))), some (.inl v1), some (.inl v2), some (.inl v3)] [.inl (sA s 24 (Int32.toNatClampNeg v1)), .inl v3] (hp s) _
  refine X_run 1 (i1 := cond (cn2 .ge v3 (sA s 24 (Int32.toNatClampNeg v1))) 43 23) (L1 := [some (.inr (.inr (some 21))), some (.inl v1), some (.inl v2), some (.inl v3)]) (st1 := []) rfl ?_
  refine X_brq (fun hb => ?_) (fun hb => ?_)
  · skip
    refine X_run 1 (i1 := 44) (L1 := [some (.inr (.inr (some 21))), some (.inl v1), some (.inl v2), some (.inl v3)]) (st1 := [.inl v2]) rfl ?_
    exact X_iret rfl rfl qIs_i
  · have hw := hw.2 hb
    refine X_run 1 (i1 := 24) (L1 := [some (.inr (.inr (some 21))), some (.inl v1), some (.inl v2), some (.inl v3)]) (st1 := [.inr (.inr (some 21))]) rfl ?_
    refine X_gF (v := .inr (.inr (some 26))) rfl rfl rfl rfl ?_
    refine X_run 1 (i1 := 26) (L1 := [some (.inr (.inr (some 21))), some (.inl v1), some (.inl v2), some (.inl v3)]) (st1 := [.inr (.inr (some 21)), .inr (.inr (some 26))]) rfl ?_
    refine X_gF (v := .inr (.inr (some 23))) rfl rfl rfl rfl ?_
    refine X_run 1 (i1 := 28) (L1 := [some (.inr (.inr (some 21))), some (.inl v1), some (.inl v2), some (.inl v3)]) (st1 := [.inl v2, .inr (.inr (some 23)), .inr (.inr (some 26))]) rfl ?_
    obtain ⟨hin, hw⟩ := hw
    refine X_aI rfl rfl hin ?_
    show X _ _ 29 [some (.inr (.inr (some 21))), some (.inl v1), some (.inl v2), some (.inl v3)] [.inl (sA s 23 (Int32.toNatClampNeg v2)), .inr (.inr (some 26))] (hp s) _
    refine X_run 3 (i1 := 32) (L1 := [some (.inr (.inr (some 21))), some (.inl v1), some (.inl v2), some (.inl v3)]) (st1 := [.inr (.inr (some 21)), .inl ((sA s 23 (Int32.toNatClampNeg v2)) + v3), .inr (.inr (some 26))]) rfl ?_
    refine X_gF (v := .inr (.inr (some 26))) rfl rfl rfl rfl ?_
    refine X_run 1 (i1 := 34) (L1 := [some (.inr (.inr (some 21))), some (.inl v1), some (.inl v2), some (.inl v3)]) (st1 := [.inr (.inr (some 21)), .inr (.inr (some 26)), .inl ((sA s 23 (Int32.toNatClampNeg v2)) + v3), .inr (.inr (some 26))]) rfl ?_
    refine X_gF (v := .inr (.inr (some 23))) rfl rfl rfl rfl ?_
    refine X_run 1 (i1 := 36) (L1 := [some (.inr (.inr (some 21))), some (.inl v1), some (.inl v2), some (.inl v3)]) (st1 := [.inl v1, .inr (.inr (some 23)), .inr (.inr (some 26)), .inl ((sA s 23 (Int32.toNatClampNeg v2)) + v3), .inr (.inr (some 26))]) rfl ?_
    obtain ⟨hin, hw⟩ := hw
    refine X_aI rfl rfl hin ?_
    show X _ _ 37 [some (.inr (.inr (some 21))), some (.inl v1), some (.inl v2), some (.inl v3)] [.inl (sA s 23 (Int32.toNatClampNeg v1)), .inr (.inr (some 26)), .inl ((sA s 23 (Int32.toNatClampNeg v2)) + v3), .inr (.inr (some 26))] (hp s) _
    refine X_run 2 (i1 := 39) (L1 := [some (.inr (.inr (some 21))), some (.inl v1), some (.inl v2), some (.inl v3)]) (st1 := [.inl ((sA s 23 (Int32.toNatClampNeg v1)) + v3), .inr (.inr (some 26)), .inl ((sA s 23 (Int32.toNatClampNeg v2)) + v3), .inr (.inr (some 26))]) rfl ?_
    obtain ⟨hin, hw⟩ := hw
    refine X_aL rfl rfl hin ?_
    show X _ _ 40 [some (.inr (.inr (some 21))), some (.inl v1), some (.inl v2), some (.inl v3)] [.inr (.inl (sB s 26 (Int32.toNatClampNeg ((sA s 23 (Int32.toNatClampNeg v1)) + v3)))), .inl ((sA s 23 (Int32.toNatClampNeg v2)) + v3), .inr (.inr (some 26))] (hp s) _
    obtain ⟨hin, hw⟩ := hw
    refine X_sL rfl rfl hin ?_
    show X _ _ 41 [some (.inr (.inr (some 21))), some (.inl v1), some (.inl v2), some (.inl v3)] [] (hp (pB s 26 (vp_updL (sB s 26) (Int32.toNatClampNeg ((sA s 23 (Int32.toNatClampNeg v2)) + v3)) (sB s 26 (Int32.toNatClampNeg ((sA s 23 (Int32.toNatClampNeg v1)) + v3)))))) _
    show X _ _ 41 [some (.inr (.inr (some 21))), some (.inl v1), some (.inl v2), some (.inl v3)] [] (hp (pB s 26 (vp_updL (sB s 26) (Int32.toNatClampNeg ((sA s 23 (Int32.toNatClampNeg v2)) + v3)) (sB s 26 (Int32.toNatClampNeg ((sA s 23 (Int32.toNatClampNeg v1)) + v3)))))) _
    exact hlp.2 (pB s 26 (vp_updL (sB s 26) (Int32.toNatClampNeg ((sA s 23 (Int32.toNatClampNeg v2)) + v3)) (sB s 26 (Int32.toNatClampNeg ((sA s 23 (Int32.toNatClampNeg v1)) + v3))))) v1 v2 v3 hw
def b_M_cloned_41 (fu : Nat) (lp : LT_M_cloned_17) (s : St) (v1 : Int32) (v2 : Int32) (v3 : Int32) : Int32 × St := (lp.1 s v1 v2 (v3 + Int32.ofInt (1)))
def v_M_cloned_41 (fu : Nat) (lp : LT_M_cloned_17) (wlp : LW_M_cloned_17) (s : St) (v1 : Int32) (v2 : Int32) (v3 : Int32) : Prop := (wlp.1 s v1 v2 (v3 + Int32.ofInt (1)))
theorem cb_M_cloned_41 {d : Nat} (fu : Nat) {lp : LT_M_cloned_17} {wlp : LW_M_cloned_17} (hlp : hl_M_cloned_17 (d + 1) lp wlp) (s : St) (v1 : Int32) (v2 : Int32) (v3 : Int32) (hw : v_M_cloned_41 fu lp wlp s v1 v2 v3) : X m_M_cloned (d + 1) 41 [some (.inr (.inr (some 21))), some (.inl v1), some (.inl v2), some (.inl v3)] [] (hp s) (qIs (b_M_cloned_41 fu lp s v1 v2 v3)) := by
  unfold b_M_cloned_41
  unfold v_M_cloned_41 at hw
  refine X_run 2 (i1 := 17) (L1 := [some (.inr (.inr (some 21))), some (.inl v1), some (.inl v2), some (.inl (v3 + Int32.ofInt (1)))]) (st1 := []) rfl ?_
  exact hlp.1 s v1 v2 (v3 + Int32.ofInt (1)) hw
def T_M_cloned_17 (fu : Nat) : Nat → LT_M_cloned_17
  | 0 => (fun s _ _ _ => (0, s), fun s _ _ _ => (0, s))
  | n + 1 => (fun s v1 v2 v3 => b_M_cloned_17 fu (T_M_cloned_17 fu n) s v1 v2 v3, fun s v1 v2 v3 => b_M_cloned_41 fu (T_M_cloned_17 fu n) s v1 v2 v3)
def WT_M_cloned_17 (fu : Nat) : Nat → LW_M_cloned_17
  | 0 => (fun _ _ _ _ => False, fun _ _ _ _ => False)
  | n + 1 => (fun s v1 v2 v3 => v_M_cloned_17 fu (T_M_cloned_17 fu n) (WT_M_cloned_17 fu n) s v1 v2 v3, fun s v1 v2 v3 => v_M_cloned_41 fu (T_M_cloned_17 fu n) (WT_M_cloned_17 fu n) s v1 v2 v3)
theorem cT_M_cloned_17 {d : Nat} (fu : Nat) : ∀ n : Nat, hl_M_cloned_17 (d + 1) (T_M_cloned_17 fu n) (WT_M_cloned_17 fu n)
  | 0 => ⟨fun _ _ _ _ hw => hw.elim, fun _ _ _ _ hw => hw.elim⟩
  | n + 1 => ⟨fun s v1 v2 v3 hw => cb_M_cloned_17 fu (cT_M_cloned_17 fu n) s v1 v2 v3 hw, fun s v1 v2 v3 hw => cb_M_cloned_41 fu (cT_M_cloned_17 fu n) s v1 v2 v3 hw⟩
def t_M_cloned_14 (fu : Nat) (s : St) (v1 : Int32) (w0 : Int32) : Int32 × St := ((T_M_cloned_17 fu fu).1 s v1 w0 (0 : Int32))
def w_M_cloned_14 (fu : Nat) (s : St) (v1 : Int32) (w0 : Int32) : Prop := ((WT_M_cloned_17 fu fu).1 s v1 w0 (0 : Int32))
theorem ct_M_cloned_14 {d : Nat} (fu : Nat) (s : St) (v1 : Int32) (w0 : Int32) (hw : w_M_cloned_14 fu s v1 w0) : X m_M_cloned (d + 1) 14 [some (.inr (.inr (some 21))), some (.inl v1), none, none] [.inl w0] (hp s) (qIs (t_M_cloned_14 fu s v1 w0)) := by
  unfold t_M_cloned_14
  unfold w_M_cloned_14 at hw
  refine X_run 3 (i1 := 17) (L1 := [some (.inr (.inr (some 21))), some (.inl v1), some (.inl w0), some (.inl (0 : Int32))]) (st1 := []) rfl ?_
  exact (cT_M_cloned_17 fu fu).1 s v1 w0 (0 : Int32) hw
def f_M_cloned (fu : Nat) (s : St) (a0 : Int32) : Int32 × St := (t_M_cloned_14 fu ((f_M_thing s (sA s 22 (Int32.toNatClampNeg a0)) (sA s 24 (Int32.toNatClampNeg a0)) (sA s 25 (Int32.toNatClampNeg a0))).2) a0 ((f_M_thing s (sA s 22 (Int32.toNatClampNeg a0)) (sA s 24 (Int32.toNatClampNeg a0)) (sA s 25 (Int32.toNatClampNeg a0))).1))
def w_M_cloned (fu : Nat) (s : St) (a0 : Int32) : Prop := (vp_in a0 40001 ∧ (vp_in a0 40001 ∧ (vp_in a0 40001 ∧ (w_M_thing s (sA s 22 (Int32.toNatClampNeg a0)) (sA s 24 (Int32.toNatClampNeg a0)) (sA s 25 (Int32.toNatClampNeg a0)) ∧ (w_M_cloned_14 fu ((f_M_thing s (sA s 22 (Int32.toNatClampNeg a0)) (sA s 24 (Int32.toNatClampNeg a0)) (sA s 25 (Int32.toNatClampNeg a0))).2) a0 ((f_M_thing s (sA s 22 (Int32.toNatClampNeg a0)) (sA s 24 (Int32.toNatClampNeg a0)) (sA s 25 (Int32.toNatClampNeg a0))).1))))))
theorem c_M_cloned {d : Nat} (fu : Nat) (s : St) (a0 : Int32) (hw : w_M_cloned fu s a0) : X m_M_cloned (d + 1) 0 (entL 4 [.inr (.inr (some 21)), .inl a0]) [] (hp s) (qIs (f_M_cloned fu s a0)) := by
  unfold f_M_cloned
  unfold w_M_cloned at hw
  refine X_run 2 (i1 := 2) (L1 := [some (.inr (.inr (some 21))), some (.inl a0), none, none]) (st1 := [.inr (.inr (some 21)), .inr (.inr (some 21))]) rfl ?_
  refine X_gF (v := .inr (.inr (some 22))) rfl rfl rfl rfl ?_
  refine X_run 1 (i1 := 4) (L1 := [some (.inr (.inr (some 21))), some (.inl a0), none, none]) (st1 := [.inl a0, .inr (.inr (some 22)), .inr (.inr (some 21))]) rfl ?_
  obtain ⟨hin, hw⟩ := hw
  refine X_aI rfl rfl hin ?_
  show X _ _ 5 [some (.inr (.inr (some 21))), some (.inl a0), none, none] [.inl (sA s 22 (Int32.toNatClampNeg a0)), .inr (.inr (some 21))] (hp s) _
  refine X_run 1 (i1 := 6) (L1 := [some (.inr (.inr (some 21))), some (.inl a0), none, none]) (st1 := [.inr (.inr (some 21)), .inl (sA s 22 (Int32.toNatClampNeg a0)), .inr (.inr (some 21))]) rfl ?_
  refine X_gF (v := .inr (.inr (some 24))) rfl rfl rfl rfl ?_
  refine X_run 1 (i1 := 8) (L1 := [some (.inr (.inr (some 21))), some (.inl a0), none, none]) (st1 := [.inl a0, .inr (.inr (some 24)), .inl (sA s 22 (Int32.toNatClampNeg a0)), .inr (.inr (some 21))]) rfl ?_
  obtain ⟨hin, hw⟩ := hw
  refine X_aI rfl rfl hin ?_
  show X _ _ 9 [some (.inr (.inr (some 21))), some (.inl a0), none, none] [.inl (sA s 24 (Int32.toNatClampNeg a0)), .inl (sA s 22 (Int32.toNatClampNeg a0)), .inr (.inr (some 21))] (hp s) _
  refine X_run 1 (i1 := 10) (L1 := [some (.inr (.inr (some 21))), some (.inl a0), none, none]) (st1 := [.inr (.inr (some 21)), .inl (sA s 24 (Int32.toNatClampNeg a0)), .inl (sA s 22 (Int32.toNatClampNeg a0)), .inr (.inr (some 21))]) rfl ?_
  refine X_gF (v := .inr (.inr (some 25))) rfl rfl rfl rfl ?_
  refine X_run 1 (i1 := 12) (L1 := [some (.inr (.inr (some 21))), some (.inl a0), none, none]) (st1 := [.inl a0, .inr (.inr (some 25)), .inl (sA s 24 (Int32.toNatClampNeg a0)), .inl (sA s 22 (Int32.toNatClampNeg a0)), .inr (.inr (some 21))]) rfl ?_
  obtain ⟨hin, hw⟩ := hw
  refine X_aI rfl rfl hin ?_
  show X _ _ 13 [some (.inr (.inr (some 21))), some (.inl a0), none, none] [.inl (sA s 25 (Int32.toNatClampNeg a0)), .inl (sA s 24 (Int32.toNatClampNeg a0)), .inl (sA s 22 (Int32.toNatClampNeg a0)), .inr (.inr (some 21))] (hp s) _
  obtain ⟨hc, hw⟩ := hw
  refine X_callv m_M_thing (As := [.inl (sA s 22 (Int32.toNatClampNeg a0)), .inl (sA s 24 (Int32.toNatClampNeg a0)), .inl (sA s 25 (Int32.toNatClampNeg a0))]) (st := []) ok_M_thing rfl rfl rfl (hp_obj rfl) rfl (Nat.le_of_ble_eq_true rfl) (Nat.le_of_ble_eq_true rfl) (c_M_thing (d := d) s (sA s 22 (Int32.toNatClampNeg a0)) (sA s 24 (Int32.toNatClampNeg a0)) (sA s 25 (Int32.toNatClampNeg a0)) hc) ?_
  rintro _ _ ⟨rfl, rfl⟩
  show X _ _ 14 [some (.inr (.inr (some 21))), some (.inl a0), none, none] [.inl ((f_M_thing s (sA s 22 (Int32.toNatClampNeg a0)) (sA s 24 (Int32.toNatClampNeg a0)) (sA s 25 (Int32.toNatClampNeg a0))).1)] (hp ((f_M_thing s (sA s 22 (Int32.toNatClampNeg a0)) (sA s 24 (Int32.toNatClampNeg a0)) (sA s 25 (Int32.toNatClampNeg a0))).2)) _
  show X _ _ 14 [some (.inr (.inr (some 21))), some (.inl a0), none, none] [.inl ((f_M_thing s (sA s 22 (Int32.toNatClampNeg a0)) (sA s 24 (Int32.toNatClampNeg a0)) (sA s 25 (Int32.toNatClampNeg a0))).1)] (hp ((f_M_thing s (sA s 22 (Int32.toNatClampNeg a0)) (sA s 24 (Int32.toNatClampNeg a0)) (sA s 25 (Int32.toNatClampNeg a0))).2)) _
  exact ct_M_cloned_14 fu ((f_M_thing s (sA s 22 (Int32.toNatClampNeg a0)) (sA s 24 (Int32.toNatClampNeg a0)) (sA s 25 (Int32.toNatClampNeg a0))).2) a0 ((f_M_thing s (sA s 22 (Int32.toNatClampNeg a0)) (sA s 24 (Int32.toNatClampNeg a0)) (sA s 25 (Int32.toNatClampNeg a0))).1) hw
abbrev LT_M_back_2 : Type := (St → Int32 → Int32 → Int32 → St) × (St → Int32 → Int32 → Int32 → Int32 → Int32 → Int32 → St) × (St → Int32 → Int32 → Int32 → Int32 → Int32 → Int32 → St) × (St → Int32 → Int32 → Int32 → St)
abbrev LW_M_back_2 : Type := (St → Int32 → Int32 → Int32 → Prop) × (St → Int32 → Int32 → Int32 → Int32 → Int32 → Int32 → Prop) × (St → Int32 → Int32 → Int32 → Int32 → Int32 → Int32 → Prop) × (St → Int32 → Int32 → Int32 → Prop)
def hl_M_back_2 (d : Nat) (lp : LT_M_back_2) (wlp : LW_M_back_2) : Prop := (∀ (s : St) (v1 : Int32) (v2 : Int32) (v3 : Int32), wlp.1 s v1 v2 v3 → X m_M_back d 2 [some (.inr (.inr (some 21))), some (.inl v1), some (.inl v2), some (.inl v3), none, none, none] [] (hp s) (qVs (lp.1 s v1 v2 v3))) ∧ (∀ (s : St) (v1 : Int32) (v2 : Int32) (v3 : Int32) (v4 : Int32) (v5 : Int32) (v6 : Int32), wlp.2.1 s v1 v2 v3 v4 v5 v6 → X m_M_back d 33 [some (.inr (.inr (some 21))), some (.inl v1), some (.inl v2), some (.inl v3), some (.inl v4), some (.inl v5), some (.inl v6)] [] (hp s) (qVs (lp.2.1 s v1 v2 v3 v4 v5 v6))) ∧ (∀ (s : St) (v1 : Int32) (v2 : Int32) (v3 : Int32) (v4 : Int32) (v5 : Int32) (v6 : Int32), wlp.2.2.1 s v1 v2 v3 v4 v5 v6 → X m_M_back d 59 [some (.inr (.inr (some 21))), some (.inl v1), some (.inl v2), some (.inl v3), some (.inl v4), some (.inl v5), some (.inl v6)] [] (hp s) (qVs (lp.2.2.1 s v1 v2 v3 v4 v5 v6))) ∧ (∀ (s : St) (v1 : Int32) (v2 : Int32) (v3 : Int32), wlp.2.2.2 s v1 v2 v3 → X m_M_back d 61 [some (.inr (.inr (some 21))), some (.inl v1), some (.inl v2), some (.inl v3), none, none, none] [] (hp s) (qVs (lp.2.2.2 s v1 v2 v3)))
def b_M_back_2 (fu : Nat) (lp : LT_M_back_2) (s : St) (v1 : Int32) (v2 : Int32) (v3 : Int32) : St := (cond (cn2 .ge v3 (16 : Int32)) s (cond (cn1 .ne ((v1 >>> (v3 &&& 31)) &&& (1 : Int32))) (lp.2.1 (pA s 27 (upd (sA s 27) (Int32.toNatClampNeg v3) (sA s 34 (Int32.toNatClampNeg (v2 + v3))))) v1 v2 v3 (sA s 34 (Int32.toNatClampNeg (v2 + v3))) (sA s 35 (Int32.toNatClampNeg (v2 + v3))) (0 : Int32)) (lp.2.2.2 s v1 v2 v3)))
def v_M_back_2 (fu : Nat) (lp : LT_M_back_2) (wlp : LW_M_back_2) (s : St) (v1 : Int32) (v2 : Int32) (v3 : Int32) : Prop := ((cn2 .ge v3 (16 : Int32)) = true → True) ∧ ((cn2 .ge v3 (16 : Int32)) = false → ((cn1 .ne ((v1 >>> (v3 &&& 31)) &&& (1 : Int32))) = true → (vp_in (v2 + v3) 2288 ∧ (vp_in v3 16 ∧ (vp_in (v2 + v3) 2288 ∧ (wlp.2.1 (pA s 27 (upd (sA s 27) (Int32.toNatClampNeg v3) (sA s 34 (Int32.toNatClampNeg (v2 + v3))))) v1 v2 v3 (sA s 34 (Int32.toNatClampNeg (v2 + v3))) (sA s 35 (Int32.toNatClampNeg (v2 + v3))) (0 : Int32)))))) ∧ ((cn1 .ne ((v1 >>> (v3 &&& 31)) &&& (1 : Int32))) = false → (wlp.2.2.2 s v1 v2 v3)))
theorem cb_M_back_2 {d : Nat} (fu : Nat) {lp : LT_M_back_2} {wlp : LW_M_back_2} (hlp : hl_M_back_2 (d) lp wlp) (s : St) (v1 : Int32) (v2 : Int32) (v3 : Int32) (hw : v_M_back_2 fu lp wlp s v1 v2 v3) : X m_M_back (d) 2 [some (.inr (.inr (some 21))), some (.inl v1), some (.inl v2), some (.inl v3), none, none, none] [] (hp s) (qVs (b_M_back_2 fu lp s v1 v2 v3)) := by
  unfold b_M_back_2
  unfold v_M_back_2 at hw
  refine X_run 3 (i1 := cond (cn2 .ge v3 (16 : Int32)) 63 5) (L1 := [some (.inr (.inr (some 21))), some (.inl v1), some (.inl v2), some (.inl v3), none, none, none]) (st1 := []) rfl ?_
  refine X_brq (fun hb => ?_) (fun hb => ?_)
  · skip
    exact X_ret rfl rfl qVs_i
  · have hw := hw.2 hb
    refine X_run 6 (i1 := cond (cn1 .ne ((v1 >>> (v3 &&& 31)) &&& (1 : Int32))) 12 11) (L1 := [some (.inr (.inr (some 21))), some (.inl v1), some (.inl v2), some (.inl v3), none, none, none]) (st1 := []) rfl ?_
    refine X_brq (fun hb => ?_) (fun hb => ?_)
    · have hw := hw.1 hb
      refine X_run 1 (i1 := 13) (L1 := [some (.inr (.inr (some 21))), some (.inl v1), some (.inl v2), some (.inl v3), none, none, none]) (st1 := [.inr (.inr (some 21))]) rfl ?_
      refine X_gF (v := .inr (.inr (some 34))) rfl rfl rfl rfl ?_
      refine X_run 3 (i1 := 17) (L1 := [some (.inr (.inr (some 21))), some (.inl v1), some (.inl v2), some (.inl v3), none, none, none]) (st1 := [.inl (v2 + v3), .inr (.inr (some 34))]) rfl ?_
      obtain ⟨hin, hw⟩ := hw
      refine X_aI rfl rfl hin ?_
      show X _ _ 18 [some (.inr (.inr (some 21))), some (.inl v1), some (.inl v2), some (.inl v3), none, none, none] [.inl (sA s 34 (Int32.toNatClampNeg (v2 + v3)))] (hp s) _
      refine X_run 2 (i1 := 20) (L1 := [some (.inr (.inr (some 21))), some (.inl v1), some (.inl v2), some (.inl v3), some (.inl (sA s 34 (Int32.toNatClampNeg (v2 + v3)))), none, none]) (st1 := [.inr (.inr (some 21))]) rfl ?_
      refine X_gF (v := .inr (.inr (some 27))) rfl rfl rfl rfl ?_
      refine X_run 2 (i1 := 23) (L1 := [some (.inr (.inr (some 21))), some (.inl v1), some (.inl v2), some (.inl v3), some (.inl (sA s 34 (Int32.toNatClampNeg (v2 + v3)))), none, none]) (st1 := [.inl (sA s 34 (Int32.toNatClampNeg (v2 + v3))), .inl v3, .inr (.inr (some 27))]) rfl ?_
      obtain ⟨hin, hw⟩ := hw
      refine X_sI rfl rfl hin ?_
      show X _ _ 24 [some (.inr (.inr (some 21))), some (.inl v1), some (.inl v2), some (.inl v3), some (.inl (sA s 34 (Int32.toNatClampNeg (v2 + v3)))), none, none] [] (hp (pA s 27 (upd (sA s 27) (Int32.toNatClampNeg v3) (sA s 34 (Int32.toNatClampNeg (v2 + v3)))))) _
      refine X_run 1 (i1 := 25) (L1 := [some (.inr (.inr (some 21))), some (.inl v1), some (.inl v2), some (.inl v3), some (.inl (sA s 34 (Int32.toNatClampNeg (v2 + v3)))), none, none]) (st1 := [.inr (.inr (some 21))]) rfl ?_
      refine X_gF (v := .inr (.inr (some 35))) rfl rfl rfl rfl ?_
      refine X_run 3 (i1 := 29) (L1 := [some (.inr (.inr (some 21))), some (.inl v1), some (.inl v2), some (.inl v3), some (.inl (sA s 34 (Int32.toNatClampNeg (v2 + v3)))), none, none]) (st1 := [.inl (v2 + v3), .inr (.inr (some 35))]) rfl ?_
      obtain ⟨hin, hw⟩ := hw
      refine X_aI rfl rfl hin ?_
      show X _ _ 30 [some (.inr (.inr (some 21))), some (.inl v1), some (.inl v2), some (.inl v3), some (.inl (sA s 34 (Int32.toNatClampNeg (v2 + v3)))), none, none] [.inl (sA s 35 (Int32.toNatClampNeg (v2 + v3)))] (hp (pA s 27 (upd (sA s 27) (Int32.toNatClampNeg v3) (sA s 34 (Int32.toNatClampNeg (v2 + v3)))))) _
      refine X_run 3 (i1 := 33) (L1 := [some (.inr (.inr (some 21))), some (.inl v1), some (.inl v2), some (.inl v3), some (.inl (sA s 34 (Int32.toNatClampNeg (v2 + v3)))), some (.inl (sA s 35 (Int32.toNatClampNeg (v2 + v3)))), some (.inl (0 : Int32))]) (st1 := []) rfl ?_
      exact hlp.2.1 (pA s 27 (upd (sA s 27) (Int32.toNatClampNeg v3) (sA s 34 (Int32.toNatClampNeg (v2 + v3))))) v1 v2 v3 (sA s 34 (Int32.toNatClampNeg (v2 + v3))) (sA s 35 (Int32.toNatClampNeg (v2 + v3))) (0 : Int32) hw
    · have hw := hw.2 hb
      refine X_run 1 (i1 := 61) (L1 := [some (.inr (.inr (some 21))), some (.inl v1), some (.inl v2), some (.inl v3), none, none, none]) (st1 := []) rfl ?_
      exact hlp.2.2.2 s v1 v2 v3 hw
def b_M_back_33 (fu : Nat) (lp : LT_M_back_2) (s : St) (v1 : Int32) (v2 : Int32) (v3 : Int32) (v4 : Int32) (v5 : Int32) (v6 : Int32) : St := (cond (cn2 .ge v6 (sA s 24 (Int32.toNatClampNeg v5))) (lp.2.2.2 s v1 v2 v3) (cond (cn1 .le v5) (lp.2.2.2 s v1 v2 v3) (lp.2.2.1 (pB s 26 (vp_updL (sB s 26) (Int32.toNatClampNeg ((sA s 23 (Int32.toNatClampNeg v4)) + v6)) (sB s 26 (Int32.toNatClampNeg ((sA s 23 (Int32.toNatClampNeg v5)) + v6))))) v1 v2 v3 v4 v5 v6)))
def v_M_back_33 (fu : Nat) (lp : LT_M_back_2) (wlp : LW_M_back_2) (s : St) (v1 : Int32) (v2 : Int32) (v3 : Int32) (v4 : Int32) (v5 : Int32) (v6 : Int32) : Prop := (vp_in v5 40001 ∧ ((cn2 .ge v6 (sA s 24 (Int32.toNatClampNeg v5))) = true → (wlp.2.2.2 s v1 v2 v3)) ∧ ((cn2 .ge v6 (sA s 24 (Int32.toNatClampNeg v5))) = false → ((cn1 .le v5) = true → (wlp.2.2.2 s v1 v2 v3)) ∧ ((cn1 .le v5) = false → (vp_in v4 40001 ∧ (vp_in v5 40001 ∧ (vp_in ((sA s 23 (Int32.toNatClampNeg v5)) + v6) 40001 ∧ (vp_in ((sA s 23 (Int32.toNatClampNeg v4)) + v6) 40001 ∧ (wlp.2.2.1 (pB s 26 (vp_updL (sB s 26) (Int32.toNatClampNeg ((sA s 23 (Int32.toNatClampNeg v4)) + v6)) (sB s 26 (Int32.toNatClampNeg ((sA s 23 (Int32.toNatClampNeg v5)) + v6))))) v1 v2 v3 v4 v5 v6))))))))
theorem cb_M_back_33 {d : Nat} (fu : Nat) {lp : LT_M_back_2} {wlp : LW_M_back_2} (hlp : hl_M_back_2 (d) lp wlp) (s : St) (v1 : Int32) (v2 : Int32) (v3 : Int32) (v4 : Int32) (v5 : Int32) (v6 : Int32) (hw : v_M_back_33 fu lp wlp s v1 v2 v3 v4 v5 v6) : X m_M_back (d) 33 [some (.inr (.inr (some 21))), some (.inl v1), some (.inl v2), some (.inl v3), some (.inl v4), some (.inl v5), some (.inl v6)] [] (hp s) (qVs (b_M_back_33 fu lp s v1 v2 v3 v4 v5 v6)) := by
  unfold b_M_back_33
  unfold v_M_back_33 at hw
  refine X_run 2 (i1 := 35) (L1 := [some (.inr (.inr (some 21))), some (.inl v1), some (.inl v2), some (.inl v3), some (.inl v4), some (.inl v5), some (.inl v6)]) (st1 := [.inr (.inr (some 21)), .inl v6]) rfl ?_
  refine X_gF (v := .inr (.inr (some 24))) rfl rfl rfl rfl ?_
  refine X_run 1 (i1 := 37) (L1 := [some (.inr (.inr (some 21))), some (.inl v1), some (.inl v2), some (.inl v3), some (.inl v4), some (.inl v5), some (.inl v6)]) (st1 := [.inl v5, .inr (.inr (some 24)), .inl v6]) rfl ?_
  obtain ⟨hin, hw⟩ := hw
  refine X_aI rfl rfl hin ?_
  show X _ _ 38 [some (.inr (.inr (some 21))), some (.inl v1), some (.inl v2), some (.inl v3), some (.inl v4), some (.inl v5), some (.inl v6)] [.inl (sA s 24 (Int32.toNatClampNeg v5)), .inl v6] (hp s) _
  refine X_run 1 (i1 := cond (cn2 .ge v6 (sA s 24 (Int32.toNatClampNeg v5))) 61 39) (L1 := [some (.inr (.inr (some 21))), some (.inl v1), some (.inl v2), some (.inl v3), some (.inl v4), some (.inl v5), some (.inl v6)]) (st1 := []) rfl ?_
  refine X_brq (fun hb => ?_) (fun hb => ?_)
  · have hw := hw.1 hb
    refine X_mask [true, true, true, true, false, false, false] ?_
    exact hlp.2.2.2 s v1 v2 v3 hw
  · have hw := hw.2 hb
    refine X_run 2 (i1 := cond (cn1 .le v5) 61 41) (L1 := [some (.inr (.inr (some 21))), some (.inl v1), some (.inl v2), some (.inl v3), some (.inl v4), some (.inl v5), some (.inl v6)]) (st1 := []) rfl ?_
    refine X_brq (fun hb => ?_) (fun hb => ?_)
    · have hw := hw.1 hb
      refine X_mask [true, true, true, true, false, false, false] ?_
      exact hlp.2.2.2 s v1 v2 v3 hw
    · have hw := hw.2 hb
      refine X_run 1 (i1 := 42) (L1 := [some (.inr (.inr (some 21))), some (.inl v1), some (.inl v2), some (.inl v3), some (.inl v4), some (.inl v5), some (.inl v6)]) (st1 := [.inr (.inr (some 21))]) rfl ?_
      refine X_gF (v := .inr (.inr (some 26))) rfl rfl rfl rfl ?_
      refine X_run 1 (i1 := 44) (L1 := [some (.inr (.inr (some 21))), some (.inl v1), some (.inl v2), some (.inl v3), some (.inl v4), some (.inl v5), some (.inl v6)]) (st1 := [.inr (.inr (some 21)), .inr (.inr (some 26))]) rfl ?_
      refine X_gF (v := .inr (.inr (some 23))) rfl rfl rfl rfl ?_
      refine X_run 1 (i1 := 46) (L1 := [some (.inr (.inr (some 21))), some (.inl v1), some (.inl v2), some (.inl v3), some (.inl v4), some (.inl v5), some (.inl v6)]) (st1 := [.inl v4, .inr (.inr (some 23)), .inr (.inr (some 26))]) rfl ?_
      obtain ⟨hin, hw⟩ := hw
      refine X_aI rfl rfl hin ?_
      show X _ _ 47 [some (.inr (.inr (some 21))), some (.inl v1), some (.inl v2), some (.inl v3), some (.inl v4), some (.inl v5), some (.inl v6)] [.inl (sA s 23 (Int32.toNatClampNeg v4)), .inr (.inr (some 26))] (hp s) _
      refine X_run 3 (i1 := 50) (L1 := [some (.inr (.inr (some 21))), some (.inl v1), some (.inl v2), some (.inl v3), some (.inl v4), some (.inl v5), some (.inl v6)]) (st1 := [.inr (.inr (some 21)), .inl ((sA s 23 (Int32.toNatClampNeg v4)) + v6), .inr (.inr (some 26))]) rfl ?_
      refine X_gF (v := .inr (.inr (some 26))) rfl rfl rfl rfl ?_
      refine X_run 1 (i1 := 52) (L1 := [some (.inr (.inr (some 21))), some (.inl v1), some (.inl v2), some (.inl v3), some (.inl v4), some (.inl v5), some (.inl v6)]) (st1 := [.inr (.inr (some 21)), .inr (.inr (some 26)), .inl ((sA s 23 (Int32.toNatClampNeg v4)) + v6), .inr (.inr (some 26))]) rfl ?_
      refine X_gF (v := .inr (.inr (some 23))) rfl rfl rfl rfl ?_
      refine X_run 1 (i1 := 54) (L1 := [some (.inr (.inr (some 21))), some (.inl v1), some (.inl v2), some (.inl v3), some (.inl v4), some (.inl v5), some (.inl v6)]) (st1 := [.inl v5, .inr (.inr (some 23)), .inr (.inr (some 26)), .inl ((sA s 23 (Int32.toNatClampNeg v4)) + v6), .inr (.inr (some 26))]) rfl ?_
      obtain ⟨hin, hw⟩ := hw
      refine X_aI rfl rfl hin ?_
      show X _ _ 55 [some (.inr (.inr (some 21))), some (.inl v1), some (.inl v2), some (.inl v3), some (.inl v4), some (.inl v5), some (.inl v6)] [.inl (sA s 23 (Int32.toNatClampNeg v5)), .inr (.inr (some 26)), .inl ((sA s 23 (Int32.toNatClampNeg v4)) + v6), .inr (.inr (some 26))] (hp s) _
      refine X_run 2 (i1 := 57) (L1 := [some (.inr (.inr (some 21))), some (.inl v1), some (.inl v2), some (.inl v3), some (.inl v4), some (.inl v5), some (.inl v6)]) (st1 := [.inl ((sA s 23 (Int32.toNatClampNeg v5)) + v6), .inr (.inr (some 26)), .inl ((sA s 23 (Int32.toNatClampNeg v4)) + v6), .inr (.inr (some 26))]) rfl ?_
      obtain ⟨hin, hw⟩ := hw
      refine X_aL rfl rfl hin ?_
      show X _ _ 58 [some (.inr (.inr (some 21))), some (.inl v1), some (.inl v2), some (.inl v3), some (.inl v4), some (.inl v5), some (.inl v6)] [.inr (.inl (sB s 26 (Int32.toNatClampNeg ((sA s 23 (Int32.toNatClampNeg v5)) + v6)))), .inl ((sA s 23 (Int32.toNatClampNeg v4)) + v6), .inr (.inr (some 26))] (hp s) _
      obtain ⟨hin, hw⟩ := hw
      refine X_sL rfl rfl hin ?_
      show X _ _ 59 [some (.inr (.inr (some 21))), some (.inl v1), some (.inl v2), some (.inl v3), some (.inl v4), some (.inl v5), some (.inl v6)] [] (hp (pB s 26 (vp_updL (sB s 26) (Int32.toNatClampNeg ((sA s 23 (Int32.toNatClampNeg v4)) + v6)) (sB s 26 (Int32.toNatClampNeg ((sA s 23 (Int32.toNatClampNeg v5)) + v6)))))) _
      show X _ _ 59 [some (.inr (.inr (some 21))), some (.inl v1), some (.inl v2), some (.inl v3), some (.inl v4), some (.inl v5), some (.inl v6)] [] (hp (pB s 26 (vp_updL (sB s 26) (Int32.toNatClampNeg ((sA s 23 (Int32.toNatClampNeg v4)) + v6)) (sB s 26 (Int32.toNatClampNeg ((sA s 23 (Int32.toNatClampNeg v5)) + v6)))))) _
      exact hlp.2.2.1 (pB s 26 (vp_updL (sB s 26) (Int32.toNatClampNeg ((sA s 23 (Int32.toNatClampNeg v4)) + v6)) (sB s 26 (Int32.toNatClampNeg ((sA s 23 (Int32.toNatClampNeg v5)) + v6))))) v1 v2 v3 v4 v5 v6 hw
def b_M_back_59 (fu : Nat) (lp : LT_M_back_2) (s : St) (v1 : Int32) (v2 : Int32) (v3 : Int32) (v4 : Int32) (v5 : Int32) (v6 : Int32) : St := (lp.2.1 s v1 v2 v3 v4 v5 (v6 + Int32.ofInt (1)))
def v_M_back_59 (fu : Nat) (lp : LT_M_back_2) (wlp : LW_M_back_2) (s : St) (v1 : Int32) (v2 : Int32) (v3 : Int32) (v4 : Int32) (v5 : Int32) (v6 : Int32) : Prop := (wlp.2.1 s v1 v2 v3 v4 v5 (v6 + Int32.ofInt (1)))
theorem cb_M_back_59 {d : Nat} (fu : Nat) {lp : LT_M_back_2} {wlp : LW_M_back_2} (hlp : hl_M_back_2 (d) lp wlp) (s : St) (v1 : Int32) (v2 : Int32) (v3 : Int32) (v4 : Int32) (v5 : Int32) (v6 : Int32) (hw : v_M_back_59 fu lp wlp s v1 v2 v3 v4 v5 v6) : X m_M_back (d) 59 [some (.inr (.inr (some 21))), some (.inl v1), some (.inl v2), some (.inl v3), some (.inl v4), some (.inl v5), some (.inl v6)] [] (hp s) (qVs (b_M_back_59 fu lp s v1 v2 v3 v4 v5 v6)) := by
  unfold b_M_back_59
  unfold v_M_back_59 at hw
  refine X_run 2 (i1 := 33) (L1 := [some (.inr (.inr (some 21))), some (.inl v1), some (.inl v2), some (.inl v3), some (.inl v4), some (.inl v5), some (.inl (v6 + Int32.ofInt (1)))]) (st1 := []) rfl ?_
  exact hlp.2.1 s v1 v2 v3 v4 v5 (v6 + Int32.ofInt (1)) hw
def b_M_back_61 (fu : Nat) (lp : LT_M_back_2) (s : St) (v1 : Int32) (v2 : Int32) (v3 : Int32) : St := (lp.1 s v1 v2 (v3 + Int32.ofInt (1)))
def v_M_back_61 (fu : Nat) (lp : LT_M_back_2) (wlp : LW_M_back_2) (s : St) (v1 : Int32) (v2 : Int32) (v3 : Int32) : Prop := (wlp.1 s v1 v2 (v3 + Int32.ofInt (1)))
theorem cb_M_back_61 {d : Nat} (fu : Nat) {lp : LT_M_back_2} {wlp : LW_M_back_2} (hlp : hl_M_back_2 (d) lp wlp) (s : St) (v1 : Int32) (v2 : Int32) (v3 : Int32) (hw : v_M_back_61 fu lp wlp s v1 v2 v3) : X m_M_back (d) 61 [some (.inr (.inr (some 21))), some (.inl v1), some (.inl v2), some (.inl v3), none, none, none] [] (hp s) (qVs (b_M_back_61 fu lp s v1 v2 v3)) := by
  unfold b_M_back_61
  unfold v_M_back_61 at hw
  refine X_run 2 (i1 := 2) (L1 := [some (.inr (.inr (some 21))), some (.inl v1), some (.inl v2), some (.inl (v3 + Int32.ofInt (1))), none, none, none]) (st1 := []) rfl ?_
  exact hlp.1 s v1 v2 (v3 + Int32.ofInt (1)) hw
def T_M_back_2 (fu : Nat) : Nat → LT_M_back_2
  | 0 => (fun s _ _ _ => s, fun s _ _ _ _ _ _ => s, fun s _ _ _ _ _ _ => s, fun s _ _ _ => s)
  | n + 1 => (fun s v1 v2 v3 => b_M_back_2 fu (T_M_back_2 fu n) s v1 v2 v3, fun s v1 v2 v3 v4 v5 v6 => b_M_back_33 fu (T_M_back_2 fu n) s v1 v2 v3 v4 v5 v6, fun s v1 v2 v3 v4 v5 v6 => b_M_back_59 fu (T_M_back_2 fu n) s v1 v2 v3 v4 v5 v6, fun s v1 v2 v3 => b_M_back_61 fu (T_M_back_2 fu n) s v1 v2 v3)
def WT_M_back_2 (fu : Nat) : Nat → LW_M_back_2
  | 0 => (fun _ _ _ _ => False, fun _ _ _ _ _ _ _ => False, fun _ _ _ _ _ _ _ => False, fun _ _ _ _ => False)
  | n + 1 => (fun s v1 v2 v3 => v_M_back_2 fu (T_M_back_2 fu n) (WT_M_back_2 fu n) s v1 v2 v3, fun s v1 v2 v3 v4 v5 v6 => v_M_back_33 fu (T_M_back_2 fu n) (WT_M_back_2 fu n) s v1 v2 v3 v4 v5 v6, fun s v1 v2 v3 v4 v5 v6 => v_M_back_59 fu (T_M_back_2 fu n) (WT_M_back_2 fu n) s v1 v2 v3 v4 v5 v6, fun s v1 v2 v3 => v_M_back_61 fu (T_M_back_2 fu n) (WT_M_back_2 fu n) s v1 v2 v3)
theorem cT_M_back_2 {d : Nat} (fu : Nat) : ∀ n : Nat, hl_M_back_2 (d) (T_M_back_2 fu n) (WT_M_back_2 fu n)
  | 0 => ⟨fun _ _ _ _ hw => hw.elim, fun _ _ _ _ _ _ _ hw => hw.elim, fun _ _ _ _ _ _ _ hw => hw.elim, fun _ _ _ _ hw => hw.elim⟩
  | n + 1 => ⟨fun s v1 v2 v3 hw => cb_M_back_2 fu (cT_M_back_2 fu n) s v1 v2 v3 hw, fun s v1 v2 v3 v4 v5 v6 hw => cb_M_back_33 fu (cT_M_back_2 fu n) s v1 v2 v3 v4 v5 v6 hw, fun s v1 v2 v3 v4 v5 v6 hw => cb_M_back_59 fu (cT_M_back_2 fu n) s v1 v2 v3 v4 v5 v6 hw, fun s v1 v2 v3 hw => cb_M_back_61 fu (cT_M_back_2 fu n) s v1 v2 v3 hw⟩
def f_M_back (fu : Nat) (s : St) (a0 : Int32) (a1 : Int32) : St := ((T_M_back_2 fu fu).1 s a0 a1 (0 : Int32))
def w_M_back (fu : Nat) (s : St) (a0 : Int32) (a1 : Int32) : Prop := ((WT_M_back_2 fu fu).1 s a0 a1 (0 : Int32))
theorem c_M_back {d : Nat} (fu : Nat) (s : St) (a0 : Int32) (a1 : Int32) (hw : w_M_back fu s a0 a1) : X m_M_back (d) 0 (entL 7 [.inr (.inr (some 21)), .inl a0, .inl a1]) [] (hp s) (qVs (f_M_back fu s a0 a1)) := by
  unfold f_M_back
  unfold w_M_back at hw
  refine X_run 2 (i1 := 2) (L1 := [some (.inr (.inr (some 21))), some (.inl a0), some (.inl a1), some (.inl (0 : Int32)), none, none, none]) (st1 := []) rfl ?_
  exact (cT_M_back_2 fu fu).1 s a0 a1 (0 : Int32) hw
def t_M_eight_4 (fu : Nat) : Nat → St → Int32 → Int32 → Int32 → Int32 → Int32
  | 0, _, _, _, _, _ => 0
  | n + 1, s, v1, v2, v3, v4 => (cond (cn2 .ge v4 v2) v3 (t_M_eight_4 fu n s v1 v2 ((v3 <<< ((8 : Int32) &&& 31)) ||| (sA s 30 (Int32.toNatClampNeg (v1 + v4)))) (v4 + Int32.ofInt (1))))
def w_M_eight_4 (fu : Nat) : Nat → St → Int32 → Int32 → Int32 → Int32 → Prop
  | 0, _, _, _, _, _ => False
  | n + 1, s, v1, v2, v3, v4 => ((cn2 .ge v4 v2) = true → True) ∧ ((cn2 .ge v4 v2) = false → (vp_in (v1 + v4) 3200 ∧ (w_M_eight_4 fu n s v1 v2 ((v3 <<< ((8 : Int32) &&& 31)) ||| (sA s 30 (Int32.toNatClampNeg (v1 + v4)))) (v4 + Int32.ofInt (1)))))
theorem ct_M_eight_4 {d : Nat} (fu : Nat) : ∀ (n : Nat) (s : St) (v1 : Int32) (v2 : Int32) (v3 : Int32) (v4 : Int32), w_M_eight_4 fu n s v1 v2 v3 v4 → X m_M_eight (d) 4 [some (.inr (.inr (some 21))), some (.inl v1), some (.inl v2), some (.inl v3), some (.inl v4)] [] (hp s) (qI (hp s) (t_M_eight_4 fu n s v1 v2 v3 v4))
  | 0, s, v1, v2, v3, v4, hw => hw.elim
  | n + 1, s, v1, v2, v3, v4, hw => by
    have ih := @ct_M_eight_4 d fu n
    unfold t_M_eight_4
    unfold w_M_eight_4 at hw
    refine X_run 3 (i1 := cond (cn2 .ge v4 v2) 20 7) (L1 := [some (.inr (.inr (some 21))), some (.inl v1), some (.inl v2), some (.inl v3), some (.inl v4)]) (st1 := []) rfl ?_
    refine X_brq (fun hb => ?_) (fun hb => ?_)
    · skip
      refine X_run 1 (i1 := 21) (L1 := [some (.inr (.inr (some 21))), some (.inl v1), some (.inl v2), some (.inl v3), some (.inl v4)]) (st1 := [.inl v3]) rfl ?_
      exact X_iret rfl rfl qI_i
    · have hw := hw.2 hb
      refine X_run 4 (i1 := 11) (L1 := [some (.inr (.inr (some 21))), some (.inl v1), some (.inl v2), some (.inl v3), some (.inl v4)]) (st1 := [.inr (.inr (some 21)), .inl (v3 <<< ((8 : Int32) &&& 31))]) rfl ?_
      refine X_gF (v := .inr (.inr (some 30))) rfl rfl rfl rfl ?_
      refine X_run 3 (i1 := 15) (L1 := [some (.inr (.inr (some 21))), some (.inl v1), some (.inl v2), some (.inl v3), some (.inl v4)]) (st1 := [.inl (v1 + v4), .inr (.inr (some 30)), .inl (v3 <<< ((8 : Int32) &&& 31))]) rfl ?_
      obtain ⟨hin, hw⟩ := hw
      refine X_aI rfl rfl hin ?_
      show X _ _ 16 [some (.inr (.inr (some 21))), some (.inl v1), some (.inl v2), some (.inl v3), some (.inl v4)] [.inl (sA s 30 (Int32.toNatClampNeg (v1 + v4))), .inl (v3 <<< ((8 : Int32) &&& 31))] (hp s) _
      refine X_run 4 (i1 := 4) (L1 := [some (.inr (.inr (some 21))), some (.inl v1), some (.inl v2), some (.inl ((v3 <<< ((8 : Int32) &&& 31)) ||| (sA s 30 (Int32.toNatClampNeg (v1 + v4))))), some (.inl (v4 + Int32.ofInt (1)))]) (st1 := []) rfl ?_
      exact ih s v1 v2 ((v3 <<< ((8 : Int32) &&& 31)) ||| (sA s 30 (Int32.toNatClampNeg (v1 + v4)))) (v4 + Int32.ofInt (1)) hw
def f_M_eight (fu : Nat) (s : St) (a0 : Int32) (a1 : Int32) : Int32 := (t_M_eight_4 fu fu s a0 a1 (0 : Int32) (0 : Int32))
def w_M_eight (fu : Nat) (s : St) (a0 : Int32) (a1 : Int32) : Prop := (w_M_eight_4 fu fu s a0 a1 (0 : Int32) (0 : Int32))
theorem c_M_eight {d : Nat} (fu : Nat) (s : St) (a0 : Int32) (a1 : Int32) (hw : w_M_eight fu s a0 a1) : X m_M_eight (d) 0 (entL 5 [.inr (.inr (some 21)), .inl a0, .inl a1]) [] (hp s) (qI (hp s) (f_M_eight fu s a0 a1)) := by
  unfold f_M_eight
  unfold w_M_eight at hw
  refine X_run 4 (i1 := 4) (L1 := [some (.inr (.inr (some 21))), some (.inl a0), some (.inl a1), some (.inl (0 : Int32)), some (.inl (0 : Int32))]) (st1 := []) rfl ?_
  exact ct_M_eight_4 fu fu s a0 a1 (0 : Int32) (0 : Int32) hw
def t_M_ints_74 (s : St) (w0 : Int32) (w1 : Int32) : Int32 × St := ((0 : Int32), pA s 28 (upd (sA s 28) (Int32.toNatClampNeg w1) w0))
def w_M_ints_74 (s : St) (w0 : Int32) (w1 : Int32) : Prop := (vp_in w1 8 ∧ True)
theorem ct_M_ints_74 {d : Nat} (s : St) (w0 : Int32) (w1 : Int32) (hw : w_M_ints_74 s w0 w1) : X m_M_ints (d + 3) 74 [none, none, none, none, none] [.inl w0, .inl w1, .inr (.inr (some 28))] (hp s) (qIs (t_M_ints_74 s w0 w1)) := by
  unfold t_M_ints_74
  unfold w_M_ints_74 at hw
  obtain ⟨hin, hw⟩ := hw
  refine X_sI rfl rfl hin ?_
  show X _ _ 75 [none, none, none, none, none] [] (hp (pA s 28 (upd (sA s 28) (Int32.toNatClampNeg w1) w0))) _
  refine X_run 1 (i1 := 76) (L1 := [none, none, none, none, none]) (st1 := [.inl (0 : Int32)]) rfl ?_
  exact X_iret rfl rfl qIs_i
def t_M_ints_63 (s : St) (w0 : Int32) (w1 : Int32) : Int32 × St := ((0 : Int32), pA s 28 (upd (sA s 28) (Int32.toNatClampNeg w1) w0))
def w_M_ints_63 (s : St) (w0 : Int32) (w1 : Int32) : Prop := (vp_in w1 8 ∧ True)
theorem ct_M_ints_63 {d : Nat} (s : St) (w0 : Int32) (w1 : Int32) (hw : w_M_ints_63 s w0 w1) : X m_M_ints (d + 3) 63 [none, none, none, none, none] [.inl w0, .inl w1, .inr (.inr (some 28))] (hp s) (qIs (t_M_ints_63 s w0 w1)) := by
  unfold t_M_ints_63
  unfold w_M_ints_63 at hw
  obtain ⟨hin, hw⟩ := hw
  refine X_sI rfl rfl hin ?_
  show X _ _ 64 [none, none, none, none, none] [] (hp (pA s 28 (upd (sA s 28) (Int32.toNatClampNeg w1) w0))) _
  refine X_run 2 (i1 := 76) (L1 := [none, none, none, none, none]) (st1 := [.inl (0 : Int32)]) rfl ?_
  exact X_iret rfl rfl qIs_i
def t_M_ints_12 (s : St) (v1 : Int32) (v2 : Int32) (v3 : Int32) (v4 : Int32) : Int32 × St := (if v4 = (0 : Int32) then ((0 : Int32), pA s 28 (upd (sA s 28) (Int32.toNatClampNeg v1) (v2 + v3))) else (if v4 = (1 : Int32) then ((0 : Int32), pA s 28 (upd (sA s 28) (Int32.toNatClampNeg v1) (v2 - v3))) else (if v4 = (2 : Int32) then ((0 : Int32), pA s 28 (upd (sA s 28) (Int32.toNatClampNeg v1) (v2 * v3))) else (if v4 = (3 : Int32) then ((0 : Int32), pA s 28 (upd (sA s 28) (Int32.toNatClampNeg v1) (v2 / v3))) else (if v4 = (4 : Int32) then ((0 : Int32), pA s 28 (upd (sA s 28) (Int32.toNatClampNeg v1) (v2 - v2 / v3 * v3))) else (if v4 = (5 : Int32) then (cond (cn2 .ge v2 v3) (t_M_ints_63 s (0 : Int32) v1) (t_M_ints_63 s (1 : Int32) v1)) else (cond (cn2 .ne v2 v3) (t_M_ints_74 s (0 : Int32) v1) (t_M_ints_74 s (1 : Int32) v1))))))))
def w_M_ints_12 (s : St) (v1 : Int32) (v2 : Int32) (v3 : Int32) (v4 : Int32) : Prop := ((v4 = (0 : Int32) → (vp_in v1 8 ∧ True)) ∧ (¬ v4 = (0 : Int32) → ((v4 = (1 : Int32) → (vp_in v1 8 ∧ True)) ∧ (¬ v4 = (1 : Int32) → ((v4 = (2 : Int32) → (vp_in v1 8 ∧ True)) ∧ (¬ v4 = (2 : Int32) → ((v4 = (3 : Int32) → (¬ v3 = 0 ∧ (vp_in v1 8 ∧ True))) ∧ (¬ v4 = (3 : Int32) → ((v4 = (4 : Int32) → (¬ v3 = 0 ∧ (vp_in v1 8 ∧ True))) ∧ (¬ v4 = (4 : Int32) → ((v4 = (5 : Int32) → ((cn2 .ge v2 v3) = true → (w_M_ints_63 s (0 : Int32) v1)) ∧ ((cn2 .ge v2 v3) = false → (w_M_ints_63 s (1 : Int32) v1))) ∧ (¬ v4 = (5 : Int32) → ((cn2 .ne v2 v3) = true → (w_M_ints_74 s (0 : Int32) v1)) ∧ ((cn2 .ne v2 v3) = false → (w_M_ints_74 s (1 : Int32) v1))))))))))))))
theorem ct_M_ints_12 {d : Nat} (s : St) (v1 : Int32) (v2 : Int32) (v3 : Int32) (v4 : Int32) (hw : w_M_ints_12 s v1 v2 v3 v4) : X m_M_ints (d + 3) 12 [some (.inr (.inr (some 21))), some (.inl v1), some (.inl v2), some (.inl v3), some (.inl v4)] [] (hp s) (qIs (t_M_ints_12 s v1 v2 v3 v4)) := by
  unfold t_M_ints_12
  unfold w_M_ints_12 at hw
  refine X_run 1 (i1 := 13) (L1 := [some (.inr (.inr (some 21))), some (.inl v1), some (.inl v2), some (.inl v3), some (.inl v4)]) (st1 := [.inl v4]) rfl ?_
  refine X_itq (fun h => ?_) (fun h13_0 => ?_)
  · refine X_tsk rfl h rfl ?_
    have hw := hw.1 h
    refine X_run 1 (i1 := 15) (L1 := [some (.inr (.inr (some 21))), some (.inl v1), some (.inl v2), some (.inl v3), some (.inl v4)]) (st1 := [.inr (.inr (some 21))]) rfl ?_
    refine X_gF (v := .inr (.inr (some 28))) rfl rfl rfl rfl ?_
    refine X_run 4 (i1 := 20) (L1 := [some (.inr (.inr (some 21))), some (.inl v1), some (.inl v2), some (.inl v3), some (.inl v4)]) (st1 := [.inl (v2 + v3), .inl v1, .inr (.inr (some 28))]) rfl ?_
    obtain ⟨hin, hw⟩ := hw
    refine X_sI rfl rfl hin ?_
    show X _ _ 21 [some (.inr (.inr (some 21))), some (.inl v1), some (.inl v2), some (.inl v3), some (.inl v4)] [] (hp (pA s 28 (upd (sA s 28) (Int32.toNatClampNeg v1) (v2 + v3)))) _
    refine X_run 2 (i1 := 76) (L1 := [some (.inr (.inr (some 21))), some (.inl v1), some (.inl v2), some (.inl v3), some (.inl v4)]) (st1 := [.inl (0 : Int32)]) rfl ?_
    exact X_iret rfl rfl qIs_i
  have hw := hw.2 h13_0
  refine X_itq (fun h => ?_) (fun h13_1 => ?_)
  · refine X_tsk rfl h rfl ?_
    have hw := hw.1 h
    refine X_run 1 (i1 := 23) (L1 := [some (.inr (.inr (some 21))), some (.inl v1), some (.inl v2), some (.inl v3), some (.inl v4)]) (st1 := [.inr (.inr (some 21))]) rfl ?_
    refine X_gF (v := .inr (.inr (some 28))) rfl rfl rfl rfl ?_
    refine X_run 4 (i1 := 28) (L1 := [some (.inr (.inr (some 21))), some (.inl v1), some (.inl v2), some (.inl v3), some (.inl v4)]) (st1 := [.inl (v2 - v3), .inl v1, .inr (.inr (some 28))]) rfl ?_
    obtain ⟨hin, hw⟩ := hw
    refine X_sI rfl rfl hin ?_
    show X _ _ 29 [some (.inr (.inr (some 21))), some (.inl v1), some (.inl v2), some (.inl v3), some (.inl v4)] [] (hp (pA s 28 (upd (sA s 28) (Int32.toNatClampNeg v1) (v2 - v3)))) _
    refine X_run 2 (i1 := 76) (L1 := [some (.inr (.inr (some 21))), some (.inl v1), some (.inl v2), some (.inl v3), some (.inl v4)]) (st1 := [.inl (0 : Int32)]) rfl ?_
    exact X_iret rfl rfl qIs_i
  have hw := hw.2 h13_1
  refine X_itq (fun h => ?_) (fun h13_2 => ?_)
  · refine X_tsk rfl h rfl ?_
    have hw := hw.1 h
    refine X_run 1 (i1 := 31) (L1 := [some (.inr (.inr (some 21))), some (.inl v1), some (.inl v2), some (.inl v3), some (.inl v4)]) (st1 := [.inr (.inr (some 21))]) rfl ?_
    refine X_gF (v := .inr (.inr (some 28))) rfl rfl rfl rfl ?_
    refine X_run 4 (i1 := 36) (L1 := [some (.inr (.inr (some 21))), some (.inl v1), some (.inl v2), some (.inl v3), some (.inl v4)]) (st1 := [.inl (v2 * v3), .inl v1, .inr (.inr (some 28))]) rfl ?_
    obtain ⟨hin, hw⟩ := hw
    refine X_sI rfl rfl hin ?_
    show X _ _ 37 [some (.inr (.inr (some 21))), some (.inl v1), some (.inl v2), some (.inl v3), some (.inl v4)] [] (hp (pA s 28 (upd (sA s 28) (Int32.toNatClampNeg v1) (v2 * v3)))) _
    refine X_run 2 (i1 := 76) (L1 := [some (.inr (.inr (some 21))), some (.inl v1), some (.inl v2), some (.inl v3), some (.inl v4)]) (st1 := [.inl (0 : Int32)]) rfl ?_
    exact X_iret rfl rfl qIs_i
  have hw := hw.2 h13_2
  refine X_itq (fun h => ?_) (fun h13_3 => ?_)
  · refine X_tsk rfl h rfl ?_
    have hw := hw.1 h
    refine X_run 1 (i1 := 39) (L1 := [some (.inr (.inr (some 21))), some (.inl v1), some (.inl v2), some (.inl v3), some (.inl v4)]) (st1 := [.inr (.inr (some 21))]) rfl ?_
    refine X_gF (v := .inr (.inr (some 28))) rfl rfl rfl rfl ?_
    refine X_run 3 (i1 := 43) (L1 := [some (.inr (.inr (some 21))), some (.inl v1), some (.inl v2), some (.inl v3), some (.inl v4)]) (st1 := [.inl v3, .inl v2, .inl v1, .inr (.inr (some 28))]) rfl ?_
    obtain ⟨hy, hw⟩ := hw
    refine X_idiv rfl hy ?_
    obtain ⟨hin, hw⟩ := hw
    refine X_sI rfl rfl hin ?_
    show X _ _ 45 [some (.inr (.inr (some 21))), some (.inl v1), some (.inl v2), some (.inl v3), some (.inl v4)] [] (hp (pA s 28 (upd (sA s 28) (Int32.toNatClampNeg v1) (v2 / v3)))) _
    refine X_run 2 (i1 := 76) (L1 := [some (.inr (.inr (some 21))), some (.inl v1), some (.inl v2), some (.inl v3), some (.inl v4)]) (st1 := [.inl (0 : Int32)]) rfl ?_
    exact X_iret rfl rfl qIs_i
  have hw := hw.2 h13_3
  refine X_itq (fun h => ?_) (fun h13_4 => ?_)
  · refine X_tsk rfl h rfl ?_
    have hw := hw.1 h
    refine X_run 1 (i1 := 47) (L1 := [some (.inr (.inr (some 21))), some (.inl v1), some (.inl v2), some (.inl v3), some (.inl v4)]) (st1 := [.inr (.inr (some 21))]) rfl ?_
    refine X_gF (v := .inr (.inr (some 28))) rfl rfl rfl rfl ?_
    refine X_run 3 (i1 := 51) (L1 := [some (.inr (.inr (some 21))), some (.inl v1), some (.inl v2), some (.inl v3), some (.inl v4)]) (st1 := [.inl v3, .inl v2, .inl v1, .inr (.inr (some 28))]) rfl ?_
    obtain ⟨hy, hw⟩ := hw
    refine X_irem rfl hy ?_
    obtain ⟨hin, hw⟩ := hw
    refine X_sI rfl rfl hin ?_
    show X _ _ 53 [some (.inr (.inr (some 21))), some (.inl v1), some (.inl v2), some (.inl v3), some (.inl v4)] [] (hp (pA s 28 (upd (sA s 28) (Int32.toNatClampNeg v1) (v2 - v2 / v3 * v3)))) _
    refine X_run 2 (i1 := 76) (L1 := [some (.inr (.inr (some 21))), some (.inl v1), some (.inl v2), some (.inl v3), some (.inl v4)]) (st1 := [.inl (0 : Int32)]) rfl ?_
    exact X_iret rfl rfl qIs_i
  have hw := hw.2 h13_4
  refine X_itq (fun h => ?_) (fun h13_5 => ?_)
  · refine X_tsk rfl h rfl ?_
    have hw := hw.1 h
    refine X_run 1 (i1 := 55) (L1 := [some (.inr (.inr (some 21))), some (.inl v1), some (.inl v2), some (.inl v3), some (.inl v4)]) (st1 := [.inr (.inr (some 21))]) rfl ?_
    refine X_gF (v := .inr (.inr (some 28))) rfl rfl rfl rfl ?_
    refine X_run 4 (i1 := cond (cn2 .ge v2 v3) 62 60) (L1 := [some (.inr (.inr (some 21))), some (.inl v1), some (.inl v2), some (.inl v3), some (.inl v4)]) (st1 := [.inl v1, .inr (.inr (some 28))]) rfl ?_
    refine X_brq (fun hb => ?_) (fun hb => ?_)
    · have hw := hw.1 hb
      refine X_run 1 (i1 := 63) (L1 := [some (.inr (.inr (some 21))), some (.inl v1), some (.inl v2), some (.inl v3), some (.inl v4)]) (st1 := [.inl (0 : Int32), .inl v1, .inr (.inr (some 28))]) rfl ?_
      refine X_mask [false, false, false, false, false] ?_
      exact ct_M_ints_63 s (0 : Int32) v1 hw
    · have hw := hw.2 hb
      refine X_run 2 (i1 := 63) (L1 := [some (.inr (.inr (some 21))), some (.inl v1), some (.inl v2), some (.inl v3), some (.inl v4)]) (st1 := [.inl (1 : Int32), .inl v1, .inr (.inr (some 28))]) rfl ?_
      refine X_mask [false, false, false, false, false] ?_
      exact ct_M_ints_63 s (1 : Int32) v1 hw
  have hw := hw.2 h13_5
  refine X_tsd rfl ((sw_out (0) 6 (by decide) (by decide) (fun j hj => by
    match j, hj with
    | 0, _ => exact h13_0
    | 1, _ => exact h13_1
    | 2, _ => exact h13_2
    | 3, _ => exact h13_3
    | 4, _ => exact h13_4
    | 5, _ => exact h13_5
    | j + 6, hj => exact absurd hj (by omega))).imp id (fun h => by omega)) ?_
  refine X_run 1 (i1 := 66) (L1 := [some (.inr (.inr (some 21))), some (.inl v1), some (.inl v2), some (.inl v3), some (.inl v4)]) (st1 := [.inr (.inr (some 21))]) rfl ?_
  refine X_gF (v := .inr (.inr (some 28))) rfl rfl rfl rfl ?_
  refine X_run 4 (i1 := cond (cn2 .ne v2 v3) 73 71) (L1 := [some (.inr (.inr (some 21))), some (.inl v1), some (.inl v2), some (.inl v3), some (.inl v4)]) (st1 := [.inl v1, .inr (.inr (some 28))]) rfl ?_
  refine X_brq (fun hb => ?_) (fun hb => ?_)
  · have hw := hw.1 hb
    refine X_run 1 (i1 := 74) (L1 := [some (.inr (.inr (some 21))), some (.inl v1), some (.inl v2), some (.inl v3), some (.inl v4)]) (st1 := [.inl (0 : Int32), .inl v1, .inr (.inr (some 28))]) rfl ?_
    refine X_mask [false, false, false, false, false] ?_
    exact ct_M_ints_74 s (0 : Int32) v1 hw
  · have hw := hw.2 hb
    refine X_run 2 (i1 := 74) (L1 := [some (.inr (.inr (some 21))), some (.inl v1), some (.inl v2), some (.inl v3), some (.inl v4)]) (st1 := [.inl (1 : Int32), .inl v1, .inr (.inr (some 28))]) rfl ?_
    refine X_mask [false, false, false, false, false] ?_
    exact ct_M_ints_74 s (1 : Int32) v1 hw
def f_M_ints (s : St) (a0 : Int32) (a1 : Int32) (a2 : Int32) (a3 : Int32) : Int32 × St := (cond (cn2 .le a3 (2 : Int32)) (t_M_ints_12 s a0 a1 a2 a3) (cond (cn2 .ge a3 (5 : Int32)) (t_M_ints_12 s a0 a1 a2 a3) (cond (cn1 .ne a2) (t_M_ints_12 s a0 a1 a2 a3) (f_M_fails s (6 : Int32)))))
def w_M_ints (s : St) (a0 : Int32) (a1 : Int32) (a2 : Int32) (a3 : Int32) : Prop := ((cn2 .le a3 (2 : Int32)) = true → (w_M_ints_12 s a0 a1 a2 a3)) ∧ ((cn2 .le a3 (2 : Int32)) = false → ((cn2 .ge a3 (5 : Int32)) = true → (w_M_ints_12 s a0 a1 a2 a3)) ∧ ((cn2 .ge a3 (5 : Int32)) = false → ((cn1 .ne a2) = true → (w_M_ints_12 s a0 a1 a2 a3)) ∧ ((cn1 .ne a2) = false → (w_M_fails s (6 : Int32) ∧ True))))
theorem c_M_ints {d : Nat} (s : St) (a0 : Int32) (a1 : Int32) (a2 : Int32) (a3 : Int32) (hw : w_M_ints s a0 a1 a2 a3) : X m_M_ints (d + 3) 0 (entL 5 [.inr (.inr (some 21)), .inl a0, .inl a1, .inl a2, .inl a3]) [] (hp s) (qIs (f_M_ints s a0 a1 a2 a3)) := by
  unfold f_M_ints
  unfold w_M_ints at hw
  refine X_run 3 (i1 := cond (cn2 .le a3 (2 : Int32)) 12 3) (L1 := [some (.inr (.inr (some 21))), some (.inl a0), some (.inl a1), some (.inl a2), some (.inl a3)]) (st1 := []) rfl ?_
  refine X_brq (fun hb => ?_) (fun hb => ?_)
  · have hw := hw.1 hb
    exact ct_M_ints_12 s a0 a1 a2 a3 hw
  · have hw := hw.2 hb
    refine X_run 3 (i1 := cond (cn2 .ge a3 (5 : Int32)) 12 6) (L1 := [some (.inr (.inr (some 21))), some (.inl a0), some (.inl a1), some (.inl a2), some (.inl a3)]) (st1 := []) rfl ?_
    refine X_brq (fun hb => ?_) (fun hb => ?_)
    · have hw := hw.1 hb
      exact ct_M_ints_12 s a0 a1 a2 a3 hw
    · have hw := hw.2 hb
      refine X_run 2 (i1 := cond (cn1 .ne a2) 12 8) (L1 := [some (.inr (.inr (some 21))), some (.inl a0), some (.inl a1), some (.inl a2), some (.inl a3)]) (st1 := []) rfl ?_
      refine X_brq (fun hb => ?_) (fun hb => ?_)
      · have hw := hw.1 hb
        exact ct_M_ints_12 s a0 a1 a2 a3 hw
      · have hw := hw.2 hb
        refine X_run 2 (i1 := 10) (L1 := [some (.inr (.inr (some 21))), some (.inl a0), some (.inl a1), some (.inl a2), some (.inl a3)]) (st1 := [.inl (6 : Int32), .inr (.inr (some 21))]) rfl ?_
        obtain ⟨hc, hw⟩ := hw
        refine X_callv m_M_fails (As := [.inl (6 : Int32)]) (st := []) ok_M_fails rfl rfl rfl (hp_obj rfl) rfl (Nat.le_of_ble_eq_true rfl) (Nat.le_of_ble_eq_true rfl) (c_M_fails (d := d) s (6 : Int32) hc) ?_
        rintro _ _ ⟨rfl, rfl⟩
        show X _ _ 11 [some (.inr (.inr (some 21))), some (.inl a0), some (.inl a1), some (.inl a2), some (.inl a3)] [.inl ((f_M_fails s (6 : Int32)).1)] (hp ((f_M_fails s (6 : Int32)).2)) _
        exact X_iret rfl rfl qIs_p
def t_M_reckons_200 (fu : Nat) (s : St) (w0 : Int32) (w1 : Int32) : Int32 × St := ((0 : Int32), pA s 28 (upd (sA s 28) (Int32.toNatClampNeg w1) w0))
def w_M_reckons_200 (fu : Nat) (s : St) (w0 : Int32) (w1 : Int32) : Prop := (vp_in w1 8 ∧ True)
theorem ct_M_reckons_200 {d : Nat} (fu : Nat) (s : St) (w0 : Int32) (w1 : Int32) (hw : w_M_reckons_200 fu s w0 w1) : X m_M_reckons (d + 5) 200 [none, none, none, none, none, none, none, none] [.inl w0, .inl w1, .inr (.inr (some 28))] (hp s) (qIs (t_M_reckons_200 fu s w0 w1)) := by
  unfold t_M_reckons_200
  unfold w_M_reckons_200 at hw
  obtain ⟨hin, hw⟩ := hw
  refine X_sI rfl rfl hin ?_
  show X _ _ 201 [none, none, none, none, none, none, none, none] [] (hp (pA s 28 (upd (sA s 28) (Int32.toNatClampNeg w1) w0))) _
  refine X_run 2 (i1 := 203) (L1 := [none, none, none, none, none, none, none, none]) (st1 := [.inl (0 : Int32)]) rfl ?_
  exact X_iret rfl rfl qIs_i
def t_M_reckons_191 (fu : Nat) (s : St) (v3 : Int32) (w0 : Int32) : Int32 × St := (cond (cn1 .eq w0) (t_M_reckons_200 fu s (0 : Int32) v3) (t_M_reckons_200 fu s (1 : Int32) v3))
def w_M_reckons_191 (fu : Nat) (s : St) (v3 : Int32) (w0 : Int32) : Prop := ((cn1 .eq w0) = true → (w_M_reckons_200 fu s (0 : Int32) v3)) ∧ ((cn1 .eq w0) = false → (w_M_reckons_200 fu s (1 : Int32) v3))
theorem ct_M_reckons_191 {d : Nat} (fu : Nat) (s : St) (v3 : Int32) (w0 : Int32) (hw : w_M_reckons_191 fu s v3 w0) : X m_M_reckons (d + 5) 191 [some (.inr (.inr (some 21))), none, none, some (.inl v3), none, none, none, none] [.inl w0] (hp s) (qIs (t_M_reckons_191 fu s v3 w0)) := by
  unfold t_M_reckons_191
  unfold w_M_reckons_191 at hw
  refine X_run 2 (i1 := 193) (L1 := [some (.inr (.inr (some 21))), none, none, some (.inl v3), none, none, none, some (.inl w0)]) (st1 := [.inr (.inr (some 21))]) rfl ?_
  refine X_gF (v := .inr (.inr (some 28))) rfl rfl rfl rfl ?_
  refine X_run 3 (i1 := cond (cn1 .eq w0) 199 197) (L1 := [some (.inr (.inr (some 21))), none, none, some (.inl v3), none, none, none, some (.inl w0)]) (st1 := [.inl v3, .inr (.inr (some 28))]) rfl ?_
  refine X_brq (fun hb => ?_) (fun hb => ?_)
  · have hw := hw.1 hb
    refine X_run 1 (i1 := 200) (L1 := [some (.inr (.inr (some 21))), none, none, some (.inl v3), none, none, none, some (.inl w0)]) (st1 := [.inl (0 : Int32), .inl v3, .inr (.inr (some 28))]) rfl ?_
    refine X_mask [false, true, true, false, true, true, true, false] ?_
    exact ct_M_reckons_200 fu s (0 : Int32) v3 hw
  · have hw := hw.2 hb
    refine X_run 2 (i1 := 200) (L1 := [some (.inr (.inr (some 21))), none, none, some (.inl v3), none, none, none, some (.inl w0)]) (st1 := [.inl (1 : Int32), .inl v3, .inr (.inr (some 28))]) rfl ?_
    refine X_mask [false, true, true, false, true, true, true, false] ?_
    exact ct_M_reckons_200 fu s (1 : Int32) v3 hw
def t_M_reckons_190 (fu : Nat) (s : St) (v3 : Int32) : Int32 × St := (t_M_reckons_191 fu s v3 (0 : Int32))
def w_M_reckons_190 (fu : Nat) (s : St) (v3 : Int32) : Prop := (w_M_reckons_191 fu s v3 (0 : Int32))
theorem ct_M_reckons_190 {d : Nat} (fu : Nat) (s : St) (v3 : Int32) (hw : w_M_reckons_190 fu s v3) : X m_M_reckons (d + 5) 190 [some (.inr (.inr (some 21))), none, none, some (.inl v3), none, none, none, none] [] (hp s) (qIs (t_M_reckons_190 fu s v3)) := by
  unfold t_M_reckons_190
  unfold w_M_reckons_190 at hw
  refine X_run 1 (i1 := 191) (L1 := [some (.inr (.inr (some 21))), none, none, some (.inl v3), none, none, none, none]) (st1 := [.inl (0 : Int32)]) rfl ?_
  exact ct_M_reckons_191 fu s v3 (0 : Int32) hw
def t_M_reckons_188 (fu : Nat) (s : St) (v3 : Int32) : Int32 × St := (t_M_reckons_191 fu s v3 (1 : Int32))
def w_M_reckons_188 (fu : Nat) (s : St) (v3 : Int32) : Prop := (w_M_reckons_191 fu s v3 (1 : Int32))
theorem ct_M_reckons_188 {d : Nat} (fu : Nat) (s : St) (v3 : Int32) (hw : w_M_reckons_188 fu s v3) : X m_M_reckons (d + 5) 188 [some (.inr (.inr (some 21))), none, none, some (.inl v3), none, none, none, none] [] (hp s) (qIs (t_M_reckons_188 fu s v3)) := by
  unfold t_M_reckons_188
  unfold w_M_reckons_188 at hw
  refine X_run 2 (i1 := 191) (L1 := [some (.inr (.inr (some 21))), none, none, some (.inl v3), none, none, none, none]) (st1 := [.inl (1 : Int32)]) rfl ?_
  exact ct_M_reckons_191 fu s v3 (1 : Int32) hw
def t_M_reckons_144 (fu : Nat) (s : St) (v2 : Int32) (v3 : Int32) (v5 : Int32) : Int32 × St := (cond (cn2 .ne (sA s 30 (Int32.toNatClampNeg (v2 + (3 : Int32)))) (5 : Int32)) (cond (cn2 .eq v5 (2 : Int32)) (t_M_reckons_190 fu s v3) (cond (cn1 .ne (sA s 30 (Int32.toNatClampNeg (v2 + (3 : Int32))))) (cond (cn2 .ne (sA s 30 (Int32.toNatClampNeg (v2 + (3 : Int32)))) (1 : Int32)) (cond (cn2 .ne (sA s 30 (Int32.toNatClampNeg (v2 + (3 : Int32)))) (2 : Int32)) (cond (cn2 .ne (sA s 30 (Int32.toNatClampNeg (v2 + (3 : Int32)))) (3 : Int32)) (cond (cn1 .ne v5) (t_M_reckons_190 fu s v3) (t_M_reckons_188 fu s v3)) (cond (cn1 .lt v5) (t_M_reckons_190 fu s v3) (t_M_reckons_188 fu s v3))) (cond (cn1 .le v5) (t_M_reckons_190 fu s v3) (t_M_reckons_188 fu s v3))) (cond (cn1 .gt v5) (t_M_reckons_190 fu s v3) (t_M_reckons_188 fu s v3))) (cond (cn1 .ge v5) (t_M_reckons_190 fu s v3) (t_M_reckons_188 fu s v3)))) (cond (cn1 .eq v5) (t_M_reckons_191 fu s v3 (0 : Int32)) (t_M_reckons_191 fu s v3 (1 : Int32))))
def w_M_reckons_144 (fu : Nat) (s : St) (v2 : Int32) (v3 : Int32) (v5 : Int32) : Prop := (vp_in (v2 + (3 : Int32)) 3200 ∧ ((cn2 .ne (sA s 30 (Int32.toNatClampNeg (v2 + (3 : Int32)))) (5 : Int32)) = true → ((cn2 .eq v5 (2 : Int32)) = true → (w_M_reckons_190 fu s v3)) ∧ ((cn2 .eq v5 (2 : Int32)) = false → ((cn1 .ne (sA s 30 (Int32.toNatClampNeg (v2 + (3 : Int32))))) = true → ((cn2 .ne (sA s 30 (Int32.toNatClampNeg (v2 + (3 : Int32)))) (1 : Int32)) = true → ((cn2 .ne (sA s 30 (Int32.toNatClampNeg (v2 + (3 : Int32)))) (2 : Int32)) = true → ((cn2 .ne (sA s 30 (Int32.toNatClampNeg (v2 + (3 : Int32)))) (3 : Int32)) = true → ((cn1 .ne v5) = true → (w_M_reckons_190 fu s v3)) ∧ ((cn1 .ne v5) = false → (w_M_reckons_188 fu s v3))) ∧ ((cn2 .ne (sA s 30 (Int32.toNatClampNeg (v2 + (3 : Int32)))) (3 : Int32)) = false → ((cn1 .lt v5) = true → (w_M_reckons_190 fu s v3)) ∧ ((cn1 .lt v5) = false → (w_M_reckons_188 fu s v3)))) ∧ ((cn2 .ne (sA s 30 (Int32.toNatClampNeg (v2 + (3 : Int32)))) (2 : Int32)) = false → ((cn1 .le v5) = true → (w_M_reckons_190 fu s v3)) ∧ ((cn1 .le v5) = false → (w_M_reckons_188 fu s v3)))) ∧ ((cn2 .ne (sA s 30 (Int32.toNatClampNeg (v2 + (3 : Int32)))) (1 : Int32)) = false → ((cn1 .gt v5) = true → (w_M_reckons_190 fu s v3)) ∧ ((cn1 .gt v5) = false → (w_M_reckons_188 fu s v3)))) ∧ ((cn1 .ne (sA s 30 (Int32.toNatClampNeg (v2 + (3 : Int32))))) = false → ((cn1 .ge v5) = true → (w_M_reckons_190 fu s v3)) ∧ ((cn1 .ge v5) = false → (w_M_reckons_188 fu s v3))))) ∧ ((cn2 .ne (sA s 30 (Int32.toNatClampNeg (v2 + (3 : Int32)))) (5 : Int32)) = false → ((cn1 .eq v5) = true → (w_M_reckons_191 fu s v3 (0 : Int32))) ∧ ((cn1 .eq v5) = false → (w_M_reckons_191 fu s v3 (1 : Int32)))))
theorem ct_M_reckons_144 {d : Nat} (fu : Nat) (s : St) (v2 : Int32) (v3 : Int32) (v5 : Int32) (hw : w_M_reckons_144 fu s v2 v3 v5) : X m_M_reckons (d + 5) 144 [some (.inr (.inr (some 21))), none, some (.inl v2), some (.inl v3), none, some (.inl v5), none, none] [] (hp s) (qIs (t_M_reckons_144 fu s v2 v3 v5)) := by
  unfold t_M_reckons_144
  unfold w_M_reckons_144 at hw
  refine X_run 1 (i1 := 145) (L1 := [some (.inr (.inr (some 21))), none, some (.inl v2), some (.inl v3), none, some (.inl v5), none, none]) (st1 := [.inr (.inr (some 21))]) rfl ?_
  refine X_gF (v := .inr (.inr (some 30))) rfl rfl rfl rfl ?_
  refine X_run 3 (i1 := 149) (L1 := [some (.inr (.inr (some 21))), none, some (.inl v2), some (.inl v3), none, some (.inl v5), none, none]) (st1 := [.inl (v2 + (3 : Int32)), .inr (.inr (some 30))]) rfl ?_
  obtain ⟨hin, hw⟩ := hw
  refine X_aI rfl rfl hin ?_
  show X _ _ 150 [some (.inr (.inr (some 21))), none, some (.inl v2), some (.inl v3), none, some (.inl v5), none, none] [.inl (sA s 30 (Int32.toNatClampNeg (v2 + (3 : Int32))))] (hp s) _
  refine X_run 4 (i1 := cond (cn2 .ne (sA s 30 (Int32.toNatClampNeg (v2 + (3 : Int32)))) (5 : Int32)) 160 154) (L1 := [some (.inr (.inr (some 21))), none, some (.inl v2), some (.inl v3), none, some (.inl v5), some (.inl (sA s 30 (Int32.toNatClampNeg (v2 + (3 : Int32))))), none]) (st1 := []) rfl ?_
  refine X_brq (fun hb => ?_) (fun hb => ?_)
  · have hw := hw.1 hb
    refine X_run 3 (i1 := cond (cn2 .eq v5 (2 : Int32)) 190 163) (L1 := [some (.inr (.inr (some 21))), none, some (.inl v2), some (.inl v3), none, some (.inl v5), some (.inl (sA s 30 (Int32.toNatClampNeg (v2 + (3 : Int32))))), none]) (st1 := []) rfl ?_
    refine X_brq (fun hb => ?_) (fun hb => ?_)
    · have hw := hw.1 hb
      refine X_mask [true, true, false, true, true, false, false, true] ?_
      exact ct_M_reckons_190 fu s v3 hw
    · have hw := hw.2 hb
      refine X_run 2 (i1 := cond (cn1 .ne (sA s 30 (Int32.toNatClampNeg (v2 + (3 : Int32))))) 168 165) (L1 := [some (.inr (.inr (some 21))), none, some (.inl v2), some (.inl v3), none, some (.inl v5), some (.inl (sA s 30 (Int32.toNatClampNeg (v2 + (3 : Int32))))), none]) (st1 := []) rfl ?_
      refine X_brq (fun hb => ?_) (fun hb => ?_)
      · have hw := hw.1 hb
        refine X_run 3 (i1 := cond (cn2 .ne (sA s 30 (Int32.toNatClampNeg (v2 + (3 : Int32)))) (1 : Int32)) 174 171) (L1 := [some (.inr (.inr (some 21))), none, some (.inl v2), some (.inl v3), none, some (.inl v5), some (.inl (sA s 30 (Int32.toNatClampNeg (v2 + (3 : Int32))))), none]) (st1 := []) rfl ?_
        refine X_brq (fun hb => ?_) (fun hb => ?_)
        · have hw := hw.1 hb
          refine X_run 3 (i1 := cond (cn2 .ne (sA s 30 (Int32.toNatClampNeg (v2 + (3 : Int32)))) (2 : Int32)) 180 177) (L1 := [some (.inr (.inr (some 21))), none, some (.inl v2), some (.inl v3), none, some (.inl v5), some (.inl (sA s 30 (Int32.toNatClampNeg (v2 + (3 : Int32))))), none]) (st1 := []) rfl ?_
          refine X_brq (fun hb => ?_) (fun hb => ?_)
          · have hw := hw.1 hb
            refine X_run 3 (i1 := cond (cn2 .ne (sA s 30 (Int32.toNatClampNeg (v2 + (3 : Int32)))) (3 : Int32)) 186 183) (L1 := [some (.inr (.inr (some 21))), none, some (.inl v2), some (.inl v3), none, some (.inl v5), some (.inl (sA s 30 (Int32.toNatClampNeg (v2 + (3 : Int32))))), none]) (st1 := []) rfl ?_
            refine X_brq (fun hb => ?_) (fun hb => ?_)
            · have hw := hw.1 hb
              refine X_run 2 (i1 := cond (cn1 .ne v5) 190 188) (L1 := [some (.inr (.inr (some 21))), none, some (.inl v2), some (.inl v3), none, some (.inl v5), some (.inl (sA s 30 (Int32.toNatClampNeg (v2 + (3 : Int32))))), none]) (st1 := []) rfl ?_
              refine X_brq (fun hb => ?_) (fun hb => ?_)
              · have hw := hw.1 hb
                refine X_mask [true, true, false, true, true, false, false, true] ?_
                exact ct_M_reckons_190 fu s v3 hw
              · have hw := hw.2 hb
                refine X_mask [true, true, false, true, true, false, false, true] ?_
                exact ct_M_reckons_188 fu s v3 hw
            · have hw := hw.2 hb
              refine X_run 2 (i1 := cond (cn1 .lt v5) 190 185) (L1 := [some (.inr (.inr (some 21))), none, some (.inl v2), some (.inl v3), none, some (.inl v5), some (.inl (sA s 30 (Int32.toNatClampNeg (v2 + (3 : Int32))))), none]) (st1 := []) rfl ?_
              refine X_brq (fun hb => ?_) (fun hb => ?_)
              · have hw := hw.1 hb
                refine X_mask [true, true, false, true, true, false, false, true] ?_
                exact ct_M_reckons_190 fu s v3 hw
              · have hw := hw.2 hb
                refine X_run 1 (i1 := 188) (L1 := [some (.inr (.inr (some 21))), none, some (.inl v2), some (.inl v3), none, some (.inl v5), some (.inl (sA s 30 (Int32.toNatClampNeg (v2 + (3 : Int32))))), none]) (st1 := []) rfl ?_
                refine X_mask [true, true, false, true, true, false, false, true] ?_
                exact ct_M_reckons_188 fu s v3 hw
          · have hw := hw.2 hb
            refine X_run 2 (i1 := cond (cn1 .le v5) 190 179) (L1 := [some (.inr (.inr (some 21))), none, some (.inl v2), some (.inl v3), none, some (.inl v5), some (.inl (sA s 30 (Int32.toNatClampNeg (v2 + (3 : Int32))))), none]) (st1 := []) rfl ?_
            refine X_brq (fun hb => ?_) (fun hb => ?_)
            · have hw := hw.1 hb
              refine X_mask [true, true, false, true, true, false, false, true] ?_
              exact ct_M_reckons_190 fu s v3 hw
            · have hw := hw.2 hb
              refine X_run 1 (i1 := 188) (L1 := [some (.inr (.inr (some 21))), none, some (.inl v2), some (.inl v3), none, some (.inl v5), some (.inl (sA s 30 (Int32.toNatClampNeg (v2 + (3 : Int32))))), none]) (st1 := []) rfl ?_
              refine X_mask [true, true, false, true, true, false, false, true] ?_
              exact ct_M_reckons_188 fu s v3 hw
        · have hw := hw.2 hb
          refine X_run 2 (i1 := cond (cn1 .gt v5) 190 173) (L1 := [some (.inr (.inr (some 21))), none, some (.inl v2), some (.inl v3), none, some (.inl v5), some (.inl (sA s 30 (Int32.toNatClampNeg (v2 + (3 : Int32))))), none]) (st1 := []) rfl ?_
          refine X_brq (fun hb => ?_) (fun hb => ?_)
          · have hw := hw.1 hb
            refine X_mask [true, true, false, true, true, false, false, true] ?_
            exact ct_M_reckons_190 fu s v3 hw
          · have hw := hw.2 hb
            refine X_run 1 (i1 := 188) (L1 := [some (.inr (.inr (some 21))), none, some (.inl v2), some (.inl v3), none, some (.inl v5), some (.inl (sA s 30 (Int32.toNatClampNeg (v2 + (3 : Int32))))), none]) (st1 := []) rfl ?_
            refine X_mask [true, true, false, true, true, false, false, true] ?_
            exact ct_M_reckons_188 fu s v3 hw
      · have hw := hw.2 hb
        refine X_run 2 (i1 := cond (cn1 .ge v5) 190 167) (L1 := [some (.inr (.inr (some 21))), none, some (.inl v2), some (.inl v3), none, some (.inl v5), some (.inl (sA s 30 (Int32.toNatClampNeg (v2 + (3 : Int32))))), none]) (st1 := []) rfl ?_
        refine X_brq (fun hb => ?_) (fun hb => ?_)
        · have hw := hw.1 hb
          refine X_mask [true, true, false, true, true, false, false, true] ?_
          exact ct_M_reckons_190 fu s v3 hw
        · have hw := hw.2 hb
          refine X_run 1 (i1 := 188) (L1 := [some (.inr (.inr (some 21))), none, some (.inl v2), some (.inl v3), none, some (.inl v5), some (.inl (sA s 30 (Int32.toNatClampNeg (v2 + (3 : Int32))))), none]) (st1 := []) rfl ?_
          refine X_mask [true, true, false, true, true, false, false, true] ?_
          exact ct_M_reckons_188 fu s v3 hw
  · have hw := hw.2 hb
    refine X_run 2 (i1 := cond (cn1 .eq v5) 158 156) (L1 := [some (.inr (.inr (some 21))), none, some (.inl v2), some (.inl v3), none, some (.inl v5), some (.inl (sA s 30 (Int32.toNatClampNeg (v2 + (3 : Int32))))), none]) (st1 := []) rfl ?_
    refine X_brq (fun hb => ?_) (fun hb => ?_)
    · have hw := hw.1 hb
      refine X_run 2 (i1 := 191) (L1 := [some (.inr (.inr (some 21))), none, some (.inl v2), some (.inl v3), none, some (.inl v5), some (.inl (sA s 30 (Int32.toNatClampNeg (v2 + (3 : Int32))))), none]) (st1 := [.inl (0 : Int32)]) rfl ?_
      refine X_mask [true, true, false, true, true, false, false, true] ?_
      exact ct_M_reckons_191 fu s v3 (0 : Int32) hw
    · have hw := hw.2 hb
      refine X_run 2 (i1 := 191) (L1 := [some (.inr (.inr (some 21))), none, some (.inl v2), some (.inl v3), none, some (.inl v5), some (.inl (sA s 30 (Int32.toNatClampNeg (v2 + (3 : Int32))))), none]) (st1 := [.inl (1 : Int32)]) rfl ?_
      refine X_mask [true, true, false, true, true, false, false, true] ?_
      exact ct_M_reckons_191 fu s v3 (1 : Int32) hw
def f_M_reckons (fu : Nat) (s : St) (a0 : Int32) (a1 : Int32) : Int32 × St := (if a0 = (1 : Int32) then ((0 : Int32), pA s 28 (upd (sA s 28) (Int32.toNatClampNeg (sA s 30 (Int32.toNatClampNeg a1))) (f_M_eight fu s (a1 + (1 : Int32)) (4 : Int32)))) else (if a0 = (2 : Int32) then ((0 : Int32), pA s 28 (upd (sA s 28) (Int32.toNatClampNeg (sA s 30 (Int32.toNatClampNeg a1))) (sA s 28 (Int32.toNatClampNeg (sA s 30 (Int32.toNatClampNeg (a1 + (1 : Int32)))))))) else (if a0 = (3 : Int32) then (f_M_ints s (sA s 30 (Int32.toNatClampNeg a1)) (sA s 28 (Int32.toNatClampNeg (sA s 30 (Int32.toNatClampNeg a1)))) (sA s 28 (Int32.toNatClampNeg (sA s 30 (Int32.toNatClampNeg (a1 + (1 : Int32)))))) (sA s 30 (Int32.toNatClampNeg (a1 + (2 : Int32))))) else (if a0 = (4 : Int32) then ((0 : Int32), pB s 29 (vp_updL (sB s 29) (Int32.toNatClampNeg (sA s 30 (Int32.toNatClampNeg a1))) (f_M_kept (((Int32.toInt64 (f_M_eight fu s (a1 + (1 : Int32)) (4 : Int32))) <<< (Int32.toInt64 (32 : Int32) &&& 63)) ||| ((Int32.toInt64 (f_M_eight fu s (a1 + (5 : Int32)) (4 : Int32))) &&& (4294967295 : Int64)))))) else (if a0 = (5 : Int32) then ((0 : Int32), pB s 29 (vp_updL (sB s 29) (Int32.toNatClampNeg (sA s 30 (Int32.toNatClampNeg a1))) (f_M_realOf (Int32.toInt64 (sA s 28 (Int32.toNatClampNeg (sA s 30 (Int32.toNatClampNeg (a1 + (1 : Int32)))))))))) else (if a0 = (6 : Int32) then ((0 : Int32), pA s 28 (upd (sA s 28) (Int32.toNatClampNeg (sA s 30 (Int32.toNatClampNeg a1))) (f_M_whole (sB s 29 (Int32.toNatClampNeg (sA s 30 (Int32.toNatClampNeg (a1 + (1 : Int32))))))))) else (if a0 = (7 : Int32) then ((0 : Int32), pB s 29 (vp_updL (sB s 29) (Int32.toNatClampNeg (sA s 30 (Int32.toNatClampNeg a1))) (f_M_two (sB s 29 (Int32.toNatClampNeg (sA s 30 (Int32.toNatClampNeg a1)))) (sB s 29 (Int32.toNatClampNeg (sA s 30 (Int32.toNatClampNeg (a1 + (1 : Int32)))))) (sA s 30 (Int32.toNatClampNeg (a1 + (2 : Int32))))))) else (if a0 = (8 : Int32) then ((0 : Int32), pB s 29 (vp_updL (sB s 29) (Int32.toNatClampNeg (sA s 30 (Int32.toNatClampNeg a1))) (f_M_one (sB s 29 (Int32.toNatClampNeg (sA s 30 (Int32.toNatClampNeg a1)))) (sA s 30 (Int32.toNatClampNeg (a1 + (1 : Int32))))))) else (t_M_reckons_144 fu s a1 (sA s 30 (Int32.toNatClampNeg a1)) (f_M_order (sB s 29 (Int32.toNatClampNeg (sA s 30 (Int32.toNatClampNeg (a1 + (1 : Int32)))))) (sB s 29 (Int32.toNatClampNeg (sA s 30 (Int32.toNatClampNeg (a1 + (2 : Int32))))))))))))))))
def w_M_reckons (fu : Nat) (s : St) (a0 : Int32) (a1 : Int32) : Prop := (vp_in a1 3200 ∧ (vp_in (a1 + (1 : Int32)) 3200 ∧ ((a0 = (1 : Int32) → (w_M_eight fu s (a1 + (1 : Int32)) (4 : Int32) ∧ (vp_in (sA s 30 (Int32.toNatClampNeg a1)) 8 ∧ True))) ∧ (¬ a0 = (1 : Int32) → ((a0 = (2 : Int32) → (vp_in (sA s 30 (Int32.toNatClampNeg (a1 + (1 : Int32)))) 8 ∧ (vp_in (sA s 30 (Int32.toNatClampNeg a1)) 8 ∧ True))) ∧ (¬ a0 = (2 : Int32) → ((a0 = (3 : Int32) → (vp_in (sA s 30 (Int32.toNatClampNeg a1)) 8 ∧ (vp_in (sA s 30 (Int32.toNatClampNeg (a1 + (1 : Int32)))) 8 ∧ (vp_in (a1 + (2 : Int32)) 3200 ∧ (w_M_ints s (sA s 30 (Int32.toNatClampNeg a1)) (sA s 28 (Int32.toNatClampNeg (sA s 30 (Int32.toNatClampNeg a1)))) (sA s 28 (Int32.toNatClampNeg (sA s 30 (Int32.toNatClampNeg (a1 + (1 : Int32)))))) (sA s 30 (Int32.toNatClampNeg (a1 + (2 : Int32)))) ∧ True))))) ∧ (¬ a0 = (3 : Int32) → ((a0 = (4 : Int32) → (w_M_eight fu s (a1 + (1 : Int32)) (4 : Int32) ∧ (w_M_eight fu s (a1 + (5 : Int32)) (4 : Int32) ∧ (vp_in (sA s 30 (Int32.toNatClampNeg a1)) 4 ∧ True)))) ∧ (¬ a0 = (4 : Int32) → ((a0 = (5 : Int32) → (vp_in (sA s 30 (Int32.toNatClampNeg (a1 + (1 : Int32)))) 8 ∧ (vp_in (sA s 30 (Int32.toNatClampNeg a1)) 4 ∧ True))) ∧ (¬ a0 = (5 : Int32) → ((a0 = (6 : Int32) → (vp_in (sA s 30 (Int32.toNatClampNeg (a1 + (1 : Int32)))) 4 ∧ (vp_in (sA s 30 (Int32.toNatClampNeg a1)) 8 ∧ True))) ∧ (¬ a0 = (6 : Int32) → ((a0 = (7 : Int32) → (vp_in (sA s 30 (Int32.toNatClampNeg a1)) 4 ∧ (vp_in (sA s 30 (Int32.toNatClampNeg (a1 + (1 : Int32)))) 4 ∧ (vp_in (a1 + (2 : Int32)) 3200 ∧ (vp_in (sA s 30 (Int32.toNatClampNeg a1)) 4 ∧ True))))) ∧ (¬ a0 = (7 : Int32) → ((a0 = (8 : Int32) → (vp_in (sA s 30 (Int32.toNatClampNeg a1)) 4 ∧ (vp_in (sA s 30 (Int32.toNatClampNeg a1)) 4 ∧ True))) ∧ (¬ a0 = (8 : Int32) → (vp_in (sA s 30 (Int32.toNatClampNeg (a1 + (1 : Int32)))) 4 ∧ (vp_in (a1 + (2 : Int32)) 3200 ∧ (vp_in (sA s 30 (Int32.toNatClampNeg (a1 + (2 : Int32)))) 4 ∧ (w_M_reckons_144 fu s a1 (sA s 30 (Int32.toNatClampNeg a1)) (f_M_order (sB s 29 (Int32.toNatClampNeg (sA s 30 (Int32.toNatClampNeg (a1 + (1 : Int32)))))) (sB s 29 (Int32.toNatClampNeg (sA s 30 (Int32.toNatClampNeg (a1 + (2 : Int32)))))))))))))))))))))))))))))
theorem c_M_reckons {d : Nat} (fu : Nat) (s : St) (a0 : Int32) (a1 : Int32) (hw : w_M_reckons fu s a0 a1) : X m_M_reckons (d + 5) 0 (entL 8 [.inr (.inr (some 21)), .inl a0, .inl a1]) [] (hp s) (qIs (f_M_reckons fu s a0 a1)) := by
  unfold f_M_reckons
  unfold w_M_reckons at hw
  refine X_run 1 (i1 := 1) (L1 := [some (.inr (.inr (some 21))), some (.inl a0), some (.inl a1), none, none, none, none, none]) (st1 := [.inr (.inr (some 21))]) rfl ?_
  refine X_gF (v := .inr (.inr (some 30))) rfl rfl rfl rfl ?_
  refine X_run 1 (i1 := 3) (L1 := [some (.inr (.inr (some 21))), some (.inl a0), some (.inl a1), none, none, none, none, none]) (st1 := [.inl a1, .inr (.inr (some 30))]) rfl ?_
  obtain ⟨hin, hw⟩ := hw
  refine X_aI rfl rfl hin ?_
  show X _ _ 4 [some (.inr (.inr (some 21))), some (.inl a0), some (.inl a1), none, none, none, none, none] [.inl (sA s 30 (Int32.toNatClampNeg a1))] (hp s) _
  refine X_run 2 (i1 := 6) (L1 := [some (.inr (.inr (some 21))), some (.inl a0), some (.inl a1), some (.inl (sA s 30 (Int32.toNatClampNeg a1))), none, none, none, none]) (st1 := [.inr (.inr (some 21))]) rfl ?_
  refine X_gF (v := .inr (.inr (some 30))) rfl rfl rfl rfl ?_
  refine X_run 3 (i1 := 10) (L1 := [some (.inr (.inr (some 21))), some (.inl a0), some (.inl a1), some (.inl (sA s 30 (Int32.toNatClampNeg a1))), none, none, none, none]) (st1 := [.inl (a1 + (1 : Int32)), .inr (.inr (some 30))]) rfl ?_
  obtain ⟨hin, hw⟩ := hw
  refine X_aI rfl rfl hin ?_
  show X _ _ 11 [some (.inr (.inr (some 21))), some (.inl a0), some (.inl a1), some (.inl (sA s 30 (Int32.toNatClampNeg a1))), none, none, none, none] [.inl (sA s 30 (Int32.toNatClampNeg (a1 + (1 : Int32))))] (hp s) _
  refine X_run 2 (i1 := 13) (L1 := [some (.inr (.inr (some 21))), some (.inl a0), some (.inl a1), some (.inl (sA s 30 (Int32.toNatClampNeg a1))), some (.inl (sA s 30 (Int32.toNatClampNeg (a1 + (1 : Int32))))), none, none, none]) (st1 := [.inl a0]) rfl ?_
  refine X_itq (fun h => ?_) (fun h13_0 => ?_)
  · refine X_tsk rfl h rfl ?_
    have hw := hw.1 h
    refine X_run 1 (i1 := 15) (L1 := [some (.inr (.inr (some 21))), some (.inl a0), some (.inl a1), some (.inl (sA s 30 (Int32.toNatClampNeg a1))), some (.inl (sA s 30 (Int32.toNatClampNeg (a1 + (1 : Int32))))), none, none, none]) (st1 := [.inr (.inr (some 21))]) rfl ?_
    refine X_gF (v := .inr (.inr (some 28))) rfl rfl rfl rfl ?_
    refine X_run 6 (i1 := 22) (L1 := [some (.inr (.inr (some 21))), some (.inl a0), some (.inl a1), some (.inl (sA s 30 (Int32.toNatClampNeg a1))), some (.inl (sA s 30 (Int32.toNatClampNeg (a1 + (1 : Int32))))), none, none, none]) (st1 := [.inl (4 : Int32), .inl (a1 + (1 : Int32)), .inr (.inr (some 21)), .inl (sA s 30 (Int32.toNatClampNeg a1)), .inr (.inr (some 28))]) rfl ?_
    obtain ⟨hc, hw⟩ := hw
    refine X_callv m_M_eight (As := [.inl (a1 + (1 : Int32)), .inl (4 : Int32)]) (st := [.inl (sA s 30 (Int32.toNatClampNeg a1)), .inr (.inr (some 28))]) ok_M_eight rfl rfl rfl (hp_obj rfl) rfl (Nat.le_of_ble_eq_true rfl) (Nat.le_of_ble_eq_true rfl) (c_M_eight (d := d + 4) fu s (a1 + (1 : Int32)) (4 : Int32) hc) ?_
    rintro _ _ ⟨rfl, rfl⟩
    show X _ _ 23 [some (.inr (.inr (some 21))), some (.inl a0), some (.inl a1), some (.inl (sA s 30 (Int32.toNatClampNeg a1))), some (.inl (sA s 30 (Int32.toNatClampNeg (a1 + (1 : Int32))))), none, none, none] [.inl (f_M_eight fu s (a1 + (1 : Int32)) (4 : Int32)), .inl (sA s 30 (Int32.toNatClampNeg a1)), .inr (.inr (some 28))] (hp s) _
    obtain ⟨hin, hw⟩ := hw
    refine X_sI rfl rfl hin ?_
    show X _ _ 24 [some (.inr (.inr (some 21))), some (.inl a0), some (.inl a1), some (.inl (sA s 30 (Int32.toNatClampNeg a1))), some (.inl (sA s 30 (Int32.toNatClampNeg (a1 + (1 : Int32))))), none, none, none] [] (hp (pA s 28 (upd (sA s 28) (Int32.toNatClampNeg (sA s 30 (Int32.toNatClampNeg a1))) (f_M_eight fu s (a1 + (1 : Int32)) (4 : Int32))))) _
    refine X_run 2 (i1 := 203) (L1 := [some (.inr (.inr (some 21))), some (.inl a0), some (.inl a1), some (.inl (sA s 30 (Int32.toNatClampNeg a1))), some (.inl (sA s 30 (Int32.toNatClampNeg (a1 + (1 : Int32))))), none, none, none]) (st1 := [.inl (0 : Int32)]) rfl ?_
    exact X_iret rfl rfl qIs_i
  have hw := hw.2 h13_0
  refine X_itq (fun h => ?_) (fun h13_1 => ?_)
  · refine X_tsk rfl h rfl ?_
    have hw := hw.1 h
    refine X_run 1 (i1 := 26) (L1 := [some (.inr (.inr (some 21))), some (.inl a0), some (.inl a1), some (.inl (sA s 30 (Int32.toNatClampNeg a1))), some (.inl (sA s 30 (Int32.toNatClampNeg (a1 + (1 : Int32))))), none, none, none]) (st1 := [.inr (.inr (some 21))]) rfl ?_
    refine X_gF (v := .inr (.inr (some 28))) rfl rfl rfl rfl ?_
    refine X_run 2 (i1 := 29) (L1 := [some (.inr (.inr (some 21))), some (.inl a0), some (.inl a1), some (.inl (sA s 30 (Int32.toNatClampNeg a1))), some (.inl (sA s 30 (Int32.toNatClampNeg (a1 + (1 : Int32))))), none, none, none]) (st1 := [.inr (.inr (some 21)), .inl (sA s 30 (Int32.toNatClampNeg a1)), .inr (.inr (some 28))]) rfl ?_
    refine X_gF (v := .inr (.inr (some 28))) rfl rfl rfl rfl ?_
    refine X_run 1 (i1 := 31) (L1 := [some (.inr (.inr (some 21))), some (.inl a0), some (.inl a1), some (.inl (sA s 30 (Int32.toNatClampNeg a1))), some (.inl (sA s 30 (Int32.toNatClampNeg (a1 + (1 : Int32))))), none, none, none]) (st1 := [.inl (sA s 30 (Int32.toNatClampNeg (a1 + (1 : Int32)))), .inr (.inr (some 28)), .inl (sA s 30 (Int32.toNatClampNeg a1)), .inr (.inr (some 28))]) rfl ?_
    obtain ⟨hin, hw⟩ := hw
    refine X_aI rfl rfl hin ?_
    show X _ _ 32 [some (.inr (.inr (some 21))), some (.inl a0), some (.inl a1), some (.inl (sA s 30 (Int32.toNatClampNeg a1))), some (.inl (sA s 30 (Int32.toNatClampNeg (a1 + (1 : Int32))))), none, none, none] [.inl (sA s 28 (Int32.toNatClampNeg (sA s 30 (Int32.toNatClampNeg (a1 + (1 : Int32)))))), .inl (sA s 30 (Int32.toNatClampNeg a1)), .inr (.inr (some 28))] (hp s) _
    obtain ⟨hin, hw⟩ := hw
    refine X_sI rfl rfl hin ?_
    show X _ _ 33 [some (.inr (.inr (some 21))), some (.inl a0), some (.inl a1), some (.inl (sA s 30 (Int32.toNatClampNeg a1))), some (.inl (sA s 30 (Int32.toNatClampNeg (a1 + (1 : Int32))))), none, none, none] [] (hp (pA s 28 (upd (sA s 28) (Int32.toNatClampNeg (sA s 30 (Int32.toNatClampNeg a1))) (sA s 28 (Int32.toNatClampNeg (sA s 30 (Int32.toNatClampNeg (a1 + (1 : Int32))))))))) _
    refine X_run 2 (i1 := 203) (L1 := [some (.inr (.inr (some 21))), some (.inl a0), some (.inl a1), some (.inl (sA s 30 (Int32.toNatClampNeg a1))), some (.inl (sA s 30 (Int32.toNatClampNeg (a1 + (1 : Int32))))), none, none, none]) (st1 := [.inl (0 : Int32)]) rfl ?_
    exact X_iret rfl rfl qIs_i
  have hw := hw.2 h13_1
  refine X_itq (fun h => ?_) (fun h13_2 => ?_)
  · refine X_tsk rfl h rfl ?_
    have hw := hw.1 h
    refine X_run 3 (i1 := 37) (L1 := [some (.inr (.inr (some 21))), some (.inl a0), some (.inl a1), some (.inl (sA s 30 (Int32.toNatClampNeg a1))), some (.inl (sA s 30 (Int32.toNatClampNeg (a1 + (1 : Int32))))), none, none, none]) (st1 := [.inr (.inr (some 21)), .inl (sA s 30 (Int32.toNatClampNeg a1)), .inr (.inr (some 21))]) rfl ?_
    refine X_gF (v := .inr (.inr (some 28))) rfl rfl rfl rfl ?_
    refine X_run 1 (i1 := 39) (L1 := [some (.inr (.inr (some 21))), some (.inl a0), some (.inl a1), some (.inl (sA s 30 (Int32.toNatClampNeg a1))), some (.inl (sA s 30 (Int32.toNatClampNeg (a1 + (1 : Int32))))), none, none, none]) (st1 := [.inl (sA s 30 (Int32.toNatClampNeg a1)), .inr (.inr (some 28)), .inl (sA s 30 (Int32.toNatClampNeg a1)), .inr (.inr (some 21))]) rfl ?_
    obtain ⟨hin, hw⟩ := hw
    refine X_aI rfl rfl hin ?_
    show X _ _ 40 [some (.inr (.inr (some 21))), some (.inl a0), some (.inl a1), some (.inl (sA s 30 (Int32.toNatClampNeg a1))), some (.inl (sA s 30 (Int32.toNatClampNeg (a1 + (1 : Int32))))), none, none, none] [.inl (sA s 28 (Int32.toNatClampNeg (sA s 30 (Int32.toNatClampNeg a1)))), .inl (sA s 30 (Int32.toNatClampNeg a1)), .inr (.inr (some 21))] (hp s) _
    refine X_run 1 (i1 := 41) (L1 := [some (.inr (.inr (some 21))), some (.inl a0), some (.inl a1), some (.inl (sA s 30 (Int32.toNatClampNeg a1))), some (.inl (sA s 30 (Int32.toNatClampNeg (a1 + (1 : Int32))))), none, none, none]) (st1 := [.inr (.inr (some 21)), .inl (sA s 28 (Int32.toNatClampNeg (sA s 30 (Int32.toNatClampNeg a1)))), .inl (sA s 30 (Int32.toNatClampNeg a1)), .inr (.inr (some 21))]) rfl ?_
    refine X_gF (v := .inr (.inr (some 28))) rfl rfl rfl rfl ?_
    refine X_run 1 (i1 := 43) (L1 := [some (.inr (.inr (some 21))), some (.inl a0), some (.inl a1), some (.inl (sA s 30 (Int32.toNatClampNeg a1))), some (.inl (sA s 30 (Int32.toNatClampNeg (a1 + (1 : Int32))))), none, none, none]) (st1 := [.inl (sA s 30 (Int32.toNatClampNeg (a1 + (1 : Int32)))), .inr (.inr (some 28)), .inl (sA s 28 (Int32.toNatClampNeg (sA s 30 (Int32.toNatClampNeg a1)))), .inl (sA s 30 (Int32.toNatClampNeg a1)), .inr (.inr (some 21))]) rfl ?_
    obtain ⟨hin, hw⟩ := hw
    refine X_aI rfl rfl hin ?_
    show X _ _ 44 [some (.inr (.inr (some 21))), some (.inl a0), some (.inl a1), some (.inl (sA s 30 (Int32.toNatClampNeg a1))), some (.inl (sA s 30 (Int32.toNatClampNeg (a1 + (1 : Int32))))), none, none, none] [.inl (sA s 28 (Int32.toNatClampNeg (sA s 30 (Int32.toNatClampNeg (a1 + (1 : Int32)))))), .inl (sA s 28 (Int32.toNatClampNeg (sA s 30 (Int32.toNatClampNeg a1)))), .inl (sA s 30 (Int32.toNatClampNeg a1)), .inr (.inr (some 21))] (hp s) _
    refine X_run 1 (i1 := 45) (L1 := [some (.inr (.inr (some 21))), some (.inl a0), some (.inl a1), some (.inl (sA s 30 (Int32.toNatClampNeg a1))), some (.inl (sA s 30 (Int32.toNatClampNeg (a1 + (1 : Int32))))), none, none, none]) (st1 := [.inr (.inr (some 21)), .inl (sA s 28 (Int32.toNatClampNeg (sA s 30 (Int32.toNatClampNeg (a1 + (1 : Int32)))))), .inl (sA s 28 (Int32.toNatClampNeg (sA s 30 (Int32.toNatClampNeg a1)))), .inl (sA s 30 (Int32.toNatClampNeg a1)), .inr (.inr (some 21))]) rfl ?_
    refine X_gF (v := .inr (.inr (some 30))) rfl rfl rfl rfl ?_
    refine X_run 3 (i1 := 49) (L1 := [some (.inr (.inr (some 21))), some (.inl a0), some (.inl a1), some (.inl (sA s 30 (Int32.toNatClampNeg a1))), some (.inl (sA s 30 (Int32.toNatClampNeg (a1 + (1 : Int32))))), none, none, none]) (st1 := [.inl (a1 + (2 : Int32)), .inr (.inr (some 30)), .inl (sA s 28 (Int32.toNatClampNeg (sA s 30 (Int32.toNatClampNeg (a1 + (1 : Int32)))))), .inl (sA s 28 (Int32.toNatClampNeg (sA s 30 (Int32.toNatClampNeg a1)))), .inl (sA s 30 (Int32.toNatClampNeg a1)), .inr (.inr (some 21))]) rfl ?_
    obtain ⟨hin, hw⟩ := hw
    refine X_aI rfl rfl hin ?_
    show X _ _ 50 [some (.inr (.inr (some 21))), some (.inl a0), some (.inl a1), some (.inl (sA s 30 (Int32.toNatClampNeg a1))), some (.inl (sA s 30 (Int32.toNatClampNeg (a1 + (1 : Int32))))), none, none, none] [.inl (sA s 30 (Int32.toNatClampNeg (a1 + (2 : Int32)))), .inl (sA s 28 (Int32.toNatClampNeg (sA s 30 (Int32.toNatClampNeg (a1 + (1 : Int32)))))), .inl (sA s 28 (Int32.toNatClampNeg (sA s 30 (Int32.toNatClampNeg a1)))), .inl (sA s 30 (Int32.toNatClampNeg a1)), .inr (.inr (some 21))] (hp s) _
    obtain ⟨hc, hw⟩ := hw
    refine X_callv m_M_ints (As := [.inl (sA s 30 (Int32.toNatClampNeg a1)), .inl (sA s 28 (Int32.toNatClampNeg (sA s 30 (Int32.toNatClampNeg a1)))), .inl (sA s 28 (Int32.toNatClampNeg (sA s 30 (Int32.toNatClampNeg (a1 + (1 : Int32)))))), .inl (sA s 30 (Int32.toNatClampNeg (a1 + (2 : Int32))))]) (st := []) ok_M_ints rfl rfl rfl (hp_obj rfl) rfl (Nat.le_of_ble_eq_true rfl) (Nat.le_of_ble_eq_true rfl) (c_M_ints (d := d + 1) s (sA s 30 (Int32.toNatClampNeg a1)) (sA s 28 (Int32.toNatClampNeg (sA s 30 (Int32.toNatClampNeg a1)))) (sA s 28 (Int32.toNatClampNeg (sA s 30 (Int32.toNatClampNeg (a1 + (1 : Int32)))))) (sA s 30 (Int32.toNatClampNeg (a1 + (2 : Int32)))) hc) ?_
    rintro _ _ ⟨rfl, rfl⟩
    show X _ _ 51 [some (.inr (.inr (some 21))), some (.inl a0), some (.inl a1), some (.inl (sA s 30 (Int32.toNatClampNeg a1))), some (.inl (sA s 30 (Int32.toNatClampNeg (a1 + (1 : Int32))))), none, none, none] [.inl ((f_M_ints s (sA s 30 (Int32.toNatClampNeg a1)) (sA s 28 (Int32.toNatClampNeg (sA s 30 (Int32.toNatClampNeg a1)))) (sA s 28 (Int32.toNatClampNeg (sA s 30 (Int32.toNatClampNeg (a1 + (1 : Int32)))))) (sA s 30 (Int32.toNatClampNeg (a1 + (2 : Int32))))).1)] (hp ((f_M_ints s (sA s 30 (Int32.toNatClampNeg a1)) (sA s 28 (Int32.toNatClampNeg (sA s 30 (Int32.toNatClampNeg a1)))) (sA s 28 (Int32.toNatClampNeg (sA s 30 (Int32.toNatClampNeg (a1 + (1 : Int32)))))) (sA s 30 (Int32.toNatClampNeg (a1 + (2 : Int32))))).2)) _
    exact X_iret rfl rfl qIs_p
  have hw := hw.2 h13_2
  refine X_itq (fun h => ?_) (fun h13_3 => ?_)
  · refine X_tsk rfl h rfl ?_
    have hw := hw.1 h
    refine X_run 1 (i1 := 53) (L1 := [some (.inr (.inr (some 21))), some (.inl a0), some (.inl a1), some (.inl (sA s 30 (Int32.toNatClampNeg a1))), some (.inl (sA s 30 (Int32.toNatClampNeg (a1 + (1 : Int32))))), none, none, none]) (st1 := [.inr (.inr (some 21))]) rfl ?_
    refine X_gF (v := .inr (.inr (some 29))) rfl rfl rfl rfl ?_
    refine X_run 6 (i1 := 60) (L1 := [some (.inr (.inr (some 21))), some (.inl a0), some (.inl a1), some (.inl (sA s 30 (Int32.toNatClampNeg a1))), some (.inl (sA s 30 (Int32.toNatClampNeg (a1 + (1 : Int32))))), none, none, none]) (st1 := [.inl (4 : Int32), .inl (a1 + (1 : Int32)), .inr (.inr (some 21)), .inl (sA s 30 (Int32.toNatClampNeg a1)), .inr (.inr (some 29))]) rfl ?_
    obtain ⟨hc, hw⟩ := hw
    refine X_callv m_M_eight (As := [.inl (a1 + (1 : Int32)), .inl (4 : Int32)]) (st := [.inl (sA s 30 (Int32.toNatClampNeg a1)), .inr (.inr (some 29))]) ok_M_eight rfl rfl rfl (hp_obj rfl) rfl (Nat.le_of_ble_eq_true rfl) (Nat.le_of_ble_eq_true rfl) (c_M_eight (d := d + 4) fu s (a1 + (1 : Int32)) (4 : Int32) hc) ?_
    rintro _ _ ⟨rfl, rfl⟩
    show X _ _ 61 [some (.inr (.inr (some 21))), some (.inl a0), some (.inl a1), some (.inl (sA s 30 (Int32.toNatClampNeg a1))), some (.inl (sA s 30 (Int32.toNatClampNeg (a1 + (1 : Int32))))), none, none, none] [.inl (f_M_eight fu s (a1 + (1 : Int32)) (4 : Int32)), .inl (sA s 30 (Int32.toNatClampNeg a1)), .inr (.inr (some 29))] (hp s) _
    refine X_run 8 (i1 := 69) (L1 := [some (.inr (.inr (some 21))), some (.inl a0), some (.inl a1), some (.inl (sA s 30 (Int32.toNatClampNeg a1))), some (.inl (sA s 30 (Int32.toNatClampNeg (a1 + (1 : Int32))))), none, none, none]) (st1 := [.inl (4 : Int32), .inl (a1 + (5 : Int32)), .inr (.inr (some 21)), .inr (.inl ((Int32.toInt64 (f_M_eight fu s (a1 + (1 : Int32)) (4 : Int32))) <<< (Int32.toInt64 (32 : Int32) &&& 63))), .inl (sA s 30 (Int32.toNatClampNeg a1)), .inr (.inr (some 29))]) rfl ?_
    obtain ⟨hc, hw⟩ := hw
    refine X_callv m_M_eight (As := [.inl (a1 + (5 : Int32)), .inl (4 : Int32)]) (st := [.inr (.inl ((Int32.toInt64 (f_M_eight fu s (a1 + (1 : Int32)) (4 : Int32))) <<< (Int32.toInt64 (32 : Int32) &&& 63))), .inl (sA s 30 (Int32.toNatClampNeg a1)), .inr (.inr (some 29))]) ok_M_eight rfl rfl rfl (hp_obj rfl) rfl (Nat.le_of_ble_eq_true rfl) (Nat.le_of_ble_eq_true rfl) (c_M_eight (d := d + 4) fu s (a1 + (5 : Int32)) (4 : Int32) hc) ?_
    rintro _ _ ⟨rfl, rfl⟩
    show X _ _ 70 [some (.inr (.inr (some 21))), some (.inl a0), some (.inl a1), some (.inl (sA s 30 (Int32.toNatClampNeg a1))), some (.inl (sA s 30 (Int32.toNatClampNeg (a1 + (1 : Int32))))), none, none, none] [.inl (f_M_eight fu s (a1 + (5 : Int32)) (4 : Int32)), .inr (.inl ((Int32.toInt64 (f_M_eight fu s (a1 + (1 : Int32)) (4 : Int32))) <<< (Int32.toInt64 (32 : Int32) &&& 63))), .inl (sA s 30 (Int32.toNatClampNeg a1)), .inr (.inr (some 29))] (hp s) _
    refine X_run 4 (i1 := 74) (L1 := [some (.inr (.inr (some 21))), some (.inl a0), some (.inl a1), some (.inl (sA s 30 (Int32.toNatClampNeg a1))), some (.inl (sA s 30 (Int32.toNatClampNeg (a1 + (1 : Int32))))), none, none, none]) (st1 := [.inr (.inl (((Int32.toInt64 (f_M_eight fu s (a1 + (1 : Int32)) (4 : Int32))) <<< (Int32.toInt64 (32 : Int32) &&& 63)) ||| ((Int32.toInt64 (f_M_eight fu s (a1 + (5 : Int32)) (4 : Int32))) &&& (4294967295 : Int64)))), .inl (sA s 30 (Int32.toNatClampNeg a1)), .inr (.inr (some 29))]) rfl ?_
    refine X_calls m_M_kept (As := [.inr (.inl (((Int32.toInt64 (f_M_eight fu s (a1 + (1 : Int32)) (4 : Int32))) <<< (Int32.toInt64 (32 : Int32) &&& 63)) ||| ((Int32.toInt64 (f_M_eight fu s (a1 + (5 : Int32)) (4 : Int32))) &&& (4294967295 : Int64))))]) (st := [.inl (sA s 30 (Int32.toNatClampNeg a1)), .inr (.inr (some 29))]) ok_M_kept rfl rfl rfl (Nat.le_of_ble_eq_true rfl) (Nat.le_of_ble_eq_true rfl) (c_M_kept (d := d + 3) (((Int32.toInt64 (f_M_eight fu s (a1 + (1 : Int32)) (4 : Int32))) <<< (Int32.toInt64 (32 : Int32) &&& 63)) ||| ((Int32.toInt64 (f_M_eight fu s (a1 + (5 : Int32)) (4 : Int32))) &&& (4294967295 : Int64)))) ?_
    rintro _ _ ⟨rfl, rfl⟩
    show X _ _ 75 [some (.inr (.inr (some 21))), some (.inl a0), some (.inl a1), some (.inl (sA s 30 (Int32.toNatClampNeg a1))), some (.inl (sA s 30 (Int32.toNatClampNeg (a1 + (1 : Int32))))), none, none, none] [.inr (.inl (f_M_kept (((Int32.toInt64 (f_M_eight fu s (a1 + (1 : Int32)) (4 : Int32))) <<< (Int32.toInt64 (32 : Int32) &&& 63)) ||| ((Int32.toInt64 (f_M_eight fu s (a1 + (5 : Int32)) (4 : Int32))) &&& (4294967295 : Int64))))), .inl (sA s 30 (Int32.toNatClampNeg a1)), .inr (.inr (some 29))] (hp s) _
    obtain ⟨hin, hw⟩ := hw
    refine X_sL rfl rfl hin ?_
    show X _ _ 76 [some (.inr (.inr (some 21))), some (.inl a0), some (.inl a1), some (.inl (sA s 30 (Int32.toNatClampNeg a1))), some (.inl (sA s 30 (Int32.toNatClampNeg (a1 + (1 : Int32))))), none, none, none] [] (hp (pB s 29 (vp_updL (sB s 29) (Int32.toNatClampNeg (sA s 30 (Int32.toNatClampNeg a1))) (f_M_kept (((Int32.toInt64 (f_M_eight fu s (a1 + (1 : Int32)) (4 : Int32))) <<< (Int32.toInt64 (32 : Int32) &&& 63)) ||| ((Int32.toInt64 (f_M_eight fu s (a1 + (5 : Int32)) (4 : Int32))) &&& (4294967295 : Int64))))))) _
    refine X_run 2 (i1 := 203) (L1 := [some (.inr (.inr (some 21))), some (.inl a0), some (.inl a1), some (.inl (sA s 30 (Int32.toNatClampNeg a1))), some (.inl (sA s 30 (Int32.toNatClampNeg (a1 + (1 : Int32))))), none, none, none]) (st1 := [.inl (0 : Int32)]) rfl ?_
    exact X_iret rfl rfl qIs_i
  have hw := hw.2 h13_3
  refine X_itq (fun h => ?_) (fun h13_4 => ?_)
  · refine X_tsk rfl h rfl ?_
    have hw := hw.1 h
    refine X_run 1 (i1 := 78) (L1 := [some (.inr (.inr (some 21))), some (.inl a0), some (.inl a1), some (.inl (sA s 30 (Int32.toNatClampNeg a1))), some (.inl (sA s 30 (Int32.toNatClampNeg (a1 + (1 : Int32))))), none, none, none]) (st1 := [.inr (.inr (some 21))]) rfl ?_
    refine X_gF (v := .inr (.inr (some 29))) rfl rfl rfl rfl ?_
    refine X_run 2 (i1 := 81) (L1 := [some (.inr (.inr (some 21))), some (.inl a0), some (.inl a1), some (.inl (sA s 30 (Int32.toNatClampNeg a1))), some (.inl (sA s 30 (Int32.toNatClampNeg (a1 + (1 : Int32))))), none, none, none]) (st1 := [.inr (.inr (some 21)), .inl (sA s 30 (Int32.toNatClampNeg a1)), .inr (.inr (some 29))]) rfl ?_
    refine X_gF (v := .inr (.inr (some 28))) rfl rfl rfl rfl ?_
    refine X_run 1 (i1 := 83) (L1 := [some (.inr (.inr (some 21))), some (.inl a0), some (.inl a1), some (.inl (sA s 30 (Int32.toNatClampNeg a1))), some (.inl (sA s 30 (Int32.toNatClampNeg (a1 + (1 : Int32))))), none, none, none]) (st1 := [.inl (sA s 30 (Int32.toNatClampNeg (a1 + (1 : Int32)))), .inr (.inr (some 28)), .inl (sA s 30 (Int32.toNatClampNeg a1)), .inr (.inr (some 29))]) rfl ?_
    obtain ⟨hin, hw⟩ := hw
    refine X_aI rfl rfl hin ?_
    show X _ _ 84 [some (.inr (.inr (some 21))), some (.inl a0), some (.inl a1), some (.inl (sA s 30 (Int32.toNatClampNeg a1))), some (.inl (sA s 30 (Int32.toNatClampNeg (a1 + (1 : Int32))))), none, none, none] [.inl (sA s 28 (Int32.toNatClampNeg (sA s 30 (Int32.toNatClampNeg (a1 + (1 : Int32)))))), .inl (sA s 30 (Int32.toNatClampNeg a1)), .inr (.inr (some 29))] (hp s) _
    refine X_run 1 (i1 := 85) (L1 := [some (.inr (.inr (some 21))), some (.inl a0), some (.inl a1), some (.inl (sA s 30 (Int32.toNatClampNeg a1))), some (.inl (sA s 30 (Int32.toNatClampNeg (a1 + (1 : Int32))))), none, none, none]) (st1 := [.inr (.inl (Int32.toInt64 (sA s 28 (Int32.toNatClampNeg (sA s 30 (Int32.toNatClampNeg (a1 + (1 : Int32)))))))), .inl (sA s 30 (Int32.toNatClampNeg a1)), .inr (.inr (some 29))]) rfl ?_
    refine X_calls m_M_realOf (As := [.inr (.inl (Int32.toInt64 (sA s 28 (Int32.toNatClampNeg (sA s 30 (Int32.toNatClampNeg (a1 + (1 : Int32))))))))]) (st := [.inl (sA s 30 (Int32.toNatClampNeg a1)), .inr (.inr (some 29))]) ok_M_realOf rfl rfl rfl (Nat.le_of_ble_eq_true rfl) (Nat.le_of_ble_eq_true rfl) (c_M_realOf (d := d + 1) (Int32.toInt64 (sA s 28 (Int32.toNatClampNeg (sA s 30 (Int32.toNatClampNeg (a1 + (1 : Int32)))))))) ?_
    rintro _ _ ⟨rfl, rfl⟩
    show X _ _ 86 [some (.inr (.inr (some 21))), some (.inl a0), some (.inl a1), some (.inl (sA s 30 (Int32.toNatClampNeg a1))), some (.inl (sA s 30 (Int32.toNatClampNeg (a1 + (1 : Int32))))), none, none, none] [.inr (.inl (f_M_realOf (Int32.toInt64 (sA s 28 (Int32.toNatClampNeg (sA s 30 (Int32.toNatClampNeg (a1 + (1 : Int32))))))))), .inl (sA s 30 (Int32.toNatClampNeg a1)), .inr (.inr (some 29))] (hp s) _
    obtain ⟨hin, hw⟩ := hw
    refine X_sL rfl rfl hin ?_
    show X _ _ 87 [some (.inr (.inr (some 21))), some (.inl a0), some (.inl a1), some (.inl (sA s 30 (Int32.toNatClampNeg a1))), some (.inl (sA s 30 (Int32.toNatClampNeg (a1 + (1 : Int32))))), none, none, none] [] (hp (pB s 29 (vp_updL (sB s 29) (Int32.toNatClampNeg (sA s 30 (Int32.toNatClampNeg a1))) (f_M_realOf (Int32.toInt64 (sA s 28 (Int32.toNatClampNeg (sA s 30 (Int32.toNatClampNeg (a1 + (1 : Int32))))))))))) _
    refine X_run 2 (i1 := 203) (L1 := [some (.inr (.inr (some 21))), some (.inl a0), some (.inl a1), some (.inl (sA s 30 (Int32.toNatClampNeg a1))), some (.inl (sA s 30 (Int32.toNatClampNeg (a1 + (1 : Int32))))), none, none, none]) (st1 := [.inl (0 : Int32)]) rfl ?_
    exact X_iret rfl rfl qIs_i
  have hw := hw.2 h13_4
  refine X_itq (fun h => ?_) (fun h13_5 => ?_)
  · refine X_tsk rfl h rfl ?_
    have hw := hw.1 h
    refine X_run 1 (i1 := 89) (L1 := [some (.inr (.inr (some 21))), some (.inl a0), some (.inl a1), some (.inl (sA s 30 (Int32.toNatClampNeg a1))), some (.inl (sA s 30 (Int32.toNatClampNeg (a1 + (1 : Int32))))), none, none, none]) (st1 := [.inr (.inr (some 21))]) rfl ?_
    refine X_gF (v := .inr (.inr (some 28))) rfl rfl rfl rfl ?_
    refine X_run 2 (i1 := 92) (L1 := [some (.inr (.inr (some 21))), some (.inl a0), some (.inl a1), some (.inl (sA s 30 (Int32.toNatClampNeg a1))), some (.inl (sA s 30 (Int32.toNatClampNeg (a1 + (1 : Int32))))), none, none, none]) (st1 := [.inr (.inr (some 21)), .inl (sA s 30 (Int32.toNatClampNeg a1)), .inr (.inr (some 28))]) rfl ?_
    refine X_gF (v := .inr (.inr (some 29))) rfl rfl rfl rfl ?_
    refine X_run 1 (i1 := 94) (L1 := [some (.inr (.inr (some 21))), some (.inl a0), some (.inl a1), some (.inl (sA s 30 (Int32.toNatClampNeg a1))), some (.inl (sA s 30 (Int32.toNatClampNeg (a1 + (1 : Int32))))), none, none, none]) (st1 := [.inl (sA s 30 (Int32.toNatClampNeg (a1 + (1 : Int32)))), .inr (.inr (some 29)), .inl (sA s 30 (Int32.toNatClampNeg a1)), .inr (.inr (some 28))]) rfl ?_
    obtain ⟨hin, hw⟩ := hw
    refine X_aL rfl rfl hin ?_
    show X _ _ 95 [some (.inr (.inr (some 21))), some (.inl a0), some (.inl a1), some (.inl (sA s 30 (Int32.toNatClampNeg a1))), some (.inl (sA s 30 (Int32.toNatClampNeg (a1 + (1 : Int32))))), none, none, none] [.inr (.inl (sB s 29 (Int32.toNatClampNeg (sA s 30 (Int32.toNatClampNeg (a1 + (1 : Int32))))))), .inl (sA s 30 (Int32.toNatClampNeg a1)), .inr (.inr (some 28))] (hp s) _
    refine X_calls m_M_whole (As := [.inr (.inl (sB s 29 (Int32.toNatClampNeg (sA s 30 (Int32.toNatClampNeg (a1 + (1 : Int32)))))))]) (st := [.inl (sA s 30 (Int32.toNatClampNeg a1)), .inr (.inr (some 28))]) ok_M_whole rfl rfl rfl (Nat.le_of_ble_eq_true rfl) (Nat.le_of_ble_eq_true rfl) (c_M_whole (d := d + 3) (sB s 29 (Int32.toNatClampNeg (sA s 30 (Int32.toNatClampNeg (a1 + (1 : Int32))))))) ?_
    rintro _ _ ⟨rfl, rfl⟩
    show X _ _ 96 [some (.inr (.inr (some 21))), some (.inl a0), some (.inl a1), some (.inl (sA s 30 (Int32.toNatClampNeg a1))), some (.inl (sA s 30 (Int32.toNatClampNeg (a1 + (1 : Int32))))), none, none, none] [.inl (f_M_whole (sB s 29 (Int32.toNatClampNeg (sA s 30 (Int32.toNatClampNeg (a1 + (1 : Int32))))))), .inl (sA s 30 (Int32.toNatClampNeg a1)), .inr (.inr (some 28))] (hp s) _
    obtain ⟨hin, hw⟩ := hw
    refine X_sI rfl rfl hin ?_
    show X _ _ 97 [some (.inr (.inr (some 21))), some (.inl a0), some (.inl a1), some (.inl (sA s 30 (Int32.toNatClampNeg a1))), some (.inl (sA s 30 (Int32.toNatClampNeg (a1 + (1 : Int32))))), none, none, none] [] (hp (pA s 28 (upd (sA s 28) (Int32.toNatClampNeg (sA s 30 (Int32.toNatClampNeg a1))) (f_M_whole (sB s 29 (Int32.toNatClampNeg (sA s 30 (Int32.toNatClampNeg (a1 + (1 : Int32)))))))))) _
    refine X_run 2 (i1 := 203) (L1 := [some (.inr (.inr (some 21))), some (.inl a0), some (.inl a1), some (.inl (sA s 30 (Int32.toNatClampNeg a1))), some (.inl (sA s 30 (Int32.toNatClampNeg (a1 + (1 : Int32))))), none, none, none]) (st1 := [.inl (0 : Int32)]) rfl ?_
    exact X_iret rfl rfl qIs_i
  have hw := hw.2 h13_5
  refine X_itq (fun h => ?_) (fun h13_6 => ?_)
  · refine X_tsk rfl h rfl ?_
    have hw := hw.1 h
    refine X_run 1 (i1 := 99) (L1 := [some (.inr (.inr (some 21))), some (.inl a0), some (.inl a1), some (.inl (sA s 30 (Int32.toNatClampNeg a1))), some (.inl (sA s 30 (Int32.toNatClampNeg (a1 + (1 : Int32))))), none, none, none]) (st1 := [.inr (.inr (some 21))]) rfl ?_
    refine X_gF (v := .inr (.inr (some 29))) rfl rfl rfl rfl ?_
    refine X_run 2 (i1 := 102) (L1 := [some (.inr (.inr (some 21))), some (.inl a0), some (.inl a1), some (.inl (sA s 30 (Int32.toNatClampNeg a1))), some (.inl (sA s 30 (Int32.toNatClampNeg (a1 + (1 : Int32))))), none, none, none]) (st1 := [.inr (.inr (some 21)), .inl (sA s 30 (Int32.toNatClampNeg a1)), .inr (.inr (some 29))]) rfl ?_
    refine X_gF (v := .inr (.inr (some 29))) rfl rfl rfl rfl ?_
    refine X_run 1 (i1 := 104) (L1 := [some (.inr (.inr (some 21))), some (.inl a0), some (.inl a1), some (.inl (sA s 30 (Int32.toNatClampNeg a1))), some (.inl (sA s 30 (Int32.toNatClampNeg (a1 + (1 : Int32))))), none, none, none]) (st1 := [.inl (sA s 30 (Int32.toNatClampNeg a1)), .inr (.inr (some 29)), .inl (sA s 30 (Int32.toNatClampNeg a1)), .inr (.inr (some 29))]) rfl ?_
    obtain ⟨hin, hw⟩ := hw
    refine X_aL rfl rfl hin ?_
    show X _ _ 105 [some (.inr (.inr (some 21))), some (.inl a0), some (.inl a1), some (.inl (sA s 30 (Int32.toNatClampNeg a1))), some (.inl (sA s 30 (Int32.toNatClampNeg (a1 + (1 : Int32))))), none, none, none] [.inr (.inl (sB s 29 (Int32.toNatClampNeg (sA s 30 (Int32.toNatClampNeg a1))))), .inl (sA s 30 (Int32.toNatClampNeg a1)), .inr (.inr (some 29))] (hp s) _
    refine X_run 1 (i1 := 106) (L1 := [some (.inr (.inr (some 21))), some (.inl a0), some (.inl a1), some (.inl (sA s 30 (Int32.toNatClampNeg a1))), some (.inl (sA s 30 (Int32.toNatClampNeg (a1 + (1 : Int32))))), none, none, none]) (st1 := [.inr (.inr (some 21)), .inr (.inl (sB s 29 (Int32.toNatClampNeg (sA s 30 (Int32.toNatClampNeg a1))))), .inl (sA s 30 (Int32.toNatClampNeg a1)), .inr (.inr (some 29))]) rfl ?_
    refine X_gF (v := .inr (.inr (some 29))) rfl rfl rfl rfl ?_
    refine X_run 1 (i1 := 108) (L1 := [some (.inr (.inr (some 21))), some (.inl a0), some (.inl a1), some (.inl (sA s 30 (Int32.toNatClampNeg a1))), some (.inl (sA s 30 (Int32.toNatClampNeg (a1 + (1 : Int32))))), none, none, none]) (st1 := [.inl (sA s 30 (Int32.toNatClampNeg (a1 + (1 : Int32)))), .inr (.inr (some 29)), .inr (.inl (sB s 29 (Int32.toNatClampNeg (sA s 30 (Int32.toNatClampNeg a1))))), .inl (sA s 30 (Int32.toNatClampNeg a1)), .inr (.inr (some 29))]) rfl ?_
    obtain ⟨hin, hw⟩ := hw
    refine X_aL rfl rfl hin ?_
    show X _ _ 109 [some (.inr (.inr (some 21))), some (.inl a0), some (.inl a1), some (.inl (sA s 30 (Int32.toNatClampNeg a1))), some (.inl (sA s 30 (Int32.toNatClampNeg (a1 + (1 : Int32))))), none, none, none] [.inr (.inl (sB s 29 (Int32.toNatClampNeg (sA s 30 (Int32.toNatClampNeg (a1 + (1 : Int32))))))), .inr (.inl (sB s 29 (Int32.toNatClampNeg (sA s 30 (Int32.toNatClampNeg a1))))), .inl (sA s 30 (Int32.toNatClampNeg a1)), .inr (.inr (some 29))] (hp s) _
    refine X_run 1 (i1 := 110) (L1 := [some (.inr (.inr (some 21))), some (.inl a0), some (.inl a1), some (.inl (sA s 30 (Int32.toNatClampNeg a1))), some (.inl (sA s 30 (Int32.toNatClampNeg (a1 + (1 : Int32))))), none, none, none]) (st1 := [.inr (.inr (some 21)), .inr (.inl (sB s 29 (Int32.toNatClampNeg (sA s 30 (Int32.toNatClampNeg (a1 + (1 : Int32))))))), .inr (.inl (sB s 29 (Int32.toNatClampNeg (sA s 30 (Int32.toNatClampNeg a1))))), .inl (sA s 30 (Int32.toNatClampNeg a1)), .inr (.inr (some 29))]) rfl ?_
    refine X_gF (v := .inr (.inr (some 30))) rfl rfl rfl rfl ?_
    refine X_run 3 (i1 := 114) (L1 := [some (.inr (.inr (some 21))), some (.inl a0), some (.inl a1), some (.inl (sA s 30 (Int32.toNatClampNeg a1))), some (.inl (sA s 30 (Int32.toNatClampNeg (a1 + (1 : Int32))))), none, none, none]) (st1 := [.inl (a1 + (2 : Int32)), .inr (.inr (some 30)), .inr (.inl (sB s 29 (Int32.toNatClampNeg (sA s 30 (Int32.toNatClampNeg (a1 + (1 : Int32))))))), .inr (.inl (sB s 29 (Int32.toNatClampNeg (sA s 30 (Int32.toNatClampNeg a1))))), .inl (sA s 30 (Int32.toNatClampNeg a1)), .inr (.inr (some 29))]) rfl ?_
    obtain ⟨hin, hw⟩ := hw
    refine X_aI rfl rfl hin ?_
    show X _ _ 115 [some (.inr (.inr (some 21))), some (.inl a0), some (.inl a1), some (.inl (sA s 30 (Int32.toNatClampNeg a1))), some (.inl (sA s 30 (Int32.toNatClampNeg (a1 + (1 : Int32))))), none, none, none] [.inl (sA s 30 (Int32.toNatClampNeg (a1 + (2 : Int32)))), .inr (.inl (sB s 29 (Int32.toNatClampNeg (sA s 30 (Int32.toNatClampNeg (a1 + (1 : Int32))))))), .inr (.inl (sB s 29 (Int32.toNatClampNeg (sA s 30 (Int32.toNatClampNeg a1))))), .inl (sA s 30 (Int32.toNatClampNeg a1)), .inr (.inr (some 29))] (hp s) _
    refine X_calls m_M_two (As := [.inr (.inl (sB s 29 (Int32.toNatClampNeg (sA s 30 (Int32.toNatClampNeg a1))))), .inr (.inl (sB s 29 (Int32.toNatClampNeg (sA s 30 (Int32.toNatClampNeg (a1 + (1 : Int32))))))), .inl (sA s 30 (Int32.toNatClampNeg (a1 + (2 : Int32))))]) (st := [.inl (sA s 30 (Int32.toNatClampNeg a1)), .inr (.inr (some 29))]) ok_M_two rfl rfl rfl (Nat.le_of_ble_eq_true rfl) (Nat.le_of_ble_eq_true rfl) (c_M_two (d := d) (sB s 29 (Int32.toNatClampNeg (sA s 30 (Int32.toNatClampNeg a1)))) (sB s 29 (Int32.toNatClampNeg (sA s 30 (Int32.toNatClampNeg (a1 + (1 : Int32)))))) (sA s 30 (Int32.toNatClampNeg (a1 + (2 : Int32))))) ?_
    rintro _ _ ⟨rfl, rfl⟩
    show X _ _ 116 [some (.inr (.inr (some 21))), some (.inl a0), some (.inl a1), some (.inl (sA s 30 (Int32.toNatClampNeg a1))), some (.inl (sA s 30 (Int32.toNatClampNeg (a1 + (1 : Int32))))), none, none, none] [.inr (.inl (f_M_two (sB s 29 (Int32.toNatClampNeg (sA s 30 (Int32.toNatClampNeg a1)))) (sB s 29 (Int32.toNatClampNeg (sA s 30 (Int32.toNatClampNeg (a1 + (1 : Int32)))))) (sA s 30 (Int32.toNatClampNeg (a1 + (2 : Int32)))))), .inl (sA s 30 (Int32.toNatClampNeg a1)), .inr (.inr (some 29))] (hp s) _
    obtain ⟨hin, hw⟩ := hw
    refine X_sL rfl rfl hin ?_
    show X _ _ 117 [some (.inr (.inr (some 21))), some (.inl a0), some (.inl a1), some (.inl (sA s 30 (Int32.toNatClampNeg a1))), some (.inl (sA s 30 (Int32.toNatClampNeg (a1 + (1 : Int32))))), none, none, none] [] (hp (pB s 29 (vp_updL (sB s 29) (Int32.toNatClampNeg (sA s 30 (Int32.toNatClampNeg a1))) (f_M_two (sB s 29 (Int32.toNatClampNeg (sA s 30 (Int32.toNatClampNeg a1)))) (sB s 29 (Int32.toNatClampNeg (sA s 30 (Int32.toNatClampNeg (a1 + (1 : Int32)))))) (sA s 30 (Int32.toNatClampNeg (a1 + (2 : Int32)))))))) _
    refine X_run 2 (i1 := 203) (L1 := [some (.inr (.inr (some 21))), some (.inl a0), some (.inl a1), some (.inl (sA s 30 (Int32.toNatClampNeg a1))), some (.inl (sA s 30 (Int32.toNatClampNeg (a1 + (1 : Int32))))), none, none, none]) (st1 := [.inl (0 : Int32)]) rfl ?_
    exact X_iret rfl rfl qIs_i
  have hw := hw.2 h13_6
  refine X_itq (fun h => ?_) (fun h13_7 => ?_)
  · refine X_tsk rfl h rfl ?_
    have hw := hw.1 h
    refine X_run 1 (i1 := 119) (L1 := [some (.inr (.inr (some 21))), some (.inl a0), some (.inl a1), some (.inl (sA s 30 (Int32.toNatClampNeg a1))), some (.inl (sA s 30 (Int32.toNatClampNeg (a1 + (1 : Int32))))), none, none, none]) (st1 := [.inr (.inr (some 21))]) rfl ?_
    refine X_gF (v := .inr (.inr (some 29))) rfl rfl rfl rfl ?_
    refine X_run 2 (i1 := 122) (L1 := [some (.inr (.inr (some 21))), some (.inl a0), some (.inl a1), some (.inl (sA s 30 (Int32.toNatClampNeg a1))), some (.inl (sA s 30 (Int32.toNatClampNeg (a1 + (1 : Int32))))), none, none, none]) (st1 := [.inr (.inr (some 21)), .inl (sA s 30 (Int32.toNatClampNeg a1)), .inr (.inr (some 29))]) rfl ?_
    refine X_gF (v := .inr (.inr (some 29))) rfl rfl rfl rfl ?_
    refine X_run 1 (i1 := 124) (L1 := [some (.inr (.inr (some 21))), some (.inl a0), some (.inl a1), some (.inl (sA s 30 (Int32.toNatClampNeg a1))), some (.inl (sA s 30 (Int32.toNatClampNeg (a1 + (1 : Int32))))), none, none, none]) (st1 := [.inl (sA s 30 (Int32.toNatClampNeg a1)), .inr (.inr (some 29)), .inl (sA s 30 (Int32.toNatClampNeg a1)), .inr (.inr (some 29))]) rfl ?_
    obtain ⟨hin, hw⟩ := hw
    refine X_aL rfl rfl hin ?_
    show X _ _ 125 [some (.inr (.inr (some 21))), some (.inl a0), some (.inl a1), some (.inl (sA s 30 (Int32.toNatClampNeg a1))), some (.inl (sA s 30 (Int32.toNatClampNeg (a1 + (1 : Int32))))), none, none, none] [.inr (.inl (sB s 29 (Int32.toNatClampNeg (sA s 30 (Int32.toNatClampNeg a1))))), .inl (sA s 30 (Int32.toNatClampNeg a1)), .inr (.inr (some 29))] (hp s) _
    refine X_run 1 (i1 := 126) (L1 := [some (.inr (.inr (some 21))), some (.inl a0), some (.inl a1), some (.inl (sA s 30 (Int32.toNatClampNeg a1))), some (.inl (sA s 30 (Int32.toNatClampNeg (a1 + (1 : Int32))))), none, none, none]) (st1 := [.inl (sA s 30 (Int32.toNatClampNeg (a1 + (1 : Int32)))), .inr (.inl (sB s 29 (Int32.toNatClampNeg (sA s 30 (Int32.toNatClampNeg a1))))), .inl (sA s 30 (Int32.toNatClampNeg a1)), .inr (.inr (some 29))]) rfl ?_
    refine X_calls m_M_one (As := [.inr (.inl (sB s 29 (Int32.toNatClampNeg (sA s 30 (Int32.toNatClampNeg a1))))), .inl (sA s 30 (Int32.toNatClampNeg (a1 + (1 : Int32))))]) (st := [.inl (sA s 30 (Int32.toNatClampNeg a1)), .inr (.inr (some 29))]) ok_M_one rfl rfl rfl (Nat.le_of_ble_eq_true rfl) (Nat.le_of_ble_eq_true rfl) (c_M_one (d := d) (sB s 29 (Int32.toNatClampNeg (sA s 30 (Int32.toNatClampNeg a1)))) (sA s 30 (Int32.toNatClampNeg (a1 + (1 : Int32))))) ?_
    rintro _ _ ⟨rfl, rfl⟩
    show X _ _ 127 [some (.inr (.inr (some 21))), some (.inl a0), some (.inl a1), some (.inl (sA s 30 (Int32.toNatClampNeg a1))), some (.inl (sA s 30 (Int32.toNatClampNeg (a1 + (1 : Int32))))), none, none, none] [.inr (.inl (f_M_one (sB s 29 (Int32.toNatClampNeg (sA s 30 (Int32.toNatClampNeg a1)))) (sA s 30 (Int32.toNatClampNeg (a1 + (1 : Int32)))))), .inl (sA s 30 (Int32.toNatClampNeg a1)), .inr (.inr (some 29))] (hp s) _
    obtain ⟨hin, hw⟩ := hw
    refine X_sL rfl rfl hin ?_
    show X _ _ 128 [some (.inr (.inr (some 21))), some (.inl a0), some (.inl a1), some (.inl (sA s 30 (Int32.toNatClampNeg a1))), some (.inl (sA s 30 (Int32.toNatClampNeg (a1 + (1 : Int32))))), none, none, none] [] (hp (pB s 29 (vp_updL (sB s 29) (Int32.toNatClampNeg (sA s 30 (Int32.toNatClampNeg a1))) (f_M_one (sB s 29 (Int32.toNatClampNeg (sA s 30 (Int32.toNatClampNeg a1)))) (sA s 30 (Int32.toNatClampNeg (a1 + (1 : Int32)))))))) _
    refine X_run 2 (i1 := 203) (L1 := [some (.inr (.inr (some 21))), some (.inl a0), some (.inl a1), some (.inl (sA s 30 (Int32.toNatClampNeg a1))), some (.inl (sA s 30 (Int32.toNatClampNeg (a1 + (1 : Int32))))), none, none, none]) (st1 := [.inl (0 : Int32)]) rfl ?_
    exact X_iret rfl rfl qIs_i
  have hw := hw.2 h13_7
  refine X_tsd rfl ((sw_out (1) 8 (by decide) (by decide) (fun j hj => by
    match j, hj with
    | 0, _ => exact h13_0
    | 1, _ => exact h13_1
    | 2, _ => exact h13_2
    | 3, _ => exact h13_3
    | 4, _ => exact h13_4
    | 5, _ => exact h13_5
    | 6, _ => exact h13_6
    | 7, _ => exact h13_7
    | j + 8, hj => exact absurd hj (by omega))).imp id (fun h => by omega)) ?_
  refine X_run 1 (i1 := 130) (L1 := [some (.inr (.inr (some 21))), some (.inl a0), some (.inl a1), some (.inl (sA s 30 (Int32.toNatClampNeg a1))), some (.inl (sA s 30 (Int32.toNatClampNeg (a1 + (1 : Int32))))), none, none, none]) (st1 := [.inr (.inr (some 21))]) rfl ?_
  refine X_gF (v := .inr (.inr (some 29))) rfl rfl rfl rfl ?_
  refine X_run 1 (i1 := 132) (L1 := [some (.inr (.inr (some 21))), some (.inl a0), some (.inl a1), some (.inl (sA s 30 (Int32.toNatClampNeg a1))), some (.inl (sA s 30 (Int32.toNatClampNeg (a1 + (1 : Int32))))), none, none, none]) (st1 := [.inl (sA s 30 (Int32.toNatClampNeg (a1 + (1 : Int32)))), .inr (.inr (some 29))]) rfl ?_
  obtain ⟨hin, hw⟩ := hw
  refine X_aL rfl rfl hin ?_
  show X _ _ 133 [some (.inr (.inr (some 21))), some (.inl a0), some (.inl a1), some (.inl (sA s 30 (Int32.toNatClampNeg a1))), some (.inl (sA s 30 (Int32.toNatClampNeg (a1 + (1 : Int32))))), none, none, none] [.inr (.inl (sB s 29 (Int32.toNatClampNeg (sA s 30 (Int32.toNatClampNeg (a1 + (1 : Int32)))))))] (hp s) _
  refine X_run 1 (i1 := 134) (L1 := [some (.inr (.inr (some 21))), some (.inl a0), some (.inl a1), some (.inl (sA s 30 (Int32.toNatClampNeg a1))), some (.inl (sA s 30 (Int32.toNatClampNeg (a1 + (1 : Int32))))), none, none, none]) (st1 := [.inr (.inr (some 21)), .inr (.inl (sB s 29 (Int32.toNatClampNeg (sA s 30 (Int32.toNatClampNeg (a1 + (1 : Int32)))))))]) rfl ?_
  refine X_gF (v := .inr (.inr (some 29))) rfl rfl rfl rfl ?_
  refine X_run 1 (i1 := 136) (L1 := [some (.inr (.inr (some 21))), some (.inl a0), some (.inl a1), some (.inl (sA s 30 (Int32.toNatClampNeg a1))), some (.inl (sA s 30 (Int32.toNatClampNeg (a1 + (1 : Int32))))), none, none, none]) (st1 := [.inr (.inr (some 21)), .inr (.inr (some 29)), .inr (.inl (sB s 29 (Int32.toNatClampNeg (sA s 30 (Int32.toNatClampNeg (a1 + (1 : Int32)))))))]) rfl ?_
  refine X_gF (v := .inr (.inr (some 30))) rfl rfl rfl rfl ?_
  refine X_run 3 (i1 := 140) (L1 := [some (.inr (.inr (some 21))), some (.inl a0), some (.inl a1), some (.inl (sA s 30 (Int32.toNatClampNeg a1))), some (.inl (sA s 30 (Int32.toNatClampNeg (a1 + (1 : Int32))))), none, none, none]) (st1 := [.inl (a1 + (2 : Int32)), .inr (.inr (some 30)), .inr (.inr (some 29)), .inr (.inl (sB s 29 (Int32.toNatClampNeg (sA s 30 (Int32.toNatClampNeg (a1 + (1 : Int32)))))))]) rfl ?_
  obtain ⟨hin, hw⟩ := hw
  refine X_aI rfl rfl hin ?_
  show X _ _ 141 [some (.inr (.inr (some 21))), some (.inl a0), some (.inl a1), some (.inl (sA s 30 (Int32.toNatClampNeg a1))), some (.inl (sA s 30 (Int32.toNatClampNeg (a1 + (1 : Int32))))), none, none, none] [.inl (sA s 30 (Int32.toNatClampNeg (a1 + (2 : Int32)))), .inr (.inr (some 29)), .inr (.inl (sB s 29 (Int32.toNatClampNeg (sA s 30 (Int32.toNatClampNeg (a1 + (1 : Int32)))))))] (hp s) _
  obtain ⟨hin, hw⟩ := hw
  refine X_aL rfl rfl hin ?_
  show X _ _ 142 [some (.inr (.inr (some 21))), some (.inl a0), some (.inl a1), some (.inl (sA s 30 (Int32.toNatClampNeg a1))), some (.inl (sA s 30 (Int32.toNatClampNeg (a1 + (1 : Int32))))), none, none, none] [.inr (.inl (sB s 29 (Int32.toNatClampNeg (sA s 30 (Int32.toNatClampNeg (a1 + (2 : Int32))))))), .inr (.inl (sB s 29 (Int32.toNatClampNeg (sA s 30 (Int32.toNatClampNeg (a1 + (1 : Int32)))))))] (hp s) _
  refine X_calls m_M_order (As := [.inr (.inl (sB s 29 (Int32.toNatClampNeg (sA s 30 (Int32.toNatClampNeg (a1 + (1 : Int32))))))), .inr (.inl (sB s 29 (Int32.toNatClampNeg (sA s 30 (Int32.toNatClampNeg (a1 + (2 : Int32)))))))]) (st := []) ok_M_order rfl rfl rfl (Nat.le_of_ble_eq_true rfl) (Nat.le_of_ble_eq_true rfl) (c_M_order (d := d + 3) (sB s 29 (Int32.toNatClampNeg (sA s 30 (Int32.toNatClampNeg (a1 + (1 : Int32)))))) (sB s 29 (Int32.toNatClampNeg (sA s 30 (Int32.toNatClampNeg (a1 + (2 : Int32))))))) ?_
  rintro _ _ ⟨rfl, rfl⟩
  show X _ _ 143 [some (.inr (.inr (some 21))), some (.inl a0), some (.inl a1), some (.inl (sA s 30 (Int32.toNatClampNeg a1))), some (.inl (sA s 30 (Int32.toNatClampNeg (a1 + (1 : Int32))))), none, none, none] [.inl (f_M_order (sB s 29 (Int32.toNatClampNeg (sA s 30 (Int32.toNatClampNeg (a1 + (1 : Int32)))))) (sB s 29 (Int32.toNatClampNeg (sA s 30 (Int32.toNatClampNeg (a1 + (2 : Int32)))))))] (hp s) _
  refine X_run 1 (i1 := 144) (L1 := [some (.inr (.inr (some 21))), some (.inl a0), some (.inl a1), some (.inl (sA s 30 (Int32.toNatClampNeg a1))), some (.inl (sA s 30 (Int32.toNatClampNeg (a1 + (1 : Int32))))), some (.inl (f_M_order (sB s 29 (Int32.toNatClampNeg (sA s 30 (Int32.toNatClampNeg (a1 + (1 : Int32)))))) (sB s 29 (Int32.toNatClampNeg (sA s 30 (Int32.toNatClampNeg (a1 + (2 : Int32)))))))), none, none]) (st1 := []) rfl ?_
  refine X_mask [true, false, true, true, false, true, true, true] ?_
  exact ct_M_reckons_144 fu s a1 (sA s 30 (Int32.toNatClampNeg a1)) (f_M_order (sB s 29 (Int32.toNatClampNeg (sA s 30 (Int32.toNatClampNeg (a1 + (1 : Int32)))))) (sB s 29 (Int32.toNatClampNeg (sA s 30 (Int32.toNatClampNeg (a1 + (2 : Int32))))))) hw
abbrev LT_M_grid_33 : Type := (St → Int32 → Int32 → Int32 → Int32 → Int32 → Int32 × St) × (St → Int32 → Int32 → Int32 → Int32 → Int32 → Int32 → Int32 → Int32 × St)
abbrev LW_M_grid_33 : Type := (St → Int32 → Int32 → Int32 → Int32 → Int32 → Prop) × (St → Int32 → Int32 → Int32 → Int32 → Int32 → Int32 → Int32 → Prop)
def hl_M_grid_33 (d : Nat) (lp : LT_M_grid_33) (wlp : LW_M_grid_33) : Prop := (∀ (s : St) (v1 : Int32) (v2 : Int32) (v3 : Int32) (v4 : Int32) (v5 : Int32), wlp.1 s v1 v2 v3 v4 v5 → X m_M_grid d 33 [some (.inr (.inr (some 21))), some (.inl v1), some (.inl v2), some (.inl v3), some (.inl v4), some (.inl v5)] [] (hp s) (qIs (lp.1 s v1 v2 v3 v4 v5))) ∧ (∀ (s : St) (v1 : Int32) (v2 : Int32) (v3 : Int32) (v4 : Int32) (v5 : Int32) (w0 : Int32) (w1 : Int32), wlp.2 s v1 v2 v3 v4 v5 w0 w1 → X m_M_grid d 49 [some (.inr (.inr (some 21))), some (.inl v1), some (.inl v2), some (.inl v3), some (.inl v4), some (.inl v5)] [.inl w0, .inl w1, .inr (.inr (some 26))] (hp s) (qIs (lp.2 s v1 v2 v3 v4 v5 w0 w1)))
def b_M_grid_33 (fu : Nat) (lp : LT_M_grid_33) (s : St) (v1 : Int32) (v2 : Int32) (v3 : Int32) (v4 : Int32) (v5 : Int32) : Int32 × St := (cond (cn2 .ge v5 v2) (f_M_takesFor (pA s 27 (upd (sA s 27) (Int32.toNatClampNeg v1) v4)) (((Int32.toInt64 v2) * (Int32.toInt64 v3)) + (Int32.toInt64 v2))) (lp.2 ((f_M_thing s (4 : Int32) v3 (0 : Int32)).2) v1 v2 v3 v4 v5 ((f_M_thing s (4 : Int32) v3 (0 : Int32)).1) ((sA s 23 (Int32.toNatClampNeg v4)) + v5)))
def v_M_grid_33 (fu : Nat) (lp : LT_M_grid_33) (wlp : LW_M_grid_33) (s : St) (v1 : Int32) (v2 : Int32) (v3 : Int32) (v4 : Int32) (v5 : Int32) : Prop := ((cn2 .ge v5 v2) = true → (vp_in v1 16 ∧ (w_M_takesFor (pA s 27 (upd (sA s 27) (Int32.toNatClampNeg v1) v4)) (((Int32.toInt64 v2) * (Int32.toInt64 v3)) + (Int32.toInt64 v2)) ∧ True))) ∧ ((cn2 .ge v5 v2) = false → (vp_in v4 40001 ∧ (w_M_thing s (4 : Int32) v3 (0 : Int32) ∧ (wlp.2 ((f_M_thing s (4 : Int32) v3 (0 : Int32)).2) v1 v2 v3 v4 v5 ((f_M_thing s (4 : Int32) v3 (0 : Int32)).1) ((sA s 23 (Int32.toNatClampNeg v4)) + v5)))))
theorem cb_M_grid_33 {d : Nat} (fu : Nat) {lp : LT_M_grid_33} {wlp : LW_M_grid_33} (hlp : hl_M_grid_33 (d + 3) lp wlp) (s : St) (v1 : Int32) (v2 : Int32) (v3 : Int32) (v4 : Int32) (v5 : Int32) (hw : v_M_grid_33 fu lp wlp s v1 v2 v3 v4 v5) : X m_M_grid (d + 3) 33 [some (.inr (.inr (some 21))), some (.inl v1), some (.inl v2), some (.inl v3), some (.inl v4), some (.inl v5)] [] (hp s) (qIs (b_M_grid_33 fu lp s v1 v2 v3 v4 v5)) := by
  unfold b_M_grid_33
  unfold v_M_grid_33 at hw
  refine X_run 3 (i1 := cond (cn2 .ge v5 v2) 53 36) (L1 := [some (.inr (.inr (some 21))), some (.inl v1), some (.inl v2), some (.inl v3), some (.inl v4), some (.inl v5)]) (st1 := []) rfl ?_
  refine X_brq (fun hb => ?_) (fun hb => ?_)
  · have hw := hw.1 hb
    refine X_run 1 (i1 := 54) (L1 := [some (.inr (.inr (some 21))), some (.inl v1), some (.inl v2), some (.inl v3), some (.inl v4), some (.inl v5)]) (st1 := [.inr (.inr (some 21))]) rfl ?_
    refine X_gF (v := .inr (.inr (some 27))) rfl rfl rfl rfl ?_
    refine X_run 2 (i1 := 57) (L1 := [some (.inr (.inr (some 21))), some (.inl v1), some (.inl v2), some (.inl v3), some (.inl v4), some (.inl v5)]) (st1 := [.inl v4, .inl v1, .inr (.inr (some 27))]) rfl ?_
    obtain ⟨hin, hw⟩ := hw
    refine X_sI rfl rfl hin ?_
    show X _ _ 58 [some (.inr (.inr (some 21))), some (.inl v1), some (.inl v2), some (.inl v3), some (.inl v4), some (.inl v5)] [] (hp (pA s 27 (upd (sA s 27) (Int32.toNatClampNeg v1) v4))) _
    refine X_run 9 (i1 := 67) (L1 := [some (.inr (.inr (some 21))), some (.inl v1), some (.inl v2), some (.inl v3), some (.inl v4), some (.inl v5)]) (st1 := [.inr (.inl (((Int32.toInt64 v2) * (Int32.toInt64 v3)) + (Int32.toInt64 v2))), .inr (.inr (some 21))]) rfl ?_
    obtain ⟨hc, hw⟩ := hw
    refine X_callv m_M_takesFor (As := [.inr (.inl (((Int32.toInt64 v2) * (Int32.toInt64 v3)) + (Int32.toInt64 v2)))]) (st := []) ok_M_takesFor rfl rfl rfl (hp_obj rfl) rfl (Nat.le_of_ble_eq_true rfl) (Nat.le_of_ble_eq_true rfl) (c_M_takesFor (d := d + 1) (pA s 27 (upd (sA s 27) (Int32.toNatClampNeg v1) v4)) (((Int32.toInt64 v2) * (Int32.toInt64 v3)) + (Int32.toInt64 v2)) hc) ?_
    rintro _ _ ⟨rfl, rfl⟩
    show X _ _ 68 [some (.inr (.inr (some 21))), some (.inl v1), some (.inl v2), some (.inl v3), some (.inl v4), some (.inl v5)] [.inl ((f_M_takesFor (pA s 27 (upd (sA s 27) (Int32.toNatClampNeg v1) v4)) (((Int32.toInt64 v2) * (Int32.toInt64 v3)) + (Int32.toInt64 v2))).1)] (hp ((f_M_takesFor (pA s 27 (upd (sA s 27) (Int32.toNatClampNeg v1) v4)) (((Int32.toInt64 v2) * (Int32.toInt64 v3)) + (Int32.toInt64 v2))).2)) _
    exact X_iret rfl rfl qIs_p
  · have hw := hw.2 hb
    refine X_run 1 (i1 := 37) (L1 := [some (.inr (.inr (some 21))), some (.inl v1), some (.inl v2), some (.inl v3), some (.inl v4), some (.inl v5)]) (st1 := [.inr (.inr (some 21))]) rfl ?_
    refine X_gF (v := .inr (.inr (some 26))) rfl rfl rfl rfl ?_
    refine X_run 1 (i1 := 39) (L1 := [some (.inr (.inr (some 21))), some (.inl v1), some (.inl v2), some (.inl v3), some (.inl v4), some (.inl v5)]) (st1 := [.inr (.inr (some 21)), .inr (.inr (some 26))]) rfl ?_
    refine X_gF (v := .inr (.inr (some 23))) rfl rfl rfl rfl ?_
    refine X_run 1 (i1 := 41) (L1 := [some (.inr (.inr (some 21))), some (.inl v1), some (.inl v2), some (.inl v3), some (.inl v4), some (.inl v5)]) (st1 := [.inl v4, .inr (.inr (some 23)), .inr (.inr (some 26))]) rfl ?_
    obtain ⟨hin, hw⟩ := hw
    refine X_aI rfl rfl hin ?_
    show X _ _ 42 [some (.inr (.inr (some 21))), some (.inl v1), some (.inl v2), some (.inl v3), some (.inl v4), some (.inl v5)] [.inl (sA s 23 (Int32.toNatClampNeg v4)), .inr (.inr (some 26))] (hp s) _
    refine X_run 6 (i1 := 48) (L1 := [some (.inr (.inr (some 21))), some (.inl v1), some (.inl v2), some (.inl v3), some (.inl v4), some (.inl v5)]) (st1 := [.inl (0 : Int32), .inl v3, .inl (4 : Int32), .inr (.inr (some 21)), .inl ((sA s 23 (Int32.toNatClampNeg v4)) + v5), .inr (.inr (some 26))]) rfl ?_
    obtain ⟨hc, hw⟩ := hw
    refine X_callv m_M_thing (As := [.inl (4 : Int32), .inl v3, .inl (0 : Int32)]) (st := [.inl ((sA s 23 (Int32.toNatClampNeg v4)) + v5), .inr (.inr (some 26))]) ok_M_thing rfl rfl rfl (hp_obj rfl) rfl (Nat.le_of_ble_eq_true rfl) (Nat.le_of_ble_eq_true rfl) (c_M_thing (d := d + 2) s (4 : Int32) v3 (0 : Int32) hc) ?_
    rintro _ _ ⟨rfl, rfl⟩
    show X _ _ 49 [some (.inr (.inr (some 21))), some (.inl v1), some (.inl v2), some (.inl v3), some (.inl v4), some (.inl v5)] [.inl ((f_M_thing s (4 : Int32) v3 (0 : Int32)).1), .inl ((sA s 23 (Int32.toNatClampNeg v4)) + v5), .inr (.inr (some 26))] (hp ((f_M_thing s (4 : Int32) v3 (0 : Int32)).2)) _
    show X _ _ 49 [some (.inr (.inr (some 21))), some (.inl v1), some (.inl v2), some (.inl v3), some (.inl v4), some (.inl v5)] [.inl ((f_M_thing s (4 : Int32) v3 (0 : Int32)).1), .inl ((sA s 23 (Int32.toNatClampNeg v4)) + v5), .inr (.inr (some 26))] (hp ((f_M_thing s (4 : Int32) v3 (0 : Int32)).2)) _
    exact hlp.2 ((f_M_thing s (4 : Int32) v3 (0 : Int32)).2) v1 v2 v3 v4 v5 ((f_M_thing s (4 : Int32) v3 (0 : Int32)).1) ((sA s 23 (Int32.toNatClampNeg v4)) + v5) hw
def b_M_grid_49 (fu : Nat) (lp : LT_M_grid_33) (s : St) (v1 : Int32) (v2 : Int32) (v3 : Int32) (v4 : Int32) (v5 : Int32) (w0 : Int32) (w1 : Int32) : Int32 × St := (lp.1 (pB s 26 (vp_updL (sB s 26) (Int32.toNatClampNeg w1) (Int32.toInt64 w0))) v1 v2 v3 v4 (v5 + Int32.ofInt (1)))
def v_M_grid_49 (fu : Nat) (lp : LT_M_grid_33) (wlp : LW_M_grid_33) (s : St) (v1 : Int32) (v2 : Int32) (v3 : Int32) (v4 : Int32) (v5 : Int32) (w0 : Int32) (w1 : Int32) : Prop := (vp_in w1 40001 ∧ (wlp.1 (pB s 26 (vp_updL (sB s 26) (Int32.toNatClampNeg w1) (Int32.toInt64 w0))) v1 v2 v3 v4 (v5 + Int32.ofInt (1))))
theorem cb_M_grid_49 {d : Nat} (fu : Nat) {lp : LT_M_grid_33} {wlp : LW_M_grid_33} (hlp : hl_M_grid_33 (d + 3) lp wlp) (s : St) (v1 : Int32) (v2 : Int32) (v3 : Int32) (v4 : Int32) (v5 : Int32) (w0 : Int32) (w1 : Int32) (hw : v_M_grid_49 fu lp wlp s v1 v2 v3 v4 v5 w0 w1) : X m_M_grid (d + 3) 49 [some (.inr (.inr (some 21))), some (.inl v1), some (.inl v2), some (.inl v3), some (.inl v4), some (.inl v5)] [.inl w0, .inl w1, .inr (.inr (some 26))] (hp s) (qIs (b_M_grid_49 fu lp s v1 v2 v3 v4 v5 w0 w1)) := by
  unfold b_M_grid_49
  unfold v_M_grid_49 at hw
  refine X_run 1 (i1 := 50) (L1 := [some (.inr (.inr (some 21))), some (.inl v1), some (.inl v2), some (.inl v3), some (.inl v4), some (.inl v5)]) (st1 := [.inr (.inl (Int32.toInt64 w0)), .inl w1, .inr (.inr (some 26))]) rfl ?_
  obtain ⟨hin, hw⟩ := hw
  refine X_sL rfl rfl hin ?_
  show X _ _ 51 [some (.inr (.inr (some 21))), some (.inl v1), some (.inl v2), some (.inl v3), some (.inl v4), some (.inl v5)] [] (hp (pB s 26 (vp_updL (sB s 26) (Int32.toNatClampNeg w1) (Int32.toInt64 w0)))) _
  refine X_run 2 (i1 := 33) (L1 := [some (.inr (.inr (some 21))), some (.inl v1), some (.inl v2), some (.inl v3), some (.inl v4), some (.inl (v5 + Int32.ofInt (1)))]) (st1 := []) rfl ?_
  exact hlp.1 (pB s 26 (vp_updL (sB s 26) (Int32.toNatClampNeg w1) (Int32.toInt64 w0))) v1 v2 v3 v4 (v5 + Int32.ofInt (1)) hw
def T_M_grid_33 (fu : Nat) : Nat → LT_M_grid_33
  | 0 => (fun s _ _ _ _ _ => (0, s), fun s _ _ _ _ _ _ _ => (0, s))
  | n + 1 => (fun s v1 v2 v3 v4 v5 => b_M_grid_33 fu (T_M_grid_33 fu n) s v1 v2 v3 v4 v5, fun s v1 v2 v3 v4 v5 w0 w1 => b_M_grid_49 fu (T_M_grid_33 fu n) s v1 v2 v3 v4 v5 w0 w1)
def WT_M_grid_33 (fu : Nat) : Nat → LW_M_grid_33
  | 0 => (fun _ _ _ _ _ _ => False, fun _ _ _ _ _ _ _ _ => False)
  | n + 1 => (fun s v1 v2 v3 v4 v5 => v_M_grid_33 fu (T_M_grid_33 fu n) (WT_M_grid_33 fu n) s v1 v2 v3 v4 v5, fun s v1 v2 v3 v4 v5 w0 w1 => v_M_grid_49 fu (T_M_grid_33 fu n) (WT_M_grid_33 fu n) s v1 v2 v3 v4 v5 w0 w1)
theorem cT_M_grid_33 {d : Nat} (fu : Nat) : ∀ n : Nat, hl_M_grid_33 (d + 3) (T_M_grid_33 fu n) (WT_M_grid_33 fu n)
  | 0 => ⟨fun _ _ _ _ _ _ hw => hw.elim, fun _ _ _ _ _ _ _ _ hw => hw.elim⟩
  | n + 1 => ⟨fun s v1 v2 v3 v4 v5 hw => cb_M_grid_33 fu (cT_M_grid_33 fu n) s v1 v2 v3 v4 v5 hw, fun s v1 v2 v3 v4 v5 w0 w1 hw => cb_M_grid_49 fu (cT_M_grid_33 fu n) s v1 v2 v3 v4 v5 w0 w1 hw⟩
def t_M_grid_30 (fu : Nat) (s : St) (v1 : Int32) (v2 : Int32) (v3 : Int32) (w0 : Int32) : Int32 × St := ((T_M_grid_33 fu fu).1 s v1 v2 v3 w0 (0 : Int32))
def w_M_grid_30 (fu : Nat) (s : St) (v1 : Int32) (v2 : Int32) (v3 : Int32) (w0 : Int32) : Prop := ((WT_M_grid_33 fu fu).1 s v1 v2 v3 w0 (0 : Int32))
theorem ct_M_grid_30 {d : Nat} (fu : Nat) (s : St) (v1 : Int32) (v2 : Int32) (v3 : Int32) (w0 : Int32) (hw : w_M_grid_30 fu s v1 v2 v3 w0) : X m_M_grid (d + 3) 30 [some (.inr (.inr (some 21))), some (.inl v1), some (.inl v2), some (.inl v3), none, none] [.inl w0] (hp s) (qIs (t_M_grid_30 fu s v1 v2 v3 w0)) := by
  unfold t_M_grid_30
  unfold w_M_grid_30 at hw
  refine X_run 3 (i1 := 33) (L1 := [some (.inr (.inr (some 21))), some (.inl v1), some (.inl v2), some (.inl v3), some (.inl w0), some (.inl (0 : Int32))]) (st1 := []) rfl ?_
  exact (cT_M_grid_33 fu fu).1 s v1 v2 v3 w0 (0 : Int32) hw
def t_M_grid_22 (fu : Nat) (s : St) (v1 : Int32) (v2 : Int32) (v3 : Int32) (w0 : Int32) : Int32 × St := (cond (cn1 .ne w0) (t_M_grid_30 fu ((f_M_thing s (9 : Int32) v2 (0 : Int32)).2) v1 v2 v3 ((f_M_thing s (9 : Int32) v2 (0 : Int32)).1)) ((3 : Int32), s))
def w_M_grid_22 (fu : Nat) (s : St) (v1 : Int32) (v2 : Int32) (v3 : Int32) (w0 : Int32) : Prop := ((cn1 .ne w0) = true → (w_M_thing s (9 : Int32) v2 (0 : Int32) ∧ (w_M_grid_30 fu ((f_M_thing s (9 : Int32) v2 (0 : Int32)).2) v1 v2 v3 ((f_M_thing s (9 : Int32) v2 (0 : Int32)).1)))) ∧ ((cn1 .ne w0) = false → True)
theorem ct_M_grid_22 {d : Nat} (fu : Nat) (s : St) (v1 : Int32) (v2 : Int32) (v3 : Int32) (w0 : Int32) (hw : w_M_grid_22 fu s v1 v2 v3 w0) : X m_M_grid (d + 3) 22 [some (.inr (.inr (some 21))), some (.inl v1), some (.inl v2), some (.inl v3), none, none] [.inl w0] (hp s) (qIs (t_M_grid_22 fu s v1 v2 v3 w0)) := by
  unfold t_M_grid_22
  unfold w_M_grid_22 at hw
  refine X_run 1 (i1 := cond (cn1 .ne w0) 25 23) (L1 := [some (.inr (.inr (some 21))), some (.inl v1), some (.inl v2), some (.inl v3), none, none]) (st1 := []) rfl ?_
  refine X_brq (fun hb => ?_) (fun hb => ?_)
  · have hw := hw.1 hb
    refine X_run 4 (i1 := 29) (L1 := [some (.inr (.inr (some 21))), some (.inl v1), some (.inl v2), some (.inl v3), none, none]) (st1 := [.inl (0 : Int32), .inl v2, .inl (9 : Int32), .inr (.inr (some 21))]) rfl ?_
    obtain ⟨hc, hw⟩ := hw
    refine X_callv m_M_thing (As := [.inl (9 : Int32), .inl v2, .inl (0 : Int32)]) (st := []) ok_M_thing rfl rfl rfl (hp_obj rfl) rfl (Nat.le_of_ble_eq_true rfl) (Nat.le_of_ble_eq_true rfl) (c_M_thing (d := d + 2) s (9 : Int32) v2 (0 : Int32) hc) ?_
    rintro _ _ ⟨rfl, rfl⟩
    show X _ _ 30 [some (.inr (.inr (some 21))), some (.inl v1), some (.inl v2), some (.inl v3), none, none] [.inl ((f_M_thing s (9 : Int32) v2 (0 : Int32)).1)] (hp ((f_M_thing s (9 : Int32) v2 (0 : Int32)).2)) _
    show X _ _ 30 [some (.inr (.inr (some 21))), some (.inl v1), some (.inl v2), some (.inl v3), none, none] [.inl ((f_M_thing s (9 : Int32) v2 (0 : Int32)).1)] (hp ((f_M_thing s (9 : Int32) v2 (0 : Int32)).2)) _
    exact ct_M_grid_30 fu ((f_M_thing s (9 : Int32) v2 (0 : Int32)).2) v1 v2 v3 ((f_M_thing s (9 : Int32) v2 (0 : Int32)).1) hw
  · skip
    refine X_run 1 (i1 := 24) (L1 := [some (.inr (.inr (some 21))), some (.inl v1), some (.inl v2), some (.inl v3), none, none]) (st1 := [.inl (3 : Int32)]) rfl ?_
    exact X_iret rfl rfl qIs_i
def t_M_grid_4 (fu : Nat) (s : St) : Int32 × St := (f_M_fails s (3 : Int32))
def w_M_grid_4 (fu : Nat) (s : St) : Prop := (w_M_fails s (3 : Int32) ∧ True)
theorem ct_M_grid_4 {d : Nat} (fu : Nat) (s : St) (hw : w_M_grid_4 fu s) : X m_M_grid (d + 3) 4 [some (.inr (.inr (some 21))), none, none, none, none, none] [] (hp s) (qIs (t_M_grid_4 fu s)) := by
  unfold t_M_grid_4
  unfold w_M_grid_4 at hw
  refine X_run 2 (i1 := 6) (L1 := [some (.inr (.inr (some 21))), none, none, none, none, none]) (st1 := [.inl (3 : Int32), .inr (.inr (some 21))]) rfl ?_
  obtain ⟨hc, hw⟩ := hw
  refine X_callv m_M_fails (As := [.inl (3 : Int32)]) (st := []) ok_M_fails rfl rfl rfl (hp_obj rfl) rfl (Nat.le_of_ble_eq_true rfl) (Nat.le_of_ble_eq_true rfl) (c_M_fails (d := d) s (3 : Int32) hc) ?_
  rintro _ _ ⟨rfl, rfl⟩
  show X _ _ 7 [some (.inr (.inr (some 21))), none, none, none, none, none] [.inl ((f_M_fails s (3 : Int32)).1)] (hp ((f_M_fails s (3 : Int32)).2)) _
  exact X_iret rfl rfl qIs_p
def f_M_grid (fu : Nat) (s : St) (a0 : Int32) (a1 : Int32) (a2 : Int32) : Int32 × St := (cond (cn1 .lt a1) (t_M_grid_4 fu s) (cond (cn1 .ge a2) (t_M_grid_22 fu ((f_M_pays s (((1 : Int64) + (Int32.toInt64 a1)) + ((Int32.toInt64 a1) * ((1 : Int64) + (Int32.toInt64 a2))))).2) a0 a1 a2 (b2i (f_M_pays s (((1 : Int64) + (Int32.toInt64 a1)) + ((Int32.toInt64 a1) * ((1 : Int64) + (Int32.toInt64 a2))))).1)) (t_M_grid_4 fu s)))
def w_M_grid (fu : Nat) (s : St) (a0 : Int32) (a1 : Int32) (a2 : Int32) : Prop := ((cn1 .lt a1) = true → (w_M_grid_4 fu s)) ∧ ((cn1 .lt a1) = false → ((cn1 .ge a2) = true → (w_M_pays s (((1 : Int64) + (Int32.toInt64 a1)) + ((Int32.toInt64 a1) * ((1 : Int64) + (Int32.toInt64 a2)))) ∧ (w_M_grid_22 fu ((f_M_pays s (((1 : Int64) + (Int32.toInt64 a1)) + ((Int32.toInt64 a1) * ((1 : Int64) + (Int32.toInt64 a2))))).2) a0 a1 a2 (b2i (f_M_pays s (((1 : Int64) + (Int32.toInt64 a1)) + ((Int32.toInt64 a1) * ((1 : Int64) + (Int32.toInt64 a2))))).1)))) ∧ ((cn1 .ge a2) = false → (w_M_grid_4 fu s)))
theorem c_M_grid {d : Nat} (fu : Nat) (s : St) (a0 : Int32) (a1 : Int32) (a2 : Int32) (hw : w_M_grid fu s a0 a1 a2) : X m_M_grid (d + 3) 0 (entL 6 [.inr (.inr (some 21)), .inl a0, .inl a1, .inl a2]) [] (hp s) (qIs (f_M_grid fu s a0 a1 a2)) := by
  unfold f_M_grid
  unfold w_M_grid at hw
  refine X_run 2 (i1 := cond (cn1 .lt a1) 4 2) (L1 := [some (.inr (.inr (some 21))), some (.inl a0), some (.inl a1), some (.inl a2), none, none]) (st1 := []) rfl ?_
  refine X_brq (fun hb => ?_) (fun hb => ?_)
  · have hw := hw.1 hb
    refine X_mask [true, false, false, false, true, true] ?_
    exact ct_M_grid_4 fu s hw
  · have hw := hw.2 hb
    refine X_run 2 (i1 := cond (cn1 .ge a2) 8 4) (L1 := [some (.inr (.inr (some 21))), some (.inl a0), some (.inl a1), some (.inl a2), none, none]) (st1 := []) rfl ?_
    refine X_brq (fun hb => ?_) (fun hb => ?_)
    · have hw := hw.1 hb
      refine X_run 13 (i1 := 21) (L1 := [some (.inr (.inr (some 21))), some (.inl a0), some (.inl a1), some (.inl a2), none, none]) (st1 := [.inr (.inl (((1 : Int64) + (Int32.toInt64 a1)) + ((Int32.toInt64 a1) * ((1 : Int64) + (Int32.toInt64 a2))))), .inr (.inr (some 21))]) rfl ?_
      obtain ⟨hc, hw⟩ := hw
      refine X_callv m_M_pays (As := [.inr (.inl (((1 : Int64) + (Int32.toInt64 a1)) + ((Int32.toInt64 a1) * ((1 : Int64) + (Int32.toInt64 a2)))))]) (st := []) ok_M_pays rfl rfl rfl (hp_obj rfl) rfl (Nat.le_of_ble_eq_true rfl) (Nat.le_of_ble_eq_true rfl) (c_M_pays (d := d + 2) s (((1 : Int64) + (Int32.toInt64 a1)) + ((Int32.toInt64 a1) * ((1 : Int64) + (Int32.toInt64 a2)))) hc) ?_
      rintro _ _ ⟨rfl, rfl⟩
      show X _ _ 22 [some (.inr (.inr (some 21))), some (.inl a0), some (.inl a1), some (.inl a2), none, none] [.inl (b2i (f_M_pays s (((1 : Int64) + (Int32.toInt64 a1)) + ((Int32.toInt64 a1) * ((1 : Int64) + (Int32.toInt64 a2))))).1)] (hp ((f_M_pays s (((1 : Int64) + (Int32.toInt64 a1)) + ((Int32.toInt64 a1) * ((1 : Int64) + (Int32.toInt64 a2))))).2)) _
      show X _ _ 22 [some (.inr (.inr (some 21))), some (.inl a0), some (.inl a1), some (.inl a2), none, none] [.inl (b2i (f_M_pays s (((1 : Int64) + (Int32.toInt64 a1)) + ((Int32.toInt64 a1) * ((1 : Int64) + (Int32.toInt64 a2))))).1)] (hp ((f_M_pays s (((1 : Int64) + (Int32.toInt64 a1)) + ((Int32.toInt64 a1) * ((1 : Int64) + (Int32.toInt64 a2))))).2)) _
      exact ct_M_grid_22 fu ((f_M_pays s (((1 : Int64) + (Int32.toInt64 a1)) + ((Int32.toInt64 a1) * ((1 : Int64) + (Int32.toInt64 a2))))).2) a0 a1 a2 (b2i (f_M_pays s (((1 : Int64) + (Int32.toInt64 a1)) + ((Int32.toInt64 a1) * ((1 : Int64) + (Int32.toInt64 a2))))).1) hw
    · have hw := hw.2 hb
      refine X_mask [true, false, false, false, true, true] ?_
      exact ct_M_grid_4 fu s hw
def t_M_makes_150 (fu : Nat) (s : St) (v1 : Int32) (v5 : Int32) : Int32 × St := (cond (cn2 .ge v1 (15 : Int32)) ((0 : Int32), s) (f_M_takesFor s (Int32.toInt64 v5)))
def w_M_makes_150 (fu : Nat) (s : St) (v1 : Int32) (v5 : Int32) : Prop := ((cn2 .ge v1 (15 : Int32)) = true → True) ∧ ((cn2 .ge v1 (15 : Int32)) = false → (w_M_takesFor s (Int32.toInt64 v5) ∧ True))
theorem ct_M_makes_150 {d : Nat} (fu : Nat) (s : St) (v1 : Int32) (v5 : Int32) (hw : w_M_makes_150 fu s v1 v5) : X m_M_makes (d + 4) 150 [some (.inr (.inr (some 21))), some (.inl v1), none, none, none, some (.inl v5)] [] (hp s) (qIs (t_M_makes_150 fu s v1 v5)) := by
  unfold t_M_makes_150
  unfold w_M_makes_150 at hw
  refine X_run 3 (i1 := cond (cn2 .ge v1 (15 : Int32)) 158 153) (L1 := [some (.inr (.inr (some 21))), some (.inl v1), none, none, none, some (.inl v5)]) (st1 := []) rfl ?_
  refine X_brq (fun hb => ?_) (fun hb => ?_)
  · skip
    refine X_run 1 (i1 := 159) (L1 := [some (.inr (.inr (some 21))), some (.inl v1), none, none, none, some (.inl v5)]) (st1 := [.inl (0 : Int32)]) rfl ?_
    exact X_iret rfl rfl qIs_i
  · have hw := hw.2 hb
    refine X_run 3 (i1 := 156) (L1 := [some (.inr (.inr (some 21))), some (.inl v1), none, none, none, some (.inl v5)]) (st1 := [.inr (.inl (Int32.toInt64 v5)), .inr (.inr (some 21))]) rfl ?_
    obtain ⟨hc, hw⟩ := hw
    refine X_callv m_M_takesFor (As := [.inr (.inl (Int32.toInt64 v5))]) (st := []) ok_M_takesFor rfl rfl rfl (hp_obj rfl) rfl (Nat.le_of_ble_eq_true rfl) (Nat.le_of_ble_eq_true rfl) (c_M_takesFor (d := d + 2) s (Int32.toInt64 v5) hc) ?_
    rintro _ _ ⟨rfl, rfl⟩
    show X _ _ 157 [some (.inr (.inr (some 21))), some (.inl v1), none, none, none, some (.inl v5)] [.inl ((f_M_takesFor s (Int32.toInt64 v5)).1)] (hp ((f_M_takesFor s (Int32.toInt64 v5)).2)) _
    refine X_run 1 (i1 := 159) (L1 := [some (.inr (.inr (some 21))), some (.inl v1), none, none, none, some (.inl v5)]) (st1 := [.inl ((f_M_takesFor s (Int32.toInt64 v5)).1)]) rfl ?_
    exact X_iret rfl rfl qIs_p
def t_M_makes_138 (fu : Nat) (s : St) (v1 : Int32) (v3 : Int32) (v5 : Int32) : Int32 × St := (t_M_makes_150 fu (pB s 26 (vp_updL (sB s 26) (Int32.toNatClampNeg (sA s 23 (Int32.toNatClampNeg (sA s 27 (Int32.toNatClampNeg v3))))) (Int32.toInt64 v5))) v1 v5)
def w_M_makes_138 (fu : Nat) (s : St) (v1 : Int32) (v3 : Int32) (v5 : Int32) : Prop := (vp_in v3 16 ∧ (vp_in (sA s 27 (Int32.toNatClampNeg v3)) 40001 ∧ (vp_in (sA s 23 (Int32.toNatClampNeg (sA s 27 (Int32.toNatClampNeg v3)))) 40001 ∧ (w_M_makes_150 fu (pB s 26 (vp_updL (sB s 26) (Int32.toNatClampNeg (sA s 23 (Int32.toNatClampNeg (sA s 27 (Int32.toNatClampNeg v3))))) (Int32.toInt64 v5))) v1 v5))))
theorem ct_M_makes_138 {d : Nat} (fu : Nat) (s : St) (v1 : Int32) (v3 : Int32) (v5 : Int32) (hw : w_M_makes_138 fu s v1 v3 v5) : X m_M_makes (d + 4) 138 [some (.inr (.inr (some 21))), some (.inl v1), none, some (.inl v3), none, some (.inl v5)] [] (hp s) (qIs (t_M_makes_138 fu s v1 v3 v5)) := by
  unfold t_M_makes_138
  unfold w_M_makes_138 at hw
  refine X_run 1 (i1 := 139) (L1 := [some (.inr (.inr (some 21))), some (.inl v1), none, some (.inl v3), none, some (.inl v5)]) (st1 := [.inr (.inr (some 21))]) rfl ?_
  refine X_gF (v := .inr (.inr (some 26))) rfl rfl rfl rfl ?_
  refine X_run 1 (i1 := 141) (L1 := [some (.inr (.inr (some 21))), some (.inl v1), none, some (.inl v3), none, some (.inl v5)]) (st1 := [.inr (.inr (some 21)), .inr (.inr (some 26))]) rfl ?_
  refine X_gF (v := .inr (.inr (some 23))) rfl rfl rfl rfl ?_
  refine X_run 1 (i1 := 143) (L1 := [some (.inr (.inr (some 21))), some (.inl v1), none, some (.inl v3), none, some (.inl v5)]) (st1 := [.inr (.inr (some 21)), .inr (.inr (some 23)), .inr (.inr (some 26))]) rfl ?_
  refine X_gF (v := .inr (.inr (some 27))) rfl rfl rfl rfl ?_
  refine X_run 1 (i1 := 145) (L1 := [some (.inr (.inr (some 21))), some (.inl v1), none, some (.inl v3), none, some (.inl v5)]) (st1 := [.inl v3, .inr (.inr (some 27)), .inr (.inr (some 23)), .inr (.inr (some 26))]) rfl ?_
  obtain ⟨hin, hw⟩ := hw
  refine X_aI rfl rfl hin ?_
  show X _ _ 146 [some (.inr (.inr (some 21))), some (.inl v1), none, some (.inl v3), none, some (.inl v5)] [.inl (sA s 27 (Int32.toNatClampNeg v3)), .inr (.inr (some 23)), .inr (.inr (some 26))] (hp s) _
  obtain ⟨hin, hw⟩ := hw
  refine X_aI rfl rfl hin ?_
  show X _ _ 147 [some (.inr (.inr (some 21))), some (.inl v1), none, some (.inl v3), none, some (.inl v5)] [.inl (sA s 23 (Int32.toNatClampNeg (sA s 27 (Int32.toNatClampNeg v3)))), .inr (.inr (some 26))] (hp s) _
  refine X_run 2 (i1 := 149) (L1 := [some (.inr (.inr (some 21))), some (.inl v1), none, some (.inl v3), none, some (.inl v5)]) (st1 := [.inr (.inl (Int32.toInt64 v5)), .inl (sA s 23 (Int32.toNatClampNeg (sA s 27 (Int32.toNatClampNeg v3)))), .inr (.inr (some 26))]) rfl ?_
  obtain ⟨hin, hw⟩ := hw
  refine X_sL rfl rfl hin ?_
  show X _ _ 150 [some (.inr (.inr (some 21))), some (.inl v1), none, some (.inl v3), none, some (.inl v5)] [] (hp (pB s 26 (vp_updL (sB s 26) (Int32.toNatClampNeg (sA s 23 (Int32.toNatClampNeg (sA s 27 (Int32.toNatClampNeg v3))))) (Int32.toInt64 v5)))) _
  show X _ _ 150 [some (.inr (.inr (some 21))), some (.inl v1), none, some (.inl v3), none, some (.inl v5)] [] (hp (pB s 26 (vp_updL (sB s 26) (Int32.toNatClampNeg (sA s 23 (Int32.toNatClampNeg (sA s 27 (Int32.toNatClampNeg v3))))) (Int32.toInt64 v5)))) _
  refine X_mask [true, true, true, false, true, true] ?_
  exact ct_M_makes_150 fu (pB s 26 (vp_updL (sB s 26) (Int32.toNatClampNeg (sA s 23 (Int32.toNatClampNeg (sA s 27 (Int32.toNatClampNeg v3))))) (Int32.toInt64 v5))) v1 v5 hw
def t_M_makes_126 (fu : Nat) (s : St) (v1 : Int32) (v3 : Int32) (v5 : Int32) (w0 : Int32) (w1 : Int32) : Int32 × St := (cond (cn2 .ne v1 (16 : Int32)) (t_M_makes_150 fu (pA s 27 (upd (sA s 27) (Int32.toNatClampNeg w1) w0)) v1 v5) (t_M_makes_138 fu (pA (pA s 27 (upd (sA s 27) (Int32.toNatClampNeg w1) w0)) 24 (upd (sA s 24) (Int32.toNatClampNeg ((upd (sA s 27) (Int32.toNatClampNeg w1) w0) (Int32.toNatClampNeg v3))) (0 : Int32))) v1 v3 v5))
def w_M_makes_126 (fu : Nat) (s : St) (v1 : Int32) (v3 : Int32) (v5 : Int32) (w0 : Int32) (w1 : Int32) : Prop := (vp_in w1 16 ∧ ((cn2 .ne v1 (16 : Int32)) = true → (w_M_makes_150 fu (pA s 27 (upd (sA s 27) (Int32.toNatClampNeg w1) w0)) v1 v5)) ∧ ((cn2 .ne v1 (16 : Int32)) = false → (vp_in v3 16 ∧ (vp_in ((upd (sA s 27) (Int32.toNatClampNeg w1) w0) (Int32.toNatClampNeg v3)) 40001 ∧ (w_M_makes_138 fu (pA (pA s 27 (upd (sA s 27) (Int32.toNatClampNeg w1) w0)) 24 (upd (sA s 24) (Int32.toNatClampNeg ((upd (sA s 27) (Int32.toNatClampNeg w1) w0) (Int32.toNatClampNeg v3))) (0 : Int32))) v1 v3 v5)))))
theorem ct_M_makes_126 {d : Nat} (fu : Nat) (s : St) (v1 : Int32) (v3 : Int32) (v5 : Int32) (w0 : Int32) (w1 : Int32) (hw : w_M_makes_126 fu s v1 v3 v5 w0 w1) : X m_M_makes (d + 4) 126 [some (.inr (.inr (some 21))), some (.inl v1), none, some (.inl v3), none, some (.inl v5)] [.inl w0, .inl w1, .inr (.inr (some 27))] (hp s) (qIs (t_M_makes_126 fu s v1 v3 v5 w0 w1)) := by
  unfold t_M_makes_126
  unfold w_M_makes_126 at hw
  obtain ⟨hin, hw⟩ := hw
  refine X_sI rfl rfl hin ?_
  show X _ _ 127 [some (.inr (.inr (some 21))), some (.inl v1), none, some (.inl v3), none, some (.inl v5)] [] (hp (pA s 27 (upd (sA s 27) (Int32.toNatClampNeg w1) w0))) _
  refine X_run 3 (i1 := cond (cn2 .ne v1 (16 : Int32)) 150 130) (L1 := [some (.inr (.inr (some 21))), some (.inl v1), none, some (.inl v3), none, some (.inl v5)]) (st1 := []) rfl ?_
  refine X_brq (fun hb => ?_) (fun hb => ?_)
  · have hw := hw.1 hb
    refine X_mask [true, true, true, false, true, true] ?_
    exact ct_M_makes_150 fu (pA s 27 (upd (sA s 27) (Int32.toNatClampNeg w1) w0)) v1 v5 hw
  · have hw := hw.2 hb
    refine X_run 1 (i1 := 131) (L1 := [some (.inr (.inr (some 21))), some (.inl v1), none, some (.inl v3), none, some (.inl v5)]) (st1 := [.inr (.inr (some 21))]) rfl ?_
    refine X_gF (v := .inr (.inr (some 24))) rfl rfl rfl rfl ?_
    refine X_run 1 (i1 := 133) (L1 := [some (.inr (.inr (some 21))), some (.inl v1), none, some (.inl v3), none, some (.inl v5)]) (st1 := [.inr (.inr (some 21)), .inr (.inr (some 24))]) rfl ?_
    refine X_gF (v := .inr (.inr (some 27))) rfl rfl rfl rfl ?_
    refine X_run 1 (i1 := 135) (L1 := [some (.inr (.inr (some 21))), some (.inl v1), none, some (.inl v3), none, some (.inl v5)]) (st1 := [.inl v3, .inr (.inr (some 27)), .inr (.inr (some 24))]) rfl ?_
    obtain ⟨hin, hw⟩ := hw
    refine X_aI rfl rfl hin ?_
    show X _ _ 136 [some (.inr (.inr (some 21))), some (.inl v1), none, some (.inl v3), none, some (.inl v5)] [.inl ((upd (sA s 27) (Int32.toNatClampNeg w1) w0) (Int32.toNatClampNeg v3)), .inr (.inr (some 24))] (hp (pA s 27 (upd (sA s 27) (Int32.toNatClampNeg w1) w0))) _
    refine X_run 1 (i1 := 137) (L1 := [some (.inr (.inr (some 21))), some (.inl v1), none, some (.inl v3), none, some (.inl v5)]) (st1 := [.inl (0 : Int32), .inl ((upd (sA s 27) (Int32.toNatClampNeg w1) w0) (Int32.toNatClampNeg v3)), .inr (.inr (some 24))]) rfl ?_
    obtain ⟨hin, hw⟩ := hw
    refine X_sI rfl rfl hin ?_
    show X _ _ 138 [some (.inr (.inr (some 21))), some (.inl v1), none, some (.inl v3), none, some (.inl v5)] [] (hp (pA (pA s 27 (upd (sA s 27) (Int32.toNatClampNeg w1) w0)) 24 (upd (sA s 24) (Int32.toNatClampNeg ((upd (sA s 27) (Int32.toNatClampNeg w1) w0) (Int32.toNatClampNeg v3))) (0 : Int32)))) _
    show X _ _ 138 [some (.inr (.inr (some 21))), some (.inl v1), none, some (.inl v3), none, some (.inl v5)] [] (hp (pA (pA s 27 (upd (sA s 27) (Int32.toNatClampNeg w1) w0)) 24 (upd (sA s 24) (Int32.toNatClampNeg ((upd (sA s 27) (Int32.toNatClampNeg w1) w0) (Int32.toNatClampNeg v3))) (0 : Int32)))) _
    exact ct_M_makes_138 fu (pA (pA s 27 (upd (sA s 27) (Int32.toNatClampNeg w1) w0)) 24 (upd (sA s 24) (Int32.toNatClampNeg ((upd (sA s 27) (Int32.toNatClampNeg w1) w0) (Int32.toNatClampNeg v3))) (0 : Int32))) v1 v3 v5 hw
def t_M_makes_123 (fu : Nat) (s : St) (v1 : Int32) (v3 : Int32) (v4 : Int32) (v5 : Int32) (w0 : Int32) (w2 : Int32) : Int32 × St := (t_M_makes_126 fu ((f_M_thing s w0 v5 v4).2) v1 v3 v5 ((f_M_thing s w0 v5 v4).1) w2)
def w_M_makes_123 (fu : Nat) (s : St) (v1 : Int32) (v3 : Int32) (v4 : Int32) (v5 : Int32) (w0 : Int32) (w2 : Int32) : Prop := (w_M_thing s w0 v5 v4 ∧ (w_M_makes_126 fu ((f_M_thing s w0 v5 v4).2) v1 v3 v5 ((f_M_thing s w0 v5 v4).1) w2))
theorem ct_M_makes_123 {d : Nat} (fu : Nat) (s : St) (v1 : Int32) (v3 : Int32) (v4 : Int32) (v5 : Int32) (w0 : Int32) (w2 : Int32) (hw : w_M_makes_123 fu s v1 v3 v4 v5 w0 w2) : X m_M_makes (d + 4) 123 [some (.inr (.inr (some 21))), some (.inl v1), none, some (.inl v3), some (.inl v4), some (.inl v5)] [.inl w0, .inr (.inr (some 21)), .inl w2, .inr (.inr (some 27))] (hp s) (qIs (t_M_makes_123 fu s v1 v3 v4 v5 w0 w2)) := by
  unfold t_M_makes_123
  unfold w_M_makes_123 at hw
  refine X_run 2 (i1 := 125) (L1 := [some (.inr (.inr (some 21))), some (.inl v1), none, some (.inl v3), some (.inl v4), some (.inl v5)]) (st1 := [.inl v4, .inl v5, .inl w0, .inr (.inr (some 21)), .inl w2, .inr (.inr (some 27))]) rfl ?_
  obtain ⟨hc, hw⟩ := hw
  refine X_callv m_M_thing (As := [.inl w0, .inl v5, .inl v4]) (st := [.inl w2, .inr (.inr (some 27))]) ok_M_thing rfl rfl rfl (hp_obj rfl) rfl (Nat.le_of_ble_eq_true rfl) (Nat.le_of_ble_eq_true rfl) (c_M_thing (d := d + 3) s w0 v5 v4 hc) ?_
  rintro _ _ ⟨rfl, rfl⟩
  show X _ _ 126 [some (.inr (.inr (some 21))), some (.inl v1), none, some (.inl v3), some (.inl v4), some (.inl v5)] [.inl ((f_M_thing s w0 v5 v4).1), .inl w2, .inr (.inr (some 27))] (hp ((f_M_thing s w0 v5 v4).2)) _
  show X _ _ 126 [some (.inr (.inr (some 21))), some (.inl v1), none, some (.inl v3), some (.inl v4), some (.inl v5)] [.inl ((f_M_thing s w0 v5 v4).1), .inl w2, .inr (.inr (some 27))] (hp ((f_M_thing s w0 v5 v4).2)) _
  refine X_mask [true, true, true, true, false, true] ?_
  exact ct_M_makes_126 fu ((f_M_thing s w0 v5 v4).2) v1 v3 v5 ((f_M_thing s w0 v5 v4).1) w2 hw
def t_M_makes_98 (fu : Nat) (s : St) (v1 : Int32) (v3 : Int32) (v4 : Int32) (v5 : Int32) (w0 : Int32) : Int32 × St := (cond (cn1 .ne w0) (cond (cn2 .ne v1 (12 : Int32)) (cond (cn2 .ne v1 (14 : Int32)) (cond (cn2 .ne v1 (15 : Int32)) (t_M_makes_123 fu s v1 v3 v4 v5 (16 : Int32) v3) (t_M_makes_123 fu s v1 v3 v4 v5 ((11 : Int32) + v4) v3)) (t_M_makes_123 fu s v1 v3 v4 v5 (10 : Int32) v3)) (t_M_makes_123 fu s v1 v3 v4 v5 v4 v3)) ((3 : Int32), s))
def w_M_makes_98 (fu : Nat) (s : St) (v1 : Int32) (v3 : Int32) (v4 : Int32) (v5 : Int32) (w0 : Int32) : Prop := ((cn1 .ne w0) = true → ((cn2 .ne v1 (12 : Int32)) = true → ((cn2 .ne v1 (14 : Int32)) = true → ((cn2 .ne v1 (15 : Int32)) = true → (w_M_makes_123 fu s v1 v3 v4 v5 (16 : Int32) v3)) ∧ ((cn2 .ne v1 (15 : Int32)) = false → (w_M_makes_123 fu s v1 v3 v4 v5 ((11 : Int32) + v4) v3))) ∧ ((cn2 .ne v1 (14 : Int32)) = false → (w_M_makes_123 fu s v1 v3 v4 v5 (10 : Int32) v3))) ∧ ((cn2 .ne v1 (12 : Int32)) = false → (w_M_makes_123 fu s v1 v3 v4 v5 v4 v3))) ∧ ((cn1 .ne w0) = false → True)
theorem ct_M_makes_98 {d : Nat} (fu : Nat) (s : St) (v1 : Int32) (v3 : Int32) (v4 : Int32) (v5 : Int32) (w0 : Int32) (hw : w_M_makes_98 fu s v1 v3 v4 v5 w0) : X m_M_makes (d + 4) 98 [some (.inr (.inr (some 21))), some (.inl v1), none, some (.inl v3), some (.inl v4), some (.inl v5)] [.inl w0] (hp s) (qIs (t_M_makes_98 fu s v1 v3 v4 v5 w0)) := by
  unfold t_M_makes_98
  unfold w_M_makes_98 at hw
  refine X_run 1 (i1 := cond (cn1 .ne w0) 101 99) (L1 := [some (.inr (.inr (some 21))), some (.inl v1), none, some (.inl v3), some (.inl v4), some (.inl v5)]) (st1 := []) rfl ?_
  refine X_brq (fun hb => ?_) (fun hb => ?_)
  · have hw := hw.1 hb
    refine X_run 1 (i1 := 102) (L1 := [some (.inr (.inr (some 21))), some (.inl v1), none, some (.inl v3), some (.inl v4), some (.inl v5)]) (st1 := [.inr (.inr (some 21))]) rfl ?_
    refine X_gF (v := .inr (.inr (some 27))) rfl rfl rfl rfl ?_
    refine X_run 5 (i1 := cond (cn2 .ne v1 (12 : Int32)) 110 108) (L1 := [some (.inr (.inr (some 21))), some (.inl v1), none, some (.inl v3), some (.inl v4), some (.inl v5)]) (st1 := [.inr (.inr (some 21)), .inl v3, .inr (.inr (some 27))]) rfl ?_
    refine X_brq (fun hb => ?_) (fun hb => ?_)
    · have hw := hw.1 hb
      refine X_run 3 (i1 := cond (cn2 .ne v1 (14 : Int32)) 115 113) (L1 := [some (.inr (.inr (some 21))), some (.inl v1), none, some (.inl v3), some (.inl v4), some (.inl v5)]) (st1 := [.inr (.inr (some 21)), .inl v3, .inr (.inr (some 27))]) rfl ?_
      refine X_brq (fun hb => ?_) (fun hb => ?_)
      · have hw := hw.1 hb
        refine X_run 3 (i1 := cond (cn2 .ne v1 (15 : Int32)) 122 118) (L1 := [some (.inr (.inr (some 21))), some (.inl v1), none, some (.inl v3), some (.inl v4), some (.inl v5)]) (st1 := [.inr (.inr (some 21)), .inl v3, .inr (.inr (some 27))]) rfl ?_
        refine X_brq (fun hb => ?_) (fun hb => ?_)
        · have hw := hw.1 hb
          refine X_run 1 (i1 := 123) (L1 := [some (.inr (.inr (some 21))), some (.inl v1), none, some (.inl v3), some (.inl v4), some (.inl v5)]) (st1 := [.inl (16 : Int32), .inr (.inr (some 21)), .inl v3, .inr (.inr (some 27))]) rfl ?_
          exact ct_M_makes_123 fu s v1 v3 v4 v5 (16 : Int32) v3 hw
        · have hw := hw.2 hb
          refine X_run 4 (i1 := 123) (L1 := [some (.inr (.inr (some 21))), some (.inl v1), none, some (.inl v3), some (.inl v4), some (.inl v5)]) (st1 := [.inl ((11 : Int32) + v4), .inr (.inr (some 21)), .inl v3, .inr (.inr (some 27))]) rfl ?_
          exact ct_M_makes_123 fu s v1 v3 v4 v5 ((11 : Int32) + v4) v3 hw
      · have hw := hw.2 hb
        refine X_run 2 (i1 := 123) (L1 := [some (.inr (.inr (some 21))), some (.inl v1), none, some (.inl v3), some (.inl v4), some (.inl v5)]) (st1 := [.inl (10 : Int32), .inr (.inr (some 21)), .inl v3, .inr (.inr (some 27))]) rfl ?_
        exact ct_M_makes_123 fu s v1 v3 v4 v5 (10 : Int32) v3 hw
    · have hw := hw.2 hb
      refine X_run 2 (i1 := 123) (L1 := [some (.inr (.inr (some 21))), some (.inl v1), none, some (.inl v3), some (.inl v4), some (.inl v5)]) (st1 := [.inl v4, .inr (.inr (some 21)), .inl v3, .inr (.inr (some 27))]) rfl ?_
      exact ct_M_makes_123 fu s v1 v3 v4 v5 v4 v3 hw
  · skip
    refine X_run 1 (i1 := 100) (L1 := [some (.inr (.inr (some 21))), some (.inl v1), none, some (.inl v3), some (.inl v4), some (.inl v5)]) (st1 := [.inl (3 : Int32)]) rfl ?_
    exact X_iret rfl rfl qIs_i
def t_M_makes_97 (fu : Nat) (s : St) (v1 : Int32) (v3 : Int32) (v4 : Int32) (v5 : Int32) (w0 : Int64) : Int32 × St := (t_M_makes_98 fu ((f_M_pays s w0).2) v1 v3 v4 v5 (b2i (f_M_pays s w0).1))
def w_M_makes_97 (fu : Nat) (s : St) (v1 : Int32) (v3 : Int32) (v4 : Int32) (v5 : Int32) (w0 : Int64) : Prop := (w_M_pays s w0 ∧ (w_M_makes_98 fu ((f_M_pays s w0).2) v1 v3 v4 v5 (b2i (f_M_pays s w0).1)))
theorem ct_M_makes_97 {d : Nat} (fu : Nat) (s : St) (v1 : Int32) (v3 : Int32) (v4 : Int32) (v5 : Int32) (w0 : Int64) (hw : w_M_makes_97 fu s v1 v3 v4 v5 w0) : X m_M_makes (d + 4) 97 [some (.inr (.inr (some 21))), some (.inl v1), none, some (.inl v3), some (.inl v4), some (.inl v5)] [.inr (.inl w0), .inr (.inr (some 21))] (hp s) (qIs (t_M_makes_97 fu s v1 v3 v4 v5 w0)) := by
  unfold t_M_makes_97
  unfold w_M_makes_97 at hw
  obtain ⟨hc, hw⟩ := hw
  refine X_callv m_M_pays (As := [.inr (.inl w0)]) (st := []) ok_M_pays rfl rfl rfl (hp_obj rfl) rfl (Nat.le_of_ble_eq_true rfl) (Nat.le_of_ble_eq_true rfl) (c_M_pays (d := d + 3) s w0 hc) ?_
  rintro _ _ ⟨rfl, rfl⟩
  show X _ _ 98 [some (.inr (.inr (some 21))), some (.inl v1), none, some (.inl v3), some (.inl v4), some (.inl v5)] [.inl (b2i (f_M_pays s w0).1)] (hp ((f_M_pays s w0).2)) _
  show X _ _ 98 [some (.inr (.inr (some 21))), some (.inl v1), none, some (.inl v3), some (.inl v4), some (.inl v5)] [.inl (b2i (f_M_pays s w0).1)] (hp ((f_M_pays s w0).2)) _
  exact ct_M_makes_98 fu ((f_M_pays s w0).2) v1 v3 v4 v5 (b2i (f_M_pays s w0).1) hw
def t_M_makes_87 (fu : Nat) (s : St) (v1 : Int32) (v3 : Int32) (v4 : Int32) (v5 : Int32) : Int32 × St := (cond (cn2 .ge v1 (15 : Int32)) (t_M_makes_97 fu s v1 v3 v4 v5 (4 : Int64)) (t_M_makes_97 fu s v1 v3 v4 v5 ((1 : Int64) + (Int32.toInt64 v5))))
def w_M_makes_87 (fu : Nat) (s : St) (v1 : Int32) (v3 : Int32) (v4 : Int32) (v5 : Int32) : Prop := ((cn2 .ge v1 (15 : Int32)) = true → (w_M_makes_97 fu s v1 v3 v4 v5 (4 : Int64))) ∧ ((cn2 .ge v1 (15 : Int32)) = false → (w_M_makes_97 fu s v1 v3 v4 v5 ((1 : Int64) + (Int32.toInt64 v5))))
theorem ct_M_makes_87 {d : Nat} (fu : Nat) (s : St) (v1 : Int32) (v3 : Int32) (v4 : Int32) (v5 : Int32) (hw : w_M_makes_87 fu s v1 v3 v4 v5) : X m_M_makes (d + 4) 87 [some (.inr (.inr (some 21))), some (.inl v1), none, some (.inl v3), some (.inl v4), some (.inl v5)] [] (hp s) (qIs (t_M_makes_87 fu s v1 v3 v4 v5)) := by
  unfold t_M_makes_87
  unfold w_M_makes_87 at hw
  refine X_run 4 (i1 := cond (cn2 .ge v1 (15 : Int32)) 96 91) (L1 := [some (.inr (.inr (some 21))), some (.inl v1), none, some (.inl v3), some (.inl v4), some (.inl v5)]) (st1 := [.inr (.inr (some 21))]) rfl ?_
  refine X_brq (fun hb => ?_) (fun hb => ?_)
  · have hw := hw.1 hb
    refine X_run 1 (i1 := 97) (L1 := [some (.inr (.inr (some 21))), some (.inl v1), none, some (.inl v3), some (.inl v4), some (.inl v5)]) (st1 := [.inr (.inl (4 : Int64)), .inr (.inr (some 21))]) rfl ?_
    exact ct_M_makes_97 fu s v1 v3 v4 v5 (4 : Int64) hw
  · have hw := hw.2 hb
    refine X_run 5 (i1 := 97) (L1 := [some (.inr (.inr (some 21))), some (.inl v1), none, some (.inl v3), some (.inl v4), some (.inl v5)]) (st1 := [.inr (.inl ((1 : Int64) + (Int32.toInt64 v5))), .inr (.inr (some 21))]) rfl ?_
    exact ct_M_makes_97 fu s v1 v3 v4 v5 ((1 : Int64) + (Int32.toInt64 v5)) hw
def t_M_makes_77 (fu : Nat) (s : St) (v1 : Int32) (v3 : Int32) (v4 : Int32) (w0 : Int32) : Int32 × St := (cond (cn2 .ge v1 (15 : Int32)) (t_M_makes_87 fu s v1 v3 v4 w0) (cond (cn1 .ge w0) (t_M_makes_87 fu s v1 v3 v4 w0) (f_M_fails s (3 : Int32))))
def w_M_makes_77 (fu : Nat) (s : St) (v1 : Int32) (v3 : Int32) (v4 : Int32) (w0 : Int32) : Prop := ((cn2 .ge v1 (15 : Int32)) = true → (w_M_makes_87 fu s v1 v3 v4 w0)) ∧ ((cn2 .ge v1 (15 : Int32)) = false → ((cn1 .ge w0) = true → (w_M_makes_87 fu s v1 v3 v4 w0)) ∧ ((cn1 .ge w0) = false → (w_M_fails s (3 : Int32) ∧ True)))
theorem ct_M_makes_77 {d : Nat} (fu : Nat) (s : St) (v1 : Int32) (v3 : Int32) (v4 : Int32) (w0 : Int32) (hw : w_M_makes_77 fu s v1 v3 v4 w0) : X m_M_makes (d + 4) 77 [some (.inr (.inr (some 21))), some (.inl v1), none, some (.inl v3), some (.inl v4), none] [.inl w0] (hp s) (qIs (t_M_makes_77 fu s v1 v3 v4 w0)) := by
  unfold t_M_makes_77
  unfold w_M_makes_77 at hw
  refine X_run 4 (i1 := cond (cn2 .ge v1 (15 : Int32)) 87 81) (L1 := [some (.inr (.inr (some 21))), some (.inl v1), none, some (.inl v3), some (.inl v4), some (.inl w0)]) (st1 := []) rfl ?_
  refine X_brq (fun hb => ?_) (fun hb => ?_)
  · have hw := hw.1 hb
    exact ct_M_makes_87 fu s v1 v3 v4 w0 hw
  · have hw := hw.2 hb
    refine X_run 2 (i1 := cond (cn1 .ge w0) 87 83) (L1 := [some (.inr (.inr (some 21))), some (.inl v1), none, some (.inl v3), some (.inl v4), some (.inl w0)]) (st1 := []) rfl ?_
    refine X_brq (fun hb => ?_) (fun hb => ?_)
    · have hw := hw.1 hb
      exact ct_M_makes_87 fu s v1 v3 v4 w0 hw
    · have hw := hw.2 hb
      refine X_run 2 (i1 := 85) (L1 := [some (.inr (.inr (some 21))), some (.inl v1), none, some (.inl v3), some (.inl v4), some (.inl w0)]) (st1 := [.inl (3 : Int32), .inr (.inr (some 21))]) rfl ?_
      obtain ⟨hc, hw⟩ := hw
      refine X_callv m_M_fails (As := [.inl (3 : Int32)]) (st := []) ok_M_fails rfl rfl rfl (hp_obj rfl) rfl (Nat.le_of_ble_eq_true rfl) (Nat.le_of_ble_eq_true rfl) (c_M_fails (d := d + 1) s (3 : Int32) hc) ?_
      rintro _ _ ⟨rfl, rfl⟩
      show X _ _ 86 [some (.inr (.inr (some 21))), some (.inl v1), none, some (.inl v3), some (.inl v4), some (.inl w0)] [.inl ((f_M_fails s (3 : Int32)).1)] (hp ((f_M_fails s (3 : Int32)).2)) _
      exact X_iret rfl rfl qIs_p
def t_M_makes_25 (fu : Nat) (s : St) (w0 : Int32) (w1 : Int32) : Int32 × St := ((0 : Int32), pA s 27 (upd (sA s 27) (Int32.toNatClampNeg w1) w0))
def w_M_makes_25 (fu : Nat) (s : St) (w0 : Int32) (w1 : Int32) : Prop := (vp_in w1 16 ∧ True)
theorem ct_M_makes_25 {d : Nat} (fu : Nat) (s : St) (w0 : Int32) (w1 : Int32) (hw : w_M_makes_25 fu s w0 w1) : X m_M_makes (d + 4) 25 [none, none, none, none, none, none] [.inl w0, .inl w1, .inr (.inr (some 27))] (hp s) (qIs (t_M_makes_25 fu s w0 w1)) := by
  unfold t_M_makes_25
  unfold w_M_makes_25 at hw
  obtain ⟨hin, hw⟩ := hw
  refine X_sI rfl rfl hin ?_
  show X _ _ 26 [none, none, none, none, none, none] [] (hp (pA s 27 (upd (sA s 27) (Int32.toNatClampNeg w1) w0))) _
  refine X_run 1 (i1 := 27) (L1 := [none, none, none, none, none, none]) (st1 := [.inl (0 : Int32)]) rfl ?_
  exact X_iret rfl rfl qIs_i
def f_M_makes (fu : Nat) (s : St) (a0 : Int32) (a1 : Int32) : Int32 × St := (cond (cn2 .ge a0 (12 : Int32)) (cond (cn2 .ne a0 (13 : Int32)) (cond (cn2 .ne a0 (16 : Int32)) (cond (cn2 .ne a0 (15 : Int32)) (t_M_makes_77 fu s a0 (sA s 30 (Int32.toNatClampNeg a1)) (sA s 30 (Int32.toNatClampNeg (a1 + (1 : Int32)))) (sA s 28 (Int32.toNatClampNeg (sA s 30 (Int32.toNatClampNeg (a1 + (2 : Int32))))))) (t_M_makes_77 fu s a0 (sA s 30 (Int32.toNatClampNeg a1)) (sA s 30 (Int32.toNatClampNeg (a1 + (1 : Int32)))) (0 : Int32))) (t_M_makes_77 fu s a0 (sA s 30 (Int32.toNatClampNeg a1)) (sA s 30 (Int32.toNatClampNeg (a1 + (1 : Int32)))) (sA s 28 (Int32.toNatClampNeg (sA s 30 (Int32.toNatClampNeg (a1 + (1 : Int32)))))))) (f_M_grid fu s (sA s 30 (Int32.toNatClampNeg a1)) (sA s 28 (Int32.toNatClampNeg (sA s 30 (Int32.toNatClampNeg (a1 + (1 : Int32)))))) (sA s 28 (Int32.toNatClampNeg (sA s 30 (Int32.toNatClampNeg (a1 + (2 : Int32)))))))) (cond (cn2 .ne a0 (10 : Int32)) (t_M_makes_25 fu s (0 : Int32) (sA s 30 (Int32.toNatClampNeg a1))) (t_M_makes_25 fu s (sA s 27 (Int32.toNatClampNeg (sA s 30 (Int32.toNatClampNeg (a1 + (1 : Int32)))))) (sA s 30 (Int32.toNatClampNeg a1)))))
def w_M_makes (fu : Nat) (s : St) (a0 : Int32) (a1 : Int32) : Prop := (vp_in a1 3200 ∧ ((cn2 .ge a0 (12 : Int32)) = true → (vp_in (a1 + (1 : Int32)) 3200 ∧ ((cn2 .ne a0 (13 : Int32)) = true → ((cn2 .ne a0 (16 : Int32)) = true → ((cn2 .ne a0 (15 : Int32)) = true → (vp_in (a1 + (2 : Int32)) 3200 ∧ (vp_in (sA s 30 (Int32.toNatClampNeg (a1 + (2 : Int32)))) 8 ∧ (w_M_makes_77 fu s a0 (sA s 30 (Int32.toNatClampNeg a1)) (sA s 30 (Int32.toNatClampNeg (a1 + (1 : Int32)))) (sA s 28 (Int32.toNatClampNeg (sA s 30 (Int32.toNatClampNeg (a1 + (2 : Int32)))))))))) ∧ ((cn2 .ne a0 (15 : Int32)) = false → (w_M_makes_77 fu s a0 (sA s 30 (Int32.toNatClampNeg a1)) (sA s 30 (Int32.toNatClampNeg (a1 + (1 : Int32)))) (0 : Int32)))) ∧ ((cn2 .ne a0 (16 : Int32)) = false → (vp_in (sA s 30 (Int32.toNatClampNeg (a1 + (1 : Int32)))) 8 ∧ (w_M_makes_77 fu s a0 (sA s 30 (Int32.toNatClampNeg a1)) (sA s 30 (Int32.toNatClampNeg (a1 + (1 : Int32)))) (sA s 28 (Int32.toNatClampNeg (sA s 30 (Int32.toNatClampNeg (a1 + (1 : Int32)))))))))) ∧ ((cn2 .ne a0 (13 : Int32)) = false → (vp_in (sA s 30 (Int32.toNatClampNeg (a1 + (1 : Int32)))) 8 ∧ (vp_in (a1 + (2 : Int32)) 3200 ∧ (vp_in (sA s 30 (Int32.toNatClampNeg (a1 + (2 : Int32)))) 8 ∧ (w_M_grid fu s (sA s 30 (Int32.toNatClampNeg a1)) (sA s 28 (Int32.toNatClampNeg (sA s 30 (Int32.toNatClampNeg (a1 + (1 : Int32)))))) (sA s 28 (Int32.toNatClampNeg (sA s 30 (Int32.toNatClampNeg (a1 + (2 : Int32)))))) ∧ True))))))) ∧ ((cn2 .ge a0 (12 : Int32)) = false → ((cn2 .ne a0 (10 : Int32)) = true → (w_M_makes_25 fu s (0 : Int32) (sA s 30 (Int32.toNatClampNeg a1)))) ∧ ((cn2 .ne a0 (10 : Int32)) = false → (vp_in (a1 + (1 : Int32)) 3200 ∧ (vp_in (sA s 30 (Int32.toNatClampNeg (a1 + (1 : Int32)))) 16 ∧ (w_M_makes_25 fu s (sA s 27 (Int32.toNatClampNeg (sA s 30 (Int32.toNatClampNeg (a1 + (1 : Int32)))))) (sA s 30 (Int32.toNatClampNeg a1))))))))
theorem c_M_makes {d : Nat} (fu : Nat) (s : St) (a0 : Int32) (a1 : Int32) (hw : w_M_makes fu s a0 a1) : X m_M_makes (d + 4) 0 (entL 6 [.inr (.inr (some 21)), .inl a0, .inl a1]) [] (hp s) (qIs (f_M_makes fu s a0 a1)) := by
  unfold f_M_makes
  unfold w_M_makes at hw
  refine X_run 1 (i1 := 1) (L1 := [some (.inr (.inr (some 21))), some (.inl a0), some (.inl a1), none, none, none]) (st1 := [.inr (.inr (some 21))]) rfl ?_
  refine X_gF (v := .inr (.inr (some 30))) rfl rfl rfl rfl ?_
  refine X_run 1 (i1 := 3) (L1 := [some (.inr (.inr (some 21))), some (.inl a0), some (.inl a1), none, none, none]) (st1 := [.inl a1, .inr (.inr (some 30))]) rfl ?_
  obtain ⟨hin, hw⟩ := hw
  refine X_aI rfl rfl hin ?_
  show X _ _ 4 [some (.inr (.inr (some 21))), some (.inl a0), some (.inl a1), none, none, none] [.inl (sA s 30 (Int32.toNatClampNeg a1))] (hp s) _
  refine X_run 4 (i1 := cond (cn2 .ge a0 (12 : Int32)) 28 8) (L1 := [some (.inr (.inr (some 21))), some (.inl a0), some (.inl a1), some (.inl (sA s 30 (Int32.toNatClampNeg a1))), none, none]) (st1 := []) rfl ?_
  refine X_brq (fun hb => ?_) (fun hb => ?_)
  · have hw := hw.1 hb
    refine X_run 1 (i1 := 29) (L1 := [some (.inr (.inr (some 21))), some (.inl a0), some (.inl a1), some (.inl (sA s 30 (Int32.toNatClampNeg a1))), none, none]) (st1 := [.inr (.inr (some 21))]) rfl ?_
    refine X_gF (v := .inr (.inr (some 30))) rfl rfl rfl rfl ?_
    refine X_run 3 (i1 := 33) (L1 := [some (.inr (.inr (some 21))), some (.inl a0), some (.inl a1), some (.inl (sA s 30 (Int32.toNatClampNeg a1))), none, none]) (st1 := [.inl (a1 + (1 : Int32)), .inr (.inr (some 30))]) rfl ?_
    obtain ⟨hin, hw⟩ := hw
    refine X_aI rfl rfl hin ?_
    show X _ _ 34 [some (.inr (.inr (some 21))), some (.inl a0), some (.inl a1), some (.inl (sA s 30 (Int32.toNatClampNeg a1))), none, none] [.inl (sA s 30 (Int32.toNatClampNeg (a1 + (1 : Int32))))] (hp s) _
    refine X_run 4 (i1 := cond (cn2 .ne a0 (13 : Int32)) 55 38) (L1 := [some (.inr (.inr (some 21))), some (.inl a0), some (.inl a1), some (.inl (sA s 30 (Int32.toNatClampNeg a1))), some (.inl (sA s 30 (Int32.toNatClampNeg (a1 + (1 : Int32))))), none]) (st1 := []) rfl ?_
    refine X_brq (fun hb => ?_) (fun hb => ?_)
    · have hw := hw.1 hb
      refine X_run 3 (i1 := cond (cn2 .ne a0 (16 : Int32)) 63 58) (L1 := [some (.inr (.inr (some 21))), some (.inl a0), some (.inl a1), some (.inl (sA s 30 (Int32.toNatClampNeg a1))), some (.inl (sA s 30 (Int32.toNatClampNeg (a1 + (1 : Int32))))), none]) (st1 := []) rfl ?_
      refine X_brq (fun hb => ?_) (fun hb => ?_)
      · have hw := hw.1 hb
        refine X_run 3 (i1 := cond (cn2 .ne a0 (15 : Int32)) 68 66) (L1 := [some (.inr (.inr (some 21))), some (.inl a0), some (.inl a1), some (.inl (sA s 30 (Int32.toNatClampNeg a1))), some (.inl (sA s 30 (Int32.toNatClampNeg (a1 + (1 : Int32))))), none]) (st1 := []) rfl ?_
        refine X_brq (fun hb => ?_) (fun hb => ?_)
        · have hw := hw.1 hb
          refine X_run 1 (i1 := 69) (L1 := [some (.inr (.inr (some 21))), some (.inl a0), some (.inl a1), some (.inl (sA s 30 (Int32.toNatClampNeg a1))), some (.inl (sA s 30 (Int32.toNatClampNeg (a1 + (1 : Int32))))), none]) (st1 := [.inr (.inr (some 21))]) rfl ?_
          refine X_gF (v := .inr (.inr (some 28))) rfl rfl rfl rfl ?_
          refine X_run 1 (i1 := 71) (L1 := [some (.inr (.inr (some 21))), some (.inl a0), some (.inl a1), some (.inl (sA s 30 (Int32.toNatClampNeg a1))), some (.inl (sA s 30 (Int32.toNatClampNeg (a1 + (1 : Int32))))), none]) (st1 := [.inr (.inr (some 21)), .inr (.inr (some 28))]) rfl ?_
          refine X_gF (v := .inr (.inr (some 30))) rfl rfl rfl rfl ?_
          refine X_run 3 (i1 := 75) (L1 := [some (.inr (.inr (some 21))), some (.inl a0), some (.inl a1), some (.inl (sA s 30 (Int32.toNatClampNeg a1))), some (.inl (sA s 30 (Int32.toNatClampNeg (a1 + (1 : Int32))))), none]) (st1 := [.inl (a1 + (2 : Int32)), .inr (.inr (some 30)), .inr (.inr (some 28))]) rfl ?_
          obtain ⟨hin, hw⟩ := hw
          refine X_aI rfl rfl hin ?_
          show X _ _ 76 [some (.inr (.inr (some 21))), some (.inl a0), some (.inl a1), some (.inl (sA s 30 (Int32.toNatClampNeg a1))), some (.inl (sA s 30 (Int32.toNatClampNeg (a1 + (1 : Int32))))), none] [.inl (sA s 30 (Int32.toNatClampNeg (a1 + (2 : Int32)))), .inr (.inr (some 28))] (hp s) _
          obtain ⟨hin, hw⟩ := hw
          refine X_aI rfl rfl hin ?_
          show X _ _ 77 [some (.inr (.inr (some 21))), some (.inl a0), some (.inl a1), some (.inl (sA s 30 (Int32.toNatClampNeg a1))), some (.inl (sA s 30 (Int32.toNatClampNeg (a1 + (1 : Int32))))), none] [.inl (sA s 28 (Int32.toNatClampNeg (sA s 30 (Int32.toNatClampNeg (a1 + (2 : Int32))))))] (hp s) _
          show X _ _ 77 [some (.inr (.inr (some 21))), some (.inl a0), some (.inl a1), some (.inl (sA s 30 (Int32.toNatClampNeg a1))), some (.inl (sA s 30 (Int32.toNatClampNeg (a1 + (1 : Int32))))), none] [.inl (sA s 28 (Int32.toNatClampNeg (sA s 30 (Int32.toNatClampNeg (a1 + (2 : Int32))))))] (hp s) _
          refine X_mask [true, true, false, true, true, true] ?_
          exact ct_M_makes_77 fu s a0 (sA s 30 (Int32.toNatClampNeg a1)) (sA s 30 (Int32.toNatClampNeg (a1 + (1 : Int32)))) (sA s 28 (Int32.toNatClampNeg (sA s 30 (Int32.toNatClampNeg (a1 + (2 : Int32)))))) hw
        · have hw := hw.2 hb
          refine X_run 2 (i1 := 77) (L1 := [some (.inr (.inr (some 21))), some (.inl a0), some (.inl a1), some (.inl (sA s 30 (Int32.toNatClampNeg a1))), some (.inl (sA s 30 (Int32.toNatClampNeg (a1 + (1 : Int32))))), none]) (st1 := [.inl (0 : Int32)]) rfl ?_
          refine X_mask [true, true, false, true, true, true] ?_
          exact ct_M_makes_77 fu s a0 (sA s 30 (Int32.toNatClampNeg a1)) (sA s 30 (Int32.toNatClampNeg (a1 + (1 : Int32)))) (0 : Int32) hw
      · have hw := hw.2 hb
        refine X_run 1 (i1 := 59) (L1 := [some (.inr (.inr (some 21))), some (.inl a0), some (.inl a1), some (.inl (sA s 30 (Int32.toNatClampNeg a1))), some (.inl (sA s 30 (Int32.toNatClampNeg (a1 + (1 : Int32))))), none]) (st1 := [.inr (.inr (some 21))]) rfl ?_
        refine X_gF (v := .inr (.inr (some 28))) rfl rfl rfl rfl ?_
        refine X_run 1 (i1 := 61) (L1 := [some (.inr (.inr (some 21))), some (.inl a0), some (.inl a1), some (.inl (sA s 30 (Int32.toNatClampNeg a1))), some (.inl (sA s 30 (Int32.toNatClampNeg (a1 + (1 : Int32))))), none]) (st1 := [.inl (sA s 30 (Int32.toNatClampNeg (a1 + (1 : Int32)))), .inr (.inr (some 28))]) rfl ?_
        obtain ⟨hin, hw⟩ := hw
        refine X_aI rfl rfl hin ?_
        show X _ _ 62 [some (.inr (.inr (some 21))), some (.inl a0), some (.inl a1), some (.inl (sA s 30 (Int32.toNatClampNeg a1))), some (.inl (sA s 30 (Int32.toNatClampNeg (a1 + (1 : Int32))))), none] [.inl (sA s 28 (Int32.toNatClampNeg (sA s 30 (Int32.toNatClampNeg (a1 + (1 : Int32))))))] (hp s) _
        refine X_run 1 (i1 := 77) (L1 := [some (.inr (.inr (some 21))), some (.inl a0), some (.inl a1), some (.inl (sA s 30 (Int32.toNatClampNeg a1))), some (.inl (sA s 30 (Int32.toNatClampNeg (a1 + (1 : Int32))))), none]) (st1 := [.inl (sA s 28 (Int32.toNatClampNeg (sA s 30 (Int32.toNatClampNeg (a1 + (1 : Int32))))))]) rfl ?_
        refine X_mask [true, true, false, true, true, true] ?_
        exact ct_M_makes_77 fu s a0 (sA s 30 (Int32.toNatClampNeg a1)) (sA s 30 (Int32.toNatClampNeg (a1 + (1 : Int32)))) (sA s 28 (Int32.toNatClampNeg (sA s 30 (Int32.toNatClampNeg (a1 + (1 : Int32)))))) hw
    · have hw := hw.2 hb
      refine X_run 3 (i1 := 41) (L1 := [some (.inr (.inr (some 21))), some (.inl a0), some (.inl a1), some (.inl (sA s 30 (Int32.toNatClampNeg a1))), some (.inl (sA s 30 (Int32.toNatClampNeg (a1 + (1 : Int32))))), none]) (st1 := [.inr (.inr (some 21)), .inl (sA s 30 (Int32.toNatClampNeg a1)), .inr (.inr (some 21))]) rfl ?_
      refine X_gF (v := .inr (.inr (some 28))) rfl rfl rfl rfl ?_
      refine X_run 1 (i1 := 43) (L1 := [some (.inr (.inr (some 21))), some (.inl a0), some (.inl a1), some (.inl (sA s 30 (Int32.toNatClampNeg a1))), some (.inl (sA s 30 (Int32.toNatClampNeg (a1 + (1 : Int32))))), none]) (st1 := [.inl (sA s 30 (Int32.toNatClampNeg (a1 + (1 : Int32)))), .inr (.inr (some 28)), .inl (sA s 30 (Int32.toNatClampNeg a1)), .inr (.inr (some 21))]) rfl ?_
      obtain ⟨hin, hw⟩ := hw
      refine X_aI rfl rfl hin ?_
      show X _ _ 44 [some (.inr (.inr (some 21))), some (.inl a0), some (.inl a1), some (.inl (sA s 30 (Int32.toNatClampNeg a1))), some (.inl (sA s 30 (Int32.toNatClampNeg (a1 + (1 : Int32))))), none] [.inl (sA s 28 (Int32.toNatClampNeg (sA s 30 (Int32.toNatClampNeg (a1 + (1 : Int32)))))), .inl (sA s 30 (Int32.toNatClampNeg a1)), .inr (.inr (some 21))] (hp s) _
      refine X_run 1 (i1 := 45) (L1 := [some (.inr (.inr (some 21))), some (.inl a0), some (.inl a1), some (.inl (sA s 30 (Int32.toNatClampNeg a1))), some (.inl (sA s 30 (Int32.toNatClampNeg (a1 + (1 : Int32))))), none]) (st1 := [.inr (.inr (some 21)), .inl (sA s 28 (Int32.toNatClampNeg (sA s 30 (Int32.toNatClampNeg (a1 + (1 : Int32)))))), .inl (sA s 30 (Int32.toNatClampNeg a1)), .inr (.inr (some 21))]) rfl ?_
      refine X_gF (v := .inr (.inr (some 28))) rfl rfl rfl rfl ?_
      refine X_run 1 (i1 := 47) (L1 := [some (.inr (.inr (some 21))), some (.inl a0), some (.inl a1), some (.inl (sA s 30 (Int32.toNatClampNeg a1))), some (.inl (sA s 30 (Int32.toNatClampNeg (a1 + (1 : Int32))))), none]) (st1 := [.inr (.inr (some 21)), .inr (.inr (some 28)), .inl (sA s 28 (Int32.toNatClampNeg (sA s 30 (Int32.toNatClampNeg (a1 + (1 : Int32)))))), .inl (sA s 30 (Int32.toNatClampNeg a1)), .inr (.inr (some 21))]) rfl ?_
      refine X_gF (v := .inr (.inr (some 30))) rfl rfl rfl rfl ?_
      refine X_run 3 (i1 := 51) (L1 := [some (.inr (.inr (some 21))), some (.inl a0), some (.inl a1), some (.inl (sA s 30 (Int32.toNatClampNeg a1))), some (.inl (sA s 30 (Int32.toNatClampNeg (a1 + (1 : Int32))))), none]) (st1 := [.inl (a1 + (2 : Int32)), .inr (.inr (some 30)), .inr (.inr (some 28)), .inl (sA s 28 (Int32.toNatClampNeg (sA s 30 (Int32.toNatClampNeg (a1 + (1 : Int32)))))), .inl (sA s 30 (Int32.toNatClampNeg a1)), .inr (.inr (some 21))]) rfl ?_
      obtain ⟨hin, hw⟩ := hw
      refine X_aI rfl rfl hin ?_
      show X _ _ 52 [some (.inr (.inr (some 21))), some (.inl a0), some (.inl a1), some (.inl (sA s 30 (Int32.toNatClampNeg a1))), some (.inl (sA s 30 (Int32.toNatClampNeg (a1 + (1 : Int32))))), none] [.inl (sA s 30 (Int32.toNatClampNeg (a1 + (2 : Int32)))), .inr (.inr (some 28)), .inl (sA s 28 (Int32.toNatClampNeg (sA s 30 (Int32.toNatClampNeg (a1 + (1 : Int32)))))), .inl (sA s 30 (Int32.toNatClampNeg a1)), .inr (.inr (some 21))] (hp s) _
      obtain ⟨hin, hw⟩ := hw
      refine X_aI rfl rfl hin ?_
      show X _ _ 53 [some (.inr (.inr (some 21))), some (.inl a0), some (.inl a1), some (.inl (sA s 30 (Int32.toNatClampNeg a1))), some (.inl (sA s 30 (Int32.toNatClampNeg (a1 + (1 : Int32))))), none] [.inl (sA s 28 (Int32.toNatClampNeg (sA s 30 (Int32.toNatClampNeg (a1 + (2 : Int32)))))), .inl (sA s 28 (Int32.toNatClampNeg (sA s 30 (Int32.toNatClampNeg (a1 + (1 : Int32)))))), .inl (sA s 30 (Int32.toNatClampNeg a1)), .inr (.inr (some 21))] (hp s) _
      obtain ⟨hc, hw⟩ := hw
      refine X_callv m_M_grid (As := [.inl (sA s 30 (Int32.toNatClampNeg a1)), .inl (sA s 28 (Int32.toNatClampNeg (sA s 30 (Int32.toNatClampNeg (a1 + (1 : Int32)))))), .inl (sA s 28 (Int32.toNatClampNeg (sA s 30 (Int32.toNatClampNeg (a1 + (2 : Int32))))))]) (st := []) ok_M_grid rfl rfl rfl (hp_obj rfl) rfl (Nat.le_of_ble_eq_true rfl) (Nat.le_of_ble_eq_true rfl) (c_M_grid (d := d) fu s (sA s 30 (Int32.toNatClampNeg a1)) (sA s 28 (Int32.toNatClampNeg (sA s 30 (Int32.toNatClampNeg (a1 + (1 : Int32)))))) (sA s 28 (Int32.toNatClampNeg (sA s 30 (Int32.toNatClampNeg (a1 + (2 : Int32)))))) hc) ?_
      rintro _ _ ⟨rfl, rfl⟩
      show X _ _ 54 [some (.inr (.inr (some 21))), some (.inl a0), some (.inl a1), some (.inl (sA s 30 (Int32.toNatClampNeg a1))), some (.inl (sA s 30 (Int32.toNatClampNeg (a1 + (1 : Int32))))), none] [.inl ((f_M_grid fu s (sA s 30 (Int32.toNatClampNeg a1)) (sA s 28 (Int32.toNatClampNeg (sA s 30 (Int32.toNatClampNeg (a1 + (1 : Int32)))))) (sA s 28 (Int32.toNatClampNeg (sA s 30 (Int32.toNatClampNeg (a1 + (2 : Int32))))))).1)] (hp ((f_M_grid fu s (sA s 30 (Int32.toNatClampNeg a1)) (sA s 28 (Int32.toNatClampNeg (sA s 30 (Int32.toNatClampNeg (a1 + (1 : Int32)))))) (sA s 28 (Int32.toNatClampNeg (sA s 30 (Int32.toNatClampNeg (a1 + (2 : Int32))))))).2)) _
      exact X_iret rfl rfl qIs_p
  · have hw := hw.2 hb
    refine X_run 1 (i1 := 9) (L1 := [some (.inr (.inr (some 21))), some (.inl a0), some (.inl a1), some (.inl (sA s 30 (Int32.toNatClampNeg a1))), none, none]) (st1 := [.inr (.inr (some 21))]) rfl ?_
    refine X_gF (v := .inr (.inr (some 27))) rfl rfl rfl rfl ?_
    refine X_run 4 (i1 := cond (cn2 .ne a0 (10 : Int32)) 24 14) (L1 := [some (.inr (.inr (some 21))), some (.inl a0), some (.inl a1), some (.inl (sA s 30 (Int32.toNatClampNeg a1))), none, none]) (st1 := [.inl (sA s 30 (Int32.toNatClampNeg a1)), .inr (.inr (some 27))]) rfl ?_
    refine X_brq (fun hb => ?_) (fun hb => ?_)
    · have hw := hw.1 hb
      refine X_run 1 (i1 := 25) (L1 := [some (.inr (.inr (some 21))), some (.inl a0), some (.inl a1), some (.inl (sA s 30 (Int32.toNatClampNeg a1))), none, none]) (st1 := [.inl (0 : Int32), .inl (sA s 30 (Int32.toNatClampNeg a1)), .inr (.inr (some 27))]) rfl ?_
      refine X_mask [false, false, false, false, true, true] ?_
      exact ct_M_makes_25 fu s (0 : Int32) (sA s 30 (Int32.toNatClampNeg a1)) hw
    · have hw := hw.2 hb
      refine X_run 1 (i1 := 15) (L1 := [some (.inr (.inr (some 21))), some (.inl a0), some (.inl a1), some (.inl (sA s 30 (Int32.toNatClampNeg a1))), none, none]) (st1 := [.inr (.inr (some 21)), .inl (sA s 30 (Int32.toNatClampNeg a1)), .inr (.inr (some 27))]) rfl ?_
      refine X_gF (v := .inr (.inr (some 27))) rfl rfl rfl rfl ?_
      refine X_run 1 (i1 := 17) (L1 := [some (.inr (.inr (some 21))), some (.inl a0), some (.inl a1), some (.inl (sA s 30 (Int32.toNatClampNeg a1))), none, none]) (st1 := [.inr (.inr (some 21)), .inr (.inr (some 27)), .inl (sA s 30 (Int32.toNatClampNeg a1)), .inr (.inr (some 27))]) rfl ?_
      refine X_gF (v := .inr (.inr (some 30))) rfl rfl rfl rfl ?_
      refine X_run 3 (i1 := 21) (L1 := [some (.inr (.inr (some 21))), some (.inl a0), some (.inl a1), some (.inl (sA s 30 (Int32.toNatClampNeg a1))), none, none]) (st1 := [.inl (a1 + (1 : Int32)), .inr (.inr (some 30)), .inr (.inr (some 27)), .inl (sA s 30 (Int32.toNatClampNeg a1)), .inr (.inr (some 27))]) rfl ?_
      obtain ⟨hin, hw⟩ := hw
      refine X_aI rfl rfl hin ?_
      show X _ _ 22 [some (.inr (.inr (some 21))), some (.inl a0), some (.inl a1), some (.inl (sA s 30 (Int32.toNatClampNeg a1))), none, none] [.inl (sA s 30 (Int32.toNatClampNeg (a1 + (1 : Int32)))), .inr (.inr (some 27)), .inl (sA s 30 (Int32.toNatClampNeg a1)), .inr (.inr (some 27))] (hp s) _
      obtain ⟨hin, hw⟩ := hw
      refine X_aI rfl rfl hin ?_
      show X _ _ 23 [some (.inr (.inr (some 21))), some (.inl a0), some (.inl a1), some (.inl (sA s 30 (Int32.toNatClampNeg a1))), none, none] [.inl (sA s 27 (Int32.toNatClampNeg (sA s 30 (Int32.toNatClampNeg (a1 + (1 : Int32)))))), .inl (sA s 30 (Int32.toNatClampNeg a1)), .inr (.inr (some 27))] (hp s) _
      refine X_run 1 (i1 := 25) (L1 := [some (.inr (.inr (some 21))), some (.inl a0), some (.inl a1), some (.inl (sA s 30 (Int32.toNatClampNeg a1))), none, none]) (st1 := [.inl (sA s 27 (Int32.toNatClampNeg (sA s 30 (Int32.toNatClampNeg (a1 + (1 : Int32)))))), .inl (sA s 30 (Int32.toNatClampNeg a1)), .inr (.inr (some 27))]) rfl ?_
      refine X_mask [false, false, false, false, true, true] ?_
      exact ct_M_makes_25 fu s (sA s 27 (Int32.toNatClampNeg (sA s 30 (Int32.toNatClampNeg (a1 + (1 : Int32)))))) (sA s 30 (Int32.toNatClampNeg a1)) hw
def f_M_is (s : St) (a0 : Int32) (a1 : Int32) : Bool := (cond (cn1 .ne a1) (cond (cn1 .ne a0) (cond (cn2 .gt a1 (10 : Int32)) (cond (cn2 .ge a1 (16 : Int32)) (cond (cn2 .ne a1 (16 : Int32)) (cond (cn2 .ne a1 (17 : Int32)) (cond (cn2 .ne a1 (18 : Int32)) (cond (cn2 .ne (sA s 22 (Int32.toNatClampNeg a0)) (10 : Int32)) false (cond (cn1 .eq (b2i (f_M_isBelow (sA s 25 (Int32.toNatClampNeg a0)) (1 : Int32)))) false true)) (cond (cn1 .eq (b2i (f_M_isPart s a0))) false (cond (cn2 .le ((sA s 22 (Int32.toNatClampNeg a0)) - (11 : Int32)) (2 : Int32)) false true))) (cond (cn1 .eq (b2i (f_M_isPart s a0))) false (cond (cn2 .le (sA s 22 (Int32.toNatClampNeg a0)) (11 : Int32)) false true))) (cond (cn2 .ne (sA s 22 (Int32.toNatClampNeg a0)) (16 : Int32)) false true)) (cond (cn1 .eq (b2i (f_M_isPart s a0))) false (cond (cn1 .eq (b2i (f_M_isBelow ((sA s 22 (Int32.toNatClampNeg a0)) - (11 : Int32)) (a1 - (11 : Int32))))) false true))) (cond (cn2 .ne (sA s 22 (Int32.toNatClampNeg a0)) a1) false true)) false) (cond (cn1 .ne a0) false true))
def w_M_is (s : St) (a0 : Int32) (a1 : Int32) : Prop := ((cn1 .ne a1) = true → ((cn1 .ne a0) = true → ((cn2 .gt a1 (10 : Int32)) = true → ((cn2 .ge a1 (16 : Int32)) = true → ((cn2 .ne a1 (16 : Int32)) = true → ((cn2 .ne a1 (17 : Int32)) = true → ((cn2 .ne a1 (18 : Int32)) = true → (vp_in a0 40001 ∧ ((cn2 .ne (sA s 22 (Int32.toNatClampNeg a0)) (10 : Int32)) = true → True) ∧ ((cn2 .ne (sA s 22 (Int32.toNatClampNeg a0)) (10 : Int32)) = false → (vp_in a0 40001 ∧ True)))) ∧ ((cn2 .ne a1 (18 : Int32)) = false → (w_M_isPart s a0 ∧ ((cn1 .eq (b2i (f_M_isPart s a0))) = true → True) ∧ ((cn1 .eq (b2i (f_M_isPart s a0))) = false → (vp_in a0 40001 ∧ True))))) ∧ ((cn2 .ne a1 (17 : Int32)) = false → (w_M_isPart s a0 ∧ ((cn1 .eq (b2i (f_M_isPart s a0))) = true → True) ∧ ((cn1 .eq (b2i (f_M_isPart s a0))) = false → (vp_in a0 40001 ∧ True))))) ∧ ((cn2 .ne a1 (16 : Int32)) = false → (vp_in a0 40001 ∧ True))) ∧ ((cn2 .ge a1 (16 : Int32)) = false → (w_M_isPart s a0 ∧ ((cn1 .eq (b2i (f_M_isPart s a0))) = true → True) ∧ ((cn1 .eq (b2i (f_M_isPart s a0))) = false → (vp_in a0 40001 ∧ True))))) ∧ ((cn2 .gt a1 (10 : Int32)) = false → (vp_in a0 40001 ∧ True))) ∧ ((cn1 .ne a0) = false → True)) ∧ ((cn1 .ne a1) = false → True)
theorem c_M_is {d : Nat} (s : St) (a0 : Int32) (a1 : Int32) (hw : w_M_is s a0 a1) : X m_M_is (d + 1) 0 (entL 3 [.inr (.inr (some 21)), .inl a0, .inl a1]) [] (hp s) (qB (hp s) (f_M_is s a0 a1)) := by
  unfold f_M_is
  unfold w_M_is at hw
  refine X_run 2 (i1 := cond (cn1 .ne a1) 8 2) (L1 := [some (.inr (.inr (some 21))), some (.inl a0), some (.inl a1)]) (st1 := []) rfl ?_
  refine X_brq (fun hb => ?_) (fun hb => ?_)
  · have hw := hw.1 hb
    refine X_run 2 (i1 := cond (cn1 .ne a0) 12 10) (L1 := [some (.inr (.inr (some 21))), some (.inl a0), some (.inl a1)]) (st1 := []) rfl ?_
    refine X_brq (fun hb => ?_) (fun hb => ?_)
    · have hw := hw.1 hb
      refine X_run 3 (i1 := cond (cn2 .gt a1 (10 : Int32)) 25 15) (L1 := [some (.inr (.inr (some 21))), some (.inl a0), some (.inl a1)]) (st1 := []) rfl ?_
      refine X_brq (fun hb => ?_) (fun hb => ?_)
      · have hw := hw.1 hb
        refine X_run 3 (i1 := cond (cn2 .ge a1 (16 : Int32)) 47 28) (L1 := [some (.inr (.inr (some 21))), some (.inl a0), some (.inl a1)]) (st1 := []) rfl ?_
        refine X_brq (fun hb => ?_) (fun hb => ?_)
        · have hw := hw.1 hb
          refine X_run 3 (i1 := cond (cn2 .ne a1 (16 : Int32)) 60 50) (L1 := [some (.inr (.inr (some 21))), some (.inl a0), some (.inl a1)]) (st1 := []) rfl ?_
          refine X_brq (fun hb => ?_) (fun hb => ?_)
          · have hw := hw.1 hb
            refine X_run 3 (i1 := cond (cn2 .ne a1 (17 : Int32)) 77 63) (L1 := [some (.inr (.inr (some 21))), some (.inl a0), some (.inl a1)]) (st1 := []) rfl ?_
            refine X_brq (fun hb => ?_) (fun hb => ?_)
            · have hw := hw.1 hb
              refine X_run 3 (i1 := cond (cn2 .ne a1 (18 : Int32)) 96 80) (L1 := [some (.inr (.inr (some 21))), some (.inl a0), some (.inl a1)]) (st1 := []) rfl ?_
              refine X_brq (fun hb => ?_) (fun hb => ?_)
              · have hw := hw.1 hb
                refine X_run 1 (i1 := 97) (L1 := [some (.inr (.inr (some 21))), some (.inl a0), some (.inl a1)]) (st1 := [.inr (.inr (some 21))]) rfl ?_
                refine X_gF (v := .inr (.inr (some 22))) rfl rfl rfl rfl ?_
                refine X_run 1 (i1 := 99) (L1 := [some (.inr (.inr (some 21))), some (.inl a0), some (.inl a1)]) (st1 := [.inl a0, .inr (.inr (some 22))]) rfl ?_
                obtain ⟨hin, hw⟩ := hw
                refine X_aI rfl rfl hin ?_
                show X _ _ 100 [some (.inr (.inr (some 21))), some (.inl a0), some (.inl a1)] [.inl (sA s 22 (Int32.toNatClampNeg a0))] (hp s) _
                refine X_run 2 (i1 := cond (cn2 .ne (sA s 22 (Int32.toNatClampNeg a0)) (10 : Int32)) 111 102) (L1 := [some (.inr (.inr (some 21))), some (.inl a0), some (.inl a1)]) (st1 := []) rfl ?_
                refine X_brq (fun hb => ?_) (fun hb => ?_)
                · skip
                  refine X_run 1 (i1 := 112) (L1 := [some (.inr (.inr (some 21))), some (.inl a0), some (.inl a1)]) (st1 := [.inl (0 : Int32)]) rfl ?_
                  exact X_zret rfl rfl (b2i_01 false) qB_i
                · have hw := hw.2 hb
                  refine X_run 1 (i1 := 103) (L1 := [some (.inr (.inr (some 21))), some (.inl a0), some (.inl a1)]) (st1 := [.inr (.inr (some 21))]) rfl ?_
                  refine X_gF (v := .inr (.inr (some 25))) rfl rfl rfl rfl ?_
                  refine X_run 1 (i1 := 105) (L1 := [some (.inr (.inr (some 21))), some (.inl a0), some (.inl a1)]) (st1 := [.inl a0, .inr (.inr (some 25))]) rfl ?_
                  obtain ⟨hin, hw⟩ := hw
                  refine X_aI rfl rfl hin ?_
                  show X _ _ 106 [some (.inr (.inr (some 21))), some (.inl a0), some (.inl a1)] [.inl (sA s 25 (Int32.toNatClampNeg a0))] (hp s) _
                  refine X_run 1 (i1 := 107) (L1 := [some (.inr (.inr (some 21))), some (.inl a0), some (.inl a1)]) (st1 := [.inl (1 : Int32), .inl (sA s 25 (Int32.toNatClampNeg a0))]) rfl ?_
                  refine X_calls m_M_isBelow (As := [.inl (sA s 25 (Int32.toNatClampNeg a0)), .inl (1 : Int32)]) (st := []) ok_M_isBelow rfl rfl rfl (Nat.le_of_ble_eq_true rfl) (Nat.le_of_ble_eq_true rfl) (c_M_isBelow (d := d) (sA s 25 (Int32.toNatClampNeg a0)) (1 : Int32)) ?_
                  rintro _ _ ⟨rfl, rfl⟩
                  show X _ _ 108 [some (.inr (.inr (some 21))), some (.inl a0), some (.inl a1)] [.inl (b2i (f_M_isBelow (sA s 25 (Int32.toNatClampNeg a0)) (1 : Int32)))] (hp s) _
                  refine X_run 1 (i1 := cond (cn1 .eq (b2i (f_M_isBelow (sA s 25 (Int32.toNatClampNeg a0)) (1 : Int32)))) 111 109) (L1 := [some (.inr (.inr (some 21))), some (.inl a0), some (.inl a1)]) (st1 := []) rfl ?_
                  refine X_brq (fun hb => ?_) (fun hb => ?_)
                  · skip
                    refine X_run 1 (i1 := 112) (L1 := [some (.inr (.inr (some 21))), some (.inl a0), some (.inl a1)]) (st1 := [.inl (0 : Int32)]) rfl ?_
                    exact X_zret rfl rfl (b2i_01 false) qB_i
                  · skip
                    refine X_run 2 (i1 := 112) (L1 := [some (.inr (.inr (some 21))), some (.inl a0), some (.inl a1)]) (st1 := [.inl (1 : Int32)]) rfl ?_
                    exact X_zret rfl rfl (b2i_01 true) qB_i
              · have hw := hw.2 hb
                refine X_run 2 (i1 := 82) (L1 := [some (.inr (.inr (some 21))), some (.inl a0), some (.inl a1)]) (st1 := [.inl a0, .inr (.inr (some 21))]) rfl ?_
                obtain ⟨hc, hw⟩ := hw
                refine X_callv m_M_isPart (As := [.inl a0]) (st := []) ok_M_isPart rfl rfl rfl (hp_obj rfl) rfl (Nat.le_of_ble_eq_true rfl) (Nat.le_of_ble_eq_true rfl) (c_M_isPart (d := d) s a0 hc) ?_
                rintro _ _ ⟨rfl, rfl⟩
                show X _ _ 83 [some (.inr (.inr (some 21))), some (.inl a0), some (.inl a1)] [.inl (b2i (f_M_isPart s a0))] (hp s) _
                refine X_run 1 (i1 := cond (cn1 .eq (b2i (f_M_isPart s a0))) 94 84) (L1 := [some (.inr (.inr (some 21))), some (.inl a0), some (.inl a1)]) (st1 := []) rfl ?_
                refine X_brq (fun hb => ?_) (fun hb => ?_)
                · skip
                  refine X_run 1 (i1 := 95) (L1 := [some (.inr (.inr (some 21))), some (.inl a0), some (.inl a1)]) (st1 := [.inl (0 : Int32)]) rfl ?_
                  exact X_zret rfl rfl (b2i_01 false) qB_i
                · have hw := hw.2 hb
                  refine X_run 1 (i1 := 85) (L1 := [some (.inr (.inr (some 21))), some (.inl a0), some (.inl a1)]) (st1 := [.inr (.inr (some 21))]) rfl ?_
                  refine X_gF (v := .inr (.inr (some 22))) rfl rfl rfl rfl ?_
                  refine X_run 1 (i1 := 87) (L1 := [some (.inr (.inr (some 21))), some (.inl a0), some (.inl a1)]) (st1 := [.inl a0, .inr (.inr (some 22))]) rfl ?_
                  obtain ⟨hin, hw⟩ := hw
                  refine X_aI rfl rfl hin ?_
                  show X _ _ 88 [some (.inr (.inr (some 21))), some (.inl a0), some (.inl a1)] [.inl (sA s 22 (Int32.toNatClampNeg a0))] (hp s) _
                  refine X_run 4 (i1 := cond (cn2 .le ((sA s 22 (Int32.toNatClampNeg a0)) - (11 : Int32)) (2 : Int32)) 94 92) (L1 := [some (.inr (.inr (some 21))), some (.inl a0), some (.inl a1)]) (st1 := []) rfl ?_
                  refine X_brq (fun hb => ?_) (fun hb => ?_)
                  · skip
                    refine X_run 1 (i1 := 95) (L1 := [some (.inr (.inr (some 21))), some (.inl a0), some (.inl a1)]) (st1 := [.inl (0 : Int32)]) rfl ?_
                    exact X_zret rfl rfl (b2i_01 false) qB_i
                  · skip
                    refine X_run 2 (i1 := 95) (L1 := [some (.inr (.inr (some 21))), some (.inl a0), some (.inl a1)]) (st1 := [.inl (1 : Int32)]) rfl ?_
                    exact X_zret rfl rfl (b2i_01 true) qB_i
            · have hw := hw.2 hb
              refine X_run 2 (i1 := 65) (L1 := [some (.inr (.inr (some 21))), some (.inl a0), some (.inl a1)]) (st1 := [.inl a0, .inr (.inr (some 21))]) rfl ?_
              obtain ⟨hc, hw⟩ := hw
              refine X_callv m_M_isPart (As := [.inl a0]) (st := []) ok_M_isPart rfl rfl rfl (hp_obj rfl) rfl (Nat.le_of_ble_eq_true rfl) (Nat.le_of_ble_eq_true rfl) (c_M_isPart (d := d) s a0 hc) ?_
              rintro _ _ ⟨rfl, rfl⟩
              show X _ _ 66 [some (.inr (.inr (some 21))), some (.inl a0), some (.inl a1)] [.inl (b2i (f_M_isPart s a0))] (hp s) _
              refine X_run 1 (i1 := cond (cn1 .eq (b2i (f_M_isPart s a0))) 75 67) (L1 := [some (.inr (.inr (some 21))), some (.inl a0), some (.inl a1)]) (st1 := []) rfl ?_
              refine X_brq (fun hb => ?_) (fun hb => ?_)
              · skip
                refine X_run 1 (i1 := 76) (L1 := [some (.inr (.inr (some 21))), some (.inl a0), some (.inl a1)]) (st1 := [.inl (0 : Int32)]) rfl ?_
                exact X_zret rfl rfl (b2i_01 false) qB_i
              · have hw := hw.2 hb
                refine X_run 1 (i1 := 68) (L1 := [some (.inr (.inr (some 21))), some (.inl a0), some (.inl a1)]) (st1 := [.inr (.inr (some 21))]) rfl ?_
                refine X_gF (v := .inr (.inr (some 22))) rfl rfl rfl rfl ?_
                refine X_run 1 (i1 := 70) (L1 := [some (.inr (.inr (some 21))), some (.inl a0), some (.inl a1)]) (st1 := [.inl a0, .inr (.inr (some 22))]) rfl ?_
                obtain ⟨hin, hw⟩ := hw
                refine X_aI rfl rfl hin ?_
                show X _ _ 71 [some (.inr (.inr (some 21))), some (.inl a0), some (.inl a1)] [.inl (sA s 22 (Int32.toNatClampNeg a0))] (hp s) _
                refine X_run 2 (i1 := cond (cn2 .le (sA s 22 (Int32.toNatClampNeg a0)) (11 : Int32)) 75 73) (L1 := [some (.inr (.inr (some 21))), some (.inl a0), some (.inl a1)]) (st1 := []) rfl ?_
                refine X_brq (fun hb => ?_) (fun hb => ?_)
                · skip
                  refine X_run 1 (i1 := 76) (L1 := [some (.inr (.inr (some 21))), some (.inl a0), some (.inl a1)]) (st1 := [.inl (0 : Int32)]) rfl ?_
                  exact X_zret rfl rfl (b2i_01 false) qB_i
                · skip
                  refine X_run 2 (i1 := 76) (L1 := [some (.inr (.inr (some 21))), some (.inl a0), some (.inl a1)]) (st1 := [.inl (1 : Int32)]) rfl ?_
                  exact X_zret rfl rfl (b2i_01 true) qB_i
          · have hw := hw.2 hb
            refine X_run 1 (i1 := 51) (L1 := [some (.inr (.inr (some 21))), some (.inl a0), some (.inl a1)]) (st1 := [.inr (.inr (some 21))]) rfl ?_
            refine X_gF (v := .inr (.inr (some 22))) rfl rfl rfl rfl ?_
            refine X_run 1 (i1 := 53) (L1 := [some (.inr (.inr (some 21))), some (.inl a0), some (.inl a1)]) (st1 := [.inl a0, .inr (.inr (some 22))]) rfl ?_
            obtain ⟨hin, hw⟩ := hw
            refine X_aI rfl rfl hin ?_
            show X _ _ 54 [some (.inr (.inr (some 21))), some (.inl a0), some (.inl a1)] [.inl (sA s 22 (Int32.toNatClampNeg a0))] (hp s) _
            refine X_run 2 (i1 := cond (cn2 .ne (sA s 22 (Int32.toNatClampNeg a0)) (16 : Int32)) 58 56) (L1 := [some (.inr (.inr (some 21))), some (.inl a0), some (.inl a1)]) (st1 := []) rfl ?_
            refine X_brq (fun hb => ?_) (fun hb => ?_)
            · skip
              refine X_run 1 (i1 := 59) (L1 := [some (.inr (.inr (some 21))), some (.inl a0), some (.inl a1)]) (st1 := [.inl (0 : Int32)]) rfl ?_
              exact X_zret rfl rfl (b2i_01 false) qB_i
            · skip
              refine X_run 2 (i1 := 59) (L1 := [some (.inr (.inr (some 21))), some (.inl a0), some (.inl a1)]) (st1 := [.inl (1 : Int32)]) rfl ?_
              exact X_zret rfl rfl (b2i_01 true) qB_i
        · have hw := hw.2 hb
          refine X_run 2 (i1 := 30) (L1 := [some (.inr (.inr (some 21))), some (.inl a0), some (.inl a1)]) (st1 := [.inl a0, .inr (.inr (some 21))]) rfl ?_
          obtain ⟨hc, hw⟩ := hw
          refine X_callv m_M_isPart (As := [.inl a0]) (st := []) ok_M_isPart rfl rfl rfl (hp_obj rfl) rfl (Nat.le_of_ble_eq_true rfl) (Nat.le_of_ble_eq_true rfl) (c_M_isPart (d := d) s a0 hc) ?_
          rintro _ _ ⟨rfl, rfl⟩
          show X _ _ 31 [some (.inr (.inr (some 21))), some (.inl a0), some (.inl a1)] [.inl (b2i (f_M_isPart s a0))] (hp s) _
          refine X_run 1 (i1 := cond (cn1 .eq (b2i (f_M_isPart s a0))) 45 32) (L1 := [some (.inr (.inr (some 21))), some (.inl a0), some (.inl a1)]) (st1 := []) rfl ?_
          refine X_brq (fun hb => ?_) (fun hb => ?_)
          · skip
            refine X_run 1 (i1 := 46) (L1 := [some (.inr (.inr (some 21))), some (.inl a0), some (.inl a1)]) (st1 := [.inl (0 : Int32)]) rfl ?_
            exact X_zret rfl rfl (b2i_01 false) qB_i
          · have hw := hw.2 hb
            refine X_run 1 (i1 := 33) (L1 := [some (.inr (.inr (some 21))), some (.inl a0), some (.inl a1)]) (st1 := [.inr (.inr (some 21))]) rfl ?_
            refine X_gF (v := .inr (.inr (some 22))) rfl rfl rfl rfl ?_
            refine X_run 1 (i1 := 35) (L1 := [some (.inr (.inr (some 21))), some (.inl a0), some (.inl a1)]) (st1 := [.inl a0, .inr (.inr (some 22))]) rfl ?_
            obtain ⟨hin, hw⟩ := hw
            refine X_aI rfl rfl hin ?_
            show X _ _ 36 [some (.inr (.inr (some 21))), some (.inl a0), some (.inl a1)] [.inl (sA s 22 (Int32.toNatClampNeg a0))] (hp s) _
            refine X_run 5 (i1 := 41) (L1 := [some (.inr (.inr (some 21))), some (.inl a0), some (.inl a1)]) (st1 := [.inl (a1 - (11 : Int32)), .inl ((sA s 22 (Int32.toNatClampNeg a0)) - (11 : Int32))]) rfl ?_
            refine X_calls m_M_isBelow (As := [.inl ((sA s 22 (Int32.toNatClampNeg a0)) - (11 : Int32)), .inl (a1 - (11 : Int32))]) (st := []) ok_M_isBelow rfl rfl rfl (Nat.le_of_ble_eq_true rfl) (Nat.le_of_ble_eq_true rfl) (c_M_isBelow (d := d) ((sA s 22 (Int32.toNatClampNeg a0)) - (11 : Int32)) (a1 - (11 : Int32))) ?_
            rintro _ _ ⟨rfl, rfl⟩
            show X _ _ 42 [some (.inr (.inr (some 21))), some (.inl a0), some (.inl a1)] [.inl (b2i (f_M_isBelow ((sA s 22 (Int32.toNatClampNeg a0)) - (11 : Int32)) (a1 - (11 : Int32))))] (hp s) _
            refine X_run 1 (i1 := cond (cn1 .eq (b2i (f_M_isBelow ((sA s 22 (Int32.toNatClampNeg a0)) - (11 : Int32)) (a1 - (11 : Int32))))) 45 43) (L1 := [some (.inr (.inr (some 21))), some (.inl a0), some (.inl a1)]) (st1 := []) rfl ?_
            refine X_brq (fun hb => ?_) (fun hb => ?_)
            · skip
              refine X_run 1 (i1 := 46) (L1 := [some (.inr (.inr (some 21))), some (.inl a0), some (.inl a1)]) (st1 := [.inl (0 : Int32)]) rfl ?_
              exact X_zret rfl rfl (b2i_01 false) qB_i
            · skip
              refine X_run 2 (i1 := 46) (L1 := [some (.inr (.inr (some 21))), some (.inl a0), some (.inl a1)]) (st1 := [.inl (1 : Int32)]) rfl ?_
              exact X_zret rfl rfl (b2i_01 true) qB_i
      · have hw := hw.2 hb
        refine X_run 1 (i1 := 16) (L1 := [some (.inr (.inr (some 21))), some (.inl a0), some (.inl a1)]) (st1 := [.inr (.inr (some 21))]) rfl ?_
        refine X_gF (v := .inr (.inr (some 22))) rfl rfl rfl rfl ?_
        refine X_run 1 (i1 := 18) (L1 := [some (.inr (.inr (some 21))), some (.inl a0), some (.inl a1)]) (st1 := [.inl a0, .inr (.inr (some 22))]) rfl ?_
        obtain ⟨hin, hw⟩ := hw
        refine X_aI rfl rfl hin ?_
        show X _ _ 19 [some (.inr (.inr (some 21))), some (.inl a0), some (.inl a1)] [.inl (sA s 22 (Int32.toNatClampNeg a0))] (hp s) _
        refine X_run 2 (i1 := cond (cn2 .ne (sA s 22 (Int32.toNatClampNeg a0)) a1) 23 21) (L1 := [some (.inr (.inr (some 21))), some (.inl a0), some (.inl a1)]) (st1 := []) rfl ?_
        refine X_brq (fun hb => ?_) (fun hb => ?_)
        · skip
          refine X_run 1 (i1 := 24) (L1 := [some (.inr (.inr (some 21))), some (.inl a0), some (.inl a1)]) (st1 := [.inl (0 : Int32)]) rfl ?_
          exact X_zret rfl rfl (b2i_01 false) qB_i
        · skip
          refine X_run 2 (i1 := 24) (L1 := [some (.inr (.inr (some 21))), some (.inl a0), some (.inl a1)]) (st1 := [.inl (1 : Int32)]) rfl ?_
          exact X_zret rfl rfl (b2i_01 true) qB_i
    · skip
      refine X_run 1 (i1 := 11) (L1 := [some (.inr (.inr (some 21))), some (.inl a0), some (.inl a1)]) (st1 := [.inl (0 : Int32)]) rfl ?_
      exact X_zret rfl rfl (b2i_01 false) qB_i
  · skip
    refine X_run 2 (i1 := cond (cn1 .ne a0) 6 4) (L1 := [some (.inr (.inr (some 21))), some (.inl a0), some (.inl a1)]) (st1 := []) rfl ?_
    refine X_brq (fun hb => ?_) (fun hb => ?_)
    · skip
      refine X_run 1 (i1 := 7) (L1 := [some (.inr (.inr (some 21))), some (.inl a0), some (.inl a1)]) (st1 := [.inl (0 : Int32)]) rfl ?_
      exact X_zret rfl rfl (b2i_01 false) qB_i
    · skip
      refine X_run 2 (i1 := 7) (L1 := [some (.inr (.inr (some 21))), some (.inl a0), some (.inl a1)]) (st1 := [.inl (1 : Int32)]) rfl ?_
      exact X_zret rfl rfl (b2i_01 true) qB_i
def f_M_cut (a0 : Int32) (a1 : Int32) : Int64 := (if a0 = (1 : Int32) then (Int32.toInt64 ((a1 <<< ((24 : Int32) &&& 31)) >>> ((24 : Int32) &&& 31))) else (if a0 = (2 : Int32) then (Int32.toInt64 (a1 &&& (65535 : Int32))) else (if a0 = (3 : Int32) then (Int32.toInt64 ((a1 <<< ((16 : Int32) &&& 31)) >>> ((16 : Int32) &&& 31))) else (if a0 = (4 : Int32) then (Int32.toInt64 a1) else (if a0 = (5 : Int32) then (Int32.toInt64 a1) else (if a0 = (6 : Int32) then (Int32.toInt64 a1) else (if a0 = (7 : Int32) then (Int32.toInt64 a1) else (if a0 = (8 : Int32) then (Int32.toInt64 (a1 &&& (1 : Int32))) else (Int32.toInt64 a1)))))))))
theorem c_M_cut {d : Nat} {P : AP} (a0 : Int32) (a1 : Int32) : X m_M_cut (d) 0 (entL 2 [.inl a0, .inl a1]) [] P (qL P (f_M_cut a0 a1)) := by
  unfold f_M_cut
  refine X_run 1 (i1 := 1) (L1 := [some (.inl a0), some (.inl a1)]) (st1 := [.inl a0]) rfl ?_
  refine X_itq (fun h => ?_) (fun h1_0 => ?_)
  · refine X_tsk rfl h rfl ?_
    refine X_run 6 (i1 := 8) (L1 := [some (.inl a0), some (.inl a1)]) (st1 := [.inr (.inl (Int32.toInt64 ((a1 <<< ((24 : Int32) &&& 31)) >>> ((24 : Int32) &&& 31))))]) rfl ?_
    exact X_lret rfl rfl ⟨rfl, rfl⟩
  refine X_itq (fun h => ?_) (fun h1_1 => ?_)
  · refine X_tsk rfl h rfl ?_
    refine X_run 4 (i1 := 13) (L1 := [some (.inl a0), some (.inl a1)]) (st1 := [.inr (.inl (Int32.toInt64 (a1 &&& (65535 : Int32))))]) rfl ?_
    exact X_lret rfl rfl ⟨rfl, rfl⟩
  refine X_itq (fun h => ?_) (fun h1_2 => ?_)
  · refine X_tsk rfl h rfl ?_
    refine X_run 6 (i1 := 20) (L1 := [some (.inl a0), some (.inl a1)]) (st1 := [.inr (.inl (Int32.toInt64 ((a1 <<< ((16 : Int32) &&& 31)) >>> ((16 : Int32) &&& 31))))]) rfl ?_
    exact X_lret rfl rfl ⟨rfl, rfl⟩
  refine X_itq (fun h => ?_) (fun h1_3 => ?_)
  · refine X_tsk rfl h rfl ?_
    refine X_run 2 (i1 := 28) (L1 := [some (.inl a0), some (.inl a1)]) (st1 := [.inr (.inl (Int32.toInt64 a1))]) rfl ?_
    exact X_lret rfl rfl ⟨rfl, rfl⟩
  refine X_itq (fun h => ?_) (fun h1_4 => ?_)
  · refine X_tsk rfl h rfl ?_
    refine X_run 2 (i1 := 28) (L1 := [some (.inl a0), some (.inl a1)]) (st1 := [.inr (.inl (Int32.toInt64 a1))]) rfl ?_
    exact X_lret rfl rfl ⟨rfl, rfl⟩
  refine X_itq (fun h => ?_) (fun h1_5 => ?_)
  · refine X_tsk rfl h rfl ?_
    refine X_run 2 (i1 := 28) (L1 := [some (.inl a0), some (.inl a1)]) (st1 := [.inr (.inl (Int32.toInt64 a1))]) rfl ?_
    exact X_lret rfl rfl ⟨rfl, rfl⟩
  refine X_itq (fun h => ?_) (fun h1_6 => ?_)
  · refine X_tsk rfl h rfl ?_
    refine X_run 2 (i1 := 28) (L1 := [some (.inl a0), some (.inl a1)]) (st1 := [.inr (.inl (Int32.toInt64 a1))]) rfl ?_
    exact X_lret rfl rfl ⟨rfl, rfl⟩
  refine X_itq (fun h => ?_) (fun h1_7 => ?_)
  · refine X_tsk rfl h rfl ?_
    refine X_run 4 (i1 := 25) (L1 := [some (.inl a0), some (.inl a1)]) (st1 := [.inr (.inl (Int32.toInt64 (a1 &&& (1 : Int32))))]) rfl ?_
    exact X_lret rfl rfl ⟨rfl, rfl⟩
  refine X_tsd rfl ((sw_out (1) 8 (by decide) (by decide) (fun j hj => by
    match j, hj with
    | 0, _ => exact h1_0
    | 1, _ => exact h1_1
    | 2, _ => exact h1_2
    | 3, _ => exact h1_3
    | 4, _ => exact h1_4
    | 5, _ => exact h1_5
    | 6, _ => exact h1_6
    | 7, _ => exact h1_7
    | j + 8, hj => exact absurd hj (by omega))).imp id (fun h => by omega)) ?_
  refine X_run 2 (i1 := 28) (L1 := [some (.inl a0), some (.inl a1)]) (st1 := [.inr (.inl (Int32.toInt64 a1))]) rfl ?_
  exact X_lret rfl rfl ⟨rfl, rfl⟩
def t_M_goes_14 (s : St) (v1 : Int32) (v2 : Int32) : Bool := (cond (cn2 .ne (sA s 22 (Int32.toNatClampNeg v2)) (10 : Int32)) false (cond (cn1 .eq (b2i (f_M_isPart s v1))) false (cond (cn1 .eq (b2i (f_M_isBelow ((sA s 22 (Int32.toNatClampNeg v1)) - (11 : Int32)) (sA s 25 (Int32.toNatClampNeg v2))))) false true)))
def w_M_goes_14 (s : St) (v1 : Int32) (v2 : Int32) : Prop := (vp_in v2 40001 ∧ ((cn2 .ne (sA s 22 (Int32.toNatClampNeg v2)) (10 : Int32)) = true → True) ∧ ((cn2 .ne (sA s 22 (Int32.toNatClampNeg v2)) (10 : Int32)) = false → (w_M_isPart s v1 ∧ ((cn1 .eq (b2i (f_M_isPart s v1))) = true → True) ∧ ((cn1 .eq (b2i (f_M_isPart s v1))) = false → (vp_in v1 40001 ∧ (vp_in v2 40001 ∧ True))))))
theorem ct_M_goes_14 {d : Nat} (s : St) (v1 : Int32) (v2 : Int32) (hw : w_M_goes_14 s v1 v2) : X m_M_goes (d + 1) 14 [some (.inr (.inr (some 21))), some (.inl v1), some (.inl v2)] [] (hp s) (qB (hp s) (t_M_goes_14 s v1 v2)) := by
  unfold t_M_goes_14
  unfold w_M_goes_14 at hw
  refine X_run 1 (i1 := 15) (L1 := [some (.inr (.inr (some 21))), some (.inl v1), some (.inl v2)]) (st1 := [.inr (.inr (some 21))]) rfl ?_
  refine X_gF (v := .inr (.inr (some 22))) rfl rfl rfl rfl ?_
  refine X_run 1 (i1 := 17) (L1 := [some (.inr (.inr (some 21))), some (.inl v1), some (.inl v2)]) (st1 := [.inl v2, .inr (.inr (some 22))]) rfl ?_
  obtain ⟨hin, hw⟩ := hw
  refine X_aI rfl rfl hin ?_
  show X _ _ 18 [some (.inr (.inr (some 21))), some (.inl v1), some (.inl v2)] [.inl (sA s 22 (Int32.toNatClampNeg v2))] (hp s) _
  refine X_run 2 (i1 := cond (cn2 .ne (sA s 22 (Int32.toNatClampNeg v2)) (10 : Int32)) 38 20) (L1 := [some (.inr (.inr (some 21))), some (.inl v1), some (.inl v2)]) (st1 := []) rfl ?_
  refine X_brq (fun hb => ?_) (fun hb => ?_)
  · skip
    refine X_run 1 (i1 := 39) (L1 := [some (.inr (.inr (some 21))), some (.inl v1), some (.inl v2)]) (st1 := [.inl (0 : Int32)]) rfl ?_
    exact X_zret rfl rfl (b2i_01 false) qB_i
  · have hw := hw.2 hb
    refine X_run 2 (i1 := 22) (L1 := [some (.inr (.inr (some 21))), some (.inl v1), some (.inl v2)]) (st1 := [.inl v1, .inr (.inr (some 21))]) rfl ?_
    obtain ⟨hc, hw⟩ := hw
    refine X_callv m_M_isPart (As := [.inl v1]) (st := []) ok_M_isPart rfl rfl rfl (hp_obj rfl) rfl (Nat.le_of_ble_eq_true rfl) (Nat.le_of_ble_eq_true rfl) (c_M_isPart (d := d) s v1 hc) ?_
    rintro _ _ ⟨rfl, rfl⟩
    show X _ _ 23 [some (.inr (.inr (some 21))), some (.inl v1), some (.inl v2)] [.inl (b2i (f_M_isPart s v1))] (hp s) _
    refine X_run 1 (i1 := cond (cn1 .eq (b2i (f_M_isPart s v1))) 38 24) (L1 := [some (.inr (.inr (some 21))), some (.inl v1), some (.inl v2)]) (st1 := []) rfl ?_
    refine X_brq (fun hb => ?_) (fun hb => ?_)
    · skip
      refine X_run 1 (i1 := 39) (L1 := [some (.inr (.inr (some 21))), some (.inl v1), some (.inl v2)]) (st1 := [.inl (0 : Int32)]) rfl ?_
      exact X_zret rfl rfl (b2i_01 false) qB_i
    · have hw := hw.2 hb
      refine X_run 1 (i1 := 25) (L1 := [some (.inr (.inr (some 21))), some (.inl v1), some (.inl v2)]) (st1 := [.inr (.inr (some 21))]) rfl ?_
      refine X_gF (v := .inr (.inr (some 22))) rfl rfl rfl rfl ?_
      refine X_run 1 (i1 := 27) (L1 := [some (.inr (.inr (some 21))), some (.inl v1), some (.inl v2)]) (st1 := [.inl v1, .inr (.inr (some 22))]) rfl ?_
      obtain ⟨hin, hw⟩ := hw
      refine X_aI rfl rfl hin ?_
      show X _ _ 28 [some (.inr (.inr (some 21))), some (.inl v1), some (.inl v2)] [.inl (sA s 22 (Int32.toNatClampNeg v1))] (hp s) _
      refine X_run 3 (i1 := 31) (L1 := [some (.inr (.inr (some 21))), some (.inl v1), some (.inl v2)]) (st1 := [.inr (.inr (some 21)), .inl ((sA s 22 (Int32.toNatClampNeg v1)) - (11 : Int32))]) rfl ?_
      refine X_gF (v := .inr (.inr (some 25))) rfl rfl rfl rfl ?_
      refine X_run 1 (i1 := 33) (L1 := [some (.inr (.inr (some 21))), some (.inl v1), some (.inl v2)]) (st1 := [.inl v2, .inr (.inr (some 25)), .inl ((sA s 22 (Int32.toNatClampNeg v1)) - (11 : Int32))]) rfl ?_
      obtain ⟨hin, hw⟩ := hw
      refine X_aI rfl rfl hin ?_
      show X _ _ 34 [some (.inr (.inr (some 21))), some (.inl v1), some (.inl v2)] [.inl (sA s 25 (Int32.toNatClampNeg v2)), .inl ((sA s 22 (Int32.toNatClampNeg v1)) - (11 : Int32))] (hp s) _
      refine X_calls m_M_isBelow (As := [.inl ((sA s 22 (Int32.toNatClampNeg v1)) - (11 : Int32)), .inl (sA s 25 (Int32.toNatClampNeg v2))]) (st := []) ok_M_isBelow rfl rfl rfl (Nat.le_of_ble_eq_true rfl) (Nat.le_of_ble_eq_true rfl) (c_M_isBelow (d := d) ((sA s 22 (Int32.toNatClampNeg v1)) - (11 : Int32)) (sA s 25 (Int32.toNatClampNeg v2))) ?_
      rintro _ _ ⟨rfl, rfl⟩
      show X _ _ 35 [some (.inr (.inr (some 21))), some (.inl v1), some (.inl v2)] [.inl (b2i (f_M_isBelow ((sA s 22 (Int32.toNatClampNeg v1)) - (11 : Int32)) (sA s 25 (Int32.toNatClampNeg v2))))] (hp s) _
      refine X_run 1 (i1 := cond (cn1 .eq (b2i (f_M_isBelow ((sA s 22 (Int32.toNatClampNeg v1)) - (11 : Int32)) (sA s 25 (Int32.toNatClampNeg v2))))) 38 36) (L1 := [some (.inr (.inr (some 21))), some (.inl v1), some (.inl v2)]) (st1 := []) rfl ?_
      refine X_brq (fun hb => ?_) (fun hb => ?_)
      · skip
        refine X_run 1 (i1 := 39) (L1 := [some (.inr (.inr (some 21))), some (.inl v1), some (.inl v2)]) (st1 := [.inl (0 : Int32)]) rfl ?_
        exact X_zret rfl rfl (b2i_01 false) qB_i
      · skip
        refine X_run 2 (i1 := 39) (L1 := [some (.inr (.inr (some 21))), some (.inl v1), some (.inl v2)]) (st1 := [.inl (1 : Int32)]) rfl ?_
        exact X_zret rfl rfl (b2i_01 true) qB_i
def f_M_goes (s : St) (a0 : Int32) (a1 : Int32) : Bool := (cond (cn1 .eq a0) true (cond (cn2 .ne (sA s 22 (Int32.toNatClampNeg a1)) (9 : Int32)) (t_M_goes_14 s a0 a1) (cond (cn2 .eq (sA s 22 (Int32.toNatClampNeg a0)) (4 : Int32)) true (t_M_goes_14 s a0 a1))))
def w_M_goes (s : St) (a0 : Int32) (a1 : Int32) : Prop := ((cn1 .eq a0) = true → True) ∧ ((cn1 .eq a0) = false → (vp_in a1 40001 ∧ ((cn2 .ne (sA s 22 (Int32.toNatClampNeg a1)) (9 : Int32)) = true → (w_M_goes_14 s a0 a1)) ∧ ((cn2 .ne (sA s 22 (Int32.toNatClampNeg a1)) (9 : Int32)) = false → (vp_in a0 40001 ∧ ((cn2 .eq (sA s 22 (Int32.toNatClampNeg a0)) (4 : Int32)) = true → True) ∧ ((cn2 .eq (sA s 22 (Int32.toNatClampNeg a0)) (4 : Int32)) = false → (w_M_goes_14 s a0 a1))))))
theorem c_M_goes {d : Nat} (s : St) (a0 : Int32) (a1 : Int32) (hw : w_M_goes s a0 a1) : X m_M_goes (d + 1) 0 (entL 3 [.inr (.inr (some 21)), .inl a0, .inl a1]) [] (hp s) (qB (hp s) (f_M_goes s a0 a1)) := by
  unfold f_M_goes
  unfold w_M_goes at hw
  refine X_run 2 (i1 := cond (cn1 .eq a0) 36 2) (L1 := [some (.inr (.inr (some 21))), some (.inl a0), some (.inl a1)]) (st1 := []) rfl ?_
  refine X_brq (fun hb => ?_) (fun hb => ?_)
  · skip
    refine X_run 2 (i1 := 39) (L1 := [some (.inr (.inr (some 21))), some (.inl a0), some (.inl a1)]) (st1 := [.inl (1 : Int32)]) rfl ?_
    exact X_zret rfl rfl (b2i_01 true) qB_i
  · have hw := hw.2 hb
    refine X_run 1 (i1 := 3) (L1 := [some (.inr (.inr (some 21))), some (.inl a0), some (.inl a1)]) (st1 := [.inr (.inr (some 21))]) rfl ?_
    refine X_gF (v := .inr (.inr (some 22))) rfl rfl rfl rfl ?_
    refine X_run 1 (i1 := 5) (L1 := [some (.inr (.inr (some 21))), some (.inl a0), some (.inl a1)]) (st1 := [.inl a1, .inr (.inr (some 22))]) rfl ?_
    obtain ⟨hin, hw⟩ := hw
    refine X_aI rfl rfl hin ?_
    show X _ _ 6 [some (.inr (.inr (some 21))), some (.inl a0), some (.inl a1)] [.inl (sA s 22 (Int32.toNatClampNeg a1))] (hp s) _
    refine X_run 2 (i1 := cond (cn2 .ne (sA s 22 (Int32.toNatClampNeg a1)) (9 : Int32)) 14 8) (L1 := [some (.inr (.inr (some 21))), some (.inl a0), some (.inl a1)]) (st1 := []) rfl ?_
    refine X_brq (fun hb => ?_) (fun hb => ?_)
    · have hw := hw.1 hb
      exact ct_M_goes_14 s a0 a1 hw
    · have hw := hw.2 hb
      refine X_run 1 (i1 := 9) (L1 := [some (.inr (.inr (some 21))), some (.inl a0), some (.inl a1)]) (st1 := [.inr (.inr (some 21))]) rfl ?_
      refine X_gF (v := .inr (.inr (some 22))) rfl rfl rfl rfl ?_
      refine X_run 1 (i1 := 11) (L1 := [some (.inr (.inr (some 21))), some (.inl a0), some (.inl a1)]) (st1 := [.inl a0, .inr (.inr (some 22))]) rfl ?_
      obtain ⟨hin, hw⟩ := hw
      refine X_aI rfl rfl hin ?_
      show X _ _ 12 [some (.inr (.inr (some 21))), some (.inl a0), some (.inl a1)] [.inl (sA s 22 (Int32.toNatClampNeg a0))] (hp s) _
      refine X_run 2 (i1 := cond (cn2 .eq (sA s 22 (Int32.toNatClampNeg a0)) (4 : Int32)) 36 14) (L1 := [some (.inr (.inr (some 21))), some (.inl a0), some (.inl a1)]) (st1 := []) rfl ?_
      refine X_brq (fun hb => ?_) (fun hb => ?_)
      · skip
        refine X_run 2 (i1 := 39) (L1 := [some (.inr (.inr (some 21))), some (.inl a0), some (.inl a1)]) (st1 := [.inl (1 : Int32)]) rfl ?_
        exact X_zret rfl rfl (b2i_01 true) qB_i
      · have hw := hw.2 hb
        exact ct_M_goes_14 s a0 a1 hw
abbrev LT_M_copies_100 : Type := (St → Int32 → Int32 → Int32 → Int32 → Int32 → Int32 → Int32 → Int32 × St) × (St → Int32 → Int32 → Int32 → Int32 → Int32 → Int32 → Int32 → Int32 → Int32 × St) × (St → Int32 → Int32 → Int32 → Int32 → Int32 → Int32 → Int32 → Int32 → Int32 × St)
abbrev LW_M_copies_100 : Type := (St → Int32 → Int32 → Int32 → Int32 → Int32 → Int32 → Int32 → Prop) × (St → Int32 → Int32 → Int32 → Int32 → Int32 → Int32 → Int32 → Int32 → Prop) × (St → Int32 → Int32 → Int32 → Int32 → Int32 → Int32 → Int32 → Int32 → Prop)
def hl_M_copies_100 (d : Nat) (lp : LT_M_copies_100) (wlp : LW_M_copies_100) : Prop := (∀ (s : St) (v1 : Int32) (v3 : Int32) (v5 : Int32) (v6 : Int32) (v7 : Int32) (v8 : Int32) (v9 : Int32), wlp.1 s v1 v3 v5 v6 v7 v8 v9 → X m_M_copies d 100 [some (.inr (.inr (some 21))), some (.inl v1), none, some (.inl v3), none, some (.inl v5), some (.inl v6), some (.inl v7), some (.inl v8), some (.inl v9), none] [] (hp s) (qIs (lp.1 s v1 v3 v5 v6 v7 v8 v9))) ∧ (∀ (s : St) (v1 : Int32) (v3 : Int32) (v5 : Int32) (v6 : Int32) (v7 : Int32) (v8 : Int32) (v9 : Int32) (w0 : Int32), wlp.2.1 s v1 v3 v5 v6 v7 v8 v9 w0 → X m_M_copies d 112 [some (.inr (.inr (some 21))), some (.inl v1), none, some (.inl v3), none, some (.inl v5), some (.inl v6), some (.inl v7), some (.inl v8), some (.inl v9), none] [.inl w0] (hp s) (qIs (lp.2.1 s v1 v3 v5 v6 v7 v8 v9 w0))) ∧ (∀ (s : St) (v1 : Int32) (v3 : Int32) (v5 : Int32) (v6 : Int32) (v7 : Int32) (v8 : Int32) (v9 : Int32) (v10 : Int32), wlp.2.2 s v1 v3 v5 v6 v7 v8 v9 v10 → X m_M_copies d 132 [some (.inr (.inr (some 21))), some (.inl v1), none, some (.inl v3), none, some (.inl v5), some (.inl v6), some (.inl v7), some (.inl v8), some (.inl v9), some (.inl v10)] [] (hp s) (qIs (lp.2.2 s v1 v3 v5 v6 v7 v8 v9 v10)))
def b_M_copies_100 (fu : Nat) (lp : LT_M_copies_100) (s : St) (v1 : Int32) (v3 : Int32) (v5 : Int32) (v6 : Int32) (v7 : Int32) (v8 : Int32) (v9 : Int32) : Int32 × St := (cond (cn2 .ge v9 v5) (f_M_takesFor s (Int32.toInt64 v5)) (cond (cn1 .eq v8) (lp.2.1 s v1 v3 v5 v6 v7 v8 v9 v9) (lp.2.1 s v1 v3 v5 v6 v7 v8 v9 ((v5 - (1 : Int32)) - v9))))
def v_M_copies_100 (fu : Nat) (lp : LT_M_copies_100) (wlp : LW_M_copies_100) (s : St) (v1 : Int32) (v3 : Int32) (v5 : Int32) (v6 : Int32) (v7 : Int32) (v8 : Int32) (v9 : Int32) : Prop := ((cn2 .ge v9 v5) = true → (w_M_takesFor s (Int32.toInt64 v5) ∧ True)) ∧ ((cn2 .ge v9 v5) = false → ((cn1 .eq v8) = true → (wlp.2.1 s v1 v3 v5 v6 v7 v8 v9 v9)) ∧ ((cn1 .eq v8) = false → (wlp.2.1 s v1 v3 v5 v6 v7 v8 v9 ((v5 - (1 : Int32)) - v9))))
theorem cb_M_copies_100 {d : Nat} (fu : Nat) {lp : LT_M_copies_100} {wlp : LW_M_copies_100} (hlp : hl_M_copies_100 (d + 3) lp wlp) (s : St) (v1 : Int32) (v3 : Int32) (v5 : Int32) (v6 : Int32) (v7 : Int32) (v8 : Int32) (v9 : Int32) (hw : v_M_copies_100 fu lp wlp s v1 v3 v5 v6 v7 v8 v9) : X m_M_copies (d + 3) 100 [some (.inr (.inr (some 21))), some (.inl v1), none, some (.inl v3), none, some (.inl v5), some (.inl v6), some (.inl v7), some (.inl v8), some (.inl v9), none] [] (hp s) (qIs (b_M_copies_100 fu lp s v1 v3 v5 v6 v7 v8 v9)) := by
  unfold b_M_copies_100
  unfold v_M_copies_100 at hw
  refine X_run 3 (i1 := cond (cn2 .ge v9 v5) 146 103) (L1 := [some (.inr (.inr (some 21))), some (.inl v1), none, some (.inl v3), none, some (.inl v5), some (.inl v6), some (.inl v7), some (.inl v8), some (.inl v9), none]) (st1 := []) rfl ?_
  refine X_brq (fun hb => ?_) (fun hb => ?_)
  · have hw := hw.1 hb
    refine X_run 3 (i1 := 149) (L1 := [some (.inr (.inr (some 21))), some (.inl v1), none, some (.inl v3), none, some (.inl v5), some (.inl v6), some (.inl v7), some (.inl v8), some (.inl v9), none]) (st1 := [.inr (.inl (Int32.toInt64 v5)), .inr (.inr (some 21))]) rfl ?_
    obtain ⟨hc, hw⟩ := hw
    refine X_callv m_M_takesFor (As := [.inr (.inl (Int32.toInt64 v5))]) (st := []) ok_M_takesFor rfl rfl rfl (hp_obj rfl) rfl (Nat.le_of_ble_eq_true rfl) (Nat.le_of_ble_eq_true rfl) (c_M_takesFor (d := d + 1) s (Int32.toInt64 v5) hc) ?_
    rintro _ _ ⟨rfl, rfl⟩
    show X _ _ 150 [some (.inr (.inr (some 21))), some (.inl v1), none, some (.inl v3), none, some (.inl v5), some (.inl v6), some (.inl v7), some (.inl v8), some (.inl v9), none] [.inl ((f_M_takesFor s (Int32.toInt64 v5)).1)] (hp ((f_M_takesFor s (Int32.toInt64 v5)).2)) _
    exact X_iret rfl rfl qIs_p
  · have hw := hw.2 hb
    refine X_run 2 (i1 := cond (cn1 .eq v8) 111 105) (L1 := [some (.inr (.inr (some 21))), some (.inl v1), none, some (.inl v3), none, some (.inl v5), some (.inl v6), some (.inl v7), some (.inl v8), some (.inl v9), none]) (st1 := []) rfl ?_
    refine X_brq (fun hb => ?_) (fun hb => ?_)
    · have hw := hw.1 hb
      refine X_run 1 (i1 := 112) (L1 := [some (.inr (.inr (some 21))), some (.inl v1), none, some (.inl v3), none, some (.inl v5), some (.inl v6), some (.inl v7), some (.inl v8), some (.inl v9), none]) (st1 := [.inl v9]) rfl ?_
      exact hlp.2.1 s v1 v3 v5 v6 v7 v8 v9 v9 hw
    · have hw := hw.2 hb
      refine X_run 6 (i1 := 112) (L1 := [some (.inr (.inr (some 21))), some (.inl v1), none, some (.inl v3), none, some (.inl v5), some (.inl v6), some (.inl v7), some (.inl v8), some (.inl v9), none]) (st1 := [.inl ((v5 - (1 : Int32)) - v9)]) rfl ?_
      exact hlp.2.1 s v1 v3 v5 v6 v7 v8 v9 ((v5 - (1 : Int32)) - v9) hw
def b_M_copies_112 (fu : Nat) (lp : LT_M_copies_100) (s : St) (v1 : Int32) (v3 : Int32) (v5 : Int32) (v6 : Int32) (v7 : Int32) (v8 : Int32) (v9 : Int32) (w0 : Int32) : Int32 × St := (cond (cn1 .ne (b2i (f_M_isRow s v1))) (lp.2.2 s v1 v3 v5 v6 v7 v8 v9 w0) (cond (cn1 .ne (b2i (f_M_goes s (Int64.toInt32 (sB s 26 (Int32.toNatClampNeg (v6 + w0)))) v3))) (lp.2.2 s v1 v3 v5 v6 v7 v8 v9 w0) (f_M_fails s (5 : Int32))))
def v_M_copies_112 (fu : Nat) (lp : LT_M_copies_100) (wlp : LW_M_copies_100) (s : St) (v1 : Int32) (v3 : Int32) (v5 : Int32) (v6 : Int32) (v7 : Int32) (v8 : Int32) (v9 : Int32) (w0 : Int32) : Prop := (w_M_isRow s v1 ∧ ((cn1 .ne (b2i (f_M_isRow s v1))) = true → (wlp.2.2 s v1 v3 v5 v6 v7 v8 v9 w0)) ∧ ((cn1 .ne (b2i (f_M_isRow s v1))) = false → (vp_in (v6 + w0) 40001 ∧ (w_M_goes s (Int64.toInt32 (sB s 26 (Int32.toNatClampNeg (v6 + w0)))) v3 ∧ ((cn1 .ne (b2i (f_M_goes s (Int64.toInt32 (sB s 26 (Int32.toNatClampNeg (v6 + w0)))) v3))) = true → (wlp.2.2 s v1 v3 v5 v6 v7 v8 v9 w0)) ∧ ((cn1 .ne (b2i (f_M_goes s (Int64.toInt32 (sB s 26 (Int32.toNatClampNeg (v6 + w0)))) v3))) = false → (w_M_fails s (5 : Int32) ∧ True))))))
theorem cb_M_copies_112 {d : Nat} (fu : Nat) {lp : LT_M_copies_100} {wlp : LW_M_copies_100} (hlp : hl_M_copies_100 (d + 3) lp wlp) (s : St) (v1 : Int32) (v3 : Int32) (v5 : Int32) (v6 : Int32) (v7 : Int32) (v8 : Int32) (v9 : Int32) (w0 : Int32) (hw : v_M_copies_112 fu lp wlp s v1 v3 v5 v6 v7 v8 v9 w0) : X m_M_copies (d + 3) 112 [some (.inr (.inr (some 21))), some (.inl v1), none, some (.inl v3), none, some (.inl v5), some (.inl v6), some (.inl v7), some (.inl v8), some (.inl v9), none] [.inl w0] (hp s) (qIs (b_M_copies_112 fu lp s v1 v3 v5 v6 v7 v8 v9 w0)) := by
  unfold b_M_copies_112
  unfold v_M_copies_112 at hw
  refine X_run 3 (i1 := 115) (L1 := [some (.inr (.inr (some 21))), some (.inl v1), none, some (.inl v3), none, some (.inl v5), some (.inl v6), some (.inl v7), some (.inl v8), some (.inl v9), some (.inl w0)]) (st1 := [.inl v1, .inr (.inr (some 21))]) rfl ?_
  obtain ⟨hc, hw⟩ := hw
  refine X_callv m_M_isRow (As := [.inl v1]) (st := []) ok_M_isRow rfl rfl rfl (hp_obj rfl) rfl (Nat.le_of_ble_eq_true rfl) (Nat.le_of_ble_eq_true rfl) (c_M_isRow (d := d + 2) s v1 hc) ?_
  rintro _ _ ⟨rfl, rfl⟩
  show X _ _ 116 [some (.inr (.inr (some 21))), some (.inl v1), none, some (.inl v3), none, some (.inl v5), some (.inl v6), some (.inl v7), some (.inl v8), some (.inl v9), some (.inl w0)] [.inl (b2i (f_M_isRow s v1))] (hp s) _
  refine X_run 1 (i1 := cond (cn1 .ne (b2i (f_M_isRow s v1))) 132 117) (L1 := [some (.inr (.inr (some 21))), some (.inl v1), none, some (.inl v3), none, some (.inl v5), some (.inl v6), some (.inl v7), some (.inl v8), some (.inl v9), some (.inl w0)]) (st1 := []) rfl ?_
  refine X_brq (fun hb => ?_) (fun hb => ?_)
  · have hw := hw.1 hb
    exact hlp.2.2 s v1 v3 v5 v6 v7 v8 v9 w0 hw
  · have hw := hw.2 hb
    refine X_run 2 (i1 := 119) (L1 := [some (.inr (.inr (some 21))), some (.inl v1), none, some (.inl v3), none, some (.inl v5), some (.inl v6), some (.inl v7), some (.inl v8), some (.inl v9), some (.inl w0)]) (st1 := [.inr (.inr (some 21)), .inr (.inr (some 21))]) rfl ?_
    refine X_gF (v := .inr (.inr (some 26))) rfl rfl rfl rfl ?_
    refine X_run 3 (i1 := 123) (L1 := [some (.inr (.inr (some 21))), some (.inl v1), none, some (.inl v3), none, some (.inl v5), some (.inl v6), some (.inl v7), some (.inl v8), some (.inl v9), some (.inl w0)]) (st1 := [.inl (v6 + w0), .inr (.inr (some 26)), .inr (.inr (some 21))]) rfl ?_
    obtain ⟨hin, hw⟩ := hw
    refine X_aL rfl rfl hin ?_
    show X _ _ 124 [some (.inr (.inr (some 21))), some (.inl v1), none, some (.inl v3), none, some (.inl v5), some (.inl v6), some (.inl v7), some (.inl v8), some (.inl v9), some (.inl w0)] [.inr (.inl (sB s 26 (Int32.toNatClampNeg (v6 + w0)))), .inr (.inr (some 21))] (hp s) _
    refine X_run 2 (i1 := 126) (L1 := [some (.inr (.inr (some 21))), some (.inl v1), none, some (.inl v3), none, some (.inl v5), some (.inl v6), some (.inl v7), some (.inl v8), some (.inl v9), some (.inl w0)]) (st1 := [.inl v3, .inl (Int64.toInt32 (sB s 26 (Int32.toNatClampNeg (v6 + w0)))), .inr (.inr (some 21))]) rfl ?_
    obtain ⟨hc, hw⟩ := hw
    refine X_callv m_M_goes (As := [.inl (Int64.toInt32 (sB s 26 (Int32.toNatClampNeg (v6 + w0)))), .inl v3]) (st := []) ok_M_goes rfl rfl rfl (hp_obj rfl) rfl (Nat.le_of_ble_eq_true rfl) (Nat.le_of_ble_eq_true rfl) (c_M_goes (d := d + 1) s (Int64.toInt32 (sB s 26 (Int32.toNatClampNeg (v6 + w0)))) v3 hc) ?_
    rintro _ _ ⟨rfl, rfl⟩
    show X _ _ 127 [some (.inr (.inr (some 21))), some (.inl v1), none, some (.inl v3), none, some (.inl v5), some (.inl v6), some (.inl v7), some (.inl v8), some (.inl v9), some (.inl w0)] [.inl (b2i (f_M_goes s (Int64.toInt32 (sB s 26 (Int32.toNatClampNeg (v6 + w0)))) v3))] (hp s) _
    refine X_run 1 (i1 := cond (cn1 .ne (b2i (f_M_goes s (Int64.toInt32 (sB s 26 (Int32.toNatClampNeg (v6 + w0)))) v3))) 132 128) (L1 := [some (.inr (.inr (some 21))), some (.inl v1), none, some (.inl v3), none, some (.inl v5), some (.inl v6), some (.inl v7), some (.inl v8), some (.inl v9), some (.inl w0)]) (st1 := []) rfl ?_
    refine X_brq (fun hb => ?_) (fun hb => ?_)
    · have hw := hw.1 hb
      exact hlp.2.2 s v1 v3 v5 v6 v7 v8 v9 w0 hw
    · have hw := hw.2 hb
      refine X_run 2 (i1 := 130) (L1 := [some (.inr (.inr (some 21))), some (.inl v1), none, some (.inl v3), none, some (.inl v5), some (.inl v6), some (.inl v7), some (.inl v8), some (.inl v9), some (.inl w0)]) (st1 := [.inl (5 : Int32), .inr (.inr (some 21))]) rfl ?_
      obtain ⟨hc, hw⟩ := hw
      refine X_callv m_M_fails (As := [.inl (5 : Int32)]) (st := []) ok_M_fails rfl rfl rfl (hp_obj rfl) rfl (Nat.le_of_ble_eq_true rfl) (Nat.le_of_ble_eq_true rfl) (c_M_fails (d := d) s (5 : Int32) hc) ?_
      rintro _ _ ⟨rfl, rfl⟩
      show X _ _ 131 [some (.inr (.inr (some 21))), some (.inl v1), none, some (.inl v3), none, some (.inl v5), some (.inl v6), some (.inl v7), some (.inl v8), some (.inl v9), some (.inl w0)] [.inl ((f_M_fails s (5 : Int32)).1)] (hp ((f_M_fails s (5 : Int32)).2)) _
      exact X_iret rfl rfl qIs_p
def b_M_copies_132 (fu : Nat) (lp : LT_M_copies_100) (s : St) (v1 : Int32) (v3 : Int32) (v5 : Int32) (v6 : Int32) (v7 : Int32) (v8 : Int32) (v9 : Int32) (v10 : Int32) : Int32 × St := (lp.1 (pB s 26 (vp_updL (sB s 26) (Int32.toNatClampNeg (v7 + v10)) (sB s 26 (Int32.toNatClampNeg (v6 + v10))))) v1 v3 v5 v6 v7 v8 (v9 + Int32.ofInt (1)))
def v_M_copies_132 (fu : Nat) (lp : LT_M_copies_100) (wlp : LW_M_copies_100) (s : St) (v1 : Int32) (v3 : Int32) (v5 : Int32) (v6 : Int32) (v7 : Int32) (v8 : Int32) (v9 : Int32) (v10 : Int32) : Prop := (vp_in (v6 + v10) 40001 ∧ (vp_in (v7 + v10) 40001 ∧ (wlp.1 (pB s 26 (vp_updL (sB s 26) (Int32.toNatClampNeg (v7 + v10)) (sB s 26 (Int32.toNatClampNeg (v6 + v10))))) v1 v3 v5 v6 v7 v8 (v9 + Int32.ofInt (1)))))
theorem cb_M_copies_132 {d : Nat} (fu : Nat) {lp : LT_M_copies_100} {wlp : LW_M_copies_100} (hlp : hl_M_copies_100 (d + 3) lp wlp) (s : St) (v1 : Int32) (v3 : Int32) (v5 : Int32) (v6 : Int32) (v7 : Int32) (v8 : Int32) (v9 : Int32) (v10 : Int32) (hw : v_M_copies_132 fu lp wlp s v1 v3 v5 v6 v7 v8 v9 v10) : X m_M_copies (d + 3) 132 [some (.inr (.inr (some 21))), some (.inl v1), none, some (.inl v3), none, some (.inl v5), some (.inl v6), some (.inl v7), some (.inl v8), some (.inl v9), some (.inl v10)] [] (hp s) (qIs (b_M_copies_132 fu lp s v1 v3 v5 v6 v7 v8 v9 v10)) := by
  unfold b_M_copies_132
  unfold v_M_copies_132 at hw
  refine X_run 1 (i1 := 133) (L1 := [some (.inr (.inr (some 21))), some (.inl v1), none, some (.inl v3), none, some (.inl v5), some (.inl v6), some (.inl v7), some (.inl v8), some (.inl v9), some (.inl v10)]) (st1 := [.inr (.inr (some 21))]) rfl ?_
  refine X_gF (v := .inr (.inr (some 26))) rfl rfl rfl rfl ?_
  refine X_run 4 (i1 := 138) (L1 := [some (.inr (.inr (some 21))), some (.inl v1), none, some (.inl v3), none, some (.inl v5), some (.inl v6), some (.inl v7), some (.inl v8), some (.inl v9), some (.inl v10)]) (st1 := [.inr (.inr (some 21)), .inl (v7 + v10), .inr (.inr (some 26))]) rfl ?_
  refine X_gF (v := .inr (.inr (some 26))) rfl rfl rfl rfl ?_
  refine X_run 3 (i1 := 142) (L1 := [some (.inr (.inr (some 21))), some (.inl v1), none, some (.inl v3), none, some (.inl v5), some (.inl v6), some (.inl v7), some (.inl v8), some (.inl v9), some (.inl v10)]) (st1 := [.inl (v6 + v10), .inr (.inr (some 26)), .inl (v7 + v10), .inr (.inr (some 26))]) rfl ?_
  obtain ⟨hin, hw⟩ := hw
  refine X_aL rfl rfl hin ?_
  show X _ _ 143 [some (.inr (.inr (some 21))), some (.inl v1), none, some (.inl v3), none, some (.inl v5), some (.inl v6), some (.inl v7), some (.inl v8), some (.inl v9), some (.inl v10)] [.inr (.inl (sB s 26 (Int32.toNatClampNeg (v6 + v10)))), .inl (v7 + v10), .inr (.inr (some 26))] (hp s) _
  obtain ⟨hin, hw⟩ := hw
  refine X_sL rfl rfl hin ?_
  show X _ _ 144 [some (.inr (.inr (some 21))), some (.inl v1), none, some (.inl v3), none, some (.inl v5), some (.inl v6), some (.inl v7), some (.inl v8), some (.inl v9), some (.inl v10)] [] (hp (pB s 26 (vp_updL (sB s 26) (Int32.toNatClampNeg (v7 + v10)) (sB s 26 (Int32.toNatClampNeg (v6 + v10)))))) _
  refine X_run 2 (i1 := 100) (L1 := [some (.inr (.inr (some 21))), some (.inl v1), none, some (.inl v3), none, some (.inl v5), some (.inl v6), some (.inl v7), some (.inl v8), some (.inl (v9 + Int32.ofInt (1))), some (.inl v10)]) (st1 := []) rfl ?_
  refine X_mask [true, true, true, true, true, true, true, true, true, true, false] ?_
  exact hlp.1 (pB s 26 (vp_updL (sB s 26) (Int32.toNatClampNeg (v7 + v10)) (sB s 26 (Int32.toNatClampNeg (v6 + v10))))) v1 v3 v5 v6 v7 v8 (v9 + Int32.ofInt (1)) hw
def T_M_copies_100 (fu : Nat) : Nat → LT_M_copies_100
  | 0 => (fun s _ _ _ _ _ _ _ => (0, s), fun s _ _ _ _ _ _ _ _ => (0, s), fun s _ _ _ _ _ _ _ _ => (0, s))
  | n + 1 => (fun s v1 v3 v5 v6 v7 v8 v9 => b_M_copies_100 fu (T_M_copies_100 fu n) s v1 v3 v5 v6 v7 v8 v9, fun s v1 v3 v5 v6 v7 v8 v9 w0 => b_M_copies_112 fu (T_M_copies_100 fu n) s v1 v3 v5 v6 v7 v8 v9 w0, fun s v1 v3 v5 v6 v7 v8 v9 v10 => b_M_copies_132 fu (T_M_copies_100 fu n) s v1 v3 v5 v6 v7 v8 v9 v10)
def WT_M_copies_100 (fu : Nat) : Nat → LW_M_copies_100
  | 0 => (fun _ _ _ _ _ _ _ _ => False, fun _ _ _ _ _ _ _ _ _ => False, fun _ _ _ _ _ _ _ _ _ => False)
  | n + 1 => (fun s v1 v3 v5 v6 v7 v8 v9 => v_M_copies_100 fu (T_M_copies_100 fu n) (WT_M_copies_100 fu n) s v1 v3 v5 v6 v7 v8 v9, fun s v1 v3 v5 v6 v7 v8 v9 w0 => v_M_copies_112 fu (T_M_copies_100 fu n) (WT_M_copies_100 fu n) s v1 v3 v5 v6 v7 v8 v9 w0, fun s v1 v3 v5 v6 v7 v8 v9 v10 => v_M_copies_132 fu (T_M_copies_100 fu n) (WT_M_copies_100 fu n) s v1 v3 v5 v6 v7 v8 v9 v10)
theorem cT_M_copies_100 {d : Nat} (fu : Nat) : ∀ n : Nat, hl_M_copies_100 (d + 3) (T_M_copies_100 fu n) (WT_M_copies_100 fu n)
  | 0 => ⟨fun _ _ _ _ _ _ _ _ hw => hw.elim, fun _ _ _ _ _ _ _ _ _ hw => hw.elim, fun _ _ _ _ _ _ _ _ _ hw => hw.elim⟩
  | n + 1 => ⟨fun s v1 v3 v5 v6 v7 v8 v9 hw => cb_M_copies_100 fu (cT_M_copies_100 fu n) s v1 v3 v5 v6 v7 v8 v9 hw, fun s v1 v3 v5 v6 v7 v8 v9 w0 hw => cb_M_copies_112 fu (cT_M_copies_100 fu n) s v1 v3 v5 v6 v7 v8 v9 w0 hw, fun s v1 v3 v5 v6 v7 v8 v9 v10 hw => cb_M_copies_132 fu (cT_M_copies_100 fu n) s v1 v3 v5 v6 v7 v8 v9 v10 hw⟩
def t_M_copies_97 (fu : Nat) (s : St) (v1 : Int32) (v3 : Int32) (v5 : Int32) (v6 : Int32) (v7 : Int32) (w0 : Int32) : Int32 × St := ((T_M_copies_100 fu fu).1 s v1 v3 v5 v6 v7 w0 (0 : Int32))
def w_M_copies_97 (fu : Nat) (s : St) (v1 : Int32) (v3 : Int32) (v5 : Int32) (v6 : Int32) (v7 : Int32) (w0 : Int32) : Prop := ((WT_M_copies_100 fu fu).1 s v1 v3 v5 v6 v7 w0 (0 : Int32))
theorem ct_M_copies_97 {d : Nat} (fu : Nat) (s : St) (v1 : Int32) (v3 : Int32) (v5 : Int32) (v6 : Int32) (v7 : Int32) (w0 : Int32) (hw : w_M_copies_97 fu s v1 v3 v5 v6 v7 w0) : X m_M_copies (d + 3) 97 [some (.inr (.inr (some 21))), some (.inl v1), none, some (.inl v3), none, some (.inl v5), some (.inl v6), some (.inl v7), none, none, none] [.inl w0] (hp s) (qIs (t_M_copies_97 fu s v1 v3 v5 v6 v7 w0)) := by
  unfold t_M_copies_97
  unfold w_M_copies_97 at hw
  refine X_run 3 (i1 := 100) (L1 := [some (.inr (.inr (some 21))), some (.inl v1), none, some (.inl v3), none, some (.inl v5), some (.inl v6), some (.inl v7), some (.inl w0), some (.inl (0 : Int32)), none]) (st1 := []) rfl ?_
  exact (cT_M_copies_100 fu fu).1 s v1 v3 v5 v6 v7 w0 (0 : Int32) hw
def t_M_copies_96 (fu : Nat) (s : St) (v1 : Int32) (v3 : Int32) (v5 : Int32) (v6 : Int32) (v7 : Int32) : Int32 × St := (t_M_copies_97 fu s v1 v3 v5 v6 v7 (0 : Int32))
def w_M_copies_96 (fu : Nat) (s : St) (v1 : Int32) (v3 : Int32) (v5 : Int32) (v6 : Int32) (v7 : Int32) : Prop := (w_M_copies_97 fu s v1 v3 v5 v6 v7 (0 : Int32))
theorem ct_M_copies_96 {d : Nat} (fu : Nat) (s : St) (v1 : Int32) (v3 : Int32) (v5 : Int32) (v6 : Int32) (v7 : Int32) (hw : w_M_copies_96 fu s v1 v3 v5 v6 v7) : X m_M_copies (d + 3) 96 [some (.inr (.inr (some 21))), some (.inl v1), none, some (.inl v3), none, some (.inl v5), some (.inl v6), some (.inl v7), none, none, none] [] (hp s) (qIs (t_M_copies_96 fu s v1 v3 v5 v6 v7)) := by
  unfold t_M_copies_96
  unfold w_M_copies_96 at hw
  refine X_run 1 (i1 := 97) (L1 := [some (.inr (.inr (some 21))), some (.inl v1), none, some (.inl v3), none, some (.inl v5), some (.inl v6), some (.inl v7), none, none, none]) (st1 := [.inl (0 : Int32)]) rfl ?_
  exact ct_M_copies_97 fu s v1 v3 v5 v6 v7 (0 : Int32) hw
def t_M_copies_70 (fu : Nat) (s : St) : Int32 × St := (f_M_fails s (2 : Int32))
def w_M_copies_70 (fu : Nat) (s : St) : Prop := (w_M_fails s (2 : Int32) ∧ True)
theorem ct_M_copies_70 {d : Nat} (fu : Nat) (s : St) (hw : w_M_copies_70 fu s) : X m_M_copies (d + 3) 70 [some (.inr (.inr (some 21))), none, none, none, none, none, none, none, none, none, none] [] (hp s) (qIs (t_M_copies_70 fu s)) := by
  unfold t_M_copies_70
  unfold w_M_copies_70 at hw
  refine X_run 2 (i1 := 72) (L1 := [some (.inr (.inr (some 21))), none, none, none, none, none, none, none, none, none, none]) (st1 := [.inl (2 : Int32), .inr (.inr (some 21))]) rfl ?_
  obtain ⟨hc, hw⟩ := hw
  refine X_callv m_M_fails (As := [.inl (2 : Int32)]) (st := []) ok_M_fails rfl rfl rfl (hp_obj rfl) rfl (Nat.le_of_ble_eq_true rfl) (Nat.le_of_ble_eq_true rfl) (c_M_fails (d := d) s (2 : Int32) hc) ?_
  rintro _ _ ⟨rfl, rfl⟩
  show X _ _ 73 [some (.inr (.inr (some 21))), none, none, none, none, none, none, none, none, none, none] [.inl ((f_M_fails s (2 : Int32)).1)] (hp ((f_M_fails s (2 : Int32)).2)) _
  exact X_iret rfl rfl qIs_p
def t_M_copies_40 (fu : Nat) (s : St) (v1 : Int32) (v2 : Int32) (v3 : Int32) (v4 : Int32) (v5 : Int32) : Int32 × St := (cond (cn1 .lt v2) (t_M_copies_70 fu s) (cond (cn1 .lt v4) (t_M_copies_70 fu s) (cond (cn1 .lt v5) (t_M_copies_70 fu s) (cond (cn1 .gt (lg_cmp ((Int32.toInt64 v2) + (Int32.toInt64 v5)) (Int32.toInt64 (sA s 24 (Int32.toNatClampNeg v1))))) (t_M_copies_70 fu s) (cond (cn1 .le (lg_cmp ((Int32.toInt64 v4) + (Int32.toInt64 v5)) (Int32.toInt64 (sA s 24 (Int32.toNatClampNeg v3))))) (cond (cn2 .ne v1 v3) (t_M_copies_96 fu s v1 v3 v5 ((sA s 23 (Int32.toNatClampNeg v1)) + v2) ((sA s 23 (Int32.toNatClampNeg v3)) + v4)) (cond (cn2 .ge v2 v4) (t_M_copies_96 fu s v1 v3 v5 ((sA s 23 (Int32.toNatClampNeg v1)) + v2) ((sA s 23 (Int32.toNatClampNeg v3)) + v4)) (t_M_copies_97 fu s v1 v3 v5 ((sA s 23 (Int32.toNatClampNeg v1)) + v2) ((sA s 23 (Int32.toNatClampNeg v3)) + v4) (1 : Int32)))) (t_M_copies_70 fu s))))))
def w_M_copies_40 (fu : Nat) (s : St) (v1 : Int32) (v2 : Int32) (v3 : Int32) (v4 : Int32) (v5 : Int32) : Prop := ((cn1 .lt v2) = true → (w_M_copies_70 fu s)) ∧ ((cn1 .lt v2) = false → ((cn1 .lt v4) = true → (w_M_copies_70 fu s)) ∧ ((cn1 .lt v4) = false → ((cn1 .lt v5) = true → (w_M_copies_70 fu s)) ∧ ((cn1 .lt v5) = false → (vp_in v1 40001 ∧ ((cn1 .gt (lg_cmp ((Int32.toInt64 v2) + (Int32.toInt64 v5)) (Int32.toInt64 (sA s 24 (Int32.toNatClampNeg v1))))) = true → (w_M_copies_70 fu s)) ∧ ((cn1 .gt (lg_cmp ((Int32.toInt64 v2) + (Int32.toInt64 v5)) (Int32.toInt64 (sA s 24 (Int32.toNatClampNeg v1))))) = false → (vp_in v3 40001 ∧ ((cn1 .le (lg_cmp ((Int32.toInt64 v4) + (Int32.toInt64 v5)) (Int32.toInt64 (sA s 24 (Int32.toNatClampNeg v3))))) = true → (vp_in v1 40001 ∧ (vp_in v3 40001 ∧ ((cn2 .ne v1 v3) = true → (w_M_copies_96 fu s v1 v3 v5 ((sA s 23 (Int32.toNatClampNeg v1)) + v2) ((sA s 23 (Int32.toNatClampNeg v3)) + v4))) ∧ ((cn2 .ne v1 v3) = false → ((cn2 .ge v2 v4) = true → (w_M_copies_96 fu s v1 v3 v5 ((sA s 23 (Int32.toNatClampNeg v1)) + v2) ((sA s 23 (Int32.toNatClampNeg v3)) + v4))) ∧ ((cn2 .ge v2 v4) = false → (w_M_copies_97 fu s v1 v3 v5 ((sA s 23 (Int32.toNatClampNeg v1)) + v2) ((sA s 23 (Int32.toNatClampNeg v3)) + v4) (1 : Int32))))))) ∧ ((cn1 .le (lg_cmp ((Int32.toInt64 v4) + (Int32.toInt64 v5)) (Int32.toInt64 (sA s 24 (Int32.toNatClampNeg v3))))) = false → (w_M_copies_70 fu s))))))))
theorem ct_M_copies_40 {d : Nat} (fu : Nat) (s : St) (v1 : Int32) (v2 : Int32) (v3 : Int32) (v4 : Int32) (v5 : Int32) (hw : w_M_copies_40 fu s v1 v2 v3 v4 v5) : X m_M_copies (d + 3) 40 [some (.inr (.inr (some 21))), some (.inl v1), some (.inl v2), some (.inl v3), some (.inl v4), some (.inl v5), none, none, none, none, none] [] (hp s) (qIs (t_M_copies_40 fu s v1 v2 v3 v4 v5)) := by
  unfold t_M_copies_40
  unfold w_M_copies_40 at hw
  refine X_run 2 (i1 := cond (cn1 .lt v2) 70 42) (L1 := [some (.inr (.inr (some 21))), some (.inl v1), some (.inl v2), some (.inl v3), some (.inl v4), some (.inl v5), none, none, none, none, none]) (st1 := []) rfl ?_
  refine X_brq (fun hb => ?_) (fun hb => ?_)
  · have hw := hw.1 hb
    refine X_mask [true, false, false, false, false, false, true, true, true, true, true] ?_
    exact ct_M_copies_70 fu s hw
  · have hw := hw.2 hb
    refine X_run 2 (i1 := cond (cn1 .lt v4) 70 44) (L1 := [some (.inr (.inr (some 21))), some (.inl v1), some (.inl v2), some (.inl v3), some (.inl v4), some (.inl v5), none, none, none, none, none]) (st1 := []) rfl ?_
    refine X_brq (fun hb => ?_) (fun hb => ?_)
    · have hw := hw.1 hb
      refine X_mask [true, false, false, false, false, false, true, true, true, true, true] ?_
      exact ct_M_copies_70 fu s hw
    · have hw := hw.2 hb
      refine X_run 2 (i1 := cond (cn1 .lt v5) 70 46) (L1 := [some (.inr (.inr (some 21))), some (.inl v1), some (.inl v2), some (.inl v3), some (.inl v4), some (.inl v5), none, none, none, none, none]) (st1 := []) rfl ?_
      refine X_brq (fun hb => ?_) (fun hb => ?_)
      · have hw := hw.1 hb
        refine X_mask [true, false, false, false, false, false, true, true, true, true, true] ?_
        exact ct_M_copies_70 fu s hw
      · have hw := hw.2 hb
        refine X_run 6 (i1 := 52) (L1 := [some (.inr (.inr (some 21))), some (.inl v1), some (.inl v2), some (.inl v3), some (.inl v4), some (.inl v5), none, none, none, none, none]) (st1 := [.inr (.inr (some 21)), .inr (.inl ((Int32.toInt64 v2) + (Int32.toInt64 v5)))]) rfl ?_
        refine X_gF (v := .inr (.inr (some 24))) rfl rfl rfl rfl ?_
        refine X_run 1 (i1 := 54) (L1 := [some (.inr (.inr (some 21))), some (.inl v1), some (.inl v2), some (.inl v3), some (.inl v4), some (.inl v5), none, none, none, none, none]) (st1 := [.inl v1, .inr (.inr (some 24)), .inr (.inl ((Int32.toInt64 v2) + (Int32.toInt64 v5)))]) rfl ?_
        obtain ⟨hin, hw⟩ := hw
        refine X_aI rfl rfl hin ?_
        show X _ _ 55 [some (.inr (.inr (some 21))), some (.inl v1), some (.inl v2), some (.inl v3), some (.inl v4), some (.inl v5), none, none, none, none, none] [.inl (sA s 24 (Int32.toNatClampNeg v1)), .inr (.inl ((Int32.toInt64 v2) + (Int32.toInt64 v5)))] (hp s) _
        refine X_run 3 (i1 := cond (cn1 .gt (lg_cmp ((Int32.toInt64 v2) + (Int32.toInt64 v5)) (Int32.toInt64 (sA s 24 (Int32.toNatClampNeg v1))))) 70 58) (L1 := [some (.inr (.inr (some 21))), some (.inl v1), some (.inl v2), some (.inl v3), some (.inl v4), some (.inl v5), none, none, none, none, none]) (st1 := []) rfl ?_
        refine X_brq (fun hb => ?_) (fun hb => ?_)
        · have hw := hw.1 hb
          refine X_mask [true, false, false, false, false, false, true, true, true, true, true] ?_
          exact ct_M_copies_70 fu s hw
        · have hw := hw.2 hb
          refine X_run 6 (i1 := 64) (L1 := [some (.inr (.inr (some 21))), some (.inl v1), some (.inl v2), some (.inl v3), some (.inl v4), some (.inl v5), none, none, none, none, none]) (st1 := [.inr (.inr (some 21)), .inr (.inl ((Int32.toInt64 v4) + (Int32.toInt64 v5)))]) rfl ?_
          refine X_gF (v := .inr (.inr (some 24))) rfl rfl rfl rfl ?_
          refine X_run 1 (i1 := 66) (L1 := [some (.inr (.inr (some 21))), some (.inl v1), some (.inl v2), some (.inl v3), some (.inl v4), some (.inl v5), none, none, none, none, none]) (st1 := [.inl v3, .inr (.inr (some 24)), .inr (.inl ((Int32.toInt64 v4) + (Int32.toInt64 v5)))]) rfl ?_
          obtain ⟨hin, hw⟩ := hw
          refine X_aI rfl rfl hin ?_
          show X _ _ 67 [some (.inr (.inr (some 21))), some (.inl v1), some (.inl v2), some (.inl v3), some (.inl v4), some (.inl v5), none, none, none, none, none] [.inl (sA s 24 (Int32.toNatClampNeg v3)), .inr (.inl ((Int32.toInt64 v4) + (Int32.toInt64 v5)))] (hp s) _
          refine X_run 3 (i1 := cond (cn1 .le (lg_cmp ((Int32.toInt64 v4) + (Int32.toInt64 v5)) (Int32.toInt64 (sA s 24 (Int32.toNatClampNeg v3))))) 74 70) (L1 := [some (.inr (.inr (some 21))), some (.inl v1), some (.inl v2), some (.inl v3), some (.inl v4), some (.inl v5), none, none, none, none, none]) (st1 := []) rfl ?_
          refine X_brq (fun hb => ?_) (fun hb => ?_)
          · have hw := hw.1 hb
            refine X_run 1 (i1 := 75) (L1 := [some (.inr (.inr (some 21))), some (.inl v1), some (.inl v2), some (.inl v3), some (.inl v4), some (.inl v5), none, none, none, none, none]) (st1 := [.inr (.inr (some 21))]) rfl ?_
            refine X_gF (v := .inr (.inr (some 23))) rfl rfl rfl rfl ?_
            refine X_run 1 (i1 := 77) (L1 := [some (.inr (.inr (some 21))), some (.inl v1), some (.inl v2), some (.inl v3), some (.inl v4), some (.inl v5), none, none, none, none, none]) (st1 := [.inl v1, .inr (.inr (some 23))]) rfl ?_
            obtain ⟨hin, hw⟩ := hw
            refine X_aI rfl rfl hin ?_
            show X _ _ 78 [some (.inr (.inr (some 21))), some (.inl v1), some (.inl v2), some (.inl v3), some (.inl v4), some (.inl v5), none, none, none, none, none] [.inl (sA s 23 (Int32.toNatClampNeg v1))] (hp s) _
            refine X_run 4 (i1 := 82) (L1 := [some (.inr (.inr (some 21))), some (.inl v1), some (.inl v2), some (.inl v3), some (.inl v4), some (.inl v5), some (.inl ((sA s 23 (Int32.toNatClampNeg v1)) + v2)), none, none, none, none]) (st1 := [.inr (.inr (some 21))]) rfl ?_
            refine X_gF (v := .inr (.inr (some 23))) rfl rfl rfl rfl ?_
            refine X_run 1 (i1 := 84) (L1 := [some (.inr (.inr (some 21))), some (.inl v1), some (.inl v2), some (.inl v3), some (.inl v4), some (.inl v5), some (.inl ((sA s 23 (Int32.toNatClampNeg v1)) + v2)), none, none, none, none]) (st1 := [.inl v3, .inr (.inr (some 23))]) rfl ?_
            obtain ⟨hin, hw⟩ := hw
            refine X_aI rfl rfl hin ?_
            show X _ _ 85 [some (.inr (.inr (some 21))), some (.inl v1), some (.inl v2), some (.inl v3), some (.inl v4), some (.inl v5), some (.inl ((sA s 23 (Int32.toNatClampNeg v1)) + v2)), none, none, none, none] [.inl (sA s 23 (Int32.toNatClampNeg v3))] (hp s) _
            refine X_run 6 (i1 := cond (cn2 .ne v1 v3) 96 91) (L1 := [some (.inr (.inr (some 21))), some (.inl v1), some (.inl v2), some (.inl v3), some (.inl v4), some (.inl v5), some (.inl ((sA s 23 (Int32.toNatClampNeg v1)) + v2)), some (.inl ((sA s 23 (Int32.toNatClampNeg v3)) + v4)), none, none, none]) (st1 := []) rfl ?_
            refine X_brq (fun hb => ?_) (fun hb => ?_)
            · have hw := hw.1 hb
              refine X_mask [true, true, false, true, false, true, true, true, true, true, true] ?_
              exact ct_M_copies_96 fu s v1 v3 v5 ((sA s 23 (Int32.toNatClampNeg v1)) + v2) ((sA s 23 (Int32.toNatClampNeg v3)) + v4) hw
            · have hw := hw.2 hb
              refine X_run 3 (i1 := cond (cn2 .ge v2 v4) 96 94) (L1 := [some (.inr (.inr (some 21))), some (.inl v1), some (.inl v2), some (.inl v3), some (.inl v4), some (.inl v5), some (.inl ((sA s 23 (Int32.toNatClampNeg v1)) + v2)), some (.inl ((sA s 23 (Int32.toNatClampNeg v3)) + v4)), none, none, none]) (st1 := []) rfl ?_
              refine X_brq (fun hb => ?_) (fun hb => ?_)
              · have hw := hw.1 hb
                refine X_mask [true, true, false, true, false, true, true, true, true, true, true] ?_
                exact ct_M_copies_96 fu s v1 v3 v5 ((sA s 23 (Int32.toNatClampNeg v1)) + v2) ((sA s 23 (Int32.toNatClampNeg v3)) + v4) hw
              · have hw := hw.2 hb
                refine X_run 2 (i1 := 97) (L1 := [some (.inr (.inr (some 21))), some (.inl v1), some (.inl v2), some (.inl v3), some (.inl v4), some (.inl v5), some (.inl ((sA s 23 (Int32.toNatClampNeg v1)) + v2)), some (.inl ((sA s 23 (Int32.toNatClampNeg v3)) + v4)), none, none, none]) (st1 := [.inl (1 : Int32)]) rfl ?_
                refine X_mask [true, true, false, true, false, true, true, true, true, true, true] ?_
                exact ct_M_copies_97 fu s v1 v3 v5 ((sA s 23 (Int32.toNatClampNeg v1)) + v2) ((sA s 23 (Int32.toNatClampNeg v3)) + v4) (1 : Int32) hw
          · have hw := hw.2 hb
            refine X_mask [true, false, false, false, false, false, true, true, true, true, true] ?_
            exact ct_M_copies_70 fu s hw
def t_M_copies_36 (fu : Nat) (s : St) : Int32 × St := (f_M_fails s (5 : Int32))
def w_M_copies_36 (fu : Nat) (s : St) : Prop := (w_M_fails s (5 : Int32) ∧ True)
theorem ct_M_copies_36 {d : Nat} (fu : Nat) (s : St) (hw : w_M_copies_36 fu s) : X m_M_copies (d + 3) 36 [some (.inr (.inr (some 21))), none, none, none, none, none, none, none, none, none, none] [] (hp s) (qIs (t_M_copies_36 fu s)) := by
  unfold t_M_copies_36
  unfold w_M_copies_36 at hw
  refine X_run 2 (i1 := 38) (L1 := [some (.inr (.inr (some 21))), none, none, none, none, none, none, none, none, none, none]) (st1 := [.inl (5 : Int32), .inr (.inr (some 21))]) rfl ?_
  obtain ⟨hc, hw⟩ := hw
  refine X_callv m_M_fails (As := [.inl (5 : Int32)]) (st := []) ok_M_fails rfl rfl rfl (hp_obj rfl) rfl (Nat.le_of_ble_eq_true rfl) (Nat.le_of_ble_eq_true rfl) (c_M_fails (d := d) s (5 : Int32) hc) ?_
  rintro _ _ ⟨rfl, rfl⟩
  show X _ _ 39 [some (.inr (.inr (some 21))), none, none, none, none, none, none, none, none, none, none] [.inl ((f_M_fails s (5 : Int32)).1)] (hp ((f_M_fails s (5 : Int32)).2)) _
  exact X_iret rfl rfl qIs_p
def t_M_copies_4 (fu : Nat) (s : St) : Int32 × St := (f_M_fails s (1 : Int32))
def w_M_copies_4 (fu : Nat) (s : St) : Prop := (w_M_fails s (1 : Int32) ∧ True)
theorem ct_M_copies_4 {d : Nat} (fu : Nat) (s : St) (hw : w_M_copies_4 fu s) : X m_M_copies (d + 3) 4 [some (.inr (.inr (some 21))), none, none, none, none, none, none, none, none, none, none] [] (hp s) (qIs (t_M_copies_4 fu s)) := by
  unfold t_M_copies_4
  unfold w_M_copies_4 at hw
  refine X_run 2 (i1 := 6) (L1 := [some (.inr (.inr (some 21))), none, none, none, none, none, none, none, none, none, none]) (st1 := [.inl (1 : Int32), .inr (.inr (some 21))]) rfl ?_
  obtain ⟨hc, hw⟩ := hw
  refine X_callv m_M_fails (As := [.inl (1 : Int32)]) (st := []) ok_M_fails rfl rfl rfl (hp_obj rfl) rfl (Nat.le_of_ble_eq_true rfl) (Nat.le_of_ble_eq_true rfl) (c_M_fails (d := d) s (1 : Int32) hc) ?_
  rintro _ _ ⟨rfl, rfl⟩
  show X _ _ 7 [some (.inr (.inr (some 21))), none, none, none, none, none, none, none, none, none, none] [.inl ((f_M_fails s (1 : Int32)).1)] (hp ((f_M_fails s (1 : Int32)).2)) _
  exact X_iret rfl rfl qIs_p
def f_M_copies (fu : Nat) (s : St) (a0 : Int32) (a1 : Int32) (a2 : Int32) (a3 : Int32) (a4 : Int32) : Int32 × St := (cond (cn1 .eq a0) (t_M_copies_4 fu s) (cond (cn1 .ne a2) (cond (cn1 .eq (b2i (f_M_hasMembers s a0))) (t_M_copies_36 fu s) (cond (cn1 .eq (b2i (f_M_hasMembers s a2))) (t_M_copies_36 fu s) (cond (cn2 .ne (b2i (f_M_isRow s a0)) (b2i (f_M_isRow s a2))) (t_M_copies_36 fu s) (cond (cn1 .eq (b2i (f_M_isRow s a0))) (t_M_copies_40 fu s a0 a1 a2 a3 a4) (cond (cn2 .eq (sA s 22 (Int32.toNatClampNeg a0)) (sA s 22 (Int32.toNatClampNeg a2))) (t_M_copies_40 fu s a0 a1 a2 a3 a4) (t_M_copies_36 fu s)))))) (t_M_copies_4 fu s)))
def w_M_copies (fu : Nat) (s : St) (a0 : Int32) (a1 : Int32) (a2 : Int32) (a3 : Int32) (a4 : Int32) : Prop := ((cn1 .eq a0) = true → (w_M_copies_4 fu s)) ∧ ((cn1 .eq a0) = false → ((cn1 .ne a2) = true → (w_M_hasMembers s a0 ∧ ((cn1 .eq (b2i (f_M_hasMembers s a0))) = true → (w_M_copies_36 fu s)) ∧ ((cn1 .eq (b2i (f_M_hasMembers s a0))) = false → (w_M_hasMembers s a2 ∧ ((cn1 .eq (b2i (f_M_hasMembers s a2))) = true → (w_M_copies_36 fu s)) ∧ ((cn1 .eq (b2i (f_M_hasMembers s a2))) = false → (w_M_isRow s a0 ∧ (w_M_isRow s a2 ∧ ((cn2 .ne (b2i (f_M_isRow s a0)) (b2i (f_M_isRow s a2))) = true → (w_M_copies_36 fu s)) ∧ ((cn2 .ne (b2i (f_M_isRow s a0)) (b2i (f_M_isRow s a2))) = false → (w_M_isRow s a0 ∧ ((cn1 .eq (b2i (f_M_isRow s a0))) = true → (w_M_copies_40 fu s a0 a1 a2 a3 a4)) ∧ ((cn1 .eq (b2i (f_M_isRow s a0))) = false → (vp_in a0 40001 ∧ (vp_in a2 40001 ∧ ((cn2 .eq (sA s 22 (Int32.toNatClampNeg a0)) (sA s 22 (Int32.toNatClampNeg a2))) = true → (w_M_copies_40 fu s a0 a1 a2 a3 a4)) ∧ ((cn2 .eq (sA s 22 (Int32.toNatClampNeg a0)) (sA s 22 (Int32.toNatClampNeg a2))) = false → (w_M_copies_36 fu s)))))))))))))) ∧ ((cn1 .ne a2) = false → (w_M_copies_4 fu s)))
theorem c_M_copies {d : Nat} (fu : Nat) (s : St) (a0 : Int32) (a1 : Int32) (a2 : Int32) (a3 : Int32) (a4 : Int32) (hw : w_M_copies fu s a0 a1 a2 a3 a4) : X m_M_copies (d + 3) 0 (entL 11 [.inr (.inr (some 21)), .inl a0, .inl a1, .inl a2, .inl a3, .inl a4]) [] (hp s) (qIs (f_M_copies fu s a0 a1 a2 a3 a4)) := by
  unfold f_M_copies
  unfold w_M_copies at hw
  refine X_run 2 (i1 := cond (cn1 .eq a0) 4 2) (L1 := [some (.inr (.inr (some 21))), some (.inl a0), some (.inl a1), some (.inl a2), some (.inl a3), some (.inl a4), none, none, none, none, none]) (st1 := []) rfl ?_
  refine X_brq (fun hb => ?_) (fun hb => ?_)
  · have hw := hw.1 hb
    refine X_mask [true, false, false, false, false, false, true, true, true, true, true] ?_
    exact ct_M_copies_4 fu s hw
  · have hw := hw.2 hb
    refine X_run 2 (i1 := cond (cn1 .ne a2) 8 4) (L1 := [some (.inr (.inr (some 21))), some (.inl a0), some (.inl a1), some (.inl a2), some (.inl a3), some (.inl a4), none, none, none, none, none]) (st1 := []) rfl ?_
    refine X_brq (fun hb => ?_) (fun hb => ?_)
    · have hw := hw.1 hb
      refine X_run 2 (i1 := 10) (L1 := [some (.inr (.inr (some 21))), some (.inl a0), some (.inl a1), some (.inl a2), some (.inl a3), some (.inl a4), none, none, none, none, none]) (st1 := [.inl a0, .inr (.inr (some 21))]) rfl ?_
      obtain ⟨hc, hw⟩ := hw
      refine X_callv m_M_hasMembers (As := [.inl a0]) (st := []) ok_M_hasMembers rfl rfl rfl (hp_obj rfl) rfl (Nat.le_of_ble_eq_true rfl) (Nat.le_of_ble_eq_true rfl) (c_M_hasMembers (d := d + 2) s a0 hc) ?_
      rintro _ _ ⟨rfl, rfl⟩
      show X _ _ 11 [some (.inr (.inr (some 21))), some (.inl a0), some (.inl a1), some (.inl a2), some (.inl a3), some (.inl a4), none, none, none, none, none] [.inl (b2i (f_M_hasMembers s a0))] (hp s) _
      refine X_run 1 (i1 := cond (cn1 .eq (b2i (f_M_hasMembers s a0))) 36 12) (L1 := [some (.inr (.inr (some 21))), some (.inl a0), some (.inl a1), some (.inl a2), some (.inl a3), some (.inl a4), none, none, none, none, none]) (st1 := []) rfl ?_
      refine X_brq (fun hb => ?_) (fun hb => ?_)
      · have hw := hw.1 hb
        refine X_mask [true, false, false, false, false, false, true, true, true, true, true] ?_
        exact ct_M_copies_36 fu s hw
      · have hw := hw.2 hb
        refine X_run 2 (i1 := 14) (L1 := [some (.inr (.inr (some 21))), some (.inl a0), some (.inl a1), some (.inl a2), some (.inl a3), some (.inl a4), none, none, none, none, none]) (st1 := [.inl a2, .inr (.inr (some 21))]) rfl ?_
        obtain ⟨hc, hw⟩ := hw
        refine X_callv m_M_hasMembers (As := [.inl a2]) (st := []) ok_M_hasMembers rfl rfl rfl (hp_obj rfl) rfl (Nat.le_of_ble_eq_true rfl) (Nat.le_of_ble_eq_true rfl) (c_M_hasMembers (d := d + 2) s a2 hc) ?_
        rintro _ _ ⟨rfl, rfl⟩
        show X _ _ 15 [some (.inr (.inr (some 21))), some (.inl a0), some (.inl a1), some (.inl a2), some (.inl a3), some (.inl a4), none, none, none, none, none] [.inl (b2i (f_M_hasMembers s a2))] (hp s) _
        refine X_run 1 (i1 := cond (cn1 .eq (b2i (f_M_hasMembers s a2))) 36 16) (L1 := [some (.inr (.inr (some 21))), some (.inl a0), some (.inl a1), some (.inl a2), some (.inl a3), some (.inl a4), none, none, none, none, none]) (st1 := []) rfl ?_
        refine X_brq (fun hb => ?_) (fun hb => ?_)
        · have hw := hw.1 hb
          refine X_mask [true, false, false, false, false, false, true, true, true, true, true] ?_
          exact ct_M_copies_36 fu s hw
        · have hw := hw.2 hb
          refine X_run 2 (i1 := 18) (L1 := [some (.inr (.inr (some 21))), some (.inl a0), some (.inl a1), some (.inl a2), some (.inl a3), some (.inl a4), none, none, none, none, none]) (st1 := [.inl a0, .inr (.inr (some 21))]) rfl ?_
          obtain ⟨hc, hw⟩ := hw
          refine X_callv m_M_isRow (As := [.inl a0]) (st := []) ok_M_isRow rfl rfl rfl (hp_obj rfl) rfl (Nat.le_of_ble_eq_true rfl) (Nat.le_of_ble_eq_true rfl) (c_M_isRow (d := d + 2) s a0 hc) ?_
          rintro _ _ ⟨rfl, rfl⟩
          show X _ _ 19 [some (.inr (.inr (some 21))), some (.inl a0), some (.inl a1), some (.inl a2), some (.inl a3), some (.inl a4), none, none, none, none, none] [.inl (b2i (f_M_isRow s a0))] (hp s) _
          refine X_run 2 (i1 := 21) (L1 := [some (.inr (.inr (some 21))), some (.inl a0), some (.inl a1), some (.inl a2), some (.inl a3), some (.inl a4), none, none, none, none, none]) (st1 := [.inl a2, .inr (.inr (some 21)), .inl (b2i (f_M_isRow s a0))]) rfl ?_
          obtain ⟨hc, hw⟩ := hw
          refine X_callv m_M_isRow (As := [.inl a2]) (st := [.inl (b2i (f_M_isRow s a0))]) ok_M_isRow rfl rfl rfl (hp_obj rfl) rfl (Nat.le_of_ble_eq_true rfl) (Nat.le_of_ble_eq_true rfl) (c_M_isRow (d := d + 2) s a2 hc) ?_
          rintro _ _ ⟨rfl, rfl⟩
          show X _ _ 22 [some (.inr (.inr (some 21))), some (.inl a0), some (.inl a1), some (.inl a2), some (.inl a3), some (.inl a4), none, none, none, none, none] [.inl (b2i (f_M_isRow s a2)), .inl (b2i (f_M_isRow s a0))] (hp s) _
          refine X_run 1 (i1 := cond (cn2 .ne (b2i (f_M_isRow s a0)) (b2i (f_M_isRow s a2))) 36 23) (L1 := [some (.inr (.inr (some 21))), some (.inl a0), some (.inl a1), some (.inl a2), some (.inl a3), some (.inl a4), none, none, none, none, none]) (st1 := []) rfl ?_
          refine X_brq (fun hb => ?_) (fun hb => ?_)
          · have hw := hw.1 hb
            refine X_mask [true, false, false, false, false, false, true, true, true, true, true] ?_
            exact ct_M_copies_36 fu s hw
          · have hw := hw.2 hb
            refine X_run 2 (i1 := 25) (L1 := [some (.inr (.inr (some 21))), some (.inl a0), some (.inl a1), some (.inl a2), some (.inl a3), some (.inl a4), none, none, none, none, none]) (st1 := [.inl a0, .inr (.inr (some 21))]) rfl ?_
            obtain ⟨hc, hw⟩ := hw
            refine X_callv m_M_isRow (As := [.inl a0]) (st := []) ok_M_isRow rfl rfl rfl (hp_obj rfl) rfl (Nat.le_of_ble_eq_true rfl) (Nat.le_of_ble_eq_true rfl) (c_M_isRow (d := d + 2) s a0 hc) ?_
            rintro _ _ ⟨rfl, rfl⟩
            show X _ _ 26 [some (.inr (.inr (some 21))), some (.inl a0), some (.inl a1), some (.inl a2), some (.inl a3), some (.inl a4), none, none, none, none, none] [.inl (b2i (f_M_isRow s a0))] (hp s) _
            refine X_run 1 (i1 := cond (cn1 .eq (b2i (f_M_isRow s a0))) 40 27) (L1 := [some (.inr (.inr (some 21))), some (.inl a0), some (.inl a1), some (.inl a2), some (.inl a3), some (.inl a4), none, none, none, none, none]) (st1 := []) rfl ?_
            refine X_brq (fun hb => ?_) (fun hb => ?_)
            · have hw := hw.1 hb
              exact ct_M_copies_40 fu s a0 a1 a2 a3 a4 hw
            · have hw := hw.2 hb
              refine X_run 1 (i1 := 28) (L1 := [some (.inr (.inr (some 21))), some (.inl a0), some (.inl a1), some (.inl a2), some (.inl a3), some (.inl a4), none, none, none, none, none]) (st1 := [.inr (.inr (some 21))]) rfl ?_
              refine X_gF (v := .inr (.inr (some 22))) rfl rfl rfl rfl ?_
              refine X_run 1 (i1 := 30) (L1 := [some (.inr (.inr (some 21))), some (.inl a0), some (.inl a1), some (.inl a2), some (.inl a3), some (.inl a4), none, none, none, none, none]) (st1 := [.inl a0, .inr (.inr (some 22))]) rfl ?_
              obtain ⟨hin, hw⟩ := hw
              refine X_aI rfl rfl hin ?_
              show X _ _ 31 [some (.inr (.inr (some 21))), some (.inl a0), some (.inl a1), some (.inl a2), some (.inl a3), some (.inl a4), none, none, none, none, none] [.inl (sA s 22 (Int32.toNatClampNeg a0))] (hp s) _
              refine X_run 1 (i1 := 32) (L1 := [some (.inr (.inr (some 21))), some (.inl a0), some (.inl a1), some (.inl a2), some (.inl a3), some (.inl a4), none, none, none, none, none]) (st1 := [.inr (.inr (some 21)), .inl (sA s 22 (Int32.toNatClampNeg a0))]) rfl ?_
              refine X_gF (v := .inr (.inr (some 22))) rfl rfl rfl rfl ?_
              refine X_run 1 (i1 := 34) (L1 := [some (.inr (.inr (some 21))), some (.inl a0), some (.inl a1), some (.inl a2), some (.inl a3), some (.inl a4), none, none, none, none, none]) (st1 := [.inl a2, .inr (.inr (some 22)), .inl (sA s 22 (Int32.toNatClampNeg a0))]) rfl ?_
              obtain ⟨hin, hw⟩ := hw
              refine X_aI rfl rfl hin ?_
              show X _ _ 35 [some (.inr (.inr (some 21))), some (.inl a0), some (.inl a1), some (.inl a2), some (.inl a3), some (.inl a4), none, none, none, none, none] [.inl (sA s 22 (Int32.toNatClampNeg a2)), .inl (sA s 22 (Int32.toNatClampNeg a0))] (hp s) _
              refine X_run 1 (i1 := cond (cn2 .eq (sA s 22 (Int32.toNatClampNeg a0)) (sA s 22 (Int32.toNatClampNeg a2))) 40 36) (L1 := [some (.inr (.inr (some 21))), some (.inl a0), some (.inl a1), some (.inl a2), some (.inl a3), some (.inl a4), none, none, none, none, none]) (st1 := []) rfl ?_
              refine X_brq (fun hb => ?_) (fun hb => ?_)
              · have hw := hw.1 hb
                exact ct_M_copies_40 fu s a0 a1 a2 a3 a4 hw
              · have hw := hw.2 hb
                refine X_mask [true, false, false, false, false, false, true, true, true, true, true] ?_
                exact ct_M_copies_36 fu s hw
    · have hw := hw.2 hb
      refine X_mask [true, false, false, false, false, false, true, true, true, true, true] ?_
      exact ct_M_copies_4 fu s hw
def t_M_members_297 (fu : Nat) (s : St) (w0 : Int64) (w1 : Int32) : Int32 × St := ((0 : Int32), pB s 26 (vp_updL (sB s 26) (Int32.toNatClampNeg w1) w0))
def w_M_members_297 (fu : Nat) (s : St) (w0 : Int64) (w1 : Int32) : Prop := (vp_in w1 40001 ∧ True)
theorem ct_M_members_297 {d : Nat} (fu : Nat) (s : St) (w0 : Int64) (w1 : Int32) (hw : w_M_members_297 fu s w0 w1) : X m_M_members (d + 4) 297 [none, none, none, none, none, none, none, none] [.inr (.inl w0), .inl w1, .inr (.inr (some 26))] (hp s) (qIs (t_M_members_297 fu s w0 w1)) := by
  unfold t_M_members_297
  unfold w_M_members_297 at hw
  obtain ⟨hin, hw⟩ := hw
  refine X_sL rfl rfl hin ?_
  show X _ _ 298 [none, none, none, none, none, none, none, none] [] (hp (pB s 26 (vp_updL (sB s 26) (Int32.toNatClampNeg w1) w0))) _
  refine X_run 2 (i1 := 335) (L1 := [none, none, none, none, none, none, none, none]) (st1 := [.inl (0 : Int32)]) rfl ?_
  exact X_iret rfl rfl qIs_i
def t_M_members_256 (fu : Nat) (s : St) : Int32 × St := (f_M_fails s (2 : Int32))
def w_M_members_256 (fu : Nat) (s : St) : Prop := (w_M_fails s (2 : Int32) ∧ True)
theorem ct_M_members_256 {d : Nat} (fu : Nat) (s : St) (hw : w_M_members_256 fu s) : X m_M_members (d + 4) 256 [some (.inr (.inr (some 21))), none, none, none, none, none, none, none] [] (hp s) (qIs (t_M_members_256 fu s)) := by
  unfold t_M_members_256
  unfold w_M_members_256 at hw
  refine X_run 2 (i1 := 258) (L1 := [some (.inr (.inr (some 21))), none, none, none, none, none, none, none]) (st1 := [.inl (2 : Int32), .inr (.inr (some 21))]) rfl ?_
  obtain ⟨hc, hw⟩ := hw
  refine X_callv m_M_fails (As := [.inl (2 : Int32)]) (st := []) ok_M_fails rfl rfl rfl (hp_obj rfl) rfl (Nat.le_of_ble_eq_true rfl) (Nat.le_of_ble_eq_true rfl) (c_M_fails (d := d + 1) s (2 : Int32) hc) ?_
  rintro _ _ ⟨rfl, rfl⟩
  show X _ _ 259 [some (.inr (.inr (some 21))), none, none, none, none, none, none, none] [.inl ((f_M_fails s (2 : Int32)).1)] (hp ((f_M_fails s (2 : Int32)).2)) _
  exact X_iret rfl rfl qIs_p
def t_M_members_230 (fu : Nat) (s : St) (v1 : Int32) (v3 : Int32) (v4 : Int32) (v5 : Int32) (w0 : Int32) : Int32 × St := (cond (cn1 .ne v4) (cond (cn2 .eq (sA s 22 (Int32.toNatClampNeg v4)) v3) (cond (cn1 .lt v5) (t_M_members_256 fu s) (cond (cn2 .lt v5 (sA s 24 (Int32.toNatClampNeg v4))) (cond (cn2 .ne v1 (20 : Int32)) (cond (cn2 .ne v3 (7 : Int32)) (cond (cn2 .ne v3 (6 : Int32)) ((0 : Int32), pA s 28 (upd (sA s 28) (Int32.toNatClampNeg (sA s 30 (Int32.toNatClampNeg w0))) (Int64.toInt32 (sB s 26 (Int32.toNatClampNeg ((sA s 23 (Int32.toNatClampNeg v4)) + v5)))))) ((0 : Int32), pB s 29 (vp_updL (sB s 29) (Int32.toNatClampNeg (sA s 30 (Int32.toNatClampNeg w0))) (f_M_wide (Int64.toInt32 (sB s 26 (Int32.toNatClampNeg ((sA s 23 (Int32.toNatClampNeg v4)) + v5)))))))) ((0 : Int32), pB s 29 (vp_updL (sB s 29) (Int32.toNatClampNeg (sA s 30 (Int32.toNatClampNeg w0))) (sB s 26 (Int32.toNatClampNeg ((sA s 23 (Int32.toNatClampNeg v4)) + v5)))))) (cond (cn2 .ne v3 (7 : Int32)) (cond (cn2 .ne v3 (6 : Int32)) (t_M_members_297 fu s (f_M_cut v3 (sA s 28 (Int32.toNatClampNeg (sA s 30 (Int32.toNatClampNeg w0))))) ((sA s 23 (Int32.toNatClampNeg v4)) + v5)) (t_M_members_297 fu s (Int32.toInt64 (f_M_narrow (sB s 29 (Int32.toNatClampNeg (sA s 30 (Int32.toNatClampNeg w0)))))) ((sA s 23 (Int32.toNatClampNeg v4)) + v5))) (t_M_members_297 fu s (sB s 29 (Int32.toNatClampNeg (sA s 30 (Int32.toNatClampNeg w0)))) ((sA s 23 (Int32.toNatClampNeg v4)) + v5)))) (t_M_members_256 fu s))) (f_M_fails s (4 : Int32))) (f_M_fails s (1 : Int32)))
def w_M_members_230 (fu : Nat) (s : St) (v1 : Int32) (v3 : Int32) (v4 : Int32) (v5 : Int32) (w0 : Int32) : Prop := (vp_in w0 3200 ∧ ((cn1 .ne v4) = true → (vp_in v4 40001 ∧ ((cn2 .eq (sA s 22 (Int32.toNatClampNeg v4)) v3) = true → ((cn1 .lt v5) = true → (w_M_members_256 fu s)) ∧ ((cn1 .lt v5) = false → (vp_in v4 40001 ∧ ((cn2 .lt v5 (sA s 24 (Int32.toNatClampNeg v4))) = true → (vp_in v4 40001 ∧ ((cn2 .ne v1 (20 : Int32)) = true → ((cn2 .ne v3 (7 : Int32)) = true → ((cn2 .ne v3 (6 : Int32)) = true → (vp_in ((sA s 23 (Int32.toNatClampNeg v4)) + v5) 40001 ∧ (vp_in (sA s 30 (Int32.toNatClampNeg w0)) 8 ∧ True))) ∧ ((cn2 .ne v3 (6 : Int32)) = false → (vp_in ((sA s 23 (Int32.toNatClampNeg v4)) + v5) 40001 ∧ (vp_in (sA s 30 (Int32.toNatClampNeg w0)) 4 ∧ True)))) ∧ ((cn2 .ne v3 (7 : Int32)) = false → (vp_in ((sA s 23 (Int32.toNatClampNeg v4)) + v5) 40001 ∧ (vp_in (sA s 30 (Int32.toNatClampNeg w0)) 4 ∧ True)))) ∧ ((cn2 .ne v1 (20 : Int32)) = false → ((cn2 .ne v3 (7 : Int32)) = true → ((cn2 .ne v3 (6 : Int32)) = true → (vp_in (sA s 30 (Int32.toNatClampNeg w0)) 8 ∧ (w_M_members_297 fu s (f_M_cut v3 (sA s 28 (Int32.toNatClampNeg (sA s 30 (Int32.toNatClampNeg w0))))) ((sA s 23 (Int32.toNatClampNeg v4)) + v5)))) ∧ ((cn2 .ne v3 (6 : Int32)) = false → (vp_in (sA s 30 (Int32.toNatClampNeg w0)) 4 ∧ (w_M_members_297 fu s (Int32.toInt64 (f_M_narrow (sB s 29 (Int32.toNatClampNeg (sA s 30 (Int32.toNatClampNeg w0)))))) ((sA s 23 (Int32.toNatClampNeg v4)) + v5))))) ∧ ((cn2 .ne v3 (7 : Int32)) = false → (vp_in (sA s 30 (Int32.toNatClampNeg w0)) 4 ∧ (w_M_members_297 fu s (sB s 29 (Int32.toNatClampNeg (sA s 30 (Int32.toNatClampNeg w0)))) ((sA s 23 (Int32.toNatClampNeg v4)) + v5))))))) ∧ ((cn2 .lt v5 (sA s 24 (Int32.toNatClampNeg v4))) = false → (w_M_members_256 fu s))))) ∧ ((cn2 .eq (sA s 22 (Int32.toNatClampNeg v4)) v3) = false → (w_M_fails s (4 : Int32) ∧ True)))) ∧ ((cn1 .ne v4) = false → (w_M_fails s (1 : Int32) ∧ True)))
theorem ct_M_members_230 {d : Nat} (fu : Nat) (s : St) (v1 : Int32) (v3 : Int32) (v4 : Int32) (v5 : Int32) (w0 : Int32) (hw : w_M_members_230 fu s v1 v3 v4 v5 w0) : X m_M_members (d + 4) 230 [some (.inr (.inr (some 21))), some (.inl v1), none, some (.inl v3), some (.inl v4), some (.inl v5), none, none] [.inl w0, .inr (.inr (some 30))] (hp s) (qIs (t_M_members_230 fu s v1 v3 v4 v5 w0)) := by
  unfold t_M_members_230
  unfold w_M_members_230 at hw
  obtain ⟨hin, hw⟩ := hw
  refine X_aI rfl rfl hin ?_
  show X _ _ 231 [some (.inr (.inr (some 21))), some (.inl v1), none, some (.inl v3), some (.inl v4), some (.inl v5), none, none] [.inl (sA s 30 (Int32.toNatClampNeg w0))] (hp s) _
  refine X_run 3 (i1 := cond (cn1 .ne v4) 238 234) (L1 := [some (.inr (.inr (some 21))), some (.inl v1), none, some (.inl v3), some (.inl v4), some (.inl v5), some (.inl (sA s 30 (Int32.toNatClampNeg w0))), none]) (st1 := []) rfl ?_
  refine X_brq (fun hb => ?_) (fun hb => ?_)
  · have hw := hw.1 hb
    refine X_run 1 (i1 := 239) (L1 := [some (.inr (.inr (some 21))), some (.inl v1), none, some (.inl v3), some (.inl v4), some (.inl v5), some (.inl (sA s 30 (Int32.toNatClampNeg w0))), none]) (st1 := [.inr (.inr (some 21))]) rfl ?_
    refine X_gF (v := .inr (.inr (some 22))) rfl rfl rfl rfl ?_
    refine X_run 1 (i1 := 241) (L1 := [some (.inr (.inr (some 21))), some (.inl v1), none, some (.inl v3), some (.inl v4), some (.inl v5), some (.inl (sA s 30 (Int32.toNatClampNeg w0))), none]) (st1 := [.inl v4, .inr (.inr (some 22))]) rfl ?_
    obtain ⟨hin, hw⟩ := hw
    refine X_aI rfl rfl hin ?_
    show X _ _ 242 [some (.inr (.inr (some 21))), some (.inl v1), none, some (.inl v3), some (.inl v4), some (.inl v5), some (.inl (sA s 30 (Int32.toNatClampNeg w0))), none] [.inl (sA s 22 (Int32.toNatClampNeg v4))] (hp s) _
    refine X_run 2 (i1 := cond (cn2 .eq (sA s 22 (Int32.toNatClampNeg v4)) v3) 248 244) (L1 := [some (.inr (.inr (some 21))), some (.inl v1), none, some (.inl v3), some (.inl v4), some (.inl v5), some (.inl (sA s 30 (Int32.toNatClampNeg w0))), none]) (st1 := []) rfl ?_
    refine X_brq (fun hb => ?_) (fun hb => ?_)
    · have hw := hw.1 hb
      refine X_run 2 (i1 := cond (cn1 .lt v5) 256 250) (L1 := [some (.inr (.inr (some 21))), some (.inl v1), none, some (.inl v3), some (.inl v4), some (.inl v5), some (.inl (sA s 30 (Int32.toNatClampNeg w0))), none]) (st1 := []) rfl ?_
      refine X_brq (fun hb => ?_) (fun hb => ?_)
      · have hw := hw.1 hb
        refine X_mask [true, false, true, false, false, false, false, true] ?_
        exact ct_M_members_256 fu s hw
      · have hw := hw.2 hb
        refine X_run 2 (i1 := 252) (L1 := [some (.inr (.inr (some 21))), some (.inl v1), none, some (.inl v3), some (.inl v4), some (.inl v5), some (.inl (sA s 30 (Int32.toNatClampNeg w0))), none]) (st1 := [.inr (.inr (some 21)), .inl v5]) rfl ?_
        refine X_gF (v := .inr (.inr (some 24))) rfl rfl rfl rfl ?_
        refine X_run 1 (i1 := 254) (L1 := [some (.inr (.inr (some 21))), some (.inl v1), none, some (.inl v3), some (.inl v4), some (.inl v5), some (.inl (sA s 30 (Int32.toNatClampNeg w0))), none]) (st1 := [.inl v4, .inr (.inr (some 24)), .inl v5]) rfl ?_
        obtain ⟨hin, hw⟩ := hw
        refine X_aI rfl rfl hin ?_
        show X _ _ 255 [some (.inr (.inr (some 21))), some (.inl v1), none, some (.inl v3), some (.inl v4), some (.inl v5), some (.inl (sA s 30 (Int32.toNatClampNeg w0))), none] [.inl (sA s 24 (Int32.toNatClampNeg v4)), .inl v5] (hp s) _
        refine X_run 1 (i1 := cond (cn2 .lt v5 (sA s 24 (Int32.toNatClampNeg v4))) 260 256) (L1 := [some (.inr (.inr (some 21))), some (.inl v1), none, some (.inl v3), some (.inl v4), some (.inl v5), some (.inl (sA s 30 (Int32.toNatClampNeg w0))), none]) (st1 := []) rfl ?_
        refine X_brq (fun hb => ?_) (fun hb => ?_)
        · have hw := hw.1 hb
          refine X_run 1 (i1 := 261) (L1 := [some (.inr (.inr (some 21))), some (.inl v1), none, some (.inl v3), some (.inl v4), some (.inl v5), some (.inl (sA s 30 (Int32.toNatClampNeg w0))), none]) (st1 := [.inr (.inr (some 21))]) rfl ?_
          refine X_gF (v := .inr (.inr (some 23))) rfl rfl rfl rfl ?_
          refine X_run 1 (i1 := 263) (L1 := [some (.inr (.inr (some 21))), some (.inl v1), none, some (.inl v3), some (.inl v4), some (.inl v5), some (.inl (sA s 30 (Int32.toNatClampNeg w0))), none]) (st1 := [.inl v4, .inr (.inr (some 23))]) rfl ?_
          obtain ⟨hin, hw⟩ := hw
          refine X_aI rfl rfl hin ?_
          show X _ _ 264 [some (.inr (.inr (some 21))), some (.inl v1), none, some (.inl v3), some (.inl v4), some (.inl v5), some (.inl (sA s 30 (Int32.toNatClampNeg w0))), none] [.inl (sA s 23 (Int32.toNatClampNeg v4))] (hp s) _
          refine X_run 6 (i1 := cond (cn2 .ne v1 (20 : Int32)) 299 270) (L1 := [some (.inr (.inr (some 21))), some (.inl v1), none, some (.inl v3), some (.inl v4), some (.inl v5), some (.inl (sA s 30 (Int32.toNatClampNeg w0))), some (.inl ((sA s 23 (Int32.toNatClampNeg v4)) + v5))]) (st1 := []) rfl ?_
          refine X_brq (fun hb => ?_) (fun hb => ?_)
          · have hw := hw.1 hb
            refine X_run 3 (i1 := cond (cn2 .ne v3 (7 : Int32)) 311 302) (L1 := [some (.inr (.inr (some 21))), some (.inl v1), none, some (.inl v3), some (.inl v4), some (.inl v5), some (.inl (sA s 30 (Int32.toNatClampNeg w0))), some (.inl ((sA s 23 (Int32.toNatClampNeg v4)) + v5))]) (st1 := []) rfl ?_
            refine X_brq (fun hb => ?_) (fun hb => ?_)
            · have hw := hw.1 hb
              refine X_run 3 (i1 := cond (cn2 .ne v3 (6 : Int32)) 325 314) (L1 := [some (.inr (.inr (some 21))), some (.inl v1), none, some (.inl v3), some (.inl v4), some (.inl v5), some (.inl (sA s 30 (Int32.toNatClampNeg w0))), some (.inl ((sA s 23 (Int32.toNatClampNeg v4)) + v5))]) (st1 := []) rfl ?_
              refine X_brq (fun hb => ?_) (fun hb => ?_)
              · have hw := hw.1 hb
                refine X_run 1 (i1 := 326) (L1 := [some (.inr (.inr (some 21))), some (.inl v1), none, some (.inl v3), some (.inl v4), some (.inl v5), some (.inl (sA s 30 (Int32.toNatClampNeg w0))), some (.inl ((sA s 23 (Int32.toNatClampNeg v4)) + v5))]) (st1 := [.inr (.inr (some 21))]) rfl ?_
                refine X_gF (v := .inr (.inr (some 28))) rfl rfl rfl rfl ?_
                refine X_run 2 (i1 := 329) (L1 := [some (.inr (.inr (some 21))), some (.inl v1), none, some (.inl v3), some (.inl v4), some (.inl v5), some (.inl (sA s 30 (Int32.toNatClampNeg w0))), some (.inl ((sA s 23 (Int32.toNatClampNeg v4)) + v5))]) (st1 := [.inr (.inr (some 21)), .inl (sA s 30 (Int32.toNatClampNeg w0)), .inr (.inr (some 28))]) rfl ?_
                refine X_gF (v := .inr (.inr (some 26))) rfl rfl rfl rfl ?_
                refine X_run 1 (i1 := 331) (L1 := [some (.inr (.inr (some 21))), some (.inl v1), none, some (.inl v3), some (.inl v4), some (.inl v5), some (.inl (sA s 30 (Int32.toNatClampNeg w0))), some (.inl ((sA s 23 (Int32.toNatClampNeg v4)) + v5))]) (st1 := [.inl ((sA s 23 (Int32.toNatClampNeg v4)) + v5), .inr (.inr (some 26)), .inl (sA s 30 (Int32.toNatClampNeg w0)), .inr (.inr (some 28))]) rfl ?_
                obtain ⟨hin, hw⟩ := hw
                refine X_aL rfl rfl hin ?_
                show X _ _ 332 [some (.inr (.inr (some 21))), some (.inl v1), none, some (.inl v3), some (.inl v4), some (.inl v5), some (.inl (sA s 30 (Int32.toNatClampNeg w0))), some (.inl ((sA s 23 (Int32.toNatClampNeg v4)) + v5))] [.inr (.inl (sB s 26 (Int32.toNatClampNeg ((sA s 23 (Int32.toNatClampNeg v4)) + v5)))), .inl (sA s 30 (Int32.toNatClampNeg w0)), .inr (.inr (some 28))] (hp s) _
                refine X_run 1 (i1 := 333) (L1 := [some (.inr (.inr (some 21))), some (.inl v1), none, some (.inl v3), some (.inl v4), some (.inl v5), some (.inl (sA s 30 (Int32.toNatClampNeg w0))), some (.inl ((sA s 23 (Int32.toNatClampNeg v4)) + v5))]) (st1 := [.inl (Int64.toInt32 (sB s 26 (Int32.toNatClampNeg ((sA s 23 (Int32.toNatClampNeg v4)) + v5)))), .inl (sA s 30 (Int32.toNatClampNeg w0)), .inr (.inr (some 28))]) rfl ?_
                obtain ⟨hin, hw⟩ := hw
                refine X_sI rfl rfl hin ?_
                show X _ _ 334 [some (.inr (.inr (some 21))), some (.inl v1), none, some (.inl v3), some (.inl v4), some (.inl v5), some (.inl (sA s 30 (Int32.toNatClampNeg w0))), some (.inl ((sA s 23 (Int32.toNatClampNeg v4)) + v5))] [] (hp (pA s 28 (upd (sA s 28) (Int32.toNatClampNeg (sA s 30 (Int32.toNatClampNeg w0))) (Int64.toInt32 (sB s 26 (Int32.toNatClampNeg ((sA s 23 (Int32.toNatClampNeg v4)) + v5))))))) _
                refine X_run 1 (i1 := 335) (L1 := [some (.inr (.inr (some 21))), some (.inl v1), none, some (.inl v3), some (.inl v4), some (.inl v5), some (.inl (sA s 30 (Int32.toNatClampNeg w0))), some (.inl ((sA s 23 (Int32.toNatClampNeg v4)) + v5))]) (st1 := [.inl (0 : Int32)]) rfl ?_
                exact X_iret rfl rfl qIs_i
              · have hw := hw.2 hb
                refine X_run 1 (i1 := 315) (L1 := [some (.inr (.inr (some 21))), some (.inl v1), none, some (.inl v3), some (.inl v4), some (.inl v5), some (.inl (sA s 30 (Int32.toNatClampNeg w0))), some (.inl ((sA s 23 (Int32.toNatClampNeg v4)) + v5))]) (st1 := [.inr (.inr (some 21))]) rfl ?_
                refine X_gF (v := .inr (.inr (some 29))) rfl rfl rfl rfl ?_
                refine X_run 2 (i1 := 318) (L1 := [some (.inr (.inr (some 21))), some (.inl v1), none, some (.inl v3), some (.inl v4), some (.inl v5), some (.inl (sA s 30 (Int32.toNatClampNeg w0))), some (.inl ((sA s 23 (Int32.toNatClampNeg v4)) + v5))]) (st1 := [.inr (.inr (some 21)), .inl (sA s 30 (Int32.toNatClampNeg w0)), .inr (.inr (some 29))]) rfl ?_
                refine X_gF (v := .inr (.inr (some 26))) rfl rfl rfl rfl ?_
                refine X_run 1 (i1 := 320) (L1 := [some (.inr (.inr (some 21))), some (.inl v1), none, some (.inl v3), some (.inl v4), some (.inl v5), some (.inl (sA s 30 (Int32.toNatClampNeg w0))), some (.inl ((sA s 23 (Int32.toNatClampNeg v4)) + v5))]) (st1 := [.inl ((sA s 23 (Int32.toNatClampNeg v4)) + v5), .inr (.inr (some 26)), .inl (sA s 30 (Int32.toNatClampNeg w0)), .inr (.inr (some 29))]) rfl ?_
                obtain ⟨hin, hw⟩ := hw
                refine X_aL rfl rfl hin ?_
                show X _ _ 321 [some (.inr (.inr (some 21))), some (.inl v1), none, some (.inl v3), some (.inl v4), some (.inl v5), some (.inl (sA s 30 (Int32.toNatClampNeg w0))), some (.inl ((sA s 23 (Int32.toNatClampNeg v4)) + v5))] [.inr (.inl (sB s 26 (Int32.toNatClampNeg ((sA s 23 (Int32.toNatClampNeg v4)) + v5)))), .inl (sA s 30 (Int32.toNatClampNeg w0)), .inr (.inr (some 29))] (hp s) _
                refine X_run 1 (i1 := 322) (L1 := [some (.inr (.inr (some 21))), some (.inl v1), none, some (.inl v3), some (.inl v4), some (.inl v5), some (.inl (sA s 30 (Int32.toNatClampNeg w0))), some (.inl ((sA s 23 (Int32.toNatClampNeg v4)) + v5))]) (st1 := [.inl (Int64.toInt32 (sB s 26 (Int32.toNatClampNeg ((sA s 23 (Int32.toNatClampNeg v4)) + v5)))), .inl (sA s 30 (Int32.toNatClampNeg w0)), .inr (.inr (some 29))]) rfl ?_
                refine X_calls m_M_wide (As := [.inl (Int64.toInt32 (sB s 26 (Int32.toNatClampNeg ((sA s 23 (Int32.toNatClampNeg v4)) + v5))))]) (st := [.inl (sA s 30 (Int32.toNatClampNeg w0)), .inr (.inr (some 29))]) ok_M_wide rfl rfl rfl (Nat.le_of_ble_eq_true rfl) (Nat.le_of_ble_eq_true rfl) (c_M_wide (d := d) (Int64.toInt32 (sB s 26 (Int32.toNatClampNeg ((sA s 23 (Int32.toNatClampNeg v4)) + v5))))) ?_
                rintro _ _ ⟨rfl, rfl⟩
                show X _ _ 323 [some (.inr (.inr (some 21))), some (.inl v1), none, some (.inl v3), some (.inl v4), some (.inl v5), some (.inl (sA s 30 (Int32.toNatClampNeg w0))), some (.inl ((sA s 23 (Int32.toNatClampNeg v4)) + v5))] [.inr (.inl (f_M_wide (Int64.toInt32 (sB s 26 (Int32.toNatClampNeg ((sA s 23 (Int32.toNatClampNeg v4)) + v5)))))), .inl (sA s 30 (Int32.toNatClampNeg w0)), .inr (.inr (some 29))] (hp s) _
                obtain ⟨hin, hw⟩ := hw
                refine X_sL rfl rfl hin ?_
                show X _ _ 324 [some (.inr (.inr (some 21))), some (.inl v1), none, some (.inl v3), some (.inl v4), some (.inl v5), some (.inl (sA s 30 (Int32.toNatClampNeg w0))), some (.inl ((sA s 23 (Int32.toNatClampNeg v4)) + v5))] [] (hp (pB s 29 (vp_updL (sB s 29) (Int32.toNatClampNeg (sA s 30 (Int32.toNatClampNeg w0))) (f_M_wide (Int64.toInt32 (sB s 26 (Int32.toNatClampNeg ((sA s 23 (Int32.toNatClampNeg v4)) + v5)))))))) _
                refine X_run 2 (i1 := 335) (L1 := [some (.inr (.inr (some 21))), some (.inl v1), none, some (.inl v3), some (.inl v4), some (.inl v5), some (.inl (sA s 30 (Int32.toNatClampNeg w0))), some (.inl ((sA s 23 (Int32.toNatClampNeg v4)) + v5))]) (st1 := [.inl (0 : Int32)]) rfl ?_
                exact X_iret rfl rfl qIs_i
            · have hw := hw.2 hb
              refine X_run 1 (i1 := 303) (L1 := [some (.inr (.inr (some 21))), some (.inl v1), none, some (.inl v3), some (.inl v4), some (.inl v5), some (.inl (sA s 30 (Int32.toNatClampNeg w0))), some (.inl ((sA s 23 (Int32.toNatClampNeg v4)) + v5))]) (st1 := [.inr (.inr (some 21))]) rfl ?_
              refine X_gF (v := .inr (.inr (some 29))) rfl rfl rfl rfl ?_
              refine X_run 2 (i1 := 306) (L1 := [some (.inr (.inr (some 21))), some (.inl v1), none, some (.inl v3), some (.inl v4), some (.inl v5), some (.inl (sA s 30 (Int32.toNatClampNeg w0))), some (.inl ((sA s 23 (Int32.toNatClampNeg v4)) + v5))]) (st1 := [.inr (.inr (some 21)), .inl (sA s 30 (Int32.toNatClampNeg w0)), .inr (.inr (some 29))]) rfl ?_
              refine X_gF (v := .inr (.inr (some 26))) rfl rfl rfl rfl ?_
              refine X_run 1 (i1 := 308) (L1 := [some (.inr (.inr (some 21))), some (.inl v1), none, some (.inl v3), some (.inl v4), some (.inl v5), some (.inl (sA s 30 (Int32.toNatClampNeg w0))), some (.inl ((sA s 23 (Int32.toNatClampNeg v4)) + v5))]) (st1 := [.inl ((sA s 23 (Int32.toNatClampNeg v4)) + v5), .inr (.inr (some 26)), .inl (sA s 30 (Int32.toNatClampNeg w0)), .inr (.inr (some 29))]) rfl ?_
              obtain ⟨hin, hw⟩ := hw
              refine X_aL rfl rfl hin ?_
              show X _ _ 309 [some (.inr (.inr (some 21))), some (.inl v1), none, some (.inl v3), some (.inl v4), some (.inl v5), some (.inl (sA s 30 (Int32.toNatClampNeg w0))), some (.inl ((sA s 23 (Int32.toNatClampNeg v4)) + v5))] [.inr (.inl (sB s 26 (Int32.toNatClampNeg ((sA s 23 (Int32.toNatClampNeg v4)) + v5)))), .inl (sA s 30 (Int32.toNatClampNeg w0)), .inr (.inr (some 29))] (hp s) _
              obtain ⟨hin, hw⟩ := hw
              refine X_sL rfl rfl hin ?_
              show X _ _ 310 [some (.inr (.inr (some 21))), some (.inl v1), none, some (.inl v3), some (.inl v4), some (.inl v5), some (.inl (sA s 30 (Int32.toNatClampNeg w0))), some (.inl ((sA s 23 (Int32.toNatClampNeg v4)) + v5))] [] (hp (pB s 29 (vp_updL (sB s 29) (Int32.toNatClampNeg (sA s 30 (Int32.toNatClampNeg w0))) (sB s 26 (Int32.toNatClampNeg ((sA s 23 (Int32.toNatClampNeg v4)) + v5)))))) _
              refine X_run 2 (i1 := 335) (L1 := [some (.inr (.inr (some 21))), some (.inl v1), none, some (.inl v3), some (.inl v4), some (.inl v5), some (.inl (sA s 30 (Int32.toNatClampNeg w0))), some (.inl ((sA s 23 (Int32.toNatClampNeg v4)) + v5))]) (st1 := [.inl (0 : Int32)]) rfl ?_
              exact X_iret rfl rfl qIs_i
          · have hw := hw.2 hb
            refine X_run 1 (i1 := 271) (L1 := [some (.inr (.inr (some 21))), some (.inl v1), none, some (.inl v3), some (.inl v4), some (.inl v5), some (.inl (sA s 30 (Int32.toNatClampNeg w0))), some (.inl ((sA s 23 (Int32.toNatClampNeg v4)) + v5))]) (st1 := [.inr (.inr (some 21))]) rfl ?_
            refine X_gF (v := .inr (.inr (some 26))) rfl rfl rfl rfl ?_
            refine X_run 4 (i1 := cond (cn2 .ne v3 (7 : Int32)) 281 276) (L1 := [some (.inr (.inr (some 21))), some (.inl v1), none, some (.inl v3), some (.inl v4), some (.inl v5), some (.inl (sA s 30 (Int32.toNatClampNeg w0))), some (.inl ((sA s 23 (Int32.toNatClampNeg v4)) + v5))]) (st1 := [.inl ((sA s 23 (Int32.toNatClampNeg v4)) + v5), .inr (.inr (some 26))]) rfl ?_
            refine X_brq (fun hb => ?_) (fun hb => ?_)
            · have hw := hw.1 hb
              refine X_run 3 (i1 := cond (cn2 .ne v3 (6 : Int32)) 291 284) (L1 := [some (.inr (.inr (some 21))), some (.inl v1), none, some (.inl v3), some (.inl v4), some (.inl v5), some (.inl (sA s 30 (Int32.toNatClampNeg w0))), some (.inl ((sA s 23 (Int32.toNatClampNeg v4)) + v5))]) (st1 := [.inl ((sA s 23 (Int32.toNatClampNeg v4)) + v5), .inr (.inr (some 26))]) rfl ?_
              refine X_brq (fun hb => ?_) (fun hb => ?_)
              · have hw := hw.1 hb
                refine X_run 2 (i1 := 293) (L1 := [some (.inr (.inr (some 21))), some (.inl v1), none, some (.inl v3), some (.inl v4), some (.inl v5), some (.inl (sA s 30 (Int32.toNatClampNeg w0))), some (.inl ((sA s 23 (Int32.toNatClampNeg v4)) + v5))]) (st1 := [.inr (.inr (some 21)), .inl v3, .inl ((sA s 23 (Int32.toNatClampNeg v4)) + v5), .inr (.inr (some 26))]) rfl ?_
                refine X_gF (v := .inr (.inr (some 28))) rfl rfl rfl rfl ?_
                refine X_run 1 (i1 := 295) (L1 := [some (.inr (.inr (some 21))), some (.inl v1), none, some (.inl v3), some (.inl v4), some (.inl v5), some (.inl (sA s 30 (Int32.toNatClampNeg w0))), some (.inl ((sA s 23 (Int32.toNatClampNeg v4)) + v5))]) (st1 := [.inl (sA s 30 (Int32.toNatClampNeg w0)), .inr (.inr (some 28)), .inl v3, .inl ((sA s 23 (Int32.toNatClampNeg v4)) + v5), .inr (.inr (some 26))]) rfl ?_
                obtain ⟨hin, hw⟩ := hw
                refine X_aI rfl rfl hin ?_
                show X _ _ 296 [some (.inr (.inr (some 21))), some (.inl v1), none, some (.inl v3), some (.inl v4), some (.inl v5), some (.inl (sA s 30 (Int32.toNatClampNeg w0))), some (.inl ((sA s 23 (Int32.toNatClampNeg v4)) + v5))] [.inl (sA s 28 (Int32.toNatClampNeg (sA s 30 (Int32.toNatClampNeg w0)))), .inl v3, .inl ((sA s 23 (Int32.toNatClampNeg v4)) + v5), .inr (.inr (some 26))] (hp s) _
                refine X_calls m_M_cut (As := [.inl v3, .inl (sA s 28 (Int32.toNatClampNeg (sA s 30 (Int32.toNatClampNeg w0))))]) (st := [.inl ((sA s 23 (Int32.toNatClampNeg v4)) + v5), .inr (.inr (some 26))]) ok_M_cut rfl rfl rfl (Nat.le_of_ble_eq_true rfl) (Nat.le_of_ble_eq_true rfl) (c_M_cut (d := d + 3) v3 (sA s 28 (Int32.toNatClampNeg (sA s 30 (Int32.toNatClampNeg w0))))) ?_
                rintro _ _ ⟨rfl, rfl⟩
                show X _ _ 297 [some (.inr (.inr (some 21))), some (.inl v1), none, some (.inl v3), some (.inl v4), some (.inl v5), some (.inl (sA s 30 (Int32.toNatClampNeg w0))), some (.inl ((sA s 23 (Int32.toNatClampNeg v4)) + v5))] [.inr (.inl (f_M_cut v3 (sA s 28 (Int32.toNatClampNeg (sA s 30 (Int32.toNatClampNeg w0)))))), .inl ((sA s 23 (Int32.toNatClampNeg v4)) + v5), .inr (.inr (some 26))] (hp s) _
                show X _ _ 297 [some (.inr (.inr (some 21))), some (.inl v1), none, some (.inl v3), some (.inl v4), some (.inl v5), some (.inl (sA s 30 (Int32.toNatClampNeg w0))), some (.inl ((sA s 23 (Int32.toNatClampNeg v4)) + v5))] [.inr (.inl (f_M_cut v3 (sA s 28 (Int32.toNatClampNeg (sA s 30 (Int32.toNatClampNeg w0)))))), .inl ((sA s 23 (Int32.toNatClampNeg v4)) + v5), .inr (.inr (some 26))] (hp s) _
                refine X_mask [false, false, true, false, false, false, false, false] ?_
                exact ct_M_members_297 fu s (f_M_cut v3 (sA s 28 (Int32.toNatClampNeg (sA s 30 (Int32.toNatClampNeg w0))))) ((sA s 23 (Int32.toNatClampNeg v4)) + v5) hw
              · have hw := hw.2 hb
                refine X_run 1 (i1 := 285) (L1 := [some (.inr (.inr (some 21))), some (.inl v1), none, some (.inl v3), some (.inl v4), some (.inl v5), some (.inl (sA s 30 (Int32.toNatClampNeg w0))), some (.inl ((sA s 23 (Int32.toNatClampNeg v4)) + v5))]) (st1 := [.inr (.inr (some 21)), .inl ((sA s 23 (Int32.toNatClampNeg v4)) + v5), .inr (.inr (some 26))]) rfl ?_
                refine X_gF (v := .inr (.inr (some 29))) rfl rfl rfl rfl ?_
                refine X_run 1 (i1 := 287) (L1 := [some (.inr (.inr (some 21))), some (.inl v1), none, some (.inl v3), some (.inl v4), some (.inl v5), some (.inl (sA s 30 (Int32.toNatClampNeg w0))), some (.inl ((sA s 23 (Int32.toNatClampNeg v4)) + v5))]) (st1 := [.inl (sA s 30 (Int32.toNatClampNeg w0)), .inr (.inr (some 29)), .inl ((sA s 23 (Int32.toNatClampNeg v4)) + v5), .inr (.inr (some 26))]) rfl ?_
                obtain ⟨hin, hw⟩ := hw
                refine X_aL rfl rfl hin ?_
                show X _ _ 288 [some (.inr (.inr (some 21))), some (.inl v1), none, some (.inl v3), some (.inl v4), some (.inl v5), some (.inl (sA s 30 (Int32.toNatClampNeg w0))), some (.inl ((sA s 23 (Int32.toNatClampNeg v4)) + v5))] [.inr (.inl (sB s 29 (Int32.toNatClampNeg (sA s 30 (Int32.toNatClampNeg w0))))), .inl ((sA s 23 (Int32.toNatClampNeg v4)) + v5), .inr (.inr (some 26))] (hp s) _
                refine X_calls m_M_narrow (As := [.inr (.inl (sB s 29 (Int32.toNatClampNeg (sA s 30 (Int32.toNatClampNeg w0)))))]) (st := [.inl ((sA s 23 (Int32.toNatClampNeg v4)) + v5), .inr (.inr (some 26))]) ok_M_narrow rfl rfl rfl (Nat.le_of_ble_eq_true rfl) (Nat.le_of_ble_eq_true rfl) (c_M_narrow (d := d + 1) (sB s 29 (Int32.toNatClampNeg (sA s 30 (Int32.toNatClampNeg w0))))) ?_
                rintro _ _ ⟨rfl, rfl⟩
                show X _ _ 289 [some (.inr (.inr (some 21))), some (.inl v1), none, some (.inl v3), some (.inl v4), some (.inl v5), some (.inl (sA s 30 (Int32.toNatClampNeg w0))), some (.inl ((sA s 23 (Int32.toNatClampNeg v4)) + v5))] [.inl (f_M_narrow (sB s 29 (Int32.toNatClampNeg (sA s 30 (Int32.toNatClampNeg w0))))), .inl ((sA s 23 (Int32.toNatClampNeg v4)) + v5), .inr (.inr (some 26))] (hp s) _
                refine X_run 2 (i1 := 297) (L1 := [some (.inr (.inr (some 21))), some (.inl v1), none, some (.inl v3), some (.inl v4), some (.inl v5), some (.inl (sA s 30 (Int32.toNatClampNeg w0))), some (.inl ((sA s 23 (Int32.toNatClampNeg v4)) + v5))]) (st1 := [.inr (.inl (Int32.toInt64 (f_M_narrow (sB s 29 (Int32.toNatClampNeg (sA s 30 (Int32.toNatClampNeg w0))))))), .inl ((sA s 23 (Int32.toNatClampNeg v4)) + v5), .inr (.inr (some 26))]) rfl ?_
                refine X_mask [false, false, true, false, false, false, false, false] ?_
                exact ct_M_members_297 fu s (Int32.toInt64 (f_M_narrow (sB s 29 (Int32.toNatClampNeg (sA s 30 (Int32.toNatClampNeg w0)))))) ((sA s 23 (Int32.toNatClampNeg v4)) + v5) hw
            · have hw := hw.2 hb
              refine X_run 1 (i1 := 277) (L1 := [some (.inr (.inr (some 21))), some (.inl v1), none, some (.inl v3), some (.inl v4), some (.inl v5), some (.inl (sA s 30 (Int32.toNatClampNeg w0))), some (.inl ((sA s 23 (Int32.toNatClampNeg v4)) + v5))]) (st1 := [.inr (.inr (some 21)), .inl ((sA s 23 (Int32.toNatClampNeg v4)) + v5), .inr (.inr (some 26))]) rfl ?_
              refine X_gF (v := .inr (.inr (some 29))) rfl rfl rfl rfl ?_
              refine X_run 1 (i1 := 279) (L1 := [some (.inr (.inr (some 21))), some (.inl v1), none, some (.inl v3), some (.inl v4), some (.inl v5), some (.inl (sA s 30 (Int32.toNatClampNeg w0))), some (.inl ((sA s 23 (Int32.toNatClampNeg v4)) + v5))]) (st1 := [.inl (sA s 30 (Int32.toNatClampNeg w0)), .inr (.inr (some 29)), .inl ((sA s 23 (Int32.toNatClampNeg v4)) + v5), .inr (.inr (some 26))]) rfl ?_
              obtain ⟨hin, hw⟩ := hw
              refine X_aL rfl rfl hin ?_
              show X _ _ 280 [some (.inr (.inr (some 21))), some (.inl v1), none, some (.inl v3), some (.inl v4), some (.inl v5), some (.inl (sA s 30 (Int32.toNatClampNeg w0))), some (.inl ((sA s 23 (Int32.toNatClampNeg v4)) + v5))] [.inr (.inl (sB s 29 (Int32.toNatClampNeg (sA s 30 (Int32.toNatClampNeg w0))))), .inl ((sA s 23 (Int32.toNatClampNeg v4)) + v5), .inr (.inr (some 26))] (hp s) _
              refine X_run 1 (i1 := 297) (L1 := [some (.inr (.inr (some 21))), some (.inl v1), none, some (.inl v3), some (.inl v4), some (.inl v5), some (.inl (sA s 30 (Int32.toNatClampNeg w0))), some (.inl ((sA s 23 (Int32.toNatClampNeg v4)) + v5))]) (st1 := [.inr (.inl (sB s 29 (Int32.toNatClampNeg (sA s 30 (Int32.toNatClampNeg w0))))), .inl ((sA s 23 (Int32.toNatClampNeg v4)) + v5), .inr (.inr (some 26))]) rfl ?_
              refine X_mask [false, false, true, false, false, false, false, false] ?_
              exact ct_M_members_297 fu s (sB s 29 (Int32.toNatClampNeg (sA s 30 (Int32.toNatClampNeg w0)))) ((sA s 23 (Int32.toNatClampNeg v4)) + v5) hw
        · have hw := hw.2 hb
          refine X_mask [true, false, true, false, false, false, false, true] ?_
          exact ct_M_members_256 fu s hw
    · have hw := hw.2 hb
      refine X_run 2 (i1 := 246) (L1 := [some (.inr (.inr (some 21))), some (.inl v1), none, some (.inl v3), some (.inl v4), some (.inl v5), some (.inl (sA s 30 (Int32.toNatClampNeg w0))), none]) (st1 := [.inl (4 : Int32), .inr (.inr (some 21))]) rfl ?_
      obtain ⟨hc, hw⟩ := hw
      refine X_callv m_M_fails (As := [.inl (4 : Int32)]) (st := []) ok_M_fails rfl rfl rfl (hp_obj rfl) rfl (Nat.le_of_ble_eq_true rfl) (Nat.le_of_ble_eq_true rfl) (c_M_fails (d := d + 1) s (4 : Int32) hc) ?_
      rintro _ _ ⟨rfl, rfl⟩
      show X _ _ 247 [some (.inr (.inr (some 21))), some (.inl v1), none, some (.inl v3), some (.inl v4), some (.inl v5), some (.inl (sA s 30 (Int32.toNatClampNeg w0))), none] [.inl ((f_M_fails s (4 : Int32)).1)] (hp ((f_M_fails s (4 : Int32)).2)) _
      exact X_iret rfl rfl qIs_p
  · have hw := hw.2 hb
    refine X_run 2 (i1 := 236) (L1 := [some (.inr (.inr (some 21))), some (.inl v1), none, some (.inl v3), some (.inl v4), some (.inl v5), some (.inl (sA s 30 (Int32.toNatClampNeg w0))), none]) (st1 := [.inl (1 : Int32), .inr (.inr (some 21))]) rfl ?_
    obtain ⟨hc, hw⟩ := hw
    refine X_callv m_M_fails (As := [.inl (1 : Int32)]) (st := []) ok_M_fails rfl rfl rfl (hp_obj rfl) rfl (Nat.le_of_ble_eq_true rfl) (Nat.le_of_ble_eq_true rfl) (c_M_fails (d := d + 1) s (1 : Int32) hc) ?_
    rintro _ _ ⟨rfl, rfl⟩
    show X _ _ 237 [some (.inr (.inr (some 21))), some (.inl v1), none, some (.inl v3), some (.inl v4), some (.inl v5), some (.inl (sA s 30 (Int32.toNatClampNeg w0))), none] [.inl ((f_M_fails s (1 : Int32)).1)] (hp ((f_M_fails s (1 : Int32)).2)) _
    exact X_iret rfl rfl qIs_p
def t_M_members_215 (fu : Nat) (s : St) (v1 : Int32) (v2 : Int32) (v3 : Int32) (v4 : Int32) (w0 : Int32) : Int32 × St := (cond (cn2 .ne v1 (19 : Int32)) (t_M_members_230 fu s v1 v3 v4 (sA s 28 (Int32.toNatClampNeg (sA s 30 (Int32.toNatClampNeg w0)))) (v2 + (3 : Int32))) (t_M_members_230 fu s v1 v3 v4 (sA s 28 (Int32.toNatClampNeg (sA s 30 (Int32.toNatClampNeg w0)))) (v2 + (1 : Int32))))
def w_M_members_215 (fu : Nat) (s : St) (v1 : Int32) (v2 : Int32) (v3 : Int32) (v4 : Int32) (w0 : Int32) : Prop := (vp_in w0 3200 ∧ (vp_in (sA s 30 (Int32.toNatClampNeg w0)) 8 ∧ ((cn2 .ne v1 (19 : Int32)) = true → (w_M_members_230 fu s v1 v3 v4 (sA s 28 (Int32.toNatClampNeg (sA s 30 (Int32.toNatClampNeg w0)))) (v2 + (3 : Int32)))) ∧ ((cn2 .ne v1 (19 : Int32)) = false → (w_M_members_230 fu s v1 v3 v4 (sA s 28 (Int32.toNatClampNeg (sA s 30 (Int32.toNatClampNeg w0)))) (v2 + (1 : Int32))))))
theorem ct_M_members_215 {d : Nat} (fu : Nat) (s : St) (v1 : Int32) (v2 : Int32) (v3 : Int32) (v4 : Int32) (w0 : Int32) (hw : w_M_members_215 fu s v1 v2 v3 v4 w0) : X m_M_members (d + 4) 215 [some (.inr (.inr (some 21))), some (.inl v1), some (.inl v2), some (.inl v3), some (.inl v4), none, none, none] [.inl w0, .inr (.inr (some 30)), .inr (.inr (some 28))] (hp s) (qIs (t_M_members_215 fu s v1 v2 v3 v4 w0)) := by
  unfold t_M_members_215
  unfold w_M_members_215 at hw
  obtain ⟨hin, hw⟩ := hw
  refine X_aI rfl rfl hin ?_
  show X _ _ 216 [some (.inr (.inr (some 21))), some (.inl v1), some (.inl v2), some (.inl v3), some (.inl v4), none, none, none] [.inl (sA s 30 (Int32.toNatClampNeg w0)), .inr (.inr (some 28))] (hp s) _
  obtain ⟨hin, hw⟩ := hw
  refine X_aI rfl rfl hin ?_
  show X _ _ 217 [some (.inr (.inr (some 21))), some (.inl v1), some (.inl v2), some (.inl v3), some (.inl v4), none, none, none] [.inl (sA s 28 (Int32.toNatClampNeg (sA s 30 (Int32.toNatClampNeg w0))))] (hp s) _
  refine X_run 2 (i1 := 219) (L1 := [some (.inr (.inr (some 21))), some (.inl v1), some (.inl v2), some (.inl v3), some (.inl v4), some (.inl (sA s 28 (Int32.toNatClampNeg (sA s 30 (Int32.toNatClampNeg w0))))), none, none]) (st1 := [.inr (.inr (some 21))]) rfl ?_
  refine X_gF (v := .inr (.inr (some 30))) rfl rfl rfl rfl ?_
  refine X_run 3 (i1 := cond (cn2 .ne v1 (19 : Int32)) 227 223) (L1 := [some (.inr (.inr (some 21))), some (.inl v1), some (.inl v2), some (.inl v3), some (.inl v4), some (.inl (sA s 28 (Int32.toNatClampNeg (sA s 30 (Int32.toNatClampNeg w0))))), none, none]) (st1 := [.inr (.inr (some 30))]) rfl ?_
  refine X_brq (fun hb => ?_) (fun hb => ?_)
  · have hw := hw.1 hb
    refine X_run 3 (i1 := 230) (L1 := [some (.inr (.inr (some 21))), some (.inl v1), some (.inl v2), some (.inl v3), some (.inl v4), some (.inl (sA s 28 (Int32.toNatClampNeg (sA s 30 (Int32.toNatClampNeg w0))))), none, none]) (st1 := [.inl (v2 + (3 : Int32)), .inr (.inr (some 30))]) rfl ?_
    refine X_mask [true, true, false, true, true, true, true, true] ?_
    exact ct_M_members_230 fu s v1 v3 v4 (sA s 28 (Int32.toNatClampNeg (sA s 30 (Int32.toNatClampNeg w0)))) (v2 + (3 : Int32)) hw
  · have hw := hw.2 hb
    refine X_run 4 (i1 := 230) (L1 := [some (.inr (.inr (some 21))), some (.inl v1), some (.inl v2), some (.inl v3), some (.inl v4), some (.inl (sA s 28 (Int32.toNatClampNeg (sA s 30 (Int32.toNatClampNeg w0))))), none, none]) (st1 := [.inl (v2 + (1 : Int32)), .inr (.inr (some 30))]) rfl ?_
    refine X_mask [true, true, false, true, true, true, true, true] ?_
    exact ct_M_members_230 fu s v1 v3 v4 (sA s 28 (Int32.toNatClampNeg (sA s 30 (Int32.toNatClampNeg w0)))) (v2 + (1 : Int32)) hw
def t_M_members_198 (fu : Nat) (s : St) (v1 : Int32) (v2 : Int32) (v3 : Int32) (w0 : Int32) : Int32 × St := (cond (cn2 .ne v1 (19 : Int32)) (t_M_members_215 fu s v1 v2 v3 (sA s 27 (Int32.toNatClampNeg (sA s 30 (Int32.toNatClampNeg w0)))) (v2 + (2 : Int32))) (t_M_members_215 fu s v1 v2 v3 (sA s 27 (Int32.toNatClampNeg (sA s 30 (Int32.toNatClampNeg w0)))) (v2 + (3 : Int32))))
def w_M_members_198 (fu : Nat) (s : St) (v1 : Int32) (v2 : Int32) (v3 : Int32) (w0 : Int32) : Prop := (vp_in w0 3200 ∧ (vp_in (sA s 30 (Int32.toNatClampNeg w0)) 16 ∧ ((cn2 .ne v1 (19 : Int32)) = true → (w_M_members_215 fu s v1 v2 v3 (sA s 27 (Int32.toNatClampNeg (sA s 30 (Int32.toNatClampNeg w0)))) (v2 + (2 : Int32)))) ∧ ((cn2 .ne v1 (19 : Int32)) = false → (w_M_members_215 fu s v1 v2 v3 (sA s 27 (Int32.toNatClampNeg (sA s 30 (Int32.toNatClampNeg w0)))) (v2 + (3 : Int32))))))
theorem ct_M_members_198 {d : Nat} (fu : Nat) (s : St) (v1 : Int32) (v2 : Int32) (v3 : Int32) (w0 : Int32) (hw : w_M_members_198 fu s v1 v2 v3 w0) : X m_M_members (d + 4) 198 [some (.inr (.inr (some 21))), some (.inl v1), some (.inl v2), some (.inl v3), none, none, none, none] [.inl w0, .inr (.inr (some 30)), .inr (.inr (some 27))] (hp s) (qIs (t_M_members_198 fu s v1 v2 v3 w0)) := by
  unfold t_M_members_198
  unfold w_M_members_198 at hw
  obtain ⟨hin, hw⟩ := hw
  refine X_aI rfl rfl hin ?_
  show X _ _ 199 [some (.inr (.inr (some 21))), some (.inl v1), some (.inl v2), some (.inl v3), none, none, none, none] [.inl (sA s 30 (Int32.toNatClampNeg w0)), .inr (.inr (some 27))] (hp s) _
  obtain ⟨hin, hw⟩ := hw
  refine X_aI rfl rfl hin ?_
  show X _ _ 200 [some (.inr (.inr (some 21))), some (.inl v1), some (.inl v2), some (.inl v3), none, none, none, none] [.inl (sA s 27 (Int32.toNatClampNeg (sA s 30 (Int32.toNatClampNeg w0))))] (hp s) _
  refine X_run 2 (i1 := 202) (L1 := [some (.inr (.inr (some 21))), some (.inl v1), some (.inl v2), some (.inl v3), some (.inl (sA s 27 (Int32.toNatClampNeg (sA s 30 (Int32.toNatClampNeg w0))))), none, none, none]) (st1 := [.inr (.inr (some 21))]) rfl ?_
  refine X_gF (v := .inr (.inr (some 28))) rfl rfl rfl rfl ?_
  refine X_run 1 (i1 := 204) (L1 := [some (.inr (.inr (some 21))), some (.inl v1), some (.inl v2), some (.inl v3), some (.inl (sA s 27 (Int32.toNatClampNeg (sA s 30 (Int32.toNatClampNeg w0))))), none, none, none]) (st1 := [.inr (.inr (some 21)), .inr (.inr (some 28))]) rfl ?_
  refine X_gF (v := .inr (.inr (some 30))) rfl rfl rfl rfl ?_
  refine X_run 3 (i1 := cond (cn2 .ne v1 (19 : Int32)) 212 208) (L1 := [some (.inr (.inr (some 21))), some (.inl v1), some (.inl v2), some (.inl v3), some (.inl (sA s 27 (Int32.toNatClampNeg (sA s 30 (Int32.toNatClampNeg w0))))), none, none, none]) (st1 := [.inr (.inr (some 30)), .inr (.inr (some 28))]) rfl ?_
  refine X_brq (fun hb => ?_) (fun hb => ?_)
  · have hw := hw.1 hb
    refine X_run 3 (i1 := 215) (L1 := [some (.inr (.inr (some 21))), some (.inl v1), some (.inl v2), some (.inl v3), some (.inl (sA s 27 (Int32.toNatClampNeg (sA s 30 (Int32.toNatClampNeg w0))))), none, none, none]) (st1 := [.inl (v2 + (2 : Int32)), .inr (.inr (some 30)), .inr (.inr (some 28))]) rfl ?_
    exact ct_M_members_215 fu s v1 v2 v3 (sA s 27 (Int32.toNatClampNeg (sA s 30 (Int32.toNatClampNeg w0)))) (v2 + (2 : Int32)) hw
  · have hw := hw.2 hb
    refine X_run 4 (i1 := 215) (L1 := [some (.inr (.inr (some 21))), some (.inl v1), some (.inl v2), some (.inl v3), some (.inl (sA s 27 (Int32.toNatClampNeg (sA s 30 (Int32.toNatClampNeg w0))))), none, none, none]) (st1 := [.inl (v2 + (3 : Int32)), .inr (.inr (some 30)), .inr (.inr (some 28))]) rfl ?_
    exact ct_M_members_215 fu s v1 v2 v3 (sA s 27 (Int32.toNatClampNeg (sA s 30 (Int32.toNatClampNeg w0)))) (v2 + (3 : Int32)) hw
def t_M_members_170 (fu : Nat) (s : St) (v3 : Int32) (w0 : Int32) (w1 : Int32) : Int32 × St := (f_M_takesFor (pA s 27 (upd (sA s 27) (Int32.toNatClampNeg w1) w0)) (Int32.toInt64 (sA s 24 (Int32.toNatClampNeg v3))))
def w_M_members_170 (fu : Nat) (s : St) (v3 : Int32) (w0 : Int32) (w1 : Int32) : Prop := (vp_in w1 16 ∧ (vp_in v3 40001 ∧ (w_M_takesFor (pA s 27 (upd (sA s 27) (Int32.toNatClampNeg w1) w0)) (Int32.toInt64 (sA s 24 (Int32.toNatClampNeg v3))) ∧ True)))
theorem ct_M_members_170 {d : Nat} (fu : Nat) (s : St) (v3 : Int32) (w0 : Int32) (w1 : Int32) (hw : w_M_members_170 fu s v3 w0 w1) : X m_M_members (d + 4) 170 [some (.inr (.inr (some 21))), none, none, some (.inl v3), none, none, none, none] [.inl w0, .inl w1, .inr (.inr (some 27))] (hp s) (qIs (t_M_members_170 fu s v3 w0 w1)) := by
  unfold t_M_members_170
  unfold w_M_members_170 at hw
  obtain ⟨hin, hw⟩ := hw
  refine X_sI rfl rfl hin ?_
  show X _ _ 171 [some (.inr (.inr (some 21))), none, none, some (.inl v3), none, none, none, none] [] (hp (pA s 27 (upd (sA s 27) (Int32.toNatClampNeg w1) w0))) _
  refine X_run 2 (i1 := 173) (L1 := [some (.inr (.inr (some 21))), none, none, some (.inl v3), none, none, none, none]) (st1 := [.inr (.inr (some 21)), .inr (.inr (some 21))]) rfl ?_
  refine X_gF (v := .inr (.inr (some 24))) rfl rfl rfl rfl ?_
  refine X_run 1 (i1 := 175) (L1 := [some (.inr (.inr (some 21))), none, none, some (.inl v3), none, none, none, none]) (st1 := [.inl v3, .inr (.inr (some 24)), .inr (.inr (some 21))]) rfl ?_
  obtain ⟨hin, hw⟩ := hw
  refine X_aI rfl rfl hin ?_
  show X _ _ 176 [some (.inr (.inr (some 21))), none, none, some (.inl v3), none, none, none, none] [.inl (sA s 24 (Int32.toNatClampNeg v3)), .inr (.inr (some 21))] (hp (pA s 27 (upd (sA s 27) (Int32.toNatClampNeg w1) w0))) _
  refine X_run 1 (i1 := 177) (L1 := [some (.inr (.inr (some 21))), none, none, some (.inl v3), none, none, none, none]) (st1 := [.inr (.inl (Int32.toInt64 (sA s 24 (Int32.toNatClampNeg v3)))), .inr (.inr (some 21))]) rfl ?_
  obtain ⟨hc, hw⟩ := hw
  refine X_callv m_M_takesFor (As := [.inr (.inl (Int32.toInt64 (sA s 24 (Int32.toNatClampNeg v3))))]) (st := []) ok_M_takesFor rfl rfl rfl (hp_obj rfl) rfl (Nat.le_of_ble_eq_true rfl) (Nat.le_of_ble_eq_true rfl) (c_M_takesFor (d := d + 2) (pA s 27 (upd (sA s 27) (Int32.toNatClampNeg w1) w0)) (Int32.toInt64 (sA s 24 (Int32.toNatClampNeg v3))) hc) ?_
  rintro _ _ ⟨rfl, rfl⟩
  show X _ _ 178 [some (.inr (.inr (some 21))), none, none, some (.inl v3), none, none, none, none] [.inl ((f_M_takesFor (pA s 27 (upd (sA s 27) (Int32.toNatClampNeg w1) w0)) (Int32.toInt64 (sA s 24 (Int32.toNatClampNeg v3)))).1)] (hp ((f_M_takesFor (pA s 27 (upd (sA s 27) (Int32.toNatClampNeg w1) w0)) (Int32.toInt64 (sA s 24 (Int32.toNatClampNeg v3)))).2)) _
  exact X_iret rfl rfl qIs_p
def t_M_members_158 (fu : Nat) (s : St) (v2 : Int32) (v3 : Int32) (w0 : Int32) : Int32 × St := (cond (cn1 .ne w0) (t_M_members_170 fu ((f_M_cloned fu s v3).2) v3 ((f_M_cloned fu s v3).1) (sA s 30 (Int32.toNatClampNeg v2))) ((3 : Int32), s))
def w_M_members_158 (fu : Nat) (s : St) (v2 : Int32) (v3 : Int32) (w0 : Int32) : Prop := ((cn1 .ne w0) = true → (vp_in v2 3200 ∧ (w_M_cloned fu s v3 ∧ (w_M_members_170 fu ((f_M_cloned fu s v3).2) v3 ((f_M_cloned fu s v3).1) (sA s 30 (Int32.toNatClampNeg v2)))))) ∧ ((cn1 .ne w0) = false → True)
theorem ct_M_members_158 {d : Nat} (fu : Nat) (s : St) (v2 : Int32) (v3 : Int32) (w0 : Int32) (hw : w_M_members_158 fu s v2 v3 w0) : X m_M_members (d + 4) 158 [some (.inr (.inr (some 21))), none, some (.inl v2), some (.inl v3), none, none, none, none] [.inl w0] (hp s) (qIs (t_M_members_158 fu s v2 v3 w0)) := by
  unfold t_M_members_158
  unfold w_M_members_158 at hw
  refine X_run 1 (i1 := cond (cn1 .ne w0) 161 159) (L1 := [some (.inr (.inr (some 21))), none, some (.inl v2), some (.inl v3), none, none, none, none]) (st1 := []) rfl ?_
  refine X_brq (fun hb => ?_) (fun hb => ?_)
  · have hw := hw.1 hb
    refine X_run 1 (i1 := 162) (L1 := [some (.inr (.inr (some 21))), none, some (.inl v2), some (.inl v3), none, none, none, none]) (st1 := [.inr (.inr (some 21))]) rfl ?_
    refine X_gF (v := .inr (.inr (some 27))) rfl rfl rfl rfl ?_
    refine X_run 1 (i1 := 164) (L1 := [some (.inr (.inr (some 21))), none, some (.inl v2), some (.inl v3), none, none, none, none]) (st1 := [.inr (.inr (some 21)), .inr (.inr (some 27))]) rfl ?_
    refine X_gF (v := .inr (.inr (some 30))) rfl rfl rfl rfl ?_
    refine X_run 1 (i1 := 166) (L1 := [some (.inr (.inr (some 21))), none, some (.inl v2), some (.inl v3), none, none, none, none]) (st1 := [.inl v2, .inr (.inr (some 30)), .inr (.inr (some 27))]) rfl ?_
    obtain ⟨hin, hw⟩ := hw
    refine X_aI rfl rfl hin ?_
    show X _ _ 167 [some (.inr (.inr (some 21))), none, some (.inl v2), some (.inl v3), none, none, none, none] [.inl (sA s 30 (Int32.toNatClampNeg v2)), .inr (.inr (some 27))] (hp s) _
    refine X_run 2 (i1 := 169) (L1 := [some (.inr (.inr (some 21))), none, some (.inl v2), some (.inl v3), none, none, none, none]) (st1 := [.inl v3, .inr (.inr (some 21)), .inl (sA s 30 (Int32.toNatClampNeg v2)), .inr (.inr (some 27))]) rfl ?_
    obtain ⟨hc, hw⟩ := hw
    refine X_callv m_M_cloned (As := [.inl v3]) (st := [.inl (sA s 30 (Int32.toNatClampNeg v2)), .inr (.inr (some 27))]) ok_M_cloned rfl rfl rfl (hp_obj rfl) rfl (Nat.le_of_ble_eq_true rfl) (Nat.le_of_ble_eq_true rfl) (c_M_cloned (d := d + 2) fu s v3 hc) ?_
    rintro _ _ ⟨rfl, rfl⟩
    show X _ _ 170 [some (.inr (.inr (some 21))), none, some (.inl v2), some (.inl v3), none, none, none, none] [.inl ((f_M_cloned fu s v3).1), .inl (sA s 30 (Int32.toNatClampNeg v2)), .inr (.inr (some 27))] (hp ((f_M_cloned fu s v3).2)) _
    show X _ _ 170 [some (.inr (.inr (some 21))), none, some (.inl v2), some (.inl v3), none, none, none, none] [.inl ((f_M_cloned fu s v3).1), .inl (sA s 30 (Int32.toNatClampNeg v2)), .inr (.inr (some 27))] (hp ((f_M_cloned fu s v3).2)) _
    refine X_mask [true, true, false, true, true, true, true, true] ?_
    exact ct_M_members_170 fu ((f_M_cloned fu s v3).2) v3 ((f_M_cloned fu s v3).1) (sA s 30 (Int32.toNatClampNeg v2)) hw
  · skip
    refine X_run 1 (i1 := 160) (L1 := [some (.inr (.inr (some 21))), none, some (.inl v2), some (.inl v3), none, none, none, none]) (st1 := [.inl (3 : Int32)]) rfl ?_
    exact X_iret rfl rfl qIs_i
def t_M_members_70 (fu : Nat) (s : St) (w0 : Int32) (w1 : Int32) : Int32 × St := ((0 : Int32), pA s 28 (upd (sA s 28) (Int32.toNatClampNeg w1) w0))
def w_M_members_70 (fu : Nat) (s : St) (w0 : Int32) (w1 : Int32) : Prop := (vp_in w1 8 ∧ True)
theorem ct_M_members_70 {d : Nat} (fu : Nat) (s : St) (w0 : Int32) (w1 : Int32) (hw : w_M_members_70 fu s w0 w1) : X m_M_members (d + 4) 70 [none, none, none, none, none, none, none, none] [.inl w0, .inl w1, .inr (.inr (some 28))] (hp s) (qIs (t_M_members_70 fu s w0 w1)) := by
  unfold t_M_members_70
  unfold w_M_members_70 at hw
  obtain ⟨hin, hw⟩ := hw
  refine X_sI rfl rfl hin ?_
  show X _ _ 71 [none, none, none, none, none, none, none, none] [] (hp (pA s 28 (upd (sA s 28) (Int32.toNatClampNeg w1) w0))) _
  refine X_run 1 (i1 := 72) (L1 := [none, none, none, none, none, none, none, none]) (st1 := [.inl (0 : Int32)]) rfl ?_
  exact X_iret rfl rfl qIs_i
def f_M_members (fu : Nat) (s : St) (a0 : Int32) (a1 : Int32) : Int32 × St := (cond (cn2 .ne a0 (17 : Int32)) (cond (cn2 .ne a0 (18 : Int32)) (cond (cn2 .ne a0 (21 : Int32)) (cond (cn2 .ne a0 (22 : Int32)) (cond (cn2 .ne a0 (19 : Int32)) (t_M_members_198 fu s a0 a1 (sA s 30 (Int32.toNatClampNeg a1)) (a1 + (1 : Int32))) (t_M_members_198 fu s a0 a1 (sA s 30 (Int32.toNatClampNeg a1)) (a1 + (2 : Int32)))) (cond (cn1 .ne (sA s 27 (Int32.toNatClampNeg (sA s 30 (Int32.toNatClampNeg (a1 + (1 : Int32))))))) (cond (cn1 .ne (b2i (f_M_hasMembers s (sA s 27 (Int32.toNatClampNeg (sA s 30 (Int32.toNatClampNeg (a1 + (1 : Int32))))))))) (t_M_members_158 fu ((f_M_pays s ((1 : Int64) + (Int32.toInt64 (sA s 24 (Int32.toNatClampNeg (sA s 27 (Int32.toNatClampNeg (sA s 30 (Int32.toNatClampNeg (a1 + (1 : Int32))))))))))).2) a1 (sA s 27 (Int32.toNatClampNeg (sA s 30 (Int32.toNatClampNeg (a1 + (1 : Int32)))))) (b2i (f_M_pays s ((1 : Int64) + (Int32.toInt64 (sA s 24 (Int32.toNatClampNeg (sA s 27 (Int32.toNatClampNeg (sA s 30 (Int32.toNatClampNeg (a1 + (1 : Int32))))))))))).1)) (f_M_fails s (4 : Int32))) (f_M_fails s (1 : Int32)))) (f_M_copies fu s (sA s 27 (Int32.toNatClampNeg (sA s 30 (Int32.toNatClampNeg a1)))) (sA s 28 (Int32.toNatClampNeg (sA s 30 (Int32.toNatClampNeg (a1 + (1 : Int32)))))) (sA s 27 (Int32.toNatClampNeg (sA s 30 (Int32.toNatClampNeg (a1 + (2 : Int32)))))) (sA s 28 (Int32.toNatClampNeg (sA s 30 (Int32.toNatClampNeg (a1 + (3 : Int32)))))) (sA s 28 (Int32.toNatClampNeg (sA s 30 (Int32.toNatClampNeg (a1 + (4 : Int32)))))))) (cond (cn1 .eq (b2i (f_M_is s (sA s 27 (Int32.toNatClampNeg (sA s 30 (Int32.toNatClampNeg (a1 + (1 : Int32)))))) (sA s 30 (Int32.toNatClampNeg (a1 + (2 : Int32))))))) (t_M_members_70 fu s (0 : Int32) (sA s 30 (Int32.toNatClampNeg a1))) (t_M_members_70 fu s (1 : Int32) (sA s 30 (Int32.toNatClampNeg a1))))) (cond (cn1 .ne (sA s 27 (Int32.toNatClampNeg (sA s 30 (Int32.toNatClampNeg (a1 + (1 : Int32))))))) (cond (cn1 .ne (b2i (f_M_hasMembers s (sA s 27 (Int32.toNatClampNeg (sA s 30 (Int32.toNatClampNeg (a1 + (1 : Int32))))))))) ((0 : Int32), pA s 28 (upd (sA s 28) (Int32.toNatClampNeg (sA s 30 (Int32.toNatClampNeg a1))) (sA s 24 (Int32.toNatClampNeg (sA s 27 (Int32.toNatClampNeg (sA s 30 (Int32.toNatClampNeg (a1 + (1 : Int32)))))))))) (f_M_fails s (4 : Int32))) (f_M_fails s (1 : Int32))))
def w_M_members (fu : Nat) (s : St) (a0 : Int32) (a1 : Int32) : Prop := ((cn2 .ne a0 (17 : Int32)) = true → ((cn2 .ne a0 (18 : Int32)) = true → ((cn2 .ne a0 (21 : Int32)) = true → ((cn2 .ne a0 (22 : Int32)) = true → (vp_in a1 3200 ∧ ((cn2 .ne a0 (19 : Int32)) = true → (w_M_members_198 fu s a0 a1 (sA s 30 (Int32.toNatClampNeg a1)) (a1 + (1 : Int32)))) ∧ ((cn2 .ne a0 (19 : Int32)) = false → (w_M_members_198 fu s a0 a1 (sA s 30 (Int32.toNatClampNeg a1)) (a1 + (2 : Int32)))))) ∧ ((cn2 .ne a0 (22 : Int32)) = false → (vp_in (a1 + (1 : Int32)) 3200 ∧ (vp_in (sA s 30 (Int32.toNatClampNeg (a1 + (1 : Int32)))) 16 ∧ ((cn1 .ne (sA s 27 (Int32.toNatClampNeg (sA s 30 (Int32.toNatClampNeg (a1 + (1 : Int32))))))) = true → (w_M_hasMembers s (sA s 27 (Int32.toNatClampNeg (sA s 30 (Int32.toNatClampNeg (a1 + (1 : Int32)))))) ∧ ((cn1 .ne (b2i (f_M_hasMembers s (sA s 27 (Int32.toNatClampNeg (sA s 30 (Int32.toNatClampNeg (a1 + (1 : Int32))))))))) = true → (vp_in (sA s 27 (Int32.toNatClampNeg (sA s 30 (Int32.toNatClampNeg (a1 + (1 : Int32)))))) 40001 ∧ (w_M_pays s ((1 : Int64) + (Int32.toInt64 (sA s 24 (Int32.toNatClampNeg (sA s 27 (Int32.toNatClampNeg (sA s 30 (Int32.toNatClampNeg (a1 + (1 : Int32)))))))))) ∧ (w_M_members_158 fu ((f_M_pays s ((1 : Int64) + (Int32.toInt64 (sA s 24 (Int32.toNatClampNeg (sA s 27 (Int32.toNatClampNeg (sA s 30 (Int32.toNatClampNeg (a1 + (1 : Int32))))))))))).2) a1 (sA s 27 (Int32.toNatClampNeg (sA s 30 (Int32.toNatClampNeg (a1 + (1 : Int32)))))) (b2i (f_M_pays s ((1 : Int64) + (Int32.toInt64 (sA s 24 (Int32.toNatClampNeg (sA s 27 (Int32.toNatClampNeg (sA s 30 (Int32.toNatClampNeg (a1 + (1 : Int32))))))))))).1))))) ∧ ((cn1 .ne (b2i (f_M_hasMembers s (sA s 27 (Int32.toNatClampNeg (sA s 30 (Int32.toNatClampNeg (a1 + (1 : Int32))))))))) = false → (w_M_fails s (4 : Int32) ∧ True)))) ∧ ((cn1 .ne (sA s 27 (Int32.toNatClampNeg (sA s 30 (Int32.toNatClampNeg (a1 + (1 : Int32))))))) = false → (w_M_fails s (1 : Int32) ∧ True)))))) ∧ ((cn2 .ne a0 (21 : Int32)) = false → (vp_in a1 3200 ∧ (vp_in (sA s 30 (Int32.toNatClampNeg a1)) 16 ∧ (vp_in (a1 + (1 : Int32)) 3200 ∧ (vp_in (sA s 30 (Int32.toNatClampNeg (a1 + (1 : Int32)))) 8 ∧ (vp_in (a1 + (2 : Int32)) 3200 ∧ (vp_in (sA s 30 (Int32.toNatClampNeg (a1 + (2 : Int32)))) 16 ∧ (vp_in (a1 + (3 : Int32)) 3200 ∧ (vp_in (sA s 30 (Int32.toNatClampNeg (a1 + (3 : Int32)))) 8 ∧ (vp_in (a1 + (4 : Int32)) 3200 ∧ (vp_in (sA s 30 (Int32.toNatClampNeg (a1 + (4 : Int32)))) 8 ∧ (w_M_copies fu s (sA s 27 (Int32.toNatClampNeg (sA s 30 (Int32.toNatClampNeg a1)))) (sA s 28 (Int32.toNatClampNeg (sA s 30 (Int32.toNatClampNeg (a1 + (1 : Int32)))))) (sA s 27 (Int32.toNatClampNeg (sA s 30 (Int32.toNatClampNeg (a1 + (2 : Int32)))))) (sA s 28 (Int32.toNatClampNeg (sA s 30 (Int32.toNatClampNeg (a1 + (3 : Int32)))))) (sA s 28 (Int32.toNatClampNeg (sA s 30 (Int32.toNatClampNeg (a1 + (4 : Int32)))))) ∧ True))))))))))))) ∧ ((cn2 .ne a0 (18 : Int32)) = false → (vp_in a1 3200 ∧ (vp_in (a1 + (1 : Int32)) 3200 ∧ (vp_in (sA s 30 (Int32.toNatClampNeg (a1 + (1 : Int32)))) 16 ∧ (vp_in (a1 + (2 : Int32)) 3200 ∧ (w_M_is s (sA s 27 (Int32.toNatClampNeg (sA s 30 (Int32.toNatClampNeg (a1 + (1 : Int32)))))) (sA s 30 (Int32.toNatClampNeg (a1 + (2 : Int32)))) ∧ ((cn1 .eq (b2i (f_M_is s (sA s 27 (Int32.toNatClampNeg (sA s 30 (Int32.toNatClampNeg (a1 + (1 : Int32)))))) (sA s 30 (Int32.toNatClampNeg (a1 + (2 : Int32))))))) = true → (w_M_members_70 fu s (0 : Int32) (sA s 30 (Int32.toNatClampNeg a1)))) ∧ ((cn1 .eq (b2i (f_M_is s (sA s 27 (Int32.toNatClampNeg (sA s 30 (Int32.toNatClampNeg (a1 + (1 : Int32)))))) (sA s 30 (Int32.toNatClampNeg (a1 + (2 : Int32))))))) = false → (w_M_members_70 fu s (1 : Int32) (sA s 30 (Int32.toNatClampNeg a1))))))))))) ∧ ((cn2 .ne a0 (17 : Int32)) = false → (vp_in (a1 + (1 : Int32)) 3200 ∧ (vp_in (sA s 30 (Int32.toNatClampNeg (a1 + (1 : Int32)))) 16 ∧ ((cn1 .ne (sA s 27 (Int32.toNatClampNeg (sA s 30 (Int32.toNatClampNeg (a1 + (1 : Int32))))))) = true → (w_M_hasMembers s (sA s 27 (Int32.toNatClampNeg (sA s 30 (Int32.toNatClampNeg (a1 + (1 : Int32)))))) ∧ ((cn1 .ne (b2i (f_M_hasMembers s (sA s 27 (Int32.toNatClampNeg (sA s 30 (Int32.toNatClampNeg (a1 + (1 : Int32))))))))) = true → (vp_in a1 3200 ∧ (vp_in (sA s 27 (Int32.toNatClampNeg (sA s 30 (Int32.toNatClampNeg (a1 + (1 : Int32)))))) 40001 ∧ (vp_in (sA s 30 (Int32.toNatClampNeg a1)) 8 ∧ True)))) ∧ ((cn1 .ne (b2i (f_M_hasMembers s (sA s 27 (Int32.toNatClampNeg (sA s 30 (Int32.toNatClampNeg (a1 + (1 : Int32))))))))) = false → (w_M_fails s (4 : Int32) ∧ True)))) ∧ ((cn1 .ne (sA s 27 (Int32.toNatClampNeg (sA s 30 (Int32.toNatClampNeg (a1 + (1 : Int32))))))) = false → (w_M_fails s (1 : Int32) ∧ True)))))
theorem c_M_members {d : Nat} (fu : Nat) (s : St) (a0 : Int32) (a1 : Int32) (hw : w_M_members fu s a0 a1) : X m_M_members (d + 4) 0 (entL 8 [.inr (.inr (some 21)), .inl a0, .inl a1]) [] (hp s) (qIs (f_M_members fu s a0 a1)) := by
  unfold f_M_members
  unfold w_M_members at hw
  refine X_run 3 (i1 := cond (cn2 .ne a0 (17 : Int32)) 40 3) (L1 := [some (.inr (.inr (some 21))), some (.inl a0), some (.inl a1), none, none, none, none, none]) (st1 := []) rfl ?_
  refine X_brq (fun hb => ?_) (fun hb => ?_)
  · have hw := hw.1 hb
    refine X_run 3 (i1 := cond (cn2 .ne a0 (18 : Int32)) 73 43) (L1 := [some (.inr (.inr (some 21))), some (.inl a0), some (.inl a1), none, none, none, none, none]) (st1 := []) rfl ?_
    refine X_brq (fun hb => ?_) (fun hb => ?_)
    · have hw := hw.1 hb
      refine X_run 3 (i1 := cond (cn2 .ne a0 (21 : Int32)) 122 76) (L1 := [some (.inr (.inr (some 21))), some (.inl a0), some (.inl a1), none, none, none, none, none]) (st1 := []) rfl ?_
      refine X_brq (fun hb => ?_) (fun hb => ?_)
      · have hw := hw.1 hb
        refine X_run 3 (i1 := cond (cn2 .ne a0 (22 : Int32)) 179 125) (L1 := [some (.inr (.inr (some 21))), some (.inl a0), some (.inl a1), none, none, none, none, none]) (st1 := []) rfl ?_
        refine X_brq (fun hb => ?_) (fun hb => ?_)
        · have hw := hw.1 hb
          refine X_run 1 (i1 := 180) (L1 := [some (.inr (.inr (some 21))), some (.inl a0), some (.inl a1), none, none, none, none, none]) (st1 := [.inr (.inr (some 21))]) rfl ?_
          refine X_gF (v := .inr (.inr (some 30))) rfl rfl rfl rfl ?_
          refine X_run 1 (i1 := 182) (L1 := [some (.inr (.inr (some 21))), some (.inl a0), some (.inl a1), none, none, none, none, none]) (st1 := [.inl a1, .inr (.inr (some 30))]) rfl ?_
          obtain ⟨hin, hw⟩ := hw
          refine X_aI rfl rfl hin ?_
          show X _ _ 183 [some (.inr (.inr (some 21))), some (.inl a0), some (.inl a1), none, none, none, none, none] [.inl (sA s 30 (Int32.toNatClampNeg a1))] (hp s) _
          refine X_run 2 (i1 := 185) (L1 := [some (.inr (.inr (some 21))), some (.inl a0), some (.inl a1), some (.inl (sA s 30 (Int32.toNatClampNeg a1))), none, none, none, none]) (st1 := [.inr (.inr (some 21))]) rfl ?_
          refine X_gF (v := .inr (.inr (some 27))) rfl rfl rfl rfl ?_
          refine X_run 1 (i1 := 187) (L1 := [some (.inr (.inr (some 21))), some (.inl a0), some (.inl a1), some (.inl (sA s 30 (Int32.toNatClampNeg a1))), none, none, none, none]) (st1 := [.inr (.inr (some 21)), .inr (.inr (some 27))]) rfl ?_
          refine X_gF (v := .inr (.inr (some 30))) rfl rfl rfl rfl ?_
          refine X_run 3 (i1 := cond (cn2 .ne a0 (19 : Int32)) 195 191) (L1 := [some (.inr (.inr (some 21))), some (.inl a0), some (.inl a1), some (.inl (sA s 30 (Int32.toNatClampNeg a1))), none, none, none, none]) (st1 := [.inr (.inr (some 30)), .inr (.inr (some 27))]) rfl ?_
          refine X_brq (fun hb => ?_) (fun hb => ?_)
          · have hw := hw.1 hb
            refine X_run 3 (i1 := 198) (L1 := [some (.inr (.inr (some 21))), some (.inl a0), some (.inl a1), some (.inl (sA s 30 (Int32.toNatClampNeg a1))), none, none, none, none]) (st1 := [.inl (a1 + (1 : Int32)), .inr (.inr (some 30)), .inr (.inr (some 27))]) rfl ?_
            exact ct_M_members_198 fu s a0 a1 (sA s 30 (Int32.toNatClampNeg a1)) (a1 + (1 : Int32)) hw
          · have hw := hw.2 hb
            refine X_run 4 (i1 := 198) (L1 := [some (.inr (.inr (some 21))), some (.inl a0), some (.inl a1), some (.inl (sA s 30 (Int32.toNatClampNeg a1))), none, none, none, none]) (st1 := [.inl (a1 + (2 : Int32)), .inr (.inr (some 30)), .inr (.inr (some 27))]) rfl ?_
            exact ct_M_members_198 fu s a0 a1 (sA s 30 (Int32.toNatClampNeg a1)) (a1 + (2 : Int32)) hw
        · have hw := hw.2 hb
          refine X_run 1 (i1 := 126) (L1 := [some (.inr (.inr (some 21))), some (.inl a0), some (.inl a1), none, none, none, none, none]) (st1 := [.inr (.inr (some 21))]) rfl ?_
          refine X_gF (v := .inr (.inr (some 27))) rfl rfl rfl rfl ?_
          refine X_run 1 (i1 := 128) (L1 := [some (.inr (.inr (some 21))), some (.inl a0), some (.inl a1), none, none, none, none, none]) (st1 := [.inr (.inr (some 21)), .inr (.inr (some 27))]) rfl ?_
          refine X_gF (v := .inr (.inr (some 30))) rfl rfl rfl rfl ?_
          refine X_run 3 (i1 := 132) (L1 := [some (.inr (.inr (some 21))), some (.inl a0), some (.inl a1), none, none, none, none, none]) (st1 := [.inl (a1 + (1 : Int32)), .inr (.inr (some 30)), .inr (.inr (some 27))]) rfl ?_
          obtain ⟨hin, hw⟩ := hw
          refine X_aI rfl rfl hin ?_
          show X _ _ 133 [some (.inr (.inr (some 21))), some (.inl a0), some (.inl a1), none, none, none, none, none] [.inl (sA s 30 (Int32.toNatClampNeg (a1 + (1 : Int32)))), .inr (.inr (some 27))] (hp s) _
          obtain ⟨hin, hw⟩ := hw
          refine X_aI rfl rfl hin ?_
          show X _ _ 134 [some (.inr (.inr (some 21))), some (.inl a0), some (.inl a1), none, none, none, none, none] [.inl (sA s 27 (Int32.toNatClampNeg (sA s 30 (Int32.toNatClampNeg (a1 + (1 : Int32))))))] (hp s) _
          refine X_run 3 (i1 := cond (cn1 .ne (sA s 27 (Int32.toNatClampNeg (sA s 30 (Int32.toNatClampNeg (a1 + (1 : Int32))))))) 141 137) (L1 := [some (.inr (.inr (some 21))), some (.inl a0), some (.inl a1), some (.inl (sA s 27 (Int32.toNatClampNeg (sA s 30 (Int32.toNatClampNeg (a1 + (1 : Int32))))))), none, none, none, none]) (st1 := []) rfl ?_
          refine X_brq (fun hb => ?_) (fun hb => ?_)
          · have hw := hw.1 hb
            refine X_run 2 (i1 := 143) (L1 := [some (.inr (.inr (some 21))), some (.inl a0), some (.inl a1), some (.inl (sA s 27 (Int32.toNatClampNeg (sA s 30 (Int32.toNatClampNeg (a1 + (1 : Int32))))))), none, none, none, none]) (st1 := [.inl (sA s 27 (Int32.toNatClampNeg (sA s 30 (Int32.toNatClampNeg (a1 + (1 : Int32)))))), .inr (.inr (some 21))]) rfl ?_
            obtain ⟨hc, hw⟩ := hw
            refine X_callv m_M_hasMembers (As := [.inl (sA s 27 (Int32.toNatClampNeg (sA s 30 (Int32.toNatClampNeg (a1 + (1 : Int32))))))]) (st := []) ok_M_hasMembers rfl rfl rfl (hp_obj rfl) rfl (Nat.le_of_ble_eq_true rfl) (Nat.le_of_ble_eq_true rfl) (c_M_hasMembers (d := d + 3) s (sA s 27 (Int32.toNatClampNeg (sA s 30 (Int32.toNatClampNeg (a1 + (1 : Int32)))))) hc) ?_
            rintro _ _ ⟨rfl, rfl⟩
            show X _ _ 144 [some (.inr (.inr (some 21))), some (.inl a0), some (.inl a1), some (.inl (sA s 27 (Int32.toNatClampNeg (sA s 30 (Int32.toNatClampNeg (a1 + (1 : Int32))))))), none, none, none, none] [.inl (b2i (f_M_hasMembers s (sA s 27 (Int32.toNatClampNeg (sA s 30 (Int32.toNatClampNeg (a1 + (1 : Int32))))))))] (hp s) _
            refine X_run 1 (i1 := cond (cn1 .ne (b2i (f_M_hasMembers s (sA s 27 (Int32.toNatClampNeg (sA s 30 (Int32.toNatClampNeg (a1 + (1 : Int32))))))))) 149 145) (L1 := [some (.inr (.inr (some 21))), some (.inl a0), some (.inl a1), some (.inl (sA s 27 (Int32.toNatClampNeg (sA s 30 (Int32.toNatClampNeg (a1 + (1 : Int32))))))), none, none, none, none]) (st1 := []) rfl ?_
            refine X_brq (fun hb => ?_) (fun hb => ?_)
            · have hw := hw.1 hb
              refine X_run 3 (i1 := 152) (L1 := [some (.inr (.inr (some 21))), some (.inl a0), some (.inl a1), some (.inl (sA s 27 (Int32.toNatClampNeg (sA s 30 (Int32.toNatClampNeg (a1 + (1 : Int32))))))), none, none, none, none]) (st1 := [.inr (.inr (some 21)), .inr (.inl (1 : Int64)), .inr (.inr (some 21))]) rfl ?_
              refine X_gF (v := .inr (.inr (some 24))) rfl rfl rfl rfl ?_
              refine X_run 1 (i1 := 154) (L1 := [some (.inr (.inr (some 21))), some (.inl a0), some (.inl a1), some (.inl (sA s 27 (Int32.toNatClampNeg (sA s 30 (Int32.toNatClampNeg (a1 + (1 : Int32))))))), none, none, none, none]) (st1 := [.inl (sA s 27 (Int32.toNatClampNeg (sA s 30 (Int32.toNatClampNeg (a1 + (1 : Int32)))))), .inr (.inr (some 24)), .inr (.inl (1 : Int64)), .inr (.inr (some 21))]) rfl ?_
              obtain ⟨hin, hw⟩ := hw
              refine X_aI rfl rfl hin ?_
              show X _ _ 155 [some (.inr (.inr (some 21))), some (.inl a0), some (.inl a1), some (.inl (sA s 27 (Int32.toNatClampNeg (sA s 30 (Int32.toNatClampNeg (a1 + (1 : Int32))))))), none, none, none, none] [.inl (sA s 24 (Int32.toNatClampNeg (sA s 27 (Int32.toNatClampNeg (sA s 30 (Int32.toNatClampNeg (a1 + (1 : Int32)))))))), .inr (.inl (1 : Int64)), .inr (.inr (some 21))] (hp s) _
              refine X_run 2 (i1 := 157) (L1 := [some (.inr (.inr (some 21))), some (.inl a0), some (.inl a1), some (.inl (sA s 27 (Int32.toNatClampNeg (sA s 30 (Int32.toNatClampNeg (a1 + (1 : Int32))))))), none, none, none, none]) (st1 := [.inr (.inl ((1 : Int64) + (Int32.toInt64 (sA s 24 (Int32.toNatClampNeg (sA s 27 (Int32.toNatClampNeg (sA s 30 (Int32.toNatClampNeg (a1 + (1 : Int32))))))))))), .inr (.inr (some 21))]) rfl ?_
              obtain ⟨hc, hw⟩ := hw
              refine X_callv m_M_pays (As := [.inr (.inl ((1 : Int64) + (Int32.toInt64 (sA s 24 (Int32.toNatClampNeg (sA s 27 (Int32.toNatClampNeg (sA s 30 (Int32.toNatClampNeg (a1 + (1 : Int32)))))))))))]) (st := []) ok_M_pays rfl rfl rfl (hp_obj rfl) rfl (Nat.le_of_ble_eq_true rfl) (Nat.le_of_ble_eq_true rfl) (c_M_pays (d := d + 3) s ((1 : Int64) + (Int32.toInt64 (sA s 24 (Int32.toNatClampNeg (sA s 27 (Int32.toNatClampNeg (sA s 30 (Int32.toNatClampNeg (a1 + (1 : Int32)))))))))) hc) ?_
              rintro _ _ ⟨rfl, rfl⟩
              show X _ _ 158 [some (.inr (.inr (some 21))), some (.inl a0), some (.inl a1), some (.inl (sA s 27 (Int32.toNatClampNeg (sA s 30 (Int32.toNatClampNeg (a1 + (1 : Int32))))))), none, none, none, none] [.inl (b2i (f_M_pays s ((1 : Int64) + (Int32.toInt64 (sA s 24 (Int32.toNatClampNeg (sA s 27 (Int32.toNatClampNeg (sA s 30 (Int32.toNatClampNeg (a1 + (1 : Int32))))))))))).1)] (hp ((f_M_pays s ((1 : Int64) + (Int32.toInt64 (sA s 24 (Int32.toNatClampNeg (sA s 27 (Int32.toNatClampNeg (sA s 30 (Int32.toNatClampNeg (a1 + (1 : Int32))))))))))).2)) _
              show X _ _ 158 [some (.inr (.inr (some 21))), some (.inl a0), some (.inl a1), some (.inl (sA s 27 (Int32.toNatClampNeg (sA s 30 (Int32.toNatClampNeg (a1 + (1 : Int32))))))), none, none, none, none] [.inl (b2i (f_M_pays s ((1 : Int64) + (Int32.toInt64 (sA s 24 (Int32.toNatClampNeg (sA s 27 (Int32.toNatClampNeg (sA s 30 (Int32.toNatClampNeg (a1 + (1 : Int32))))))))))).1)] (hp ((f_M_pays s ((1 : Int64) + (Int32.toInt64 (sA s 24 (Int32.toNatClampNeg (sA s 27 (Int32.toNatClampNeg (sA s 30 (Int32.toNatClampNeg (a1 + (1 : Int32))))))))))).2)) _
              refine X_mask [true, false, true, true, true, true, true, true] ?_
              exact ct_M_members_158 fu ((f_M_pays s ((1 : Int64) + (Int32.toInt64 (sA s 24 (Int32.toNatClampNeg (sA s 27 (Int32.toNatClampNeg (sA s 30 (Int32.toNatClampNeg (a1 + (1 : Int32))))))))))).2) a1 (sA s 27 (Int32.toNatClampNeg (sA s 30 (Int32.toNatClampNeg (a1 + (1 : Int32)))))) (b2i (f_M_pays s ((1 : Int64) + (Int32.toInt64 (sA s 24 (Int32.toNatClampNeg (sA s 27 (Int32.toNatClampNeg (sA s 30 (Int32.toNatClampNeg (a1 + (1 : Int32))))))))))).1) hw
            · have hw := hw.2 hb
              refine X_run 2 (i1 := 147) (L1 := [some (.inr (.inr (some 21))), some (.inl a0), some (.inl a1), some (.inl (sA s 27 (Int32.toNatClampNeg (sA s 30 (Int32.toNatClampNeg (a1 + (1 : Int32))))))), none, none, none, none]) (st1 := [.inl (4 : Int32), .inr (.inr (some 21))]) rfl ?_
              obtain ⟨hc, hw⟩ := hw
              refine X_callv m_M_fails (As := [.inl (4 : Int32)]) (st := []) ok_M_fails rfl rfl rfl (hp_obj rfl) rfl (Nat.le_of_ble_eq_true rfl) (Nat.le_of_ble_eq_true rfl) (c_M_fails (d := d + 1) s (4 : Int32) hc) ?_
              rintro _ _ ⟨rfl, rfl⟩
              show X _ _ 148 [some (.inr (.inr (some 21))), some (.inl a0), some (.inl a1), some (.inl (sA s 27 (Int32.toNatClampNeg (sA s 30 (Int32.toNatClampNeg (a1 + (1 : Int32))))))), none, none, none, none] [.inl ((f_M_fails s (4 : Int32)).1)] (hp ((f_M_fails s (4 : Int32)).2)) _
              exact X_iret rfl rfl qIs_p
          · have hw := hw.2 hb
            refine X_run 2 (i1 := 139) (L1 := [some (.inr (.inr (some 21))), some (.inl a0), some (.inl a1), some (.inl (sA s 27 (Int32.toNatClampNeg (sA s 30 (Int32.toNatClampNeg (a1 + (1 : Int32))))))), none, none, none, none]) (st1 := [.inl (1 : Int32), .inr (.inr (some 21))]) rfl ?_
            obtain ⟨hc, hw⟩ := hw
            refine X_callv m_M_fails (As := [.inl (1 : Int32)]) (st := []) ok_M_fails rfl rfl rfl (hp_obj rfl) rfl (Nat.le_of_ble_eq_true rfl) (Nat.le_of_ble_eq_true rfl) (c_M_fails (d := d + 1) s (1 : Int32) hc) ?_
            rintro _ _ ⟨rfl, rfl⟩
            show X _ _ 140 [some (.inr (.inr (some 21))), some (.inl a0), some (.inl a1), some (.inl (sA s 27 (Int32.toNatClampNeg (sA s 30 (Int32.toNatClampNeg (a1 + (1 : Int32))))))), none, none, none, none] [.inl ((f_M_fails s (1 : Int32)).1)] (hp ((f_M_fails s (1 : Int32)).2)) _
            exact X_iret rfl rfl qIs_p
      · have hw := hw.2 hb
        refine X_run 2 (i1 := 78) (L1 := [some (.inr (.inr (some 21))), some (.inl a0), some (.inl a1), none, none, none, none, none]) (st1 := [.inr (.inr (some 21)), .inr (.inr (some 21))]) rfl ?_
        refine X_gF (v := .inr (.inr (some 27))) rfl rfl rfl rfl ?_
        refine X_run 1 (i1 := 80) (L1 := [some (.inr (.inr (some 21))), some (.inl a0), some (.inl a1), none, none, none, none, none]) (st1 := [.inr (.inr (some 21)), .inr (.inr (some 27)), .inr (.inr (some 21))]) rfl ?_
        refine X_gF (v := .inr (.inr (some 30))) rfl rfl rfl rfl ?_
        refine X_run 1 (i1 := 82) (L1 := [some (.inr (.inr (some 21))), some (.inl a0), some (.inl a1), none, none, none, none, none]) (st1 := [.inl a1, .inr (.inr (some 30)), .inr (.inr (some 27)), .inr (.inr (some 21))]) rfl ?_
        obtain ⟨hin, hw⟩ := hw
        refine X_aI rfl rfl hin ?_
        show X _ _ 83 [some (.inr (.inr (some 21))), some (.inl a0), some (.inl a1), none, none, none, none, none] [.inl (sA s 30 (Int32.toNatClampNeg a1)), .inr (.inr (some 27)), .inr (.inr (some 21))] (hp s) _
        obtain ⟨hin, hw⟩ := hw
        refine X_aI rfl rfl hin ?_
        show X _ _ 84 [some (.inr (.inr (some 21))), some (.inl a0), some (.inl a1), none, none, none, none, none] [.inl (sA s 27 (Int32.toNatClampNeg (sA s 30 (Int32.toNatClampNeg a1)))), .inr (.inr (some 21))] (hp s) _
        refine X_run 1 (i1 := 85) (L1 := [some (.inr (.inr (some 21))), some (.inl a0), some (.inl a1), none, none, none, none, none]) (st1 := [.inr (.inr (some 21)), .inl (sA s 27 (Int32.toNatClampNeg (sA s 30 (Int32.toNatClampNeg a1)))), .inr (.inr (some 21))]) rfl ?_
        refine X_gF (v := .inr (.inr (some 28))) rfl rfl rfl rfl ?_
        refine X_run 1 (i1 := 87) (L1 := [some (.inr (.inr (some 21))), some (.inl a0), some (.inl a1), none, none, none, none, none]) (st1 := [.inr (.inr (some 21)), .inr (.inr (some 28)), .inl (sA s 27 (Int32.toNatClampNeg (sA s 30 (Int32.toNatClampNeg a1)))), .inr (.inr (some 21))]) rfl ?_
        refine X_gF (v := .inr (.inr (some 30))) rfl rfl rfl rfl ?_
        refine X_run 3 (i1 := 91) (L1 := [some (.inr (.inr (some 21))), some (.inl a0), some (.inl a1), none, none, none, none, none]) (st1 := [.inl (a1 + (1 : Int32)), .inr (.inr (some 30)), .inr (.inr (some 28)), .inl (sA s 27 (Int32.toNatClampNeg (sA s 30 (Int32.toNatClampNeg a1)))), .inr (.inr (some 21))]) rfl ?_
        obtain ⟨hin, hw⟩ := hw
        refine X_aI rfl rfl hin ?_
        show X _ _ 92 [some (.inr (.inr (some 21))), some (.inl a0), some (.inl a1), none, none, none, none, none] [.inl (sA s 30 (Int32.toNatClampNeg (a1 + (1 : Int32)))), .inr (.inr (some 28)), .inl (sA s 27 (Int32.toNatClampNeg (sA s 30 (Int32.toNatClampNeg a1)))), .inr (.inr (some 21))] (hp s) _
        obtain ⟨hin, hw⟩ := hw
        refine X_aI rfl rfl hin ?_
        show X _ _ 93 [some (.inr (.inr (some 21))), some (.inl a0), some (.inl a1), none, none, none, none, none] [.inl (sA s 28 (Int32.toNatClampNeg (sA s 30 (Int32.toNatClampNeg (a1 + (1 : Int32)))))), .inl (sA s 27 (Int32.toNatClampNeg (sA s 30 (Int32.toNatClampNeg a1)))), .inr (.inr (some 21))] (hp s) _
        refine X_run 1 (i1 := 94) (L1 := [some (.inr (.inr (some 21))), some (.inl a0), some (.inl a1), none, none, none, none, none]) (st1 := [.inr (.inr (some 21)), .inl (sA s 28 (Int32.toNatClampNeg (sA s 30 (Int32.toNatClampNeg (a1 + (1 : Int32)))))), .inl (sA s 27 (Int32.toNatClampNeg (sA s 30 (Int32.toNatClampNeg a1)))), .inr (.inr (some 21))]) rfl ?_
        refine X_gF (v := .inr (.inr (some 27))) rfl rfl rfl rfl ?_
        refine X_run 1 (i1 := 96) (L1 := [some (.inr (.inr (some 21))), some (.inl a0), some (.inl a1), none, none, none, none, none]) (st1 := [.inr (.inr (some 21)), .inr (.inr (some 27)), .inl (sA s 28 (Int32.toNatClampNeg (sA s 30 (Int32.toNatClampNeg (a1 + (1 : Int32)))))), .inl (sA s 27 (Int32.toNatClampNeg (sA s 30 (Int32.toNatClampNeg a1)))), .inr (.inr (some 21))]) rfl ?_
        refine X_gF (v := .inr (.inr (some 30))) rfl rfl rfl rfl ?_
        refine X_run 3 (i1 := 100) (L1 := [some (.inr (.inr (some 21))), some (.inl a0), some (.inl a1), none, none, none, none, none]) (st1 := [.inl (a1 + (2 : Int32)), .inr (.inr (some 30)), .inr (.inr (some 27)), .inl (sA s 28 (Int32.toNatClampNeg (sA s 30 (Int32.toNatClampNeg (a1 + (1 : Int32)))))), .inl (sA s 27 (Int32.toNatClampNeg (sA s 30 (Int32.toNatClampNeg a1)))), .inr (.inr (some 21))]) rfl ?_
        obtain ⟨hin, hw⟩ := hw
        refine X_aI rfl rfl hin ?_
        show X _ _ 101 [some (.inr (.inr (some 21))), some (.inl a0), some (.inl a1), none, none, none, none, none] [.inl (sA s 30 (Int32.toNatClampNeg (a1 + (2 : Int32)))), .inr (.inr (some 27)), .inl (sA s 28 (Int32.toNatClampNeg (sA s 30 (Int32.toNatClampNeg (a1 + (1 : Int32)))))), .inl (sA s 27 (Int32.toNatClampNeg (sA s 30 (Int32.toNatClampNeg a1)))), .inr (.inr (some 21))] (hp s) _
        obtain ⟨hin, hw⟩ := hw
        refine X_aI rfl rfl hin ?_
        show X _ _ 102 [some (.inr (.inr (some 21))), some (.inl a0), some (.inl a1), none, none, none, none, none] [.inl (sA s 27 (Int32.toNatClampNeg (sA s 30 (Int32.toNatClampNeg (a1 + (2 : Int32)))))), .inl (sA s 28 (Int32.toNatClampNeg (sA s 30 (Int32.toNatClampNeg (a1 + (1 : Int32)))))), .inl (sA s 27 (Int32.toNatClampNeg (sA s 30 (Int32.toNatClampNeg a1)))), .inr (.inr (some 21))] (hp s) _
        refine X_run 1 (i1 := 103) (L1 := [some (.inr (.inr (some 21))), some (.inl a0), some (.inl a1), none, none, none, none, none]) (st1 := [.inr (.inr (some 21)), .inl (sA s 27 (Int32.toNatClampNeg (sA s 30 (Int32.toNatClampNeg (a1 + (2 : Int32)))))), .inl (sA s 28 (Int32.toNatClampNeg (sA s 30 (Int32.toNatClampNeg (a1 + (1 : Int32)))))), .inl (sA s 27 (Int32.toNatClampNeg (sA s 30 (Int32.toNatClampNeg a1)))), .inr (.inr (some 21))]) rfl ?_
        refine X_gF (v := .inr (.inr (some 28))) rfl rfl rfl rfl ?_
        refine X_run 1 (i1 := 105) (L1 := [some (.inr (.inr (some 21))), some (.inl a0), some (.inl a1), none, none, none, none, none]) (st1 := [.inr (.inr (some 21)), .inr (.inr (some 28)), .inl (sA s 27 (Int32.toNatClampNeg (sA s 30 (Int32.toNatClampNeg (a1 + (2 : Int32)))))), .inl (sA s 28 (Int32.toNatClampNeg (sA s 30 (Int32.toNatClampNeg (a1 + (1 : Int32)))))), .inl (sA s 27 (Int32.toNatClampNeg (sA s 30 (Int32.toNatClampNeg a1)))), .inr (.inr (some 21))]) rfl ?_
        refine X_gF (v := .inr (.inr (some 30))) rfl rfl rfl rfl ?_
        refine X_run 3 (i1 := 109) (L1 := [some (.inr (.inr (some 21))), some (.inl a0), some (.inl a1), none, none, none, none, none]) (st1 := [.inl (a1 + (3 : Int32)), .inr (.inr (some 30)), .inr (.inr (some 28)), .inl (sA s 27 (Int32.toNatClampNeg (sA s 30 (Int32.toNatClampNeg (a1 + (2 : Int32)))))), .inl (sA s 28 (Int32.toNatClampNeg (sA s 30 (Int32.toNatClampNeg (a1 + (1 : Int32)))))), .inl (sA s 27 (Int32.toNatClampNeg (sA s 30 (Int32.toNatClampNeg a1)))), .inr (.inr (some 21))]) rfl ?_
        obtain ⟨hin, hw⟩ := hw
        refine X_aI rfl rfl hin ?_
        show X _ _ 110 [some (.inr (.inr (some 21))), some (.inl a0), some (.inl a1), none, none, none, none, none] [.inl (sA s 30 (Int32.toNatClampNeg (a1 + (3 : Int32)))), .inr (.inr (some 28)), .inl (sA s 27 (Int32.toNatClampNeg (sA s 30 (Int32.toNatClampNeg (a1 + (2 : Int32)))))), .inl (sA s 28 (Int32.toNatClampNeg (sA s 30 (Int32.toNatClampNeg (a1 + (1 : Int32)))))), .inl (sA s 27 (Int32.toNatClampNeg (sA s 30 (Int32.toNatClampNeg a1)))), .inr (.inr (some 21))] (hp s) _
        obtain ⟨hin, hw⟩ := hw
        refine X_aI rfl rfl hin ?_
        show X _ _ 111 [some (.inr (.inr (some 21))), some (.inl a0), some (.inl a1), none, none, none, none, none] [.inl (sA s 28 (Int32.toNatClampNeg (sA s 30 (Int32.toNatClampNeg (a1 + (3 : Int32)))))), .inl (sA s 27 (Int32.toNatClampNeg (sA s 30 (Int32.toNatClampNeg (a1 + (2 : Int32)))))), .inl (sA s 28 (Int32.toNatClampNeg (sA s 30 (Int32.toNatClampNeg (a1 + (1 : Int32)))))), .inl (sA s 27 (Int32.toNatClampNeg (sA s 30 (Int32.toNatClampNeg a1)))), .inr (.inr (some 21))] (hp s) _
        refine X_run 1 (i1 := 112) (L1 := [some (.inr (.inr (some 21))), some (.inl a0), some (.inl a1), none, none, none, none, none]) (st1 := [.inr (.inr (some 21)), .inl (sA s 28 (Int32.toNatClampNeg (sA s 30 (Int32.toNatClampNeg (a1 + (3 : Int32)))))), .inl (sA s 27 (Int32.toNatClampNeg (sA s 30 (Int32.toNatClampNeg (a1 + (2 : Int32)))))), .inl (sA s 28 (Int32.toNatClampNeg (sA s 30 (Int32.toNatClampNeg (a1 + (1 : Int32)))))), .inl (sA s 27 (Int32.toNatClampNeg (sA s 30 (Int32.toNatClampNeg a1)))), .inr (.inr (some 21))]) rfl ?_
        refine X_gF (v := .inr (.inr (some 28))) rfl rfl rfl rfl ?_
        refine X_run 1 (i1 := 114) (L1 := [some (.inr (.inr (some 21))), some (.inl a0), some (.inl a1), none, none, none, none, none]) (st1 := [.inr (.inr (some 21)), .inr (.inr (some 28)), .inl (sA s 28 (Int32.toNatClampNeg (sA s 30 (Int32.toNatClampNeg (a1 + (3 : Int32)))))), .inl (sA s 27 (Int32.toNatClampNeg (sA s 30 (Int32.toNatClampNeg (a1 + (2 : Int32)))))), .inl (sA s 28 (Int32.toNatClampNeg (sA s 30 (Int32.toNatClampNeg (a1 + (1 : Int32)))))), .inl (sA s 27 (Int32.toNatClampNeg (sA s 30 (Int32.toNatClampNeg a1)))), .inr (.inr (some 21))]) rfl ?_
        refine X_gF (v := .inr (.inr (some 30))) rfl rfl rfl rfl ?_
        refine X_run 3 (i1 := 118) (L1 := [some (.inr (.inr (some 21))), some (.inl a0), some (.inl a1), none, none, none, none, none]) (st1 := [.inl (a1 + (4 : Int32)), .inr (.inr (some 30)), .inr (.inr (some 28)), .inl (sA s 28 (Int32.toNatClampNeg (sA s 30 (Int32.toNatClampNeg (a1 + (3 : Int32)))))), .inl (sA s 27 (Int32.toNatClampNeg (sA s 30 (Int32.toNatClampNeg (a1 + (2 : Int32)))))), .inl (sA s 28 (Int32.toNatClampNeg (sA s 30 (Int32.toNatClampNeg (a1 + (1 : Int32)))))), .inl (sA s 27 (Int32.toNatClampNeg (sA s 30 (Int32.toNatClampNeg a1)))), .inr (.inr (some 21))]) rfl ?_
        obtain ⟨hin, hw⟩ := hw
        refine X_aI rfl rfl hin ?_
        show X _ _ 119 [some (.inr (.inr (some 21))), some (.inl a0), some (.inl a1), none, none, none, none, none] [.inl (sA s 30 (Int32.toNatClampNeg (a1 + (4 : Int32)))), .inr (.inr (some 28)), .inl (sA s 28 (Int32.toNatClampNeg (sA s 30 (Int32.toNatClampNeg (a1 + (3 : Int32)))))), .inl (sA s 27 (Int32.toNatClampNeg (sA s 30 (Int32.toNatClampNeg (a1 + (2 : Int32)))))), .inl (sA s 28 (Int32.toNatClampNeg (sA s 30 (Int32.toNatClampNeg (a1 + (1 : Int32)))))), .inl (sA s 27 (Int32.toNatClampNeg (sA s 30 (Int32.toNatClampNeg a1)))), .inr (.inr (some 21))] (hp s) _
        obtain ⟨hin, hw⟩ := hw
        refine X_aI rfl rfl hin ?_
        show X _ _ 120 [some (.inr (.inr (some 21))), some (.inl a0), some (.inl a1), none, none, none, none, none] [.inl (sA s 28 (Int32.toNatClampNeg (sA s 30 (Int32.toNatClampNeg (a1 + (4 : Int32)))))), .inl (sA s 28 (Int32.toNatClampNeg (sA s 30 (Int32.toNatClampNeg (a1 + (3 : Int32)))))), .inl (sA s 27 (Int32.toNatClampNeg (sA s 30 (Int32.toNatClampNeg (a1 + (2 : Int32)))))), .inl (sA s 28 (Int32.toNatClampNeg (sA s 30 (Int32.toNatClampNeg (a1 + (1 : Int32)))))), .inl (sA s 27 (Int32.toNatClampNeg (sA s 30 (Int32.toNatClampNeg a1)))), .inr (.inr (some 21))] (hp s) _
        obtain ⟨hc, hw⟩ := hw
        refine X_callv m_M_copies (As := [.inl (sA s 27 (Int32.toNatClampNeg (sA s 30 (Int32.toNatClampNeg a1)))), .inl (sA s 28 (Int32.toNatClampNeg (sA s 30 (Int32.toNatClampNeg (a1 + (1 : Int32)))))), .inl (sA s 27 (Int32.toNatClampNeg (sA s 30 (Int32.toNatClampNeg (a1 + (2 : Int32)))))), .inl (sA s 28 (Int32.toNatClampNeg (sA s 30 (Int32.toNatClampNeg (a1 + (3 : Int32)))))), .inl (sA s 28 (Int32.toNatClampNeg (sA s 30 (Int32.toNatClampNeg (a1 + (4 : Int32))))))]) (st := []) ok_M_copies rfl rfl rfl (hp_obj rfl) rfl (Nat.le_of_ble_eq_true rfl) (Nat.le_of_ble_eq_true rfl) (c_M_copies (d := d) fu s (sA s 27 (Int32.toNatClampNeg (sA s 30 (Int32.toNatClampNeg a1)))) (sA s 28 (Int32.toNatClampNeg (sA s 30 (Int32.toNatClampNeg (a1 + (1 : Int32)))))) (sA s 27 (Int32.toNatClampNeg (sA s 30 (Int32.toNatClampNeg (a1 + (2 : Int32)))))) (sA s 28 (Int32.toNatClampNeg (sA s 30 (Int32.toNatClampNeg (a1 + (3 : Int32)))))) (sA s 28 (Int32.toNatClampNeg (sA s 30 (Int32.toNatClampNeg (a1 + (4 : Int32)))))) hc) ?_
        rintro _ _ ⟨rfl, rfl⟩
        show X _ _ 121 [some (.inr (.inr (some 21))), some (.inl a0), some (.inl a1), none, none, none, none, none] [.inl ((f_M_copies fu s (sA s 27 (Int32.toNatClampNeg (sA s 30 (Int32.toNatClampNeg a1)))) (sA s 28 (Int32.toNatClampNeg (sA s 30 (Int32.toNatClampNeg (a1 + (1 : Int32)))))) (sA s 27 (Int32.toNatClampNeg (sA s 30 (Int32.toNatClampNeg (a1 + (2 : Int32)))))) (sA s 28 (Int32.toNatClampNeg (sA s 30 (Int32.toNatClampNeg (a1 + (3 : Int32)))))) (sA s 28 (Int32.toNatClampNeg (sA s 30 (Int32.toNatClampNeg (a1 + (4 : Int32))))))).1)] (hp ((f_M_copies fu s (sA s 27 (Int32.toNatClampNeg (sA s 30 (Int32.toNatClampNeg a1)))) (sA s 28 (Int32.toNatClampNeg (sA s 30 (Int32.toNatClampNeg (a1 + (1 : Int32)))))) (sA s 27 (Int32.toNatClampNeg (sA s 30 (Int32.toNatClampNeg (a1 + (2 : Int32)))))) (sA s 28 (Int32.toNatClampNeg (sA s 30 (Int32.toNatClampNeg (a1 + (3 : Int32)))))) (sA s 28 (Int32.toNatClampNeg (sA s 30 (Int32.toNatClampNeg (a1 + (4 : Int32))))))).2)) _
        exact X_iret rfl rfl qIs_p
    · have hw := hw.2 hb
      refine X_run 1 (i1 := 44) (L1 := [some (.inr (.inr (some 21))), some (.inl a0), some (.inl a1), none, none, none, none, none]) (st1 := [.inr (.inr (some 21))]) rfl ?_
      refine X_gF (v := .inr (.inr (some 28))) rfl rfl rfl rfl ?_
      refine X_run 1 (i1 := 46) (L1 := [some (.inr (.inr (some 21))), some (.inl a0), some (.inl a1), none, none, none, none, none]) (st1 := [.inr (.inr (some 21)), .inr (.inr (some 28))]) rfl ?_
      refine X_gF (v := .inr (.inr (some 30))) rfl rfl rfl rfl ?_
      refine X_run 1 (i1 := 48) (L1 := [some (.inr (.inr (some 21))), some (.inl a0), some (.inl a1), none, none, none, none, none]) (st1 := [.inl a1, .inr (.inr (some 30)), .inr (.inr (some 28))]) rfl ?_
      obtain ⟨hin, hw⟩ := hw
      refine X_aI rfl rfl hin ?_
      show X _ _ 49 [some (.inr (.inr (some 21))), some (.inl a0), some (.inl a1), none, none, none, none, none] [.inl (sA s 30 (Int32.toNatClampNeg a1)), .inr (.inr (some 28))] (hp s) _
      refine X_run 2 (i1 := 51) (L1 := [some (.inr (.inr (some 21))), some (.inl a0), some (.inl a1), none, none, none, none, none]) (st1 := [.inr (.inr (some 21)), .inr (.inr (some 21)), .inl (sA s 30 (Int32.toNatClampNeg a1)), .inr (.inr (some 28))]) rfl ?_
      refine X_gF (v := .inr (.inr (some 27))) rfl rfl rfl rfl ?_
      refine X_run 1 (i1 := 53) (L1 := [some (.inr (.inr (some 21))), some (.inl a0), some (.inl a1), none, none, none, none, none]) (st1 := [.inr (.inr (some 21)), .inr (.inr (some 27)), .inr (.inr (some 21)), .inl (sA s 30 (Int32.toNatClampNeg a1)), .inr (.inr (some 28))]) rfl ?_
      refine X_gF (v := .inr (.inr (some 30))) rfl rfl rfl rfl ?_
      refine X_run 3 (i1 := 57) (L1 := [some (.inr (.inr (some 21))), some (.inl a0), some (.inl a1), none, none, none, none, none]) (st1 := [.inl (a1 + (1 : Int32)), .inr (.inr (some 30)), .inr (.inr (some 27)), .inr (.inr (some 21)), .inl (sA s 30 (Int32.toNatClampNeg a1)), .inr (.inr (some 28))]) rfl ?_
      obtain ⟨hin, hw⟩ := hw
      refine X_aI rfl rfl hin ?_
      show X _ _ 58 [some (.inr (.inr (some 21))), some (.inl a0), some (.inl a1), none, none, none, none, none] [.inl (sA s 30 (Int32.toNatClampNeg (a1 + (1 : Int32)))), .inr (.inr (some 27)), .inr (.inr (some 21)), .inl (sA s 30 (Int32.toNatClampNeg a1)), .inr (.inr (some 28))] (hp s) _
      obtain ⟨hin, hw⟩ := hw
      refine X_aI rfl rfl hin ?_
      show X _ _ 59 [some (.inr (.inr (some 21))), some (.inl a0), some (.inl a1), none, none, none, none, none] [.inl (sA s 27 (Int32.toNatClampNeg (sA s 30 (Int32.toNatClampNeg (a1 + (1 : Int32)))))), .inr (.inr (some 21)), .inl (sA s 30 (Int32.toNatClampNeg a1)), .inr (.inr (some 28))] (hp s) _
      refine X_run 1 (i1 := 60) (L1 := [some (.inr (.inr (some 21))), some (.inl a0), some (.inl a1), none, none, none, none, none]) (st1 := [.inr (.inr (some 21)), .inl (sA s 27 (Int32.toNatClampNeg (sA s 30 (Int32.toNatClampNeg (a1 + (1 : Int32)))))), .inr (.inr (some 21)), .inl (sA s 30 (Int32.toNatClampNeg a1)), .inr (.inr (some 28))]) rfl ?_
      refine X_gF (v := .inr (.inr (some 30))) rfl rfl rfl rfl ?_
      refine X_run 3 (i1 := 64) (L1 := [some (.inr (.inr (some 21))), some (.inl a0), some (.inl a1), none, none, none, none, none]) (st1 := [.inl (a1 + (2 : Int32)), .inr (.inr (some 30)), .inl (sA s 27 (Int32.toNatClampNeg (sA s 30 (Int32.toNatClampNeg (a1 + (1 : Int32)))))), .inr (.inr (some 21)), .inl (sA s 30 (Int32.toNatClampNeg a1)), .inr (.inr (some 28))]) rfl ?_
      obtain ⟨hin, hw⟩ := hw
      refine X_aI rfl rfl hin ?_
      show X _ _ 65 [some (.inr (.inr (some 21))), some (.inl a0), some (.inl a1), none, none, none, none, none] [.inl (sA s 30 (Int32.toNatClampNeg (a1 + (2 : Int32)))), .inl (sA s 27 (Int32.toNatClampNeg (sA s 30 (Int32.toNatClampNeg (a1 + (1 : Int32)))))), .inr (.inr (some 21)), .inl (sA s 30 (Int32.toNatClampNeg a1)), .inr (.inr (some 28))] (hp s) _
      obtain ⟨hc, hw⟩ := hw
      refine X_callv m_M_is (As := [.inl (sA s 27 (Int32.toNatClampNeg (sA s 30 (Int32.toNatClampNeg (a1 + (1 : Int32)))))), .inl (sA s 30 (Int32.toNatClampNeg (a1 + (2 : Int32))))]) (st := [.inl (sA s 30 (Int32.toNatClampNeg a1)), .inr (.inr (some 28))]) ok_M_is rfl rfl rfl (hp_obj rfl) rfl (Nat.le_of_ble_eq_true rfl) (Nat.le_of_ble_eq_true rfl) (c_M_is (d := d + 2) s (sA s 27 (Int32.toNatClampNeg (sA s 30 (Int32.toNatClampNeg (a1 + (1 : Int32)))))) (sA s 30 (Int32.toNatClampNeg (a1 + (2 : Int32)))) hc) ?_
      rintro _ _ ⟨rfl, rfl⟩
      show X _ _ 66 [some (.inr (.inr (some 21))), some (.inl a0), some (.inl a1), none, none, none, none, none] [.inl (b2i (f_M_is s (sA s 27 (Int32.toNatClampNeg (sA s 30 (Int32.toNatClampNeg (a1 + (1 : Int32)))))) (sA s 30 (Int32.toNatClampNeg (a1 + (2 : Int32)))))), .inl (sA s 30 (Int32.toNatClampNeg a1)), .inr (.inr (some 28))] (hp s) _
      refine X_run 1 (i1 := cond (cn1 .eq (b2i (f_M_is s (sA s 27 (Int32.toNatClampNeg (sA s 30 (Int32.toNatClampNeg (a1 + (1 : Int32)))))) (sA s 30 (Int32.toNatClampNeg (a1 + (2 : Int32))))))) 69 67) (L1 := [some (.inr (.inr (some 21))), some (.inl a0), some (.inl a1), none, none, none, none, none]) (st1 := [.inl (sA s 30 (Int32.toNatClampNeg a1)), .inr (.inr (some 28))]) rfl ?_
      refine X_brq (fun hb => ?_) (fun hb => ?_)
      · have hw := hw.1 hb
        refine X_run 1 (i1 := 70) (L1 := [some (.inr (.inr (some 21))), some (.inl a0), some (.inl a1), none, none, none, none, none]) (st1 := [.inl (0 : Int32), .inl (sA s 30 (Int32.toNatClampNeg a1)), .inr (.inr (some 28))]) rfl ?_
        refine X_mask [false, false, false, true, true, true, true, true] ?_
        exact ct_M_members_70 fu s (0 : Int32) (sA s 30 (Int32.toNatClampNeg a1)) hw
      · have hw := hw.2 hb
        refine X_run 2 (i1 := 70) (L1 := [some (.inr (.inr (some 21))), some (.inl a0), some (.inl a1), none, none, none, none, none]) (st1 := [.inl (1 : Int32), .inl (sA s 30 (Int32.toNatClampNeg a1)), .inr (.inr (some 28))]) rfl ?_
        refine X_mask [false, false, false, true, true, true, true, true] ?_
        exact ct_M_members_70 fu s (1 : Int32) (sA s 30 (Int32.toNatClampNeg a1)) hw
  · have hw := hw.2 hb
    refine X_run 1 (i1 := 4) (L1 := [some (.inr (.inr (some 21))), some (.inl a0), some (.inl a1), none, none, none, none, none]) (st1 := [.inr (.inr (some 21))]) rfl ?_
    refine X_gF (v := .inr (.inr (some 27))) rfl rfl rfl rfl ?_
    refine X_run 1 (i1 := 6) (L1 := [some (.inr (.inr (some 21))), some (.inl a0), some (.inl a1), none, none, none, none, none]) (st1 := [.inr (.inr (some 21)), .inr (.inr (some 27))]) rfl ?_
    refine X_gF (v := .inr (.inr (some 30))) rfl rfl rfl rfl ?_
    refine X_run 3 (i1 := 10) (L1 := [some (.inr (.inr (some 21))), some (.inl a0), some (.inl a1), none, none, none, none, none]) (st1 := [.inl (a1 + (1 : Int32)), .inr (.inr (some 30)), .inr (.inr (some 27))]) rfl ?_
    obtain ⟨hin, hw⟩ := hw
    refine X_aI rfl rfl hin ?_
    show X _ _ 11 [some (.inr (.inr (some 21))), some (.inl a0), some (.inl a1), none, none, none, none, none] [.inl (sA s 30 (Int32.toNatClampNeg (a1 + (1 : Int32)))), .inr (.inr (some 27))] (hp s) _
    obtain ⟨hin, hw⟩ := hw
    refine X_aI rfl rfl hin ?_
    show X _ _ 12 [some (.inr (.inr (some 21))), some (.inl a0), some (.inl a1), none, none, none, none, none] [.inl (sA s 27 (Int32.toNatClampNeg (sA s 30 (Int32.toNatClampNeg (a1 + (1 : Int32))))))] (hp s) _
    refine X_run 3 (i1 := cond (cn1 .ne (sA s 27 (Int32.toNatClampNeg (sA s 30 (Int32.toNatClampNeg (a1 + (1 : Int32))))))) 19 15) (L1 := [some (.inr (.inr (some 21))), some (.inl a0), some (.inl a1), some (.inl (sA s 27 (Int32.toNatClampNeg (sA s 30 (Int32.toNatClampNeg (a1 + (1 : Int32))))))), none, none, none, none]) (st1 := []) rfl ?_
    refine X_brq (fun hb => ?_) (fun hb => ?_)
    · have hw := hw.1 hb
      refine X_run 2 (i1 := 21) (L1 := [some (.inr (.inr (some 21))), some (.inl a0), some (.inl a1), some (.inl (sA s 27 (Int32.toNatClampNeg (sA s 30 (Int32.toNatClampNeg (a1 + (1 : Int32))))))), none, none, none, none]) (st1 := [.inl (sA s 27 (Int32.toNatClampNeg (sA s 30 (Int32.toNatClampNeg (a1 + (1 : Int32)))))), .inr (.inr (some 21))]) rfl ?_
      obtain ⟨hc, hw⟩ := hw
      refine X_callv m_M_hasMembers (As := [.inl (sA s 27 (Int32.toNatClampNeg (sA s 30 (Int32.toNatClampNeg (a1 + (1 : Int32))))))]) (st := []) ok_M_hasMembers rfl rfl rfl (hp_obj rfl) rfl (Nat.le_of_ble_eq_true rfl) (Nat.le_of_ble_eq_true rfl) (c_M_hasMembers (d := d + 3) s (sA s 27 (Int32.toNatClampNeg (sA s 30 (Int32.toNatClampNeg (a1 + (1 : Int32)))))) hc) ?_
      rintro _ _ ⟨rfl, rfl⟩
      show X _ _ 22 [some (.inr (.inr (some 21))), some (.inl a0), some (.inl a1), some (.inl (sA s 27 (Int32.toNatClampNeg (sA s 30 (Int32.toNatClampNeg (a1 + (1 : Int32))))))), none, none, none, none] [.inl (b2i (f_M_hasMembers s (sA s 27 (Int32.toNatClampNeg (sA s 30 (Int32.toNatClampNeg (a1 + (1 : Int32))))))))] (hp s) _
      refine X_run 1 (i1 := cond (cn1 .ne (b2i (f_M_hasMembers s (sA s 27 (Int32.toNatClampNeg (sA s 30 (Int32.toNatClampNeg (a1 + (1 : Int32))))))))) 27 23) (L1 := [some (.inr (.inr (some 21))), some (.inl a0), some (.inl a1), some (.inl (sA s 27 (Int32.toNatClampNeg (sA s 30 (Int32.toNatClampNeg (a1 + (1 : Int32))))))), none, none, none, none]) (st1 := []) rfl ?_
      refine X_brq (fun hb => ?_) (fun hb => ?_)
      · have hw := hw.1 hb
        refine X_run 1 (i1 := 28) (L1 := [some (.inr (.inr (some 21))), some (.inl a0), some (.inl a1), some (.inl (sA s 27 (Int32.toNatClampNeg (sA s 30 (Int32.toNatClampNeg (a1 + (1 : Int32))))))), none, none, none, none]) (st1 := [.inr (.inr (some 21))]) rfl ?_
        refine X_gF (v := .inr (.inr (some 28))) rfl rfl rfl rfl ?_
        refine X_run 1 (i1 := 30) (L1 := [some (.inr (.inr (some 21))), some (.inl a0), some (.inl a1), some (.inl (sA s 27 (Int32.toNatClampNeg (sA s 30 (Int32.toNatClampNeg (a1 + (1 : Int32))))))), none, none, none, none]) (st1 := [.inr (.inr (some 21)), .inr (.inr (some 28))]) rfl ?_
        refine X_gF (v := .inr (.inr (some 30))) rfl rfl rfl rfl ?_
        refine X_run 1 (i1 := 32) (L1 := [some (.inr (.inr (some 21))), some (.inl a0), some (.inl a1), some (.inl (sA s 27 (Int32.toNatClampNeg (sA s 30 (Int32.toNatClampNeg (a1 + (1 : Int32))))))), none, none, none, none]) (st1 := [.inl a1, .inr (.inr (some 30)), .inr (.inr (some 28))]) rfl ?_
        obtain ⟨hin, hw⟩ := hw
        refine X_aI rfl rfl hin ?_
        show X _ _ 33 [some (.inr (.inr (some 21))), some (.inl a0), some (.inl a1), some (.inl (sA s 27 (Int32.toNatClampNeg (sA s 30 (Int32.toNatClampNeg (a1 + (1 : Int32))))))), none, none, none, none] [.inl (sA s 30 (Int32.toNatClampNeg a1)), .inr (.inr (some 28))] (hp s) _
        refine X_run 1 (i1 := 34) (L1 := [some (.inr (.inr (some 21))), some (.inl a0), some (.inl a1), some (.inl (sA s 27 (Int32.toNatClampNeg (sA s 30 (Int32.toNatClampNeg (a1 + (1 : Int32))))))), none, none, none, none]) (st1 := [.inr (.inr (some 21)), .inl (sA s 30 (Int32.toNatClampNeg a1)), .inr (.inr (some 28))]) rfl ?_
        refine X_gF (v := .inr (.inr (some 24))) rfl rfl rfl rfl ?_
        refine X_run 1 (i1 := 36) (L1 := [some (.inr (.inr (some 21))), some (.inl a0), some (.inl a1), some (.inl (sA s 27 (Int32.toNatClampNeg (sA s 30 (Int32.toNatClampNeg (a1 + (1 : Int32))))))), none, none, none, none]) (st1 := [.inl (sA s 27 (Int32.toNatClampNeg (sA s 30 (Int32.toNatClampNeg (a1 + (1 : Int32)))))), .inr (.inr (some 24)), .inl (sA s 30 (Int32.toNatClampNeg a1)), .inr (.inr (some 28))]) rfl ?_
        obtain ⟨hin, hw⟩ := hw
        refine X_aI rfl rfl hin ?_
        show X _ _ 37 [some (.inr (.inr (some 21))), some (.inl a0), some (.inl a1), some (.inl (sA s 27 (Int32.toNatClampNeg (sA s 30 (Int32.toNatClampNeg (a1 + (1 : Int32))))))), none, none, none, none] [.inl (sA s 24 (Int32.toNatClampNeg (sA s 27 (Int32.toNatClampNeg (sA s 30 (Int32.toNatClampNeg (a1 + (1 : Int32)))))))), .inl (sA s 30 (Int32.toNatClampNeg a1)), .inr (.inr (some 28))] (hp s) _
        obtain ⟨hin, hw⟩ := hw
        refine X_sI rfl rfl hin ?_
        show X _ _ 38 [some (.inr (.inr (some 21))), some (.inl a0), some (.inl a1), some (.inl (sA s 27 (Int32.toNatClampNeg (sA s 30 (Int32.toNatClampNeg (a1 + (1 : Int32))))))), none, none, none, none] [] (hp (pA s 28 (upd (sA s 28) (Int32.toNatClampNeg (sA s 30 (Int32.toNatClampNeg a1))) (sA s 24 (Int32.toNatClampNeg (sA s 27 (Int32.toNatClampNeg (sA s 30 (Int32.toNatClampNeg (a1 + (1 : Int32))))))))))) _
        refine X_run 1 (i1 := 39) (L1 := [some (.inr (.inr (some 21))), some (.inl a0), some (.inl a1), some (.inl (sA s 27 (Int32.toNatClampNeg (sA s 30 (Int32.toNatClampNeg (a1 + (1 : Int32))))))), none, none, none, none]) (st1 := [.inl (0 : Int32)]) rfl ?_
        exact X_iret rfl rfl qIs_i
      · have hw := hw.2 hb
        refine X_run 2 (i1 := 25) (L1 := [some (.inr (.inr (some 21))), some (.inl a0), some (.inl a1), some (.inl (sA s 27 (Int32.toNatClampNeg (sA s 30 (Int32.toNatClampNeg (a1 + (1 : Int32))))))), none, none, none, none]) (st1 := [.inl (4 : Int32), .inr (.inr (some 21))]) rfl ?_
        obtain ⟨hc, hw⟩ := hw
        refine X_callv m_M_fails (As := [.inl (4 : Int32)]) (st := []) ok_M_fails rfl rfl rfl (hp_obj rfl) rfl (Nat.le_of_ble_eq_true rfl) (Nat.le_of_ble_eq_true rfl) (c_M_fails (d := d + 1) s (4 : Int32) hc) ?_
        rintro _ _ ⟨rfl, rfl⟩
        show X _ _ 26 [some (.inr (.inr (some 21))), some (.inl a0), some (.inl a1), some (.inl (sA s 27 (Int32.toNatClampNeg (sA s 30 (Int32.toNatClampNeg (a1 + (1 : Int32))))))), none, none, none, none] [.inl ((f_M_fails s (4 : Int32)).1)] (hp ((f_M_fails s (4 : Int32)).2)) _
        exact X_iret rfl rfl qIs_p
    · have hw := hw.2 hb
      refine X_run 2 (i1 := 17) (L1 := [some (.inr (.inr (some 21))), some (.inl a0), some (.inl a1), some (.inl (sA s 27 (Int32.toNatClampNeg (sA s 30 (Int32.toNatClampNeg (a1 + (1 : Int32))))))), none, none, none, none]) (st1 := [.inl (1 : Int32), .inr (.inr (some 21))]) rfl ?_
      obtain ⟨hc, hw⟩ := hw
      refine X_callv m_M_fails (As := [.inl (1 : Int32)]) (st := []) ok_M_fails rfl rfl rfl (hp_obj rfl) rfl (Nat.le_of_ble_eq_true rfl) (Nat.le_of_ble_eq_true rfl) (c_M_fails (d := d + 1) s (1 : Int32) hc) ?_
      rintro _ _ ⟨rfl, rfl⟩
      show X _ _ 18 [some (.inr (.inr (some 21))), some (.inl a0), some (.inl a1), some (.inl (sA s 27 (Int32.toNatClampNeg (sA s 30 (Int32.toNatClampNeg (a1 + (1 : Int32))))))), none, none, none, none] [.inl ((f_M_fails s (1 : Int32)).1)] (hp ((f_M_fails s (1 : Int32)).2)) _
      exact X_iret rfl rfl qIs_p
def t_M_places_134 (s : St) (v3 : Int32) (v5 : Int32) (v6 : Int32) (v7 : Int32) (v8 : Int32) : Int32 × St := (cond (cn1 .eq v3) ((0 : Int32), pA s 27 (upd (sA s 27) (Int32.toNatClampNeg v7) (Int64.toInt32 (sB s 26 (Int32.toNatClampNeg ((sA s 23 (Int32.toNatClampNeg v5)) + v6)))))) ((0 : Int32), pB s 26 (vp_updL (sB s 26) (Int32.toNatClampNeg ((sA s 23 (Int32.toNatClampNeg v5)) + v6)) (Int32.toInt64 v8))))
def w_M_places_134 (s : St) (v3 : Int32) (v5 : Int32) (v6 : Int32) (v7 : Int32) (v8 : Int32) : Prop := ((cn1 .eq v3) = true → (vp_in v5 40001 ∧ (vp_in ((sA s 23 (Int32.toNatClampNeg v5)) + v6) 40001 ∧ (vp_in v7 16 ∧ True)))) ∧ ((cn1 .eq v3) = false → (vp_in v5 40001 ∧ (vp_in ((sA s 23 (Int32.toNatClampNeg v5)) + v6) 40001 ∧ True)))
theorem ct_M_places_134 {d : Nat} (s : St) (v3 : Int32) (v5 : Int32) (v6 : Int32) (v7 : Int32) (v8 : Int32) (hw : w_M_places_134 s v3 v5 v6 v7 v8) : X m_M_places (d + 3) 134 [some (.inr (.inr (some 21))), none, none, some (.inl v3), none, some (.inl v5), some (.inl v6), some (.inl v7), some (.inl v8)] [] (hp s) (qIs (t_M_places_134 s v3 v5 v6 v7 v8)) := by
  unfold t_M_places_134
  unfold w_M_places_134 at hw
  refine X_run 2 (i1 := cond (cn1 .eq v3) 148 136) (L1 := [some (.inr (.inr (some 21))), none, none, some (.inl v3), none, some (.inl v5), some (.inl v6), some (.inl v7), some (.inl v8)]) (st1 := []) rfl ?_
  refine X_brq (fun hb => ?_) (fun hb => ?_)
  · have hw := hw.1 hb
    refine X_run 1 (i1 := 149) (L1 := [some (.inr (.inr (some 21))), none, none, some (.inl v3), none, some (.inl v5), some (.inl v6), some (.inl v7), some (.inl v8)]) (st1 := [.inr (.inr (some 21))]) rfl ?_
    refine X_gF (v := .inr (.inr (some 27))) rfl rfl rfl rfl ?_
    refine X_run 2 (i1 := 152) (L1 := [some (.inr (.inr (some 21))), none, none, some (.inl v3), none, some (.inl v5), some (.inl v6), some (.inl v7), some (.inl v8)]) (st1 := [.inr (.inr (some 21)), .inl v7, .inr (.inr (some 27))]) rfl ?_
    refine X_gF (v := .inr (.inr (some 26))) rfl rfl rfl rfl ?_
    refine X_run 1 (i1 := 154) (L1 := [some (.inr (.inr (some 21))), none, none, some (.inl v3), none, some (.inl v5), some (.inl v6), some (.inl v7), some (.inl v8)]) (st1 := [.inr (.inr (some 21)), .inr (.inr (some 26)), .inl v7, .inr (.inr (some 27))]) rfl ?_
    refine X_gF (v := .inr (.inr (some 23))) rfl rfl rfl rfl ?_
    refine X_run 1 (i1 := 156) (L1 := [some (.inr (.inr (some 21))), none, none, some (.inl v3), none, some (.inl v5), some (.inl v6), some (.inl v7), some (.inl v8)]) (st1 := [.inl v5, .inr (.inr (some 23)), .inr (.inr (some 26)), .inl v7, .inr (.inr (some 27))]) rfl ?_
    obtain ⟨hin, hw⟩ := hw
    refine X_aI rfl rfl hin ?_
    show X _ _ 157 [some (.inr (.inr (some 21))), none, none, some (.inl v3), none, some (.inl v5), some (.inl v6), some (.inl v7), some (.inl v8)] [.inl (sA s 23 (Int32.toNatClampNeg v5)), .inr (.inr (some 26)), .inl v7, .inr (.inr (some 27))] (hp s) _
    refine X_run 2 (i1 := 159) (L1 := [some (.inr (.inr (some 21))), none, none, some (.inl v3), none, some (.inl v5), some (.inl v6), some (.inl v7), some (.inl v8)]) (st1 := [.inl ((sA s 23 (Int32.toNatClampNeg v5)) + v6), .inr (.inr (some 26)), .inl v7, .inr (.inr (some 27))]) rfl ?_
    obtain ⟨hin, hw⟩ := hw
    refine X_aL rfl rfl hin ?_
    show X _ _ 160 [some (.inr (.inr (some 21))), none, none, some (.inl v3), none, some (.inl v5), some (.inl v6), some (.inl v7), some (.inl v8)] [.inr (.inl (sB s 26 (Int32.toNatClampNeg ((sA s 23 (Int32.toNatClampNeg v5)) + v6)))), .inl v7, .inr (.inr (some 27))] (hp s) _
    refine X_run 1 (i1 := 161) (L1 := [some (.inr (.inr (some 21))), none, none, some (.inl v3), none, some (.inl v5), some (.inl v6), some (.inl v7), some (.inl v8)]) (st1 := [.inl (Int64.toInt32 (sB s 26 (Int32.toNatClampNeg ((sA s 23 (Int32.toNatClampNeg v5)) + v6)))), .inl v7, .inr (.inr (some 27))]) rfl ?_
    obtain ⟨hin, hw⟩ := hw
    refine X_sI rfl rfl hin ?_
    show X _ _ 162 [some (.inr (.inr (some 21))), none, none, some (.inl v3), none, some (.inl v5), some (.inl v6), some (.inl v7), some (.inl v8)] [] (hp (pA s 27 (upd (sA s 27) (Int32.toNatClampNeg v7) (Int64.toInt32 (sB s 26 (Int32.toNatClampNeg ((sA s 23 (Int32.toNatClampNeg v5)) + v6))))))) _
    refine X_run 1 (i1 := 163) (L1 := [some (.inr (.inr (some 21))), none, none, some (.inl v3), none, some (.inl v5), some (.inl v6), some (.inl v7), some (.inl v8)]) (st1 := [.inl (0 : Int32)]) rfl ?_
    exact X_iret rfl rfl qIs_i
  · have hw := hw.2 hb
    refine X_run 1 (i1 := 137) (L1 := [some (.inr (.inr (some 21))), none, none, some (.inl v3), none, some (.inl v5), some (.inl v6), some (.inl v7), some (.inl v8)]) (st1 := [.inr (.inr (some 21))]) rfl ?_
    refine X_gF (v := .inr (.inr (some 26))) rfl rfl rfl rfl ?_
    refine X_run 1 (i1 := 139) (L1 := [some (.inr (.inr (some 21))), none, none, some (.inl v3), none, some (.inl v5), some (.inl v6), some (.inl v7), some (.inl v8)]) (st1 := [.inr (.inr (some 21)), .inr (.inr (some 26))]) rfl ?_
    refine X_gF (v := .inr (.inr (some 23))) rfl rfl rfl rfl ?_
    refine X_run 1 (i1 := 141) (L1 := [some (.inr (.inr (some 21))), none, none, some (.inl v3), none, some (.inl v5), some (.inl v6), some (.inl v7), some (.inl v8)]) (st1 := [.inl v5, .inr (.inr (some 23)), .inr (.inr (some 26))]) rfl ?_
    obtain ⟨hin, hw⟩ := hw
    refine X_aI rfl rfl hin ?_
    show X _ _ 142 [some (.inr (.inr (some 21))), none, none, some (.inl v3), none, some (.inl v5), some (.inl v6), some (.inl v7), some (.inl v8)] [.inl (sA s 23 (Int32.toNatClampNeg v5)), .inr (.inr (some 26))] (hp s) _
    refine X_run 4 (i1 := 146) (L1 := [some (.inr (.inr (some 21))), none, none, some (.inl v3), none, some (.inl v5), some (.inl v6), some (.inl v7), some (.inl v8)]) (st1 := [.inr (.inl (Int32.toInt64 v8)), .inl ((sA s 23 (Int32.toNatClampNeg v5)) + v6), .inr (.inr (some 26))]) rfl ?_
    obtain ⟨hin, hw⟩ := hw
    refine X_sL rfl rfl hin ?_
    show X _ _ 147 [some (.inr (.inr (some 21))), none, none, some (.inl v3), none, some (.inl v5), some (.inl v6), some (.inl v7), some (.inl v8)] [] (hp (pB s 26 (vp_updL (sB s 26) (Int32.toNatClampNeg ((sA s 23 (Int32.toNatClampNeg v5)) + v6)) (Int32.toInt64 v8)))) _
    refine X_run 2 (i1 := 163) (L1 := [some (.inr (.inr (some 21))), none, none, some (.inl v3), none, some (.inl v5), some (.inl v6), some (.inl v7), some (.inl v8)]) (st1 := [.inl (0 : Int32)]) rfl ?_
    exact X_iret rfl rfl qIs_i
def t_M_places_119 (s : St) : Int32 × St := (f_M_fails s (2 : Int32))
def w_M_places_119 (s : St) : Prop := (w_M_fails s (2 : Int32) ∧ True)
theorem ct_M_places_119 {d : Nat} (s : St) (hw : w_M_places_119 s) : X m_M_places (d + 3) 119 [some (.inr (.inr (some 21))), none, none, none, none, none, none, none, none] [] (hp s) (qIs (t_M_places_119 s)) := by
  unfold t_M_places_119
  unfold w_M_places_119 at hw
  refine X_run 2 (i1 := 121) (L1 := [some (.inr (.inr (some 21))), none, none, none, none, none, none, none, none]) (st1 := [.inl (2 : Int32), .inr (.inr (some 21))]) rfl ?_
  obtain ⟨hc, hw⟩ := hw
  refine X_callv m_M_fails (As := [.inl (2 : Int32)]) (st := []) ok_M_fails rfl rfl rfl (hp_obj rfl) rfl (Nat.le_of_ble_eq_true rfl) (Nat.le_of_ble_eq_true rfl) (c_M_fails (d := d) s (2 : Int32) hc) ?_
  rintro _ _ ⟨rfl, rfl⟩
  show X _ _ 122 [some (.inr (.inr (some 21))), none, none, none, none, none, none, none, none] [.inl ((f_M_fails s (2 : Int32)).1)] (hp ((f_M_fails s (2 : Int32)).2)) _
  exact X_iret rfl rfl qIs_p
def t_M_places_105 (s : St) (v3 : Int32) (v5 : Int32) (v6 : Int32) (v7 : Int32) (v8 : Int32) : Int32 × St := (cond (cn1 .ne v5) (cond (cn1 .lt v6) (t_M_places_119 s) (cond (cn2 .lt v6 (sA s 24 (Int32.toNatClampNeg v5))) (cond (cn1 .eq v3) (t_M_places_134 s v3 v5 v6 v7 v8) (cond (cn1 .ne (b2i (f_M_goes s v8 v5))) (t_M_places_134 s v3 v5 v6 v7 v8) (f_M_fails s (5 : Int32)))) (t_M_places_119 s))) (f_M_fails s (1 : Int32)))
def w_M_places_105 (s : St) (v3 : Int32) (v5 : Int32) (v6 : Int32) (v7 : Int32) (v8 : Int32) : Prop := ((cn1 .ne v5) = true → ((cn1 .lt v6) = true → (w_M_places_119 s)) ∧ ((cn1 .lt v6) = false → (vp_in v5 40001 ∧ ((cn2 .lt v6 (sA s 24 (Int32.toNatClampNeg v5))) = true → ((cn1 .eq v3) = true → (w_M_places_134 s v3 v5 v6 v7 v8)) ∧ ((cn1 .eq v3) = false → (w_M_goes s v8 v5 ∧ ((cn1 .ne (b2i (f_M_goes s v8 v5))) = true → (w_M_places_134 s v3 v5 v6 v7 v8)) ∧ ((cn1 .ne (b2i (f_M_goes s v8 v5))) = false → (w_M_fails s (5 : Int32) ∧ True))))) ∧ ((cn2 .lt v6 (sA s 24 (Int32.toNatClampNeg v5))) = false → (w_M_places_119 s))))) ∧ ((cn1 .ne v5) = false → (w_M_fails s (1 : Int32) ∧ True))
theorem ct_M_places_105 {d : Nat} (s : St) (v3 : Int32) (v5 : Int32) (v6 : Int32) (v7 : Int32) (v8 : Int32) (hw : w_M_places_105 s v3 v5 v6 v7 v8) : X m_M_places (d + 3) 105 [some (.inr (.inr (some 21))), none, none, some (.inl v3), none, some (.inl v5), some (.inl v6), some (.inl v7), some (.inl v8)] [] (hp s) (qIs (t_M_places_105 s v3 v5 v6 v7 v8)) := by
  unfold t_M_places_105
  unfold w_M_places_105 at hw
  refine X_run 2 (i1 := cond (cn1 .ne v5) 111 107) (L1 := [some (.inr (.inr (some 21))), none, none, some (.inl v3), none, some (.inl v5), some (.inl v6), some (.inl v7), some (.inl v8)]) (st1 := []) rfl ?_
  refine X_brq (fun hb => ?_) (fun hb => ?_)
  · have hw := hw.1 hb
    refine X_run 2 (i1 := cond (cn1 .lt v6) 119 113) (L1 := [some (.inr (.inr (some 21))), none, none, some (.inl v3), none, some (.inl v5), some (.inl v6), some (.inl v7), some (.inl v8)]) (st1 := []) rfl ?_
    refine X_brq (fun hb => ?_) (fun hb => ?_)
    · have hw := hw.1 hb
      refine X_mask [true, true, true, false, true, false, false, false, false] ?_
      exact ct_M_places_119 s hw
    · have hw := hw.2 hb
      refine X_run 2 (i1 := 115) (L1 := [some (.inr (.inr (some 21))), none, none, some (.inl v3), none, some (.inl v5), some (.inl v6), some (.inl v7), some (.inl v8)]) (st1 := [.inr (.inr (some 21)), .inl v6]) rfl ?_
      refine X_gF (v := .inr (.inr (some 24))) rfl rfl rfl rfl ?_
      refine X_run 1 (i1 := 117) (L1 := [some (.inr (.inr (some 21))), none, none, some (.inl v3), none, some (.inl v5), some (.inl v6), some (.inl v7), some (.inl v8)]) (st1 := [.inl v5, .inr (.inr (some 24)), .inl v6]) rfl ?_
      obtain ⟨hin, hw⟩ := hw
      refine X_aI rfl rfl hin ?_
      show X _ _ 118 [some (.inr (.inr (some 21))), none, none, some (.inl v3), none, some (.inl v5), some (.inl v6), some (.inl v7), some (.inl v8)] [.inl (sA s 24 (Int32.toNatClampNeg v5)), .inl v6] (hp s) _
      refine X_run 1 (i1 := cond (cn2 .lt v6 (sA s 24 (Int32.toNatClampNeg v5))) 123 119) (L1 := [some (.inr (.inr (some 21))), none, none, some (.inl v3), none, some (.inl v5), some (.inl v6), some (.inl v7), some (.inl v8)]) (st1 := []) rfl ?_
      refine X_brq (fun hb => ?_) (fun hb => ?_)
      · have hw := hw.1 hb
        refine X_run 2 (i1 := cond (cn1 .eq v3) 134 125) (L1 := [some (.inr (.inr (some 21))), none, none, some (.inl v3), none, some (.inl v5), some (.inl v6), some (.inl v7), some (.inl v8)]) (st1 := []) rfl ?_
        refine X_brq (fun hb => ?_) (fun hb => ?_)
        · have hw := hw.1 hb
          exact ct_M_places_134 s v3 v5 v6 v7 v8 hw
        · have hw := hw.2 hb
          refine X_run 3 (i1 := 128) (L1 := [some (.inr (.inr (some 21))), none, none, some (.inl v3), none, some (.inl v5), some (.inl v6), some (.inl v7), some (.inl v8)]) (st1 := [.inl v5, .inl v8, .inr (.inr (some 21))]) rfl ?_
          obtain ⟨hc, hw⟩ := hw
          refine X_callv m_M_goes (As := [.inl v8, .inl v5]) (st := []) ok_M_goes rfl rfl rfl (hp_obj rfl) rfl (Nat.le_of_ble_eq_true rfl) (Nat.le_of_ble_eq_true rfl) (c_M_goes (d := d + 1) s v8 v5 hc) ?_
          rintro _ _ ⟨rfl, rfl⟩
          show X _ _ 129 [some (.inr (.inr (some 21))), none, none, some (.inl v3), none, some (.inl v5), some (.inl v6), some (.inl v7), some (.inl v8)] [.inl (b2i (f_M_goes s v8 v5))] (hp s) _
          refine X_run 1 (i1 := cond (cn1 .ne (b2i (f_M_goes s v8 v5))) 134 130) (L1 := [some (.inr (.inr (some 21))), none, none, some (.inl v3), none, some (.inl v5), some (.inl v6), some (.inl v7), some (.inl v8)]) (st1 := []) rfl ?_
          refine X_brq (fun hb => ?_) (fun hb => ?_)
          · have hw := hw.1 hb
            exact ct_M_places_134 s v3 v5 v6 v7 v8 hw
          · have hw := hw.2 hb
            refine X_run 2 (i1 := 132) (L1 := [some (.inr (.inr (some 21))), none, none, some (.inl v3), none, some (.inl v5), some (.inl v6), some (.inl v7), some (.inl v8)]) (st1 := [.inl (5 : Int32), .inr (.inr (some 21))]) rfl ?_
            obtain ⟨hc, hw⟩ := hw
            refine X_callv m_M_fails (As := [.inl (5 : Int32)]) (st := []) ok_M_fails rfl rfl rfl (hp_obj rfl) rfl (Nat.le_of_ble_eq_true rfl) (Nat.le_of_ble_eq_true rfl) (c_M_fails (d := d) s (5 : Int32) hc) ?_
            rintro _ _ ⟨rfl, rfl⟩
            show X _ _ 133 [some (.inr (.inr (some 21))), none, none, some (.inl v3), none, some (.inl v5), some (.inl v6), some (.inl v7), some (.inl v8)] [.inl ((f_M_fails s (5 : Int32)).1)] (hp ((f_M_fails s (5 : Int32)).2)) _
            exact X_iret rfl rfl qIs_p
      · have hw := hw.2 hb
        refine X_mask [true, true, true, false, true, false, false, false, false] ?_
        exact ct_M_places_119 s hw
  · have hw := hw.2 hb
    refine X_run 2 (i1 := 109) (L1 := [some (.inr (.inr (some 21))), none, none, some (.inl v3), none, some (.inl v5), some (.inl v6), some (.inl v7), some (.inl v8)]) (st1 := [.inl (1 : Int32), .inr (.inr (some 21))]) rfl ?_
    obtain ⟨hc, hw⟩ := hw
    refine X_callv m_M_fails (As := [.inl (1 : Int32)]) (st := []) ok_M_fails rfl rfl rfl (hp_obj rfl) rfl (Nat.le_of_ble_eq_true rfl) (Nat.le_of_ble_eq_true rfl) (c_M_fails (d := d) s (1 : Int32) hc) ?_
    rintro _ _ ⟨rfl, rfl⟩
    show X _ _ 110 [some (.inr (.inr (some 21))), none, none, some (.inl v3), none, some (.inl v5), some (.inl v6), some (.inl v7), some (.inl v8)] [.inl ((f_M_fails s (1 : Int32)).1)] (hp ((f_M_fails s (1 : Int32)).2)) _
    exact X_iret rfl rfl qIs_p
def t_M_places_101 (s : St) : Int32 × St := (f_M_fails s (4 : Int32))
def w_M_places_101 (s : St) : Prop := (w_M_fails s (4 : Int32) ∧ True)
theorem ct_M_places_101 {d : Nat} (s : St) (hw : w_M_places_101 s) : X m_M_places (d + 3) 101 [some (.inr (.inr (some 21))), none, none, none, none, none, none, none, none] [] (hp s) (qIs (t_M_places_101 s)) := by
  unfold t_M_places_101
  unfold w_M_places_101 at hw
  refine X_run 2 (i1 := 103) (L1 := [some (.inr (.inr (some 21))), none, none, none, none, none, none, none, none]) (st1 := [.inl (4 : Int32), .inr (.inr (some 21))]) rfl ?_
  obtain ⟨hc, hw⟩ := hw
  refine X_callv m_M_fails (As := [.inl (4 : Int32)]) (st := []) ok_M_fails rfl rfl rfl (hp_obj rfl) rfl (Nat.le_of_ble_eq_true rfl) (Nat.le_of_ble_eq_true rfl) (c_M_fails (d := d) s (4 : Int32) hc) ?_
  rintro _ _ ⟨rfl, rfl⟩
  show X _ _ 104 [some (.inr (.inr (some 21))), none, none, none, none, none, none, none, none] [.inl ((f_M_fails s (4 : Int32)).1)] (hp ((f_M_fails s (4 : Int32)).2)) _
  exact X_iret rfl rfl qIs_p
def t_M_places_78 (s : St) (v3 : Int32) (v4 : Int32) (v5 : Int32) (v6 : Int32) (v7 : Int32) : Int32 × St := (cond (cn1 .eq v3) (t_M_places_105 s v3 v5 v6 v7 (sA s 27 (Int32.toNatClampNeg v7))) (cond (cn1 .le (sA s 27 (Int32.toNatClampNeg v7))) (t_M_places_105 s v3 v5 v6 v7 (sA s 27 (Int32.toNatClampNeg v7))) (cond (cn2 .ne v4 (9 : Int32)) (cond (cn1 .ne (b2i (f_M_isPart s (sA s 27 (Int32.toNatClampNeg v7))))) (t_M_places_105 s v3 v5 v6 v7 (sA s 27 (Int32.toNatClampNeg v7))) (t_M_places_101 s)) (cond (cn2 .ne (sA s 22 (Int32.toNatClampNeg (sA s 27 (Int32.toNatClampNeg v7)))) (4 : Int32)) (t_M_places_101 s) (t_M_places_105 s v3 v5 v6 v7 (sA s 27 (Int32.toNatClampNeg v7)))))))
def w_M_places_78 (s : St) (v3 : Int32) (v4 : Int32) (v5 : Int32) (v6 : Int32) (v7 : Int32) : Prop := (vp_in v7 16 ∧ ((cn1 .eq v3) = true → (w_M_places_105 s v3 v5 v6 v7 (sA s 27 (Int32.toNatClampNeg v7)))) ∧ ((cn1 .eq v3) = false → ((cn1 .le (sA s 27 (Int32.toNatClampNeg v7))) = true → (w_M_places_105 s v3 v5 v6 v7 (sA s 27 (Int32.toNatClampNeg v7)))) ∧ ((cn1 .le (sA s 27 (Int32.toNatClampNeg v7))) = false → ((cn2 .ne v4 (9 : Int32)) = true → (w_M_isPart s (sA s 27 (Int32.toNatClampNeg v7)) ∧ ((cn1 .ne (b2i (f_M_isPart s (sA s 27 (Int32.toNatClampNeg v7))))) = true → (w_M_places_105 s v3 v5 v6 v7 (sA s 27 (Int32.toNatClampNeg v7)))) ∧ ((cn1 .ne (b2i (f_M_isPart s (sA s 27 (Int32.toNatClampNeg v7))))) = false → (w_M_places_101 s)))) ∧ ((cn2 .ne v4 (9 : Int32)) = false → (vp_in (sA s 27 (Int32.toNatClampNeg v7)) 40001 ∧ ((cn2 .ne (sA s 22 (Int32.toNatClampNeg (sA s 27 (Int32.toNatClampNeg v7)))) (4 : Int32)) = true → (w_M_places_101 s)) ∧ ((cn2 .ne (sA s 22 (Int32.toNatClampNeg (sA s 27 (Int32.toNatClampNeg v7)))) (4 : Int32)) = false → (w_M_places_105 s v3 v5 v6 v7 (sA s 27 (Int32.toNatClampNeg v7)))))))))
theorem ct_M_places_78 {d : Nat} (s : St) (v3 : Int32) (v4 : Int32) (v5 : Int32) (v6 : Int32) (v7 : Int32) (hw : w_M_places_78 s v3 v4 v5 v6 v7) : X m_M_places (d + 3) 78 [some (.inr (.inr (some 21))), none, none, some (.inl v3), some (.inl v4), some (.inl v5), some (.inl v6), some (.inl v7), none] [] (hp s) (qIs (t_M_places_78 s v3 v4 v5 v6 v7)) := by
  unfold t_M_places_78
  unfold w_M_places_78 at hw
  refine X_run 1 (i1 := 79) (L1 := [some (.inr (.inr (some 21))), none, none, some (.inl v3), some (.inl v4), some (.inl v5), some (.inl v6), some (.inl v7), none]) (st1 := [.inr (.inr (some 21))]) rfl ?_
  refine X_gF (v := .inr (.inr (some 27))) rfl rfl rfl rfl ?_
  refine X_run 1 (i1 := 81) (L1 := [some (.inr (.inr (some 21))), none, none, some (.inl v3), some (.inl v4), some (.inl v5), some (.inl v6), some (.inl v7), none]) (st1 := [.inl v7, .inr (.inr (some 27))]) rfl ?_
  obtain ⟨hin, hw⟩ := hw
  refine X_aI rfl rfl hin ?_
  show X _ _ 82 [some (.inr (.inr (some 21))), none, none, some (.inl v3), some (.inl v4), some (.inl v5), some (.inl v6), some (.inl v7), none] [.inl (sA s 27 (Int32.toNatClampNeg v7))] (hp s) _
  refine X_run 3 (i1 := cond (cn1 .eq v3) 105 85) (L1 := [some (.inr (.inr (some 21))), none, none, some (.inl v3), some (.inl v4), some (.inl v5), some (.inl v6), some (.inl v7), some (.inl (sA s 27 (Int32.toNatClampNeg v7)))]) (st1 := []) rfl ?_
  refine X_brq (fun hb => ?_) (fun hb => ?_)
  · have hw := hw.1 hb
    refine X_mask [true, true, true, true, false, true, true, true, true] ?_
    exact ct_M_places_105 s v3 v5 v6 v7 (sA s 27 (Int32.toNatClampNeg v7)) hw
  · have hw := hw.2 hb
    refine X_run 2 (i1 := cond (cn1 .le (sA s 27 (Int32.toNatClampNeg v7))) 105 87) (L1 := [some (.inr (.inr (some 21))), none, none, some (.inl v3), some (.inl v4), some (.inl v5), some (.inl v6), some (.inl v7), some (.inl (sA s 27 (Int32.toNatClampNeg v7)))]) (st1 := []) rfl ?_
    refine X_brq (fun hb => ?_) (fun hb => ?_)
    · have hw := hw.1 hb
      refine X_mask [true, true, true, true, false, true, true, true, true] ?_
      exact ct_M_places_105 s v3 v5 v6 v7 (sA s 27 (Int32.toNatClampNeg v7)) hw
    · have hw := hw.2 hb
      refine X_run 3 (i1 := cond (cn2 .ne v4 (9 : Int32)) 97 90) (L1 := [some (.inr (.inr (some 21))), none, none, some (.inl v3), some (.inl v4), some (.inl v5), some (.inl v6), some (.inl v7), some (.inl (sA s 27 (Int32.toNatClampNeg v7)))]) (st1 := []) rfl ?_
      refine X_brq (fun hb => ?_) (fun hb => ?_)
      · have hw := hw.1 hb
        refine X_run 2 (i1 := 99) (L1 := [some (.inr (.inr (some 21))), none, none, some (.inl v3), some (.inl v4), some (.inl v5), some (.inl v6), some (.inl v7), some (.inl (sA s 27 (Int32.toNatClampNeg v7)))]) (st1 := [.inl (sA s 27 (Int32.toNatClampNeg v7)), .inr (.inr (some 21))]) rfl ?_
        obtain ⟨hc, hw⟩ := hw
        refine X_callv m_M_isPart (As := [.inl (sA s 27 (Int32.toNatClampNeg v7))]) (st := []) ok_M_isPart rfl rfl rfl (hp_obj rfl) rfl (Nat.le_of_ble_eq_true rfl) (Nat.le_of_ble_eq_true rfl) (c_M_isPart (d := d + 2) s (sA s 27 (Int32.toNatClampNeg v7)) hc) ?_
        rintro _ _ ⟨rfl, rfl⟩
        show X _ _ 100 [some (.inr (.inr (some 21))), none, none, some (.inl v3), some (.inl v4), some (.inl v5), some (.inl v6), some (.inl v7), some (.inl (sA s 27 (Int32.toNatClampNeg v7)))] [.inl (b2i (f_M_isPart s (sA s 27 (Int32.toNatClampNeg v7))))] (hp s) _
        refine X_run 1 (i1 := cond (cn1 .ne (b2i (f_M_isPart s (sA s 27 (Int32.toNatClampNeg v7))))) 105 101) (L1 := [some (.inr (.inr (some 21))), none, none, some (.inl v3), some (.inl v4), some (.inl v5), some (.inl v6), some (.inl v7), some (.inl (sA s 27 (Int32.toNatClampNeg v7)))]) (st1 := []) rfl ?_
        refine X_brq (fun hb => ?_) (fun hb => ?_)
        · have hw := hw.1 hb
          refine X_mask [true, true, true, true, false, true, true, true, true] ?_
          exact ct_M_places_105 s v3 v5 v6 v7 (sA s 27 (Int32.toNatClampNeg v7)) hw
        · have hw := hw.2 hb
          refine X_mask [true, true, true, false, false, false, false, false, false] ?_
          exact ct_M_places_101 s hw
      · have hw := hw.2 hb
        refine X_run 1 (i1 := 91) (L1 := [some (.inr (.inr (some 21))), none, none, some (.inl v3), some (.inl v4), some (.inl v5), some (.inl v6), some (.inl v7), some (.inl (sA s 27 (Int32.toNatClampNeg v7)))]) (st1 := [.inr (.inr (some 21))]) rfl ?_
        refine X_gF (v := .inr (.inr (some 22))) rfl rfl rfl rfl ?_
        refine X_run 1 (i1 := 93) (L1 := [some (.inr (.inr (some 21))), none, none, some (.inl v3), some (.inl v4), some (.inl v5), some (.inl v6), some (.inl v7), some (.inl (sA s 27 (Int32.toNatClampNeg v7)))]) (st1 := [.inl (sA s 27 (Int32.toNatClampNeg v7)), .inr (.inr (some 22))]) rfl ?_
        obtain ⟨hin, hw⟩ := hw
        refine X_aI rfl rfl hin ?_
        show X _ _ 94 [some (.inr (.inr (some 21))), none, none, some (.inl v3), some (.inl v4), some (.inl v5), some (.inl v6), some (.inl v7), some (.inl (sA s 27 (Int32.toNatClampNeg v7)))] [.inl (sA s 22 (Int32.toNatClampNeg (sA s 27 (Int32.toNatClampNeg v7))))] (hp s) _
        refine X_run 2 (i1 := cond (cn2 .ne (sA s 22 (Int32.toNatClampNeg (sA s 27 (Int32.toNatClampNeg v7)))) (4 : Int32)) 101 96) (L1 := [some (.inr (.inr (some 21))), none, none, some (.inl v3), some (.inl v4), some (.inl v5), some (.inl v6), some (.inl v7), some (.inl (sA s 27 (Int32.toNatClampNeg v7)))]) (st1 := []) rfl ?_
        refine X_brq (fun hb => ?_) (fun hb => ?_)
        · have hw := hw.1 hb
          refine X_mask [true, true, true, false, false, false, false, false, false] ?_
          exact ct_M_places_101 s hw
        · have hw := hw.2 hb
          refine X_run 1 (i1 := 105) (L1 := [some (.inr (.inr (some 21))), none, none, some (.inl v3), some (.inl v4), some (.inl v5), some (.inl v6), some (.inl v7), some (.inl (sA s 27 (Int32.toNatClampNeg v7)))]) (st1 := []) rfl ?_
          refine X_mask [true, true, true, true, false, true, true, true, true] ?_
          exact ct_M_places_105 s v3 v5 v6 v7 (sA s 27 (Int32.toNatClampNeg v7)) hw
def t_M_places_66 (s : St) (v3 : Int32) (v4 : Int32) (v5 : Int32) (v6 : Int32) (v7 : Int32) : Int32 × St := (cond (cn1 .le v5) (t_M_places_78 s v3 v4 v5 v6 v7) (cond (cn2 .eq (sA s 22 (Int32.toNatClampNeg v5)) v4) (t_M_places_78 s v3 v4 v5 v6 v7) (f_M_fails s (4 : Int32))))
def w_M_places_66 (s : St) (v3 : Int32) (v4 : Int32) (v5 : Int32) (v6 : Int32) (v7 : Int32) : Prop := ((cn1 .le v5) = true → (w_M_places_78 s v3 v4 v5 v6 v7)) ∧ ((cn1 .le v5) = false → (vp_in v5 40001 ∧ ((cn2 .eq (sA s 22 (Int32.toNatClampNeg v5)) v4) = true → (w_M_places_78 s v3 v4 v5 v6 v7)) ∧ ((cn2 .eq (sA s 22 (Int32.toNatClampNeg v5)) v4) = false → (w_M_fails s (4 : Int32) ∧ True))))
theorem ct_M_places_66 {d : Nat} (s : St) (v3 : Int32) (v4 : Int32) (v5 : Int32) (v6 : Int32) (v7 : Int32) (hw : w_M_places_66 s v3 v4 v5 v6 v7) : X m_M_places (d + 3) 66 [some (.inr (.inr (some 21))), none, none, some (.inl v3), some (.inl v4), some (.inl v5), some (.inl v6), some (.inl v7), none] [] (hp s) (qIs (t_M_places_66 s v3 v4 v5 v6 v7)) := by
  unfold t_M_places_66
  unfold w_M_places_66 at hw
  refine X_run 2 (i1 := cond (cn1 .le v5) 78 68) (L1 := [some (.inr (.inr (some 21))), none, none, some (.inl v3), some (.inl v4), some (.inl v5), some (.inl v6), some (.inl v7), none]) (st1 := []) rfl ?_
  refine X_brq (fun hb => ?_) (fun hb => ?_)
  · have hw := hw.1 hb
    exact ct_M_places_78 s v3 v4 v5 v6 v7 hw
  · have hw := hw.2 hb
    refine X_run 1 (i1 := 69) (L1 := [some (.inr (.inr (some 21))), none, none, some (.inl v3), some (.inl v4), some (.inl v5), some (.inl v6), some (.inl v7), none]) (st1 := [.inr (.inr (some 21))]) rfl ?_
    refine X_gF (v := .inr (.inr (some 22))) rfl rfl rfl rfl ?_
    refine X_run 1 (i1 := 71) (L1 := [some (.inr (.inr (some 21))), none, none, some (.inl v3), some (.inl v4), some (.inl v5), some (.inl v6), some (.inl v7), none]) (st1 := [.inl v5, .inr (.inr (some 22))]) rfl ?_
    obtain ⟨hin, hw⟩ := hw
    refine X_aI rfl rfl hin ?_
    show X _ _ 72 [some (.inr (.inr (some 21))), none, none, some (.inl v3), some (.inl v4), some (.inl v5), some (.inl v6), some (.inl v7), none] [.inl (sA s 22 (Int32.toNatClampNeg v5))] (hp s) _
    refine X_run 2 (i1 := cond (cn2 .eq (sA s 22 (Int32.toNatClampNeg v5)) v4) 78 74) (L1 := [some (.inr (.inr (some 21))), none, none, some (.inl v3), some (.inl v4), some (.inl v5), some (.inl v6), some (.inl v7), none]) (st1 := []) rfl ?_
    refine X_brq (fun hb => ?_) (fun hb => ?_)
    · have hw := hw.1 hb
      exact ct_M_places_78 s v3 v4 v5 v6 v7 hw
    · have hw := hw.2 hb
      refine X_run 2 (i1 := 76) (L1 := [some (.inr (.inr (some 21))), none, none, some (.inl v3), some (.inl v4), some (.inl v5), some (.inl v6), some (.inl v7), none]) (st1 := [.inl (4 : Int32), .inr (.inr (some 21))]) rfl ?_
      obtain ⟨hc, hw⟩ := hw
      refine X_callv m_M_fails (As := [.inl (4 : Int32)]) (st := []) ok_M_fails rfl rfl rfl (hp_obj rfl) rfl (Nat.le_of_ble_eq_true rfl) (Nat.le_of_ble_eq_true rfl) (c_M_fails (d := d) s (4 : Int32) hc) ?_
      rintro _ _ ⟨rfl, rfl⟩
      show X _ _ 77 [some (.inr (.inr (some 21))), none, none, some (.inl v3), some (.inl v4), some (.inl v5), some (.inl v6), some (.inl v7), none] [.inl ((f_M_fails s (4 : Int32)).1)] (hp ((f_M_fails s (4 : Int32)).2)) _
      exact X_iret rfl rfl qIs_p
def t_M_places_56 (s : St) (v3 : Int32) (v4 : Int32) (v5 : Int32) (v6 : Int32) (w0 : Int32) : Int32 × St := (cond (cn1 .ne v3) (t_M_places_66 s v3 v4 v5 v6 (sA s 30 (Int32.toNatClampNeg w0))) (cond (cn1 .ne v5) (t_M_places_66 s v3 v4 v5 v6 (sA s 30 (Int32.toNatClampNeg w0))) (f_M_fails s (1 : Int32))))
def w_M_places_56 (s : St) (v3 : Int32) (v4 : Int32) (v5 : Int32) (v6 : Int32) (w0 : Int32) : Prop := (vp_in w0 3200 ∧ ((cn1 .ne v3) = true → (w_M_places_66 s v3 v4 v5 v6 (sA s 30 (Int32.toNatClampNeg w0)))) ∧ ((cn1 .ne v3) = false → ((cn1 .ne v5) = true → (w_M_places_66 s v3 v4 v5 v6 (sA s 30 (Int32.toNatClampNeg w0)))) ∧ ((cn1 .ne v5) = false → (w_M_fails s (1 : Int32) ∧ True))))
theorem ct_M_places_56 {d : Nat} (s : St) (v3 : Int32) (v4 : Int32) (v5 : Int32) (v6 : Int32) (w0 : Int32) (hw : w_M_places_56 s v3 v4 v5 v6 w0) : X m_M_places (d + 3) 56 [some (.inr (.inr (some 21))), none, none, some (.inl v3), some (.inl v4), some (.inl v5), some (.inl v6), none, none] [.inl w0, .inr (.inr (some 30))] (hp s) (qIs (t_M_places_56 s v3 v4 v5 v6 w0)) := by
  unfold t_M_places_56
  unfold w_M_places_56 at hw
  obtain ⟨hin, hw⟩ := hw
  refine X_aI rfl rfl hin ?_
  show X _ _ 57 [some (.inr (.inr (some 21))), none, none, some (.inl v3), some (.inl v4), some (.inl v5), some (.inl v6), none, none] [.inl (sA s 30 (Int32.toNatClampNeg w0))] (hp s) _
  refine X_run 3 (i1 := cond (cn1 .ne v3) 66 60) (L1 := [some (.inr (.inr (some 21))), none, none, some (.inl v3), some (.inl v4), some (.inl v5), some (.inl v6), some (.inl (sA s 30 (Int32.toNatClampNeg w0))), none]) (st1 := []) rfl ?_
  refine X_brq (fun hb => ?_) (fun hb => ?_)
  · have hw := hw.1 hb
    exact ct_M_places_66 s v3 v4 v5 v6 (sA s 30 (Int32.toNatClampNeg w0)) hw
  · have hw := hw.2 hb
    refine X_run 2 (i1 := cond (cn1 .ne v5) 66 62) (L1 := [some (.inr (.inr (some 21))), none, none, some (.inl v3), some (.inl v4), some (.inl v5), some (.inl v6), some (.inl (sA s 30 (Int32.toNatClampNeg w0))), none]) (st1 := []) rfl ?_
    refine X_brq (fun hb => ?_) (fun hb => ?_)
    · have hw := hw.1 hb
      exact ct_M_places_66 s v3 v4 v5 v6 (sA s 30 (Int32.toNatClampNeg w0)) hw
    · have hw := hw.2 hb
      refine X_run 2 (i1 := 64) (L1 := [some (.inr (.inr (some 21))), none, none, some (.inl v3), some (.inl v4), some (.inl v5), some (.inl v6), some (.inl (sA s 30 (Int32.toNatClampNeg w0))), none]) (st1 := [.inl (1 : Int32), .inr (.inr (some 21))]) rfl ?_
      obtain ⟨hc, hw⟩ := hw
      refine X_callv m_M_fails (As := [.inl (1 : Int32)]) (st := []) ok_M_fails rfl rfl rfl (hp_obj rfl) rfl (Nat.le_of_ble_eq_true rfl) (Nat.le_of_ble_eq_true rfl) (c_M_fails (d := d) s (1 : Int32) hc) ?_
      rintro _ _ ⟨rfl, rfl⟩
      show X _ _ 65 [some (.inr (.inr (some 21))), none, none, some (.inl v3), some (.inl v4), some (.inl v5), some (.inl v6), some (.inl (sA s 30 (Int32.toNatClampNeg w0))), none] [.inl ((f_M_fails s (1 : Int32)).1)] (hp ((f_M_fails s (1 : Int32)).2)) _
      exact X_iret rfl rfl qIs_p
def t_M_places_44 (s : St) (v2 : Int32) (v3 : Int32) (v4 : Int32) (v5 : Int32) (w0 : Int32) : Int32 × St := (cond (cn1 .eq v3) (t_M_places_56 s v3 v4 v5 (sA s 28 (Int32.toNatClampNeg (sA s 30 (Int32.toNatClampNeg w0)))) v2) (t_M_places_56 s v3 v4 v5 (sA s 28 (Int32.toNatClampNeg (sA s 30 (Int32.toNatClampNeg w0)))) (v2 + (2 : Int32))))
def w_M_places_44 (s : St) (v2 : Int32) (v3 : Int32) (v4 : Int32) (v5 : Int32) (w0 : Int32) : Prop := (vp_in w0 3200 ∧ (vp_in (sA s 30 (Int32.toNatClampNeg w0)) 8 ∧ ((cn1 .eq v3) = true → (w_M_places_56 s v3 v4 v5 (sA s 28 (Int32.toNatClampNeg (sA s 30 (Int32.toNatClampNeg w0)))) v2)) ∧ ((cn1 .eq v3) = false → (w_M_places_56 s v3 v4 v5 (sA s 28 (Int32.toNatClampNeg (sA s 30 (Int32.toNatClampNeg w0)))) (v2 + (2 : Int32))))))
theorem ct_M_places_44 {d : Nat} (s : St) (v2 : Int32) (v3 : Int32) (v4 : Int32) (v5 : Int32) (w0 : Int32) (hw : w_M_places_44 s v2 v3 v4 v5 w0) : X m_M_places (d + 3) 44 [some (.inr (.inr (some 21))), none, some (.inl v2), some (.inl v3), some (.inl v4), some (.inl v5), none, none, none] [.inl w0, .inr (.inr (some 30)), .inr (.inr (some 28))] (hp s) (qIs (t_M_places_44 s v2 v3 v4 v5 w0)) := by
  unfold t_M_places_44
  unfold w_M_places_44 at hw
  obtain ⟨hin, hw⟩ := hw
  refine X_aI rfl rfl hin ?_
  show X _ _ 45 [some (.inr (.inr (some 21))), none, some (.inl v2), some (.inl v3), some (.inl v4), some (.inl v5), none, none, none] [.inl (sA s 30 (Int32.toNatClampNeg w0)), .inr (.inr (some 28))] (hp s) _
  obtain ⟨hin, hw⟩ := hw
  refine X_aI rfl rfl hin ?_
  show X _ _ 46 [some (.inr (.inr (some 21))), none, some (.inl v2), some (.inl v3), some (.inl v4), some (.inl v5), none, none, none] [.inl (sA s 28 (Int32.toNatClampNeg (sA s 30 (Int32.toNatClampNeg w0))))] (hp s) _
  refine X_run 2 (i1 := 48) (L1 := [some (.inr (.inr (some 21))), none, some (.inl v2), some (.inl v3), some (.inl v4), some (.inl v5), some (.inl (sA s 28 (Int32.toNatClampNeg (sA s 30 (Int32.toNatClampNeg w0))))), none, none]) (st1 := [.inr (.inr (some 21))]) rfl ?_
  refine X_gF (v := .inr (.inr (some 30))) rfl rfl rfl rfl ?_
  refine X_run 2 (i1 := cond (cn1 .eq v3) 55 51) (L1 := [some (.inr (.inr (some 21))), none, some (.inl v2), some (.inl v3), some (.inl v4), some (.inl v5), some (.inl (sA s 28 (Int32.toNatClampNeg (sA s 30 (Int32.toNatClampNeg w0))))), none, none]) (st1 := [.inr (.inr (some 30))]) rfl ?_
  refine X_brq (fun hb => ?_) (fun hb => ?_)
  · have hw := hw.1 hb
    refine X_run 1 (i1 := 56) (L1 := [some (.inr (.inr (some 21))), none, some (.inl v2), some (.inl v3), some (.inl v4), some (.inl v5), some (.inl (sA s 28 (Int32.toNatClampNeg (sA s 30 (Int32.toNatClampNeg w0))))), none, none]) (st1 := [.inl v2, .inr (.inr (some 30))]) rfl ?_
    refine X_mask [true, true, false, true, true, true, true, true, true] ?_
    exact ct_M_places_56 s v3 v4 v5 (sA s 28 (Int32.toNatClampNeg (sA s 30 (Int32.toNatClampNeg w0)))) v2 hw
  · have hw := hw.2 hb
    refine X_run 4 (i1 := 56) (L1 := [some (.inr (.inr (some 21))), none, some (.inl v2), some (.inl v3), some (.inl v4), some (.inl v5), some (.inl (sA s 28 (Int32.toNatClampNeg (sA s 30 (Int32.toNatClampNeg w0))))), none, none]) (st1 := [.inl (v2 + (2 : Int32)), .inr (.inr (some 30))]) rfl ?_
    refine X_mask [true, true, false, true, true, true, true, true, true] ?_
    exact ct_M_places_56 s v3 v4 v5 (sA s 28 (Int32.toNatClampNeg (sA s 30 (Int32.toNatClampNeg w0)))) (v2 + (2 : Int32)) hw
def t_M_places_28 (s : St) (v2 : Int32) (v3 : Int32) (v4 : Int32) (w0 : Int32) : Int32 × St := (cond (cn1 .eq v3) (t_M_places_44 s v2 v3 v4 (sA s 27 (Int32.toNatClampNeg (sA s 30 (Int32.toNatClampNeg w0)))) (v2 + (2 : Int32))) (t_M_places_44 s v2 v3 v4 (sA s 27 (Int32.toNatClampNeg (sA s 30 (Int32.toNatClampNeg w0)))) (v2 + (1 : Int32))))
def w_M_places_28 (s : St) (v2 : Int32) (v3 : Int32) (v4 : Int32) (w0 : Int32) : Prop := (vp_in w0 3200 ∧ (vp_in (sA s 30 (Int32.toNatClampNeg w0)) 16 ∧ ((cn1 .eq v3) = true → (w_M_places_44 s v2 v3 v4 (sA s 27 (Int32.toNatClampNeg (sA s 30 (Int32.toNatClampNeg w0)))) (v2 + (2 : Int32)))) ∧ ((cn1 .eq v3) = false → (w_M_places_44 s v2 v3 v4 (sA s 27 (Int32.toNatClampNeg (sA s 30 (Int32.toNatClampNeg w0)))) (v2 + (1 : Int32))))))
theorem ct_M_places_28 {d : Nat} (s : St) (v2 : Int32) (v3 : Int32) (v4 : Int32) (w0 : Int32) (hw : w_M_places_28 s v2 v3 v4 w0) : X m_M_places (d + 3) 28 [some (.inr (.inr (some 21))), none, some (.inl v2), some (.inl v3), some (.inl v4), none, none, none, none] [.inl w0, .inr (.inr (some 30)), .inr (.inr (some 27))] (hp s) (qIs (t_M_places_28 s v2 v3 v4 w0)) := by
  unfold t_M_places_28
  unfold w_M_places_28 at hw
  obtain ⟨hin, hw⟩ := hw
  refine X_aI rfl rfl hin ?_
  show X _ _ 29 [some (.inr (.inr (some 21))), none, some (.inl v2), some (.inl v3), some (.inl v4), none, none, none, none] [.inl (sA s 30 (Int32.toNatClampNeg w0)), .inr (.inr (some 27))] (hp s) _
  obtain ⟨hin, hw⟩ := hw
  refine X_aI rfl rfl hin ?_
  show X _ _ 30 [some (.inr (.inr (some 21))), none, some (.inl v2), some (.inl v3), some (.inl v4), none, none, none, none] [.inl (sA s 27 (Int32.toNatClampNeg (sA s 30 (Int32.toNatClampNeg w0))))] (hp s) _
  refine X_run 2 (i1 := 32) (L1 := [some (.inr (.inr (some 21))), none, some (.inl v2), some (.inl v3), some (.inl v4), some (.inl (sA s 27 (Int32.toNatClampNeg (sA s 30 (Int32.toNatClampNeg w0))))), none, none, none]) (st1 := [.inr (.inr (some 21))]) rfl ?_
  refine X_gF (v := .inr (.inr (some 28))) rfl rfl rfl rfl ?_
  refine X_run 1 (i1 := 34) (L1 := [some (.inr (.inr (some 21))), none, some (.inl v2), some (.inl v3), some (.inl v4), some (.inl (sA s 27 (Int32.toNatClampNeg (sA s 30 (Int32.toNatClampNeg w0))))), none, none, none]) (st1 := [.inr (.inr (some 21)), .inr (.inr (some 28))]) rfl ?_
  refine X_gF (v := .inr (.inr (some 30))) rfl rfl rfl rfl ?_
  refine X_run 2 (i1 := cond (cn1 .eq v3) 41 37) (L1 := [some (.inr (.inr (some 21))), none, some (.inl v2), some (.inl v3), some (.inl v4), some (.inl (sA s 27 (Int32.toNatClampNeg (sA s 30 (Int32.toNatClampNeg w0))))), none, none, none]) (st1 := [.inr (.inr (some 30)), .inr (.inr (some 28))]) rfl ?_
  refine X_brq (fun hb => ?_) (fun hb => ?_)
  · have hw := hw.1 hb
    refine X_run 3 (i1 := 44) (L1 := [some (.inr (.inr (some 21))), none, some (.inl v2), some (.inl v3), some (.inl v4), some (.inl (sA s 27 (Int32.toNatClampNeg (sA s 30 (Int32.toNatClampNeg w0))))), none, none, none]) (st1 := [.inl (v2 + (2 : Int32)), .inr (.inr (some 30)), .inr (.inr (some 28))]) rfl ?_
    exact ct_M_places_44 s v2 v3 v4 (sA s 27 (Int32.toNatClampNeg (sA s 30 (Int32.toNatClampNeg w0)))) (v2 + (2 : Int32)) hw
  · have hw := hw.2 hb
    refine X_run 4 (i1 := 44) (L1 := [some (.inr (.inr (some 21))), none, some (.inl v2), some (.inl v3), some (.inl v4), some (.inl (sA s 27 (Int32.toNatClampNeg (sA s 30 (Int32.toNatClampNeg w0))))), none, none, none]) (st1 := [.inl (v2 + (1 : Int32)), .inr (.inr (some 30)), .inr (.inr (some 28))]) rfl ?_
    exact ct_M_places_44 s v2 v3 v4 (sA s 27 (Int32.toNatClampNeg (sA s 30 (Int32.toNatClampNeg w0)))) (v2 + (1 : Int32)) hw
def t_M_places_16 (s : St) (v2 : Int32) (v3 : Int32) (w0 : Int32) : Int32 × St := (cond (cn1 .eq v3) (t_M_places_28 s v2 v3 w0 (v2 + (1 : Int32))) (t_M_places_28 s v2 v3 w0 v2))
def w_M_places_16 (s : St) (v2 : Int32) (v3 : Int32) (w0 : Int32) : Prop := ((cn1 .eq v3) = true → (w_M_places_28 s v2 v3 w0 (v2 + (1 : Int32)))) ∧ ((cn1 .eq v3) = false → (w_M_places_28 s v2 v3 w0 v2))
theorem ct_M_places_16 {d : Nat} (s : St) (v2 : Int32) (v3 : Int32) (w0 : Int32) (hw : w_M_places_16 s v2 v3 w0) : X m_M_places (d + 3) 16 [some (.inr (.inr (some 21))), none, some (.inl v2), some (.inl v3), none, none, none, none, none] [.inl w0] (hp s) (qIs (t_M_places_16 s v2 v3 w0)) := by
  unfold t_M_places_16
  unfold w_M_places_16 at hw
  refine X_run 2 (i1 := 18) (L1 := [some (.inr (.inr (some 21))), none, some (.inl v2), some (.inl v3), some (.inl w0), none, none, none, none]) (st1 := [.inr (.inr (some 21))]) rfl ?_
  refine X_gF (v := .inr (.inr (some 27))) rfl rfl rfl rfl ?_
  refine X_run 1 (i1 := 20) (L1 := [some (.inr (.inr (some 21))), none, some (.inl v2), some (.inl v3), some (.inl w0), none, none, none, none]) (st1 := [.inr (.inr (some 21)), .inr (.inr (some 27))]) rfl ?_
  refine X_gF (v := .inr (.inr (some 30))) rfl rfl rfl rfl ?_
  refine X_run 2 (i1 := cond (cn1 .eq v3) 25 23) (L1 := [some (.inr (.inr (some 21))), none, some (.inl v2), some (.inl v3), some (.inl w0), none, none, none, none]) (st1 := [.inr (.inr (some 30)), .inr (.inr (some 27))]) rfl ?_
  refine X_brq (fun hb => ?_) (fun hb => ?_)
  · have hw := hw.1 hb
    refine X_run 3 (i1 := 28) (L1 := [some (.inr (.inr (some 21))), none, some (.inl v2), some (.inl v3), some (.inl w0), none, none, none, none]) (st1 := [.inl (v2 + (1 : Int32)), .inr (.inr (some 30)), .inr (.inr (some 27))]) rfl ?_
    exact ct_M_places_28 s v2 v3 w0 (v2 + (1 : Int32)) hw
  · have hw := hw.2 hb
    refine X_run 2 (i1 := 28) (L1 := [some (.inr (.inr (some 21))), none, some (.inl v2), some (.inl v3), some (.inl w0), none, none, none, none]) (st1 := [.inl v2, .inr (.inr (some 30)), .inr (.inr (some 27))]) rfl ?_
    exact ct_M_places_28 s v2 v3 w0 v2 hw
def t_M_places_9 (s : St) (v1 : Int32) (v2 : Int32) (w0 : Int32) : Int32 × St := (cond (cn2 .ge v1 (25 : Int32)) (t_M_places_16 s v2 w0 (10 : Int32)) (t_M_places_16 s v2 w0 (9 : Int32)))
def w_M_places_9 (s : St) (v1 : Int32) (v2 : Int32) (w0 : Int32) : Prop := ((cn2 .ge v1 (25 : Int32)) = true → (w_M_places_16 s v2 w0 (10 : Int32))) ∧ ((cn2 .ge v1 (25 : Int32)) = false → (w_M_places_16 s v2 w0 (9 : Int32)))
theorem ct_M_places_9 {d : Nat} (s : St) (v1 : Int32) (v2 : Int32) (w0 : Int32) (hw : w_M_places_9 s v1 v2 w0) : X m_M_places (d + 3) 9 [some (.inr (.inr (some 21))), some (.inl v1), some (.inl v2), none, none, none, none, none, none] [.inl w0] (hp s) (qIs (t_M_places_9 s v1 v2 w0)) := by
  unfold t_M_places_9
  unfold w_M_places_9 at hw
  refine X_run 4 (i1 := cond (cn2 .ge v1 (25 : Int32)) 15 13) (L1 := [some (.inr (.inr (some 21))), some (.inl v1), some (.inl v2), some (.inl w0), none, none, none, none, none]) (st1 := []) rfl ?_
  refine X_brq (fun hb => ?_) (fun hb => ?_)
  · have hw := hw.1 hb
    refine X_run 1 (i1 := 16) (L1 := [some (.inr (.inr (some 21))), some (.inl v1), some (.inl v2), some (.inl w0), none, none, none, none, none]) (st1 := [.inl (10 : Int32)]) rfl ?_
    refine X_mask [true, false, true, true, true, true, true, true, true] ?_
    exact ct_M_places_16 s v2 w0 (10 : Int32) hw
  · have hw := hw.2 hb
    refine X_run 2 (i1 := 16) (L1 := [some (.inr (.inr (some 21))), some (.inl v1), some (.inl v2), some (.inl w0), none, none, none, none, none]) (st1 := [.inl (9 : Int32)]) rfl ?_
    refine X_mask [true, false, true, true, true, true, true, true, true] ?_
    exact ct_M_places_16 s v2 w0 (9 : Int32) hw
def t_M_places_6 (s : St) (v1 : Int32) (v2 : Int32) : Int32 × St := (t_M_places_9 s v1 v2 (1 : Int32))
def w_M_places_6 (s : St) (v1 : Int32) (v2 : Int32) : Prop := (w_M_places_9 s v1 v2 (1 : Int32))
theorem ct_M_places_6 {d : Nat} (s : St) (v1 : Int32) (v2 : Int32) (hw : w_M_places_6 s v1 v2) : X m_M_places (d + 3) 6 [some (.inr (.inr (some 21))), some (.inl v1), some (.inl v2), none, none, none, none, none, none] [] (hp s) (qIs (t_M_places_6 s v1 v2)) := by
  unfold t_M_places_6
  unfold w_M_places_6 at hw
  refine X_run 2 (i1 := 9) (L1 := [some (.inr (.inr (some 21))), some (.inl v1), some (.inl v2), none, none, none, none, none, none]) (st1 := [.inl (1 : Int32)]) rfl ?_
  exact ct_M_places_9 s v1 v2 (1 : Int32) hw
def f_M_places (s : St) (a0 : Int32) (a1 : Int32) : Int32 × St := (cond (cn2 .eq a0 (24 : Int32)) (t_M_places_6 s a0 a1) (cond (cn2 .ne a0 (26 : Int32)) (t_M_places_9 s a0 a1 (0 : Int32)) (t_M_places_6 s a0 a1)))
def w_M_places (s : St) (a0 : Int32) (a1 : Int32) : Prop := ((cn2 .eq a0 (24 : Int32)) = true → (w_M_places_6 s a0 a1)) ∧ ((cn2 .eq a0 (24 : Int32)) = false → ((cn2 .ne a0 (26 : Int32)) = true → (w_M_places_9 s a0 a1 (0 : Int32))) ∧ ((cn2 .ne a0 (26 : Int32)) = false → (w_M_places_6 s a0 a1)))
theorem c_M_places {d : Nat} (s : St) (a0 : Int32) (a1 : Int32) (hw : w_M_places s a0 a1) : X m_M_places (d + 3) 0 (entL 9 [.inr (.inr (some 21)), .inl a0, .inl a1]) [] (hp s) (qIs (f_M_places s a0 a1)) := by
  unfold f_M_places
  unfold w_M_places at hw
  refine X_run 3 (i1 := cond (cn2 .eq a0 (24 : Int32)) 6 3) (L1 := [some (.inr (.inr (some 21))), some (.inl a0), some (.inl a1), none, none, none, none, none, none]) (st1 := []) rfl ?_
  refine X_brq (fun hb => ?_) (fun hb => ?_)
  · have hw := hw.1 hb
    exact ct_M_places_6 s a0 a1 hw
  · have hw := hw.2 hb
    refine X_run 3 (i1 := cond (cn2 .ne a0 (26 : Int32)) 8 6) (L1 := [some (.inr (.inr (some 21))), some (.inl a0), some (.inl a1), none, none, none, none, none, none]) (st1 := []) rfl ?_
    refine X_brq (fun hb => ?_) (fun hb => ?_)
    · have hw := hw.1 hb
      refine X_run 1 (i1 := 9) (L1 := [some (.inr (.inr (some 21))), some (.inl a0), some (.inl a1), none, none, none, none, none, none]) (st1 := [.inl (0 : Int32)]) rfl ?_
      exact ct_M_places_9 s a0 a1 (0 : Int32) hw
    · have hw := hw.2 hb
      exact ct_M_places_6 s a0 a1 hw
def t_M_fields_138 (s : St) (w0 : Int64) (w1 : Int32) : Int32 × St := ((0 : Int32), pB s 26 (vp_updL (sB s 26) (Int32.toNatClampNeg w1) w0))
def w_M_fields_138 (s : St) (w0 : Int64) (w1 : Int32) : Prop := (vp_in w1 40001 ∧ True)
theorem ct_M_fields_138 {d : Nat} (s : St) (w0 : Int64) (w1 : Int32) (hw : w_M_fields_138 s w0 w1) : X m_M_fields (d + 3) 138 [none, none, none, none, none, none, none, none] [.inr (.inl w0), .inl w1, .inr (.inr (some 26))] (hp s) (qIs (t_M_fields_138 s w0 w1)) := by
  unfold t_M_fields_138
  unfold w_M_fields_138 at hw
  obtain ⟨hin, hw⟩ := hw
  refine X_sL rfl rfl hin ?_
  show X _ _ 139 [none, none, none, none, none, none, none, none] [] (hp (pB s 26 (vp_updL (sB s 26) (Int32.toNatClampNeg w1) w0))) _
  refine X_run 2 (i1 := 175) (L1 := [none, none, none, none, none, none, none, none]) (st1 := [.inl (0 : Int32)]) rfl ?_
  exact X_iret rfl rfl qIs_i
def t_M_fields_98 (s : St) (v3 : Int32) (v4 : Int32) (v5 : Int32) (v6 : Int32) : Int32 × St := (cond (cn1 .ne v4) (cond (cn1 .eq v6) (cond (cn2 .ne v3 (1 : Int32)) (cond (cn2 .ne v3 (3 : Int32)) ((0 : Int32), pA s 28 (upd (sA s 28) (Int32.toNatClampNeg v5) (Int64.toInt32 (sB s 26 (Int32.toNatClampNeg ((sA s 23 (Int32.toNatClampNeg v4)) + v3)))))) ((0 : Int32), pA s 27 (upd (sA s 27) (Int32.toNatClampNeg v5) (Int64.toInt32 (sB s 26 (Int32.toNatClampNeg ((sA s 23 (Int32.toNatClampNeg v4)) + v3))))))) ((0 : Int32), pB s 29 (vp_updL (sB s 29) (Int32.toNatClampNeg v5) (sB s 26 (Int32.toNatClampNeg ((sA s 23 (Int32.toNatClampNeg v4)) + v3)))))) (cond (cn2 .ne v3 (1 : Int32)) (cond (cn2 .ne v3 (3 : Int32)) (t_M_fields_138 s (Int32.toInt64 (sA s 28 (Int32.toNatClampNeg v5))) ((sA s 23 (Int32.toNatClampNeg v4)) + v3)) (t_M_fields_138 s (Int32.toInt64 (sA s 27 (Int32.toNatClampNeg v5))) ((sA s 23 (Int32.toNatClampNeg v4)) + v3))) (t_M_fields_138 s (sB s 29 (Int32.toNatClampNeg v5)) ((sA s 23 (Int32.toNatClampNeg v4)) + v3)))) (f_M_fails s (1 : Int32)))
def w_M_fields_98 (s : St) (v3 : Int32) (v4 : Int32) (v5 : Int32) (v6 : Int32) : Prop := ((cn1 .ne v4) = true → (vp_in v4 40001 ∧ ((cn1 .eq v6) = true → ((cn2 .ne v3 (1 : Int32)) = true → ((cn2 .ne v3 (3 : Int32)) = true → (vp_in ((sA s 23 (Int32.toNatClampNeg v4)) + v3) 40001 ∧ (vp_in v5 8 ∧ True))) ∧ ((cn2 .ne v3 (3 : Int32)) = false → (vp_in ((sA s 23 (Int32.toNatClampNeg v4)) + v3) 40001 ∧ (vp_in v5 16 ∧ True)))) ∧ ((cn2 .ne v3 (1 : Int32)) = false → (vp_in ((sA s 23 (Int32.toNatClampNeg v4)) + v3) 40001 ∧ (vp_in v5 4 ∧ True)))) ∧ ((cn1 .eq v6) = false → ((cn2 .ne v3 (1 : Int32)) = true → ((cn2 .ne v3 (3 : Int32)) = true → (vp_in v5 8 ∧ (w_M_fields_138 s (Int32.toInt64 (sA s 28 (Int32.toNatClampNeg v5))) ((sA s 23 (Int32.toNatClampNeg v4)) + v3)))) ∧ ((cn2 .ne v3 (3 : Int32)) = false → (vp_in v5 16 ∧ (w_M_fields_138 s (Int32.toInt64 (sA s 27 (Int32.toNatClampNeg v5))) ((sA s 23 (Int32.toNatClampNeg v4)) + v3))))) ∧ ((cn2 .ne v3 (1 : Int32)) = false → (vp_in v5 4 ∧ (w_M_fields_138 s (sB s 29 (Int32.toNatClampNeg v5)) ((sA s 23 (Int32.toNatClampNeg v4)) + v3))))))) ∧ ((cn1 .ne v4) = false → (w_M_fails s (1 : Int32) ∧ True))
theorem ct_M_fields_98 {d : Nat} (s : St) (v3 : Int32) (v4 : Int32) (v5 : Int32) (v6 : Int32) (hw : w_M_fields_98 s v3 v4 v5 v6) : X m_M_fields (d + 3) 98 [some (.inr (.inr (some 21))), none, none, some (.inl v3), some (.inl v4), some (.inl v5), some (.inl v6), none] [] (hp s) (qIs (t_M_fields_98 s v3 v4 v5 v6)) := by
  unfold t_M_fields_98
  unfold w_M_fields_98 at hw
  refine X_run 2 (i1 := cond (cn1 .ne v4) 104 100) (L1 := [some (.inr (.inr (some 21))), none, none, some (.inl v3), some (.inl v4), some (.inl v5), some (.inl v6), none]) (st1 := []) rfl ?_
  refine X_brq (fun hb => ?_) (fun hb => ?_)
  · have hw := hw.1 hb
    refine X_run 1 (i1 := 105) (L1 := [some (.inr (.inr (some 21))), none, none, some (.inl v3), some (.inl v4), some (.inl v5), some (.inl v6), none]) (st1 := [.inr (.inr (some 21))]) rfl ?_
    refine X_gF (v := .inr (.inr (some 23))) rfl rfl rfl rfl ?_
    refine X_run 1 (i1 := 107) (L1 := [some (.inr (.inr (some 21))), none, none, some (.inl v3), some (.inl v4), some (.inl v5), some (.inl v6), none]) (st1 := [.inl v4, .inr (.inr (some 23))]) rfl ?_
    obtain ⟨hin, hw⟩ := hw
    refine X_aI rfl rfl hin ?_
    show X _ _ 108 [some (.inr (.inr (some 21))), none, none, some (.inl v3), some (.inl v4), some (.inl v5), some (.inl v6), none] [.inl (sA s 23 (Int32.toNatClampNeg v4))] (hp s) _
    refine X_run 5 (i1 := cond (cn1 .eq v6) 140 113) (L1 := [some (.inr (.inr (some 21))), none, none, some (.inl v3), some (.inl v4), some (.inl v5), some (.inl v6), some (.inl ((sA s 23 (Int32.toNatClampNeg v4)) + v3))]) (st1 := []) rfl ?_
    refine X_brq (fun hb => ?_) (fun hb => ?_)
    · have hw := hw.1 hb
      refine X_run 3 (i1 := cond (cn2 .ne v3 (1 : Int32)) 152 143) (L1 := [some (.inr (.inr (some 21))), none, none, some (.inl v3), some (.inl v4), some (.inl v5), some (.inl v6), some (.inl ((sA s 23 (Int32.toNatClampNeg v4)) + v3))]) (st1 := []) rfl ?_
      refine X_brq (fun hb => ?_) (fun hb => ?_)
      · have hw := hw.1 hb
        refine X_run 3 (i1 := cond (cn2 .ne v3 (3 : Int32)) 165 155) (L1 := [some (.inr (.inr (some 21))), none, none, some (.inl v3), some (.inl v4), some (.inl v5), some (.inl v6), some (.inl ((sA s 23 (Int32.toNatClampNeg v4)) + v3))]) (st1 := []) rfl ?_
        refine X_brq (fun hb => ?_) (fun hb => ?_)
        · have hw := hw.1 hb
          refine X_run 1 (i1 := 166) (L1 := [some (.inr (.inr (some 21))), none, none, some (.inl v3), some (.inl v4), some (.inl v5), some (.inl v6), some (.inl ((sA s 23 (Int32.toNatClampNeg v4)) + v3))]) (st1 := [.inr (.inr (some 21))]) rfl ?_
          refine X_gF (v := .inr (.inr (some 28))) rfl rfl rfl rfl ?_
          refine X_run 2 (i1 := 169) (L1 := [some (.inr (.inr (some 21))), none, none, some (.inl v3), some (.inl v4), some (.inl v5), some (.inl v6), some (.inl ((sA s 23 (Int32.toNatClampNeg v4)) + v3))]) (st1 := [.inr (.inr (some 21)), .inl v5, .inr (.inr (some 28))]) rfl ?_
          refine X_gF (v := .inr (.inr (some 26))) rfl rfl rfl rfl ?_
          refine X_run 1 (i1 := 171) (L1 := [some (.inr (.inr (some 21))), none, none, some (.inl v3), some (.inl v4), some (.inl v5), some (.inl v6), some (.inl ((sA s 23 (Int32.toNatClampNeg v4)) + v3))]) (st1 := [.inl ((sA s 23 (Int32.toNatClampNeg v4)) + v3), .inr (.inr (some 26)), .inl v5, .inr (.inr (some 28))]) rfl ?_
          obtain ⟨hin, hw⟩ := hw
          refine X_aL rfl rfl hin ?_
          show X _ _ 172 [some (.inr (.inr (some 21))), none, none, some (.inl v3), some (.inl v4), some (.inl v5), some (.inl v6), some (.inl ((sA s 23 (Int32.toNatClampNeg v4)) + v3))] [.inr (.inl (sB s 26 (Int32.toNatClampNeg ((sA s 23 (Int32.toNatClampNeg v4)) + v3)))), .inl v5, .inr (.inr (some 28))] (hp s) _
          refine X_run 1 (i1 := 173) (L1 := [some (.inr (.inr (some 21))), none, none, some (.inl v3), some (.inl v4), some (.inl v5), some (.inl v6), some (.inl ((sA s 23 (Int32.toNatClampNeg v4)) + v3))]) (st1 := [.inl (Int64.toInt32 (sB s 26 (Int32.toNatClampNeg ((sA s 23 (Int32.toNatClampNeg v4)) + v3)))), .inl v5, .inr (.inr (some 28))]) rfl ?_
          obtain ⟨hin, hw⟩ := hw
          refine X_sI rfl rfl hin ?_
          show X _ _ 174 [some (.inr (.inr (some 21))), none, none, some (.inl v3), some (.inl v4), some (.inl v5), some (.inl v6), some (.inl ((sA s 23 (Int32.toNatClampNeg v4)) + v3))] [] (hp (pA s 28 (upd (sA s 28) (Int32.toNatClampNeg v5) (Int64.toInt32 (sB s 26 (Int32.toNatClampNeg ((sA s 23 (Int32.toNatClampNeg v4)) + v3))))))) _
          refine X_run 1 (i1 := 175) (L1 := [some (.inr (.inr (some 21))), none, none, some (.inl v3), some (.inl v4), some (.inl v5), some (.inl v6), some (.inl ((sA s 23 (Int32.toNatClampNeg v4)) + v3))]) (st1 := [.inl (0 : Int32)]) rfl ?_
          exact X_iret rfl rfl qIs_i
        · have hw := hw.2 hb
          refine X_run 1 (i1 := 156) (L1 := [some (.inr (.inr (some 21))), none, none, some (.inl v3), some (.inl v4), some (.inl v5), some (.inl v6), some (.inl ((sA s 23 (Int32.toNatClampNeg v4)) + v3))]) (st1 := [.inr (.inr (some 21))]) rfl ?_
          refine X_gF (v := .inr (.inr (some 27))) rfl rfl rfl rfl ?_
          refine X_run 2 (i1 := 159) (L1 := [some (.inr (.inr (some 21))), none, none, some (.inl v3), some (.inl v4), some (.inl v5), some (.inl v6), some (.inl ((sA s 23 (Int32.toNatClampNeg v4)) + v3))]) (st1 := [.inr (.inr (some 21)), .inl v5, .inr (.inr (some 27))]) rfl ?_
          refine X_gF (v := .inr (.inr (some 26))) rfl rfl rfl rfl ?_
          refine X_run 1 (i1 := 161) (L1 := [some (.inr (.inr (some 21))), none, none, some (.inl v3), some (.inl v4), some (.inl v5), some (.inl v6), some (.inl ((sA s 23 (Int32.toNatClampNeg v4)) + v3))]) (st1 := [.inl ((sA s 23 (Int32.toNatClampNeg v4)) + v3), .inr (.inr (some 26)), .inl v5, .inr (.inr (some 27))]) rfl ?_
          obtain ⟨hin, hw⟩ := hw
          refine X_aL rfl rfl hin ?_
          show X _ _ 162 [some (.inr (.inr (some 21))), none, none, some (.inl v3), some (.inl v4), some (.inl v5), some (.inl v6), some (.inl ((sA s 23 (Int32.toNatClampNeg v4)) + v3))] [.inr (.inl (sB s 26 (Int32.toNatClampNeg ((sA s 23 (Int32.toNatClampNeg v4)) + v3)))), .inl v5, .inr (.inr (some 27))] (hp s) _
          refine X_run 1 (i1 := 163) (L1 := [some (.inr (.inr (some 21))), none, none, some (.inl v3), some (.inl v4), some (.inl v5), some (.inl v6), some (.inl ((sA s 23 (Int32.toNatClampNeg v4)) + v3))]) (st1 := [.inl (Int64.toInt32 (sB s 26 (Int32.toNatClampNeg ((sA s 23 (Int32.toNatClampNeg v4)) + v3)))), .inl v5, .inr (.inr (some 27))]) rfl ?_
          obtain ⟨hin, hw⟩ := hw
          refine X_sI rfl rfl hin ?_
          show X _ _ 164 [some (.inr (.inr (some 21))), none, none, some (.inl v3), some (.inl v4), some (.inl v5), some (.inl v6), some (.inl ((sA s 23 (Int32.toNatClampNeg v4)) + v3))] [] (hp (pA s 27 (upd (sA s 27) (Int32.toNatClampNeg v5) (Int64.toInt32 (sB s 26 (Int32.toNatClampNeg ((sA s 23 (Int32.toNatClampNeg v4)) + v3))))))) _
          refine X_run 2 (i1 := 175) (L1 := [some (.inr (.inr (some 21))), none, none, some (.inl v3), some (.inl v4), some (.inl v5), some (.inl v6), some (.inl ((sA s 23 (Int32.toNatClampNeg v4)) + v3))]) (st1 := [.inl (0 : Int32)]) rfl ?_
          exact X_iret rfl rfl qIs_i
      · have hw := hw.2 hb
        refine X_run 1 (i1 := 144) (L1 := [some (.inr (.inr (some 21))), none, none, some (.inl v3), some (.inl v4), some (.inl v5), some (.inl v6), some (.inl ((sA s 23 (Int32.toNatClampNeg v4)) + v3))]) (st1 := [.inr (.inr (some 21))]) rfl ?_
        refine X_gF (v := .inr (.inr (some 29))) rfl rfl rfl rfl ?_
        refine X_run 2 (i1 := 147) (L1 := [some (.inr (.inr (some 21))), none, none, some (.inl v3), some (.inl v4), some (.inl v5), some (.inl v6), some (.inl ((sA s 23 (Int32.toNatClampNeg v4)) + v3))]) (st1 := [.inr (.inr (some 21)), .inl v5, .inr (.inr (some 29))]) rfl ?_
        refine X_gF (v := .inr (.inr (some 26))) rfl rfl rfl rfl ?_
        refine X_run 1 (i1 := 149) (L1 := [some (.inr (.inr (some 21))), none, none, some (.inl v3), some (.inl v4), some (.inl v5), some (.inl v6), some (.inl ((sA s 23 (Int32.toNatClampNeg v4)) + v3))]) (st1 := [.inl ((sA s 23 (Int32.toNatClampNeg v4)) + v3), .inr (.inr (some 26)), .inl v5, .inr (.inr (some 29))]) rfl ?_
        obtain ⟨hin, hw⟩ := hw
        refine X_aL rfl rfl hin ?_
        show X _ _ 150 [some (.inr (.inr (some 21))), none, none, some (.inl v3), some (.inl v4), some (.inl v5), some (.inl v6), some (.inl ((sA s 23 (Int32.toNatClampNeg v4)) + v3))] [.inr (.inl (sB s 26 (Int32.toNatClampNeg ((sA s 23 (Int32.toNatClampNeg v4)) + v3)))), .inl v5, .inr (.inr (some 29))] (hp s) _
        obtain ⟨hin, hw⟩ := hw
        refine X_sL rfl rfl hin ?_
        show X _ _ 151 [some (.inr (.inr (some 21))), none, none, some (.inl v3), some (.inl v4), some (.inl v5), some (.inl v6), some (.inl ((sA s 23 (Int32.toNatClampNeg v4)) + v3))] [] (hp (pB s 29 (vp_updL (sB s 29) (Int32.toNatClampNeg v5) (sB s 26 (Int32.toNatClampNeg ((sA s 23 (Int32.toNatClampNeg v4)) + v3)))))) _
        refine X_run 2 (i1 := 175) (L1 := [some (.inr (.inr (some 21))), none, none, some (.inl v3), some (.inl v4), some (.inl v5), some (.inl v6), some (.inl ((sA s 23 (Int32.toNatClampNeg v4)) + v3))]) (st1 := [.inl (0 : Int32)]) rfl ?_
        exact X_iret rfl rfl qIs_i
    · have hw := hw.2 hb
      refine X_run 1 (i1 := 114) (L1 := [some (.inr (.inr (some 21))), none, none, some (.inl v3), some (.inl v4), some (.inl v5), some (.inl v6), some (.inl ((sA s 23 (Int32.toNatClampNeg v4)) + v3))]) (st1 := [.inr (.inr (some 21))]) rfl ?_
      refine X_gF (v := .inr (.inr (some 26))) rfl rfl rfl rfl ?_
      refine X_run 4 (i1 := cond (cn2 .ne v3 (1 : Int32)) 124 119) (L1 := [some (.inr (.inr (some 21))), none, none, some (.inl v3), some (.inl v4), some (.inl v5), some (.inl v6), some (.inl ((sA s 23 (Int32.toNatClampNeg v4)) + v3))]) (st1 := [.inl ((sA s 23 (Int32.toNatClampNeg v4)) + v3), .inr (.inr (some 26))]) rfl ?_
      refine X_brq (fun hb => ?_) (fun hb => ?_)
      · have hw := hw.1 hb
        refine X_run 3 (i1 := cond (cn2 .ne v3 (3 : Int32)) 133 127) (L1 := [some (.inr (.inr (some 21))), none, none, some (.inl v3), some (.inl v4), some (.inl v5), some (.inl v6), some (.inl ((sA s 23 (Int32.toNatClampNeg v4)) + v3))]) (st1 := [.inl ((sA s 23 (Int32.toNatClampNeg v4)) + v3), .inr (.inr (some 26))]) rfl ?_
        refine X_brq (fun hb => ?_) (fun hb => ?_)
        · have hw := hw.1 hb
          refine X_run 1 (i1 := 134) (L1 := [some (.inr (.inr (some 21))), none, none, some (.inl v3), some (.inl v4), some (.inl v5), some (.inl v6), some (.inl ((sA s 23 (Int32.toNatClampNeg v4)) + v3))]) (st1 := [.inr (.inr (some 21)), .inl ((sA s 23 (Int32.toNatClampNeg v4)) + v3), .inr (.inr (some 26))]) rfl ?_
          refine X_gF (v := .inr (.inr (some 28))) rfl rfl rfl rfl ?_
          refine X_run 1 (i1 := 136) (L1 := [some (.inr (.inr (some 21))), none, none, some (.inl v3), some (.inl v4), some (.inl v5), some (.inl v6), some (.inl ((sA s 23 (Int32.toNatClampNeg v4)) + v3))]) (st1 := [.inl v5, .inr (.inr (some 28)), .inl ((sA s 23 (Int32.toNatClampNeg v4)) + v3), .inr (.inr (some 26))]) rfl ?_
          obtain ⟨hin, hw⟩ := hw
          refine X_aI rfl rfl hin ?_
          show X _ _ 137 [some (.inr (.inr (some 21))), none, none, some (.inl v3), some (.inl v4), some (.inl v5), some (.inl v6), some (.inl ((sA s 23 (Int32.toNatClampNeg v4)) + v3))] [.inl (sA s 28 (Int32.toNatClampNeg v5)), .inl ((sA s 23 (Int32.toNatClampNeg v4)) + v3), .inr (.inr (some 26))] (hp s) _
          refine X_run 1 (i1 := 138) (L1 := [some (.inr (.inr (some 21))), none, none, some (.inl v3), some (.inl v4), some (.inl v5), some (.inl v6), some (.inl ((sA s 23 (Int32.toNatClampNeg v4)) + v3))]) (st1 := [.inr (.inl (Int32.toInt64 (sA s 28 (Int32.toNatClampNeg v5)))), .inl ((sA s 23 (Int32.toNatClampNeg v4)) + v3), .inr (.inr (some 26))]) rfl ?_
          refine X_mask [false, true, true, false, false, false, false, false] ?_
          exact ct_M_fields_138 s (Int32.toInt64 (sA s 28 (Int32.toNatClampNeg v5))) ((sA s 23 (Int32.toNatClampNeg v4)) + v3) hw
        · have hw := hw.2 hb
          refine X_run 1 (i1 := 128) (L1 := [some (.inr (.inr (some 21))), none, none, some (.inl v3), some (.inl v4), some (.inl v5), some (.inl v6), some (.inl ((sA s 23 (Int32.toNatClampNeg v4)) + v3))]) (st1 := [.inr (.inr (some 21)), .inl ((sA s 23 (Int32.toNatClampNeg v4)) + v3), .inr (.inr (some 26))]) rfl ?_
          refine X_gF (v := .inr (.inr (some 27))) rfl rfl rfl rfl ?_
          refine X_run 1 (i1 := 130) (L1 := [some (.inr (.inr (some 21))), none, none, some (.inl v3), some (.inl v4), some (.inl v5), some (.inl v6), some (.inl ((sA s 23 (Int32.toNatClampNeg v4)) + v3))]) (st1 := [.inl v5, .inr (.inr (some 27)), .inl ((sA s 23 (Int32.toNatClampNeg v4)) + v3), .inr (.inr (some 26))]) rfl ?_
          obtain ⟨hin, hw⟩ := hw
          refine X_aI rfl rfl hin ?_
          show X _ _ 131 [some (.inr (.inr (some 21))), none, none, some (.inl v3), some (.inl v4), some (.inl v5), some (.inl v6), some (.inl ((sA s 23 (Int32.toNatClampNeg v4)) + v3))] [.inl (sA s 27 (Int32.toNatClampNeg v5)), .inl ((sA s 23 (Int32.toNatClampNeg v4)) + v3), .inr (.inr (some 26))] (hp s) _
          refine X_run 2 (i1 := 138) (L1 := [some (.inr (.inr (some 21))), none, none, some (.inl v3), some (.inl v4), some (.inl v5), some (.inl v6), some (.inl ((sA s 23 (Int32.toNatClampNeg v4)) + v3))]) (st1 := [.inr (.inl (Int32.toInt64 (sA s 27 (Int32.toNatClampNeg v5)))), .inl ((sA s 23 (Int32.toNatClampNeg v4)) + v3), .inr (.inr (some 26))]) rfl ?_
          refine X_mask [false, true, true, false, false, false, false, false] ?_
          exact ct_M_fields_138 s (Int32.toInt64 (sA s 27 (Int32.toNatClampNeg v5))) ((sA s 23 (Int32.toNatClampNeg v4)) + v3) hw
      · have hw := hw.2 hb
        refine X_run 1 (i1 := 120) (L1 := [some (.inr (.inr (some 21))), none, none, some (.inl v3), some (.inl v4), some (.inl v5), some (.inl v6), some (.inl ((sA s 23 (Int32.toNatClampNeg v4)) + v3))]) (st1 := [.inr (.inr (some 21)), .inl ((sA s 23 (Int32.toNatClampNeg v4)) + v3), .inr (.inr (some 26))]) rfl ?_
        refine X_gF (v := .inr (.inr (some 29))) rfl rfl rfl rfl ?_
        refine X_run 1 (i1 := 122) (L1 := [some (.inr (.inr (some 21))), none, none, some (.inl v3), some (.inl v4), some (.inl v5), some (.inl v6), some (.inl ((sA s 23 (Int32.toNatClampNeg v4)) + v3))]) (st1 := [.inl v5, .inr (.inr (some 29)), .inl ((sA s 23 (Int32.toNatClampNeg v4)) + v3), .inr (.inr (some 26))]) rfl ?_
        obtain ⟨hin, hw⟩ := hw
        refine X_aL rfl rfl hin ?_
        show X _ _ 123 [some (.inr (.inr (some 21))), none, none, some (.inl v3), some (.inl v4), some (.inl v5), some (.inl v6), some (.inl ((sA s 23 (Int32.toNatClampNeg v4)) + v3))] [.inr (.inl (sB s 29 (Int32.toNatClampNeg v5))), .inl ((sA s 23 (Int32.toNatClampNeg v4)) + v3), .inr (.inr (some 26))] (hp s) _
        refine X_run 1 (i1 := 138) (L1 := [some (.inr (.inr (some 21))), none, none, some (.inl v3), some (.inl v4), some (.inl v5), some (.inl v6), some (.inl ((sA s 23 (Int32.toNatClampNeg v4)) + v3))]) (st1 := [.inr (.inl (sB s 29 (Int32.toNatClampNeg v5))), .inl ((sA s 23 (Int32.toNatClampNeg v4)) + v3), .inr (.inr (some 26))]) rfl ?_
        refine X_mask [false, true, true, false, false, false, false, false] ?_
        exact ct_M_fields_138 s (sB s 29 (Int32.toNatClampNeg v5)) ((sA s 23 (Int32.toNatClampNeg v4)) + v3) hw
  · have hw := hw.2 hb
    refine X_run 2 (i1 := 102) (L1 := [some (.inr (.inr (some 21))), none, none, some (.inl v3), some (.inl v4), some (.inl v5), some (.inl v6), none]) (st1 := [.inl (1 : Int32), .inr (.inr (some 21))]) rfl ?_
    obtain ⟨hc, hw⟩ := hw
    refine X_callv m_M_fails (As := [.inl (1 : Int32)]) (st := []) ok_M_fails rfl rfl rfl (hp_obj rfl) rfl (Nat.le_of_ble_eq_true rfl) (Nat.le_of_ble_eq_true rfl) (c_M_fails (d := d) s (1 : Int32) hc) ?_
    rintro _ _ ⟨rfl, rfl⟩
    show X _ _ 103 [some (.inr (.inr (some 21))), none, none, some (.inl v3), some (.inl v4), some (.inl v5), some (.inl v6), none] [.inl ((f_M_fails s (1 : Int32)).1)] (hp ((f_M_fails s (1 : Int32)).2)) _
    exact X_iret rfl rfl qIs_p
def t_M_fields_75 (s : St) (v3 : Int32) (v4 : Int32) (v5 : Int32) (v6 : Int32) : Int32 × St := (cond (cn1 .eq v6) (t_M_fields_98 s v3 v4 v5 v6) (cond (cn2 .ne v3 (3 : Int32)) (t_M_fields_98 s v3 v4 v5 v6) (cond (cn1 .le (sA s 27 (Int32.toNatClampNeg v5))) (t_M_fields_98 s v3 v4 v5 v6) (cond (cn2 .eq (sA s 22 (Int32.toNatClampNeg (sA s 27 (Int32.toNatClampNeg v5)))) (10 : Int32)) (t_M_fields_98 s v3 v4 v5 v6) (f_M_fails s (4 : Int32))))))
def w_M_fields_75 (s : St) (v3 : Int32) (v4 : Int32) (v5 : Int32) (v6 : Int32) : Prop := ((cn1 .eq v6) = true → (w_M_fields_98 s v3 v4 v5 v6)) ∧ ((cn1 .eq v6) = false → ((cn2 .ne v3 (3 : Int32)) = true → (w_M_fields_98 s v3 v4 v5 v6)) ∧ ((cn2 .ne v3 (3 : Int32)) = false → (vp_in v5 16 ∧ ((cn1 .le (sA s 27 (Int32.toNatClampNeg v5))) = true → (w_M_fields_98 s v3 v4 v5 v6)) ∧ ((cn1 .le (sA s 27 (Int32.toNatClampNeg v5))) = false → (vp_in v5 16 ∧ (vp_in (sA s 27 (Int32.toNatClampNeg v5)) 40001 ∧ ((cn2 .eq (sA s 22 (Int32.toNatClampNeg (sA s 27 (Int32.toNatClampNeg v5)))) (10 : Int32)) = true → (w_M_fields_98 s v3 v4 v5 v6)) ∧ ((cn2 .eq (sA s 22 (Int32.toNatClampNeg (sA s 27 (Int32.toNatClampNeg v5)))) (10 : Int32)) = false → (w_M_fails s (4 : Int32) ∧ True))))))))
theorem ct_M_fields_75 {d : Nat} (s : St) (v3 : Int32) (v4 : Int32) (v5 : Int32) (v6 : Int32) (hw : w_M_fields_75 s v3 v4 v5 v6) : X m_M_fields (d + 3) 75 [some (.inr (.inr (some 21))), none, none, some (.inl v3), some (.inl v4), some (.inl v5), some (.inl v6), none] [] (hp s) (qIs (t_M_fields_75 s v3 v4 v5 v6)) := by
  unfold t_M_fields_75
  unfold w_M_fields_75 at hw
  refine X_run 2 (i1 := cond (cn1 .eq v6) 98 77) (L1 := [some (.inr (.inr (some 21))), none, none, some (.inl v3), some (.inl v4), some (.inl v5), some (.inl v6), none]) (st1 := []) rfl ?_
  refine X_brq (fun hb => ?_) (fun hb => ?_)
  · have hw := hw.1 hb
    exact ct_M_fields_98 s v3 v4 v5 v6 hw
  · have hw := hw.2 hb
    refine X_run 3 (i1 := cond (cn2 .ne v3 (3 : Int32)) 98 80) (L1 := [some (.inr (.inr (some 21))), none, none, some (.inl v3), some (.inl v4), some (.inl v5), some (.inl v6), none]) (st1 := []) rfl ?_
    refine X_brq (fun hb => ?_) (fun hb => ?_)
    · have hw := hw.1 hb
      exact ct_M_fields_98 s v3 v4 v5 v6 hw
    · have hw := hw.2 hb
      refine X_run 1 (i1 := 81) (L1 := [some (.inr (.inr (some 21))), none, none, some (.inl v3), some (.inl v4), some (.inl v5), some (.inl v6), none]) (st1 := [.inr (.inr (some 21))]) rfl ?_
      refine X_gF (v := .inr (.inr (some 27))) rfl rfl rfl rfl ?_
      refine X_run 1 (i1 := 83) (L1 := [some (.inr (.inr (some 21))), none, none, some (.inl v3), some (.inl v4), some (.inl v5), some (.inl v6), none]) (st1 := [.inl v5, .inr (.inr (some 27))]) rfl ?_
      obtain ⟨hin, hw⟩ := hw
      refine X_aI rfl rfl hin ?_
      show X _ _ 84 [some (.inr (.inr (some 21))), none, none, some (.inl v3), some (.inl v4), some (.inl v5), some (.inl v6), none] [.inl (sA s 27 (Int32.toNatClampNeg v5))] (hp s) _
      refine X_run 1 (i1 := cond (cn1 .le (sA s 27 (Int32.toNatClampNeg v5))) 98 85) (L1 := [some (.inr (.inr (some 21))), none, none, some (.inl v3), some (.inl v4), some (.inl v5), some (.inl v6), none]) (st1 := []) rfl ?_
      refine X_brq (fun hb => ?_) (fun hb => ?_)
      · have hw := hw.1 hb
        exact ct_M_fields_98 s v3 v4 v5 v6 hw
      · have hw := hw.2 hb
        refine X_run 1 (i1 := 86) (L1 := [some (.inr (.inr (some 21))), none, none, some (.inl v3), some (.inl v4), some (.inl v5), some (.inl v6), none]) (st1 := [.inr (.inr (some 21))]) rfl ?_
        refine X_gF (v := .inr (.inr (some 22))) rfl rfl rfl rfl ?_
        refine X_run 1 (i1 := 88) (L1 := [some (.inr (.inr (some 21))), none, none, some (.inl v3), some (.inl v4), some (.inl v5), some (.inl v6), none]) (st1 := [.inr (.inr (some 21)), .inr (.inr (some 22))]) rfl ?_
        refine X_gF (v := .inr (.inr (some 27))) rfl rfl rfl rfl ?_
        refine X_run 1 (i1 := 90) (L1 := [some (.inr (.inr (some 21))), none, none, some (.inl v3), some (.inl v4), some (.inl v5), some (.inl v6), none]) (st1 := [.inl v5, .inr (.inr (some 27)), .inr (.inr (some 22))]) rfl ?_
        obtain ⟨hin, hw⟩ := hw
        refine X_aI rfl rfl hin ?_
        show X _ _ 91 [some (.inr (.inr (some 21))), none, none, some (.inl v3), some (.inl v4), some (.inl v5), some (.inl v6), none] [.inl (sA s 27 (Int32.toNatClampNeg v5)), .inr (.inr (some 22))] (hp s) _
        obtain ⟨hin, hw⟩ := hw
        refine X_aI rfl rfl hin ?_
        show X _ _ 92 [some (.inr (.inr (some 21))), none, none, some (.inl v3), some (.inl v4), some (.inl v5), some (.inl v6), none] [.inl (sA s 22 (Int32.toNatClampNeg (sA s 27 (Int32.toNatClampNeg v5))))] (hp s) _
        refine X_run 2 (i1 := cond (cn2 .eq (sA s 22 (Int32.toNatClampNeg (sA s 27 (Int32.toNatClampNeg v5)))) (10 : Int32)) 98 94) (L1 := [some (.inr (.inr (some 21))), none, none, some (.inl v3), some (.inl v4), some (.inl v5), some (.inl v6), none]) (st1 := []) rfl ?_
        refine X_brq (fun hb => ?_) (fun hb => ?_)
        · have hw := hw.1 hb
          exact ct_M_fields_98 s v3 v4 v5 v6 hw
        · have hw := hw.2 hb
          refine X_run 2 (i1 := 96) (L1 := [some (.inr (.inr (some 21))), none, none, some (.inl v3), some (.inl v4), some (.inl v5), some (.inl v6), none]) (st1 := [.inl (4 : Int32), .inr (.inr (some 21))]) rfl ?_
          obtain ⟨hc, hw⟩ := hw
          refine X_callv m_M_fails (As := [.inl (4 : Int32)]) (st := []) ok_M_fails rfl rfl rfl (hp_obj rfl) rfl (Nat.le_of_ble_eq_true rfl) (Nat.le_of_ble_eq_true rfl) (c_M_fails (d := d) s (4 : Int32) hc) ?_
          rintro _ _ ⟨rfl, rfl⟩
          show X _ _ 97 [some (.inr (.inr (some 21))), none, none, some (.inl v3), some (.inl v4), some (.inl v5), some (.inl v6), none] [.inl ((f_M_fails s (4 : Int32)).1)] (hp ((f_M_fails s (4 : Int32)).2)) _
          exact X_iret rfl rfl qIs_p
def t_M_fields_69 (s : St) (v3 : Int32) (v4 : Int32) (v5 : Int32) (v6 : Int32) (w0 : Int32) (w1 : Int32) : Int32 × St := (cond (cn1 .ne (b2i (f_M_is s w1 w0))) (t_M_fields_75 s v3 v4 v5 v6) (f_M_fails s (4 : Int32)))
def w_M_fields_69 (s : St) (v3 : Int32) (v4 : Int32) (v5 : Int32) (v6 : Int32) (w0 : Int32) (w1 : Int32) : Prop := (w_M_is s w1 w0 ∧ ((cn1 .ne (b2i (f_M_is s w1 w0))) = true → (w_M_fields_75 s v3 v4 v5 v6)) ∧ ((cn1 .ne (b2i (f_M_is s w1 w0))) = false → (w_M_fails s (4 : Int32) ∧ True)))
theorem ct_M_fields_69 {d : Nat} (s : St) (v3 : Int32) (v4 : Int32) (v5 : Int32) (v6 : Int32) (w0 : Int32) (w1 : Int32) (hw : w_M_fields_69 s v3 v4 v5 v6 w0 w1) : X m_M_fields (d + 3) 69 [some (.inr (.inr (some 21))), none, none, some (.inl v3), some (.inl v4), some (.inl v5), some (.inl v6), none] [.inl w0, .inl w1, .inr (.inr (some 21))] (hp s) (qIs (t_M_fields_69 s v3 v4 v5 v6 w0 w1)) := by
  unfold t_M_fields_69
  unfold w_M_fields_69 at hw
  obtain ⟨hc, hw⟩ := hw
  refine X_callv m_M_is (As := [.inl w1, .inl w0]) (st := []) ok_M_is rfl rfl rfl (hp_obj rfl) rfl (Nat.le_of_ble_eq_true rfl) (Nat.le_of_ble_eq_true rfl) (c_M_is (d := d + 1) s w1 w0 hc) ?_
  rintro _ _ ⟨rfl, rfl⟩
  show X _ _ 70 [some (.inr (.inr (some 21))), none, none, some (.inl v3), some (.inl v4), some (.inl v5), some (.inl v6), none] [.inl (b2i (f_M_is s w1 w0))] (hp s) _
  refine X_run 1 (i1 := cond (cn1 .ne (b2i (f_M_is s w1 w0))) 75 71) (L1 := [some (.inr (.inr (some 21))), none, none, some (.inl v3), some (.inl v4), some (.inl v5), some (.inl v6), none]) (st1 := []) rfl ?_
  refine X_brq (fun hb => ?_) (fun hb => ?_)
  · have hw := hw.1 hb
    exact ct_M_fields_75 s v3 v4 v5 v6 hw
  · have hw := hw.2 hb
    refine X_run 2 (i1 := 73) (L1 := [some (.inr (.inr (some 21))), none, none, some (.inl v3), some (.inl v4), some (.inl v5), some (.inl v6), none]) (st1 := [.inl (4 : Int32), .inr (.inr (some 21))]) rfl ?_
    obtain ⟨hc, hw⟩ := hw
    refine X_callv m_M_fails (As := [.inl (4 : Int32)]) (st := []) ok_M_fails rfl rfl rfl (hp_obj rfl) rfl (Nat.le_of_ble_eq_true rfl) (Nat.le_of_ble_eq_true rfl) (c_M_fails (d := d) s (4 : Int32) hc) ?_
    rintro _ _ ⟨rfl, rfl⟩
    show X _ _ 74 [some (.inr (.inr (some 21))), none, none, some (.inl v3), some (.inl v4), some (.inl v5), some (.inl v6), none] [.inl ((f_M_fails s (4 : Int32)).1)] (hp ((f_M_fails s (4 : Int32)).2)) _
    exact X_iret rfl rfl qIs_p
def t_M_fields_54 (s : St) (v3 : Int32) (v4 : Int32) (v5 : Int32) (v6 : Int32) : Int32 × St := (cond (cn1 .le v4) (t_M_fields_75 s v3 v4 v5 v6) (cond (cn2 .ge v3 (2 : Int32)) (cond (cn2 .ne v3 (2 : Int32)) (t_M_fields_69 s v3 v4 v5 v6 (15 : Int32) v4) (t_M_fields_69 s v3 v4 v5 v6 (14 : Int32) v4)) (t_M_fields_69 s v3 v4 v5 v6 (11 : Int32) v4)))
def w_M_fields_54 (s : St) (v3 : Int32) (v4 : Int32) (v5 : Int32) (v6 : Int32) : Prop := ((cn1 .le v4) = true → (w_M_fields_75 s v3 v4 v5 v6)) ∧ ((cn1 .le v4) = false → ((cn2 .ge v3 (2 : Int32)) = true → ((cn2 .ne v3 (2 : Int32)) = true → (w_M_fields_69 s v3 v4 v5 v6 (15 : Int32) v4)) ∧ ((cn2 .ne v3 (2 : Int32)) = false → (w_M_fields_69 s v3 v4 v5 v6 (14 : Int32) v4))) ∧ ((cn2 .ge v3 (2 : Int32)) = false → (w_M_fields_69 s v3 v4 v5 v6 (11 : Int32) v4)))
theorem ct_M_fields_54 {d : Nat} (s : St) (v3 : Int32) (v4 : Int32) (v5 : Int32) (v6 : Int32) (hw : w_M_fields_54 s v3 v4 v5 v6) : X m_M_fields (d + 3) 54 [some (.inr (.inr (some 21))), none, none, some (.inl v3), some (.inl v4), some (.inl v5), some (.inl v6), none] [] (hp s) (qIs (t_M_fields_54 s v3 v4 v5 v6)) := by
  unfold t_M_fields_54
  unfold w_M_fields_54 at hw
  refine X_run 2 (i1 := cond (cn1 .le v4) 75 56) (L1 := [some (.inr (.inr (some 21))), none, none, some (.inl v3), some (.inl v4), some (.inl v5), some (.inl v6), none]) (st1 := []) rfl ?_
  refine X_brq (fun hb => ?_) (fun hb => ?_)
  · have hw := hw.1 hb
    exact ct_M_fields_75 s v3 v4 v5 v6 hw
  · have hw := hw.2 hb
    refine X_run 5 (i1 := cond (cn2 .ge v3 (2 : Int32)) 63 61) (L1 := [some (.inr (.inr (some 21))), none, none, some (.inl v3), some (.inl v4), some (.inl v5), some (.inl v6), none]) (st1 := [.inl v4, .inr (.inr (some 21))]) rfl ?_
    refine X_brq (fun hb => ?_) (fun hb => ?_)
    · have hw := hw.1 hb
      refine X_run 3 (i1 := cond (cn2 .ne v3 (2 : Int32)) 68 66) (L1 := [some (.inr (.inr (some 21))), none, none, some (.inl v3), some (.inl v4), some (.inl v5), some (.inl v6), none]) (st1 := [.inl v4, .inr (.inr (some 21))]) rfl ?_
      refine X_brq (fun hb => ?_) (fun hb => ?_)
      · have hw := hw.1 hb
        refine X_run 1 (i1 := 69) (L1 := [some (.inr (.inr (some 21))), none, none, some (.inl v3), some (.inl v4), some (.inl v5), some (.inl v6), none]) (st1 := [.inl (15 : Int32), .inl v4, .inr (.inr (some 21))]) rfl ?_
        exact ct_M_fields_69 s v3 v4 v5 v6 (15 : Int32) v4 hw
      · have hw := hw.2 hb
        refine X_run 2 (i1 := 69) (L1 := [some (.inr (.inr (some 21))), none, none, some (.inl v3), some (.inl v4), some (.inl v5), some (.inl v6), none]) (st1 := [.inl (14 : Int32), .inl v4, .inr (.inr (some 21))]) rfl ?_
        exact ct_M_fields_69 s v3 v4 v5 v6 (14 : Int32) v4 hw
    · have hw := hw.2 hb
      refine X_run 2 (i1 := 69) (L1 := [some (.inr (.inr (some 21))), none, none, some (.inl v3), some (.inl v4), some (.inl v5), some (.inl v6), none]) (st1 := [.inl (11 : Int32), .inl v4, .inr (.inr (some 21))]) rfl ?_
      exact ct_M_fields_69 s v3 v4 v5 v6 (11 : Int32) v4 hw
def t_M_fields_50 (s : St) : Int32 × St := (f_M_fails s (1 : Int32))
def w_M_fields_50 (s : St) : Prop := (w_M_fails s (1 : Int32) ∧ True)
theorem ct_M_fields_50 {d : Nat} (s : St) (hw : w_M_fields_50 s) : X m_M_fields (d + 3) 50 [some (.inr (.inr (some 21))), none, none, none, none, none, none, none] [] (hp s) (qIs (t_M_fields_50 s)) := by
  unfold t_M_fields_50
  unfold w_M_fields_50 at hw
  refine X_run 2 (i1 := 52) (L1 := [some (.inr (.inr (some 21))), none, none, none, none, none, none, none]) (st1 := [.inl (1 : Int32), .inr (.inr (some 21))]) rfl ?_
  obtain ⟨hc, hw⟩ := hw
  refine X_callv m_M_fails (As := [.inl (1 : Int32)]) (st := []) ok_M_fails rfl rfl rfl (hp_obj rfl) rfl (Nat.le_of_ble_eq_true rfl) (Nat.le_of_ble_eq_true rfl) (c_M_fails (d := d) s (1 : Int32) hc) ?_
  rintro _ _ ⟨rfl, rfl⟩
  show X _ _ 53 [some (.inr (.inr (some 21))), none, none, none, none, none, none, none] [.inl ((f_M_fails s (1 : Int32)).1)] (hp ((f_M_fails s (1 : Int32)).2)) _
  exact X_iret rfl rfl qIs_p
def t_M_fields_42 (s : St) (v3 : Int32) (v4 : Int32) (v5 : Int32) (w0 : Int32) : Int32 × St := (cond (cn1 .ne v4) (t_M_fields_54 s v3 v4 v5 w0) (cond (cn1 .eq w0) (t_M_fields_50 s) (cond (cn2 .eq v3 (3 : Int32)) (t_M_fields_54 s v3 v4 v5 w0) (t_M_fields_50 s))))
def w_M_fields_42 (s : St) (v3 : Int32) (v4 : Int32) (v5 : Int32) (w0 : Int32) : Prop := ((cn1 .ne v4) = true → (w_M_fields_54 s v3 v4 v5 w0)) ∧ ((cn1 .ne v4) = false → ((cn1 .eq w0) = true → (w_M_fields_50 s)) ∧ ((cn1 .eq w0) = false → ((cn2 .eq v3 (3 : Int32)) = true → (w_M_fields_54 s v3 v4 v5 w0)) ∧ ((cn2 .eq v3 (3 : Int32)) = false → (w_M_fields_50 s))))
theorem ct_M_fields_42 {d : Nat} (s : St) (v3 : Int32) (v4 : Int32) (v5 : Int32) (w0 : Int32) (hw : w_M_fields_42 s v3 v4 v5 w0) : X m_M_fields (d + 3) 42 [some (.inr (.inr (some 21))), none, none, some (.inl v3), some (.inl v4), some (.inl v5), none, none] [.inl w0] (hp s) (qIs (t_M_fields_42 s v3 v4 v5 w0)) := by
  unfold t_M_fields_42
  unfold w_M_fields_42 at hw
  refine X_run 3 (i1 := cond (cn1 .ne v4) 54 45) (L1 := [some (.inr (.inr (some 21))), none, none, some (.inl v3), some (.inl v4), some (.inl v5), some (.inl w0), none]) (st1 := []) rfl ?_
  refine X_brq (fun hb => ?_) (fun hb => ?_)
  · have hw := hw.1 hb
    exact ct_M_fields_54 s v3 v4 v5 w0 hw
  · have hw := hw.2 hb
    refine X_run 2 (i1 := cond (cn1 .eq w0) 50 47) (L1 := [some (.inr (.inr (some 21))), none, none, some (.inl v3), some (.inl v4), some (.inl v5), some (.inl w0), none]) (st1 := []) rfl ?_
    refine X_brq (fun hb => ?_) (fun hb => ?_)
    · have hw := hw.1 hb
      refine X_mask [true, true, true, false, false, false, false, true] ?_
      exact ct_M_fields_50 s hw
    · have hw := hw.2 hb
      refine X_run 3 (i1 := cond (cn2 .eq v3 (3 : Int32)) 54 50) (L1 := [some (.inr (.inr (some 21))), none, none, some (.inl v3), some (.inl v4), some (.inl v5), some (.inl w0), none]) (st1 := []) rfl ?_
      refine X_brq (fun hb => ?_) (fun hb => ?_)
      · have hw := hw.1 hb
        exact ct_M_fields_54 s v3 v4 v5 w0 hw
      · have hw := hw.2 hb
        refine X_mask [true, true, true, false, false, false, false, true] ?_
        exact ct_M_fields_50 s hw
def t_M_fields_34 (s : St) (v1 : Int32) (v3 : Int32) (v4 : Int32) (w0 : Int32) : Int32 × St := (cond (cn2 .ne v1 (28 : Int32)) (t_M_fields_42 s v3 v4 (sA s 30 (Int32.toNatClampNeg w0)) (0 : Int32)) (t_M_fields_42 s v3 v4 (sA s 30 (Int32.toNatClampNeg w0)) (1 : Int32)))
def w_M_fields_34 (s : St) (v1 : Int32) (v3 : Int32) (v4 : Int32) (w0 : Int32) : Prop := (vp_in w0 3200 ∧ ((cn2 .ne v1 (28 : Int32)) = true → (w_M_fields_42 s v3 v4 (sA s 30 (Int32.toNatClampNeg w0)) (0 : Int32))) ∧ ((cn2 .ne v1 (28 : Int32)) = false → (w_M_fields_42 s v3 v4 (sA s 30 (Int32.toNatClampNeg w0)) (1 : Int32))))
theorem ct_M_fields_34 {d : Nat} (s : St) (v1 : Int32) (v3 : Int32) (v4 : Int32) (w0 : Int32) (hw : w_M_fields_34 s v1 v3 v4 w0) : X m_M_fields (d + 3) 34 [some (.inr (.inr (some 21))), some (.inl v1), none, some (.inl v3), some (.inl v4), none, none, none] [.inl w0, .inr (.inr (some 30))] (hp s) (qIs (t_M_fields_34 s v1 v3 v4 w0)) := by
  unfold t_M_fields_34
  unfold w_M_fields_34 at hw
  obtain ⟨hin, hw⟩ := hw
  refine X_aI rfl rfl hin ?_
  show X _ _ 35 [some (.inr (.inr (some 21))), some (.inl v1), none, some (.inl v3), some (.inl v4), none, none, none] [.inl (sA s 30 (Int32.toNatClampNeg w0))] (hp s) _
  refine X_run 4 (i1 := cond (cn2 .ne v1 (28 : Int32)) 41 39) (L1 := [some (.inr (.inr (some 21))), some (.inl v1), none, some (.inl v3), some (.inl v4), some (.inl (sA s 30 (Int32.toNatClampNeg w0))), none, none]) (st1 := []) rfl ?_
  refine X_brq (fun hb => ?_) (fun hb => ?_)
  · have hw := hw.1 hb
    refine X_run 1 (i1 := 42) (L1 := [some (.inr (.inr (some 21))), some (.inl v1), none, some (.inl v3), some (.inl v4), some (.inl (sA s 30 (Int32.toNatClampNeg w0))), none, none]) (st1 := [.inl (0 : Int32)]) rfl ?_
    refine X_mask [true, false, true, true, true, true, true, true] ?_
    exact ct_M_fields_42 s v3 v4 (sA s 30 (Int32.toNatClampNeg w0)) (0 : Int32) hw
  · have hw := hw.2 hb
    refine X_run 2 (i1 := 42) (L1 := [some (.inr (.inr (some 21))), some (.inl v1), none, some (.inl v3), some (.inl v4), some (.inl (sA s 30 (Int32.toNatClampNeg w0))), none, none]) (st1 := [.inl (1 : Int32)]) rfl ?_
    refine X_mask [true, false, true, true, true, true, true, true] ?_
    exact ct_M_fields_42 s v3 v4 (sA s 30 (Int32.toNatClampNeg w0)) (1 : Int32) hw
def t_M_fields_19 (s : St) (v1 : Int32) (v2 : Int32) (v3 : Int32) (w0 : Int32) : Int32 × St := (cond (cn2 .ne v1 (27 : Int32)) (t_M_fields_34 s v1 v3 (sA s 27 (Int32.toNatClampNeg (sA s 30 (Int32.toNatClampNeg w0)))) (v2 + (2 : Int32))) (t_M_fields_34 s v1 v3 (sA s 27 (Int32.toNatClampNeg (sA s 30 (Int32.toNatClampNeg w0)))) (v2 + (1 : Int32))))
def w_M_fields_19 (s : St) (v1 : Int32) (v2 : Int32) (v3 : Int32) (w0 : Int32) : Prop := (vp_in w0 3200 ∧ (vp_in (sA s 30 (Int32.toNatClampNeg w0)) 16 ∧ ((cn2 .ne v1 (27 : Int32)) = true → (w_M_fields_34 s v1 v3 (sA s 27 (Int32.toNatClampNeg (sA s 30 (Int32.toNatClampNeg w0)))) (v2 + (2 : Int32)))) ∧ ((cn2 .ne v1 (27 : Int32)) = false → (w_M_fields_34 s v1 v3 (sA s 27 (Int32.toNatClampNeg (sA s 30 (Int32.toNatClampNeg w0)))) (v2 + (1 : Int32))))))
theorem ct_M_fields_19 {d : Nat} (s : St) (v1 : Int32) (v2 : Int32) (v3 : Int32) (w0 : Int32) (hw : w_M_fields_19 s v1 v2 v3 w0) : X m_M_fields (d + 3) 19 [some (.inr (.inr (some 21))), some (.inl v1), some (.inl v2), some (.inl v3), none, none, none, none] [.inl w0, .inr (.inr (some 30)), .inr (.inr (some 27))] (hp s) (qIs (t_M_fields_19 s v1 v2 v3 w0)) := by
  unfold t_M_fields_19
  unfold w_M_fields_19 at hw
  obtain ⟨hin, hw⟩ := hw
  refine X_aI rfl rfl hin ?_
  show X _ _ 20 [some (.inr (.inr (some 21))), some (.inl v1), some (.inl v2), some (.inl v3), none, none, none, none] [.inl (sA s 30 (Int32.toNatClampNeg w0)), .inr (.inr (some 27))] (hp s) _
  obtain ⟨hin, hw⟩ := hw
  refine X_aI rfl rfl hin ?_
  show X _ _ 21 [some (.inr (.inr (some 21))), some (.inl v1), some (.inl v2), some (.inl v3), none, none, none, none] [.inl (sA s 27 (Int32.toNatClampNeg (sA s 30 (Int32.toNatClampNeg w0))))] (hp s) _
  refine X_run 2 (i1 := 23) (L1 := [some (.inr (.inr (some 21))), some (.inl v1), some (.inl v2), some (.inl v3), some (.inl (sA s 27 (Int32.toNatClampNeg (sA s 30 (Int32.toNatClampNeg w0))))), none, none, none]) (st1 := [.inr (.inr (some 21))]) rfl ?_
  refine X_gF (v := .inr (.inr (some 30))) rfl rfl rfl rfl ?_
  refine X_run 3 (i1 := cond (cn2 .ne v1 (27 : Int32)) 31 27) (L1 := [some (.inr (.inr (some 21))), some (.inl v1), some (.inl v2), some (.inl v3), some (.inl (sA s 27 (Int32.toNatClampNeg (sA s 30 (Int32.toNatClampNeg w0))))), none, none, none]) (st1 := [.inr (.inr (some 30))]) rfl ?_
  refine X_brq (fun hb => ?_) (fun hb => ?_)
  · have hw := hw.1 hb
    refine X_run 3 (i1 := 34) (L1 := [some (.inr (.inr (some 21))), some (.inl v1), some (.inl v2), some (.inl v3), some (.inl (sA s 27 (Int32.toNatClampNeg (sA s 30 (Int32.toNatClampNeg w0))))), none, none, none]) (st1 := [.inl (v2 + (2 : Int32)), .inr (.inr (some 30))]) rfl ?_
    refine X_mask [true, true, false, true, true, true, true, true] ?_
    exact ct_M_fields_34 s v1 v3 (sA s 27 (Int32.toNatClampNeg (sA s 30 (Int32.toNatClampNeg w0)))) (v2 + (2 : Int32)) hw
  · have hw := hw.2 hb
    refine X_run 4 (i1 := 34) (L1 := [some (.inr (.inr (some 21))), some (.inl v1), some (.inl v2), some (.inl v3), some (.inl (sA s 27 (Int32.toNatClampNeg (sA s 30 (Int32.toNatClampNeg w0))))), none, none, none]) (st1 := [.inl (v2 + (1 : Int32)), .inr (.inr (some 30))]) rfl ?_
    refine X_mask [true, true, false, true, true, true, true, true] ?_
    exact ct_M_fields_34 s v1 v3 (sA s 27 (Int32.toNatClampNeg (sA s 30 (Int32.toNatClampNeg w0)))) (v2 + (1 : Int32)) hw
def f_M_fields (s : St) (a0 : Int32) (a1 : Int32) : Int32 × St := (cond (cn2 .ne a0 (27 : Int32)) (t_M_fields_19 s a0 a1 (sA s 30 (Int32.toNatClampNeg a1)) (a1 + (1 : Int32))) (t_M_fields_19 s a0 a1 (sA s 30 (Int32.toNatClampNeg a1)) (a1 + (2 : Int32))))
def w_M_fields (s : St) (a0 : Int32) (a1 : Int32) : Prop := (vp_in a1 3200 ∧ ((cn2 .ne a0 (27 : Int32)) = true → (w_M_fields_19 s a0 a1 (sA s 30 (Int32.toNatClampNeg a1)) (a1 + (1 : Int32)))) ∧ ((cn2 .ne a0 (27 : Int32)) = false → (w_M_fields_19 s a0 a1 (sA s 30 (Int32.toNatClampNeg a1)) (a1 + (2 : Int32)))))
theorem c_M_fields {d : Nat} (s : St) (a0 : Int32) (a1 : Int32) (hw : w_M_fields s a0 a1) : X m_M_fields (d + 3) 0 (entL 8 [.inr (.inr (some 21)), .inl a0, .inl a1]) [] (hp s) (qIs (f_M_fields s a0 a1)) := by
  unfold f_M_fields
  unfold w_M_fields at hw
  refine X_run 1 (i1 := 1) (L1 := [some (.inr (.inr (some 21))), some (.inl a0), some (.inl a1), none, none, none, none, none]) (st1 := [.inr (.inr (some 21))]) rfl ?_
  refine X_gF (v := .inr (.inr (some 30))) rfl rfl rfl rfl ?_
  refine X_run 1 (i1 := 3) (L1 := [some (.inr (.inr (some 21))), some (.inl a0), some (.inl a1), none, none, none, none, none]) (st1 := [.inl a1, .inr (.inr (some 30))]) rfl ?_
  obtain ⟨hin, hw⟩ := hw
  refine X_aI rfl rfl hin ?_
  show X _ _ 4 [some (.inr (.inr (some 21))), some (.inl a0), some (.inl a1), none, none, none, none, none] [.inl (sA s 30 (Int32.toNatClampNeg a1))] (hp s) _
  refine X_run 2 (i1 := 6) (L1 := [some (.inr (.inr (some 21))), some (.inl a0), some (.inl a1), some (.inl (sA s 30 (Int32.toNatClampNeg a1))), none, none, none, none]) (st1 := [.inr (.inr (some 21))]) rfl ?_
  refine X_gF (v := .inr (.inr (some 27))) rfl rfl rfl rfl ?_
  refine X_run 1 (i1 := 8) (L1 := [some (.inr (.inr (some 21))), some (.inl a0), some (.inl a1), some (.inl (sA s 30 (Int32.toNatClampNeg a1))), none, none, none, none]) (st1 := [.inr (.inr (some 21)), .inr (.inr (some 27))]) rfl ?_
  refine X_gF (v := .inr (.inr (some 30))) rfl rfl rfl rfl ?_
  refine X_run 3 (i1 := cond (cn2 .ne a0 (27 : Int32)) 16 12) (L1 := [some (.inr (.inr (some 21))), some (.inl a0), some (.inl a1), some (.inl (sA s 30 (Int32.toNatClampNeg a1))), none, none, none, none]) (st1 := [.inr (.inr (some 30)), .inr (.inr (some 27))]) rfl ?_
  refine X_brq (fun hb => ?_) (fun hb => ?_)
  · have hw := hw.1 hb
    refine X_run 3 (i1 := 19) (L1 := [some (.inr (.inr (some 21))), some (.inl a0), some (.inl a1), some (.inl (sA s 30 (Int32.toNatClampNeg a1))), none, none, none, none]) (st1 := [.inl (a1 + (1 : Int32)), .inr (.inr (some 30)), .inr (.inr (some 27))]) rfl ?_
    exact ct_M_fields_19 s a0 a1 (sA s 30 (Int32.toNatClampNeg a1)) (a1 + (1 : Int32)) hw
  · have hw := hw.2 hb
    refine X_run 4 (i1 := 19) (L1 := [some (.inr (.inr (some 21))), some (.inl a0), some (.inl a1), some (.inl (sA s 30 (Int32.toNatClampNeg a1))), none, none, none, none]) (st1 := [.inl (a1 + (2 : Int32)), .inr (.inr (some 30)), .inr (.inr (some 27))]) rfl ?_
    exact ct_M_fields_19 s a0 a1 (sA s 30 (Int32.toNatClampNeg a1)) (a1 + (2 : Int32)) hw
