abbrev G_weighs : Type := (St → Int32 → Int32 → Int32 × St)
abbrev GW_weighs : Type := (St → Int32 → Int32 → Prop)
def hr_weighs (d : Nat) (rec : G_weighs) (wrec : GW_weighs) : Prop := (∀ (s : St) (a0 : Int32) (a1 : Int32), wrec s a0 a1 → X m_M_weighs d 0 (entL 11 [.inr (.inr (some 21)), .inl a0, .inl a1]) [] (hp s) (qIs (rec s a0 a1)))
def t_M_weighs_111 (rec : G_weighs) (fu : Nat) (s : St) (v6 : Int64) : Int32 × St := ((0 : Int32), pG s 21 29 v6)
def w_M_weighs_111 (rec : G_weighs) (wrec : GW_weighs) (fu : Nat) (s : St) (v6 : Int64) : Prop := True
theorem ct_M_weighs_111 {d : Nat} {rec : G_weighs} {wrec : GW_weighs} (hrec : hr_weighs (d + 3) rec wrec) (fu : Nat) (s : St) (v6 : Int64) (hw : w_M_weighs_111 rec wrec fu s v6) : X m_M_weighs (d + 4) 111 [some (.inr (.inr (some 21))), none, none, none, none, none, some (.inr (.inl v6)), none, none, none, none] [] (hp s) (qIs (t_M_weighs_111 rec fu s v6)) := by
  unfold t_M_weighs_111
  unfold w_M_weighs_111 at hw
  refine X_run 2 (i1 := 113) (L1 := [some (.inr (.inr (some 21))), none, none, none, none, none, some (.inr (.inl v6)), none, none, none, none]) (st1 := [.inr (.inl v6), .inr (.inr (some 21))]) rfl ?_
  refine X_pG rfl rfl rfl rfl ?_
  refine X_run 1 (i1 := 115) (L1 := [some (.inr (.inr (some 21))), none, none, none, none, none, some (.inr (.inl v6)), none, none, none, none]) (st1 := [.inl (0 : Int32)]) rfl ?_
  exact X_iret rfl rfl qIs_i
abbrev LT_M_weighs_70 : Type := (St → Int32 → Int64 → Int32 → Int32 → Int32 × St) × (St → Int32 → Int64 → Int32 → Int32 → Int32 → Int32 × St)
abbrev LW_M_weighs_70 : Type := (St → Int32 → Int64 → Int32 → Int32 → Prop) × (St → Int32 → Int64 → Int32 → Int32 → Int32 → Prop)
def hl_M_weighs_70 (d : Nat) (lp : LT_M_weighs_70) (wlp : LW_M_weighs_70) : Prop := (∀ (s : St) (v2 : Int32) (v6 : Int64) (v8 : Int32) (v9 : Int32), wlp.1 s v2 v6 v8 v9 → X m_M_weighs d 70 [some (.inr (.inr (some 21))), none, some (.inl v2), none, none, none, some (.inr (.inl v6)), none, some (.inl v8), some (.inl v9), none] [] (hp s) (qIs (lp.1 s v2 v6 v8 v9))) ∧ (∀ (s : St) (v2 : Int32) (v6 : Int64) (v8 : Int32) (v9 : Int32) (w0 : Int32), wlp.2 s v2 v6 v8 v9 w0 → X m_M_weighs d 99 [some (.inr (.inr (some 21))), none, some (.inl v2), none, none, none, some (.inr (.inl v6)), none, some (.inl v8), some (.inl v9), none] [.inl w0] (hp s) (qIs (lp.2 s v2 v6 v8 v9 w0)))
def b_M_weighs_70 (rec : G_weighs) (fu : Nat) (lp : LT_M_weighs_70) (s : St) (v2 : Int32) (v6 : Int64) (v8 : Int32) (v9 : Int32) : Int32 × St := (cond (cn2 .ge v9 (sA s 24 (Int32.toNatClampNeg v8))) (t_M_weighs_111 rec fu s v6) (cond (cn1 .ne (Int64.toInt32 (sB s 26 (Int32.toNatClampNeg ((sA s 23 (Int32.toNatClampNeg v8)) + v9))))) (lp.2 ((rec s (Int64.toInt32 (sB s 26 (Int32.toNatClampNeg ((sA s 23 (Int32.toNatClampNeg v8)) + v9)))) (v2 + (1 : Int32))).2) v2 v6 v8 v9 ((rec s (Int64.toInt32 (sB s 26 (Int32.toNatClampNeg ((sA s 23 (Int32.toNatClampNeg v8)) + v9)))) (v2 + (1 : Int32))).1)) (f_M_fails s (1 : Int32))))
def v_M_weighs_70 (rec : G_weighs) (wrec : GW_weighs) (fu : Nat) (lp : LT_M_weighs_70) (wlp : LW_M_weighs_70) (s : St) (v2 : Int32) (v6 : Int64) (v8 : Int32) (v9 : Int32) : Prop := (vp_in v8 40001 ∧ ((cn2 .ge v9 (sA s 24 (Int32.toNatClampNeg v8))) = true → (w_M_weighs_111 rec wrec fu s v6)) ∧ ((cn2 .ge v9 (sA s 24 (Int32.toNatClampNeg v8))) = false → (vp_in v8 40001 ∧ (vp_in ((sA s 23 (Int32.toNatClampNeg v8)) + v9) 40001 ∧ ((cn1 .ne (Int64.toInt32 (sB s 26 (Int32.toNatClampNeg ((sA s 23 (Int32.toNatClampNeg v8)) + v9))))) = true → (wrec s (Int64.toInt32 (sB s 26 (Int32.toNatClampNeg ((sA s 23 (Int32.toNatClampNeg v8)) + v9)))) (v2 + (1 : Int32)) ∧ (wlp.2 ((rec s (Int64.toInt32 (sB s 26 (Int32.toNatClampNeg ((sA s 23 (Int32.toNatClampNeg v8)) + v9)))) (v2 + (1 : Int32))).2) v2 v6 v8 v9 ((rec s (Int64.toInt32 (sB s 26 (Int32.toNatClampNeg ((sA s 23 (Int32.toNatClampNeg v8)) + v9)))) (v2 + (1 : Int32))).1)))) ∧ ((cn1 .ne (Int64.toInt32 (sB s 26 (Int32.toNatClampNeg ((sA s 23 (Int32.toNatClampNeg v8)) + v9))))) = false → (w_M_fails s (1 : Int32) ∧ True))))))
theorem cb_M_weighs_70 {d : Nat} {rec : G_weighs} {wrec : GW_weighs} (hrec : hr_weighs (d + 3) rec wrec) (fu : Nat) {lp : LT_M_weighs_70} {wlp : LW_M_weighs_70} (hlp : hl_M_weighs_70 (d + 4) lp wlp) (s : St) (v2 : Int32) (v6 : Int64) (v8 : Int32) (v9 : Int32) (hw : v_M_weighs_70 rec wrec fu lp wlp s v2 v6 v8 v9) : X m_M_weighs (d + 4) 70 [some (.inr (.inr (some 21))), none, some (.inl v2), none, none, none, some (.inr (.inl v6)), none, some (.inl v8), some (.inl v9), none] [] (hp s) (qIs (b_M_weighs_70 rec fu lp s v2 v6 v8 v9)) := by
  unfold b_M_weighs_70
  unfold v_M_weighs_70 at hw
  refine X_run 2 (i1 := 72) (L1 := [some (.inr (.inr (some 21))), none, some (.inl v2), none, none, none, some (.inr (.inl v6)), none, some (.inl v8), some (.inl v9), none]) (st1 := [.inr (.inr (some 21)), .inl v9]) rfl ?_
  refine X_gF (v := .inr (.inr (some 24))) rfl rfl rfl rfl ?_
  refine X_run 1 (i1 := 74) (L1 := [some (.inr (.inr (some 21))), none, some (.inl v2), none, none, none, some (.inr (.inl v6)), none, some (.inl v8), some (.inl v9), none]) (st1 := [.inl v8, .inr (.inr (some 24)), .inl v9]) rfl ?_
  obtain ⟨hin, hw⟩ := hw
  refine X_aI rfl rfl hin ?_
  show X _ _ 75 [some (.inr (.inr (some 21))), none, some (.inl v2), none, none, none, some (.inr (.inl v6)), none, some (.inl v8), some (.inl v9), none] [.inl (sA s 24 (Int32.toNatClampNeg v8)), .inl v9] (hp s) _
  refine X_run 1 (i1 := cond (cn2 .ge v9 (sA s 24 (Int32.toNatClampNeg v8))) 111 76) (L1 := [some (.inr (.inr (some 21))), none, some (.inl v2), none, none, none, some (.inr (.inl v6)), none, some (.inl v8), some (.inl v9), none]) (st1 := []) rfl ?_
  refine X_brq (fun hb => ?_) (fun hb => ?_)
  · have hw := hw.1 hb
    refine X_mask [true, true, false, true, true, true, true, true, false, false, true] ?_
    exact ct_M_weighs_111 hrec fu s v6 hw
  · have hw := hw.2 hb
    refine X_run 1 (i1 := 77) (L1 := [some (.inr (.inr (some 21))), none, some (.inl v2), none, none, none, some (.inr (.inl v6)), none, some (.inl v8), some (.inl v9), none]) (st1 := [.inr (.inr (some 21))]) rfl ?_
    refine X_gF (v := .inr (.inr (some 26))) rfl rfl rfl rfl ?_
    refine X_run 1 (i1 := 79) (L1 := [some (.inr (.inr (some 21))), none, some (.inl v2), none, none, none, some (.inr (.inl v6)), none, some (.inl v8), some (.inl v9), none]) (st1 := [.inr (.inr (some 21)), .inr (.inr (some 26))]) rfl ?_
    refine X_gF (v := .inr (.inr (some 23))) rfl rfl rfl rfl ?_
    refine X_run 1 (i1 := 81) (L1 := [some (.inr (.inr (some 21))), none, some (.inl v2), none, none, none, some (.inr (.inl v6)), none, some (.inl v8), some (.inl v9), none]) (st1 := [.inl v8, .inr (.inr (some 23)), .inr (.inr (some 26))]) rfl ?_
    obtain ⟨hin, hw⟩ := hw
    refine X_aI rfl rfl hin ?_
    show X _ _ 82 [some (.inr (.inr (some 21))), none, some (.inl v2), none, none, none, some (.inr (.inl v6)), none, some (.inl v8), some (.inl v9), none] [.inl (sA s 23 (Int32.toNatClampNeg v8)), .inr (.inr (some 26))] (hp s) _
    refine X_run 2 (i1 := 84) (L1 := [some (.inr (.inr (some 21))), none, some (.inl v2), none, none, none, some (.inr (.inl v6)), none, some (.inl v8), some (.inl v9), none]) (st1 := [.inl ((sA s 23 (Int32.toNatClampNeg v8)) + v9), .inr (.inr (some 26))]) rfl ?_
    obtain ⟨hin, hw⟩ := hw
    refine X_aL rfl rfl hin ?_
    show X _ _ 85 [some (.inr (.inr (some 21))), none, some (.inl v2), none, none, none, some (.inr (.inl v6)), none, some (.inl v8), some (.inl v9), none] [.inr (.inl (sB s 26 (Int32.toNatClampNeg ((sA s 23 (Int32.toNatClampNeg v8)) + v9))))] (hp s) _
    refine X_run 4 (i1 := cond (cn1 .ne (Int64.toInt32 (sB s 26 (Int32.toNatClampNeg ((sA s 23 (Int32.toNatClampNeg v8)) + v9))))) 93 89) (L1 := [some (.inr (.inr (some 21))), none, some (.inl v2), none, none, none, some (.inr (.inl v6)), none, some (.inl v8), some (.inl v9), some (.inl (Int64.toInt32 (sB s 26 (Int32.toNatClampNeg ((sA s 23 (Int32.toNatClampNeg v8)) + v9)))))]) (st1 := []) rfl ?_
    refine X_brq (fun hb => ?_) (fun hb => ?_)
    · have hw := hw.1 hb
      refine X_run 5 (i1 := 98) (L1 := [some (.inr (.inr (some 21))), none, some (.inl v2), none, none, none, some (.inr (.inl v6)), none, some (.inl v8), some (.inl v9), some (.inl (Int64.toInt32 (sB s 26 (Int32.toNatClampNeg ((sA s 23 (Int32.toNatClampNeg v8)) + v9)))))]) (st1 := [.inl (v2 + (1 : Int32)), .inl (Int64.toInt32 (sB s 26 (Int32.toNatClampNeg ((sA s 23 (Int32.toNatClampNeg v8)) + v9)))), .inr (.inr (some 21))]) rfl ?_
      obtain ⟨hc, hw⟩ := hw
      refine X_callv m_M_weighs (As := [.inl (Int64.toInt32 (sB s 26 (Int32.toNatClampNeg ((sA s 23 (Int32.toNatClampNeg v8)) + v9)))), .inl (v2 + (1 : Int32))]) (st := []) ok_M_weighs rfl rfl rfl (hp_obj rfl) rfl (Nat.le_of_ble_eq_true rfl) (Nat.le_of_ble_eq_true rfl) (hrec s (Int64.toInt32 (sB s 26 (Int32.toNatClampNeg ((sA s 23 (Int32.toNatClampNeg v8)) + v9)))) (v2 + (1 : Int32)) hc) ?_
      rintro _ _ ⟨rfl, rfl⟩
      show X _ _ 99 [some (.inr (.inr (some 21))), none, some (.inl v2), none, none, none, some (.inr (.inl v6)), none, some (.inl v8), some (.inl v9), some (.inl (Int64.toInt32 (sB s 26 (Int32.toNatClampNeg ((sA s 23 (Int32.toNatClampNeg v8)) + v9)))))] [.inl ((rec s (Int64.toInt32 (sB s 26 (Int32.toNatClampNeg ((sA s 23 (Int32.toNatClampNeg v8)) + v9)))) (v2 + (1 : Int32))).1)] (hp ((rec s (Int64.toInt32 (sB s 26 (Int32.toNatClampNeg ((sA s 23 (Int32.toNatClampNeg v8)) + v9)))) (v2 + (1 : Int32))).2)) _
      show X _ _ 99 [some (.inr (.inr (some 21))), none, some (.inl v2), none, none, none, some (.inr (.inl v6)), none, some (.inl v8), some (.inl v9), some (.inl (Int64.toInt32 (sB s 26 (Int32.toNatClampNeg ((sA s 23 (Int32.toNatClampNeg v8)) + v9)))))] [.inl ((rec s (Int64.toInt32 (sB s 26 (Int32.toNatClampNeg ((sA s 23 (Int32.toNatClampNeg v8)) + v9)))) (v2 + (1 : Int32))).1)] (hp ((rec s (Int64.toInt32 (sB s 26 (Int32.toNatClampNeg ((sA s 23 (Int32.toNatClampNeg v8)) + v9)))) (v2 + (1 : Int32))).2)) _
      refine X_mask [true, true, true, true, true, true, true, true, true, true, false] ?_
      exact hlp.2 ((rec s (Int64.toInt32 (sB s 26 (Int32.toNatClampNeg ((sA s 23 (Int32.toNatClampNeg v8)) + v9)))) (v2 + (1 : Int32))).2) v2 v6 v8 v9 ((rec s (Int64.toInt32 (sB s 26 (Int32.toNatClampNeg ((sA s 23 (Int32.toNatClampNeg v8)) + v9)))) (v2 + (1 : Int32))).1) hw
    · have hw := hw.2 hb
      refine X_run 2 (i1 := 91) (L1 := [some (.inr (.inr (some 21))), none, some (.inl v2), none, none, none, some (.inr (.inl v6)), none, some (.inl v8), some (.inl v9), some (.inl (Int64.toInt32 (sB s 26 (Int32.toNatClampNeg ((sA s 23 (Int32.toNatClampNeg v8)) + v9)))))]) (st1 := [.inl (1 : Int32), .inr (.inr (some 21))]) rfl ?_
      obtain ⟨hc, hw⟩ := hw
      refine X_callv m_M_fails (As := [.inl (1 : Int32)]) (st := []) ok_M_fails rfl rfl rfl (hp_obj rfl) rfl (Nat.le_of_ble_eq_true rfl) (Nat.le_of_ble_eq_true rfl) (c_M_fails (d := d + 1) s (1 : Int32) hc) ?_
      rintro _ _ ⟨rfl, rfl⟩
      show X _ _ 92 [some (.inr (.inr (some 21))), none, some (.inl v2), none, none, none, some (.inr (.inl v6)), none, some (.inl v8), some (.inl v9), some (.inl (Int64.toInt32 (sB s 26 (Int32.toNatClampNeg ((sA s 23 (Int32.toNatClampNeg v8)) + v9)))))] [.inl ((f_M_fails s (1 : Int32)).1)] (hp ((f_M_fails s (1 : Int32)).2)) _
      exact X_iret rfl rfl qIs_p
def b_M_weighs_99 (rec : G_weighs) (fu : Nat) (lp : LT_M_weighs_70) (s : St) (v2 : Int32) (v6 : Int64) (v8 : Int32) (v9 : Int32) (w0 : Int32) : Int32 × St := (cond (cn1 .eq w0) (lp.1 s v2 (f_M_added v6 (sG s 21 29)) v8 (v9 + Int32.ofInt (1))) (w0, s))
def v_M_weighs_99 (rec : G_weighs) (wrec : GW_weighs) (fu : Nat) (lp : LT_M_weighs_70) (wlp : LW_M_weighs_70) (s : St) (v2 : Int32) (v6 : Int64) (v8 : Int32) (v9 : Int32) (w0 : Int32) : Prop := ((cn1 .eq w0) = true → (wlp.1 s v2 (f_M_added v6 (sG s 21 29)) v8 (v9 + Int32.ofInt (1)))) ∧ ((cn1 .eq w0) = false → True)
theorem cb_M_weighs_99 {d : Nat} {rec : G_weighs} {wrec : GW_weighs} (hrec : hr_weighs (d + 3) rec wrec) (fu : Nat) {lp : LT_M_weighs_70} {wlp : LW_M_weighs_70} (hlp : hl_M_weighs_70 (d + 4) lp wlp) (s : St) (v2 : Int32) (v6 : Int64) (v8 : Int32) (v9 : Int32) (w0 : Int32) (hw : v_M_weighs_99 rec wrec fu lp wlp s v2 v6 v8 v9 w0) : X m_M_weighs (d + 4) 99 [some (.inr (.inr (some 21))), none, some (.inl v2), none, none, none, some (.inr (.inl v6)), none, some (.inl v8), some (.inl v9), none] [.inl w0] (hp s) (qIs (b_M_weighs_99 rec fu lp s v2 v6 v8 v9 w0)) := by
  unfold b_M_weighs_99
  unfold v_M_weighs_99 at hw
  refine X_run 3 (i1 := cond (cn1 .eq w0) 104 102) (L1 := [some (.inr (.inr (some 21))), none, some (.inl v2), some (.inl w0), none, none, some (.inr (.inl v6)), none, some (.inl v8), some (.inl v9), none]) (st1 := []) rfl ?_
  refine X_brq (fun hb => ?_) (fun hb => ?_)
  · have hw := hw.1 hb
    refine X_run 2 (i1 := 106) (L1 := [some (.inr (.inr (some 21))), none, some (.inl v2), some (.inl w0), none, none, some (.inr (.inl v6)), none, some (.inl v8), some (.inl v9), none]) (st1 := [.inr (.inr (some 21)), .inr (.inl v6)]) rfl ?_
    refine X_gF (v := .inr (.inl (sG s 21 29))) rfl rfl rfl rfl ?_
    refine X_calls m_M_added (As := [.inr (.inl v6), .inr (.inl (sG s 21 29))]) (st := []) ok_M_added rfl rfl rfl (Nat.le_of_ble_eq_true rfl) (Nat.le_of_ble_eq_true rfl) (c_M_added (d := d) v6 (sG s 21 29)) ?_
    rintro _ _ ⟨rfl, rfl⟩
    show X _ _ 108 [some (.inr (.inr (some 21))), none, some (.inl v2), some (.inl w0), none, none, some (.inr (.inl v6)), none, some (.inl v8), some (.inl v9), none] [.inr (.inl (f_M_added v6 (sG s 21 29)))] (hp s) _
    refine X_run 3 (i1 := 70) (L1 := [some (.inr (.inr (some 21))), none, some (.inl v2), some (.inl w0), none, none, some (.inr (.inl (f_M_added v6 (sG s 21 29)))), none, some (.inl v8), some (.inl (v9 + Int32.ofInt (1))), none]) (st1 := []) rfl ?_
    refine X_mask [true, true, true, false, true, true, true, true, true, true, true] ?_
    exact hlp.1 s v2 (f_M_added v6 (sG s 21 29)) v8 (v9 + Int32.ofInt (1)) hw
  · skip
    refine X_run 1 (i1 := 103) (L1 := [some (.inr (.inr (some 21))), none, some (.inl v2), some (.inl w0), none, none, some (.inr (.inl v6)), none, some (.inl v8), some (.inl v9), none]) (st1 := [.inl w0]) rfl ?_
    exact X_iret rfl rfl qIs_i
def T_M_weighs_70 (rec : G_weighs) (fu : Nat) : Nat → LT_M_weighs_70
  | 0 => (fun s _ _ _ _ => (0, s), fun s _ _ _ _ _ => (0, s))
  | n + 1 => (fun s v2 v6 v8 v9 => b_M_weighs_70 rec fu (T_M_weighs_70 rec fu n) s v2 v6 v8 v9, fun s v2 v6 v8 v9 w0 => b_M_weighs_99 rec fu (T_M_weighs_70 rec fu n) s v2 v6 v8 v9 w0)
def WT_M_weighs_70 (rec : G_weighs) (wrec : GW_weighs) (fu : Nat) : Nat → LW_M_weighs_70
  | 0 => (fun _ _ _ _ _ => False, fun _ _ _ _ _ _ => False)
  | n + 1 => (fun s v2 v6 v8 v9 => v_M_weighs_70 rec wrec fu (T_M_weighs_70 rec fu n) (WT_M_weighs_70 rec wrec fu n) s v2 v6 v8 v9, fun s v2 v6 v8 v9 w0 => v_M_weighs_99 rec wrec fu (T_M_weighs_70 rec fu n) (WT_M_weighs_70 rec wrec fu n) s v2 v6 v8 v9 w0)
theorem cT_M_weighs_70 {d : Nat} {rec : G_weighs} {wrec : GW_weighs} (hrec : hr_weighs (d + 3) rec wrec) (fu : Nat) : ∀ n : Nat, hl_M_weighs_70 (d + 4) (T_M_weighs_70 rec fu n) (WT_M_weighs_70 rec wrec fu n)
  | 0 => ⟨fun _ _ _ _ _ hw => hw.elim, fun _ _ _ _ _ _ hw => hw.elim⟩
  | n + 1 => ⟨fun s v2 v6 v8 v9 hw => cb_M_weighs_70 hrec fu (cT_M_weighs_70 hrec fu n) s v2 v6 v8 v9 hw, fun s v2 v6 v8 v9 w0 hw => cb_M_weighs_99 hrec fu (cT_M_weighs_70 hrec fu n) s v2 v6 v8 v9 w0 hw⟩
def t_M_weighs_51 (rec : G_weighs) (fu : Nat) (s : St) (v2 : Int32) (v4 : Int32) (v5 : Int32) (v6 : Int64) : Int32 × St := (cond (cn2 .ne v4 (4 : Int32)) (t_M_weighs_111 rec fu s v6) (cond (cn1 .ne (Int64.toInt32 (sB s 26 (Int32.toNatClampNeg (v5 + (3 : Int32)))))) ((T_M_weighs_70 rec fu fu).1 s v2 v6 (Int64.toInt32 (sB s 26 (Int32.toNatClampNeg (v5 + (3 : Int32))))) (0 : Int32)) (f_M_fails s (1 : Int32))))
def w_M_weighs_51 (rec : G_weighs) (wrec : GW_weighs) (fu : Nat) (s : St) (v2 : Int32) (v4 : Int32) (v5 : Int32) (v6 : Int64) : Prop := ((cn2 .ne v4 (4 : Int32)) = true → (w_M_weighs_111 rec wrec fu s v6)) ∧ ((cn2 .ne v4 (4 : Int32)) = false → (vp_in (v5 + (3 : Int32)) 40001 ∧ ((cn1 .ne (Int64.toInt32 (sB s 26 (Int32.toNatClampNeg (v5 + (3 : Int32)))))) = true → ((WT_M_weighs_70 rec wrec fu fu).1 s v2 v6 (Int64.toInt32 (sB s 26 (Int32.toNatClampNeg (v5 + (3 : Int32))))) (0 : Int32))) ∧ ((cn1 .ne (Int64.toInt32 (sB s 26 (Int32.toNatClampNeg (v5 + (3 : Int32)))))) = false → (w_M_fails s (1 : Int32) ∧ True))))
theorem ct_M_weighs_51 {d : Nat} {rec : G_weighs} {wrec : GW_weighs} (hrec : hr_weighs (d + 3) rec wrec) (fu : Nat) (s : St) (v2 : Int32) (v4 : Int32) (v5 : Int32) (v6 : Int64) (hw : w_M_weighs_51 rec wrec fu s v2 v4 v5 v6) : X m_M_weighs (d + 4) 51 [some (.inr (.inr (some 21))), none, some (.inl v2), none, some (.inl v4), some (.inl v5), some (.inr (.inl v6)), none, none, none, none] [] (hp s) (qIs (t_M_weighs_51 rec fu s v2 v4 v5 v6)) := by
  unfold t_M_weighs_51
  unfold w_M_weighs_51 at hw
  refine X_run 3 (i1 := cond (cn2 .ne v4 (4 : Int32)) 111 54) (L1 := [some (.inr (.inr (some 21))), none, some (.inl v2), none, some (.inl v4), some (.inl v5), some (.inr (.inl v6)), none, none, none, none]) (st1 := []) rfl ?_
  refine X_brq (fun hb => ?_) (fun hb => ?_)
  · have hw := hw.1 hb
    refine X_mask [true, true, false, true, false, false, true, true, true, true, true] ?_
    exact ct_M_weighs_111 hrec fu s v6 hw
  · have hw := hw.2 hb
    refine X_run 1 (i1 := 55) (L1 := [some (.inr (.inr (some 21))), none, some (.inl v2), none, some (.inl v4), some (.inl v5), some (.inr (.inl v6)), none, none, none, none]) (st1 := [.inr (.inr (some 21))]) rfl ?_
    refine X_gF (v := .inr (.inr (some 26))) rfl rfl rfl rfl ?_
    refine X_run 3 (i1 := 59) (L1 := [some (.inr (.inr (some 21))), none, some (.inl v2), none, some (.inl v4), some (.inl v5), some (.inr (.inl v6)), none, none, none, none]) (st1 := [.inl (v5 + (3 : Int32)), .inr (.inr (some 26))]) rfl ?_
    obtain ⟨hin, hw⟩ := hw
    refine X_aL rfl rfl hin ?_
    show X _ _ 60 [some (.inr (.inr (some 21))), none, some (.inl v2), none, some (.inl v4), some (.inl v5), some (.inr (.inl v6)), none, none, none, none] [.inr (.inl (sB s 26 (Int32.toNatClampNeg (v5 + (3 : Int32)))))] (hp s) _
    refine X_run 4 (i1 := cond (cn1 .ne (Int64.toInt32 (sB s 26 (Int32.toNatClampNeg (v5 + (3 : Int32)))))) 68 64) (L1 := [some (.inr (.inr (some 21))), none, some (.inl v2), none, some (.inl v4), some (.inl v5), some (.inr (.inl v6)), none, some (.inl (Int64.toInt32 (sB s 26 (Int32.toNatClampNeg (v5 + (3 : Int32)))))), none, none]) (st1 := []) rfl ?_
    refine X_brq (fun hb => ?_) (fun hb => ?_)
    · have hw := hw.1 hb
      refine X_run 2 (i1 := 70) (L1 := [some (.inr (.inr (some 21))), none, some (.inl v2), none, some (.inl v4), some (.inl v5), some (.inr (.inl v6)), none, some (.inl (Int64.toInt32 (sB s 26 (Int32.toNatClampNeg (v5 + (3 : Int32)))))), some (.inl (0 : Int32)), none]) (st1 := []) rfl ?_
      refine X_mask [true, true, true, true, false, false, true, true, true, true, true] ?_
      exact (cT_M_weighs_70 hrec fu fu).1 s v2 v6 (Int64.toInt32 (sB s 26 (Int32.toNatClampNeg (v5 + (3 : Int32))))) (0 : Int32) hw
    · have hw := hw.2 hb
      refine X_run 2 (i1 := 66) (L1 := [some (.inr (.inr (some 21))), none, some (.inl v2), none, some (.inl v4), some (.inl v5), some (.inr (.inl v6)), none, some (.inl (Int64.toInt32 (sB s 26 (Int32.toNatClampNeg (v5 + (3 : Int32)))))), none, none]) (st1 := [.inl (1 : Int32), .inr (.inr (some 21))]) rfl ?_
      obtain ⟨hc, hw⟩ := hw
      refine X_callv m_M_fails (As := [.inl (1 : Int32)]) (st := []) ok_M_fails rfl rfl rfl (hp_obj rfl) rfl (Nat.le_of_ble_eq_true rfl) (Nat.le_of_ble_eq_true rfl) (c_M_fails (d := d + 1) s (1 : Int32) hc) ?_
      rintro _ _ ⟨rfl, rfl⟩
      show X _ _ 67 [some (.inr (.inr (some 21))), none, some (.inl v2), none, some (.inl v4), some (.inl v5), some (.inr (.inl v6)), none, some (.inl (Int64.toInt32 (sB s 26 (Int32.toNatClampNeg (v5 + (3 : Int32)))))), none, none] [.inl ((f_M_fails s (1 : Int32)).1)] (hp ((f_M_fails s (1 : Int32)).2)) _
      exact X_iret rfl rfl qIs_p
def t_M_weighs_10 (rec : G_weighs) (fu : Nat) (s : St) (v1 : Int32) (v2 : Int32) (w0 : Int32) : Int32 × St := (cond (cn1 .eq w0) (cond (cn2 .ne ((sA s 22 (Int32.toNatClampNeg v1)) - (11 : Int32)) (2 : Int32)) (t_M_weighs_51 rec fu s v2 ((sA s 22 (Int32.toNatClampNeg v1)) - (11 : Int32)) (sA s 23 (Int32.toNatClampNeg v1)) (sB s 26 (Int32.toNatClampNeg ((sA s 23 (Int32.toNatClampNeg v1)) + (1 : Int32))))) (t_M_weighs_51 rec fu s v2 ((sA s 22 (Int32.toNatClampNeg v1)) - (11 : Int32)) (sA s 23 (Int32.toNatClampNeg v1)) (f_M_added (sB s 26 (Int32.toNatClampNeg ((sA s 23 (Int32.toNatClampNeg v1)) + (1 : Int32)))) (f_M_times (f_M_by (f_M_realOf (1 : Int64)) (f_M_realOf (4 : Int64))) (f_M_realOf (sB s 26 (Int32.toNatClampNeg (sA s 23 (Int32.toNatClampNeg v1))))))))) (w0, s))
def w_M_weighs_10 (rec : G_weighs) (wrec : GW_weighs) (fu : Nat) (s : St) (v1 : Int32) (v2 : Int32) (w0 : Int32) : Prop := ((cn1 .eq w0) = true → (vp_in v1 40001 ∧ (vp_in v1 40001 ∧ (vp_in ((sA s 23 (Int32.toNatClampNeg v1)) + (1 : Int32)) 40001 ∧ ((cn2 .ne ((sA s 22 (Int32.toNatClampNeg v1)) - (11 : Int32)) (2 : Int32)) = true → (w_M_weighs_51 rec wrec fu s v2 ((sA s 22 (Int32.toNatClampNeg v1)) - (11 : Int32)) (sA s 23 (Int32.toNatClampNeg v1)) (sB s 26 (Int32.toNatClampNeg ((sA s 23 (Int32.toNatClampNeg v1)) + (1 : Int32)))))) ∧ ((cn2 .ne ((sA s 22 (Int32.toNatClampNeg v1)) - (11 : Int32)) (2 : Int32)) = false → (vp_in (sA s 23 (Int32.toNatClampNeg v1)) 40001 ∧ (w_M_weighs_51 rec wrec fu s v2 ((sA s 22 (Int32.toNatClampNeg v1)) - (11 : Int32)) (sA s 23 (Int32.toNatClampNeg v1)) (f_M_added (sB s 26 (Int32.toNatClampNeg ((sA s 23 (Int32.toNatClampNeg v1)) + (1 : Int32)))) (f_M_times (f_M_by (f_M_realOf (1 : Int64)) (f_M_realOf (4 : Int64))) (f_M_realOf (sB s 26 (Int32.toNatClampNeg (sA s 23 (Int32.toNatClampNeg v1)))))))))))))) ∧ ((cn1 .eq w0) = false → True)
theorem ct_M_weighs_10 {d : Nat} {rec : G_weighs} {wrec : GW_weighs} (hrec : hr_weighs (d + 3) rec wrec) (fu : Nat) (s : St) (v1 : Int32) (v2 : Int32) (w0 : Int32) (hw : w_M_weighs_10 rec wrec fu s v1 v2 w0) : X m_M_weighs (d + 4) 10 [some (.inr (.inr (some 21))), some (.inl v1), some (.inl v2), none, none, none, none, none, none, none, none] [.inl w0] (hp s) (qIs (t_M_weighs_10 rec fu s v1 v2 w0)) := by
  unfold t_M_weighs_10
  unfold w_M_weighs_10 at hw
  refine X_run 3 (i1 := cond (cn1 .eq w0) 15 13) (L1 := [some (.inr (.inr (some 21))), some (.inl v1), some (.inl v2), some (.inl w0), none, none, none, none, none, none, none]) (st1 := []) rfl ?_
  refine X_brq (fun hb => ?_) (fun hb => ?_)
  · have hw := hw.1 hb
    refine X_run 1 (i1 := 16) (L1 := [some (.inr (.inr (some 21))), some (.inl v1), some (.inl v2), some (.inl w0), none, none, none, none, none, none, none]) (st1 := [.inr (.inr (some 21))]) rfl ?_
    refine X_gF (v := .inr (.inr (some 22))) rfl rfl rfl rfl ?_
    refine X_run 1 (i1 := 18) (L1 := [some (.inr (.inr (some 21))), some (.inl v1), some (.inl v2), some (.inl w0), none, none, none, none, none, none, none]) (st1 := [.inl v1, .inr (.inr (some 22))]) rfl ?_
    obtain ⟨hin, hw⟩ := hw
    refine X_aI rfl rfl hin ?_
    show X _ _ 19 [some (.inr (.inr (some 21))), some (.inl v1), some (.inl v2), some (.inl w0), none, none, none, none, none, none, none] [.inl (sA s 22 (Int32.toNatClampNeg v1))] (hp s) _
    refine X_run 4 (i1 := 23) (L1 := [some (.inr (.inr (some 21))), some (.inl v1), some (.inl v2), some (.inl w0), some (.inl ((sA s 22 (Int32.toNatClampNeg v1)) - (11 : Int32))), none, none, none, none, none, none]) (st1 := [.inr (.inr (some 21))]) rfl ?_
    refine X_gF (v := .inr (.inr (some 23))) rfl rfl rfl rfl ?_
    refine X_run 1 (i1 := 25) (L1 := [some (.inr (.inr (some 21))), some (.inl v1), some (.inl v2), some (.inl w0), some (.inl ((sA s 22 (Int32.toNatClampNeg v1)) - (11 : Int32))), none, none, none, none, none, none]) (st1 := [.inl v1, .inr (.inr (some 23))]) rfl ?_
    obtain ⟨hin, hw⟩ := hw
    refine X_aI rfl rfl hin ?_
    show X _ _ 26 [some (.inr (.inr (some 21))), some (.inl v1), some (.inl v2), some (.inl w0), some (.inl ((sA s 22 (Int32.toNatClampNeg v1)) - (11 : Int32))), none, none, none, none, none, none] [.inl (sA s 23 (Int32.toNatClampNeg v1))] (hp s) _
    refine X_run 2 (i1 := 28) (L1 := [some (.inr (.inr (some 21))), some (.inl v1), some (.inl v2), some (.inl w0), some (.inl ((sA s 22 (Int32.toNatClampNeg v1)) - (11 : Int32))), some (.inl (sA s 23 (Int32.toNatClampNeg v1))), none, none, none, none, none]) (st1 := [.inr (.inr (some 21))]) rfl ?_
    refine X_gF (v := .inr (.inr (some 26))) rfl rfl rfl rfl ?_
    refine X_run 3 (i1 := 32) (L1 := [some (.inr (.inr (some 21))), some (.inl v1), some (.inl v2), some (.inl w0), some (.inl ((sA s 22 (Int32.toNatClampNeg v1)) - (11 : Int32))), some (.inl (sA s 23 (Int32.toNatClampNeg v1))), none, none, none, none, none]) (st1 := [.inl ((sA s 23 (Int32.toNatClampNeg v1)) + (1 : Int32)), .inr (.inr (some 26))]) rfl ?_
    obtain ⟨hin, hw⟩ := hw
    refine X_aL rfl rfl hin ?_
    show X _ _ 33 [some (.inr (.inr (some 21))), some (.inl v1), some (.inl v2), some (.inl w0), some (.inl ((sA s 22 (Int32.toNatClampNeg v1)) - (11 : Int32))), some (.inl (sA s 23 (Int32.toNatClampNeg v1))), none, none, none, none, none] [.inr (.inl (sB s 26 (Int32.toNatClampNeg ((sA s 23 (Int32.toNatClampNeg v1)) + (1 : Int32)))))] (hp s) _
    refine X_run 4 (i1 := cond (cn2 .ne ((sA s 22 (Int32.toNatClampNeg v1)) - (11 : Int32)) (2 : Int32)) 51 37) (L1 := [some (.inr (.inr (some 21))), some (.inl v1), some (.inl v2), some (.inl w0), some (.inl ((sA s 22 (Int32.toNatClampNeg v1)) - (11 : Int32))), some (.inl (sA s 23 (Int32.toNatClampNeg v1))), some (.inr (.inl (sB s 26 (Int32.toNatClampNeg ((sA s 23 (Int32.toNatClampNeg v1)) + (1 : Int32)))))), none, none, none, none]) (st1 := []) rfl ?_
    refine X_brq (fun hb => ?_) (fun hb => ?_)
    · have hw := hw.1 hb
      refine X_mask [true, false, true, false, true, true, true, true, true, true, true] ?_
      exact ct_M_weighs_51 hrec fu s v2 ((sA s 22 (Int32.toNatClampNeg v1)) - (11 : Int32)) (sA s 23 (Int32.toNatClampNeg v1)) (sB s 26 (Int32.toNatClampNeg ((sA s 23 (Int32.toNatClampNeg v1)) + (1 : Int32)))) hw
    · have hw := hw.2 hb
      refine X_run 2 (i1 := 39) (L1 := [some (.inr (.inr (some 21))), some (.inl v1), some (.inl v2), some (.inl w0), some (.inl ((sA s 22 (Int32.toNatClampNeg v1)) - (11 : Int32))), some (.inl (sA s 23 (Int32.toNatClampNeg v1))), some (.inr (.inl (sB s 26 (Int32.toNatClampNeg ((sA s 23 (Int32.toNatClampNeg v1)) + (1 : Int32)))))), none, none, none, none]) (st1 := [.inr (.inl (1 : Int64)), .inr (.inl (sB s 26 (Int32.toNatClampNeg ((sA s 23 (Int32.toNatClampNeg v1)) + (1 : Int32)))))]) rfl ?_
      refine X_calls m_M_realOf (As := [.inr (.inl (1 : Int64))]) (st := [.inr (.inl (sB s 26 (Int32.toNatClampNeg ((sA s 23 (Int32.toNatClampNeg v1)) + (1 : Int32)))))]) ok_M_realOf rfl rfl rfl (Nat.le_of_ble_eq_true rfl) (Nat.le_of_ble_eq_true rfl) (c_M_realOf (d := d) (1 : Int64)) ?_
      rintro _ _ ⟨rfl, rfl⟩
      show X _ _ 40 [some (.inr (.inr (some 21))), some (.inl v1), some (.inl v2), some (.inl w0), some (.inl ((sA s 22 (Int32.toNatClampNeg v1)) - (11 : Int32))), some (.inl (sA s 23 (Int32.toNatClampNeg v1))), some (.inr (.inl (sB s 26 (Int32.toNatClampNeg ((sA s 23 (Int32.toNatClampNeg v1)) + (1 : Int32)))))), none, none, none, none] [.inr (.inl (f_M_realOf (1 : Int64))), .inr (.inl (sB s 26 (Int32.toNatClampNeg ((sA s 23 (Int32.toNatClampNeg v1)) + (1 : Int32)))))] (hp s) _
      refine X_run 1 (i1 := 41) (L1 := [some (.inr (.inr (some 21))), some (.inl v1), some (.inl v2), some (.inl w0), some (.inl ((sA s 22 (Int32.toNatClampNeg v1)) - (11 : Int32))), some (.inl (sA s 23 (Int32.toNatClampNeg v1))), some (.inr (.inl (sB s 26 (Int32.toNatClampNeg ((sA s 23 (Int32.toNatClampNeg v1)) + (1 : Int32)))))), none, none, none, none]) (st1 := [.inr (.inl (4 : Int64)), .inr (.inl (f_M_realOf (1 : Int64))), .inr (.inl (sB s 26 (Int32.toNatClampNeg ((sA s 23 (Int32.toNatClampNeg v1)) + (1 : Int32)))))]) rfl ?_
      refine X_calls m_M_realOf (As := [.inr (.inl (4 : Int64))]) (st := [.inr (.inl (f_M_realOf (1 : Int64))), .inr (.inl (sB s 26 (Int32.toNatClampNeg ((sA s 23 (Int32.toNatClampNeg v1)) + (1 : Int32)))))]) ok_M_realOf rfl rfl rfl (Nat.le_of_ble_eq_true rfl) (Nat.le_of_ble_eq_true rfl) (c_M_realOf (d := d) (4 : Int64)) ?_
      rintro _ _ ⟨rfl, rfl⟩
      show X _ _ 42 [some (.inr (.inr (some 21))), some (.inl v1), some (.inl v2), some (.inl w0), some (.inl ((sA s 22 (Int32.toNatClampNeg v1)) - (11 : Int32))), some (.inl (sA s 23 (Int32.toNatClampNeg v1))), some (.inr (.inl (sB s 26 (Int32.toNatClampNeg ((sA s 23 (Int32.toNatClampNeg v1)) + (1 : Int32)))))), none, none, none, none] [.inr (.inl (f_M_realOf (4 : Int64))), .inr (.inl (f_M_realOf (1 : Int64))), .inr (.inl (sB s 26 (Int32.toNatClampNeg ((sA s 23 (Int32.toNatClampNeg v1)) + (1 : Int32)))))] (hp s) _
      refine X_calls m_M_by (As := [.inr (.inl (f_M_realOf (1 : Int64))), .inr (.inl (f_M_realOf (4 : Int64)))]) (st := [.inr (.inl (sB s 26 (Int32.toNatClampNeg ((sA s 23 (Int32.toNatClampNeg v1)) + (1 : Int32)))))]) ok_M_by rfl rfl rfl (Nat.le_of_ble_eq_true rfl) (Nat.le_of_ble_eq_true rfl) (c_M_by (d := d) (f_M_realOf (1 : Int64)) (f_M_realOf (4 : Int64))) ?_
      rintro _ _ ⟨rfl, rfl⟩
      show X _ _ 43 [some (.inr (.inr (some 21))), some (.inl v1), some (.inl v2), some (.inl w0), some (.inl ((sA s 22 (Int32.toNatClampNeg v1)) - (11 : Int32))), some (.inl (sA s 23 (Int32.toNatClampNeg v1))), some (.inr (.inl (sB s 26 (Int32.toNatClampNeg ((sA s 23 (Int32.toNatClampNeg v1)) + (1 : Int32)))))), none, none, none, none] [.inr (.inl (f_M_by (f_M_realOf (1 : Int64)) (f_M_realOf (4 : Int64)))), .inr (.inl (sB s 26 (Int32.toNatClampNeg ((sA s 23 (Int32.toNatClampNeg v1)) + (1 : Int32)))))] (hp s) _
      refine X_run 1 (i1 := 44) (L1 := [some (.inr (.inr (some 21))), some (.inl v1), some (.inl v2), some (.inl w0), some (.inl ((sA s 22 (Int32.toNatClampNeg v1)) - (11 : Int32))), some (.inl (sA s 23 (Int32.toNatClampNeg v1))), some (.inr (.inl (sB s 26 (Int32.toNatClampNeg ((sA s 23 (Int32.toNatClampNeg v1)) + (1 : Int32)))))), none, none, none, none]) (st1 := [.inr (.inr (some 21)), .inr (.inl (f_M_by (f_M_realOf (1 : Int64)) (f_M_realOf (4 : Int64)))), .inr (.inl (sB s 26 (Int32.toNatClampNeg ((sA s 23 (Int32.toNatClampNeg v1)) + (1 : Int32)))))]) rfl ?_
      refine X_gF (v := .inr (.inr (some 26))) rfl rfl rfl rfl ?_
      refine X_run 1 (i1 := 46) (L1 := [some (.inr (.inr (some 21))), some (.inl v1), some (.inl v2), some (.inl w0), some (.inl ((sA s 22 (Int32.toNatClampNeg v1)) - (11 : Int32))), some (.inl (sA s 23 (Int32.toNatClampNeg v1))), some (.inr (.inl (sB s 26 (Int32.toNatClampNeg ((sA s 23 (Int32.toNatClampNeg v1)) + (1 : Int32)))))), none, none, none, none]) (st1 := [.inl (sA s 23 (Int32.toNatClampNeg v1)), .inr (.inr (some 26)), .inr (.inl (f_M_by (f_M_realOf (1 : Int64)) (f_M_realOf (4 : Int64)))), .inr (.inl (sB s 26 (Int32.toNatClampNeg ((sA s 23 (Int32.toNatClampNeg v1)) + (1 : Int32)))))]) rfl ?_
      obtain ⟨hin, hw⟩ := hw
      refine X_aL rfl rfl hin ?_
      show X _ _ 47 [some (.inr (.inr (some 21))), some (.inl v1), some (.inl v2), some (.inl w0), some (.inl ((sA s 22 (Int32.toNatClampNeg v1)) - (11 : Int32))), some (.inl (sA s 23 (Int32.toNatClampNeg v1))), some (.inr (.inl (sB s 26 (Int32.toNatClampNeg ((sA s 23 (Int32.toNatClampNeg v1)) + (1 : Int32)))))), none, none, none, none] [.inr (.inl (sB s 26 (Int32.toNatClampNeg (sA s 23 (Int32.toNatClampNeg v1))))), .inr (.inl (f_M_by (f_M_realOf (1 : Int64)) (f_M_realOf (4 : Int64)))), .inr (.inl (sB s 26 (Int32.toNatClampNeg ((sA s 23 (Int32.toNatClampNeg v1)) + (1 : Int32)))))] (hp s) _
      refine X_calls m_M_realOf (As := [.inr (.inl (sB s 26 (Int32.toNatClampNeg (sA s 23 (Int32.toNatClampNeg v1)))))]) (st := [.inr (.inl (f_M_by (f_M_realOf (1 : Int64)) (f_M_realOf (4 : Int64)))), .inr (.inl (sB s 26 (Int32.toNatClampNeg ((sA s 23 (Int32.toNatClampNeg v1)) + (1 : Int32)))))]) ok_M_realOf rfl rfl rfl (Nat.le_of_ble_eq_true rfl) (Nat.le_of_ble_eq_true rfl) (c_M_realOf (d := d) (sB s 26 (Int32.toNatClampNeg (sA s 23 (Int32.toNatClampNeg v1))))) ?_
      rintro _ _ ⟨rfl, rfl⟩
      show X _ _ 48 [some (.inr (.inr (some 21))), some (.inl v1), some (.inl v2), some (.inl w0), some (.inl ((sA s 22 (Int32.toNatClampNeg v1)) - (11 : Int32))), some (.inl (sA s 23 (Int32.toNatClampNeg v1))), some (.inr (.inl (sB s 26 (Int32.toNatClampNeg ((sA s 23 (Int32.toNatClampNeg v1)) + (1 : Int32)))))), none, none, none, none] [.inr (.inl (f_M_realOf (sB s 26 (Int32.toNatClampNeg (sA s 23 (Int32.toNatClampNeg v1)))))), .inr (.inl (f_M_by (f_M_realOf (1 : Int64)) (f_M_realOf (4 : Int64)))), .inr (.inl (sB s 26 (Int32.toNatClampNeg ((sA s 23 (Int32.toNatClampNeg v1)) + (1 : Int32)))))] (hp s) _
      refine X_calls m_M_times (As := [.inr (.inl (f_M_by (f_M_realOf (1 : Int64)) (f_M_realOf (4 : Int64)))), .inr (.inl (f_M_realOf (sB s 26 (Int32.toNatClampNeg (sA s 23 (Int32.toNatClampNeg v1))))))]) (st := [.inr (.inl (sB s 26 (Int32.toNatClampNeg ((sA s 23 (Int32.toNatClampNeg v1)) + (1 : Int32)))))]) ok_M_times rfl rfl rfl (Nat.le_of_ble_eq_true rfl) (Nat.le_of_ble_eq_true rfl) (c_M_times (d := d) (f_M_by (f_M_realOf (1 : Int64)) (f_M_realOf (4 : Int64))) (f_M_realOf (sB s 26 (Int32.toNatClampNeg (sA s 23 (Int32.toNatClampNeg v1)))))) ?_
      rintro _ _ ⟨rfl, rfl⟩
      show X _ _ 49 [some (.inr (.inr (some 21))), some (.inl v1), some (.inl v2), some (.inl w0), some (.inl ((sA s 22 (Int32.toNatClampNeg v1)) - (11 : Int32))), some (.inl (sA s 23 (Int32.toNatClampNeg v1))), some (.inr (.inl (sB s 26 (Int32.toNatClampNeg ((sA s 23 (Int32.toNatClampNeg v1)) + (1 : Int32)))))), none, none, none, none] [.inr (.inl (f_M_times (f_M_by (f_M_realOf (1 : Int64)) (f_M_realOf (4 : Int64))) (f_M_realOf (sB s 26 (Int32.toNatClampNeg (sA s 23 (Int32.toNatClampNeg v1))))))), .inr (.inl (sB s 26 (Int32.toNatClampNeg ((sA s 23 (Int32.toNatClampNeg v1)) + (1 : Int32)))))] (hp s) _
      refine X_calls m_M_added (As := [.inr (.inl (sB s 26 (Int32.toNatClampNeg ((sA s 23 (Int32.toNatClampNeg v1)) + (1 : Int32))))), .inr (.inl (f_M_times (f_M_by (f_M_realOf (1 : Int64)) (f_M_realOf (4 : Int64))) (f_M_realOf (sB s 26 (Int32.toNatClampNeg (sA s 23 (Int32.toNatClampNeg v1)))))))]) (st := []) ok_M_added rfl rfl rfl (Nat.le_of_ble_eq_true rfl) (Nat.le_of_ble_eq_true rfl) (c_M_added (d := d) (sB s 26 (Int32.toNatClampNeg ((sA s 23 (Int32.toNatClampNeg v1)) + (1 : Int32)))) (f_M_times (f_M_by (f_M_realOf (1 : Int64)) (f_M_realOf (4 : Int64))) (f_M_realOf (sB s 26 (Int32.toNatClampNeg (sA s 23 (Int32.toNatClampNeg v1))))))) ?_
      rintro _ _ ⟨rfl, rfl⟩
      show X _ _ 50 [some (.inr (.inr (some 21))), some (.inl v1), some (.inl v2), some (.inl w0), some (.inl ((sA s 22 (Int32.toNatClampNeg v1)) - (11 : Int32))), some (.inl (sA s 23 (Int32.toNatClampNeg v1))), some (.inr (.inl (sB s 26 (Int32.toNatClampNeg ((sA s 23 (Int32.toNatClampNeg v1)) + (1 : Int32)))))), none, none, none, none] [.inr (.inl (f_M_added (sB s 26 (Int32.toNatClampNeg ((sA s 23 (Int32.toNatClampNeg v1)) + (1 : Int32)))) (f_M_times (f_M_by (f_M_realOf (1 : Int64)) (f_M_realOf (4 : Int64))) (f_M_realOf (sB s 26 (Int32.toNatClampNeg (sA s 23 (Int32.toNatClampNeg v1))))))))] (hp s) _
      refine X_run 1 (i1 := 51) (L1 := [some (.inr (.inr (some 21))), some (.inl v1), some (.inl v2), some (.inl w0), some (.inl ((sA s 22 (Int32.toNatClampNeg v1)) - (11 : Int32))), some (.inl (sA s 23 (Int32.toNatClampNeg v1))), some (.inr (.inl (f_M_added (sB s 26 (Int32.toNatClampNeg ((sA s 23 (Int32.toNatClampNeg v1)) + (1 : Int32)))) (f_M_times (f_M_by (f_M_realOf (1 : Int64)) (f_M_realOf (4 : Int64))) (f_M_realOf (sB s 26 (Int32.toNatClampNeg (sA s 23 (Int32.toNatClampNeg v1))))))))), none, none, none, none]) (st1 := []) rfl ?_
      refine X_mask [true, false, true, false, true, true, true, true, true, true, true] ?_
      exact ct_M_weighs_51 hrec fu s v2 ((sA s 22 (Int32.toNatClampNeg v1)) - (11 : Int32)) (sA s 23 (Int32.toNatClampNeg v1)) (f_M_added (sB s 26 (Int32.toNatClampNeg ((sA s 23 (Int32.toNatClampNeg v1)) + (1 : Int32)))) (f_M_times (f_M_by (f_M_realOf (1 : Int64)) (f_M_realOf (4 : Int64))) (f_M_realOf (sB s 26 (Int32.toNatClampNeg (sA s 23 (Int32.toNatClampNeg v1))))))) hw
  · skip
    refine X_run 1 (i1 := 14) (L1 := [some (.inr (.inr (some 21))), some (.inl v1), some (.inl v2), some (.inl w0), none, none, none, none, none, none, none]) (st1 := [.inl w0]) rfl ?_
    exact X_iret rfl rfl qIs_i
def f_M_weighs (rec : G_weighs) (fu : Nat) (s : St) (a0 : Int32) (a1 : Int32) : Int32 × St := (cond (cn2 .le a1 (30 : Int32)) (t_M_weighs_10 rec fu ((f_M_takes s (1 : Int64)).2) a0 a1 ((f_M_takes s (1 : Int64)).1)) (f_M_fails s (8 : Int32)))
def w_M_weighs (rec : G_weighs) (wrec : GW_weighs) (fu : Nat) (s : St) (a0 : Int32) (a1 : Int32) : Prop := ((cn2 .le a1 (30 : Int32)) = true → (w_M_takes s (1 : Int64) ∧ (w_M_weighs_10 rec wrec fu ((f_M_takes s (1 : Int64)).2) a0 a1 ((f_M_takes s (1 : Int64)).1)))) ∧ ((cn2 .le a1 (30 : Int32)) = false → (w_M_fails s (8 : Int32) ∧ True))
theorem c_M_weighs {d : Nat} {rec : G_weighs} {wrec : GW_weighs} (hrec : hr_weighs (d + 3) rec wrec) (fu : Nat) (s : St) (a0 : Int32) (a1 : Int32) (hw : w_M_weighs rec wrec fu s a0 a1) : X m_M_weighs (d + 4) 0 (entL 11 [.inr (.inr (some 21)), .inl a0, .inl a1]) [] (hp s) (qIs (f_M_weighs rec fu s a0 a1)) := by
  unfold f_M_weighs
  unfold w_M_weighs at hw
  refine X_run 3 (i1 := cond (cn2 .le a1 (30 : Int32)) 7 3) (L1 := [some (.inr (.inr (some 21))), some (.inl a0), some (.inl a1), none, none, none, none, none, none, none, none]) (st1 := []) rfl ?_
  refine X_brq (fun hb => ?_) (fun hb => ?_)
  · have hw := hw.1 hb
    refine X_run 2 (i1 := 9) (L1 := [some (.inr (.inr (some 21))), some (.inl a0), some (.inl a1), none, none, none, none, none, none, none, none]) (st1 := [.inr (.inl (1 : Int64)), .inr (.inr (some 21))]) rfl ?_
    obtain ⟨hc, hw⟩ := hw
    refine X_callv m_M_takes (As := [.inr (.inl (1 : Int64))]) (st := []) ok_M_takes rfl rfl rfl (hp_obj rfl) rfl (Nat.le_of_ble_eq_true rfl) (Nat.le_of_ble_eq_true rfl) (c_M_takes (d := d + 3) s (1 : Int64) hc) ?_
    rintro _ _ ⟨rfl, rfl⟩
    show X _ _ 10 [some (.inr (.inr (some 21))), some (.inl a0), some (.inl a1), none, none, none, none, none, none, none, none] [.inl ((f_M_takes s (1 : Int64)).1)] (hp ((f_M_takes s (1 : Int64)).2)) _
    show X _ _ 10 [some (.inr (.inr (some 21))), some (.inl a0), some (.inl a1), none, none, none, none, none, none, none, none] [.inl ((f_M_takes s (1 : Int64)).1)] (hp ((f_M_takes s (1 : Int64)).2)) _
    exact ct_M_weighs_10 hrec fu ((f_M_takes s (1 : Int64)).2) a0 a1 ((f_M_takes s (1 : Int64)).1) hw
  · have hw := hw.2 hb
    refine X_run 2 (i1 := 5) (L1 := [some (.inr (.inr (some 21))), some (.inl a0), some (.inl a1), none, none, none, none, none, none, none, none]) (st1 := [.inl (8 : Int32), .inr (.inr (some 21))]) rfl ?_
    obtain ⟨hc, hw⟩ := hw
    refine X_callv m_M_fails (As := [.inl (8 : Int32)]) (st := []) ok_M_fails rfl rfl rfl (hp_obj rfl) rfl (Nat.le_of_ble_eq_true rfl) (Nat.le_of_ble_eq_true rfl) (c_M_fails (d := d + 1) s (8 : Int32) hc) ?_
    rintro _ _ ⟨rfl, rfl⟩
    show X _ _ 6 [some (.inr (.inr (some 21))), some (.inl a0), some (.inl a1), none, none, none, none, none, none, none, none] [.inl ((f_M_fails s (8 : Int32)).1)] (hp ((f_M_fails s (8 : Int32)).2)) _
    exact X_iret rfl rfl qIs_p
def F_weighs (fu : Nat) : Nat → G_weighs
  | 0 => fun s _ _ => (0, s)
  | n + 1 => fun s a0 a1 => f_M_weighs (F_weighs fu n) fu s a0 a1
def W_weighs (fu : Nat) : Nat → GW_weighs
  | 0 => fun _ _ _ => False
  | n + 1 => fun s a0 a1 => w_M_weighs (F_weighs fu n) (W_weighs fu n) fu s a0 a1
theorem cF_weighs (fu : Nat) : ∀ (n d : Nat), hr_weighs (d + n + 4) (F_weighs fu n) (W_weighs fu n)
  | 0, d => fun _ _ _ hw => hw.elim
  | n + 1, d => by
    have hrec : hr_weighs (d + 1 + n + 4 - 1) (F_weighs fu n) (W_weighs fu n) := by
      have h := cF_weighs fu n d
      rw [show d + 1 + n + 4 - 1 = d + n + 4 by omega]; exact h
    have e : d + (n + 1) + 4 = (d + 1 + n) + 4 := by omega
    rw [e]
    exact (fun s a0 a1 hw => c_M_weighs (d := d + 1 + n) hrec fu s a0 a1 hw)
def t_M_asks_157 (fu : Nat) (s : St) (v1 : Int32) (v9 : Int64) : Int32 × St := ((0 : Int32), pB s 29 (vp_updL (sB s 29) (Int32.toNatClampNeg (sA s 30 (Int32.toNatClampNeg (v1 + (1 : Int32))))) v9))
def w_M_asks_157 (fu : Nat) (s : St) (v1 : Int32) (v9 : Int64) : Prop := (vp_in (v1 + (1 : Int32)) 3200 ∧ (vp_in (sA s 30 (Int32.toNatClampNeg (v1 + (1 : Int32)))) 4 ∧ True))
theorem ct_M_asks_157 {d : Nat} (fu : Nat) (s : St) (v1 : Int32) (v9 : Int64) (hw : w_M_asks_157 fu s v1 v9) : X m_M_asks (d + 37) 157 [some (.inr (.inr (some 21))), some (.inl v1), none, none, none, none, none, none, none, some (.inr (.inl v9)), none] [] (hp s) (qIs (t_M_asks_157 fu s v1 v9)) := by
  unfold t_M_asks_157
  unfold w_M_asks_157 at hw
  refine X_run 1 (i1 := 158) (L1 := [some (.inr (.inr (some 21))), some (.inl v1), none, none, none, none, none, none, none, some (.inr (.inl v9)), none]) (st1 := [.inr (.inr (some 21))]) rfl ?_
  refine X_gF (v := .inr (.inr (some 29))) rfl rfl rfl rfl ?_
  refine X_run 1 (i1 := 160) (L1 := [some (.inr (.inr (some 21))), some (.inl v1), none, none, none, none, none, none, none, some (.inr (.inl v9)), none]) (st1 := [.inr (.inr (some 21)), .inr (.inr (some 29))]) rfl ?_
  refine X_gF (v := .inr (.inr (some 30))) rfl rfl rfl rfl ?_
  refine X_run 3 (i1 := 164) (L1 := [some (.inr (.inr (some 21))), some (.inl v1), none, none, none, none, none, none, none, some (.inr (.inl v9)), none]) (st1 := [.inl (v1 + (1 : Int32)), .inr (.inr (some 30)), .inr (.inr (some 29))]) rfl ?_
  obtain ⟨hin, hw⟩ := hw
  refine X_aI rfl rfl hin ?_
  show X _ _ 165 [some (.inr (.inr (some 21))), some (.inl v1), none, none, none, none, none, none, none, some (.inr (.inl v9)), none] [.inl (sA s 30 (Int32.toNatClampNeg (v1 + (1 : Int32)))), .inr (.inr (some 29))] (hp s) _
  refine X_run 1 (i1 := 166) (L1 := [some (.inr (.inr (some 21))), some (.inl v1), none, none, none, none, none, none, none, some (.inr (.inl v9)), none]) (st1 := [.inr (.inl v9), .inl (sA s 30 (Int32.toNatClampNeg (v1 + (1 : Int32)))), .inr (.inr (some 29))]) rfl ?_
  obtain ⟨hin, hw⟩ := hw
  refine X_sL rfl rfl hin ?_
  show X _ _ 167 [some (.inr (.inr (some 21))), some (.inl v1), none, none, none, none, none, none, none, some (.inr (.inl v9)), none] [] (hp (pB s 29 (vp_updL (sB s 29) (Int32.toNatClampNeg (sA s 30 (Int32.toNatClampNeg (v1 + (1 : Int32))))) v9))) _
  refine X_run 1 (i1 := 168) (L1 := [some (.inr (.inr (some 21))), some (.inl v1), none, none, none, none, none, none, none, some (.inr (.inl v9)), none]) (st1 := [.inl (0 : Int32)]) rfl ?_
  exact X_iret rfl rfl qIs_i
def t_M_asks_147 (fu : Nat) (s : St) (v1 : Int32) (v2 : Int32) (v5 : Int32) (v9 : Int64) : Int32 × St := (cond (cn1 .le v2) (t_M_asks_157 fu s v1 v9) (cond (cn2 .ne v5 (4 : Int32)) (t_M_asks_157 fu s v1 v9) (t_M_asks_157 fu s v1 (f_M_added v9 (f_M_realOf (1 : Int64))))))
def w_M_asks_147 (fu : Nat) (s : St) (v1 : Int32) (v2 : Int32) (v5 : Int32) (v9 : Int64) : Prop := ((cn1 .le v2) = true → (w_M_asks_157 fu s v1 v9)) ∧ ((cn1 .le v2) = false → ((cn2 .ne v5 (4 : Int32)) = true → (w_M_asks_157 fu s v1 v9)) ∧ ((cn2 .ne v5 (4 : Int32)) = false → (w_M_asks_157 fu s v1 (f_M_added v9 (f_M_realOf (1 : Int64))))))
theorem ct_M_asks_147 {d : Nat} (fu : Nat) (s : St) (v1 : Int32) (v2 : Int32) (v5 : Int32) (v9 : Int64) (hw : w_M_asks_147 fu s v1 v2 v5 v9) : X m_M_asks (d + 37) 147 [some (.inr (.inr (some 21))), some (.inl v1), some (.inl v2), none, none, some (.inl v5), none, none, none, some (.inr (.inl v9)), none] [] (hp s) (qIs (t_M_asks_147 fu s v1 v2 v5 v9)) := by
  unfold t_M_asks_147
  unfold w_M_asks_147 at hw
  refine X_run 2 (i1 := cond (cn1 .le v2) 157 149) (L1 := [some (.inr (.inr (some 21))), some (.inl v1), some (.inl v2), none, none, some (.inl v5), none, none, none, some (.inr (.inl v9)), none]) (st1 := []) rfl ?_
  refine X_brq (fun hb => ?_) (fun hb => ?_)
  · have hw := hw.1 hb
    refine X_mask [true, true, false, true, true, false, true, true, true, true, true] ?_
    exact ct_M_asks_157 fu s v1 v9 hw
  · have hw := hw.2 hb
    refine X_run 3 (i1 := cond (cn2 .ne v5 (4 : Int32)) 157 152) (L1 := [some (.inr (.inr (some 21))), some (.inl v1), some (.inl v2), none, none, some (.inl v5), none, none, none, some (.inr (.inl v9)), none]) (st1 := []) rfl ?_
    refine X_brq (fun hb => ?_) (fun hb => ?_)
    · have hw := hw.1 hb
      refine X_mask [true, true, false, true, true, false, true, true, true, true, true] ?_
      exact ct_M_asks_157 fu s v1 v9 hw
    · have hw := hw.2 hb
      refine X_run 2 (i1 := 154) (L1 := [some (.inr (.inr (some 21))), some (.inl v1), some (.inl v2), none, none, some (.inl v5), none, none, none, some (.inr (.inl v9)), none]) (st1 := [.inr (.inl (1 : Int64)), .inr (.inl v9)]) rfl ?_
      refine X_calls m_M_realOf (As := [.inr (.inl (1 : Int64))]) (st := [.inr (.inl v9)]) ok_M_realOf rfl rfl rfl (Nat.le_of_ble_eq_true rfl) (Nat.le_of_ble_eq_true rfl) (c_M_realOf (d := d + 33) (1 : Int64)) ?_
      rintro _ _ ⟨rfl, rfl⟩
      show X _ _ 155 [some (.inr (.inr (some 21))), some (.inl v1), some (.inl v2), none, none, some (.inl v5), none, none, none, some (.inr (.inl v9)), none] [.inr (.inl (f_M_realOf (1 : Int64))), .inr (.inl v9)] (hp s) _
      refine X_calls m_M_added (As := [.inr (.inl v9), .inr (.inl (f_M_realOf (1 : Int64)))]) (st := []) ok_M_added rfl rfl rfl (Nat.le_of_ble_eq_true rfl) (Nat.le_of_ble_eq_true rfl) (c_M_added (d := d + 33) v9 (f_M_realOf (1 : Int64))) ?_
      rintro _ _ ⟨rfl, rfl⟩
      show X _ _ 156 [some (.inr (.inr (some 21))), some (.inl v1), some (.inl v2), none, none, some (.inl v5), none, none, none, some (.inr (.inl v9)), none] [.inr (.inl (f_M_added v9 (f_M_realOf (1 : Int64))))] (hp s) _
      refine X_run 1 (i1 := 157) (L1 := [some (.inr (.inr (some 21))), some (.inl v1), some (.inl v2), none, none, some (.inl v5), none, none, none, some (.inr (.inl (f_M_added v9 (f_M_realOf (1 : Int64))))), none]) (st1 := []) rfl ?_
      refine X_mask [true, true, false, true, true, false, true, true, true, true, true] ?_
      exact ct_M_asks_157 fu s v1 (f_M_added v9 (f_M_realOf (1 : Int64))) hw
def t_M_asks_127 (fu : Nat) (s : St) (v1 : Int32) (v2 : Int32) (v3 : Int32) (v5 : Int32) (v7 : Int64) (v9 : Int64) : Int32 × St := (cond (cn1 .le v2) (t_M_asks_147 fu s v1 v2 v5 v9) (cond (cn2 .le v5 (2 : Int32)) (t_M_asks_147 fu s v1 v2 v5 v9) (t_M_asks_147 fu s v1 v2 v5 (f_M_added v9 (f_M_times v7 (f_M_realOf (sB s 26 (Int32.toNatClampNeg ((sA s 23 (Int32.toNatClampNeg v3)) + (2 : Int32))))))))))
def w_M_asks_127 (fu : Nat) (s : St) (v1 : Int32) (v2 : Int32) (v3 : Int32) (v5 : Int32) (v7 : Int64) (v9 : Int64) : Prop := ((cn1 .le v2) = true → (w_M_asks_147 fu s v1 v2 v5 v9)) ∧ ((cn1 .le v2) = false → ((cn2 .le v5 (2 : Int32)) = true → (w_M_asks_147 fu s v1 v2 v5 v9)) ∧ ((cn2 .le v5 (2 : Int32)) = false → (vp_in v3 40001 ∧ (vp_in ((sA s 23 (Int32.toNatClampNeg v3)) + (2 : Int32)) 40001 ∧ (w_M_asks_147 fu s v1 v2 v5 (f_M_added v9 (f_M_times v7 (f_M_realOf (sB s 26 (Int32.toNatClampNeg ((sA s 23 (Int32.toNatClampNeg v3)) + (2 : Int32))))))))))))
theorem ct_M_asks_127 {d : Nat} (fu : Nat) (s : St) (v1 : Int32) (v2 : Int32) (v3 : Int32) (v5 : Int32) (v7 : Int64) (v9 : Int64) (hw : w_M_asks_127 fu s v1 v2 v3 v5 v7 v9) : X m_M_asks (d + 37) 127 [some (.inr (.inr (some 21))), some (.inl v1), some (.inl v2), some (.inl v3), none, some (.inl v5), none, some (.inr (.inl v7)), none, some (.inr (.inl v9)), none] [] (hp s) (qIs (t_M_asks_127 fu s v1 v2 v3 v5 v7 v9)) := by
  unfold t_M_asks_127
  unfold w_M_asks_127 at hw
  refine X_run 2 (i1 := cond (cn1 .le v2) 147 129) (L1 := [some (.inr (.inr (some 21))), some (.inl v1), some (.inl v2), some (.inl v3), none, some (.inl v5), none, some (.inr (.inl v7)), none, some (.inr (.inl v9)), none]) (st1 := []) rfl ?_
  refine X_brq (fun hb => ?_) (fun hb => ?_)
  · have hw := hw.1 hb
    refine X_mask [true, true, true, false, true, true, true, false, true, true, true] ?_
    exact ct_M_asks_147 fu s v1 v2 v5 v9 hw
  · have hw := hw.2 hb
    refine X_run 3 (i1 := cond (cn2 .le v5 (2 : Int32)) 147 132) (L1 := [some (.inr (.inr (some 21))), some (.inl v1), some (.inl v2), some (.inl v3), none, some (.inl v5), none, some (.inr (.inl v7)), none, some (.inr (.inl v9)), none]) (st1 := []) rfl ?_
    refine X_brq (fun hb => ?_) (fun hb => ?_)
    · have hw := hw.1 hb
      refine X_mask [true, true, true, false, true, true, true, false, true, true, true] ?_
      exact ct_M_asks_147 fu s v1 v2 v5 v9 hw
    · have hw := hw.2 hb
      refine X_run 3 (i1 := 135) (L1 := [some (.inr (.inr (some 21))), some (.inl v1), some (.inl v2), some (.inl v3), none, some (.inl v5), none, some (.inr (.inl v7)), none, some (.inr (.inl v9)), none]) (st1 := [.inr (.inr (some 21)), .inr (.inl v7), .inr (.inl v9)]) rfl ?_
      refine X_gF (v := .inr (.inr (some 26))) rfl rfl rfl rfl ?_
      refine X_run 1 (i1 := 137) (L1 := [some (.inr (.inr (some 21))), some (.inl v1), some (.inl v2), some (.inl v3), none, some (.inl v5), none, some (.inr (.inl v7)), none, some (.inr (.inl v9)), none]) (st1 := [.inr (.inr (some 21)), .inr (.inr (some 26)), .inr (.inl v7), .inr (.inl v9)]) rfl ?_
      refine X_gF (v := .inr (.inr (some 23))) rfl rfl rfl rfl ?_
      refine X_run 1 (i1 := 139) (L1 := [some (.inr (.inr (some 21))), some (.inl v1), some (.inl v2), some (.inl v3), none, some (.inl v5), none, some (.inr (.inl v7)), none, some (.inr (.inl v9)), none]) (st1 := [.inl v3, .inr (.inr (some 23)), .inr (.inr (some 26)), .inr (.inl v7), .inr (.inl v9)]) rfl ?_
      obtain ⟨hin, hw⟩ := hw
      refine X_aI rfl rfl hin ?_
      show X _ _ 140 [some (.inr (.inr (some 21))), some (.inl v1), some (.inl v2), some (.inl v3), none, some (.inl v5), none, some (.inr (.inl v7)), none, some (.inr (.inl v9)), none] [.inl (sA s 23 (Int32.toNatClampNeg v3)), .inr (.inr (some 26)), .inr (.inl v7), .inr (.inl v9)] (hp s) _
      refine X_run 2 (i1 := 142) (L1 := [some (.inr (.inr (some 21))), some (.inl v1), some (.inl v2), some (.inl v3), none, some (.inl v5), none, some (.inr (.inl v7)), none, some (.inr (.inl v9)), none]) (st1 := [.inl ((sA s 23 (Int32.toNatClampNeg v3)) + (2 : Int32)), .inr (.inr (some 26)), .inr (.inl v7), .inr (.inl v9)]) rfl ?_
      obtain ⟨hin, hw⟩ := hw
      refine X_aL rfl rfl hin ?_
      show X _ _ 143 [some (.inr (.inr (some 21))), some (.inl v1), some (.inl v2), some (.inl v3), none, some (.inl v5), none, some (.inr (.inl v7)), none, some (.inr (.inl v9)), none] [.inr (.inl (sB s 26 (Int32.toNatClampNeg ((sA s 23 (Int32.toNatClampNeg v3)) + (2 : Int32))))), .inr (.inl v7), .inr (.inl v9)] (hp s) _
      refine X_calls m_M_realOf (As := [.inr (.inl (sB s 26 (Int32.toNatClampNeg ((sA s 23 (Int32.toNatClampNeg v3)) + (2 : Int32)))))]) (st := [.inr (.inl v7), .inr (.inl v9)]) ok_M_realOf rfl rfl rfl (Nat.le_of_ble_eq_true rfl) (Nat.le_of_ble_eq_true rfl) (c_M_realOf (d := d + 33) (sB s 26 (Int32.toNatClampNeg ((sA s 23 (Int32.toNatClampNeg v3)) + (2 : Int32))))) ?_
      rintro _ _ ⟨rfl, rfl⟩
      show X _ _ 144 [some (.inr (.inr (some 21))), some (.inl v1), some (.inl v2), some (.inl v3), none, some (.inl v5), none, some (.inr (.inl v7)), none, some (.inr (.inl v9)), none] [.inr (.inl (f_M_realOf (sB s 26 (Int32.toNatClampNeg ((sA s 23 (Int32.toNatClampNeg v3)) + (2 : Int32)))))), .inr (.inl v7), .inr (.inl v9)] (hp s) _
      refine X_calls m_M_times (As := [.inr (.inl v7), .inr (.inl (f_M_realOf (sB s 26 (Int32.toNatClampNeg ((sA s 23 (Int32.toNatClampNeg v3)) + (2 : Int32))))))]) (st := [.inr (.inl v9)]) ok_M_times rfl rfl rfl (Nat.le_of_ble_eq_true rfl) (Nat.le_of_ble_eq_true rfl) (c_M_times (d := d + 33) v7 (f_M_realOf (sB s 26 (Int32.toNatClampNeg ((sA s 23 (Int32.toNatClampNeg v3)) + (2 : Int32)))))) ?_
      rintro _ _ ⟨rfl, rfl⟩
      show X _ _ 145 [some (.inr (.inr (some 21))), some (.inl v1), some (.inl v2), some (.inl v3), none, some (.inl v5), none, some (.inr (.inl v7)), none, some (.inr (.inl v9)), none] [.inr (.inl (f_M_times v7 (f_M_realOf (sB s 26 (Int32.toNatClampNeg ((sA s 23 (Int32.toNatClampNeg v3)) + (2 : Int32))))))), .inr (.inl v9)] (hp s) _
      refine X_calls m_M_added (As := [.inr (.inl v9), .inr (.inl (f_M_times v7 (f_M_realOf (sB s 26 (Int32.toNatClampNeg ((sA s 23 (Int32.toNatClampNeg v3)) + (2 : Int32)))))))]) (st := []) ok_M_added rfl rfl rfl (Nat.le_of_ble_eq_true rfl) (Nat.le_of_ble_eq_true rfl) (c_M_added (d := d + 33) v9 (f_M_times v7 (f_M_realOf (sB s 26 (Int32.toNatClampNeg ((sA s 23 (Int32.toNatClampNeg v3)) + (2 : Int32))))))) ?_
      rintro _ _ ⟨rfl, rfl⟩
      show X _ _ 146 [some (.inr (.inr (some 21))), some (.inl v1), some (.inl v2), some (.inl v3), none, some (.inl v5), none, some (.inr (.inl v7)), none, some (.inr (.inl v9)), none] [.inr (.inl (f_M_added v9 (f_M_times v7 (f_M_realOf (sB s 26 (Int32.toNatClampNeg ((sA s 23 (Int32.toNatClampNeg v3)) + (2 : Int32))))))))] (hp s) _
      refine X_run 1 (i1 := 147) (L1 := [some (.inr (.inr (some 21))), some (.inl v1), some (.inl v2), some (.inl v3), none, some (.inl v5), none, some (.inr (.inl v7)), none, some (.inr (.inl (f_M_added v9 (f_M_times v7 (f_M_realOf (sB s 26 (Int32.toNatClampNeg ((sA s 23 (Int32.toNatClampNeg v3)) + (2 : Int32))))))))), none]) (st1 := []) rfl ?_
      refine X_mask [true, true, true, false, true, true, true, false, true, true, true] ?_
      exact ct_M_asks_147 fu s v1 v2 v5 (f_M_added v9 (f_M_times v7 (f_M_realOf (sB s 26 (Int32.toNatClampNeg ((sA s 23 (Int32.toNatClampNeg v3)) + (2 : Int32))))))) hw
def t_M_asks_100 (fu : Nat) (s : St) (v1 : Int32) (v2 : Int32) (v3 : Int32) (v5 : Int32) (w0 : Int32) : Int32 × St := (cond (cn1 .eq w0) (cond (cn1 .le v2) (t_M_asks_127 fu s v1 v2 v3 v5 (f_M_realOf (Int32.toInt64 (sA s 28 (Int32.toNatClampNeg (sA s 30 (Int32.toNatClampNeg (v1 + (3 : Int32)))))))) (sG s 21 29)) (t_M_asks_127 fu s v1 v2 v3 v5 (f_M_realOf (Int32.toInt64 (sA s 28 (Int32.toNatClampNeg (sA s 30 (Int32.toNatClampNeg (v1 + (3 : Int32)))))))) (f_M_times (f_M_realOf (Int32.toInt64 (sA s 28 (Int32.toNatClampNeg (sA s 30 (Int32.toNatClampNeg (v1 + (3 : Int32)))))))) (sG s 21 29)))) (w0, s))
def w_M_asks_100 (fu : Nat) (s : St) (v1 : Int32) (v2 : Int32) (v3 : Int32) (v5 : Int32) (w0 : Int32) : Prop := ((cn1 .eq w0) = true → (vp_in (v1 + (3 : Int32)) 3200 ∧ (vp_in (sA s 30 (Int32.toNatClampNeg (v1 + (3 : Int32)))) 8 ∧ ((cn1 .le v2) = true → (w_M_asks_127 fu s v1 v2 v3 v5 (f_M_realOf (Int32.toInt64 (sA s 28 (Int32.toNatClampNeg (sA s 30 (Int32.toNatClampNeg (v1 + (3 : Int32)))))))) (sG s 21 29))) ∧ ((cn1 .le v2) = false → (w_M_asks_127 fu s v1 v2 v3 v5 (f_M_realOf (Int32.toInt64 (sA s 28 (Int32.toNatClampNeg (sA s 30 (Int32.toNatClampNeg (v1 + (3 : Int32)))))))) (f_M_times (f_M_realOf (Int32.toInt64 (sA s 28 (Int32.toNatClampNeg (sA s 30 (Int32.toNatClampNeg (v1 + (3 : Int32)))))))) (sG s 21 29))))))) ∧ ((cn1 .eq w0) = false → True)
theorem ct_M_asks_100 {d : Nat} (fu : Nat) (s : St) (v1 : Int32) (v2 : Int32) (v3 : Int32) (v5 : Int32) (w0 : Int32) (hw : w_M_asks_100 fu s v1 v2 v3 v5 w0) : X m_M_asks (d + 37) 100 [some (.inr (.inr (some 21))), some (.inl v1), some (.inl v2), some (.inl v3), none, some (.inl v5), none, none, none, none, none] [.inl w0] (hp s) (qIs (t_M_asks_100 fu s v1 v2 v3 v5 w0)) := by
  unfold t_M_asks_100
  unfold w_M_asks_100 at hw
  refine X_run 3 (i1 := cond (cn1 .eq w0) 105 103) (L1 := [some (.inr (.inr (some 21))), some (.inl v1), some (.inl v2), some (.inl v3), none, some (.inl v5), some (.inl w0), none, none, none, none]) (st1 := []) rfl ?_
  refine X_brq (fun hb => ?_) (fun hb => ?_)
  · have hw := hw.1 hb
    refine X_run 1 (i1 := 106) (L1 := [some (.inr (.inr (some 21))), some (.inl v1), some (.inl v2), some (.inl v3), none, some (.inl v5), some (.inl w0), none, none, none, none]) (st1 := [.inr (.inr (some 21))]) rfl ?_
    refine X_gF (v := .inr (.inr (some 28))) rfl rfl rfl rfl ?_
    refine X_run 1 (i1 := 108) (L1 := [some (.inr (.inr (some 21))), some (.inl v1), some (.inl v2), some (.inl v3), none, some (.inl v5), some (.inl w0), none, none, none, none]) (st1 := [.inr (.inr (some 21)), .inr (.inr (some 28))]) rfl ?_
    refine X_gF (v := .inr (.inr (some 30))) rfl rfl rfl rfl ?_
    refine X_run 3 (i1 := 112) (L1 := [some (.inr (.inr (some 21))), some (.inl v1), some (.inl v2), some (.inl v3), none, some (.inl v5), some (.inl w0), none, none, none, none]) (st1 := [.inl (v1 + (3 : Int32)), .inr (.inr (some 30)), .inr (.inr (some 28))]) rfl ?_
    obtain ⟨hin, hw⟩ := hw
    refine X_aI rfl rfl hin ?_
    show X _ _ 113 [some (.inr (.inr (some 21))), some (.inl v1), some (.inl v2), some (.inl v3), none, some (.inl v5), some (.inl w0), none, none, none, none] [.inl (sA s 30 (Int32.toNatClampNeg (v1 + (3 : Int32)))), .inr (.inr (some 28))] (hp s) _
    obtain ⟨hin, hw⟩ := hw
    refine X_aI rfl rfl hin ?_
    show X _ _ 114 [some (.inr (.inr (some 21))), some (.inl v1), some (.inl v2), some (.inl v3), none, some (.inl v5), some (.inl w0), none, none, none, none] [.inl (sA s 28 (Int32.toNatClampNeg (sA s 30 (Int32.toNatClampNeg (v1 + (3 : Int32))))))] (hp s) _
    refine X_run 1 (i1 := 115) (L1 := [some (.inr (.inr (some 21))), some (.inl v1), some (.inl v2), some (.inl v3), none, some (.inl v5), some (.inl w0), none, none, none, none]) (st1 := [.inr (.inl (Int32.toInt64 (sA s 28 (Int32.toNatClampNeg (sA s 30 (Int32.toNatClampNeg (v1 + (3 : Int32))))))))]) rfl ?_
    refine X_calls m_M_realOf (As := [.inr (.inl (Int32.toInt64 (sA s 28 (Int32.toNatClampNeg (sA s 30 (Int32.toNatClampNeg (v1 + (3 : Int32))))))))]) (st := []) ok_M_realOf rfl rfl rfl (Nat.le_of_ble_eq_true rfl) (Nat.le_of_ble_eq_true rfl) (c_M_realOf (d := d + 33) (Int32.toInt64 (sA s 28 (Int32.toNatClampNeg (sA s 30 (Int32.toNatClampNeg (v1 + (3 : Int32)))))))) ?_
    rintro _ _ ⟨rfl, rfl⟩
    show X _ _ 116 [some (.inr (.inr (some 21))), some (.inl v1), some (.inl v2), some (.inl v3), none, some (.inl v5), some (.inl w0), none, none, none, none] [.inr (.inl (f_M_realOf (Int32.toInt64 (sA s 28 (Int32.toNatClampNeg (sA s 30 (Int32.toNatClampNeg (v1 + (3 : Int32)))))))))] (hp s) _
    refine X_run 2 (i1 := 118) (L1 := [some (.inr (.inr (some 21))), some (.inl v1), some (.inl v2), some (.inl v3), none, some (.inl v5), some (.inl w0), some (.inr (.inl (f_M_realOf (Int32.toInt64 (sA s 28 (Int32.toNatClampNeg (sA s 30 (Int32.toNatClampNeg (v1 + (3 : Int32)))))))))), none, none, none]) (st1 := [.inr (.inr (some 21))]) rfl ?_
    refine X_gF (v := .inr (.inl (sG s 21 29))) rfl rfl rfl rfl ?_
    refine X_run 3 (i1 := cond (cn1 .le v2) 127 122) (L1 := [some (.inr (.inr (some 21))), some (.inl v1), some (.inl v2), some (.inl v3), none, some (.inl v5), some (.inl w0), some (.inr (.inl (f_M_realOf (Int32.toInt64 (sA s 28 (Int32.toNatClampNeg (sA s 30 (Int32.toNatClampNeg (v1 + (3 : Int32)))))))))), none, some (.inr (.inl (sG s 21 29))), none]) (st1 := []) rfl ?_
    refine X_brq (fun hb => ?_) (fun hb => ?_)
    · have hw := hw.1 hb
      refine X_mask [true, true, true, true, true, true, false, true, true, true, true] ?_
      exact ct_M_asks_127 fu s v1 v2 v3 v5 (f_M_realOf (Int32.toInt64 (sA s 28 (Int32.toNatClampNeg (sA s 30 (Int32.toNatClampNeg (v1 + (3 : Int32)))))))) (sG s 21 29) hw
    · have hw := hw.2 hb
      refine X_run 2 (i1 := 124) (L1 := [some (.inr (.inr (some 21))), some (.inl v1), some (.inl v2), some (.inl v3), none, some (.inl v5), some (.inl w0), some (.inr (.inl (f_M_realOf (Int32.toInt64 (sA s 28 (Int32.toNatClampNeg (sA s 30 (Int32.toNatClampNeg (v1 + (3 : Int32)))))))))), none, some (.inr (.inl (sG s 21 29))), none]) (st1 := [.inr (.inr (some 21)), .inr (.inl (f_M_realOf (Int32.toInt64 (sA s 28 (Int32.toNatClampNeg (sA s 30 (Int32.toNatClampNeg (v1 + (3 : Int32)))))))))]) rfl ?_
      refine X_gF (v := .inr (.inl (sG s 21 29))) rfl rfl rfl rfl ?_
      refine X_calls m_M_times (As := [.inr (.inl (f_M_realOf (Int32.toInt64 (sA s 28 (Int32.toNatClampNeg (sA s 30 (Int32.toNatClampNeg (v1 + (3 : Int32))))))))), .inr (.inl (sG s 21 29))]) (st := []) ok_M_times rfl rfl rfl (Nat.le_of_ble_eq_true rfl) (Nat.le_of_ble_eq_true rfl) (c_M_times (d := d + 33) (f_M_realOf (Int32.toInt64 (sA s 28 (Int32.toNatClampNeg (sA s 30 (Int32.toNatClampNeg (v1 + (3 : Int32)))))))) (sG s 21 29)) ?_
      rintro _ _ ⟨rfl, rfl⟩
      show X _ _ 126 [some (.inr (.inr (some 21))), some (.inl v1), some (.inl v2), some (.inl v3), none, some (.inl v5), some (.inl w0), some (.inr (.inl (f_M_realOf (Int32.toInt64 (sA s 28 (Int32.toNatClampNeg (sA s 30 (Int32.toNatClampNeg (v1 + (3 : Int32)))))))))), none, some (.inr (.inl (sG s 21 29))), none] [.inr (.inl (f_M_times (f_M_realOf (Int32.toInt64 (sA s 28 (Int32.toNatClampNeg (sA s 30 (Int32.toNatClampNeg (v1 + (3 : Int32)))))))) (sG s 21 29)))] (hp s) _
      refine X_run 1 (i1 := 127) (L1 := [some (.inr (.inr (some 21))), some (.inl v1), some (.inl v2), some (.inl v3), none, some (.inl v5), some (.inl w0), some (.inr (.inl (f_M_realOf (Int32.toInt64 (sA s 28 (Int32.toNatClampNeg (sA s 30 (Int32.toNatClampNeg (v1 + (3 : Int32)))))))))), none, some (.inr (.inl (f_M_times (f_M_realOf (Int32.toInt64 (sA s 28 (Int32.toNatClampNeg (sA s 30 (Int32.toNatClampNeg (v1 + (3 : Int32)))))))) (sG s 21 29)))), none]) (st1 := []) rfl ?_
      refine X_mask [true, true, true, true, true, true, false, true, true, true, true] ?_
      exact ct_M_asks_127 fu s v1 v2 v3 v5 (f_M_realOf (Int32.toInt64 (sA s 28 (Int32.toNatClampNeg (sA s 30 (Int32.toNatClampNeg (v1 + (3 : Int32)))))))) (f_M_times (f_M_realOf (Int32.toInt64 (sA s 28 (Int32.toNatClampNeg (sA s 30 (Int32.toNatClampNeg (v1 + (3 : Int32)))))))) (sG s 21 29)) hw
  · skip
    refine X_run 1 (i1 := 104) (L1 := [some (.inr (.inr (some 21))), some (.inl v1), some (.inl v2), some (.inl v3), none, some (.inl v5), some (.inl w0), none, none, none, none]) (st1 := [.inl w0]) rfl ?_
    exact X_iret rfl rfl qIs_i
def t_M_asks_92 (fu : Nat) (s : St) (w0 : Int64) (w1 : Int32) : Int32 × St := ((0 : Int32), pB s 29 (vp_updL (sB s 29) (Int32.toNatClampNeg w1) (f_M_realOf w0)))
def w_M_asks_92 (fu : Nat) (s : St) (w0 : Int64) (w1 : Int32) : Prop := (vp_in w1 4 ∧ True)
theorem ct_M_asks_92 {d : Nat} (fu : Nat) (s : St) (w0 : Int64) (w1 : Int32) (hw : w_M_asks_92 fu s w0 w1) : X m_M_asks (d + 37) 92 [none, none, none, none, none, none, none, none, none, none, none] [.inr (.inl w0), .inl w1, .inr (.inr (some 29))] (hp s) (qIs (t_M_asks_92 fu s w0 w1)) := by
  unfold t_M_asks_92
  unfold w_M_asks_92 at hw
  refine X_calls m_M_realOf (As := [.inr (.inl w0)]) (st := [.inl w1, .inr (.inr (some 29))]) ok_M_realOf rfl rfl rfl (Nat.le_of_ble_eq_true rfl) (Nat.le_of_ble_eq_true rfl) (c_M_realOf (d := d + 33) w0) ?_
  rintro _ _ ⟨rfl, rfl⟩
  show X _ _ 93 [none, none, none, none, none, none, none, none, none, none, none] [.inr (.inl (f_M_realOf w0)), .inl w1, .inr (.inr (some 29))] (hp s) _
  obtain ⟨hin, hw⟩ := hw
  refine X_sL rfl rfl hin ?_
  show X _ _ 94 [none, none, none, none, none, none, none, none, none, none, none] [] (hp (pB s 29 (vp_updL (sB s 29) (Int32.toNatClampNeg w1) (f_M_realOf w0)))) _
  refine X_run 1 (i1 := 95) (L1 := [none, none, none, none, none, none, none, none, none, none, none]) (st1 := [.inl (0 : Int32)]) rfl ?_
  exact X_iret rfl rfl qIs_i
def t_M_asks_79 (fu : Nat) (s : St) (w0 : Int32) : Int32 × St := (t_M_asks_92 fu s (1 : Int64) w0)
def w_M_asks_79 (fu : Nat) (s : St) (w0 : Int32) : Prop := (w_M_asks_92 fu s (1 : Int64) w0)
theorem ct_M_asks_79 {d : Nat} (fu : Nat) (s : St) (w0 : Int32) (hw : w_M_asks_79 fu s w0) : X m_M_asks (d + 37) 79 [none, none, none, none, none, none, none, none, none, none, none] [.inl w0, .inr (.inr (some 29))] (hp s) (qIs (t_M_asks_79 fu s w0)) := by
  unfold t_M_asks_79
  unfold w_M_asks_79 at hw
  refine X_run 2 (i1 := 92) (L1 := [none, none, none, none, none, none, none, none, none, none, none]) (st1 := [.inr (.inl (1 : Int64)), .inl w0, .inr (.inr (some 29))]) rfl ?_
  exact ct_M_asks_92 fu s (1 : Int64) w0 hw
def t_M_asks_49 (fu : Nat) (s : St) (v1 : Int32) (v2 : Int32) (v3 : Int32) (w0 : Int32) : Int32 × St := (cond (cn1 .ne w0) (cond (cn2 .ne v2 (5 : Int32)) (t_M_asks_100 fu (((F_weighs fu 32) s v3 (1 : Int32)).2) v1 v2 v3 ((sA s 22 (Int32.toNatClampNeg v3)) - (11 : Int32)) (((F_weighs fu 32) s v3 (1 : Int32)).1)) (cond (cn1 .eq ((sA s 22 (Int32.toNatClampNeg v3)) - (11 : Int32))) (t_M_asks_79 fu s (sA s 30 (Int32.toNatClampNeg (v1 + (1 : Int32))))) (cond (cn2 .ne ((sA s 22 (Int32.toNatClampNeg v3)) - (11 : Int32)) (3 : Int32)) (cond (cn2 .ne ((sA s 22 (Int32.toNatClampNeg v3)) - (11 : Int32)) (1 : Int32)) (cond (cn2 .ne ((sA s 22 (Int32.toNatClampNeg v3)) - (11 : Int32)) (2 : Int32)) (t_M_asks_92 fu s (51 : Int64) (sA s 30 (Int32.toNatClampNeg (v1 + (1 : Int32))))) (t_M_asks_92 fu s (123 : Int64) (sA s 30 (Int32.toNatClampNeg (v1 + (1 : Int32)))))) (t_M_asks_92 fu s (12 : Int64) (sA s 30 (Int32.toNatClampNeg (v1 + (1 : Int32)))))) (t_M_asks_79 fu s (sA s 30 (Int32.toNatClampNeg (v1 + (1 : Int32)))))))) (f_M_fails s (4 : Int32)))
def w_M_asks_49 (fu : Nat) (s : St) (v1 : Int32) (v2 : Int32) (v3 : Int32) (w0 : Int32) : Prop := ((cn1 .ne w0) = true → (vp_in v3 40001 ∧ ((cn2 .ne v2 (5 : Int32)) = true → ((W_weighs fu 32) s v3 (1 : Int32) ∧ (w_M_asks_100 fu (((F_weighs fu 32) s v3 (1 : Int32)).2) v1 v2 v3 ((sA s 22 (Int32.toNatClampNeg v3)) - (11 : Int32)) (((F_weighs fu 32) s v3 (1 : Int32)).1)))) ∧ ((cn2 .ne v2 (5 : Int32)) = false → (vp_in (v1 + (1 : Int32)) 3200 ∧ ((cn1 .eq ((sA s 22 (Int32.toNatClampNeg v3)) - (11 : Int32))) = true → (w_M_asks_79 fu s (sA s 30 (Int32.toNatClampNeg (v1 + (1 : Int32)))))) ∧ ((cn1 .eq ((sA s 22 (Int32.toNatClampNeg v3)) - (11 : Int32))) = false → ((cn2 .ne ((sA s 22 (Int32.toNatClampNeg v3)) - (11 : Int32)) (3 : Int32)) = true → ((cn2 .ne ((sA s 22 (Int32.toNatClampNeg v3)) - (11 : Int32)) (1 : Int32)) = true → ((cn2 .ne ((sA s 22 (Int32.toNatClampNeg v3)) - (11 : Int32)) (2 : Int32)) = true → (w_M_asks_92 fu s (51 : Int64) (sA s 30 (Int32.toNatClampNeg (v1 + (1 : Int32)))))) ∧ ((cn2 .ne ((sA s 22 (Int32.toNatClampNeg v3)) - (11 : Int32)) (2 : Int32)) = false → (w_M_asks_92 fu s (123 : Int64) (sA s 30 (Int32.toNatClampNeg (v1 + (1 : Int32))))))) ∧ ((cn2 .ne ((sA s 22 (Int32.toNatClampNeg v3)) - (11 : Int32)) (1 : Int32)) = false → (w_M_asks_92 fu s (12 : Int64) (sA s 30 (Int32.toNatClampNeg (v1 + (1 : Int32))))))) ∧ ((cn2 .ne ((sA s 22 (Int32.toNatClampNeg v3)) - (11 : Int32)) (3 : Int32)) = false → (w_M_asks_79 fu s (sA s 30 (Int32.toNatClampNeg (v1 + (1 : Int32))))))))))) ∧ ((cn1 .ne w0) = false → (w_M_fails s (4 : Int32) ∧ True))
theorem ct_M_asks_49 {d : Nat} (fu : Nat) (s : St) (v1 : Int32) (v2 : Int32) (v3 : Int32) (w0 : Int32) (hw : w_M_asks_49 fu s v1 v2 v3 w0) : X m_M_asks (d + 37) 49 [some (.inr (.inr (some 21))), some (.inl v1), some (.inl v2), some (.inl v3), none, none, none, none, none, none, none] [.inl w0] (hp s) (qIs (t_M_asks_49 fu s v1 v2 v3 w0)) := by
  unfold t_M_asks_49
  unfold w_M_asks_49 at hw
  refine X_run 3 (i1 := cond (cn1 .ne w0) 56 52) (L1 := [some (.inr (.inr (some 21))), some (.inl v1), some (.inl v2), some (.inl v3), some (.inl w0), none, none, none, none, none, none]) (st1 := []) rfl ?_
  refine X_brq (fun hb => ?_) (fun hb => ?_)
  · have hw := hw.1 hb
    refine X_run 1 (i1 := 57) (L1 := [some (.inr (.inr (some 21))), some (.inl v1), some (.inl v2), some (.inl v3), some (.inl w0), none, none, none, none, none, none]) (st1 := [.inr (.inr (some 21))]) rfl ?_
    refine X_gF (v := .inr (.inr (some 22))) rfl rfl rfl rfl ?_
    refine X_run 1 (i1 := 59) (L1 := [some (.inr (.inr (some 21))), some (.inl v1), some (.inl v2), some (.inl v3), some (.inl w0), none, none, none, none, none, none]) (st1 := [.inl v3, .inr (.inr (some 22))]) rfl ?_
    obtain ⟨hin, hw⟩ := hw
    refine X_aI rfl rfl hin ?_
    show X _ _ 60 [some (.inr (.inr (some 21))), some (.inl v1), some (.inl v2), some (.inl v3), some (.inl w0), none, none, none, none, none, none] [.inl (sA s 22 (Int32.toNatClampNeg v3))] (hp s) _
    refine X_run 6 (i1 := cond (cn2 .ne v2 (5 : Int32)) 96 66) (L1 := [some (.inr (.inr (some 21))), some (.inl v1), some (.inl v2), some (.inl v3), some (.inl w0), some (.inl ((sA s 22 (Int32.toNatClampNeg v3)) - (11 : Int32))), none, none, none, none, none]) (st1 := []) rfl ?_
    refine X_brq (fun hb => ?_) (fun hb => ?_)
    · have hw := hw.1 hb
      refine X_run 3 (i1 := 99) (L1 := [some (.inr (.inr (some 21))), some (.inl v1), some (.inl v2), some (.inl v3), some (.inl w0), some (.inl ((sA s 22 (Int32.toNatClampNeg v3)) - (11 : Int32))), none, none, none, none, none]) (st1 := [.inl (1 : Int32), .inl v3, .inr (.inr (some 21))]) rfl ?_
      obtain ⟨hc, hw⟩ := hw
      refine X_callv m_M_weighs (As := [.inl v3, .inl (1 : Int32)]) (st := []) ok_M_weighs rfl rfl rfl (hp_obj rfl) rfl (Nat.le_of_ble_eq_true rfl) (Nat.le_of_ble_eq_true rfl) ((cF_weighs fu 32 (d)) s v3 (1 : Int32) hc) ?_
      rintro _ _ ⟨rfl, rfl⟩
      show X _ _ 100 [some (.inr (.inr (some 21))), some (.inl v1), some (.inl v2), some (.inl v3), some (.inl w0), some (.inl ((sA s 22 (Int32.toNatClampNeg v3)) - (11 : Int32))), none, none, none, none, none] [.inl (((F_weighs fu 32) s v3 (1 : Int32)).1)] (hp (((F_weighs fu 32) s v3 (1 : Int32)).2)) _
      show X _ _ 100 [some (.inr (.inr (some 21))), some (.inl v1), some (.inl v2), some (.inl v3), some (.inl w0), some (.inl ((sA s 22 (Int32.toNatClampNeg v3)) - (11 : Int32))), none, none, none, none, none] [.inl (((F_weighs fu 32) s v3 (1 : Int32)).1)] (hp (((F_weighs fu 32) s v3 (1 : Int32)).2)) _
      refine X_mask [true, true, true, true, false, true, true, true, true, true, true] ?_
      exact ct_M_asks_100 fu (((F_weighs fu 32) s v3 (1 : Int32)).2) v1 v2 v3 ((sA s 22 (Int32.toNatClampNeg v3)) - (11 : Int32)) (((F_weighs fu 32) s v3 (1 : Int32)).1) hw
    · have hw := hw.2 hb
      refine X_run 1 (i1 := 67) (L1 := [some (.inr (.inr (some 21))), some (.inl v1), some (.inl v2), some (.inl v3), some (.inl w0), some (.inl ((sA s 22 (Int32.toNatClampNeg v3)) - (11 : Int32))), none, none, none, none, none]) (st1 := [.inr (.inr (some 21))]) rfl ?_
      refine X_gF (v := .inr (.inr (some 29))) rfl rfl rfl rfl ?_
      refine X_run 1 (i1 := 69) (L1 := [some (.inr (.inr (some 21))), some (.inl v1), some (.inl v2), some (.inl v3), some (.inl w0), some (.inl ((sA s 22 (Int32.toNatClampNeg v3)) - (11 : Int32))), none, none, none, none, none]) (st1 := [.inr (.inr (some 21)), .inr (.inr (some 29))]) rfl ?_
      refine X_gF (v := .inr (.inr (some 30))) rfl rfl rfl rfl ?_
      refine X_run 3 (i1 := 73) (L1 := [some (.inr (.inr (some 21))), some (.inl v1), some (.inl v2), some (.inl v3), some (.inl w0), some (.inl ((sA s 22 (Int32.toNatClampNeg v3)) - (11 : Int32))), none, none, none, none, none]) (st1 := [.inl (v1 + (1 : Int32)), .inr (.inr (some 30)), .inr (.inr (some 29))]) rfl ?_
      obtain ⟨hin, hw⟩ := hw
      refine X_aI rfl rfl hin ?_
      show X _ _ 74 [some (.inr (.inr (some 21))), some (.inl v1), some (.inl v2), some (.inl v3), some (.inl w0), some (.inl ((sA s 22 (Int32.toNatClampNeg v3)) - (11 : Int32))), none, none, none, none, none] [.inl (sA s 30 (Int32.toNatClampNeg (v1 + (1 : Int32)))), .inr (.inr (some 29))] (hp s) _
      refine X_run 2 (i1 := cond (cn1 .eq ((sA s 22 (Int32.toNatClampNeg v3)) - (11 : Int32))) 79 76) (L1 := [some (.inr (.inr (some 21))), some (.inl v1), some (.inl v2), some (.inl v3), some (.inl w0), some (.inl ((sA s 22 (Int32.toNatClampNeg v3)) - (11 : Int32))), none, none, none, none, none]) (st1 := [.inl (sA s 30 (Int32.toNatClampNeg (v1 + (1 : Int32)))), .inr (.inr (some 29))]) rfl ?_
      refine X_brq (fun hb => ?_) (fun hb => ?_)
      · have hw := hw.1 hb
        refine X_mask [false, false, false, false, false, false, true, true, true, true, true] ?_
        exact ct_M_asks_79 fu s (sA s 30 (Int32.toNatClampNeg (v1 + (1 : Int32)))) hw
      · have hw := hw.2 hb
        refine X_run 3 (i1 := cond (cn2 .ne ((sA s 22 (Int32.toNatClampNeg v3)) - (11 : Int32)) (3 : Int32)) 81 79) (L1 := [some (.inr (.inr (some 21))), some (.inl v1), some (.inl v2), some (.inl v3), some (.inl w0), some (.inl ((sA s 22 (Int32.toNatClampNeg v3)) - (11 : Int32))), none, none, none, none, none]) (st1 := [.inl (sA s 30 (Int32.toNatClampNeg (v1 + (1 : Int32)))), .inr (.inr (some 29))]) rfl ?_
        refine X_brq (fun hb => ?_) (fun hb => ?_)
        · have hw := hw.1 hb
          refine X_run 3 (i1 := cond (cn2 .ne ((sA s 22 (Int32.toNatClampNeg v3)) - (11 : Int32)) (1 : Int32)) 86 84) (L1 := [some (.inr (.inr (some 21))), some (.inl v1), some (.inl v2), some (.inl v3), some (.inl w0), some (.inl ((sA s 22 (Int32.toNatClampNeg v3)) - (11 : Int32))), none, none, none, none, none]) (st1 := [.inl (sA s 30 (Int32.toNatClampNeg (v1 + (1 : Int32)))), .inr (.inr (some 29))]) rfl ?_
          refine X_brq (fun hb => ?_) (fun hb => ?_)
          · have hw := hw.1 hb
            refine X_run 3 (i1 := cond (cn2 .ne ((sA s 22 (Int32.toNatClampNeg v3)) - (11 : Int32)) (2 : Int32)) 91 89) (L1 := [some (.inr (.inr (some 21))), some (.inl v1), some (.inl v2), some (.inl v3), some (.inl w0), some (.inl ((sA s 22 (Int32.toNatClampNeg v3)) - (11 : Int32))), none, none, none, none, none]) (st1 := [.inl (sA s 30 (Int32.toNatClampNeg (v1 + (1 : Int32)))), .inr (.inr (some 29))]) rfl ?_
            refine X_brq (fun hb => ?_) (fun hb => ?_)
            · have hw := hw.1 hb
              refine X_run 1 (i1 := 92) (L1 := [some (.inr (.inr (some 21))), some (.inl v1), some (.inl v2), some (.inl v3), some (.inl w0), some (.inl ((sA s 22 (Int32.toNatClampNeg v3)) - (11 : Int32))), none, none, none, none, none]) (st1 := [.inr (.inl (51 : Int64)), .inl (sA s 30 (Int32.toNatClampNeg (v1 + (1 : Int32)))), .inr (.inr (some 29))]) rfl ?_
              refine X_mask [false, false, false, false, false, false, true, true, true, true, true] ?_
              exact ct_M_asks_92 fu s (51 : Int64) (sA s 30 (Int32.toNatClampNeg (v1 + (1 : Int32)))) hw
            · have hw := hw.2 hb
              refine X_run 2 (i1 := 92) (L1 := [some (.inr (.inr (some 21))), some (.inl v1), some (.inl v2), some (.inl v3), some (.inl w0), some (.inl ((sA s 22 (Int32.toNatClampNeg v3)) - (11 : Int32))), none, none, none, none, none]) (st1 := [.inr (.inl (123 : Int64)), .inl (sA s 30 (Int32.toNatClampNeg (v1 + (1 : Int32)))), .inr (.inr (some 29))]) rfl ?_
              refine X_mask [false, false, false, false, false, false, true, true, true, true, true] ?_
              exact ct_M_asks_92 fu s (123 : Int64) (sA s 30 (Int32.toNatClampNeg (v1 + (1 : Int32)))) hw
          · have hw := hw.2 hb
            refine X_run 2 (i1 := 92) (L1 := [some (.inr (.inr (some 21))), some (.inl v1), some (.inl v2), some (.inl v3), some (.inl w0), some (.inl ((sA s 22 (Int32.toNatClampNeg v3)) - (11 : Int32))), none, none, none, none, none]) (st1 := [.inr (.inl (12 : Int64)), .inl (sA s 30 (Int32.toNatClampNeg (v1 + (1 : Int32)))), .inr (.inr (some 29))]) rfl ?_
            refine X_mask [false, false, false, false, false, false, true, true, true, true, true] ?_
            exact ct_M_asks_92 fu s (12 : Int64) (sA s 30 (Int32.toNatClampNeg (v1 + (1 : Int32)))) hw
        · have hw := hw.2 hb
          refine X_mask [false, false, false, false, false, false, true, true, true, true, true] ?_
          exact ct_M_asks_79 fu s (sA s 30 (Int32.toNatClampNeg (v1 + (1 : Int32)))) hw
  · have hw := hw.2 hb
    refine X_run 2 (i1 := 54) (L1 := [some (.inr (.inr (some 21))), some (.inl v1), some (.inl v2), some (.inl v3), some (.inl w0), none, none, none, none, none, none]) (st1 := [.inl (4 : Int32), .inr (.inr (some 21))]) rfl ?_
    obtain ⟨hc, hw⟩ := hw
    refine X_callv m_M_fails (As := [.inl (4 : Int32)]) (st := []) ok_M_fails rfl rfl rfl (hp_obj rfl) rfl (Nat.le_of_ble_eq_true rfl) (Nat.le_of_ble_eq_true rfl) (c_M_fails (d := d + 34) s (4 : Int32) hc) ?_
    rintro _ _ ⟨rfl, rfl⟩
    show X _ _ 55 [some (.inr (.inr (some 21))), some (.inl v1), some (.inl v2), some (.inl v3), some (.inl w0), none, none, none, none, none, none] [.inl ((f_M_fails s (4 : Int32)).1)] (hp ((f_M_fails s (4 : Int32)).2)) _
    exact X_iret rfl rfl qIs_p
def t_M_asks_48 (fu : Nat) (s : St) (v1 : Int32) (v2 : Int32) (v3 : Int32) (w0 : Int32) (w1 : Int32) : Int32 × St := (t_M_asks_49 fu s v1 v2 v3 (b2i (f_M_is s w1 w0)))
def w_M_asks_48 (fu : Nat) (s : St) (v1 : Int32) (v2 : Int32) (v3 : Int32) (w0 : Int32) (w1 : Int32) : Prop := (w_M_is s w1 w0 ∧ (w_M_asks_49 fu s v1 v2 v3 (b2i (f_M_is s w1 w0))))
theorem ct_M_asks_48 {d : Nat} (fu : Nat) (s : St) (v1 : Int32) (v2 : Int32) (v3 : Int32) (w0 : Int32) (w1 : Int32) (hw : w_M_asks_48 fu s v1 v2 v3 w0 w1) : X m_M_asks (d + 37) 48 [some (.inr (.inr (some 21))), some (.inl v1), some (.inl v2), some (.inl v3), none, none, none, none, none, none, none] [.inl w0, .inl w1, .inr (.inr (some 21))] (hp s) (qIs (t_M_asks_48 fu s v1 v2 v3 w0 w1)) := by
  unfold t_M_asks_48
  unfold w_M_asks_48 at hw
  obtain ⟨hc, hw⟩ := hw
  refine X_callv m_M_is (As := [.inl w1, .inl w0]) (st := []) ok_M_is rfl rfl rfl (hp_obj rfl) rfl (Nat.le_of_ble_eq_true rfl) (Nat.le_of_ble_eq_true rfl) (c_M_is (d := d + 35) s w1 w0 hc) ?_
  rintro _ _ ⟨rfl, rfl⟩
  show X _ _ 49 [some (.inr (.inr (some 21))), some (.inl v1), some (.inl v2), some (.inl v3), none, none, none, none, none, none, none] [.inl (b2i (f_M_is s w1 w0))] (hp s) _
  show X _ _ 49 [some (.inr (.inr (some 21))), some (.inl v1), some (.inl v2), some (.inl v3), none, none, none, none, none, none, none] [.inl (b2i (f_M_is s w1 w0))] (hp s) _
  exact ct_M_asks_49 fu s v1 v2 v3 (b2i (f_M_is s w1 w0)) hw
def t_M_asks_26 (fu : Nat) (s : St) (v1 : Int32) (v2 : Int32) (v3 : Int32) : Int32 × St := (t_M_asks_49 fu s v1 v2 v3 (b2i (f_M_isPart s v3)))
def w_M_asks_26 (fu : Nat) (s : St) (v1 : Int32) (v2 : Int32) (v3 : Int32) : Prop := (w_M_isPart s v3 ∧ (w_M_asks_49 fu s v1 v2 v3 (b2i (f_M_isPart s v3))))
theorem ct_M_asks_26 {d : Nat} (fu : Nat) (s : St) (v1 : Int32) (v2 : Int32) (v3 : Int32) (hw : w_M_asks_26 fu s v1 v2 v3) : X m_M_asks (d + 37) 26 [some (.inr (.inr (some 21))), some (.inl v1), some (.inl v2), some (.inl v3), none, none, none, none, none, none, none] [] (hp s) (qIs (t_M_asks_26 fu s v1 v2 v3)) := by
  unfold t_M_asks_26
  unfold w_M_asks_26 at hw
  refine X_run 2 (i1 := 28) (L1 := [some (.inr (.inr (some 21))), some (.inl v1), some (.inl v2), some (.inl v3), none, none, none, none, none, none, none]) (st1 := [.inl v3, .inr (.inr (some 21))]) rfl ?_
  obtain ⟨hc, hw⟩ := hw
  refine X_callv m_M_isPart (As := [.inl v3]) (st := []) ok_M_isPart rfl rfl rfl (hp_obj rfl) rfl (Nat.le_of_ble_eq_true rfl) (Nat.le_of_ble_eq_true rfl) (c_M_isPart (d := d + 36) s v3 hc) ?_
  rintro _ _ ⟨rfl, rfl⟩
  show X _ _ 29 [some (.inr (.inr (some 21))), some (.inl v1), some (.inl v2), some (.inl v3), none, none, none, none, none, none, none] [.inl (b2i (f_M_isPart s v3))] (hp s) _
  refine X_run 1 (i1 := 49) (L1 := [some (.inr (.inr (some 21))), some (.inl v1), some (.inl v2), some (.inl v3), none, none, none, none, none, none, none]) (st1 := [.inl (b2i (f_M_isPart s v3))]) rfl ?_
  exact ct_M_asks_49 fu s v1 v2 v3 (b2i (f_M_isPart s v3)) hw
def f_M_asks (fu : Nat) (s : St) (a0 : Int32) : Int32 × St := (cond (cn1 .ne (sA s 27 (Int32.toNatClampNeg (sA s 30 (Int32.toNatClampNeg (a0 + (2 : Int32))))))) (cond (cn1 .eq (sA s 30 (Int32.toNatClampNeg a0))) (t_M_asks_26 fu s a0 (sA s 30 (Int32.toNatClampNeg a0)) (sA s 27 (Int32.toNatClampNeg (sA s 30 (Int32.toNatClampNeg (a0 + (2 : Int32))))))) (cond (cn2 .ne (sA s 30 (Int32.toNatClampNeg a0)) (5 : Int32)) (cond (cn2 .ne (sA s 30 (Int32.toNatClampNeg a0)) (1 : Int32)) (cond (cn2 .ne (sA s 30 (Int32.toNatClampNeg a0)) (2 : Int32)) (cond (cn2 .ne (sA s 30 (Int32.toNatClampNeg a0)) (3 : Int32)) (t_M_asks_48 fu s a0 (sA s 30 (Int32.toNatClampNeg a0)) (sA s 27 (Int32.toNatClampNeg (sA s 30 (Int32.toNatClampNeg (a0 + (2 : Int32)))))) (14 : Int32) (sA s 27 (Int32.toNatClampNeg (sA s 30 (Int32.toNatClampNeg (a0 + (2 : Int32))))))) (t_M_asks_48 fu s a0 (sA s 30 (Int32.toNatClampNeg a0)) (sA s 27 (Int32.toNatClampNeg (sA s 30 (Int32.toNatClampNeg (a0 + (2 : Int32)))))) (12 : Int32) (sA s 27 (Int32.toNatClampNeg (sA s 30 (Int32.toNatClampNeg (a0 + (2 : Int32)))))))) (t_M_asks_48 fu s a0 (sA s 30 (Int32.toNatClampNeg a0)) (sA s 27 (Int32.toNatClampNeg (sA s 30 (Int32.toNatClampNeg (a0 + (2 : Int32)))))) (18 : Int32) (sA s 27 (Int32.toNatClampNeg (sA s 30 (Int32.toNatClampNeg (a0 + (2 : Int32)))))))) (t_M_asks_48 fu s a0 (sA s 30 (Int32.toNatClampNeg a0)) (sA s 27 (Int32.toNatClampNeg (sA s 30 (Int32.toNatClampNeg (a0 + (2 : Int32)))))) (17 : Int32) (sA s 27 (Int32.toNatClampNeg (sA s 30 (Int32.toNatClampNeg (a0 + (2 : Int32)))))))) (t_M_asks_26 fu s a0 (sA s 30 (Int32.toNatClampNeg a0)) (sA s 27 (Int32.toNatClampNeg (sA s 30 (Int32.toNatClampNeg (a0 + (2 : Int32))))))))) (f_M_fails s (1 : Int32)))
def w_M_asks (fu : Nat) (s : St) (a0 : Int32) : Prop := (vp_in a0 3200 ∧ (vp_in (a0 + (2 : Int32)) 3200 ∧ (vp_in (sA s 30 (Int32.toNatClampNeg (a0 + (2 : Int32)))) 16 ∧ ((cn1 .ne (sA s 27 (Int32.toNatClampNeg (sA s 30 (Int32.toNatClampNeg (a0 + (2 : Int32))))))) = true → ((cn1 .eq (sA s 30 (Int32.toNatClampNeg a0))) = true → (w_M_asks_26 fu s a0 (sA s 30 (Int32.toNatClampNeg a0)) (sA s 27 (Int32.toNatClampNeg (sA s 30 (Int32.toNatClampNeg (a0 + (2 : Int32)))))))) ∧ ((cn1 .eq (sA s 30 (Int32.toNatClampNeg a0))) = false → ((cn2 .ne (sA s 30 (Int32.toNatClampNeg a0)) (5 : Int32)) = true → ((cn2 .ne (sA s 30 (Int32.toNatClampNeg a0)) (1 : Int32)) = true → ((cn2 .ne (sA s 30 (Int32.toNatClampNeg a0)) (2 : Int32)) = true → ((cn2 .ne (sA s 30 (Int32.toNatClampNeg a0)) (3 : Int32)) = true → (w_M_asks_48 fu s a0 (sA s 30 (Int32.toNatClampNeg a0)) (sA s 27 (Int32.toNatClampNeg (sA s 30 (Int32.toNatClampNeg (a0 + (2 : Int32)))))) (14 : Int32) (sA s 27 (Int32.toNatClampNeg (sA s 30 (Int32.toNatClampNeg (a0 + (2 : Int32)))))))) ∧ ((cn2 .ne (sA s 30 (Int32.toNatClampNeg a0)) (3 : Int32)) = false → (w_M_asks_48 fu s a0 (sA s 30 (Int32.toNatClampNeg a0)) (sA s 27 (Int32.toNatClampNeg (sA s 30 (Int32.toNatClampNeg (a0 + (2 : Int32)))))) (12 : Int32) (sA s 27 (Int32.toNatClampNeg (sA s 30 (Int32.toNatClampNeg (a0 + (2 : Int32))))))))) ∧ ((cn2 .ne (sA s 30 (Int32.toNatClampNeg a0)) (2 : Int32)) = false → (w_M_asks_48 fu s a0 (sA s 30 (Int32.toNatClampNeg a0)) (sA s 27 (Int32.toNatClampNeg (sA s 30 (Int32.toNatClampNeg (a0 + (2 : Int32)))))) (18 : Int32) (sA s 27 (Int32.toNatClampNeg (sA s 30 (Int32.toNatClampNeg (a0 + (2 : Int32))))))))) ∧ ((cn2 .ne (sA s 30 (Int32.toNatClampNeg a0)) (1 : Int32)) = false → (w_M_asks_48 fu s a0 (sA s 30 (Int32.toNatClampNeg a0)) (sA s 27 (Int32.toNatClampNeg (sA s 30 (Int32.toNatClampNeg (a0 + (2 : Int32)))))) (17 : Int32) (sA s 27 (Int32.toNatClampNeg (sA s 30 (Int32.toNatClampNeg (a0 + (2 : Int32))))))))) ∧ ((cn2 .ne (sA s 30 (Int32.toNatClampNeg a0)) (5 : Int32)) = false → (w_M_asks_26 fu s a0 (sA s 30 (Int32.toNatClampNeg a0)) (sA s 27 (Int32.toNatClampNeg (sA s 30 (Int32.toNatClampNeg (a0 + (2 : Int32)))))))))) ∧ ((cn1 .ne (sA s 27 (Int32.toNatClampNeg (sA s 30 (Int32.toNatClampNeg (a0 + (2 : Int32))))))) = false → (w_M_fails s (1 : Int32) ∧ True)))))
theorem c_M_asks {d : Nat} (fu : Nat) (s : St) (a0 : Int32) (hw : w_M_asks fu s a0) : X m_M_asks (d + 37) 0 (entL 11 [.inr (.inr (some 21)), .inl a0]) [] (hp s) (qIs (f_M_asks fu s a0)) := by
  unfold f_M_asks
  unfold w_M_asks at hw
  refine X_run 1 (i1 := 1) (L1 := [some (.inr (.inr (some 21))), some (.inl a0), none, none, none, none, none, none, none, none, none]) (st1 := [.inr (.inr (some 21))]) rfl ?_
  refine X_gF (v := .inr (.inr (some 30))) rfl rfl rfl rfl ?_
  refine X_run 1 (i1 := 3) (L1 := [some (.inr (.inr (some 21))), some (.inl a0), none, none, none, none, none, none, none, none, none]) (st1 := [.inl a0, .inr (.inr (some 30))]) rfl ?_
  obtain ⟨hin, hw⟩ := hw
  refine X_aI rfl rfl hin ?_
  show X _ _ 4 [some (.inr (.inr (some 21))), some (.inl a0), none, none, none, none, none, none, none, none, none] [.inl (sA s 30 (Int32.toNatClampNeg a0))] (hp s) _
  refine X_run 2 (i1 := 6) (L1 := [some (.inr (.inr (some 21))), some (.inl a0), some (.inl (sA s 30 (Int32.toNatClampNeg a0))), none, none, none, none, none, none, none, none]) (st1 := [.inr (.inr (some 21))]) rfl ?_
  refine X_gF (v := .inr (.inr (some 27))) rfl rfl rfl rfl ?_
  refine X_run 1 (i1 := 8) (L1 := [some (.inr (.inr (some 21))), some (.inl a0), some (.inl (sA s 30 (Int32.toNatClampNeg a0))), none, none, none, none, none, none, none, none]) (st1 := [.inr (.inr (some 21)), .inr (.inr (some 27))]) rfl ?_
  refine X_gF (v := .inr (.inr (some 30))) rfl rfl rfl rfl ?_
  refine X_run 3 (i1 := 12) (L1 := [some (.inr (.inr (some 21))), some (.inl a0), some (.inl (sA s 30 (Int32.toNatClampNeg a0))), none, none, none, none, none, none, none, none]) (st1 := [.inl (a0 + (2 : Int32)), .inr (.inr (some 30)), .inr (.inr (some 27))]) rfl ?_
  obtain ⟨hin, hw⟩ := hw
  refine X_aI rfl rfl hin ?_
  show X _ _ 13 [some (.inr (.inr (some 21))), some (.inl a0), some (.inl (sA s 30 (Int32.toNatClampNeg a0))), none, none, none, none, none, none, none, none] [.inl (sA s 30 (Int32.toNatClampNeg (a0 + (2 : Int32)))), .inr (.inr (some 27))] (hp s) _
  obtain ⟨hin, hw⟩ := hw
  refine X_aI rfl rfl hin ?_
  show X _ _ 14 [some (.inr (.inr (some 21))), some (.inl a0), some (.inl (sA s 30 (Int32.toNatClampNeg a0))), none, none, none, none, none, none, none, none] [.inl (sA s 27 (Int32.toNatClampNeg (sA s 30 (Int32.toNatClampNeg (a0 + (2 : Int32))))))] (hp s) _
  refine X_run 3 (i1 := cond (cn1 .ne (sA s 27 (Int32.toNatClampNeg (sA s 30 (Int32.toNatClampNeg (a0 + (2 : Int32))))))) 21 17) (L1 := [some (.inr (.inr (some 21))), some (.inl a0), some (.inl (sA s 30 (Int32.toNatClampNeg a0))), some (.inl (sA s 27 (Int32.toNatClampNeg (sA s 30 (Int32.toNatClampNeg (a0 + (2 : Int32))))))), none, none, none, none, none, none, none]) (st1 := []) rfl ?_
  refine X_brq (fun hb => ?_) (fun hb => ?_)
  · have hw := hw.1 hb
    refine X_run 2 (i1 := cond (cn1 .eq (sA s 30 (Int32.toNatClampNeg a0))) 26 23) (L1 := [some (.inr (.inr (some 21))), some (.inl a0), some (.inl (sA s 30 (Int32.toNatClampNeg a0))), some (.inl (sA s 27 (Int32.toNatClampNeg (sA s 30 (Int32.toNatClampNeg (a0 + (2 : Int32))))))), none, none, none, none, none, none, none]) (st1 := []) rfl ?_
    refine X_brq (fun hb => ?_) (fun hb => ?_)
    · have hw := hw.1 hb
      exact ct_M_asks_26 fu s a0 (sA s 30 (Int32.toNatClampNeg a0)) (sA s 27 (Int32.toNatClampNeg (sA s 30 (Int32.toNatClampNeg (a0 + (2 : Int32)))))) hw
    · have hw := hw.2 hb
      refine X_run 3 (i1 := cond (cn2 .ne (sA s 30 (Int32.toNatClampNeg a0)) (5 : Int32)) 30 26) (L1 := [some (.inr (.inr (some 21))), some (.inl a0), some (.inl (sA s 30 (Int32.toNatClampNeg a0))), some (.inl (sA s 27 (Int32.toNatClampNeg (sA s 30 (Int32.toNatClampNeg (a0 + (2 : Int32))))))), none, none, none, none, none, none, none]) (st1 := []) rfl ?_
      refine X_brq (fun hb => ?_) (fun hb => ?_)
      · have hw := hw.1 hb
        refine X_run 5 (i1 := cond (cn2 .ne (sA s 30 (Int32.toNatClampNeg a0)) (1 : Int32)) 37 35) (L1 := [some (.inr (.inr (some 21))), some (.inl a0), some (.inl (sA s 30 (Int32.toNatClampNeg a0))), some (.inl (sA s 27 (Int32.toNatClampNeg (sA s 30 (Int32.toNatClampNeg (a0 + (2 : Int32))))))), none, none, none, none, none, none, none]) (st1 := [.inl (sA s 27 (Int32.toNatClampNeg (sA s 30 (Int32.toNatClampNeg (a0 + (2 : Int32)))))), .inr (.inr (some 21))]) rfl ?_
        refine X_brq (fun hb => ?_) (fun hb => ?_)
        · have hw := hw.1 hb
          refine X_run 3 (i1 := cond (cn2 .ne (sA s 30 (Int32.toNatClampNeg a0)) (2 : Int32)) 42 40) (L1 := [some (.inr (.inr (some 21))), some (.inl a0), some (.inl (sA s 30 (Int32.toNatClampNeg a0))), some (.inl (sA s 27 (Int32.toNatClampNeg (sA s 30 (Int32.toNatClampNeg (a0 + (2 : Int32))))))), none, none, none, none, none, none, none]) (st1 := [.inl (sA s 27 (Int32.toNatClampNeg (sA s 30 (Int32.toNatClampNeg (a0 + (2 : Int32)))))), .inr (.inr (some 21))]) rfl ?_
          refine X_brq (fun hb => ?_) (fun hb => ?_)
          · have hw := hw.1 hb
            refine X_run 3 (i1 := cond (cn2 .ne (sA s 30 (Int32.toNatClampNeg a0)) (3 : Int32)) 47 45) (L1 := [some (.inr (.inr (some 21))), some (.inl a0), some (.inl (sA s 30 (Int32.toNatClampNeg a0))), some (.inl (sA s 27 (Int32.toNatClampNeg (sA s 30 (Int32.toNatClampNeg (a0 + (2 : Int32))))))), none, none, none, none, none, none, none]) (st1 := [.inl (sA s 27 (Int32.toNatClampNeg (sA s 30 (Int32.toNatClampNeg (a0 + (2 : Int32)))))), .inr (.inr (some 21))]) rfl ?_
            refine X_brq (fun hb => ?_) (fun hb => ?_)
            · have hw := hw.1 hb
              refine X_run 1 (i1 := 48) (L1 := [some (.inr (.inr (some 21))), some (.inl a0), some (.inl (sA s 30 (Int32.toNatClampNeg a0))), some (.inl (sA s 27 (Int32.toNatClampNeg (sA s 30 (Int32.toNatClampNeg (a0 + (2 : Int32))))))), none, none, none, none, none, none, none]) (st1 := [.inl (14 : Int32), .inl (sA s 27 (Int32.toNatClampNeg (sA s 30 (Int32.toNatClampNeg (a0 + (2 : Int32)))))), .inr (.inr (some 21))]) rfl ?_
              exact ct_M_asks_48 fu s a0 (sA s 30 (Int32.toNatClampNeg a0)) (sA s 27 (Int32.toNatClampNeg (sA s 30 (Int32.toNatClampNeg (a0 + (2 : Int32)))))) (14 : Int32) (sA s 27 (Int32.toNatClampNeg (sA s 30 (Int32.toNatClampNeg (a0 + (2 : Int32)))))) hw
            · have hw := hw.2 hb
              refine X_run 2 (i1 := 48) (L1 := [some (.inr (.inr (some 21))), some (.inl a0), some (.inl (sA s 30 (Int32.toNatClampNeg a0))), some (.inl (sA s 27 (Int32.toNatClampNeg (sA s 30 (Int32.toNatClampNeg (a0 + (2 : Int32))))))), none, none, none, none, none, none, none]) (st1 := [.inl (12 : Int32), .inl (sA s 27 (Int32.toNatClampNeg (sA s 30 (Int32.toNatClampNeg (a0 + (2 : Int32)))))), .inr (.inr (some 21))]) rfl ?_
              exact ct_M_asks_48 fu s a0 (sA s 30 (Int32.toNatClampNeg a0)) (sA s 27 (Int32.toNatClampNeg (sA s 30 (Int32.toNatClampNeg (a0 + (2 : Int32)))))) (12 : Int32) (sA s 27 (Int32.toNatClampNeg (sA s 30 (Int32.toNatClampNeg (a0 + (2 : Int32)))))) hw
          · have hw := hw.2 hb
            refine X_run 2 (i1 := 48) (L1 := [some (.inr (.inr (some 21))), some (.inl a0), some (.inl (sA s 30 (Int32.toNatClampNeg a0))), some (.inl (sA s 27 (Int32.toNatClampNeg (sA s 30 (Int32.toNatClampNeg (a0 + (2 : Int32))))))), none, none, none, none, none, none, none]) (st1 := [.inl (18 : Int32), .inl (sA s 27 (Int32.toNatClampNeg (sA s 30 (Int32.toNatClampNeg (a0 + (2 : Int32)))))), .inr (.inr (some 21))]) rfl ?_
            exact ct_M_asks_48 fu s a0 (sA s 30 (Int32.toNatClampNeg a0)) (sA s 27 (Int32.toNatClampNeg (sA s 30 (Int32.toNatClampNeg (a0 + (2 : Int32)))))) (18 : Int32) (sA s 27 (Int32.toNatClampNeg (sA s 30 (Int32.toNatClampNeg (a0 + (2 : Int32)))))) hw
        · have hw := hw.2 hb
          refine X_run 2 (i1 := 48) (L1 := [some (.inr (.inr (some 21))), some (.inl a0), some (.inl (sA s 30 (Int32.toNatClampNeg a0))), some (.inl (sA s 27 (Int32.toNatClampNeg (sA s 30 (Int32.toNatClampNeg (a0 + (2 : Int32))))))), none, none, none, none, none, none, none]) (st1 := [.inl (17 : Int32), .inl (sA s 27 (Int32.toNatClampNeg (sA s 30 (Int32.toNatClampNeg (a0 + (2 : Int32)))))), .inr (.inr (some 21))]) rfl ?_
          exact ct_M_asks_48 fu s a0 (sA s 30 (Int32.toNatClampNeg a0)) (sA s 27 (Int32.toNatClampNeg (sA s 30 (Int32.toNatClampNeg (a0 + (2 : Int32)))))) (17 : Int32) (sA s 27 (Int32.toNatClampNeg (sA s 30 (Int32.toNatClampNeg (a0 + (2 : Int32)))))) hw
      · have hw := hw.2 hb
        exact ct_M_asks_26 fu s a0 (sA s 30 (Int32.toNatClampNeg a0)) (sA s 27 (Int32.toNatClampNeg (sA s 30 (Int32.toNatClampNeg (a0 + (2 : Int32)))))) hw
  · have hw := hw.2 hb
    refine X_run 2 (i1 := 19) (L1 := [some (.inr (.inr (some 21))), some (.inl a0), some (.inl (sA s 30 (Int32.toNatClampNeg a0))), some (.inl (sA s 27 (Int32.toNatClampNeg (sA s 30 (Int32.toNatClampNeg (a0 + (2 : Int32))))))), none, none, none, none, none, none, none]) (st1 := [.inl (1 : Int32), .inr (.inr (some 21))]) rfl ?_
    obtain ⟨hc, hw⟩ := hw
    refine X_callv m_M_fails (As := [.inl (1 : Int32)]) (st := []) ok_M_fails rfl rfl rfl (hp_obj rfl) rfl (Nat.le_of_ble_eq_true rfl) (Nat.le_of_ble_eq_true rfl) (c_M_fails (d := d + 34) s (1 : Int32) hc) ?_
    rintro _ _ ⟨rfl, rfl⟩
    show X _ _ 20 [some (.inr (.inr (some 21))), some (.inl a0), some (.inl (sA s 30 (Int32.toNatClampNeg a0))), some (.inl (sA s 27 (Int32.toNatClampNeg (sA s 30 (Int32.toNatClampNeg (a0 + (2 : Int32))))))), none, none, none, none, none, none, none] [.inl ((f_M_fails s (1 : Int32)).1)] (hp ((f_M_fails s (1 : Int32)).2)) _
    exact X_iret rfl rfl qIs_p
def f_M_act (fu : Nat) (s : St) (a0 : Int32) (a1 : Int32) : Int32 × St := (cond (cn2 .ge a0 (10 : Int32)) (cond (cn2 .ge a0 (17 : Int32)) (cond (cn2 .ge a0 (23 : Int32)) (cond (cn2 .ge a0 (27 : Int32)) (cond (cn2 .ge a0 (29 : Int32)) (cond (cn2 .ne a0 (29 : Int32)) (cond (cn1 .ne (sA s 27 (Int32.toNatClampNeg (sA s 30 (Int32.toNatClampNeg a1))))) (cond (cn2 .eq (sA s 22 (Int32.toNatClampNeg (sA s 27 (Int32.toNatClampNeg (sA s 30 (Int32.toNatClampNeg a1)))))) (16 : Int32)) (f_M_fault s (7 : Int32) (Int64.toInt32 (sB s 26 (Int32.toNatClampNeg (sA s 23 (Int32.toNatClampNeg (sA s 27 (Int32.toNatClampNeg (sA s 30 (Int32.toNatClampNeg a1)))))))))) (f_M_fails s (4 : Int32))) (f_M_fails s (1 : Int32))) (f_M_asks fu s a1)) (f_M_fields s a0 a1)) (f_M_places s a0 a1)) (f_M_members fu s a0 a1)) (f_M_makes fu s a0 a1)) (f_M_reckons fu s a0 a1))
def w_M_act (fu : Nat) (s : St) (a0 : Int32) (a1 : Int32) : Prop := ((cn2 .ge a0 (10 : Int32)) = true → ((cn2 .ge a0 (17 : Int32)) = true → ((cn2 .ge a0 (23 : Int32)) = true → ((cn2 .ge a0 (27 : Int32)) = true → ((cn2 .ge a0 (29 : Int32)) = true → ((cn2 .ne a0 (29 : Int32)) = true → (vp_in a1 3200 ∧ (vp_in (sA s 30 (Int32.toNatClampNeg a1)) 16 ∧ ((cn1 .ne (sA s 27 (Int32.toNatClampNeg (sA s 30 (Int32.toNatClampNeg a1))))) = true → (vp_in (sA s 27 (Int32.toNatClampNeg (sA s 30 (Int32.toNatClampNeg a1)))) 40001 ∧ ((cn2 .eq (sA s 22 (Int32.toNatClampNeg (sA s 27 (Int32.toNatClampNeg (sA s 30 (Int32.toNatClampNeg a1)))))) (16 : Int32)) = true → (vp_in (sA s 27 (Int32.toNatClampNeg (sA s 30 (Int32.toNatClampNeg a1)))) 40001 ∧ (vp_in (sA s 23 (Int32.toNatClampNeg (sA s 27 (Int32.toNatClampNeg (sA s 30 (Int32.toNatClampNeg a1)))))) 40001 ∧ (w_M_fault s (7 : Int32) (Int64.toInt32 (sB s 26 (Int32.toNatClampNeg (sA s 23 (Int32.toNatClampNeg (sA s 27 (Int32.toNatClampNeg (sA s 30 (Int32.toNatClampNeg a1))))))))) ∧ True)))) ∧ ((cn2 .eq (sA s 22 (Int32.toNatClampNeg (sA s 27 (Int32.toNatClampNeg (sA s 30 (Int32.toNatClampNeg a1)))))) (16 : Int32)) = false → (w_M_fails s (4 : Int32) ∧ True)))) ∧ ((cn1 .ne (sA s 27 (Int32.toNatClampNeg (sA s 30 (Int32.toNatClampNeg a1))))) = false → (w_M_fails s (1 : Int32) ∧ True))))) ∧ ((cn2 .ne a0 (29 : Int32)) = false → (w_M_asks fu s a1 ∧ True))) ∧ ((cn2 .ge a0 (29 : Int32)) = false → (w_M_fields s a0 a1 ∧ True))) ∧ ((cn2 .ge a0 (27 : Int32)) = false → (w_M_places s a0 a1 ∧ True))) ∧ ((cn2 .ge a0 (23 : Int32)) = false → (w_M_members fu s a0 a1 ∧ True))) ∧ ((cn2 .ge a0 (17 : Int32)) = false → (w_M_makes fu s a0 a1 ∧ True))) ∧ ((cn2 .ge a0 (10 : Int32)) = false → (w_M_reckons fu s a0 a1 ∧ True))
theorem c_M_act {d : Nat} (fu : Nat) (s : St) (a0 : Int32) (a1 : Int32) (hw : w_M_act fu s a0 a1) : X m_M_act (d + 38) 0 (entL 4 [.inr (.inr (some 21)), .inl a0, .inl a1]) [] (hp s) (qIs (f_M_act fu s a0 a1)) := by
  unfold f_M_act
  unfold w_M_act at hw
  refine X_run 3 (i1 := cond (cn2 .ge a0 (10 : Int32)) 8 3) (L1 := [some (.inr (.inr (some 21))), some (.inl a0), some (.inl a1), none]) (st1 := []) rfl ?_
  refine X_brq (fun hb => ?_) (fun hb => ?_)
  · have hw := hw.1 hb
    refine X_run 3 (i1 := cond (cn2 .ge a0 (17 : Int32)) 16 11) (L1 := [some (.inr (.inr (some 21))), some (.inl a0), some (.inl a1), none]) (st1 := []) rfl ?_
    refine X_brq (fun hb => ?_) (fun hb => ?_)
    · have hw := hw.1 hb
      refine X_run 3 (i1 := cond (cn2 .ge a0 (23 : Int32)) 24 19) (L1 := [some (.inr (.inr (some 21))), some (.inl a0), some (.inl a1), none]) (st1 := []) rfl ?_
      refine X_brq (fun hb => ?_) (fun hb => ?_)
      · have hw := hw.1 hb
        refine X_run 3 (i1 := cond (cn2 .ge a0 (27 : Int32)) 32 27) (L1 := [some (.inr (.inr (some 21))), some (.inl a0), some (.inl a1), none]) (st1 := []) rfl ?_
        refine X_brq (fun hb => ?_) (fun hb => ?_)
        · have hw := hw.1 hb
          refine X_run 3 (i1 := cond (cn2 .ge a0 (29 : Int32)) 40 35) (L1 := [some (.inr (.inr (some 21))), some (.inl a0), some (.inl a1), none]) (st1 := []) rfl ?_
          refine X_brq (fun hb => ?_) (fun hb => ?_)
          · have hw := hw.1 hb
            refine X_run 3 (i1 := cond (cn2 .ne a0 (29 : Int32)) 47 43) (L1 := [some (.inr (.inr (some 21))), some (.inl a0), some (.inl a1), none]) (st1 := []) rfl ?_
            refine X_brq (fun hb => ?_) (fun hb => ?_)
            · have hw := hw.1 hb
              refine X_run 1 (i1 := 48) (L1 := [some (.inr (.inr (some 21))), some (.inl a0), some (.inl a1), none]) (st1 := [.inr (.inr (some 21))]) rfl ?_
              refine X_gF (v := .inr (.inr (some 27))) rfl rfl rfl rfl ?_
              refine X_run 1 (i1 := 50) (L1 := [some (.inr (.inr (some 21))), some (.inl a0), some (.inl a1), none]) (st1 := [.inr (.inr (some 21)), .inr (.inr (some 27))]) rfl ?_
              refine X_gF (v := .inr (.inr (some 30))) rfl rfl rfl rfl ?_
              refine X_run 1 (i1 := 52) (L1 := [some (.inr (.inr (some 21))), some (.inl a0), some (.inl a1), none]) (st1 := [.inl a1, .inr (.inr (some 30)), .inr (.inr (some 27))]) rfl ?_
              obtain ⟨hin, hw⟩ := hw
              refine X_aI rfl rfl hin ?_
              show X _ _ 53 [some (.inr (.inr (some 21))), some (.inl a0), some (.inl a1), none] [.inl (sA s 30 (Int32.toNatClampNeg a1)), .inr (.inr (some 27))] (hp s) _
              obtain ⟨hin, hw⟩ := hw
              refine X_aI rfl rfl hin ?_
              show X _ _ 54 [some (.inr (.inr (some 21))), some (.inl a0), some (.inl a1), none] [.inl (sA s 27 (Int32.toNatClampNeg (sA s 30 (Int32.toNatClampNeg a1))))] (hp s) _
              refine X_run 3 (i1 := cond (cn1 .ne (sA s 27 (Int32.toNatClampNeg (sA s 30 (Int32.toNatClampNeg a1))))) 61 57) (L1 := [some (.inr (.inr (some 21))), some (.inl a0), some (.inl a1), some (.inl (sA s 27 (Int32.toNatClampNeg (sA s 30 (Int32.toNatClampNeg a1)))))]) (st1 := []) rfl ?_
              refine X_brq (fun hb => ?_) (fun hb => ?_)
              · have hw := hw.1 hb
                refine X_run 1 (i1 := 62) (L1 := [some (.inr (.inr (some 21))), some (.inl a0), some (.inl a1), some (.inl (sA s 27 (Int32.toNatClampNeg (sA s 30 (Int32.toNatClampNeg a1)))))]) (st1 := [.inr (.inr (some 21))]) rfl ?_
                refine X_gF (v := .inr (.inr (some 22))) rfl rfl rfl rfl ?_
                refine X_run 1 (i1 := 64) (L1 := [some (.inr (.inr (some 21))), some (.inl a0), some (.inl a1), some (.inl (sA s 27 (Int32.toNatClampNeg (sA s 30 (Int32.toNatClampNeg a1)))))]) (st1 := [.inl (sA s 27 (Int32.toNatClampNeg (sA s 30 (Int32.toNatClampNeg a1)))), .inr (.inr (some 22))]) rfl ?_
                obtain ⟨hin, hw⟩ := hw
                refine X_aI rfl rfl hin ?_
                show X _ _ 65 [some (.inr (.inr (some 21))), some (.inl a0), some (.inl a1), some (.inl (sA s 27 (Int32.toNatClampNeg (sA s 30 (Int32.toNatClampNeg a1)))))] [.inl (sA s 22 (Int32.toNatClampNeg (sA s 27 (Int32.toNatClampNeg (sA s 30 (Int32.toNatClampNeg a1))))))] (hp s) _
                refine X_run 2 (i1 := cond (cn2 .eq (sA s 22 (Int32.toNatClampNeg (sA s 27 (Int32.toNatClampNeg (sA s 30 (Int32.toNatClampNeg a1)))))) (16 : Int32)) 71 67) (L1 := [some (.inr (.inr (some 21))), some (.inl a0), some (.inl a1), some (.inl (sA s 27 (Int32.toNatClampNeg (sA s 30 (Int32.toNatClampNeg a1)))))]) (st1 := []) rfl ?_
                refine X_brq (fun hb => ?_) (fun hb => ?_)
                · have hw := hw.1 hb
                  refine X_run 3 (i1 := 74) (L1 := [some (.inr (.inr (some 21))), some (.inl a0), some (.inl a1), some (.inl (sA s 27 (Int32.toNatClampNeg (sA s 30 (Int32.toNatClampNeg a1)))))]) (st1 := [.inr (.inr (some 21)), .inl (7 : Int32), .inr (.inr (some 21))]) rfl ?_
                  refine X_gF (v := .inr (.inr (some 26))) rfl rfl rfl rfl ?_
                  refine X_run 1 (i1 := 76) (L1 := [some (.inr (.inr (some 21))), some (.inl a0), some (.inl a1), some (.inl (sA s 27 (Int32.toNatClampNeg (sA s 30 (Int32.toNatClampNeg a1)))))]) (st1 := [.inr (.inr (some 21)), .inr (.inr (some 26)), .inl (7 : Int32), .inr (.inr (some 21))]) rfl ?_
                  refine X_gF (v := .inr (.inr (some 23))) rfl rfl rfl rfl ?_
                  refine X_run 1 (i1 := 78) (L1 := [some (.inr (.inr (some 21))), some (.inl a0), some (.inl a1), some (.inl (sA s 27 (Int32.toNatClampNeg (sA s 30 (Int32.toNatClampNeg a1)))))]) (st1 := [.inl (sA s 27 (Int32.toNatClampNeg (sA s 30 (Int32.toNatClampNeg a1)))), .inr (.inr (some 23)), .inr (.inr (some 26)), .inl (7 : Int32), .inr (.inr (some 21))]) rfl ?_
                  obtain ⟨hin, hw⟩ := hw
                  refine X_aI rfl rfl hin ?_
                  show X _ _ 79 [some (.inr (.inr (some 21))), some (.inl a0), some (.inl a1), some (.inl (sA s 27 (Int32.toNatClampNeg (sA s 30 (Int32.toNatClampNeg a1)))))] [.inl (sA s 23 (Int32.toNatClampNeg (sA s 27 (Int32.toNatClampNeg (sA s 30 (Int32.toNatClampNeg a1)))))), .inr (.inr (some 26)), .inl (7 : Int32), .inr (.inr (some 21))] (hp s) _
                  obtain ⟨hin, hw⟩ := hw
                  refine X_aL rfl rfl hin ?_
                  show X _ _ 80 [some (.inr (.inr (some 21))), some (.inl a0), some (.inl a1), some (.inl (sA s 27 (Int32.toNatClampNeg (sA s 30 (Int32.toNatClampNeg a1)))))] [.inr (.inl (sB s 26 (Int32.toNatClampNeg (sA s 23 (Int32.toNatClampNeg (sA s 27 (Int32.toNatClampNeg (sA s 30 (Int32.toNatClampNeg a1))))))))), .inl (7 : Int32), .inr (.inr (some 21))] (hp s) _
                  refine X_run 1 (i1 := 81) (L1 := [some (.inr (.inr (some 21))), some (.inl a0), some (.inl a1), some (.inl (sA s 27 (Int32.toNatClampNeg (sA s 30 (Int32.toNatClampNeg a1)))))]) (st1 := [.inl (Int64.toInt32 (sB s 26 (Int32.toNatClampNeg (sA s 23 (Int32.toNatClampNeg (sA s 27 (Int32.toNatClampNeg (sA s 30 (Int32.toNatClampNeg a1))))))))), .inl (7 : Int32), .inr (.inr (some 21))]) rfl ?_
                  obtain ⟨hc, hw⟩ := hw
                  refine X_callv m_M_fault (As := [.inl (7 : Int32), .inl (Int64.toInt32 (sB s 26 (Int32.toNatClampNeg (sA s 23 (Int32.toNatClampNeg (sA s 27 (Int32.toNatClampNeg (sA s 30 (Int32.toNatClampNeg a1)))))))))]) (st := []) ok_M_fault rfl rfl rfl (hp_obj rfl) rfl (Nat.le_of_ble_eq_true rfl) (Nat.le_of_ble_eq_true rfl) (c_M_fault (d := d + 36) s (7 : Int32) (Int64.toInt32 (sB s 26 (Int32.toNatClampNeg (sA s 23 (Int32.toNatClampNeg (sA s 27 (Int32.toNatClampNeg (sA s 30 (Int32.toNatClampNeg a1))))))))) hc) ?_
                  rintro _ _ ⟨rfl, rfl⟩
                  show X _ _ 82 [some (.inr (.inr (some 21))), some (.inl a0), some (.inl a1), some (.inl (sA s 27 (Int32.toNatClampNeg (sA s 30 (Int32.toNatClampNeg a1)))))] [.inl ((f_M_fault s (7 : Int32) (Int64.toInt32 (sB s 26 (Int32.toNatClampNeg (sA s 23 (Int32.toNatClampNeg (sA s 27 (Int32.toNatClampNeg (sA s 30 (Int32.toNatClampNeg a1)))))))))).1)] (hp ((f_M_fault s (7 : Int32) (Int64.toInt32 (sB s 26 (Int32.toNatClampNeg (sA s 23 (Int32.toNatClampNeg (sA s 27 (Int32.toNatClampNeg (sA s 30 (Int32.toNatClampNeg a1)))))))))).2)) _
                  exact X_iret rfl rfl qIs_p
                · have hw := hw.2 hb
                  refine X_run 2 (i1 := 69) (L1 := [some (.inr (.inr (some 21))), some (.inl a0), some (.inl a1), some (.inl (sA s 27 (Int32.toNatClampNeg (sA s 30 (Int32.toNatClampNeg a1)))))]) (st1 := [.inl (4 : Int32), .inr (.inr (some 21))]) rfl ?_
                  obtain ⟨hc, hw⟩ := hw
                  refine X_callv m_M_fails (As := [.inl (4 : Int32)]) (st := []) ok_M_fails rfl rfl rfl (hp_obj rfl) rfl (Nat.le_of_ble_eq_true rfl) (Nat.le_of_ble_eq_true rfl) (c_M_fails (d := d + 35) s (4 : Int32) hc) ?_
                  rintro _ _ ⟨rfl, rfl⟩
                  show X _ _ 70 [some (.inr (.inr (some 21))), some (.inl a0), some (.inl a1), some (.inl (sA s 27 (Int32.toNatClampNeg (sA s 30 (Int32.toNatClampNeg a1)))))] [.inl ((f_M_fails s (4 : Int32)).1)] (hp ((f_M_fails s (4 : Int32)).2)) _
                  refine X_run 1 (i1 := 82) (L1 := [some (.inr (.inr (some 21))), some (.inl a0), some (.inl a1), some (.inl (sA s 27 (Int32.toNatClampNeg (sA s 30 (Int32.toNatClampNeg a1)))))]) (st1 := [.inl ((f_M_fails s (4 : Int32)).1)]) rfl ?_
                  exact X_iret rfl rfl qIs_p
              · have hw := hw.2 hb
                refine X_run 2 (i1 := 59) (L1 := [some (.inr (.inr (some 21))), some (.inl a0), some (.inl a1), some (.inl (sA s 27 (Int32.toNatClampNeg (sA s 30 (Int32.toNatClampNeg a1)))))]) (st1 := [.inl (1 : Int32), .inr (.inr (some 21))]) rfl ?_
                obtain ⟨hc, hw⟩ := hw
                refine X_callv m_M_fails (As := [.inl (1 : Int32)]) (st := []) ok_M_fails rfl rfl rfl (hp_obj rfl) rfl (Nat.le_of_ble_eq_true rfl) (Nat.le_of_ble_eq_true rfl) (c_M_fails (d := d + 35) s (1 : Int32) hc) ?_
                rintro _ _ ⟨rfl, rfl⟩
                show X _ _ 60 [some (.inr (.inr (some 21))), some (.inl a0), some (.inl a1), some (.inl (sA s 27 (Int32.toNatClampNeg (sA s 30 (Int32.toNatClampNeg a1)))))] [.inl ((f_M_fails s (1 : Int32)).1)] (hp ((f_M_fails s (1 : Int32)).2)) _
                refine X_run 1 (i1 := 82) (L1 := [some (.inr (.inr (some 21))), some (.inl a0), some (.inl a1), some (.inl (sA s 27 (Int32.toNatClampNeg (sA s 30 (Int32.toNatClampNeg a1)))))]) (st1 := [.inl ((f_M_fails s (1 : Int32)).1)]) rfl ?_
                exact X_iret rfl rfl qIs_p
            · have hw := hw.2 hb
              refine X_run 2 (i1 := 45) (L1 := [some (.inr (.inr (some 21))), some (.inl a0), some (.inl a1), none]) (st1 := [.inl a1, .inr (.inr (some 21))]) rfl ?_
              obtain ⟨hc, hw⟩ := hw
              refine X_callv m_M_asks (As := [.inl a1]) (st := []) ok_M_asks rfl rfl rfl (hp_obj rfl) rfl (Nat.le_of_ble_eq_true rfl) (Nat.le_of_ble_eq_true rfl) (c_M_asks (d := d) fu s a1 hc) ?_
              rintro _ _ ⟨rfl, rfl⟩
              show X _ _ 46 [some (.inr (.inr (some 21))), some (.inl a0), some (.inl a1), none] [.inl ((f_M_asks fu s a1).1)] (hp ((f_M_asks fu s a1).2)) _
              exact X_iret rfl rfl qIs_p
          · have hw := hw.2 hb
            refine X_run 3 (i1 := 38) (L1 := [some (.inr (.inr (some 21))), some (.inl a0), some (.inl a1), none]) (st1 := [.inl a1, .inl a0, .inr (.inr (some 21))]) rfl ?_
            obtain ⟨hc, hw⟩ := hw
            refine X_callv m_M_fields (As := [.inl a0, .inl a1]) (st := []) ok_M_fields rfl rfl rfl (hp_obj rfl) rfl (Nat.le_of_ble_eq_true rfl) (Nat.le_of_ble_eq_true rfl) (c_M_fields (d := d + 34) s a0 a1 hc) ?_
            rintro _ _ ⟨rfl, rfl⟩
            show X _ _ 39 [some (.inr (.inr (some 21))), some (.inl a0), some (.inl a1), none] [.inl ((f_M_fields s a0 a1).1)] (hp ((f_M_fields s a0 a1).2)) _
            exact X_iret rfl rfl qIs_p
        · have hw := hw.2 hb
          refine X_run 3 (i1 := 30) (L1 := [some (.inr (.inr (some 21))), some (.inl a0), some (.inl a1), none]) (st1 := [.inl a1, .inl a0, .inr (.inr (some 21))]) rfl ?_
          obtain ⟨hc, hw⟩ := hw
          refine X_callv m_M_places (As := [.inl a0, .inl a1]) (st := []) ok_M_places rfl rfl rfl (hp_obj rfl) rfl (Nat.le_of_ble_eq_true rfl) (Nat.le_of_ble_eq_true rfl) (c_M_places (d := d + 34) s a0 a1 hc) ?_
          rintro _ _ ⟨rfl, rfl⟩
          show X _ _ 31 [some (.inr (.inr (some 21))), some (.inl a0), some (.inl a1), none] [.inl ((f_M_places s a0 a1).1)] (hp ((f_M_places s a0 a1).2)) _
          exact X_iret rfl rfl qIs_p
      · have hw := hw.2 hb
        refine X_run 3 (i1 := 22) (L1 := [some (.inr (.inr (some 21))), some (.inl a0), some (.inl a1), none]) (st1 := [.inl a1, .inl a0, .inr (.inr (some 21))]) rfl ?_
        obtain ⟨hc, hw⟩ := hw
        refine X_callv m_M_members (As := [.inl a0, .inl a1]) (st := []) ok_M_members rfl rfl rfl (hp_obj rfl) rfl (Nat.le_of_ble_eq_true rfl) (Nat.le_of_ble_eq_true rfl) (c_M_members (d := d + 33) fu s a0 a1 hc) ?_
        rintro _ _ ⟨rfl, rfl⟩
        show X _ _ 23 [some (.inr (.inr (some 21))), some (.inl a0), some (.inl a1), none] [.inl ((f_M_members fu s a0 a1).1)] (hp ((f_M_members fu s a0 a1).2)) _
        exact X_iret rfl rfl qIs_p
    · have hw := hw.2 hb
      refine X_run 3 (i1 := 14) (L1 := [some (.inr (.inr (some 21))), some (.inl a0), some (.inl a1), none]) (st1 := [.inl a1, .inl a0, .inr (.inr (some 21))]) rfl ?_
      obtain ⟨hc, hw⟩ := hw
      refine X_callv m_M_makes (As := [.inl a0, .inl a1]) (st := []) ok_M_makes rfl rfl rfl (hp_obj rfl) rfl (Nat.le_of_ble_eq_true rfl) (Nat.le_of_ble_eq_true rfl) (c_M_makes (d := d + 33) fu s a0 a1 hc) ?_
      rintro _ _ ⟨rfl, rfl⟩
      show X _ _ 15 [some (.inr (.inr (some 21))), some (.inl a0), some (.inl a1), none] [.inl ((f_M_makes fu s a0 a1).1)] (hp ((f_M_makes fu s a0 a1).2)) _
      exact X_iret rfl rfl qIs_p
  · have hw := hw.2 hb
    refine X_run 3 (i1 := 6) (L1 := [some (.inr (.inr (some 21))), some (.inl a0), some (.inl a1), none]) (st1 := [.inl a1, .inl a0, .inr (.inr (some 21))]) rfl ?_
    obtain ⟨hc, hw⟩ := hw
    refine X_callv m_M_reckons (As := [.inl a0, .inl a1]) (st := []) ok_M_reckons rfl rfl rfl (hp_obj rfl) rfl (Nat.le_of_ble_eq_true rfl) (Nat.le_of_ble_eq_true rfl) (c_M_reckons (d := d + 32) fu s a0 a1 hc) ?_
    rintro _ _ ⟨rfl, rfl⟩
    show X _ _ 7 [some (.inr (.inr (some 21))), some (.inl a0), some (.inl a1), none] [.inl ((f_M_reckons fu s a0 a1).1)] (hp ((f_M_reckons fu s a0 a1).2)) _
    exact X_iret rfl rfl qIs_p
