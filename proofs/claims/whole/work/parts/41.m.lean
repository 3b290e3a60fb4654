abbrev G_wrong : Type := (St → Int32 → Int32 → Int32 → Int32)
abbrev GW_wrong : Type := (St → Int32 → Int32 → Int32 → Prop)
def hr_wrong (d : Nat) (rec : G_wrong) (wrec : GW_wrong) : Prop := (∀ (s : St) (a0 : Int32) (a1 : Int32) (a2 : Int32), wrec s a0 a1 a2 → X m_M_wrong d 0 (entL 12 [.inr (.inr (some 21)), .inl a0, .inl a1, .inl a2]) [] (hp s) (qI (hp s) (rec s a0 a1 a2)))
def t_M_wrong_74 (rec : G_wrong) (fu : Nat) (s : St) (v4 : Int32) (v8 : Int32) : Int32 := ((v4 + (1 : Int32)) + v8)
def w_M_wrong_74 (rec : G_wrong) (wrec : GW_wrong) (fu : Nat) (s : St) (v4 : Int32) (v8 : Int32) : Prop := True
theorem ct_M_wrong_74 {d : Nat} {rec : G_wrong} {wrec : GW_wrong} (hrec : hr_wrong (d) rec wrec) (fu : Nat) (s : St) (v4 : Int32) (v8 : Int32) (hw : w_M_wrong_74 rec wrec fu s v4 v8) : X m_M_wrong (d + 1) 74 [none, none, none, none, some (.inl v4), none, none, none, some (.inl v8), none, none, none] [] (hp s) (qI (hp s) (t_M_wrong_74 rec fu s v4 v8)) := by
  unfold t_M_wrong_74
  unfold w_M_wrong_74 at hw
  refine X_run 5 (i1 := 79) (L1 := [none, none, none, none, some (.inl v4), none, none, none, some (.inl v8), none, none, none]) (st1 := [.inl ((v4 + (1 : Int32)) + v8)]) rfl ?_
  exact X_iret rfl rfl qI_i
abbrev LT_M_wrong_2 : Type := (St → Int32 → Int32 → Int32 → Int32) × (St → Int32 → Int32 → Int32 → Int32 → Int32 → Int32) × (St → Int32 → Int32 → Int32 → Int32 → Int32 → Int32 → Int32) × (St → Int32 → Int32 → Int32 → Int32 → Int32 → Int32 → Int32) × (St → Int32 → Int32 → Int32 → Int32 → Int32 → Int32 → Int32 → Int32) × (St → Int32 → Int32 → Int32 → Int32 → Int32 → Int32 → Int32) × (St → Int32 → Int32 → Int32 → Int32 → Int32 → Int32 → Int32 → Int32) × (St → Int32 → Int32 → Int32 → Int32 → Int32 → Int32 → Int32) × (St → Int32 → Int32 → Int32 → Int32)
abbrev LW_M_wrong_2 : Type := (St → Int32 → Int32 → Int32 → Prop) × (St → Int32 → Int32 → Int32 → Int32 → Int32 → Prop) × (St → Int32 → Int32 → Int32 → Int32 → Int32 → Int32 → Prop) × (St → Int32 → Int32 → Int32 → Int32 → Int32 → Int32 → Prop) × (St → Int32 → Int32 → Int32 → Int32 → Int32 → Int32 → Int32 → Prop) × (St → Int32 → Int32 → Int32 → Int32 → Int32 → Int32 → Prop) × (St → Int32 → Int32 → Int32 → Int32 → Int32 → Int32 → Int32 → Prop) × (St → Int32 → Int32 → Int32 → Int32 → Int32 → Int32 → Prop) × (St → Int32 → Int32 → Int32 → Prop)
def hl_M_wrong_2 (d : Nat) (lp : LT_M_wrong_2) (wlp : LW_M_wrong_2) : Prop := (∀ (s : St) (v2 : Int32) (v3 : Int32) (v4 : Int32), wlp.1 s v2 v3 v4 → X m_M_wrong d 2 [some (.inr (.inr (some 21))), none, some (.inl v2), some (.inl v3), some (.inl v4), none, none, none, none, none, none, none] [] (hp s) (qI (hp s) (lp.1 s v2 v3 v4))) ∧ (∀ (s : St) (v2 : Int32) (v3 : Int32) (v4 : Int32) (v5 : Int32) (v6 : Int32), wlp.2.1 s v2 v3 v4 v5 v6 → X m_M_wrong d 21 [some (.inr (.inr (some 21))), none, some (.inl v2), some (.inl v3), some (.inl v4), some (.inl v5), some (.inl v6), none, none, none, none, none] [] (hp s) (qI (hp s) (lp.2.1 s v2 v3 v4 v5 v6))) ∧ (∀ (s : St) (v2 : Int32) (v3 : Int32) (v4 : Int32) (v5 : Int32) (v6 : Int32) (w0 : Int32), wlp.2.2.1 s v2 v3 v4 v5 v6 w0 → X m_M_wrong d 22 [some (.inr (.inr (some 21))), none, some (.inl v2), some (.inl v3), some (.inl v4), some (.inl v5), some (.inl v6), none, none, none, none, none] [.inl w0] (hp s) (qI (hp s) (lp.2.2.1 s v2 v3 v4 v5 v6 w0))) ∧ (∀ (s : St) (v2 : Int32) (v3 : Int32) (v4 : Int32) (v5 : Int32) (v6 : Int32) (v7 : Int32), wlp.2.2.2.1 s v2 v3 v4 v5 v6 v7 → X m_M_wrong d 37 [some (.inr (.inr (some 21))), none, some (.inl v2), some (.inl v3), some (.inl v4), some (.inl v5), some (.inl v6), some (.inl v7), none, none, none, none] [] (hp s) (qI (hp s) (lp.2.2.2.1 s v2 v3 v4 v5 v6 v7))) ∧ (∀ (s : St) (v2 : Int32) (v3 : Int32) (v4 : Int32) (v5 : Int32) (v6 : Int32) (v7 : Int32) (v8 : Int32), wlp.2.2.2.2.1 s v2 v3 v4 v5 v6 v7 v8 → X m_M_wrong d 39 [some (.inr (.inr (some 21))), none, some (.inl v2), some (.inl v3), some (.inl v4), some (.inl v5), some (.inl v6), some (.inl v7), some (.inl v8), none, none, none] [] (hp s) (qI (hp s) (lp.2.2.2.2.1 s v2 v3 v4 v5 v6 v7 v8))) ∧ (∀ (s : St) (v2 : Int32) (v3 : Int32) (v4 : Int32) (v6 : Int32) (v8 : Int32) (w0 : Int32), wlp.2.2.2.2.2.1 s v2 v3 v4 v6 v8 w0 → X m_M_wrong d 94 [some (.inr (.inr (some 21))), none, some (.inl v2), some (.inl v3), some (.inl v4), none, some (.inl v6), none, some (.inl v8), none, none, none] [.inl w0] (hp s) (qI (hp s) (lp.2.2.2.2.2.1 s v2 v3 v4 v6 v8 w0))) ∧ (∀ (s : St) (v2 : Int32) (v3 : Int32) (v4 : Int32) (v6 : Int32) (v8 : Int32) (v9 : Int32) (v10 : Int32), wlp.2.2.2.2.2.2.1 s v2 v3 v4 v6 v8 v9 v10 → X m_M_wrong d 97 [some (.inr (.inr (some 21))), none, some (.inl v2), some (.inl v3), some (.inl v4), none, some (.inl v6), none, some (.inl v8), some (.inl v9), some (.inl v10), none] [] (hp s) (qI (hp s) (lp.2.2.2.2.2.2.1 s v2 v3 v4 v6 v8 v9 v10))) ∧ (∀ (s : St) (v2 : Int32) (v3 : Int32) (v4 : Int32) (v6 : Int32) (v8 : Int32) (v10 : Int32), wlp.2.2.2.2.2.2.2.1 s v2 v3 v4 v6 v8 v10 → X m_M_wrong d 124 [some (.inr (.inr (some 21))), none, some (.inl v2), some (.inl v3), some (.inl v4), none, some (.inl v6), none, some (.inl v8), none, some (.inl v10), none] [] (hp s) (qI (hp s) (lp.2.2.2.2.2.2.2.1 s v2 v3 v4 v6 v8 v10))) ∧ (∀ (s : St) (v2 : Int32) (v3 : Int32) (v8 : Int32), wlp.2.2.2.2.2.2.2.2 s v2 v3 v8 → X m_M_wrong d 158 [some (.inr (.inr (some 21))), none, some (.inl v2), some (.inl v3), none, none, none, none, some (.inl v8), none, none, none] [] (hp s) (qI (hp s) (lp.2.2.2.2.2.2.2.2 s v2 v3 v8)))
def b_M_wrong_2 (rec : G_wrong) (fu : Nat) (lp : LT_M_wrong_2) (s : St) (v2 : Int32) (v3 : Int32) (v4 : Int32) : Int32 := (cond (cn2 .ge v4 v2) (-1 : Int32) (cond (cn2 .le (sA s 32 (Int32.toNatClampNeg v4)) (29 : Int32)) (lp.2.1 s v2 v3 v4 (sA s 32 (Int32.toNatClampNeg v4)) (f_M_wholeOf (sA s 32 (Int32.toNatClampNeg v4)))) (cond (cn2 .ge (sA s 32 (Int32.toNatClampNeg v4)) (33 : Int32)) (lp.2.1 s v2 v3 v4 (sA s 32 (Int32.toNatClampNeg v4)) (f_M_wholeOf (sA s 32 (Int32.toNatClampNeg v4)))) (lp.2.2.1 s v2 v3 v4 (sA s 32 (Int32.toNatClampNeg v4)) (f_M_wholeOf (sA s 32 (Int32.toNatClampNeg v4))) (1 : Int32)))))
def v_M_wrong_2 (rec : G_wrong) (wrec : GW_wrong) (fu : Nat) (lp : LT_M_wrong_2) (wlp : LW_M_wrong_2) (s : St) (v2 : Int32) (v3 : Int32) (v4 : Int32) : Prop := ((cn2 .ge v4 v2) = true → True) ∧ ((cn2 .ge v4 v2) = false → (vp_in v4 2000 ∧ ((cn2 .le (sA s 32 (Int32.toNatClampNeg v4)) (29 : Int32)) = true → (wlp.2.1 s v2 v3 v4 (sA s 32 (Int32.toNatClampNeg v4)) (f_M_wholeOf (sA s 32 (Int32.toNatClampNeg v4))))) ∧ ((cn2 .le (sA s 32 (Int32.toNatClampNeg v4)) (29 : Int32)) = false → ((cn2 .ge (sA s 32 (Int32.toNatClampNeg v4)) (33 : Int32)) = true → (wlp.2.1 s v2 v3 v4 (sA s 32 (Int32.toNatClampNeg v4)) (f_M_wholeOf (sA s 32 (Int32.toNatClampNeg v4))))) ∧ ((cn2 .ge (sA s 32 (Int32.toNatClampNeg v4)) (33 : Int32)) = false → (wlp.2.2.1 s v2 v3 v4 (sA s 32 (Int32.toNatClampNeg v4)) (f_M_wholeOf (sA s 32 (Int32.toNatClampNeg v4))) (1 : Int32))))))
theorem cb_M_wrong_2 {d : Nat} {rec : G_wrong} {wrec : GW_wrong} (hrec : hr_wrong (d) rec wrec) (fu : Nat) {lp : LT_M_wrong_2} {wlp : LW_M_wrong_2} (hlp : hl_M_wrong_2 (d + 1) lp wlp) (s : St) (v2 : Int32) (v3 : Int32) (v4 : Int32) (hw : v_M_wrong_2 rec wrec fu lp wlp s v2 v3 v4) : X m_M_wrong (d + 1) 2 [some (.inr (.inr (some 21))), none, some (.inl v2), some (.inl v3), some (.inl v4), none, none, none, none, none, none, none] [] (hp s) (qI (hp s) (b_M_wrong_2 rec fu lp s v2 v3 v4)) := by
  unfold b_M_wrong_2
  unfold v_M_wrong_2 at hw
  refine X_run 3 (i1 := cond (cn2 .ge v4 v2) 161 5) (L1 := [some (.inr (.inr (some 21))), none, some (.inl v2), some (.inl v3), some (.inl v4), none, none, none, none, none, none, none]) (st1 := []) rfl ?_
  refine X_brq (fun hb => ?_) (fun hb => ?_)
  · skip
    refine X_run 1 (i1 := 162) (L1 := [some (.inr (.inr (some 21))), none, some (.inl v2), some (.inl v3), some (.inl v4), none, none, none, none, none, none, none]) (st1 := [.inl (-1 : Int32)]) rfl ?_
    exact X_iret rfl rfl qI_i
  · have hw := hw.2 hb
    refine X_run 1 (i1 := 6) (L1 := [some (.inr (.inr (some 21))), none, some (.inl v2), some (.inl v3), some (.inl v4), none, none, none, none, none, none, none]) (st1 := [.inr (.inr (some 21))]) rfl ?_
    refine X_gF (v := .inr (.inr (some 32))) rfl rfl rfl rfl ?_
    refine X_run 1 (i1 := 8) (L1 := [some (.inr (.inr (some 21))), none, some (.inl v2), some (.inl v3), some (.inl v4), none, none, none, none, none, none, none]) (st1 := [.inl v4, .inr (.inr (some 32))]) rfl ?_
    obtain ⟨hin, hw⟩ := hw
    refine X_aI rfl rfl hin ?_
    show X _ _ 9 [some (.inr (.inr (some 21))), none, some (.inl v2), some (.inl v3), some (.inl v4), none, none, none, none, none, none, none] [.inl (sA s 32 (Int32.toNatClampNeg v4))] (hp s) _
    refine X_run 2 (i1 := 11) (L1 := [some (.inr (.inr (some 21))), none, some (.inl v2), some (.inl v3), some (.inl v4), some (.inl (sA s 32 (Int32.toNatClampNeg v4))), none, none, none, none, none, none]) (st1 := [.inl (sA s 32 (Int32.toNatClampNeg v4))]) rfl ?_
    refine X_calls m_M_wholeOf (As := [.inl (sA s 32 (Int32.toNatClampNeg v4))]) (st := []) ok_M_wholeOf rfl rfl rfl (Nat.le_of_ble_eq_true rfl) (Nat.le_of_ble_eq_true rfl) (c_M_wholeOf (d := d) (sA s 32 (Int32.toNatClampNeg v4))) ?_
    rintro _ _ ⟨rfl, rfl⟩
    show X _ _ 12 [some (.inr (.inr (some 21))), none, some (.inl v2), some (.inl v3), some (.inl v4), some (.inl (sA s 32 (Int32.toNatClampNeg v4))), none, none, none, none, none, none] [.inl (f_M_wholeOf (sA s 32 (Int32.toNatClampNeg v4)))] (hp s) _
    refine X_run 4 (i1 := cond (cn2 .le (sA s 32 (Int32.toNatClampNeg v4)) (29 : Int32)) 21 16) (L1 := [some (.inr (.inr (some 21))), none, some (.inl v2), some (.inl v3), some (.inl v4), some (.inl (sA s 32 (Int32.toNatClampNeg v4))), some (.inl (f_M_wholeOf (sA s 32 (Int32.toNatClampNeg v4)))), none, none, none, none, none]) (st1 := []) rfl ?_
    refine X_brq (fun hb => ?_) (fun hb => ?_)
    · have hw := hw.1 hb
      exact hlp.2.1 s v2 v3 v4 (sA s 32 (Int32.toNatClampNeg v4)) (f_M_wholeOf (sA s 32 (Int32.toNatClampNeg v4))) hw
    · have hw := hw.2 hb
      refine X_run 3 (i1 := cond (cn2 .ge (sA s 32 (Int32.toNatClampNeg v4)) (33 : Int32)) 21 19) (L1 := [some (.inr (.inr (some 21))), none, some (.inl v2), some (.inl v3), some (.inl v4), some (.inl (sA s 32 (Int32.toNatClampNeg v4))), some (.inl (f_M_wholeOf (sA s 32 (Int32.toNatClampNeg v4)))), none, none, none, none, none]) (st1 := []) rfl ?_
      refine X_brq (fun hb => ?_) (fun hb => ?_)
      · have hw := hw.1 hb
        exact hlp.2.1 s v2 v3 v4 (sA s 32 (Int32.toNatClampNeg v4)) (f_M_wholeOf (sA s 32 (Int32.toNatClampNeg v4))) hw
      · have hw := hw.2 hb
        refine X_run 2 (i1 := 22) (L1 := [some (.inr (.inr (some 21))), none, some (.inl v2), some (.inl v3), some (.inl v4), some (.inl (sA s 32 (Int32.toNatClampNeg v4))), some (.inl (f_M_wholeOf (sA s 32 (Int32.toNatClampNeg v4)))), none, none, none, none, none]) (st1 := [.inl (1 : Int32)]) rfl ?_
        exact hlp.2.2.1 s v2 v3 v4 (sA s 32 (Int32.toNatClampNeg v4)) (f_M_wholeOf (sA s 32 (Int32.toNatClampNeg v4))) (1 : Int32) hw
def b_M_wrong_21 (rec : G_wrong) (fu : Nat) (lp : LT_M_wrong_2) (s : St) (v2 : Int32) (v3 : Int32) (v4 : Int32) (v5 : Int32) (v6 : Int32) : Int32 := (lp.2.2.1 s v2 v3 v4 v5 v6 (0 : Int32))
def v_M_wrong_21 (rec : G_wrong) (wrec : GW_wrong) (fu : Nat) (lp : LT_M_wrong_2) (wlp : LW_M_wrong_2) (s : St) (v2 : Int32) (v3 : Int32) (v4 : Int32) (v5 : Int32) (v6 : Int32) : Prop := (wlp.2.2.1 s v2 v3 v4 v5 v6 (0 : Int32))
theorem cb_M_wrong_21 {d : Nat} {rec : G_wrong} {wrec : GW_wrong} (hrec : hr_wrong (d) rec wrec) (fu : Nat) {lp : LT_M_wrong_2} {wlp : LW_M_wrong_2} (hlp : hl_M_wrong_2 (d + 1) lp wlp) (s : St) (v2 : Int32) (v3 : Int32) (v4 : Int32) (v5 : Int32) (v6 : Int32) (hw : v_M_wrong_21 rec wrec fu lp wlp s v2 v3 v4 v5 v6) : X m_M_wrong (d + 1) 21 [some (.inr (.inr (some 21))), none, some (.inl v2), some (.inl v3), some (.inl v4), some (.inl v5), some (.inl v6), none, none, none, none, none] [] (hp s) (qI (hp s) (b_M_wrong_21 rec fu lp s v2 v3 v4 v5 v6)) := by
  unfold b_M_wrong_21
  unfold v_M_wrong_21 at hw
  refine X_run 1 (i1 := 22) (L1 := [some (.inr (.inr (some 21))), none, some (.inl v2), some (.inl v3), some (.inl v4), some (.inl v5), some (.inl v6), none, none, none, none, none]) (st1 := [.inl (0 : Int32)]) rfl ?_
  exact hlp.2.2.1 s v2 v3 v4 v5 v6 (0 : Int32) hw
def b_M_wrong_22 (rec : G_wrong) (fu : Nat) (lp : LT_M_wrong_2) (s : St) (v2 : Int32) (v3 : Int32) (v4 : Int32) (v5 : Int32) (v6 : Int32) (w0 : Int32) : Int32 := (cond (cn1 .eq v6) v4 (cond (cn2 .gt (v4 + v6) v2) v4 (cond (cn1 .eq w0) (lp.2.2.2.1 s v2 v3 v4 v5 v6 w0) (cond (cn2 .ne v3 (10 : Int32)) (lp.2.2.2.1 s v2 v3 v4 v5 v6 w0) v4))))
def v_M_wrong_22 (rec : G_wrong) (wrec : GW_wrong) (fu : Nat) (lp : LT_M_wrong_2) (wlp : LW_M_wrong_2) (s : St) (v2 : Int32) (v3 : Int32) (v4 : Int32) (v5 : Int32) (v6 : Int32) (w0 : Int32) : Prop := ((cn1 .eq v6) = true → True) ∧ ((cn1 .eq v6) = false → ((cn2 .gt (v4 + v6) v2) = true → True) ∧ ((cn2 .gt (v4 + v6) v2) = false → ((cn1 .eq w0) = true → (wlp.2.2.2.1 s v2 v3 v4 v5 v6 w0)) ∧ ((cn1 .eq w0) = false → ((cn2 .ne v3 (10 : Int32)) = true → (wlp.2.2.2.1 s v2 v3 v4 v5 v6 w0)) ∧ ((cn2 .ne v3 (10 : Int32)) = false → True))))
theorem cb_M_wrong_22 {d : Nat} {rec : G_wrong} {wrec : GW_wrong} (hrec : hr_wrong (d) rec wrec) (fu : Nat) {lp : LT_M_wrong_2} {wlp : LW_M_wrong_2} (hlp : hl_M_wrong_2 (d + 1) lp wlp) (s : St) (v2 : Int32) (v3 : Int32) (v4 : Int32) (v5 : Int32) (v6 : Int32) (w0 : Int32) (hw : v_M_wrong_22 rec wrec fu lp wlp s v2 v3 v4 v5 v6 w0) : X m_M_wrong (d + 1) 22 [some (.inr (.inr (some 21))), none, some (.inl v2), some (.inl v3), some (.inl v4), some (.inl v5), some (.inl v6), none, none, none, none, none] [.inl w0] (hp s) (qI (hp s) (b_M_wrong_22 rec fu lp s v2 v3 v4 v5 v6 w0)) := by
  unfold b_M_wrong_22
  unfold v_M_wrong_22 at hw
  refine X_run 3 (i1 := cond (cn1 .eq v6) 35 25) (L1 := [some (.inr (.inr (some 21))), none, some (.inl v2), some (.inl v3), some (.inl v4), some (.inl v5), some (.inl v6), some (.inl w0), none, none, none, none]) (st1 := []) rfl ?_
  refine X_brq (fun hb => ?_) (fun hb => ?_)
  · skip
    refine X_run 1 (i1 := 36) (L1 := [some (.inr (.inr (some 21))), none, some (.inl v2), some (.inl v3), some (.inl v4), some (.inl v5), some (.inl v6), some (.inl w0), none, none, none, none]) (st1 := [.inl v4]) rfl ?_
    exact X_iret rfl rfl qI_i
  · have hw := hw.2 hb
    refine X_run 5 (i1 := cond (cn2 .gt (v4 + v6) v2) 35 30) (L1 := [some (.inr (.inr (some 21))), none, some (.inl v2), some (.inl v3), some (.inl v4), some (.inl v5), some (.inl v6), some (.inl w0), none, none, none, none]) (st1 := []) rfl ?_
    refine X_brq (fun hb => ?_) (fun hb => ?_)
    · skip
      refine X_run 1 (i1 := 36) (L1 := [some (.inr (.inr (some 21))), none, some (.inl v2), some (.inl v3), some (.inl v4), some (.inl v5), some (.inl v6), some (.inl w0), none, none, none, none]) (st1 := [.inl v4]) rfl ?_
      exact X_iret rfl rfl qI_i
    · have hw := hw.2 hb
      refine X_run 2 (i1 := cond (cn1 .eq w0) 37 32) (L1 := [some (.inr (.inr (some 21))), none, some (.inl v2), some (.inl v3), some (.inl v4), some (.inl v5), some (.inl v6), some (.inl w0), none, none, none, none]) (st1 := []) rfl ?_
      refine X_brq (fun hb => ?_) (fun hb => ?_)
      · have hw := hw.1 hb
        exact hlp.2.2.2.1 s v2 v3 v4 v5 v6 w0 hw
      · have hw := hw.2 hb
        refine X_run 3 (i1 := cond (cn2 .ne v3 (10 : Int32)) 37 35) (L1 := [some (.inr (.inr (some 21))), none, some (.inl v2), some (.inl v3), some (.inl v4), some (.inl v5), some (.inl v6), some (.inl w0), none, none, none, none]) (st1 := []) rfl ?_
        refine X_brq (fun hb => ?_) (fun hb => ?_)
        · have hw := hw.1 hb
          exact hlp.2.2.2.1 s v2 v3 v4 v5 v6 w0 hw
        · skip
          refine X_run 1 (i1 := 36) (L1 := [some (.inr (.inr (some 21))), none, some (.inl v2), some (.inl v3), some (.inl v4), some (.inl v5), some (.inl v6), some (.inl w0), none, none, none, none]) (st1 := [.inl v4]) rfl ?_
          exact X_iret rfl rfl qI_i
def b_M_wrong_37 (rec : G_wrong) (fu : Nat) (lp : LT_M_wrong_2) (s : St) (v2 : Int32) (v3 : Int32) (v4 : Int32) (v5 : Int32) (v6 : Int32) (v7 : Int32) : Int32 := (lp.2.2.2.2.1 s v2 v3 v4 v5 v6 v7 (0 : Int32))
def v_M_wrong_37 (rec : G_wrong) (wrec : GW_wrong) (fu : Nat) (lp : LT_M_wrong_2) (wlp : LW_M_wrong_2) (s : St) (v2 : Int32) (v3 : Int32) (v4 : Int32) (v5 : Int32) (v6 : Int32) (v7 : Int32) : Prop := (wlp.2.2.2.2.1 s v2 v3 v4 v5 v6 v7 (0 : Int32))
theorem cb_M_wrong_37 {d : Nat} {rec : G_wrong} {wrec : GW_wrong} (hrec : hr_wrong (d) rec wrec) (fu : Nat) {lp : LT_M_wrong_2} {wlp : LW_M_wrong_2} (hlp : hl_M_wrong_2 (d + 1) lp wlp) (s : St) (v2 : Int32) (v3 : Int32) (v4 : Int32) (v5 : Int32) (v6 : Int32) (v7 : Int32) (hw : v_M_wrong_37 rec wrec fu lp wlp s v2 v3 v4 v5 v6 v7) : X m_M_wrong (d + 1) 37 [some (.inr (.inr (some 21))), none, some (.inl v2), some (.inl v3), some (.inl v4), some (.inl v5), some (.inl v6), some (.inl v7), none, none, none, none] [] (hp s) (qI (hp s) (b_M_wrong_37 rec fu lp s v2 v3 v4 v5 v6 v7)) := by
  unfold b_M_wrong_37
  unfold v_M_wrong_37 at hw
  refine X_run 2 (i1 := 39) (L1 := [some (.inr (.inr (some 21))), none, some (.inl v2), some (.inl v3), some (.inl v4), some (.inl v5), some (.inl v6), some (.inl v7), some (.inl (0 : Int32)), none, none, none]) (st1 := []) rfl ?_
  exact hlp.2.2.2.2.1 s v2 v3 v4 v5 v6 v7 (0 : Int32) hw
def b_M_wrong_39 (rec : G_wrong) (fu : Nat) (lp : LT_M_wrong_2) (s : St) (v2 : Int32) (v3 : Int32) (v4 : Int32) (v5 : Int32) (v6 : Int32) (v7 : Int32) (v8 : Int32) : Int32 := (cond (cn2 .ge v8 (v6 - (1 : Int32))) (cond (cn1 .eq v7) (lp.2.2.2.2.2.2.2.2 s v2 v3 (v4 + v6)) (cond (cn2 .ne v5 (32 : Int32)) (lp.2.2.2.2.2.1 s v2 v3 v4 v6 (v4 + v6) (2 : Int32)) (lp.2.2.2.2.2.1 s v2 v3 v4 v6 (v4 + v6) (4 : Int32)))) (cond (cn2 .gt (sA s 32 (Int32.toNatClampNeg ((v4 + (1 : Int32)) + v8))) (f_M_mostOf v5 v8 (sA s 32 (Int32.toNatClampNeg (v4 + (1 : Int32)))))) (t_M_wrong_74 rec fu s v4 v8) (cond (cn2 .ge (sA s 32 (Int32.toNatClampNeg ((v4 + (1 : Int32)) + v8))) (f_M_leastOf v5 v8)) (lp.2.2.2.2.1 s v2 v3 v4 v5 v6 v7 (v8 + Int32.ofInt (1))) (t_M_wrong_74 rec fu s v4 v8))))
def v_M_wrong_39 (rec : G_wrong) (wrec : GW_wrong) (fu : Nat) (lp : LT_M_wrong_2) (wlp : LW_M_wrong_2) (s : St) (v2 : Int32) (v3 : Int32) (v4 : Int32) (v5 : Int32) (v6 : Int32) (v7 : Int32) (v8 : Int32) : Prop := ((cn2 .ge v8 (v6 - (1 : Int32))) = true → ((cn1 .eq v7) = true → (wlp.2.2.2.2.2.2.2.2 s v2 v3 (v4 + v6))) ∧ ((cn1 .eq v7) = false → ((cn2 .ne v5 (32 : Int32)) = true → (wlp.2.2.2.2.2.1 s v2 v3 v4 v6 (v4 + v6) (2 : Int32))) ∧ ((cn2 .ne v5 (32 : Int32)) = false → (wlp.2.2.2.2.2.1 s v2 v3 v4 v6 (v4 + v6) (4 : Int32))))) ∧ ((cn2 .ge v8 (v6 - (1 : Int32))) = false → (vp_in ((v4 + (1 : Int32)) + v8) 2000 ∧ (vp_in (v4 + (1 : Int32)) 2000 ∧ ((cn2 .gt (sA s 32 (Int32.toNatClampNeg ((v4 + (1 : Int32)) + v8))) (f_M_mostOf v5 v8 (sA s 32 (Int32.toNatClampNeg (v4 + (1 : Int32)))))) = true → (w_M_wrong_74 rec wrec fu s v4 v8)) ∧ ((cn2 .gt (sA s 32 (Int32.toNatClampNeg ((v4 + (1 : Int32)) + v8))) (f_M_mostOf v5 v8 (sA s 32 (Int32.toNatClampNeg (v4 + (1 : Int32)))))) = false → (vp_in ((v4 + (1 : Int32)) + v8) 2000 ∧ ((cn2 .ge (sA s 32 (Int32.toNatClampNeg ((v4 + (1 : Int32)) + v8))) (f_M_leastOf v5 v8)) = true → (wlp.2.2.2.2.1 s v2 v3 v4 v5 v6 v7 (v8 + Int32.ofInt (1)))) ∧ ((cn2 .ge (sA s 32 (Int32.toNatClampNeg ((v4 + (1 : Int32)) + v8))) (f_M_leastOf v5 v8)) = false → (w_M_wrong_74 rec wrec fu s v4 v8)))))))
theorem cb_M_wrong_39 {d : Nat} {rec : G_wrong} {wrec : GW_wrong} (hrec : hr_wrong (d) rec wrec) (fu : Nat) {lp : LT_M_wrong_2} {wlp : LW_M_wrong_2} (hlp : hl_M_wrong_2 (d + 1) lp wlp) (s : St) (v2 : Int32) (v3 : Int32) (v4 : Int32) (v5 : Int32) (v6 : Int32) (v7 : Int32) (v8 : Int32) (hw : v_M_wrong_39 rec wrec fu lp wlp s v2 v3 v4 v5 v6 v7 v8) : X m_M_wrong (d + 1) 39 [some (.inr (.inr (some 21))), none, some (.inl v2), some (.inl v3), some (.inl v4), some (.inl v5), some (.inl v6), some (.inl v7), some (.inl v8), none, none, none] [] (hp s) (qI (hp s) (b_M_wrong_39 rec fu lp s v2 v3 v4 v5 v6 v7 v8)) := by
  unfold b_M_wrong_39
  unfold v_M_wrong_39 at hw
  refine X_run 5 (i1 := cond (cn2 .ge v8 (v6 - (1 : Int32))) 82 44) (L1 := [some (.inr (.inr (some 21))), none, some (.inl v2), some (.inl v3), some (.inl v4), some (.inl v5), some (.inl v6), some (.inl v7), some (.inl v8), none, none, none]) (st1 := []) rfl ?_
  refine X_brq (fun hb => ?_) (fun hb => ?_)
  · have hw := hw.1 hb
    refine X_run 6 (i1 := cond (cn1 .eq v7) 158 88) (L1 := [some (.inr (.inr (some 21))), none, some (.inl v2), some (.inl v3), some (.inl v4), some (.inl v5), some (.inl v6), some (.inl v7), some (.inl (v4 + v6)), none, none, none]) (st1 := []) rfl ?_
    refine X_brq (fun hb => ?_) (fun hb => ?_)
    · have hw := hw.1 hb
      refine X_mask [true, true, true, true, false, false, false, false, true, true, true, true] ?_
      exact hlp.2.2.2.2.2.2.2.2 s v2 v3 (v4 + v6) hw
    · have hw := hw.2 hb
      refine X_run 3 (i1 := cond (cn2 .ne v5 (32 : Int32)) 93 91) (L1 := [some (.inr (.inr (some 21))), none, some (.inl v2), some (.inl v3), some (.inl v4), some (.inl v5), some (.inl v6), some (.inl v7), some (.inl (v4 + v6)), none, none, none]) (st1 := []) rfl ?_
      refine X_brq (fun hb => ?_) (fun hb => ?_)
      · have hw := hw.1 hb
        refine X_run 1 (i1 := 94) (L1 := [some (.inr (.inr (some 21))), none, some (.inl v2), some (.inl v3), some (.inl v4), some (.inl v5), some (.inl v6), some (.inl v7), some (.inl (v4 + v6)), none, none, none]) (st1 := [.inl (2 : Int32)]) rfl ?_
        refine X_mask [true, true, true, true, true, false, true, false, true, true, true, true] ?_
        exact hlp.2.2.2.2.2.1 s v2 v3 v4 v6 (v4 + v6) (2 : Int32) hw
      · have hw := hw.2 hb
        refine X_run 2 (i1 := 94) (L1 := [some (.inr (.inr (some 21))), none, some (.inl v2), some (.inl v3), some (.inl v4), some (.inl v5), some (.inl v6), some (.inl v7), some (.inl (v4 + v6)), none, none, none]) (st1 := [.inl (4 : Int32)]) rfl ?_
        refine X_mask [true, true, true, true, true, false, true, false, true, true, true, true] ?_
        exact hlp.2.2.2.2.2.1 s v2 v3 v4 v6 (v4 + v6) (4 : Int32) hw
  · have hw := hw.2 hb
    refine X_run 1 (i1 := 45) (L1 := [some (.inr (.inr (some 21))), none, some (.inl v2), some (.inl v3), some (.inl v4), some (.inl v5), some (.inl v6), some (.inl v7), some (.inl v8), none, none, none]) (st1 := [.inr (.inr (some 21))]) rfl ?_
    refine X_gF (v := .inr (.inr (some 32))) rfl rfl rfl rfl ?_
    refine X_run 5 (i1 := 51) (L1 := [some (.inr (.inr (some 21))), none, some (.inl v2), some (.inl v3), some (.inl v4), some (.inl v5), some (.inl v6), some (.inl v7), some (.inl v8), none, none, none]) (st1 := [.inl ((v4 + (1 : Int32)) + v8), .inr (.inr (some 32))]) rfl ?_
    obtain ⟨hin, hw⟩ := hw
    refine X_aI rfl rfl hin ?_
    show X _ _ 52 [some (.inr (.inr (some 21))), none, some (.inl v2), some (.inl v3), some (.inl v4), some (.inl v5), some (.inl v6), some (.inl v7), some (.inl v8), none, none, none] [.inl (sA s 32 (Int32.toNatClampNeg ((v4 + (1 : Int32)) + v8)))] (hp s) _
    refine X_run 3 (i1 := 55) (L1 := [some (.inr (.inr (some 21))), none, some (.inl v2), some (.inl v3), some (.inl v4), some (.inl v5), some (.inl v6), some (.inl v7), some (.inl v8), none, none, none]) (st1 := [.inr (.inr (some 21)), .inl v8, .inl v5, .inl (sA s 32 (Int32.toNatClampNeg ((v4 + (1 : Int32)) + v8)))]) rfl ?_
    refine X_gF (v := .inr (.inr (some 32))) rfl rfl rfl rfl ?_
    refine X_run 3 (i1 := 59) (L1 := [some (.inr (.inr (some 21))), none, some (.inl v2), some (.inl v3), some (.inl v4), some (.inl v5), some (.inl v6), some (.inl v7), some (.inl v8), none, none, none]) (st1 := [.inl (v4 + (1 : Int32)), .inr (.inr (some 32)), .inl v8, .inl v5, .inl (sA s 32 (Int32.toNatClampNeg ((v4 + (1 : Int32)) + v8)))]) rfl ?_
    obtain ⟨hin, hw⟩ := hw
    refine X_aI rfl rfl hin ?_
    show X _ _ 60 [some (.inr (.inr (some 21))), none, some (.inl v2), some (.inl v3), some (.inl v4), some (.inl v5), some (.inl v6), some (.inl v7), some (.inl v8), none, none, none] [.inl (sA s 32 (Int32.toNatClampNeg (v4 + (1 : Int32)))), .inl v8, .inl v5, .inl (sA s 32 (Int32.toNatClampNeg ((v4 + (1 : Int32)) + v8)))] (hp s) _
    refine X_calls m_M_mostOf (As := [.inl v5, .inl v8, .inl (sA s 32 (Int32.toNatClampNeg (v4 + (1 : Int32))))]) (st := [.inl (sA s 32 (Int32.toNatClampNeg ((v4 + (1 : Int32)) + v8)))]) ok_M_mostOf rfl rfl rfl (Nat.le_of_ble_eq_true rfl) (Nat.le_of_ble_eq_true rfl) (c_M_mostOf (d := d) v5 v8 (sA s 32 (Int32.toNatClampNeg (v4 + (1 : Int32))))) ?_
    rintro _ _ ⟨rfl, rfl⟩
    show X _ _ 61 [some (.inr (.inr (some 21))), none, some (.inl v2), some (.inl v3), some (.inl v4), some (.inl v5), some (.inl v6), some (.inl v7), some (.inl v8), none, none, none] [.inl (f_M_mostOf v5 v8 (sA s 32 (Int32.toNatClampNeg (v4 + (1 : Int32))))), .inl (sA s 32 (Int32.toNatClampNeg ((v4 + (1 : Int32)) + v8)))] (hp s) _
    refine X_run 1 (i1 := cond (cn2 .gt (sA s 32 (Int32.toNatClampNeg ((v4 + (1 : Int32)) + v8))) (f_M_mostOf v5 v8 (sA s 32 (Int32.toNatClampNeg (v4 + (1 : Int32)))))) 74 62) (L1 := [some (.inr (.inr (some 21))), none, some (.inl v2), some (.inl v3), some (.inl v4), some (.inl v5), some (.inl v6), some (.inl v7), some (.inl v8), none, none, none]) (st1 := []) rfl ?_
    refine X_brq (fun hb => ?_) (fun hb => ?_)
    · have hw := hw.1 hb
      refine X_mask [false, true, false, false, true, false, false, false, true, true, true, true] ?_
      exact ct_M_wrong_74 hrec fu s v4 v8 hw
    · have hw := hw.2 hb
      refine X_run 1 (i1 := 63) (L1 := [some (.inr (.inr (some 21))), none, some (.inl v2), some (.inl v3), some (.inl v4), some (.inl v5), some (.inl v6), some (.inl v7), some (.inl v8), none, none, none]) (st1 := [.inr (.inr (some 21))]) rfl ?_
      refine X_gF (v := .inr (.inr (some 32))) rfl rfl rfl rfl ?_
      refine X_run 5 (i1 := 69) (L1 := [some (.inr (.inr (some 21))), none, some (.inl v2), some (.inl v3), some (.inl v4), some (.inl v5), some (.inl v6), some (.inl v7), some (.inl v8), none, none, none]) (st1 := [.inl ((v4 + (1 : Int32)) + v8), .inr (.inr (some 32))]) rfl ?_
      obtain ⟨hin, hw⟩ := hw
      refine X_aI rfl rfl hin ?_
      show X _ _ 70 [some (.inr (.inr (some 21))), none, some (.inl v2), some (.inl v3), some (.inl v4), some (.inl v5), some (.inl v6), some (.inl v7), some (.inl v8), none, none, none] [.inl (sA s 32 (Int32.toNatClampNeg ((v4 + (1 : Int32)) + v8)))] (hp s) _
      refine X_run 2 (i1 := 72) (L1 := [some (.inr (.inr (some 21))), none, some (.inl v2), some (.inl v3), some (.inl v4), some (.inl v5), some (.inl v6), some (.inl v7), some (.inl v8), none, none, none]) (st1 := [.inl v8, .inl v5, .inl (sA s 32 (Int32.toNatClampNeg ((v4 + (1 : Int32)) + v8)))]) rfl ?_
      refine X_calls m_M_leastOf (As := [.inl v5, .inl v8]) (st := [.inl (sA s 32 (Int32.toNatClampNeg ((v4 + (1 : Int32)) + v8)))]) ok_M_leastOf rfl rfl rfl (Nat.le_of_ble_eq_true rfl) (Nat.le_of_ble_eq_true rfl) (c_M_leastOf (d := d) v5 v8) ?_
      rintro _ _ ⟨rfl, rfl⟩
      show X _ _ 73 [some (.inr (.inr (some 21))), none, some (.inl v2), some (.inl v3), some (.inl v4), some (.inl v5), some (.inl v6), some (.inl v7), some (.inl v8), none, none, none] [.inl (f_M_leastOf v5 v8), .inl (sA s 32 (Int32.toNatClampNeg ((v4 + (1 : Int32)) + v8)))] (hp s) _
      refine X_run 1 (i1 := cond (cn2 .ge (sA s 32 (Int32.toNatClampNeg ((v4 + (1 : Int32)) + v8))) (f_M_leastOf v5 v8)) 80 74) (L1 := [some (.inr (.inr (some 21))), none, some (.inl v2), some (.inl v3), some (.inl v4), some (.inl v5), some (.inl v6), some (.inl v7), some (.inl v8), none, none, none]) (st1 := []) rfl ?_
      refine X_brq (fun hb => ?_) (fun hb => ?_)
      · have hw := hw.1 hb
        refine X_run 2 (i1 := 39) (L1 := [some (.inr (.inr (some 21))), none, some (.inl v2), some (.inl v3), some (.inl v4), some (.inl v5), some (.inl v6), some (.inl v7), some (.inl (v8 + Int32.ofInt (1))), none, none, none]) (st1 := []) rfl ?_
        exact hlp.2.2.2.2.1 s v2 v3 v4 v5 v6 v7 (v8 + Int32.ofInt (1)) hw
      · have hw := hw.2 hb
        refine X_mask [false, true, false, false, true, false, false, false, true, true, true, true] ?_
        exact ct_M_wrong_74 hrec fu s v4 v8 hw
def b_M_wrong_94 (rec : G_wrong) (fu : Nat) (lp : LT_M_wrong_2) (s : St) (v2 : Int32) (v3 : Int32) (v4 : Int32) (v6 : Int32) (v8 : Int32) (w0 : Int32) : Int32 := (lp.2.2.2.2.2.2.1 s v2 v3 v4 v6 v8 w0 w0)
def v_M_wrong_94 (rec : G_wrong) (wrec : GW_wrong) (fu : Nat) (lp : LT_M_wrong_2) (wlp : LW_M_wrong_2) (s : St) (v2 : Int32) (v3 : Int32) (v4 : Int32) (v6 : Int32) (v8 : Int32) (w0 : Int32) : Prop := (wlp.2.2.2.2.2.2.1 s v2 v3 v4 v6 v8 w0 w0)
theorem cb_M_wrong_94 {d : Nat} {rec : G_wrong} {wrec : GW_wrong} (hrec : hr_wrong (d) rec wrec) (fu : Nat) {lp : LT_M_wrong_2} {wlp : LW_M_wrong_2} (hlp : hl_M_wrong_2 (d + 1) lp wlp) (s : St) (v2 : Int32) (v3 : Int32) (v4 : Int32) (v6 : Int32) (v8 : Int32) (w0 : Int32) (hw : v_M_wrong_94 rec wrec fu lp wlp s v2 v3 v4 v6 v8 w0) : X m_M_wrong (d + 1) 94 [some (.inr (.inr (some 21))), none, some (.inl v2), some (.inl v3), some (.inl v4), none, some (.inl v6), none, some (.inl v8), none, none, none] [.inl w0] (hp s) (qI (hp s) (b_M_wrong_94 rec fu lp s v2 v3 v4 v6 v8 w0)) := by
  unfold b_M_wrong_94
  unfold v_M_wrong_94 at hw
  refine X_run 3 (i1 := 97) (L1 := [some (.inr (.inr (some 21))), none, some (.inl v2), some (.inl v3), some (.inl v4), none, some (.inl v6), none, some (.inl v8), some (.inl w0), some (.inl w0), none]) (st1 := []) rfl ?_
  exact hlp.2.2.2.2.2.2.1 s v2 v3 v4 v6 v8 w0 w0 hw
def b_M_wrong_97 (rec : G_wrong) (fu : Nat) (lp : LT_M_wrong_2) (s : St) (v2 : Int32) (v3 : Int32) (v4 : Int32) (v6 : Int32) (v8 : Int32) (v9 : Int32) (v10 : Int32) : Int32 := (cond (cn2 .ge v10 v6) (lp.2.2.2.2.2.2.2.1 s v2 v3 v4 v6 (v4 + v6) v9) (cond (cn2 .le (v8 + (sA s 32 (Int32.toNatClampNeg (v4 + v10)))) v2) (lp.2.2.2.2.2.2.1 s v2 v3 v4 v6 (v8 + (sA s 32 (Int32.toNatClampNeg (v4 + v10)))) v9 (v10 + Int32.ofInt (1))) (v4 + v10)))
def v_M_wrong_97 (rec : G_wrong) (wrec : GW_wrong) (fu : Nat) (lp : LT_M_wrong_2) (wlp : LW_M_wrong_2) (s : St) (v2 : Int32) (v3 : Int32) (v4 : Int32) (v6 : Int32) (v8 : Int32) (v9 : Int32) (v10 : Int32) : Prop := ((cn2 .ge v10 v6) = true → (wlp.2.2.2.2.2.2.2.1 s v2 v3 v4 v6 (v4 + v6) v9)) ∧ ((cn2 .ge v10 v6) = false → (vp_in (v4 + v10) 2000 ∧ ((cn2 .le (v8 + (sA s 32 (Int32.toNatClampNeg (v4 + v10)))) v2) = true → (wlp.2.2.2.2.2.2.1 s v2 v3 v4 v6 (v8 + (sA s 32 (Int32.toNatClampNeg (v4 + v10)))) v9 (v10 + Int32.ofInt (1)))) ∧ ((cn2 .le (v8 + (sA s 32 (Int32.toNatClampNeg (v4 + v10)))) v2) = false → True)))
theorem cb_M_wrong_97 {d : Nat} {rec : G_wrong} {wrec : GW_wrong} (hrec : hr_wrong (d) rec wrec) (fu : Nat) {lp : LT_M_wrong_2} {wlp : LW_M_wrong_2} (hlp : hl_M_wrong_2 (d + 1) lp wlp) (s : St) (v2 : Int32) (v3 : Int32) (v4 : Int32) (v6 : Int32) (v8 : Int32) (v9 : Int32) (v10 : Int32) (hw : v_M_wrong_97 rec wrec fu lp wlp s v2 v3 v4 v6 v8 v9 v10) : X m_M_wrong (d + 1) 97 [some (.inr (.inr (some 21))), none, some (.inl v2), some (.inl v3), some (.inl v4), none, some (.inl v6), none, some (.inl v8), some (.inl v9), some (.inl v10), none] [] (hp s) (qI (hp s) (b_M_wrong_97 rec fu lp s v2 v3 v4 v6 v8 v9 v10)) := by
  unfold b_M_wrong_97
  unfold v_M_wrong_97 at hw
  refine X_run 3 (i1 := cond (cn2 .ge v10 v6) 118 100) (L1 := [some (.inr (.inr (some 21))), none, some (.inl v2), some (.inl v3), some (.inl v4), none, some (.inl v6), none, some (.inl v8), some (.inl v9), some (.inl v10), none]) (st1 := []) rfl ?_
  refine X_brq (fun hb => ?_) (fun hb => ?_)
  · have hw := hw.1 hb
    refine X_run 6 (i1 := 124) (L1 := [some (.inr (.inr (some 21))), none, some (.inl v2), some (.inl v3), some (.inl v4), none, some (.inl v6), none, some (.inl (v4 + v6)), some (.inl v9), some (.inl v9), none]) (st1 := []) rfl ?_
    refine X_mask [true, true, true, true, true, true, true, true, true, false, true, true] ?_
    exact hlp.2.2.2.2.2.2.2.1 s v2 v3 v4 v6 (v4 + v6) v9 hw
  · have hw := hw.2 hb
    refine X_run 2 (i1 := 102) (L1 := [some (.inr (.inr (some 21))), none, some (.inl v2), some (.inl v3), some (.inl v4), none, some (.inl v6), none, some (.inl v8), some (.inl v9), some (.inl v10), none]) (st1 := [.inr (.inr (some 21)), .inl v8]) rfl ?_
    refine X_gF (v := .inr (.inr (some 32))) rfl rfl rfl rfl ?_
    refine X_run 3 (i1 := 106) (L1 := [some (.inr (.inr (some 21))), none, some (.inl v2), some (.inl v3), some (.inl v4), none, some (.inl v6), none, some (.inl v8), some (.inl v9), some (.inl v10), none]) (st1 := [.inl (v4 + v10), .inr (.inr (some 32)), .inl v8]) rfl ?_
    obtain ⟨hin, hw⟩ := hw
    refine X_aI rfl rfl hin ?_
    show X _ _ 107 [some (.inr (.inr (some 21))), none, some (.inl v2), some (.inl v3), some (.inl v4), none, some (.inl v6), none, some (.inl v8), some (.inl v9), some (.inl v10), none] [.inl (sA s 32 (Int32.toNatClampNeg (v4 + v10))), .inl v8] (hp s) _
    refine X_run 5 (i1 := cond (cn2 .le (v8 + (sA s 32 (Int32.toNatClampNeg (v4 + v10)))) v2) 116 112) (L1 := [some (.inr (.inr (some 21))), none, some (.inl v2), some (.inl v3), some (.inl v4), none, some (.inl v6), none, some (.inl (v8 + (sA s 32 (Int32.toNatClampNeg (v4 + v10))))), some (.inl v9), some (.inl v10), none]) (st1 := []) rfl ?_
    refine X_brq (fun hb => ?_) (fun hb => ?_)
    · have hw := hw.1 hb
      refine X_run 2 (i1 := 97) (L1 := [some (.inr (.inr (some 21))), none, some (.inl v2), some (.inl v3), some (.inl v4), none, some (.inl v6), none, some (.inl (v8 + (sA s 32 (Int32.toNatClampNeg (v4 + v10))))), some (.inl v9), some (.inl (v10 + Int32.ofInt (1))), none]) (st1 := []) rfl ?_
      exact hlp.2.2.2.2.2.2.1 s v2 v3 v4 v6 (v8 + (sA s 32 (Int32.toNatClampNeg (v4 + v10)))) v9 (v10 + Int32.ofInt (1)) hw
    · skip
      refine X_run 3 (i1 := 115) (L1 := [some (.inr (.inr (some 21))), none, some (.inl v2), some (.inl v3), some (.inl v4), none, some (.inl v6), none, some (.inl (v8 + (sA s 32 (Int32.toNatClampNeg (v4 + v10))))), some (.inl v9), some (.inl v10), none]) (st1 := [.inl (v4 + v10)]) rfl ?_
      exact X_iret rfl rfl qI_i
def b_M_wrong_124 (rec : G_wrong) (fu : Nat) (lp : LT_M_wrong_2) (s : St) (v2 : Int32) (v3 : Int32) (v4 : Int32) (v6 : Int32) (v8 : Int32) (v10 : Int32) : Int32 := (cond (cn2 .ge v10 v6) (lp.2.2.2.2.2.2.2.2 s v2 v3 v8) (cond (cn2 .eq (rec s v8 (v8 + (sA s 32 (Int32.toNatClampNeg (v4 + v10)))) (v3 + (1 : Int32))) (-1 : Int32)) (lp.2.2.2.2.2.2.2.1 s v2 v3 v4 v6 (v8 + (sA s 32 (Int32.toNatClampNeg (v4 + v10)))) (v10 + Int32.ofInt (1))) (rec s v8 (v8 + (sA s 32 (Int32.toNatClampNeg (v4 + v10)))) (v3 + (1 : Int32)))))
def v_M_wrong_124 (rec : G_wrong) (wrec : GW_wrong) (fu : Nat) (lp : LT_M_wrong_2) (wlp : LW_M_wrong_2) (s : St) (v2 : Int32) (v3 : Int32) (v4 : Int32) (v6 : Int32) (v8 : Int32) (v10 : Int32) : Prop := ((cn2 .ge v10 v6) = true → (wlp.2.2.2.2.2.2.2.2 s v2 v3 v8)) ∧ ((cn2 .ge v10 v6) = false → (vp_in (v4 + v10) 2000 ∧ (wrec s v8 (v8 + (sA s 32 (Int32.toNatClampNeg (v4 + v10)))) (v3 + (1 : Int32)) ∧ ((cn2 .eq (rec s v8 (v8 + (sA s 32 (Int32.toNatClampNeg (v4 + v10)))) (v3 + (1 : Int32))) (-1 : Int32)) = true → (vp_in (v4 + v10) 2000 ∧ (wlp.2.2.2.2.2.2.2.1 s v2 v3 v4 v6 (v8 + (sA s 32 (Int32.toNatClampNeg (v4 + v10)))) (v10 + Int32.ofInt (1))))) ∧ ((cn2 .eq (rec s v8 (v8 + (sA s 32 (Int32.toNatClampNeg (v4 + v10)))) (v3 + (1 : Int32))) (-1 : Int32)) = false → True))))
theorem cb_M_wrong_124 {d : Nat} {rec : G_wrong} {wrec : GW_wrong} (hrec : hr_wrong (d) rec wrec) (fu : Nat) {lp : LT_M_wrong_2} {wlp : LW_M_wrong_2} (hlp : hl_M_wrong_2 (d + 1) lp wlp) (s : St) (v2 : Int32) (v3 : Int32) (v4 : Int32) (v6 : Int32) (v8 : Int32) (v10 : Int32) (hw : v_M_wrong_124 rec wrec fu lp wlp s v2 v3 v4 v6 v8 v10) : X m_M_wrong (d + 1) 124 [some (.inr (.inr (some 21))), none, some (.inl v2), some (.inl v3), some (.inl v4), none, some (.inl v6), none, some (.inl v8), none, some (.inl v10), none] [] (hp s) (qI (hp s) (b_M_wrong_124 rec fu lp s v2 v3 v4 v6 v8 v10)) := by
  unfold b_M_wrong_124
  unfold v_M_wrong_124 at hw
  refine X_run 3 (i1 := cond (cn2 .ge v10 v6) 158 127) (L1 := [some (.inr (.inr (some 21))), none, some (.inl v2), some (.inl v3), some (.inl v4), none, some (.inl v6), none, some (.inl v8), none, some (.inl v10), none]) (st1 := []) rfl ?_
  refine X_brq (fun hb => ?_) (fun hb => ?_)
  · have hw := hw.1 hb
    refine X_mask [true, true, true, true, false, true, false, true, true, true, false, true] ?_
    exact hlp.2.2.2.2.2.2.2.2 s v2 v3 v8 hw
  · have hw := hw.2 hb
    refine X_run 4 (i1 := 131) (L1 := [some (.inr (.inr (some 21))), none, some (.inl v2), some (.inl v3), some (.inl v4), none, some (.inl v6), none, some (.inl v8), none, some (.inl v10), none]) (st1 := [.inr (.inr (some 21)), .inl v8, .inl v8, .inr (.inr (some 21))]) rfl ?_
    refine X_gF (v := .inr (.inr (some 32))) rfl rfl rfl rfl ?_
    refine X_run 3 (i1 := 135) (L1 := [some (.inr (.inr (some 21))), none, some (.inl v2), some (.inl v3), some (.inl v4), none, some (.inl v6), none, some (.inl v8), none, some (.inl v10), none]) (st1 := [.inl (v4 + v10), .inr (.inr (some 32)), .inl v8, .inl v8, .inr (.inr (some 21))]) rfl ?_
    obtain ⟨hin, hw⟩ := hw
    refine X_aI rfl rfl hin ?_
    show X _ _ 136 [some (.inr (.inr (some 21))), none, some (.inl v2), some (.inl v3), some (.inl v4), none, some (.inl v6), none, some (.inl v8), none, some (.inl v10), none] [.inl (sA s 32 (Int32.toNatClampNeg (v4 + v10))), .inl v8, .inl v8, .inr (.inr (some 21))] (hp s) _
    refine X_run 4 (i1 := 140) (L1 := [some (.inr (.inr (some 21))), none, some (.inl v2), some (.inl v3), some (.inl v4), none, some (.inl v6), none, some (.inl v8), none, some (.inl v10), none]) (st1 := [.inl (v3 + (1 : Int32)), .inl (v8 + (sA s 32 (Int32.toNatClampNeg (v4 + v10)))), .inl v8, .inr (.inr (some 21))]) rfl ?_
    obtain ⟨hc, hw⟩ := hw
    refine X_callv m_M_wrong (As := [.inl v8, .inl (v8 + (sA s 32 (Int32.toNatClampNeg (v4 + v10)))), .inl (v3 + (1 : Int32))]) (st := []) ok_M_wrong rfl rfl rfl (hp_obj rfl) rfl (Nat.le_of_ble_eq_true rfl) (Nat.le_of_ble_eq_true rfl) (hrec s v8 (v8 + (sA s 32 (Int32.toNatClampNeg (v4 + v10)))) (v3 + (1 : Int32)) hc) ?_
    rintro _ _ ⟨rfl, rfl⟩
    show X _ _ 141 [some (.inr (.inr (some 21))), none, some (.inl v2), some (.inl v3), some (.inl v4), none, some (.inl v6), none, some (.inl v8), none, some (.inl v10), none] [.inl (rec s v8 (v8 + (sA s 32 (Int32.toNatClampNeg (v4 + v10)))) (v3 + (1 : Int32)))] (hp s) _
    refine X_run 4 (i1 := cond (cn2 .eq (rec s v8 (v8 + (sA s 32 (Int32.toNatClampNeg (v4 + v10)))) (v3 + (1 : Int32))) (-1 : Int32)) 147 145) (L1 := [some (.inr (.inr (some 21))), none, some (.inl v2), some (.inl v3), some (.inl v4), none, some (.inl v6), none, some (.inl v8), none, some (.inl v10), some (.inl (rec s v8 (v8 + (sA s 32 (Int32.toNatClampNeg (v4 + v10)))) (v3 + (1 : Int32))))]) (st1 := []) rfl ?_
    refine X_brq (fun hb => ?_) (fun hb => ?_)
    · have hw := hw.1 hb
      refine X_run 2 (i1 := 149) (L1 := [some (.inr (.inr (some 21))), none, some (.inl v2), some (.inl v3), some (.inl v4), none, some (.inl v6), none, some (.inl v8), none, some (.inl v10), some (.inl (rec s v8 (v8 + (sA s 32 (Int32.toNatClampNeg (v4 + v10)))) (v3 + (1 : Int32))))]) (st1 := [.inr (.inr (some 21)), .inl v8]) rfl ?_
      refine X_gF (v := .inr (.inr (some 32))) rfl rfl rfl rfl ?_
      refine X_run 3 (i1 := 153) (L1 := [some (.inr (.inr (some 21))), none, some (.inl v2), some (.inl v3), some (.inl v4), none, some (.inl v6), none, some (.inl v8), none, some (.inl v10), some (.inl (rec s v8 (v8 + (sA s 32 (Int32.toNatClampNeg (v4 + v10)))) (v3 + (1 : Int32))))]) (st1 := [.inl (v4 + v10), .inr (.inr (some 32)), .inl v8]) rfl ?_
      obtain ⟨hin, hw⟩ := hw
      refine X_aI rfl rfl hin ?_
      show X _ _ 154 [some (.inr (.inr (some 21))), none, some (.inl v2), some (.inl v3), some (.inl v4), none, some (.inl v6), none, some (.inl v8), none, some (.inl v10), some (.inl (rec s v8 (v8 + (sA s 32 (Int32.toNatClampNeg (v4 + v10)))) (v3 + (1 : Int32))))] [.inl (sA s 32 (Int32.toNatClampNeg (v4 + v10))), .inl v8] (hp s) _
      refine X_run 4 (i1 := 124) (L1 := [some (.inr (.inr (some 21))), none, some (.inl v2), some (.inl v3), some (.inl v4), none, some (.inl v6), none, some (.inl (v8 + (sA s 32 (Int32.toNatClampNeg (v4 + v10))))), none, some (.inl (v10 + Int32.ofInt (1))), some (.inl (rec s v8 (v8 + (sA s 32 (Int32.toNatClampNeg (v4 + v10)))) (v3 + (1 : Int32))))]) (st1 := []) rfl ?_
      refine X_mask [true, true, true, true, true, true, true, true, true, true, true, false] ?_
      exact hlp.2.2.2.2.2.2.2.1 s v2 v3 v4 v6 (v8 + (sA s 32 (Int32.toNatClampNeg (v4 + v10)))) (v10 + Int32.ofInt (1)) hw
    · skip
      refine X_run 1 (i1 := 146) (L1 := [some (.inr (.inr (some 21))), none, some (.inl v2), some (.inl v3), some (.inl v4), none, some (.inl v6), none, some (.inl v8), none, some (.inl v10), some (.inl (rec s v8 (v8 + (sA s 32 (Int32.toNatClampNeg (v4 + v10)))) (v3 + (1 : Int32))))]) (st1 := [.inl (rec s v8 (v8 + (sA s 32 (Int32.toNatClampNeg (v4 + v10)))) (v3 + (1 : Int32)))]) rfl ?_
      exact X_iret rfl rfl qI_i
def b_M_wrong_158 (rec : G_wrong) (fu : Nat) (lp : LT_M_wrong_2) (s : St) (v2 : Int32) (v3 : Int32) (v8 : Int32) : Int32 := (lp.1 s v2 v3 v8)
def v_M_wrong_158 (rec : G_wrong) (wrec : GW_wrong) (fu : Nat) (lp : LT_M_wrong_2) (wlp : LW_M_wrong_2) (s : St) (v2 : Int32) (v3 : Int32) (v8 : Int32) : Prop := (wlp.1 s v2 v3 v8)
theorem cb_M_wrong_158 {d : Nat} {rec : G_wrong} {wrec : GW_wrong} (hrec : hr_wrong (d) rec wrec) (fu : Nat) {lp : LT_M_wrong_2} {wlp : LW_M_wrong_2} (hlp : hl_M_wrong_2 (d + 1) lp wlp) (s : St) (v2 : Int32) (v3 : Int32) (v8 : Int32) (hw : v_M_wrong_158 rec wrec fu lp wlp s v2 v3 v8) : X m_M_wrong (d + 1) 158 [some (.inr (.inr (some 21))), none, some (.inl v2), some (.inl v3), none, none, none, none, some (.inl v8), none, none, none] [] (hp s) (qI (hp s) (b_M_wrong_158 rec fu lp s v2 v3 v8)) := by
  unfold b_M_wrong_158
  unfold v_M_wrong_158 at hw
  refine X_run 3 (i1 := 2) (L1 := [some (.inr (.inr (some 21))), none, some (.inl v2), some (.inl v3), some (.inl v8), none, none, none, some (.inl v8), none, none, none]) (st1 := []) rfl ?_
  refine X_mask [true, true, true, true, true, true, true, true, false, true, true, true] ?_
  exact hlp.1 s v2 v3 v8 hw
def T_M_wrong_2 (rec : G_wrong) (fu : Nat) : Nat → LT_M_wrong_2
  | 0 => (fun _ _ _ _ => 0, fun _ _ _ _ _ _ => 0, fun _ _ _ _ _ _ _ => 0, fun _ _ _ _ _ _ _ => 0, fun _ _ _ _ _ _ _ _ => 0, fun _ _ _ _ _ _ _ => 0, fun _ _ _ _ _ _ _ _ => 0, fun _ _ _ _ _ _ _ => 0, fun _ _ _ _ => 0)
  | n + 1 => (fun s v2 v3 v4 => b_M_wrong_2 rec fu (T_M_wrong_2 rec fu n) s v2 v3 v4, fun s v2 v3 v4 v5 v6 => b_M_wrong_21 rec fu (T_M_wrong_2 rec fu n) s v2 v3 v4 v5 v6, fun s v2 v3 v4 v5 v6 w0 => b_M_wrong_22 rec fu (T_M_wrong_2 rec fu n) s v2 v3 v4 v5 v6 w0, fun s v2 v3 v4 v5 v6 v7 => b_M_wrong_37 rec fu (T_M_wrong_2 rec fu n) s v2 v3 v4 v5 v6 v7, fun s v2 v3 v4 v5 v6 v7 v8 => b_M_wrong_39 rec fu (T_M_wrong_2 rec fu n) s v2 v3 v4 v5 v6 v7 v8, fun s v2 v3 v4 v6 v8 w0 => b_M_wrong_94 rec fu (T_M_wrong_2 rec fu n) s v2 v3 v4 v6 v8 w0, fun s v2 v3 v4 v6 v8 v9 v10 => b_M_wrong_97 rec fu (T_M_wrong_2 rec fu n) s v2 v3 v4 v6 v8 v9 v10, fun s v2 v3 v4 v6 v8 v10 => b_M_wrong_124 rec fu (T_M_wrong_2 rec fu n) s v2 v3 v4 v6 v8 v10, fun s v2 v3 v8 => b_M_wrong_158 rec fu (T_M_wrong_2 rec fu n) s v2 v3 v8)
def WT_M_wrong_2 (rec : G_wrong) (wrec : GW_wrong) (fu : Nat) : Nat → LW_M_wrong_2
  | 0 => (fun _ _ _ _ => False, fun _ _ _ _ _ _ => False, fun _ _ _ _ _ _ _ => False, fun _ _ _ _ _ _ _ => False, fun _ _ _ _ _ _ _ _ => False, fun _ _ _ _ _ _ _ => False, fun _ _ _ _ _ _ _ _ => False, fun _ _ _ _ _ _ _ => False, fun _ _ _ _ => False)
  | n + 1 => (fun s v2 v3 v4 => v_M_wrong_2 rec wrec fu (T_M_wrong_2 rec fu n) (WT_M_wrong_2 rec wrec fu n) s v2 v3 v4, fun s v2 v3 v4 v5 v6 => v_M_wrong_21 rec wrec fu (T_M_wrong_2 rec fu n) (WT_M_wrong_2 rec wrec fu n) s v2 v3 v4 v5 v6, fun s v2 v3 v4 v5 v6 w0 => v_M_wrong_22 rec wrec fu (T_M_wrong_2 rec fu n) (WT_M_wrong_2 rec wrec fu n) s v2 v3 v4 v5 v6 w0, fun s v2 v3 v4 v5 v6 v7 => v_M_wrong_37 rec wrec fu (T_M_wrong_2 rec fu n) (WT_M_wrong_2 rec wrec fu n) s v2 v3 v4 v5 v6 v7, fun s v2 v3 v4 v5 v6 v7 v8 => v_M_wrong_39 rec wrec fu (T_M_wrong_2 rec fu n) (WT_M_wrong_2 rec wrec fu n) s v2 v3 v4 v5 v6 v7 v8, fun s v2 v3 v4 v6 v8 w0 => v_M_wrong_94 rec wrec fu (T_M_wrong_2 rec fu n) (WT_M_wrong_2 rec wrec fu n) s v2 v3 v4 v6 v8 w0, fun s v2 v3 v4 v6 v8 v9 v10 => v_M_wrong_97 rec wrec fu (T_M_wrong_2 rec fu n) (WT_M_wrong_2 rec wrec fu n) s v2 v3 v4 v6 v8 v9 v10, fun s v2 v3 v4 v6 v8 v10 => v_M_wrong_124 rec wrec fu (T_M_wrong_2 rec fu n) (WT_M_wrong_2 rec wrec fu n) s v2 v3 v4 v6 v8 v10, fun s v2 v3 v8 => v_M_wrong_158 rec wrec fu (T_M_wrong_2 rec fu n) (WT_M_wrong_2 rec wrec fu n) s v2 v3 v8)
theorem cT_M_wrong_2 {d : Nat} {rec : G_wrong} {wrec : GW_wrong} (hrec : hr_wrong (d) rec wrec) (fu : Nat) : ∀ n : Nat, hl_M_wrong_2 (d + 1) (T_M_wrong_2 rec fu n) (WT_M_wrong_2 rec wrec fu n)
  | 0 => ⟨fun _ _ _ _ hw => hw.elim, fun _ _ _ _ _ _ hw => hw.elim, fun _ _ _ _ _ _ _ hw => hw.elim, fun _ _ _ _ _ _ _ hw => hw.elim, fun _ _ _ _ _ _ _ _ hw => hw.elim, fun _ _ _ _ _ _ _ hw => hw.elim, fun _ _ _ _ _ _ _ _ hw => hw.elim, fun _ _ _ _ _ _ _ hw => hw.elim, fun _ _ _ _ hw => hw.elim⟩
  | n + 1 => ⟨fun s v2 v3 v4 hw => cb_M_wrong_2 hrec fu (cT_M_wrong_2 hrec fu n) s v2 v3 v4 hw, fun s v2 v3 v4 v5 v6 hw => cb_M_wrong_21 hrec fu (cT_M_wrong_2 hrec fu n) s v2 v3 v4 v5 v6 hw, fun s v2 v3 v4 v5 v6 w0 hw => cb_M_wrong_22 hrec fu (cT_M_wrong_2 hrec fu n) s v2 v3 v4 v5 v6 w0 hw, fun s v2 v3 v4 v5 v6 v7 hw => cb_M_wrong_37 hrec fu (cT_M_wrong_2 hrec fu n) s v2 v3 v4 v5 v6 v7 hw, fun s v2 v3 v4 v5 v6 v7 v8 hw => cb_M_wrong_39 hrec fu (cT_M_wrong_2 hrec fu n) s v2 v3 v4 v5 v6 v7 v8 hw, fun s v2 v3 v4 v6 v8 w0 hw => cb_M_wrong_94 hrec fu (cT_M_wrong_2 hrec fu n) s v2 v3 v4 v6 v8 w0 hw, fun s v2 v3 v4 v6 v8 v9 v10 hw => cb_M_wrong_97 hrec fu (cT_M_wrong_2 hrec fu n) s v2 v3 v4 v6 v8 v9 v10 hw, fun s v2 v3 v4 v6 v8 v10 hw => cb_M_wrong_124 hrec fu (cT_M_wrong_2 hrec fu n) s v2 v3 v4 v6 v8 v10 hw, fun s v2 v3 v8 hw => cb_M_wrong_158 hrec fu (cT_M_wrong_2 hrec fu n) s v2 v3 v8 hw⟩
def f_M_wrong (rec : G_wrong) (fu : Nat) (s : St) (a0 : Int32) (a1 : Int32) (a2 : Int32) : Int32 := ((T_M_wrong_2 rec fu fu).1 s a1 a2 a0)
def w_M_wrong (rec : G_wrong) (wrec : GW_wrong) (fu : Nat) (s : St) (a0 : Int32) (a1 : Int32) (a2 : Int32) : Prop := ((WT_M_wrong_2 rec wrec fu fu).1 s a1 a2 a0)
theorem c_M_wrong {d : Nat} {rec : G_wrong} {wrec : GW_wrong} (hrec : hr_wrong (d) rec wrec) (fu : Nat) (s : St) (a0 : Int32) (a1 : Int32) (a2 : Int32) (hw : w_M_wrong rec wrec fu s a0 a1 a2) : X m_M_wrong (d + 1) 0 (entL 12 [.inr (.inr (some 21)), .inl a0, .inl a1, .inl a2]) [] (hp s) (qI (hp s) (f_M_wrong rec fu s a0 a1 a2)) := by
  unfold f_M_wrong
  unfold w_M_wrong at hw
  refine X_run 2 (i1 := 2) (L1 := [some (.inr (.inr (some 21))), some (.inl a0), some (.inl a1), some (.inl a2), some (.inl a0), none, none, none, none, none, none, none]) (st1 := []) rfl ?_
  refine X_mask [true, false, true, true, true, true, true, true, true, true, true, true] ?_
  exact (cT_M_wrong_2 hrec fu fu).1 s a1 a2 a0 hw
def F_wrong (fu : Nat) : Nat → G_wrong
  | 0 => fun _ _ _ _ => 0
  | n + 1 => fun s a0 a1 a2 => f_M_wrong (F_wrong fu n) fu s a0 a1 a2
def W_wrong (fu : Nat) : Nat → GW_wrong
  | 0 => fun _ _ _ _ => False
  | n + 1 => fun s a0 a1 a2 => w_M_wrong (F_wrong fu n) (W_wrong fu n) fu s a0 a1 a2
theorem cF_wrong (fu : Nat) : ∀ (n d : Nat), hr_wrong (d + n + 1) (F_wrong fu n) (W_wrong fu n)
  | 0, d => fun _ _ _ _ hw => hw.elim
  | n + 1, d => by
    have hrec : hr_wrong (d + 1 + n + 1 - 1) (F_wrong fu n) (W_wrong fu n) := by
      have h := cF_wrong fu n d
      rw [show d + 1 + n + 1 - 1 = d + n + 1 by omega]; exact h
    have e : d + (n + 1) + 1 = (d + 1 + n) + 1 := by omega
    rw [e]
    exact (fun s a0 a1 a2 hw => c_M_wrong (d := d + 1 + n) hrec fu s a0 a1 a2 hw)
def t_M_patch_36 (fu : Nat) : Nat → St → Int32 → Int32 → Int32 → Int32 × St
  | 0, s, _, _, _ => (0, s)
  | n + 1, s, v1, v2, v4 => (cond (cn2 .ge v4 v2) ((0 : Int32), pA s 31 (upd (sA s 31) (Int32.toNatClampNeg v1) v2)) (t_M_patch_36 fu n (pA s 30 (upd (sA s 30) (Int32.toNatClampNeg (((200 : Int32) * v1) + v4)) (sA s 32 (Int32.toNatClampNeg v4)))) v1 v2 (v4 + Int32.ofInt (1))))
def w_M_patch_36 (fu : Nat) : Nat → St → Int32 → Int32 → Int32 → Prop
  | 0, _, _, _, _ => False
  | n + 1, s, v1, v2, v4 => ((cn2 .ge v4 v2) = true → (vp_in v1 16 ∧ True)) ∧ ((cn2 .ge v4 v2) = false → (vp_in v4 2000 ∧ (vp_in (((200 : Int32) * v1) + v4) 3200 ∧ (w_M_patch_36 fu n (pA s 30 (upd (sA s 30) (Int32.toNatClampNeg (((200 : Int32) * v1) + v4)) (sA s 32 (Int32.toNatClampNeg v4)))) v1 v2 (v4 + Int32.ofInt (1))))))
theorem ct_M_patch_36 {d : Nat} (fu : Nat) : ∀ (n : Nat) (s : St) (v1 : Int32) (v2 : Int32) (v4 : Int32), w_M_patch_36 fu n s v1 v2 v4 → X m_M_patch (d + 14) 36 [some (.inr (.inr (some 21))), some (.inl v1), some (.inl v2), none, some (.inl v4)] [] (hp s) (qIs (t_M_patch_36 fu n s v1 v2 v4))
  | 0, s, v1, v2, v4, hw => hw.elim
  | n + 1, s, v1, v2, v4, hw => by
    have ih := @ct_M_patch_36 d fu n
    unfold t_M_patch_36
    unfold w_M_patch_36 at hw
    refine X_run 3 (i1 := cond (cn2 .ge v4 v2) 53 39) (L1 := [some (.inr (.inr (some 21))), some (.inl v1), some (.inl v2), none, some (.inl v4)]) (st1 := []) rfl ?_
    refine X_brq (fun hb => ?_) (fun hb => ?_)
    · have hw := hw.1 hb
      refine X_run 1 (i1 := 54) (L1 := [some (.inr (.inr (some 21))), some (.inl v1), some (.inl v2), none, some (.inl v4)]) (st1 := [.inr (.inr (some 21))]) rfl ?_
      refine X_gF (v := .inr (.inr (some 31))) rfl rfl rfl rfl ?_
      refine X_run 2 (i1 := 57) (L1 := [some (.inr (.inr (some 21))), some (.inl v1), some (.inl v2), none, some (.inl v4)]) (st1 := [.inl v2, .inl v1, .inr (.inr (some 31))]) rfl ?_
      obtain ⟨hin, hw⟩ := hw
      refine X_sI rfl rfl hin ?_
      show X _ _ 58 [some (.inr (.inr (some 21))), some (.inl v1), some (.inl v2), none, some (.inl v4)] [] (hp (pA s 31 (upd (sA s 31) (Int32.toNatClampNeg v1) v2))) _
      refine X_run 1 (i1 := 59) (L1 := [some (.inr (.inr (some 21))), some (.inl v1), some (.inl v2), none, some (.inl v4)]) (st1 := [.inl (0 : Int32)]) rfl ?_
      exact X_iret rfl rfl qIs_i
    · have hw := hw.2 hb
      refine X_run 1 (i1 := 40) (L1 := [some (.inr (.inr (some 21))), some (.inl v1), some (.inl v2), none, some (.inl v4)]) (st1 := [.inr (.inr (some 21))]) rfl ?_
      refine X_gF (v := .inr (.inr (some 30))) rfl rfl rfl rfl ?_
      refine X_run 6 (i1 := 47) (L1 := [some (.inr (.inr (some 21))), some (.inl v1), some (.inl v2), none, some (.inl v4)]) (st1 := [.inr (.inr (some 21)), .inl (((200 : Int32) * v1) + v4), .inr (.inr (some 30))]) rfl ?_
      refine X_gF (v := .inr (.inr (some 32))) rfl rfl rfl rfl ?_
      refine X_run 1 (i1 := 49) (L1 := [some (.inr (.inr (some 21))), some (.inl v1), some (.inl v2), none, some (.inl v4)]) (st1 := [.inl v4, .inr (.inr (some 32)), .inl (((200 : Int32) * v1) + v4), .inr (.inr (some 30))]) rfl ?_
      obtain ⟨hin, hw⟩ := hw
      refine X_aI rfl rfl hin ?_
      show X _ _ 50 [some (.inr (.inr (some 21))), some (.inl v1), some (.inl v2), none, some (.inl v4)] [.inl (sA s 32 (Int32.toNatClampNeg v4)), .inl (((200 : Int32) * v1) + v4), .inr (.inr (some 30))] (hp s) _
      obtain ⟨hin, hw⟩ := hw
      refine X_sI rfl rfl hin ?_
      show X _ _ 51 [some (.inr (.inr (some 21))), some (.inl v1), some (.inl v2), none, some (.inl v4)] [] (hp (pA s 30 (upd (sA s 30) (Int32.toNatClampNeg (((200 : Int32) * v1) + v4)) (sA s 32 (Int32.toNatClampNeg v4))))) _
      refine X_run 2 (i1 := 36) (L1 := [some (.inr (.inr (some 21))), some (.inl v1), some (.inl v2), none, some (.inl (v4 + Int32.ofInt (1)))]) (st1 := []) rfl ?_
      exact ih (pA s 30 (upd (sA s 30) (Int32.toNatClampNeg (((200 : Int32) * v1) + v4)) (sA s 32 (Int32.toNatClampNeg v4)))) v1 v2 (v4 + Int32.ofInt (1)) hw
def f_M_patch (fu : Nat) (s : St) (a0 : Int32) : Int32 × St := (cond (cn1 .lt a0) ((-1 : Int32), pI s 21 0 (0 : Int32)) (cond (cn2 .lt a0 (16 : Int32)) (cond (cn2 .le (sI s 21 23) (200 : Int32)) (cond (cn2 .eq ((F_wrong fu 12) (pI (pI s 21 0 (0 : Int32)) 21 23 (0 : Int32)) (0 : Int32) (sI s 21 23) (0 : Int32)) (-1 : Int32)) (t_M_patch_36 fu fu (pI (pI s 21 0 (0 : Int32)) 21 23 (0 : Int32)) a0 (sI s 21 23) (0 : Int32)) ((1 : Int32) + ((F_wrong fu 12) (pI (pI s 21 0 (0 : Int32)) 21 23 (0 : Int32)) (0 : Int32) (sI s 21 23) (0 : Int32)), pI (pI s 21 0 (0 : Int32)) 21 23 (0 : Int32))) ((201 : Int32), pI (pI s 21 0 (0 : Int32)) 21 23 (0 : Int32))) ((-1 : Int32), pI s 21 0 (0 : Int32))))
def w_M_patch (fu : Nat) (s : St) (a0 : Int32) : Prop := ((cn1 .lt a0) = true → True) ∧ ((cn1 .lt a0) = false → ((cn2 .lt a0 (16 : Int32)) = true → ((cn2 .le (sI s 21 23) (200 : Int32)) = true → ((W_wrong fu 12) (pI (pI s 21 0 (0 : Int32)) 21 23 (0 : Int32)) (0 : Int32) (sI s 21 23) (0 : Int32) ∧ ((cn2 .eq ((F_wrong fu 12) (pI (pI s 21 0 (0 : Int32)) 21 23 (0 : Int32)) (0 : Int32) (sI s 21 23) (0 : Int32)) (-1 : Int32)) = true → (w_M_patch_36 fu fu (pI (pI s 21 0 (0 : Int32)) 21 23 (0 : Int32)) a0 (sI s 21 23) (0 : Int32))) ∧ ((cn2 .eq ((F_wrong fu 12) (pI (pI s 21 0 (0 : Int32)) 21 23 (0 : Int32)) (0 : Int32) (sI s 21 23) (0 : Int32)) (-1 : Int32)) = false → True))) ∧ ((cn2 .le (sI s 21 23) (200 : Int32)) = false → True)) ∧ ((cn2 .lt a0 (16 : Int32)) = false → True))
theorem c_M_patch {d : Nat} (fu : Nat) (s : St) (a0 : Int32) (hw : w_M_patch fu s a0) : X m_M_patch (d + 14) 0 (entL 5 [.inr (.inr (some 21)), .inl a0]) [] (hp s) (qIs (f_M_patch fu s a0)) := by
  unfold f_M_patch
  unfold w_M_patch at hw
  refine X_run 2 (i1 := 2) (L1 := [some (.inr (.inr (some 21))), some (.inl a0), none, none, none]) (st1 := [.inl (0 : Int32), .inr (.inr (some 21))]) rfl ?_
  refine X_pI rfl rfl rfl rfl ?_
  refine X_run 2 (i1 := cond (cn1 .lt a0) 8 5) (L1 := [some (.inr (.inr (some 21))), some (.inl a0), none, none, none]) (st1 := []) rfl ?_
  refine X_brq (fun hb => ?_) (fun hb => ?_)
  · skip
    refine X_run 1 (i1 := 9) (L1 := [some (.inr (.inr (some 21))), some (.inl a0), none, none, none]) (st1 := [.inl (-1 : Int32)]) rfl ?_
    exact X_iret rfl rfl qIs_i
  · have hw := hw.2 hb
    refine X_run 3 (i1 := cond (cn2 .lt a0 (16 : Int32)) 10 8) (L1 := [some (.inr (.inr (some 21))), some (.inl a0), none, none, none]) (st1 := []) rfl ?_
    refine X_brq (fun hb => ?_) (fun hb => ?_)
    · have hw := hw.1 hb
      refine X_run 1 (i1 := 11) (L1 := [some (.inr (.inr (some 21))), some (.inl a0), none, none, none]) (st1 := [.inr (.inr (some 21))]) rfl ?_
      refine X_gF (v := .inl (sI s 21 23)) rfl rfl rfl rfl ?_
      refine X_run 3 (i1 := 15) (L1 := [some (.inr (.inr (some 21))), some (.inl a0), some (.inl (sI s 21 23)), none, none]) (st1 := [.inl (0 : Int32), .inr (.inr (some 21))]) rfl ?_
      refine X_pI rfl rfl rfl rfl ?_
      refine X_run 3 (i1 := cond (cn2 .le (sI s 21 23) (200 : Int32)) 21 19) (L1 := [some (.inr (.inr (some 21))), some (.inl a0), some (.inl (sI s 21 23)), none, none]) (st1 := []) rfl ?_
      refine X_brq (fun hb => ?_) (fun hb => ?_)
      · have hw := hw.1 hb
        refine X_run 4 (i1 := 25) (L1 := [some (.inr (.inr (some 21))), some (.inl a0), some (.inl (sI s 21 23)), none, none]) (st1 := [.inl (0 : Int32), .inl (sI s 21 23), .inl (0 : Int32), .inr (.inr (some 21))]) rfl ?_
        obtain ⟨hc, hw⟩ := hw
        refine X_callv m_M_wrong (As := [.inl (0 : Int32), .inl (sI s 21 23), .inl (0 : Int32)]) (st := []) ok_M_wrong rfl rfl rfl (hp_obj rfl) rfl (Nat.le_of_ble_eq_true rfl) (Nat.le_of_ble_eq_true rfl) ((cF_wrong fu 12 (d)) (pI (pI s 21 0 (0 : Int32)) 21 23 (0 : Int32)) (0 : Int32) (sI s 21 23) (0 : Int32) hc) ?_
        rintro _ _ ⟨rfl, rfl⟩
        show X _ _ 26 [some (.inr (.inr (some 21))), some (.inl a0), some (.inl (sI s 21 23)), none, none] [.inl ((F_wrong fu 12) (pI (pI s 21 0 (0 : Int32)) 21 23 (0 : Int32)) (0 : Int32) (sI s 21 23) (0 : Int32))] (hp (pI (pI s 21 0 (0 : Int32)) 21 23 (0 : Int32))) _
        refine X_run 4 (i1 := cond (cn2 .eq ((F_wrong fu 12) (pI (pI s 21 0 (0 : Int32)) 21 23 (0 : Int32)) (0 : Int32) (sI s 21 23) (0 : Int32)) (-1 : Int32)) 34 30) (L1 := [some (.inr (.inr (some 21))), some (.inl a0), some (.inl (sI s 21 23)), some (.inl ((F_wrong fu 12) (pI (pI s 21 0 (0 : Int32)) 21 23 (0 : Int32)) (0 : Int32) (sI s 21 23) (0 : Int32))), none]) (st1 := []) rfl ?_
        refine X_brq (fun hb => ?_) (fun hb => ?_)
        · have hw := hw.1 hb
          refine X_run 2 (i1 := 36) (L1 := [some (.inr (.inr (some 21))), some (.inl a0), some (.inl (sI s 21 23)), some (.inl ((F_wrong fu 12) (pI (pI s 21 0 (0 : Int32)) 21 23 (0 : Int32)) (0 : Int32) (sI s 21 23) (0 : Int32))), some (.inl (0 : Int32))]) (st1 := []) rfl ?_
          refine X_mask [true, true, true, false, true] ?_
          exact ct_M_patch_36 fu fu (pI (pI s 21 0 (0 : Int32)) 21 23 (0 : Int32)) a0 (sI s 21 23) (0 : Int32) hw
        · skip
          refine X_run 3 (i1 := 33) (L1 := [some (.inr (.inr (some 21))), some (.inl a0), some (.inl (sI s 21 23)), some (.inl ((F_wrong fu 12) (pI (pI s 21 0 (0 : Int32)) 21 23 (0 : Int32)) (0 : Int32) (sI s 21 23) (0 : Int32))), none]) (st1 := [.inl ((1 : Int32) + ((F_wrong fu 12) (pI (pI s 21 0 (0 : Int32)) 21 23 (0 : Int32)) (0 : Int32) (sI s 21 23) (0 : Int32)))]) rfl ?_
          exact X_iret rfl rfl qIs_i
      · skip
        refine X_run 1 (i1 := 20) (L1 := [some (.inr (.inr (some 21))), some (.inl a0), some (.inl (sI s 21 23)), none, none]) (st1 := [.inl (201 : Int32)]) rfl ?_
        exact X_iret rfl rfl qIs_i
    · skip
      refine X_run 1 (i1 := 9) (L1 := [some (.inr (.inr (some 21))), some (.inl a0), none, none, none]) (st1 := [.inl (-1 : Int32)]) rfl ?_
      exact X_iret rfl rfl qIs_i
