abbrev G_part : Type := (St → Int32 → Int32 → Int32 × St) × (St → Int32 → Int32 × St) × (St → Int32 → Int32 → Int32 × St)
abbrev GW_part : Type := (St → Int32 → Int32 → Prop) × (St → Int32 → Prop) × (St → Int32 → Int32 → Prop)
def hr_part (d : Nat) (rec : G_part) (wrec : GW_part) : Prop := (∀ (s : St) (a0 : Int32) (a1 : Int32), wrec.1 s a0 a1 → X m_M_part d 0 (entL 9 [.inr (.inr (some 21)), .inl a0, .inl a1]) [] (hp s) (qIs (rec.1 s a0 a1))) ∧ (∀ (s : St) (a0 : Int32), wrec.2.1 s a0 → X m_M_patches d 0 (entL 3 [.inr (.inr (some 21)), .inl a0]) [] (hp s) (qIs (rec.2.1 s a0))) ∧ (∀ (s : St) (a0 : Int32) (a1 : Int32), wrec.2.2 s a0 a1 → X m_M_scope d 0 (entL 11 [.inr (.inr (some 21)), .inl a0, .inl a1]) [] (hp s) (qIs (rec.2.2 s a0 a1)))
abbrev LT_M_part_2 : Type := (St → Int32 → Int32 → Int32 × St) × (St → Int32 → Int32 → Int32 → Int32 → Int32 × St) × (St → Int32 → Int32 → Int32 → Int32 → Int32 → Int32 × St) × (St → Int32 → Int32 → Int32 → Int32 → Int32 → Int32 × St) × (St → Int32 → Int32 → Int32 → Int32 → Int32 → Int32 → Int32 × St) × (St → Int32 → Int32 → Int32 → Int32 → Int32 → Int32 × St) × (St → Int32 → Int32 → Int32 → Int32 → Int32 → Int32 × St) × (St → Int32 → Int32 → Int32 → Int32 → Int32 → Int32 → Int32 × St) × (St → Int32 → Int32 → Int32 → Int32 → Int32 × St) × (St → Int32 → Int32 → Int32 → Int32 → Int32 × St) × (St → Int32 → Int32 → Int32 → Int32 × St) × (St → Int32 → Int32 → Int32 → Int32 × St) × (St → Int32 → Int32 → Int32 → Int32 × St) × (St → Int32 → Int32 → Int32 → Int32 × St)
abbrev LW_M_part_2 : Type := (St → Int32 → Int32 → Prop) × (St → Int32 → Int32 → Int32 → Int32 → Prop) × (St → Int32 → Int32 → Int32 → Int32 → Int32 → Prop) × (St → Int32 → Int32 → Int32 → Int32 → Int32 → Prop) × (St → Int32 → Int32 → Int32 → Int32 → Int32 → Int32 → Prop) × (St → Int32 → Int32 → Int32 → Int32 → Int32 → Prop) × (St → Int32 → Int32 → Int32 → Int32 → Int32 → Prop) × (St → Int32 → Int32 → Int32 → Int32 → Int32 → Int32 → Prop) × (St → Int32 → Int32 → Int32 → Int32 → Prop) × (St → Int32 → Int32 → Int32 → Int32 → Prop) × (St → Int32 → Int32 → Int32 → Prop) × (St → Int32 → Int32 → Int32 → Prop) × (St → Int32 → Int32 → Int32 → Prop) × (St → Int32 → Int32 → Int32 → Prop)
def hl_M_part_2 (d : Nat) (lp : LT_M_part_2) (wlp : LW_M_part_2) : Prop := (∀ (s : St) (v2 : Int32) (v3 : Int32), wlp.1 s v2 v3 → X m_M_part d 2 [some (.inr (.inr (some 21))), none, some (.inl v2), some (.inl v3), none, none, none, none, none] [] (hp s) (qIs (lp.1 s v2 v3))) ∧ (∀ (s : St) (v2 : Int32) (v3 : Int32) (v4 : Int32) (w0 : Int32), wlp.2.1 s v2 v3 v4 w0 → X m_M_part d 13 [some (.inr (.inr (some 21))), none, some (.inl v2), some (.inl v3), some (.inl v4), none, none, none, none] [.inl w0] (hp s) (qIs (lp.2.1 s v2 v3 v4 w0))) ∧ (∀ (s : St) (v2 : Int32) (v6 : Int32) (v7 : Int32) (v8 : Int32) (w0 : Int32), wlp.2.2.1 s v2 v6 v7 v8 w0 → X m_M_part d 56 [some (.inr (.inr (some 21))), none, some (.inl v2), none, none, none, some (.inl v6), some (.inl v7), some (.inl v8)] [.inl w0] (hp s) (qIs (lp.2.2.1 s v2 v6 v7 v8 w0))) ∧ (∀ (s : St) (v2 : Int32) (v6 : Int32) (v7 : Int32) (v8 : Int32) (w0 : Int32), wlp.2.2.2.1 s v2 v6 v7 v8 w0 → X m_M_part d 67 [some (.inr (.inr (some 21))), none, some (.inl v2), none, none, none, some (.inl v6), some (.inl v7), some (.inl v8)] [.inl w0] (hp s) (qIs (lp.2.2.2.1 s v2 v6 v7 v8 w0))) ∧ (∀ (s : St) (v2 : Int32) (v3 : Int32) (v5 : Int32) (v6 : Int32) (v7 : Int32) (v8 : Int32), wlp.2.2.2.2.1 s v2 v3 v5 v6 v7 v8 → X m_M_part d 87 [some (.inr (.inr (some 21))), none, some (.inl v2), some (.inl v3), none, some (.inl v5), some (.inl v6), some (.inl v7), some (.inl v8)] [] (hp s) (qIs (lp.2.2.2.2.1 s v2 v3 v5 v6 v7 v8))) ∧ (∀ (s : St) (v2 : Int32) (v3 : Int32) (v6 : Int32) (v7 : Int32) (w0 : Int32), wlp.2.2.2.2.2.1 s v2 v3 v6 v7 w0 → X m_M_part d 104 [some (.inr (.inr (some 21))), none, some (.inl v2), some (.inl v3), none, none, some (.inl v6), some (.inl v7), none] [.inl w0] (hp s) (qIs (lp.2.2.2.2.2.1 s v2 v3 v6 v7 w0))) ∧ (∀ (s : St) (v2 : Int32) (v3 : Int32) (v5 : Int32) (v6 : Int32) (v7 : Int32), wlp.2.2.2.2.2.2.1 s v2 v3 v5 v6 v7 → X m_M_part d 105 [some (.inr (.inr (some 21))), none, some (.inl v2), some (.inl v3), none, some (.inl v5), some (.inl v6), some (.inl v7), none] [] (hp s) (qIs (lp.2.2.2.2.2.2.1 s v2 v3 v5 v6 v7))) ∧ (∀ (s : St) (v2 : Int32) (v3 : Int32) (v6 : Int32) (v7 : Int32) (v8 : Int32) (w0 : Int32), wlp.2.2.2.2.2.2.2.1 s v2 v3 v6 v7 v8 w0 → X m_M_part d 115 [some (.inr (.inr (some 21))), none, some (.inl v2), some (.inl v3), none, none, some (.inl v6), some (.inl v7), some (.inl v8)] [.inl w0] (hp s) (qIs (lp.2.2.2.2.2.2.2.1 s v2 v3 v6 v7 v8 w0))) ∧ (∀ (s : St) (v2 : Int32) (v5 : Int32) (v6 : Int32) (v7 : Int32), wlp.2.2.2.2.2.2.2.2.1 s v2 v5 v6 v7 → X m_M_part d 117 [some (.inr (.inr (some 21))), none, some (.inl v2), none, none, some (.inl v5), some (.inl v6), some (.inl v7), none] [] (hp s) (qIs (lp.2.2.2.2.2.2.2.2.1 s v2 v5 v6 v7))) ∧ (∀ (s : St) (v2 : Int32) (v3 : Int32) (v6 : Int32) (w0 : Int32), wlp.2.2.2.2.2.2.2.2.2.1 s v2 v3 v6 w0 → X m_M_part d 129 [some (.inr (.inr (some 21))), none, some (.inl v2), some (.inl v3), none, none, some (.inl v6), none, none] [.inl w0] (hp s) (qIs (lp.2.2.2.2.2.2.2.2.2.1 s v2 v3 v6 w0))) ∧ (∀ (s : St) (v2 : Int32) (v5 : Int32) (v6 : Int32), wlp.2.2.2.2.2.2.2.2.2.2.1 s v2 v5 v6 → X m_M_part d 153 [some (.inr (.inr (some 21))), none, some (.inl v2), none, none, some (.inl v5), some (.inl v6), none, none] [] (hp s) (qIs (lp.2.2.2.2.2.2.2.2.2.2.1 s v2 v5 v6))) ∧ (∀ (s : St) (v2 : Int32) (v6 : Int32) (w0 : Int32), wlp.2.2.2.2.2.2.2.2.2.2.2.1 s v2 v6 w0 → X m_M_part d 165 [some (.inr (.inr (some 21))), none, some (.inl v2), none, none, none, some (.inl v6), none, none] [.inl w0] (hp s) (qIs (lp.2.2.2.2.2.2.2.2.2.2.2.1 s v2 v6 w0))) ∧ (∀ (s : St) (v2 : Int32) (v6 : Int32) (w0 : Int32), wlp.2.2.2.2.2.2.2.2.2.2.2.2.1 s v2 v6 w0 → X m_M_part d 173 [some (.inr (.inr (some 21))), none, some (.inl v2), none, none, none, some (.inl v6), none, none] [.inl w0] (hp s) (qIs (lp.2.2.2.2.2.2.2.2.2.2.2.2.1 s v2 v6 w0))) ∧ (∀ (s : St) (v2 : Int32) (v5 : Int32) (v6 : Int32), wlp.2.2.2.2.2.2.2.2.2.2.2.2.2 s v2 v5 v6 → X m_M_part d 174 [some (.inr (.inr (some 21))), none, some (.inl v2), none, none, some (.inl v5), some (.inl v6), none, none] [] (hp s) (qIs (lp.2.2.2.2.2.2.2.2.2.2.2.2.2 s v2 v5 v6)))
def b_M_part_2 (rec : G_part) (fu : Nat) (lp : LT_M_part_2) (s : St) (v2 : Int32) (v3 : Int32) : Int32 × St := (cond (cn2 .ge v3 v2) ((0 : Int32), s) (lp.2.1 ((f_M_takes s (1 : Int64)).2) v2 v3 (sA s 30 (Int32.toNatClampNeg v3)) ((f_M_takes s (1 : Int64)).1)))
def v_M_part_2 (rec : G_part) (wrec : GW_part) (fu : Nat) (lp : LT_M_part_2) (wlp : LW_M_part_2) (s : St) (v2 : Int32) (v3 : Int32) : Prop := ((cn2 .ge v3 v2) = true → True) ∧ ((cn2 .ge v3 v2) = false → (vp_in v3 3200 ∧ (w_M_takes s (1 : Int64) ∧ (wlp.2.1 ((f_M_takes s (1 : Int64)).2) v2 v3 (sA s 30 (Int32.toNatClampNeg v3)) ((f_M_takes s (1 : Int64)).1)))))
theorem cb_M_part_2 {d : Nat} {rec : G_part} {wrec : GW_part} (hrec : hr_part (d + 38) rec wrec) (fu : Nat) {lp : LT_M_part_2} {wlp : LW_M_part_2} (hlp : hl_M_part_2 (d + 39) lp wlp) (s : St) (v2 : Int32) (v3 : Int32) (hw : v_M_part_2 rec wrec fu lp wlp s v2 v3) : X m_M_part (d + 39) 2 [some (.inr (.inr (some 21))), none, some (.inl v2), some (.inl v3), none, none, none, none, none] [] (hp s) (qIs (b_M_part_2 rec fu lp s v2 v3)) := by
  unfold b_M_part_2
  unfold v_M_part_2 at hw
  refine X_run 3 (i1 := cond (cn2 .ge v3 v2) 181 5) (L1 := [some (.inr (.inr (some 21))), none, some (.inl v2), some (.inl v3), none, none, none, none, none]) (st1 := []) rfl ?_
  refine X_brq (fun hb => ?_) (fun hb => ?_)
  · skip
    refine X_run 1 (i1 := 182) (L1 := [some (.inr (.inr (some 21))), none, some (.inl v2), some (.inl v3), none, none, none, none, none]) (st1 := [.inl (0 : Int32)]) rfl ?_
    exact X_iret rfl rfl qIs_i
  · have hw := hw.2 hb
    refine X_run 1 (i1 := 6) (L1 := [some (.inr (.inr (some 21))), none, some (.inl v2), some (.inl v3), none, none, none, none, none]) (st1 := [.inr (.inr (some 21))]) rfl ?_
    refine X_gF (v := .inr (.inr (some 30))) rfl rfl rfl rfl ?_
    refine X_run 1 (i1 := 8) (L1 := [some (.inr (.inr (some 21))), none, some (.inl v2), some (.inl v3), none, none, none, none, none]) (st1 := [.inl v3, .inr (.inr (some 30))]) rfl ?_
    obtain ⟨hin, hw⟩ := hw
    refine X_aI rfl rfl hin ?_
    show X _ _ 9 [some (.inr (.inr (some 21))), none, some (.inl v2), some (.inl v3), none, none, none, none, none] [.inl (sA s 30 (Int32.toNatClampNeg v3))] (hp s) _
    refine X_run 3 (i1 := 12) (L1 := [some (.inr (.inr (some 21))), none, some (.inl v2), some (.inl v3), some (.inl (sA s 30 (Int32.toNatClampNeg v3))), none, none, none, none]) (st1 := [.inr (.inl (1 : Int64)), .inr (.inr (some 21))]) rfl ?_
    obtain ⟨hc, hw⟩ := hw
    refine X_callv m_M_takes (As := [.inr (.inl (1 : Int64))]) (st := []) ok_M_takes rfl rfl rfl (hp_obj rfl) rfl (Nat.le_of_ble_eq_true rfl) (Nat.le_of_ble_eq_true rfl) (c_M_takes (d := d + 38) s (1 : Int64) hc) ?_
    rintro _ _ ⟨rfl, rfl⟩
    show X _ _ 13 [some (.inr (.inr (some 21))), none, some (.inl v2), some (.inl v3), some (.inl (sA s 30 (Int32.toNatClampNeg v3))), none, none, none, none] [.inl ((f_M_takes s (1 : Int64)).1)] (hp ((f_M_takes s (1 : Int64)).2)) _
    show X _ _ 13 [some (.inr (.inr (some 21))), none, some (.inl v2), some (.inl v3), some (.inl (sA s 30 (Int32.toNatClampNeg v3))), none, none, none, none] [.inl ((f_M_takes s (1 : Int64)).1)] (hp ((f_M_takes s (1 : Int64)).2)) _
    exact hlp.2.1 ((f_M_takes s (1 : Int64)).2) v2 v3 (sA s 30 (Int32.toNatClampNeg v3)) ((f_M_takes s (1 : Int64)).1) hw
def b_M_part_13 (rec : G_part) (fu : Nat) (lp : LT_M_part_2) (s : St) (v2 : Int32) (v3 : Int32) (v4 : Int32) (w0 : Int32) : Int32 × St := (cond (cn1 .eq w0) (cond (cn2 .ne v4 (30 : Int32)) (cond (cn2 .ne v4 (31 : Int32)) (cond (cn2 .ne v4 (32 : Int32)) (cond (cn2 .ne v4 (33 : Int32)) (lp.2.2.2.2.2.2.2.2.2.2.2.2.1 ((f_M_act fu s v4 (v3 + (1 : Int32))).2) v2 (v3 + (f_M_wholeOf v4)) ((f_M_act fu s v4 (v3 + (1 : Int32))).1)) (lp.2.2.2.2.2.2.2.2.2.2.2.1 ((rec.2.1 s (sA s 30 (Int32.toNatClampNeg (v3 + (1 : Int32))))).2) v2 (v3 + (f_M_wholeOf v4)) ((rec.2.1 s (sA s 30 (Int32.toNatClampNeg (v3 + (1 : Int32))))).1))) (lp.2.2.2.2.2.2.2.2.2.1 ((rec.2.2 s v3 (v3 + (f_M_wholeOf v4))).2) v2 v3 (v3 + (f_M_wholeOf v4)) ((rec.2.2 s v3 (v3 + (f_M_wholeOf v4))).1))) (lp.2.2.2.2.1 s v2 v3 w0 (v3 + (f_M_wholeOf v4)) (sA s 30 (Int32.toNatClampNeg (v3 + (2 : Int32)))) (1 : Int32))) (cond (cn1 .eq (sA s 28 (Int32.toNatClampNeg (sA s 30 (Int32.toNatClampNeg (v3 + (1 : Int32))))))) (lp.2.2.2.1 ((rec.1 s ((v3 + (f_M_wholeOf v4)) + (sA s 30 (Int32.toNatClampNeg (v3 + (2 : Int32))))) (((v3 + (f_M_wholeOf v4)) + (sA s 30 (Int32.toNatClampNeg (v3 + (2 : Int32))))) + (sA s 30 (Int32.toNatClampNeg (v3 + (3 : Int32)))))).2) v2 (v3 + (f_M_wholeOf v4)) (sA s 30 (Int32.toNatClampNeg (v3 + (2 : Int32)))) (sA s 30 (Int32.toNatClampNeg (v3 + (3 : Int32)))) ((rec.1 s ((v3 + (f_M_wholeOf v4)) + (sA s 30 (Int32.toNatClampNeg (v3 + (2 : Int32))))) (((v3 + (f_M_wholeOf v4)) + (sA s 30 (Int32.toNatClampNeg (v3 + (2 : Int32))))) + (sA s 30 (Int32.toNatClampNeg (v3 + (3 : Int32)))))).1)) (lp.2.2.1 ((rec.1 s (v3 + (f_M_wholeOf v4)) ((v3 + (f_M_wholeOf v4)) + (sA s 30 (Int32.toNatClampNeg (v3 + (2 : Int32)))))).2) v2 (v3 + (f_M_wholeOf v4)) (sA s 30 (Int32.toNatClampNeg (v3 + (2 : Int32)))) (sA s 30 (Int32.toNatClampNeg (v3 + (3 : Int32)))) ((rec.1 s (v3 + (f_M_wholeOf v4)) ((v3 + (f_M_wholeOf v4)) + (sA s 30 (Int32.toNatClampNeg (v3 + (2 : Int32)))))).1)))) (w0, s))
def v_M_part_13 (rec : G_part) (wrec : GW_part) (fu : Nat) (lp : LT_M_part_2) (wlp : LW_M_part_2) (s : St) (v2 : Int32) (v3 : Int32) (v4 : Int32) (w0 : Int32) : Prop := ((cn1 .eq w0) = true → ((cn2 .ne v4 (30 : Int32)) = true → ((cn2 .ne v4 (31 : Int32)) = true → ((cn2 .ne v4 (32 : Int32)) = true → ((cn2 .ne v4 (33 : Int32)) = true → (w_M_act fu s v4 (v3 + (1 : Int32)) ∧ (wlp.2.2.2.2.2.2.2.2.2.2.2.2.1 ((f_M_act fu s v4 (v3 + (1 : Int32))).2) v2 (v3 + (f_M_wholeOf v4)) ((f_M_act fu s v4 (v3 + (1 : Int32))).1)))) ∧ ((cn2 .ne v4 (33 : Int32)) = false → (vp_in (v3 + (1 : Int32)) 3200 ∧ (wrec.2.1 s (sA s 30 (Int32.toNatClampNeg (v3 + (1 : Int32)))) ∧ (wlp.2.2.2.2.2.2.2.2.2.2.2.1 ((rec.2.1 s (sA s 30 (Int32.toNatClampNeg (v3 + (1 : Int32))))).2) v2 (v3 + (f_M_wholeOf v4)) ((rec.2.1 s (sA s 30 (Int32.toNatClampNeg (v3 + (1 : Int32))))).1)))))) ∧ ((cn2 .ne v4 (32 : Int32)) = false → (wrec.2.2 s v3 (v3 + (f_M_wholeOf v4)) ∧ (wlp.2.2.2.2.2.2.2.2.2.1 ((rec.2.2 s v3 (v3 + (f_M_wholeOf v4))).2) v2 v3 (v3 + (f_M_wholeOf v4)) ((rec.2.2 s v3 (v3 + (f_M_wholeOf v4))).1))))) ∧ ((cn2 .ne v4 (31 : Int32)) = false → (vp_in (v3 + (2 : Int32)) 3200 ∧ (wlp.2.2.2.2.1 s v2 v3 w0 (v3 + (f_M_wholeOf v4)) (sA s 30 (Int32.toNatClampNeg (v3 + (2 : Int32)))) (1 : Int32))))) ∧ ((cn2 .ne v4 (30 : Int32)) = false → (vp_in (v3 + (2 : Int32)) 3200 ∧ (vp_in (v3 + (3 : Int32)) 3200 ∧ (vp_in (v3 + (1 : Int32)) 3200 ∧ (vp_in (sA s 30 (Int32.toNatClampNeg (v3 + (1 : Int32)))) 8 ∧ ((cn1 .eq (sA s 28 (Int32.toNatClampNeg (sA s 30 (Int32.toNatClampNeg (v3 + (1 : Int32))))))) = true → (wrec.1 s ((v3 + (f_M_wholeOf v4)) + (sA s 30 (Int32.toNatClampNeg (v3 + (2 : Int32))))) (((v3 + (f_M_wholeOf v4)) + (sA s 30 (Int32.toNatClampNeg (v3 + (2 : Int32))))) + (sA s 30 (Int32.toNatClampNeg (v3 + (3 : Int32))))) ∧ (wlp.2.2.2.1 ((rec.1 s ((v3 + (f_M_wholeOf v4)) + (sA s 30 (Int32.toNatClampNeg (v3 + (2 : Int32))))) (((v3 + (f_M_wholeOf v4)) + (sA s 30 (Int32.toNatClampNeg (v3 + (2 : Int32))))) + (sA s 30 (Int32.toNatClampNeg (v3 + (3 : Int32)))))).2) v2 (v3 + (f_M_wholeOf v4)) (sA s 30 (Int32.toNatClampNeg (v3 + (2 : Int32)))) (sA s 30 (Int32.toNatClampNeg (v3 + (3 : Int32)))) ((rec.1 s ((v3 + (f_M_wholeOf v4)) + (sA s 30 (Int32.toNatClampNeg (v3 + (2 : Int32))))) (((v3 + (f_M_wholeOf v4)) + (sA s 30 (Int32.toNatClampNeg (v3 + (2 : Int32))))) + (sA s 30 (Int32.toNatClampNeg (v3 + (3 : Int32)))))).1)))) ∧ ((cn1 .eq (sA s 28 (Int32.toNatClampNeg (sA s 30 (Int32.toNatClampNeg (v3 + (1 : Int32))))))) = false → (wrec.1 s (v3 + (f_M_wholeOf v4)) ((v3 + (f_M_wholeOf v4)) + (sA s 30 (Int32.toNatClampNeg (v3 + (2 : Int32))))) ∧ (wlp.2.2.1 ((rec.1 s (v3 + (f_M_wholeOf v4)) ((v3 + (f_M_wholeOf v4)) + (sA s 30 (Int32.toNatClampNeg (v3 + (2 : Int32)))))).2) v2 (v3 + (f_M_wholeOf v4)) (sA s 30 (Int32.toNatClampNeg (v3 + (2 : Int32)))) (sA s 30 (Int32.toNatClampNeg (v3 + (3 : Int32)))) ((rec.1 s (v3 + (f_M_wholeOf v4)) ((v3 + (f_M_wholeOf v4)) + (sA s 30 (Int32.toNatClampNeg (v3 + (2 : Int32)))))).1)))))))))) ∧ ((cn1 .eq w0) = false → True)
theorem cb_M_part_13 {d : Nat} {rec : G_part} {wrec : GW_part} (hrec : hr_part (d + 38) rec wrec) (fu : Nat) {lp : LT_M_part_2} {wlp : LW_M_part_2} (hlp : hl_M_part_2 (d + 39) lp wlp) (s : St) (v2 : Int32) (v3 : Int32) (v4 : Int32) (w0 : Int32) (hw : v_M_part_13 rec wrec fu lp wlp s v2 v3 v4 w0) : X m_M_part (d + 39) 13 [some (.inr (.inr (some 21))), none, some (.inl v2), some (.inl v3), some (.inl v4), none, none, none, none] [.inl w0] (hp s) (qIs (b_M_part_13 rec fu lp s v2 v3 v4 w0)) := by
  unfold b_M_part_13
  unfold v_M_part_13 at hw
  refine X_run 3 (i1 := cond (cn1 .eq w0) 18 16) (L1 := [some (.inr (.inr (some 21))), none, some (.inl v2), some (.inl v3), some (.inl v4), some (.inl w0), none, none, none]) (st1 := []) rfl ?_
  refine X_brq (fun hb => ?_) (fun hb => ?_)
  · have hw := hw.1 hb
    refine X_run 2 (i1 := 20) (L1 := [some (.inr (.inr (some 21))), none, some (.inl v2), some (.inl v3), some (.inl v4), some (.inl w0), none, none, none]) (st1 := [.inl v4, .inl v3]) rfl ?_
    refine X_calls m_M_wholeOf (As := [.inl v4]) (st := [.inl v3]) ok_M_wholeOf rfl rfl rfl (Nat.le_of_ble_eq_true rfl) (Nat.le_of_ble_eq_true rfl) (c_M_wholeOf (d := d + 38) v4) ?_
    rintro _ _ ⟨rfl, rfl⟩
    show X _ _ 21 [some (.inr (.inr (some 21))), none, some (.inl v2), some (.inl v3), some (.inl v4), some (.inl w0), none, none, none] [.inl (f_M_wholeOf v4), .inl v3] (hp s) _
    refine X_run 5 (i1 := cond (cn2 .ne v4 (30 : Int32)) 75 26) (L1 := [some (.inr (.inr (some 21))), none, some (.inl v2), some (.inl v3), some (.inl v4), some (.inl w0), some (.inl (v3 + (f_M_wholeOf v4))), none, none]) (st1 := []) rfl ?_
    refine X_brq (fun hb => ?_) (fun hb => ?_)
    · have hw := hw.1 hb
      refine X_run 3 (i1 := cond (cn2 .ne v4 (31 : Int32)) 122 78) (L1 := [some (.inr (.inr (some 21))), none, some (.inl v2), some (.inl v3), some (.inl v4), some (.inl w0), some (.inl (v3 + (f_M_wholeOf v4))), none, none]) (st1 := []) rfl ?_
      refine X_brq (fun hb => ?_) (fun hb => ?_)
      · have hw := hw.1 hb
        refine X_run 3 (i1 := cond (cn2 .ne v4 (32 : Int32)) 154 125) (L1 := [some (.inr (.inr (some 21))), none, some (.inl v2), some (.inl v3), some (.inl v4), some (.inl w0), some (.inl (v3 + (f_M_wholeOf v4))), none, none]) (st1 := []) rfl ?_
        refine X_brq (fun hb => ?_) (fun hb => ?_)
        · have hw := hw.1 hb
          refine X_run 3 (i1 := cond (cn2 .ne v4 (33 : Int32)) 167 157) (L1 := [some (.inr (.inr (some 21))), none, some (.inl v2), some (.inl v3), some (.inl v4), some (.inl w0), some (.inl (v3 + (f_M_wholeOf v4))), none, none]) (st1 := []) rfl ?_
          refine X_brq (fun hb => ?_) (fun hb => ?_)
          · have hw := hw.1 hb
            refine X_run 5 (i1 := 172) (L1 := [some (.inr (.inr (some 21))), none, some (.inl v2), some (.inl v3), some (.inl v4), some (.inl w0), some (.inl (v3 + (f_M_wholeOf v4))), none, none]) (st1 := [.inl (v3 + (1 : Int32)), .inl v4, .inr (.inr (some 21))]) rfl ?_
            obtain ⟨hc, hw⟩ := hw
            refine X_callv m_M_act (As := [.inl v4, .inl (v3 + (1 : Int32))]) (st := []) ok_M_act rfl rfl rfl (hp_obj rfl) rfl (Nat.le_of_ble_eq_true rfl) (Nat.le_of_ble_eq_true rfl) (c_M_act (d := d) fu s v4 (v3 + (1 : Int32)) hc) ?_
            rintro _ _ ⟨rfl, rfl⟩
            show X _ _ 173 [some (.inr (.inr (some 21))), none, some (.inl v2), some (.inl v3), some (.inl v4), some (.inl w0), some (.inl (v3 + (f_M_wholeOf v4))), none, none] [.inl ((f_M_act fu s v4 (v3 + (1 : Int32))).1)] (hp ((f_M_act fu s v4 (v3 + (1 : Int32))).2)) _
            show X _ _ 173 [some (.inr (.inr (some 21))), none, some (.inl v2), some (.inl v3), some (.inl v4), some (.inl w0), some (.inl (v3 + (f_M_wholeOf v4))), none, none] [.inl ((f_M_act fu s v4 (v3 + (1 : Int32))).1)] (hp ((f_M_act fu s v4 (v3 + (1 : Int32))).2)) _
            refine X_mask [true, true, true, false, false, false, true, true, true] ?_
            exact hlp.2.2.2.2.2.2.2.2.2.2.2.2.1 ((f_M_act fu s v4 (v3 + (1 : Int32))).2) v2 (v3 + (f_M_wholeOf v4)) ((f_M_act fu s v4 (v3 + (1 : Int32))).1) hw
          · have hw := hw.2 hb
            refine X_run 2 (i1 := 159) (L1 := [some (.inr (.inr (some 21))), none, some (.inl v2), some (.inl v3), some (.inl v4), some (.inl w0), some (.inl (v3 + (f_M_wholeOf v4))), none, none]) (st1 := [.inr (.inr (some 21)), .inr (.inr (some 21))]) rfl ?_
            refine X_gF (v := .inr (.inr (some 30))) rfl rfl rfl rfl ?_
            refine X_run 3 (i1 := 163) (L1 := [some (.inr (.inr (some 21))), none, some (.inl v2), some (.inl v3), some (.inl v4), some (.inl w0), some (.inl (v3 + (f_M_wholeOf v4))), none, none]) (st1 := [.inl (v3 + (1 : Int32)), .inr (.inr (some 30)), .inr (.inr (some 21))]) rfl ?_
            obtain ⟨hin, hw⟩ := hw
            refine X_aI rfl rfl hin ?_
            show X _ _ 164 [some (.inr (.inr (some 21))), none, some (.inl v2), some (.inl v3), some (.inl v4), some (.inl w0), some (.inl (v3 + (f_M_wholeOf v4))), none, none] [.inl (sA s 30 (Int32.toNatClampNeg (v3 + (1 : Int32)))), .inr (.inr (some 21))] (hp s) _
            obtain ⟨hc, hw⟩ := hw
            refine X_callv m_M_patches (As := [.inl (sA s 30 (Int32.toNatClampNeg (v3 + (1 : Int32))))]) (st := []) ok_M_patches rfl rfl rfl (hp_obj rfl) rfl (Nat.le_of_ble_eq_true rfl) (Nat.le_of_ble_eq_true rfl) (hrec.2.1 s (sA s 30 (Int32.toNatClampNeg (v3 + (1 : Int32)))) hc) ?_
            rintro _ _ ⟨rfl, rfl⟩
            show X _ _ 165 [some (.inr (.inr (some 21))), none, some (.inl v2), some (.inl v3), some (.inl v4), some (.inl w0), some (.inl (v3 + (f_M_wholeOf v4))), none, none] [.inl ((rec.2.1 s (sA s 30 (Int32.toNatClampNeg (v3 + (1 : Int32))))).1)] (hp ((rec.2.1 s (sA s 30 (Int32.toNatClampNeg (v3 + (1 : Int32))))).2)) _
            show X _ _ 165 [some (.inr (.inr (some 21))), none, some (.inl v2), some (.inl v3), some (.inl v4), some (.inl w0), some (.inl (v3 + (f_M_wholeOf v4))), none, none] [.inl ((rec.2.1 s (sA s 30 (Int32.toNatClampNeg (v3 + (1 : Int32))))).1)] (hp ((rec.2.1 s (sA s 30 (Int32.toNatClampNeg (v3 + (1 : Int32))))).2)) _
            refine X_mask [true, true, true, false, false, false, true, true, true] ?_
            exact hlp.2.2.2.2.2.2.2.2.2.2.2.1 ((rec.2.1 s (sA s 30 (Int32.toNatClampNeg (v3 + (1 : Int32))))).2) v2 (v3 + (f_M_wholeOf v4)) ((rec.2.1 s (sA s 30 (Int32.toNatClampNeg (v3 + (1 : Int32))))).1) hw
        · have hw := hw.2 hb
          refine X_run 3 (i1 := 128) (L1 := [some (.inr (.inr (some 21))), none, some (.inl v2), some (.inl v3), some (.inl v4), some (.inl w0), some (.inl (v3 + (f_M_wholeOf v4))), none, none]) (st1 := [.inl (v3 + (f_M_wholeOf v4)), .inl v3, .inr (.inr (some 21))]) rfl ?_
          obtain ⟨hc, hw⟩ := hw
          refine X_callv m_M_scope (As := [.inl v3, .inl (v3 + (f_M_wholeOf v4))]) (st := []) ok_M_scope rfl rfl rfl (hp_obj rfl) rfl (Nat.le_of_ble_eq_true rfl) (Nat.le_of_ble_eq_true rfl) (hrec.2.2 s v3 (v3 + (f_M_wholeOf v4)) hc) ?_
          rintro _ _ ⟨rfl, rfl⟩
          show X _ _ 129 [some (.inr (.inr (some 21))), none, some (.inl v2), some (.inl v3), some (.inl v4), some (.inl w0), some (.inl (v3 + (f_M_wholeOf v4))), none, none] [.inl ((rec.2.2 s v3 (v3 + (f_M_wholeOf v4))).1)] (hp ((rec.2.2 s v3 (v3 + (f_M_wholeOf v4))).2)) _
          show X _ _ 129 [some (.inr (.inr (some 21))), none, some (.inl v2), some (.inl v3), some (.inl v4), some (.inl w0), some (.inl (v3 + (f_M_wholeOf v4))), none, none] [.inl ((rec.2.2 s v3 (v3 + (f_M_wholeOf v4))).1)] (hp ((rec.2.2 s v3 (v3 + (f_M_wholeOf v4))).2)) _
          refine X_mask [true, true, true, true, false, false, true, true, true] ?_
          exact hlp.2.2.2.2.2.2.2.2.2.1 ((rec.2.2 s v3 (v3 + (f_M_wholeOf v4))).2) v2 v3 (v3 + (f_M_wholeOf v4)) ((rec.2.2 s v3 (v3 + (f_M_wholeOf v4))).1) hw
      · have hw := hw.2 hb
        refine X_run 1 (i1 := 79) (L1 := [some (.inr (.inr (some 21))), none, some (.inl v2), some (.inl v3), some (.inl v4), some (.inl w0), some (.inl (v3 + (f_M_wholeOf v4))), none, none]) (st1 := [.inr (.inr (some 21))]) rfl ?_
        refine X_gF (v := .inr (.inr (some 30))) rfl rfl rfl rfl ?_
        refine X_run 3 (i1 := 83) (L1 := [some (.inr (.inr (some 21))), none, some (.inl v2), some (.inl v3), some (.inl v4), some (.inl w0), some (.inl (v3 + (f_M_wholeOf v4))), none, none]) (st1 := [.inl (v3 + (2 : Int32)), .inr (.inr (some 30))]) rfl ?_
        obtain ⟨hin, hw⟩ := hw
        refine X_aI rfl rfl hin ?_
        show X _ _ 84 [some (.inr (.inr (some 21))), none, some (.inl v2), some (.inl v3), some (.inl v4), some (.inl w0), some (.inl (v3 + (f_M_wholeOf v4))), none, none] [.inl (sA s 30 (Int32.toNatClampNeg (v3 + (2 : Int32))))] (hp s) _
        refine X_run 3 (i1 := 87) (L1 := [some (.inr (.inr (some 21))), none, some (.inl v2), some (.inl v3), some (.inl v4), some (.inl w0), some (.inl (v3 + (f_M_wholeOf v4))), some (.inl (sA s 30 (Int32.toNatClampNeg (v3 + (2 : Int32))))), some (.inl (1 : Int32))]) (st1 := []) rfl ?_
        refine X_mask [true, true, true, true, false, true, true, true, true] ?_
        exact hlp.2.2.2.2.1 s v2 v3 w0 (v3 + (f_M_wholeOf v4)) (sA s 30 (Int32.toNatClampNeg (v3 + (2 : Int32)))) (1 : Int32) hw
    · have hw := hw.2 hb
      refine X_run 1 (i1 := 27) (L1 := [some (.inr (.inr (some 21))), none, some (.inl v2), some (.inl v3), some (.inl v4), some (.inl w0), some (.inl (v3 + (f_M_wholeOf v4))), none, none]) (st1 := [.inr (.inr (some 21))]) rfl ?_
      refine X_gF (v := .inr (.inr (some 30))) rfl rfl rfl rfl ?_
      refine X_run 3 (i1 := 31) (L1 := [some (.inr (.inr (some 21))), none, some (.inl v2), some (.inl v3), some (.inl v4), some (.inl w0), some (.inl (v3 + (f_M_wholeOf v4))), none, none]) (st1 := [.inl (v3 + (2 : Int32)), .inr (.inr (some 30))]) rfl ?_
      obtain ⟨hin, hw⟩ := hw
      refine X_aI rfl rfl hin ?_
      show X _ _ 32 [some (.inr (.inr (some 21))), none, some (.inl v2), some (.inl v3), some (.inl v4), some (.inl w0), some (.inl (v3 + (f_M_wholeOf v4))), none, none] [.inl (sA s 30 (Int32.toNatClampNeg (v3 + (2 : Int32))))] (hp s) _
      refine X_run 2 (i1 := 34) (L1 := [some (.inr (.inr (some 21))), none, some (.inl v2), some (.inl v3), some (.inl v4), some (.inl w0), some (.inl (v3 + (f_M_wholeOf v4))), some (.inl (sA s 30 (Int32.toNatClampNeg (v3 + (2 : Int32))))), none]) (st1 := [.inr (.inr (some 21))]) rfl ?_
      refine X_gF (v := .inr (.inr (some 30))) rfl rfl rfl rfl ?_
      refine X_run 3 (i1 := 38) (L1 := [some (.inr (.inr (some 21))), none, some (.inl v2), some (.inl v3), some (.inl v4), some (.inl w0), some (.inl (v3 + (f_M_wholeOf v4))), some (.inl (sA s 30 (Int32.toNatClampNeg (v3 + (2 : Int32))))), none]) (st1 := [.inl (v3 + (3 : Int32)), .inr (.inr (some 30))]) rfl ?_
      obtain ⟨hin, hw⟩ := hw
      refine X_aI rfl rfl hin ?_
      show X _ _ 39 [some (.inr (.inr (some 21))), none, some (.inl v2), some (.inl v3), some (.inl v4), some (.inl w0), some (.inl (v3 + (f_M_wholeOf v4))), some (.inl (sA s 30 (Int32.toNatClampNeg (v3 + (2 : Int32))))), none] [.inl (sA s 30 (Int32.toNatClampNeg (v3 + (3 : Int32))))] (hp s) _
      refine X_run 2 (i1 := 41) (L1 := [some (.inr (.inr (some 21))), none, some (.inl v2), some (.inl v3), some (.inl v4), some (.inl w0), some (.inl (v3 + (f_M_wholeOf v4))), some (.inl (sA s 30 (Int32.toNatClampNeg (v3 + (2 : Int32))))), some (.inl (sA s 30 (Int32.toNatClampNeg (v3 + (3 : Int32)))))]) (st1 := [.inr (.inr (some 21))]) rfl ?_
      refine X_gF (v := .inr (.inr (some 28))) rfl rfl rfl rfl ?_
      refine X_run 1 (i1 := 43) (L1 := [some (.inr (.inr (some 21))), none, some (.inl v2), some (.inl v3), some (.inl v4), some (.inl w0), some (.inl (v3 + (f_M_wholeOf v4))), some (.inl (sA s 30 (Int32.toNatClampNeg (v3 + (2 : Int32))))), some (.inl (sA s 30 (Int32.toNatClampNeg (v3 + (3 : Int32)))))]) (st1 := [.inr (.inr (some 21)), .inr (.inr (some 28))]) rfl ?_
      refine X_gF (v := .inr (.inr (some 30))) rfl rfl rfl rfl ?_
      refine X_run 3 (i1 := 47) (L1 := [some (.inr (.inr (some 21))), none, some (.inl v2), some (.inl v3), some (.inl v4), some (.inl w0), some (.inl (v3 + (f_M_wholeOf v4))), some (.inl (sA s 30 (Int32.toNatClampNeg (v3 + (2 : Int32))))), some (.inl (sA s 30 (Int32.toNatClampNeg (v3 + (3 : Int32)))))]) (st1 := [.inl (v3 + (1 : Int32)), .inr (.inr (some 30)), .inr (.inr (some 28))]) rfl ?_
      obtain ⟨hin, hw⟩ := hw
      refine X_aI rfl rfl hin ?_
      show X _ _ 48 [some (.inr (.inr (some 21))), none, some (.inl v2), some (.inl v3), some (.inl v4), some (.inl w0), some (.inl (v3 + (f_M_wholeOf v4))), some (.inl (sA s 30 (Int32.toNatClampNeg (v3 + (2 : Int32))))), some (.inl (sA s 30 (Int32.toNatClampNeg (v3 + (3 : Int32)))))] [.inl (sA s 30 (Int32.toNatClampNeg (v3 + (1 : Int32)))), .inr (.inr (some 28))] (hp s) _
      obtain ⟨hin, hw⟩ := hw
      refine X_aI rfl rfl hin ?_
      show X _ _ 49 [some (.inr (.inr (some 21))), none, some (.inl v2), some (.inl v3), some (.inl v4), some (.inl w0), some (.inl (v3 + (f_M_wholeOf v4))), some (.inl (sA s 30 (Int32.toNatClampNeg (v3 + (2 : Int32))))), some (.inl (sA s 30 (Int32.toNatClampNeg (v3 + (3 : Int32)))))] [.inl (sA s 28 (Int32.toNatClampNeg (sA s 30 (Int32.toNatClampNeg (v3 + (1 : Int32))))))] (hp s) _
      refine X_run 1 (i1 := cond (cn1 .eq (sA s 28 (Int32.toNatClampNeg (sA s 30 (Int32.toNatClampNeg (v3 + (1 : Int32))))))) 57 50) (L1 := [some (.inr (.inr (some 21))), none, some (.inl v2), some (.inl v3), some (.inl v4), some (.inl w0), some (.inl (v3 + (f_M_wholeOf v4))), some (.inl (sA s 30 (Int32.toNatClampNeg (v3 + (2 : Int32))))), some (.inl (sA s 30 (Int32.toNatClampNeg (v3 + (3 : Int32)))))]) (st1 := []) rfl ?_
      refine X_brq (fun hb => ?_) (fun hb => ?_)
      · have hw := hw.1 hb
        refine X_run 9 (i1 := 66) (L1 := [some (.inr (.inr (some 21))), none, some (.inl v2), some (.inl v3), some (.inl v4), some (.inl w0), some (.inl (v3 + (f_M_wholeOf v4))), some (.inl (sA s 30 (Int32.toNatClampNeg (v3 + (2 : Int32))))), some (.inl (sA s 30 (Int32.toNatClampNeg (v3 + (3 : Int32)))))]) (st1 := [.inl (((v3 + (f_M_wholeOf v4)) + (sA s 30 (Int32.toNatClampNeg (v3 + (2 : Int32))))) + (sA s 30 (Int32.toNatClampNeg (v3 + (3 : Int32))))), .inl ((v3 + (f_M_wholeOf v4)) + (sA s 30 (Int32.toNatClampNeg (v3 + (2 : Int32))))), .inr (.inr (some 21))]) rfl ?_
        obtain ⟨hc, hw⟩ := hw
        refine X_callv m_M_part (As := [.inl ((v3 + (f_M_wholeOf v4)) + (sA s 30 (Int32.toNatClampNeg (v3 + (2 : Int32))))), .inl (((v3 + (f_M_wholeOf v4)) + (sA s 30 (Int32.toNatClampNeg (v3 + (2 : Int32))))) + (sA s 30 (Int32.toNatClampNeg (v3 + (3 : Int32)))))]) (st := []) ok_M_part rfl rfl rfl (hp_obj rfl) rfl (Nat.le_of_ble_eq_true rfl) (Nat.le_of_ble_eq_true rfl) (hrec.1 s ((v3 + (f_M_wholeOf v4)) + (sA s 30 (Int32.toNatClampNeg (v3 + (2 : Int32))))) (((v3 + (f_M_wholeOf v4)) + (sA s 30 (Int32.toNatClampNeg (v3 + (2 : Int32))))) + (sA s 30 (Int32.toNatClampNeg (v3 + (3 : Int32))))) hc) ?_
        rintro _ _ ⟨rfl, rfl⟩
        show X _ _ 67 [some (.inr (.inr (some 21))), none, some (.inl v2), some (.inl v3), some (.inl v4), some (.inl w0), some (.inl (v3 + (f_M_wholeOf v4))), some (.inl (sA s 30 (Int32.toNatClampNeg (v3 + (2 : Int32))))), some (.inl (sA s 30 (Int32.toNatClampNeg (v3 + (3 : Int32)))))] [.inl ((rec.1 s ((v3 + (f_M_wholeOf v4)) + (sA s 30 (Int32.toNatClampNeg (v3 + (2 : Int32))))) (((v3 + (f_M_wholeOf v4)) + (sA s 30 (Int32.toNatClampNeg (v3 + (2 : Int32))))) + (sA s 30 (Int32.toNatClampNeg (v3 + (3 : Int32)))))).1)] (hp ((rec.1 s ((v3 + (f_M_wholeOf v4)) + (sA s 30 (Int32.toNatClampNeg (v3 + (2 : Int32))))) (((v3 + (f_M_wholeOf v4)) + (sA s 30 (Int32.toNatClampNeg (v3 + (2 : Int32))))) + (sA s 30 (Int32.toNatClampNeg (v3 + (3 : Int32)))))).2)) _
        show X _ _ 67 [some (.inr (.inr (some 21))), none, some (.inl v2), some (.inl v3), some (.inl v4), some (.inl w0), some (.inl (v3 + (f_M_wholeOf v4))), some (.inl (sA s 30 (Int32.toNatClampNeg (v3 + (2 : Int32))))), some (.inl (sA s 30 (Int32.toNatClampNeg (v3 + (3 : Int32)))))] [.inl ((rec.1 s ((v3 + (f_M_wholeOf v4)) + (sA s 30 (Int32.toNatClampNeg (v3 + (2 : Int32))))) (((v3 + (f_M_wholeOf v4)) + (sA s 30 (Int32.toNatClampNeg (v3 + (2 : Int32))))) + (sA s 30 (Int32.toNatClampNeg (v3 + (3 : Int32)))))).1)] (hp ((rec.1 s ((v3 + (f_M_wholeOf v4)) + (sA s 30 (Int32.toNatClampNeg (v3 + (2 : Int32))))) (((v3 + (f_M_wholeOf v4)) + (sA s 30 (Int32.toNatClampNeg (v3 + (2 : Int32))))) + (sA s 30 (Int32.toNatClampNeg (v3 + (3 : Int32)))))).2)) _
        refine X_mask [true, true, true, false, false, false, true, true, true] ?_
        exact hlp.2.2.2.1 ((rec.1 s ((v3 + (f_M_wholeOf v4)) + (sA s 30 (Int32.toNatClampNeg (v3 + (2 : Int32))))) (((v3 + (f_M_wholeOf v4)) + (sA s 30 (Int32.toNatClampNeg (v3 + (2 : Int32))))) + (sA s 30 (Int32.toNatClampNeg (v3 + (3 : Int32)))))).2) v2 (v3 + (f_M_wholeOf v4)) (sA s 30 (Int32.toNatClampNeg (v3 + (2 : Int32)))) (sA s 30 (Int32.toNatClampNeg (v3 + (3 : Int32)))) ((rec.1 s ((v3 + (f_M_wholeOf v4)) + (sA s 30 (Int32.toNatClampNeg (v3 + (2 : Int32))))) (((v3 + (f_M_wholeOf v4)) + (sA s 30 (Int32.toNatClampNeg (v3 + (2 : Int32))))) + (sA s 30 (Int32.toNatClampNeg (v3 + (3 : Int32)))))).1) hw
      · have hw := hw.2 hb
        refine X_run 5 (i1 := 55) (L1 := [some (.inr (.inr (some 21))), none, some (.inl v2), some (.inl v3), some (.inl v4), some (.inl w0), some (.inl (v3 + (f_M_wholeOf v4))), some (.inl (sA s 30 (Int32.toNatClampNeg (v3 + (2 : Int32))))), some (.inl (sA s 30 (Int32.toNatClampNeg (v3 + (3 : Int32)))))]) (st1 := [.inl ((v3 + (f_M_wholeOf v4)) + (sA s 30 (Int32.toNatClampNeg (v3 + (2 : Int32))))), .inl (v3 + (f_M_wholeOf v4)), .inr (.inr (some 21))]) rfl ?_
        obtain ⟨hc, hw⟩ := hw
        refine X_callv m_M_part (As := [.inl (v3 + (f_M_wholeOf v4)), .inl ((v3 + (f_M_wholeOf v4)) + (sA s 30 (Int32.toNatClampNeg (v3 + (2 : Int32)))))]) (st := []) ok_M_part rfl rfl rfl (hp_obj rfl) rfl (Nat.le_of_ble_eq_true rfl) (Nat.le_of_ble_eq_true rfl) (hrec.1 s (v3 + (f_M_wholeOf v4)) ((v3 + (f_M_wholeOf v4)) + (sA s 30 (Int32.toNatClampNeg (v3 + (2 : Int32))))) hc) ?_
        rintro _ _ ⟨rfl, rfl⟩
        show X _ _ 56 [some (.inr (.inr (some 21))), none, some (.inl v2), some (.inl v3), some (.inl v4), some (.inl w0), some (.inl (v3 + (f_M_wholeOf v4))), some (.inl (sA s 30 (Int32.toNatClampNeg (v3 + (2 : Int32))))), some (.inl (sA s 30 (Int32.toNatClampNeg (v3 + (3 : Int32)))))] [.inl ((rec.1 s (v3 + (f_M_wholeOf v4)) ((v3 + (f_M_wholeOf v4)) + (sA s 30 (Int32.toNatClampNeg (v3 + (2 : Int32)))))).1)] (hp ((rec.1 s (v3 + (f_M_wholeOf v4)) ((v3 + (f_M_wholeOf v4)) + (sA s 30 (Int32.toNatClampNeg (v3 + (2 : Int32)))))).2)) _
        show X _ _ 56 [some (.inr (.inr (some 21))), none, some (.inl v2), some (.inl v3), some (.inl v4), some (.inl w0), some (.inl (v3 + (f_M_wholeOf v4))), some (.inl (sA s 30 (Int32.toNatClampNeg (v3 + (2 : Int32))))), some (.inl (sA s 30 (Int32.toNatClampNeg (v3 + (3 : Int32)))))] [.inl ((rec.1 s (v3 + (f_M_wholeOf v4)) ((v3 + (f_M_wholeOf v4)) + (sA s 30 (Int32.toNatClampNeg (v3 + (2 : Int32)))))).1)] (hp ((rec.1 s (v3 + (f_M_wholeOf v4)) ((v3 + (f_M_wholeOf v4)) + (sA s 30 (Int32.toNatClampNeg (v3 + (2 : Int32)))))).2)) _
        refine X_mask [true, true, true, false, false, false, true, true, true] ?_
        exact hlp.2.2.1 ((rec.1 s (v3 + (f_M_wholeOf v4)) ((v3 + (f_M_wholeOf v4)) + (sA s 30 (Int32.toNatClampNeg (v3 + (2 : Int32)))))).2) v2 (v3 + (f_M_wholeOf v4)) (sA s 30 (Int32.toNatClampNeg (v3 + (2 : Int32)))) (sA s 30 (Int32.toNatClampNeg (v3 + (3 : Int32)))) ((rec.1 s (v3 + (f_M_wholeOf v4)) ((v3 + (f_M_wholeOf v4)) + (sA s 30 (Int32.toNatClampNeg (v3 + (2 : Int32)))))).1) hw
  · skip
    refine X_run 1 (i1 := 17) (L1 := [some (.inr (.inr (some 21))), none, some (.inl v2), some (.inl v3), some (.inl v4), some (.inl w0), none, none, none]) (st1 := [.inl w0]) rfl ?_
    exact X_iret rfl rfl qIs_i
def b_M_part_56 (rec : G_part) (fu : Nat) (lp : LT_M_part_2) (s : St) (v2 : Int32) (v6 : Int32) (v7 : Int32) (v8 : Int32) (w0 : Int32) : Int32 × St := (lp.2.2.2.1 s v2 v6 v7 v8 w0)
def v_M_part_56 (rec : G_part) (wrec : GW_part) (fu : Nat) (lp : LT_M_part_2) (wlp : LW_M_part_2) (s : St) (v2 : Int32) (v6 : Int32) (v7 : Int32) (v8 : Int32) (w0 : Int32) : Prop := (wlp.2.2.2.1 s v2 v6 v7 v8 w0)
theorem cb_M_part_56 {d : Nat} {rec : G_part} {wrec : GW_part} (hrec : hr_part (d + 38) rec wrec) (fu : Nat) {lp : LT_M_part_2} {wlp : LW_M_part_2} (hlp : hl_M_part_2 (d + 39) lp wlp) (s : St) (v2 : Int32) (v6 : Int32) (v7 : Int32) (v8 : Int32) (w0 : Int32) (hw : v_M_part_56 rec wrec fu lp wlp s v2 v6 v7 v8 w0) : X m_M_part (d + 39) 56 [some (.inr (.inr (some 21))), none, some (.inl v2), none, none, none, some (.inl v6), some (.inl v7), some (.inl v8)] [.inl w0] (hp s) (qIs (b_M_part_56 rec fu lp s v2 v6 v7 v8 w0)) := by
  unfold b_M_part_56
  unfold v_M_part_56 at hw
  refine X_run 1 (i1 := 67) (L1 := [some (.inr (.inr (some 21))), none, some (.inl v2), none, none, none, some (.inl v6), some (.inl v7), some (.inl v8)]) (st1 := [.inl w0]) rfl ?_
  exact hlp.2.2.2.1 s v2 v6 v7 v8 w0 hw
def b_M_part_67 (rec : G_part) (fu : Nat) (lp : LT_M_part_2) (s : St) (v2 : Int32) (v6 : Int32) (v7 : Int32) (v8 : Int32) (w0 : Int32) : Int32 × St := (lp.2.2.2.2.2.2.2.2.2.2.2.2.2 s v2 w0 (v6 + (v7 + v8)))
def v_M_part_67 (rec : G_part) (wrec : GW_part) (fu : Nat) (lp : LT_M_part_2) (wlp : LW_M_part_2) (s : St) (v2 : Int32) (v6 : Int32) (v7 : Int32) (v8 : Int32) (w0 : Int32) : Prop := (wlp.2.2.2.2.2.2.2.2.2.2.2.2.2 s v2 w0 (v6 + (v7 + v8)))
theorem cb_M_part_67 {d : Nat} {rec : G_part} {wrec : GW_part} (hrec : hr_part (d + 38) rec wrec) (fu : Nat) {lp : LT_M_part_2} {wlp : LW_M_part_2} (hlp : hl_M_part_2 (d + 39) lp wlp) (s : St) (v2 : Int32) (v6 : Int32) (v7 : Int32) (v8 : Int32) (w0 : Int32) (hw : v_M_part_67 rec wrec fu lp wlp s v2 v6 v7 v8 w0) : X m_M_part (d + 39) 67 [some (.inr (.inr (some 21))), none, some (.inl v2), none, none, none, some (.inl v6), some (.inl v7), some (.inl v8)] [.inl w0] (hp s) (qIs (b_M_part_67 rec fu lp s v2 v6 v7 v8 w0)) := by
  unfold b_M_part_67
  unfold v_M_part_67 at hw
  refine X_run 8 (i1 := 174) (L1 := [some (.inr (.inr (some 21))), none, some (.inl v2), none, none, some (.inl w0), some (.inl (v6 + (v7 + v8))), some (.inl v7), some (.inl v8)]) (st1 := []) rfl ?_
  refine X_mask [true, true, true, true, true, true, true, false, false] ?_
  exact hlp.2.2.2.2.2.2.2.2.2.2.2.2.2 s v2 w0 (v6 + (v7 + v8)) hw
def b_M_part_87 (rec : G_part) (fu : Nat) (lp : LT_M_part_2) (s : St) (v2 : Int32) (v3 : Int32) (v5 : Int32) (v6 : Int32) (v7 : Int32) (v8 : Int32) : Int32 × St := (cond (cn1 .ne v5) (lp.2.2.2.2.2.2.2.2.1 s v2 v5 v6 v7) (cond (cn1 .eq (sA s 28 (Int32.toNatClampNeg (sA s 30 (Int32.toNatClampNeg (v3 + (1 : Int32))))))) (lp.2.2.2.2.2.2.2.2.1 s v2 v5 v6 v7) (cond (cn1 .ne v8) (lp.2.2.2.2.2.2.1 s v2 v3 v5 v6 v7) (lp.2.2.2.2.2.1 ((f_M_takes s (1 : Int64)).2) v2 v3 v6 v7 ((f_M_takes s (1 : Int64)).1)))))
def v_M_part_87 (rec : G_part) (wrec : GW_part) (fu : Nat) (lp : LT_M_part_2) (wlp : LW_M_part_2) (s : St) (v2 : Int32) (v3 : Int32) (v5 : Int32) (v6 : Int32) (v7 : Int32) (v8 : Int32) : Prop := ((cn1 .ne v5) = true → (wlp.2.2.2.2.2.2.2.2.1 s v2 v5 v6 v7)) ∧ ((cn1 .ne v5) = false → (vp_in (v3 + (1 : Int32)) 3200 ∧ (vp_in (sA s 30 (Int32.toNatClampNeg (v3 + (1 : Int32)))) 8 ∧ ((cn1 .eq (sA s 28 (Int32.toNatClampNeg (sA s 30 (Int32.toNatClampNeg (v3 + (1 : Int32))))))) = true → (wlp.2.2.2.2.2.2.2.2.1 s v2 v5 v6 v7)) ∧ ((cn1 .eq (sA s 28 (Int32.toNatClampNeg (sA s 30 (Int32.toNatClampNeg (v3 + (1 : Int32))))))) = false → ((cn1 .ne v8) = true → (wlp.2.2.2.2.2.2.1 s v2 v3 v5 v6 v7)) ∧ ((cn1 .ne v8) = false → (w_M_takes s (1 : Int64) ∧ (wlp.2.2.2.2.2.1 ((f_M_takes s (1 : Int64)).2) v2 v3 v6 v7 ((f_M_takes s (1 : Int64)).1))))))))
theorem cb_M_part_87 {d : Nat} {rec : G_part} {wrec : GW_part} (hrec : hr_part (d + 38) rec wrec) (fu : Nat) {lp : LT_M_part_2} {wlp : LW_M_part_2} (hlp : hl_M_part_2 (d + 39) lp wlp) (s : St) (v2 : Int32) (v3 : Int32) (v5 : Int32) (v6 : Int32) (v7 : Int32) (v8 : Int32) (hw : v_M_part_87 rec wrec fu lp wlp s v2 v3 v5 v6 v7 v8) : X m_M_part (d + 39) 87 [some (.inr (.inr (some 21))), none, some (.inl v2), some (.inl v3), none, some (.inl v5), some (.inl v6), some (.inl v7), some (.inl v8)] [] (hp s) (qIs (b_M_part_87 rec fu lp s v2 v3 v5 v6 v7 v8)) := by
  unfold b_M_part_87
  unfold v_M_part_87 at hw
  refine X_run 2 (i1 := cond (cn1 .ne v5) 117 89) (L1 := [some (.inr (.inr (some 21))), none, some (.inl v2), some (.inl v3), none, some (.inl v5), some (.inl v6), some (.inl v7), some (.inl v8)]) (st1 := []) rfl ?_
  refine X_brq (fun hb => ?_) (fun hb => ?_)
  · have hw := hw.1 hb
    refine X_mask [true, true, true, false, true, true, true, true, false] ?_
    exact hlp.2.2.2.2.2.2.2.2.1 s v2 v5 v6 v7 hw
  · have hw := hw.2 hb
    refine X_run 1 (i1 := 90) (L1 := [some (.inr (.inr (some 21))), none, some (.inl v2), some (.inl v3), none, some (.inl v5), some (.inl v6), some (.inl v7), some (.inl v8)]) (st1 := [.inr (.inr (some 21))]) rfl ?_
    refine X_gF (v := .inr (.inr (some 28))) rfl rfl rfl rfl ?_
    refine X_run 1 (i1 := 92) (L1 := [some (.inr (.inr (some 21))), none, some (.inl v2), some (.inl v3), none, some (.inl v5), some (.inl v6), some (.inl v7), some (.inl v8)]) (st1 := [.inr (.inr (some 21)), .inr (.inr (some 28))]) rfl ?_
    refine X_gF (v := .inr (.inr (some 30))) rfl rfl rfl rfl ?_
    refine X_run 3 (i1 := 96) (L1 := [some (.inr (.inr (some 21))), none, some (.inl v2), some (.inl v3), none, some (.inl v5), some (.inl v6), some (.inl v7), some (.inl v8)]) (st1 := [.inl (v3 + (1 : Int32)), .inr (.inr (some 30)), .inr (.inr (some 28))]) rfl ?_
    obtain ⟨hin, hw⟩ := hw
    refine X_aI rfl rfl hin ?_
    show X _ _ 97 [some (.inr (.inr (some 21))), none, some (.inl v2), some (.inl v3), none, some (.inl v5), some (.inl v6), some (.inl v7), some (.inl v8)] [.inl (sA s 30 (Int32.toNatClampNeg (v3 + (1 : Int32)))), .inr (.inr (some 28))] (hp s) _
    obtain ⟨hin, hw⟩ := hw
    refine X_aI rfl rfl hin ?_
    show X _ _ 98 [some (.inr (.inr (some 21))), none, some (.inl v2), some (.inl v3), none, some (.inl v5), some (.inl v6), some (.inl v7), some (.inl v8)] [.inl (sA s 28 (Int32.toNatClampNeg (sA s 30 (Int32.toNatClampNeg (v3 + (1 : Int32))))))] (hp s) _
    refine X_run 1 (i1 := cond (cn1 .eq (sA s 28 (Int32.toNatClampNeg (sA s 30 (Int32.toNatClampNeg (v3 + (1 : Int32))))))) 117 99) (L1 := [some (.inr (.inr (some 21))), none, some (.inl v2), some (.inl v3), none, some (.inl v5), some (.inl v6), some (.inl v7), some (.inl v8)]) (st1 := []) rfl ?_
    refine X_brq (fun hb => ?_) (fun hb => ?_)
    · have hw := hw.1 hb
      refine X_mask [true, true, true, false, true, true, true, true, false] ?_
      exact hlp.2.2.2.2.2.2.2.2.1 s v2 v5 v6 v7 hw
    · have hw := hw.2 hb
      refine X_run 2 (i1 := cond (cn1 .ne v8) 105 101) (L1 := [some (.inr (.inr (some 21))), none, some (.inl v2), some (.inl v3), none, some (.inl v5), some (.inl v6), some (.inl v7), some (.inl v8)]) (st1 := []) rfl ?_
      refine X_brq (fun hb => ?_) (fun hb => ?_)
      · have hw := hw.1 hb
        refine X_mask [true, true, true, true, true, true, true, true, false] ?_
        exact hlp.2.2.2.2.2.2.1 s v2 v3 v5 v6 v7 hw
      · have hw := hw.2 hb
        refine X_run 2 (i1 := 103) (L1 := [some (.inr (.inr (some 21))), none, some (.inl v2), some (.inl v3), none, some (.inl v5), some (.inl v6), some (.inl v7), some (.inl v8)]) (st1 := [.inr (.inl (1 : Int64)), .inr (.inr (some 21))]) rfl ?_
        obtain ⟨hc, hw⟩ := hw
        refine X_callv m_M_takes (As := [.inr (.inl (1 : Int64))]) (st := []) ok_M_takes rfl rfl rfl (hp_obj rfl) rfl (Nat.le_of_ble_eq_true rfl) (Nat.le_of_ble_eq_true rfl) (c_M_takes (d := d + 38) s (1 : Int64) hc) ?_
        rintro _ _ ⟨rfl, rfl⟩
        show X _ _ 104 [some (.inr (.inr (some 21))), none, some (.inl v2), some (.inl v3), none, some (.inl v5), some (.inl v6), some (.inl v7), some (.inl v8)] [.inl ((f_M_takes s (1 : Int64)).1)] (hp ((f_M_takes s (1 : Int64)).2)) _
        show X _ _ 104 [some (.inr (.inr (some 21))), none, some (.inl v2), some (.inl v3), none, some (.inl v5), some (.inl v6), some (.inl v7), some (.inl v8)] [.inl ((f_M_takes s (1 : Int64)).1)] (hp ((f_M_takes s (1 : Int64)).2)) _
        refine X_mask [true, true, true, true, true, false, true, true, false] ?_
        exact hlp.2.2.2.2.2.1 ((f_M_takes s (1 : Int64)).2) v2 v3 v6 v7 ((f_M_takes s (1 : Int64)).1) hw
def b_M_part_104 (rec : G_part) (fu : Nat) (lp : LT_M_part_2) (s : St) (v2 : Int32) (v3 : Int32) (v6 : Int32) (v7 : Int32) (w0 : Int32) : Int32 × St := (lp.2.2.2.2.2.2.1 s v2 v3 w0 v6 v7)
def v_M_part_104 (rec : G_part) (wrec : GW_part) (fu : Nat) (lp : LT_M_part_2) (wlp : LW_M_part_2) (s : St) (v2 : Int32) (v3 : Int32) (v6 : Int32) (v7 : Int32) (w0 : Int32) : Prop := (wlp.2.2.2.2.2.2.1 s v2 v3 w0 v6 v7)
theorem cb_M_part_104 {d : Nat} {rec : G_part} {wrec : GW_part} (hrec : hr_part (d + 38) rec wrec) (fu : Nat) {lp : LT_M_part_2} {wlp : LW_M_part_2} (hlp : hl_M_part_2 (d + 39) lp wlp) (s : St) (v2 : Int32) (v3 : Int32) (v6 : Int32) (v7 : Int32) (w0 : Int32) (hw : v_M_part_104 rec wrec fu lp wlp s v2 v3 v6 v7 w0) : X m_M_part (d + 39) 104 [some (.inr (.inr (some 21))), none, some (.inl v2), some (.inl v3), none, none, some (.inl v6), some (.inl v7), none] [.inl w0] (hp s) (qIs (b_M_part_104 rec fu lp s v2 v3 v6 v7 w0)) := by
  unfold b_M_part_104
  unfold v_M_part_104 at hw
  refine X_run 1 (i1 := 105) (L1 := [some (.inr (.inr (some 21))), none, some (.inl v2), some (.inl v3), none, some (.inl w0), some (.inl v6), some (.inl v7), none]) (st1 := []) rfl ?_
  exact hlp.2.2.2.2.2.2.1 s v2 v3 w0 v6 v7 hw
def b_M_part_105 (rec : G_part) (fu : Nat) (lp : LT_M_part_2) (s : St) (v2 : Int32) (v3 : Int32) (v5 : Int32) (v6 : Int32) (v7 : Int32) : Int32 × St := (cond (cn1 .ne v5) (lp.2.2.2.2.1 s v2 v3 v5 v6 v7 (0 : Int32)) (lp.2.2.2.2.2.2.2.1 ((rec.1 s v6 (v6 + v7)).2) v2 v3 v6 v7 (0 : Int32) ((rec.1 s v6 (v6 + v7)).1)))
def v_M_part_105 (rec : G_part) (wrec : GW_part) (fu : Nat) (lp : LT_M_part_2) (wlp : LW_M_part_2) (s : St) (v2 : Int32) (v3 : Int32) (v5 : Int32) (v6 : Int32) (v7 : Int32) : Prop := ((cn1 .ne v5) = true → (wlp.2.2.2.2.1 s v2 v3 v5 v6 v7 (0 : Int32))) ∧ ((cn1 .ne v5) = false → (wrec.1 s v6 (v6 + v7) ∧ (wlp.2.2.2.2.2.2.2.1 ((rec.1 s v6 (v6 + v7)).2) v2 v3 v6 v7 (0 : Int32) ((rec.1 s v6 (v6 + v7)).1))))
theorem cb_M_part_105 {d : Nat} {rec : G_part} {wrec : GW_part} (hrec : hr_part (d + 38) rec wrec) (fu : Nat) {lp : LT_M_part_2} {wlp : LW_M_part_2} (hlp : hl_M_part_2 (d + 39) lp wlp) (s : St) (v2 : Int32) (v3 : Int32) (v5 : Int32) (v6 : Int32) (v7 : Int32) (hw : v_M_part_105 rec wrec fu lp wlp s v2 v3 v5 v6 v7) : X m_M_part (d + 39) 105 [some (.inr (.inr (some 21))), none, some (.inl v2), some (.inl v3), none, some (.inl v5), some (.inl v6), some (.inl v7), none] [] (hp s) (qIs (b_M_part_105 rec fu lp s v2 v3 v5 v6 v7)) := by
  unfold b_M_part_105
  unfold v_M_part_105 at hw
  refine X_run 4 (i1 := cond (cn1 .ne v5) 87 109) (L1 := [some (.inr (.inr (some 21))), none, some (.inl v2), some (.inl v3), none, some (.inl v5), some (.inl v6), some (.inl v7), some (.inl (0 : Int32))]) (st1 := []) rfl ?_
  refine X_brq (fun hb => ?_) (fun hb => ?_)
  · have hw := hw.1 hb
    exact hlp.2.2.2.2.1 s v2 v3 v5 v6 v7 (0 : Int32) hw
  · have hw := hw.2 hb
    refine X_run 5 (i1 := 114) (L1 := [some (.inr (.inr (some 21))), none, some (.inl v2), some (.inl v3), none, some (.inl v5), some (.inl v6), some (.inl v7), some (.inl (0 : Int32))]) (st1 := [.inl (v6 + v7), .inl v6, .inr (.inr (some 21))]) rfl ?_
    obtain ⟨hc, hw⟩ := hw
    refine X_callv m_M_part (As := [.inl v6, .inl (v6 + v7)]) (st := []) ok_M_part rfl rfl rfl (hp_obj rfl) rfl (Nat.le_of_ble_eq_true rfl) (Nat.le_of_ble_eq_true rfl) (hrec.1 s v6 (v6 + v7) hc) ?_
    rintro _ _ ⟨rfl, rfl⟩
    show X _ _ 115 [some (.inr (.inr (some 21))), none, some (.inl v2), some (.inl v3), none, some (.inl v5), some (.inl v6), some (.inl v7), some (.inl (0 : Int32))] [.inl ((rec.1 s v6 (v6 + v7)).1)] (hp ((rec.1 s v6 (v6 + v7)).2)) _
    show X _ _ 115 [some (.inr (.inr (some 21))), none, some (.inl v2), some (.inl v3), none, some (.inl v5), some (.inl v6), some (.inl v7), some (.inl (0 : Int32))] [.inl ((rec.1 s v6 (v6 + v7)).1)] (hp ((rec.1 s v6 (v6 + v7)).2)) _
    refine X_mask [true, true, true, true, true, false, true, true, true] ?_
    exact hlp.2.2.2.2.2.2.2.1 ((rec.1 s v6 (v6 + v7)).2) v2 v3 v6 v7 (0 : Int32) ((rec.1 s v6 (v6 + v7)).1) hw
def b_M_part_115 (rec : G_part) (fu : Nat) (lp : LT_M_part_2) (s : St) (v2 : Int32) (v3 : Int32) (v6 : Int32) (v7 : Int32) (v8 : Int32) (w0 : Int32) : Int32 × St := (lp.2.2.2.2.1 s v2 v3 w0 v6 v7 v8)
def v_M_part_115 (rec : G_part) (wrec : GW_part) (fu : Nat) (lp : LT_M_part_2) (wlp : LW_M_part_2) (s : St) (v2 : Int32) (v3 : Int32) (v6 : Int32) (v7 : Int32) (v8 : Int32) (w0 : Int32) : Prop := (wlp.2.2.2.2.1 s v2 v3 w0 v6 v7 v8)
theorem cb_M_part_115 {d : Nat} {rec : G_part} {wrec : GW_part} (hrec : hr_part (d + 38) rec wrec) (fu : Nat) {lp : LT_M_part_2} {wlp : LW_M_part_2} (hlp : hl_M_part_2 (d + 39) lp wlp) (s : St) (v2 : Int32) (v3 : Int32) (v6 : Int32) (v7 : Int32) (v8 : Int32) (w0 : Int32) (hw : v_M_part_115 rec wrec fu lp wlp s v2 v3 v6 v7 v8 w0) : X m_M_part (d + 39) 115 [some (.inr (.inr (some 21))), none, some (.inl v2), some (.inl v3), none, none, some (.inl v6), some (.inl v7), some (.inl v8)] [.inl w0] (hp s) (qIs (b_M_part_115 rec fu lp s v2 v3 v6 v7 v8 w0)) := by
  unfold b_M_part_115
  unfold v_M_part_115 at hw
  refine X_run 2 (i1 := 87) (L1 := [some (.inr (.inr (some 21))), none, some (.inl v2), some (.inl v3), none, some (.inl w0), some (.inl v6), some (.inl v7), some (.inl v8)]) (st1 := []) rfl ?_
  exact hlp.2.2.2.2.1 s v2 v3 w0 v6 v7 v8 hw
def b_M_part_117 (rec : G_part) (fu : Nat) (lp : LT_M_part_2) (s : St) (v2 : Int32) (v5 : Int32) (v6 : Int32) (v7 : Int32) : Int32 × St := (lp.2.2.2.2.2.2.2.2.2.2.2.2.2 s v2 v5 (v6 + v7))
def v_M_part_117 (rec : G_part) (wrec : GW_part) (fu : Nat) (lp : LT_M_part_2) (wlp : LW_M_part_2) (s : St) (v2 : Int32) (v5 : Int32) (v6 : Int32) (v7 : Int32) : Prop := (wlp.2.2.2.2.2.2.2.2.2.2.2.2.2 s v2 v5 (v6 + v7))
theorem cb_M_part_117 {d : Nat} {rec : G_part} {wrec : GW_part} (hrec : hr_part (d + 38) rec wrec) (fu : Nat) {lp : LT_M_part_2} {wlp : LW_M_part_2} (hlp : hl_M_part_2 (d + 39) lp wlp) (s : St) (v2 : Int32) (v5 : Int32) (v6 : Int32) (v7 : Int32) (hw : v_M_part_117 rec wrec fu lp wlp s v2 v5 v6 v7) : X m_M_part (d + 39) 117 [some (.inr (.inr (some 21))), none, some (.inl v2), none, none, some (.inl v5), some (.inl v6), some (.inl v7), none] [] (hp s) (qIs (b_M_part_117 rec fu lp s v2 v5 v6 v7)) := by
  unfold b_M_part_117
  unfold v_M_part_117 at hw
  refine X_run 5 (i1 := 174) (L1 := [some (.inr (.inr (some 21))), none, some (.inl v2), none, none, some (.inl v5), some (.inl (v6 + v7)), some (.inl v7), none]) (st1 := []) rfl ?_
  refine X_mask [true, true, true, true, true, true, true, false, true] ?_
  exact hlp.2.2.2.2.2.2.2.2.2.2.2.2.2 s v2 v5 (v6 + v7) hw
def b_M_part_129 (rec : G_part) (fu : Nat) (lp : LT_M_part_2) (s : St) (v2 : Int32) (v3 : Int32) (v6 : Int32) (w0 : Int32) : Int32 × St := (lp.2.2.2.2.2.2.2.2.2.2.1 s v2 w0 (v6 + (((sA s 30 (Int32.toNatClampNeg (v3 + (4 : Int32)))) + (sA s 30 (Int32.toNatClampNeg (v3 + (5 : Int32))))) + (sA s 30 (Int32.toNatClampNeg (v3 + (6 : Int32)))))))
def v_M_part_129 (rec : G_part) (wrec : GW_part) (fu : Nat) (lp : LT_M_part_2) (wlp : LW_M_part_2) (s : St) (v2 : Int32) (v3 : Int32) (v6 : Int32) (w0 : Int32) : Prop := (vp_in (v3 + (4 : Int32)) 3200 ∧ (vp_in (v3 + (5 : Int32)) 3200 ∧ (vp_in (v3 + (6 : Int32)) 3200 ∧ (wlp.2.2.2.2.2.2.2.2.2.2.1 s v2 w0 (v6 + (((sA s 30 (Int32.toNatClampNeg (v3 + (4 : Int32)))) + (sA s 30 (Int32.toNatClampNeg (v3 + (5 : Int32))))) + (sA s 30 (Int32.toNatClampNeg (v3 + (6 : Int32))))))))))
theorem cb_M_part_129 {d : Nat} {rec : G_part} {wrec : GW_part} (hrec : hr_part (d + 38) rec wrec) (fu : Nat) {lp : LT_M_part_2} {wlp : LW_M_part_2} (hlp : hl_M_part_2 (d + 39) lp wlp) (s : St) (v2 : Int32) (v3 : Int32) (v6 : Int32) (w0 : Int32) (hw : v_M_part_129 rec wrec fu lp wlp s v2 v3 v6 w0) : X m_M_part (d + 39) 129 [some (.inr (.inr (some 21))), none, some (.inl v2), some (.inl v3), none, none, some (.inl v6), none, none] [.inl w0] (hp s) (qIs (b_M_part_129 rec fu lp s v2 v3 v6 w0)) := by
  unfold b_M_part_129
  unfold v_M_part_129 at hw
  refine X_run 3 (i1 := 132) (L1 := [some (.inr (.inr (some 21))), none, some (.inl v2), some (.inl v3), none, some (.inl w0), some (.inl v6), none, none]) (st1 := [.inr (.inr (some 21)), .inl v6]) rfl ?_
  refine X_gF (v := .inr (.inr (some 30))) rfl rfl rfl rfl ?_
  refine X_run 3 (i1 := 136) (L1 := [some (.inr (.inr (some 21))), none, some (.inl v2), some (.inl v3), none, some (.inl w0), some (.inl v6), none, none]) (st1 := [.inl (v3 + (4 : Int32)), .inr (.inr (some 30)), .inl v6]) rfl ?_
  obtain ⟨hin, hw⟩ := hw
  refine X_aI rfl rfl hin ?_
  show X _ _ 137 [some (.inr (.inr (some 21))), none, some (.inl v2), some (.inl v3), none, some (.inl w0), some (.inl v6), none, none] [.inl (sA s 30 (Int32.toNatClampNeg (v3 + (4 : Int32)))), .inl v6] (hp s) _
  refine X_run 1 (i1 := 138) (L1 := [some (.inr (.inr (some 21))), none, some (.inl v2), some (.inl v3), none, some (.inl w0), some (.inl v6), none, none]) (st1 := [.inr (.inr (some 21)), .inl (sA s 30 (Int32.toNatClampNeg (v3 + (4 : Int32)))), .inl v6]) rfl ?_
  refine X_gF (v := .inr (.inr (some 30))) rfl rfl rfl rfl ?_
  refine X_run 3 (i1 := 142) (L1 := [some (.inr (.inr (some 21))), none, some (.inl v2), some (.inl v3), none, some (.inl w0), some (.inl v6), none, none]) (st1 := [.inl (v3 + (5 : Int32)), .inr (.inr (some 30)), .inl (sA s 30 (Int32.toNatClampNeg (v3 + (4 : Int32)))), .inl v6]) rfl ?_
  obtain ⟨hin, hw⟩ := hw
  refine X_aI rfl rfl hin ?_
  show X _ _ 143 [some (.inr (.inr (some 21))), none, some (.inl v2), some (.inl v3), none, some (.inl w0), some (.inl v6), none, none] [.inl (sA s 30 (Int32.toNatClampNeg (v3 + (5 : Int32)))), .inl (sA s 30 (Int32.toNatClampNeg (v3 + (4 : Int32)))), .inl v6] (hp s) _
  refine X_run 2 (i1 := 145) (L1 := [some (.inr (.inr (some 21))), none, some (.inl v2), some (.inl v3), none, some (.inl w0), some (.inl v6), none, none]) (st1 := [.inr (.inr (some 21)), .inl ((sA s 30 (Int32.toNatClampNeg (v3 + (4 : Int32)))) + (sA s 30 (Int32.toNatClampNeg (v3 + (5 : Int32))))), .inl v6]) rfl ?_
  refine X_gF (v := .inr (.inr (some 30))) rfl rfl rfl rfl ?_
  refine X_run 3 (i1 := 149) (L1 := [some (.inr (.inr (some 21))), none, some (.inl v2), some (.inl v3), none, some (.inl w0), some (.inl v6), none, none]) (st1 := [.inl (v3 + (6 : Int32)), .inr (.inr (some 30)), .inl ((sA s 30 (Int32.toNatClampNeg (v3 + (4 : Int32)))) + (sA s 30 (Int32.toNatClampNeg (v3 + (5 : Int32))))), .inl v6]) rfl ?_
  obtain ⟨hin, hw⟩ := hw
  refine X_aI rfl rfl hin ?_
  show X _ _ 150 [some (.inr (.inr (some 21))), none, some (.inl v2), some (.inl v3), none, some (.inl w0), some (.inl v6), none, none] [.inl (sA s 30 (Int32.toNatClampNeg (v3 + (6 : Int32)))), .inl ((sA s 30 (Int32.toNatClampNeg (v3 + (4 : Int32)))) + (sA s 30 (Int32.toNatClampNeg (v3 + (5 : Int32))))), .inl v6] (hp s) _
  refine X_run 3 (i1 := 153) (L1 := [some (.inr (.inr (some 21))), none, some (.inl v2), some (.inl v3), none, some (.inl w0), some (.inl (v6 + (((sA s 30 (Int32.toNatClampNeg (v3 + (4 : Int32)))) + (sA s 30 (Int32.toNatClampNeg (v3 + (5 : Int32))))) + (sA s 30 (Int32.toNatClampNeg (v3 + (6 : Int32))))))), none, none]) (st1 := []) rfl ?_
  refine X_mask [true, true, true, false, true, true, true, true, true] ?_
  exact hlp.2.2.2.2.2.2.2.2.2.2.1 s v2 w0 (v6 + (((sA s 30 (Int32.toNatClampNeg (v3 + (4 : Int32)))) + (sA s 30 (Int32.toNatClampNeg (v3 + (5 : Int32))))) + (sA s 30 (Int32.toNatClampNeg (v3 + (6 : Int32)))))) hw
def b_M_part_153 (rec : G_part) (fu : Nat) (lp : LT_M_part_2) (s : St) (v2 : Int32) (v5 : Int32) (v6 : Int32) : Int32 × St := (lp.2.2.2.2.2.2.2.2.2.2.2.2.2 s v2 v5 v6)
def v_M_part_153 (rec : G_part) (wrec : GW_part) (fu : Nat) (lp : LT_M_part_2) (wlp : LW_M_part_2) (s : St) (v2 : Int32) (v5 : Int32) (v6 : Int32) : Prop := (wlp.2.2.2.2.2.2.2.2.2.2.2.2.2 s v2 v5 v6)
theorem cb_M_part_153 {d : Nat} {rec : G_part} {wrec : GW_part} (hrec : hr_part (d + 38) rec wrec) (fu : Nat) {lp : LT_M_part_2} {wlp : LW_M_part_2} (hlp : hl_M_part_2 (d + 39) lp wlp) (s : St) (v2 : Int32) (v5 : Int32) (v6 : Int32) (hw : v_M_part_153 rec wrec fu lp wlp s v2 v5 v6) : X m_M_part (d + 39) 153 [some (.inr (.inr (some 21))), none, some (.inl v2), none, none, some (.inl v5), some (.inl v6), none, none] [] (hp s) (qIs (b_M_part_153 rec fu lp s v2 v5 v6)) := by
  unfold b_M_part_153
  unfold v_M_part_153 at hw
  refine X_run 1 (i1 := 174) (L1 := [some (.inr (.inr (some 21))), none, some (.inl v2), none, none, some (.inl v5), some (.inl v6), none, none]) (st1 := []) rfl ?_
  exact hlp.2.2.2.2.2.2.2.2.2.2.2.2.2 s v2 v5 v6 hw
def b_M_part_165 (rec : G_part) (fu : Nat) (lp : LT_M_part_2) (s : St) (v2 : Int32) (v6 : Int32) (w0 : Int32) : Int32 × St := (lp.2.2.2.2.2.2.2.2.2.2.2.2.2 s v2 w0 v6)
def v_M_part_165 (rec : G_part) (wrec : GW_part) (fu : Nat) (lp : LT_M_part_2) (wlp : LW_M_part_2) (s : St) (v2 : Int32) (v6 : Int32) (w0 : Int32) : Prop := (wlp.2.2.2.2.2.2.2.2.2.2.2.2.2 s v2 w0 v6)
theorem cb_M_part_165 {d : Nat} {rec : G_part} {wrec : GW_part} (hrec : hr_part (d + 38) rec wrec) (fu : Nat) {lp : LT_M_part_2} {wlp : LW_M_part_2} (hlp : hl_M_part_2 (d + 39) lp wlp) (s : St) (v2 : Int32) (v6 : Int32) (w0 : Int32) (hw : v_M_part_165 rec wrec fu lp wlp s v2 v6 w0) : X m_M_part (d + 39) 165 [some (.inr (.inr (some 21))), none, some (.inl v2), none, none, none, some (.inl v6), none, none] [.inl w0] (hp s) (qIs (b_M_part_165 rec fu lp s v2 v6 w0)) := by
  unfold b_M_part_165
  unfold v_M_part_165 at hw
  refine X_run 2 (i1 := 174) (L1 := [some (.inr (.inr (some 21))), none, some (.inl v2), none, none, some (.inl w0), some (.inl v6), none, none]) (st1 := []) rfl ?_
  exact hlp.2.2.2.2.2.2.2.2.2.2.2.2.2 s v2 w0 v6 hw
def b_M_part_173 (rec : G_part) (fu : Nat) (lp : LT_M_part_2) (s : St) (v2 : Int32) (v6 : Int32) (w0 : Int32) : Int32 × St := (lp.2.2.2.2.2.2.2.2.2.2.2.2.2 s v2 w0 v6)
def v_M_part_173 (rec : G_part) (wrec : GW_part) (fu : Nat) (lp : LT_M_part_2) (wlp : LW_M_part_2) (s : St) (v2 : Int32) (v6 : Int32) (w0 : Int32) : Prop := (wlp.2.2.2.2.2.2.2.2.2.2.2.2.2 s v2 w0 v6)
theorem cb_M_part_173 {d : Nat} {rec : G_part} {wrec : GW_part} (hrec : hr_part (d + 38) rec wrec) (fu : Nat) {lp : LT_M_part_2} {wlp : LW_M_part_2} (hlp : hl_M_part_2 (d + 39) lp wlp) (s : St) (v2 : Int32) (v6 : Int32) (w0 : Int32) (hw : v_M_part_173 rec wrec fu lp wlp s v2 v6 w0) : X m_M_part (d + 39) 173 [some (.inr (.inr (some 21))), none, some (.inl v2), none, none, none, some (.inl v6), none, none] [.inl w0] (hp s) (qIs (b_M_part_173 rec fu lp s v2 v6 w0)) := by
  unfold b_M_part_173
  unfold v_M_part_173 at hw
  refine X_run 1 (i1 := 174) (L1 := [some (.inr (.inr (some 21))), none, some (.inl v2), none, none, some (.inl w0), some (.inl v6), none, none]) (st1 := []) rfl ?_
  exact hlp.2.2.2.2.2.2.2.2.2.2.2.2.2 s v2 w0 v6 hw
def b_M_part_174 (rec : G_part) (fu : Nat) (lp : LT_M_part_2) (s : St) (v2 : Int32) (v5 : Int32) (v6 : Int32) : Int32 × St := (cond (cn1 .eq v5) (lp.1 s v2 v6) (v5, s))
def v_M_part_174 (rec : G_part) (wrec : GW_part) (fu : Nat) (lp : LT_M_part_2) (wlp : LW_M_part_2) (s : St) (v2 : Int32) (v5 : Int32) (v6 : Int32) : Prop := ((cn1 .eq v5) = true → (wlp.1 s v2 v6)) ∧ ((cn1 .eq v5) = false → True)
theorem cb_M_part_174 {d : Nat} {rec : G_part} {wrec : GW_part} (hrec : hr_part (d + 38) rec wrec) (fu : Nat) {lp : LT_M_part_2} {wlp : LW_M_part_2} (hlp : hl_M_part_2 (d + 39) lp wlp) (s : St) (v2 : Int32) (v5 : Int32) (v6 : Int32) (hw : v_M_part_174 rec wrec fu lp wlp s v2 v5 v6) : X m_M_part (d + 39) 174 [some (.inr (.inr (some 21))), none, some (.inl v2), none, none, some (.inl v5), some (.inl v6), none, none] [] (hp s) (qIs (b_M_part_174 rec fu lp s v2 v5 v6)) := by
  unfold b_M_part_174
  unfold v_M_part_174 at hw
  refine X_run 2 (i1 := cond (cn1 .eq v5) 178 176) (L1 := [some (.inr (.inr (some 21))), none, some (.inl v2), none, none, some (.inl v5), some (.inl v6), none, none]) (st1 := []) rfl ?_
  refine X_brq (fun hb => ?_) (fun hb => ?_)
  · have hw := hw.1 hb
    refine X_run 3 (i1 := 2) (L1 := [some (.inr (.inr (some 21))), none, some (.inl v2), some (.inl v6), none, some (.inl v5), some (.inl v6), none, none]) (st1 := []) rfl ?_
    refine X_mask [true, true, true, true, true, false, false, true, true] ?_
    exact hlp.1 s v2 v6 hw
  · skip
    refine X_run 1 (i1 := 177) (L1 := [some (.inr (.inr (some 21))), none, some (.inl v2), none, none, some (.inl v5), some (.inl v6), none, none]) (st1 := [.inl v5]) rfl ?_
    exact X_iret rfl rfl qIs_i
def T_M_part_2 (rec : G_part) (fu : Nat) : Nat → LT_M_part_2
  | 0 => (fun s _ _ => (0, s), fun s _ _ _ _ => (0, s), fun s _ _ _ _ _ => (0, s), fun s _ _ _ _ _ => (0, s), fun s _ _ _ _ _ _ => (0, s), fun s _ _ _ _ _ => (0, s), fun s _ _ _ _ _ => (0, s), fun s _ _ _ _ _ _ => (0, s), fun s _ _ _ _ => (0, s), fun s _ _ _ _ => (0, s), fun s _ _ _ => (0, s), fun s _ _ _ => (0, s), fun s _ _ _ => (0, s), fun s _ _ _ => (0, s))
  | n + 1 => (fun s v2 v3 => b_M_part_2 rec fu (T_M_part_2 rec fu n) s v2 v3, fun s v2 v3 v4 w0 => b_M_part_13 rec fu (T_M_part_2 rec fu n) s v2 v3 v4 w0, fun s v2 v6 v7 v8 w0 => b_M_part_56 rec fu (T_M_part_2 rec fu n) s v2 v6 v7 v8 w0, fun s v2 v6 v7 v8 w0 => b_M_part_67 rec fu (T_M_part_2 rec fu n) s v2 v6 v7 v8 w0, fun s v2 v3 v5 v6 v7 v8 => b_M_part_87 rec fu (T_M_part_2 rec fu n) s v2 v3 v5 v6 v7 v8, fun s v2 v3 v6 v7 w0 => b_M_part_104 rec fu (T_M_part_2 rec fu n) s v2 v3 v6 v7 w0, fun s v2 v3 v5 v6 v7 => b_M_part_105 rec fu (T_M_part_2 rec fu n) s v2 v3 v5 v6 v7, fun s v2 v3 v6 v7 v8 w0 => b_M_part_115 rec fu (T_M_part_2 rec fu n) s v2 v3 v6 v7 v8 w0, fun s v2 v5 v6 v7 => b_M_part_117 rec fu (T_M_part_2 rec fu n) s v2 v5 v6 v7, fun s v2 v3 v6 w0 => b_M_part_129 rec fu (T_M_part_2 rec fu n) s v2 v3 v6 w0, fun s v2 v5 v6 => b_M_part_153 rec fu (T_M_part_2 rec fu n) s v2 v5 v6, fun s v2 v6 w0 => b_M_part_165 rec fu (T_M_part_2 rec fu n) s v2 v6 w0, fun s v2 v6 w0 => b_M_part_173 rec fu (T_M_part_2 rec fu n) s v2 v6 w0, fun s v2 v5 v6 => b_M_part_174 rec fu (T_M_part_2 rec fu n) s v2 v5 v6)
def WT_M_part_2 (rec : G_part) (wrec : GW_part) (fu : Nat) : Nat → LW_M_part_2
  | 0 => (fun _ _ _ => False, fun _ _ _ _ _ => False, fun _ _ _ _ _ _ => False, fun _ _ _ _ _ _ => False, fun _ _ _ _ _ _ _ => False, fun _ _ _ _ _ _ => False, fun _ _ _ _ _ _ => False, fun _ _ _ _ _ _ _ => False, fun _ _ _ _ _ => False, fun _ _ _ _ _ => False, fun _ _ _ _ => False, fun _ _ _ _ => False, fun _ _ _ _ => False, fun _ _ _ _ => False)
  | n + 1 => (fun s v2 v3 => v_M_part_2 rec wrec fu (T_M_part_2 rec fu n) (WT_M_part_2 rec wrec fu n) s v2 v3, fun s v2 v3 v4 w0 => v_M_part_13 rec wrec fu (T_M_part_2 rec fu n) (WT_M_part_2 rec wrec fu n) s v2 v3 v4 w0, fun s v2 v6 v7 v8 w0 => v_M_part_56 rec wrec fu (T_M_part_2 rec fu n) (WT_M_part_2 rec wrec fu n) s v2 v6 v7 v8 w0, fun s v2 v6 v7 v8 w0 => v_M_part_67 rec wrec fu (T_M_part_2 rec fu n) (WT_M_part_2 rec wrec fu n) s v2 v6 v7 v8 w0, fun s v2 v3 v5 v6 v7 v8 => v_M_part_87 rec wrec fu (T_M_part_2 rec fu n) (WT_M_part_2 rec wrec fu n) s v2 v3 v5 v6 v7 v8, fun s v2 v3 v6 v7 w0 => v_M_part_104 rec wrec fu (T_M_part_2 rec fu n) (WT_M_part_2 rec wrec fu n) s v2 v3 v6 v7 w0, fun s v2 v3 v5 v6 v7 => v_M_part_105 rec wrec fu (T_M_part_2 rec fu n) (WT_M_part_2 rec wrec fu n) s v2 v3 v5 v6 v7, fun s v2 v3 v6 v7 v8 w0 => v_M_part_115 rec wrec fu (T_M_part_2 rec fu n) (WT_M_part_2 rec wrec fu n) s v2 v3 v6 v7 v8 w0, fun s v2 v5 v6 v7 => v_M_part_117 rec wrec fu (T_M_part_2 rec fu n) (WT_M_part_2 rec wrec fu n) s v2 v5 v6 v7, fun s v2 v3 v6 w0 => v_M_part_129 rec wrec fu (T_M_part_2 rec fu n) (WT_M_part_2 rec wrec fu n) s v2 v3 v6 w0, fun s v2 v5 v6 => v_M_part_153 rec wrec fu (T_M_part_2 rec fu n) (WT_M_part_2 rec wrec fu n) s v2 v5 v6, fun s v2 v6 w0 => v_M_part_165 rec wrec fu (T_M_part_2 rec fu n) (WT_M_part_2 rec wrec fu n) s v2 v6 w0, fun s v2 v6 w0 => v_M_part_173 rec wrec fu (T_M_part_2 rec fu n) (WT_M_part_2 rec wrec fu n) s v2 v6 w0, fun s v2 v5 v6 => v_M_part_174 rec wrec fu (T_M_part_2 rec fu n) (WT_M_part_2 rec wrec fu n) s v2 v5 v6)
theorem cT_M_part_2 {d : Nat} {rec : G_part} {wrec : GW_part} (hrec : hr_part (d + 38) rec wrec) (fu : Nat) : ∀ n : Nat, hl_M_part_2 (d + 39) (T_M_part_2 rec fu n) (WT_M_part_2 rec wrec fu n)
  | 0 => ⟨fun _ _ _ hw => hw.elim, fun _ _ _ _ _ hw => hw.elim, fun _ _ _ _ _ _ hw => hw.elim, fun _ _ _ _ _ _ hw => hw.elim, fun _ _ _ _ _ _ _ hw => hw.elim, fun _ _ _ _ _ _ hw => hw.elim, fun _ _ _ _ _ _ hw => hw.elim, fun _ _ _ _ _ _ _ hw => hw.elim, fun _ _ _ _ _ hw => hw.elim, fun _ _ _ _ _ hw => hw.elim, fun _ _ _ _ hw => hw.elim, fun _ _ _ _ hw => hw.elim, fun _ _ _ _ hw => hw.elim, fun _ _ _ _ hw => hw.elim⟩
  | n + 1 => ⟨fun s v2 v3 hw => cb_M_part_2 hrec fu (cT_M_part_2 hrec fu n) s v2 v3 hw, fun s v2 v3 v4 w0 hw => cb_M_part_13 hrec fu (cT_M_part_2 hrec fu n) s v2 v3 v4 w0 hw, fun s v2 v6 v7 v8 w0 hw => cb_M_part_56 hrec fu (cT_M_part_2 hrec fu n) s v2 v6 v7 v8 w0 hw, fun s v2 v6 v7 v8 w0 hw => cb_M_part_67 hrec fu (cT_M_part_2 hrec fu n) s v2 v6 v7 v8 w0 hw, fun s v2 v3 v5 v6 v7 v8 hw => cb_M_part_87 hrec fu (cT_M_part_2 hrec fu n) s v2 v3 v5 v6 v7 v8 hw, fun s v2 v3 v6 v7 w0 hw => cb_M_part_104 hrec fu (cT_M_part_2 hrec fu n) s v2 v3 v6 v7 w0 hw, fun s v2 v3 v5 v6 v7 hw => cb_M_part_105 hrec fu (cT_M_part_2 hrec fu n) s v2 v3 v5 v6 v7 hw, fun s v2 v3 v6 v7 v8 w0 hw => cb_M_part_115 hrec fu (cT_M_part_2 hrec fu n) s v2 v3 v6 v7 v8 w0 hw, fun s v2 v5 v6 v7 hw => cb_M_part_117 hrec fu (cT_M_part_2 hrec fu n) s v2 v5 v6 v7 hw, fun s v2 v3 v6 w0 hw => cb_M_part_129 hrec fu (cT_M_part_2 hrec fu n) s v2 v3 v6 w0 hw, fun s v2 v5 v6 hw => cb_M_part_153 hrec fu (cT_M_part_2 hrec fu n) s v2 v5 v6 hw, fun s v2 v6 w0 hw => cb_M_part_165 hrec fu (cT_M_part_2 hrec fu n) s v2 v6 w0 hw, fun s v2 v6 w0 hw => cb_M_part_173 hrec fu (cT_M_part_2 hrec fu n) s v2 v6 w0 hw, fun s v2 v5 v6 hw => cb_M_part_174 hrec fu (cT_M_part_2 hrec fu n) s v2 v5 v6 hw⟩
def f_M_part (rec : G_part) (fu : Nat) (s : St) (a0 : Int32) (a1 : Int32) : Int32 × St := ((T_M_part_2 rec fu fu).1 s a1 a0)
def w_M_part (rec : G_part) (wrec : GW_part) (fu : Nat) (s : St) (a0 : Int32) (a1 : Int32) : Prop := ((WT_M_part_2 rec wrec fu fu).1 s a1 a0)
theorem c_M_part {d : Nat} {rec : G_part} {wrec : GW_part} (hrec : hr_part (d + 38) rec wrec) (fu : Nat) (s : St) (a0 : Int32) (a1 : Int32) (hw : w_M_part rec wrec fu s a0 a1) : X m_M_part (d + 39) 0 (entL 9 [.inr (.inr (some 21)), .inl a0, .inl a1]) [] (hp s) (qIs (f_M_part rec fu s a0 a1)) := by
  unfold f_M_part
  unfold w_M_part at hw
  refine X_run 2 (i1 := 2) (L1 := [some (.inr (.inr (some 21))), some (.inl a0), some (.inl a1), some (.inl a0), none, none, none, none, none]) (st1 := []) rfl ?_
  refine X_mask [true, false, true, true, true, true, true, true, true] ?_
  exact (cT_M_part_2 hrec fu fu).1 s a1 a0 hw
def t_M_patches_27 (rec : G_part) (fu : Nat) (s : St) (w0 : Int32) : Int32 × St := (w0, pI s 21 25 ((sI s 21 25) - (1 : Int32)))
def w_M_patches_27 (rec : G_part) (wrec : GW_part) (fu : Nat) (s : St) (w0 : Int32) : Prop := True
theorem ct_M_patches_27 {d : Nat} {rec : G_part} {wrec : GW_part} (hrec : hr_part (d + 38) rec wrec) (fu : Nat) (s : St) (w0 : Int32) (hw : w_M_patches_27 rec wrec fu s w0) : X m_M_patches (d + 39) 27 [some (.inr (.inr (some 21))), none, none] [.inl w0] (hp s) (qIs (t_M_patches_27 rec fu s w0)) := by
  unfold t_M_patches_27
  unfold w_M_patches_27 at hw
  refine X_run 3 (i1 := 30) (L1 := [some (.inr (.inr (some 21))), none, some (.inl w0)]) (st1 := [.inr (.inr (some 21)), .inr (.inr (some 21))]) rfl ?_
  refine X_gF (v := .inl (sI s 21 25)) rfl rfl rfl rfl ?_
  refine X_run 2 (i1 := 33) (L1 := [some (.inr (.inr (some 21))), none, some (.inl w0)]) (st1 := [.inl ((sI s 21 25) - (1 : Int32)), .inr (.inr (some 21))]) rfl ?_
  refine X_pI rfl rfl rfl rfl ?_
  refine X_run 1 (i1 := 35) (L1 := [some (.inr (.inr (some 21))), none, some (.inl w0)]) (st1 := [.inl w0]) rfl ?_
  exact X_iret rfl rfl qIs_i
def f_M_patches (rec : G_part) (fu : Nat) (s : St) (a0 : Int32) : Int32 × St := (cond (cn2 .ne (sI s 21 25) (12 : Int32)) (t_M_patches_27 rec fu ((rec.1 (pI s 21 25 ((sI s 21 25) + (1 : Int32))) ((200 : Int32) * a0) (((200 : Int32) * a0) + (sA s 31 (Int32.toNatClampNeg a0)))).2) ((rec.1 (pI s 21 25 ((sI s 21 25) + (1 : Int32))) ((200 : Int32) * a0) (((200 : Int32) * a0) + (sA s 31 (Int32.toNatClampNeg a0)))).1)) (f_M_fails s (8 : Int32)))
def w_M_patches (rec : G_part) (wrec : GW_part) (fu : Nat) (s : St) (a0 : Int32) : Prop := ((cn2 .ne (sI s 21 25) (12 : Int32)) = true → (vp_in a0 16 ∧ (wrec.1 (pI s 21 25 ((sI s 21 25) + (1 : Int32))) ((200 : Int32) * a0) (((200 : Int32) * a0) + (sA s 31 (Int32.toNatClampNeg a0))) ∧ (w_M_patches_27 rec wrec fu ((rec.1 (pI s 21 25 ((sI s 21 25) + (1 : Int32))) ((200 : Int32) * a0) (((200 : Int32) * a0) + (sA s 31 (Int32.toNatClampNeg a0)))).2) ((rec.1 (pI s 21 25 ((sI s 21 25) + (1 : Int32))) ((200 : Int32) * a0) (((200 : Int32) * a0) + (sA s 31 (Int32.toNatClampNeg a0)))).1))))) ∧ ((cn2 .ne (sI s 21 25) (12 : Int32)) = false → (w_M_fails s (8 : Int32) ∧ True))
theorem c_M_patches {d : Nat} {rec : G_part} {wrec : GW_part} (hrec : hr_part (d + 38) rec wrec) (fu : Nat) (s : St) (a0 : Int32) (hw : w_M_patches rec wrec fu s a0) : X m_M_patches (d + 39) 0 (entL 3 [.inr (.inr (some 21)), .inl a0]) [] (hp s) (qIs (f_M_patches rec fu s a0)) := by
  unfold f_M_patches
  unfold w_M_patches at hw
  refine X_run 1 (i1 := 1) (L1 := [some (.inr (.inr (some 21))), some (.inl a0), none]) (st1 := [.inr (.inr (some 21))]) rfl ?_
  refine X_gF (v := .inl (sI s 21 25)) rfl rfl rfl rfl ?_
  refine X_run 2 (i1 := cond (cn2 .ne (sI s 21 25) (12 : Int32)) 8 4) (L1 := [some (.inr (.inr (some 21))), some (.inl a0), none]) (st1 := []) rfl ?_
  refine X_brq (fun hb => ?_) (fun hb => ?_)
  · have hw := hw.1 hb
    refine X_run 2 (i1 := 10) (L1 := [some (.inr (.inr (some 21))), some (.inl a0), none]) (st1 := [.inr (.inr (some 21)), .inr (.inr (some 21))]) rfl ?_
    refine X_gF (v := .inl (sI s 21 25)) rfl rfl rfl rfl ?_
    refine X_run 2 (i1 := 13) (L1 := [some (.inr (.inr (some 21))), some (.inl a0), none]) (st1 := [.inl ((sI s 21 25) + (1 : Int32)), .inr (.inr (some 21))]) rfl ?_
    refine X_pI rfl rfl rfl rfl ?_
    refine X_run 8 (i1 := 22) (L1 := [some (.inr (.inr (some 21))), some (.inl a0), none]) (st1 := [.inr (.inr (some 21)), .inl ((200 : Int32) * a0), .inl ((200 : Int32) * a0), .inr (.inr (some 21))]) rfl ?_
    refine X_gF (v := .inr (.inr (some 31))) rfl rfl rfl rfl ?_
    refine X_run 1 (i1 := 24) (L1 := [some (.inr (.inr (some 21))), some (.inl a0), none]) (st1 := [.inl a0, .inr (.inr (some 31)), .inl ((200 : Int32) * a0), .inl ((200 : Int32) * a0), .inr (.inr (some 21))]) rfl ?_
    obtain ⟨hin, hw⟩ := hw
    refine X_aI rfl rfl hin ?_
    show X _ _ 25 [some (.inr (.inr (some 21))), some (.inl a0), none] [.inl (sA s 31 (Int32.toNatClampNeg a0)), .inl ((200 : Int32) * a0), .inl ((200 : Int32) * a0), .inr (.inr (some 21))] (hp (pI s 21 25 ((sI s 21 25) + (1 : Int32)))) _
    refine X_run 1 (i1 := 26) (L1 := [some (.inr (.inr (some 21))), some (.inl a0), none]) (st1 := [.inl (((200 : Int32) * a0) + (sA s 31 (Int32.toNatClampNeg a0))), .inl ((200 : Int32) * a0), .inr (.inr (some 21))]) rfl ?_
    obtain ⟨hc, hw⟩ := hw
    refine X_callv m_M_part (As := [.inl ((200 : Int32) * a0), .inl (((200 : Int32) * a0) + (sA s 31 (Int32.toNatClampNeg a0)))]) (st := []) ok_M_part rfl rfl rfl (hp_obj rfl) rfl (Nat.le_of_ble_eq_true rfl) (Nat.le_of_ble_eq_true rfl) (hrec.1 (pI s 21 25 ((sI s 21 25) + (1 : Int32))) ((200 : Int32) * a0) (((200 : Int32) * a0) + (sA s 31 (Int32.toNatClampNeg a0))) hc) ?_
    rintro _ _ ⟨rfl, rfl⟩
    show X _ _ 27 [some (.inr (.inr (some 21))), some (.inl a0), none] [.inl ((rec.1 (pI s 21 25 ((sI s 21 25) + (1 : Int32))) ((200 : Int32) * a0) (((200 : Int32) * a0) + (sA s 31 (Int32.toNatClampNeg a0)))).1)] (hp ((rec.1 (pI s 21 25 ((sI s 21 25) + (1 : Int32))) ((200 : Int32) * a0) (((200 : Int32) * a0) + (sA s 31 (Int32.toNatClampNeg a0)))).2)) _
    show X _ _ 27 [some (.inr (.inr (some 21))), some (.inl a0), none] [.inl ((rec.1 (pI s 21 25 ((sI s 21 25) + (1 : Int32))) ((200 : Int32) * a0) (((200 : Int32) * a0) + (sA s 31 (Int32.toNatClampNeg a0)))).1)] (hp ((rec.1 (pI s 21 25 ((sI s 21 25) + (1 : Int32))) ((200 : Int32) * a0) (((200 : Int32) * a0) + (sA s 31 (Int32.toNatClampNeg a0)))).2)) _
    refine X_mask [true, false, true] ?_
    exact ct_M_patches_27 hrec fu ((rec.1 (pI s 21 25 ((sI s 21 25) + (1 : Int32))) ((200 : Int32) * a0) (((200 : Int32) * a0) + (sA s 31 (Int32.toNatClampNeg a0)))).2) ((rec.1 (pI s 21 25 ((sI s 21 25) + (1 : Int32))) ((200 : Int32) * a0) (((200 : Int32) * a0) + (sA s 31 (Int32.toNatClampNeg a0)))).1) hw
  · have hw := hw.2 hb
    refine X_run 2 (i1 := 6) (L1 := [some (.inr (.inr (some 21))), some (.inl a0), none]) (st1 := [.inl (8 : Int32), .inr (.inr (some 21))]) rfl ?_
    obtain ⟨hc, hw⟩ := hw
    refine X_callv m_M_fails (As := [.inl (8 : Int32)]) (st := []) ok_M_fails rfl rfl rfl (hp_obj rfl) rfl (Nat.le_of_ble_eq_true rfl) (Nat.le_of_ble_eq_true rfl) (c_M_fails (d := d + 36) s (8 : Int32) hc) ?_
    rintro _ _ ⟨rfl, rfl⟩
    show X _ _ 7 [some (.inr (.inr (some 21))), some (.inl a0), none] [.inl ((f_M_fails s (8 : Int32)).1)] (hp ((f_M_fails s (8 : Int32)).2)) _
    exact X_iret rfl rfl qIs_p
def t_M_scope_209 (rec : G_part) (fu : Nat) (s : St) (v5 : Int32) : Int32 × St := (v5, pI s 21 26 ((sI s 21 26) - (1 : Int32)))
def w_M_scope_209 (rec : G_part) (wrec : GW_part) (fu : Nat) (s : St) (v5 : Int32) : Prop := True
theorem ct_M_scope_209 {d : Nat} {rec : G_part} {wrec : GW_part} (hrec : hr_part (d + 38) rec wrec) (fu : Nat) (s : St) (v5 : Int32) (hw : w_M_scope_209 rec wrec fu s v5) : X m_M_scope (d + 39) 209 [some (.inr (.inr (some 21))), none, none, none, none, some (.inl v5), none, none, none, none, none] [] (hp s) (qIs (t_M_scope_209 rec fu s v5)) := by
  unfold t_M_scope_209
  unfold w_M_scope_209 at hw
  refine X_run 2 (i1 := 211) (L1 := [some (.inr (.inr (some 21))), none, none, none, none, some (.inl v5), none, none, none, none, none]) (st1 := [.inr (.inr (some 21)), .inr (.inr (some 21))]) rfl ?_
  refine X_gF (v := .inl (sI s 21 26)) rfl rfl rfl rfl ?_
  refine X_run 2 (i1 := 214) (L1 := [some (.inr (.inr (some 21))), none, none, none, none, some (.inl v5), none, none, none, none, none]) (st1 := [.inl ((sI s 21 26) - (1 : Int32)), .inr (.inr (some 21))]) rfl ?_
  refine X_pI rfl rfl rfl rfl ?_
  refine X_run 1 (i1 := 216) (L1 := [some (.inr (.inr (some 21))), none, none, none, none, some (.inl v5), none, none, none, none, none]) (st1 := [.inl v5]) rfl ?_
  exact X_iret rfl rfl qIs_i
def t_M_scope_197 (rec : G_part) (fu : Nat) (s : St) (v5 : Int32) (v8 : Int32) (v9 : Int32) (w0 : Int32) : Int32 × St := (cond (cn1 .eq w0) (t_M_scope_209 rec fu (pI (pI s 21 9 v8) 21 10 v9) v5) (t_M_scope_209 rec fu s w0))
def w_M_scope_197 (rec : G_part) (wrec : GW_part) (fu : Nat) (s : St) (v5 : Int32) (v8 : Int32) (v9 : Int32) (w0 : Int32) : Prop := ((cn1 .eq w0) = true → (w_M_scope_209 rec wrec fu (pI (pI s 21 9 v8) 21 10 v9) v5)) ∧ ((cn1 .eq w0) = false → (w_M_scope_209 rec wrec fu s w0))
theorem ct_M_scope_197 {d : Nat} {rec : G_part} {wrec : GW_part} (hrec : hr_part (d + 38) rec wrec) (fu : Nat) (s : St) (v5 : Int32) (v8 : Int32) (v9 : Int32) (w0 : Int32) (hw : w_M_scope_197 rec wrec fu s v5 v8 v9 w0) : X m_M_scope (d + 39) 197 [some (.inr (.inr (some 21))), none, none, none, none, some (.inl v5), none, none, some (.inl v8), some (.inl v9), none] [.inl w0] (hp s) (qIs (t_M_scope_197 rec fu s v5 v8 v9 w0)) := by
  unfold t_M_scope_197
  unfold w_M_scope_197 at hw
  refine X_run 3 (i1 := cond (cn1 .eq w0) 203 200) (L1 := [some (.inr (.inr (some 21))), none, none, none, none, some (.inl v5), none, none, some (.inl v8), some (.inl v9), some (.inl w0)]) (st1 := []) rfl ?_
  refine X_brq (fun hb => ?_) (fun hb => ?_)
  · have hw := hw.1 hb
    refine X_run 2 (i1 := 205) (L1 := [some (.inr (.inr (some 21))), none, none, none, none, some (.inl v5), none, none, some (.inl v8), some (.inl v9), some (.inl w0)]) (st1 := [.inl v8, .inr (.inr (some 21))]) rfl ?_
    refine X_pI rfl rfl rfl rfl ?_
    refine X_run 2 (i1 := 208) (L1 := [some (.inr (.inr (some 21))), none, none, none, none, some (.inl v5), none, none, some (.inl v8), some (.inl v9), some (.inl w0)]) (st1 := [.inl v9, .inr (.inr (some 21))]) rfl ?_
    refine X_pI rfl rfl rfl rfl ?_
    show X _ _ 209 [some (.inr (.inr (some 21))), none, none, none, none, some (.inl v5), none, none, some (.inl v8), some (.inl v9), some (.inl w0)] [] (hp (pI (pI s 21 9 v8) 21 10 v9)) _
    refine X_mask [true, true, true, true, true, true, true, true, false, false, false] ?_
    exact ct_M_scope_209 hrec fu (pI (pI s 21 9 v8) 21 10 v9) v5 hw
  · have hw := hw.2 hb
    refine X_run 3 (i1 := 209) (L1 := [some (.inr (.inr (some 21))), none, none, none, none, some (.inl w0), none, none, some (.inl v8), some (.inl v9), some (.inl w0)]) (st1 := []) rfl ?_
    refine X_mask [true, true, true, true, true, true, true, true, false, false, false] ?_
    exact ct_M_scope_209 hrec fu s w0 hw
def t_M_scope_177 (rec : G_part) (fu : Nat) (s : St) (v1 : Int32) (v5 : Int32) (v7 : Int32) : Int32 × St := (cond (cn2 .ge v5 (2 : Int32)) (t_M_scope_209 rec fu s v5) (t_M_scope_197 rec fu ((rec.1 s v7 (v7 + (sA s 30 (Int32.toNatClampNeg (v1 + (6 : Int32)))))).2) v5 (sI s 21 9) (sI s 21 10) ((rec.1 s v7 (v7 + (sA s 30 (Int32.toNatClampNeg (v1 + (6 : Int32)))))).1)))
def w_M_scope_177 (rec : G_part) (wrec : GW_part) (fu : Nat) (s : St) (v1 : Int32) (v5 : Int32) (v7 : Int32) : Prop := ((cn2 .ge v5 (2 : Int32)) = true → (w_M_scope_209 rec wrec fu s v5)) ∧ ((cn2 .ge v5 (2 : Int32)) = false → (vp_in (v1 + (6 : Int32)) 3200 ∧ (wrec.1 s v7 (v7 + (sA s 30 (Int32.toNatClampNeg (v1 + (6 : Int32))))) ∧ (w_M_scope_197 rec wrec fu ((rec.1 s v7 (v7 + (sA s 30 (Int32.toNatClampNeg (v1 + (6 : Int32)))))).2) v5 (sI s 21 9) (sI s 21 10) ((rec.1 s v7 (v7 + (sA s 30 (Int32.toNatClampNeg (v1 + (6 : Int32)))))).1)))))
theorem ct_M_scope_177 {d : Nat} {rec : G_part} {wrec : GW_part} (hrec : hr_part (d + 38) rec wrec) (fu : Nat) (s : St) (v1 : Int32) (v5 : Int32) (v7 : Int32) (hw : w_M_scope_177 rec wrec fu s v1 v5 v7) : X m_M_scope (d + 39) 177 [some (.inr (.inr (some 21))), some (.inl v1), none, none, none, some (.inl v5), none, some (.inl v7), none, none, none] [] (hp s) (qIs (t_M_scope_177 rec fu s v1 v5 v7)) := by
  unfold t_M_scope_177
  unfold w_M_scope_177 at hw
  refine X_run 3 (i1 := cond (cn2 .ge v5 (2 : Int32)) 209 180) (L1 := [some (.inr (.inr (some 21))), some (.inl v1), none, none, none, some (.inl v5), none, some (.inl v7), none, none, none]) (st1 := []) rfl ?_
  refine X_brq (fun hb => ?_) (fun hb => ?_)
  · have hw := hw.1 hb
    refine X_mask [true, false, true, true, true, true, true, false, true, true, true] ?_
    exact ct_M_scope_209 hrec fu s v5 hw
  · have hw := hw.2 hb
    refine X_run 1 (i1 := 181) (L1 := [some (.inr (.inr (some 21))), some (.inl v1), none, none, none, some (.inl v5), none, some (.inl v7), none, none, none]) (st1 := [.inr (.inr (some 21))]) rfl ?_
    refine X_gF (v := .inl (sI s 21 9)) rfl rfl rfl rfl ?_
    refine X_run 2 (i1 := 184) (L1 := [some (.inr (.inr (some 21))), some (.inl v1), none, none, none, some (.inl v5), none, some (.inl v7), some (.inl (sI s 21 9)), none, none]) (st1 := [.inr (.inr (some 21))]) rfl ?_
    refine X_gF (v := .inl (sI s 21 10)) rfl rfl rfl rfl ?_
    refine X_run 5 (i1 := 190) (L1 := [some (.inr (.inr (some 21))), some (.inl v1), none, none, none, some (.inl v5), none, some (.inl v7), some (.inl (sI s 21 9)), some (.inl (sI s 21 10)), none]) (st1 := [.inr (.inr (some 21)), .inl v7, .inl v7, .inr (.inr (some 21))]) rfl ?_
    refine X_gF (v := .inr (.inr (some 30))) rfl rfl rfl rfl ?_
    refine X_run 3 (i1 := 194) (L1 := [some (.inr (.inr (some 21))), some (.inl v1), none, none, none, some (.inl v5), none, some (.inl v7), some (.inl (sI s 21 9)), some (.inl (sI s 21 10)), none]) (st1 := [.inl (v1 + (6 : Int32)), .inr (.inr (some 30)), .inl v7, .inl v7, .inr (.inr (some 21))]) rfl ?_
    obtain ⟨hin, hw⟩ := hw
    refine X_aI rfl rfl hin ?_
    show X _ _ 195 [some (.inr (.inr (some 21))), some (.inl v1), none, none, none, some (.inl v5), none, some (.inl v7), some (.inl (sI s 21 9)), some (.inl (sI s 21 10)), none] [.inl (sA s 30 (Int32.toNatClampNeg (v1 + (6 : Int32)))), .inl v7, .inl v7, .inr (.inr (some 21))] (hp s) _
    refine X_run 1 (i1 := 196) (L1 := [some (.inr (.inr (some 21))), some (.inl v1), none, none, none, some (.inl v5), none, some (.inl v7), some (.inl (sI s 21 9)), some (.inl (sI s 21 10)), none]) (st1 := [.inl (v7 + (sA s 30 (Int32.toNatClampNeg (v1 + (6 : Int32))))), .inl v7, .inr (.inr (some 21))]) rfl ?_
    obtain ⟨hc, hw⟩ := hw
    refine X_callv m_M_part (As := [.inl v7, .inl (v7 + (sA s 30 (Int32.toNatClampNeg (v1 + (6 : Int32)))))]) (st := []) ok_M_part rfl rfl rfl (hp_obj rfl) rfl (Nat.le_of_ble_eq_true rfl) (Nat.le_of_ble_eq_true rfl) (hrec.1 s v7 (v7 + (sA s 30 (Int32.toNatClampNeg (v1 + (6 : Int32))))) hc) ?_
    rintro _ _ ⟨rfl, rfl⟩
    show X _ _ 197 [some (.inr (.inr (some 21))), some (.inl v1), none, none, none, some (.inl v5), none, some (.inl v7), some (.inl (sI s 21 9)), some (.inl (sI s 21 10)), none] [.inl ((rec.1 s v7 (v7 + (sA s 30 (Int32.toNatClampNeg (v1 + (6 : Int32)))))).1)] (hp ((rec.1 s v7 (v7 + (sA s 30 (Int32.toNatClampNeg (v1 + (6 : Int32)))))).2)) _
    show X _ _ 197 [some (.inr (.inr (some 21))), some (.inl v1), none, none, none, some (.inl v5), none, some (.inl v7), some (.inl (sI s 21 9)), some (.inl (sI s 21 10)), none] [.inl ((rec.1 s v7 (v7 + (sA s 30 (Int32.toNatClampNeg (v1 + (6 : Int32)))))).1)] (hp ((rec.1 s v7 (v7 + (sA s 30 (Int32.toNatClampNeg (v1 + (6 : Int32)))))).2)) _
    refine X_mask [true, false, true, true, true, true, true, false, true, true, true] ?_
    exact ct_M_scope_197 hrec fu ((rec.1 s v7 (v7 + (sA s 30 (Int32.toNatClampNeg (v1 + (6 : Int32)))))).2) v5 (sI s 21 9) (sI s 21 10) ((rec.1 s v7 (v7 + (sA s 30 (Int32.toNatClampNeg (v1 + (6 : Int32)))))).1) hw
def t_M_scope_176 (rec : G_part) (fu : Nat) (s : St) (v1 : Int32) (v7 : Int32) (w0 : Int32) : Int32 × St := (t_M_scope_177 rec fu s v1 w0 v7)
def w_M_scope_176 (rec : G_part) (wrec : GW_part) (fu : Nat) (s : St) (v1 : Int32) (v7 : Int32) (w0 : Int32) : Prop := (w_M_scope_177 rec wrec fu s v1 w0 v7)
theorem ct_M_scope_176 {d : Nat} {rec : G_part} {wrec : GW_part} (hrec : hr_part (d + 38) rec wrec) (fu : Nat) (s : St) (v1 : Int32) (v7 : Int32) (w0 : Int32) (hw : w_M_scope_176 rec wrec fu s v1 v7 w0) : X m_M_scope (d + 39) 176 [some (.inr (.inr (some 21))), some (.inl v1), none, none, none, none, none, some (.inl v7), none, none, none] [.inl w0] (hp s) (qIs (t_M_scope_176 rec fu s v1 v7 w0)) := by
  unfold t_M_scope_176
  unfold w_M_scope_176 at hw
  refine X_run 1 (i1 := 177) (L1 := [some (.inr (.inr (some 21))), some (.inl v1), none, none, none, some (.inl w0), none, some (.inl v7), none, none, none]) (st1 := []) rfl ?_
  exact ct_M_scope_177 hrec fu s v1 w0 v7 hw
def t_M_scope_172 (rec : G_part) (fu : Nat) (s : St) (v1 : Int32) (v6 : Int32) (v7 : Int32) : Int32 × St := (t_M_scope_176 rec fu ((rec.1 s v6 v7).2) v1 v7 ((rec.1 s v6 v7).1))
def w_M_scope_172 (rec : G_part) (wrec : GW_part) (fu : Nat) (s : St) (v1 : Int32) (v6 : Int32) (v7 : Int32) : Prop := (wrec.1 s v6 v7 ∧ (w_M_scope_176 rec wrec fu ((rec.1 s v6 v7).2) v1 v7 ((rec.1 s v6 v7).1)))
theorem ct_M_scope_172 {d : Nat} {rec : G_part} {wrec : GW_part} (hrec : hr_part (d + 38) rec wrec) (fu : Nat) (s : St) (v1 : Int32) (v6 : Int32) (v7 : Int32) (hw : w_M_scope_172 rec wrec fu s v1 v6 v7) : X m_M_scope (d + 39) 172 [some (.inr (.inr (some 21))), some (.inl v1), none, none, none, none, some (.inl v6), some (.inl v7), none, none, none] [] (hp s) (qIs (t_M_scope_172 rec fu s v1 v6 v7)) := by
  unfold t_M_scope_172
  unfold w_M_scope_172 at hw
  refine X_run 3 (i1 := 175) (L1 := [some (.inr (.inr (some 21))), some (.inl v1), none, none, none, none, some (.inl v6), some (.inl v7), none, none, none]) (st1 := [.inl v7, .inl v6, .inr (.inr (some 21))]) rfl ?_
  obtain ⟨hc, hw⟩ := hw
  refine X_callv m_M_part (As := [.inl v6, .inl v7]) (st := []) ok_M_part rfl rfl rfl (hp_obj rfl) rfl (Nat.le_of_ble_eq_true rfl) (Nat.le_of_ble_eq_true rfl) (hrec.1 s v6 v7 hc) ?_
  rintro _ _ ⟨rfl, rfl⟩
  show X _ _ 176 [some (.inr (.inr (some 21))), some (.inl v1), none, none, none, none, some (.inl v6), some (.inl v7), none, none, none] [.inl ((rec.1 s v6 v7).1)] (hp ((rec.1 s v6 v7).2)) _
  show X _ _ 176 [some (.inr (.inr (some 21))), some (.inl v1), none, none, none, none, some (.inl v6), some (.inl v7), none, none, none] [.inl ((rec.1 s v6 v7).1)] (hp ((rec.1 s v6 v7).2)) _
  refine X_mask [true, true, true, true, true, true, false, true, true, true, true] ?_
  exact ct_M_scope_176 hrec fu ((rec.1 s v6 v7).2) v1 v7 ((rec.1 s v6 v7).1) hw
def t_M_scope_160 (rec : G_part) (fu : Nat) (s : St) (v1 : Int32) (v6 : Int32) (v7 : Int32) : Int32 × St := (t_M_scope_172 rec fu (pA (pA s 28 (upd (sA s 28) (Int32.toNatClampNeg (7 : Int32)) (sI s 21 9))) 28 (upd ((upd (sA s 28) (Int32.toNatClampNeg (7 : Int32)) (sI s 21 9))) (Int32.toNatClampNeg (6 : Int32)) (sI s 21 10))) v1 v6 v7)
def w_M_scope_160 (rec : G_part) (wrec : GW_part) (fu : Nat) (s : St) (v1 : Int32) (v6 : Int32) (v7 : Int32) : Prop := (vp_in (7 : Int32) 8 ∧ (vp_in (6 : Int32) 8 ∧ (w_M_scope_172 rec wrec fu (pA (pA s 28 (upd (sA s 28) (Int32.toNatClampNeg (7 : Int32)) (sI s 21 9))) 28 (upd ((upd (sA s 28) (Int32.toNatClampNeg (7 : Int32)) (sI s 21 9))) (Int32.toNatClampNeg (6 : Int32)) (sI s 21 10))) v1 v6 v7)))
theorem ct_M_scope_160 {d : Nat} {rec : G_part} {wrec : GW_part} (hrec : hr_part (d + 38) rec wrec) (fu : Nat) (s : St) (v1 : Int32) (v6 : Int32) (v7 : Int32) (hw : w_M_scope_160 rec wrec fu s v1 v6 v7) : X m_M_scope (d + 39) 160 [some (.inr (.inr (some 21))), some (.inl v1), none, none, none, none, some (.inl v6), some (.inl v7), none, none, none] [] (hp s) (qIs (t_M_scope_160 rec fu s v1 v6 v7)) := by
  unfold t_M_scope_160
  unfold w_M_scope_160 at hw
  refine X_run 1 (i1 := 161) (L1 := [some (.inr (.inr (some 21))), some (.inl v1), none, none, none, none, some (.inl v6), some (.inl v7), none, none, none]) (st1 := [.inr (.inr (some 21))]) rfl ?_
  refine X_gF (v := .inr (.inr (some 28))) rfl rfl rfl rfl ?_
  refine X_run 2 (i1 := 164) (L1 := [some (.inr (.inr (some 21))), some (.inl v1), none, none, none, none, some (.inl v6), some (.inl v7), none, none, none]) (st1 := [.inr (.inr (some 21)), .inl (7 : Int32), .inr (.inr (some 28))]) rfl ?_
  refine X_gF (v := .inl (sI s 21 9)) rfl rfl rfl rfl ?_
  obtain ⟨hin, hw⟩ := hw
  refine X_sI rfl rfl hin ?_
  show X _ _ 166 [some (.inr (.inr (some 21))), some (.inl v1), none, none, none, none, some (.inl v6), some (.inl v7), none, none, none] [] (hp (pA s 28 (upd (sA s 28) (Int32.toNatClampNeg (7 : Int32)) (sI s 21 9)))) _
  refine X_run 1 (i1 := 167) (L1 := [some (.inr (.inr (some 21))), some (.inl v1), none, none, none, none, some (.inl v6), some (.inl v7), none, none, none]) (st1 := [.inr (.inr (some 21))]) rfl ?_
  refine X_gF (v := .inr (.inr (some 28))) rfl rfl rfl rfl ?_
  refine X_run 2 (i1 := 170) (L1 := [some (.inr (.inr (some 21))), some (.inl v1), none, none, none, none, some (.inl v6), some (.inl v7), none, none, none]) (st1 := [.inr (.inr (some 21)), .inl (6 : Int32), .inr (.inr (some 28))]) rfl ?_
  refine X_gF (v := .inl (sI s 21 10)) rfl rfl rfl rfl ?_
  obtain ⟨hin, hw⟩ := hw
  refine X_sI rfl rfl hin ?_
  show X _ _ 172 [some (.inr (.inr (some 21))), some (.inl v1), none, none, none, none, some (.inl v6), some (.inl v7), none, none, none] [] (hp (pA (pA s 28 (upd (sA s 28) (Int32.toNatClampNeg (7 : Int32)) (sI s 21 9))) 28 (upd ((upd (sA s 28) (Int32.toNatClampNeg (7 : Int32)) (sI s 21 9))) (Int32.toNatClampNeg (6 : Int32)) (sI s 21 10)))) _
  show X _ _ 172 [some (.inr (.inr (some 21))), some (.inl v1), none, none, none, none, some (.inl v6), some (.inl v7), none, none, none] [] (hp (pA (pA s 28 (upd (sA s 28) (Int32.toNatClampNeg (7 : Int32)) (sI s 21 9))) 28 (upd ((upd (sA s 28) (Int32.toNatClampNeg (7 : Int32)) (sI s 21 9))) (Int32.toNatClampNeg (6 : Int32)) (sI s 21 10)))) _
  exact ct_M_scope_172 hrec fu (pA (pA s 28 (upd (sA s 28) (Int32.toNatClampNeg (7 : Int32)) (sI s 21 9))) 28 (upd ((upd (sA s 28) (Int32.toNatClampNeg (7 : Int32)) (sI s 21 9))) (Int32.toNatClampNeg (6 : Int32)) (sI s 21 10))) v1 v6 v7 hw
def t_M_scope_137 (rec : G_part) (fu : Nat) (s : St) (v1 : Int32) (v3 : Int32) (v4 : Int32) (v6 : Int32) (v7 : Int32) (w0 : Int32) : Int32 × St := (cond (cn2 .ne w0 (1 : Int32)) (t_M_scope_177 rec fu s v1 w0 v7) (cond (cn2 .ne (((sA s 30 (Int32.toNatClampNeg (v1 + (1 : Int32)))) >>> (((sI s 21 9) - (1 : Int32)) &&& 31)) &&& (1 : Int32)) (1 : Int32)) (t_M_scope_177 rec fu s v1 w0 v7) (t_M_scope_160 rec fu (f_M_back fu s v3 v4) v1 v6 v7)))
def w_M_scope_137 (rec : G_part) (wrec : GW_part) (fu : Nat) (s : St) (v1 : Int32) (v3 : Int32) (v4 : Int32) (v6 : Int32) (v7 : Int32) (w0 : Int32) : Prop := ((cn2 .ne w0 (1 : Int32)) = true → (w_M_scope_177 rec wrec fu s v1 w0 v7)) ∧ ((cn2 .ne w0 (1 : Int32)) = false → (vp_in (v1 + (1 : Int32)) 3200 ∧ ((cn2 .ne (((sA s 30 (Int32.toNatClampNeg (v1 + (1 : Int32)))) >>> (((sI s 21 9) - (1 : Int32)) &&& 31)) &&& (1 : Int32)) (1 : Int32)) = true → (w_M_scope_177 rec wrec fu s v1 w0 v7)) ∧ ((cn2 .ne (((sA s 30 (Int32.toNatClampNeg (v1 + (1 : Int32)))) >>> (((sI s 21 9) - (1 : Int32)) &&& 31)) &&& (1 : Int32)) (1 : Int32)) = false → (w_M_back fu s v3 v4 ∧ (w_M_scope_160 rec wrec fu (f_M_back fu s v3 v4) v1 v6 v7)))))
theorem ct_M_scope_137 {d : Nat} {rec : G_part} {wrec : GW_part} (hrec : hr_part (d + 38) rec wrec) (fu : Nat) (s : St) (v1 : Int32) (v3 : Int32) (v4 : Int32) (v6 : Int32) (v7 : Int32) (w0 : Int32) (hw : w_M_scope_137 rec wrec fu s v1 v3 v4 v6 v7 w0) : X m_M_scope (d + 39) 137 [some (.inr (.inr (some 21))), some (.inl v1), none, some (.inl v3), some (.inl v4), none, some (.inl v6), some (.inl v7), none, none, none] [.inl w0] (hp s) (qIs (t_M_scope_137 rec fu s v1 v3 v4 v6 v7 w0)) := by
  unfold t_M_scope_137
  unfold w_M_scope_137 at hw
  refine X_run 4 (i1 := cond (cn2 .ne w0 (1 : Int32)) 177 141) (L1 := [some (.inr (.inr (some 21))), some (.inl v1), none, some (.inl v3), some (.inl v4), some (.inl w0), some (.inl v6), some (.inl v7), none, none, none]) (st1 := []) rfl ?_
  refine X_brq (fun hb => ?_) (fun hb => ?_)
  · have hw := hw.1 hb
    refine X_mask [true, true, true, false, false, true, false, true, true, true, true] ?_
    exact ct_M_scope_177 hrec fu s v1 w0 v7 hw
  · have hw := hw.2 hb
    refine X_run 1 (i1 := 142) (L1 := [some (.inr (.inr (some 21))), some (.inl v1), none, some (.inl v3), some (.inl v4), some (.inl w0), some (.inl v6), some (.inl v7), none, none, none]) (st1 := [.inr (.inr (some 21))]) rfl ?_
    refine X_gF (v := .inr (.inr (some 30))) rfl rfl rfl rfl ?_
    refine X_run 3 (i1 := 146) (L1 := [some (.inr (.inr (some 21))), some (.inl v1), none, some (.inl v3), some (.inl v4), some (.inl w0), some (.inl v6), some (.inl v7), none, none, none]) (st1 := [.inl (v1 + (1 : Int32)), .inr (.inr (some 30))]) rfl ?_
    obtain ⟨hin, hw⟩ := hw
    refine X_aI rfl rfl hin ?_
    show X _ _ 147 [some (.inr (.inr (some 21))), some (.inl v1), none, some (.inl v3), some (.inl v4), some (.inl w0), some (.inl v6), some (.inl v7), none, none, none] [.inl (sA s 30 (Int32.toNatClampNeg (v1 + (1 : Int32))))] (hp s) _
    refine X_run 1 (i1 := 148) (L1 := [some (.inr (.inr (some 21))), some (.inl v1), none, some (.inl v3), some (.inl v4), some (.inl w0), some (.inl v6), some (.inl v7), none, none, none]) (st1 := [.inr (.inr (some 21)), .inl (sA s 30 (Int32.toNatClampNeg (v1 + (1 : Int32))))]) rfl ?_
    refine X_gF (v := .inl (sI s 21 9)) rfl rfl rfl rfl ?_
    refine X_run 7 (i1 := cond (cn2 .ne (((sA s 30 (Int32.toNatClampNeg (v1 + (1 : Int32)))) >>> (((sI s 21 9) - (1 : Int32)) &&& 31)) &&& (1 : Int32)) (1 : Int32)) 177 156) (L1 := [some (.inr (.inr (some 21))), some (.inl v1), none, some (.inl v3), some (.inl v4), some (.inl w0), some (.inl v6), some (.inl v7), none, none, none]) (st1 := []) rfl ?_
    refine X_brq (fun hb => ?_) (fun hb => ?_)
    · have hw := hw.1 hb
      refine X_mask [true, true, true, false, false, true, false, true, true, true, true] ?_
      exact ct_M_scope_177 hrec fu s v1 w0 v7 hw
    · have hw := hw.2 hb
      refine X_run 3 (i1 := 159) (L1 := [some (.inr (.inr (some 21))), some (.inl v1), none, some (.inl v3), some (.inl v4), some (.inl w0), some (.inl v6), some (.inl v7), none, none, none]) (st1 := [.inl v4, .inl v3, .inr (.inr (some 21))]) rfl ?_
      obtain ⟨hc, hw⟩ := hw
      refine X_callv m_M_back (As := [.inl v3, .inl v4]) (st := []) ok_M_back rfl rfl rfl (hp_obj rfl) rfl (Nat.le_of_ble_eq_true rfl) (Nat.le_of_ble_eq_true rfl) (c_M_back (d := d + 38) fu s v3 v4 hc) ?_
      rintro _ _ ⟨rfl, rfl⟩
      show X _ _ 160 [some (.inr (.inr (some 21))), some (.inl v1), none, some (.inl v3), some (.inl v4), some (.inl w0), some (.inl v6), some (.inl v7), none, none, none] [] (hp (f_M_back fu s v3 v4)) _
      show X _ _ 160 [some (.inr (.inr (some 21))), some (.inl v1), none, some (.inl v3), some (.inl v4), some (.inl w0), some (.inl v6), some (.inl v7), none, none, none] [] (hp (f_M_back fu s v3 v4)) _
      refine X_mask [true, true, true, false, false, false, true, true, true, true, true] ?_
      exact ct_M_scope_160 hrec fu (f_M_back fu s v3 v4) v1 v6 v7 hw
def t_M_scope_105 (rec : G_part) (fu : Nat) (s : St) (v1 : Int32) (v2 : Int32) (v3 : Int32) (v4 : Int32) (v5 : Int32) : Int32 × St := (cond (cn1 .eq v5) (t_M_scope_137 rec fu ((rec.1 s v2 (v2 + (sA s 30 (Int32.toNatClampNeg (v1 + (4 : Int32)))))).2) v1 v3 v4 (v2 + (sA s 30 (Int32.toNatClampNeg (v1 + (4 : Int32))))) ((v2 + (sA s 30 (Int32.toNatClampNeg (v1 + (4 : Int32))))) + (sA s 30 (Int32.toNatClampNeg (v1 + (5 : Int32))))) ((rec.1 s v2 (v2 + (sA s 30 (Int32.toNatClampNeg (v1 + (4 : Int32)))))).1)) (v5, pI s 21 26 ((sI s 21 26) - (1 : Int32))))
def w_M_scope_105 (rec : G_part) (wrec : GW_part) (fu : Nat) (s : St) (v1 : Int32) (v2 : Int32) (v3 : Int32) (v4 : Int32) (v5 : Int32) : Prop := ((cn1 .eq v5) = true → (vp_in (v1 + (4 : Int32)) 3200 ∧ (vp_in (v1 + (5 : Int32)) 3200 ∧ (wrec.1 s v2 (v2 + (sA s 30 (Int32.toNatClampNeg (v1 + (4 : Int32))))) ∧ (w_M_scope_137 rec wrec fu ((rec.1 s v2 (v2 + (sA s 30 (Int32.toNatClampNeg (v1 + (4 : Int32)))))).2) v1 v3 v4 (v2 + (sA s 30 (Int32.toNatClampNeg (v1 + (4 : Int32))))) ((v2 + (sA s 30 (Int32.toNatClampNeg (v1 + (4 : Int32))))) + (sA s 30 (Int32.toNatClampNeg (v1 + (5 : Int32))))) ((rec.1 s v2 (v2 + (sA s 30 (Int32.toNatClampNeg (v1 + (4 : Int32)))))).1)))))) ∧ ((cn1 .eq v5) = false → True)
theorem ct_M_scope_105 {d : Nat} {rec : G_part} {wrec : GW_part} (hrec : hr_part (d + 38) rec wrec) (fu : Nat) (s : St) (v1 : Int32) (v2 : Int32) (v3 : Int32) (v4 : Int32) (v5 : Int32) (hw : w_M_scope_105 rec wrec fu s v1 v2 v3 v4 v5) : X m_M_scope (d + 39) 105 [some (.inr (.inr (some 21))), some (.inl v1), some (.inl v2), some (.inl v3), some (.inl v4), some (.inl v5), none, none, none, none, none] [] (hp s) (qIs (t_M_scope_105 rec fu s v1 v2 v3 v4 v5)) := by
  unfold t_M_scope_105
  unfold w_M_scope_105 at hw
  refine X_run 2 (i1 := cond (cn1 .eq v5) 115 107) (L1 := [some (.inr (.inr (some 21))), some (.inl v1), some (.inl v2), some (.inl v3), some (.inl v4), some (.inl v5), none, none, none, none, none]) (st1 := []) rfl ?_
  refine X_brq (fun hb => ?_) (fun hb => ?_)
  · have hw := hw.1 hb
    refine X_run 2 (i1 := 117) (L1 := [some (.inr (.inr (some 21))), some (.inl v1), some (.inl v2), some (.inl v3), some (.inl v4), some (.inl v5), none, none, none, none, none]) (st1 := [.inr (.inr (some 21)), .inl v2]) rfl ?_
    refine X_gF (v := .inr (.inr (some 30))) rfl rfl rfl rfl ?_
    refine X_run 3 (i1 := 121) (L1 := [some (.inr (.inr (some 21))), some (.inl v1), some (.inl v2), some (.inl v3), some (.inl v4), some (.inl v5), none, none, none, none, none]) (st1 := [.inl (v1 + (4 : Int32)), .inr (.inr (some 30)), .inl v2]) rfl ?_
    obtain ⟨hin, hw⟩ := hw
    refine X_aI rfl rfl hin ?_
    show X _ _ 122 [some (.inr (.inr (some 21))), some (.inl v1), some (.inl v2), some (.inl v3), some (.inl v4), some (.inl v5), none, none, none, none, none] [.inl (sA s 30 (Int32.toNatClampNeg (v1 + (4 : Int32)))), .inl v2] (hp s) _
    refine X_run 4 (i1 := 126) (L1 := [some (.inr (.inr (some 21))), some (.inl v1), some (.inl v2), some (.inl v3), some (.inl v4), some (.inl v5), some (.inl (v2 + (sA s 30 (Int32.toNatClampNeg (v1 + (4 : Int32)))))), none, none, none, none]) (st1 := [.inr (.inr (some 21)), .inl (v2 + (sA s 30 (Int32.toNatClampNeg (v1 + (4 : Int32)))))]) rfl ?_
    refine X_gF (v := .inr (.inr (some 30))) rfl rfl rfl rfl ?_
    refine X_run 3 (i1 := 130) (L1 := [some (.inr (.inr (some 21))), some (.inl v1), some (.inl v2), some (.inl v3), some (.inl v4), some (.inl v5), some (.inl (v2 + (sA s 30 (Int32.toNatClampNeg (v1 + (4 : Int32)))))), none, none, none, none]) (st1 := [.inl (v1 + (5 : Int32)), .inr (.inr (some 30)), .inl (v2 + (sA s 30 (Int32.toNatClampNeg (v1 + (4 : Int32)))))]) rfl ?_
    obtain ⟨hin, hw⟩ := hw
    refine X_aI rfl rfl hin ?_
    show X _ _ 131 [some (.inr (.inr (some 21))), some (.inl v1), some (.inl v2), some (.inl v3), some (.inl v4), some (.inl v5), some (.inl (v2 + (sA s 30 (Int32.toNatClampNeg (v1 + (4 : Int32)))))), none, none, none, none] [.inl (sA s 30 (Int32.toNatClampNeg (v1 + (5 : Int32)))), .inl (v2 + (sA s 30 (Int32.toNatClampNeg (v1 + (4 : Int32)))))] (hp s) _
    refine X_run 5 (i1 := 136) (L1 := [some (.inr (.inr (some 21))), some (.inl v1), some (.inl v2), some (.inl v3), some (.inl v4), some (.inl v5), some (.inl (v2 + (sA s 30 (Int32.toNatClampNeg (v1 + (4 : Int32)))))), some (.inl ((v2 + (sA s 30 (Int32.toNatClampNeg (v1 + (4 : Int32))))) + (sA s 30 (Int32.toNatClampNeg (v1 + (5 : Int32)))))), none, none, none]) (st1 := [.inl (v2 + (sA s 30 (Int32.toNatClampNeg (v1 + (4 : Int32))))), .inl v2, .inr (.inr (some 21))]) rfl ?_
    obtain ⟨hc, hw⟩ := hw
    refine X_callv m_M_part (As := [.inl v2, .inl (v2 + (sA s 30 (Int32.toNatClampNeg (v1 + (4 : Int32)))))]) (st := []) ok_M_part rfl rfl rfl (hp_obj rfl) rfl (Nat.le_of_ble_eq_true rfl) (Nat.le_of_ble_eq_true rfl) (hrec.1 s v2 (v2 + (sA s 30 (Int32.toNatClampNeg (v1 + (4 : Int32))))) hc) ?_
    rintro _ _ ⟨rfl, rfl⟩
    show X _ _ 137 [some (.inr (.inr (some 21))), some (.inl v1), some (.inl v2), some (.inl v3), some (.inl v4), some (.inl v5), some (.inl (v2 + (sA s 30 (Int32.toNatClampNeg (v1 + (4 : Int32)))))), some (.inl ((v2 + (sA s 30 (Int32.toNatClampNeg (v1 + (4 : Int32))))) + (sA s 30 (Int32.toNatClampNeg (v1 + (5 : Int32)))))), none, none, none] [.inl ((rec.1 s v2 (v2 + (sA s 30 (Int32.toNatClampNeg (v1 + (4 : Int32)))))).1)] (hp ((rec.1 s v2 (v2 + (sA s 30 (Int32.toNatClampNeg (v1 + (4 : Int32)))))).2)) _
    show X _ _ 137 [some (.inr (.inr (some 21))), some (.inl v1), some (.inl v2), some (.inl v3), some (.inl v4), some (.inl v5), some (.inl (v2 + (sA s 30 (Int32.toNatClampNeg (v1 + (4 : Int32)))))), some (.inl ((v2 + (sA s 30 (Int32.toNatClampNeg (v1 + (4 : Int32))))) + (sA s 30 (Int32.toNatClampNeg (v1 + (5 : Int32)))))), none, none, none] [.inl ((rec.1 s v2 (v2 + (sA s 30 (Int32.toNatClampNeg (v1 + (4 : Int32)))))).1)] (hp ((rec.1 s v2 (v2 + (sA s 30 (Int32.toNatClampNeg (v1 + (4 : Int32)))))).2)) _
    refine X_mask [true, true, false, true, true, false, true, true, true, true, true] ?_
    exact ct_M_scope_137 hrec fu ((rec.1 s v2 (v2 + (sA s 30 (Int32.toNatClampNeg (v1 + (4 : Int32)))))).2) v1 v3 v4 (v2 + (sA s 30 (Int32.toNatClampNeg (v1 + (4 : Int32))))) ((v2 + (sA s 30 (Int32.toNatClampNeg (v1 + (4 : Int32))))) + (sA s 30 (Int32.toNatClampNeg (v1 + (5 : Int32))))) ((rec.1 s v2 (v2 + (sA s 30 (Int32.toNatClampNeg (v1 + (4 : Int32)))))).1) hw
  · skip
    refine X_run 2 (i1 := 109) (L1 := [some (.inr (.inr (some 21))), some (.inl v1), some (.inl v2), some (.inl v3), some (.inl v4), some (.inl v5), none, none, none, none, none]) (st1 := [.inr (.inr (some 21)), .inr (.inr (some 21))]) rfl ?_
    refine X_gF (v := .inl (sI s 21 26)) rfl rfl rfl rfl ?_
    refine X_run 2 (i1 := 112) (L1 := [some (.inr (.inr (some 21))), some (.inl v1), some (.inl v2), some (.inl v3), some (.inl v4), some (.inl v5), none, none, none, none, none]) (st1 := [.inl ((sI s 21 26) - (1 : Int32)), .inr (.inr (some 21))]) rfl ?_
    refine X_pI rfl rfl rfl rfl ?_
    refine X_run 1 (i1 := 114) (L1 := [some (.inr (.inr (some 21))), some (.inl v1), some (.inl v2), some (.inl v3), some (.inl v4), some (.inl v5), none, none, none, none, none]) (st1 := [.inl v5]) rfl ?_
    exact X_iret rfl rfl qIs_i
abbrev LT_M_scope_31 : Type := (St → Int32 → Int32 → Int32 → Int32 → Int32 → Int32 → Int32 × St) × (St → Int32 → Int32 → Int32 → Int32 → Int32 → Int32 → Int32 → Int32 × St) × (St → Int32 → Int32 → Int32 → Int32 → Int32 → Int32 → Int32 → Int32 → Int32 × St) × (St → Int32 → Int32 → Int32 → Int32 → Int32 → Int32 → Int32 × St) × (St → Int32 → Int32 → Int32 → Int32 → Int32 → Int32 → Int32 × St)
abbrev LW_M_scope_31 : Type := (St → Int32 → Int32 → Int32 → Int32 → Int32 → Int32 → Prop) × (St → Int32 → Int32 → Int32 → Int32 → Int32 → Int32 → Int32 → Prop) × (St → Int32 → Int32 → Int32 → Int32 → Int32 → Int32 → Int32 → Int32 → Prop) × (St → Int32 → Int32 → Int32 → Int32 → Int32 → Int32 → Prop) × (St → Int32 → Int32 → Int32 → Int32 → Int32 → Int32 → Prop)
def hl_M_scope_31 (d : Nat) (lp : LT_M_scope_31) (wlp : LW_M_scope_31) : Prop := (∀ (s : St) (v1 : Int32) (v2 : Int32) (v3 : Int32) (v4 : Int32) (v5 : Int32) (v6 : Int32), wlp.1 s v1 v2 v3 v4 v5 v6 → X m_M_scope d 31 [some (.inr (.inr (some 21))), some (.inl v1), some (.inl v2), some (.inl v3), some (.inl v4), some (.inl v5), some (.inl v6), none, none, none, none] [] (hp s) (qIs (lp.1 s v1 v2 v3 v4 v5 v6))) ∧ (∀ (s : St) (v1 : Int32) (v2 : Int32) (v3 : Int32) (v4 : Int32) (v6 : Int32) (v7 : Int32) (w0 : Int32), wlp.2.1 s v1 v2 v3 v4 v6 v7 w0 → X m_M_scope d 82 [some (.inr (.inr (some 21))), some (.inl v1), some (.inl v2), some (.inl v3), some (.inl v4), none, some (.inl v6), some (.inl v7), none, none, none] [.inl w0] (hp s) (qIs (lp.2.1 s v1 v2 v3 v4 v6 v7 w0))) ∧ (∀ (s : St) (v1 : Int32) (v2 : Int32) (v3 : Int32) (v4 : Int32) (v6 : Int32) (v7 : Int32) (w0 : Int32) (w1 : Int32), wlp.2.2.1 s v1 v2 v3 v4 v6 v7 w0 w1 → X m_M_scope d 97 [some (.inr (.inr (some 21))), some (.inl v1), some (.inl v2), some (.inl v3), some (.inl v4), none, some (.inl v6), some (.inl v7), none, none, none] [.inl w0, .inl w1, .inr (.inr (some 35))] (hp s) (qIs (lp.2.2.1 s v1 v2 v3 v4 v6 v7 w0 w1))) ∧ (∀ (s : St) (v1 : Int32) (v2 : Int32) (v3 : Int32) (v4 : Int32) (v6 : Int32) (w0 : Int32), wlp.2.2.2.1 s v1 v2 v3 v4 v6 w0 → X m_M_scope d 102 [some (.inr (.inr (some 21))), some (.inl v1), some (.inl v2), some (.inl v3), some (.inl v4), none, some (.inl v6), none, none, none, none] [.inl w0] (hp s) (qIs (lp.2.2.2.1 s v1 v2 v3 v4 v6 w0))) ∧ (∀ (s : St) (v1 : Int32) (v2 : Int32) (v3 : Int32) (v4 : Int32) (v5 : Int32) (v6 : Int32), wlp.2.2.2.2 s v1 v2 v3 v4 v5 v6 → X m_M_scope d 103 [some (.inr (.inr (some 21))), some (.inl v1), some (.inl v2), some (.inl v3), some (.inl v4), some (.inl v5), some (.inl v6), none, none, none, none] [] (hp s) (qIs (lp.2.2.2.2 s v1 v2 v3 v4 v5 v6)))
def b_M_scope_31 (rec : G_part) (fu : Nat) (lp : LT_M_scope_31) (s : St) (v1 : Int32) (v2 : Int32) (v3 : Int32) (v4 : Int32) (v5 : Int32) (v6 : Int32) : Int32 × St := (cond (cn2 .ge v6 (16 : Int32)) (t_M_scope_105 rec fu s v1 v2 v3 v4 v5) (cond (cn1 .ne v5) (t_M_scope_105 rec fu s v1 v2 v3 v4 v5) (cond (cn1 .ne ((v3 >>> (v6 &&& 31)) &&& (1 : Int32))) (cond (cn1 .ne (b2i (f_M_hasMembers (pA (pA s 34 (upd (sA s 34) (Int32.toNatClampNeg (v4 + v6)) (sA s 27 (Int32.toNatClampNeg v6)))) 35 (upd (sA s 35) (Int32.toNatClampNeg (v4 + v6)) (0 : Int32))) (sA s 27 (Int32.toNatClampNeg v6))))) (lp.2.1 ((f_M_pays (pA (pA s 34 (upd (sA s 34) (Int32.toNatClampNeg (v4 + v6)) (sA s 27 (Int32.toNatClampNeg v6)))) 35 (upd (sA s 35) (Int32.toNatClampNeg (v4 + v6)) (0 : Int32))) ((1 : Int64) + (Int32.toInt64 (sA s 24 (Int32.toNatClampNeg (sA s 27 (Int32.toNatClampNeg v6))))))).2) v1 v2 v3 v4 v6 (sA s 24 (Int32.toNatClampNeg (sA s 27 (Int32.toNatClampNeg v6)))) (b2i (f_M_pays (pA (pA s 34 (upd (sA s 34) (Int32.toNatClampNeg (v4 + v6)) (sA s 27 (Int32.toNatClampNeg v6)))) 35 (upd (sA s 35) (Int32.toNatClampNeg (v4 + v6)) (0 : Int32))) ((1 : Int64) + (Int32.toInt64 (sA s 24 (Int32.toNatClampNeg (sA s 27 (Int32.toNatClampNeg v6))))))).1)) (lp.2.2.2.2 (pA (pA s 34 (upd (sA s 34) (Int32.toNatClampNeg (v4 + v6)) (sA s 27 (Int32.toNatClampNeg v6)))) 35 (upd (sA s 35) (Int32.toNatClampNeg (v4 + v6)) (0 : Int32))) v1 v2 v3 v4 v5 v6)) (lp.2.2.2.2 s v1 v2 v3 v4 v5 v6))))
def v_M_scope_31 (rec : G_part) (wrec : GW_part) (fu : Nat) (lp : LT_M_scope_31) (wlp : LW_M_scope_31) (s : St) (v1 : Int32) (v2 : Int32) (v3 : Int32) (v4 : Int32) (v5 : Int32) (v6 : Int32) : Prop := ((cn2 .ge v6 (16 : Int32)) = true → (w_M_scope_105 rec wrec fu s v1 v2 v3 v4 v5)) ∧ ((cn2 .ge v6 (16 : Int32)) = false → ((cn1 .ne v5) = true → (w_M_scope_105 rec wrec fu s v1 v2 v3 v4 v5)) ∧ ((cn1 .ne v5) = false → ((cn1 .ne ((v3 >>> (v6 &&& 31)) &&& (1 : Int32))) = true → (vp_in v6 16 ∧ (vp_in (v4 + v6) 2288 ∧ (vp_in (v4 + v6) 2288 ∧ (vp_in v6 16 ∧ (w_M_hasMembers (pA (pA s 34 (upd (sA s 34) (Int32.toNatClampNeg (v4 + v6)) (sA s 27 (Int32.toNatClampNeg v6)))) 35 (upd (sA s 35) (Int32.toNatClampNeg (v4 + v6)) (0 : Int32))) (sA s 27 (Int32.toNatClampNeg v6)) ∧ ((cn1 .ne (b2i (f_M_hasMembers (pA (pA s 34 (upd (sA s 34) (Int32.toNatClampNeg (v4 + v6)) (sA s 27 (Int32.toNatClampNeg v6)))) 35 (upd (sA s 35) (Int32.toNatClampNeg (v4 + v6)) (0 : Int32))) (sA s 27 (Int32.toNatClampNeg v6))))) = true → (vp_in v6 16 ∧ (vp_in (sA s 27 (Int32.toNatClampNeg v6)) 40001 ∧ (w_M_pays (pA (pA s 34 (upd (sA s 34) (Int32.toNatClampNeg (v4 + v6)) (sA s 27 (Int32.toNatClampNeg v6)))) 35 (upd (sA s 35) (Int32.toNatClampNeg (v4 + v6)) (0 : Int32))) ((1 : Int64) + (Int32.toInt64 (sA s 24 (Int32.toNatClampNeg (sA s 27 (Int32.toNatClampNeg v6)))))) ∧ (wlp.2.1 ((f_M_pays (pA (pA s 34 (upd (sA s 34) (Int32.toNatClampNeg (v4 + v6)) (sA s 27 (Int32.toNatClampNeg v6)))) 35 (upd (sA s 35) (Int32.toNatClampNeg (v4 + v6)) (0 : Int32))) ((1 : Int64) + (Int32.toInt64 (sA s 24 (Int32.toNatClampNeg (sA s 27 (Int32.toNatClampNeg v6))))))).2) v1 v2 v3 v4 v6 (sA s 24 (Int32.toNatClampNeg (sA s 27 (Int32.toNatClampNeg v6)))) (b2i (f_M_pays (pA (pA s 34 (upd (sA s 34) (Int32.toNatClampNeg (v4 + v6)) (sA s 27 (Int32.toNatClampNeg v6)))) 35 (upd (sA s 35) (Int32.toNatClampNeg (v4 + v6)) (0 : Int32))) ((1 : Int64) + (Int32.toInt64 (sA s 24 (Int32.toNatClampNeg (sA s 27 (Int32.toNatClampNeg v6))))))).1)))))) ∧ ((cn1 .ne (b2i (f_M_hasMembers (pA (pA s 34 (upd (sA s 34) (Int32.toNatClampNeg (v4 + v6)) (sA s 27 (Int32.toNatClampNeg v6)))) 35 (upd (sA s 35) (Int32.toNatClampNeg (v4 + v6)) (0 : Int32))) (sA s 27 (Int32.toNatClampNeg v6))))) = false → (wlp.2.2.2.2 (pA (pA s 34 (upd (sA s 34) (Int32.toNatClampNeg (v4 + v6)) (sA s 27 (Int32.toNatClampNeg v6)))) 35 (upd (sA s 35) (Int32.toNatClampNeg (v4 + v6)) (0 : Int32))) v1 v2 v3 v4 v5 v6)))))))) ∧ ((cn1 .ne ((v3 >>> (v6 &&& 31)) &&& (1 : Int32))) = false → (wlp.2.2.2.2 s v1 v2 v3 v4 v5 v6))))
theorem cb_M_scope_31 {d : Nat} {rec : G_part} {wrec : GW_part} (hrec : hr_part (d + 38) rec wrec) (fu : Nat) {lp : LT_M_scope_31} {wlp : LW_M_scope_31} (hlp : hl_M_scope_31 (d + 39) lp wlp) (s : St) (v1 : Int32) (v2 : Int32) (v3 : Int32) (v4 : Int32) (v5 : Int32) (v6 : Int32) (hw : v_M_scope_31 rec wrec fu lp wlp s v1 v2 v3 v4 v5 v6) : X m_M_scope (d + 39) 31 [some (.inr (.inr (some 21))), some (.inl v1), some (.inl v2), some (.inl v3), some (.inl v4), some (.inl v5), some (.inl v6), none, none, none, none] [] (hp s) (qIs (b_M_scope_31 rec fu lp s v1 v2 v3 v4 v5 v6)) := by
  unfold b_M_scope_31
  unfold v_M_scope_31 at hw
  refine X_run 3 (i1 := cond (cn2 .ge v6 (16 : Int32)) 105 34) (L1 := [some (.inr (.inr (some 21))), some (.inl v1), some (.inl v2), some (.inl v3), some (.inl v4), some (.inl v5), some (.inl v6), none, none, none, none]) (st1 := []) rfl ?_
  refine X_brq (fun hb => ?_) (fun hb => ?_)
  · have hw := hw.1 hb
    refine X_mask [true, true, true, true, true, true, false, true, true, true, true] ?_
    exact ct_M_scope_105 hrec fu s v1 v2 v3 v4 v5 hw
  · have hw := hw.2 hb
    refine X_run 2 (i1 := cond (cn1 .ne v5) 105 36) (L1 := [some (.inr (.inr (some 21))), some (.inl v1), some (.inl v2), some (.inl v3), some (.inl v4), some (.inl v5), some (.inl v6), none, none, none, none]) (st1 := []) rfl ?_
    refine X_brq (fun hb => ?_) (fun hb => ?_)
    · have hw := hw.1 hb
      refine X_mask [true, true, true, true, true, true, false, true, true, true, true] ?_
      exact ct_M_scope_105 hrec fu s v1 v2 v3 v4 v5 hw
    · have hw := hw.2 hb
      refine X_run 6 (i1 := cond (cn1 .ne ((v3 >>> (v6 &&& 31)) &&& (1 : Int32))) 43 42) (L1 := [some (.inr (.inr (some 21))), some (.inl v1), some (.inl v2), some (.inl v3), some (.inl v4), some (.inl v5), some (.inl v6), none, none, none, none]) (st1 := []) rfl ?_
      refine X_brq (fun hb => ?_) (fun hb => ?_)
      · have hw := hw.1 hb
        refine X_run 1 (i1 := 44) (L1 := [some (.inr (.inr (some 21))), some (.inl v1), some (.inl v2), some (.inl v3), some (.inl v4), some (.inl v5), some (.inl v6), none, none, none, none]) (st1 := [.inr (.inr (some 21))]) rfl ?_
        refine X_gF (v := .inr (.inr (some 34))) rfl rfl rfl rfl ?_
        refine X_run 4 (i1 := 49) (L1 := [some (.inr (.inr (some 21))), some (.inl v1), some (.inl v2), some (.inl v3), some (.inl v4), some (.inl v5), some (.inl v6), none, none, none, none]) (st1 := [.inr (.inr (some 21)), .inl (v4 + v6), .inr (.inr (some 34))]) rfl ?_
        refine X_gF (v := .inr (.inr (some 27))) rfl rfl rfl rfl ?_
        refine X_run 1 (i1 := 51) (L1 := [some (.inr (.inr (some 21))), some (.inl v1), some (.inl v2), some (.inl v3), some (.inl v4), some (.inl v5), some (.inl v6), none, none, none, none]) (st1 := [.inl v6, .inr (.inr (some 27)), .inl (v4 + v6), .inr (.inr (some 34))]) rfl ?_
        obtain ⟨hin, hw⟩ := hw
        refine X_aI rfl rfl hin ?_
        show X _ _ 52 [some (.inr (.inr (some 21))), some (.inl v1), some (.inl v2), some (.inl v3), some (.inl v4), some (.inl v5), some (.inl v6), none, none, none, none] [.inl (sA s 27 (Int32.toNatClampNeg v6)), .inl (v4 + v6), .inr (.inr (some 34))] (hp s) _
        obtain ⟨hin, hw⟩ := hw
        refine X_sI rfl rfl hin ?_
        show X _ _ 53 [some (.inr (.inr (some 21))), some (.inl v1), some (.inl v2), some (.inl v3), some (.inl v4), some (.inl v5), some (.inl v6), none, none, none, none] [] (hp (pA s 34 (upd (sA s 34) (Int32.toNatClampNeg (v4 + v6)) (sA s 27 (Int32.toNatClampNeg v6))))) _
        refine X_run 1 (i1 := 54) (L1 := [some (.inr (.inr (some 21))), some (.inl v1), some (.inl v2), some (.inl v3), some (.inl v4), some (.inl v5), some (.inl v6), none, none, none, none]) (st1 := [.inr (.inr (some 21))]) rfl ?_
        refine X_gF (v := .inr (.inr (some 35))) rfl rfl rfl rfl ?_
        refine X_run 4 (i1 := 59) (L1 := [some (.inr (.inr (some 21))), some (.inl v1), some (.inl v2), some (.inl v3), some (.inl v4), some (.inl v5), some (.inl v6), none, none, none, none]) (st1 := [.inl (0 : Int32), .inl (v4 + v6), .inr (.inr (some 35))]) rfl ?_
        obtain ⟨hin, hw⟩ := hw
        refine X_sI rfl rfl hin ?_
        show X _ _ 60 [some (.inr (.inr (some 21))), some (.inl v1), some (.inl v2), some (.inl v3), some (.inl v4), some (.inl v5), some (.inl v6), none, none, none, none] [] (hp (pA (pA s 34 (upd (sA s 34) (Int32.toNatClampNeg (v4 + v6)) (sA s 27 (Int32.toNatClampNeg v6)))) 35 (upd (sA s 35) (Int32.toNatClampNeg (v4 + v6)) (0 : Int32)))) _
        refine X_run 2 (i1 := 62) (L1 := [some (.inr (.inr (some 21))), some (.inl v1), some (.inl v2), some (.inl v3), some (.inl v4), some (.inl v5), some (.inl v6), none, none, none, none]) (st1 := [.inr (.inr (some 21)), .inr (.inr (some 21))]) rfl ?_
        refine X_gF (v := .inr (.inr (some 27))) rfl rfl rfl rfl ?_
        refine X_run 1 (i1 := 64) (L1 := [some (.inr (.inr (some 21))), some (.inl v1), some (.inl v2), some (.inl v3), some (.inl v4), some (.inl v5), some (.inl v6), none, none, none, none]) (st1 := [.inl v6, .inr (.inr (some 27)), .inr (.inr (some 21))]) rfl ?_
        obtain ⟨hin, hw⟩ := hw
        refine X_aI rfl rfl hin ?_
        show X _ _ 65 [some (.inr (.inr (some 21))), some (.inl v1), some (.inl v2), some (.inl v3), some (.inl v4), some (.inl v5), some (.inl v6), none, none, none, none] [.inl (sA s 27 (Int32.toNatClampNeg v6)), .inr (.inr (some 21))] (hp (pA (pA s 34 (upd (sA s 34) (Int32.toNatClampNeg (v4 + v6)) (sA s 27 (Int32.toNatClampNeg v6)))) 35 (upd (sA s 35) (Int32.toNatClampNeg (v4 + v6)) (0 : Int32)))) _
        obtain ⟨hc, hw⟩ := hw
        refine X_callv m_M_hasMembers (As := [.inl (sA s 27 (Int32.toNatClampNeg v6))]) (st := []) ok_M_hasMembers rfl rfl rfl (hp_obj rfl) rfl (Nat.le_of_ble_eq_true rfl) (Nat.le_of_ble_eq_true rfl) (c_M_hasMembers (d := d + 38) (pA (pA s 34 (upd (sA s 34) (Int32.toNatClampNeg (v4 + v6)) (sA s 27 (Int32.toNatClampNeg v6)))) 35 (upd (sA s 35) (Int32.toNatClampNeg (v4 + v6)) (0 : Int32))) (sA s 27 (Int32.toNatClampNeg v6)) hc) ?_
        rintro _ _ ⟨rfl, rfl⟩
        show X _ _ 66 [some (.inr (.inr (some 21))), some (.inl v1), some (.inl v2), some (.inl v3), some (.inl v4), some (.inl v5), some (.inl v6), none, none, none, none] [.inl (b2i (f_M_hasMembers (pA (pA s 34 (upd (sA s 34) (Int32.toNatClampNeg (v4 + v6)) (sA s 27 (Int32.toNatClampNeg v6)))) 35 (upd (sA s 35) (Int32.toNatClampNeg (v4 + v6)) (0 : Int32))) (sA s 27 (Int32.toNatClampNeg v6))))] (hp (pA (pA s 34 (upd (sA s 34) (Int32.toNatClampNeg (v4 + v6)) (sA s 27 (Int32.toNatClampNeg v6)))) 35 (upd (sA s 35) (Int32.toNatClampNeg (v4 + v6)) (0 : Int32)))) _
        refine X_run 1 (i1 := cond (cn1 .ne (b2i (f_M_hasMembers (pA (pA s 34 (upd (sA s 34) (Int32.toNatClampNeg (v4 + v6)) (sA s 27 (Int32.toNatClampNeg v6)))) 35 (upd (sA s 35) (Int32.toNatClampNeg (v4 + v6)) (0 : Int32))) (sA s 27 (Int32.toNatClampNeg v6))))) 68 67) (L1 := [some (.inr (.inr (some 21))), some (.inl v1), some (.inl v2), some (.inl v3), some (.inl v4), some (.inl v5), some (.inl v6), none, none, none, none]) (st1 := []) rfl ?_
        refine X_brq (fun hb => ?_) (fun hb => ?_)
        · have hw := hw.1 hb
          refine X_run 1 (i1 := 69) (L1 := [some (.inr (.inr (some 21))), some (.inl v1), some (.inl v2), some (.inl v3), some (.inl v4), some (.inl v5), some (.inl v6), none, none, none, none]) (st1 := [.inr (.inr (some 21))]) rfl ?_
          refine X_gF (v := .inr (.inr (some 24))) rfl rfl rfl rfl ?_
          refine X_run 1 (i1 := 71) (L1 := [some (.inr (.inr (some 21))), some (.inl v1), some (.inl v2), some (.inl v3), some (.inl v4), some (.inl v5), some (.inl v6), none, none, none, none]) (st1 := [.inr (.inr (some 21)), .inr (.inr (some 24))]) rfl ?_
          refine X_gF (v := .inr (.inr (some 27))) rfl rfl rfl rfl ?_
          refine X_run 1 (i1 := 73) (L1 := [some (.inr (.inr (some 21))), some (.inl v1), some (.inl v2), some (.inl v3), some (.inl v4), some (.inl v5), some (.inl v6), none, none, none, none]) (st1 := [.inl v6, .inr (.inr (some 27)), .inr (.inr (some 24))]) rfl ?_
          obtain ⟨hin, hw⟩ := hw
          refine X_aI rfl rfl hin ?_
          show X _ _ 74 [some (.inr (.inr (some 21))), some (.inl v1), some (.inl v2), some (.inl v3), some (.inl v4), some (.inl v5), some (.inl v6), none, none, none, none] [.inl (sA s 27 (Int32.toNatClampNeg v6)), .inr (.inr (some 24))] (hp (pA (pA s 34 (upd (sA s 34) (Int32.toNatClampNeg (v4 + v6)) (sA s 27 (Int32.toNatClampNeg v6)))) 35 (upd (sA s 35) (Int32.toNatClampNeg (v4 + v6)) (0 : Int32)))) _
          obtain ⟨hin, hw⟩ := hw
          refine X_aI rfl rfl hin ?_
          show X _ _ 75 [some (.inr (.inr (some 21))), some (.inl v1), some (.inl v2), some (.inl v3), some (.inl v4), some (.inl v5), some (.inl v6), none, none, none, none] [.inl (sA s 24 (Int32.toNatClampNeg (sA s 27 (Int32.toNatClampNeg v6))))] (hp (pA (pA s 34 (upd (sA s 34) (Int32.toNatClampNeg (v4 + v6)) (sA s 27 (Int32.toNatClampNeg v6)))) 35 (upd (sA s 35) (Int32.toNatClampNeg (v4 + v6)) (0 : Int32)))) _
          refine X_run 6 (i1 := 81) (L1 := [some (.inr (.inr (some 21))), some (.inl v1), some (.inl v2), some (.inl v3), some (.inl v4), some (.inl v5), some (.inl v6), some (.inl (sA s 24 (Int32.toNatClampNeg (sA s 27 (Int32.toNatClampNeg v6))))), none, none, none]) (st1 := [.inr (.inl ((1 : Int64) + (Int32.toInt64 (sA s 24 (Int32.toNatClampNeg (sA s 27 (Int32.toNatClampNeg v6))))))), .inr (.inr (some 21))]) rfl ?_
          obtain ⟨hc, hw⟩ := hw
          refine X_callv m_M_pays (As := [.inr (.inl ((1 : Int64) + (Int32.toInt64 (sA s 24 (Int32.toNatClampNeg (sA s 27 (Int32.toNatClampNeg v6)))))))]) (st := []) ok_M_pays rfl rfl rfl (hp_obj rfl) rfl (Nat.le_of_ble_eq_true rfl) (Nat.le_of_ble_eq_true rfl) (c_M_pays (d := d + 38) (pA (pA s 34 (upd (sA s 34) (Int32.toNatClampNeg (v4 + v6)) (sA s 27 (Int32.toNatClampNeg v6)))) 35 (upd (sA s 35) (Int32.toNatClampNeg (v4 + v6)) (0 : Int32))) ((1 : Int64) + (Int32.toInt64 (sA s 24 (Int32.toNatClampNeg (sA s 27 (Int32.toNatClampNeg v6)))))) hc) ?_
          rintro _ _ ⟨rfl, rfl⟩
          show X _ _ 82 [some (.inr (.inr (some 21))), some (.inl v1), some (.inl v2), some (.inl v3), some (.inl v4), some (.inl v5), some (.inl v6), some (.inl (sA s 24 (Int32.toNatClampNeg (sA s 27 (Int32.toNatClampNeg v6))))), none, none, none] [.inl (b2i (f_M_pays (pA (pA s 34 (upd (sA s 34) (Int32.toNatClampNeg (v4 + v6)) (sA s 27 (Int32.toNatClampNeg v6)))) 35 (upd (sA s 35) (Int32.toNatClampNeg (v4 + v6)) (0 : Int32))) ((1 : Int64) + (Int32.toInt64 (sA s 24 (Int32.toNatClampNeg (sA s 27 (Int32.toNatClampNeg v6))))))).1)] (hp ((f_M_pays (pA (pA s 34 (upd (sA s 34) (Int32.toNatClampNeg (v4 + v6)) (sA s 27 (Int32.toNatClampNeg v6)))) 35 (upd (sA s 35) (Int32.toNatClampNeg (v4 + v6)) (0 : Int32))) ((1 : Int64) + (Int32.toInt64 (sA s 24 (Int32.toNatClampNeg (sA s 27 (Int32.toNatClampNeg v6))))))).2)) _
          show X _ _ 82 [some (.inr (.inr (some 21))), some (.inl v1), some (.inl v2), some (.inl v3), some (.inl v4), some (.inl v5), some (.inl v6), some (.inl (sA s 24 (Int32.toNatClampNeg (sA s 27 (Int32.toNatClampNeg v6))))), none, none, none] [.inl (b2i (f_M_pays (pA (pA s 34 (upd (sA s 34) (Int32.toNatClampNeg (v4 + v6)) (sA s 27 (Int32.toNatClampNeg v6)))) 35 (upd (sA s 35) (Int32.toNatClampNeg (v4 + v6)) (0 : Int32))) ((1 : Int64) + (Int32.toInt64 (sA s 24 (Int32.toNatClampNeg (sA s 27 (Int32.toNatClampNeg v6))))))).1)] (hp ((f_M_pays (pA (pA s 34 (upd (sA s 34) (Int32.toNatClampNeg (v4 + v6)) (sA s 27 (Int32.toNatClampNeg v6)))) 35 (upd (sA s 35) (Int32.toNatClampNeg (v4 + v6)) (0 : Int32))) ((1 : Int64) + (Int32.toInt64 (sA s 24 (Int32.toNatClampNeg (sA s 27 (Int32.toNatClampNeg v6))))))).2)) _
          refine X_mask [true, true, true, true, true, false, true, true, true, true, true] ?_
          exact hlp.2.1 ((f_M_pays (pA (pA s 34 (upd (sA s 34) (Int32.toNatClampNeg (v4 + v6)) (sA s 27 (Int32.toNatClampNeg v6)))) 35 (upd (sA s 35) (Int32.toNatClampNeg (v4 + v6)) (0 : Int32))) ((1 : Int64) + (Int32.toInt64 (sA s 24 (Int32.toNatClampNeg (sA s 27 (Int32.toNatClampNeg v6))))))).2) v1 v2 v3 v4 v6 (sA s 24 (Int32.toNatClampNeg (sA s 27 (Int32.toNatClampNeg v6)))) (b2i (f_M_pays (pA (pA s 34 (upd (sA s 34) (Int32.toNatClampNeg (v4 + v6)) (sA s 27 (Int32.toNatClampNeg v6)))) 35 (upd (sA s 35) (Int32.toNatClampNeg (v4 + v6)) (0 : Int32))) ((1 : Int64) + (Int32.toInt64 (sA s 24 (Int32.toNatClampNeg (sA s 27 (Int32.toNatClampNeg v6))))))).1) hw
        · have hw := hw.2 hb
          refine X_run 1 (i1 := 103) (L1 := [some (.inr (.inr (some 21))), some (.inl v1), some (.inl v2), some (.inl v3), some (.inl v4), some (.inl v5), some (.inl v6), none, none, none, none]) (st1 := []) rfl ?_
          exact hlp.2.2.2.2 (pA (pA s 34 (upd (sA s 34) (Int32.toNatClampNeg (v4 + v6)) (sA s 27 (Int32.toNatClampNeg v6)))) 35 (upd (sA s 35) (Int32.toNatClampNeg (v4 + v6)) (0 : Int32))) v1 v2 v3 v4 v5 v6 hw
      · have hw := hw.2 hb
        refine X_run 1 (i1 := 103) (L1 := [some (.inr (.inr (some 21))), some (.inl v1), some (.inl v2), some (.inl v3), some (.inl v4), some (.inl v5), some (.inl v6), none, none, none, none]) (st1 := []) rfl ?_
        exact hlp.2.2.2.2 s v1 v2 v3 v4 v5 v6 hw
def b_M_scope_82 (rec : G_part) (fu : Nat) (lp : LT_M_scope_31) (s : St) (v1 : Int32) (v2 : Int32) (v3 : Int32) (v4 : Int32) (v6 : Int32) (v7 : Int32) (w0 : Int32) : Int32 × St := (cond (cn1 .ne w0) (lp.2.2.1 ((f_M_cloned fu s (sA s 27 (Int32.toNatClampNeg v6))).2) v1 v2 v3 v4 v6 v7 ((f_M_cloned fu s (sA s 27 (Int32.toNatClampNeg v6))).1) (v4 + v6)) (lp.2.2.2.2 s v1 v2 v3 v4 (3 : Int32) v6))
def v_M_scope_82 (rec : G_part) (wrec : GW_part) (fu : Nat) (lp : LT_M_scope_31) (wlp : LW_M_scope_31) (s : St) (v1 : Int32) (v2 : Int32) (v3 : Int32) (v4 : Int32) (v6 : Int32) (v7 : Int32) (w0 : Int32) : Prop := ((cn1 .ne w0) = true → (vp_in v6 16 ∧ (w_M_cloned fu s (sA s 27 (Int32.toNatClampNeg v6)) ∧ (wlp.2.2.1 ((f_M_cloned fu s (sA s 27 (Int32.toNatClampNeg v6))).2) v1 v2 v3 v4 v6 v7 ((f_M_cloned fu s (sA s 27 (Int32.toNatClampNeg v6))).1) (v4 + v6))))) ∧ ((cn1 .ne w0) = false → (wlp.2.2.2.2 s v1 v2 v3 v4 (3 : Int32) v6))
theorem cb_M_scope_82 {d : Nat} {rec : G_part} {wrec : GW_part} (hrec : hr_part (d + 38) rec wrec) (fu : Nat) {lp : LT_M_scope_31} {wlp : LW_M_scope_31} (hlp : hl_M_scope_31 (d + 39) lp wlp) (s : St) (v1 : Int32) (v2 : Int32) (v3 : Int32) (v4 : Int32) (v6 : Int32) (v7 : Int32) (w0 : Int32) (hw : v_M_scope_82 rec wrec fu lp wlp s v1 v2 v3 v4 v6 v7 w0) : X m_M_scope (d + 39) 82 [some (.inr (.inr (some 21))), some (.inl v1), some (.inl v2), some (.inl v3), some (.inl v4), none, some (.inl v6), some (.inl v7), none, none, none] [.inl w0] (hp s) (qIs (b_M_scope_82 rec fu lp s v1 v2 v3 v4 v6 v7 w0)) := by
  unfold b_M_scope_82
  unfold v_M_scope_82 at hw
  refine X_run 1 (i1 := cond (cn1 .ne w0) 86 83) (L1 := [some (.inr (.inr (some 21))), some (.inl v1), some (.inl v2), some (.inl v3), some (.inl v4), none, some (.inl v6), some (.inl v7), none, none, none]) (st1 := []) rfl ?_
  refine X_brq (fun hb => ?_) (fun hb => ?_)
  · have hw := hw.1 hb
    refine X_run 1 (i1 := 87) (L1 := [some (.inr (.inr (some 21))), some (.inl v1), some (.inl v2), some (.inl v3), some (.inl v4), none, some (.inl v6), some (.inl v7), none, none, none]) (st1 := [.inr (.inr (some 21))]) rfl ?_
    refine X_gF (v := .inr (.inr (some 35))) rfl rfl rfl rfl ?_
    refine X_run 5 (i1 := 93) (L1 := [some (.inr (.inr (some 21))), some (.inl v1), some (.inl v2), some (.inl v3), some (.inl v4), none, some (.inl v6), some (.inl v7), none, none, none]) (st1 := [.inr (.inr (some 21)), .inr (.inr (some 21)), .inl (v4 + v6), .inr (.inr (some 35))]) rfl ?_
    refine X_gF (v := .inr (.inr (some 27))) rfl rfl rfl rfl ?_
    refine X_run 1 (i1 := 95) (L1 := [some (.inr (.inr (some 21))), some (.inl v1), some (.inl v2), some (.inl v3), some (.inl v4), none, some (.inl v6), some (.inl v7), none, none, none]) (st1 := [.inl v6, .inr (.inr (some 27)), .inr (.inr (some 21)), .inl (v4 + v6), .inr (.inr (some 35))]) rfl ?_
    obtain ⟨hin, hw⟩ := hw
    refine X_aI rfl rfl hin ?_
    show X _ _ 96 [some (.inr (.inr (some 21))), some (.inl v1), some (.inl v2), some (.inl v3), some (.inl v4), none, some (.inl v6), some (.inl v7), none, none, none] [.inl (sA s 27 (Int32.toNatClampNeg v6)), .inr (.inr (some 21)), .inl (v4 + v6), .inr (.inr (some 35))] (hp s) _
    obtain ⟨hc, hw⟩ := hw
    refine X_callv m_M_cloned (As := [.inl (sA s 27 (Int32.toNatClampNeg v6))]) (st := [.inl (v4 + v6), .inr (.inr (some 35))]) ok_M_cloned rfl rfl rfl (hp_obj rfl) rfl (Nat.le_of_ble_eq_true rfl) (Nat.le_of_ble_eq_true rfl) (c_M_cloned (d := d + 37) fu s (sA s 27 (Int32.toNatClampNeg v6)) hc) ?_
    rintro _ _ ⟨rfl, rfl⟩
    show X _ _ 97 [some (.inr (.inr (some 21))), some (.inl v1), some (.inl v2), some (.inl v3), some (.inl v4), none, some (.inl v6), some (.inl v7), none, none, none] [.inl ((f_M_cloned fu s (sA s 27 (Int32.toNatClampNeg v6))).1), .inl (v4 + v6), .inr (.inr (some 35))] (hp ((f_M_cloned fu s (sA s 27 (Int32.toNatClampNeg v6))).2)) _
    show X _ _ 97 [some (.inr (.inr (some 21))), some (.inl v1), some (.inl v2), some (.inl v3), some (.inl v4), none, some (.inl v6), some (.inl v7), none, none, none] [.inl ((f_M_cloned fu s (sA s 27 (Int32.toNatClampNeg v6))).1), .inl (v4 + v6), .inr (.inr (some 35))] (hp ((f_M_cloned fu s (sA s 27 (Int32.toNatClampNeg v6))).2)) _
    exact hlp.2.2.1 ((f_M_cloned fu s (sA s 27 (Int32.toNatClampNeg v6))).2) v1 v2 v3 v4 v6 v7 ((f_M_cloned fu s (sA s 27 (Int32.toNatClampNeg v6))).1) (v4 + v6) hw
  · have hw := hw.2 hb
    refine X_run 3 (i1 := 103) (L1 := [some (.inr (.inr (some 21))), some (.inl v1), some (.inl v2), some (.inl v3), some (.inl v4), some (.inl (3 : Int32)), some (.inl v6), some (.inl v7), none, none, none]) (st1 := []) rfl ?_
    refine X_mask [true, true, true, true, true, true, true, false, true, true, true] ?_
    exact hlp.2.2.2.2 s v1 v2 v3 v4 (3 : Int32) v6 hw
def b_M_scope_97 (rec : G_part) (fu : Nat) (lp : LT_M_scope_31) (s : St) (v1 : Int32) (v2 : Int32) (v3 : Int32) (v4 : Int32) (v6 : Int32) (v7 : Int32) (w0 : Int32) (w1 : Int32) : Int32 × St := (lp.2.2.2.1 ((f_M_takesFor (pA s 35 (upd (sA s 35) (Int32.toNatClampNeg w1) w0)) (Int32.toInt64 v7)).2) v1 v2 v3 v4 v6 ((f_M_takesFor (pA s 35 (upd (sA s 35) (Int32.toNatClampNeg w1) w0)) (Int32.toInt64 v7)).1))
def v_M_scope_97 (rec : G_part) (wrec : GW_part) (fu : Nat) (lp : LT_M_scope_31) (wlp : LW_M_scope_31) (s : St) (v1 : Int32) (v2 : Int32) (v3 : Int32) (v4 : Int32) (v6 : Int32) (v7 : Int32) (w0 : Int32) (w1 : Int32) : Prop := (vp_in w1 2288 ∧ (w_M_takesFor (pA s 35 (upd (sA s 35) (Int32.toNatClampNeg w1) w0)) (Int32.toInt64 v7) ∧ (wlp.2.2.2.1 ((f_M_takesFor (pA s 35 (upd (sA s 35) (Int32.toNatClampNeg w1) w0)) (Int32.toInt64 v7)).2) v1 v2 v3 v4 v6 ((f_M_takesFor (pA s 35 (upd (sA s 35) (Int32.toNatClampNeg w1) w0)) (Int32.toInt64 v7)).1))))
theorem cb_M_scope_97 {d : Nat} {rec : G_part} {wrec : GW_part} (hrec : hr_part (d + 38) rec wrec) (fu : Nat) {lp : LT_M_scope_31} {wlp : LW_M_scope_31} (hlp : hl_M_scope_31 (d + 39) lp wlp) (s : St) (v1 : Int32) (v2 : Int32) (v3 : Int32) (v4 : Int32) (v6 : Int32) (v7 : Int32) (w0 : Int32) (w1 : Int32) (hw : v_M_scope_97 rec wrec fu lp wlp s v1 v2 v3 v4 v6 v7 w0 w1) : X m_M_scope (d + 39) 97 [some (.inr (.inr (some 21))), some (.inl v1), some (.inl v2), some (.inl v3), some (.inl v4), none, some (.inl v6), some (.inl v7), none, none, none] [.inl w0, .inl w1, .inr (.inr (some 35))] (hp s) (qIs (b_M_scope_97 rec fu lp s v1 v2 v3 v4 v6 v7 w0 w1)) := by
  unfold b_M_scope_97
  unfold v_M_scope_97 at hw
  obtain ⟨hin, hw⟩ := hw
  refine X_sI rfl rfl hin ?_
  show X _ _ 98 [some (.inr (.inr (some 21))), some (.inl v1), some (.inl v2), some (.inl v3), some (.inl v4), none, some (.inl v6), some (.inl v7), none, none, none] [] (hp (pA s 35 (upd (sA s 35) (Int32.toNatClampNeg w1) w0))) _
  refine X_run 3 (i1 := 101) (L1 := [some (.inr (.inr (some 21))), some (.inl v1), some (.inl v2), some (.inl v3), some (.inl v4), none, some (.inl v6), some (.inl v7), none, none, none]) (st1 := [.inr (.inl (Int32.toInt64 v7)), .inr (.inr (some 21))]) rfl ?_
  obtain ⟨hc, hw⟩ := hw
  refine X_callv m_M_takesFor (As := [.inr (.inl (Int32.toInt64 v7))]) (st := []) ok_M_takesFor rfl rfl rfl (hp_obj rfl) rfl (Nat.le_of_ble_eq_true rfl) (Nat.le_of_ble_eq_true rfl) (c_M_takesFor (d := d + 37) (pA s 35 (upd (sA s 35) (Int32.toNatClampNeg w1) w0)) (Int32.toInt64 v7) hc) ?_
  rintro _ _ ⟨rfl, rfl⟩
  show X _ _ 102 [some (.inr (.inr (some 21))), some (.inl v1), some (.inl v2), some (.inl v3), some (.inl v4), none, some (.inl v6), some (.inl v7), none, none, none] [.inl ((f_M_takesFor (pA s 35 (upd (sA s 35) (Int32.toNatClampNeg w1) w0)) (Int32.toInt64 v7)).1)] (hp ((f_M_takesFor (pA s 35 (upd (sA s 35) (Int32.toNatClampNeg w1) w0)) (Int32.toInt64 v7)).2)) _
  show X _ _ 102 [some (.inr (.inr (some 21))), some (.inl v1), some (.inl v2), some (.inl v3), some (.inl v4), none, some (.inl v6), some (.inl v7), none, none, none] [.inl ((f_M_takesFor (pA s 35 (upd (sA s 35) (Int32.toNatClampNeg w1) w0)) (Int32.toInt64 v7)).1)] (hp ((f_M_takesFor (pA s 35 (upd (sA s 35) (Int32.toNatClampNeg w1) w0)) (Int32.toInt64 v7)).2)) _
  refine X_mask [true, true, true, true, true, true, true, false, true, true, true] ?_
  exact hlp.2.2.2.1 ((f_M_takesFor (pA s 35 (upd (sA s 35) (Int32.toNatClampNeg w1) w0)) (Int32.toInt64 v7)).2) v1 v2 v3 v4 v6 ((f_M_takesFor (pA s 35 (upd (sA s 35) (Int32.toNatClampNeg w1) w0)) (Int32.toInt64 v7)).1) hw
def b_M_scope_102 (rec : G_part) (fu : Nat) (lp : LT_M_scope_31) (s : St) (v1 : Int32) (v2 : Int32) (v3 : Int32) (v4 : Int32) (v6 : Int32) (w0 : Int32) : Int32 × St := (lp.2.2.2.2 s v1 v2 v3 v4 w0 v6)
def v_M_scope_102 (rec : G_part) (wrec : GW_part) (fu : Nat) (lp : LT_M_scope_31) (wlp : LW_M_scope_31) (s : St) (v1 : Int32) (v2 : Int32) (v3 : Int32) (v4 : Int32) (v6 : Int32) (w0 : Int32) : Prop := (wlp.2.2.2.2 s v1 v2 v3 v4 w0 v6)
theorem cb_M_scope_102 {d : Nat} {rec : G_part} {wrec : GW_part} (hrec : hr_part (d + 38) rec wrec) (fu : Nat) {lp : LT_M_scope_31} {wlp : LW_M_scope_31} (hlp : hl_M_scope_31 (d + 39) lp wlp) (s : St) (v1 : Int32) (v2 : Int32) (v3 : Int32) (v4 : Int32) (v6 : Int32) (w0 : Int32) (hw : v_M_scope_102 rec wrec fu lp wlp s v1 v2 v3 v4 v6 w0) : X m_M_scope (d + 39) 102 [some (.inr (.inr (some 21))), some (.inl v1), some (.inl v2), some (.inl v3), some (.inl v4), none, some (.inl v6), none, none, none, none] [.inl w0] (hp s) (qIs (b_M_scope_102 rec fu lp s v1 v2 v3 v4 v6 w0)) := by
  unfold b_M_scope_102
  unfold v_M_scope_102 at hw
  refine X_run 1 (i1 := 103) (L1 := [some (.inr (.inr (some 21))), some (.inl v1), some (.inl v2), some (.inl v3), some (.inl v4), some (.inl w0), some (.inl v6), none, none, none, none]) (st1 := []) rfl ?_
  exact hlp.2.2.2.2 s v1 v2 v3 v4 w0 v6 hw
def b_M_scope_103 (rec : G_part) (fu : Nat) (lp : LT_M_scope_31) (s : St) (v1 : Int32) (v2 : Int32) (v3 : Int32) (v4 : Int32) (v5 : Int32) (v6 : Int32) : Int32 × St := (lp.1 s v1 v2 v3 v4 v5 (v6 + Int32.ofInt (1)))
def v_M_scope_103 (rec : G_part) (wrec : GW_part) (fu : Nat) (lp : LT_M_scope_31) (wlp : LW_M_scope_31) (s : St) (v1 : Int32) (v2 : Int32) (v3 : Int32) (v4 : Int32) (v5 : Int32) (v6 : Int32) : Prop := (wlp.1 s v1 v2 v3 v4 v5 (v6 + Int32.ofInt (1)))
theorem cb_M_scope_103 {d : Nat} {rec : G_part} {wrec : GW_part} (hrec : hr_part (d + 38) rec wrec) (fu : Nat) {lp : LT_M_scope_31} {wlp : LW_M_scope_31} (hlp : hl_M_scope_31 (d + 39) lp wlp) (s : St) (v1 : Int32) (v2 : Int32) (v3 : Int32) (v4 : Int32) (v5 : Int32) (v6 : Int32) (hw : v_M_scope_103 rec wrec fu lp wlp s v1 v2 v3 v4 v5 v6) : X m_M_scope (d + 39) 103 [some (.inr (.inr (some 21))), some (.inl v1), some (.inl v2), some (.inl v3), some (.inl v4), some (.inl v5), some (.inl v6), none, none, none, none] [] (hp s) (qIs (b_M_scope_103 rec fu lp s v1 v2 v3 v4 v5 v6)) := by
  unfold b_M_scope_103
  unfold v_M_scope_103 at hw
  refine X_run 2 (i1 := 31) (L1 := [some (.inr (.inr (some 21))), some (.inl v1), some (.inl v2), some (.inl v3), some (.inl v4), some (.inl v5), some (.inl (v6 + Int32.ofInt (1))), none, none, none, none]) (st1 := []) rfl ?_
  exact hlp.1 s v1 v2 v3 v4 v5 (v6 + Int32.ofInt (1)) hw
def T_M_scope_31 (rec : G_part) (fu : Nat) : Nat → LT_M_scope_31
  | 0 => (fun s _ _ _ _ _ _ => (0, s), fun s _ _ _ _ _ _ _ => (0, s), fun s _ _ _ _ _ _ _ _ => (0, s), fun s _ _ _ _ _ _ => (0, s), fun s _ _ _ _ _ _ => (0, s))
  | n + 1 => (fun s v1 v2 v3 v4 v5 v6 => b_M_scope_31 rec fu (T_M_scope_31 rec fu n) s v1 v2 v3 v4 v5 v6, fun s v1 v2 v3 v4 v6 v7 w0 => b_M_scope_82 rec fu (T_M_scope_31 rec fu n) s v1 v2 v3 v4 v6 v7 w0, fun s v1 v2 v3 v4 v6 v7 w0 w1 => b_M_scope_97 rec fu (T_M_scope_31 rec fu n) s v1 v2 v3 v4 v6 v7 w0 w1, fun s v1 v2 v3 v4 v6 w0 => b_M_scope_102 rec fu (T_M_scope_31 rec fu n) s v1 v2 v3 v4 v6 w0, fun s v1 v2 v3 v4 v5 v6 => b_M_scope_103 rec fu (T_M_scope_31 rec fu n) s v1 v2 v3 v4 v5 v6)
def WT_M_scope_31 (rec : G_part) (wrec : GW_part) (fu : Nat) : Nat → LW_M_scope_31
  | 0 => (fun _ _ _ _ _ _ _ => False, fun _ _ _ _ _ _ _ _ => False, fun _ _ _ _ _ _ _ _ _ => False, fun _ _ _ _ _ _ _ => False, fun _ _ _ _ _ _ _ => False)
  | n + 1 => (fun s v1 v2 v3 v4 v5 v6 => v_M_scope_31 rec wrec fu (T_M_scope_31 rec fu n) (WT_M_scope_31 rec wrec fu n) s v1 v2 v3 v4 v5 v6, fun s v1 v2 v3 v4 v6 v7 w0 => v_M_scope_82 rec wrec fu (T_M_scope_31 rec fu n) (WT_M_scope_31 rec wrec fu n) s v1 v2 v3 v4 v6 v7 w0, fun s v1 v2 v3 v4 v6 v7 w0 w1 => v_M_scope_97 rec wrec fu (T_M_scope_31 rec fu n) (WT_M_scope_31 rec wrec fu n) s v1 v2 v3 v4 v6 v7 w0 w1, fun s v1 v2 v3 v4 v6 w0 => v_M_scope_102 rec wrec fu (T_M_scope_31 rec fu n) (WT_M_scope_31 rec wrec fu n) s v1 v2 v3 v4 v6 w0, fun s v1 v2 v3 v4 v5 v6 => v_M_scope_103 rec wrec fu (T_M_scope_31 rec fu n) (WT_M_scope_31 rec wrec fu n) s v1 v2 v3 v4 v5 v6)
theorem cT_M_scope_31 {d : Nat} {rec : G_part} {wrec : GW_part} (hrec : hr_part (d + 38) rec wrec) (fu : Nat) : ∀ n : Nat, hl_M_scope_31 (d + 39) (T_M_scope_31 rec fu n) (WT_M_scope_31 rec wrec fu n)
  | 0 => ⟨fun _ _ _ _ _ _ _ hw => hw.elim, fun _ _ _ _ _ _ _ _ hw => hw.elim, fun _ _ _ _ _ _ _ _ _ hw => hw.elim, fun _ _ _ _ _ _ _ hw => hw.elim, fun _ _ _ _ _ _ _ hw => hw.elim⟩
  | n + 1 => ⟨fun s v1 v2 v3 v4 v5 v6 hw => cb_M_scope_31 hrec fu (cT_M_scope_31 hrec fu n) s v1 v2 v3 v4 v5 v6 hw, fun s v1 v2 v3 v4 v6 v7 w0 hw => cb_M_scope_82 hrec fu (cT_M_scope_31 hrec fu n) s v1 v2 v3 v4 v6 v7 w0 hw, fun s v1 v2 v3 v4 v6 v7 w0 w1 hw => cb_M_scope_97 hrec fu (cT_M_scope_31 hrec fu n) s v1 v2 v3 v4 v6 v7 w0 w1 hw, fun s v1 v2 v3 v4 v6 w0 hw => cb_M_scope_102 hrec fu (cT_M_scope_31 hrec fu n) s v1 v2 v3 v4 v6 w0 hw, fun s v1 v2 v3 v4 v5 v6 hw => cb_M_scope_103 hrec fu (cT_M_scope_31 hrec fu n) s v1 v2 v3 v4 v5 v6 hw⟩
def f_M_scope (rec : G_part) (fu : Nat) (s : St) (a0 : Int32) (a1 : Int32) : Int32 × St := ((T_M_scope_31 rec fu fu).1 (pI s 21 26 ((sI s 21 26) + (1 : Int32))) a0 a1 ((sA s 30 (Int32.toNatClampNeg (a0 + (2 : Int32)))) ||| ((sA s 30 (Int32.toNatClampNeg (a0 + (3 : Int32)))) <<< ((8 : Int32) &&& 31))) ((16 : Int32) * (sI s 21 26)) (0 : Int32) (0 : Int32))
def w_M_scope (rec : G_part) (wrec : GW_part) (fu : Nat) (s : St) (a0 : Int32) (a1 : Int32) : Prop := (vp_in (a0 + (2 : Int32)) 3200 ∧ (vp_in (a0 + (3 : Int32)) 3200 ∧ ((WT_M_scope_31 rec wrec fu fu).1 (pI s 21 26 ((sI s 21 26) + (1 : Int32))) a0 a1 ((sA s 30 (Int32.toNatClampNeg (a0 + (2 : Int32)))) ||| ((sA s 30 (Int32.toNatClampNeg (a0 + (3 : Int32)))) <<< ((8 : Int32) &&& 31))) ((16 : Int32) * (sI s 21 26)) (0 : Int32) (0 : Int32))))
theorem c_M_scope {d : Nat} {rec : G_part} {wrec : GW_part} (hrec : hr_part (d + 38) rec wrec) (fu : Nat) (s : St) (a0 : Int32) (a1 : Int32) (hw : w_M_scope rec wrec fu s a0 a1) : X m_M_scope (d + 39) 0 (entL 11 [.inr (.inr (some 21)), .inl a0, .inl a1]) [] (hp s) (qIs (f_M_scope rec fu s a0 a1)) := by
  unfold f_M_scope
  unfold w_M_scope at hw
  refine X_run 1 (i1 := 1) (L1 := [some (.inr (.inr (some 21))), some (.inl a0), some (.inl a1), none, none, none, none, none, none, none, none]) (st1 := [.inr (.inr (some 21))]) rfl ?_
  refine X_gF (v := .inr (.inr (some 30))) rfl rfl rfl rfl ?_
  refine X_run 3 (i1 := 5) (L1 := [some (.inr (.inr (some 21))), some (.inl a0), some (.inl a1), none, none, none, none, none, none, none, none]) (st1 := [.inl (a0 + (2 : Int32)), .inr (.inr (some 30))]) rfl ?_
  obtain ⟨hin, hw⟩ := hw
  refine X_aI rfl rfl hin ?_
  show X _ _ 6 [some (.inr (.inr (some 21))), some (.inl a0), some (.inl a1), none, none, none, none, none, none, none, none] [.inl (sA s 30 (Int32.toNatClampNeg (a0 + (2 : Int32))))] (hp s) _
  refine X_run 1 (i1 := 7) (L1 := [some (.inr (.inr (some 21))), some (.inl a0), some (.inl a1), none, none, none, none, none, none, none, none]) (st1 := [.inr (.inr (some 21)), .inl (sA s 30 (Int32.toNatClampNeg (a0 + (2 : Int32))))]) rfl ?_
  refine X_gF (v := .inr (.inr (some 30))) rfl rfl rfl rfl ?_
  refine X_run 3 (i1 := 11) (L1 := [some (.inr (.inr (some 21))), some (.inl a0), some (.inl a1), none, none, none, none, none, none, none, none]) (st1 := [.inl (a0 + (3 : Int32)), .inr (.inr (some 30)), .inl (sA s 30 (Int32.toNatClampNeg (a0 + (2 : Int32))))]) rfl ?_
  obtain ⟨hin, hw⟩ := hw
  refine X_aI rfl rfl hin ?_
  show X _ _ 12 [some (.inr (.inr (some 21))), some (.inl a0), some (.inl a1), none, none, none, none, none, none, none, none] [.inl (sA s 30 (Int32.toNatClampNeg (a0 + (3 : Int32)))), .inl (sA s 30 (Int32.toNatClampNeg (a0 + (2 : Int32))))] (hp s) _
  refine X_run 6 (i1 := 18) (L1 := [some (.inr (.inr (some 21))), some (.inl a0), some (.inl a1), some (.inl ((sA s 30 (Int32.toNatClampNeg (a0 + (2 : Int32)))) ||| ((sA s 30 (Int32.toNatClampNeg (a0 + (3 : Int32)))) <<< ((8 : Int32) &&& 31)))), none, none, none, none, none, none, none]) (st1 := [.inr (.inr (some 21)), .inl (16 : Int32)]) rfl ?_
  refine X_gF (v := .inl (sI s 21 26)) rfl rfl rfl rfl ?_
  refine X_run 4 (i1 := 23) (L1 := [some (.inr (.inr (some 21))), some (.inl a0), some (.inl a1), some (.inl ((sA s 30 (Int32.toNatClampNeg (a0 + (2 : Int32)))) ||| ((sA s 30 (Int32.toNatClampNeg (a0 + (3 : Int32)))) <<< ((8 : Int32) &&& 31)))), some (.inl ((16 : Int32) * (sI s 21 26))), none, none, none, none, none, none]) (st1 := [.inr (.inr (some 21)), .inr (.inr (some 21))]) rfl ?_
  refine X_gF (v := .inl (sI s 21 26)) rfl rfl rfl rfl ?_
  refine X_run 2 (i1 := 26) (L1 := [some (.inr (.inr (some 21))), some (.inl a0), some (.inl a1), some (.inl ((sA s 30 (Int32.toNatClampNeg (a0 + (2 : Int32)))) ||| ((sA s 30 (Int32.toNatClampNeg (a0 + (3 : Int32)))) <<< ((8 : Int32) &&& 31)))), some (.inl ((16 : Int32) * (sI s 21 26))), none, none, none, none, none, none]) (st1 := [.inl ((sI s 21 26) + (1 : Int32)), .inr (.inr (some 21))]) rfl ?_
  refine X_pI rfl rfl rfl rfl ?_
  refine X_run 4 (i1 := 31) (L1 := [some (.inr (.inr (some 21))), some (.inl a0), some (.inl a1), some (.inl ((sA s 30 (Int32.toNatClampNeg (a0 + (2 : Int32)))) ||| ((sA s 30 (Int32.toNatClampNeg (a0 + (3 : Int32)))) <<< ((8 : Int32) &&& 31)))), some (.inl ((16 : Int32) * (sI s 21 26))), some (.inl (0 : Int32)), some (.inl (0 : Int32)), none, none, none, none]) (st1 := []) rfl ?_
  exact (cT_M_scope_31 hrec fu fu).1 (pI s 21 26 ((sI s 21 26) + (1 : Int32))) a0 a1 ((sA s 30 (Int32.toNatClampNeg (a0 + (2 : Int32)))) ||| ((sA s 30 (Int32.toNatClampNeg (a0 + (3 : Int32)))) <<< ((8 : Int32) &&& 31))) ((16 : Int32) * (sI s 21 26)) (0 : Int32) (0 : Int32) hw
def F_part (fu : Nat) : Nat → G_part
  | 0 => (fun s _ _ => (0, s), fun s _ => (0, s), fun s _ _ => (0, s))
  | n + 1 => (fun s a0 a1 => f_M_part (F_part fu n) fu s a0 a1, fun s a0 => f_M_patches (F_part fu n) fu s a0, fun s a0 a1 => f_M_scope (F_part fu n) fu s a0 a1)
def W_part (fu : Nat) : Nat → GW_part
  | 0 => (fun _ _ _ => False, fun _ _ => False, fun _ _ _ => False)
  | n + 1 => (fun s a0 a1 => w_M_part (F_part fu n) (W_part fu n) fu s a0 a1, fun s a0 => w_M_patches (F_part fu n) (W_part fu n) fu s a0, fun s a0 a1 => w_M_scope (F_part fu n) (W_part fu n) fu s a0 a1)
theorem cF_part (fu : Nat) : ∀ (n d : Nat), hr_part (d + n + 39) (F_part fu n) (W_part fu n)
  | 0, d => ⟨fun _ _ _ hw => hw.elim, fun _ _ hw => hw.elim, fun _ _ _ hw => hw.elim⟩
  | n + 1, d => by
    have hrec : hr_part (d + 1 + n + 39 - 1) (F_part fu n) (W_part fu n) := by
      have h := cF_part fu n d
      rw [show d + 1 + n + 39 - 1 = d + n + 39 by omega]; exact h
    have e : d + (n + 1) + 39 = (d + 1 + n) + 39 := by omega
    rw [e]
    exact ⟨(fun s a0 a1 hw => c_M_part (d := d + 1 + n) hrec fu s a0 a1 hw), (fun s a0 hw => c_M_patches (d := d + 1 + n) hrec fu s a0 hw), (fun s a0 a1 hw => c_M_scope (d := d + 1 + n) hrec fu s a0 a1 hw)⟩
def t_M_run_48 (fu : Nat) (s : St) (w0 : Int32) : Int32 × St := (cond (cn2 .ne w0 (1 : Int32)) (w0, s) (w0, pI (pI s 21 13 (sI s 21 9)) 21 14 (sI s 21 10)))
def w_M_run_48 (fu : Nat) (s : St) (w0 : Int32) : Prop := True
theorem ct_M_run_48 {d : Nat} (fu : Nat) (s : St) (w0 : Int32) (hw : w_M_run_48 fu s w0) : X m_M_run (d + 330) 48 [some (.inr (.inr (some 21))), none, none, none] [.inl w0] (hp s) (qIs (t_M_run_48 fu s w0)) := by
  unfold t_M_run_48
  unfold w_M_run_48 at hw
  refine X_run 4 (i1 := cond (cn2 .ne w0 (1 : Int32)) 60 52) (L1 := [some (.inr (.inr (some 21))), none, none, some (.inl w0)]) (st1 := []) rfl ?_
  refine X_brq (fun hb => ?_) (fun hb => ?_)
  · skip
    refine X_run 1 (i1 := 61) (L1 := [some (.inr (.inr (some 21))), none, none, some (.inl w0)]) (st1 := [.inl w0]) rfl ?_
    exact X_iret rfl rfl qIs_i
  · skip
    refine X_run 2 (i1 := 54) (L1 := [some (.inr (.inr (some 21))), none, none, some (.inl w0)]) (st1 := [.inr (.inr (some 21)), .inr (.inr (some 21))]) rfl ?_
    refine X_gF (v := .inl (sI s 21 9)) rfl rfl rfl rfl ?_
    refine X_pI rfl rfl rfl rfl ?_
    refine X_run 2 (i1 := 58) (L1 := [some (.inr (.inr (some 21))), none, none, some (.inl w0)]) (st1 := [.inr (.inr (some 21)), .inr (.inr (some 21))]) rfl ?_
    refine X_gF (v := .inl (sI s 21 10)) rfl rfl rfl rfl ?_
    refine X_pI rfl rfl rfl rfl ?_
    refine X_run 1 (i1 := 61) (L1 := [some (.inr (.inr (some 21))), none, none, some (.inl w0)]) (st1 := [.inl w0]) rfl ?_
    exact X_iret rfl rfl qIs_i
def f_M_run (fu : Nat) (s : St) (a0 : Int32) (a1 : Int32) : Int32 × St := (cond (cn1 .lt a0) ((-1 : Int32), pI s 21 0 (0 : Int32)) (cond (cn2 .ge a0 (16 : Int32)) ((-1 : Int32), pI s 21 0 (0 : Int32)) (cond (cn1 .lt a1) ((-1 : Int32), pI s 21 0 (0 : Int32)) (cond (cn2 .le a1 (20000 : Int32)) (cond (cn1 .eq (sI s 21 15)) (t_M_run_48 fu (((F_part fu 290).1 (pI (pI (pI (pI (pI (pI s 21 0 (0 : Int32)) 21 13 (0 : Int32)) 21 14 (0 : Int32)) 21 11 a1) 21 25 (1 : Int32)) 21 26 (0 : Int32)) ((200 : Int32) * a0) (((200 : Int32) * a0) + (sA s 31 (Int32.toNatClampNeg a0)))).2) (((F_part fu 290).1 (pI (pI (pI (pI (pI (pI s 21 0 (0 : Int32)) 21 13 (0 : Int32)) 21 14 (0 : Int32)) 21 11 a1) 21 25 (1 : Int32)) 21 26 (0 : Int32)) ((200 : Int32) * a0) (((200 : Int32) * a0) + (sA s 31 (Int32.toNatClampNeg a0)))).1)) ((3 : Int32), pI (pI (pI (pI s 21 0 (0 : Int32)) 21 13 (0 : Int32)) 21 14 (0 : Int32)) 21 11 a1)) ((-1 : Int32), pI s 21 0 (0 : Int32))))))
def w_M_run (fu : Nat) (s : St) (a0 : Int32) (a1 : Int32) : Prop := ((cn1 .lt a0) = true → True) ∧ ((cn1 .lt a0) = false → ((cn2 .ge a0 (16 : Int32)) = true → True) ∧ ((cn2 .ge a0 (16 : Int32)) = false → ((cn1 .lt a1) = true → True) ∧ ((cn1 .lt a1) = false → ((cn2 .le a1 (20000 : Int32)) = true → ((cn1 .eq (sI s 21 15)) = true → (vp_in a0 16 ∧ ((W_part fu 290).1 (pI (pI (pI (pI (pI (pI s 21 0 (0 : Int32)) 21 13 (0 : Int32)) 21 14 (0 : Int32)) 21 11 a1) 21 25 (1 : Int32)) 21 26 (0 : Int32)) ((200 : Int32) * a0) (((200 : Int32) * a0) + (sA s 31 (Int32.toNatClampNeg a0))) ∧ (w_M_run_48 fu (((F_part fu 290).1 (pI (pI (pI (pI (pI (pI s 21 0 (0 : Int32)) 21 13 (0 : Int32)) 21 14 (0 : Int32)) 21 11 a1) 21 25 (1 : Int32)) 21 26 (0 : Int32)) ((200 : Int32) * a0) (((200 : Int32) * a0) + (sA s 31 (Int32.toNatClampNeg a0)))).2) (((F_part fu 290).1 (pI (pI (pI (pI (pI (pI s 21 0 (0 : Int32)) 21 13 (0 : Int32)) 21 14 (0 : Int32)) 21 11 a1) 21 25 (1 : Int32)) 21 26 (0 : Int32)) ((200 : Int32) * a0) (((200 : Int32) * a0) + (sA s 31 (Int32.toNatClampNeg a0)))).1))))) ∧ ((cn1 .eq (sI s 21 15)) = false → True)) ∧ ((cn2 .le a1 (20000 : Int32)) = false → True))))
theorem c_M_run {d : Nat} (fu : Nat) (s : St) (a0 : Int32) (a1 : Int32) (hw : w_M_run fu s a0 a1) : X m_M_run (d + 330) 0 (entL 4 [.inr (.inr (some 21)), .inl a0, .inl a1]) [] (hp s) (qIs (f_M_run fu s a0 a1)) := by
  unfold f_M_run
  unfold w_M_run at hw
  refine X_run 2 (i1 := 2) (L1 := [some (.inr (.inr (some 21))), some (.inl a0), some (.inl a1), none]) (st1 := [.inl (0 : Int32), .inr (.inr (some 21))]) rfl ?_
  refine X_pI rfl rfl rfl rfl ?_
  refine X_run 2 (i1 := cond (cn1 .lt a0) 13 5) (L1 := [some (.inr (.inr (some 21))), some (.inl a0), some (.inl a1), none]) (st1 := []) rfl ?_
  refine X_brq (fun hb => ?_) (fun hb => ?_)
  · skip
    refine X_run 1 (i1 := 14) (L1 := [some (.inr (.inr (some 21))), some (.inl a0), some (.inl a1), none]) (st1 := [.inl (-1 : Int32)]) rfl ?_
    exact X_iret rfl rfl qIs_i
  · have hw := hw.2 hb
    refine X_run 3 (i1 := cond (cn2 .ge a0 (16 : Int32)) 13 8) (L1 := [some (.inr (.inr (some 21))), some (.inl a0), some (.inl a1), none]) (st1 := []) rfl ?_
    refine X_brq (fun hb => ?_) (fun hb => ?_)
    · skip
      refine X_run 1 (i1 := 14) (L1 := [some (.inr (.inr (some 21))), some (.inl a0), some (.inl a1), none]) (st1 := [.inl (-1 : Int32)]) rfl ?_
      exact X_iret rfl rfl qIs_i
    · have hw := hw.2 hb
      refine X_run 2 (i1 := cond (cn1 .lt a1) 13 10) (L1 := [some (.inr (.inr (some 21))), some (.inl a0), some (.inl a1), none]) (st1 := []) rfl ?_
      refine X_brq (fun hb => ?_) (fun hb => ?_)
      · skip
        refine X_run 1 (i1 := 14) (L1 := [some (.inr (.inr (some 21))), some (.inl a0), some (.inl a1), none]) (st1 := [.inl (-1 : Int32)]) rfl ?_
        exact X_iret rfl rfl qIs_i
      · have hw := hw.2 hb
        refine X_run 3 (i1 := cond (cn2 .le a1 (20000 : Int32)) 15 13) (L1 := [some (.inr (.inr (some 21))), some (.inl a0), some (.inl a1), none]) (st1 := []) rfl ?_
        refine X_brq (fun hb => ?_) (fun hb => ?_)
        · have hw := hw.1 hb
          refine X_run 2 (i1 := 17) (L1 := [some (.inr (.inr (some 21))), some (.inl a0), some (.inl a1), none]) (st1 := [.inl (0 : Int32), .inr (.inr (some 21))]) rfl ?_
          refine X_pI rfl rfl rfl rfl ?_
          refine X_run 2 (i1 := 20) (L1 := [some (.inr (.inr (some 21))), some (.inl a0), some (.inl a1), none]) (st1 := [.inl (0 : Int32), .inr (.inr (some 21))]) rfl ?_
          refine X_pI rfl rfl rfl rfl ?_
          refine X_run 2 (i1 := 23) (L1 := [some (.inr (.inr (some 21))), some (.inl a0), some (.inl a1), none]) (st1 := [.inl a1, .inr (.inr (some 21))]) rfl ?_
          refine X_pI rfl rfl rfl rfl ?_
          refine X_run 1 (i1 := 25) (L1 := [some (.inr (.inr (some 21))), some (.inl a0), some (.inl a1), none]) (st1 := [.inr (.inr (some 21))]) rfl ?_
          refine X_gF (v := .inl (sI s 21 15)) rfl rfl rfl rfl ?_
          refine X_run 1 (i1 := cond (cn1 .eq (sI s 21 15)) 29 27) (L1 := [some (.inr (.inr (some 21))), some (.inl a0), some (.inl a1), none]) (st1 := []) rfl ?_
          refine X_brq (fun hb => ?_) (fun hb => ?_)
          · have hw := hw.1 hb
            refine X_run 2 (i1 := 31) (L1 := [some (.inr (.inr (some 21))), some (.inl a0), some (.inl a1), none]) (st1 := [.inl (1 : Int32), .inr (.inr (some 21))]) rfl ?_
            refine X_pI rfl rfl rfl rfl ?_
            refine X_run 2 (i1 := 34) (L1 := [some (.inr (.inr (some 21))), some (.inl a0), some (.inl a1), none]) (st1 := [.inl (0 : Int32), .inr (.inr (some 21))]) rfl ?_
            refine X_pI rfl rfl rfl rfl ?_
            refine X_run 8 (i1 := 43) (L1 := [some (.inr (.inr (some 21))), some (.inl a0), some (.inl a1), none]) (st1 := [.inr (.inr (some 21)), .inl ((200 : Int32) * a0), .inl ((200 : Int32) * a0), .inr (.inr (some 21))]) rfl ?_
            refine X_gF (v := .inr (.inr (some 31))) rfl rfl rfl rfl ?_
            refine X_run 1 (i1 := 45) (L1 := [some (.inr (.inr (some 21))), some (.inl a0), some (.inl a1), none]) (st1 := [.inl a0, .inr (.inr (some 31)), .inl ((200 : Int32) * a0), .inl ((200 : Int32) * a0), .inr (.inr (some 21))]) rfl ?_
            obtain ⟨hin, hw⟩ := hw
            refine X_aI rfl rfl hin ?_
            show X _ _ 46 [some (.inr (.inr (some 21))), some (.inl a0), some (.inl a1), none] [.inl (sA s 31 (Int32.toNatClampNeg a0)), .inl ((200 : Int32) * a0), .inl ((200 : Int32) * a0), .inr (.inr (some 21))] (hp (pI (pI (pI (pI (pI (pI s 21 0 (0 : Int32)) 21 13 (0 : Int32)) 21 14 (0 : Int32)) 21 11 a1) 21 25 (1 : Int32)) 21 26 (0 : Int32))) _
            refine X_run 1 (i1 := 47) (L1 := [some (.inr (.inr (some 21))), some (.inl a0), some (.inl a1), none]) (st1 := [.inl (((200 : Int32) * a0) + (sA s 31 (Int32.toNatClampNeg a0))), .inl ((200 : Int32) * a0), .inr (.inr (some 21))]) rfl ?_
            obtain ⟨hc, hw⟩ := hw
            refine X_callv m_M_part (As := [.inl ((200 : Int32) * a0), .inl (((200 : Int32) * a0) + (sA s 31 (Int32.toNatClampNeg a0)))]) (st := []) ok_M_part rfl rfl rfl (hp_obj rfl) rfl (Nat.le_of_ble_eq_true rfl) (Nat.le_of_ble_eq_true rfl) ((cF_part fu 290 (d)).1 (pI (pI (pI (pI (pI (pI s 21 0 (0 : Int32)) 21 13 (0 : Int32)) 21 14 (0 : Int32)) 21 11 a1) 21 25 (1 : Int32)) 21 26 (0 : Int32)) ((200 : Int32) * a0) (((200 : Int32) * a0) + (sA s 31 (Int32.toNatClampNeg a0))) hc) ?_
            rintro _ _ ⟨rfl, rfl⟩
            show X _ _ 48 [some (.inr (.inr (some 21))), some (.inl a0), some (.inl a1), none] [.inl (((F_part fu 290).1 (pI (pI (pI (pI (pI (pI s 21 0 (0 : Int32)) 21 13 (0 : Int32)) 21 14 (0 : Int32)) 21 11 a1) 21 25 (1 : Int32)) 21 26 (0 : Int32)) ((200 : Int32) * a0) (((200 : Int32) * a0) + (sA s 31 (Int32.toNatClampNeg a0)))).1)] (hp (((F_part fu 290).1 (pI (pI (pI (pI (pI (pI s 21 0 (0 : Int32)) 21 13 (0 : Int32)) 21 14 (0 : Int32)) 21 11 a1) 21 25 (1 : Int32)) 21 26 (0 : Int32)) ((200 : Int32) * a0) (((200 : Int32) * a0) + (sA s 31 (Int32.toNatClampNeg a0)))).2)) _
            show X _ _ 48 [some (.inr (.inr (some 21))), some (.inl a0), some (.inl a1), none] [.inl (((F_part fu 290).1 (pI (pI (pI (pI (pI (pI s 21 0 (0 : Int32)) 21 13 (0 : Int32)) 21 14 (0 : Int32)) 21 11 a1) 21 25 (1 : Int32)) 21 26 (0 : Int32)) ((200 : Int32) * a0) (((200 : Int32) * a0) + (sA s 31 (Int32.toNatClampNeg a0)))).1)] (hp (((F_part fu 290).1 (pI (pI (pI (pI (pI (pI s 21 0 (0 : Int32)) 21 13 (0 : Int32)) 21 14 (0 : Int32)) 21 11 a1) 21 25 (1 : Int32)) 21 26 (0 : Int32)) ((200 : Int32) * a0) (((200 : Int32) * a0) + (sA s 31 (Int32.toNatClampNeg a0)))).2)) _
            refine X_mask [true, false, false, true] ?_
            exact ct_M_run_48 fu (((F_part fu 290).1 (pI (pI (pI (pI (pI (pI s 21 0 (0 : Int32)) 21 13 (0 : Int32)) 21 14 (0 : Int32)) 21 11 a1) 21 25 (1 : Int32)) 21 26 (0 : Int32)) ((200 : Int32) * a0) (((200 : Int32) * a0) + (sA s 31 (Int32.toNatClampNeg a0)))).2) (((F_part fu 290).1 (pI (pI (pI (pI (pI (pI s 21 0 (0 : Int32)) 21 13 (0 : Int32)) 21 14 (0 : Int32)) 21 11 a1) 21 25 (1 : Int32)) 21 26 (0 : Int32)) ((200 : Int32) * a0) (((200 : Int32) * a0) + (sA s 31 (Int32.toNatClampNeg a0)))).1) hw
          · skip
            refine X_run 1 (i1 := 28) (L1 := [some (.inr (.inr (some 21))), some (.inl a0), some (.inl a1), none]) (st1 := [.inl (3 : Int32)]) rfl ?_
            exact X_iret rfl rfl qIs_i
        · skip
          refine X_run 1 (i1 := 14) (L1 := [some (.inr (.inr (some 21))), some (.inl a0), some (.inl a1), none]) (st1 := [.inl (-1 : Int32)]) rfl ?_
          exact X_iret rfl rfl qIs_i
