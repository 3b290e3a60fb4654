def hr_wrong (d : Nat) (rec : Nat → St → Int32 → Int32 → Int32 → Int32) (wrec : Nat → St → Int32 → Int32 → Int32 → Prop) : Prop := (∀ (s : St) (a0 : Int32) (a1 : Int32) (a2 : Int32), wrec 0 s a0 a1 a2 → X m_M_wrong d 0 (entL 12 [.inr (.inr (some 21)), .inl a0, .inl a1, .inl a2]) [] (hp s) (qI (hp s) (rec 0 s a0 a1 a2)))
def t_M_wrong_74 (rec : Nat → St → Int32 → Int32 → Int32 → Int32) (fu : Nat) (s : St) (v4 : Int32) (v8 : Int32) : Int32 := ((v4 + (1 : Int32)) + v8)
def w_M_wrong_74 (rec : Nat → St → Int32 → Int32 → Int32 → Int32) (wrec : Nat → St → Int32 → Int32 → Int32 → Prop) (fu : Nat) (s : St) (v4 : Int32) (v8 : Int32) : Prop := True
theorem ct_M_wrong_74 {d : Nat} {rec : Nat → St → Int32 → Int32 → Int32 → Int32} {wrec : Nat → St → Int32 → Int32 → Int32 → Prop} (hrec : hr_wrong (d) rec wrec) (fu : Nat) (s : St) (v4 : Int32) (v8 : Int32) (hw : w_M_wrong_74 rec wrec fu s v4 v8) : X m_M_wrong (d + 1) 74 [none, none, none, none, some (.inl v4), none, none, none, some (.inl v8), none, none, none] [] (hp s) (qI (hp s) (t_M_wrong_74 rec fu s v4 v8)) := by
  unfold t_M_wrong_74
  unfold w_M_wrong_74 at hw
  refine X_run 5 (i1 := 79) (L1 := [none, none, none, none, some (.inl v4), none, none, none, some (.inl v8), none, none, none]) (st1 := [.inl ((v4 + (1 : Int32)) + v8)]) rfl ?_
  exact X_iret rfl rfl ⟨rfl, rfl⟩
def hl_M_wrong_2 (d : Nat) (lp : Nat → St → (Nat → Int32) → (Nat → Int64) → (Nat → Option Nat) → Int32) (wlp : Nat → St → (Nat → Int32) → (Nat → Int64) → (Nat → Option Nat) → Prop) : Prop := (∀ (s : St) (v2 : Int32) (v3 : Int32) (v4 : Int32), wlp 2 s (jI [(2, v2), (3, v3), (4, v4)]) (jL []) (jR []) → X m_M_wrong d 2 [some (.inr (.inr (some 21))), none, some (.inl v2), some (.inl v3), some (.inl v4), none, none, none, none, none, none, none] [] (hp s) (qI (hp s) (lp 2 s (jI [(2, v2), (3, v3), (4, v4)]) (jL []) (jR [])))) ∧ (∀ (s : St) (v2 : Int32) (v3 : Int32) (v4 : Int32) (v5 : Int32) (v6 : Int32) (v7 : Int32) (v8 : Int32), wlp 39 s (jI [(2, v2), (3, v3), (4, v4), (5, v5), (6, v6), (7, v7), (8, v8)]) (jL []) (jR []) → X m_M_wrong d 39 [some (.inr (.inr (some 21))), none, some (.inl v2), some (.inl v3), some (.inl v4), some (.inl v5), some (.inl v6), some (.inl v7), some (.inl v8), none, none, none] [] (hp s) (qI (hp s) (lp 39 s (jI [(2, v2), (3, v3), (4, v4), (5, v5), (6, v6), (7, v7), (8, v8)]) (jL []) (jR [])))) ∧ (∀ (s : St) (v2 : Int32) (v3 : Int32) (v4 : Int32) (v6 : Int32) (v8 : Int32) (v9 : Int32) (v10 : Int32), wlp 97 s (jI [(2, v2), (3, v3), (4, v4), (6, v6), (8, v8), (9, v9), (10, v10)]) (jL []) (jR []) → X m_M_wrong d 97 [some (.inr (.inr (some 21))), none, some (.inl v2), some (.inl v3), some (.inl v4), none, some (.inl v6), none, some (.inl v8), some (.inl v9), some (.inl v10), none] [] (hp s) (qI (hp s) (lp 97 s (jI [(2, v2), (3, v3), (4, v4), (6, v6), (8, v8), (9, v9), (10, v10)]) (jL []) (jR [])))) ∧ (∀ (s : St) (v2 : Int32) (v3 : Int32) (v4 : Int32) (v6 : Int32) (v8 : Int32) (v10 : Int32), wlp 124 s (jI [(2, v2), (3, v3), (4, v4), (6, v6), (8, v8), (10, v10)]) (jL []) (jR []) → X m_M_wrong d 124 [some (.inr (.inr (some 21))), none, some (.inl v2), some (.inl v3), some (.inl v4), none, some (.inl v6), none, some (.inl v8), none, some (.inl v10), none] [] (hp s) (qI (hp s) (lp 124 s (jI [(2, v2), (3, v3), (4, v4), (6, v6), (8, v8), (10, v10)]) (jL []) (jR []))))
def b_M_wrong_2 (rec : Nat → St → Int32 → Int32 → Int32 → Int32) (fu : Nat) (lp : Nat → St → (Nat → Int32) → (Nat → Int64) → (Nat → Option Nat) → Int32) (s : St) (v2 : Int32) (v3 : Int32) (v4 : Int32) : Int32 := (cond (cn2 .ge v4 v2) (-1 : Int32) (cond (cn2 .le (sA s 32 (Int32.toNatClampNeg v4)) (29 : Int32)) (cond (cn1 .eq (f_M_wholeOf (sA s 32 (Int32.toNatClampNeg v4)))) v4 (cond (cn2 .gt (v4 + (f_M_wholeOf (sA s 32 (Int32.toNatClampNeg v4)))) v2) v4 (cond (cn1 .eq (0 : Int32)) (lp 39 s (jI [(2, v2), (3, v3), (4, v4), (5, sA s 32 (Int32.toNatClampNeg v4)), (6, f_M_wholeOf (sA s 32 (Int32.toNatClampNeg v4))), (7, (0 : Int32)), (8, (0 : Int32))]) (jL []) (jR [])) (cond (cn2 .ne v3 (10 : Int32)) (lp 39 s (jI [(2, v2), (3, v3), (4, v4), (5, sA s 32 (Int32.toNatClampNeg v4)), (6, f_M_wholeOf (sA s 32 (Int32.toNatClampNeg v4))), (7, (0 : Int32)), (8, (0 : Int32))]) (jL []) (jR [])) v4)))) (cond (cn2 .ge (sA s 32 (Int32.toNatClampNeg v4)) (33 : Int32)) (cond (cn1 .eq (f_M_wholeOf (sA s 32 (Int32.toNatClampNeg v4)))) v4 (cond (cn2 .gt (v4 + (f_M_wholeOf (sA s 32 (Int32.toNatClampNeg v4)))) v2) v4 (cond (cn1 .eq (0 : Int32)) (lp 39 s (jI [(2, v2), (3, v3), (4, v4), (5, sA s 32 (Int32.toNatClampNeg v4)), (6, f_M_wholeOf (sA s 32 (Int32.toNatClampNeg v4))), (7, (0 : Int32)), (8, (0 : Int32))]) (jL []) (jR [])) (cond (cn2 .ne v3 (10 : Int32)) (lp 39 s (jI [(2, v2), (3, v3), (4, v4), (5, sA s 32 (Int32.toNatClampNeg v4)), (6, f_M_wholeOf (sA s 32 (Int32.toNatClampNeg v4))), (7, (0 : Int32)), (8, (0 : Int32))]) (jL []) (jR [])) v4)))) (cond (cn1 .eq (f_M_wholeOf (sA s 32 (Int32.toNatClampNeg v4)))) v4 (cond (cn2 .gt (v4 + (f_M_wholeOf (sA s 32 (Int32.toNatClampNeg v4)))) v2) v4 (cond (cn1 .eq (1 : Int32)) (lp 39 s (jI [(2, v2), (3, v3), (4, v4), (5, sA s 32 (Int32.toNatClampNeg v4)), (6, f_M_wholeOf (sA s 32 (Int32.toNatClampNeg v4))), (7, (1 : Int32)), (8, (0 : Int32))]) (jL []) (jR [])) (cond (cn2 .ne v3 (10 : Int32)) (lp 39 s (jI [(2, v2), (3, v3), (4, v4), (5, sA s 32 (Int32.toNatClampNeg v4)), (6, f_M_wholeOf (sA s 32 (Int32.toNatClampNeg v4))), (7, (1 : Int32)), (8, (0 : Int32))]) (jL []) (jR [])) v4)))))))
def v_M_wrong_2 (rec : Nat → St → Int32 → Int32 → Int32 → Int32) (wrec : Nat → St → Int32 → Int32 → Int32 → Prop) (fu : Nat) (lp : Nat → St → (Nat → Int32) → (Nat → Int64) → (Nat → Option Nat) → Int32) (wlp : Nat → St → (Nat → Int32) → (Nat → Int64) → (Nat → Option Nat) → Prop) (s : St) (v2 : Int32) (v3 : Int32) (v4 : Int32) : Prop := ((cn2 .ge v4 v2) = true → True) ∧ ((cn2 .ge v4 v2) = false → (vp_in v4 2000 ∧ ((cn2 .le (sA s 32 (Int32.toNatClampNeg v4)) (29 : Int32)) = true → ((cn1 .eq (f_M_wholeOf (sA s 32 (Int32.toNatClampNeg v4)))) = true → True) ∧ ((cn1 .eq (f_M_wholeOf (sA s 32 (Int32.toNatClampNeg v4)))) = false → ((cn2 .gt (v4 + (f_M_wholeOf (sA s 32 (Int32.toNatClampNeg v4)))) v2) = true → True) ∧ ((cn2 .gt (v4 + (f_M_wholeOf (sA s 32 (Int32.toNatClampNeg v4)))) v2) = false → ((cn1 .eq (0 : Int32)) = true → (wlp 39 s (jI [(2, v2), (3, v3), (4, v4), (5, sA s 32 (Int32.toNatClampNeg v4)), (6, f_M_wholeOf (sA s 32 (Int32.toNatClampNeg v4))), (7, (0 : Int32)), (8, (0 : Int32))]) (jL []) (jR []))) ∧ ((cn1 .eq (0 : Int32)) = false → ((cn2 .ne v3 (10 : Int32)) = true → (wlp 39 s (jI [(2, v2), (3, v3), (4, v4), (5, sA s 32 (Int32.toNatClampNeg v4)), (6, f_M_wholeOf (sA s 32 (Int32.toNatClampNeg v4))), (7, (0 : Int32)), (8, (0 : Int32))]) (jL []) (jR []))) ∧ ((cn2 .ne v3 (10 : Int32)) = false → True))))) ∧ ((cn2 .le (sA s 32 (Int32.toNatClampNeg v4)) (29 : Int32)) = false → ((cn2 .ge (sA s 32 (Int32.toNatClampNeg v4)) (33 : Int32)) = true → ((cn1 .eq (f_M_wholeOf (sA s 32 (Int32.toNatClampNeg v4)))) = true → True) ∧ ((cn1 .eq (f_M_wholeOf (sA s 32 (Int32.toNatClampNeg v4)))) = false → ((cn2 .gt (v4 + (f_M_wholeOf (sA s 32 (Int32.toNatClampNeg v4)))) v2) = true → True) ∧ ((cn2 .gt (v4 + (f_M_wholeOf (sA s 32 (Int32.toNatClampNeg v4)))) v2) = false → ((cn1 .eq (0 : Int32)) = true → (wlp 39 s (jI [(2, v2), (3, v3), (4, v4), (5, sA s 32 (Int32.toNatClampNeg v4)), (6, f_M_wholeOf (sA s 32 (Int32.toNatClampNeg v4))), (7, (0 : Int32)), (8, (0 : Int32))]) (jL []) (jR []))) ∧ ((cn1 .eq (0 : Int32)) = false → ((cn2 .ne v3 (10 : Int32)) = true → (wlp 39 s (jI [(2, v2), (3, v3), (4, v4), (5, sA s 32 (Int32.toNatClampNeg v4)), (6, f_M_wholeOf (sA s 32 (Int32.toNatClampNeg v4))), (7, (0 : Int32)), (8, (0 : Int32))]) (jL []) (jR []))) ∧ ((cn2 .ne v3 (10 : Int32)) = false → True))))) ∧ ((cn2 .ge (sA s 32 (Int32.toNatClampNeg v4)) (33 : Int32)) = false → ((cn1 .eq (f_M_wholeOf (sA s 32 (Int32.toNatClampNeg v4)))) = true → True) ∧ ((cn1 .eq (f_M_wholeOf (sA s 32 (Int32.toNatClampNeg v4)))) = false → ((cn2 .gt (v4 + (f_M_wholeOf (sA s 32 (Int32.toNatClampNeg v4)))) v2) = true → True) ∧ ((cn2 .gt (v4 + (f_M_wholeOf (sA s 32 (Int32.toNatClampNeg v4)))) v2) = false → ((cn1 .eq (1 : Int32)) = true → (wlp 39 s (jI [(2, v2), (3, v3), (4, v4), (5, sA s 32 (Int32.toNatClampNeg v4)), (6, f_M_wholeOf (sA s 32 (Int32.toNatClampNeg v4))), (7, (1 : Int32)), (8, (0 : Int32))]) (jL []) (jR []))) ∧ ((cn1 .eq (1 : Int32)) = false → ((cn2 .ne v3 (10 : Int32)) = true → (wlp 39 s (jI [(2, v2), (3, v3), (4, v4), (5, sA s 32 (Int32.toNatClampNeg v4)), (6, f_M_wholeOf (sA s 32 (Int32.toNatClampNeg v4))), (7, (1 : Int32)), (8, (0 : Int32))]) (jL []) (jR []))) ∧ ((cn2 .ne v3 (10 : Int32)) = false → True))))))))
theorem cb_M_wrong_2 {d : Nat} {rec : Nat → St → Int32 → Int32 → Int32 → Int32} {wrec : Nat → St → Int32 → Int32 → Int32 → Prop} (hrec : hr_wrong (d) rec wrec) (fu : Nat) {lp : Nat → St → (Nat → Int32) → (Nat → Int64) → (Nat → Option Nat) → Int32} {wlp : Nat → St → (Nat → Int32) → (Nat → Int64) → (Nat → Option Nat) → Prop} (hlp : hl_M_wrong_2 (d + 1) lp wlp) (s : St) (v2 : Int32) (v3 : Int32) (v4 : Int32) (hw : v_M_wrong_2 rec wrec fu lp wlp s v2 v3 v4) : X m_M_wrong (d + 1) 2 [some (.inr (.inr (some 21))), none, some (.inl v2), some (.inl v3), some (.inl v4), none, none, none, none, none, none, none] [] (hp s) (qI (hp s) (b_M_wrong_2 rec fu lp s v2 v3 v4)) := by
  unfold b_M_wrong_2
  unfold v_M_wrong_2 at hw
  refine X_run 3 (i1 := cond (cn2 .ge v4 v2) 161 5) (L1 := [some (.inr (.inr (some 21))), none, some (.inl v2), some (.inl v3), some (.inl v4), none, none, none, none, none, none, none]) (st1 := []) rfl ?_
  refine X_brq (fun hb => ?_) (fun hb => ?_)
  · skip
    refine X_run 1 (i1 := 162) (L1 := [some (.inr (.inr (some 21))), none, some (.inl v2), some (.inl v3), some (.inl v4), none, none, none, none, none, none, none]) (st1 := [.inl (-1 : Int32)]) rfl ?_
    exact X_iret rfl rfl ⟨rfl, rfl⟩
  · have hw := hw.2 hb
    refine X_run 1 (i1 := 6) (L1 := [some (.inr (.inr (some 21))), none, some (.inl v2), some (.inl v3), some (.inl v4), none, none, none, none, none, none, none]) (st1 := [.inr (.inr (some 21))]) rfl ?_
    refine X_gF (v := .inr (.inr (some 32))) rfl rfl rfl rfl ?_
    refine X_run 1 (i1 := 8) (L1 := [some (.inr (.inr (some 21))), none, some (.inl v2), some (.inl v3), some (.inl v4), none, none, none, none, none, none, none]) (st1 := [.inl v4, .inr (.inr (some 32))]) rfl ?_
    obtain ⟨hin, hw⟩ := hw
    refine X_aI rfl rfl hin ?_
    show X _ _ 9 [some (.inr (.inr (some 21))), none, some (.inl v2), some (.inl v3), some (.inl v4), none, none, none, none, none, none, none] [.inl (sA s 32 (Int32.toNatClampNeg v4))] (hp s) _
    refine X_run 2 (i1 := 11) (L1 := [some (.inr (.inr (some 21))), none, some (.inl v2), some (.inl v3), some (.inl v4), some (.inl (sA s 32 (Int32.toNatClampNeg v4))), none, none, none, none, none, none]) (st1 := [.inl (sA s 32 (Int32.toNatClampNeg v4))]) rfl ?_
    refine X_calls m_M_wholeOf (As := [.inl (sA s 32 (Int32.toNatClampNeg v4))]) (st := []) ok_M_wholeOf rfl rfl rfl (Nat.le_of_ble_eq_true rfl) (Nat.le_of_ble_eq_true rfl) (c_M_wholeOf (d := d) (sA s 32 (Int32.toNatClampNeg v4))) ?_
    rintro _ _ ⟨rfl, rfl⟩
    show X _ _ 12 [some (.inr (.inr (some 21))), none, some (.inl v2), some (.inl v3), some (.inl v4), some (.inl (sA s 32 (Int32.toNatClampNeg v4))), none, none, none, none, none, none] [.inl (f_M_wholeOf (sA s 32 (Int32.toNatClampNeg v4)))] (hp s) _
    refine X_run 4 (i1 := cond (cn2 .le (sA s 32 (Int32.toNatClampNeg v4)) (29 : Int32)) 21 16) (L1 := [some (.inr (.inr (some 21))), none, some (.inl v2), some (.inl v3), some (.inl v4), some (.inl (sA s 32 (Int32.toNatClampNeg v4))), some (.inl (f_M_wholeOf (sA s 32 (Int32.toNatClampNeg v4)))), none, none, none, none, none]) (st1 := []) rfl ?_
    refine X_brq (fun hb => ?_) (fun hb => ?_)
    · have hw := hw.1 hb
      refine X_run 4 (i1 := cond (cn1 .eq (f_M_wholeOf (sA s 32 (Int32.toNatClampNeg v4)))) 35 25) (L1 := [some (.inr (.inr (some 21))), none, some (.inl v2), some (.inl v3), some (.inl v4), some (.inl (sA s 32 (Int32.toNatClampNeg v4))), some (.inl (f_M_wholeOf (sA s 32 (Int32.toNatClampNeg v4)))), some (.inl (0 : Int32)), none, none, none, none]) (st1 := []) rfl ?_
      refine X_brq (fun hb => ?_) (fun hb => ?_)
      · skip
        refine X_run 1 (i1 := 36) (L1 := [some (.inr (.inr (some 21))), none, some (.inl v2), some (.inl v3), some (.inl v4), some (.inl (sA s 32 (Int32.toNatClampNeg v4))), some (.inl (f_M_wholeOf (sA s 32 (Int32.toNatClampNeg v4)))), some (.inl (0 : Int32)), none, none, none, none]) (st1 := [.inl v4]) rfl ?_
        exact X_iret rfl rfl ⟨rfl, rfl⟩
      · have hw := hw.2 hb
        refine X_run 5 (i1 := cond (cn2 .gt (v4 + (f_M_wholeOf (sA s 32 (Int32.toNatClampNeg v4)))) v2) 35 30) (L1 := [some (.inr (.inr (some 21))), none, some (.inl v2), some (.inl v3), some (.inl v4), some (.inl (sA s 32 (Int32.toNatClampNeg v4))), some (.inl (f_M_wholeOf (sA s 32 (Int32.toNatClampNeg v4)))), some (.inl (0 : Int32)), none, none, none, none]) (st1 := []) rfl ?_
        refine X_brq (fun hb => ?_) (fun hb => ?_)
        · skip
          refine X_run 1 (i1 := 36) (L1 := [some (.inr (.inr (some 21))), none, some (.inl v2), some (.inl v3), some (.inl v4), some (.inl (sA s 32 (Int32.toNatClampNeg v4))), some (.inl (f_M_wholeOf (sA s 32 (Int32.toNatClampNeg v4)))), some (.inl (0 : Int32)), none, none, none, none]) (st1 := [.inl v4]) rfl ?_
          exact X_iret rfl rfl ⟨rfl, rfl⟩
        · have hw := hw.2 hb
          refine X_run 2 (i1 := cond (cn1 .eq (0 : Int32)) 37 32) (L1 := [some (.inr (.inr (some 21))), none, some (.inl v2), some (.inl v3), some (.inl v4), some (.inl (sA s 32 (Int32.toNatClampNeg v4))), some (.inl (f_M_wholeOf (sA s 32 (Int32.toNatClampNeg v4)))), some (.inl (0 : Int32)), none, none, none, none]) (st1 := []) rfl ?_
          refine X_brq (fun hb => ?_) (fun hb => ?_)
          · have hw := hw.1 hb
            refine X_run 2 (i1 := 39) (L1 := [some (.inr (.inr (some 21))), none, some (.inl v2), some (.inl v3), some (.inl v4), some (.inl (sA s 32 (Int32.toNatClampNeg v4))), some (.inl (f_M_wholeOf (sA s 32 (Int32.toNatClampNeg v4)))), some (.inl (0 : Int32)), some (.inl (0 : Int32)), none, none, none]) (st1 := []) rfl ?_
            exact hlp.2.1 s v2 v3 v4 (sA s 32 (Int32.toNatClampNeg v4)) (f_M_wholeOf (sA s 32 (Int32.toNatClampNeg v4))) (0 : Int32) (0 : Int32) hw
          · have hw := hw.2 hb
            refine X_run 3 (i1 := cond (cn2 .ne v3 (10 : Int32)) 37 35) (L1 := [some (.inr (.inr (some 21))), none, some (.inl v2), some (.inl v3), some (.inl v4), some (.inl (sA s 32 (Int32.toNatClampNeg v4))), some (.inl (f_M_wholeOf (sA s 32 (Int32.toNatClampNeg v4)))), some (.inl (0 : Int32)), none, none, none, none]) (st1 := []) rfl ?_
            refine X_brq (fun hb => ?_) (fun hb => ?_)
            · have hw := hw.1 hb
              refine X_run 2 (i1 := 39) (L1 := [some (.inr (.inr (some 21))), none, some (.inl v2), some (.inl v3), some (.inl v4), some (.inl (sA s 32 (Int32.toNatClampNeg v4))), some (.inl (f_M_wholeOf (sA s 32 (Int32.toNatClampNeg v4)))), some (.inl (0 : Int32)), some (.inl (0 : Int32)), none, none, none]) (st1 := []) rfl ?_
              exact hlp.2.1 s v2 v3 v4 (sA s 32 (Int32.toNatClampNeg v4)) (f_M_wholeOf (sA s 32 (Int32.toNatClampNeg v4))) (0 : Int32) (0 : Int32) hw
            · skip
              refine X_run 1 (i1 := 36) (L1 := [some (.inr (.inr (some 21))), none, some (.inl v2), some (.inl v3), some (.inl v4), some (.inl (sA s 32 (Int32.toNatClampNeg v4))), some (.inl (f_M_wholeOf (sA s 32 (Int32.toNatClampNeg v4)))), some (.inl (0 : Int32)), none, none, none, none]) (st1 := [.inl v4]) rfl ?_
              exact X_iret rfl rfl ⟨rfl, rfl⟩
    · have hw := hw.2 hb
      refine X_run 3 (i1 := cond (cn2 .ge (sA s 32 (Int32.toNatClampNeg v4)) (33 : Int32)) 21 19) (L1 := [some (.inr (.inr (some 21))), none, some (.inl v2), some (.inl v3), some (.inl v4), some (.inl (sA s 32 (Int32.toNatClampNeg v4))), some (.inl (f_M_wholeOf (sA s 32 (Int32.toNatClampNeg v4)))), none, none, none, none, none]) (st1 := []) rfl ?_
      refine X_brq (fun hb => ?_) (fun hb => ?_)
      · have hw := hw.1 hb
        refine X_run 4 (i1 := cond (cn1 .eq (f_M_wholeOf (sA s 32 (Int32.toNatClampNeg v4)))) 35 25) (L1 := [some (.inr (.inr (some 21))), none, some (.inl v2), some (.inl v3), some (.inl v4), some (.inl (sA s 32 (Int32.toNatClampNeg v4))), some (.inl (f_M_wholeOf (sA s 32 (Int32.toNatClampNeg v4)))), some (.inl (0 : Int32)), none, none, none, none]) (st1 := []) rfl ?_
        refine X_brq (fun hb => ?_) (fun hb => ?_)
        · skip
          refine X_run 1 (i1 := 36) (L1 := [some (.inr (.inr (some 21))), none, some (.inl v2), some (.inl v3), some (.inl v4), some (.inl (sA s 32 (Int32.toNatClampNeg v4))), some (.inl (f_M_wholeOf (sA s 32 (Int32.toNatClampNeg v4)))), some (.inl (0 : Int32)), none, none, none, none]) (st1 := [.inl v4]) rfl ?_
          exact X_iret rfl rfl ⟨rfl, rfl⟩
        · have hw := hw.2 hb
          refine X_run 5 (i1 := cond (cn2 .gt (v4 + (f_M_wholeOf (sA s 32 (Int32.toNatClampNeg v4)))) v2) 35 30) (L1 := [some (.inr (.inr (some 21))), none, some (.inl v2), some (.inl v3), some (.inl v4), some (.inl (sA s 32 (Int32.toNatClampNeg v4))), some (.inl (f_M_wholeOf (sA s 32 (Int32.toNatClampNeg v4)))), some (.inl (0 : Int32)), none, none, none, none]) (st1 := []) rfl ?_
          refine X_brq (fun hb => ?_) (fun hb => ?_)
          · skip
            refine X_run 1 (i1 := 36) (L1 := [some (.inr (.inr (some 21))), none, some (.inl v2), some (.inl v3), some (.inl v4), some (.inl (sA s 32 (Int32.toNatClampNeg v4))), some (.inl (f_M_wholeOf (sA s 32 (Int32.toNatClampNeg v4)))), some (.inl (0 : Int32)), none, none, none, none]) (st1 := [.inl v4]) rfl ?_
            exact X_iret rfl rfl ⟨rfl, rfl⟩
          · have hw := hw.2 hb
            refine X_run 2 (i1 := cond (cn1 .eq (0 : Int32)) 37 32) (L1 := [some (.inr (.inr (some 21))), none, some (.inl v2), some (.inl v3), some (.inl v4), some (.inl (sA s 32 (Int32.toNatClampNeg v4))), some (.inl (f_M_wholeOf (sA s 32 (Int32.toNatClampNeg v4)))), some (.inl (0 : Int32)), none, none, none, none]) (st1 := []) rfl ?_
            refine X_brq (fun hb => ?_) (fun hb => ?_)
            · have hw := hw.1 hb
              refine X_run 2 (i1 := 39) (L1 := [some (.inr (.inr (some 21))), none, some (.inl v2), some (.inl v3), some (.inl v4), some (.inl (sA s 32 (Int32.toNatClampNeg v4))), some (.inl (f_M_wholeOf (sA s 32 (Int32.toNatClampNeg v4)))), some (.inl (0 : Int32)), some (.inl (0 : Int32)), none, none, none]) (st1 := []) rfl ?_
              exact hlp.2.1 s v2 v3 v4 (sA s 32 (Int32.toNatClampNeg v4)) (f_M_wholeOf (sA s 32 (Int32.toNatClampNeg v4))) (0 : Int32) (0 : Int32) hw
            · have hw := hw.2 hb
              refine X_run 3 (i1 := cond (cn2 .ne v3 (10 : Int32)) 37 35) (L1 := [some (.inr (.inr (some 21))), none, some (.inl v2), some (.inl v3), some (.inl v4), some (.inl (sA s 32 (Int32.toNatClampNeg v4))), some (.inl (f_M_wholeOf (sA s 32 (Int32.toNatClampNeg v4)))), some (.inl (0 : Int32)), none, none, none, none]) (st1 := []) rfl ?_
              refine X_brq (fun hb => ?_) (fun hb => ?_)
              · have hw := hw.1 hb
                refine X_run 2 (i1 := 39) (L1 := [some (.inr (.inr (some 21))), none, some (.inl v2), some (.inl v3), some (.inl v4), some (.inl (sA s 32 (Int32.toNatClampNeg v4))), some (.inl (f_M_wholeOf (sA s 32 (Int32.toNatClampNeg v4)))), some (.inl (0 : Int32)), some (.inl (0 : Int32)), none, none, none]) (st1 := []) rfl ?_
                exact hlp.2.1 s v2 v3 v4 (sA s 32 (Int32.toNatClampNeg v4)) (f_M_wholeOf (sA s 32 (Int32.toNatClampNeg v4))) (0 : Int32) (0 : Int32) hw
              · skip
                refine X_run 1 (i1 := 36) (L1 := [some (.inr (.inr (some 21))), none, some (.inl v2), some (.inl v3), some (.inl v4), some (.inl (sA s 32 (Int32.toNatClampNeg v4))), some (.inl (f_M_wholeOf (sA s 32 (Int32.toNatClampNeg v4)))), some (.inl (0 : Int32)), none, none, none, none]) (st1 := [.inl v4]) rfl ?_
                exact X_iret rfl rfl ⟨rfl, rfl⟩
      · have hw := hw.2 hb
        refine X_run 5 (i1 := cond (cn1 .eq (f_M_wholeOf (sA s 32 (Int32.toNatClampNeg v4)))) 35 25) (L1 := [some (.inr (.inr (some 21))), none, some (.inl v2), some (.inl v3), some (.inl v4), some (.inl (sA s 32 (Int32.toNatClampNeg v4))), some (.inl (f_M_wholeOf (sA s 32 (Int32.toNatClampNeg v4)))), some (.inl (1 : Int32)), none, none, none, none]) (st1 := []) rfl ?_
        refine X_brq (fun hb => ?_) (fun hb => ?_)
        · skip
          refine X_run 1 (i1 := 36) (L1 := [some (.inr (.inr (some 21))), none, some (.inl v2), some (.inl v3), some (.inl v4), some (.inl (sA s 32 (Int32.toNatClampNeg v4))), some (.inl (f_M_wholeOf (sA s 32 (Int32.toNatClampNeg v4)))), some (.inl (1 : Int32)), none, none, none, none]) (st1 := [.inl v4]) rfl ?_
          exact X_iret rfl rfl ⟨rfl, rfl⟩
        · have hw := hw.2 hb
          refine X_run 5 (i1 := cond (cn2 .gt (v4 + (f_M_wholeOf (sA s 32 (Int32.toNatClampNeg v4)))) v2) 35 30) (L1 := [some (.inr (.inr (some 21))), none, some (.inl v2), some (.inl v3), some (.inl v4), some (.inl (sA s 32 (Int32.toNatClampNeg v4))), some (.inl (f_M_wholeOf (sA s 32 (Int32.toNatClampNeg v4)))), some (.inl (1 : Int32)), none, none, none, none]) (st1 := []) rfl ?_
          refine X_brq (fun hb => ?_) (fun hb => ?_)
          · skip
            refine X_run 1 (i1 := 36) (L1 := [some (.inr (.inr (some 21))), none, some (.inl v2), some (.inl v3), some (.inl v4), some (.inl (sA s 32 (Int32.toNatClampNeg v4))), some (.inl (f_M_wholeOf (sA s 32 (Int32.toNatClampNeg v4)))), some (.inl (1 : Int32)), none, none, none, none]) (st1 := [.inl v4]) rfl ?_
            exact X_iret rfl rfl ⟨rfl, rfl⟩
          · have hw := hw.2 hb
            refine X_run 2 (i1 := cond (cn1 .eq (1 : Int32)) 37 32) (L1 := [some (.inr (.inr (some 21))), none, some (.inl v2), some (.inl v3), some (.inl v4), some (.inl (sA s 32 (Int32.toNatClampNeg v4))), some (.inl (f_M_wholeOf (sA s 32 (Int32.toNatClampNeg v4)))), some (.inl (1 : Int32)), none, none, none, none]) (st1 := []) rfl ?_
            refine X_brq (fun hb => ?_) (fun hb => ?_)
            · have hw := hw.1 hb
              refine X_run 2 (i1 := 39) (L1 := [some (.inr (.inr (some 21))), none, some (.inl v2), some (.inl v3), some (.inl v4), some (.inl (sA s 32 (Int32.toNatClampNeg v4))), some (.inl (f_M_wholeOf (sA s 32 (Int32.toNatClampNeg v4)))), some (.inl (1 : Int32)), some (.inl (0 : Int32)), none, none, none]) (st1 := []) rfl ?_
              exact hlp.2.1 s v2 v3 v4 (sA s 32 (Int32.toNatClampNeg v4)) (f_M_wholeOf (sA s 32 (Int32.toNatClampNeg v4))) (1 : Int32) (0 : Int32) hw
            · have hw := hw.2 hb
              refine X_run 3 (i1 := cond (cn2 .ne v3 (10 : Int32)) 37 35) (L1 := [some (.inr (.inr (some 21))), none, some (.inl v2), some (.inl v3), some (.inl v4), some (.inl (sA s 32 (Int32.toNatClampNeg v4))), some (.inl (f_M_wholeOf (sA s 32 (Int32.toNatClampNeg v4)))), some (.inl (1 : Int32)), none, none, none, none]) (st1 := []) rfl ?_
              refine X_brq (fun hb => ?_) (fun hb => ?_)
              · have hw := hw.1 hb
                refine X_run 2 (i1 := 39) (L1 := [some (.inr (.inr (some 21))), none, some (.inl v2), some (.inl v3), some (.inl v4), some (.inl (sA s 32 (Int32.toNatClampNeg v4))), some (.inl (f_M_wholeOf (sA s 32 (Int32.toNatClampNeg v4)))), some (.inl (1 : Int32)), some (.inl (0 : Int32)), none, none, none]) (st1 := []) rfl ?_
                exact hlp.2.1 s v2 v3 v4 (sA s 32 (Int32.toNatClampNeg v4)) (f_M_wholeOf (sA s 32 (Int32.toNatClampNeg v4))) (1 : Int32) (0 : Int32) hw
              · skip
                refine X_run 1 (i1 := 36) (L1 := [some (.inr (.inr (some 21))), none, some (.inl v2), some (.inl v3), some (.inl v4), some (.inl (sA s 32 (Int32.toNatClampNeg v4))), some (.inl (f_M_wholeOf (sA s 32 (Int32.toNatClampNeg v4)))), some (.inl (1 : Int32)), none, none, none, none]) (st1 := [.inl v4]) rfl ?_
                exact X_iret rfl rfl ⟨rfl, rfl⟩
def b_M_wrong_39 (rec : Nat → St → Int32 → Int32 → Int32 → Int32) (fu : Nat) (lp : Nat → St → (Nat → Int32) → (Nat → Int64) → (Nat → Option Nat) → Int32) (s : St) (v2 : Int32) (v3 : Int32) (v4 : Int32) (v5 : Int32) (v6 : Int32) (v7 : Int32) (v8 : Int32) : Int32 := (cond (cn2 .ge v8 (v6 - (1 : Int32))) (cond (cn1 .eq v7) (lp 2 s (jI [(2, v2), (3, v3), (4, v4 + v6)]) (jL []) (jR [])) (cond (cn2 .ne v5 (32 : Int32)) (lp 97 s (jI [(2, v2), (3, v3), (4, v4), (6, v6), (8, v4 + v6), (9, (2 : Int32)), (10, (2 : Int32))]) (jL []) (jR [])) (lp 97 s (jI [(2, v2), (3, v3), (4, v4), (6, v6), (8, v4 + v6), (9, (4 : Int32)), (10, (4 : Int32))]) (jL []) (jR [])))) (cond (cn2 .gt (sA s 32 (Int32.toNatClampNeg ((v4 + (1 : Int32)) + v8))) (f_M_mostOf v5 v8 (sA s 32 (Int32.toNatClampNeg (v4 + (1 : Int32)))))) (t_M_wrong_74 rec fu s v4 v8) (cond (cn2 .ge (sA s 32 (Int32.toNatClampNeg ((v4 + (1 : Int32)) + v8))) (f_M_leastOf v5 v8)) (lp 39 s (jI [(2, v2), (3, v3), (4, v4), (5, v5), (6, v6), (7, v7), (8, v8 + Int32.ofInt (1))]) (jL []) (jR [])) (t_M_wrong_74 rec fu s v4 v8))))
def v_M_wrong_39 (rec : Nat → St → Int32 → Int32 → Int32 → Int32) (wrec : Nat → St → Int32 → Int32 → Int32 → Prop) (fu : Nat) (lp : Nat → St → (Nat → Int32) → (Nat → Int64) → (Nat → Option Nat) → Int32) (wlp : Nat → St → (Nat → Int32) → (Nat → Int64) → (Nat → Option Nat) → Prop) (s : St) (v2 : Int32) (v3 : Int32) (v4 : Int32) (v5 : Int32) (v6 : Int32) (v7 : Int32) (v8 : Int32) : Prop := ((cn2 .ge v8 (v6 - (1 : Int32))) = true → ((cn1 .eq v7) = true → (wlp 2 s (jI [(2, v2), (3, v3), (4, v4 + v6)]) (jL []) (jR []))) ∧ ((cn1 .eq v7) = false → ((cn2 .ne v5 (32 : Int32)) = true → (wlp 97 s (jI [(2, v2), (3, v3), (4, v4), (6, v6), (8, v4 + v6), (9, (2 : Int32)), (10, (2 : Int32))]) (jL []) (jR []))) ∧ ((cn2 .ne v5 (32 : Int32)) = false → (wlp 97 s (jI [(2, v2), (3, v3), (4, v4), (6, v6), (8, v4 + v6), (9, (4 : Int32)), (10, (4 : Int32))]) (jL []) (jR []))))) ∧ ((cn2 .ge v8 (v6 - (1 : Int32))) = false → (vp_in ((v4 + (1 : Int32)) + v8) 2000 ∧ (vp_in (v4 + (1 : Int32)) 2000 ∧ ((cn2 .gt (sA s 32 (Int32.toNatClampNeg ((v4 + (1 : Int32)) + v8))) (f_M_mostOf v5 v8 (sA s 32 (Int32.toNatClampNeg (v4 + (1 : Int32)))))) = true → (w_M_wrong_74 rec wrec fu s v4 v8)) ∧ ((cn2 .gt (sA s 32 (Int32.toNatClampNeg ((v4 + (1 : Int32)) + v8))) (f_M_mostOf v5 v8 (sA s 32 (Int32.toNatClampNeg (v4 + (1 : Int32)))))) = false → (vp_in ((v4 + (1 : Int32)) + v8) 2000 ∧ ((cn2 .ge (sA s 32 (Int32.toNatClampNeg ((v4 + (1 : Int32)) + v8))) (f_M_leastOf v5 v8)) = true → (wlp 39 s (jI [(2, v2), (3, v3), (4, v4), (5, v5), (6, v6), (7, v7), (8, v8 + Int32.ofInt (1))]) (jL []) (jR []))) ∧ ((cn2 .ge (sA s 32 (Int32.toNatClampNeg ((v4 + (1 : Int32)) + v8))) (f_M_leastOf v5 v8)) = false → (w_M_wrong_74 rec wrec fu s v4 v8)))))))
theorem cb_M_wrong_39 {d : Nat} {rec : Nat → St → Int32 → Int32 → Int32 → Int32} {wrec : Nat → St → Int32 → Int32 → Int32 → Prop} (hrec : hr_wrong (d) rec wrec) (fu : Nat) {lp : Nat → St → (Nat → Int32) → (Nat → Int64) → (Nat → Option Nat) → Int32} {wlp : Nat → St → (Nat → Int32) → (Nat → Int64) → (Nat → Option Nat) → Prop} (hlp : hl_M_wrong_2 (d + 1) lp wlp) (s : St) (v2 : Int32) (v3 : Int32) (v4 : Int32) (v5 : Int32) (v6 : Int32) (v7 : Int32) (v8 : Int32) (hw : v_M_wrong_39 rec wrec fu lp wlp s v2 v3 v4 v5 v6 v7 v8) : X m_M_wrong (d + 1) 39 [some (.inr (.inr (some 21))), none, some (.inl v2), some (.inl v3), some (.inl v4), some (.inl v5), some (.inl v6), some (.inl v7), some (.inl v8), none, none, none] [] (hp s) (qI (hp s) (b_M_wrong_39 rec fu lp s v2 v3 v4 v5 v6 v7 v8)) := by
  unfold b_M_wrong_39
  unfold v_M_wrong_39 at hw
  refine X_run 5 (i1 := cond (cn2 .ge v8 (v6 - (1 : Int32))) 82 44) (L1 := [some (.inr (.inr (some 21))), none, some (.inl v2), some (.inl v3), some (.inl v4), some (.inl v5), some (.inl v6), some (.inl v7), some (.inl v8), none, none, none]) (st1 := []) rfl ?_
  refine X_brq (fun hb => ?_) (fun hb => ?_)
  · have hw := hw.1 hb
    refine X_run 6 (i1 := cond (cn1 .eq v7) 158 88) (L1 := [some (.inr (.inr (some 21))), none, some (.inl v2), some (.inl v3), some (.inl v4), some (.inl v5), some (.inl v6), some (.inl v7), some (.inl (v4 + v6)), none, none, none]) (st1 := []) rfl ?_
    refine X_brq (fun hb => ?_) (fun hb => ?_)
    · have hw := hw.1 hb
      refine X_run 3 (i1 := 2) (L1 := [some (.inr (.inr (some 21))), none, some (.inl v2), some (.inl v3), some (.inl (v4 + v6)), some (.inl v5), some (.inl v6), some (.inl v7), some (.inl (v4 + v6)), none, none, none]) (st1 := []) rfl ?_
      refine X_mask [true, true, true, true, true, false, false, false, false, true, true, true] ?_
      exact hlp.1 s v2 v3 (v4 + v6) hw
    · have hw := hw.2 hb
      refine X_run 3 (i1 := cond (cn2 .ne v5 (32 : Int32)) 93 91) (L1 := [some (.inr (.inr (some 21))), none, some (.inl v2), some (.inl v3), some (.inl v4), some (.inl v5), some (.inl v6), some (.inl v7), some (.inl (v4 + v6)), none, none, none]) (st1 := []) rfl ?_
      refine X_brq (fun hb => ?_) (fun hb => ?_)
      · have hw := hw.1 hb
        refine X_run 4 (i1 := 97) (L1 := [some (.inr (.inr (some 21))), none, some (.inl v2), some (.inl v3), some (.inl v4), some (.inl v5), some (.inl v6), some (.inl v7), some (.inl (v4 + v6)), some (.inl (2 : Int32)), some (.inl (2 : Int32)), none]) (st1 := []) rfl ?_
        refine X_mask [true, true, true, true, true, false, true, false, true, true, true, true] ?_
        exact hlp.2.2.1 s v2 v3 v4 v6 (v4 + v6) (2 : Int32) (2 : Int32) hw
      · have hw := hw.2 hb
        refine X_run 5 (i1 := 97) (L1 := [some (.inr (.inr (some 21))), none, some (.inl v2), some (.inl v3), some (.inl v4), some (.inl v5), some (.inl v6), some (.inl v7), some (.inl (v4 + v6)), some (.inl (4 : Int32)), some (.inl (4 : Int32)), none]) (st1 := []) rfl ?_
        refine X_mask [true, true, true, true, true, false, true, false, true, true, true, true] ?_
        exact hlp.2.2.1 s v2 v3 v4 v6 (v4 + v6) (4 : Int32) (4 : Int32) hw
  · have hw := hw.2 hb
    refine X_run 1 (i1 := 45) (L1 := [some (.inr (.inr (some 21))), none, some (.inl v2), some (.inl v3), some (.inl v4), some (.inl v5), some (.inl v6), some (.inl v7), some (.inl v8), none, none, none]) (st1 := [.inr (.inr (some 21))]) rfl ?_
    refine X_gF (v := .inr (.inr (some 32))) rfl rfl rfl rfl ?_
    refine X_run 5 (i1 := 51) (L1 := [some (.inr (.inr (some 21))), none, some (.inl v2), some (.inl v3), some (.inl v4), some (.inl v5), some (.inl v6), some (.inl v7), some (.inl v8), none, none, none]) (st1 := [.inl ((v4 + (1 : Int32)) + v8), .inr (.inr (some 32))]) rfl ?_
    obtain ⟨hin, hw⟩ := hw
    refine X_aI rfl rfl hin ?_
    show X _ _ 52 [some (.inr (.inr (some 21))), none, some (.inl v2), some (.inl v3), some (.inl v4), some (.inl v5), some (.inl v6), some (.inl v7), some (.inl v8), none, none, none] [.inl (sA s 32 (Int32.toNatClampNeg ((v4 + (1 : Int32)) + v8)))] (hp s) _
    refine X_run 3 (i1 := 55) (L1 := [some (.inr (.inr (some 21))), none, some (.inl v2), some (.inl v3), some (.inl v4), some (.inl v5), some (.inl v6), some (.inl v7), some (.inl v8), none, none, none]) (st1 := [.inr (.inr (some 21)), .inl v8, .inl v5, .inl (sA s 32 (Int32.toNatClampNeg ((v4 + (1 : Int32)) + v8)))]) rfl ?_
    refine X_gF (v := .inr (.inr (some 32))) rfl rfl rfl rfl ?_
    refine X_run 3 (i1 := 59) (L1 := [some (.inr (.inr (some 21))), none, some (.inl v2), some (.inl v3), some (.inl v4), some (.inl v5), some (.inl v6), some (.inl v7), some (.inl v8), none, none, none]) (st1 := [.inl (v4 + (1 : Int32)), .inr (.inr (some 32)), .inl v8, .inl v5, .inl (sA s 32 (Int32.toNatClampNeg ((v4 + (1 : Int32)) + v8)))]) rfl ?_
    obtain ⟨hin, hw⟩ := hw
    refine X_aI rfl rfl hin ?_
    show X _ _ 60 [some (.inr (.inr (some 21))), none, some (.inl v2), some (.inl v3), some (.inl v4), some (.inl v5), some (.inl v6), some (.inl v7), some (.inl v8), none, none, none] [.inl (sA s 32 (Int32.toNatClampNeg (v4 + (1 : Int32)))), .inl v8, .inl v5, .inl (sA s 32 (Int32.toNatClampNeg ((v4 + (1 : Int32)) + v8)))] (hp s) _
    refine X_calls m_M_mostOf (As := [.inl v5, .inl v8, .inl (sA s 32 (Int32.toNatClampNeg (v4 + (1 : Int32))))]) (st := [.inl (sA s 32 (Int32.toNatClampNeg ((v4 + (1 : Int32)) + v8)))]) ok_M_mostOf rfl rfl rfl (Nat.le_of_ble_eq_true rfl) (Nat.le_of_ble_eq_true rfl) (c_M_mostOf (d := d) v5 v8 (sA s 32 (Int32.toNatClampNeg (v4 + (1 : Int32))))) ?_
    rintro _ _ ⟨rfl, rfl⟩
    show X _ _ 61 [some (.inr (.inr (some 21))), none, some (.inl v2), some (.inl v3), some (.inl v4), some (.inl v5), some (.inl v6), some (.inl v7), some (.inl v8), none, none, none] [.inl (f_M_mostOf v5 v8 (sA s 32 (Int32.toNatClampNeg (v4 + (1 : Int32))))), .inl (sA s 32 (Int32.toNatClampNeg ((v4 + (1 : Int32)) + v8)))] (hp s) _
    refine X_run 1 (i1 := cond (cn2 .gt (sA s 32 (Int32.toNatClampNeg ((v4 + (1 : Int32)) + v8))) (f_M_mostOf v5 v8 (sA s 32 (Int32.toNatClampNeg (v4 + (1 : Int32)))))) 74 62) (L1 := [some (.inr (.inr (some 21))), none, some (.inl v2), some (.inl v3), some (.inl v4), some (.inl v5), some (.inl v6), some (.inl v7), some (.inl v8), none, none, none]) (st1 := []) rfl ?_
    refine X_brq (fun hb => ?_) (fun hb => ?_)
    · have hw := hw.1 hb
      refine X_mask [false, true, false, false, true, false, false, false, true, true, true, true] ?_
      exact ct_M_wrong_74 hrec fu s v4 v8 hw
    · have hw := hw.2 hb
      refine X_run 1 (i1 := 63) (L1 := [some (.inr (.inr (some 21))), none, some (.inl v2), some (.inl v3), some (.inl v4), some (.inl v5), some (.inl v6), some (.inl v7), some (.inl v8), none, none, none]) (st1 := [.inr (.inr (some 21))]) rfl ?_
      refine X_gF (v := .inr (.inr (some 32))) rfl rfl rfl rfl ?_
      refine X_run 5 (i1 := 69) (L1 := [some (.inr (.inr (some 21))), none, some (.inl v2), some (.inl v3), some (.inl v4), some (.inl v5), some (.inl v6), some (.inl v7), some (.inl v8), none, none, none]) (st1 := [.inl ((v4 + (1 : Int32)) + v8), .inr (.inr (some 32))]) rfl ?_
      obtain ⟨hin, hw⟩ := hw
      refine X_aI rfl rfl hin ?_
      show X _ _ 70 [some (.inr (.inr (some 21))), none, some (.inl v2), some (.inl v3), some (.inl v4), some (.inl v5), some (.inl v6), some (.inl v7), some (.inl v8), none, none, none] [.inl (sA s 32 (Int32.toNatClampNeg ((v4 + (1 : Int32)) + v8)))] (hp s) _
      refine X_run 2 (i1 := 72) (L1 := [some (.inr (.inr (some 21))), none, some (.inl v2), some (.inl v3), some (.inl v4), some (.inl v5), some (.inl v6), some (.inl v7), some (.inl v8), none, none, none]) (st1 := [.inl v8, .inl v5, .inl (sA s 32 (Int32.toNatClampNeg ((v4 + (1 : Int32)) + v8)))]) rfl ?_
      refine X_calls m_M_leastOf (As := [.inl v5, .inl v8]) (st := [.inl (sA s 32 (Int32.toNatClampNeg ((v4 + (1 : Int32)) + v8)))]) ok_M_leastOf rfl rfl rfl (Nat.le_of_ble_eq_true rfl) (Nat.le_of_ble_eq_true rfl) (c_M_leastOf (d := d) v5 v8) ?_
      rintro _ _ ⟨rfl, rfl⟩
      show X _ _ 73 [some (.inr (.inr (some 21))), none, some (.inl v2), some (.inl v3), some (.inl v4), some (.inl v5), some (.inl v6), some (.inl v7), some (.inl v8), none, none, none] [.inl (f_M_leastOf v5 v8), .inl (sA s 32 (Int32.toNatClampNeg ((v4 + (1 : Int32)) + v8)))] (hp s) _
      refine X_run 1 (i1 := cond (cn2 .ge (sA s 32 (Int32.toNatClampNeg ((v4 + (1 : Int32)) + v8))) (f_M_leastOf v5 v8)) 80 74) (L1 := [some (.inr (.inr (some 21))), none, some (.inl v2), some (.inl v3), some (.inl v4), some (.inl v5), some (.inl v6), some (.inl v7), some (.inl v8), none, none, none]) (st1 := []) rfl ?_
      refine X_brq (fun hb => ?_) (fun hb => ?_)
      · have hw := hw.1 hb
        refine X_run 2 (i1 := 39) (L1 := [some (.inr (.inr (some 21))), none, some (.inl v2), some (.inl v3), some (.inl v4), some (.inl v5), some (.inl v6), some (.inl v7), some (.inl (v8 + Int32.ofInt (1))), none, none, none]) (st1 := []) rfl ?_
        exact hlp.2.1 s v2 v3 v4 v5 v6 v7 (v8 + Int32.ofInt (1)) hw
      · have hw := hw.2 hb
        refine X_mask [false, true, false, false, true, false, false, false, true, true, true, true] ?_
        exact ct_M_wrong_74 hrec fu s v4 v8 hw
def b_M_wrong_97 (rec : Nat → St → Int32 → Int32 → Int32 → Int32) (fu : Nat) (lp : Nat → St → (Nat → Int32) → (Nat → Int64) → (Nat → Option Nat) → Int32) (s : St) (v2 : Int32) (v3 : Int32) (v4 : Int32) (v6 : Int32) (v8 : Int32) (v9 : Int32) (v10 : Int32) : Int32 := (cond (cn2 .ge v10 v6) (lp 124 s (jI [(2, v2), (3, v3), (4, v4), (6, v6), (8, v4 + v6), (10, v9)]) (jL []) (jR [])) (cond (cn2 .le (v8 + (sA s 32 (Int32.toNatClampNeg (v4 + v10)))) v2) (lp 97 s (jI [(2, v2), (3, v3), (4, v4), (6, v6), (8, v8 + (sA s 32 (Int32.toNatClampNeg (v4 + v10)))), (9, v9), (10, v10 + Int32.ofInt (1))]) (jL []) (jR [])) (v4 + v10)))
def v_M_wrong_97 (rec : Nat → St → Int32 → Int32 → Int32 → Int32) (wrec : Nat → St → Int32 → Int32 → Int32 → Prop) (fu : Nat) (lp : Nat → St → (Nat → Int32) → (Nat → Int64) → (Nat → Option Nat) → Int32) (wlp : Nat → St → (Nat → Int32) → (Nat → Int64) → (Nat → Option Nat) → Prop) (s : St) (v2 : Int32) (v3 : Int32) (v4 : Int32) (v6 : Int32) (v8 : Int32) (v9 : Int32) (v10 : Int32) : Prop := ((cn2 .ge v10 v6) = true → (wlp 124 s (jI [(2, v2), (3, v3), (4, v4), (6, v6), (8, v4 + v6), (10, v9)]) (jL []) (jR []))) ∧ ((cn2 .ge v10 v6) = false → (vp_in (v4 + v10) 2000 ∧ ((cn2 .le (v8 + (sA s 32 (Int32.toNatClampNeg (v4 + v10)))) v2) = true → (wlp 97 s (jI [(2, v2), (3, v3), (4, v4), (6, v6), (8, v8 + (sA s 32 (Int32.toNatClampNeg (v4 + v10)))), (9, v9), (10, v10 + Int32.ofInt (1))]) (jL []) (jR []))) ∧ ((cn2 .le (v8 + (sA s 32 (Int32.toNatClampNeg (v4 + v10)))) v2) = false → True)))
theorem cb_M_wrong_97 {d : Nat} {rec : Nat → St → Int32 → Int32 → Int32 → Int32} {wrec : Nat → St → Int32 → Int32 → Int32 → Prop} (hrec : hr_wrong (d) rec wrec) (fu : Nat) {lp : Nat → St → (Nat → Int32) → (Nat → Int64) → (Nat → Option Nat) → Int32} {wlp : Nat → St → (Nat → Int32) → (Nat → Int64) → (Nat → Option Nat) → Prop} (hlp : hl_M_wrong_2 (d + 1) lp wlp) (s : St) (v2 : Int32) (v3 : Int32) (v4 : Int32) (v6 : Int32) (v8 : Int32) (v9 : Int32) (v10 : Int32) (hw : v_M_wrong_97 rec wrec fu lp wlp s v2 v3 v4 v6 v8 v9 v10) : X m_M_wrong (d + 1) 97 [some (.inr (.inr (some 21))), none, some (.inl v2), some (.inl v3), some (.inl v4), none, some (.inl v6), none, some (.inl v8), some (.inl v9), some (.inl v10), none] [] (hp s) (qI (hp s) (b_M_wrong_97 rec fu lp s v2 v3 v4 v6 v8 v9 v10)) := by
  unfold b_M_wrong_97
  unfold v_M_wrong_97 at hw
  refine X_run 3 (i1 := cond (cn2 .ge v10 v6) 118 100) (L1 := [some (.inr (.inr (some 21))), none, some (.inl v2), some (.inl v3), some (.inl v4), none, some (.inl v6), none, some (.inl v8), some (.inl v9), some (.inl v10), none]) (st1 := []) rfl ?_
  refine X_brq (fun hb => ?_) (fun hb => ?_)
  · have hw := hw.1 hb
    refine X_run 6 (i1 := 124) (L1 := [some (.inr (.inr (some 21))), none, some (.inl v2), some (.inl v3), some (.inl v4), none, some (.inl v6), none, some (.inl (v4 + v6)), some (.inl v9), some (.inl v9), none]) (st1 := []) rfl ?_
    refine X_mask [true, true, true, true, true, true, true, true, true, false, true, true] ?_
    exact hlp.2.2.2 s v2 v3 v4 v6 (v4 + v6) v9 hw
  · have hw := hw.2 hb
    refine X_run 2 (i1 := 102) (L1 := [some (.inr (.inr (some 21))), none, some (.inl v2), some (.inl v3), some (.inl v4), none, some (.inl v6), none, some (.inl v8), some (.inl v9), some (.inl v10), none]) (st1 := [.inr (.inr (some 21)), .inl v8]) rfl ?_
    refine X_gF (v := .inr (.inr (some 32))) rfl rfl rfl rfl ?_
    refine X_run 3 (i1 := 106) (L1 := [some (.inr (.inr (some 21))), none, some (.inl v2), some (.inl v3), some (.inl v4), none, some (.inl v6), none, some (.inl v8), some (.inl v9), some (.inl v10), none]) (st1 := [.inl (v4 + v10), .inr (.inr (some 32)), .inl v8]) rfl ?_
    obtain ⟨hin, hw⟩ := hw
    refine X_aI rfl rfl hin ?_
    show X _ _ 107 [some (.inr (.inr (some 21))), none, some (.inl v2), some (.inl v3), some (.inl v4), none, some (.inl v6), none, some (.inl v8), some (.inl v9), some (.inl v10), none] [.inl (sA s 32 (Int32.toNatClampNeg (v4 + v10))), .inl v8] (hp s) _
    refine X_run 5 (i1 := cond (cn2 .le (v8 + (sA s 32 (Int32.toNatClampNeg (v4 + v10)))) v2) 116 112) (L1 := [some (.inr (.inr (some 21))), none, some (.inl v2), some (.inl v3), some (.inl v4), none, some (.inl v6), none, some (.inl (v8 + (sA s 32 (Int32.toNatClampNeg (v4 + v10))))), some (.inl v9), some (.inl v10), none]) (st1 := []) rfl ?_
    refine X_brq (fun hb => ?_) (fun hb => ?_)
    · have hw := hw.1 hb
      refine X_run 2 (i1 := 97) (L1 := [some (.inr (.inr (some 21))), none, some (.inl v2), some (.inl v3), some (.inl v4), none, some (.inl v6), none, some (.inl (v8 + (sA s 32 (Int32.toNatClampNeg (v4 + v10))))), some (.inl v9), some (.inl (v10 + Int32.ofInt (1))), none]) (st1 := []) rfl ?_
      exact hlp.2.2.1 s v2 v3 v4 v6 (v8 + (sA s 32 (Int32.toNatClampNeg (v4 + v10)))) v9 (v10 + Int32.ofInt (1)) hw
    · skip
      refine X_run 3 (i1 := 115) (L1 := [some (.inr (.inr (some 21))), none, some (.inl v2), some (.inl v3), some (.inl v4), none, some (.inl v6), none, some (.inl (v8 + (sA s 32 (Int32.toNatClampNeg (v4 + v10))))), some (.inl v9), some (.inl v10), none]) (st1 := [.inl (v4 + v10)]) rfl ?_
      exact X_iret rfl rfl ⟨rfl, rfl⟩
def b_M_wrong_124 (rec : Nat → St → Int32 → Int32 → Int32 → Int32) (fu : Nat) (lp : Nat → St → (Nat → Int32) → (Nat → Int64) → (Nat → Option Nat) → Int32) (s : St) (v2 : Int32) (v3 : Int32) (v4 : Int32) (v6 : Int32) (v8 : Int32) (v10 : Int32) : Int32 := (cond (cn2 .ge v10 v6) (lp 2 s (jI [(2, v2), (3, v3), (4, v8)]) (jL []) (jR [])) (cond (cn2 .eq (rec 0 s v8 (v8 + (sA s 32 (Int32.toNatClampNeg (v4 + v10)))) (v3 + (1 : Int32))) (-1 : Int32)) (lp 124 s (jI [(2, v2), (3, v3), (4, v4), (6, v6), (8, v8 + (sA s 32 (Int32.toNatClampNeg (v4 + v10)))), (10, v10 + Int32.ofInt (1))]) (jL []) (jR [])) (rec 0 s v8 (v8 + (sA s 32 (Int32.toNatClampNeg (v4 + v10)))) (v3 + (1 : Int32)))))
def v_M_wrong_124 (rec : Nat → St → Int32 → Int32 → Int32 → Int32) (wrec : Nat → St → Int32 → Int32 → Int32 → Prop) (fu : Nat) (lp : Nat → St → (Nat → Int32) → (Nat → Int64) → (Nat → Option Nat) → Int32) (wlp : Nat → St → (Nat → Int32) → (Nat → Int64) → (Nat → Option Nat) → Prop) (s : St) (v2 : Int32) (v3 : Int32) (v4 : Int32) (v6 : Int32) (v8 : Int32) (v10 : Int32) : Prop := ((cn2 .ge v10 v6) = true → (wlp 2 s (jI [(2, v2), (3, v3), (4, v8)]) (jL []) (jR []))) ∧ ((cn2 .ge v10 v6) = false → (vp_in (v4 + v10) 2000 ∧ (wrec 0 s v8 (v8 + (sA s 32 (Int32.toNatClampNeg (v4 + v10)))) (v3 + (1 : Int32)) ∧ ((cn2 .eq (rec 0 s v8 (v8 + (sA s 32 (Int32.toNatClampNeg (v4 + v10)))) (v3 + (1 : Int32))) (-1 : Int32)) = true → (vp_in (v4 + v10) 2000 ∧ (wlp 124 s (jI [(2, v2), (3, v3), (4, v4), (6, v6), (8, v8 + (sA s 32 (Int32.toNatClampNeg (v4 + v10)))), (10, v10 + Int32.ofInt (1))]) (jL []) (jR [])))) ∧ ((cn2 .eq (rec 0 s v8 (v8 + (sA s 32 (Int32.toNatClampNeg (v4 + v10)))) (v3 + (1 : Int32))) (-1 : Int32)) = false → True))))
theorem cb_M_wrong_124 {d : Nat} {rec : Nat → St → Int32 → Int32 → Int32 → Int32} {wrec : Nat → St → Int32 → Int32 → Int32 → Prop} (hrec : hr_wrong (d) rec wrec) (fu : Nat) {lp : Nat → St → (Nat → Int32) → (Nat → Int64) → (Nat → Option Nat) → Int32} {wlp : Nat → St → (Nat → Int32) → (Nat → Int64) → (Nat → Option Nat) → Prop} (hlp : hl_M_wrong_2 (d + 1) lp wlp) (s : St) (v2 : Int32) (v3 : Int32) (v4 : Int32) (v6 : Int32) (v8 : Int32) (v10 : Int32) (hw : v_M_wrong_124 rec wrec fu lp wlp s v2 v3 v4 v6 v8 v10) : X m_M_wrong (d + 1) 124 [some (.inr (.inr (some 21))), none, some (.inl v2), some (.inl v3), some (.inl v4), none, some (.inl v6), none, some (.inl v8), none, some (.inl v10), none] [] (hp s) (qI (hp s) (b_M_wrong_124 rec fu lp s v2 v3 v4 v6 v8 v10)) := by
  unfold b_M_wrong_124
  unfold v_M_wrong_124 at hw
  refine X_run 3 (i1 := cond (cn2 .ge v10 v6) 158 127) (L1 := [some (.inr (.inr (some 21))), none, some (.inl v2), some (.inl v3), some (.inl v4), none, some (.inl v6), none, some (.inl v8), none, some (.inl v10), none]) (st1 := []) rfl ?_
  refine X_brq (fun hb => ?_) (fun hb => ?_)
  · have hw := hw.1 hb
    refine X_run 3 (i1 := 2) (L1 := [some (.inr (.inr (some 21))), none, some (.inl v2), some (.inl v3), some (.inl v8), none, some (.inl v6), none, some (.inl v8), none, some (.inl v10), none]) (st1 := []) rfl ?_
    refine X_mask [true, true, true, true, true, true, false, true, false, true, false, true] ?_
    exact hlp.1 s v2 v3 v8 hw
  · have hw := hw.2 hb
    refine X_run 4 (i1 := 131) (L1 := [some (.inr (.inr (some 21))), none, some (.inl v2), some (.inl v3), some (.inl v4), none, some (.inl v6), none, some (.inl v8), none, some (.inl v10), none]) (st1 := [.inr (.inr (some 21)), .inl v8, .inl v8, .inr (.inr (some 21))]) rfl ?_
    refine X_gF (v := .inr (.inr (some 32))) rfl rfl rfl rfl ?_
    refine X_run 3 (i1 := 135) (L1 := [some (.inr (.inr (some 21))), none, some (.inl v2), some (.inl v3), some (.inl v4), none, some (.inl v6), none, some (.inl v8), none, some (.inl v10), none]) (st1 := [.inl (v4 + v10), .inr (.inr (some 32)), .inl v8, .inl v8, .inr (.inr (some 21))]) rfl ?_
    obtain ⟨hin, hw⟩ := hw
    refine X_aI rfl rfl hin ?_
    show X _ _ 136 [some (.inr (.inr (some 21))), none, some (.inl v2), some (.inl v3), some (.inl v4), none, some (.inl v6), none, some (.inl v8), none, some (.inl v10), none] [.inl (sA s 32 (Int32.toNatClampNeg (v4 + v10))), .inl v8, .inl v8, .inr (.inr (some 21))] (hp s) _
    refine X_run 4 (i1 := 140) (L1 := [some (.inr (.inr (some 21))), none, some (.inl v2), some (.inl v3), some (.inl v4), none, some (.inl v6), none, some (.inl v8), none, some (.inl v10), none]) (st1 := [.inl (v3 + (1 : Int32)), .inl (v8 + (sA s 32 (Int32.toNatClampNeg (v4 + v10)))), .inl v8, .inr (.inr (some 21))]) rfl ?_
    obtain ⟨hc, hw⟩ := hw
    refine X_callv m_M_wrong (As := [.inl v8, .inl (v8 + (sA s 32 (Int32.toNatClampNeg (v4 + v10)))), .inl (v3 + (1 : Int32))]) (st := []) ok_M_wrong rfl rfl rfl (hp_obj rfl) rfl (Nat.le_of_ble_eq_true rfl) (Nat.le_of_ble_eq_true rfl) (hrec s v8 (v8 + (sA s 32 (Int32.toNatClampNeg (v4 + v10)))) (v3 + (1 : Int32)) hc) ?_
    rintro _ _ ⟨rfl, rfl⟩
    show X _ _ 141 [some (.inr (.inr (some 21))), none, some (.inl v2), some (.inl v3), some (.inl v4), none, some (.inl v6), none, some (.inl v8), none, some (.inl v10), none] [.inl (rec 0 s v8 (v8 + (sA s 32 (Int32.toNatClampNeg (v4 + v10)))) (v3 + (1 : Int32)))] (hp s) _
    refine X_run 4 (i1 := cond (cn2 .eq (rec 0 s v8 (v8 + (sA s 32 (Int32.toNatClampNeg (v4 + v10)))) (v3 + (1 : Int32))) (-1 : Int32)) 147 145) (L1 := [some (.inr (.inr (some 21))), none, some (.inl v2), some (.inl v3), some (.inl v4), none, some (.inl v6), none, some (.inl v8), none, some (.inl v10), some (.inl (rec 0 s v8 (v8 + (sA s 32 (Int32.toNatClampNeg (v4 + v10)))) (v3 + (1 : Int32))))]) (st1 := []) rfl ?_
    refine X_brq (fun hb => ?_) (fun hb => ?_)
    · have hw := hw.1 hb
      refine X_run 2 (i1 := 149) (L1 := [some (.inr (.inr (some 21))), none, some (.inl v2), some (.inl v3), some (.inl v4), none, some (.inl v6), none, some (.inl v8), none, some (.inl v10), some (.inl (rec 0 s v8 (v8 + (sA s 32 (Int32.toNatClampNeg (v4 + v10)))) (v3 + (1 : Int32))))]) (st1 := [.inr (.inr (some 21)), .inl v8]) rfl ?_
      refine X_gF (v := .inr (.inr (some 32))) rfl rfl rfl rfl ?_
      refine X_run 3 (i1 := 153) (L1 := [some (.inr (.inr (some 21))), none, some (.inl v2), some (.inl v3), some (.inl v4), none, some (.inl v6), none, some (.inl v8), none, some (.inl v10), some (.inl (rec 0 s v8 (v8 + (sA s 32 (Int32.toNatClampNeg (v4 + v10)))) (v3 + (1 : Int32))))]) (st1 := [.inl (v4 + v10), .inr (.inr (some 32)), .inl v8]) rfl ?_
      obtain ⟨hin, hw⟩ := hw
      refine X_aI rfl rfl hin ?_
      show X _ _ 154 [some (.inr (.inr (some 21))), none, some (.inl v2), some (.inl v3), some (.inl v4), none, some (.inl v6), none, some (.inl v8), none, some (.inl v10), some (.inl (rec 0 s v8 (v8 + (sA s 32 (Int32.toNatClampNeg (v4 + v10)))) (v3 + (1 : Int32))))] [.inl (sA s 32 (Int32.toNatClampNeg (v4 + v10))), .inl v8] (hp s) _
      refine X_run 4 (i1 := 124) (L1 := [some (.inr (.inr (some 21))), none, some (.inl v2), some (.inl v3), some (.inl v4), none, some (.inl v6), none, some (.inl (v8 + (sA s 32 (Int32.toNatClampNeg (v4 + v10))))), none, some (.inl (v10 + Int32.ofInt (1))), some (.inl (rec 0 s v8 (v8 + (sA s 32 (Int32.toNatClampNeg (v4 + v10)))) (v3 + (1 : Int32))))]) (st1 := []) rfl ?_
      refine X_mask [true, true, true, true, true, true, true, true, true, true, true, false] ?_
      exact hlp.2.2.2 s v2 v3 v4 v6 (v8 + (sA s 32 (Int32.toNatClampNeg (v4 + v10)))) (v10 + Int32.ofInt (1)) hw
    · skip
      refine X_run 1 (i1 := 146) (L1 := [some (.inr (.inr (some 21))), none, some (.inl v2), some (.inl v3), some (.inl v4), none, some (.inl v6), none, some (.inl v8), none, some (.inl v10), some (.inl (rec 0 s v8 (v8 + (sA s 32 (Int32.toNatClampNeg (v4 + v10)))) (v3 + (1 : Int32))))]) (st1 := [.inl (rec 0 s v8 (v8 + (sA s 32 (Int32.toNatClampNeg (v4 + v10)))) (v3 + (1 : Int32)))]) rfl ?_
      exact X_iret rfl rfl ⟨rfl, rfl⟩
def T_M_wrong_2 (rec : Nat → St → Int32 → Int32 → Int32 → Int32) (fu : Nat) : Nat → Nat → St → (Nat → Int32) → (Nat → Int64) → (Nat → Option Nat) → Int32
  | 0, _, _, _, _, _ => 0
  | n + 1, tag, s, vI, vL, vR => if tag = 2 then b_M_wrong_2 rec fu (T_M_wrong_2 rec fu n) s (vI 2) (vI 3) (vI 4) else if tag = 39 then b_M_wrong_39 rec fu (T_M_wrong_2 rec fu n) s (vI 2) (vI 3) (vI 4) (vI 5) (vI 6) (vI 7) (vI 8) else if tag = 97 then b_M_wrong_97 rec fu (T_M_wrong_2 rec fu n) s (vI 2) (vI 3) (vI 4) (vI 6) (vI 8) (vI 9) (vI 10) else b_M_wrong_124 rec fu (T_M_wrong_2 rec fu n) s (vI 2) (vI 3) (vI 4) (vI 6) (vI 8) (vI 10)
def WT_M_wrong_2 (rec : Nat → St → Int32 → Int32 → Int32 → Int32) (wrec : Nat → St → Int32 → Int32 → Int32 → Prop) (fu : Nat) : Nat → Nat → St → (Nat → Int32) → (Nat → Int64) → (Nat → Option Nat) → Prop
  | 0, _, _, _, _, _ => False
  | n + 1, tag, s, vI, vL, vR => if tag = 2 then v_M_wrong_2 rec wrec fu (T_M_wrong_2 rec fu n) (WT_M_wrong_2 rec wrec fu n) s (vI 2) (vI 3) (vI 4) else if tag = 39 then v_M_wrong_39 rec wrec fu (T_M_wrong_2 rec fu n) (WT_M_wrong_2 rec wrec fu n) s (vI 2) (vI 3) (vI 4) (vI 5) (vI 6) (vI 7) (vI 8) else if tag = 97 then v_M_wrong_97 rec wrec fu (T_M_wrong_2 rec fu n) (WT_M_wrong_2 rec wrec fu n) s (vI 2) (vI 3) (vI 4) (vI 6) (vI 8) (vI 9) (vI 10) else v_M_wrong_124 rec wrec fu (T_M_wrong_2 rec fu n) (WT_M_wrong_2 rec wrec fu n) s (vI 2) (vI 3) (vI 4) (vI 6) (vI 8) (vI 10)
theorem cT_M_wrong_2 {d : Nat} {rec : Nat → St → Int32 → Int32 → Int32 → Int32} {wrec : Nat → St → Int32 → Int32 → Int32 → Prop} (hrec : hr_wrong (d) rec wrec) (fu : Nat) : ∀ n : Nat, hl_M_wrong_2 (d + 1) (T_M_wrong_2 rec fu n) (WT_M_wrong_2 rec wrec fu n)
  | 0 => ⟨fun _ _ _ _ hw => hw.elim, fun _ _ _ _ _ _ _ _ hw => hw.elim, fun _ _ _ _ _ _ _ _ hw => hw.elim, fun _ _ _ _ _ _ _ hw => hw.elim⟩
  | n + 1 => by
    have ih := cT_M_wrong_2 (d := d) hrec fu n
    exact ⟨fun s v2 v3 v4 hw => cb_M_wrong_2 hrec fu ih s v2 v3 v4 hw, fun s v2 v3 v4 v5 v6 v7 v8 hw => cb_M_wrong_39 hrec fu ih s v2 v3 v4 v5 v6 v7 v8 hw, fun s v2 v3 v4 v6 v8 v9 v10 hw => cb_M_wrong_97 hrec fu ih s v2 v3 v4 v6 v8 v9 v10 hw, fun s v2 v3 v4 v6 v8 v10 hw => cb_M_wrong_124 hrec fu ih s v2 v3 v4 v6 v8 v10 hw⟩
def f_M_wrong (rec : Nat → St → Int32 → Int32 → Int32 → Int32) (fu : Nat) (s : St) (a0 : Int32) (a1 : Int32) (a2 : Int32) : Int32 := (T_M_wrong_2 rec fu fu 2 s (jI [(2, a1), (3, a2), (4, a0)]) (jL []) (jR []))
def w_M_wrong (rec : Nat → St → Int32 → Int32 → Int32 → Int32) (wrec : Nat → St → Int32 → Int32 → Int32 → Prop) (fu : Nat) (s : St) (a0 : Int32) (a1 : Int32) (a2 : Int32) : Prop := (WT_M_wrong_2 rec wrec fu fu 2 s (jI [(2, a1), (3, a2), (4, a0)]) (jL []) (jR []))
theorem c_M_wrong {d : Nat} {rec : Nat → St → Int32 → Int32 → Int32 → Int32} {wrec : Nat → St → Int32 → Int32 → Int32 → Prop} (hrec : hr_wrong (d) rec wrec) (fu : Nat) (s : St) (a0 : Int32) (a1 : Int32) (a2 : Int32) (hw : w_M_wrong rec wrec fu s a0 a1 a2) : X m_M_wrong (d + 1) 0 (entL 12 [.inr (.inr (some 21)), .inl a0, .inl a1, .inl a2]) [] (hp s) (qI (hp s) (f_M_wrong rec fu s a0 a1 a2)) := by
  unfold f_M_wrong
  unfold w_M_wrong at hw
  refine X_run 2 (i1 := 2) (L1 := [some (.inr (.inr (some 21))), some (.inl a0), some (.inl a1), some (.inl a2), some (.inl a0), none, none, none, none, none, none, none]) (st1 := []) rfl ?_
  refine X_mask [true, false, true, true, true, true, true, true, true, true, true, true] ?_
  exact (cT_M_wrong_2 hrec fu fu).1 s a1 a2 a0 hw
def F_wrong (fu : Nat) : Nat → Nat → St → Int32 → Int32 → Int32 → Int32
  | 0, _, _, _, _, _ => 0
  | n + 1, t, s, a, b, c => f_M_wrong (F_wrong fu n) fu s a b c
def W_wrong (fu : Nat) : Nat → Nat → St → Int32 → Int32 → Int32 → Prop
  | 0, _, _, _, _, _ => False
  | n + 1, t, s, a, b, c => w_M_wrong (F_wrong fu n) (W_wrong fu n) fu s a b c
theorem cF_wrong (fu : Nat) : ∀ (n d : Nat), hr_wrong (d + n + 1) (F_wrong fu n) (W_wrong fu n)
  | 0, d => fun _ _ _ _ hw => hw.elim
  | n + 1, d => by
    have hrec : hr_wrong (d + 1 + n + 1 - 1 + 0) (F_wrong fu n) (W_wrong fu n) := by
      have h := cF_wrong fu n d
      rw [show d + 1 + n + 1 - 1 + 0 = d + n + 1 by omega]; exact h
    exact (fun s a b c hw => by
      have e : d + (n + 1) + 1 = (d + 1 + n) + 1 := by omega
      rw [e]
      exact c_M_wrong (d := d + 1 + n) hrec fu s a b c hw)
