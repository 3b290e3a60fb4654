def hr_weighs (d : Nat) (rec : Nat → St → Int32 → Int32 → Int32 → Int32 × St) (wrec : Nat → St → Int32 → Int32 → Int32 → Prop) : Prop := (∀ (s : St) (a0 : Int32) (a1 : Int32), wrec 0 s a0 a1 0 → X m_M_weighs d 0 (entL 11 [.inr (.inr (some 21)), .inl a0, .inl a1]) [] (hp s) (qIs (rec 0 s a0 a1 0)))
def t_M_weighs_111 (rec : Nat → St → Int32 → Int32 → Int32 → Int32 × St) (fu : Nat) (s : St) (v6 : Int64) : Int32 × St := ((0 : Int32), pG s 21 29 v6)
def w_M_weighs_111 (rec : Nat → St → Int32 → Int32 → Int32 → Int32 × St) (wrec : Nat → St → Int32 → Int32 → Int32 → Prop) (fu : Nat) (s : St) (v6 : Int64) : Prop := True
theorem ct_M_weighs_111 {d : Nat} {rec : Nat → St → Int32 → Int32 → Int32 → Int32 × St} {wrec : Nat → St → Int32 → Int32 → Int32 → Prop} (hrec : hr_weighs (d + 3) rec wrec) (fu : Nat) (s : St) (v6 : Int64) (hw : w_M_weighs_111 rec wrec fu s v6) : X m_M_weighs (d + 4) 111 [some (.inr (.inr (some 21))), none, none, none, none, none, some (.inr (.inl v6)), none, none, none, none] [] (hp s) (qIs (t_M_weighs_111 rec fu s v6)) := by
  unfold t_M_weighs_111
  unfold w_M_weighs_111 at hw
  refine X_run 2 (i1 := 113) (L1 := [some (.inr (.inr (some 21))), none, none, none, none, none, some (.inr (.inl v6)), none, none, none, none]) (st1 := [.inr (.inl v6), .inr (.inr (some 21))]) rfl ?_
  refine X_pG rfl rfl rfl rfl ?_
  refine X_run 1 (i1 := 115) (L1 := [some (.inr (.inr (some 21))), none, none, none, none, none, some (.inr (.inl v6)), none, none, none, none]) (st1 := [.inl (0 : Int32)]) rfl ?_
  exact X_iret rfl rfl ⟨rfl, rfl⟩
def t_M_weighs_70 (rec : Nat → St → Int32 → Int32 → Int32 → Int32 × St) (fu : Nat) : Nat → St → Int32 → Int64 → Int32 → Int32 → Int32 × St
  | 0, s, _, _, _, _ => (0, s)
  | n + 1, s, v2, v6, v8, v9 => (cond (cn2 .ge v9 (sA s 24 (Int32.toNatClampNeg v8))) (t_M_weighs_111 rec fu s v6) (cond (cn1 .ne (Int64.toInt32 (sB s 26 (Int32.toNatClampNeg ((sA s 23 (Int32.toNatClampNeg v8)) + v9))))) (cond (cn1 .eq ((rec 0 s (Int64.toInt32 (sB s 26 (Int32.toNatClampNeg ((sA s 23 (Int32.toNatClampNeg v8)) + v9)))) (v2 + (1 : Int32)) 0).1)) (t_M_weighs_70 rec fu n ((rec 0 s (Int64.toInt32 (sB s 26 (Int32.toNatClampNeg ((sA s 23 (Int32.toNatClampNeg v8)) + v9)))) (v2 + (1 : Int32)) 0).2) v2 (f_M_added v6 (sG ((rec 0 s (Int64.toInt32 (sB s 26 (Int32.toNatClampNeg ((sA s 23 (Int32.toNatClampNeg v8)) + v9)))) (v2 + (1 : Int32)) 0).2) 21 29)) v8 (v9 + Int32.ofInt (1))) ((rec 0 s (Int64.toInt32 (sB s 26 (Int32.toNatClampNeg ((sA s 23 (Int32.toNatClampNeg v8)) + v9)))) (v2 + (1 : Int32)) 0).1, (rec 0 s (Int64.toInt32 (sB s 26 (Int32.toNatClampNeg ((sA s 23 (Int32.toNatClampNeg v8)) + v9)))) (v2 + (1 : Int32)) 0).2)) ((f_M_fails s (1 : Int32)).1, (f_M_fails s (1 : Int32)).2)))
def w_M_weighs_70 (rec : Nat → St → Int32 → Int32 → Int32 → Int32 × St) (wrec : Nat → St → Int32 → Int32 → Int32 → Prop) (fu : Nat) : Nat → St → Int32 → Int64 → Int32 → Int32 → Prop
  | 0, _, _, _, _, _ => False
  | n + 1, s, v2, v6, v8, v9 => (vp_in v8 40001 ∧ ((cn2 .ge v9 (sA s 24 (Int32.toNatClampNeg v8))) = true → (w_M_weighs_111 rec wrec fu s v6)) ∧ ((cn2 .ge v9 (sA s 24 (Int32.toNatClampNeg v8))) = false → (vp_in v8 40001 ∧ (vp_in ((sA s 23 (Int32.toNatClampNeg v8)) + v9) 40001 ∧ ((cn1 .ne (Int64.toInt32 (sB s 26 (Int32.toNatClampNeg ((sA s 23 (Int32.toNatClampNeg v8)) + v9))))) = true → (wrec 0 s (Int64.toInt32 (sB s 26 (Int32.toNatClampNeg ((sA s 23 (Int32.toNatClampNeg v8)) + v9)))) (v2 + (1 : Int32)) 0 ∧ ((cn1 .eq ((rec 0 s (Int64.toInt32 (sB s 26 (Int32.toNatClampNeg ((sA s 23 (Int32.toNatClampNeg v8)) + v9)))) (v2 + (1 : Int32)) 0).1)) = true → (w_M_weighs_70 rec wrec fu n ((rec 0 s (Int64.toInt32 (sB s 26 (Int32.toNatClampNeg ((sA s 23 (Int32.toNatClampNeg v8)) + v9)))) (v2 + (1 : Int32)) 0).2) v2 (f_M_added v6 (sG ((rec 0 s (Int64.toInt32 (sB s 26 (Int32.toNatClampNeg ((sA s 23 (Int32.toNatClampNeg v8)) + v9)))) (v2 + (1 : Int32)) 0).2) 21 29)) v8 (v9 + Int32.ofInt (1)))) ∧ ((cn1 .eq ((rec 0 s (Int64.toInt32 (sB s 26 (Int32.toNatClampNeg ((sA s 23 (Int32.toNatClampNeg v8)) + v9)))) (v2 + (1 : Int32)) 0).1)) = false → True))) ∧ ((cn1 .ne (Int64.toInt32 (sB s 26 (Int32.toNatClampNeg ((sA s 23 (Int32.toNatClampNeg v8)) + v9))))) = false → (w_M_fails s (1 : Int32) ∧ True))))))
theorem ct_M_weighs_70 {d : Nat} {rec : Nat → St → Int32 → Int32 → Int32 → Int32 × St} {wrec : Nat → St → Int32 → Int32 → Int32 → Prop} (hrec : hr_weighs (d + 3) rec wrec) (fu : Nat) : ∀ (n : Nat) (s : St) (v2 : Int32) (v6 : Int64) (v8 : Int32) (v9 : Int32), w_M_weighs_70 rec wrec fu n s v2 v6 v8 v9 → X m_M_weighs (d + 4) 70 [some (.inr (.inr (some 21))), none, some (.inl v2), none, none, none, some (.inr (.inl v6)), none, some (.inl v8), some (.inl v9), none] [] (hp s) (qIs (t_M_weighs_70 rec fu n s v2 v6 v8 v9))
  | 0, s, v2, v6, v8, v9, hw => hw.elim
  | n + 1, s, v2, v6, v8, v9, hw => by
    have ih := @ct_M_weighs_70 d rec wrec hrec fu n
    unfold t_M_weighs_70
    unfold w_M_weighs_70 at hw
    refine X_run 2 (i1 := 72) (L1 := [some (.inr (.inr (some 21))), none, some (.inl v2), none, none, none, some (.inr (.inl v6)), none, some (.inl v8), some (.inl v9), none]) (st1 := [.inr (.inr (some 21)), .inl v9]) rfl ?_
    refine X_gF (v := .inr (.inr (some 24))) rfl rfl rfl rfl ?_
    refine X_run 1 (i1 := 74) (L1 := [some (.inr (.inr (some 21))), none, some (.inl v2), none, none, none, some (.inr (.inl v6)), none, some (.inl v8), some (.inl v9), none]) (st1 := [.inl v8, .inr (.inr (some 24)), .inl v9]) rfl ?_
    obtain ⟨hin, hw⟩ := hw
    refine X_aI rfl rfl hin ?_
    show X _ _ 75 [some (.inr (.inr (some 21))), none, some (.inl v2), none, none, none, some (.inr (.inl v6)), none, some (.inl v8), some (.inl v9), none] [.inl (sA s 24 (Int32.toNatClampNeg v8)), .inl v9] (hp s) _
    refine X_run 1 (i1 := cond (cn2 .ge v9 (sA s 24 (Int32.toNatClampNeg v8))) 111 76) (L1 := [some (.inr (.inr (some 21))), none, some (.inl v2), none, none, none, some (.inr (.inl v6)), none, some (.inl v8), some (.inl v9), none]) (st1 := []) rfl ?_
    refine X_brq (fun hb => ?_) (fun hb => ?_)
    · have hw := hw.1 hb
      refine X_mask [true, true, false, true, true, true, true, true, false, false, true] ?_
      exact ct_M_weighs_111 hrec fu s v6 hw
    · have hw := hw.2 hb
      refine X_run 1 (i1 := 77) (L1 := [some (.inr (.inr (some 21))), none, some (.inl v2), none, none, none, some (.inr (.inl v6)), none, some (.inl v8), some (.inl v9), none]) (st1 := [.inr (.inr (some 21))]) rfl ?_
      refine X_gF (v := .inr (.inr (some 26))) rfl rfl rfl rfl ?_
      refine X_run 1 (i1 := 79) (L1 := [some (.inr (.inr (some 21))), none, some (.inl v2), none, none, none, some (.inr (.inl v6)), none, some (.inl v8), some (.inl v9), none]) (st1 := [.inr (.inr (some 21)), .inr (.inr (some 26))]) rfl ?_
      refine X_gF (v := .inr (.inr (some 23))) rfl rfl rfl rfl ?_
      refine X_run 1 (i1 := 81) (L1 := [some (.inr (.inr (some 21))), none, some (.inl v2), none, none, none, some (.inr (.inl v6)), none, some (.inl v8), some (.inl v9), none]) (st1 := [.inl v8, .inr (.inr (some 23)), .inr (.inr (some 26))]) rfl ?_
      obtain ⟨hin, hw⟩ := hw
      refine X_aI rfl rfl hin ?_
      show X _ _ 82 [some (.inr (.inr (some 21))), none, some (.inl v2), none, none, none, some (.inr (.inl v6)), none, some (.inl v8), some (.inl v9), none] [.inl (sA s 23 (Int32.toNatClampNeg v8)), .inr (.inr (some 26))] (hp s) _
      refine X_run 2 (i1 := 84) (L1 := [some (.inr (.inr (some 21))), none, some (.inl v2), none, none, none, some (.inr (.inl v6)), none, some (.inl v8), some (.inl v9), none]) (st1 := [.inl ((sA s 23 (Int32.toNatClampNeg v8)) + v9), .inr (.inr (some 26))]) rfl ?_
      obtain ⟨hin, hw⟩ := hw
      refine X_aL rfl rfl hin ?_
      show X _ _ 85 [some (.inr (.inr (some 21))), none, some (.inl v2), none, none, none, some (.inr (.inl v6)), none, some (.inl v8), some (.inl v9), none] [.inr (.inl (sB s 26 (Int32.toNatClampNeg ((sA s 23 (Int32.toNatClampNeg v8)) + v9))))] (hp s) _
      refine X_run 4 (i1 := cond (cn1 .ne (Int64.toInt32 (sB s 26 (Int32.toNatClampNeg ((sA s 23 (Int32.toNatClampNeg v8)) + v9))))) 93 89) (L1 := [some (.inr (.inr (some 21))), none, some (.inl v2), none, none, none, some (.inr (.inl v6)), none, some (.inl v8), some (.inl v9), some (.inl (Int64.toInt32 (sB s 26 (Int32.toNatClampNeg ((sA s 23 (Int32.toNatClampNeg v8)) + v9)))))]) (st1 := []) rfl ?_
      refine X_brq (fun hb => ?_) (fun hb => ?_)
      · have hw := hw.1 hb
        refine X_run 5 (i1 := 98) (L1 := [some (.inr (.inr (some 21))), none, some (.inl v2), none, none, none, some (.inr (.inl v6)), none, some (.inl v8), some (.inl v9), some (.inl (Int64.toInt32 (sB s 26 (Int32.toNatClampNeg ((sA s 23 (Int32.toNatClampNeg v8)) + v9)))))]) (st1 := [.inl (v2 + (1 : Int32)), .inl (Int64.toInt32 (sB s 26 (Int32.toNatClampNeg ((sA s 23 (Int32.toNatClampNeg v8)) + v9)))), .inr (.inr (some 21))]) rfl ?_
        obtain ⟨hc, hw⟩ := hw
        refine X_callv m_M_weighs (As := [.inl (Int64.toInt32 (sB s 26 (Int32.toNatClampNeg ((sA s 23 (Int32.toNatClampNeg v8)) + v9)))), .inl (v2 + (1 : Int32))]) (st := []) ok_M_weighs rfl rfl rfl (hp_obj rfl) rfl (Nat.le_of_ble_eq_true rfl) (Nat.le_of_ble_eq_true rfl) (hrec s (Int64.toInt32 (sB s 26 (Int32.toNatClampNeg ((sA s 23 (Int32.toNatClampNeg v8)) + v9)))) (v2 + (1 : Int32)) hc) ?_
        rintro _ _ ⟨rfl, rfl⟩
        show X _ _ 99 [some (.inr (.inr (some 21))), none, some (.inl v2), none, none, none, some (.inr (.inl v6)), none, some (.inl v8), some (.inl v9), some (.inl (Int64.toInt32 (sB s 26 (Int32.toNatClampNeg ((sA s 23 (Int32.toNatClampNeg v8)) + v9)))))] [.inl ((rec 0 s (Int64.toInt32 (sB s 26 (Int32.toNatClampNeg ((sA s 23 (Int32.toNatClampNeg v8)) + v9)))) (v2 + (1 : Int32)) 0).1)] (hp ((rec 0 s (Int64.toInt32 (sB s 26 (Int32.toNatClampNeg ((sA s 23 (Int32.toNatClampNeg v8)) + v9)))) (v2 + (1 : Int32)) 0).2)) _
        refine X_run 3 (i1 := cond (cn1 .eq ((rec 0 s (Int64.toInt32 (sB s 26 (Int32.toNatClampNeg ((sA s 23 (Int32.toNatClampNeg v8)) + v9)))) (v2 + (1 : Int32)) 0).1)) 104 102) (L1 := [some (.inr (.inr (some 21))), none, some (.inl v2), some (.inl ((rec 0 s (Int64.toInt32 (sB s 26 (Int32.toNatClampNeg ((sA s 23 (Int32.toNatClampNeg v8)) + v9)))) (v2 + (1 : Int32)) 0).1)), none, none, some (.inr (.inl v6)), none, some (.inl v8), some (.inl v9), some (.inl (Int64.toInt32 (sB s 26 (Int32.toNatClampNeg ((sA s 23 (Int32.toNatClampNeg v8)) + v9)))))]) (st1 := []) rfl ?_
        refine X_brq (fun hb => ?_) (fun hb => ?_)
        · have hw := hw.1 hb
          refine X_run 2 (i1 := 106) (L1 := [some (.inr (.inr (some 21))), none, some (.inl v2), some (.inl ((rec 0 s (Int64.toInt32 (sB s 26 (Int32.toNatClampNeg ((sA s 23 (Int32.toNatClampNeg v8)) + v9)))) (v2 + (1 : Int32)) 0).1)), none, none, some (.inr (.inl v6)), none, some (.inl v8), some (.inl v9), some (.inl (Int64.toInt32 (sB s 26 (Int32.toNatClampNeg ((sA s 23 (Int32.toNatClampNeg v8)) + v9)))))]) (st1 := [.inr (.inr (some 21)), .inr (.inl v6)]) rfl ?_
          refine X_gF (v := .inr (.inl (sG ((rec 0 s (Int64.toInt32 (sB s 26 (Int32.toNatClampNeg ((sA s 23 (Int32.toNatClampNeg v8)) + v9)))) (v2 + (1 : Int32)) 0).2) 21 29))) rfl rfl rfl rfl ?_
          refine X_calls m_M_added (As := [.inr (.inl v6), .inr (.inl (sG ((rec 0 s (Int64.toInt32 (sB s 26 (Int32.toNatClampNeg ((sA s 23 (Int32.toNatClampNeg v8)) + v9)))) (v2 + (1 : Int32)) 0).2) 21 29))]) (st := []) ok_M_added rfl rfl rfl (Nat.le_of_ble_eq_true rfl) (Nat.le_of_ble_eq_true rfl) (c_M_added (d := d) v6 (sG ((rec 0 s (Int64.toInt32 (sB s 26 (Int32.toNatClampNeg ((sA s 23 (Int32.toNatClampNeg v8)) + v9)))) (v2 + (1 : Int32)) 0).2) 21 29)) ?_
          rintro _ _ ⟨rfl, rfl⟩
          show X _ _ 108 [some (.inr (.inr (some 21))), none, some (.inl v2), some (.inl ((rec 0 s (Int64.toInt32 (sB s 26 (Int32.toNatClampNeg ((sA s 23 (Int32.toNatClampNeg v8)) + v9)))) (v2 + (1 : Int32)) 0).1)), none, none, some (.inr (.inl v6)), none, some (.inl v8), some (.inl v9), some (.inl (Int64.toInt32 (sB s 26 (Int32.toNatClampNeg ((sA s 23 (Int32.toNatClampNeg v8)) + v9)))))] [.inr (.inl (f_M_added v6 (sG ((rec 0 s (Int64.toInt32 (sB s 26 (Int32.toNatClampNeg ((sA s 23 (Int32.toNatClampNeg v8)) + v9)))) (v2 + (1 : Int32)) 0).2) 21 29)))] (hp ((rec 0 s (Int64.toInt32 (sB s 26 (Int32.toNatClampNeg ((sA s 23 (Int32.toNatClampNeg v8)) + v9)))) (v2 + (1 : Int32)) 0).2)) _
          refine X_run 3 (i1 := 70) (L1 := [some (.inr (.inr (some 21))), none, some (.inl v2), some (.inl ((rec 0 s (Int64.toInt32 (sB s 26 (Int32.toNatClampNeg ((sA s 23 (Int32.toNatClampNeg v8)) + v9)))) (v2 + (1 : Int32)) 0).1)), none, none, some (.inr (.inl (f_M_added v6 (sG ((rec 0 s (Int64.toInt32 (sB s 26 (Int32.toNatClampNeg ((sA s 23 (Int32.toNatClampNeg v8)) + v9)))) (v2 + (1 : Int32)) 0).2) 21 29)))), none, some (.inl v8), some (.inl (v9 + Int32.ofInt (1))), some (.inl (Int64.toInt32 (sB s 26 (Int32.toNatClampNeg ((sA s 23 (Int32.toNatClampNeg v8)) + v9)))))]) (st1 := []) rfl ?_
          refine X_mask [true, true, true, false, true, true, true, true, true, true, false] ?_
          exact ih ((rec 0 s (Int64.toInt32 (sB s 26 (Int32.toNatClampNeg ((sA s 23 (Int32.toNatClampNeg v8)) + v9)))) (v2 + (1 : Int32)) 0).2) v2 (f_M_added v6 (sG ((rec 0 s (Int64.toInt32 (sB s 26 (Int32.toNatClampNeg ((sA s 23 (Int32.toNatClampNeg v8)) + v9)))) (v2 + (1 : Int32)) 0).2) 21 29)) v8 (v9 + Int32.ofInt (1)) hw
        · skip
          refine X_run 1 (i1 := 103) (L1 := [some (.inr (.inr (some 21))), none, some (.inl v2), some (.inl ((rec 0 s (Int64.toInt32 (sB s 26 (Int32.toNatClampNeg ((sA s 23 (Int32.toNatClampNeg v8)) + v9)))) (v2 + (1 : Int32)) 0).1)), none, none, some (.inr (.inl v6)), none, some (.inl v8), some (.inl v9), some (.inl (Int64.toInt32 (sB s 26 (Int32.toNatClampNeg ((sA s 23 (Int32.toNatClampNeg v8)) + v9)))))]) (st1 := [.inl ((rec 0 s (Int64.toInt32 (sB s 26 (Int32.toNatClampNeg ((sA s 23 (Int32.toNatClampNeg v8)) + v9)))) (v2 + (1 : Int32)) 0).1)]) rfl ?_
          exact X_iret rfl rfl ⟨rfl, rfl⟩
      · have hw := hw.2 hb
        refine X_run 2 (i1 := 91) (L1 := [some (.inr (.inr (some 21))), none, some (.inl v2), none, none, none, some (.inr (.inl v6)), none, some (.inl v8), some (.inl v9), some (.inl (Int64.toInt32 (sB s 26 (Int32.toNatClampNeg ((sA s 23 (Int32.toNatClampNeg v8)) + v9)))))]) (st1 := [.inl (1 : Int32), .inr (.inr (some 21))]) rfl ?_
        obtain ⟨hc, hw⟩ := hw
        refine X_callv m_M_fails (As := [.inl (1 : Int32)]) (st := []) ok_M_fails rfl rfl rfl (hp_obj rfl) rfl (Nat.le_of_ble_eq_true rfl) (Nat.le_of_ble_eq_true rfl) (c_M_fails (d := d + 1) s (1 : Int32) hc) ?_
        rintro _ _ ⟨rfl, rfl⟩
        show X _ _ 92 [some (.inr (.inr (some 21))), none, some (.inl v2), none, none, none, some (.inr (.inl v6)), none, some (.inl v8), some (.inl v9), some (.inl (Int64.toInt32 (sB s 26 (Int32.toNatClampNeg ((sA s 23 (Int32.toNatClampNeg v8)) + v9)))))] [.inl ((f_M_fails s (1 : Int32)).1)] (hp ((f_M_fails s (1 : Int32)).2)) _
        exact X_iret rfl rfl ⟨rfl, rfl⟩
def t_M_weighs_51 (rec : Nat → St → Int32 → Int32 → Int32 → Int32 × St) (fu : Nat) (s : St) (v2 : Int32) (v4 : Int32) (v5 : Int32) (v6 : Int64) : Int32 × St := (cond (cn2 .ne v4 (4 : Int32)) (t_M_weighs_111 rec fu s v6) (cond (cn1 .ne (Int64.toInt32 (sB s 26 (Int32.toNatClampNeg (v5 + (3 : Int32)))))) (t_M_weighs_70 rec fu fu s v2 v6 (Int64.toInt32 (sB s 26 (Int32.toNatClampNeg (v5 + (3 : Int32))))) (0 : Int32)) ((f_M_fails s (1 : Int32)).1, (f_M_fails s (1 : Int32)).2)))
def w_M_weighs_51 (rec : Nat → St → Int32 → Int32 → Int32 → Int32 × St) (wrec : Nat → St → Int32 → Int32 → Int32 → Prop) (fu : Nat) (s : St) (v2 : Int32) (v4 : Int32) (v5 : Int32) (v6 : Int64) : Prop := ((cn2 .ne v4 (4 : Int32)) = true → (w_M_weighs_111 rec wrec fu s v6)) ∧ ((cn2 .ne v4 (4 : Int32)) = false → (vp_in (v5 + (3 : Int32)) 40001 ∧ ((cn1 .ne (Int64.toInt32 (sB s 26 (Int32.toNatClampNeg (v5 + (3 : Int32)))))) = true → (w_M_weighs_70 rec wrec fu fu s v2 v6 (Int64.toInt32 (sB s 26 (Int32.toNatClampNeg (v5 + (3 : Int32))))) (0 : Int32))) ∧ ((cn1 .ne (Int64.toInt32 (sB s 26 (Int32.toNatClampNeg (v5 + (3 : Int32)))))) = false → (w_M_fails s (1 : Int32) ∧ True))))
theorem ct_M_weighs_51 {d : Nat} {rec : Nat → St → Int32 → Int32 → Int32 → Int32 × St} {wrec : Nat → St → Int32 → Int32 → Int32 → Prop} (hrec : hr_weighs (d + 3) rec wrec) (fu : Nat) (s : St) (v2 : Int32) (v4 : Int32) (v5 : Int32) (v6 : Int64) (hw : w_M_weighs_51 rec wrec fu s v2 v4 v5 v6) : X m_M_weighs (d + 4) 51 [some (.inr (.inr (some 21))), none, some (.inl v2), none, some (.inl v4), some (.inl v5), some (.inr (.inl v6)), none, none, none, none] [] (hp s) (qIs (t_M_weighs_51 rec fu s v2 v4 v5 v6)) := by
  unfold t_M_weighs_51
  unfold w_M_weighs_51 at hw
  refine X_run 3 (i1 := cond (cn2 .ne v4 (4 : Int32)) 111 54) (L1 := [some (.inr (.inr (some 21))), none, some (.inl v2), none, some (.inl v4), some (.inl v5), some (.inr (.inl v6)), none, none, none, none]) (st1 := []) rfl ?_
  refine X_brq (fun hb => ?_) (fun hb => ?_)
  · have hw := hw.1 hb
    refine X_mask [true, true, false, true, false, false, true, true, true, true, true] ?_
    exact ct_M_weighs_111 hrec fu s v6 hw
  · have hw := hw.2 hb
    refine X_run 1 (i1 := 55) (L1 := [some (.inr (.inr (some 21))), none, some (.inl v2), none, some (.inl v4), some (.inl v5), some (.inr (.inl v6)), none, none, none, none]) (st1 := [.inr (.inr (some 21))]) rfl ?_
    refine X_gF (v := .inr (.inr (some 26))) rfl rfl rfl rfl ?_
    refine X_run 3 (i1 := 59) (L1 := [some (.inr (.inr (some 21))), none, some (.inl v2), none, some (.inl v4), some (.inl v5), some (.inr (.inl v6)), none, none, none, none]) (st1 := [.inl (v5 + (3 : Int32)), .inr (.inr (some 26))]) rfl ?_
    obtain ⟨hin, hw⟩ := hw
    refine X_aL rfl rfl hin ?_
    show X _ _ 60 [some (.inr (.inr (some 21))), none, some (.inl v2), none, some (.inl v4), some (.inl v5), some (.inr (.inl v6)), none, none, none, none] [.inr (.inl (sB s 26 (Int32.toNatClampNeg (v5 + (3 : Int32)))))] (hp s) _
    refine X_run 4 (i1 := cond (cn1 .ne (Int64.toInt32 (sB s 26 (Int32.toNatClampNeg (v5 + (3 : Int32)))))) 68 64) (L1 := [some (.inr (.inr (some 21))), none, some (.inl v2), none, some (.inl v4), some (.inl v5), some (.inr (.inl v6)), none, some (.inl (Int64.toInt32 (sB s 26 (Int32.toNatClampNeg (v5 + (3 : Int32)))))), none, none]) (st1 := []) rfl ?_
    refine X_brq (fun hb => ?_) (fun hb => ?_)
    · have hw := hw.1 hb
      refine X_run 2 (i1 := 70) (L1 := [some (.inr (.inr (some 21))), none, some (.inl v2), none, some (.inl v4), some (.inl v5), some (.inr (.inl v6)), none, some (.inl (Int64.toInt32 (sB s 26 (Int32.toNatClampNeg (v5 + (3 : Int32)))))), some (.inl (0 : Int32)), none]) (st1 := []) rfl ?_
      refine X_mask [true, true, true, true, false, false, true, true, true, true, true] ?_
      exact ct_M_weighs_70 hrec fu fu s v2 v6 (Int64.toInt32 (sB s 26 (Int32.toNatClampNeg (v5 + (3 : Int32))))) (0 : Int32) hw
    · have hw := hw.2 hb
      refine X_run 2 (i1 := 66) (L1 := [some (.inr (.inr (some 21))), none, some (.inl v2), none, some (.inl v4), some (.inl v5), some (.inr (.inl v6)), none, some (.inl (Int64.toInt32 (sB s 26 (Int32.toNatClampNeg (v5 + (3 : Int32)))))), none, none]) (st1 := [.inl (1 : Int32), .inr (.inr (some 21))]) rfl ?_
      obtain ⟨hc, hw⟩ := hw
      refine X_callv m_M_fails (As := [.inl (1 : Int32)]) (st := []) ok_M_fails rfl rfl rfl (hp_obj rfl) rfl (Nat.le_of_ble_eq_true rfl) (Nat.le_of_ble_eq_true rfl) (c_M_fails (d := d + 1) s (1 : Int32) hc) ?_
      rintro _ _ ⟨rfl, rfl⟩
      show X _ _ 67 [some (.inr (.inr (some 21))), none, some (.inl v2), none, some (.inl v4), some (.inl v5), some (.inr (.inl v6)), none, some (.inl (Int64.toInt32 (sB s 26 (Int32.toNatClampNeg (v5 + (3 : Int32)))))), none, none] [.inl ((f_M_fails s (1 : Int32)).1)] (hp ((f_M_fails s (1 : Int32)).2)) _
      exact X_iret rfl rfl ⟨rfl, rfl⟩
def t_M_weighs_10 (rec : Nat → St → Int32 → Int32 → Int32 → Int32 × St) (fu : Nat) (s : St) (v1 : Int32) (v2 : Int32) (w0 : Int32) : Int32 × St := (cond (cn1 .eq w0) (cond (cn2 .ne ((sA s 22 (Int32.toNatClampNeg v1)) - (11 : Int32)) (2 : Int32)) (t_M_weighs_51 rec fu s v2 ((sA s 22 (Int32.toNatClampNeg v1)) - (11 : Int32)) (sA s 23 (Int32.toNatClampNeg v1)) (sB s 26 (Int32.toNatClampNeg ((sA s 23 (Int32.toNatClampNeg v1)) + (1 : Int32))))) (t_M_weighs_51 rec fu s v2 ((sA s 22 (Int32.toNatClampNeg v1)) - (11 : Int32)) (sA s 23 (Int32.toNatClampNeg v1)) (f_M_added (sB s 26 (Int32.toNatClampNeg ((sA s 23 (Int32.toNatClampNeg v1)) + (1 : Int32)))) (f_M_times (f_M_by (f_M_realOf (1 : Int64)) (f_M_realOf (4 : Int64))) (f_M_realOf (sB s 26 (Int32.toNatClampNeg (sA s 23 (Int32.toNatClampNeg v1))))))))) (w0, s))
def w_M_weighs_10 (rec : Nat → St → Int32 → Int32 → Int32 → Int32 × St) (wrec : Nat → St → Int32 → Int32 → Int32 → Prop) (fu : Nat) (s : St) (v1 : Int32) (v2 : Int32) (w0 : Int32) : Prop := ((cn1 .eq w0) = true → (vp_in v1 40001 ∧ (vp_in v1 40001 ∧ (vp_in ((sA s 23 (Int32.toNatClampNeg v1)) + (1 : Int32)) 40001 ∧ ((cn2 .ne ((sA s 22 (Int32.toNatClampNeg v1)) - (11 : Int32)) (2 : Int32)) = true → (w_M_weighs_51 rec wrec fu s v2 ((sA s 22 (Int32.toNatClampNeg v1)) - (11 : Int32)) (sA s 23 (Int32.toNatClampNeg v1)) (sB s 26 (Int32.toNatClampNeg ((sA s 23 (Int32.toNatClampNeg v1)) + (1 : Int32)))))) ∧ ((cn2 .ne ((sA s 22 (Int32.toNatClampNeg v1)) - (11 : Int32)) (2 : Int32)) = false → (vp_in (sA s 23 (Int32.toNatClampNeg v1)) 40001 ∧ (w_M_weighs_51 rec wrec fu s v2 ((sA s 22 (Int32.toNatClampNeg v1)) - (11 : Int32)) (sA s 23 (Int32.toNatClampNeg v1)) (f_M_added (sB s 26 (Int32.toNatClampNeg ((sA s 23 (Int32.toNatClampNeg v1)) + (1 : Int32)))) (f_M_times (f_M_by (f_M_realOf (1 : Int64)) (f_M_realOf (4 : Int64))) (f_M_realOf (sB s 26 (Int32.toNatClampNeg (sA s 23 (Int32.toNatClampNeg v1)))))))))))))) ∧ ((cn1 .eq w0) = false → True)
theorem ct_M_weighs_10 {d : Nat} {rec : Nat → St → Int32 → Int32 → Int32 → Int32 × St} {wrec : Nat → St → Int32 → Int32 → Int32 → Prop} (hrec : hr_weighs (d + 3) rec wrec) (fu : Nat) (s : St) (v1 : Int32) (v2 : Int32) (w0 : Int32) (hw : w_M_weighs_10 rec wrec fu s v1 v2 w0) : X m_M_weighs (d + 4) 10 [some (.inr (.inr (some 21))), some (.inl v1), some (.inl v2), none, none, none, none, none, none, none, none] [.inl w0] (hp s) (qIs (t_M_weighs_10 rec fu s v1 v2 w0)) := by
  unfold t_M_weighs_10
  unfold w_M_weighs_10 at hw
  refine X_run 3 (i1 := cond (cn1 .eq w0) 15 13) (L1 := [some (.inr (.inr (some 21))), some (.inl v1), some (.inl v2), some (.inl w0), none, none, none, none, none, none, none]) (st1 := []) rfl ?_
  refine X_brq (fun hb => ?_) (fun hb => ?_)
  · have hw := hw.1 hb
    refine X_run 1 (i1 := 16) (L1 := [some (.inr (.inr (some 21))), some (.inl v1), some (.inl v2), some (.inl w0), none, none, none, none, none, none, none]) (st1 := [.inr (.inr (some 21))]) rfl ?_
    refine X_gF (v := .inr (.inr (some 22))) rfl rfl rfl rfl ?_
    refine X_run 1 (i1 := 18) (L1 := [some (.inr (.inr (some 21))), some (.inl v1), some (.inl v2), some (.inl w0), none, none, none, none, none, none, none]) (st1 := [.inl v1, .inr (.inr (some 22))]) rfl ?_
    obtain ⟨hin, hw⟩ := hw
    refine X_aI rfl rfl hin ?_
    show X _ _ 19 [some (.inr (.inr (some 21))), some (.inl v1), some (.inl v2), some (.inl w0), none, none, none, none, none, none, none] [.inl (sA s 22 (Int32.toNatClampNeg v1))] (hp s) _
    refine X_run 4 (i1 := 23) (L1 := [some (.inr (.inr (some 21))), some (.inl v1), some (.inl v2), some (.inl w0), some (.inl ((sA s 22 (Int32.toNatClampNeg v1)) - (11 : Int32))), none, none, none, none, none, none]) (st1 := [.inr (.inr (some 21))]) rfl ?_
    refine X_gF (v := .inr (.inr (some 23))) rfl rfl rfl rfl ?_
    refine X_run 1 (i1 := 25) (L1 := [some (.inr (.inr (some 21))), some (.inl v1), some (.inl v2), some (.inl w0), some (.inl ((sA s 22 (Int32.toNatClampNeg v1)) - (11 : Int32))), none, none, none, none, none, none]) (st1 := [.inl v1, .inr (.inr (some 23))]) rfl ?_
    obtain ⟨hin, hw⟩ := hw
    refine X_aI rfl rfl hin ?_
    show X _ _ 26 [some (.inr (.inr (some 21))), some (.inl v1), some (.inl v2), some (.inl w0), some (.inl ((sA s 22 (Int32.toNatClampNeg v1)) - (11 : Int32))), none, none, none, none, none, none] [.inl (sA s 23 (Int32.toNatClampNeg v1))] (hp s) _
    refine X_run 2 (i1 := 28) (L1 := [some (.inr (.inr (some 21))), some (.inl v1), some (.inl v2), some (.inl w0), some (.inl ((sA s 22 (Int32.toNatClampNeg v1)) - (11 : Int32))), some (.inl (sA s 23 (Int32.toNatClampNeg v1))), none, none, none, none, none]) (st1 := [.inr (.inr (some 21))]) rfl ?_
    refine X_gF (v := .inr (.inr (some 26))) rfl rfl rfl rfl ?_
    refine X_run 3 (i1 := 32) (L1 := [some (.inr (.inr (some 21))), some (.inl v1), some (.inl v2), some (.inl w0), some (.inl ((sA s 22 (Int32.toNatClampNeg v1)) - (11 : Int32))), some (.inl (sA s 23 (Int32.toNatClampNeg v1))), none, none, none, none, none]) (st1 := [.inl ((sA s 23 (Int32.toNatClampNeg v1)) + (1 : Int32)), .inr (.inr (some 26))]) rfl ?_
    obtain ⟨hin, hw⟩ := hw
    refine X_aL rfl rfl hin ?_
    show X _ _ 33 [some (.inr (.inr (some 21))), some (.inl v1), some (.inl v2), some (.inl w0), some (.inl ((sA s 22 (Int32.toNatClampNeg v1)) - (11 : Int32))), some (.inl (sA s 23 (Int32.toNatClampNeg v1))), none, none, none, none, none] [.inr (.inl (sB s 26 (Int32.toNatClampNeg ((sA s 23 (Int32.toNatClampNeg v1)) + (1 : Int32)))))] (hp s) _
    refine X_run 4 (i1 := cond (cn2 .ne ((sA s 22 (Int32.toNatClampNeg v1)) - (11 : Int32)) (2 : Int32)) 51 37) (L1 := [some (.inr (.inr (some 21))), some (.inl v1), some (.inl v2), some (.inl w0), some (.inl ((sA s 22 (Int32.toNatClampNeg v1)) - (11 : Int32))), some (.inl (sA s 23 (Int32.toNatClampNeg v1))), some (.inr (.inl (sB s 26 (Int32.toNatClampNeg ((sA s 23 (Int32.toNatClampNeg v1)) + (1 : Int32)))))), none, none, none, none]) (st1 := []) rfl ?_
    refine X_brq (fun hb => ?_) (fun hb => ?_)
    · have hw := hw.1 hb
      refine X_mask [true, false, true, false, true, true, true, true, true, true, true] ?_
      exact ct_M_weighs_51 hrec fu s v2 ((sA s 22 (Int32.toNatClampNeg v1)) - (11 : Int32)) (sA s 23 (Int32.toNatClampNeg v1)) (sB s 26 (Int32.toNatClampNeg ((sA s 23 (Int32.toNatClampNeg v1)) + (1 : Int32)))) hw
    · have hw := hw.2 hb
      refine X_run 2 (i1 := 39) (L1 := [some (.inr (.inr (some 21))), some (.inl v1), some (.inl v2), some (.inl w0), some (.inl ((sA s 22 (Int32.toNatClampNeg v1)) - (11 : Int32))), some (.inl (sA s 23 (Int32.toNatClampNeg v1))), some (.inr (.inl (sB s 26 (Int32.toNatClampNeg ((sA s 23 (Int32.toNatClampNeg v1)) + (1 : Int32)))))), none, none, none, none]) (st1 := [.inr (.inl (1 : Int64)), .inr (.inl (sB s 26 (Int32.toNatClampNeg ((sA s 23 (Int32.toNatClampNeg v1)) + (1 : Int32)))))]) rfl ?_
      refine X_calls m_M_realOf (As := [.inr (.inl (1 : Int64))]) (st := [.inr (.inl (sB s 26 (Int32.toNatClampNeg ((sA s 23 (Int32.toNatClampNeg v1)) + (1 : Int32)))))]) ok_M_realOf rfl rfl rfl (Nat.le_of_ble_eq_true rfl) (Nat.le_of_ble_eq_true rfl) (c_M_realOf (d := d) (1 : Int64)) ?_
      rintro _ _ ⟨rfl, rfl⟩
      show X _ _ 40 [some (.inr (.inr (some 21))), some (.inl v1), some (.inl v2), some (.inl w0), some (.inl ((sA s 22 (Int32.toNatClampNeg v1)) - (11 : Int32))), some (.inl (sA s 23 (Int32.toNatClampNeg v1))), some (.inr (.inl (sB s 26 (Int32.toNatClampNeg ((sA s 23 (Int32.toNatClampNeg v1)) + (1 : Int32)))))), none, none, none, none] [.inr (.inl (f_M_realOf (1 : Int64))), .inr (.inl (sB s 26 (Int32.toNatClampNeg ((sA s 23 (Int32.toNatClampNeg v1)) + (1 : Int32)))))] (hp s) _
      refine X_run 1 (i1 := 41) (L1 := [some (.inr (.inr (some 21))), some (.inl v1), some (.inl v2), some (.inl w0), some (.inl ((sA s 22 (Int32.toNatClampNeg v1)) - (11 : Int32))), some (.inl (sA s 23 (Int32.toNatClampNeg v1))), some (.inr (.inl (sB s 26 (Int32.toNatClampNeg ((sA s 23 (Int32.toNatClampNeg v1)) + (1 : Int32)))))), none, none, none, none]) (st1 := [.inr (.inl (4 : Int64)), .inr (.inl (f_M_realOf (1 : Int64))), .inr (.inl (sB s 26 (Int32.toNatClampNeg ((sA s 23 (Int32.toNatClampNeg v1)) + (1 : Int32)))))]) rfl ?_
      refine X_calls m_M_realOf (As := [.inr (.inl (4 : Int64))]) (st := [.inr (.inl (f_M_realOf (1 : Int64))), .inr (.inl (sB s 26 (Int32.toNatClampNeg ((sA s 23 (Int32.toNatClampNeg v1)) + (1 : Int32)))))]) ok_M_realOf rfl rfl rfl (Nat.le_of_ble_eq_true rfl) (Nat.le_of_ble_eq_true rfl) (c_M_realOf (d := d) (4 : Int64)) ?_
      rintro _ _ ⟨rfl, rfl⟩
      show X _ _ 42 [some (.inr (.inr (some 21))), some (.inl v1), some (.inl v2), some (.inl w0), some (.inl ((sA s 22 (Int32.toNatClampNeg v1)) - (11 : Int32))), some (.inl (sA s 23 (Int32.toNatClampNeg v1))), some (.inr (.inl (sB s 26 (Int32.toNatClampNeg ((sA s 23 (Int32.toNatClampNeg v1)) + (1 : Int32)))))), none, none, none, none] [.inr (.inl (f_M_realOf (4 : Int64))), .inr (.inl (f_M_realOf (1 : Int64))), .inr (.inl (sB s 26 (Int32.toNatClampNeg ((sA s 23 (Int32.toNatClampNeg v1)) + (1 : Int32)))))] (hp s) _
      refine X_calls m_M_by (As := [.inr (.inl (f_M_realOf (1 : Int64))), .inr (.inl (f_M_realOf (4 : Int64)))]) (st := [.inr (.inl (sB s 26 (Int32.toNatClampNeg ((sA s 23 (Int32.toNatClampNeg v1)) + (1 : Int32)))))]) ok_M_by rfl rfl rfl (Nat.le_of_ble_eq_true rfl) (Nat.le_of_ble_eq_true rfl) (c_M_by (d := d) (f_M_realOf (1 : Int64)) (f_M_realOf (4 : Int64))) ?_
      rintro _ _ ⟨rfl, rfl⟩
      show X _ _ 43 [some (.inr (.inr (some 21))), some (.inl v1), some (.inl v2), some (.inl w0), some (.inl ((sA s 22 (Int32.toNatClampNeg v1)) - (11 : Int32))), some (.inl (sA s 23 (Int32.toNatClampNeg v1))), some (.inr (.inl (sB s 26 (Int32.toNatClampNeg ((sA s 23 (Int32.toNatClampNeg v1)) + (1 : Int32)))))), none, none, none, none] [.inr (.inl (f_M_by (f_M_realOf (1 : Int64)) (f_M_realOf (4 : Int64)))), .inr (.inl (sB s 26 (Int32.toNatClampNeg ((sA s 23 (Int32.toNatClampNeg v1)) + (1 : Int32)))))] (hp s) _
      refine X_run 1 (i1 := 44) (L1 := [some (.inr (.inr (some 21))), some (.inl v1), some (.inl v2), some (.inl w0), some (.inl ((sA s 22 (Int32.toNatClampNeg v1)) - (11 : Int32))), some (.inl (sA s 23 (Int32.toNatClampNeg v1))), some (.inr (.inl (sB s 26 (Int32.toNatClampNeg ((sA s 23 (Int32.toNatClampNeg v1)) + (1 : Int32)))))), none, none, none, none]) (st1 := [.inr (.inr (some 21)), .inr (.inl (f_M_by (f_M_realOf (1 : Int64)) (f_M_realOf (4 : Int64)))), .inr (.inl (sB s 26 (Int32.toNatClampNeg ((sA s 23 (Int32.toNatClampNeg v1)) + (1 : Int32)))))]) rfl ?_
      refine X_gF (v := .inr (.inr (some 26))) rfl rfl rfl rfl ?_
      refine X_run 1 (i1 := 46) (L1 := [some (.inr (.inr (some 21))), some (.inl v1), some (.inl v2), some (.inl w0), some (.inl ((sA s 22 (Int32.toNatClampNeg v1)) - (11 : Int32))), some (.inl (sA s 23 (Int32.toNatClampNeg v1))), some (.inr (.inl (sB s 26 (Int32.toNatClampNeg ((sA s 23 (Int32.toNatClampNeg v1)) + (1 : Int32)))))), none, none, none, none]) (st1 := [.inl (sA s 23 (Int32.toNatClampNeg v1)), .inr (.inr (some 26)), .inr (.inl (f_M_by (f_M_realOf (1 : Int64)) (f_M_realOf (4 : Int64)))), .inr (.inl (sB s 26 (Int32.toNatClampNeg ((sA s 23 (Int32.toNatClampNeg v1)) + (1 : Int32)))))]) rfl ?_
      obtain ⟨hin, hw⟩ := hw
      refine X_aL rfl rfl hin ?_
      show X _ _ 47 [some (.inr (.inr (some 21))), some (.inl v1), some (.inl v2), some (.inl w0), some (.inl ((sA s 22 (Int32.toNatClampNeg v1)) - (11 : Int32))), some (.inl (sA s 23 (Int32.toNatClampNeg v1))), some (.inr (.inl (sB s 26 (Int32.toNatClampNeg ((sA s 23 (Int32.toNatClampNeg v1)) + (1 : Int32)))))), none, none, none, none] [.inr (.inl (sB s 26 (Int32.toNatClampNeg (sA s 23 (Int32.toNatClampNeg v1))))), .inr (.inl (f_M_by (f_M_realOf (1 : Int64)) (f_M_realOf (4 : Int64)))), .inr (.inl (sB s 26 (Int32.toNatClampNeg ((sA s 23 (Int32.toNatClampNeg v1)) + (1 : Int32)))))] (hp s) _
      refine X_calls m_M_realOf (As := [.inr (.inl (sB s 26 (Int32.toNatClampNeg (sA s 23 (Int32.toNatClampNeg v1)))))]) (st := [.inr (.inl (f_M_by (f_M_realOf (1 : Int64)) (f_M_realOf (4 : Int64)))), .inr (.inl (sB s 26 (Int32.toNatClampNeg ((sA s 23 (Int32.toNatClampNeg v1)) + (1 : Int32)))))]) ok_M_realOf rfl rfl rfl (Nat.le_of_ble_eq_true rfl) (Nat.le_of_ble_eq_true rfl) (c_M_realOf (d := d) (sB s 26 (Int32.toNatClampNeg (sA s 23 (Int32.toNatClampNeg v1))))) ?_
      rintro _ _ ⟨rfl, rfl⟩
      show X _ _ 48 [some (.inr (.inr (some 21))), some (.inl v1), some (.inl v2), some (.inl w0), some (.inl ((sA s 22 (Int32.toNatClampNeg v1)) - (11 : Int32))), some (.inl (sA s 23 (Int32.toNatClampNeg v1))), some (.inr (.inl (sB s 26 (Int32.toNatClampNeg ((sA s 23 (Int32.toNatClampNeg v1)) + (1 : Int32)))))), none, none, none, none] [.inr (.inl (f_M_realOf (sB s 26 (Int32.toNatClampNeg (sA s 23 (Int32.toNatClampNeg v1)))))), .inr (.inl (f_M_by (f_M_realOf (1 : Int64)) (f_M_realOf (4 : Int64)))), .inr (.inl (sB s 26 (Int32.toNatClampNeg ((sA s 23 (Int32.toNatClampNeg v1)) + (1 : Int32)))))] (hp s) _
      refine X_calls m_M_times (As := [.inr (.inl (f_M_by (f_M_realOf (1 : Int64)) (f_M_realOf (4 : Int64)))), .inr (.inl (f_M_realOf (sB s 26 (Int32.toNatClampNeg (sA s 23 (Int32.toNatClampNeg v1))))))]) (st := [.inr (.inl (sB s 26 (Int32.toNatClampNeg ((sA s 23 (Int32.toNatClampNeg v1)) + (1 : Int32)))))]) ok_M_times rfl rfl rfl (Nat.le_of_ble_eq_true rfl) (Nat.le_of_ble_eq_true rfl) (c_M_times (d := d) (f_M_by (f_M_realOf (1 : Int64)) (f_M_realOf (4 : Int64))) (f_M_realOf (sB s 26 (Int32.toNatClampNeg (sA s 23 (Int32.toNatClampNeg v1)))))) ?_
      rintro _ _ ⟨rfl, rfl⟩
      show X _ _ 49 [some (.inr (.inr (some 21))), some (.inl v1), some (.inl v2), some (.inl w0), some (.inl ((sA s 22 (Int32.toNatClampNeg v1)) - (11 : Int32))), some (.inl (sA s 23 (Int32.toNatClampNeg v1))), some (.inr (.inl (sB s 26 (Int32.toNatClampNeg ((sA s 23 (Int32.toNatClampNeg v1)) + (1 : Int32)))))), none, none, none, none] [.inr (.inl (f_M_times (f_M_by (f_M_realOf (1 : Int64)) (f_M_realOf (4 : Int64))) (f_M_realOf (sB s 26 (Int32.toNatClampNeg (sA s 23 (Int32.toNatClampNeg v1))))))), .inr (.inl (sB s 26 (Int32.toNatClampNeg ((sA s 23 (Int32.toNatClampNeg v1)) + (1 : Int32)))))] (hp s) _
      refine X_calls m_M_added (As := [.inr (.inl (sB s 26 (Int32.toNatClampNeg ((sA s 23 (Int32.toNatClampNeg v1)) + (1 : Int32))))), .inr (.inl (f_M_times (f_M_by (f_M_realOf (1 : Int64)) (f_M_realOf (4 : Int64))) (f_M_realOf (sB s 26 (Int32.toNatClampNeg (sA s 23 (Int32.toNatClampNeg v1)))))))]) (st := []) ok_M_added rfl rfl rfl (Nat.le_of_ble_eq_true rfl) (Nat.le_of_ble_eq_true rfl) (c_M_added (d := d) (sB s 26 (Int32.toNatClampNeg ((sA s 23 (Int32.toNatClampNeg v1)) + (1 : Int32)))) (f_M_times (f_M_by (f_M_realOf (1 : Int64)) (f_M_realOf (4 : Int64))) (f_M_realOf (sB s 26 (Int32.toNatClampNeg (sA s 23 (Int32.toNatClampNeg v1))))))) ?_
      rintro _ _ ⟨rfl, rfl⟩
      show X _ _ 50 [some (.inr (.inr (some 21))), some (.inl v1), some (.inl v2), some (.inl w0), some (.inl ((sA s 22 (Int32.toNatClampNeg v1)) - (11 : Int32))), some (.inl (sA s 23 (Int32.toNatClampNeg v1))), some (.inr (.inl (sB s 26 (Int32.toNatClampNeg ((sA s 23 (Int32.toNatClampNeg v1)) + (1 : Int32)))))), none, none, none, none] [.inr (.inl (f_M_added (sB s 26 (Int32.toNatClampNeg ((sA s 23 (Int32.toNatClampNeg v1)) + (1 : Int32)))) (f_M_times (f_M_by (f_M_realOf (1 : Int64)) (f_M_realOf (4 : Int64))) (f_M_realOf (sB s 26 (Int32.toNatClampNeg (sA s 23 (Int32.toNatClampNeg v1))))))))] (hp s) _
      refine X_run 1 (i1 := 51) (L1 := [some (.inr (.inr (some 21))), some (.inl v1), some (.inl v2), some (.inl w0), some (.inl ((sA s 22 (Int32.toNatClampNeg v1)) - (11 : Int32))), some (.inl (sA s 23 (Int32.toNatClampNeg v1))), some (.inr (.inl (f_M_added (sB s 26 (Int32.toNatClampNeg ((sA s 23 (Int32.toNatClampNeg v1)) + (1 : Int32)))) (f_M_times (f_M_by (f_M_realOf (1 : Int64)) (f_M_realOf (4 : Int64))) (f_M_realOf (sB s 26 (Int32.toNatClampNeg (sA s 23 (Int32.toNatClampNeg v1))))))))), none, none, none, none]) (st1 := []) rfl ?_
      refine X_mask [true, false, true, false, true, true, true, true, true, true, true] ?_
      exact ct_M_weighs_51 hrec fu s v2 ((sA s 22 (Int32.toNatClampNeg v1)) - (11 : Int32)) (sA s 23 (Int32.toNatClampNeg v1)) (f_M_added (sB s 26 (Int32.toNatClampNeg ((sA s 23 (Int32.toNatClampNeg v1)) + (1 : Int32)))) (f_M_times (f_M_by (f_M_realOf (1 : Int64)) (f_M_realOf (4 : Int64))) (f_M_realOf (sB s 26 (Int32.toNatClampNeg (sA s 23 (Int32.toNatClampNeg v1))))))) hw
  · skip
    refine X_run 1 (i1 := 14) (L1 := [some (.inr (.inr (some 21))), some (.inl v1), some (.inl v2), some (.inl w0), none, none, none, none, none, none, none]) (st1 := [.inl w0]) rfl ?_
    exact X_iret rfl rfl ⟨rfl, rfl⟩
def f_M_weighs (rec : Nat → St → Int32 → Int32 → Int32 → Int32 × St) (fu : Nat) (s : St) (a0 : Int32) (a1 : Int32) : Int32 × St := (cond (cn2 .le a1 (30 : Int32)) (t_M_weighs_10 rec fu ((f_M_takes s (1 : Int64)).2) a0 a1 ((f_M_takes s (1 : Int64)).1)) ((f_M_fails s (8 : Int32)).1, (f_M_fails s (8 : Int32)).2))
def w_M_weighs (rec : Nat → St → Int32 → Int32 → Int32 → Int32 × St) (wrec : Nat → St → Int32 → Int32 → Int32 → Prop) (fu : Nat) (s : St) (a0 : Int32) (a1 : Int32) : Prop := ((cn2 .le a1 (30 : Int32)) = true → (w_M_takes s (1 : Int64) ∧ (w_M_weighs_10 rec wrec fu ((f_M_takes s (1 : Int64)).2) a0 a1 ((f_M_takes s (1 : Int64)).1)))) ∧ ((cn2 .le a1 (30 : Int32)) = false → (w_M_fails s (8 : Int32) ∧ True))
theorem c_M_weighs {d : Nat} {rec : Nat → St → Int32 → Int32 → Int32 → Int32 × St} {wrec : Nat → St → Int32 → Int32 → Int32 → Prop} (hrec : hr_weighs (d + 3) rec wrec) (fu : Nat) (s : St) (a0 : Int32) (a1 : Int32) (hw : w_M_weighs rec wrec fu s a0 a1) : X m_M_weighs (d + 4) 0 (entL 11 [.inr (.inr (some 21)), .inl a0, .inl a1]) [] (hp s) (qIs (f_M_weighs rec fu s a0 a1)) := by
  unfold f_M_weighs
  unfold w_M_weighs at hw
  refine X_run 3 (i1 := cond (cn2 .le a1 (30 : Int32)) 7 3) (L1 := [some (.inr (.inr (some 21))), some (.inl a0), some (.inl a1), none, none, none, none, none, none, none, none]) (st1 := []) rfl ?_
  refine X_brq (fun hb => ?_) (fun hb => ?_)
  · have hw := hw.1 hb
    refine X_run 2 (i1 := 9) (L1 := [some (.inr (.inr (some 21))), some (.inl a0), some (.inl a1), none, none, none, none, none, none, none, none]) (st1 := [.inr (.inl (1 : Int64)), .inr (.inr (some 21))]) rfl ?_
    obtain ⟨hc, hw⟩ := hw
    refine X_callv m_M_takes (As := [.inr (.inl (1 : Int64))]) (st := []) ok_M_takes rfl rfl rfl (hp_obj rfl) rfl (Nat.le_of_ble_eq_true rfl) (Nat.le_of_ble_eq_true rfl) (c_M_takes (d := d + 3) s (1 : Int64) hc) ?_
    rintro _ _ ⟨rfl, rfl⟩
    show X _ _ 10 [some (.inr (.inr (some 21))), some (.inl a0), some (.inl a1), none, none, none, none, none, none, none, none] [.inl ((f_M_takes s (1 : Int64)).1)] (hp ((f_M_takes s (1 : Int64)).2)) _
    show X _ _ 10 [some (.inr (.inr (some 21))), some (.inl a0), some (.inl a1), none, none, none, none, none, none, none, none] [.inl ((f_M_takes s (1 : Int64)).1)] (hp ((f_M_takes s (1 : Int64)).2)) _
    exact ct_M_weighs_10 hrec fu ((f_M_takes s (1 : Int64)).2) a0 a1 ((f_M_takes s (1 : Int64)).1) hw
  · have hw := hw.2 hb
    refine X_run 2 (i1 := 5) (L1 := [some (.inr (.inr (some 21))), some (.inl a0), some (.inl a1), none, none, none, none, none, none, none, none]) (st1 := [.inl (8 : Int32), .inr (.inr (some 21))]) rfl ?_
    obtain ⟨hc, hw⟩ := hw
    refine X_callv m_M_fails (As := [.inl (8 : Int32)]) (st := []) ok_M_fails rfl rfl rfl (hp_obj rfl) rfl (Nat.le_of_ble_eq_true rfl) (Nat.le_of_ble_eq_true rfl) (c_M_fails (d := d + 1) s (8 : Int32) hc) ?_
    rintro _ _ ⟨rfl, rfl⟩
    show X _ _ 6 [some (.inr (.inr (some 21))), some (.inl a0), some (.inl a1), none, none, none, none, none, none, none, none] [.inl ((f_M_fails s (8 : Int32)).1)] (hp ((f_M_fails s (8 : Int32)).2)) _
    exact X_iret rfl rfl ⟨rfl, rfl⟩
def F_weighs (fu : Nat) : Nat → Nat → St → Int32 → Int32 → Int32 → Int32 × St
  | 0, _, s, _, _, _ => (0, s)
  | n + 1, t, s, a, b, c => f_M_weighs (F_weighs fu n) fu s a b
def W_weighs (fu : Nat) : Nat → Nat → St → Int32 → Int32 → Int32 → Prop
  | 0, _, _, _, _, _ => False
  | n + 1, t, s, a, b, c => w_M_weighs (F_weighs fu n) (W_weighs fu n) fu s a b
theorem cF_weighs (fu : Nat) : ∀ (n d : Nat), hr_weighs (d + n + 4) (F_weighs fu n) (W_weighs fu n)
  | 0, d => fun _ _ _ hw => hw.elim
  | n + 1, d => by
    have hrec : hr_weighs (d + 1 + n + 4 - 1 + 0) (F_weighs fu n) (W_weighs fu n) := by
      have h := cF_weighs fu n d
      rw [show d + 1 + n + 4 - 1 + 0 = d + n + 4 by omega]; exact h
    exact (fun s a b hw => by
      have e : d + (n + 1) + 4 = (d + 1 + n) + 4 := by omega
      rw [e]
      exact c_M_weighs (d := d + 1 + n) hrec fu s a b hw)
