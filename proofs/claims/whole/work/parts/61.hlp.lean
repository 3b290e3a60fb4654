/-! the law's helpers -/
def q_hlp (s : St) (th : Bool) (v : Int64) : Option AV → AP → Prop := fun r P1 => (th = false ∧ r = some (.inl 0) ∧ P1 = hp (pB s 36 (vp_updL (sB s 36) (Int32.toNatClampNeg 0) v))) ∨ (th = true ∧ r = some (.inl 1) ∧ thq1 s P1)
theorem c_L_out {d : Nat} (s : St) (a : Int32) (hr : thr s) (hw : th_out s a = false → vp_in a 2000) : X m_L_out (d + 7) 0 (entL 4 [.inr (.inr (some 0)), .inl a, .inr (.inr (some 36))]) [] (hp s) (q_hlp s (th_out s a) (Int32.toInt64 (sA s 4 a.toNatClampNeg &&& 255))) := by
  refine X_run 4 (i1 := 4) (L1 := [some (.inr (.inr (some 0))), some (.inl a), some (.inr (.inr (some 36))), none]) (st1 := [.inl a, .inr (.inr (some 0)), .inl 0, .inr (.inr (some 36))]) rfl ?_
  refine X_callX m_H_out (As := [.inl a]) (st := [.inl 0, .inr (.inr (some 36))]) (x0 := ⟨0, 9, 12, 13⟩) (ih := 8) (pch := 12) (j := 3) ok_H_out rfl rfl rfl (hp_obj rfl) rfl (Nat.le_of_ble_eq_true rfl) (Nat.le_of_ble_eq_true rfl) (x_H_out (d := d) s a hr hw) rfl rfl rfl rfl rfl rfl (by decide) ?_ ?_
  · rintro _ _ ⟨ht, rfl, rfl⟩
    show X _ _ 5 [some (.inr (.inr (some 0))), some (.inl a), some (.inr (.inr (some 36))), none] [.inl (sA s 4 a.toNatClampNeg &&& 255), .inl 0, .inr (.inr (some 36))] (hp s) _
    refine X_run 1 (i1 := 6) (L1 := [some (.inr (.inr (some 0))), some (.inl a), some (.inr (.inr (some 36))), none]) (st1 := [.inr (.inl (Int32.toInt64 (sA s 4 a.toNatClampNeg &&& 255))), .inl 0, .inr (.inr (some 36))]) rfl ?_
    refine X_sL rfl rfl (by unfold vp_in; decide) ?_
    refine X_run 2 (i1 := 12) (L1 := [some (.inr (.inr (some 0))), some (.inl a), some (.inr (.inr (some 36))), none]) (st1 := [.inl 0]) rfl ?_
    exact X_iret rfl rfl (Or.inl ⟨ht, rfl, rfl⟩)
  · rintro P1 ⟨ht, hq⟩
    refine X_run 1 (i1 := 10) (L1 := [none, none, none, none]) (st1 := [.inl 1]) rfl ?_
    exact X_iret rfl rfl (Or.inr ⟨ht, rfl, hq⟩)
theorem c_L_number {d : Nat} (s : St) (a : Int32) (hr : thr s)  : X m_L_number (d + 7) 0 (entL 4 [.inr (.inr (some 0)), .inl a, .inr (.inr (some 36))]) [] (hp s) (q_hlp s (th_num a) (Int32.toInt64 (sA s 9 a.toNatClampNeg))) := by
  refine X_run 4 (i1 := 4) (L1 := [some (.inr (.inr (some 0))), some (.inl a), some (.inr (.inr (some 36))), none]) (st1 := [.inl a, .inr (.inr (some 0)), .inl 0, .inr (.inr (some 36))]) rfl ?_
  refine X_callX m_H_number (As := [.inl a]) (st := [.inl 0, .inr (.inr (some 36))]) (x0 := ⟨0, 9, 12, 13⟩) (ih := 8) (pch := 12) (j := 3) ok_H_number rfl rfl rfl (hp_obj rfl) rfl (Nat.le_of_ble_eq_true rfl) (Nat.le_of_ble_eq_true rfl) (x_H_number (d := d) s a hr) rfl rfl rfl rfl rfl rfl (by decide) ?_ ?_
  · rintro _ _ ⟨ht, rfl, rfl⟩
    show X _ _ 5 [some (.inr (.inr (some 0))), some (.inl a), some (.inr (.inr (some 36))), none] [.inl (sA s 9 a.toNatClampNeg), .inl 0, .inr (.inr (some 36))] (hp s) _
    refine X_run 1 (i1 := 6) (L1 := [some (.inr (.inr (some 0))), some (.inl a), some (.inr (.inr (some 36))), none]) (st1 := [.inr (.inl (Int32.toInt64 (sA s 9 a.toNatClampNeg))), .inl 0, .inr (.inr (some 36))]) rfl ?_
    refine X_sL rfl rfl (by unfold vp_in; decide) ?_
    refine X_run 2 (i1 := 12) (L1 := [some (.inr (.inr (some 0))), some (.inl a), some (.inr (.inr (some 36))), none]) (st1 := [.inl 0]) rfl ?_
    exact X_iret rfl rfl (Or.inl ⟨ht, rfl, rfl⟩)
  · rintro P1 ⟨ht, hq⟩
    refine X_run 1 (i1 := 10) (L1 := [none, none, none, none]) (st1 := [.inl 1]) rfl ?_
    exact X_iret rfl rfl (Or.inr ⟨ht, rfl, hq⟩)
theorem c_L_real {d : Nat} (s : St) (a : Int32) (hr : thr s)  : X m_L_real (d + 7) 0 (entL 4 [.inr (.inr (some 0)), .inl a, .inr (.inr (some 36))]) [] (hp s) (q_hlp s (th_rea a) (sB s 10 a.toNatClampNeg)) := by
  refine X_run 4 (i1 := 4) (L1 := [some (.inr (.inr (some 0))), some (.inl a), some (.inr (.inr (some 36))), none]) (st1 := [.inl a, .inr (.inr (some 0)), .inl 0, .inr (.inr (some 36))]) rfl ?_
  refine X_callX m_H_real (As := [.inl a]) (st := [.inl 0, .inr (.inr (some 36))]) (x0 := ⟨0, 8, 11, 13⟩) (ih := 7) (pch := 11) (j := 3) ok_H_real rfl rfl rfl (hp_obj rfl) rfl (Nat.le_of_ble_eq_true rfl) (Nat.le_of_ble_eq_true rfl) (x_H_real (d := d) s a hr) rfl rfl rfl rfl rfl rfl (by decide) ?_ ?_
  · rintro _ _ ⟨ht, rfl, rfl⟩
    show X _ _ 5 [some (.inr (.inr (some 0))), some (.inl a), some (.inr (.inr (some 36))), none] [.inr (.inl (sB s 10 a.toNatClampNeg)), .inl 0, .inr (.inr (some 36))] (hp s) _
    refine X_sL rfl rfl (by unfold vp_in; decide) ?_
    refine X_run 2 (i1 := 11) (L1 := [some (.inr (.inr (some 0))), some (.inl a), some (.inr (.inr (some 36))), none]) (st1 := [.inl 0]) rfl ?_
    exact X_iret rfl rfl (Or.inl ⟨ht, rfl, rfl⟩)
  · rintro P1 ⟨ht, hq⟩
    refine X_run 1 (i1 := 9) (L1 := [none, none, none, none]) (st1 := [.inl 1]) rfl ?_
    exact X_iret rfl rfl (Or.inr ⟨ht, rfl, hq⟩)
theorem c_L_member {d : Nat} (s : St) (a b : Int32) (hr : thr s) (hw1 : th_sl s a ≠ none → wu_tellable s (th_sl s a)) (hw2 : th_mem s a b = false → wu_told s (th_sl s a) b) : X m_L_member (d + 7) 0 (entL 5 [.inr (.inr (some 0)), .inl a, .inl b, .inr (.inr (some 36))]) [] (hp s) (q_hlp s (th_mem s a b) (u_told s (th_sl s a) b)) := by
  refine X_run 5 (i1 := 5) (L1 := [some (.inr (.inr (some 0))), some (.inl a), some (.inl b), some (.inr (.inr (some 36))), none]) (st1 := [.inl b, .inl a, .inr (.inr (some 0)), .inl 0, .inr (.inr (some 36))]) rfl ?_
  refine X_callX m_H_member (As := [.inl a, .inl b]) (st := [.inl 0, .inr (.inr (some 36))]) (x0 := ⟨0, 9, 12, 13⟩) (ih := 8) (pch := 12) (j := 4) ok_H_member rfl rfl rfl (hp_obj rfl) rfl (Nat.le_of_ble_eq_true rfl) (Nat.le_of_ble_eq_true rfl) (x_H_member (d := d) s a b hr hw1 hw2) rfl rfl rfl rfl rfl rfl (by decide) ?_ ?_
  · rintro _ _ ⟨ht, rfl, rfl⟩
    show X _ _ 6 [some (.inr (.inr (some 0))), some (.inl a), some (.inl b), some (.inr (.inr (some 36))), none] [.inr (.inl (u_told s (th_sl s a) b)), .inl 0, .inr (.inr (some 36))] (hp s) _
    refine X_sL rfl rfl (by unfold vp_in; decide) ?_
    refine X_run 2 (i1 := 12) (L1 := [some (.inr (.inr (some 0))), some (.inl a), some (.inl b), some (.inr (.inr (some 36))), none]) (st1 := [.inl 0]) rfl ?_
    exact X_iret rfl rfl (Or.inl ⟨ht, rfl, rfl⟩)
  · rintro P1 ⟨ht, hq⟩
    refine X_run 1 (i1 := 10) (L1 := [none, none, none, none, none]) (st1 := [.inl 1]) rfl ?_
    exact X_iret rfl rfl (Or.inr ⟨ht, rfl, hq⟩)
