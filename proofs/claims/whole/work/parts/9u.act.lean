/-! each op, taken by its number -/
section DP
variable {fu : Nat} {c : St} {a : Int32}
theorem pf_1 (e : f_Op_operand (pI c 8 5 a) 0 = 1) : f_Op_perform fu c a = (f_Op_setNumber (pI c 8 5 a) 1 (Int64.toInt32 (f_Op_bytes fu (pI c 8 5 a) 2 4))) := by
  have ne : ∀ j : Int32, j ≠ 1 → ¬ f_Op_operand (pI c 8 5 a) 0 = j := fun j hj e2 => hj (e2.symm.trans e)
  unfold f_Op_perform
  exact if_pos e
theorem pf_2 (e : f_Op_operand (pI c 8 5 a) 0 = 2) : f_Op_perform fu c a = (f_Op_setNumber (pI c 8 5 a) 1 (f_Op_numberAt (pI c 8 5 a) 2)) := by
  have ne : ∀ j : Int32, j ≠ 2 → ¬ f_Op_operand (pI c 8 5 a) 0 = j := fun j hj e2 => hj (e2.symm.trans e)
  unfold f_Op_perform
  exact (if_neg (ne 1 (by decide))).trans (if_pos e)
theorem pf_3 (e : f_Op_operand (pI c 8 5 a) 0 = 3) : f_Op_perform fu c a = (f_Op_calculate (pI c 8 5 a) (f_Op_operand (pI c 8 5 a) 3) (f_Op_numberAt (pI c 8 5 a) 1) (f_Op_numberAt (pI c 8 5 a) 2)) := by
  have ne : ∀ j : Int32, j ≠ 3 → ¬ f_Op_operand (pI c 8 5 a) 0 = j := fun j hj e2 => hj (e2.symm.trans e)
  unfold f_Op_perform
  exact (if_neg (ne 1 (by decide))).trans ((if_neg (ne 2 (by decide))).trans (if_pos e))
theorem pf_4 (e : f_Op_operand (pI c 8 5 a) 0 = 4) : f_Op_perform fu c a = (f_Op_setReal (pI c 8 5 a) 1 (f_Re_plain (f_Op_bytes fu (pI c 8 5 a) 2 8))) := by
  have ne : ∀ j : Int32, j ≠ 4 → ¬ f_Op_operand (pI c 8 5 a) 0 = j := fun j hj e2 => hj (e2.symm.trans e)
  unfold f_Op_perform
  exact (if_neg (ne 1 (by decide))).trans ((if_neg (ne 2 (by decide))).trans ((if_neg (ne 3 (by decide))).trans (if_pos e)))
theorem pf_5 (e : f_Op_operand (pI c 8 5 a) 0 = 5) : f_Op_perform fu c a = (f_Op_setReal (pI c 8 5 a) 1 (f_Re_ofInt (f_Op_numberAt (pI c 8 5 a) 2))) := by
  have ne : ∀ j : Int32, j ≠ 5 → ¬ f_Op_operand (pI c 8 5 a) 0 = j := fun j hj e2 => hj (e2.symm.trans e)
  unfold f_Op_perform
  exact (if_neg (ne 1 (by decide))).trans ((if_neg (ne 2 (by decide))).trans ((if_neg (ne 3 (by decide))).trans ((if_neg (ne 4 (by decide))).trans (if_pos e))))
theorem pf_6 (e : f_Op_operand (pI c 8 5 a) 0 = 6) : f_Op_perform fu c a = (f_Op_setNumber (pI c 8 5 a) 1 (f_Re_toInt (f_Op_realAt (pI c 8 5 a) 2))) := by
  have ne : ∀ j : Int32, j ≠ 6 → ¬ f_Op_operand (pI c 8 5 a) 0 = j := fun j hj e2 => hj (e2.symm.trans e)
  unfold f_Op_perform
  exact (if_neg (ne 1 (by decide))).trans ((if_neg (ne 2 (by decide))).trans ((if_neg (ne 3 (by decide))).trans ((if_neg (ne 4 (by decide))).trans ((if_neg (ne 5 (by decide))).trans (if_pos e)))))
theorem pf_7 (e : f_Op_operand (pI c 8 5 a) 0 = 7) : f_Op_perform fu c a = (f_Op_setReal (pI c 8 5 a) 1 (f_Re_paired (f_Op_operand (pI c 8 5 a) 3) (f_Op_realAt (pI c 8 5 a) 1) (f_Op_realAt (pI c 8 5 a) 2))) := by
  have ne : ∀ j : Int32, j ≠ 7 → ¬ f_Op_operand (pI c 8 5 a) 0 = j := fun j hj e2 => hj (e2.symm.trans e)
  unfold f_Op_perform
  exact (if_neg (ne 1 (by decide))).trans ((if_neg (ne 2 (by decide))).trans ((if_neg (ne 3 (by decide))).trans ((if_neg (ne 4 (by decide))).trans ((if_neg (ne 5 (by decide))).trans ((if_neg (ne 6 (by decide))).trans (if_pos e))))))
theorem pf_8 (e : f_Op_operand (pI c 8 5 a) 0 = 8) : f_Op_perform fu c a = (f_Op_setReal (pI c 8 5 a) 1 (f_Re_changed (f_Op_operand (pI c 8 5 a) 2) (f_Op_realAt (pI c 8 5 a) 1))) := by
  have ne : ∀ j : Int32, j ≠ 8 → ¬ f_Op_operand (pI c 8 5 a) 0 = j := fun j hj e2 => hj (e2.symm.trans e)
  unfold f_Op_perform
  exact (if_neg (ne 1 (by decide))).trans ((if_neg (ne 2 (by decide))).trans ((if_neg (ne 3 (by decide))).trans ((if_neg (ne 4 (by decide))).trans ((if_neg (ne 5 (by decide))).trans ((if_neg (ne 6 (by decide))).trans ((if_neg (ne 7 (by decide))).trans (if_pos e)))))))
theorem pf_9 (e : f_Op_operand (pI c 8 5 a) 0 = 9) : f_Op_perform fu c a = (cond (cn1 .eq (b2i (f_Re_holds (f_Op_operand (pI c 8 5 a) 4) (f_Op_realAt (pI c 8 5 a) 2) (f_Op_realAt (pI c 8 5 a) 3)))) (t_Op_perform_103 fu (pI c 8 5 a) 0 1) (t_Op_perform_103 fu (pI c 8 5 a) 1 1)) := by
  have ne : ∀ j : Int32, j ≠ 9 → ¬ f_Op_operand (pI c 8 5 a) 0 = j := fun j hj e2 => hj (e2.symm.trans e)
  unfold f_Op_perform
  exact (if_neg (ne 1 (by decide))).trans ((if_neg (ne 2 (by decide))).trans ((if_neg (ne 3 (by decide))).trans ((if_neg (ne 4 (by decide))).trans ((if_neg (ne 5 (by decide))).trans ((if_neg (ne 6 (by decide))).trans ((if_neg (ne 7 (by decide))).trans ((if_neg (ne 8 (by decide))).trans (if_pos e))))))))
theorem pf_10 (e : f_Op_operand (pI c 8 5 a) 0 = 10) : f_Op_perform fu c a = (f_Op_setSlot (pI c 8 5 a) 1 (f_Op_slotAt (pI c 8 5 a) 2)) := by
  have ne : ∀ j : Int32, j ≠ 10 → ¬ f_Op_operand (pI c 8 5 a) 0 = j := fun j hj e2 => hj (e2.symm.trans e)
  unfold f_Op_perform
  exact (if_neg (ne 1 (by decide))).trans ((if_neg (ne 2 (by decide))).trans ((if_neg (ne 3 (by decide))).trans ((if_neg (ne 4 (by decide))).trans ((if_neg (ne 5 (by decide))).trans ((if_neg (ne 6 (by decide))).trans ((if_neg (ne 7 (by decide))).trans ((if_neg (ne 8 (by decide))).trans ((if_neg (ne 9 (by decide))).trans (if_pos e)))))))))
theorem pf_11 (e : f_Op_operand (pI c 8 5 a) 0 = 11) : f_Op_perform fu c a = (f_Op_setSlot (pI c 8 5 a) 1 none) := by
  have ne : ∀ j : Int32, j ≠ 11 → ¬ f_Op_operand (pI c 8 5 a) 0 = j := fun j hj e2 => hj (e2.symm.trans e)
  unfold f_Op_perform
  exact (if_neg (ne 1 (by decide))).trans ((if_neg (ne 2 (by decide))).trans ((if_neg (ne 3 (by decide))).trans ((if_neg (ne 4 (by decide))).trans ((if_neg (ne 5 (by decide))).trans ((if_neg (ne 6 (by decide))).trans ((if_neg (ne 7 (by decide))).trans ((if_neg (ne 8 (by decide))).trans ((if_neg (ne 9 (by decide))).trans ((if_neg (ne 10 (by decide))).trans (if_pos e))))))))))
theorem pf_12 (e : f_Op_operand (pI c 8 5 a) 0 = 12) : f_Op_perform fu c a = (f_Op_makeRow (pI c 8 5 a) (f_Op_numberAt (pI c 8 5 a) 3)) := by
  have ne : ∀ j : Int32, j ≠ 12 → ¬ f_Op_operand (pI c 8 5 a) 0 = j := fun j hj e2 => hj (e2.symm.trans e)
  unfold f_Op_perform
  exact (if_neg (ne 1 (by decide))).trans ((if_neg (ne 2 (by decide))).trans ((if_neg (ne 3 (by decide))).trans ((if_neg (ne 4 (by decide))).trans ((if_neg (ne 5 (by decide))).trans ((if_neg (ne 6 (by decide))).trans ((if_neg (ne 7 (by decide))).trans ((if_neg (ne 8 (by decide))).trans ((if_neg (ne 9 (by decide))).trans ((if_neg (ne 10 (by decide))).trans ((if_neg (ne 11 (by decide))).trans (if_pos e)))))))))))
theorem pf_13 (e : f_Op_operand (pI c 8 5 a) 0 = 13) : f_Op_perform fu c a = (f_Op_makeGrid fu (pI c 8 5 a) (f_Op_numberAt (pI c 8 5 a) 2) (f_Op_numberAt (pI c 8 5 a) 3)) := by
  have ne : ∀ j : Int32, j ≠ 13 → ¬ f_Op_operand (pI c 8 5 a) 0 = j := fun j hj e2 => hj (e2.symm.trans e)
  unfold f_Op_perform
  exact (if_neg (ne 1 (by decide))).trans ((if_neg (ne 2 (by decide))).trans ((if_neg (ne 3 (by decide))).trans ((if_neg (ne 4 (by decide))).trans ((if_neg (ne 5 (by decide))).trans ((if_neg (ne 6 (by decide))).trans ((if_neg (ne 7 (by decide))).trans ((if_neg (ne 8 (by decide))).trans ((if_neg (ne 9 (by decide))).trans ((if_neg (ne 10 (by decide))).trans ((if_neg (ne 11 (by decide))).trans ((if_neg (ne 12 (by decide))).trans (if_pos e))))))))))))
theorem pf_14 (e : f_Op_operand (pI c 8 5 a) 0 = 14) : f_Op_perform fu c a = (f_Op_makeBox (pI c 8 5 a) (f_Op_numberAt (pI c 8 5 a) 3)) := by
  have ne : ∀ j : Int32, j ≠ 14 → ¬ f_Op_operand (pI c 8 5 a) 0 = j := fun j hj e2 => hj (e2.symm.trans e)
  unfold f_Op_perform
  exact (if_neg (ne 1 (by decide))).trans ((if_neg (ne 2 (by decide))).trans ((if_neg (ne 3 (by decide))).trans ((if_neg (ne 4 (by decide))).trans ((if_neg (ne 5 (by decide))).trans ((if_neg (ne 6 (by decide))).trans ((if_neg (ne 7 (by decide))).trans ((if_neg (ne 8 (by decide))).trans ((if_neg (ne 9 (by decide))).trans ((if_neg (ne 10 (by decide))).trans ((if_neg (ne 11 (by decide))).trans ((if_neg (ne 12 (by decide))).trans ((if_neg (ne 13 (by decide))).trans (if_pos e)))))))))))))
theorem pf_15 (e : f_Op_operand (pI c 8 5 a) 0 = 15) : f_Op_perform fu c a = (f_Op_makePart (pI c 8 5 a)) := by
  have ne : ∀ j : Int32, j ≠ 15 → ¬ f_Op_operand (pI c 8 5 a) 0 = j := fun j hj e2 => hj (e2.symm.trans e)
  unfold f_Op_perform
  exact (if_neg (ne 1 (by decide))).trans ((if_neg (ne 2 (by decide))).trans ((if_neg (ne 3 (by decide))).trans ((if_neg (ne 4 (by decide))).trans ((if_neg (ne 5 (by decide))).trans ((if_neg (ne 6 (by decide))).trans ((if_neg (ne 7 (by decide))).trans ((if_neg (ne 8 (by decide))).trans ((if_neg (ne 9 (by decide))).trans ((if_neg (ne 10 (by decide))).trans ((if_neg (ne 11 (by decide))).trans ((if_neg (ne 12 (by decide))).trans ((if_neg (ne 13 (by decide))).trans ((if_neg (ne 14 (by decide))).trans (if_pos e))))))))))))))
theorem pf_16 (e : f_Op_operand (pI c 8 5 a) 0 = 16) : f_Op_perform fu c a = (f_Op_makeTrouble (pI c 8 5 a)) := by
  have ne : ∀ j : Int32, j ≠ 16 → ¬ f_Op_operand (pI c 8 5 a) 0 = j := fun j hj e2 => hj (e2.symm.trans e)
  unfold f_Op_perform
  exact (if_neg (ne 1 (by decide))).trans ((if_neg (ne 2 (by decide))).trans ((if_neg (ne 3 (by decide))).trans ((if_neg (ne 4 (by decide))).trans ((if_neg (ne 5 (by decide))).trans ((if_neg (ne 6 (by decide))).trans ((if_neg (ne 7 (by decide))).trans ((if_neg (ne 8 (by decide))).trans ((if_neg (ne 9 (by decide))).trans ((if_neg (ne 10 (by decide))).trans ((if_neg (ne 11 (by decide))).trans ((if_neg (ne 12 (by decide))).trans ((if_neg (ne 13 (by decide))).trans ((if_neg (ne 14 (by decide))).trans ((if_neg (ne 15 (by decide))).trans (if_pos e)))))))))))))))
theorem pf_17 (e : f_Op_operand (pI c 8 5 a) 0 = 17) : f_Op_perform fu c a = (f_Op_countMembers (pI c 8 5 a) (f_Op_slotAt (pI c 8 5 a) 2)) := by
  have ne : ∀ j : Int32, j ≠ 17 → ¬ f_Op_operand (pI c 8 5 a) 0 = j := fun j hj e2 => hj (e2.symm.trans e)
  unfold f_Op_perform
  exact (if_neg (ne 1 (by decide))).trans ((if_neg (ne 2 (by decide))).trans ((if_neg (ne 3 (by decide))).trans ((if_neg (ne 4 (by decide))).trans ((if_neg (ne 5 (by decide))).trans ((if_neg (ne 6 (by decide))).trans ((if_neg (ne 7 (by decide))).trans ((if_neg (ne 8 (by decide))).trans ((if_neg (ne 9 (by decide))).trans ((if_neg (ne 10 (by decide))).trans ((if_neg (ne 11 (by decide))).trans ((if_neg (ne 12 (by decide))).trans ((if_neg (ne 13 (by decide))).trans ((if_neg (ne 14 (by decide))).trans ((if_neg (ne 15 (by decide))).trans ((if_neg (ne 16 (by decide))).trans (if_pos e))))))))))))))))
theorem pf_18 (e : f_Op_operand (pI c 8 5 a) 0 = 18) : f_Op_perform fu c a = (cond (cn1 .eq (b2i (f_Op_fits (pI c 8 5 a) (f_Op_slotAt (pI c 8 5 a) 2) (f_Op_operand (pI c 8 5 a) 3)))) (t_Op_perform_163 fu (pI c 8 5 a) 0 1) (t_Op_perform_163 fu (pI c 8 5 a) 1 1)) := by
  have ne : ∀ j : Int32, j ≠ 18 → ¬ f_Op_operand (pI c 8 5 a) 0 = j := fun j hj e2 => hj (e2.symm.trans e)
  unfold f_Op_perform
  exact (if_neg (ne 1 (by decide))).trans ((if_neg (ne 2 (by decide))).trans ((if_neg (ne 3 (by decide))).trans ((if_neg (ne 4 (by decide))).trans ((if_neg (ne 5 (by decide))).trans ((if_neg (ne 6 (by decide))).trans ((if_neg (ne 7 (by decide))).trans ((if_neg (ne 8 (by decide))).trans ((if_neg (ne 9 (by decide))).trans ((if_neg (ne 10 (by decide))).trans ((if_neg (ne 11 (by decide))).trans ((if_neg (ne 12 (by decide))).trans ((if_neg (ne 13 (by decide))).trans ((if_neg (ne 14 (by decide))).trans ((if_neg (ne 15 (by decide))).trans ((if_neg (ne 16 (by decide))).trans ((if_neg (ne 17 (by decide))).trans (if_pos e)))))))))))))))))
theorem pf_19 (e : f_Op_operand (pI c 8 5 a) 0 = 19) : f_Op_perform fu c a = (f_Op_takeMember (pI c 8 5 a) (f_Op_slotAt (pI c 8 5 a) 3) (f_Op_numberAt (pI c 8 5 a) 4)) := by
  have ne : ∀ j : Int32, j ≠ 19 → ¬ f_Op_operand (pI c 8 5 a) 0 = j := fun j hj e2 => hj (e2.symm.trans e)
  unfold f_Op_perform
  exact (if_neg (ne 1 (by decide))).trans ((if_neg (ne 2 (by decide))).trans ((if_neg (ne 3 (by decide))).trans ((if_neg (ne 4 (by decide))).trans ((if_neg (ne 5 (by decide))).trans ((if_neg (ne 6 (by decide))).trans ((if_neg (ne 7 (by decide))).trans ((if_neg (ne 8 (by decide))).trans ((if_neg (ne 9 (by decide))).trans ((if_neg (ne 10 (by decide))).trans ((if_neg (ne 11 (by decide))).trans ((if_neg (ne 12 (by decide))).trans ((if_neg (ne 13 (by decide))).trans ((if_neg (ne 14 (by decide))).trans ((if_neg (ne 15 (by decide))).trans ((if_neg (ne 16 (by decide))).trans ((if_neg (ne 17 (by decide))).trans ((if_neg (ne 18 (by decide))).trans (if_pos e))))))))))))))))))
theorem pf_20 (e : f_Op_operand (pI c 8 5 a) 0 = 20) : f_Op_perform fu c a = (f_Op_putMember (pI c 8 5 a) (f_Op_slotAt (pI c 8 5 a) 2) (f_Op_numberAt (pI c 8 5 a) 3)) := by
  have ne : ∀ j : Int32, j ≠ 20 → ¬ f_Op_operand (pI c 8 5 a) 0 = j := fun j hj e2 => hj (e2.symm.trans e)
  unfold f_Op_perform
  exact (if_neg (ne 1 (by decide))).trans ((if_neg (ne 2 (by decide))).trans ((if_neg (ne 3 (by decide))).trans ((if_neg (ne 4 (by decide))).trans ((if_neg (ne 5 (by decide))).trans ((if_neg (ne 6 (by decide))).trans ((if_neg (ne 7 (by decide))).trans ((if_neg (ne 8 (by decide))).trans ((if_neg (ne 9 (by decide))).trans ((if_neg (ne 10 (by decide))).trans ((if_neg (ne 11 (by decide))).trans ((if_neg (ne 12 (by decide))).trans ((if_neg (ne 13 (by decide))).trans ((if_neg (ne 14 (by decide))).trans ((if_neg (ne 15 (by decide))).trans ((if_neg (ne 16 (by decide))).trans ((if_neg (ne 17 (by decide))).trans ((if_neg (ne 18 (by decide))).trans ((if_neg (ne 19 (by decide))).trans (if_pos e)))))))))))))))))))
theorem pf_21 (e : f_Op_operand (pI c 8 5 a) 0 = 21) : f_Op_perform fu c a = (f_Op_copyMembers fu (pI c 8 5 a) (f_Op_slotAt (pI c 8 5 a) 1) (f_Op_slotAt (pI c 8 5 a) 3)) := by
  have ne : ∀ j : Int32, j ≠ 21 → ¬ f_Op_operand (pI c 8 5 a) 0 = j := fun j hj e2 => hj (e2.symm.trans e)
  unfold f_Op_perform
  exact (if_neg (ne 1 (by decide))).trans ((if_neg (ne 2 (by decide))).trans ((if_neg (ne 3 (by decide))).trans ((if_neg (ne 4 (by decide))).trans ((if_neg (ne 5 (by decide))).trans ((if_neg (ne 6 (by decide))).trans ((if_neg (ne 7 (by decide))).trans ((if_neg (ne 8 (by decide))).trans ((if_neg (ne 9 (by decide))).trans ((if_neg (ne 10 (by decide))).trans ((if_neg (ne 11 (by decide))).trans ((if_neg (ne 12 (by decide))).trans ((if_neg (ne 13 (by decide))).trans ((if_neg (ne 14 (by decide))).trans ((if_neg (ne 15 (by decide))).trans ((if_neg (ne 16 (by decide))).trans ((if_neg (ne 17 (by decide))).trans ((if_neg (ne 18 (by decide))).trans ((if_neg (ne 19 (by decide))).trans ((if_neg (ne 20 (by decide))).trans (if_pos e))))))))))))))))))))
theorem pf_22 (e : f_Op_operand (pI c 8 5 a) 0 = 22) : f_Op_perform fu c a = (f_Op_makeTwin fu (pI c 8 5 a) (f_Op_slotAt (pI c 8 5 a) 2)) := by
  have ne : ∀ j : Int32, j ≠ 22 → ¬ f_Op_operand (pI c 8 5 a) 0 = j := fun j hj e2 => hj (e2.symm.trans e)
  unfold f_Op_perform
  exact (if_neg (ne 1 (by decide))).trans ((if_neg (ne 2 (by decide))).trans ((if_neg (ne 3 (by decide))).trans ((if_neg (ne 4 (by decide))).trans ((if_neg (ne 5 (by decide))).trans ((if_neg (ne 6 (by decide))).trans ((if_neg (ne 7 (by decide))).trans ((if_neg (ne 8 (by decide))).trans ((if_neg (ne 9 (by decide))).trans ((if_neg (ne 10 (by decide))).trans ((if_neg (ne 11 (by decide))).trans ((if_neg (ne 12 (by decide))).trans ((if_neg (ne 13 (by decide))).trans ((if_neg (ne 14 (by decide))).trans ((if_neg (ne 15 (by decide))).trans ((if_neg (ne 16 (by decide))).trans ((if_neg (ne 17 (by decide))).trans ((if_neg (ne 18 (by decide))).trans ((if_neg (ne 19 (by decide))).trans ((if_neg (ne 20 (by decide))).trans ((if_neg (ne 21 (by decide))).trans (if_pos e)))))))))))))))))))))
theorem pf_23 (e : f_Op_operand (pI c 8 5 a) 0 = 23) : f_Op_perform fu c a = (f_Op_takeThing (pI c 8 5 a) 9 (f_Op_slotAt (pI c 8 5 a) 2) (f_Op_numberAt (pI c 8 5 a) 3)) := by
  have ne : ∀ j : Int32, j ≠ 23 → ¬ f_Op_operand (pI c 8 5 a) 0 = j := fun j hj e2 => hj (e2.symm.trans e)
  unfold f_Op_perform
  exact (if_neg (ne 1 (by decide))).trans ((if_neg (ne 2 (by decide))).trans ((if_neg (ne 3 (by decide))).trans ((if_neg (ne 4 (by decide))).trans ((if_neg (ne 5 (by decide))).trans ((if_neg (ne 6 (by decide))).trans ((if_neg (ne 7 (by decide))).trans ((if_neg (ne 8 (by decide))).trans ((if_neg (ne 9 (by decide))).trans ((if_neg (ne 10 (by decide))).trans ((if_neg (ne 11 (by decide))).trans ((if_neg (ne 12 (by decide))).trans ((if_neg (ne 13 (by decide))).trans ((if_neg (ne 14 (by decide))).trans ((if_neg (ne 15 (by decide))).trans ((if_neg (ne 16 (by decide))).trans ((if_neg (ne 17 (by decide))).trans ((if_neg (ne 18 (by decide))).trans ((if_neg (ne 19 (by decide))).trans ((if_neg (ne 20 (by decide))).trans ((if_neg (ne 21 (by decide))).trans ((if_neg (ne 22 (by decide))).trans (if_pos e))))))))))))))))))))))
theorem pf_24 (e : f_Op_operand (pI c 8 5 a) 0 = 24) : f_Op_perform fu c a = (f_Op_putThing (pI c 8 5 a) 9 (f_Op_slotAt (pI c 8 5 a) 1) (f_Op_numberAt (pI c 8 5 a) 2) (f_Op_slotAt (pI c 8 5 a) 3)) := by
  have ne : ∀ j : Int32, j ≠ 24 → ¬ f_Op_operand (pI c 8 5 a) 0 = j := fun j hj e2 => hj (e2.symm.trans e)
  unfold f_Op_perform
  exact (if_neg (ne 1 (by decide))).trans ((if_neg (ne 2 (by decide))).trans ((if_neg (ne 3 (by decide))).trans ((if_neg (ne 4 (by decide))).trans ((if_neg (ne 5 (by decide))).trans ((if_neg (ne 6 (by decide))).trans ((if_neg (ne 7 (by decide))).trans ((if_neg (ne 8 (by decide))).trans ((if_neg (ne 9 (by decide))).trans ((if_neg (ne 10 (by decide))).trans ((if_neg (ne 11 (by decide))).trans ((if_neg (ne 12 (by decide))).trans ((if_neg (ne 13 (by decide))).trans ((if_neg (ne 14 (by decide))).trans ((if_neg (ne 15 (by decide))).trans ((if_neg (ne 16 (by decide))).trans ((if_neg (ne 17 (by decide))).trans ((if_neg (ne 18 (by decide))).trans ((if_neg (ne 19 (by decide))).trans ((if_neg (ne 20 (by decide))).trans ((if_neg (ne 21 (by decide))).trans ((if_neg (ne 22 (by decide))).trans ((if_neg (ne 23 (by decide))).trans (if_pos e)))))))))))))))))))))))
theorem pf_25 (e : f_Op_operand (pI c 8 5 a) 0 = 25) : f_Op_perform fu c a = (f_Op_takeThing (pI c 8 5 a) 10 (f_Op_slotAt (pI c 8 5 a) 2) (f_Op_numberAt (pI c 8 5 a) 3)) := by
  have ne : ∀ j : Int32, j ≠ 25 → ¬ f_Op_operand (pI c 8 5 a) 0 = j := fun j hj e2 => hj (e2.symm.trans e)
  unfold f_Op_perform
  exact (if_neg (ne 1 (by decide))).trans ((if_neg (ne 2 (by decide))).trans ((if_neg (ne 3 (by decide))).trans ((if_neg (ne 4 (by decide))).trans ((if_neg (ne 5 (by decide))).trans ((if_neg (ne 6 (by decide))).trans ((if_neg (ne 7 (by decide))).trans ((if_neg (ne 8 (by decide))).trans ((if_neg (ne 9 (by decide))).trans ((if_neg (ne 10 (by decide))).trans ((if_neg (ne 11 (by decide))).trans ((if_neg (ne 12 (by decide))).trans ((if_neg (ne 13 (by decide))).trans ((if_neg (ne 14 (by decide))).trans ((if_neg (ne 15 (by decide))).trans ((if_neg (ne 16 (by decide))).trans ((if_neg (ne 17 (by decide))).trans ((if_neg (ne 18 (by decide))).trans ((if_neg (ne 19 (by decide))).trans ((if_neg (ne 20 (by decide))).trans ((if_neg (ne 21 (by decide))).trans ((if_neg (ne 22 (by decide))).trans ((if_neg (ne 23 (by decide))).trans ((if_neg (ne 24 (by decide))).trans (if_pos e))))))))))))))))))))))))
theorem pf_26 (e : f_Op_operand (pI c 8 5 a) 0 = 26) : f_Op_perform fu c a = (f_Op_putThing (pI c 8 5 a) 10 (f_Op_slotAt (pI c 8 5 a) 1) (f_Op_numberAt (pI c 8 5 a) 2) (f_Op_slotAt (pI c 8 5 a) 3)) := by
  have ne : ∀ j : Int32, j ≠ 26 → ¬ f_Op_operand (pI c 8 5 a) 0 = j := fun j hj e2 => hj (e2.symm.trans e)
  unfold f_Op_perform
  exact (if_neg (ne 1 (by decide))).trans ((if_neg (ne 2 (by decide))).trans ((if_neg (ne 3 (by decide))).trans ((if_neg (ne 4 (by decide))).trans ((if_neg (ne 5 (by decide))).trans ((if_neg (ne 6 (by decide))).trans ((if_neg (ne 7 (by decide))).trans ((if_neg (ne 8 (by decide))).trans ((if_neg (ne 9 (by decide))).trans ((if_neg (ne 10 (by decide))).trans ((if_neg (ne 11 (by decide))).trans ((if_neg (ne 12 (by decide))).trans ((if_neg (ne 13 (by decide))).trans ((if_neg (ne 14 (by decide))).trans ((if_neg (ne 15 (by decide))).trans ((if_neg (ne 16 (by decide))).trans ((if_neg (ne 17 (by decide))).trans ((if_neg (ne 18 (by decide))).trans ((if_neg (ne 19 (by decide))).trans ((if_neg (ne 20 (by decide))).trans ((if_neg (ne 21 (by decide))).trans ((if_neg (ne 22 (by decide))).trans ((if_neg (ne 23 (by decide))).trans ((if_neg (ne 24 (by decide))).trans ((if_neg (ne 25 (by decide))).trans (if_pos e)))))))))))))))))))))))))
theorem pf_27 (e : f_Op_operand (pI c 8 5 a) 0 = 27) : f_Op_perform fu c a = (f_Op_takeField (pI c 8 5 a) (f_Op_operand (pI c 8 5 a) 1) (f_Op_slotAt (pI c 8 5 a) 3)) := by
  have ne : ∀ j : Int32, j ≠ 27 → ¬ f_Op_operand (pI c 8 5 a) 0 = j := fun j hj e2 => hj (e2.symm.trans e)
  unfold f_Op_perform
  exact (if_neg (ne 1 (by decide))).trans ((if_neg (ne 2 (by decide))).trans ((if_neg (ne 3 (by decide))).trans ((if_neg (ne 4 (by decide))).trans ((if_neg (ne 5 (by decide))).trans ((if_neg (ne 6 (by decide))).trans ((if_neg (ne 7 (by decide))).trans ((if_neg (ne 8 (by decide))).trans ((if_neg (ne 9 (by decide))).trans ((if_neg (ne 10 (by decide))).trans ((if_neg (ne 11 (by decide))).trans ((if_neg (ne 12 (by decide))).trans ((if_neg (ne 13 (by decide))).trans ((if_neg (ne 14 (by decide))).trans ((if_neg (ne 15 (by decide))).trans ((if_neg (ne 16 (by decide))).trans ((if_neg (ne 17 (by decide))).trans ((if_neg (ne 18 (by decide))).trans ((if_neg (ne 19 (by decide))).trans ((if_neg (ne 20 (by decide))).trans ((if_neg (ne 21 (by decide))).trans ((if_neg (ne 22 (by decide))).trans ((if_neg (ne 23 (by decide))).trans ((if_neg (ne 24 (by decide))).trans ((if_neg (ne 25 (by decide))).trans ((if_neg (ne 26 (by decide))).trans (if_pos e))))))))))))))))))))))))))
theorem pf_28 (e : f_Op_operand (pI c 8 5 a) 0 = 28) : f_Op_perform fu c a = (f_Op_putField (pI c 8 5 a) (f_Op_operand (pI c 8 5 a) 1) (f_Op_slotAt (pI c 8 5 a) 2)) := by
  have ne : ∀ j : Int32, j ≠ 28 → ¬ f_Op_operand (pI c 8 5 a) 0 = j := fun j hj e2 => hj (e2.symm.trans e)
  unfold f_Op_perform
  exact (if_neg (ne 1 (by decide))).trans ((if_neg (ne 2 (by decide))).trans ((if_neg (ne 3 (by decide))).trans ((if_neg (ne 4 (by decide))).trans ((if_neg (ne 5 (by decide))).trans ((if_neg (ne 6 (by decide))).trans ((if_neg (ne 7 (by decide))).trans ((if_neg (ne 8 (by decide))).trans ((if_neg (ne 9 (by decide))).trans ((if_neg (ne 10 (by decide))).trans ((if_neg (ne 11 (by decide))).trans ((if_neg (ne 12 (by decide))).trans ((if_neg (ne 13 (by decide))).trans ((if_neg (ne 14 (by decide))).trans ((if_neg (ne 15 (by decide))).trans ((if_neg (ne 16 (by decide))).trans ((if_neg (ne 17 (by decide))).trans ((if_neg (ne 18 (by decide))).trans ((if_neg (ne 19 (by decide))).trans ((if_neg (ne 20 (by decide))).trans ((if_neg (ne 21 (by decide))).trans ((if_neg (ne 22 (by decide))).trans ((if_neg (ne 23 (by decide))).trans ((if_neg (ne 24 (by decide))).trans ((if_neg (ne 25 (by decide))).trans ((if_neg (ne 26 (by decide))).trans ((if_neg (ne 27 (by decide))).trans (if_pos e)))))))))))))))))))))))))))
theorem pf_29 (e : f_Op_operand (pI c 8 5 a) 0 = 29) : f_Op_perform fu c a = (f_Op_ask fu (pI c 8 5 a) (f_Op_operand (pI c 8 5 a) 1) (f_Op_slotAt (pI c 8 5 a) 3) (f_Op_numberAt (pI c 8 5 a) 4)) := by
  have ne : ∀ j : Int32, j ≠ 29 → ¬ f_Op_operand (pI c 8 5 a) 0 = j := fun j hj e2 => hj (e2.symm.trans e)
  unfold f_Op_perform
  exact (if_neg (ne 1 (by decide))).trans ((if_neg (ne 2 (by decide))).trans ((if_neg (ne 3 (by decide))).trans ((if_neg (ne 4 (by decide))).trans ((if_neg (ne 5 (by decide))).trans ((if_neg (ne 6 (by decide))).trans ((if_neg (ne 7 (by decide))).trans ((if_neg (ne 8 (by decide))).trans ((if_neg (ne 9 (by decide))).trans ((if_neg (ne 10 (by decide))).trans ((if_neg (ne 11 (by decide))).trans ((if_neg (ne 12 (by decide))).trans ((if_neg (ne 13 (by decide))).trans ((if_neg (ne 14 (by decide))).trans ((if_neg (ne 15 (by decide))).trans ((if_neg (ne 16 (by decide))).trans ((if_neg (ne 17 (by decide))).trans ((if_neg (ne 18 (by decide))).trans ((if_neg (ne 19 (by decide))).trans ((if_neg (ne 20 (by decide))).trans ((if_neg (ne 21 (by decide))).trans ((if_neg (ne 22 (by decide))).trans ((if_neg (ne 23 (by decide))).trans ((if_neg (ne 24 (by decide))).trans ((if_neg (ne 25 (by decide))).trans ((if_neg (ne 26 (by decide))).trans ((if_neg (ne 27 (by decide))).trans ((if_neg (ne 28 (by decide))).trans (if_pos e))))))))))))))))))))))))))))
theorem pf_34 (e : f_Op_operand (pI c 8 5 a) 0 = 34) : f_Op_perform fu c a = (f_Op_tell (pI c 8 5 a) (f_Op_slotAt (pI c 8 5 a) 1)) := by
  have ne : ∀ j : Int32, j ≠ 34 → ¬ f_Op_operand (pI c 8 5 a) 0 = j := fun j hj e2 => hj (e2.symm.trans e)
  unfold f_Op_perform
  exact (if_neg (ne 1 (by decide))).trans ((if_neg (ne 2 (by decide))).trans ((if_neg (ne 3 (by decide))).trans ((if_neg (ne 4 (by decide))).trans ((if_neg (ne 5 (by decide))).trans ((if_neg (ne 6 (by decide))).trans ((if_neg (ne 7 (by decide))).trans ((if_neg (ne 8 (by decide))).trans ((if_neg (ne 9 (by decide))).trans ((if_neg (ne 10 (by decide))).trans ((if_neg (ne 11 (by decide))).trans ((if_neg (ne 12 (by decide))).trans ((if_neg (ne 13 (by decide))).trans ((if_neg (ne 14 (by decide))).trans ((if_neg (ne 15 (by decide))).trans ((if_neg (ne 16 (by decide))).trans ((if_neg (ne 17 (by decide))).trans ((if_neg (ne 18 (by decide))).trans ((if_neg (ne 19 (by decide))).trans ((if_neg (ne 20 (by decide))).trans ((if_neg (ne 21 (by decide))).trans ((if_neg (ne 22 (by decide))).trans ((if_neg (ne 23 (by decide))).trans ((if_neg (ne 24 (by decide))).trans ((if_neg (ne 25 (by decide))).trans ((if_neg (ne 26 (by decide))).trans ((if_neg (ne 27 (by decide))).trans ((if_neg (ne 28 (by decide))).trans ((if_neg (ne 29 (by decide))).trans ((if_neg (ne 30 (by decide))).trans ((if_neg (ne 31 (by decide))).trans ((if_neg (ne 32 (by decide))).trans ((if_neg (ne 33 (by decide))).trans (if_pos e)))))))))))))))))))))))))))))))))
theorem pw_1 (e : f_Op_operand (pI c 8 5 a) 0 = 1) (w0 : w_Op_operand (pI c 8 5 a) 0) (w : (w_Op_bytes fu (pI c 8 5 a) 2 4 ∧ (w_Op_setNumber (pI c 8 5 a) 1 (Int64.toInt32 (f_Op_bytes fu (pI c 8 5 a) 2 4)) ∧ True))) : w_Op_perform fu c a := by
  have ne : ∀ j : Int32, j ≠ 1 → ∀ {Q : Prop}, f_Op_operand (pI c 8 5 a) 0 = j → Q := fun j hj _ e2 => absurd (e2.symm.trans e) hj
  unfold w_Op_perform
  exact ⟨w0, ⟨fun _ => w, fun z => absurd e z⟩⟩
theorem pw_2 (e : f_Op_operand (pI c 8 5 a) 0 = 2) (w0 : w_Op_operand (pI c 8 5 a) 0) (w : (w_Op_numberAt (pI c 8 5 a) 2 ∧ (w_Op_setNumber (pI c 8 5 a) 1 (f_Op_numberAt (pI c 8 5 a) 2) ∧ True))) : w_Op_perform fu c a := by
  have ne : ∀ j : Int32, j ≠ 2 → ∀ {Q : Prop}, f_Op_operand (pI c 8 5 a) 0 = j → Q := fun j hj _ e2 => absurd (e2.symm.trans e) hj
  unfold w_Op_perform
  exact ⟨w0, ⟨ne 1 (by decide), fun _ => ⟨fun _ => w, fun z => absurd e z⟩⟩⟩
theorem pw_3 (e : f_Op_operand (pI c 8 5 a) 0 = 3) (w0 : w_Op_operand (pI c 8 5 a) 0) (w : (w_Op_operand (pI c 8 5 a) 3 ∧ (w_Op_numberAt (pI c 8 5 a) 1 ∧ (w_Op_numberAt (pI c 8 5 a) 2 ∧ (w_Op_calculate (pI c 8 5 a) (f_Op_operand (pI c 8 5 a) 3) (f_Op_numberAt (pI c 8 5 a) 1) (f_Op_numberAt (pI c 8 5 a) 2) ∧ True))))) : w_Op_perform fu c a := by
  have ne : ∀ j : Int32, j ≠ 3 → ∀ {Q : Prop}, f_Op_operand (pI c 8 5 a) 0 = j → Q := fun j hj _ e2 => absurd (e2.symm.trans e) hj
  unfold w_Op_perform
  exact ⟨w0, ⟨ne 1 (by decide), fun _ => ⟨ne 2 (by decide), fun _ => ⟨fun _ => w, fun z => absurd e z⟩⟩⟩⟩
theorem pw_4 (e : f_Op_operand (pI c 8 5 a) 0 = 4) (w0 : w_Op_operand (pI c 8 5 a) 0) (w : (w_Op_bytes fu (pI c 8 5 a) 2 8 ∧ (w_Op_setReal (pI c 8 5 a) 1 (f_Re_plain (f_Op_bytes fu (pI c 8 5 a) 2 8)) ∧ True))) : w_Op_perform fu c a := by
  have ne : ∀ j : Int32, j ≠ 4 → ∀ {Q : Prop}, f_Op_operand (pI c 8 5 a) 0 = j → Q := fun j hj _ e2 => absurd (e2.symm.trans e) hj
  unfold w_Op_perform
  exact ⟨w0, ⟨ne 1 (by decide), fun _ => ⟨ne 2 (by decide), fun _ => ⟨ne 3 (by decide), fun _ => ⟨fun _ => w, fun z => absurd e z⟩⟩⟩⟩⟩
theorem pw_5 (e : f_Op_operand (pI c 8 5 a) 0 = 5) (w0 : w_Op_operand (pI c 8 5 a) 0) (w : (w_Op_numberAt (pI c 8 5 a) 2 ∧ (w_Op_setReal (pI c 8 5 a) 1 (f_Re_ofInt (f_Op_numberAt (pI c 8 5 a) 2)) ∧ True))) : w_Op_perform fu c a := by
  have ne : ∀ j : Int32, j ≠ 5 → ∀ {Q : Prop}, f_Op_operand (pI c 8 5 a) 0 = j → Q := fun j hj _ e2 => absurd (e2.symm.trans e) hj
  unfold w_Op_perform
  exact ⟨w0, ⟨ne 1 (by decide), fun _ => ⟨ne 2 (by decide), fun _ => ⟨ne 3 (by decide), fun _ => ⟨ne 4 (by decide), fun _ => ⟨fun _ => w, fun z => absurd e z⟩⟩⟩⟩⟩⟩
theorem pw_6 (e : f_Op_operand (pI c 8 5 a) 0 = 6) (w0 : w_Op_operand (pI c 8 5 a) 0) (w : (w_Op_realAt (pI c 8 5 a) 2 ∧ (w_Op_setNumber (pI c 8 5 a) 1 (f_Re_toInt (f_Op_realAt (pI c 8 5 a) 2)) ∧ True))) : w_Op_perform fu c a := by
  have ne : ∀ j : Int32, j ≠ 6 → ∀ {Q : Prop}, f_Op_operand (pI c 8 5 a) 0 = j → Q := fun j hj _ e2 => absurd (e2.symm.trans e) hj
  unfold w_Op_perform
  exact ⟨w0, ⟨ne 1 (by decide), fun _ => ⟨ne 2 (by decide), fun _ => ⟨ne 3 (by decide), fun _ => ⟨ne 4 (by decide), fun _ => ⟨ne 5 (by decide), fun _ => ⟨fun _ => w, fun z => absurd e z⟩⟩⟩⟩⟩⟩⟩
theorem pw_7 (e : f_Op_operand (pI c 8 5 a) 0 = 7) (w0 : w_Op_operand (pI c 8 5 a) 0) (w : (w_Op_operand (pI c 8 5 a) 3 ∧ (w_Op_realAt (pI c 8 5 a) 1 ∧ (w_Op_realAt (pI c 8 5 a) 2 ∧ (w_Op_setReal (pI c 8 5 a) 1 (f_Re_paired (f_Op_operand (pI c 8 5 a) 3) (f_Op_realAt (pI c 8 5 a) 1) (f_Op_realAt (pI c 8 5 a) 2)) ∧ True))))) : w_Op_perform fu c a := by
  have ne : ∀ j : Int32, j ≠ 7 → ∀ {Q : Prop}, f_Op_operand (pI c 8 5 a) 0 = j → Q := fun j hj _ e2 => absurd (e2.symm.trans e) hj
  unfold w_Op_perform
  exact ⟨w0, ⟨ne 1 (by decide), fun _ => ⟨ne 2 (by decide), fun _ => ⟨ne 3 (by decide), fun _ => ⟨ne 4 (by decide), fun _ => ⟨ne 5 (by decide), fun _ => ⟨ne 6 (by decide), fun _ => ⟨fun _ => w, fun z => absurd e z⟩⟩⟩⟩⟩⟩⟩⟩
theorem pw_8 (e : f_Op_operand (pI c 8 5 a) 0 = 8) (w0 : w_Op_operand (pI c 8 5 a) 0) (w : (w_Op_operand (pI c 8 5 a) 2 ∧ (w_Op_realAt (pI c 8 5 a) 1 ∧ (w_Op_setReal (pI c 8 5 a) 1 (f_Re_changed (f_Op_operand (pI c 8 5 a) 2) (f_Op_realAt (pI c 8 5 a) 1)) ∧ True)))) : w_Op_perform fu c a := by
  have ne : ∀ j : Int32, j ≠ 8 → ∀ {Q : Prop}, f_Op_operand (pI c 8 5 a) 0 = j → Q := fun j hj _ e2 => absurd (e2.symm.trans e) hj
  unfold w_Op_perform
  exact ⟨w0, ⟨ne 1 (by decide), fun _ => ⟨ne 2 (by decide), fun _ => ⟨ne 3 (by decide), fun _ => ⟨ne 4 (by decide), fun _ => ⟨ne 5 (by decide), fun _ => ⟨ne 6 (by decide), fun _ => ⟨ne 7 (by decide), fun _ => ⟨fun _ => w, fun z => absurd e z⟩⟩⟩⟩⟩⟩⟩⟩⟩
theorem pw_9 (e : f_Op_operand (pI c 8 5 a) 0 = 9) (w0 : w_Op_operand (pI c 8 5 a) 0) (w : (w_Op_operand (pI c 8 5 a) 4 ∧ w_Op_realAt (pI c 8 5 a) 2 ∧ w_Op_realAt (pI c 8 5 a) 3 ∧ ∀ v, w_Op_perform_103 fu (pI c 8 5 a) v 1)) : w_Op_perform fu c a := by
  have ne : ∀ j : Int32, j ≠ 9 → ∀ {Q : Prop}, f_Op_operand (pI c 8 5 a) 0 = j → Q := fun j hj _ e2 => absurd (e2.symm.trans e) hj
  unfold w_Op_perform
  exact ⟨w0, ⟨ne 1 (by decide), fun _ => ⟨ne 2 (by decide), fun _ => ⟨ne 3 (by decide), fun _ => ⟨ne 4 (by decide), fun _ => ⟨ne 5 (by decide), fun _ => ⟨ne 6 (by decide), fun _ => ⟨ne 7 (by decide), fun _ => ⟨ne 8 (by decide), fun _ => ⟨fun _ => ⟨w.1, w.2.1, w.2.2.1, fun _ => w.2.2.2 0, fun _ => w.2.2.2 1⟩, fun z => absurd e z⟩⟩⟩⟩⟩⟩⟩⟩⟩⟩
theorem pw_10 (e : f_Op_operand (pI c 8 5 a) 0 = 10) (w0 : w_Op_operand (pI c 8 5 a) 0) (w : (w_Op_slotAt (pI c 8 5 a) 2 ∧ (w_Op_setSlot (pI c 8 5 a) 1 (f_Op_slotAt (pI c 8 5 a) 2) ∧ True))) : w_Op_perform fu c a := by
  have ne : ∀ j : Int32, j ≠ 10 → ∀ {Q : Prop}, f_Op_operand (pI c 8 5 a) 0 = j → Q := fun j hj _ e2 => absurd (e2.symm.trans e) hj
  unfold w_Op_perform
  exact ⟨w0, ⟨ne 1 (by decide), fun _ => ⟨ne 2 (by decide), fun _ => ⟨ne 3 (by decide), fun _ => ⟨ne 4 (by decide), fun _ => ⟨ne 5 (by decide), fun _ => ⟨ne 6 (by decide), fun _ => ⟨ne 7 (by decide), fun _ => ⟨ne 8 (by decide), fun _ => ⟨ne 9 (by decide), fun _ => ⟨fun _ => w, fun z => absurd e z⟩⟩⟩⟩⟩⟩⟩⟩⟩⟩⟩
theorem pw_11 (e : f_Op_operand (pI c 8 5 a) 0 = 11) (w0 : w_Op_operand (pI c 8 5 a) 0) (w : (w_Op_setSlot (pI c 8 5 a) 1 none ∧ True)) : w_Op_perform fu c a := by
  have ne : ∀ j : Int32, j ≠ 11 → ∀ {Q : Prop}, f_Op_operand (pI c 8 5 a) 0 = j → Q := fun j hj _ e2 => absurd (e2.symm.trans e) hj
  unfold w_Op_perform
  exact ⟨w0, ⟨ne 1 (by decide), fun _ => ⟨ne 2 (by decide), fun _ => ⟨ne 3 (by decide), fun _ => ⟨ne 4 (by decide), fun _ => ⟨ne 5 (by decide), fun _ => ⟨ne 6 (by decide), fun _ => ⟨ne 7 (by decide), fun _ => ⟨ne 8 (by decide), fun _ => ⟨ne 9 (by decide), fun _ => ⟨ne 10 (by decide), fun _ => ⟨fun _ => w, fun z => absurd e z⟩⟩⟩⟩⟩⟩⟩⟩⟩⟩⟩⟩
theorem pw_12 (e : f_Op_operand (pI c 8 5 a) 0 = 12) (w0 : w_Op_operand (pI c 8 5 a) 0) (w : (w_Op_numberAt (pI c 8 5 a) 3 ∧ (w_Op_makeRow (pI c 8 5 a) (f_Op_numberAt (pI c 8 5 a) 3) ∧ True))) : w_Op_perform fu c a := by
  have ne : ∀ j : Int32, j ≠ 12 → ∀ {Q : Prop}, f_Op_operand (pI c 8 5 a) 0 = j → Q := fun j hj _ e2 => absurd (e2.symm.trans e) hj
  unfold w_Op_perform
  exact ⟨w0, ⟨ne 1 (by decide), fun _ => ⟨ne 2 (by decide), fun _ => ⟨ne 3 (by decide), fun _ => ⟨ne 4 (by decide), fun _ => ⟨ne 5 (by decide), fun _ => ⟨ne 6 (by decide), fun _ => ⟨ne 7 (by decide), fun _ => ⟨ne 8 (by decide), fun _ => ⟨ne 9 (by decide), fun _ => ⟨ne 10 (by decide), fun _ => ⟨ne 11 (by decide), fun _ => ⟨fun _ => w, fun z => absurd e z⟩⟩⟩⟩⟩⟩⟩⟩⟩⟩⟩⟩⟩
theorem pw_13 (e : f_Op_operand (pI c 8 5 a) 0 = 13) (w0 : w_Op_operand (pI c 8 5 a) 0) (w : (w_Op_numberAt (pI c 8 5 a) 2 ∧ (w_Op_numberAt (pI c 8 5 a) 3 ∧ (w_Op_makeGrid fu (pI c 8 5 a) (f_Op_numberAt (pI c 8 5 a) 2) (f_Op_numberAt (pI c 8 5 a) 3) ∧ True)))) : w_Op_perform fu c a := by
  have ne : ∀ j : Int32, j ≠ 13 → ∀ {Q : Prop}, f_Op_operand (pI c 8 5 a) 0 = j → Q := fun j hj _ e2 => absurd (e2.symm.trans e) hj
  unfold w_Op_perform
  exact ⟨w0, ⟨ne 1 (by decide), fun _ => ⟨ne 2 (by decide), fun _ => ⟨ne 3 (by decide), fun _ => ⟨ne 4 (by decide), fun _ => ⟨ne 5 (by decide), fun _ => ⟨ne 6 (by decide), fun _ => ⟨ne 7 (by decide), fun _ => ⟨ne 8 (by decide), fun _ => ⟨ne 9 (by decide), fun _ => ⟨ne 10 (by decide), fun _ => ⟨ne 11 (by decide), fun _ => ⟨ne 12 (by decide), fun _ => ⟨fun _ => w, fun z => absurd e z⟩⟩⟩⟩⟩⟩⟩⟩⟩⟩⟩⟩⟩⟩
theorem pw_14 (e : f_Op_operand (pI c 8 5 a) 0 = 14) (w0 : w_Op_operand (pI c 8 5 a) 0) (w : (w_Op_numberAt (pI c 8 5 a) 3 ∧ (w_Op_makeBox (pI c 8 5 a) (f_Op_numberAt (pI c 8 5 a) 3) ∧ True))) : w_Op_perform fu c a := by
  have ne : ∀ j : Int32, j ≠ 14 → ∀ {Q : Prop}, f_Op_operand (pI c 8 5 a) 0 = j → Q := fun j hj _ e2 => absurd (e2.symm.trans e) hj
  unfold w_Op_perform
  exact ⟨w0, ⟨ne 1 (by decide), fun _ => ⟨ne 2 (by decide), fun _ => ⟨ne 3 (by decide), fun _ => ⟨ne 4 (by decide), fun _ => ⟨ne 5 (by decide), fun _ => ⟨ne 6 (by decide), fun _ => ⟨ne 7 (by decide), fun _ => ⟨ne 8 (by decide), fun _ => ⟨ne 9 (by decide), fun _ => ⟨ne 10 (by decide), fun _ => ⟨ne 11 (by decide), fun _ => ⟨ne 12 (by decide), fun _ => ⟨ne 13 (by decide), fun _ => ⟨fun _ => w, fun z => absurd e z⟩⟩⟩⟩⟩⟩⟩⟩⟩⟩⟩⟩⟩⟩⟩
theorem pw_15 (e : f_Op_operand (pI c 8 5 a) 0 = 15) (w0 : w_Op_operand (pI c 8 5 a) 0) (w : (w_Op_makePart (pI c 8 5 a) ∧ True)) : w_Op_perform fu c a := by
  have ne : ∀ j : Int32, j ≠ 15 → ∀ {Q : Prop}, f_Op_operand (pI c 8 5 a) 0 = j → Q := fun j hj _ e2 => absurd (e2.symm.trans e) hj
  unfold w_Op_perform
  exact ⟨w0, ⟨ne 1 (by decide), fun _ => ⟨ne 2 (by decide), fun _ => ⟨ne 3 (by decide), fun _ => ⟨ne 4 (by decide), fun _ => ⟨ne 5 (by decide), fun _ => ⟨ne 6 (by decide), fun _ => ⟨ne 7 (by decide), fun _ => ⟨ne 8 (by decide), fun _ => ⟨ne 9 (by decide), fun _ => ⟨ne 10 (by decide), fun _ => ⟨ne 11 (by decide), fun _ => ⟨ne 12 (by decide), fun _ => ⟨ne 13 (by decide), fun _ => ⟨ne 14 (by decide), fun _ => ⟨fun _ => w, fun z => absurd e z⟩⟩⟩⟩⟩⟩⟩⟩⟩⟩⟩⟩⟩⟩⟩⟩
theorem pw_16 (e : f_Op_operand (pI c 8 5 a) 0 = 16) (w0 : w_Op_operand (pI c 8 5 a) 0) (w : (w_Op_makeTrouble (pI c 8 5 a) ∧ True)) : w_Op_perform fu c a := by
  have ne : ∀ j : Int32, j ≠ 16 → ∀ {Q : Prop}, f_Op_operand (pI c 8 5 a) 0 = j → Q := fun j hj _ e2 => absurd (e2.symm.trans e) hj
  unfold w_Op_perform
  exact ⟨w0, ⟨ne 1 (by decide), fun _ => ⟨ne 2 (by decide), fun _ => ⟨ne 3 (by decide), fun _ => ⟨ne 4 (by decide), fun _ => ⟨ne 5 (by decide), fun _ => ⟨ne 6 (by decide), fun _ => ⟨ne 7 (by decide), fun _ => ⟨ne 8 (by decide), fun _ => ⟨ne 9 (by decide), fun _ => ⟨ne 10 (by decide), fun _ => ⟨ne 11 (by decide), fun _ => ⟨ne 12 (by decide), fun _ => ⟨ne 13 (by decide), fun _ => ⟨ne 14 (by decide), fun _ => ⟨ne 15 (by decide), fun _ => ⟨fun _ => w, fun z => absurd e z⟩⟩⟩⟩⟩⟩⟩⟩⟩⟩⟩⟩⟩⟩⟩⟩⟩
theorem pw_17 (e : f_Op_operand (pI c 8 5 a) 0 = 17) (w0 : w_Op_operand (pI c 8 5 a) 0) (w : (w_Op_slotAt (pI c 8 5 a) 2 ∧ (w_Op_countMembers (pI c 8 5 a) (f_Op_slotAt (pI c 8 5 a) 2) ∧ True))) : w_Op_perform fu c a := by
  have ne : ∀ j : Int32, j ≠ 17 → ∀ {Q : Prop}, f_Op_operand (pI c 8 5 a) 0 = j → Q := fun j hj _ e2 => absurd (e2.symm.trans e) hj
  unfold w_Op_perform
  exact ⟨w0, ⟨ne 1 (by decide), fun _ => ⟨ne 2 (by decide), fun _ => ⟨ne 3 (by decide), fun _ => ⟨ne 4 (by decide), fun _ => ⟨ne 5 (by decide), fun _ => ⟨ne 6 (by decide), fun _ => ⟨ne 7 (by decide), fun _ => ⟨ne 8 (by decide), fun _ => ⟨ne 9 (by decide), fun _ => ⟨ne 10 (by decide), fun _ => ⟨ne 11 (by decide), fun _ => ⟨ne 12 (by decide), fun _ => ⟨ne 13 (by decide), fun _ => ⟨ne 14 (by decide), fun _ => ⟨ne 15 (by decide), fun _ => ⟨ne 16 (by decide), fun _ => ⟨fun _ => w, fun z => absurd e z⟩⟩⟩⟩⟩⟩⟩⟩⟩⟩⟩⟩⟩⟩⟩⟩⟩⟩
theorem pw_18 (e : f_Op_operand (pI c 8 5 a) 0 = 18) (w0 : w_Op_operand (pI c 8 5 a) 0) (w : (w_Op_slotAt (pI c 8 5 a) 2 ∧ w_Op_operand (pI c 8 5 a) 3 ∧ w_Op_fits (pI c 8 5 a) (f_Op_slotAt (pI c 8 5 a) 2) (f_Op_operand (pI c 8 5 a) 3) ∧ ∀ v, w_Op_perform_163 fu (pI c 8 5 a) v 1)) : w_Op_perform fu c a := by
  have ne : ∀ j : Int32, j ≠ 18 → ∀ {Q : Prop}, f_Op_operand (pI c 8 5 a) 0 = j → Q := fun j hj _ e2 => absurd (e2.symm.trans e) hj
  unfold w_Op_perform
  exact ⟨w0, ⟨ne 1 (by decide), fun _ => ⟨ne 2 (by decide), fun _ => ⟨ne 3 (by decide), fun _ => ⟨ne 4 (by decide), fun _ => ⟨ne 5 (by decide), fun _ => ⟨ne 6 (by decide), fun _ => ⟨ne 7 (by decide), fun _ => ⟨ne 8 (by decide), fun _ => ⟨ne 9 (by decide), fun _ => ⟨ne 10 (by decide), fun _ => ⟨ne 11 (by decide), fun _ => ⟨ne 12 (by decide), fun _ => ⟨ne 13 (by decide), fun _ => ⟨ne 14 (by decide), fun _ => ⟨ne 15 (by decide), fun _ => ⟨ne 16 (by decide), fun _ => ⟨ne 17 (by decide), fun _ => ⟨fun _ => ⟨w.1, w.2.1, w.2.2.1, fun _ => w.2.2.2 0, fun _ => w.2.2.2 1⟩, fun z => absurd e z⟩⟩⟩⟩⟩⟩⟩⟩⟩⟩⟩⟩⟩⟩⟩⟩⟩⟩⟩
theorem pw_19 (e : f_Op_operand (pI c 8 5 a) 0 = 19) (w0 : w_Op_operand (pI c 8 5 a) 0) (w : (w_Op_slotAt (pI c 8 5 a) 3 ∧ (w_Op_numberAt (pI c 8 5 a) 4 ∧ (w_Op_takeMember (pI c 8 5 a) (f_Op_slotAt (pI c 8 5 a) 3) (f_Op_numberAt (pI c 8 5 a) 4) ∧ True)))) : w_Op_perform fu c a := by
  have ne : ∀ j : Int32, j ≠ 19 → ∀ {Q : Prop}, f_Op_operand (pI c 8 5 a) 0 = j → Q := fun j hj _ e2 => absurd (e2.symm.trans e) hj
  unfold w_Op_perform
  exact ⟨w0, ⟨ne 1 (by decide), fun _ => ⟨ne 2 (by decide), fun _ => ⟨ne 3 (by decide), fun _ => ⟨ne 4 (by decide), fun _ => ⟨ne 5 (by decide), fun _ => ⟨ne 6 (by decide), fun _ => ⟨ne 7 (by decide), fun _ => ⟨ne 8 (by decide), fun _ => ⟨ne 9 (by decide), fun _ => ⟨ne 10 (by decide), fun _ => ⟨ne 11 (by decide), fun _ => ⟨ne 12 (by decide), fun _ => ⟨ne 13 (by decide), fun _ => ⟨ne 14 (by decide), fun _ => ⟨ne 15 (by decide), fun _ => ⟨ne 16 (by decide), fun _ => ⟨ne 17 (by decide), fun _ => ⟨ne 18 (by decide), fun _ => ⟨fun _ => w, fun z => absurd e z⟩⟩⟩⟩⟩⟩⟩⟩⟩⟩⟩⟩⟩⟩⟩⟩⟩⟩⟩⟩
theorem pw_20 (e : f_Op_operand (pI c 8 5 a) 0 = 20) (w0 : w_Op_operand (pI c 8 5 a) 0) (w : (w_Op_slotAt (pI c 8 5 a) 2 ∧ (w_Op_numberAt (pI c 8 5 a) 3 ∧ (w_Op_putMember (pI c 8 5 a) (f_Op_slotAt (pI c 8 5 a) 2) (f_Op_numberAt (pI c 8 5 a) 3) ∧ True)))) : w_Op_perform fu c a := by
  have ne : ∀ j : Int32, j ≠ 20 → ∀ {Q : Prop}, f_Op_operand (pI c 8 5 a) 0 = j → Q := fun j hj _ e2 => absurd (e2.symm.trans e) hj
  unfold w_Op_perform
  exact ⟨w0, ⟨ne 1 (by decide), fun _ => ⟨ne 2 (by decide), fun _ => ⟨ne 3 (by decide), fun _ => ⟨ne 4 (by decide), fun _ => ⟨ne 5 (by decide), fun _ => ⟨ne 6 (by decide), fun _ => ⟨ne 7 (by decide), fun _ => ⟨ne 8 (by decide), fun _ => ⟨ne 9 (by decide), fun _ => ⟨ne 10 (by decide), fun _ => ⟨ne 11 (by decide), fun _ => ⟨ne 12 (by decide), fun _ => ⟨ne 13 (by decide), fun _ => ⟨ne 14 (by decide), fun _ => ⟨ne 15 (by decide), fun _ => ⟨ne 16 (by decide), fun _ => ⟨ne 17 (by decide), fun _ => ⟨ne 18 (by decide), fun _ => ⟨ne 19 (by decide), fun _ => ⟨fun _ => w, fun z => absurd e z⟩⟩⟩⟩⟩⟩⟩⟩⟩⟩⟩⟩⟩⟩⟩⟩⟩⟩⟩⟩⟩
theorem pw_21 (e : f_Op_operand (pI c 8 5 a) 0 = 21) (w0 : w_Op_operand (pI c 8 5 a) 0) (w : (w_Op_slotAt (pI c 8 5 a) 1 ∧ (w_Op_slotAt (pI c 8 5 a) 3 ∧ (w_Op_copyMembers fu (pI c 8 5 a) (f_Op_slotAt (pI c 8 5 a) 1) (f_Op_slotAt (pI c 8 5 a) 3) ∧ True)))) : w_Op_perform fu c a := by
  have ne : ∀ j : Int32, j ≠ 21 → ∀ {Q : Prop}, f_Op_operand (pI c 8 5 a) 0 = j → Q := fun j hj _ e2 => absurd (e2.symm.trans e) hj
  unfold w_Op_perform
  exact ⟨w0, ⟨ne 1 (by decide), fun _ => ⟨ne 2 (by decide), fun _ => ⟨ne 3 (by decide), fun _ => ⟨ne 4 (by decide), fun _ => ⟨ne 5 (by decide), fun _ => ⟨ne 6 (by decide), fun _ => ⟨ne 7 (by decide), fun _ => ⟨ne 8 (by decide), fun _ => ⟨ne 9 (by decide), fun _ => ⟨ne 10 (by decide), fun _ => ⟨ne 11 (by decide), fun _ => ⟨ne 12 (by decide), fun _ => ⟨ne 13 (by decide), fun _ => ⟨ne 14 (by decide), fun _ => ⟨ne 15 (by decide), fun _ => ⟨ne 16 (by decide), fun _ => ⟨ne 17 (by decide), fun _ => ⟨ne 18 (by decide), fun _ => ⟨ne 19 (by decide), fun _ => ⟨ne 20 (by decide), fun _ => ⟨fun _ => w, fun z => absurd e z⟩⟩⟩⟩⟩⟩⟩⟩⟩⟩⟩⟩⟩⟩⟩⟩⟩⟩⟩⟩⟩⟩
theorem pw_22 (e : f_Op_operand (pI c 8 5 a) 0 = 22) (w0 : w_Op_operand (pI c 8 5 a) 0) (w : (w_Op_slotAt (pI c 8 5 a) 2 ∧ (w_Op_makeTwin fu (pI c 8 5 a) (f_Op_slotAt (pI c 8 5 a) 2) ∧ True))) : w_Op_perform fu c a := by
  have ne : ∀ j : Int32, j ≠ 22 → ∀ {Q : Prop}, f_Op_operand (pI c 8 5 a) 0 = j → Q := fun j hj _ e2 => absurd (e2.symm.trans e) hj
  unfold w_Op_perform
  exact ⟨w0, ⟨ne 1 (by decide), fun _ => ⟨ne 2 (by decide), fun _ => ⟨ne 3 (by decide), fun _ => ⟨ne 4 (by decide), fun _ => ⟨ne 5 (by decide), fun _ => ⟨ne 6 (by decide), fun _ => ⟨ne 7 (by decide), fun _ => ⟨ne 8 (by decide), fun _ => ⟨ne 9 (by decide), fun _ => ⟨ne 10 (by decide), fun _ => ⟨ne 11 (by decide), fun _ => ⟨ne 12 (by decide), fun _ => ⟨ne 13 (by decide), fun _ => ⟨ne 14 (by decide), fun _ => ⟨ne 15 (by decide), fun _ => ⟨ne 16 (by decide), fun _ => ⟨ne 17 (by decide), fun _ => ⟨ne 18 (by decide), fun _ => ⟨ne 19 (by decide), fun _ => ⟨ne 20 (by decide), fun _ => ⟨ne 21 (by decide), fun _ => ⟨fun _ => w, fun z => absurd e z⟩⟩⟩⟩⟩⟩⟩⟩⟩⟩⟩⟩⟩⟩⟩⟩⟩⟩⟩⟩⟩⟩⟩
theorem pw_23 (e : f_Op_operand (pI c 8 5 a) 0 = 23) (w0 : w_Op_operand (pI c 8 5 a) 0) (w : (w_Op_slotAt (pI c 8 5 a) 2 ∧ (w_Op_numberAt (pI c 8 5 a) 3 ∧ (w_Op_takeThing (pI c 8 5 a) 9 (f_Op_slotAt (pI c 8 5 a) 2) (f_Op_numberAt (pI c 8 5 a) 3) ∧ True)))) : w_Op_perform fu c a := by
  have ne : ∀ j : Int32, j ≠ 23 → ∀ {Q : Prop}, f_Op_operand (pI c 8 5 a) 0 = j → Q := fun j hj _ e2 => absurd (e2.symm.trans e) hj
  unfold w_Op_perform
  exact ⟨w0, ⟨ne 1 (by decide), fun _ => ⟨ne 2 (by decide), fun _ => ⟨ne 3 (by decide), fun _ => ⟨ne 4 (by decide), fun _ => ⟨ne 5 (by decide), fun _ => ⟨ne 6 (by decide), fun _ => ⟨ne 7 (by decide), fun _ => ⟨ne 8 (by decide), fun _ => ⟨ne 9 (by decide), fun _ => ⟨ne 10 (by decide), fun _ => ⟨ne 11 (by decide), fun _ => ⟨ne 12 (by decide), fun _ => ⟨ne 13 (by decide), fun _ => ⟨ne 14 (by decide), fun _ => ⟨ne 15 (by decide), fun _ => ⟨ne 16 (by decide), fun _ => ⟨ne 17 (by decide), fun _ => ⟨ne 18 (by decide), fun _ => ⟨ne 19 (by decide), fun _ => ⟨ne 20 (by decide), fun _ => ⟨ne 21 (by decide), fun _ => ⟨ne 22 (by decide), fun _ => ⟨fun _ => w, fun z => absurd e z⟩⟩⟩⟩⟩⟩⟩⟩⟩⟩⟩⟩⟩⟩⟩⟩⟩⟩⟩⟩⟩⟩⟩⟩
theorem pw_24 (e : f_Op_operand (pI c 8 5 a) 0 = 24) (w0 : w_Op_operand (pI c 8 5 a) 0) (w : (w_Op_slotAt (pI c 8 5 a) 1 ∧ (w_Op_numberAt (pI c 8 5 a) 2 ∧ (w_Op_slotAt (pI c 8 5 a) 3 ∧ (w_Op_putThing (pI c 8 5 a) 9 (f_Op_slotAt (pI c 8 5 a) 1) (f_Op_numberAt (pI c 8 5 a) 2) (f_Op_slotAt (pI c 8 5 a) 3) ∧ True))))) : w_Op_perform fu c a := by
  have ne : ∀ j : Int32, j ≠ 24 → ∀ {Q : Prop}, f_Op_operand (pI c 8 5 a) 0 = j → Q := fun j hj _ e2 => absurd (e2.symm.trans e) hj
  unfold w_Op_perform
  exact ⟨w0, ⟨ne 1 (by decide), fun _ => ⟨ne 2 (by decide), fun _ => ⟨ne 3 (by decide), fun _ => ⟨ne 4 (by decide), fun _ => ⟨ne 5 (by decide), fun _ => ⟨ne 6 (by decide), fun _ => ⟨ne 7 (by decide), fun _ => ⟨ne 8 (by decide), fun _ => ⟨ne 9 (by decide), fun _ => ⟨ne 10 (by decide), fun _ => ⟨ne 11 (by decide), fun _ => ⟨ne 12 (by decide), fun _ => ⟨ne 13 (by decide), fun _ => ⟨ne 14 (by decide), fun _ => ⟨ne 15 (by decide), fun _ => ⟨ne 16 (by decide), fun _ => ⟨ne 17 (by decide), fun _ => ⟨ne 18 (by decide), fun _ => ⟨ne 19 (by decide), fun _ => ⟨ne 20 (by decide), fun _ => ⟨ne 21 (by decide), fun _ => ⟨ne 22 (by decide), fun _ => ⟨ne 23 (by decide), fun _ => ⟨fun _ => w, fun z => absurd e z⟩⟩⟩⟩⟩⟩⟩⟩⟩⟩⟩⟩⟩⟩⟩⟩⟩⟩⟩⟩⟩⟩⟩⟩⟩
theorem pw_25 (e : f_Op_operand (pI c 8 5 a) 0 = 25) (w0 : w_Op_operand (pI c 8 5 a) 0) (w : (w_Op_slotAt (pI c 8 5 a) 2 ∧ (w_Op_numberAt (pI c 8 5 a) 3 ∧ (w_Op_takeThing (pI c 8 5 a) 10 (f_Op_slotAt (pI c 8 5 a) 2) (f_Op_numberAt (pI c 8 5 a) 3) ∧ True)))) : w_Op_perform fu c a := by
  have ne : ∀ j : Int32, j ≠ 25 → ∀ {Q : Prop}, f_Op_operand (pI c 8 5 a) 0 = j → Q := fun j hj _ e2 => absurd (e2.symm.trans e) hj
  unfold w_Op_perform
  exact ⟨w0, ⟨ne 1 (by decide), fun _ => ⟨ne 2 (by decide), fun _ => ⟨ne 3 (by decide), fun _ => ⟨ne 4 (by decide), fun _ => ⟨ne 5 (by decide), fun _ => ⟨ne 6 (by decide), fun _ => ⟨ne 7 (by decide), fun _ => ⟨ne 8 (by decide), fun _ => ⟨ne 9 (by decide), fun _ => ⟨ne 10 (by decide), fun _ => ⟨ne 11 (by decide), fun _ => ⟨ne 12 (by decide), fun _ => ⟨ne 13 (by decide), fun _ => ⟨ne 14 (by decide), fun _ => ⟨ne 15 (by decide), fun _ => ⟨ne 16 (by decide), fun _ => ⟨ne 17 (by decide), fun _ => ⟨ne 18 (by decide), fun _ => ⟨ne 19 (by decide), fun _ => ⟨ne 20 (by decide), fun _ => ⟨ne 21 (by decide), fun _ => ⟨ne 22 (by decide), fun _ => ⟨ne 23 (by decide), fun _ => ⟨ne 24 (by decide), fun _ => ⟨fun _ => w, fun z => absurd e z⟩⟩⟩⟩⟩⟩⟩⟩⟩⟩⟩⟩⟩⟩⟩⟩⟩⟩⟩⟩⟩⟩⟩⟩⟩⟩
theorem pw_26 (e : f_Op_operand (pI c 8 5 a) 0 = 26) (w0 : w_Op_operand (pI c 8 5 a) 0) (w : (w_Op_slotAt (pI c 8 5 a) 1 ∧ (w_Op_numberAt (pI c 8 5 a) 2 ∧ (w_Op_slotAt (pI c 8 5 a) 3 ∧ (w_Op_putThing (pI c 8 5 a) 10 (f_Op_slotAt (pI c 8 5 a) 1) (f_Op_numberAt (pI c 8 5 a) 2) (f_Op_slotAt (pI c 8 5 a) 3) ∧ True))))) : w_Op_perform fu c a := by
  have ne : ∀ j : Int32, j ≠ 26 → ∀ {Q : Prop}, f_Op_operand (pI c 8 5 a) 0 = j → Q := fun j hj _ e2 => absurd (e2.symm.trans e) hj
  unfold w_Op_perform
  exact ⟨w0, ⟨ne 1 (by decide), fun _ => ⟨ne 2 (by decide), fun _ => ⟨ne 3 (by decide), fun _ => ⟨ne 4 (by decide), fun _ => ⟨ne 5 (by decide), fun _ => ⟨ne 6 (by decide), fun _ => ⟨ne 7 (by decide), fun _ => ⟨ne 8 (by decide), fun _ => ⟨ne 9 (by decide), fun _ => ⟨ne 10 (by decide), fun _ => ⟨ne 11 (by decide), fun _ => ⟨ne 12 (by decide), fun _ => ⟨ne 13 (by decide), fun _ => ⟨ne 14 (by decide), fun _ => ⟨ne 15 (by decide), fun _ => ⟨ne 16 (by decide), fun _ => ⟨ne 17 (by decide), fun _ => ⟨ne 18 (by decide), fun _ => ⟨ne 19 (by decide), fun _ => ⟨ne 20 (by decide), fun _ => ⟨ne 21 (by decide), fun _ => ⟨ne 22 (by decide), fun _ => ⟨ne 23 (by decide), fun _ => ⟨ne 24 (by decide), fun _ => ⟨ne 25 (by decide), fun _ => ⟨fun _ => w, fun z => absurd e z⟩⟩⟩⟩⟩⟩⟩⟩⟩⟩⟩⟩⟩⟩⟩⟩⟩⟩⟩⟩⟩⟩⟩⟩⟩⟩⟩
theorem pw_27 (e : f_Op_operand (pI c 8 5 a) 0 = 27) (w0 : w_Op_operand (pI c 8 5 a) 0) (w : (w_Op_operand (pI c 8 5 a) 1 ∧ (w_Op_slotAt (pI c 8 5 a) 3 ∧ (w_Op_takeField (pI c 8 5 a) (f_Op_operand (pI c 8 5 a) 1) (f_Op_slotAt (pI c 8 5 a) 3) ∧ True)))) : w_Op_perform fu c a := by
  have ne : ∀ j : Int32, j ≠ 27 → ∀ {Q : Prop}, f_Op_operand (pI c 8 5 a) 0 = j → Q := fun j hj _ e2 => absurd (e2.symm.trans e) hj
  unfold w_Op_perform
  exact ⟨w0, ⟨ne 1 (by decide), fun _ => ⟨ne 2 (by decide), fun _ => ⟨ne 3 (by decide), fun _ => ⟨ne 4 (by decide), fun _ => ⟨ne 5 (by decide), fun _ => ⟨ne 6 (by decide), fun _ => ⟨ne 7 (by decide), fun _ => ⟨ne 8 (by decide), fun _ => ⟨ne 9 (by decide), fun _ => ⟨ne 10 (by decide), fun _ => ⟨ne 11 (by decide), fun _ => ⟨ne 12 (by decide), fun _ => ⟨ne 13 (by decide), fun _ => ⟨ne 14 (by decide), fun _ => ⟨ne 15 (by decide), fun _ => ⟨ne 16 (by decide), fun _ => ⟨ne 17 (by decide), fun _ => ⟨ne 18 (by decide), fun _ => ⟨ne 19 (by decide), fun _ => ⟨ne 20 (by decide), fun _ => ⟨ne 21 (by decide), fun _ => ⟨ne 22 (by decide), fun _ => ⟨ne 23 (by decide), fun _ => ⟨ne 24 (by decide), fun _ => ⟨ne 25 (by decide), fun _ => ⟨ne 26 (by decide), fun _ => ⟨fun _ => w, fun z => absurd e z⟩⟩⟩⟩⟩⟩⟩⟩⟩⟩⟩⟩⟩⟩⟩⟩⟩⟩⟩⟩⟩⟩⟩⟩⟩⟩⟩⟩
theorem pw_28 (e : f_Op_operand (pI c 8 5 a) 0 = 28) (w0 : w_Op_operand (pI c 8 5 a) 0) (w : (w_Op_operand (pI c 8 5 a) 1 ∧ (w_Op_slotAt (pI c 8 5 a) 2 ∧ (w_Op_putField (pI c 8 5 a) (f_Op_operand (pI c 8 5 a) 1) (f_Op_slotAt (pI c 8 5 a) 2) ∧ True)))) : w_Op_perform fu c a := by
  have ne : ∀ j : Int32, j ≠ 28 → ∀ {Q : Prop}, f_Op_operand (pI c 8 5 a) 0 = j → Q := fun j hj _ e2 => absurd (e2.symm.trans e) hj
  unfold w_Op_perform
  exact ⟨w0, ⟨ne 1 (by decide), fun _ => ⟨ne 2 (by decide), fun _ => ⟨ne 3 (by decide), fun _ => ⟨ne 4 (by decide), fun _ => ⟨ne 5 (by decide), fun _ => ⟨ne 6 (by decide), fun _ => ⟨ne 7 (by decide), fun _ => ⟨ne 8 (by decide), fun _ => ⟨ne 9 (by decide), fun _ => ⟨ne 10 (by decide), fun _ => ⟨ne 11 (by decide), fun _ => ⟨ne 12 (by decide), fun _ => ⟨ne 13 (by decide), fun _ => ⟨ne 14 (by decide), fun _ => ⟨ne 15 (by decide), fun _ => ⟨ne 16 (by decide), fun _ => ⟨ne 17 (by decide), fun _ => ⟨ne 18 (by decide), fun _ => ⟨ne 19 (by decide), fun _ => ⟨ne 20 (by decide), fun _ => ⟨ne 21 (by decide), fun _ => ⟨ne 22 (by decide), fun _ => ⟨ne 23 (by decide), fun _ => ⟨ne 24 (by decide), fun _ => ⟨ne 25 (by decide), fun _ => ⟨ne 26 (by decide), fun _ => ⟨ne 27 (by decide), fun _ => ⟨fun _ => w, fun z => absurd e z⟩⟩⟩⟩⟩⟩⟩⟩⟩⟩⟩⟩⟩⟩⟩⟩⟩⟩⟩⟩⟩⟩⟩⟩⟩⟩⟩⟩⟩
theorem pw_29 (e : f_Op_operand (pI c 8 5 a) 0 = 29) (w0 : w_Op_operand (pI c 8 5 a) 0) (w : (w_Op_operand (pI c 8 5 a) 1 ∧ (w_Op_slotAt (pI c 8 5 a) 3 ∧ (w_Op_numberAt (pI c 8 5 a) 4 ∧ (w_Op_ask fu (pI c 8 5 a) (f_Op_operand (pI c 8 5 a) 1) (f_Op_slotAt (pI c 8 5 a) 3) (f_Op_numberAt (pI c 8 5 a) 4) ∧ True))))) : w_Op_perform fu c a := by
  have ne : ∀ j : Int32, j ≠ 29 → ∀ {Q : Prop}, f_Op_operand (pI c 8 5 a) 0 = j → Q := fun j hj _ e2 => absurd (e2.symm.trans e) hj
  unfold w_Op_perform
  exact ⟨w0, ⟨ne 1 (by decide), fun _ => ⟨ne 2 (by decide), fun _ => ⟨ne 3 (by decide), fun _ => ⟨ne 4 (by decide), fun _ => ⟨ne 5 (by decide), fun _ => ⟨ne 6 (by decide), fun _ => ⟨ne 7 (by decide), fun _ => ⟨ne 8 (by decide), fun _ => ⟨ne 9 (by decide), fun _ => ⟨ne 10 (by decide), fun _ => ⟨ne 11 (by decide), fun _ => ⟨ne 12 (by decide), fun _ => ⟨ne 13 (by decide), fun _ => ⟨ne 14 (by decide), fun _ => ⟨ne 15 (by decide), fun _ => ⟨ne 16 (by decide), fun _ => ⟨ne 17 (by decide), fun _ => ⟨ne 18 (by decide), fun _ => ⟨ne 19 (by decide), fun _ => ⟨ne 20 (by decide), fun _ => ⟨ne 21 (by decide), fun _ => ⟨ne 22 (by decide), fun _ => ⟨ne 23 (by decide), fun _ => ⟨ne 24 (by decide), fun _ => ⟨ne 25 (by decide), fun _ => ⟨ne 26 (by decide), fun _ => ⟨ne 27 (by decide), fun _ => ⟨ne 28 (by decide), fun _ => ⟨fun _ => w, fun z => absurd e z⟩⟩⟩⟩⟩⟩⟩⟩⟩⟩⟩⟩⟩⟩⟩⟩⟩⟩⟩⟩⟩⟩⟩⟩⟩⟩⟩⟩⟩⟩
theorem pw_34 (e : f_Op_operand (pI c 8 5 a) 0 = 34) (w0 : w_Op_operand (pI c 8 5 a) 0) (w : (w_Op_slotAt (pI c 8 5 a) 1 ∧ (w_Op_tell (pI c 8 5 a) (f_Op_slotAt (pI c 8 5 a) 1) ∧ True))) : w_Op_perform fu c a := by
  have ne : ∀ j : Int32, j ≠ 34 → ∀ {Q : Prop}, f_Op_operand (pI c 8 5 a) 0 = j → Q := fun j hj _ e2 => absurd (e2.symm.trans e) hj
  unfold w_Op_perform
  exact ⟨w0, ⟨ne 1 (by decide), fun _ => ⟨ne 2 (by decide), fun _ => ⟨ne 3 (by decide), fun _ => ⟨ne 4 (by decide), fun _ => ⟨ne 5 (by decide), fun _ => ⟨ne 6 (by decide), fun _ => ⟨ne 7 (by decide), fun _ => ⟨ne 8 (by decide), fun _ => ⟨ne 9 (by decide), fun _ => ⟨ne 10 (by decide), fun _ => ⟨ne 11 (by decide), fun _ => ⟨ne 12 (by decide), fun _ => ⟨ne 13 (by decide), fun _ => ⟨ne 14 (by decide), fun _ => ⟨ne 15 (by decide), fun _ => ⟨ne 16 (by decide), fun _ => ⟨ne 17 (by decide), fun _ => ⟨ne 18 (by decide), fun _ => ⟨ne 19 (by decide), fun _ => ⟨ne 20 (by decide), fun _ => ⟨ne 21 (by decide), fun _ => ⟨ne 22 (by decide), fun _ => ⟨ne 23 (by decide), fun _ => ⟨ne 24 (by decide), fun _ => ⟨ne 25 (by decide), fun _ => ⟨ne 26 (by decide), fun _ => ⟨ne 27 (by decide), fun _ => ⟨ne 28 (by decide), fun _ => ⟨ne 29 (by decide), fun _ => ⟨ne 30 (by decide), fun _ => ⟨ne 31 (by decide), fun _ => ⟨ne 32 (by decide), fun _ => ⟨ne 33 (by decide), fun _ => ⟨fun _ => w, fun z => absurd e z⟩⟩⟩⟩⟩⟩⟩⟩⟩⟩⟩⟩⟩⟩⟩⟩⟩⟩⟩⟩⟩⟩⟩⟩⟩⟩⟩⟩⟩⟩⟩⟩⟩⟩⟩
end DP
section DM
variable {fu : Nat} {r : St} {q : Int32}
theorem ma_1 : f_M_act fu r 1 q = f_M_reckons fu r 1 q := rfl
theorem mw_1 (w : w_M_reckons fu r 1 q) : w_M_act fu r 1 q := ⟨(fun z => nomatch z), fun _ => ⟨w, trivial⟩⟩
theorem ma_2 : f_M_act fu r 2 q = f_M_reckons fu r 2 q := rfl
theorem mw_2 (w : w_M_reckons fu r 2 q) : w_M_act fu r 2 q := ⟨(fun z => nomatch z), fun _ => ⟨w, trivial⟩⟩
theorem ma_3 : f_M_act fu r 3 q = f_M_reckons fu r 3 q := rfl
theorem mw_3 (w : w_M_reckons fu r 3 q) : w_M_act fu r 3 q := ⟨(fun z => nomatch z), fun _ => ⟨w, trivial⟩⟩
theorem ma_4 : f_M_act fu r 4 q = f_M_reckons fu r 4 q := rfl
theorem mw_4 (w : w_M_reckons fu r 4 q) : w_M_act fu r 4 q := ⟨(fun z => nomatch z), fun _ => ⟨w, trivial⟩⟩
theorem ma_5 : f_M_act fu r 5 q = f_M_reckons fu r 5 q := rfl
theorem mw_5 (w : w_M_reckons fu r 5 q) : w_M_act fu r 5 q := ⟨(fun z => nomatch z), fun _ => ⟨w, trivial⟩⟩
theorem ma_6 : f_M_act fu r 6 q = f_M_reckons fu r 6 q := rfl
theorem mw_6 (w : w_M_reckons fu r 6 q) : w_M_act fu r 6 q := ⟨(fun z => nomatch z), fun _ => ⟨w, trivial⟩⟩
theorem ma_7 : f_M_act fu r 7 q = f_M_reckons fu r 7 q := rfl
theorem mw_7 (w : w_M_reckons fu r 7 q) : w_M_act fu r 7 q := ⟨(fun z => nomatch z), fun _ => ⟨w, trivial⟩⟩
theorem ma_8 : f_M_act fu r 8 q = f_M_reckons fu r 8 q := rfl
theorem mw_8 (w : w_M_reckons fu r 8 q) : w_M_act fu r 8 q := ⟨(fun z => nomatch z), fun _ => ⟨w, trivial⟩⟩
theorem ma_9 : f_M_act fu r 9 q = f_M_reckons fu r 9 q := rfl
theorem mw_9 (w : w_M_reckons fu r 9 q) : w_M_act fu r 9 q := ⟨(fun z => nomatch z), fun _ => ⟨w, trivial⟩⟩
theorem ma_10 : f_M_act fu r 10 q = f_M_makes fu r 10 q := rfl
theorem mw_10 (w : w_M_makes fu r 10 q) : w_M_act fu r 10 q := ⟨fun _ => ⟨(fun z => nomatch z), fun _ => ⟨w, trivial⟩⟩, (fun z => nomatch z)⟩
theorem ma_11 : f_M_act fu r 11 q = f_M_makes fu r 11 q := rfl
theorem mw_11 (w : w_M_makes fu r 11 q) : w_M_act fu r 11 q := ⟨fun _ => ⟨(fun z => nomatch z), fun _ => ⟨w, trivial⟩⟩, (fun z => nomatch z)⟩
theorem ma_12 : f_M_act fu r 12 q = f_M_makes fu r 12 q := rfl
theorem mw_12 (w : w_M_makes fu r 12 q) : w_M_act fu r 12 q := ⟨fun _ => ⟨(fun z => nomatch z), fun _ => ⟨w, trivial⟩⟩, (fun z => nomatch z)⟩
theorem ma_13 : f_M_act fu r 13 q = f_M_makes fu r 13 q := rfl
theorem mw_13 (w : w_M_makes fu r 13 q) : w_M_act fu r 13 q := ⟨fun _ => ⟨(fun z => nomatch z), fun _ => ⟨w, trivial⟩⟩, (fun z => nomatch z)⟩
theorem ma_14 : f_M_act fu r 14 q = f_M_makes fu r 14 q := rfl
theorem mw_14 (w : w_M_makes fu r 14 q) : w_M_act fu r 14 q := ⟨fun _ => ⟨(fun z => nomatch z), fun _ => ⟨w, trivial⟩⟩, (fun z => nomatch z)⟩
theorem ma_15 : f_M_act fu r 15 q = f_M_makes fu r 15 q := rfl
theorem mw_15 (w : w_M_makes fu r 15 q) : w_M_act fu r 15 q := ⟨fun _ => ⟨(fun z => nomatch z), fun _ => ⟨w, trivial⟩⟩, (fun z => nomatch z)⟩
theorem ma_16 : f_M_act fu r 16 q = f_M_makes fu r 16 q := rfl
theorem mw_16 (w : w_M_makes fu r 16 q) : w_M_act fu r 16 q := ⟨fun _ => ⟨(fun z => nomatch z), fun _ => ⟨w, trivial⟩⟩, (fun z => nomatch z)⟩
theorem ma_17 : f_M_act fu r 17 q = f_M_members fu r 17 q := rfl
theorem mw_17 (w : w_M_members fu r 17 q) : w_M_act fu r 17 q := ⟨fun _ => ⟨fun _ => ⟨(fun z => nomatch z), fun _ => ⟨w, trivial⟩⟩, (fun z => nomatch z)⟩, (fun z => nomatch z)⟩
theorem ma_18 : f_M_act fu r 18 q = f_M_members fu r 18 q := rfl
theorem mw_18 (w : w_M_members fu r 18 q) : w_M_act fu r 18 q := ⟨fun _ => ⟨fun _ => ⟨(fun z => nomatch z), fun _ => ⟨w, trivial⟩⟩, (fun z => nomatch z)⟩, (fun z => nomatch z)⟩
theorem ma_19 : f_M_act fu r 19 q = f_M_members fu r 19 q := rfl
theorem mw_19 (w : w_M_members fu r 19 q) : w_M_act fu r 19 q := ⟨fun _ => ⟨fun _ => ⟨(fun z => nomatch z), fun _ => ⟨w, trivial⟩⟩, (fun z => nomatch z)⟩, (fun z => nomatch z)⟩
theorem ma_20 : f_M_act fu r 20 q = f_M_members fu r 20 q := rfl
theorem mw_20 (w : w_M_members fu r 20 q) : w_M_act fu r 20 q := ⟨fun _ => ⟨fun _ => ⟨(fun z => nomatch z), fun _ => ⟨w, trivial⟩⟩, (fun z => nomatch z)⟩, (fun z => nomatch z)⟩
theorem ma_21 : f_M_act fu r 21 q = f_M_members fu r 21 q := rfl
theorem mw_21 (w : w_M_members fu r 21 q) : w_M_act fu r 21 q := ⟨fun _ => ⟨fun _ => ⟨(fun z => nomatch z), fun _ => ⟨w, trivial⟩⟩, (fun z => nomatch z)⟩, (fun z => nomatch z)⟩
theorem ma_22 : f_M_act fu r 22 q = f_M_members fu r 22 q := rfl
theorem mw_22 (w : w_M_members fu r 22 q) : w_M_act fu r 22 q := ⟨fun _ => ⟨fun _ => ⟨(fun z => nomatch z), fun _ => ⟨w, trivial⟩⟩, (fun z => nomatch z)⟩, (fun z => nomatch z)⟩
theorem ma_23 : f_M_act fu r 23 q = f_M_places r 23 q := rfl
theorem mw_23 (w : w_M_places r 23 q) : w_M_act fu r 23 q := ⟨fun _ => ⟨fun _ => ⟨fun _ => ⟨(fun z => nomatch z), fun _ => ⟨w, trivial⟩⟩, (fun z => nomatch z)⟩, (fun z => nomatch z)⟩, (fun z => nomatch z)⟩
theorem ma_24 : f_M_act fu r 24 q = f_M_places r 24 q := rfl
theorem mw_24 (w : w_M_places r 24 q) : w_M_act fu r 24 q := ⟨fun _ => ⟨fun _ => ⟨fun _ => ⟨(fun z => nomatch z), fun _ => ⟨w, trivial⟩⟩, (fun z => nomatch z)⟩, (fun z => nomatch z)⟩, (fun z => nomatch z)⟩
theorem ma_25 : f_M_act fu r 25 q = f_M_places r 25 q := rfl
theorem mw_25 (w : w_M_places r 25 q) : w_M_act fu r 25 q := ⟨fun _ => ⟨fun _ => ⟨fun _ => ⟨(fun z => nomatch z), fun _ => ⟨w, trivial⟩⟩, (fun z => nomatch z)⟩, (fun z => nomatch z)⟩, (fun z => nomatch z)⟩
theorem ma_26 : f_M_act fu r 26 q = f_M_places r 26 q := rfl
theorem mw_26 (w : w_M_places r 26 q) : w_M_act fu r 26 q := ⟨fun _ => ⟨fun _ => ⟨fun _ => ⟨(fun z => nomatch z), fun _ => ⟨w, trivial⟩⟩, (fun z => nomatch z)⟩, (fun z => nomatch z)⟩, (fun z => nomatch z)⟩
theorem ma_27 : f_M_act fu r 27 q = f_M_fields r 27 q := rfl
theorem mw_27 (w : w_M_fields r 27 q) : w_M_act fu r 27 q := ⟨fun _ => ⟨fun _ => ⟨fun _ => ⟨fun _ => ⟨(fun z => nomatch z), fun _ => ⟨w, trivial⟩⟩, (fun z => nomatch z)⟩, (fun z => nomatch z)⟩, (fun z => nomatch z)⟩, (fun z => nomatch z)⟩
theorem ma_28 : f_M_act fu r 28 q = f_M_fields r 28 q := rfl
theorem mw_28 (w : w_M_fields r 28 q) : w_M_act fu r 28 q := ⟨fun _ => ⟨fun _ => ⟨fun _ => ⟨fun _ => ⟨(fun z => nomatch z), fun _ => ⟨w, trivial⟩⟩, (fun z => nomatch z)⟩, (fun z => nomatch z)⟩, (fun z => nomatch z)⟩, (fun z => nomatch z)⟩
theorem ma_29 : f_M_act fu r 29 q = f_M_asks fu r q := rfl
theorem mw_29 (w : w_M_asks fu r q) : w_M_act fu r 29 q := ⟨fun _ => ⟨fun _ => ⟨fun _ => ⟨fun _ => ⟨fun _ => ⟨(fun z => nomatch z), fun _ => ⟨w, trivial⟩⟩, (fun z => nomatch z)⟩, (fun z => nomatch z)⟩, (fun z => nomatch z)⟩, (fun z => nomatch z)⟩, (fun z => nomatch z)⟩
end DM
/-- an op that is as the check of a patch leaves it -/
def OV (r : St) (p : Nat) : Prop := (p : Int) + (f_M_wholeOf (sA r 30 p)).toInt ≤ 3200 ∧ ∀ j : Nat, (j : Int) + 1 < (f_M_wholeOf (sA r 30 p)).toInt → (f_M_leastOf (sA r 30 p) (nI j)).toInt ≤ (sA r 30 (p + 1 + j)).toInt ∧ (sA r 30 (p + 1 + j)).toInt ≤ (f_M_mostOf (sA r 30 p) (nI j) (sA r 30 (p + 1))).toInt
theorem OV.at {r : St} {p : Nat} (h : OV r p) {k : Int32} (e : sA r 30 p = k) : (p : Int) + (f_M_wholeOf k).toInt ≤ 3200 ∧ ∀ j : Nat, (j : Int) + 1 < (f_M_wholeOf k).toInt → (f_M_leastOf k (nI j)).toInt ≤ (sA r 30 (p + 1 + j)).toInt ∧ (sA r 30 (p + 1 + j)).toInt ≤ (f_M_mostOf k (nI j) (sA r 30 (p + 1))).toInt := by
  subst e
  exact h
theorem mo_f (x : Int32) : (cond (cn2 .eq x 6) (3 : Int32) (cond (cn2 .ne x 7) 7 3)).toInt = if x.toInt = 6 ∨ x.toInt = 7 then 3 else 7 := by
  rw [c2_eq, c2_ne, show (6 : Int32).toInt = 6 from rfl, show (7 : Int32).toInt = 7 from rfl]
  by_cases h : x.toInt = 6
  · rw [dt h, if_pos (Or.inl h)]; rfl
  · rw [df h]
    by_cases h2 : x.toInt = 7
    · rw [df (fun z => z h2), if_pos (Or.inr h2)]; rfl
    · rw [dt h2, if_neg (fun z => z.elim h h2)]; rfl
theorem mo_g (x : Int32) : (cond (cn2 .ne x 1) (cond (cn2 .ne x 3) (7 : Int32) 15) 3).toInt = if x.toInt = 1 then 3 else if x.toInt = 3 then 15 else 7 := by
  rw [c2_ne, c2_ne, show (1 : Int32).toInt = 1 from rfl, show (3 : Int32).toInt = 3 from rfl]
  by_cases h : x.toInt = 1
  · rw [df (fun z => z h), if_pos h]; rfl
  · rw [dt h, if_neg h]
    by_cases h2 : x.toInt = 3
    · rw [df (fun z => z h2), if_pos h2]; rfl
    · rw [dt h2, if_neg h2]; rfl
section DA
variable {G : AH} {T : Nat} {φ : Nat → Nat} {n u p fu : Nat} {c r : St} {a q : Int32}
theorem oa_1 (hfu : 1000000 ≤ fu) (h : RR G T φ n u (pI c 8 5 a) r) (hz : SZ (pI c 8 5 a)) (hc : CDH r p (pI c 8 5 a)) (hq : q.toInt = (p : Int) + 1) (hv : OV r p) (e : sA r 30 p = 1) : OUT G T φ n (pI c 8 5 a) r (f_Op_perform fu c a) (f_M_act fu r (sA r 30 p) q) ∧ w_Op_perform fu c a ∧ w_M_act fu r (sA r 30 p) q := by
  replace hv := hv.at e
  have hp : p + 6 ≤ 3200 := by have z : (p : Int) + 6 ≤ 3200 := hv.1; omega
  obtain ⟨o1, o2⟩ := o_opn (k := 0) (j := 0) hc rfl (by omega)
  replace o1 : f_Op_operand (pI c 8 5 a) 0 = 1 := o1.trans e
  have b1 : (sA r 30 (p + 1)).toInt ≤ 7 := (hv.2 0 (by decide)).2
  obtain ⟨x1, x2, x3⟩ := op_1 (fu := fu) (by omega) h hz hc hq hp b1
  rw [e, pf_1 o1, ma_1]
  exact ⟨x1, pw_1 o1 o2 x2, mw_1 x3⟩
theorem oa_2 (hfu : 1000000 ≤ fu) (h : RR G T φ n u (pI c 8 5 a) r) (hz : SZ (pI c 8 5 a)) (hc : CDH r p (pI c 8 5 a)) (hq : q.toInt = (p : Int) + 1) (hv : OV r p) (e : sA r 30 p = 2) : OUT G T φ n (pI c 8 5 a) r (f_Op_perform fu c a) (f_M_act fu r (sA r 30 p) q) ∧ w_Op_perform fu c a ∧ w_M_act fu r (sA r 30 p) q := by
  replace hv := hv.at e
  have hp : p + 3 ≤ 3200 := by have z : (p : Int) + 3 ≤ 3200 := hv.1; omega
  obtain ⟨o1, o2⟩ := o_opn (k := 0) (j := 0) hc rfl (by omega)
  replace o1 : f_Op_operand (pI c 8 5 a) 0 = 2 := o1.trans e
  have b1 : (sA r 30 (p + 1)).toInt ≤ 7 := (hv.2 0 (by decide)).2
  have b2 : (sA r 30 (p + 2)).toInt ≤ 7 := (hv.2 1 (by decide)).2
  obtain ⟨x1, x2, x3⟩ := op_2 (fu := fu) h hz hc hq hp b1 b2
  rw [e, pf_2 o1, ma_2]
  exact ⟨x1, pw_2 o1 o2 x2, mw_2 x3⟩
theorem oa_3 (hfu : 1000000 ≤ fu) (h : RR G T φ n u (pI c 8 5 a) r) (hz : SZ (pI c 8 5 a)) (hc : CDH r p (pI c 8 5 a)) (hq : q.toInt = (p : Int) + 1) (hv : OV r p) (e : sA r 30 p = 3) : OUT G T φ n (pI c 8 5 a) r (f_Op_perform fu c a) (f_M_act fu r (sA r 30 p) q) ∧ w_Op_perform fu c a ∧ w_M_act fu r (sA r 30 p) q := by
  replace hv := hv.at e
  have hp : p + 4 ≤ 3200 := by have z : (p : Int) + 4 ≤ 3200 := hv.1; omega
  obtain ⟨o1, o2⟩ := o_opn (k := 0) (j := 0) hc rfl (by omega)
  replace o1 : f_Op_operand (pI c 8 5 a) 0 = 3 := o1.trans e
  have b1 : (sA r 30 (p + 1)).toInt ≤ 7 := (hv.2 0 (by decide)).2
  have b2 : (sA r 30 (p + 2)).toInt ≤ 7 := (hv.2 1 (by decide)).2
  have b3 : (sA r 30 (p + 3)).toInt ≤ 6 := (hv.2 2 (by decide)).2
  obtain ⟨x1, x2, x3⟩ := op_3 (fu := fu) h hz hc hq hp b1 b2 b3
  rw [e, pf_3 o1, ma_3]
  exact ⟨x1, pw_3 o1 o2 x2, mw_3 x3⟩
theorem oa_4 (hfu : 1000000 ≤ fu) (h : RR G T φ n u (pI c 8 5 a) r) (hz : SZ (pI c 8 5 a)) (hc : CDH r p (pI c 8 5 a)) (hq : q.toInt = (p : Int) + 1) (hv : OV r p) (e : sA r 30 p = 4) : OUT G T φ n (pI c 8 5 a) r (f_Op_perform fu c a) (f_M_act fu r (sA r 30 p) q) ∧ w_Op_perform fu c a ∧ w_M_act fu r (sA r 30 p) q := by
  replace hv := hv.at e
  have hp : p + 10 ≤ 3200 := by have z : (p : Int) + 10 ≤ 3200 := hv.1; omega
  obtain ⟨o1, o2⟩ := o_opn (k := 0) (j := 0) hc rfl (by omega)
  replace o1 : f_Op_operand (pI c 8 5 a) 0 = 4 := o1.trans e
  have b1 : (sA r 30 (p + 1)).toInt ≤ 3 := (hv.2 0 (by decide)).2
  obtain ⟨x1, x2, x3⟩ := op_4 (fu := fu) (by omega) h hz hc hq hp b1
  rw [e, pf_4 o1, ma_4]
  exact ⟨x1, pw_4 o1 o2 x2, mw_4 x3⟩
theorem oa_5 (hfu : 1000000 ≤ fu) (h : RR G T φ n u (pI c 8 5 a) r) (hz : SZ (pI c 8 5 a)) (hc : CDH r p (pI c 8 5 a)) (hq : q.toInt = (p : Int) + 1) (hv : OV r p) (e : sA r 30 p = 5) : OUT G T φ n (pI c 8 5 a) r (f_Op_perform fu c a) (f_M_act fu r (sA r 30 p) q) ∧ w_Op_perform fu c a ∧ w_M_act fu r (sA r 30 p) q := by
  replace hv := hv.at e
  have hp : p + 3 ≤ 3200 := by have z : (p : Int) + 3 ≤ 3200 := hv.1; omega
  obtain ⟨o1, o2⟩ := o_opn (k := 0) (j := 0) hc rfl (by omega)
  replace o1 : f_Op_operand (pI c 8 5 a) 0 = 5 := o1.trans e
  have b1 : (sA r 30 (p + 1)).toInt ≤ 3 := (hv.2 0 (by decide)).2
  have b2 : (sA r 30 (p + 2)).toInt ≤ 7 := (hv.2 1 (by decide)).2
  obtain ⟨x1, x2, x3⟩ := op_5 (fu := fu) h hz hc hq hp b1 b2
  rw [e, pf_5 o1, ma_5]
  exact ⟨x1, pw_5 o1 o2 x2, mw_5 x3⟩
theorem oa_6 (hfu : 1000000 ≤ fu) (h : RR G T φ n u (pI c 8 5 a) r) (hz : SZ (pI c 8 5 a)) (hc : CDH r p (pI c 8 5 a)) (hq : q.toInt = (p : Int) + 1) (hv : OV r p) (e : sA r 30 p = 6) : OUT G T φ n (pI c 8 5 a) r (f_Op_perform fu c a) (f_M_act fu r (sA r 30 p) q) ∧ w_Op_perform fu c a ∧ w_M_act fu r (sA r 30 p) q := by
  replace hv := hv.at e
  have hp : p + 3 ≤ 3200 := by have z : (p : Int) + 3 ≤ 3200 := hv.1; omega
  obtain ⟨o1, o2⟩ := o_opn (k := 0) (j := 0) hc rfl (by omega)
  replace o1 : f_Op_operand (pI c 8 5 a) 0 = 6 := o1.trans e
  have b1 : (sA r 30 (p + 1)).toInt ≤ 7 := (hv.2 0 (by decide)).2
  have b2 : (sA r 30 (p + 2)).toInt ≤ 3 := (hv.2 1 (by decide)).2
  obtain ⟨x1, x2, x3⟩ := op_6 (fu := fu) h hz hc hq hp b1 b2
  rw [e, pf_6 o1, ma_6]
  exact ⟨x1, pw_6 o1 o2 x2, mw_6 x3⟩
theorem oa_7 (hfu : 1000000 ≤ fu) (h : RR G T φ n u (pI c 8 5 a) r) (hz : SZ (pI c 8 5 a)) (hc : CDH r p (pI c 8 5 a)) (hq : q.toInt = (p : Int) + 1) (hv : OV r p) (e : sA r 30 p = 7) : OUT G T φ n (pI c 8 5 a) r (f_Op_perform fu c a) (f_M_act fu r (sA r 30 p) q) ∧ w_Op_perform fu c a ∧ w_M_act fu r (sA r 30 p) q := by
  replace hv := hv.at e
  have hp : p + 4 ≤ 3200 := by have z : (p : Int) + 4 ≤ 3200 := hv.1; omega
  obtain ⟨o1, o2⟩ := o_opn (k := 0) (j := 0) hc rfl (by omega)
  replace o1 : f_Op_operand (pI c 8 5 a) 0 = 7 := o1.trans e
  have b1 : (sA r 30 (p + 1)).toInt ≤ 3 := (hv.2 0 (by decide)).2
  have b2 : (sA r 30 (p + 2)).toInt ≤ 3 := (hv.2 1 (by decide)).2
  obtain ⟨x1, x2, x3⟩ := op_7 (fu := fu) h hz hc hq hp b1 b2
  rw [e, pf_7 o1, ma_7]
  exact ⟨x1, pw_7 o1 o2 x2, mw_7 x3⟩
theorem oa_8 (hfu : 1000000 ≤ fu) (h : RR G T φ n u (pI c 8 5 a) r) (hz : SZ (pI c 8 5 a)) (hc : CDH r p (pI c 8 5 a)) (hq : q.toInt = (p : Int) + 1) (hv : OV r p) (e : sA r 30 p = 8) : OUT G T φ n (pI c 8 5 a) r (f_Op_perform fu c a) (f_M_act fu r (sA r 30 p) q) ∧ w_Op_perform fu c a ∧ w_M_act fu r (sA r 30 p) q := by
  replace hv := hv.at e
  have hp : p + 3 ≤ 3200 := by have z : (p : Int) + 3 ≤ 3200 := hv.1; omega
  obtain ⟨o1, o2⟩ := o_opn (k := 0) (j := 0) hc rfl (by omega)
  replace o1 : f_Op_operand (pI c 8 5 a) 0 = 8 := o1.trans e
  have b1 : (sA r 30 (p + 1)).toInt ≤ 3 := (hv.2 0 (by decide)).2
  obtain ⟨x1, x2, x3⟩ := op_8 (fu := fu) h hz hc hq hp b1
  rw [e, pf_8 o1, ma_8]
  exact ⟨x1, pw_8 o1 o2 x2, mw_8 x3⟩
theorem oa_9 (hfu : 1000000 ≤ fu) (h : RR G T φ n u (pI c 8 5 a) r) (hz : SZ (pI c 8 5 a)) (hc : CDH r p (pI c 8 5 a)) (hq : q.toInt = (p : Int) + 1) (hv : OV r p) (e : sA r 30 p = 9) : OUT G T φ n (pI c 8 5 a) r (f_Op_perform fu c a) (f_M_act fu r (sA r 30 p) q) ∧ w_Op_perform fu c a ∧ w_M_act fu r (sA r 30 p) q := by
  replace hv := hv.at e
  have hp : p + 5 ≤ 3200 := by have z : (p : Int) + 5 ≤ 3200 := hv.1; omega
  obtain ⟨o1, o2⟩ := o_opn (k := 0) (j := 0) hc rfl (by omega)
  replace o1 : f_Op_operand (pI c 8 5 a) 0 = 9 := o1.trans e
  have b1 : (sA r 30 (p + 1)).toInt ≤ 7 := (hv.2 0 (by decide)).2
  have b2 : (sA r 30 (p + 2)).toInt ≤ 3 := (hv.2 1 (by decide)).2
  have b3 : (sA r 30 (p + 3)).toInt ≤ 3 := (hv.2 2 (by decide)).2
  have b4 : (sA r 30 (p + 4)).toInt ≤ 5 := (hv.2 3 (by decide)).2
  obtain ⟨x1, x2, x3⟩ := op_9 (fu := fu) h hz hc hq hp b1 b2 b3 b4
  rw [e, pf_9 o1, ma_9]
  exact ⟨x1, pw_9 o1 o2 x2, mw_9 x3⟩
theorem oa_10 (hfu : 1000000 ≤ fu) (h : RR G T φ n u (pI c 8 5 a) r) (hz : SZ (pI c 8 5 a)) (hc : CDH r p (pI c 8 5 a)) (hq : q.toInt = (p : Int) + 1) (hv : OV r p) (e : sA r 30 p = 10) : OUT G T φ n (pI c 8 5 a) r (f_Op_perform fu c a) (f_M_act fu r (sA r 30 p) q) ∧ w_Op_perform fu c a ∧ w_M_act fu r (sA r 30 p) q := by
  replace hv := hv.at e
  have hp : p + 3 ≤ 3200 := by have z : (p : Int) + 3 ≤ 3200 := hv.1; omega
  obtain ⟨o1, o2⟩ := o_opn (k := 0) (j := 0) hc rfl (by omega)
  replace o1 : f_Op_operand (pI c 8 5 a) 0 = 10 := o1.trans e
  have b1 : (sA r 30 (p + 1)).toInt ≤ 15 := (hv.2 0 (by decide)).2
  have b2 : (sA r 30 (p + 2)).toInt ≤ 15 := (hv.2 1 (by decide)).2
  obtain ⟨x1, x2, x3⟩ := op_10 (fu := fu) h hz hc hq hp b1 b2
  rw [e, pf_10 o1, ma_10]
  exact ⟨x1, pw_10 o1 o2 x2, mw_10 x3⟩
theorem oa_11 (hfu : 1000000 ≤ fu) (h : RR G T φ n u (pI c 8 5 a) r) (hz : SZ (pI c 8 5 a)) (hc : CDH r p (pI c 8 5 a)) (hq : q.toInt = (p : Int) + 1) (hv : OV r p) (e : sA r 30 p = 11) : OUT G T φ n (pI c 8 5 a) r (f_Op_perform fu c a) (f_M_act fu r (sA r 30 p) q) ∧ w_Op_perform fu c a ∧ w_M_act fu r (sA r 30 p) q := by
  replace hv := hv.at e
  have hp : p + 2 ≤ 3200 := by have z : (p : Int) + 2 ≤ 3200 := hv.1; omega
  obtain ⟨o1, o2⟩ := o_opn (k := 0) (j := 0) hc rfl (by omega)
  replace o1 : f_Op_operand (pI c 8 5 a) 0 = 11 := o1.trans e
  have b1 : (sA r 30 (p + 1)).toInt ≤ 15 := (hv.2 0 (by decide)).2
  obtain ⟨x1, x2, x3⟩ := op_11 (fu := fu) h hz hc hq hp b1
  rw [e, pf_11 o1, ma_11]
  exact ⟨x1, pw_11 o1 o2 x2, mw_11 x3⟩
theorem oa_12 (hfu : 1000000 ≤ fu) (h : RR G T φ n u (pI c 8 5 a) r) (hz : SZ (pI c 8 5 a)) (hc : CDH r p (pI c 8 5 a)) (hq : q.toInt = (p : Int) + 1) (hv : OV r p) (e : sA r 30 p = 12) : OUT G T φ n (pI c 8 5 a) r (f_Op_perform fu c a) (f_M_act fu r (sA r 30 p) q) ∧ w_Op_perform fu c a ∧ w_M_act fu r (sA r 30 p) q := by
  replace hv := hv.at e
  have hp : p + 4 ≤ 3200 := by have z : (p : Int) + 4 ≤ 3200 := hv.1; omega
  obtain ⟨o1, o2⟩ := o_opn (k := 0) (j := 0) hc rfl (by omega)
  replace o1 : f_Op_operand (pI c 8 5 a) 0 = 12 := o1.trans e
  have b1 : (sA r 30 (p + 1)).toInt ≤ 15 := (hv.2 0 (by decide)).2
  have b2 : 1 ≤ (sA r 30 (p + 2)).toInt := (hv.2 1 (by decide)).1
  have b2' : (sA r 30 (p + 2)).toInt ≤ 8 := (hv.2 1 (by decide)).2
  have b3 : (sA r 30 (p + 3)).toInt ≤ 7 := (hv.2 2 (by decide)).2
  obtain ⟨x1, x2, x3⟩ := op_12 (fu := fu) h hz hc hq hp b1 b2 b2' b3
  rw [e, pf_12 o1, ma_12]
  exact ⟨x1, pw_12 o1 o2 x2, mw_12 x3⟩
theorem oa_13 (hfu : 1000000 ≤ fu) (h : RR G T φ n u (pI c 8 5 a) r) (hz : SZ (pI c 8 5 a)) (hc : CDH r p (pI c 8 5 a)) (hq : q.toInt = (p : Int) + 1) (hv : OV r p) (e : sA r 30 p = 13) : OUT G T φ n (pI c 8 5 a) r (f_Op_perform fu c a) (f_M_act fu r (sA r 30 p) q) ∧ w_Op_perform fu c a ∧ w_M_act fu r (sA r 30 p) q := by
  replace hv := hv.at e
  have hp : p + 4 ≤ 3200 := by have z : (p : Int) + 4 ≤ 3200 := hv.1; omega
  obtain ⟨o1, o2⟩ := o_opn (k := 0) (j := 0) hc rfl (by omega)
  replace o1 : f_Op_operand (pI c 8 5 a) 0 = 13 := o1.trans e
  have b1 : (sA r 30 (p + 1)).toInt ≤ 15 := (hv.2 0 (by decide)).2
  have b2 : (sA r 30 (p + 2)).toInt ≤ 7 := (hv.2 1 (by decide)).2
  have b3 : (sA r 30 (p + 3)).toInt ≤ 7 := (hv.2 2 (by decide)).2
  obtain ⟨x1, x2, x3⟩ := op_13 (fu := fu) (by omega) h hz hc hq hp b1 b2 b3
  rw [e, pf_13 o1, ma_13]
  exact ⟨x1, pw_13 o1 o2 x2, mw_13 x3⟩
theorem oa_14 (hfu : 1000000 ≤ fu) (h : RR G T φ n u (pI c 8 5 a) r) (hz : SZ (pI c 8 5 a)) (hc : CDH r p (pI c 8 5 a)) (hq : q.toInt = (p : Int) + 1) (hv : OV r p) (e : sA r 30 p = 14) : OUT G T φ n (pI c 8 5 a) r (f_Op_perform fu c a) (f_M_act fu r (sA r 30 p) q) ∧ w_Op_perform fu c a ∧ w_M_act fu r (sA r 30 p) q := by
  replace hv := hv.at e
  have hp : p + 4 ≤ 3200 := by have z : (p : Int) + 4 ≤ 3200 := hv.1; omega
  obtain ⟨o1, o2⟩ := o_opn (k := 0) (j := 0) hc rfl (by omega)
  replace o1 : f_Op_operand (pI c 8 5 a) 0 = 14 := o1.trans e
  have b1 : (sA r 30 (p + 1)).toInt ≤ 15 := (hv.2 0 (by decide)).2
  have b2' : (sA r 30 (p + 2)).toInt ≤ 4 := (hv.2 1 (by decide)).2
  have b3 : (sA r 30 (p + 3)).toInt ≤ 7 := (hv.2 2 (by decide)).2
  obtain ⟨x1, x2, x3⟩ := op_14 (fu := fu) h hz hc hq hp b1 b2' b3
  rw [e, pf_14 o1, ma_14]
  exact ⟨x1, pw_14 o1 o2 x2, mw_14 x3⟩
theorem oa_15 (hfu : 1000000 ≤ fu) (h : RR G T φ n u (pI c 8 5 a) r) (hz : SZ (pI c 8 5 a)) (hc : CDH r p (pI c 8 5 a)) (hq : q.toInt = (p : Int) + 1) (hv : OV r p) (e : sA r 30 p = 15) : OUT G T φ n (pI c 8 5 a) r (f_Op_perform fu c a) (f_M_act fu r (sA r 30 p) q) ∧ w_Op_perform fu c a ∧ w_M_act fu r (sA r 30 p) q := by
  replace hv := hv.at e
  have hp : p + 3 ≤ 3200 := by have z : (p : Int) + 3 ≤ 3200 := hv.1; omega
  obtain ⟨o1, o2⟩ := o_opn (k := 0) (j := 0) hc rfl (by omega)
  replace o1 : f_Op_operand (pI c 8 5 a) 0 = 15 := o1.trans e
  have b1 : (sA r 30 (p + 1)).toInt ≤ 15 := (hv.2 0 (by decide)).2
  have b2 : (sA r 30 (p + 2)).toInt ≤ 4 := (hv.2 1 (by decide)).2
  obtain ⟨x1, x2, x3⟩ := op_15 (fu := fu) h hz hc hq hp b1 b2
  rw [e, pf_15 o1, ma_15]
  exact ⟨x1, pw_15 o1 o2 x2, mw_15 x3⟩
theorem oa_16 (hfu : 1000000 ≤ fu) (h : RR G T φ n u (pI c 8 5 a) r) (hz : SZ (pI c 8 5 a)) (hc : CDH r p (pI c 8 5 a)) (hq : q.toInt = (p : Int) + 1) (hv : OV r p) (e : sA r 30 p = 16) : OUT G T φ n (pI c 8 5 a) r (f_Op_perform fu c a) (f_M_act fu r (sA r 30 p) q) ∧ w_Op_perform fu c a ∧ w_M_act fu r (sA r 30 p) q := by
  replace hv := hv.at e
  have hp : p + 3 ≤ 3200 := by have z : (p : Int) + 3 ≤ 3200 := hv.1; omega
  obtain ⟨o1, o2⟩ := o_opn (k := 0) (j := 0) hc rfl (by omega)
  replace o1 : f_Op_operand (pI c 8 5 a) 0 = 16 := o1.trans e
  have b1 : (sA r 30 (p + 1)).toInt ≤ 15 := (hv.2 0 (by decide)).2
  have b2 : (sA r 30 (p + 2)).toInt ≤ 7 := (hv.2 1 (by decide)).2
  obtain ⟨x1, x2, x3⟩ := op_16 (fu := fu) h hz hc hq hp b1 b2
  rw [e, pf_16 o1, ma_16]
  exact ⟨x1, pw_16 o1 o2 x2, mw_16 x3⟩
theorem oa_17 (hfu : 1000000 ≤ fu) (h : RR G T φ n u (pI c 8 5 a) r) (hz : SZ (pI c 8 5 a)) (hc : CDH r p (pI c 8 5 a)) (hq : q.toInt = (p : Int) + 1) (hv : OV r p) (e : sA r 30 p = 17) : OUT G T φ n (pI c 8 5 a) r (f_Op_perform fu c a) (f_M_act fu r (sA r 30 p) q) ∧ w_Op_perform fu c a ∧ w_M_act fu r (sA r 30 p) q := by
  replace hv := hv.at e
  have hp : p + 3 ≤ 3200 := by have z : (p : Int) + 3 ≤ 3200 := hv.1; omega
  obtain ⟨o1, o2⟩ := o_opn (k := 0) (j := 0) hc rfl (by omega)
  replace o1 : f_Op_operand (pI c 8 5 a) 0 = 17 := o1.trans e
  have b1 : (sA r 30 (p + 1)).toInt ≤ 7 := (hv.2 0 (by decide)).2
  have b2 : (sA r 30 (p + 2)).toInt ≤ 15 := (hv.2 1 (by decide)).2
  obtain ⟨x1, x2, x3⟩ := op_17 (fu := fu) h hz hc hq hp b1 b2
  rw [e, pf_17 o1, ma_17]
  exact ⟨x1, pw_17 o1 o2 x2, mw_17 x3⟩
theorem oa_18 (hfu : 1000000 ≤ fu) (h : RR G T φ n u (pI c 8 5 a) r) (hz : SZ (pI c 8 5 a)) (hc : CDH r p (pI c 8 5 a)) (hq : q.toInt = (p : Int) + 1) (hv : OV r p) (e : sA r 30 p = 18) : OUT G T φ n (pI c 8 5 a) r (f_Op_perform fu c a) (f_M_act fu r (sA r 30 p) q) ∧ w_Op_perform fu c a ∧ w_M_act fu r (sA r 30 p) q := by
  replace hv := hv.at e
  have hp : p + 4 ≤ 3200 := by have z : (p : Int) + 4 ≤ 3200 := hv.1; omega
  obtain ⟨o1, o2⟩ := o_opn (k := 0) (j := 0) hc rfl (by omega)
  replace o1 : f_Op_operand (pI c 8 5 a) 0 = 18 := o1.trans e
  have b1 : (sA r 30 (p + 1)).toInt ≤ 7 := (hv.2 0 (by decide)).2
  have b2 : (sA r 30 (p + 2)).toInt ≤ 15 := (hv.2 1 (by decide)).2
  have b3 : (sA r 30 (p + 3)).toInt ≤ 19 := (hv.2 2 (by decide)).2
  obtain ⟨x1, x2, x3⟩ := op_18 (fu := fu) h hz hc hq hp b1 b2 b3
  rw [e, pf_18 o1, ma_18]
  exact ⟨x1, pw_18 o1 o2 x2, mw_18 x3⟩
theorem oa_19 (hfu : 1000000 ≤ fu) (h : RR G T φ n u (pI c 8 5 a) r) (hz : SZ (pI c 8 5 a)) (hc : CDH r p (pI c 8 5 a)) (hq : q.toInt = (p : Int) + 1) (hv : OV r p) (e : sA r 30 p = 19) : OUT G T φ n (pI c 8 5 a) r (f_Op_perform fu c a) (f_M_act fu r (sA r 30 p) q) ∧ w_Op_perform fu c a ∧ w_M_act fu r (sA r 30 p) q := by
  replace hv := hv.at e
  have hp : p + 5 ≤ 3200 := by have z : (p : Int) + 5 ≤ 3200 := hv.1; omega
  obtain ⟨o1, o2⟩ := o_opn (k := 0) (j := 0) hc rfl (by omega)
  replace o1 : f_Op_operand (pI c 8 5 a) 0 = 19 := o1.trans e
  have b1 : 1 ≤ (sA r 30 (p + 1)).toInt := (hv.2 0 (by decide)).1
  have b1' : (sA r 30 (p + 1)).toInt ≤ 8 := (hv.2 0 (by decide)).2
  have b2 : (sA r 30 (p + 2)).toInt ≤ (if (sA r 30 (p + 1)).toInt = 6 ∨ (sA r 30 (p + 1)).toInt = 7 then 3 else 7) := by
    have z := (hv.2 1 (by decide)).2
    rw [show f_M_mostOf 19 (nI 1) (sA r 30 (p + 1)) = cond (cn2 .eq (sA r 30 (p + 1)) 6) (3 : Int32) (cond (cn2 .ne (sA r 30 (p + 1)) 7) 7 3) from rfl, mo_f] at z
    exact z
  have b3 : (sA r 30 (p + 3)).toInt ≤ 15 := (hv.2 2 (by decide)).2
  have b4 : (sA r 30 (p + 4)).toInt ≤ 7 := (hv.2 3 (by decide)).2
  obtain ⟨x1, x2, x3⟩ := op_19 (fu := fu) h hz hc hq hp b1 b1' b2 b3 b4
  rw [e, pf_19 o1, ma_19]
  exact ⟨x1, pw_19 o1 o2 x2, mw_19 x3⟩
theorem oa_20 (hfu : 1000000 ≤ fu) (h : RR G T φ n u (pI c 8 5 a) r) (hz : SZ (pI c 8 5 a)) (hc : CDH r p (pI c 8 5 a)) (hq : q.toInt = (p : Int) + 1) (hv : OV r p) (e : sA r 30 p = 20) : OUT G T φ n (pI c 8 5 a) r (f_Op_perform fu c a) (f_M_act fu r (sA r 30 p) q) ∧ w_Op_perform fu c a ∧ w_M_act fu r (sA r 30 p) q := by
  replace hv := hv.at e
  have hp : p + 5 ≤ 3200 := by have z : (p : Int) + 5 ≤ 3200 := hv.1; omega
  obtain ⟨o1, o2⟩ := o_opn (k := 0) (j := 0) hc rfl (by omega)
  replace o1 : f_Op_operand (pI c 8 5 a) 0 = 20 := o1.trans e
  have b1 : 1 ≤ (sA r 30 (p + 1)).toInt := (hv.2 0 (by decide)).1
  have b1' : (sA r 30 (p + 1)).toInt ≤ 8 := (hv.2 0 (by decide)).2
  have b2 : (sA r 30 (p + 2)).toInt ≤ 15 := (hv.2 1 (by decide)).2
  have b3 : (sA r 30 (p + 3)).toInt ≤ 7 := (hv.2 2 (by decide)).2
  have b4 : (sA r 30 (p + 4)).toInt ≤ (if (sA r 30 (p + 1)).toInt = 6 ∨ (sA r 30 (p + 1)).toInt = 7 then 3 else 7) := by
    have z := (hv.2 3 (by decide)).2
    rw [show f_M_mostOf 20 (nI 3) (sA r 30 (p + 1)) = cond (cn2 .eq (sA r 30 (p + 1)) 6) (3 : Int32) (cond (cn2 .ne (sA r 30 (p + 1)) 7) 7 3) from rfl, mo_f] at z
    exact z
  obtain ⟨x1, x2, x3⟩ := op_20 (fu := fu) h hz hc hq hp b1 b1' b2 b3 b4
  rw [e, pf_20 o1, ma_20]
  exact ⟨x1, pw_20 o1 o2 x2, mw_20 x3⟩
theorem oa_21 (hfu : 1000000 ≤ fu) (h : RR G T φ n u (pI c 8 5 a) r) (hz : SZ (pI c 8 5 a)) (hc : CDH r p (pI c 8 5 a)) (hq : q.toInt = (p : Int) + 1) (hv : OV r p) (e : sA r 30 p = 21) : OUT G T φ n (pI c 8 5 a) r (f_Op_perform fu c a) (f_M_act fu r (sA r 30 p) q) ∧ w_Op_perform fu c a ∧ w_M_act fu r (sA r 30 p) q := by
  replace hv := hv.at e
  have hp : p + 6 ≤ 3200 := by have z : (p : Int) + 6 ≤ 3200 := hv.1; omega
  obtain ⟨o1, o2⟩ := o_opn (k := 0) (j := 0) hc rfl (by omega)
  replace o1 : f_Op_operand (pI c 8 5 a) 0 = 21 := o1.trans e
  have b1 : (sA r 30 (p + 1)).toInt ≤ 15 := (hv.2 0 (by decide)).2
  have b2 : (sA r 30 (p + 2)).toInt ≤ 7 := (hv.2 1 (by decide)).2
  have b3 : (sA r 30 (p + 3)).toInt ≤ 15 := (hv.2 2 (by decide)).2
  have b4 : (sA r 30 (p + 4)).toInt ≤ 7 := (hv.2 3 (by decide)).2
  have b5 : (sA r 30 (p + 5)).toInt ≤ 7 := (hv.2 4 (by decide)).2
  obtain ⟨x1, x2, x3⟩ := op_21 (fu := fu) (by omega) h hz hc hq hp b1 b2 b3 b4 b5
  rw [e, pf_21 o1, ma_21]
  exact ⟨x1, pw_21 o1 o2 x2, mw_21 x3⟩
theorem oa_22 (hfu : 1000000 ≤ fu) (h : RR G T φ n u (pI c 8 5 a) r) (hz : SZ (pI c 8 5 a)) (hc : CDH r p (pI c 8 5 a)) (hq : q.toInt = (p : Int) + 1) (hv : OV r p) (e : sA r 30 p = 22) : OUT G T φ n (pI c 8 5 a) r (f_Op_perform fu c a) (f_M_act fu r (sA r 30 p) q) ∧ w_Op_perform fu c a ∧ w_M_act fu r (sA r 30 p) q := by
  replace hv := hv.at e
  have hp : p + 3 ≤ 3200 := by have z : (p : Int) + 3 ≤ 3200 := hv.1; omega
  obtain ⟨o1, o2⟩ := o_opn (k := 0) (j := 0) hc rfl (by omega)
  replace o1 : f_Op_operand (pI c 8 5 a) 0 = 22 := o1.trans e
  have b1 : (sA r 30 (p + 1)).toInt ≤ 15 := (hv.2 0 (by decide)).2
  have b2 : (sA r 30 (p + 2)).toInt ≤ 15 := (hv.2 1 (by decide)).2
  obtain ⟨x1, x2, x3⟩ := op_22 (fu := fu) (by omega) h hz hc hq hp b1 b2
  rw [e, pf_22 o1, ma_22]
  exact ⟨x1, pw_22 o1 o2 x2, mw_22 x3⟩
theorem oa_23 (hfu : 1000000 ≤ fu) (h : RR G T φ n u (pI c 8 5 a) r) (hz : SZ (pI c 8 5 a)) (hc : CDH r p (pI c 8 5 a)) (hq : q.toInt = (p : Int) + 1) (hv : OV r p) (e : sA r 30 p = 23) : OUT G T φ n (pI c 8 5 a) r (f_Op_perform fu c a) (f_M_act fu r (sA r 30 p) q) ∧ w_Op_perform fu c a ∧ w_M_act fu r (sA r 30 p) q := by
  replace hv := hv.at e
  have hp : p + 4 ≤ 3200 := by have z : (p : Int) + 4 ≤ 3200 := hv.1; omega
  obtain ⟨o1, o2⟩ := o_opn (k := 0) (j := 0) hc rfl (by omega)
  replace o1 : f_Op_operand (pI c 8 5 a) 0 = 23 := o1.trans e
  have b1 : (sA r 30 (p + 1)).toInt ≤ 15 := (hv.2 0 (by decide)).2
  have b2 : (sA r 30 (p + 2)).toInt ≤ 15 := (hv.2 1 (by decide)).2
  have b3 : (sA r 30 (p + 3)).toInt ≤ 7 := (hv.2 2 (by decide)).2
  obtain ⟨x1, x2, x3⟩ := op_23 (fu := fu) h hz hc hq hp b1 b2 b3
  rw [e, pf_23 o1, ma_23]
  exact ⟨x1, pw_23 o1 o2 x2, mw_23 x3⟩
theorem oa_24 (hfu : 1000000 ≤ fu) (h : RR G T φ n u (pI c 8 5 a) r) (hz : SZ (pI c 8 5 a)) (hc : CDH r p (pI c 8 5 a)) (hq : q.toInt = (p : Int) + 1) (hv : OV r p) (e : sA r 30 p = 24) : OUT G T φ n (pI c 8 5 a) r (f_Op_perform fu c a) (f_M_act fu r (sA r 30 p) q) ∧ w_Op_perform fu c a ∧ w_M_act fu r (sA r 30 p) q := by
  replace hv := hv.at e
  have hp : p + 4 ≤ 3200 := by have z : (p : Int) + 4 ≤ 3200 := hv.1; omega
  obtain ⟨o1, o2⟩ := o_opn (k := 0) (j := 0) hc rfl (by omega)
  replace o1 : f_Op_operand (pI c 8 5 a) 0 = 24 := o1.trans e
  have b1 : (sA r 30 (p + 1)).toInt ≤ 15 := (hv.2 0 (by decide)).2
  have b2 : (sA r 30 (p + 2)).toInt ≤ 7 := (hv.2 1 (by decide)).2
  have b3 : (sA r 30 (p + 3)).toInt ≤ 15 := (hv.2 2 (by decide)).2
  obtain ⟨x1, x2, x3⟩ := op_24 (fu := fu) h hz hc hq hp b1 b2 b3
  rw [e, pf_24 o1, ma_24]
  exact ⟨x1, pw_24 o1 o2 x2, mw_24 x3⟩
theorem oa_25 (hfu : 1000000 ≤ fu) (h : RR G T φ n u (pI c 8 5 a) r) (hz : SZ (pI c 8 5 a)) (hc : CDH r p (pI c 8 5 a)) (hq : q.toInt = (p : Int) + 1) (hv : OV r p) (e : sA r 30 p = 25) : OUT G T φ n (pI c 8 5 a) r (f_Op_perform fu c a) (f_M_act fu r (sA r 30 p) q) ∧ w_Op_perform fu c a ∧ w_M_act fu r (sA r 30 p) q := by
  replace hv := hv.at e
  have hp : p + 4 ≤ 3200 := by have z : (p : Int) + 4 ≤ 3200 := hv.1; omega
  obtain ⟨o1, o2⟩ := o_opn (k := 0) (j := 0) hc rfl (by omega)
  replace o1 : f_Op_operand (pI c 8 5 a) 0 = 25 := o1.trans e
  have b1 : (sA r 30 (p + 1)).toInt ≤ 15 := (hv.2 0 (by decide)).2
  have b2 : (sA r 30 (p + 2)).toInt ≤ 15 := (hv.2 1 (by decide)).2
  have b3 : (sA r 30 (p + 3)).toInt ≤ 7 := (hv.2 2 (by decide)).2
  obtain ⟨x1, x2, x3⟩ := op_25 (fu := fu) h hz hc hq hp b1 b2 b3
  rw [e, pf_25 o1, ma_25]
  exact ⟨x1, pw_25 o1 o2 x2, mw_25 x3⟩
theorem oa_26 (hfu : 1000000 ≤ fu) (h : RR G T φ n u (pI c 8 5 a) r) (hz : SZ (pI c 8 5 a)) (hc : CDH r p (pI c 8 5 a)) (hq : q.toInt = (p : Int) + 1) (hv : OV r p) (e : sA r 30 p = 26) : OUT G T φ n (pI c 8 5 a) r (f_Op_perform fu c a) (f_M_act fu r (sA r 30 p) q) ∧ w_Op_perform fu c a ∧ w_M_act fu r (sA r 30 p) q := by
  replace hv := hv.at e
  have hp : p + 4 ≤ 3200 := by have z : (p : Int) + 4 ≤ 3200 := hv.1; omega
  obtain ⟨o1, o2⟩ := o_opn (k := 0) (j := 0) hc rfl (by omega)
  replace o1 : f_Op_operand (pI c 8 5 a) 0 = 26 := o1.trans e
  have b1 : (sA r 30 (p + 1)).toInt ≤ 15 := (hv.2 0 (by decide)).2
  have b2 : (sA r 30 (p + 2)).toInt ≤ 7 := (hv.2 1 (by decide)).2
  have b3 : (sA r 30 (p + 3)).toInt ≤ 15 := (hv.2 2 (by decide)).2
  obtain ⟨x1, x2, x3⟩ := op_26 (fu := fu) h hz hc hq hp b1 b2 b3
  rw [e, pf_26 o1, ma_26]
  exact ⟨x1, pw_26 o1 o2 x2, mw_26 x3⟩
theorem oa_27 (hfu : 1000000 ≤ fu) (h : RR G T φ n u (pI c 8 5 a) r) (hz : SZ (pI c 8 5 a)) (hc : CDH r p (pI c 8 5 a)) (hq : q.toInt = (p : Int) + 1) (hv : OV r p) (e : sA r 30 p = 27) : OUT G T φ n (pI c 8 5 a) r (f_Op_perform fu c a) (f_M_act fu r (sA r 30 p) q) ∧ w_Op_perform fu c a ∧ w_M_act fu r (sA r 30 p) q := by
  replace hv := hv.at e
  have hp : p + 4 ≤ 3200 := by have z : (p : Int) + 4 ≤ 3200 := hv.1; omega
  obtain ⟨o1, o2⟩ := o_opn (k := 0) (j := 0) hc rfl (by omega)
  replace o1 : f_Op_operand (pI c 8 5 a) 0 = 27 := o1.trans e
  have b1 : (sA r 30 (p + 1)).toInt ≤ 3 := (hv.2 0 (by decide)).2
  have b2 : (sA r 30 (p + 2)).toInt ≤ (if (sA r 30 (p + 1)).toInt = 1 then 3 else if (sA r 30 (p + 1)).toInt = 3 then 15 else 7) := by
    have z := (hv.2 1 (by decide)).2
    rw [show f_M_mostOf 27 (nI 1) (sA r 30 (p + 1)) = cond (cn2 .ne (sA r 30 (p + 1)) 1) (cond (cn2 .ne (sA r 30 (p + 1)) 3) (7 : Int32) 15) 3 from rfl, mo_g] at z
    exact z
  have b3 : (sA r 30 (p + 3)).toInt ≤ 15 := (hv.2 2 (by decide)).2
  obtain ⟨x1, x2, x3⟩ := op_27 (fu := fu) h hz hc hq hp b1 b2 b3
  rw [e, pf_27 o1, ma_27]
  exact ⟨x1, pw_27 o1 o2 x2, mw_27 x3⟩
theorem oa_28 (hfu : 1000000 ≤ fu) (h : RR G T φ n u (pI c 8 5 a) r) (hz : SZ (pI c 8 5 a)) (hc : CDH r p (pI c 8 5 a)) (hq : q.toInt = (p : Int) + 1) (hv : OV r p) (e : sA r 30 p = 28) : OUT G T φ n (pI c 8 5 a) r (f_Op_perform fu c a) (f_M_act fu r (sA r 30 p) q) ∧ w_Op_perform fu c a ∧ w_M_act fu r (sA r 30 p) q := by
  replace hv := hv.at e
  have hp : p + 4 ≤ 3200 := by have z : (p : Int) + 4 ≤ 3200 := hv.1; omega
  obtain ⟨o1, o2⟩ := o_opn (k := 0) (j := 0) hc rfl (by omega)
  replace o1 : f_Op_operand (pI c 8 5 a) 0 = 28 := o1.trans e
  have b1 : (sA r 30 (p + 1)).toInt ≤ 3 := (hv.2 0 (by decide)).2
  have b2 : (sA r 30 (p + 2)).toInt ≤ 15 := (hv.2 1 (by decide)).2
  have b3 : (sA r 30 (p + 3)).toInt ≤ (if (sA r 30 (p + 1)).toInt = 1 then 3 else if (sA r 30 (p + 1)).toInt = 3 then 15 else 7) := by
    have z := (hv.2 2 (by decide)).2
    rw [show f_M_mostOf 28 (nI 2) (sA r 30 (p + 1)) = cond (cn2 .ne (sA r 30 (p + 1)) 1) (cond (cn2 .ne (sA r 30 (p + 1)) 3) (7 : Int32) 15) 3 from rfl, mo_g] at z
    exact z
  obtain ⟨x1, x2, x3⟩ := op_28 (fu := fu) h hz hc hq hp b1 b2 b3
  rw [e, pf_28 o1, ma_28]
  exact ⟨x1, pw_28 o1 o2 x2, mw_28 x3⟩
theorem oa_29 (hfu : 1000000 ≤ fu) (h : RR G T φ n u (pI c 8 5 a) r) (hz : SZ (pI c 8 5 a)) (hc : CDH r p (pI c 8 5 a)) (hq : q.toInt = (p : Int) + 1) (hv : OV r p) (e : sA r 30 p = 29) : OUT G T φ n (pI c 8 5 a) r (f_Op_perform fu c a) (f_M_act fu r (sA r 30 p) q) ∧ w_Op_perform fu c a ∧ w_M_act fu r (sA r 30 p) q := by
  replace hv := hv.at e
  have hp : p + 5 ≤ 3200 := by have z : (p : Int) + 5 ≤ 3200 := hv.1; omega
  obtain ⟨o1, o2⟩ := o_opn (k := 0) (j := 0) hc rfl (by omega)
  replace o1 : f_Op_operand (pI c 8 5 a) 0 = 29 := o1.trans e
  have b1 : (sA r 30 (p + 1)).toInt ≤ 5 := (hv.2 0 (by decide)).2
  have b2 : (sA r 30 (p + 2)).toInt ≤ 3 := (hv.2 1 (by decide)).2
  have b3 : (sA r 30 (p + 3)).toInt ≤ 15 := (hv.2 2 (by decide)).2
  have b4 : (sA r 30 (p + 4)).toInt ≤ 7 := (hv.2 3 (by decide)).2
  obtain ⟨x1, x2, x3⟩ := op_29 (fu := fu) (by omega) h hz hc hq hp b1 b2 b3 b4
  rw [e, pf_29 o1, ma_29]
  exact ⟨x1, pw_29 o1 o2 x2, mw_29 x3⟩
theorem oa_34 (hfu : 1000000 ≤ fu) (h : RR G T φ n u (pI c 8 5 a) r) (hz : SZ (pI c 8 5 a)) (hc : CDH r p (pI c 8 5 a)) (hq : q.toInt = (p : Int) + 1) (hv : OV r p) (e : sA r 30 p = 34) : OUT G T φ n (pI c 8 5 a) r (f_Op_perform fu c a) (f_M_act fu r (sA r 30 p) q) ∧ w_Op_perform fu c a ∧ w_M_act fu r (sA r 30 p) q := by
  replace hv := hv.at e
  have hp : p + 2 ≤ 3200 := by have z : (p : Int) + 2 ≤ 3200 := hv.1; omega
  obtain ⟨o1, o2⟩ := o_opn (k := 0) (j := 0) hc rfl (by omega)
  replace o1 : f_Op_operand (pI c 8 5 a) 0 = 34 := o1.trans e
  have b1 : (sA r 30 (p + 1)).toInt ≤ 15 := (hv.2 0 (by decide)).2
  obtain ⟨x1, x2, x3⟩ := op_34 (fu := fu) h hz hc hq hp b1
  rw [e, pf_34 o1]
  exact ⟨x1, pw_34 o1 o2 x2, x3⟩
/-- every op but those that open -/
theorem op_all {w : Nat} (hfu : 1000000 ≤ fu) (h : RR G T φ n u c r) (hz : SZ c) (hc : ∀ k, sA r 30 k = sA c 6 k &&& 255) (ha : a.toInt = (p : Int)) (hq : q.toInt = (p : Int) + 1) (hv : OV r p) (hw : (f_M_wholeOf (sA r 30 p)).toInt = (w : Int)) (h0 : 1 ≤ w) (hn : ¬ (30 ≤ (sA r 30 p).toInt ∧ (sA r 30 p).toInt ≤ 33)) : OUT G T φ n c r (f_Op_perform fu c a) (f_M_act fu r (sA r 30 p) q) ∧ w_Op_perform fu c a ∧ w_M_act fu r (sA r 30 p) q := by
  have h1 : RR G T φ n u (pI c 8 5 a) r := h.cI (a := 8) (k := 5) a (Or.inl (by decide))
  have z1 : SZ (pI c 8 5 a) := hz
  have c1 : CDH r p (pI c 8 5 a) := ⟨ha, hc⟩
  have f1 : opC c (pI c 8 5 a) := ⟨fun x k _ z _ => if_neg (fun y => z ⟨y.1, y.2⟩), fun _ _ => rfl, fun _ _ => rfl, fun _ _ => rfl, fun _ _ => rfl⟩
  suffices s : OUT G T φ n (pI c 8 5 a) r (f_Op_perform fu c a) (f_M_act fu r (sA r 30 p) q) ∧ w_Op_perform fu c a ∧ w_M_act fu r (sA r 30 p) q from ⟨OUT.tr (EX.rf φ n) f1 (opR.rf r) s.1, s.2⟩
  have b1 := (hc p).symm ▸ b255 (sA c 6 p)
  have ne : ∀ k : Int32, ¬ sA r 30 p = k → (sA r 30 p).toInt ≠ k.toInt := fun k z y => z (Int32.toInt_inj.mp y)
  by_cases e1 : sA r 30 p = 1
  · exact oa_1 hfu h1 z1 c1 hq hv e1
  by_cases e2 : sA r 30 p = 2
  · exact oa_2 hfu h1 z1 c1 hq hv e2
  by_cases e3 : sA r 30 p = 3
  · exact oa_3 hfu h1 z1 c1 hq hv e3
  by_cases e4 : sA r 30 p = 4
  · exact oa_4 hfu h1 z1 c1 hq hv e4
  by_cases e5 : sA r 30 p = 5
  · exact oa_5 hfu h1 z1 c1 hq hv e5
  by_cases e6 : sA r 30 p = 6
  · exact oa_6 hfu h1 z1 c1 hq hv e6
  by_cases e7 : sA r 30 p = 7
  · exact oa_7 hfu h1 z1 c1 hq hv e7
  by_cases e8 : sA r 30 p = 8
  · exact oa_8 hfu h1 z1 c1 hq hv e8
  by_cases e9 : sA r 30 p = 9
  · exact oa_9 hfu h1 z1 c1 hq hv e9
  by_cases e10 : sA r 30 p = 10
  · exact oa_10 hfu h1 z1 c1 hq hv e10
  by_cases e11 : sA r 30 p = 11
  · exact oa_11 hfu h1 z1 c1 hq hv e11
  by_cases e12 : sA r 30 p = 12
  · exact oa_12 hfu h1 z1 c1 hq hv e12
  by_cases e13 : sA r 30 p = 13
  · exact oa_13 hfu h1 z1 c1 hq hv e13
  by_cases e14 : sA r 30 p = 14
  · exact oa_14 hfu h1 z1 c1 hq hv e14
  by_cases e15 : sA r 30 p = 15
  · exact oa_15 hfu h1 z1 c1 hq hv e15
  by_cases e16 : sA r 30 p = 16
  · exact oa_16 hfu h1 z1 c1 hq hv e16
  by_cases e17 : sA r 30 p = 17
  · exact oa_17 hfu h1 z1 c1 hq hv e17
  by_cases e18 : sA r 30 p = 18
  · exact oa_18 hfu h1 z1 c1 hq hv e18
  by_cases e19 : sA r 30 p = 19
  · exact oa_19 hfu h1 z1 c1 hq hv e19
  by_cases e20 : sA r 30 p = 20
  · exact oa_20 hfu h1 z1 c1 hq hv e20
  by_cases e21 : sA r 30 p = 21
  · exact oa_21 hfu h1 z1 c1 hq hv e21
  by_cases e22 : sA r 30 p = 22
  · exact oa_22 hfu h1 z1 c1 hq hv e22
  by_cases e23 : sA r 30 p = 23
  · exact oa_23 hfu h1 z1 c1 hq hv e23
  by_cases e24 : sA r 30 p = 24
  · exact oa_24 hfu h1 z1 c1 hq hv e24
  by_cases e25 : sA r 30 p = 25
  · exact oa_25 hfu h1 z1 c1 hq hv e25
  by_cases e26 : sA r 30 p = 26
  · exact oa_26 hfu h1 z1 c1 hq hv e26
  by_cases e27 : sA r 30 p = 27
  · exact oa_27 hfu h1 z1 c1 hq hv e27
  by_cases e28 : sA r 30 p = 28
  · exact oa_28 hfu h1 z1 c1 hq hv e28
  by_cases e29 : sA r 30 p = 29
  · exact oa_29 hfu h1 z1 c1 hq hv e29
  by_cases e34 : sA r 30 p = 34
  · exact oa_34 hfu h1 z1 c1 hq hv e34
  by_cases e30 : sA r 30 p = 30
  · rw [e30] at hn; exact absurd (by decide) hn
  by_cases e31 : sA r 30 p = 31
  · rw [e31] at hn; exact absurd (by decide) hn
  by_cases e32 : sA r 30 p = 32
  · rw [e32] at hn; exact absurd (by decide) hn
  by_cases e33 : sA r 30 p = 33
  · rw [e33] at hn; exact absurd (by decide) hn
  exfalso
  have : f_M_wholeOf (sA r 30 p) = 0 := by
    unfold f_M_wholeOf
    exact (if_neg e1).trans ((if_neg e2).trans ((if_neg e3).trans ((if_neg e4).trans ((if_neg e5).trans ((if_neg e6).trans ((if_neg e7).trans ((if_neg e8).trans ((if_neg e9).trans ((if_neg e10).trans ((if_neg e11).trans ((if_neg e12).trans ((if_neg e13).trans ((if_neg e14).trans ((if_neg e15).trans ((if_neg e16).trans ((if_neg e17).trans ((if_neg e18).trans ((if_neg e19).trans ((if_neg e20).trans ((if_neg e21).trans ((if_neg e22).trans ((if_neg e23).trans ((if_neg e24).trans ((if_neg e25).trans ((if_neg e26).trans ((if_neg e27).trans ((if_neg e28).trans ((if_neg e29).trans ((if_neg e30).trans ((if_neg e31).trans ((if_neg e32).trans ((if_neg e33).trans (if_neg e34)))))))))))))))))))))))))))))))))
  rw [this] at hw
  have : (0 : Int32).toInt = 0 := rfl
  omega
end DA
