/-! each op, taken by its number -/
section DP
variable {fu : Nat} {c : St} {a : Int32}
theorem pf_1 (e : f_Op_operand (pI c 8 5 a) 0 = 1) : f_Op_perform fu c a = (f_Op_setNumber (pI c 8 5 a) 1 (Int64.toInt32 (f_Op_bytes fu (pI c 8 5 a) 2 4))) := by
  have ne : ∀ j : Int32, j ≠ 1 → ¬ f_Op_operand (pI c 8 5 a) 0 = j := fun j hj e2 => hj (e2.symm.trans e)
  unfold f_Op_perform
  exact if_pos e
theorem pf_2 (e : f_Op_operand (pI c 8 5 a) 0 = 2) : f_Op_perform fu c a = (f_Op_setNumber (pI c 8 5 a) 1 (f_Op_numberAt (pI c 8 5 a) 2)) := by
  have ne : ∀ j : Int32, j ≠ 2 → ¬ f_Op_operand (pI c 8 5 a) 0 = j := fun j hj e2 => hj (e2.symm.trans e)
  unfold f_Op_perform
  exact (if_neg (ne 1 (by decide))).trans (if_pos e)
theorem pf_3 (e : f_Op_operand (pI c 8 5 a) 0 = 3) : f_Op_perform fu c a = (f_Op_calculate (pI c 8 5 a) (f_Op_operand (pI c 8 5 a) 3) (f_Op_numberAt (pI c 8 5 a) 1) (f_Op_numberAt (pI c 8 5 a) 2)) := by
  have ne : ∀ j : Int32, j ≠ 3 → ¬ f_Op_operand (pI c 8 5 a) 0 = j := fun j hj e2 => hj (e2.symm.trans e)
  unfold f_Op_perform
  exact (if_neg (ne 1 (by decide))).trans ((if_neg (ne 2 (by decide))).trans (if_pos e))
theorem pf_4 (e : f_Op_operand (pI c 8 5 a) 0 = 4) : f_Op_perform fu c a = (f_Op_setReal (pI c 8 5 a) 1 (f_Re_plain (f_Op_bytes fu (pI c 8 5 a) 2 8))) := by
  have ne : ∀ j : Int32, j ≠ 4 → ¬ f_Op_operand (pI c 8 5 a) 0 = j := fun j hj e2 => hj (e2.symm.trans e)
  unfold f_Op_perform
  exact (if_neg (ne 1 (by decide))).trans ((if_neg (ne 2 (by decide))).trans ((if_neg (ne 3 (by decide))).trans (if_pos e)))
theorem pf_5 (e : f_Op_operand (pI c 8 5 a) 0 = 5) : f_Op_perform fu c a = (f_Op_setReal (pI c 8 5 a) 1 (f_Re_ofInt (f_Op_numberAt (pI c 8 5 a) 2))) := by
  have ne : ∀ j : Int32, j ≠ 5 → ¬ f_Op_operand (pI c 8 5 a) 0 = j := fun j hj e2 => hj (e2.symm.trans e)
  unfold f_Op_perform
  exact (if_neg (ne 1 (by decide))).trans ((if_neg (ne 2 (by decide))).trans ((if_neg (ne 3 (by decide))).trans ((if_neg (ne 4 (by decide))).trans (if_pos e))))
theorem pf_6 (e : f_Op_operand (pI c 8 5 a) 0 = 6) : f_Op_perform fu c a = (f_Op_setNumber (pI c 8 5 a) 1 (f_Re_toInt (f_Op_realAt (pI c 8 5 a) 2))) := by
  have ne : ∀ j : Int32, j ≠ 6 → ¬ f_Op_operand (pI c 8 5 a) 0 = j := fun j hj e2 => hj (e2.symm.trans e)
  unfold f_Op_perform
  exact (if_neg (ne 1 (by decide))).trans ((if_neg (ne 2 (by decide))).trans ((if_neg (ne 3 (by decide))).trans ((if_neg (ne 4 (by decide))).trans ((if_neg (ne 5 (by decide))).trans (if_pos e)))))
theorem pf_7 (e : f_Op_operand (pI c 8 5 a) 0 = 7) : f_Op_perform fu c a = (f_Op_setReal (pI c 8 5 a) 1 (f_Re_paired (f_Op_operand (pI c 8 5 a) 3) (f_Op_realAt (pI c 8 5 a) 1) (f_Op_realAt (pI c 8 5 a) 2))) := by
  have ne : ∀ j : Int32, j ≠ 7 → ¬ f_Op_operand (pI c 8 5 a) 0 = j := fun j hj e2 => hj (e2.symm.trans e)
  unfold f_Op_perform
  exact (if_neg (ne 1 (by decide))).trans ((if_neg (ne 2 (by decide))).trans ((if_neg (ne 3 (by decide))).trans ((if_neg (ne 4 (by decide))).trans ((if_neg (ne 5 (by decide))).trans ((if_neg (ne 6 (by decide))).trans (if_pos e))))))
theorem pf_8 (e : f_Op_operand (pI c 8 5 a) 0 = 8) : f_Op_perform fu c a = (f_Op_setReal (pI c 8 5 a) 1 (f_Re_changed (f_Op_operand (pI c 8 5 a) 2) (f_Op_realAt (pI c 8 5 a) 1))) := by
  have ne : ∀ j : Int32, j ≠ 8 → ¬ f_Op_operand (pI c 8 5 a) 0 = j := fun j hj e2 => hj (e2.symm.trans e)
  unfold f_Op_perform
  exact (if_neg (ne 1 (by decide))).trans ((if_neg (ne 2 (by decide))).trans ((if_neg (ne 3 (by decide))).trans ((if_neg (ne 4 (by decide))).trans ((if_neg (ne 5 (by decide))).trans ((if_neg (ne 6 (by decide))).trans ((if_neg (ne 7 (by decide))).trans (if_pos e)))))))
theorem pf_9 (e : f_Op_operand (pI c 8 5 a) 0 = 9) : f_Op_perform fu c a = (cond (cn1 .eq (b2i (f_Re_holds (f_Op_operand (pI c 8 5 a) 4) (f_Op_realAt (pI c 8 5 a) 2) (f_Op_realAt (pI c 8 5 a) 3)))) (t_Op_perform_103 fu (pI c 8 5 a) 0 1) (t_Op_perform_103 fu (pI c 8 5 a) 1 1)) := by
  have ne : ∀ j : Int32, j ≠ 9 → ¬ f_Op_operand (pI c 8 5 a) 0 = j := fun j hj e2 => hj (e2.symm.trans e)
  unfold f_Op_perform
  exact (if_neg (ne 1 (by decide))).trans ((if_neg (ne 2 (by decide))).trans ((if_neg (ne 3 (by decide))).trans ((if_neg (ne 4 (by decide))).trans ((if_neg (ne 5 (by decide))).trans ((if_neg (ne 6 (by decide))).trans ((if_neg (ne 7 (by decide))).trans ((if_neg (ne 8 (by decide))).trans (if_pos e))))))))
theorem pf_10 (e : f_Op_operand (pI c 8 5 a) 0 = 10) : f_Op_perform fu c a = (f_Op_setSlot (pI c 8 5 a) 1 (f_Op_slotAt (pI c 8 5 a) 2)) := by
  have ne : ∀ j : Int32, j ≠ 10 → ¬ f_Op_operand (pI c 8 5 a) 0 = j := fun j hj e2 => hj (e2.symm.trans e)
  unfold f_Op_perform
  exact (if_neg (ne 1 (by decide))).trans ((if_neg (ne 2 (by decide))).trans ((if_neg (ne 3 (by decide))).trans ((if_neg (ne 4 (by decide))).trans ((if_neg (ne 5 (by decide))).trans ((if_neg (ne 6 (by decide))).trans ((if_neg (ne 7 (by decide))).trans ((if_neg (ne 8 (by decide))).trans ((if_neg (ne 9 (by decide))).trans (if_pos e)))))))))
theorem pf_11 (e : f_Op_operand (pI c 8 5 a) 0 = 11) : f_Op_perform fu c a = (f_Op_setSlot (pI c 8 5 a) 1 none) := by
  have ne : ∀ j : Int32, j ≠ 11 → ¬ f_Op_operand (pI c 8 5 a) 0 = j := fun j hj e2 => hj (e2.symm.trans e)
  unfold f_Op_perform
  exact (if_neg (ne 1 (by decide))).trans ((if_neg (ne 2 (by decide))).trans ((if_neg (ne 3 (by decide))).trans ((if_neg (ne 4 (by decide))).trans ((if_neg (ne 5 (by decide))).trans ((if_neg (ne 6 (by decide))).trans ((if_neg (ne 7 (by decide))).trans ((if_neg (ne 8 (by decide))).trans ((if_neg (ne 9 (by decide))).trans ((if_neg (ne 10 (by decide))).trans (if_pos e))))))))))
theorem pf_12 (e : f_Op_operand (pI c 8 5 a) 0 = 12) : f_Op_perform fu c a = (f_Op_makeRow (pI c 8 5 a) (f_Op_numberAt (pI c 8 5 a) 3)) := by
  have ne : ∀ j : Int32, j ≠ 12 → ¬ f_Op_operand (pI c 8 5 a) 0 = j := fun j hj e2 => hj (e2.symm.trans e)
  unfold f_Op_perform
  exact (if_neg (ne 1 (by decide))).trans ((if_neg (ne 2 (by decide))).trans ((if_neg (ne 3 (by decide))).trans ((if_neg (ne 4 (by decide))).trans ((if_neg (ne 5 (by decide))).trans ((if_neg (ne 6 (by decide))).trans ((if_neg (ne 7 (by decide))).trans ((if_neg (ne 8 (by decide))).trans ((if_neg (ne 9 (by decide))).trans ((if_neg (ne 10 (by decide))).trans ((if_neg (ne 11 (by decide))).trans (if_pos e)))))))))))
theorem pf_13 (e : f_Op_operand (pI c 8 5 a) 0 = 13) : f_Op_perform fu c a = (f_Op_makeGrid fu (pI c 8 5 a) (f_Op_numberAt (pI c 8 5 a) 2) (f_Op_numberAt (pI c 8 5 a) 3)) := by
  have ne : ∀ j : Int32, j ≠ 13 → ¬ f_Op_operand (pI c 8 5 a) 0 = j := fun j hj e2 => hj (e2.symm.trans e)
  unfold f_Op_perform
  exact (if_neg (ne 1 (by decide))).trans ((if_neg (ne 2 (by decide))).trans ((if_neg (ne 3 (by decide))).trans ((if_neg (ne 4 (by decide))).trans ((if_neg (ne 5 (by decide))).trans ((if_neg (ne 6 (by decide))).trans ((if_neg (ne 7 (by decide))).trans ((if_neg (ne 8 (by decide))).trans ((if_neg (ne 9 (by decide))).trans ((if_neg (ne 10 (by decide))).trans ((if_neg (ne 11 (by decide))).trans ((if_neg (ne 12 (by decide))).trans (if_pos e))))))))))))
theorem pf_14 (e : f_Op_operand (pI c 8 5 a) 0 = 14) : f_Op_perform fu c a = (f_Op_makeBox (pI c 8 5 a) (f_Op_numberAt (pI c 8 5 a) 3)) := by
  have ne : ∀ j : Int32, j ≠ 14 → ¬ f_Op_operand (pI c 8 5 a) 0 = j := fun j hj e2 => hj (e2.symm.trans e)
  unfold f_Op_perform
  exact (if_neg (ne 1 (by decide))).trans ((if_neg (ne 2 (by decide))).trans ((if_neg (ne 3 (by decide))).trans ((if_neg (ne 4 (by decide))).trans ((if_neg (ne 5 (by decide))).trans ((if_neg (ne 6 (by decide))).trans ((if_neg (ne 7 (by decide))).trans ((if_neg (ne 8 (by decide))).trans ((if_neg (ne 9 (by decide))).trans ((if_neg (ne 10 (by decide))).trans ((if_neg (ne 11 (by decide))).trans ((if_neg (ne 12 (by decide))).trans ((if_neg (ne 13 (by decide))).trans (if_pos e)))))))))))))
theorem pf_15 (e : f_Op_operand (pI c 8 5 a) 0 = 15) : f_Op_perform fu c a = (f_Op_makePart (pI c 8 5 a)) := by
  have ne : ∀ j : Int32, j ≠ 15 → ¬ f_Op_operand (pI c 8 5 a) 0 = j := fun j hj e2 => hj (e2.symm.trans e)
  unfold f_Op_perform
  exact (if_neg (ne 1 (by decide))).trans ((if_neg (ne 2 (by decide))).trans ((if_neg (ne 3 (by decide))).trans ((if_neg (ne 4 (by decide))).trans ((if_neg (ne 5 (by decide))).trans ((if_neg (ne 6 (by decide))).trans ((if_neg (ne 7 (by decide))).trans ((if_neg (ne 8 (by decide))).trans ((if_neg (ne 9 (by decide))).trans ((if_neg (ne 10 (by decide))).trans ((if_neg (ne 11 (by decide))).trans ((if_neg (ne 12 (by decide))).trans ((if_neg (ne 13 (by decide))).trans ((if_neg (ne 14 (by decide))).trans (if_pos e))))))))))))))
theorem pf_16 (e : f_Op_operand (pI c 8 5 a) 0 = 16) : f_Op_perform fu c a = (f_Op_makeTrouble (pI c 8 5 a)) := by
  have ne : ∀ j : Int32, j ≠ 16 → ¬ f_Op_operand (pI c 8 5 a) 0 = j := fun j hj e2 => hj (e2.symm.trans e)
  unfold f_Op_perform
  exact (if_neg (ne 1 (by decide))).trans ((if_neg (ne 2 (by decide))).trans ((if_neg (ne 3 (by decide))).trans ((if_neg (ne 4 (by decide))).trans ((if_neg (ne 5 (by decide))).trans ((if_neg (ne 6 (by decide))).trans ((if_neg (ne 7 (by decide))).trans ((if_neg (ne 8 (by decide))).trans ((if_neg (ne 9 (by decide))).trans ((if_neg (ne 10 (by decide))).trans ((if_neg (ne 11 (by decide))).trans ((if_neg (ne 12 (by decide))).trans ((if_neg (ne 13 (by decide))).trans ((if_neg (ne 14 (by decide))).trans ((if_neg (ne 15 (by decide))).trans (if_pos e)))))))))))))))
theorem pf_17 (e : f_Op_operand (pI c 8 5 a) 0 = 17) : f_Op_perform fu c a = (f_Op_countMembers (pI c 8 5 a) (f_Op_slotAt (pI c 8 5 a) 2)) := by
  have ne : ∀ j : Int32, j ≠ 17 → ¬ f_Op_operand (pI c 8 5 a) 0 = j := fun j hj e2 => hj (e2.symm.trans e)
  unfold f_Op_perform
  exact (if_neg (ne 1 (by decide))).trans ((if_neg (ne 2 (by decide))).trans ((if_neg (ne 3 (by decide))).trans ((if_neg (ne 4 (by decide))).trans ((if_neg (ne 5 (by decide))).trans ((if_neg (ne 6 (by decide))).trans ((if_neg (ne 7 (by decide))).trans ((if_neg (ne 8 (by decide))).trans ((if_neg (ne 9 (by decide))).trans ((if_neg (ne 10 (by decide))).trans ((if_neg (ne 11 (by decide))).trans ((if_neg (ne 12 (by decide))).trans ((if_neg (ne 13 (by decide))).trans ((if_neg (ne 14 (by decide))).trans ((if_neg (ne 15 (by decide))).trans ((if_neg (ne 16 (by decide))).trans (if_pos e))))))))))))))))
theorem pf_18 (e : f_Op_operand (pI c 8 5 a) 0 = 18) : f_Op_perform fu c a = (cond (cn1 .eq (b2i (f_Op_fits (pI c 8 5 a) (f_Op_slotAt (pI c 8 5 a) 2) (f_Op_operand (pI c 8 5 a) 3)))) (t_Op_perform_163 fu (pI c 8 5 a) 0 1) (t_Op_perform_163 fu (pI c 8 5 a) 1 1)) := by
  have ne : ∀ j : Int32, j ≠ 18 → ¬ f_Op_operand (pI c 8 5 a) 0 = j := fun j hj e2 => hj (e2.symm.trans e)
  unfold f_Op_perform
  exact (if_neg (ne 1 (by decide))).trans ((if_neg (ne 2 (by decide))).trans ((if_neg (ne 3 (by decide))).trans ((if_neg (ne 4 (by decide))).trans ((if_neg (ne 5 (by decide))).trans ((if_neg (ne 6 (by decide))).trans ((if_neg (ne 7 (by decide))).trans ((if_neg (ne 8 (by decide))).trans ((if_neg (ne 9 (by decide))).trans ((if_neg (ne 10 (by decide))).trans ((if_neg (ne 11 (by decide))).trans ((if_neg (ne 12 (by decide))).trans ((if_neg (ne 13 (by decide))).trans ((if_neg (ne 14 (by decide))).trans ((if_neg (ne 15 (by decide))).trans ((if_neg (ne 16 (by decide))).trans ((if_neg (ne 17 (by decide))).trans (if_pos e)))))))))))))))))
theorem pf_19 (e : f_Op_operand (pI c 8 5 a) 0 = 19) : f_Op_perform fu c a = (f_Op_takeMember (pI c 8 5 a) (f_Op_slotAt (pI c 8 5 a) 3) (f_Op_numberAt (pI c 8 5 a) 4)) := by
  have ne : ∀ j : Int32, j ≠ 19 → ¬ f_Op_operand (pI c 8 5 a) 0 = j := fun j hj e2 => hj (e2.symm.trans e)
  unfold f_Op_perform
  exact (if_neg (ne 1 (by decide))).trans ((if_neg (ne 2 (by decide))).trans ((if_neg (ne 3 (by decide))).trans ((if_neg (ne 4 (by decide))).trans ((if_neg (ne 5 (by decide))).trans ((if_neg (ne 6 (by decide))).trans ((if_neg (ne 7 (by decide))).trans ((if_neg (ne 8 (by decide))).trans ((if_neg (ne 9 (by decide))).trans ((if_neg (ne 10 (by decide))).trans ((if_neg (ne 11 (by decide))).trans ((if_neg (ne 12 (by decide))).trans ((if_neg (ne 13 (by decide))).trans ((if_neg (ne 14 (by decide))).trans ((if_neg (ne 15 (by decide))).trans ((if_neg (ne 16 (by decide))).trans ((if_neg (ne 17 (by decide))).trans ((if_neg (ne 18 (by decide))).trans (if_pos e))))))))))))))))))
theorem pf_20 (e : f_Op_operand (pI c 8 5 a) 0 = 20) : f_Op_perform fu c a = (f_Op_putMember (pI c 8 5 a) (f_Op_slotAt (pI c 8 5 a) 2) (f_Op_numberAt (pI c 8 5 a) 3)) := by
  have ne : ∀ j : Int32, j ≠ 20 → ¬ f_Op_operand (pI c 8 5 a) 0 = j := fun j hj e2 => hj (e2.symm.trans e)
  unfold f_Op_perform
  exact (if_neg (ne 1 (by decide))).trans ((if_neg (ne 2 (by decide))).trans ((if_neg (ne 3 (by decide))).trans ((if_neg (ne 4 (by decide))).trans ((if_neg (ne 5 (by decide))).trans ((if_neg (ne 6 (by decide))).trans ((if_neg (ne 7 (by decide))).trans ((if_neg (ne 8 (by decide))).trans ((if_neg (ne 9 (by decide))).trans ((if_neg (ne 10 (by decide))).trans ((if_neg (ne 11 (by decide))).trans ((if_neg (ne 12 (by decide))).trans ((if_neg (ne 13 (by decide))).trans ((if_neg (ne 14 (by decide))).trans ((if_neg (ne 15 (by decide))).trans ((if_neg (ne 16 (by decide))).trans ((if_neg (ne 17 (by decide))).trans ((if_neg (ne 18 (by decide))).trans ((if_neg (ne 19 (by decide))).trans (if_pos e)))))))))))))))))))
theorem pf_21 (e : f_Op_operand (pI c 8 5 a) 0 = 21) : f_Op_perform fu c a = (f_Op_copyMembers fu (pI c 8 5 a) (f_Op_slotAt (pI c 8 5 a) 1) (f_Op_slotAt (pI c 8 5 a) 3)) := by
  have ne : ∀ j : Int32, j ≠ 21 → ¬ f_Op_operand (pI c 8 5 a) 0 = j := fun j hj e2 => hj (e2.symm.trans e)
  unfold f_Op_perform
  exact (if_neg (ne 1 (by decide))).trans ((if_neg (ne 2 (by decide))).trans ((if_neg (ne 3 (by decide))).trans ((if_neg (ne 4 (by decide))).trans ((if_neg (ne 5 (by decide))).trans ((if_neg (ne 6 (by decide))).trans ((if_neg (ne 7 (by decide))).trans ((if_neg (ne 8 (by decide))).trans ((if_neg (ne 9 (by decide))).trans ((if_neg (ne 10 (by decide))).trans ((if_neg (ne 11 (by decide))).trans ((if_neg (ne 12 (by decide))).trans ((if_neg (ne 13 (by decide))).trans ((if_neg (ne 14 (by decide))).trans ((if_neg (ne 15 (by decide))).trans ((if_neg (ne 16 (by decide))).trans ((if_neg (ne 17 (by decide))).trans ((if_neg (ne 18 (by decide))).trans ((if_neg (ne 19 (by decide))).trans ((if_neg (ne 20 (by decide))).trans (if_pos e))))))))))))))))))))
theorem pf_22 (e : f_Op_operand (pI c 8 5 a) 0 = 22) : f_Op_perform fu c a = (f_Op_makeTwin fu (pI c 8 5 a) (f_Op_slotAt (pI c 8 5 a) 2)) := by
  have ne : ∀ j : Int32, j ≠ 22 → ¬ f_Op_operand (pI c 8 5 a) 0 = j := fun j hj e2 => hj (e2.symm.trans e)
  unfold f_Op_perform
  exact (if_neg (ne 1 (by decide))).trans ((if_neg (ne 2 (by decide))).trans ((if_neg (ne 3 (by decide))).trans ((if_neg (ne 4 (by decide))).trans ((if_neg (ne 5 (by decide))).trans ((if_neg (ne 6 (by decide))).trans ((if_neg (ne 7 (by decide))).trans ((if_neg (ne 8 (by decide))).trans ((if_neg (ne 9 (by decide))).trans ((if_neg (ne 10 (by decide))).trans ((if_neg (ne 11 (by decide))).trans ((if_neg (ne 12 (by decide))).trans ((if_neg (ne 13 (by decide))).trans ((if_neg (ne 14 (by decide))).trans ((if_neg (ne 15 (by decide))).trans ((if_neg (ne 16 (by decide))).trans ((if_neg (ne 17 (by decide))).trans ((if_neg (ne 18 (by decide))).trans ((if_neg (ne 19 (by decide))).trans ((if_neg (ne 20 (by decide))).trans ((if_neg (ne 21 (by decide))).trans (if_pos e)))))))))))))))))))))
theorem pf_23 (e : f_Op_operand (pI c 8 5 a) 0 = 23) : f_Op_perform fu c a = (f_Op_takeThing (pI c 8 5 a) 9 (f_Op_slotAt (pI c 8 5 a) 2) (f_Op_numberAt (pI c 8 5 a) 3)) := by
  have ne : ∀ j : Int32, j ≠ 23 → ¬ f_Op_operand (pI c 8 5 a) 0 = j := fun j hj e2 => hj (e2.symm.trans e)
  unfold f_Op_perform
  exact (if_neg (ne 1 (by decide))).trans ((if_neg (ne 2 (by decide))).trans ((if_neg (ne 3 (by decide))).trans ((if_neg (ne 4 (by decide))).trans ((if_neg (ne 5 (by decide))).trans ((if_neg (ne 6 (by decide))).trans ((if_neg (ne 7 (by decide))).trans ((if_neg (ne 8 (by decide))).trans ((if_neg (ne 9 (by decide))).trans ((if_neg (ne 10 (by decide))).trans ((if_neg (ne 11 (by decide))).trans ((if_neg (ne 12 (by decide))).trans ((if_neg (ne 13 (by decide))).trans ((if_neg (ne 14 (by decide))).trans ((if_neg (ne 15 (by decide))).trans ((if_neg (ne 16 (by decide))).trans ((if_neg (ne 17 (by decide))).trans ((if_neg (ne 18 (by decide))).trans ((if_neg (ne 19 (by decide))).trans ((if_neg (ne 20 (by decide))).trans ((if_neg (ne 21 (by decide))).trans ((if_neg (ne 22 (by decide))).trans (if_pos e))))))))))))))))))))))
theorem pf_24 (e : f_Op_operand (pI c 8 5 a) 0 = 24) : f_Op_perform fu c a = (f_Op_putThing (pI c 8 5 a) 9 (f_Op_slotAt (pI c 8 5 a) 1) (f_Op_numberAt (pI c 8 5 a) 2) (f_Op_slotAt (pI c 8 5 a) 3)) := by
  have ne : ∀ j : Int32, j ≠ 24 → ¬ f_Op_operand (pI c 8 5 a) 0 = j := fun j hj e2 => hj (e2.symm.trans e)
  unfold f_Op_perform
  exact (if_neg (ne 1 (by decide))).trans ((if_neg (ne 2 (by decide))).trans ((if_neg (ne 3 (by decide))).trans ((if_neg (ne 4 (by decide))).trans ((if_neg (ne 5 (by decide))).trans ((if_neg (ne 6 (by decide))).trans ((if_neg (ne 7 (by decide))).trans ((if_neg (ne 8 (by decide))).trans ((if_neg (ne 9 (by decide))).trans ((if_neg (ne 10 (by decide))).trans ((if_neg (ne 11 (by decide))).trans ((if_neg (ne 12 (by decide))).trans ((if_neg (ne 13 (by decide))).trans ((if_neg (ne 14 (by decide))).trans ((if_neg (ne 15 (by decide))).trans ((if_neg (ne 16 (by decide))).trans ((if_neg (ne 17 (by decide))).trans ((if_neg (ne 18 (by decide))).trans ((if_neg (ne 19 (by decide))).trans ((if_neg (ne 20 (by decide))).trans ((if_neg (ne 21 (by decide))).trans ((if_neg (ne 22 (by decide))).trans ((if_neg (ne 23 (by decide))).trans (if_pos e)))))))))))))))))))))))
theorem pf_25 (e : f_Op_operand (pI c 8 5 a) 0 = 25) : f_Op_perform fu c a = (f_Op_takeThing (pI c 8 5 a) 10 (f_Op_slotAt (pI c 8 5 a) 2) (f_Op_numberAt (pI c 8 5 a) 3)) := by
  have ne : ∀ j : Int32, j ≠ 25 → ¬ f_Op_operand (pI c 8 5 a) 0 = j := fun j hj e2 => hj (e2.symm.trans e)
  unfold f_Op_perform
  exact (if_neg (ne 1 (by decide))).trans ((if_neg (ne 2 (by decide))).trans ((if_neg (ne 3 (by decide))).trans ((if_neg (ne 4 (by decide))).trans ((if_neg (ne 5 (by decide))).trans ((if_neg (ne 6 (by decide))).trans ((if_neg (ne 7 (by decide))).trans ((if_neg (ne 8 (by decide))).trans ((if_neg (ne 9 (by decide))).trans ((if_neg (ne 10 (by decide))).trans ((if_neg (ne 11 (by decide))).trans ((if_neg (ne 12 (by decide))).trans ((if_neg (ne 13 (by decide))).trans ((if_neg (ne 14 (by decide))).trans ((if_neg (ne 15 (by decide))).trans ((if_neg (ne 16 (by decide))).trans ((if_neg (ne 17 (by decide))).trans ((if_neg (ne 18 (by decide))).trans ((if_neg (ne 19 (by decide))).trans ((if_neg (ne 20 (by decide))).trans ((if_neg (ne 21 (by decide))).trans ((if_neg (ne 22 (by decide))).trans ((if_neg (ne 23 (by decide))).trans ((if_neg (ne 24 (by decide))).trans (if_pos e))))))))))))))))))))))))
theorem pf_26 (e : f_Op_operand (pI c 8 5 a) 0 = 26) : f_Op_perform fu c a = (f_Op_putThing (pI c 8 5 a) 10 (f_Op_slotAt (pI c 8 5 a) 1) (f_Op_numberAt (pI c 8 5 a) 2) (f_Op_slotAt (pI c 8 5 a) 3)) := by
  have ne : ∀ j : Int32, j ≠ 26 → ¬ f_Op_operand (pI c 8 5 a) 0 = j := fun j hj e2 => hj (e2.symm.trans e)
  unfold f_Op_perform
  exact (if_neg (ne 1 (by decide))).trans ((if_neg (ne 2 (by decide))).trans ((if_neg (ne 3 (by decide))).trans ((if_neg (ne 4 (by decide))).trans ((if_neg (ne 5 (by decide))).trans ((if_neg (ne 6 (by decide))).trans ((if_neg (ne 7 (by decide))).trans ((if_neg (ne 8 (by decide))).trans ((if_neg (ne 9 (by decide))).trans ((if_neg (ne 10 (by decide))).trans ((if_neg (ne 11 (by decide))).trans ((if_neg (ne 12 (by decide))).trans ((if_neg (ne 13 (by decide))).trans ((if_neg (ne 14 (by decide))).trans ((if_neg (ne 15 (by decide))).trans ((if_neg (ne 16 (by decide))).trans ((if_neg (ne 17 (by decide))).trans ((if_neg (ne 18 (by decide))).trans ((if_neg (ne 19 (by decide))).trans ((if_neg (ne 20 (by decide))).trans ((if_neg (ne 21 (by decide))).trans ((if_neg (ne 22 (by decide))).trans ((if_neg (ne 23 (by decide))).trans ((if_neg (ne 24 (by decide))).trans ((if_neg (ne 25 (by decide))).trans (if_pos e)))))))))))))))))))))))))
theorem pf_27 (e : f_Op_operand (pI c 8 5 a) 0 = 27) : f_Op_perform fu c a = (f_Op_takeField (pI c 8 5 a) (f_Op_operand (pI c 8 5 a) 1) (f_Op_slotAt (pI c 8 5 a) 3)) := by
  have ne : ∀ j : Int32, j ≠ 27 → ¬ f_Op_operand (pI c 8 5 a) 0 = j := fun j hj e2 => hj (e2.symm.trans e)
  unfold f_Op_perform
  exact (if_neg (ne 1 (by decide))).trans ((if_neg (ne 2 (by decide))).trans ((if_neg (ne 3 (by decide))).trans ((if_neg (ne 4 (by decide))).trans ((if_neg (ne 5 (by decide))).trans ((if_neg (ne 6 (by decide))).trans ((if_neg (ne 7 (by decide))).trans ((if_neg (ne 8 (by decide))).trans ((if_neg (ne 9 (by decide))).trans ((if_neg (ne 10 (by decide))).trans ((if_neg (ne 11 (by decide))).trans ((if_neg (ne 12 (by decide))).trans ((if_neg (ne 13 (by decide))).trans ((if_neg (ne 14 (by decide))).trans ((if_neg (ne 15 (by decide))).trans ((if_neg (ne 16 (by decide))).trans ((if_neg (ne 17 (by decide))).trans ((if_neg (ne 18 (by decide))).trans ((if_neg (ne 19 (by decide))).trans ((if_neg (ne 20 (by decide))).trans ((if_neg (ne 21 (by decide))).trans ((if_neg (ne 22 (by decide))).trans ((if_neg (ne 23 (by decide))).trans ((if_neg (ne 24 (by decide))).trans ((if_neg (ne 25 (by decide))).trans ((if_neg (ne 26 (by decide))).trans (if_pos e))))))))))))))))))))))))))
theorem pf_28 (e : f_Op_operand (pI c 8 5 a) 0 = 28) : f_Op_perform fu c a = (f_Op_putField (pI c 8 5 a) (f_Op_operand (pI c 8 5 a) 1) (f_Op_slotAt (pI c 8 5 a) 2)) := by
  have ne : ∀ j : Int32, j ≠ 28 → ¬ f_Op_operand (pI c 8 5 a) 0 = j := fun j hj e2 => hj (e2.symm.trans e)
  unfold f_Op_perform
  exact (if_neg (ne 1 (by decide))).trans ((if_neg (ne 2 (by decide))).trans ((if_neg (ne 3 (by decide))).trans ((if_neg (ne 4 (by decide))).trans ((if_neg (ne 5 (by decide))).trans ((if_neg (ne 6 (by decide))).trans ((if_neg (ne 7 (by decide))).trans ((if_neg (ne 8 (by decide))).trans ((if_neg (ne 9 (by decide))).trans ((if_neg (ne 10 (by decide))).trans ((if_neg (ne 11 (by decide))).trans ((if_neg (ne 12 (by decide))).trans ((if_neg (ne 13 (by decide))).trans ((if_neg (ne 14 (by decide))).trans ((if_neg (ne 15 (by decide))).trans ((if_neg (ne 16 (by decide))).trans ((if_neg (ne 17 (by decide))).trans ((if_neg (ne 18 (by decide))).trans ((if_neg (ne 19 (by decide))).trans ((if_neg (ne 20 (by decide))).trans ((if_neg (ne 21 (by decide))).trans ((if_neg (ne 22 (by decide))).trans ((if_neg (ne 23 (by decide))).trans ((if_neg (ne 24 (by decide))).trans ((if_neg (ne 25 (by decide))).trans ((if_neg (ne 26 (by decide))).trans ((if_neg (ne 27 (by decide))).trans (if_pos e)))))))))))))))))))))))))))
theorem pf_29 (e : f_Op_operand (pI c 8 5 a) 0 = 29) : f_Op_perform fu c a = (f_Op_ask fu (pI c 8 5 a) (f_Op_operand (pI c 8 5 a) 1) (f_Op_slotAt (pI c 8 5 a) 3) (f_Op_numberAt (pI c 8 5 a) 4)) := by
  have ne : ∀ j : Int32, j ≠ 29 → ¬ f_Op_operand (pI c 8 5 a) 0 = j := fun j hj e2 => hj (e2.symm.trans e)
  unfold f_Op_perform
  exact (if_neg (ne 1 (by decide))).trans ((if_neg (ne 2 (by decide))).trans ((if_neg (ne 3 (by decide))).trans ((if_neg (ne 4 (by decide))).trans ((if_neg (ne 5 (by decide))).trans ((if_neg (ne 6 (by decide))).trans ((if_neg (ne 7 (by decide))).trans ((if_neg (ne 8 (by decide))).trans ((if_neg (ne 9 (by decide))).trans ((if_neg (ne 10 (by decide))).trans ((if_neg (ne 11 (by decide))).trans ((if_neg (ne 12 (by decide))).trans ((if_neg (ne 13 (by decide))).trans ((if_neg (ne 14 (by decide))).trans ((if_neg (ne 15 (by decide))).trans ((if_neg (ne 16 (by decide))).trans ((if_neg (ne 17 (by decide))).trans ((if_neg (ne 18 (by decide))).trans ((if_neg (ne 19 (by decide))).trans ((if_neg (ne 20 (by decide))).trans ((if_neg (ne 21 (by decide))).trans ((if_neg (ne 22 (by decide))).trans ((if_neg (ne 23 (by decide))).trans ((if_neg (ne 24 (by decide))).trans ((if_neg (ne 25 (by decide))).trans ((if_neg (ne 26 (by decide))).trans ((if_neg (ne 27 (by decide))).trans ((if_neg (ne 28 (by decide))).trans (if_pos e))))))))))))))))))))))))))))
theorem pf_34 (e : f_Op_operand (pI c 8 5 a) 0 = 34) : f_Op_perform fu c a = (f_Op_tell (pI c 8 5 a) (f_Op_slotAt (pI c 8 5 a) 1)) := by
  have ne : ∀ j : Int32, j ≠ 34 → ¬ f_Op_operand (pI c 8 5 a) 0 = j := fun j hj e2 => hj (e2.symm.trans e)
  unfold f_Op_perform
  exact (if_neg (ne 1 (by decide))).trans ((if_neg (ne 2 (by decide))).trans ((if_neg (ne 3 (by decide))).trans ((if_neg (ne 4 (by decide))).trans ((if_neg (ne 5 (by decide))).trans ((if_neg (ne 6 (by decide))).trans ((if_neg (ne 7 (by decide))).trans ((if_neg (ne 8 (by decide))).trans ((if_neg (ne 9 (by decide))).trans ((if_neg (ne 10 (by decide))).trans ((if_neg (ne 11 (by decide))).trans ((if_neg (ne 12 (by decide))).trans ((if_neg (ne 13 (by decide))).trans ((if_neg (ne 14 (by decide))).trans ((if_neg (ne 15 (by decide))).trans ((if_neg (ne 16 (by decide))).trans ((if_neg (ne 17 (by decide))).trans ((if_neg (ne 18 (by decide))).trans ((if_neg (ne 19 (by decide))).trans ((if_neg (ne 20 (by decide))).trans ((if_neg (ne 21 (by decide))).trans ((if_neg (ne 22 (by decide))).trans ((if_neg (ne 23 (by decide))).trans ((if_neg (ne 24 (by decide))).trans ((if_neg (ne 25 (by decide))).trans ((if_neg (ne 26 (by decide))).trans ((if_neg (ne 27 (by decide))).trans ((if_neg (ne 28 (by decide))).trans ((if_neg (ne 29 (by decide))).trans ((if_neg (ne 30 (by decide))).trans ((if_neg (ne 31 (by decide))).trans ((if_neg (ne 32 (by decide))).trans ((if_neg (ne 33 (by decide))).trans (if_pos e)))))))))))))))))))))))))))))))))
theorem pw_1 (e : f_Op_operand (pI c 8 5 a) 0 = 1) (w0 : w_Op_operand (pI c 8 5 a) 0) (w : (w_Op_bytes fu (pI c 8 5 a) 2 4 ∧ (w_Op_setNumber (pI c 8 5 a) 1 (Int64.toInt32 (f_Op_bytes fu (pI c 8 5 a) 2 4)) ∧ True))) : w_Op_perform fu c a := by
  have ne : ∀ j : Int32, j ≠ 1 → ∀ {Q : Prop}, f_Op_operand (pI c 8 5 a) 0 = j → Q := fun j hj _ e2 => absurd (e2.symm.trans e) hj
  unfold w_Op_perform
  exact ⟨w0, ⟨fun _ => w, fun z => absurd e z⟩⟩
theorem pw_2 (e : f_Op_operand (pI c 8 5 a) 0 = 2) (w0 : w_Op_operand (pI c 8 5 a) 0) (w : (w_Op_numberAt (pI c 8 5 a) 2 ∧ (w_Op_setNumber (pI c 8 5 a) 1 (f_Op_numberAt (pI c 8 5 a) 2) ∧ True))) : w_Op_perform fu c a := by
  have ne : ∀ j : Int32, j ≠ 2 → ∀ {Q : Prop}, f_Op_operand (pI c 8 5 a) 0 = j → Q := fun j hj _ e2 => absurd (e2.symm.trans e) hj
  unfold w_Op_perform
  exact ⟨w0, ⟨ne 1 (by decide), fun _ => ⟨fun _ => w, fun z => absurd e z⟩⟩⟩
theorem pw_3 (e : f_Op_operand (pI c 8 5 a) 0 = 3) (w0 : w_Op_operand (pI c 8 5 a) 0) (w : (w_Op_operand (pI c 8 5 a) 3 ∧ (w_Op_numberAt (pI c 8 5 a) 1 ∧ (w_Op_numberAt (pI c 8 5 a) 2 ∧ (w_Op_calculate (pI c 8 5 a) (f_Op_operand (pI c 8 5 a) 3) (f_Op_numberAt (pI c 8 5 a) 1) (f_Op_numberAt (pI c 8 5 a) 2) ∧ True))))) : w_Op_perform fu c a := by
  have ne : ∀ j : Int32, j ≠ 3 → ∀ {Q : Prop}, f_Op_operand (pI c 8 5 a) 0 = j → Q := fun j hj _ e2 => absurd (e2.symm.trans e) hj
  unfold w_Op_perform
  exact ⟨w0, ⟨ne 1 (by decide), fun _ => ⟨ne 2 (by decide), fun _ => ⟨fun _ => w, fun z => absurd e z⟩⟩⟩⟩
theorem pw_4 (e : f_Op_operand (pI c 8 5 a) 0 = 4) (w0 : w_Op_operand (pI c 8 5 a) 0) (w : (w_Op_bytes fu (pI c 8 5 a) 2 8 ∧ (w_Op_setReal (pI c 8 5 a) 1 (f_Re_plain (f_Op_bytes fu (pI c 8 5 a) 2 8)) ∧ True))) : w_Op_perform fu c a := by
  have ne : ∀ j : Int32, j ≠ 4 → ∀ {Q : Prop}, f_Op_operand (pI c 8 5 a) 0 = j → Q := fun j hj _ e2 => absurd (e2.symm.trans e) hj
  unfold w_Op_perform
  exact ⟨w0, ⟨ne 1 (by decide), fun _ => ⟨ne 2 (by decide), fun _ => ⟨ne 3 (by decide), fun _ => ⟨fun _ => w, fun z => absurd e z⟩⟩⟩⟩⟩
theorem pw_5 (e : f_Op_operand (pI c 8 5 a) 0 = 5) (w0 : w_Op_operand (pI c 8 5 a) 0) (w : (w_Op_numberAt (pI c 8 5 a) 2 ∧ (w_Op_setReal (pI c 8 5 a) 1 (f_Re_ofInt (f_Op_numberAt (pI c 8 5 a) 2)) ∧ True))) : w_Op_perform fu c a := by
  have ne : ∀ j : Int32, j ≠ 5 → ∀ {Q : Prop}, f_Op_operand (pI c 8 5 a) 0 = j → Q := fun j hj _ e2 => absurd (e2.symm.trans e) hj
  unfold w_Op_perform
  exact ⟨w0, ⟨ne 1 (by decide), fun _ => ⟨ne 2 (by decide), fun _ => ⟨ne 3 (by decide), fun _ => ⟨ne 4 (by decide), fun _ => ⟨fun _ => w, fun z => absurd e z⟩⟩⟩⟩⟩⟩
theorem pw_6 (e : f_Op_operand (pI c 8 5 a) 0 = 6) (w0 : w_Op_operand (pI c 8 5 a) 0) (w : (w_Op_realAt (pI c 8 5 a) 2 ∧ (w_Op_setNumber (pI c 8 5 a) 1 (f_Re_toInt (f_Op_realAt (pI c 8 5 a) 2)) ∧ True))) : w_Op_perform fu c a := by
  have ne : ∀ j : Int32, j ≠ 6 → ∀ {Q : Prop}, f_Op_operand (pI c 8 5 a) 0 = j → Q := fun j hj _ e2 => absurd (e2.symm.trans e) hj
  unfold w_Op_perform
  exact ⟨w0, ⟨ne 1 (by decide), fun _ => ⟨ne 2 (by decide), fun _ => ⟨ne 3 (by decide), fun _ => ⟨ne 4 (by decide), fun _ => ⟨ne 5 (by decide), fun _ => ⟨fun _ => w, fun z => absurd e z⟩⟩⟩⟩⟩⟩⟩
theorem pw_7 (e : f_Op_operand (pI c 8 5 a) 0 = 7) (w0 : w_Op_operand (pI c 8 5 a) 0) (w : (w_Op_operand (pI c 8 5 a) 3 ∧ (w_Op_realAt (pI c 8 5 a) 1 ∧ (w_Op_realAt (pI c 8 5 a) 2 ∧ (w_Op_setReal (pI c 8 5 a) 1 (f_Re_paired (f_Op_operand (pI c 8 5 a) 3) (f_Op_realAt (pI c 8 5 a) 1) (f_Op_realAt (pI c 8 5 a) 2)) ∧ True))))) : w_Op_perform fu c a := by
  have ne : ∀ j : Int32, j ≠ 7 → ∀ {Q : Prop}, f_Op_operand (pI c 8 5 a) 0 = j → Q := fun j hj _ e2 => absurd (e2.symm.trans e) hj
  unfold w_Op_perform
  exact ⟨w0, ⟨ne 1 (by decide), fun _ => ⟨ne 2 (by decide), fun _ => ⟨ne 3 (by decide), fun _ => ⟨ne 4 (by decide), fun _ => ⟨ne 5 (by decide), fun _ => ⟨ne 6 (by decide), fun _ => ⟨fun _ => w, fun z => absurd e z⟩⟩⟩⟩⟩⟩⟩⟩
theorem pw_8 (e : f_Op_operand (pI c 8 5 a) 0 = 8) (w0 : w_Op_operand (pI c 8 5 a) 0) (w : (w_Op_operand (pI c 8 5 a) 2 ∧ (w_Op_realAt (pI c 8 5 a) 1 ∧ (w_Op_setReal (pI c 8 5 a) 1 (f_Re_changed (f_Op_operand (pI c 8 5 a) 2) (f_Op_realAt (pI c 8 5 a) 1)) ∧ True)))) : w_Op_perform fu c a := by
  have ne : ∀ j : Int32, j ≠ 8 → ∀ {Q : Prop}, f_Op_operand (pI c 8 5 a) 0 = j → Q := fun j hj _ e2 => absurd (e2.symm.trans e) hj
  unfold w_Op_perform
  exact ⟨w0, ⟨ne 1 (by decide), fun _ => ⟨ne 2 (by decide), fun _ => ⟨ne 3 (by decide), fun _ => ⟨ne 4 (by decide), fun _ => ⟨ne 5 (by decide), fun _ => ⟨ne 6 (by decide), fun _ => ⟨ne 7 (by decide), fun _ => ⟨fun _ => w, fun z => absurd e z⟩⟩⟩⟩⟩⟩⟩⟩⟩
theorem pw_9 (e : f_Op_operand (pI c 8 5 a) 0 = 9) (w0 : w_Op_operand (pI c 8 5 a) 0) (w : (w_Op_operand (pI c 8 5 a) 4 ∧ w_Op_realAt (pI c 8 5 a) 2 ∧ w_Op_realAt (pI c 8 5 a) 3 ∧ ∀ v, w_Op_perform_103 fu (pI c 8 5 a) v 1)) : w_Op_perform fu c a := by
  have ne : ∀ j : Int32, j ≠ 9 → ∀ {Q : Prop}, f_Op_operand (pI c 8 5 a) 0 = j → Q := fun j hj _ e2 => absurd (e2.symm.trans e) hj
  unfold w_Op_perform
  exact ⟨w0, ⟨ne 1 (by decide), fun _ => ⟨ne 2 (by decide), fun _ => ⟨ne 3 (by decide), fun _ => ⟨ne 4 (by decide), fun _ => ⟨ne 5 (by decide), fun _ => ⟨ne 6 (by decide), fun _ => ⟨ne 7 (by decide), fun _ => ⟨ne 8 (by decide), fun _ => ⟨fun _ => ⟨w.1, w.2.1, w.2.2.1, fun _ => w.2.2.2 0, fun _ => w.2.2.2 1⟩, fun z => absurd e z⟩⟩⟩⟩⟩⟩⟩⟩⟩⟩
theorem pw_10 (e : f_Op_operand (pI c 8 5 a) 0 = 10) (w0 : w_Op_operand (pI c 8 5 a) 0) (w : (w_Op_slotAt (pI c 8 5 a) 2 ∧ (w_Op_setSlot (pI c 8 5 a) 1 (f_Op_slotAt (pI c 8 5 a) 2) ∧ True))) : w_Op_perform fu c a := by
  have ne : ∀ j : Int32, j ≠ 10 → ∀ {Q : Prop}, f_Op_operand (pI c 8 5 a) 0 = j → Q := fun j hj _ e2 => absurd (e2.symm.trans e) hj
  unfold w_Op_perform
  exact ⟨w0, ⟨ne 1 (by decide), fun _ => ⟨ne 2 (by decide), fun _ => ⟨ne 3 (by decide), fun _ => ⟨ne 4 (by decide), fun _ => ⟨ne 5 (by decide), fun _ => ⟨ne 6 (by decide), fun _ => ⟨ne 7 (by decide), fun _ => ⟨ne 8 (by decide), fun _ => ⟨ne 9 (by decide), fun _ => ⟨fun _ => w, fun z => absurd e z⟩⟩⟩⟩⟩⟩⟩⟩⟩⟩⟩
theorem pw_11 (e : f_Op_operand (pI c 8 5 a) 0 = 11) (w0 : w_Op_operand (pI c 8 5 a) 0) (w : (w_Op_setSlot (pI c 8 5 a) 1 none ∧ True)) : w_Op_perform fu c a := by
  have ne : ∀ j : Int32, j ≠ 11 → ∀ {Q : Prop}, f_Op_operand (pI c 8 5 a) 0 = j → Q := fun j hj _ e2 => absurd (e2.symm.trans e) hj
  unfold w_Op_perform
  exact ⟨w0, ⟨ne 1 (by decide), fun _ => ⟨ne 2 (by decide), fun _ => ⟨ne 3 (by decide), fun _ => ⟨ne 4 (by decide), fun _ => ⟨ne 5 (by decide), fun _ => ⟨ne 6 (by decide), fun _ => ⟨ne 7 (by decide), fun _ => ⟨ne 8 (by decide), fun _ => ⟨ne 9 (by decide), fun _ => ⟨ne 10 (by decide), fun _ => ⟨fun _ => w, fun z => absurd e z⟩⟩⟩⟩⟩⟩⟩⟩⟩⟩⟩⟩
theorem pw_12 (e : f_Op_operand (pI c 8 5 a) 0 = 12) (w0 : w_Op_operand (pI c 8 5 a) 0) (w : (w_Op_numberAt (pI c 8 5 a) 3 ∧ (w_Op_makeRow (pI c 8 5 a) (f_Op_numberAt (pI c 8 5 a) 3) ∧ True))) : w_Op_perform fu c a := by
  have ne : ∀ j : Int32, j ≠ 12 → ∀ {Q : Prop}, f_Op_operand (pI c 8 5 a) 0 = j → Q := fun j hj _ e2 => absurd (e2.symm.trans e) hj
  unfold w_Op_perform
  exact ⟨w0, ⟨ne 1 (by decide), fun _ => ⟨ne 2 (by decide), fun _ => ⟨ne 3 (by decide), fun _ => ⟨ne 4 (by decide), fun _ => ⟨ne 5 (by decide), fun _ => ⟨ne 6 (by decide), fun _ => ⟨ne 7 (by decide), fun _ => ⟨ne 8 (by decide), fun _ => ⟨ne 9 (by decide), fun _ => ⟨ne 10 (by decide), fun _ => ⟨ne 11 (by decide), fun _ => ⟨fun _ => w, fun z => absurd e z⟩⟩⟩⟩⟩⟩⟩⟩⟩⟩⟩⟩⟩
theorem pw_13 (e : f_Op_operand (pI c 8 5 a) 0 = 13) (w0 : w_Op_operand (pI c 8 5 a) 0) (w : (w_Op_numberAt (pI c 8 5 a) 2 ∧ (w_Op_numberAt (pI c 8 5 a) 3 ∧ (w_Op_makeGrid fu (pI c 8 5 a) (f_Op_numberAt (pI c 8 5 a) 2) (f_Op_numberAt (pI c 8 5 a) 3) ∧ True)))) : w_Op_perform fu c a := by
  have ne : ∀ j : Int32, j ≠ 13 → ∀ {Q : Prop}, f_Op_operand (pI c 8 5 a) 0 = j → Q := fun j hj _ e2 => absurd (e2.symm.trans e) hj
  unfold w_Op_perform
  exact ⟨w0, ⟨ne 1 (by decide), fun _ => ⟨ne 2 (by decide), fun _ => ⟨ne 3 (by decide), fun _ => ⟨ne 4 (by decide), fun _ => ⟨ne 5 (by decide), fun _ => ⟨ne 6 (by decide), fun _ => ⟨ne 7 (by decide), fun _ => ⟨ne 8 (by decide), fun _ => ⟨ne 9 (by decide), fun _ => ⟨ne 10 (by decide), fun _ => ⟨ne 11 (by decide), fun _ => ⟨ne 12 (by decide), fun _ => ⟨fun _ => w, fun z => absurd e z⟩⟩⟩⟩⟩⟩⟩⟩⟩⟩⟩⟩⟩⟩
theorem pw_14 (e : f_Op_operand (pI c 8 5 a) 0 = 14) (w0 : w_Op_operand (pI c 8 5 a) 0) (w : (w_Op_numberAt (pI c 8 5 a) 3 ∧ (w_Op_makeBox (pI c 8 5 a) (f_Op_numberAt (pI c 8 5 a) 3) ∧ True))) : w_Op_perform fu c a := by
  have ne : ∀ j : Int32, j ≠ 14 → ∀ {Q : Prop}, f_Op_operand (pI c 8 5 a) 0 = j → Q := fun j hj _ e2 => absurd (e2.symm.trans e) hj
  unfold w_Op_perform
  exact ⟨w0, ⟨ne 1 (by decide), fun _ => ⟨ne 2 (by decide), fun _ => ⟨ne 3 (by decide), fun _ => ⟨ne 4 (by decide), fun _ => ⟨ne 5 (by decide), fun _ => ⟨ne 6 (by decide), fun _ => ⟨ne 7 (by decide), fun _ => ⟨ne 8 (by decide), fun _ => ⟨ne 9 (by decide), fun _ => ⟨ne 10 (by decide), fun _ => ⟨ne 11 (by decide), fun _ => ⟨ne 12 (by decide), fun _ => ⟨ne 13 (by decide), fun _ => ⟨fun _ => w, fun z => absurd e z⟩⟩⟩⟩⟩⟩⟩⟩⟩⟩⟩⟩⟩⟩⟩
theorem pw_15 (e : f_Op_operand (pI c 8 5 a) 0 = 15) (w0 : w_Op_operand (pI c 8 5 a) 0) (w : (w_Op_makePart (pI c 8 5 a) ∧ True)) : w_Op_perform fu c a := by
  have ne : ∀ j : Int32, j ≠ 15 → ∀ {Q : Prop}, f_Op_operand (pI c 8 5 a) 0 = j → Q := fun j hj _ e2 => absurd (e2.symm.trans e) hj
  unfold w_Op_perform
  exact ⟨w0, ⟨ne 1 (by decide), fun _ => ⟨ne 2 (by decide), fun _ => ⟨ne 3 (by decide), fun _ => ⟨ne 4 (by decide), fun _ => ⟨ne 5 (by decide), fun _ => ⟨ne 6 (by decide), fun _ => ⟨ne 7 (by decide), fun _ => ⟨ne 8 (by decide), fun _ => ⟨ne 9 (by decide), fun _ => ⟨ne 10 (by decide), fun _ => ⟨ne 11 (by decide), fun _ => ⟨ne 12 (by decide), fun _ => ⟨ne 13 (by decide), fun _ => ⟨ne 14 (by decide), fun _ => ⟨fun _ => w, fun z => absurd e z⟩⟩⟩⟩⟩⟩⟩⟩⟩⟩⟩⟩⟩⟩⟩⟩
theorem pw_16 (e : f_Op_operand (pI c 8 5 a) 0 = 16) (w0 : w_Op_operand (pI c 8 5 a) 0) (w : (w_Op_makeTrouble (pI c 8 5 a) ∧ True)) : w_Op_perform fu c a := by
  have ne : ∀ j : Int32, j ≠ 16 → ∀ {Q : Prop}, f_Op_operand (pI c 8 5 a) 0 = j → Q := fun j hj _ e2 => absurd (e2.symm.trans e) hj
  unfold w_Op_perform
  exact ⟨w0, ⟨ne 1 (by decide), fun _ => ⟨ne 2 (by decide), fun _ => ⟨ne 3 (by decide), fun _ => ⟨ne 4 (by decide), fun _ => ⟨ne 5 (by decide), fun _ => ⟨ne 6 (by decide), fun _ => ⟨ne 7 (by decide), fun _ => ⟨ne 8 (by decide), fun _ => ⟨ne 9 (by decide), fun _ => ⟨ne 10 (by decide), fun _ => ⟨ne 11 (by decide), fun _ => ⟨ne 12 (by decide), fun _ => ⟨ne 13 (by decide), fun _ => ⟨ne 14 (by decide), fun _ => ⟨ne 15 (by decide), fun _ => ⟨fun _ => w, fun z => absurd e z⟩⟩⟩⟩⟩⟩⟩⟩⟩⟩⟩⟩⟩⟩⟩⟩⟩
theorem pw_17 (e : f_Op_operand (pI c 8 5 a) 0 = 17) (w0 : w_Op_operand (pI c 8 5 a) 0) (w : (w_Op_slotAt (pI c 8 5 a) 2 ∧ (w_Op_countMembers (pI c 8 5 a) (f_Op_slotAt (pI c 8 5 a) 2) ∧ True))) : w_Op_perform fu c a := by
  have ne : ∀ j : Int32, j ≠ 17 → ∀ {Q : Prop}, f_Op_operand (pI c 8 5 a) 0 = j → Q := fun j hj _ e2 => absurd (e2.symm.trans e) hj
  unfold w_Op_perform
  exact ⟨w0, ⟨ne 1 (by decide), fun _ => ⟨ne 2 (by decide), fun _ => ⟨ne 3 (by decide), fun _ => ⟨ne 4 (by decide), fun _ => ⟨ne 5 (by decide), fun _ => ⟨ne 6 (by decide), fun _ => ⟨ne 7 (by decide), fun _ => ⟨ne 8 (by decide), fun _ => ⟨ne 9 (by decide), fun _ => ⟨ne 10 (by decide), fun _ => ⟨ne 11 (by decide), fun _ => ⟨ne 12 (by decide), fun _ => ⟨ne 13 (by decide), fun _ => ⟨ne 14 (by decide), fun _ => ⟨ne 15 (by decide), fun _ => ⟨ne 16 (by decide), fun _ => ⟨fun _ => w, fun z => absurd e z⟩⟩⟩⟩⟩⟩⟩⟩⟩⟩⟩⟩⟩⟩⟩⟩⟩⟩
theorem pw_18 (e : f_Op_operand (pI c 8 5 a) 0 = 18) (w0 : w_Op_operand (pI c 8 5 a) 0) (w : (w_Op_slotAt (pI c 8 5 a) 2 ∧ w_Op_operand (pI c 8 5 a) 3 ∧ w_Op_fits (pI c 8 5 a) (f_Op_slotAt (pI c 8 5 a) 2) (f_Op_operand (pI c 8 5 a) 3) ∧ ∀ v, w_Op_perform_163 fu (pI c 8 5 a) v 1)) : w_Op_perform fu c a := by
  have ne : ∀ j : Int32, j ≠ 18 → ∀ {Q : Prop}, f_Op_operand (pI c 8 5 a) 0 = j → Q := fun j hj _ e2 => absurd (e2.symm.trans e) hj
  unfold w_Op_perform
  exact ⟨w0, ⟨ne 1 (by decide), fun _ => ⟨ne 2 (by decide), fun _ => ⟨ne 3 (by decide), fun _ => ⟨ne 4 (by decide), fun _ => ⟨ne 5 (by decide), fun _ => ⟨ne 6 (by decide), fun _ => ⟨ne 7 (by decide), fun _ => ⟨ne 8 (by decide), fun _ => ⟨ne 9 (by decide), fun _ => ⟨ne 10 (by decide), fun _ => ⟨ne 11 (by decide), fun _ => ⟨ne 12 (by decide), fun _ => ⟨ne 13 (by decide), fun _ => ⟨ne 14 (by decide), fun _ => ⟨ne 15 (by decide), fun _ => ⟨ne 16 (by decide), fun _ => ⟨ne 17 (by decide), fun _ => ⟨fun _ => ⟨w.1, w.2.1, w.2.2.1, fun _ => w.2.2.2 0, fun _ => w.2.2.2 1⟩, fun z => absurd e z⟩⟩⟩⟩⟩⟩⟩⟩⟩⟩⟩⟩⟩⟩⟩⟩⟩⟩⟩
theorem pw_19 (e : f_Op_operand (pI c 8 5 a) 0 = 19) (w0 : w_Op_operand (pI c 8 5 a) 0) (w : (w_Op_slotAt (pI c 8 5 a) 3 ∧ (w_Op_numberAt (pI c 8 5 a) 4 ∧ (w_Op_takeMember (pI c 8 5 a) (f_Op_slotAt (pI c 8 5 a) 3) (f_Op_numberAt (pI c 8 5 a) 4) ∧ True)))) : w_Op_perform fu c a := by
  have ne : ∀ j : Int32, j ≠ 19 → ∀ {Q : Prop}, f_Op_operand (pI c 8 5 a) 0 = j → Q := fun j hj _ e2 => absurd (e2.symm.trans e) hj
  unfold w_Op_perform
  exact ⟨w0, ⟨ne 1 (by decide), fun _ => ⟨ne 2 (by decide), fun _ => ⟨ne 3 (by decide), fun _ => ⟨ne 4 (by decide), fun _ => ⟨ne 5 (by decide), fun _ => ⟨ne 6 (by decide), fun _ => ⟨ne 7 (by decide), fun _ => ⟨ne 8 (by decide), fun _ => ⟨ne 9 (by decide), fun _ => ⟨ne 10 (by decide), fun _ => ⟨ne 11 (by decide), fun _ => ⟨ne 12 (by decide), fun _ => ⟨ne 13 (by decide), fun _ => ⟨ne 14 (by decide), fun _ => ⟨ne 15 (by decide), fun _ => ⟨ne 16 (by decide), fun _ => ⟨ne 17 (by decide), fun _ => ⟨ne 18 (by decide), fun _ => ⟨fun _ => w, fun z => absurd e z⟩⟩⟩⟩⟩⟩⟩⟩⟩⟩⟩⟩⟩⟩⟩⟩⟩⟩⟩⟩
theorem pw_20 (e : f_Op_operand (pI c 8 5 a) 0 = 20) (w0 : w_Op_operand (pI c 8 5 a) 0) (w : (w_Op_slotAt (pI c 8 5 a) 2 ∧ (w_Op_numberAt (pI c 8 5 a) 3 ∧ (w_Op_putMember (pI c 8 5 a) (f_Op_slotAt (pI c 8 5 a) 2) (f_Op_numberAt (pI c 8 5 a) 3) ∧ True)))) : w_Op_perform fu c a := by
  have ne : ∀ j : Int32, j ≠ 20 → ∀ {Q : Prop}, f_Op_operand (pI c 8 5 a) 0 = j → Q := fun j hj _ e2 => absurd (e2.symm.trans e) hj
  unfold w_Op_perform
  exact ⟨w0, ⟨ne 1 (by decide), fun _ => ⟨ne 2 (by decide), fun _ => ⟨ne 3 (by decide), fun _ => ⟨ne 4 (by decide), fun _ => ⟨ne 5 (by decide), fun _ => ⟨ne 6 (by decide), fun _ => ⟨ne 7 (by decide), fun _ => ⟨ne 8 (by decide), fun _ => ⟨ne 9 (by decide), fun _ => ⟨ne 10 (by decide), fun _ => ⟨ne 11 (by decide), fun _ => ⟨ne 12 (by decide), fun _ => ⟨ne 13 (by decide), fun _ => ⟨ne 14 (by decide), fun _ => ⟨ne 15 (by decide), fun _ => ⟨ne 16 (by decide), fun _ => ⟨ne 17 (by decide), fun _ => ⟨ne 18 (by decide), fun _ => ⟨ne 19 (by decide), fun _ => ⟨fun _ => w, fun z => absurd e z⟩⟩⟩⟩⟩⟩⟩⟩⟩⟩⟩⟩⟩⟩⟩⟩⟩⟩⟩⟩⟩
theorem pw_21 (e : f_Op_operand (pI c 8 5 a) 0 = 21) (w0 : w_Op_operand (pI c 8 5 a) 0) (w : (w_Op_slotAt (pI c 8 5 a) 1 ∧ (w_Op_slotAt (pI c 8 5 a) 3 ∧ (w_Op_copyMembers fu (pI c 8 5 a) (f_Op_slotAt (pI c 8 5 a) 1) (f_Op_slotAt (pI c 8 5 a) 3) ∧ True)))) : w_Op_perform fu c a := by
  have ne : ∀ j : Int32, j ≠ 21 → ∀ {Q : Prop}, f_Op_operand (pI c 8 5 a) 0 = j → Q := fun j hj _ e2 => absurd (e2.symm.trans e) hj
  unfold w_Op_perform
  exact ⟨w0, ⟨ne 1 (by decide), fun _ => ⟨ne 2 (by decide), fun _ => ⟨ne 3 (by decide), fun _ => ⟨ne 4 (by decide), fun _ => ⟨ne 5 (by decide), fun _ => ⟨ne 6 (by decide), fun _ => ⟨ne 7 (by decide), fun _ => ⟨ne 8 (by decide), fun _ => ⟨ne 9 (by decide), fun _ => ⟨ne 10 (by decide), fun _ => ⟨ne 11 (by decide), fun _ => ⟨ne 12 (by decide), fun _ => ⟨ne 13 (by decide), fun _ => ⟨ne 14 (by decide), fun _ => ⟨ne 15 (by decide), fun _ => ⟨ne 16 (by decide), fun _ => ⟨ne 17 (by decide), fun _ => ⟨ne 18 (by decide), fun _ => ⟨ne 19 (by decide), fun _ => ⟨ne 20 (by decide), fun _ => ⟨fun _ => w, fun z => absurd e z⟩⟩⟩⟩⟩⟩⟩⟩⟩⟩⟩⟩⟩⟩⟩⟩⟩⟩⟩⟩⟩⟩
theorem pw_22 (e : f_Op_operand (pI c 8 5 a) 0 = 22) (w0 : w_Op_operand (pI c 8 5 a) 0) (w : (w_Op_slotAt (pI c 8 5 a) 2 ∧ (w_Op_makeTwin fu (pI c 8 5 a) (f_Op_slotAt (pI c 8 5 a) 2) ∧ True))) : w_Op_perform fu c a := by
  have ne : ∀ j : Int32, j ≠ 22 → ∀ {Q : Prop}, f_Op_operand (pI c 8 5 a) 0 = j → Q := fun j hj _ e2 => absurd (e2.symm.trans e) hj
  unfold w_Op_perform
  exact ⟨w0, ⟨ne 1 (by decide), fun _ => ⟨ne 2 (by decide), fun _ => ⟨ne 3 (by decide), fun _ => ⟨ne 4 (by decide), fun _ => ⟨ne 5 (by decide), fun _ => ⟨ne 6 (by decide), fun _ => ⟨ne 7 (by decide), fun _ => ⟨ne 8 (by decide), fun _ => ⟨ne 9 (by decide), fun _ => ⟨ne 10 (by decide), fun _ => ⟨ne 11 (by decide), fun _ => ⟨ne 12 (by decide), fun _ => ⟨ne 13 (by decide), fun _ => ⟨ne 14 (by decide), fun _ => ⟨ne 15 (by decide), fun _ => ⟨ne 16 (by decide), fun _ => ⟨ne 17 (by decide), fun _ => ⟨ne 18 (by decide), fun _ => ⟨ne 19 (by decide), fun _ => ⟨ne 20 (by decide), fun _ => ⟨ne 21 (by decide), fun _ => ⟨fun _ => w, fun z => absurd e z⟩⟩⟩⟩⟩⟩⟩⟩⟩⟩⟩⟩⟩⟩⟩⟩⟩⟩⟩⟩⟩⟩⟩
theorem pw_23 (e : f_Op_operand (pI c 8 5 a) 0 = 23) (w0 : w_Op_operand (pI c 8 5 a) 0) (w : (w_Op_slotAt (pI c 8 5 a) 2 ∧ (w_Op_numberAt (pI c 8 5 a) 3 ∧ (w_Op_takeThing (pI c 8 5 a) 9 (f_Op_slotAt (pI c 8 5 a) 2) (f_Op_numberAt (pI c 8 5 a) 3) ∧ True)))) : w_Op_perform fu c a := by
  have ne : ∀ j : Int32, j ≠ 23 → ∀ {Q : Prop}, f_Op_operand (pI c 8 5 a) 0 = j → Q := fun j hj _ e2 => absurd (e2.symm.trans e) hj
  unfold w_Op_perform
  exact ⟨w0, ⟨ne 1 (by decide), fun _ => ⟨ne 2 (by decide), fun _ => ⟨ne 3 (by decide), fun _ => ⟨ne 4 (by decide), fun _ => ⟨ne 5 (by decide), fun _ => ⟨ne 6 (by decide), fun _ => ⟨ne 7 (by decide), fun _ => ⟨ne 8 (by decide), fun _ => ⟨ne 9 (by decide), fun _ => ⟨ne 10 (by decide), fun _ => ⟨ne 11 (by decide), fun _ => ⟨ne 12 (by decide), fun _ => ⟨ne 13 (by decide), fun _ => ⟨ne 14 (by decide), fun _ => ⟨ne 15 (by decide), fun _ => ⟨ne 16 (by decide), fun _ => ⟨ne 17 (by decide), fun _ => ⟨ne 18 (by decide), fun _ => ⟨ne 19 (by decide), fun _ => ⟨ne 20 (by decide), fun _ => ⟨ne 21 (by decide), fun _ => ⟨ne 22 (by decide), fun _ => ⟨fun _ => w, fun z => absurd e z⟩⟩⟩⟩⟩⟩⟩⟩⟩⟩⟩⟩⟩⟩⟩⟩⟩⟩⟩⟩⟩⟩⟩⟩
theorem pw_24 (e : f_Op_operand (pI c 8 5 a) 0 = 24) (w0 : w_Op_operand (pI c 8 5 a) 0) (w : (w_Op_slotAt (pI c 8 5 a) 1 ∧ (w_Op_numberAt (pI c 8 5 a) 2 ∧ (w_Op_slotAt (pI c 8 5 a) 3 ∧ (w_Op_putThing (pI c 8 5 a) 9 (f_Op_slotAt (pI c 8 5 a) 1) (f_Op_numberAt (pI c 8 5 a) 2) (f_Op_slotAt (pI c 8 5 a) 3) ∧ True))))) : w_Op_perform fu c a := by
  have ne : ∀ j : Int32, j ≠ 24 → ∀ {Q : Prop}, f_Op_operand (pI c 8 5 a) 0 = j → Q := fun j hj _ e2 => absurd (e2.symm.trans e) hj
  unfold w_Op_perform
  exact ⟨w0, ⟨ne 1 (by decide), fun _ => ⟨ne 2 (by decide), fun _ => ⟨ne 3 (by decide), fun _ => ⟨ne 4 (by decide), fun _ => ⟨ne 5 (by decide), fun _ => ⟨ne 6 (by decide), fun _ => ⟨ne 7 (by decide), fun _ => ⟨ne 8 (by decide), fun _ => ⟨ne 9 (by decide), fun _ => ⟨ne 10 (by decide), fun _ => ⟨ne 11 (by decide), fun _ => ⟨ne 12 (by decide), fun _ => ⟨ne 13 (by decide), fun _ => ⟨ne 14 (by decide), fun _ => ⟨ne 15 (by decide), fun _ => ⟨ne 16 (by decide), fun _ => ⟨ne 17 (by decide), fun _ => ⟨ne 18 (by decide), fun _ => ⟨ne 19 (by decide), fun _ => ⟨ne 20 (by decide), fun _ => ⟨ne 21 (by decide), fun _ => ⟨ne 22 (by decide), fun _ => ⟨ne 23 (by decide), fun _ => ⟨fun _ => w, fun z => absurd e z⟩⟩⟩⟩⟩⟩⟩⟩⟩⟩⟩⟩⟩⟩⟩⟩⟩⟩⟩⟩⟩⟩⟩⟩⟩
theorem pw_25 (e : f_Op_operand (pI c 8 5 a) 0 = 25) (w0 : w_Op_operand (pI c 8 5 a) 0) (w : (w_Op_slotAt (pI c 8 5 a) 2 ∧ (w_Op_numberAt (pI c 8 5 a) 3 ∧ (w_Op_takeThing (pI c 8 5 a) 10 (f_Op_slotAt (pI c 8 5 a) 2) (f_Op_numberAt (pI c 8 5 a) 3) ∧ True)))) : w_Op_perform fu c a := by
  have ne : ∀ j : Int32, j ≠ 25 → ∀ {Q : Prop}, f_Op_operand (pI c 8 5 a) 0 = j → Q := fun j hj _ e2 => absurd (e2.symm.trans e) hj
  unfold w_Op_perform
  exact ⟨w0, ⟨ne 1 (by decide), fun _ => ⟨ne 2 (by decide), fun _ => ⟨ne 3 (by decide), fun _ => ⟨ne 4 (by decide), fun _ => ⟨ne 5 (by decide), fun _ => ⟨ne 6 (by decide), fun _ => ⟨ne 7 (by decide), fun _ => ⟨ne 8 (by decide), fun _ => ⟨ne 9 (by decide), fun _ => ⟨ne 10 (by decide), fun _ => ⟨ne 11 (by decide), fun _ => ⟨ne 12 (by decide), fun _ => ⟨ne 13 (by decide), fun _ => ⟨ne 14 (by decide), fun _ => ⟨ne 15 (by decide), fun _ => ⟨ne 16 (by decide), fun _ => ⟨ne 17 (by decide), fun _ => ⟨ne 18 (by decide), fun _ => ⟨ne 19 (by decide), fun _ => ⟨ne 20 (by decide), fun _ => ⟨ne 21 (by decide), fun _ => ⟨ne 22 (by decide), fun _ => ⟨ne 23 (by decide), fun _ => ⟨ne 24 (by decide), fun _ => ⟨fun _ => w, fun z => absurd e z⟩⟩⟩⟩⟩⟩⟩⟩⟩⟩⟩⟩⟩⟩⟩⟩⟩⟩⟩⟩⟩⟩⟩⟩⟩⟩
theorem pw_26 (e : f_Op_operand (pI c 8 5 a) 0 = 26) (w0 : w_Op_operand (pI c 8 5 a) 0) (w : (w_Op_slotAt (pI c 8 5 a) 1 ∧ (w_Op_numberAt (pI c 8 5 a) 2 ∧ (w_Op_slotAt (pI c 8 5 a) 3 ∧ (w_Op_putThing (pI c 8 5 a) 10 (f_Op_slotAt (pI c 8 5 a) 1) (f_Op_numberAt (pI c 8 5 a) 2) (f_Op_slotAt (pI c 8 5 a) 3) ∧ True))))) : w_Op_perform fu c a := by
  have ne : ∀ j : Int32, j ≠ 26 → ∀ {Q : Prop}, f_Op_operand (pI c 8 5 a) 0 = j → Q := fun j hj _ e2 => absurd (e2.symm.trans e) hj
  unfold w_Op_perform
  exact ⟨w0, ⟨ne 1 (by decide), fun _ => ⟨ne 2 (by decide), fun _ => ⟨ne 3 (by decide), fun _ => ⟨ne 4 (by decide), fun _ => ⟨ne 5 (by decide), fun _ => ⟨ne 6 (by decide), fun _ => ⟨ne 7 (by decide), fun _ => ⟨ne 8 (by decide), fun _ => ⟨ne 9 (by decide), fun _ => ⟨ne 10 (by decide), fun _ => ⟨ne 11 (by decide), fun _ => ⟨ne 12 (by decide), fun _ => ⟨ne 13 (by decide), fun _ => ⟨ne 14 (by decide), fun _ => ⟨ne 15 (by decide), fun _ => ⟨ne 16 (by decide), fun _ => ⟨ne 17 (by decide), fun _ => ⟨ne 18 (by decide), fun _ => ⟨ne 19 (by decide), fun _ => ⟨ne 20 (by decide), fun _ => ⟨ne 21 (by decide), fun _ => ⟨ne 22 (by decide), fun _ => ⟨ne 23 (by decide), fun _ => ⟨ne 24 (by decide), fun _ => ⟨ne 25 (by decide), fun _ => ⟨fun _ => w, fun z => absurd e z⟩⟩⟩⟩⟩⟩⟩⟩⟩⟩⟩⟩⟩⟩⟩⟩⟩⟩⟩⟩⟩⟩⟩⟩⟩⟩⟩
theorem pw_27 (e : f_Op_operand (pI c 8 5 a) 0 = 27) (w0 : w_Op_operand (pI c 8 5 a) 0) (w : (w_Op_operand (pI c 8 5 a) 1 ∧ (w_Op_slotAt (pI c 8 5 a) 3 ∧ (w_Op_takeField (pI c 8 5 a) (f_Op_operand (pI c 8 5 a) 1) (f_Op_slotAt (pI c 8 5 a) 3) ∧ True)))) : w_Op_perform fu c a := by
  have ne : ∀ j : Int32, j ≠ 27 → ∀ {Q : Prop}, f_Op_operand (pI c 8 5 a) 0 = j → Q := fun j hj _ e2 => absurd (e2.symm.trans e) hj
  unfold w_Op_perform
  exact ⟨w0, ⟨ne 1 (by decide), fun _ => ⟨ne 2 (by decide), fun _ => ⟨ne 3 (by decide), fun _ => ⟨ne 4 (by decide), fun _ => ⟨ne 5 (by decide), fun _ => ⟨ne 6 (by decide), fun _ => ⟨ne 7 (by decide), fun _ => ⟨ne 8 (by decide), fun _ => ⟨ne 9 (by decide), fun _ => ⟨ne 10 (by decide), fun _ => ⟨ne 11 (by decide), fun _ => ⟨ne 12 (by decide), fun _ => ⟨ne 13 (by decide), fun _ => ⟨ne 14 (by decide), fun _ => ⟨ne 15 (by decide), fun _ => ⟨ne 16 (by decide), fun _ => ⟨ne 17 (by decide), fun _ => ⟨ne 18 (by decide), fun _ => ⟨ne 19 (by decide), fun _ => ⟨ne 20 (by decide), fun _ => ⟨ne 21 (by decide), fun _ => ⟨ne 22 (by decide), fun _ => ⟨ne 23 (by decide), fun _ => ⟨ne 24 (by decide), fun _ => ⟨ne 25 (by decide), fun _ => ⟨ne 26 (by decide), fun _ => ⟨fun _ => w, fun z => absurd e z⟩⟩⟩⟩⟩⟩⟩⟩⟩⟩⟩⟩⟩⟩⟩⟩⟩⟩⟩⟩⟩⟩⟩⟩⟩⟩⟩⟩
theorem pw_28 (e : f_Op_operand (pI c 8 5 a) 0 = 28) (w0 : w_Op_operand (pI c 8 5 a) 0) (w : (w_Op_operand (pI c 8 5 a) 1 ∧ (w_Op_slotAt (pI c 8 5 a) 2 ∧ (w_Op_putField (pI c 8 5 a) (f_Op_operand (pI c 8 5 a) 1) (f_Op_slotAt (pI c 8 5 a) 2) ∧ True)))) : w_Op_perform fu c a := by
  have ne : ∀ j : Int32, j ≠ 28 → ∀ {Q : Prop}, f_Op_operand (pI c 8 5 a) 0 = j → Q := fun j hj _ e2 => absurd (e2.symm.trans e) hj
  unfold w_Op_perform
  exact ⟨w0, ⟨ne 1 (by decide), fun _ => ⟨ne 2 (by decide), fun _ => ⟨ne 3 (by decide), fun _ => ⟨ne 4 (by decide), fun _ => ⟨ne 5 (by decide), fun _ => ⟨ne 6 (by decide), fun _ => ⟨ne 7 (by decide), fun _ => ⟨ne 8 (by decide), fun _ => ⟨ne 9 (by decide), fun _ => ⟨ne 10 (by decide), fun _ => ⟨ne 11 (by decide), fun _ => ⟨ne 12 (by decide), fun _ => ⟨ne 13 (by decide), fun _ => ⟨ne 14 (by decide), fun _ => ⟨ne 15 (by decide), fun _ => ⟨ne 16 (by decide), fun _ => ⟨ne 17 (by decide), fun _ => ⟨ne 18 (by decide), fun _ => ⟨ne 19 (by decide), fun _ => ⟨ne 20 (by decide), fun _ => ⟨ne 21 (by decide), fun _ => ⟨ne 22 (by decide), fun _ => ⟨ne 23 (by decide), fun _ => ⟨ne 24 (by decide), fun _ => ⟨ne 25 (by decide), fun _ => ⟨ne 26 (by decide), fun _ => ⟨ne 27 (by decide), fun _ => ⟨fun _ => w, fun z => absurd e z⟩⟩⟩⟩⟩⟩⟩⟩⟩⟩⟩⟩⟩⟩⟩⟩⟩⟩⟩⟩⟩⟩⟩⟩⟩⟩⟩⟩⟩
theorem pw_29 (e : f_Op_operand (pI c 8 5 a) 0 = 29) (w0 : w_Op_operand (pI c 8 5 a) 0) (w : (w_Op_operand (pI c 8 5 a) 1 ∧ (w_Op_slotAt (pI c 8 5 a) 3 ∧ (w_Op_numberAt (pI c 8 5 a) 4 ∧ (w_Op_ask fu (pI c 8 5 a) (f_Op_operand (pI c 8 5 a) 1) (f_Op_slotAt (pI c 8 5 a) 3) (f_Op_numberAt (pI c 8 5 a) 4) ∧ True))))) : w_Op_perform fu c a := by
  have ne : ∀ j : Int32, j ≠ 29 → ∀ {Q : Prop}, f_Op_operand (pI c 8 5 a) 0 = j → Q := fun j hj _ e2 => absurd (e2.symm.trans e) hj
  unfold w_Op_perform
  exact ⟨w0, ⟨ne 1 (by decide), fun _ => ⟨ne 2 (by decide), fun _ => ⟨ne 3 (by decide), fun _ => ⟨ne 4 (by decide), fun _ => ⟨ne 5 (by decide), fun _ => ⟨ne 6 (by decide), fun _ => ⟨ne 7 (by decide), fun _ => ⟨ne 8 (by decide), fun _ => ⟨ne 9 (by decide), fun _ => ⟨ne 10 (by decide), fun _ => ⟨ne 11 (by decide), fun _ => ⟨ne 12 (by decide), fun _ => ⟨ne 13 (by decide), fun _ => ⟨ne 14 (by decide), fun _ => ⟨ne 15 (by decide), fun _ => ⟨ne 16 (by decide), fun _ => ⟨ne 17 (by decide), fun _ => ⟨ne 18 (by decide), fun _ => ⟨ne 19 (by decide), fun _ => ⟨ne 20 (by decide), fun _ => ⟨ne 21 (by decide), fun _ => ⟨ne 22 (by decide), fun _ => ⟨ne 23 (by decide), fun _ => ⟨ne 24 (by decide), fun _ => ⟨ne 25 (by decide), fun _ => ⟨ne 26 (by decide), fun _ => ⟨ne 27 (by decide), fun _ => ⟨ne 28 (by decide), fun _ => ⟨fun _ => w, fun z => absurd e z⟩⟩⟩⟩⟩⟩⟩⟩⟩⟩⟩⟩⟩⟩⟩⟩⟩⟩⟩⟩⟩⟩⟩⟩⟩⟩⟩⟩⟩⟩
theorem pw_34 (e : f_Op_operand (pI c 8 5 a) 0 = 34) (w0 : w_Op_operand (pI c 8 5 a) 0) (w : (w_Op_slotAt (pI c 8 5 a) 1 ∧ (w_Op_tell (pI c 8 5 a) (f_Op_slotAt (pI c 8 5 a) 1) ∧ True))) : w_Op_perform fu c a := by
  have ne : ∀ j : Int32, j ≠ 34 → ∀ {Q : Prop}, f_Op_operand (pI c 8 5 a) 0 = j → Q := fun j hj _ e2 => absurd (e2.symm.trans e) hj
  unfold w_Op_perform
  exact ⟨w0, ⟨ne 1 (by decide), fun _ => ⟨ne 2 (by decide), fun _ => ⟨ne 3 (by decide), fun _ => ⟨ne 4 (by decide), fun _ => ⟨ne 5 (by decide), fun _ => ⟨ne 6 (by decide), fun _ => ⟨ne 7 (by decide), fun _ => ⟨ne 8 (by decide), fun _ => ⟨ne 9 (by decide), fun _ => ⟨ne 10 (by decide), fun _ => ⟨ne 11 (by decide), fun _ => ⟨ne 12 (by decide), fun _ => ⟨ne 13 (by decide), fun _ => ⟨ne 14 (by decide), fun _ => ⟨ne 15 (by decide), fun _ => ⟨ne 16 (by decide), fun _ => ⟨ne 17 (by decide), fun _ => ⟨ne 18 (by decide), fun _ => ⟨ne 19 (by decide), fun _ => ⟨ne 20 (by decide), fun _ => ⟨ne 21 (by decide), fun _ => ⟨ne 22 (by decide), fun _ => ⟨ne 23 (by decide), fun _ => ⟨ne 24 (by decide), fun _ => ⟨ne 25 (by decide), fun _ => ⟨ne 26 (by decide), fun _ => ⟨ne 27 (by decide), fun _ => ⟨ne 28 (by decide), fun _ => ⟨ne 29 (by decide), fun _ => ⟨ne 30 (by decide), fun _ => ⟨ne 31 (by decide), fun _ => ⟨ne 32 (by decide), fun _ => ⟨ne 33 (by decide), fun _ => ⟨fun _ => w, fun z => absurd e z⟩⟩⟩⟩⟩⟩⟩⟩⟩⟩⟩⟩⟩⟩⟩⟩⟩⟩⟩⟩⟩⟩⟩⟩⟩⟩⟩⟩⟩⟩⟩⟩⟩⟩⟩
end DP
section DM
variable {fu : Nat} {r : St} {q : Int32}
theorem ma_1 : f_M_act fu r 1 q = f_M_reckons fu r 1 q := by
  unfold f_M_act
  rw [show cn2 .ge (1 : Int32) 10 = false from rfl, cond_false]
theorem mw_1 (w : w_M_reckons fu r 1 q) : w_M_act fu r 1 q := by
  unfold w_M_act
  rw [show cn2 .ge (1 : Int32) 10 = false from rfl]
  exact ⟨(fun z => nomatch z), fun _ => ⟨w, trivial⟩⟩
theorem ma_2 : f_M_act fu r 2 q = f_M_reckons fu r 2 q := by
  unfold f_M_act
  rw [show cn2 .ge (2 : Int32) 10 = false from rfl, cond_false]
theorem mw_2 (w : w_M_reckons fu r 2 q) : w_M_act fu r 2 q := by
  unfold w_M_act
  rw [show cn2 .ge (2 : Int32) 10 = false from rfl]
  exact ⟨(fun z => nomatch z), fun _ => ⟨w, trivial⟩⟩
theorem ma_3 : f_M_act fu r 3 q = f_M_reckons fu r 3 q := by
  unfold f_M_act
  rw [show cn2 .ge (3 : Int32) 10 = false from rfl, cond_false]
theorem mw_3 (w : w_M_reckons fu r 3 q) : w_M_act fu r 3 q := by
  unfold w_M_act
  rw [show cn2 .ge (3 : Int32) 10 = false from rfl]
  exact ⟨(fun z => nomatch z), fun _ => ⟨w, trivial⟩⟩
theorem ma_4 : f_M_act fu r 4 q = f_M_reckons fu r 4 q := by
  unfold f_M_act
  rw [show cn2 .ge (4 : Int32) 10 = false from rfl, cond_false]
theorem mw_4 (w : w_M_reckons fu r 4 q) : w_M_act fu r 4 q := by
  unfold w_M_act
  rw [show cn2 .ge (4 : Int32) 10 = false from rfl]
  exact ⟨(fun z => nomatch z), fun _ => ⟨w, trivial⟩⟩
theorem ma_5 : f_M_act fu r 5 q = f_M_reckons fu r 5 q := by
  unfold f_M_act
  rw [show cn2 .ge (5 : Int32) 10 = false from rfl, cond_false]
theorem mw_5 (w : w_M_reckons fu r 5 q) : w_M_act fu r 5 q := by
  unfold w_M_act
  rw [show cn2 .ge (5 : Int32) 10 = false from rfl]
  exact ⟨(fun z => nomatch z), fun _ => ⟨w, trivial⟩⟩
theorem ma_6 : f_M_act fu r 6 q = f_M_reckons fu r 6 q := by
  unfold f_M_act
  rw [show cn2 .ge (6 : Int32) 10 = false from rfl, cond_false]
theorem mw_6 (w : w_M_reckons fu r 6 q) : w_M_act fu r 6 q := by
  unfold w_M_act
  rw [show cn2 .ge (6 : Int32) 10 = false from rfl]
  exact ⟨(fun z => nomatch z), fun _ => ⟨w, trivial⟩⟩
theorem ma_7 : f_M_act fu r 7 q = f_M_reckons fu r 7 q := by
  unfold f_M_act
  rw [show cn2 .ge (7 : Int32) 10 = false from rfl, cond_false]
theorem mw_7 (w : w_M_reckons fu r 7 q) : w_M_act fu r 7 q := by
  unfold w_M_act
  rw [show cn2 .ge (7 : Int32) 10 = false from rfl]
  exact ⟨(fun z => nomatch z), fun _ => ⟨w, trivial⟩⟩
theorem ma_8 : f_M_act fu r 8 q = f_M_reckons fu r 8 q := by
  unfold f_M_act
  rw [show cn2 .ge (8 : Int32) 10 = false from rfl, cond_false]
theorem mw_8 (w : w_M_reckons fu r 8 q) : w_M_act fu r 8 q := by
  unfold w_M_act
  rw [show cn2 .ge (8 : Int32) 10 = false from rfl]
  exact ⟨(fun z => nomatch z), fun _ => ⟨w, trivial⟩⟩
theorem ma_9 : f_M_act fu r 9 q = f_M_reckons fu r 9 q := by
  unfold f_M_act
  rw [show cn2 .ge (9 : Int32) 10 = false from rfl, cond_false]
theorem mw_9 (w : w_M_reckons fu r 9 q) : w_M_act fu r 9 q := by
  unfold w_M_act
  rw [show cn2 .ge (9 : Int32) 10 = false from rfl]
  exact ⟨(fun z => nomatch z), fun _ => ⟨w, trivial⟩⟩
theorem ma_10 : f_M_act fu r 10 q = f_M_makes fu r 10 q := by
  unfold f_M_act
  rw [show cn2 .ge (10 : Int32) 10 = true from rfl, cond_true, show cn2 .ge (10 : Int32) 17 = false from rfl, cond_false]
theorem mw_10 (w : w_M_makes fu r 10 q) : w_M_act fu r 10 q := by
  unfold w_M_act
  rw [show cn2 .ge (10 : Int32) 10 = true from rfl, show cn2 .ge (10 : Int32) 17 = false from rfl]
  exact ⟨fun _ => ⟨(fun z => nomatch z), fun _ => ⟨w, trivial⟩⟩, (fun z => nomatch z)⟩
theorem ma_11 : f_M_act fu r 11 q = f_M_makes fu r 11 q := by
  unfold f_M_act
  rw [show cn2 .ge (11 : Int32) 10 = true from rfl, cond_true, show cn2 .ge (11 : Int32) 17 = false from rfl, cond_false]
theorem mw_11 (w : w_M_makes fu r 11 q) : w_M_act fu r 11 q := by
  unfold w_M_act
  rw [show cn2 .ge (11 : Int32) 10 = true from rfl, show cn2 .ge (11 : Int32) 17 = false from rfl]
  exact ⟨fun _ => ⟨(fun z => nomatch z), fun _ => ⟨w, trivial⟩⟩, (fun z => nomatch z)⟩
theorem ma_12 : f_M_act fu r 12 q = f_M_makes fu r 12 q := by
  unfold f_M_act
  rw [show cn2 .ge (12 : Int32) 10 = true from rfl, cond_true, show cn2 .ge (12 : Int32) 17 = false from rfl, cond_false]
theorem mw_12 (w : w_M_makes fu r 12 q) : w_M_act fu r 12 q := by
  unfold w_M_act
  rw [show cn2 .ge (12 : Int32) 10 = true from rfl, show cn2 .ge (12 : Int32) 17 = false from rfl]
  exact ⟨fun _ => ⟨(fun z => nomatch z), fun _ => ⟨w, trivial⟩⟩, (fun z => nomatch z)⟩
theorem ma_13 : f_M_act fu r 13 q = f_M_makes fu r 13 q := by
  unfold f_M_act
  rw [show cn2 .ge (13 : Int32) 10 = true from rfl, cond_true, show cn2 .ge (13 : Int32) 17 = false from rfl, cond_false]
theorem mw_13 (w : w_M_makes fu r 13 q) : w_M_act fu r 13 q := by
  unfold w_M_act
  rw [show cn2 .ge (13 : Int32) 10 = true from rfl, show cn2 .ge (13 : Int32) 17 = false from rfl]
  exact ⟨fun _ => ⟨(fun z => nomatch z), fun _ => ⟨w, trivial⟩⟩, (fun z => nomatch z)⟩
theorem ma_14 : f_M_act fu r 14 q = f_M_makes fu r 14 q := by
  unfold f_M_act
  rw [show cn2 .ge (14 : Int32) 10 = true from rfl, cond_true, show cn2 .ge (14 : Int32) 17 = false from rfl, cond_false]
theorem mw_14 (w : w_M_makes fu r 14 q) : w_M_act fu r 14 q := by
  unfold w_M_act
  rw [show cn2 .ge (14 : Int32) 10 = true from rfl, show cn2 .ge (14 : Int32) 17 = false from rfl]
  exact ⟨fun _ => ⟨(fun z => nomatch z), fun _ => ⟨w, trivial⟩⟩, (fun z => nomatch z)⟩
theorem ma_15 : f_M_act fu r 15 q = f_M_makes fu r 15 q := by
  unfold f_M_act
  rw [show cn2 .ge (15 : Int32) 10 = true from rfl, cond_true, show cn2 .ge (15 : Int32) 17 = false from rfl, cond_false]
theorem mw_15 (w : w_M_makes fu r 15 q) : w_M_act fu r 15 q := by
  unfold w_M_act
  rw [show cn2 .ge (15 : Int32) 10 = true from rfl, show cn2 .ge (15 : Int32) 17 = false from rfl]
  exact ⟨fun _ => ⟨(fun z => nomatch z), fun _ => ⟨w, trivial⟩⟩, (fun z => nomatch z)⟩
theorem ma_16 : f_M_act fu r 16 q = f_M_makes fu r 16 q := by
  unfold f_M_act
  rw [show cn2 .ge (16 : Int32) 10 = true from rfl, cond_true, show cn2 .ge (16 : Int32) 17 = false from rfl, cond_false]
theorem mw_16 (w : w_M_makes fu r 16 q) : w_M_act fu r 16 q := by
  unfold w_M_act
  rw [show cn2 .ge (16 : Int32) 10 = true from rfl, show cn2 .ge (16 : Int32) 17 = false from rfl]
  exact ⟨fun _ => ⟨(fun z => nomatch z), fun _ => ⟨w, trivial⟩⟩, (fun z => nomatch z)⟩
theorem ma_17 : f_M_act fu r 17 q = f_M_members fu r 17 q := by
  unfold f_M_act
  rw [show cn2 .ge (17 : Int32) 10 = true from rfl, cond_true, show cn2 .ge (17 : Int32) 17 = true from rfl, cond_true, show cn2 .ge (17 : Int32) 23 = false from rfl, cond_false]
theorem mw_17 (w : w_M_members fu r 17 q) : w_M_act fu r 17 q := by
  unfold w_M_act
  rw [show cn2 .ge (17 : Int32) 10 = true from rfl, show cn2 .ge (17 : Int32) 17 = true from rfl, show cn2 .ge (17 : Int32) 23 = false from rfl]
  exact ⟨fun _ => ⟨fun _ => ⟨(fun z => nomatch z), fun _ => ⟨w, trivial⟩⟩, (fun z => nomatch z)⟩, (fun z => nomatch z)⟩
theorem ma_18 : f_M_act fu r 18 q = f_M_members fu r 18 q := by
  unfold f_M_act
  rw [show cn2 .ge (18 : Int32) 10 = true from rfl, cond_true, show cn2 .ge (18 : Int32) 17 = true from rfl, cond_true, show cn2 .ge (18 : Int32) 23 = false from rfl, cond_false]
theorem mw_18 (w : w_M_members fu r 18 q) : w_M_act fu r 18 q := by
  unfold w_M_act
  rw [show cn2 .ge (18 : Int32) 10 = true from rfl, show cn2 .ge (18 : Int32) 17 = true from rfl, show cn2 .ge (18 : Int32) 23 = false from rfl]
  exact ⟨fun _ => ⟨fun _ => ⟨(fun z => nomatch z), fun _ => ⟨w, trivial⟩⟩, (fun z => nomatch z)⟩, (fun z => nomatch z)⟩
theorem ma_19 : f_M_act fu r 19 q = f_M_members fu r 19 q := by
  unfold f_M_act
  rw [show cn2 .ge (19 : Int32) 10 = true from rfl, cond_true, show cn2 .ge (19 : Int32) 17 = true from rfl, cond_true, show cn2 .ge (19 : Int32) 23 = false from rfl, cond_false]
theorem mw_19 (w : w_M_members fu r 19 q) : w_M_act fu r 19 q := by
  unfold w_M_act
  rw [show cn2 .ge (19 : Int32) 10 = true from rfl, show cn2 .ge (19 : Int32) 17 = true from rfl, show cn2 .ge (19 : Int32) 23 = false from rfl]
  exact ⟨fun _ => ⟨fun _ => ⟨(fun z => nomatch z), fun _ => ⟨w, trivial⟩⟩, (fun z => nomatch z)⟩, (fun z => nomatch z)⟩
theorem ma_20 : f_M_act fu r 20 q = f_M_members fu r 20 q := by
  unfold f_M_act
  rw [show cn2 .ge (20 : Int32) 10 = true from rfl, cond_true, show cn2 .ge (20 : Int32) 17 = true from rfl, cond_true, show cn2 .ge (20 : Int32) 23 = false from rfl, cond_false]
theorem mw_20 (w : w_M_members fu r 20 q) : w_M_act fu r 20 q := by
  unfold w_M_act
  rw [show cn2 .ge (20 : Int32) 10 = true from rfl, show cn2 .ge (20 : Int32) 17 = true from rfl, show cn2 .ge (20 : Int32) 23 = false from rfl]
  exact ⟨fun _ => ⟨fun _ => ⟨(fun z => nomatch z), fun _ => ⟨w, trivial⟩⟩, (fun z => nomatch z)⟩, (fun z => nomatch z)⟩
theorem ma_21 : f_M_act fu r 21 q = f_M_members fu r 21 q := by
  unfold f_M_act
  rw [show cn2 .ge (21 : Int32) 10 = true from rfl, cond_true, show cn2 .ge (21 : Int32) 17 = true from rfl, cond_true, show cn2 .ge (21 : Int32) 23 = false from rfl, cond_false]
theorem mw_21 (w : w_M_members fu r 21 q) : w_M_act fu r 21 q := by
  unfold w_M_act
  rw [show cn2 .ge (21 : Int32) 10 = true from rfl, show cn2 .ge (21 : Int32) 17 = true from rfl, show cn2 .ge (21 : Int32) 23 = false from rfl]
  exact ⟨fun _ => ⟨fun _ => ⟨(fun z => nomatch z), fun _ => ⟨w, trivial⟩⟩, (fun z => nomatch z)⟩, (fun z => nomatch z)⟩
theorem ma_22 : f_M_act fu r 22 q = f_M_members fu r 22 q := by
  unfold f_M_act
  rw [show cn2 .ge (22 : Int32) 10 = true from rfl, cond_true, show cn2 .ge (22 : Int32) 17 = true from rfl, cond_true, show cn2 .ge (22 : Int32) 23 = false from rfl, cond_false]
theorem mw_22 (w : w_M_members fu r 22 q) : w_M_act fu r 22 q := by
  unfold w_M_act
  rw [show cn2 .ge (22 : Int32) 10 = true from rfl, show cn2 .ge (22 : Int32) 17 = true from rfl, show cn2 .ge (22 : Int32) 23 = false from rfl]
  exact ⟨fun _ => ⟨fun _ => ⟨(fun z => nomatch z), fun _ => ⟨w, trivial⟩⟩, (fun z => nomatch z)⟩, (fun z => nomatch z)⟩
theorem ma_23 : f_M_act fu r 23 q = f_M_places r 23 q := by
  unfold f_M_act
  rw [show cn2 .ge (23 : Int32) 10 = true from rfl, cond_true, show cn2 .ge (23 : Int32) 17 = true from rfl, cond_true, show cn2 .ge (23 : Int32) 23 = true from rfl, cond_true, show cn2 .ge (23 : Int32) 27 = false from rfl, cond_false]
theorem mw_23 (w : w_M_places r 23 q) : w_M_act fu r 23 q := by
  unfold w_M_act
  rw [show cn2 .ge (23 : Int32) 10 = true from rfl, show cn2 .ge (23 : Int32) 17 = true from rfl, show cn2 .ge (23 : Int32) 23 = true from rfl, show cn2 .ge (23 : Int32) 27 = false from rfl]
  exact ⟨fun _ => ⟨fun _ => ⟨fun _ => ⟨(fun z => nomatch z), fun _ => ⟨w, trivial⟩⟩, (fun z => nomatch z)⟩, (fun z => nomatch z)⟩, (fun z => nomatch z)⟩
theorem ma_24 : f_M_act fu r 24 q = f_M_places r 24 q := by
  unfold f_M_act
  rw [show cn2 .ge (24 : Int32) 10 = true from rfl, cond_true, show cn2 .ge (24 : Int32) 17 = true from rfl, cond_true, show cn2 .ge (24 : Int32) 23 = true from rfl, cond_true, show cn2 .ge (24 : Int32) 27 = false from rfl, cond_false]
theorem mw_24 (w : w_M_places r 24 q) : w_M_act fu r 24 q := by
  unfold w_M_act
  rw [show cn2 .ge (24 : Int32) 10 = true from rfl, show cn2 .ge (24 : Int32) 17 = true from rfl, show cn2 .ge (24 : Int32) 23 = true from rfl, show cn2 .ge (24 : Int32) 27 = false from rfl]
  exact ⟨fun _ => ⟨fun _ => ⟨fun _ => ⟨(fun z => nomatch z), fun _ => ⟨w, trivial⟩⟩, (fun z => nomatch z)⟩, (fun z => nomatch z)⟩, (fun z => nomatch z)⟩
theorem ma_25 : f_M_act fu r 25 q = f_M_places r 25 q := by
  unfold f_M_act
  rw [show cn2 .ge (25 : Int32) 10 = true from rfl, cond_true, show cn2 .ge (25 : Int32) 17 = true from rfl, cond_true, show cn2 .ge (25 : Int32) 23 = true from rfl, cond_true, show cn2 .ge (25 : Int32) 27 = false from rfl, cond_false]
theorem mw_25 (w : w_M_places r 25 q) : w_M_act fu r 25 q := by
  unfold w_M_act
  rw [show cn2 .ge (25 : Int32) 10 = true from rfl, show cn2 .ge (25 : Int32) 17 = true from rfl, show cn2 .ge (25 : Int32) 23 = true from rfl, show cn2 .ge (25 : Int32) 27 = false from rfl]
  exact ⟨fun _ => ⟨fun _ => ⟨fun _ => ⟨(fun z => nomatch z), fun _ => ⟨w, trivial⟩⟩, (fun z => nomatch z)⟩, (fun z => nomatch z)⟩, (fun z => nomatch z)⟩
theorem ma_26 : f_M_act fu r 26 q = f_M_places r 26 q := by
  unfold f_M_act
  rw [show cn2 .ge (26 : Int32) 10 = true from rfl, cond_true, show cn2 .ge (26 : Int32) 17 = true from rfl, cond_true, show cn2 .ge (26 : Int32) 23 = true from rfl, cond_true, show cn2 .ge (26 : Int32) 27 = false from rfl, cond_false]
theorem mw_26 (w : w_M_places r 26 q) : w_M_act fu r 26 q := by
  unfold w_M_act
  rw [show cn2 .ge (26 : Int32) 10 = true from rfl, show cn2 .ge (26 : Int32) 17 = true from rfl, show cn2 .ge (26 : Int32) 23 = true from rfl, show cn2 .ge (26 : Int32) 27 = false from rfl]
  exact ⟨fun _ => ⟨fun _ => ⟨fun _ => ⟨(fun z => nomatch z), fun _ => ⟨w, trivial⟩⟩, (fun z => nomatch z)⟩, (fun z => nomatch z)⟩, (fun z => nomatch z)⟩
theorem ma_27 : f_M_act fu r 27 q = f_M_fields r 27 q := by
  unfold f_M_act
  rw [show cn2 .ge (27 : Int32) 10 = true from rfl, cond_true, show cn2 .ge (27 : Int32) 17 = true from rfl, cond_true, show cn2 .ge (27 : Int32) 23 = true from rfl, cond_true, show cn2 .ge (27 : Int32) 27 = true from rfl, cond_true, show cn2 .ge (27 : Int32) 29 = false from rfl, cond_false]
theorem mw_27 (w : w_M_fields r 27 q) : w_M_act fu r 27 q := by
  unfold w_M_act
  rw [show cn2 .ge (27 : Int32) 10 = true from rfl, show cn2 .ge (27 : Int32) 17 = true from rfl, show cn2 .ge (27 : Int32) 23 = true from rfl, show cn2 .ge (27 : Int32) 27 = true from rfl, show cn2 .ge (27 : Int32) 29 = false from rfl]
  exact ⟨fun _ => ⟨fun _ => ⟨fun _ => ⟨fun _ => ⟨(fun z => nomatch z), fun _ => ⟨w, trivial⟩⟩, (fun z => nomatch z)⟩, (fun z => nomatch z)⟩, (fun z => nomatch z)⟩, (fun z => nomatch z)⟩
theorem ma_28 : f_M_act fu r 28 q = f_M_fields r 28 q := by
  unfold f_M_act
  rw [show cn2 .ge (28 : Int32) 10 = true from rfl, cond_true, show cn2 .ge (28 : Int32) 17 = true from rfl, cond_true, show cn2 .ge (28 : Int32) 23 = true from rfl, cond_true, show cn2 .ge (28 : Int32) 27 = true from rfl, cond_true, show cn2 .ge (28 : Int32) 29 = false from rfl, cond_false]
theorem mw_28 (w : w_M_fields r 28 q) : w_M_act fu r 28 q := by
  unfold w_M_act
  rw [show cn2 .ge (28 : Int32) 10 = true from rfl, show cn2 .ge (28 : Int32) 17 = true from rfl, show cn2 .ge (28 : Int32) 23 = true from rfl, show cn2 .ge (28 : Int32) 27 = true from rfl, show cn2 .ge (28 : Int32) 29 = false from rfl]
  exact ⟨fun _ => ⟨fun _ => ⟨fun _ => ⟨fun _ => ⟨(fun z => nomatch z), fun _ => ⟨w, trivial⟩⟩, (fun z => nomatch z)⟩, (fun z => nomatch z)⟩, (fun z => nomatch z)⟩, (fun z => nomatch z)⟩
theorem ma_29 : f_M_act fu r 29 q = f_M_asks fu r q := by
  unfold f_M_act
  rw [show cn2 .ge (29 : Int32) 10 = true from rfl, cond_true, show cn2 .ge (29 : Int32) 17 = true from rfl, cond_true, show cn2 .ge (29 : Int32) 23 = true from rfl, cond_true, show cn2 .ge (29 : Int32) 27 = true from rfl, cond_true, show cn2 .ge (29 : Int32) 29 = true from rfl, cond_true, show cn2 .ne (29 : Int32) 29 = false from rfl, cond_false]
theorem mw_29 (w : w_M_asks fu r q) : w_M_act fu r 29 q := by
  unfold w_M_act
  rw [show cn2 .ge (29 : Int32) 10 = true from rfl, show cn2 .ge (29 : Int32) 17 = true from rfl, show cn2 .ge (29 : Int32) 23 = true from rfl, show cn2 .ge (29 : Int32) 27 = true from rfl, show cn2 .ge (29 : Int32) 29 = true from rfl, show cn2 .ne (29 : Int32) 29 = false from rfl]
  exact ⟨fun _ => ⟨fun _ => ⟨fun _ => ⟨fun _ => ⟨fun _ => ⟨(fun z => nomatch z), fun _ => ⟨w, trivial⟩⟩, (fun z => nomatch z)⟩, (fun z => nomatch z)⟩, (fun z => nomatch z)⟩, (fun z => nomatch z)⟩, (fun z => nomatch z)⟩
end DM
