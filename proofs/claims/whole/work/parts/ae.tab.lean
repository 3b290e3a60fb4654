/-! THE OPERANDS OF AN OP, as both sides bound them -/
def GT (s : St) (op : Int32) (o : Option Nat) (j : Nat) (x : Int32) : Prop := f_Pt_greatest s (stc o (nI j)) op x = f_M_mostOf op (nI j) x ∧ w_Pt_greatest s (stc o (nI j)) op x ∧ ((stc o (nI j) = 119 ∧ f_M_leastOf op (nI j) = 1) ∨ (¬ stc o (nI j) = 119 ∧ f_M_leastOf op (nI j) = 0))
section TAB
variable {s : St}
theorem gl_n (hG : isG (sD s)) (op x : Int32) : f_Pt_greatest s 110 op x = 7 ∧ w_Pt_greatest s 110 op x := by
  have e : sti (some (am_sa + 31)) 110 = 0 := by decide +kernel
  unfold f_Pt_greatest w_Pt_greatest
  rw [show cn2 .ne (110 : Int32) 104 = true from rfl, show cn2 .ne (110 : Int32) 118 = true from rfl, show cn2 .ne (110 : Int32) 102 = true from rfl, cond_true, cond_true, cond_true, e, show cn1 .lt (0 : Int32) = false from rfl, show cn2 .ge (0 : Int32) 6 = false from rfl, cond_false, cond_false]
  exact ⟨rfl, fun _ => ⟨fun _ => ⟨fun _ => ⟨⟨31, by decide, rfl⟩, (fun z => nomatch z), fun _ => ⟨hG, (fun z => nomatch z), fun _ => ⟨hG, vp_of (by decide) (by decide), trivial⟩⟩⟩, (fun z => nomatch z)⟩, (fun z => nomatch z)⟩, (fun z => nomatch z)⟩
theorem gl_r (hG : isG (sD s)) (op x : Int32) : f_Pt_greatest s 114 op x = 3 ∧ w_Pt_greatest s 114 op x := by
  have e : sti (some (am_sa + 31)) 114 = 1 := by decide +kernel
  unfold f_Pt_greatest w_Pt_greatest
  rw [show cn2 .ne (114 : Int32) 104 = true from rfl, show cn2 .ne (114 : Int32) 118 = true from rfl, show cn2 .ne (114 : Int32) 102 = true from rfl, cond_true, cond_true, cond_true, e, show cn1 .lt (1 : Int32) = false from rfl, show cn2 .ge (1 : Int32) 6 = false from rfl, cond_false, cond_false]
  exact ⟨rfl, fun _ => ⟨fun _ => ⟨fun _ => ⟨⟨31, by decide, rfl⟩, (fun z => nomatch z), fun _ => ⟨hG, (fun z => nomatch z), fun _ => ⟨hG, vp_of (by decide) (by decide), trivial⟩⟩⟩, (fun z => nomatch z)⟩, (fun z => nomatch z)⟩, (fun z => nomatch z)⟩
theorem gl_s (hG : isG (sD s)) (op x : Int32) : f_Pt_greatest s 115 op x = 15 ∧ w_Pt_greatest s 115 op x := by
  have e : sti (some (am_sa + 31)) 115 = 2 := by decide +kernel
  unfold f_Pt_greatest w_Pt_greatest
  rw [show cn2 .ne (115 : Int32) 104 = true from rfl, show cn2 .ne (115 : Int32) 118 = true from rfl, show cn2 .ne (115 : Int32) 102 = true from rfl, cond_true, cond_true, cond_true, e, show cn1 .lt (2 : Int32) = false from rfl, show cn2 .ge (2 : Int32) 6 = false from rfl, cond_false, cond_false]
  exact ⟨rfl, fun _ => ⟨fun _ => ⟨fun _ => ⟨⟨31, by decide, rfl⟩, (fun z => nomatch z), fun _ => ⟨hG, (fun z => nomatch z), fun _ => ⟨hG, vp_of (by decide) (by decide), trivial⟩⟩⟩, (fun z => nomatch z)⟩, (fun z => nomatch z)⟩, (fun z => nomatch z)⟩
theorem gl_w (hG : isG (sD s)) (op x : Int32) : f_Pt_greatest s 119 op x = 8 ∧ w_Pt_greatest s 119 op x := by
  have e : sti (some (am_sa + 31)) 119 = 3 := by decide +kernel
  unfold f_Pt_greatest w_Pt_greatest
  rw [show cn2 .ne (119 : Int32) 104 = true from rfl, show cn2 .ne (119 : Int32) 118 = true from rfl, show cn2 .ne (119 : Int32) 102 = true from rfl, cond_true, cond_true, cond_true, e, show cn1 .lt (3 : Int32) = false from rfl, show cn2 .ge (3 : Int32) 6 = false from rfl, cond_false, cond_false]
  exact ⟨rfl, fun _ => ⟨fun _ => ⟨fun _ => ⟨⟨31, by decide, rfl⟩, (fun z => nomatch z), fun _ => ⟨hG, (fun z => nomatch z), fun _ => ⟨hG, vp_of (by decide) (by decide), trivial⟩⟩⟩, (fun z => nomatch z)⟩, (fun z => nomatch z)⟩, (fun z => nomatch z)⟩
theorem gl_c (hG : isG (sD s)) (op x : Int32) : f_Pt_greatest s 99 op x = 4 ∧ w_Pt_greatest s 99 op x := by
  have e : sti (some (am_sa + 31)) 99 = 4 := by decide +kernel
  unfold f_Pt_greatest w_Pt_greatest
  rw [show cn2 .ne (99 : Int32) 104 = true from rfl, show cn2 .ne (99 : Int32) 118 = true from rfl, show cn2 .ne (99 : Int32) 102 = true from rfl, cond_true, cond_true, cond_true, e, show cn1 .lt (4 : Int32) = false from rfl, show cn2 .ge (4 : Int32) 6 = false from rfl, cond_false, cond_false]
  exact ⟨rfl, fun _ => ⟨fun _ => ⟨fun _ => ⟨⟨31, by decide, rfl⟩, (fun z => nomatch z), fun _ => ⟨hG, (fun z => nomatch z), fun _ => ⟨hG, vp_of (by decide) (by decide), trivial⟩⟩⟩, (fun z => nomatch z)⟩, (fun z => nomatch z)⟩, (fun z => nomatch z)⟩
theorem gl_p (hG : isG (sD s)) (op x : Int32) : f_Pt_greatest s 112 op x = 200 ∧ w_Pt_greatest s 112 op x := by
  have e : sti (some (am_sa + 31)) 112 = 5 := by decide +kernel
  unfold f_Pt_greatest w_Pt_greatest
  rw [show cn2 .ne (112 : Int32) 104 = true from rfl, show cn2 .ne (112 : Int32) 118 = true from rfl, show cn2 .ne (112 : Int32) 102 = true from rfl, cond_true, cond_true, cond_true, e, show cn1 .lt (5 : Int32) = false from rfl, show cn2 .ge (5 : Int32) 6 = false from rfl, cond_false, cond_false]
  exact ⟨rfl, fun _ => ⟨fun _ => ⟨fun _ => ⟨⟨31, by decide, rfl⟩, (fun z => nomatch z), fun _ => ⟨hG, (fun z => nomatch z), fun _ => ⟨hG, vp_of (by decide) (by decide), trivial⟩⟩⟩, (fun z => nomatch z)⟩, (fun z => nomatch z)⟩, (fun z => nomatch z)⟩
theorem gl_d (op x : Int32) : f_Pt_greatest s 46 op x = 255 ∧ w_Pt_greatest s 46 op x := by
  have e : sti (some (am_sa + 31)) 46 = -1 := by decide +kernel
  unfold f_Pt_greatest w_Pt_greatest
  rw [show cn2 .ne (46 : Int32) 104 = true from rfl, show cn2 .ne (46 : Int32) 118 = true from rfl, show cn2 .ne (46 : Int32) 102 = true from rfl, cond_true, cond_true, cond_true, e, show cn1 .lt (-1 : Int32) = true from rfl, cond_true]
  exact ⟨rfl, fun _ => ⟨fun _ => ⟨fun _ => ⟨⟨31, by decide, rfl⟩, fun _ => trivial, (fun z => nomatch z)⟩, (fun z => nomatch z)⟩, (fun z => nomatch z)⟩, (fun z => nomatch z)⟩
theorem gl_h (op x : Int32) : f_Pt_greatest s 104 op x = f_Pt_choices op - 1 ∧ w_Pt_greatest s 104 op x := by
  unfold f_Pt_greatest w_Pt_greatest
  rw [show cn2 .ne (104 : Int32) 104 = false from rfl, cond_false]
  exact ⟨rfl, (fun z => nomatch z), fun _ => trivial⟩
theorem gl_v (op x : Int32) : f_Pt_greatest s 118 op x = cond (cn2 .eq x 6) (3 : Int32) (cond (cn2 .ne x 7) 7 3) ∧ w_Pt_greatest s 118 op x := by
  unfold f_Pt_greatest w_Pt_greatest
  rw [show cn2 .ne (118 : Int32) 104 = true from rfl, show cn2 .ne (118 : Int32) 118 = false from rfl, cond_true, cond_false]
  exact ⟨rfl, fun _ => ⟨(fun z => nomatch z), fun _ => trivial⟩, (fun z => nomatch z)⟩
theorem gl_f (op x : Int32) : f_Pt_greatest s 102 op x = cond (cn2 .ne x 1) (cond (cn2 .ne x 3) (7 : Int32) 15) 3 ∧ w_Pt_greatest s 102 op x := by
  unfold f_Pt_greatest w_Pt_greatest
  rw [show cn2 .ne (102 : Int32) 104 = true from rfl, show cn2 .ne (102 : Int32) 118 = true from rfl, show cn2 .ne (102 : Int32) 102 = false from rfl, cond_true, cond_true, cond_false]
  exact ⟨rfl, fun _ => ⟨fun _ => ⟨(fun z => nomatch z), fun _ => trivial⟩, (fun z => nomatch z)⟩, (fun z => nomatch z)⟩
theorem gt_1_0 (hG : isG (sD s)) (x : Int32) : GT s 1 (some (am_sa + 0)) 0 x := by
  have e : stc (some (am_sa + 0)) (nI 0) = 110 := by decide +kernel
  unfold GT
  rw [e, mo_1_0 x]
  exact ⟨(gl_n hG 1 x).1, (gl_n hG 1 x).2, Or.inr ⟨by decide, by decide +kernel⟩⟩
theorem mq_1_1 (x : Int32) : f_M_mostOf 1 (nI 1) x = 255 := by
  unfold f_M_mostOf
  rw [show cn1 .ne (nI 1) = true from rfl, cond_true]
  unfold t_M_mostOf_5
  exact (if_pos rfl).trans rfl
theorem gt_1_1 (hG : isG (sD s)) (x : Int32) : GT s 1 (some (am_sa + 0)) 1 x := by
  have e : stc (some (am_sa + 0)) (nI 1) = 46 := by decide +kernel
  unfold GT
  rw [e, mq_1_1 x]
  exact ⟨(gl_d 1 x).1, (gl_d 1 x).2, Or.inr ⟨by decide, by decide +kernel⟩⟩
theorem mq_1_2 (x : Int32) : f_M_mostOf 1 (nI 2) x = 255 := by
  unfold f_M_mostOf
  rw [show cn1 .ne (nI 2) = true from rfl, cond_true]
  unfold t_M_mostOf_5
  exact (if_pos rfl).trans rfl
theorem gt_1_2 (hG : isG (sD s)) (x : Int32) : GT s 1 (some (am_sa + 0)) 2 x := by
  have e : stc (some (am_sa + 0)) (nI 2) = 46 := by decide +kernel
  unfold GT
  rw [e, mq_1_2 x]
  exact ⟨(gl_d 1 x).1, (gl_d 1 x).2, Or.inr ⟨by decide, by decide +kernel⟩⟩
theorem mq_1_3 (x : Int32) : f_M_mostOf 1 (nI 3) x = 255 := by
  unfold f_M_mostOf
  rw [show cn1 .ne (nI 3) = true from rfl, cond_true]
  unfold t_M_mostOf_5
  exact (if_pos rfl).trans rfl
theorem gt_1_3 (hG : isG (sD s)) (x : Int32) : GT s 1 (some (am_sa + 0)) 3 x := by
  have e : stc (some (am_sa + 0)) (nI 3) = 46 := by decide +kernel
  unfold GT
  rw [e, mq_1_3 x]
  exact ⟨(gl_d 1 x).1, (gl_d 1 x).2, Or.inr ⟨by decide, by decide +kernel⟩⟩
theorem mq_1_4 (x : Int32) : f_M_mostOf 1 (nI 4) x = 255 := by
  unfold f_M_mostOf
  rw [show cn1 .ne (nI 4) = true from rfl, cond_true]
  unfold t_M_mostOf_5
  exact (if_pos rfl).trans rfl
theorem gt_1_4 (hG : isG (sD s)) (x : Int32) : GT s 1 (some (am_sa + 0)) 4 x := by
  have e : stc (some (am_sa + 0)) (nI 4) = 46 := by decide +kernel
  unfold GT
  rw [e, mq_1_4 x]
  exact ⟨(gl_d 1 x).1, (gl_d 1 x).2, Or.inr ⟨by decide, by decide +kernel⟩⟩
theorem gt_1 (hG : isG (sD s)) (x : Int32) : ∀ j : Nat, (j : Int) + 1 < (f_M_wholeOf 1).toInt → GT s 1 (f_Pt_operands s 1) j x := fun j hj => by
  have ew : (f_M_wholeOf 1).toInt = 6 := by decide +kernel
  rw [ew] at hj
  rw [show f_Pt_operands s 1 = some (am_sa + 0) from rfl]
  match j, hj with
  | 0, _ => exact gt_1_0 hG x
  | 1, _ => exact gt_1_1 hG x
  | 2, _ => exact gt_1_2 hG x
  | 3, _ => exact gt_1_3 hG x
  | 4, _ => exact gt_1_4 hG x
  | j + 5, hj => exact absurd hj (by omega)
theorem gt_2_0 (hG : isG (sD s)) (x : Int32) : GT s 2 (some (am_sa + 1)) 0 x := by
  have e : stc (some (am_sa + 1)) (nI 0) = 110 := by decide +kernel
  unfold GT
  rw [e, mo_2_0 x]
  exact ⟨(gl_n hG 2 x).1, (gl_n hG 2 x).2, Or.inr ⟨by decide, by decide +kernel⟩⟩
theorem gt_2_1 (hG : isG (sD s)) (x : Int32) : GT s 2 (some (am_sa + 1)) 1 x := by
  have e : stc (some (am_sa + 1)) (nI 1) = 110 := by decide +kernel
  unfold GT
  rw [e, mo_2_1 x]
  exact ⟨(gl_n hG 2 x).1, (gl_n hG 2 x).2, Or.inr ⟨by decide, by decide +kernel⟩⟩
theorem gt_2 (hG : isG (sD s)) (x : Int32) : ∀ j : Nat, (j : Int) + 1 < (f_M_wholeOf 2).toInt → GT s 2 (f_Pt_operands s 2) j x := fun j hj => by
  have ew : (f_M_wholeOf 2).toInt = 3 := by decide +kernel
  rw [ew] at hj
  rw [show f_Pt_operands s 2 = some (am_sa + 1) from rfl]
  match j, hj with
  | 0, _ => exact gt_2_0 hG x
  | 1, _ => exact gt_2_1 hG x
  | j + 2, hj => exact absurd hj (by omega)
theorem gt_3_0 (hG : isG (sD s)) (x : Int32) : GT s 3 (some (am_sa + 2)) 0 x := by
  have e : stc (some (am_sa + 2)) (nI 0) = 110 := by decide +kernel
  unfold GT
  rw [e, mo_3_0 x]
  exact ⟨(gl_n hG 3 x).1, (gl_n hG 3 x).2, Or.inr ⟨by decide, by decide +kernel⟩⟩
theorem gt_3_1 (hG : isG (sD s)) (x : Int32) : GT s 3 (some (am_sa + 2)) 1 x := by
  have e : stc (some (am_sa + 2)) (nI 1) = 110 := by decide +kernel
  unfold GT
  rw [e, mo_3_1 x]
  exact ⟨(gl_n hG 3 x).1, (gl_n hG 3 x).2, Or.inr ⟨by decide, by decide +kernel⟩⟩
theorem gt_3_2 (hG : isG (sD s)) (x : Int32) : GT s 3 (some (am_sa + 2)) 2 x := by
  have e : stc (some (am_sa + 2)) (nI 2) = 104 := by decide +kernel
  unfold GT
  rw [e, mo_3_2 x]
  exact ⟨(gl_h 3 x).1.trans (by decide +kernel), (gl_h 3 x).2, Or.inr ⟨by decide, by decide +kernel⟩⟩
theorem gt_3 (hG : isG (sD s)) (x : Int32) : ∀ j : Nat, (j : Int) + 1 < (f_M_wholeOf 3).toInt → GT s 3 (f_Pt_operands s 3) j x := fun j hj => by
  have ew : (f_M_wholeOf 3).toInt = 4 := by decide +kernel
  rw [ew] at hj
  rw [show f_Pt_operands s 3 = some (am_sa + 2) from rfl]
  match j, hj with
  | 0, _ => exact gt_3_0 hG x
  | 1, _ => exact gt_3_1 hG x
  | 2, _ => exact gt_3_2 hG x
  | j + 3, hj => exact absurd hj (by omega)
theorem gt_4_0 (hG : isG (sD s)) (x : Int32) : GT s 4 (some (am_sa + 3)) 0 x := by
  have e : stc (some (am_sa + 3)) (nI 0) = 114 := by decide +kernel
  unfold GT
  rw [e, mo_4_0 x]
  exact ⟨(gl_r hG 4 x).1, (gl_r hG 4 x).2, Or.inr ⟨by decide, by decide +kernel⟩⟩
theorem mq_4_1 (x : Int32) : f_M_mostOf 4 (nI 1) x = 255 := by
  unfold f_M_mostOf
  rw [show cn1 .ne (nI 1) = true from rfl, cond_true]
  unfold t_M_mostOf_5
  exact (if_neg (by decide)).trans ((if_neg (by decide)).trans ((if_neg (by decide)).trans ((if_pos rfl).trans rfl)))
theorem gt_4_1 (hG : isG (sD s)) (x : Int32) : GT s 4 (some (am_sa + 3)) 1 x := by
  have e : stc (some (am_sa + 3)) (nI 1) = 46 := by decide +kernel
  unfold GT
  rw [e, mq_4_1 x]
  exact ⟨(gl_d 4 x).1, (gl_d 4 x).2, Or.inr ⟨by decide, by decide +kernel⟩⟩
theorem mq_4_2 (x : Int32) : f_M_mostOf 4 (nI 2) x = 255 := by
  unfold f_M_mostOf
  rw [show cn1 .ne (nI 2) = true from rfl, cond_true]
  unfold t_M_mostOf_5
  exact (if_neg (by decide)).trans ((if_neg (by decide)).trans ((if_neg (by decide)).trans ((if_pos rfl).trans rfl)))
theorem gt_4_2 (hG : isG (sD s)) (x : Int32) : GT s 4 (some (am_sa + 3)) 2 x := by
  have e : stc (some (am_sa + 3)) (nI 2) = 46 := by decide +kernel
  unfold GT
  rw [e, mq_4_2 x]
  exact ⟨(gl_d 4 x).1, (gl_d 4 x).2, Or.inr ⟨by decide, by decide +kernel⟩⟩
theorem mq_4_3 (x : Int32) : f_M_mostOf 4 (nI 3) x = 255 := by
  unfold f_M_mostOf
  rw [show cn1 .ne (nI 3) = true from rfl, cond_true]
  unfold t_M_mostOf_5
  exact (if_neg (by decide)).trans ((if_neg (by decide)).trans ((if_neg (by decide)).trans ((if_pos rfl).trans rfl)))
theorem gt_4_3 (hG : isG (sD s)) (x : Int32) : GT s 4 (some (am_sa + 3)) 3 x := by
  have e : stc (some (am_sa + 3)) (nI 3) = 46 := by decide +kernel
  unfold GT
  rw [e, mq_4_3 x]
  exact ⟨(gl_d 4 x).1, (gl_d 4 x).2, Or.inr ⟨by decide, by decide +kernel⟩⟩
theorem mq_4_4 (x : Int32) : f_M_mostOf 4 (nI 4) x = 255 := by
  unfold f_M_mostOf
  rw [show cn1 .ne (nI 4) = true from rfl, cond_true]
  unfold t_M_mostOf_5
  exact (if_neg (by decide)).trans ((if_neg (by decide)).trans ((if_neg (by decide)).trans ((if_pos rfl).trans rfl)))
theorem gt_4_4 (hG : isG (sD s)) (x : Int32) : GT s 4 (some (am_sa + 3)) 4 x := by
  have e : stc (some (am_sa + 3)) (nI 4) = 46 := by decide +kernel
  unfold GT
  rw [e, mq_4_4 x]
  exact ⟨(gl_d 4 x).1, (gl_d 4 x).2, Or.inr ⟨by decide, by decide +kernel⟩⟩
theorem mq_4_5 (x : Int32) : f_M_mostOf 4 (nI 5) x = 255 := by
  unfold f_M_mostOf
  rw [show cn1 .ne (nI 5) = true from rfl, cond_true]
  unfold t_M_mostOf_5
  exact (if_neg (by decide)).trans ((if_neg (by decide)).trans ((if_neg (by decide)).trans ((if_pos rfl).trans rfl)))
theorem gt_4_5 (hG : isG (sD s)) (x : Int32) : GT s 4 (some (am_sa + 3)) 5 x := by
  have e : stc (some (am_sa + 3)) (nI 5) = 46 := by decide +kernel
  unfold GT
  rw [e, mq_4_5 x]
  exact ⟨(gl_d 4 x).1, (gl_d 4 x).2, Or.inr ⟨by decide, by decide +kernel⟩⟩
theorem mq_4_6 (x : Int32) : f_M_mostOf 4 (nI 6) x = 255 := by
  unfold f_M_mostOf
  rw [show cn1 .ne (nI 6) = true from rfl, cond_true]
  unfold t_M_mostOf_5
  exact (if_neg (by decide)).trans ((if_neg (by decide)).trans ((if_neg (by decide)).trans ((if_pos rfl).trans rfl)))
theorem gt_4_6 (hG : isG (sD s)) (x : Int32) : GT s 4 (some (am_sa + 3)) 6 x := by
  have e : stc (some (am_sa + 3)) (nI 6) = 46 := by decide +kernel
  unfold GT
  rw [e, mq_4_6 x]
  exact ⟨(gl_d 4 x).1, (gl_d 4 x).2, Or.inr ⟨by decide, by decide +kernel⟩⟩
theorem mq_4_7 (x : Int32) : f_M_mostOf 4 (nI 7) x = 255 := by
  unfold f_M_mostOf
  rw [show cn1 .ne (nI 7) = true from rfl, cond_true]
  unfold t_M_mostOf_5
  exact (if_neg (by decide)).trans ((if_neg (by decide)).trans ((if_neg (by decide)).trans ((if_pos rfl).trans rfl)))
theorem gt_4_7 (hG : isG (sD s)) (x : Int32) : GT s 4 (some (am_sa + 3)) 7 x := by
  have e : stc (some (am_sa + 3)) (nI 7) = 46 := by decide +kernel
  unfold GT
  rw [e, mq_4_7 x]
  exact ⟨(gl_d 4 x).1, (gl_d 4 x).2, Or.inr ⟨by decide, by decide +kernel⟩⟩
theorem mq_4_8 (x : Int32) : f_M_mostOf 4 (nI 8) x = 255 := by
  unfold f_M_mostOf
  rw [show cn1 .ne (nI 8) = true from rfl, cond_true]
  unfold t_M_mostOf_5
  exact (if_neg (by decide)).trans ((if_neg (by decide)).trans ((if_neg (by decide)).trans ((if_pos rfl).trans rfl)))
theorem gt_4_8 (hG : isG (sD s)) (x : Int32) : GT s 4 (some (am_sa + 3)) 8 x := by
  have e : stc (some (am_sa + 3)) (nI 8) = 46 := by decide +kernel
  unfold GT
  rw [e, mq_4_8 x]
  exact ⟨(gl_d 4 x).1, (gl_d 4 x).2, Or.inr ⟨by decide, by decide +kernel⟩⟩
theorem gt_4 (hG : isG (sD s)) (x : Int32) : ∀ j : Nat, (j : Int) + 1 < (f_M_wholeOf 4).toInt → GT s 4 (f_Pt_operands s 4) j x := fun j hj => by
  have ew : (f_M_wholeOf 4).toInt = 10 := by decide +kernel
  rw [ew] at hj
  rw [show f_Pt_operands s 4 = some (am_sa + 3) from rfl]
  match j, hj with
  | 0, _ => exact gt_4_0 hG x
  | 1, _ => exact gt_4_1 hG x
  | 2, _ => exact gt_4_2 hG x
  | 3, _ => exact gt_4_3 hG x
  | 4, _ => exact gt_4_4 hG x
  | 5, _ => exact gt_4_5 hG x
  | 6, _ => exact gt_4_6 hG x
  | 7, _ => exact gt_4_7 hG x
  | 8, _ => exact gt_4_8 hG x
  | j + 9, hj => exact absurd hj (by omega)
theorem gt_5_0 (hG : isG (sD s)) (x : Int32) : GT s 5 (some (am_sa + 4)) 0 x := by
  have e : stc (some (am_sa + 4)) (nI 0) = 114 := by decide +kernel
  unfold GT
  rw [e, mo_5_0 x]
  exact ⟨(gl_r hG 5 x).1, (gl_r hG 5 x).2, Or.inr ⟨by decide, by decide +kernel⟩⟩
theorem gt_5_1 (hG : isG (sD s)) (x : Int32) : GT s 5 (some (am_sa + 4)) 1 x := by
  have e : stc (some (am_sa + 4)) (nI 1) = 110 := by decide +kernel
  unfold GT
  rw [e, mo_5_1 x]
  exact ⟨(gl_n hG 5 x).1, (gl_n hG 5 x).2, Or.inr ⟨by decide, by decide +kernel⟩⟩
theorem gt_5 (hG : isG (sD s)) (x : Int32) : ∀ j : Nat, (j : Int) + 1 < (f_M_wholeOf 5).toInt → GT s 5 (f_Pt_operands s 5) j x := fun j hj => by
  have ew : (f_M_wholeOf 5).toInt = 3 := by decide +kernel
  rw [ew] at hj
  rw [show f_Pt_operands s 5 = some (am_sa + 4) from rfl]
  match j, hj with
  | 0, _ => exact gt_5_0 hG x
  | 1, _ => exact gt_5_1 hG x
  | j + 2, hj => exact absurd hj (by omega)
theorem gt_6_0 (hG : isG (sD s)) (x : Int32) : GT s 6 (some (am_sa + 5)) 0 x := by
  have e : stc (some (am_sa + 5)) (nI 0) = 110 := by decide +kernel
  unfold GT
  rw [e, mo_6_0 x]
  exact ⟨(gl_n hG 6 x).1, (gl_n hG 6 x).2, Or.inr ⟨by decide, by decide +kernel⟩⟩
theorem gt_6_1 (hG : isG (sD s)) (x : Int32) : GT s 6 (some (am_sa + 5)) 1 x := by
  have e : stc (some (am_sa + 5)) (nI 1) = 114 := by decide +kernel
  unfold GT
  rw [e, mo_6_1 x]
  exact ⟨(gl_r hG 6 x).1, (gl_r hG 6 x).2, Or.inr ⟨by decide, by decide +kernel⟩⟩
theorem gt_6 (hG : isG (sD s)) (x : Int32) : ∀ j : Nat, (j : Int) + 1 < (f_M_wholeOf 6).toInt → GT s 6 (f_Pt_operands s 6) j x := fun j hj => by
  have ew : (f_M_wholeOf 6).toInt = 3 := by decide +kernel
  rw [ew] at hj
  rw [show f_Pt_operands s 6 = some (am_sa + 5) from rfl]
  match j, hj with
  | 0, _ => exact gt_6_0 hG x
  | 1, _ => exact gt_6_1 hG x
  | j + 2, hj => exact absurd hj (by omega)
theorem gt_7_0 (hG : isG (sD s)) (x : Int32) : GT s 7 (some (am_sa + 6)) 0 x := by
  have e : stc (some (am_sa + 6)) (nI 0) = 114 := by decide +kernel
  unfold GT
  rw [e, mo_7_0 x]
  exact ⟨(gl_r hG 7 x).1, (gl_r hG 7 x).2, Or.inr ⟨by decide, by decide +kernel⟩⟩
theorem gt_7_1 (hG : isG (sD s)) (x : Int32) : GT s 7 (some (am_sa + 6)) 1 x := by
  have e : stc (some (am_sa + 6)) (nI 1) = 114 := by decide +kernel
  unfold GT
  rw [e, mo_7_1 x]
  exact ⟨(gl_r hG 7 x).1, (gl_r hG 7 x).2, Or.inr ⟨by decide, by decide +kernel⟩⟩
theorem mq_7_2 (x : Int32) : f_M_mostOf 7 (nI 2) x = 7 := by
  unfold f_M_mostOf
  rw [show cn1 .ne (nI 2) = true from rfl, cond_true]
  unfold t_M_mostOf_5
  exact (if_neg (by decide)).trans ((if_neg (by decide)).trans ((if_neg (by decide)).trans ((if_neg (by decide)).trans ((if_neg (by decide)).trans ((if_neg (by decide)).trans ((if_pos rfl).trans rfl))))))
theorem gt_7_2 (hG : isG (sD s)) (x : Int32) : GT s 7 (some (am_sa + 6)) 2 x := by
  have e : stc (some (am_sa + 6)) (nI 2) = 104 := by decide +kernel
  unfold GT
  rw [e, mq_7_2 x]
  exact ⟨(gl_h 7 x).1.trans (by decide +kernel), (gl_h 7 x).2, Or.inr ⟨by decide, by decide +kernel⟩⟩
theorem gt_7 (hG : isG (sD s)) (x : Int32) : ∀ j : Nat, (j : Int) + 1 < (f_M_wholeOf 7).toInt → GT s 7 (f_Pt_operands s 7) j x := fun j hj => by
  have ew : (f_M_wholeOf 7).toInt = 4 := by decide +kernel
  rw [ew] at hj
  rw [show f_Pt_operands s 7 = some (am_sa + 6) from rfl]
  match j, hj with
  | 0, _ => exact gt_7_0 hG x
  | 1, _ => exact gt_7_1 hG x
  | 2, _ => exact gt_7_2 hG x
  | j + 3, hj => exact absurd hj (by omega)
theorem gt_8_0 (hG : isG (sD s)) (x : Int32) : GT s 8 (some (am_sa + 7)) 0 x := by
  have e : stc (some (am_sa + 7)) (nI 0) = 114 := by decide +kernel
  unfold GT
  rw [e, mo_8_0 x]
  exact ⟨(gl_r hG 8 x).1, (gl_r hG 8 x).2, Or.inr ⟨by decide, by decide +kernel⟩⟩
theorem mq_8_1 (x : Int32) : f_M_mostOf 8 (nI 1) x = 9 := by
  unfold f_M_mostOf
  rw [show cn1 .ne (nI 1) = true from rfl, cond_true]
  unfold t_M_mostOf_5
  exact (if_neg (by decide)).trans ((if_neg (by decide)).trans ((if_neg (by decide)).trans ((if_neg (by decide)).trans ((if_neg (by decide)).trans ((if_neg (by decide)).trans ((if_neg (by decide)).trans ((if_pos rfl).trans rfl)))))))
theorem gt_8_1 (hG : isG (sD s)) (x : Int32) : GT s 8 (some (am_sa + 7)) 1 x := by
  have e : stc (some (am_sa + 7)) (nI 1) = 104 := by decide +kernel
  unfold GT
  rw [e, mq_8_1 x]
  exact ⟨(gl_h 8 x).1.trans (by decide +kernel), (gl_h 8 x).2, Or.inr ⟨by decide, by decide +kernel⟩⟩
theorem gt_8 (hG : isG (sD s)) (x : Int32) : ∀ j : Nat, (j : Int) + 1 < (f_M_wholeOf 8).toInt → GT s 8 (f_Pt_operands s 8) j x := fun j hj => by
  have ew : (f_M_wholeOf 8).toInt = 3 := by decide +kernel
  rw [ew] at hj
  rw [show f_Pt_operands s 8 = some (am_sa + 7) from rfl]
  match j, hj with
  | 0, _ => exact gt_8_0 hG x
  | 1, _ => exact gt_8_1 hG x
  | j + 2, hj => exact absurd hj (by omega)
theorem gt_9_0 (hG : isG (sD s)) (x : Int32) : GT s 9 (some (am_sa + 8)) 0 x := by
  have e : stc (some (am_sa + 8)) (nI 0) = 110 := by decide +kernel
  unfold GT
  rw [e, mo_9_0 x]
  exact ⟨(gl_n hG 9 x).1, (gl_n hG 9 x).2, Or.inr ⟨by decide, by decide +kernel⟩⟩
theorem gt_9_1 (hG : isG (sD s)) (x : Int32) : GT s 9 (some (am_sa + 8)) 1 x := by
  have e : stc (some (am_sa + 8)) (nI 1) = 114 := by decide +kernel
  unfold GT
  rw [e, mo_9_1 x]
  exact ⟨(gl_r hG 9 x).1, (gl_r hG 9 x).2, Or.inr ⟨by decide, by decide +kernel⟩⟩
theorem gt_9_2 (hG : isG (sD s)) (x : Int32) : GT s 9 (some (am_sa + 8)) 2 x := by
  have e : stc (some (am_sa + 8)) (nI 2) = 114 := by decide +kernel
  unfold GT
  rw [e, mo_9_2 x]
  exact ⟨(gl_r hG 9 x).1, (gl_r hG 9 x).2, Or.inr ⟨by decide, by decide +kernel⟩⟩
theorem gt_9_3 (hG : isG (sD s)) (x : Int32) : GT s 9 (some (am_sa + 8)) 3 x := by
  have e : stc (some (am_sa + 8)) (nI 3) = 104 := by decide +kernel
  unfold GT
  rw [e, mo_9_3 x]
  exact ⟨(gl_h 9 x).1.trans (by decide +kernel), (gl_h 9 x).2, Or.inr ⟨by decide, by decide +kernel⟩⟩
theorem gt_9 (hG : isG (sD s)) (x : Int32) : ∀ j : Nat, (j : Int) + 1 < (f_M_wholeOf 9).toInt → GT s 9 (f_Pt_operands s 9) j x := fun j hj => by
  have ew : (f_M_wholeOf 9).toInt = 5 := by decide +kernel
  rw [ew] at hj
  rw [show f_Pt_operands s 9 = some (am_sa + 8) from rfl]
  match j, hj with
  | 0, _ => exact gt_9_0 hG x
  | 1, _ => exact gt_9_1 hG x
  | 2, _ => exact gt_9_2 hG x
  | 3, _ => exact gt_9_3 hG x
  | j + 4, hj => exact absurd hj (by omega)
theorem gt_10_0 (hG : isG (sD s)) (x : Int32) : GT s 10 (some (am_sa + 9)) 0 x := by
  have e : stc (some (am_sa + 9)) (nI 0) = 115 := by decide +kernel
  unfold GT
  rw [e, mo_10_0 x]
  exact ⟨(gl_s hG 10 x).1, (gl_s hG 10 x).2, Or.inr ⟨by decide, by decide +kernel⟩⟩
theorem gt_10_1 (hG : isG (sD s)) (x : Int32) : GT s 10 (some (am_sa + 9)) 1 x := by
  have e : stc (some (am_sa + 9)) (nI 1) = 115 := by decide +kernel
  unfold GT
  rw [e, mo_10_1 x]
  exact ⟨(gl_s hG 10 x).1, (gl_s hG 10 x).2, Or.inr ⟨by decide, by decide +kernel⟩⟩
theorem gt_10 (hG : isG (sD s)) (x : Int32) : ∀ j : Nat, (j : Int) + 1 < (f_M_wholeOf 10).toInt → GT s 10 (f_Pt_operands s 10) j x := fun j hj => by
  have ew : (f_M_wholeOf 10).toInt = 3 := by decide +kernel
  rw [ew] at hj
  rw [show f_Pt_operands s 10 = some (am_sa + 9) from rfl]
  match j, hj with
  | 0, _ => exact gt_10_0 hG x
  | 1, _ => exact gt_10_1 hG x
  | j + 2, hj => exact absurd hj (by omega)
theorem gt_11_0 (hG : isG (sD s)) (x : Int32) : GT s 11 (some (am_sa + 10)) 0 x := by
  have e : stc (some (am_sa + 10)) (nI 0) = 115 := by decide +kernel
  unfold GT
  rw [e, mo_11_0 x]
  exact ⟨(gl_s hG 11 x).1, (gl_s hG 11 x).2, Or.inr ⟨by decide, by decide +kernel⟩⟩
theorem gt_11 (hG : isG (sD s)) (x : Int32) : ∀ j : Nat, (j : Int) + 1 < (f_M_wholeOf 11).toInt → GT s 11 (f_Pt_operands s 11) j x := fun j hj => by
  have ew : (f_M_wholeOf 11).toInt = 2 := by decide +kernel
  rw [ew] at hj
  rw [show f_Pt_operands s 11 = some (am_sa + 10) from rfl]
  match j, hj with
  | 0, _ => exact gt_11_0 hG x
  | j + 1, hj => exact absurd hj (by omega)
theorem gt_12_0 (hG : isG (sD s)) (x : Int32) : GT s 12 (some (am_sa + 11)) 0 x := by
  have e : stc (some (am_sa + 11)) (nI 0) = 115 := by decide +kernel
  unfold GT
  rw [e, mo_12_0 x]
  exact ⟨(gl_s hG 12 x).1, (gl_s hG 12 x).2, Or.inr ⟨by decide, by decide +kernel⟩⟩
theorem gt_12_1 (hG : isG (sD s)) (x : Int32) : GT s 12 (some (am_sa + 11)) 1 x := by
  have e : stc (some (am_sa + 11)) (nI 1) = 119 := by decide +kernel
  unfold GT
  rw [e, mo_12_1 x]
  exact ⟨(gl_w hG 12 x).1, (gl_w hG 12 x).2, Or.inl ⟨rfl, by decide +kernel⟩⟩
theorem gt_12_2 (hG : isG (sD s)) (x : Int32) : GT s 12 (some (am_sa + 11)) 2 x := by
  have e : stc (some (am_sa + 11)) (nI 2) = 110 := by decide +kernel
  unfold GT
  rw [e, mo_12_2 x]
  exact ⟨(gl_n hG 12 x).1, (gl_n hG 12 x).2, Or.inr ⟨by decide, by decide +kernel⟩⟩
theorem gt_12 (hG : isG (sD s)) (x : Int32) : ∀ j : Nat, (j : Int) + 1 < (f_M_wholeOf 12).toInt → GT s 12 (f_Pt_operands s 12) j x := fun j hj => by
  have ew : (f_M_wholeOf 12).toInt = 4 := by decide +kernel
  rw [ew] at hj
  rw [show f_Pt_operands s 12 = some (am_sa + 11) from rfl]
  match j, hj with
  | 0, _ => exact gt_12_0 hG x
  | 1, _ => exact gt_12_1 hG x
  | 2, _ => exact gt_12_2 hG x
  | j + 3, hj => exact absurd hj (by omega)
theorem gt_13_0 (hG : isG (sD s)) (x : Int32) : GT s 13 (some (am_sa + 12)) 0 x := by
  have e : stc (some (am_sa + 12)) (nI 0) = 115 := by decide +kernel
  unfold GT
  rw [e, mo_13_0 x]
  exact ⟨(gl_s hG 13 x).1, (gl_s hG 13 x).2, Or.inr ⟨by decide, by decide +kernel⟩⟩
theorem gt_13_1 (hG : isG (sD s)) (x : Int32) : GT s 13 (some (am_sa + 12)) 1 x := by
  have e : stc (some (am_sa + 12)) (nI 1) = 110 := by decide +kernel
  unfold GT
  rw [e, mo_13_1 x]
  exact ⟨(gl_n hG 13 x).1, (gl_n hG 13 x).2, Or.inr ⟨by decide, by decide +kernel⟩⟩
theorem gt_13_2 (hG : isG (sD s)) (x : Int32) : GT s 13 (some (am_sa + 12)) 2 x := by
  have e : stc (some (am_sa + 12)) (nI 2) = 110 := by decide +kernel
  unfold GT
  rw [e, mo_13_2 x]
  exact ⟨(gl_n hG 13 x).1, (gl_n hG 13 x).2, Or.inr ⟨by decide, by decide +kernel⟩⟩
theorem gt_13 (hG : isG (sD s)) (x : Int32) : ∀ j : Nat, (j : Int) + 1 < (f_M_wholeOf 13).toInt → GT s 13 (f_Pt_operands s 13) j x := fun j hj => by
  have ew : (f_M_wholeOf 13).toInt = 4 := by decide +kernel
  rw [ew] at hj
  rw [show f_Pt_operands s 13 = some (am_sa + 12) from rfl]
  match j, hj with
  | 0, _ => exact gt_13_0 hG x
  | 1, _ => exact gt_13_1 hG x
  | 2, _ => exact gt_13_2 hG x
  | j + 3, hj => exact absurd hj (by omega)
theorem gt_14_0 (hG : isG (sD s)) (x : Int32) : GT s 14 (some (am_sa + 13)) 0 x := by
  have e : stc (some (am_sa + 13)) (nI 0) = 115 := by decide +kernel
  unfold GT
  rw [e, mo_14_0 x]
  exact ⟨(gl_s hG 14 x).1, (gl_s hG 14 x).2, Or.inr ⟨by decide, by decide +kernel⟩⟩
theorem gt_14_1 (hG : isG (sD s)) (x : Int32) : GT s 14 (some (am_sa + 13)) 1 x := by
  have e : stc (some (am_sa + 13)) (nI 1) = 99 := by decide +kernel
  unfold GT
  rw [e, mo_14_1 x]
  exact ⟨(gl_c hG 14 x).1, (gl_c hG 14 x).2, Or.inr ⟨by decide, by decide +kernel⟩⟩
theorem gt_14_2 (hG : isG (sD s)) (x : Int32) : GT s 14 (some (am_sa + 13)) 2 x := by
  have e : stc (some (am_sa + 13)) (nI 2) = 110 := by decide +kernel
  unfold GT
  rw [e, mo_14_2 x]
  exact ⟨(gl_n hG 14 x).1, (gl_n hG 14 x).2, Or.inr ⟨by decide, by decide +kernel⟩⟩
theorem gt_14 (hG : isG (sD s)) (x : Int32) : ∀ j : Nat, (j : Int) + 1 < (f_M_wholeOf 14).toInt → GT s 14 (f_Pt_operands s 14) j x := fun j hj => by
  have ew : (f_M_wholeOf 14).toInt = 4 := by decide +kernel
  rw [ew] at hj
  rw [show f_Pt_operands s 14 = some (am_sa + 13) from rfl]
  match j, hj with
  | 0, _ => exact gt_14_0 hG x
  | 1, _ => exact gt_14_1 hG x
  | 2, _ => exact gt_14_2 hG x
  | j + 3, hj => exact absurd hj (by omega)
theorem gt_15_0 (hG : isG (sD s)) (x : Int32) : GT s 15 (some (am_sa + 14)) 0 x := by
  have e : stc (some (am_sa + 14)) (nI 0) = 115 := by decide +kernel
  unfold GT
  rw [e, mo_15_0 x]
  exact ⟨(gl_s hG 15 x).1, (gl_s hG 15 x).2, Or.inr ⟨by decide, by decide +kernel⟩⟩
theorem gt_15_1 (hG : isG (sD s)) (x : Int32) : GT s 15 (some (am_sa + 14)) 1 x := by
  have e : stc (some (am_sa + 14)) (nI 1) = 99 := by decide +kernel
  unfold GT
  rw [e, mo_15_1 x]
  exact ⟨(gl_c hG 15 x).1, (gl_c hG 15 x).2, Or.inr ⟨by decide, by decide +kernel⟩⟩
theorem gt_15 (hG : isG (sD s)) (x : Int32) : ∀ j : Nat, (j : Int) + 1 < (f_M_wholeOf 15).toInt → GT s 15 (f_Pt_operands s 15) j x := fun j hj => by
  have ew : (f_M_wholeOf 15).toInt = 3 := by decide +kernel
  rw [ew] at hj
  rw [show f_Pt_operands s 15 = some (am_sa + 14) from rfl]
  match j, hj with
  | 0, _ => exact gt_15_0 hG x
  | 1, _ => exact gt_15_1 hG x
  | j + 2, hj => exact absurd hj (by omega)
theorem gt_16_0 (hG : isG (sD s)) (x : Int32) : GT s 16 (some (am_sa + 15)) 0 x := by
  have e : stc (some (am_sa + 15)) (nI 0) = 115 := by decide +kernel
  unfold GT
  rw [e, mo_16_0 x]
  exact ⟨(gl_s hG 16 x).1, (gl_s hG 16 x).2, Or.inr ⟨by decide, by decide +kernel⟩⟩
theorem gt_16_1 (hG : isG (sD s)) (x : Int32) : GT s 16 (some (am_sa + 15)) 1 x := by
  have e : stc (some (am_sa + 15)) (nI 1) = 110 := by decide +kernel
  unfold GT
  rw [e, mo_16_1 x]
  exact ⟨(gl_n hG 16 x).1, (gl_n hG 16 x).2, Or.inr ⟨by decide, by decide +kernel⟩⟩
theorem gt_16 (hG : isG (sD s)) (x : Int32) : ∀ j : Nat, (j : Int) + 1 < (f_M_wholeOf 16).toInt → GT s 16 (f_Pt_operands s 16) j x := fun j hj => by
  have ew : (f_M_wholeOf 16).toInt = 3 := by decide +kernel
  rw [ew] at hj
  rw [show f_Pt_operands s 16 = some (am_sa + 15) from rfl]
  match j, hj with
  | 0, _ => exact gt_16_0 hG x
  | 1, _ => exact gt_16_1 hG x
  | j + 2, hj => exact absurd hj (by omega)
theorem gt_17_0 (hG : isG (sD s)) (x : Int32) : GT s 17 (some (am_sa + 16)) 0 x := by
  have e : stc (some (am_sa + 16)) (nI 0) = 110 := by decide +kernel
  unfold GT
  rw [e, mo_17_0 x]
  exact ⟨(gl_n hG 17 x).1, (gl_n hG 17 x).2, Or.inr ⟨by decide, by decide +kernel⟩⟩
theorem gt_17_1 (hG : isG (sD s)) (x : Int32) : GT s 17 (some (am_sa + 16)) 1 x := by
  have e : stc (some (am_sa + 16)) (nI 1) = 115 := by decide +kernel
  unfold GT
  rw [e, mo_17_1 x]
  exact ⟨(gl_s hG 17 x).1, (gl_s hG 17 x).2, Or.inr ⟨by decide, by decide +kernel⟩⟩
theorem gt_17 (hG : isG (sD s)) (x : Int32) : ∀ j : Nat, (j : Int) + 1 < (f_M_wholeOf 17).toInt → GT s 17 (f_Pt_operands s 17) j x := fun j hj => by
  have ew : (f_M_wholeOf 17).toInt = 3 := by decide +kernel
  rw [ew] at hj
  rw [show f_Pt_operands s 17 = some (am_sa + 16) from rfl]
  match j, hj with
  | 0, _ => exact gt_17_0 hG x
  | 1, _ => exact gt_17_1 hG x
  | j + 2, hj => exact absurd hj (by omega)
theorem gt_18_0 (hG : isG (sD s)) (x : Int32) : GT s 18 (some (am_sa + 17)) 0 x := by
  have e : stc (some (am_sa + 17)) (nI 0) = 110 := by decide +kernel
  unfold GT
  rw [e, mo_18_0 x]
  exact ⟨(gl_n hG 18 x).1, (gl_n hG 18 x).2, Or.inr ⟨by decide, by decide +kernel⟩⟩
theorem gt_18_1 (hG : isG (sD s)) (x : Int32) : GT s 18 (some (am_sa + 17)) 1 x := by
  have e : stc (some (am_sa + 17)) (nI 1) = 115 := by decide +kernel
  unfold GT
  rw [e, mo_18_1 x]
  exact ⟨(gl_s hG 18 x).1, (gl_s hG 18 x).2, Or.inr ⟨by decide, by decide +kernel⟩⟩
theorem gt_18_2 (hG : isG (sD s)) (x : Int32) : GT s 18 (some (am_sa + 17)) 2 x := by
  have e : stc (some (am_sa + 17)) (nI 2) = 104 := by decide +kernel
  unfold GT
  rw [e, mo_18_2 x]
  exact ⟨(gl_h 18 x).1.trans (by decide +kernel), (gl_h 18 x).2, Or.inr ⟨by decide, by decide +kernel⟩⟩
theorem gt_18 (hG : isG (sD s)) (x : Int32) : ∀ j : Nat, (j : Int) + 1 < (f_M_wholeOf 18).toInt → GT s 18 (f_Pt_operands s 18) j x := fun j hj => by
  have ew : (f_M_wholeOf 18).toInt = 4 := by decide +kernel
  rw [ew] at hj
  rw [show f_Pt_operands s 18 = some (am_sa + 17) from rfl]
  match j, hj with
  | 0, _ => exact gt_18_0 hG x
  | 1, _ => exact gt_18_1 hG x
  | 2, _ => exact gt_18_2 hG x
  | j + 3, hj => exact absurd hj (by omega)
theorem gt_19_0 (hG : isG (sD s)) (x : Int32) : GT s 19 (some (am_sa + 18)) 0 x := by
  have e : stc (some (am_sa + 18)) (nI 0) = 119 := by decide +kernel
  unfold GT
  rw [e, mo_19_0 x]
  exact ⟨(gl_w hG 19 x).1, (gl_w hG 19 x).2, Or.inl ⟨rfl, by decide +kernel⟩⟩
theorem gt_19_1 (hG : isG (sD s)) (x : Int32) : GT s 19 (some (am_sa + 18)) 1 x := by
  have e : stc (some (am_sa + 18)) (nI 1) = 118 := by decide +kernel
  unfold GT
  rw [e, mo_19_1 x]
  exact ⟨(gl_v 19 x).1, (gl_v 19 x).2, Or.inr ⟨by decide, by decide +kernel⟩⟩
theorem gt_19_2 (hG : isG (sD s)) (x : Int32) : GT s 19 (some (am_sa + 18)) 2 x := by
  have e : stc (some (am_sa + 18)) (nI 2) = 115 := by decide +kernel
  unfold GT
  rw [e, mo_19_2 x]
  exact ⟨(gl_s hG 19 x).1, (gl_s hG 19 x).2, Or.inr ⟨by decide, by decide +kernel⟩⟩
theorem gt_19_3 (hG : isG (sD s)) (x : Int32) : GT s 19 (some (am_sa + 18)) 3 x := by
  have e : stc (some (am_sa + 18)) (nI 3) = 110 := by decide +kernel
  unfold GT
  rw [e, mo_19_3 x]
  exact ⟨(gl_n hG 19 x).1, (gl_n hG 19 x).2, Or.inr ⟨by decide, by decide +kernel⟩⟩
theorem gt_19 (hG : isG (sD s)) (x : Int32) : ∀ j : Nat, (j : Int) + 1 < (f_M_wholeOf 19).toInt → GT s 19 (f_Pt_operands s 19) j x := fun j hj => by
  have ew : (f_M_wholeOf 19).toInt = 5 := by decide +kernel
  rw [ew] at hj
  rw [show f_Pt_operands s 19 = some (am_sa + 18) from rfl]
  match j, hj with
  | 0, _ => exact gt_19_0 hG x
  | 1, _ => exact gt_19_1 hG x
  | 2, _ => exact gt_19_2 hG x
  | 3, _ => exact gt_19_3 hG x
  | j + 4, hj => exact absurd hj (by omega)
theorem gt_20_0 (hG : isG (sD s)) (x : Int32) : GT s 20 (some (am_sa + 19)) 0 x := by
  have e : stc (some (am_sa + 19)) (nI 0) = 119 := by decide +kernel
  unfold GT
  rw [e, mo_20_0 x]
  exact ⟨(gl_w hG 20 x).1, (gl_w hG 20 x).2, Or.inl ⟨rfl, by decide +kernel⟩⟩
theorem gt_20_1 (hG : isG (sD s)) (x : Int32) : GT s 20 (some (am_sa + 19)) 1 x := by
  have e : stc (some (am_sa + 19)) (nI 1) = 115 := by decide +kernel
  unfold GT
  rw [e, mo_20_1 x]
  exact ⟨(gl_s hG 20 x).1, (gl_s hG 20 x).2, Or.inr ⟨by decide, by decide +kernel⟩⟩
theorem gt_20_2 (hG : isG (sD s)) (x : Int32) : GT s 20 (some (am_sa + 19)) 2 x := by
  have e : stc (some (am_sa + 19)) (nI 2) = 110 := by decide +kernel
  unfold GT
  rw [e, mo_20_2 x]
  exact ⟨(gl_n hG 20 x).1, (gl_n hG 20 x).2, Or.inr ⟨by decide, by decide +kernel⟩⟩
theorem gt_20_3 (hG : isG (sD s)) (x : Int32) : GT s 20 (some (am_sa + 19)) 3 x := by
  have e : stc (some (am_sa + 19)) (nI 3) = 118 := by decide +kernel
  unfold GT
  rw [e, mo_20_3 x]
  exact ⟨(gl_v 20 x).1, (gl_v 20 x).2, Or.inr ⟨by decide, by decide +kernel⟩⟩
theorem gt_20 (hG : isG (sD s)) (x : Int32) : ∀ j : Nat, (j : Int) + 1 < (f_M_wholeOf 20).toInt → GT s 20 (f_Pt_operands s 20) j x := fun j hj => by
  have ew : (f_M_wholeOf 20).toInt = 5 := by decide +kernel
  rw [ew] at hj
  rw [show f_Pt_operands s 20 = some (am_sa + 19) from rfl]
  match j, hj with
  | 0, _ => exact gt_20_0 hG x
  | 1, _ => exact gt_20_1 hG x
  | 2, _ => exact gt_20_2 hG x
  | 3, _ => exact gt_20_3 hG x
  | j + 4, hj => exact absurd hj (by omega)
theorem gt_21_0 (hG : isG (sD s)) (x : Int32) : GT s 21 (some (am_sa + 20)) 0 x := by
  have e : stc (some (am_sa + 20)) (nI 0) = 115 := by decide +kernel
  unfold GT
  rw [e, mo_21_0 x]
  exact ⟨(gl_s hG 21 x).1, (gl_s hG 21 x).2, Or.inr ⟨by decide, by decide +kernel⟩⟩
theorem gt_21_1 (hG : isG (sD s)) (x : Int32) : GT s 21 (some (am_sa + 20)) 1 x := by
  have e : stc (some (am_sa + 20)) (nI 1) = 110 := by decide +kernel
  unfold GT
  rw [e, mo_21_1 x]
  exact ⟨(gl_n hG 21 x).1, (gl_n hG 21 x).2, Or.inr ⟨by decide, by decide +kernel⟩⟩
theorem gt_21_2 (hG : isG (sD s)) (x : Int32) : GT s 21 (some (am_sa + 20)) 2 x := by
  have e : stc (some (am_sa + 20)) (nI 2) = 115 := by decide +kernel
  unfold GT
  rw [e, mo_21_2 x]
  exact ⟨(gl_s hG 21 x).1, (gl_s hG 21 x).2, Or.inr ⟨by decide, by decide +kernel⟩⟩
theorem gt_21_3 (hG : isG (sD s)) (x : Int32) : GT s 21 (some (am_sa + 20)) 3 x := by
  have e : stc (some (am_sa + 20)) (nI 3) = 110 := by decide +kernel
  unfold GT
  rw [e, mo_21_3 x]
  exact ⟨(gl_n hG 21 x).1, (gl_n hG 21 x).2, Or.inr ⟨by decide, by decide +kernel⟩⟩
theorem gt_21_4 (hG : isG (sD s)) (x : Int32) : GT s 21 (some (am_sa + 20)) 4 x := by
  have e : stc (some (am_sa + 20)) (nI 4) = 110 := by decide +kernel
  unfold GT
  rw [e, mo_21_4 x]
  exact ⟨(gl_n hG 21 x).1, (gl_n hG 21 x).2, Or.inr ⟨by decide, by decide +kernel⟩⟩
theorem gt_21 (hG : isG (sD s)) (x : Int32) : ∀ j : Nat, (j : Int) + 1 < (f_M_wholeOf 21).toInt → GT s 21 (f_Pt_operands s 21) j x := fun j hj => by
  have ew : (f_M_wholeOf 21).toInt = 6 := by decide +kernel
  rw [ew] at hj
  rw [show f_Pt_operands s 21 = some (am_sa + 20) from rfl]
  match j, hj with
  | 0, _ => exact gt_21_0 hG x
  | 1, _ => exact gt_21_1 hG x
  | 2, _ => exact gt_21_2 hG x
  | 3, _ => exact gt_21_3 hG x
  | 4, _ => exact gt_21_4 hG x
  | j + 5, hj => exact absurd hj (by omega)
theorem gt_22_0 (hG : isG (sD s)) (x : Int32) : GT s 22 (some (am_sa + 9)) 0 x := by
  have e : stc (some (am_sa + 9)) (nI 0) = 115 := by decide +kernel
  unfold GT
  rw [e, mo_22_0 x]
  exact ⟨(gl_s hG 22 x).1, (gl_s hG 22 x).2, Or.inr ⟨by decide, by decide +kernel⟩⟩
theorem gt_22_1 (hG : isG (sD s)) (x : Int32) : GT s 22 (some (am_sa + 9)) 1 x := by
  have e : stc (some (am_sa + 9)) (nI 1) = 115 := by decide +kernel
  unfold GT
  rw [e, mo_22_1 x]
  exact ⟨(gl_s hG 22 x).1, (gl_s hG 22 x).2, Or.inr ⟨by decide, by decide +kernel⟩⟩
theorem gt_22 (hG : isG (sD s)) (x : Int32) : ∀ j : Nat, (j : Int) + 1 < (f_M_wholeOf 22).toInt → GT s 22 (f_Pt_operands s 22) j x := fun j hj => by
  have ew : (f_M_wholeOf 22).toInt = 3 := by decide +kernel
  rw [ew] at hj
  rw [show f_Pt_operands s 22 = some (am_sa + 9) from rfl]
  match j, hj with
  | 0, _ => exact gt_22_0 hG x
  | 1, _ => exact gt_22_1 hG x
  | j + 2, hj => exact absurd hj (by omega)
theorem gt_23_0 (hG : isG (sD s)) (x : Int32) : GT s 23 (some (am_sa + 21)) 0 x := by
  have e : stc (some (am_sa + 21)) (nI 0) = 115 := by decide +kernel
  unfold GT
  rw [e, mo_23_0 x]
  exact ⟨(gl_s hG 23 x).1, (gl_s hG 23 x).2, Or.inr ⟨by decide, by decide +kernel⟩⟩
theorem gt_23_1 (hG : isG (sD s)) (x : Int32) : GT s 23 (some (am_sa + 21)) 1 x := by
  have e : stc (some (am_sa + 21)) (nI 1) = 115 := by decide +kernel
  unfold GT
  rw [e, mo_23_1 x]
  exact ⟨(gl_s hG 23 x).1, (gl_s hG 23 x).2, Or.inr ⟨by decide, by decide +kernel⟩⟩
theorem gt_23_2 (hG : isG (sD s)) (x : Int32) : GT s 23 (some (am_sa + 21)) 2 x := by
  have e : stc (some (am_sa + 21)) (nI 2) = 110 := by decide +kernel
  unfold GT
  rw [e, mo_23_2 x]
  exact ⟨(gl_n hG 23 x).1, (gl_n hG 23 x).2, Or.inr ⟨by decide, by decide +kernel⟩⟩
theorem gt_23 (hG : isG (sD s)) (x : Int32) : ∀ j : Nat, (j : Int) + 1 < (f_M_wholeOf 23).toInt → GT s 23 (f_Pt_operands s 23) j x := fun j hj => by
  have ew : (f_M_wholeOf 23).toInt = 4 := by decide +kernel
  rw [ew] at hj
  rw [show f_Pt_operands s 23 = some (am_sa + 21) from rfl]
  match j, hj with
  | 0, _ => exact gt_23_0 hG x
  | 1, _ => exact gt_23_1 hG x
  | 2, _ => exact gt_23_2 hG x
  | j + 3, hj => exact absurd hj (by omega)
theorem gt_24_0 (hG : isG (sD s)) (x : Int32) : GT s 24 (some (am_sa + 22)) 0 x := by
  have e : stc (some (am_sa + 22)) (nI 0) = 115 := by decide +kernel
  unfold GT
  rw [e, mo_24_0 x]
  exact ⟨(gl_s hG 24 x).1, (gl_s hG 24 x).2, Or.inr ⟨by decide, by decide +kernel⟩⟩
theorem gt_24_1 (hG : isG (sD s)) (x : Int32) : GT s 24 (some (am_sa + 22)) 1 x := by
  have e : stc (some (am_sa + 22)) (nI 1) = 110 := by decide +kernel
  unfold GT
  rw [e, mo_24_1 x]
  exact ⟨(gl_n hG 24 x).1, (gl_n hG 24 x).2, Or.inr ⟨by decide, by decide +kernel⟩⟩
theorem gt_24_2 (hG : isG (sD s)) (x : Int32) : GT s 24 (some (am_sa + 22)) 2 x := by
  have e : stc (some (am_sa + 22)) (nI 2) = 115 := by decide +kernel
  unfold GT
  rw [e, mo_24_2 x]
  exact ⟨(gl_s hG 24 x).1, (gl_s hG 24 x).2, Or.inr ⟨by decide, by decide +kernel⟩⟩
theorem gt_24 (hG : isG (sD s)) (x : Int32) : ∀ j : Nat, (j : Int) + 1 < (f_M_wholeOf 24).toInt → GT s 24 (f_Pt_operands s 24) j x := fun j hj => by
  have ew : (f_M_wholeOf 24).toInt = 4 := by decide +kernel
  rw [ew] at hj
  rw [show f_Pt_operands s 24 = some (am_sa + 22) from rfl]
  match j, hj with
  | 0, _ => exact gt_24_0 hG x
  | 1, _ => exact gt_24_1 hG x
  | 2, _ => exact gt_24_2 hG x
  | j + 3, hj => exact absurd hj (by omega)
theorem gt_25_0 (hG : isG (sD s)) (x : Int32) : GT s 25 (some (am_sa + 21)) 0 x := by
  have e : stc (some (am_sa + 21)) (nI 0) = 115 := by decide +kernel
  unfold GT
  rw [e, mo_25_0 x]
  exact ⟨(gl_s hG 25 x).1, (gl_s hG 25 x).2, Or.inr ⟨by decide, by decide +kernel⟩⟩
theorem gt_25_1 (hG : isG (sD s)) (x : Int32) : GT s 25 (some (am_sa + 21)) 1 x := by
  have e : stc (some (am_sa + 21)) (nI 1) = 115 := by decide +kernel
  unfold GT
  rw [e, mo_25_1 x]
  exact ⟨(gl_s hG 25 x).1, (gl_s hG 25 x).2, Or.inr ⟨by decide, by decide +kernel⟩⟩
theorem gt_25_2 (hG : isG (sD s)) (x : Int32) : GT s 25 (some (am_sa + 21)) 2 x := by
  have e : stc (some (am_sa + 21)) (nI 2) = 110 := by decide +kernel
  unfold GT
  rw [e, mo_25_2 x]
  exact ⟨(gl_n hG 25 x).1, (gl_n hG 25 x).2, Or.inr ⟨by decide, by decide +kernel⟩⟩
theorem gt_25 (hG : isG (sD s)) (x : Int32) : ∀ j : Nat, (j : Int) + 1 < (f_M_wholeOf 25).toInt → GT s 25 (f_Pt_operands s 25) j x := fun j hj => by
  have ew : (f_M_wholeOf 25).toInt = 4 := by decide +kernel
  rw [ew] at hj
  rw [show f_Pt_operands s 25 = some (am_sa + 21) from rfl]
  match j, hj with
  | 0, _ => exact gt_25_0 hG x
  | 1, _ => exact gt_25_1 hG x
  | 2, _ => exact gt_25_2 hG x
  | j + 3, hj => exact absurd hj (by omega)
theorem gt_26_0 (hG : isG (sD s)) (x : Int32) : GT s 26 (some (am_sa + 22)) 0 x := by
  have e : stc (some (am_sa + 22)) (nI 0) = 115 := by decide +kernel
  unfold GT
  rw [e, mo_26_0 x]
  exact ⟨(gl_s hG 26 x).1, (gl_s hG 26 x).2, Or.inr ⟨by decide, by decide +kernel⟩⟩
theorem gt_26_1 (hG : isG (sD s)) (x : Int32) : GT s 26 (some (am_sa + 22)) 1 x := by
  have e : stc (some (am_sa + 22)) (nI 1) = 110 := by decide +kernel
  unfold GT
  rw [e, mo_26_1 x]
  exact ⟨(gl_n hG 26 x).1, (gl_n hG 26 x).2, Or.inr ⟨by decide, by decide +kernel⟩⟩
theorem gt_26_2 (hG : isG (sD s)) (x : Int32) : GT s 26 (some (am_sa + 22)) 2 x := by
  have e : stc (some (am_sa + 22)) (nI 2) = 115 := by decide +kernel
  unfold GT
  rw [e, mo_26_2 x]
  exact ⟨(gl_s hG 26 x).1, (gl_s hG 26 x).2, Or.inr ⟨by decide, by decide +kernel⟩⟩
theorem gt_26 (hG : isG (sD s)) (x : Int32) : ∀ j : Nat, (j : Int) + 1 < (f_M_wholeOf 26).toInt → GT s 26 (f_Pt_operands s 26) j x := fun j hj => by
  have ew : (f_M_wholeOf 26).toInt = 4 := by decide +kernel
  rw [ew] at hj
  rw [show f_Pt_operands s 26 = some (am_sa + 22) from rfl]
  match j, hj with
  | 0, _ => exact gt_26_0 hG x
  | 1, _ => exact gt_26_1 hG x
  | 2, _ => exact gt_26_2 hG x
  | j + 3, hj => exact absurd hj (by omega)
theorem gt_27_0 (hG : isG (sD s)) (x : Int32) : GT s 27 (some (am_sa + 23)) 0 x := by
  have e : stc (some (am_sa + 23)) (nI 0) = 104 := by decide +kernel
  unfold GT
  rw [e, mo_27_0 x]
  exact ⟨(gl_h 27 x).1.trans (by decide +kernel), (gl_h 27 x).2, Or.inr ⟨by decide, by decide +kernel⟩⟩
theorem gt_27_1 (hG : isG (sD s)) (x : Int32) : GT s 27 (some (am_sa + 23)) 1 x := by
  have e : stc (some (am_sa + 23)) (nI 1) = 102 := by decide +kernel
  unfold GT
  rw [e, mo_27_1 x]
  exact ⟨(gl_f 27 x).1, (gl_f 27 x).2, Or.inr ⟨by decide, by decide +kernel⟩⟩
theorem gt_27_2 (hG : isG (sD s)) (x : Int32) : GT s 27 (some (am_sa + 23)) 2 x := by
  have e : stc (some (am_sa + 23)) (nI 2) = 115 := by decide +kernel
  unfold GT
  rw [e, mo_27_2 x]
  exact ⟨(gl_s hG 27 x).1, (gl_s hG 27 x).2, Or.inr ⟨by decide, by decide +kernel⟩⟩
theorem gt_27 (hG : isG (sD s)) (x : Int32) : ∀ j : Nat, (j : Int) + 1 < (f_M_wholeOf 27).toInt → GT s 27 (f_Pt_operands s 27) j x := fun j hj => by
  have ew : (f_M_wholeOf 27).toInt = 4 := by decide +kernel
  rw [ew] at hj
  rw [show f_Pt_operands s 27 = some (am_sa + 23) from rfl]
  match j, hj with
  | 0, _ => exact gt_27_0 hG x
  | 1, _ => exact gt_27_1 hG x
  | 2, _ => exact gt_27_2 hG x
  | j + 3, hj => exact absurd hj (by omega)
theorem gt_28_0 (hG : isG (sD s)) (x : Int32) : GT s 28 (some (am_sa + 24)) 0 x := by
  have e : stc (some (am_sa + 24)) (nI 0) = 104 := by decide +kernel
  unfold GT
  rw [e, mo_28_0 x]
  exact ⟨(gl_h 28 x).1.trans (by decide +kernel), (gl_h 28 x).2, Or.inr ⟨by decide, by decide +kernel⟩⟩
theorem gt_28_1 (hG : isG (sD s)) (x : Int32) : GT s 28 (some (am_sa + 24)) 1 x := by
  have e : stc (some (am_sa + 24)) (nI 1) = 115 := by decide +kernel
  unfold GT
  rw [e, mo_28_1 x]
  exact ⟨(gl_s hG 28 x).1, (gl_s hG 28 x).2, Or.inr ⟨by decide, by decide +kernel⟩⟩
theorem gt_28_2 (hG : isG (sD s)) (x : Int32) : GT s 28 (some (am_sa + 24)) 2 x := by
  have e : stc (some (am_sa + 24)) (nI 2) = 102 := by decide +kernel
  unfold GT
  rw [e, mo_28_2 x]
  exact ⟨(gl_f 28 x).1, (gl_f 28 x).2, Or.inr ⟨by decide, by decide +kernel⟩⟩
theorem gt_28 (hG : isG (sD s)) (x : Int32) : ∀ j : Nat, (j : Int) + 1 < (f_M_wholeOf 28).toInt → GT s 28 (f_Pt_operands s 28) j x := fun j hj => by
  have ew : (f_M_wholeOf 28).toInt = 4 := by decide +kernel
  rw [ew] at hj
  rw [show f_Pt_operands s 28 = some (am_sa + 24) from rfl]
  match j, hj with
  | 0, _ => exact gt_28_0 hG x
  | 1, _ => exact gt_28_1 hG x
  | 2, _ => exact gt_28_2 hG x
  | j + 3, hj => exact absurd hj (by omega)
theorem gt_29_0 (hG : isG (sD s)) (x : Int32) : GT s 29 (some (am_sa + 25)) 0 x := by
  have e : stc (some (am_sa + 25)) (nI 0) = 104 := by decide +kernel
  unfold GT
  rw [e, mo_29_0 x]
  exact ⟨(gl_h 29 x).1.trans (by decide +kernel), (gl_h 29 x).2, Or.inr ⟨by decide, by decide +kernel⟩⟩
theorem gt_29_1 (hG : isG (sD s)) (x : Int32) : GT s 29 (some (am_sa + 25)) 1 x := by
  have e : stc (some (am_sa + 25)) (nI 1) = 114 := by decide +kernel
  unfold GT
  rw [e, mo_29_1 x]
  exact ⟨(gl_r hG 29 x).1, (gl_r hG 29 x).2, Or.inr ⟨by decide, by decide +kernel⟩⟩
theorem gt_29_2 (hG : isG (sD s)) (x : Int32) : GT s 29 (some (am_sa + 25)) 2 x := by
  have e : stc (some (am_sa + 25)) (nI 2) = 115 := by decide +kernel
  unfold GT
  rw [e, mo_29_2 x]
  exact ⟨(gl_s hG 29 x).1, (gl_s hG 29 x).2, Or.inr ⟨by decide, by decide +kernel⟩⟩
theorem gt_29_3 (hG : isG (sD s)) (x : Int32) : GT s 29 (some (am_sa + 25)) 3 x := by
  have e : stc (some (am_sa + 25)) (nI 3) = 110 := by decide +kernel
  unfold GT
  rw [e, mo_29_3 x]
  exact ⟨(gl_n hG 29 x).1, (gl_n hG 29 x).2, Or.inr ⟨by decide, by decide +kernel⟩⟩
theorem gt_29 (hG : isG (sD s)) (x : Int32) : ∀ j : Nat, (j : Int) + 1 < (f_M_wholeOf 29).toInt → GT s 29 (f_Pt_operands s 29) j x := fun j hj => by
  have ew : (f_M_wholeOf 29).toInt = 5 := by decide +kernel
  rw [ew] at hj
  rw [show f_Pt_operands s 29 = some (am_sa + 25) from rfl]
  match j, hj with
  | 0, _ => exact gt_29_0 hG x
  | 1, _ => exact gt_29_1 hG x
  | 2, _ => exact gt_29_2 hG x
  | 3, _ => exact gt_29_3 hG x
  | j + 4, hj => exact absurd hj (by omega)
theorem mq_30_0 (x : Int32) : f_M_mostOf 30 (nI 0) x = 7 := by
  unfold f_M_mostOf
  rw [show cn1 .ne (nI 0) = false from rfl, cond_false]
  unfold t_M_mostOf_5
  exact (if_neg (by decide)).trans ((if_neg (by decide)).trans ((if_neg (by decide)).trans ((if_neg (by decide)).trans ((if_neg (by decide)).trans ((if_neg (by decide)).trans ((if_neg (by decide)).trans ((if_neg (by decide)).trans ((if_neg (by decide)).trans ((if_neg (by decide)).trans ((if_neg (by decide)).trans ((if_neg (by decide)).trans ((if_neg (by decide)).trans ((if_neg (by decide)).trans ((if_neg (by decide)).trans ((if_neg (by decide)).trans ((if_neg (by decide)).trans ((if_neg (by decide)).trans ((if_neg (by decide)).trans ((if_neg (by decide)).trans ((if_neg (by decide)).trans ((if_neg (by decide)).trans ((if_neg (by decide)).trans ((if_neg (by decide)).trans ((if_neg (by decide)).trans ((if_neg (by decide)).trans ((if_neg (by decide)).trans ((if_neg (by decide)).trans ((if_neg (by decide)).trans ((if_pos rfl).trans rfl)))))))))))))))))))))))))))))
theorem gt_30_0 (hG : isG (sD s)) (x : Int32) : GT s 30 (some (am_sa + 26)) 0 x := by
  have e : stc (some (am_sa + 26)) (nI 0) = 110 := by decide +kernel
  unfold GT
  rw [e, mq_30_0 x]
  exact ⟨(gl_n hG 30 x).1, (gl_n hG 30 x).2, Or.inr ⟨by decide, by decide +kernel⟩⟩
theorem mq_30_1 (x : Int32) : f_M_mostOf 30 (nI 1) x = 200 := by
  unfold f_M_mostOf
  rw [show cn1 .ne (nI 1) = true from rfl, cond_true]
  unfold t_M_mostOf_5
  exact (if_neg (by decide)).trans ((if_neg (by decide)).trans ((if_neg (by decide)).trans ((if_neg (by decide)).trans ((if_neg (by decide)).trans ((if_neg (by decide)).trans ((if_neg (by decide)).trans ((if_neg (by decide)).trans ((if_neg (by decide)).trans ((if_neg (by decide)).trans ((if_neg (by decide)).trans ((if_neg (by decide)).trans ((if_neg (by decide)).trans ((if_neg (by decide)).trans ((if_neg (by decide)).trans ((if_neg (by decide)).trans ((if_neg (by decide)).trans ((if_neg (by decide)).trans ((if_neg (by decide)).trans ((if_neg (by decide)).trans ((if_neg (by decide)).trans ((if_neg (by decide)).trans ((if_neg (by decide)).trans ((if_neg (by decide)).trans ((if_neg (by decide)).trans ((if_neg (by decide)).trans ((if_neg (by decide)).trans ((if_neg (by decide)).trans ((if_neg (by decide)).trans ((if_pos rfl).trans rfl)))))))))))))))))))))))))))))
theorem gt_30_1 (hG : isG (sD s)) (x : Int32) : GT s 30 (some (am_sa + 26)) 1 x := by
  have e : stc (some (am_sa + 26)) (nI 1) = 112 := by decide +kernel
  unfold GT
  rw [e, mq_30_1 x]
  exact ⟨(gl_p hG 30 x).1, (gl_p hG 30 x).2, Or.inr ⟨by decide, by decide +kernel⟩⟩
theorem mq_30_2 (x : Int32) : f_M_mostOf 30 (nI 2) x = 200 := by
  unfold f_M_mostOf
  rw [show cn1 .ne (nI 2) = true from rfl, cond_true]
  unfold t_M_mostOf_5
  exact (if_neg (by decide)).trans ((if_neg (by decide)).trans ((if_neg (by decide)).trans ((if_neg (by decide)).trans ((if_neg (by decide)).trans ((if_neg (by decide)).trans ((if_neg (by decide)).trans ((if_neg (by decide)).trans ((if_neg (by decide)).trans ((if_neg (by decide)).trans ((if_neg (by decide)).trans ((if_neg (by decide)).trans ((if_neg (by decide)).trans ((if_neg (by decide)).trans ((if_neg (by decide)).trans ((if_neg (by decide)).trans ((if_neg (by decide)).trans ((if_neg (by decide)).trans ((if_neg (by decide)).trans ((if_neg (by decide)).trans ((if_neg (by decide)).trans ((if_neg (by decide)).trans ((if_neg (by decide)).trans ((if_neg (by decide)).trans ((if_neg (by decide)).trans ((if_neg (by decide)).trans ((if_neg (by decide)).trans ((if_neg (by decide)).trans ((if_neg (by decide)).trans ((if_pos rfl).trans rfl)))))))))))))))))))))))))))))
theorem gt_30_2 (hG : isG (sD s)) (x : Int32) : GT s 30 (some (am_sa + 26)) 2 x := by
  have e : stc (some (am_sa + 26)) (nI 2) = 112 := by decide +kernel
  unfold GT
  rw [e, mq_30_2 x]
  exact ⟨(gl_p hG 30 x).1, (gl_p hG 30 x).2, Or.inr ⟨by decide, by decide +kernel⟩⟩
theorem gt_30 (hG : isG (sD s)) (x : Int32) : ∀ j : Nat, (j : Int) + 1 < (f_M_wholeOf 30).toInt → GT s 30 (f_Pt_operands s 30) j x := fun j hj => by
  have ew : (f_M_wholeOf 30).toInt = 4 := by decide +kernel
  rw [ew] at hj
  rw [show f_Pt_operands s 30 = some (am_sa + 26) from rfl]
  match j, hj with
  | 0, _ => exact gt_30_0 hG x
  | 1, _ => exact gt_30_1 hG x
  | 2, _ => exact gt_30_2 hG x
  | j + 3, hj => exact absurd hj (by omega)
theorem mq_31_0 (x : Int32) : f_M_mostOf 31 (nI 0) x = 7 := by
  unfold f_M_mostOf
  rw [show cn1 .ne (nI 0) = false from rfl, cond_false]
  unfold t_M_mostOf_5
  exact (if_neg (by decide)).trans ((if_neg (by decide)).trans ((if_neg (by decide)).trans ((if_neg (by decide)).trans ((if_neg (by decide)).trans ((if_neg (by decide)).trans ((if_neg (by decide)).trans ((if_neg (by decide)).trans ((if_neg (by decide)).trans ((if_neg (by decide)).trans ((if_neg (by decide)).trans ((if_neg (by decide)).trans ((if_neg (by decide)).trans ((if_neg (by decide)).trans ((if_neg (by decide)).trans ((if_neg (by decide)).trans ((if_neg (by decide)).trans ((if_neg (by decide)).trans ((if_neg (by decide)).trans ((if_neg (by decide)).trans ((if_neg (by decide)).trans ((if_neg (by decide)).trans ((if_neg (by decide)).trans ((if_neg (by decide)).trans ((if_neg (by decide)).trans ((if_neg (by decide)).trans ((if_neg (by decide)).trans ((if_neg (by decide)).trans ((if_neg (by decide)).trans ((if_neg (by decide)).trans ((if_pos rfl).trans rfl))))))))))))))))))))))))))))))
theorem gt_31_0 (hG : isG (sD s)) (x : Int32) : GT s 31 (some (am_sa + 27)) 0 x := by
  have e : stc (some (am_sa + 27)) (nI 0) = 110 := by decide +kernel
  unfold GT
  rw [e, mq_31_0 x]
  exact ⟨(gl_n hG 31 x).1, (gl_n hG 31 x).2, Or.inr ⟨by decide, by decide +kernel⟩⟩
theorem mq_31_1 (x : Int32) : f_M_mostOf 31 (nI 1) x = 200 := by
  unfold f_M_mostOf
  rw [show cn1 .ne (nI 1) = true from rfl, cond_true]
  unfold t_M_mostOf_5
  exact (if_neg (by decide)).trans ((if_neg (by decide)).trans ((if_neg (by decide)).trans ((if_neg (by decide)).trans ((if_neg (by decide)).trans ((if_neg (by decide)).trans ((if_neg (by decide)).trans ((if_neg (by decide)).trans ((if_neg (by decide)).trans ((if_neg (by decide)).trans ((if_neg (by decide)).trans ((if_neg (by decide)).trans ((if_neg (by decide)).trans ((if_neg (by decide)).trans ((if_neg (by decide)).trans ((if_neg (by decide)).trans ((if_neg (by decide)).trans ((if_neg (by decide)).trans ((if_neg (by decide)).trans ((if_neg (by decide)).trans ((if_neg (by decide)).trans ((if_neg (by decide)).trans ((if_neg (by decide)).trans ((if_neg (by decide)).trans ((if_neg (by decide)).trans ((if_neg (by decide)).trans ((if_neg (by decide)).trans ((if_neg (by decide)).trans ((if_neg (by decide)).trans ((if_neg (by decide)).trans ((if_pos rfl).trans rfl))))))))))))))))))))))))))))))
theorem gt_31_1 (hG : isG (sD s)) (x : Int32) : GT s 31 (some (am_sa + 27)) 1 x := by
  have e : stc (some (am_sa + 27)) (nI 1) = 112 := by decide +kernel
  unfold GT
  rw [e, mq_31_1 x]
  exact ⟨(gl_p hG 31 x).1, (gl_p hG 31 x).2, Or.inr ⟨by decide, by decide +kernel⟩⟩
theorem gt_31 (hG : isG (sD s)) (x : Int32) : ∀ j : Nat, (j : Int) + 1 < (f_M_wholeOf 31).toInt → GT s 31 (f_Pt_operands s 31) j x := fun j hj => by
  have ew : (f_M_wholeOf 31).toInt = 3 := by decide +kernel
  rw [ew] at hj
  rw [show f_Pt_operands s 31 = some (am_sa + 27) from rfl]
  match j, hj with
  | 0, _ => exact gt_31_0 hG x
  | 1, _ => exact gt_31_1 hG x
  | j + 2, hj => exact absurd hj (by omega)
theorem mq_32_0 (x : Int32) : f_M_mostOf 32 (nI 0) x = 255 := by
  unfold f_M_mostOf
  rw [show cn1 .ne (nI 0) = false from rfl, cond_false]
  unfold t_M_mostOf_5
  exact (if_neg (by decide)).trans ((if_neg (by decide)).trans ((if_neg (by decide)).trans ((if_neg (by decide)).trans ((if_neg (by decide)).trans ((if_neg (by decide)).trans ((if_neg (by decide)).trans ((if_neg (by decide)).trans ((if_neg (by decide)).trans ((if_neg (by decide)).trans ((if_neg (by decide)).trans ((if_neg (by decide)).trans ((if_neg (by decide)).trans ((if_neg (by decide)).trans ((if_neg (by decide)).trans ((if_neg (by decide)).trans ((if_neg (by decide)).trans ((if_neg (by decide)).trans ((if_neg (by decide)).trans ((if_neg (by decide)).trans ((if_neg (by decide)).trans ((if_neg (by decide)).trans ((if_neg (by decide)).trans ((if_neg (by decide)).trans ((if_neg (by decide)).trans ((if_neg (by decide)).trans ((if_neg (by decide)).trans ((if_neg (by decide)).trans ((if_neg (by decide)).trans ((if_neg (by decide)).trans ((if_neg (by decide)).trans ((if_pos rfl).trans rfl)))))))))))))))))))))))))))))))
theorem gt_32_0 (hG : isG (sD s)) (x : Int32) : GT s 32 (some (am_sa + 28)) 0 x := by
  have e : stc (some (am_sa + 28)) (nI 0) = 46 := by decide +kernel
  unfold GT
  rw [e, mq_32_0 x]
  exact ⟨(gl_d 32 x).1, (gl_d 32 x).2, Or.inr ⟨by decide, by decide +kernel⟩⟩
theorem mq_32_1 (x : Int32) : f_M_mostOf 32 (nI 1) x = 255 := by
  unfold f_M_mostOf
  rw [show cn1 .ne (nI 1) = true from rfl, cond_true]
  unfold t_M_mostOf_5
  exact (if_neg (by decide)).trans ((if_neg (by decide)).trans ((if_neg (by decide)).trans ((if_neg (by decide)).trans ((if_neg (by decide)).trans ((if_neg (by decide)).trans ((if_neg (by decide)).trans ((if_neg (by decide)).trans ((if_neg (by decide)).trans ((if_neg (by decide)).trans ((if_neg (by decide)).trans ((if_neg (by decide)).trans ((if_neg (by decide)).trans ((if_neg (by decide)).trans ((if_neg (by decide)).trans ((if_neg (by decide)).trans ((if_neg (by decide)).trans ((if_neg (by decide)).trans ((if_neg (by decide)).trans ((if_neg (by decide)).trans ((if_neg (by decide)).trans ((if_neg (by decide)).trans ((if_neg (by decide)).trans ((if_neg (by decide)).trans ((if_neg (by decide)).trans ((if_neg (by decide)).trans ((if_neg (by decide)).trans ((if_neg (by decide)).trans ((if_neg (by decide)).trans ((if_neg (by decide)).trans ((if_neg (by decide)).trans ((if_pos rfl).trans rfl)))))))))))))))))))))))))))))))
theorem gt_32_1 (hG : isG (sD s)) (x : Int32) : GT s 32 (some (am_sa + 28)) 1 x := by
  have e : stc (some (am_sa + 28)) (nI 1) = 46 := by decide +kernel
  unfold GT
  rw [e, mq_32_1 x]
  exact ⟨(gl_d 32 x).1, (gl_d 32 x).2, Or.inr ⟨by decide, by decide +kernel⟩⟩
theorem mq_32_2 (x : Int32) : f_M_mostOf 32 (nI 2) x = 255 := by
  unfold f_M_mostOf
  rw [show cn1 .ne (nI 2) = true from rfl, cond_true]
  unfold t_M_mostOf_5
  exact (if_neg (by decide)).trans ((if_neg (by decide)).trans ((if_neg (by decide)).trans ((if_neg (by decide)).trans ((if_neg (by decide)).trans ((if_neg (by decide)).trans ((if_neg (by decide)).trans ((if_neg (by decide)).trans ((if_neg (by decide)).trans ((if_neg (by decide)).trans ((if_neg (by decide)).trans ((if_neg (by decide)).trans ((if_neg (by decide)).trans ((if_neg (by decide)).trans ((if_neg (by decide)).trans ((if_neg (by decide)).trans ((if_neg (by decide)).trans ((if_neg (by decide)).trans ((if_neg (by decide)).trans ((if_neg (by decide)).trans ((if_neg (by decide)).trans ((if_neg (by decide)).trans ((if_neg (by decide)).trans ((if_neg (by decide)).trans ((if_neg (by decide)).trans ((if_neg (by decide)).trans ((if_neg (by decide)).trans ((if_neg (by decide)).trans ((if_neg (by decide)).trans ((if_neg (by decide)).trans ((if_neg (by decide)).trans ((if_pos rfl).trans rfl)))))))))))))))))))))))))))))))
theorem gt_32_2 (hG : isG (sD s)) (x : Int32) : GT s 32 (some (am_sa + 28)) 2 x := by
  have e : stc (some (am_sa + 28)) (nI 2) = 46 := by decide +kernel
  unfold GT
  rw [e, mq_32_2 x]
  exact ⟨(gl_d 32 x).1, (gl_d 32 x).2, Or.inr ⟨by decide, by decide +kernel⟩⟩
theorem mq_32_3 (x : Int32) : f_M_mostOf 32 (nI 3) x = 200 := by
  unfold f_M_mostOf
  rw [show cn1 .ne (nI 3) = true from rfl, cond_true]
  unfold t_M_mostOf_5
  exact (if_neg (by decide)).trans ((if_neg (by decide)).trans ((if_neg (by decide)).trans ((if_neg (by decide)).trans ((if_neg (by decide)).trans ((if_neg (by decide)).trans ((if_neg (by decide)).trans ((if_neg (by decide)).trans ((if_neg (by decide)).trans ((if_neg (by decide)).trans ((if_neg (by decide)).trans ((if_neg (by decide)).trans ((if_neg (by decide)).trans ((if_neg (by decide)).trans ((if_neg (by decide)).trans ((if_neg (by decide)).trans ((if_neg (by decide)).trans ((if_neg (by decide)).trans ((if_neg (by decide)).trans ((if_neg (by decide)).trans ((if_neg (by decide)).trans ((if_neg (by decide)).trans ((if_neg (by decide)).trans ((if_neg (by decide)).trans ((if_neg (by decide)).trans ((if_neg (by decide)).trans ((if_neg (by decide)).trans ((if_neg (by decide)).trans ((if_neg (by decide)).trans ((if_neg (by decide)).trans ((if_neg (by decide)).trans ((if_pos rfl).trans rfl)))))))))))))))))))))))))))))))
theorem gt_32_3 (hG : isG (sD s)) (x : Int32) : GT s 32 (some (am_sa + 28)) 3 x := by
  have e : stc (some (am_sa + 28)) (nI 3) = 112 := by decide +kernel
  unfold GT
  rw [e, mq_32_3 x]
  exact ⟨(gl_p hG 32 x).1, (gl_p hG 32 x).2, Or.inr ⟨by decide, by decide +kernel⟩⟩
theorem mq_32_4 (x : Int32) : f_M_mostOf 32 (nI 4) x = 200 := by
  unfold f_M_mostOf
  rw [show cn1 .ne (nI 4) = true from rfl, cond_true]
  unfold t_M_mostOf_5
  exact (if_neg (by decide)).trans ((if_neg (by decide)).trans ((if_neg (by decide)).trans ((if_neg (by decide)).trans ((if_neg (by decide)).trans ((if_neg (by decide)).trans ((if_neg (by decide)).trans ((if_neg (by decide)).trans ((if_neg (by decide)).trans ((if_neg (by decide)).trans ((if_neg (by decide)).trans ((if_neg (by decide)).trans ((if_neg (by decide)).trans ((if_neg (by decide)).trans ((if_neg (by decide)).trans ((if_neg (by decide)).trans ((if_neg (by decide)).trans ((if_neg (by decide)).trans ((if_neg (by decide)).trans ((if_neg (by decide)).trans ((if_neg (by decide)).trans ((if_neg (by decide)).trans ((if_neg (by decide)).trans ((if_neg (by decide)).trans ((if_neg (by decide)).trans ((if_neg (by decide)).trans ((if_neg (by decide)).trans ((if_neg (by decide)).trans ((if_neg (by decide)).trans ((if_neg (by decide)).trans ((if_neg (by decide)).trans ((if_pos rfl).trans rfl)))))))))))))))))))))))))))))))
theorem gt_32_4 (hG : isG (sD s)) (x : Int32) : GT s 32 (some (am_sa + 28)) 4 x := by
  have e : stc (some (am_sa + 28)) (nI 4) = 112 := by decide +kernel
  unfold GT
  rw [e, mq_32_4 x]
  exact ⟨(gl_p hG 32 x).1, (gl_p hG 32 x).2, Or.inr ⟨by decide, by decide +kernel⟩⟩
theorem mq_32_5 (x : Int32) : f_M_mostOf 32 (nI 5) x = 200 := by
  unfold f_M_mostOf
  rw [show cn1 .ne (nI 5) = true from rfl, cond_true]
  unfold t_M_mostOf_5
  exact (if_neg (by decide)).trans ((if_neg (by decide)).trans ((if_neg (by decide)).trans ((if_neg (by decide)).trans ((if_neg (by decide)).trans ((if_neg (by decide)).trans ((if_neg (by decide)).trans ((if_neg (by decide)).trans ((if_neg (by decide)).trans ((if_neg (by decide)).trans ((if_neg (by decide)).trans ((if_neg (by decide)).trans ((if_neg (by decide)).trans ((if_neg (by decide)).trans ((if_neg (by decide)).trans ((if_neg (by decide)).trans ((if_neg (by decide)).trans ((if_neg (by decide)).trans ((if_neg (by decide)).trans ((if_neg (by decide)).trans ((if_neg (by decide)).trans ((if_neg (by decide)).trans ((if_neg (by decide)).trans ((if_neg (by decide)).trans ((if_neg (by decide)).trans ((if_neg (by decide)).trans ((if_neg (by decide)).trans ((if_neg (by decide)).trans ((if_neg (by decide)).trans ((if_neg (by decide)).trans ((if_neg (by decide)).trans ((if_pos rfl).trans rfl)))))))))))))))))))))))))))))))
theorem gt_32_5 (hG : isG (sD s)) (x : Int32) : GT s 32 (some (am_sa + 28)) 5 x := by
  have e : stc (some (am_sa + 28)) (nI 5) = 112 := by decide +kernel
  unfold GT
  rw [e, mq_32_5 x]
  exact ⟨(gl_p hG 32 x).1, (gl_p hG 32 x).2, Or.inr ⟨by decide, by decide +kernel⟩⟩
theorem gt_32 (hG : isG (sD s)) (x : Int32) : ∀ j : Nat, (j : Int) + 1 < (f_M_wholeOf 32).toInt → GT s 32 (f_Pt_operands s 32) j x := fun j hj => by
  have ew : (f_M_wholeOf 32).toInt = 7 := by decide +kernel
  rw [ew] at hj
  rw [show f_Pt_operands s 32 = some (am_sa + 28) from rfl]
  match j, hj with
  | 0, _ => exact gt_32_0 hG x
  | 1, _ => exact gt_32_1 hG x
  | 2, _ => exact gt_32_2 hG x
  | 3, _ => exact gt_32_3 hG x
  | 4, _ => exact gt_32_4 hG x
  | 5, _ => exact gt_32_5 hG x
  | j + 6, hj => exact absurd hj (by omega)
theorem mq_33_0 (x : Int32) : f_M_mostOf 33 (nI 0) x = 15 := by
  unfold f_M_mostOf
  rw [show cn1 .ne (nI 0) = false from rfl, cond_false]
  unfold t_M_mostOf_5
  exact (if_neg (by decide)).trans ((if_neg (by decide)).trans ((if_neg (by decide)).trans ((if_neg (by decide)).trans ((if_neg (by decide)).trans ((if_neg (by decide)).trans ((if_neg (by decide)).trans ((if_neg (by decide)).trans ((if_neg (by decide)).trans ((if_neg (by decide)).trans ((if_neg (by decide)).trans ((if_neg (by decide)).trans ((if_neg (by decide)).trans ((if_neg (by decide)).trans ((if_neg (by decide)).trans ((if_neg (by decide)).trans ((if_neg (by decide)).trans ((if_neg (by decide)).trans ((if_neg (by decide)).trans ((if_neg (by decide)).trans ((if_neg (by decide)).trans ((if_neg (by decide)).trans ((if_neg (by decide)).trans ((if_neg (by decide)).trans ((if_neg (by decide)).trans ((if_neg (by decide)).trans ((if_neg (by decide)).trans ((if_neg (by decide)).trans ((if_neg (by decide)).trans ((if_neg (by decide)).trans ((if_neg (by decide)).trans ((if_neg (by decide)).trans ((if_pos rfl).trans rfl))))))))))))))))))))))))))))))))
theorem gt_33_0 (hG : isG (sD s)) (x : Int32) : GT s 33 (some (am_sa + 29)) 0 x := by
  have e : stc (some (am_sa + 29)) (nI 0) = 104 := by decide +kernel
  unfold GT
  rw [e, mq_33_0 x]
  exact ⟨(gl_h 33 x).1.trans (by decide +kernel), (gl_h 33 x).2, Or.inr ⟨by decide, by decide +kernel⟩⟩
theorem gt_33 (hG : isG (sD s)) (x : Int32) : ∀ j : Nat, (j : Int) + 1 < (f_M_wholeOf 33).toInt → GT s 33 (f_Pt_operands s 33) j x := fun j hj => by
  have ew : (f_M_wholeOf 33).toInt = 2 := by decide +kernel
  rw [ew] at hj
  rw [show f_Pt_operands s 33 = some (am_sa + 29) from rfl]
  match j, hj with
  | 0, _ => exact gt_33_0 hG x
  | j + 1, hj => exact absurd hj (by omega)
theorem gt_34_0 (hG : isG (sD s)) (x : Int32) : GT s 34 (some (am_sa + 10)) 0 x := by
  have e : stc (some (am_sa + 10)) (nI 0) = 115 := by decide +kernel
  unfold GT
  rw [e, mo_34_0 x]
  exact ⟨(gl_s hG 34 x).1, (gl_s hG 34 x).2, Or.inr ⟨by decide, by decide +kernel⟩⟩
theorem gt_34 (hG : isG (sD s)) (x : Int32) : ∀ j : Nat, (j : Int) + 1 < (f_M_wholeOf 34).toInt → GT s 34 (f_Pt_operands s 34) j x := fun j hj => by
  have ew : (f_M_wholeOf 34).toInt = 2 := by decide +kernel
  rw [ew] at hj
  rw [show f_Pt_operands s 34 = some (am_sa + 10) from rfl]
  match j, hj with
  | 0, _ => exact gt_34_0 hG x
  | j + 1, hj => exact absurd hj (by omega)
theorem gt_all (hG : isG (sD s)) {op : Int32} (h1 : 1 ≤ op.toInt) (h2 : op.toInt ≤ 34) (x : Int32) (j : Nat) (hj : (j : Int) + 1 < (f_M_wholeOf op).toInt) : GT s op (f_Pt_operands s op) j x := by
  have ne : ∀ k : Int32, ¬ op = k → op.toInt ≠ k.toInt := fun k z y => z (Int32.toInt_inj.mp y)
  by_cases e1 : op = 1
  · rw [e1] at hj ⊢; exact gt_1 hG x j hj
  by_cases e2 : op = 2
  · rw [e2] at hj ⊢; exact gt_2 hG x j hj
  by_cases e3 : op = 3
  · rw [e3] at hj ⊢; exact gt_3 hG x j hj
  by_cases e4 : op = 4
  · rw [e4] at hj ⊢; exact gt_4 hG x j hj
  by_cases e5 : op = 5
  · rw [e5] at hj ⊢; exact gt_5 hG x j hj
  by_cases e6 : op = 6
  · rw [e6] at hj ⊢; exact gt_6 hG x j hj
  by_cases e7 : op = 7
  · rw [e7] at hj ⊢; exact gt_7 hG x j hj
  by_cases e8 : op = 8
  · rw [e8] at hj ⊢; exact gt_8 hG x j hj
  by_cases e9 : op = 9
  · rw [e9] at hj ⊢; exact gt_9 hG x j hj
  by_cases e10 : op = 10
  · rw [e10] at hj ⊢; exact gt_10 hG x j hj
  by_cases e11 : op = 11
  · rw [e11] at hj ⊢; exact gt_11 hG x j hj
  by_cases e12 : op = 12
  · rw [e12] at hj ⊢; exact gt_12 hG x j hj
  by_cases e13 : op = 13
  · rw [e13] at hj ⊢; exact gt_13 hG x j hj
  by_cases e14 : op = 14
  · rw [e14] at hj ⊢; exact gt_14 hG x j hj
  by_cases e15 : op = 15
  · rw [e15] at hj ⊢; exact gt_15 hG x j hj
  by_cases e16 : op = 16
  · rw [e16] at hj ⊢; exact gt_16 hG x j hj
  by_cases e17 : op = 17
  · rw [e17] at hj ⊢; exact gt_17 hG x j hj
  by_cases e18 : op = 18
  · rw [e18] at hj ⊢; exact gt_18 hG x j hj
  by_cases e19 : op = 19
  · rw [e19] at hj ⊢; exact gt_19 hG x j hj
  by_cases e20 : op = 20
  · rw [e20] at hj ⊢; exact gt_20 hG x j hj
  by_cases e21 : op = 21
  · rw [e21] at hj ⊢; exact gt_21 hG x j hj
  by_cases e22 : op = 22
  · rw [e22] at hj ⊢; exact gt_22 hG x j hj
  by_cases e23 : op = 23
  · rw [e23] at hj ⊢; exact gt_23 hG x j hj
  by_cases e24 : op = 24
  · rw [e24] at hj ⊢; exact gt_24 hG x j hj
  by_cases e25 : op = 25
  · rw [e25] at hj ⊢; exact gt_25 hG x j hj
  by_cases e26 : op = 26
  · rw [e26] at hj ⊢; exact gt_26 hG x j hj
  by_cases e27 : op = 27
  · rw [e27] at hj ⊢; exact gt_27 hG x j hj
  by_cases e28 : op = 28
  · rw [e28] at hj ⊢; exact gt_28 hG x j hj
  by_cases e29 : op = 29
  · rw [e29] at hj ⊢; exact gt_29 hG x j hj
  by_cases e30 : op = 30
  · rw [e30] at hj ⊢; exact gt_30 hG x j hj
  by_cases e31 : op = 31
  · rw [e31] at hj ⊢; exact gt_31 hG x j hj
  by_cases e32 : op = 32
  · rw [e32] at hj ⊢; exact gt_32 hG x j hj
  by_cases e33 : op = 33
  · rw [e33] at hj ⊢; exact gt_33 hG x j hj
  by_cases e34 : op = 34
  · rw [e34] at hj ⊢; exact gt_34 hG x j hj
  exfalso
  have f1 : op.toInt ≠ 1 := ne 1 e1
  have f2 : op.toInt ≠ 2 := ne 2 e2
  have f3 : op.toInt ≠ 3 := ne 3 e3
  have f4 : op.toInt ≠ 4 := ne 4 e4
  have f5 : op.toInt ≠ 5 := ne 5 e5
  have f6 : op.toInt ≠ 6 := ne 6 e6
  have f7 : op.toInt ≠ 7 := ne 7 e7
  have f8 : op.toInt ≠ 8 := ne 8 e8
  have f9 : op.toInt ≠ 9 := ne 9 e9
  have f10 : op.toInt ≠ 10 := ne 10 e10
  have f11 : op.toInt ≠ 11 := ne 11 e11
  have f12 : op.toInt ≠ 12 := ne 12 e12
  have f13 : op.toInt ≠ 13 := ne 13 e13
  have f14 : op.toInt ≠ 14 := ne 14 e14
  have f15 : op.toInt ≠ 15 := ne 15 e15
  have f16 : op.toInt ≠ 16 := ne 16 e16
  have f17 : op.toInt ≠ 17 := ne 17 e17
  have f18 : op.toInt ≠ 18 := ne 18 e18
  have f19 : op.toInt ≠ 19 := ne 19 e19
  have f20 : op.toInt ≠ 20 := ne 20 e20
  have f21 : op.toInt ≠ 21 := ne 21 e21
  have f22 : op.toInt ≠ 22 := ne 22 e22
  have f23 : op.toInt ≠ 23 := ne 23 e23
  have f24 : op.toInt ≠ 24 := ne 24 e24
  have f25 : op.toInt ≠ 25 := ne 25 e25
  have f26 : op.toInt ≠ 26 := ne 26 e26
  have f27 : op.toInt ≠ 27 := ne 27 e27
  have f28 : op.toInt ≠ 28 := ne 28 e28
  have f29 : op.toInt ≠ 29 := ne 29 e29
  have f30 : op.toInt ≠ 30 := ne 30 e30
  have f31 : op.toInt ≠ 31 := ne 31 e31
  have f32 : op.toInt ≠ 32 := ne 32 e32
  have f33 : op.toInt ≠ 33 := ne 33 e33
  have f34 : op.toInt ≠ 34 := ne 34 e34
  omega
end TAB
theorem wo_tab : ∀ k : Nat, k < 35 → 1 ≤ k → 2 ≤ (f_M_wholeOf (nI k)).toInt ∧ (f_M_wholeOf (nI k)).toInt ≤ 10 := by decide +kernel
theorem wo_ge {x : Int32} (h1 : 1 ≤ x.toInt) (h2 : x.toInt ≤ 34) : 2 ≤ (f_M_wholeOf x).toInt ∧ (f_M_wholeOf x).toInt ≤ 10 := by
  have e : x = nI x.toInt.toNat := yI_of (by omega) (by omega)
  rw [e]
  exact wo_tab _ (by omega) (by omega)
theorem wo_no {x : Int32} (h : ¬ (1 ≤ x.toInt ∧ x.toInt ≤ 34)) (s : St) : f_M_wholeOf x = 0 ∧ f_Pt_operands s x = some (am_sa + 30) := by
  have ne : ∀ k : Int32, 1 ≤ k.toInt → k.toInt ≤ 34 → ¬ x = k := fun k a b e => h (by rw [e]; exact ⟨a, b⟩)
  constructor
  · unfold f_M_wholeOf
    exact (if_neg (ne 1 (by decide) (by decide))).trans ((if_neg (ne 2 (by decide) (by decide))).trans ((if_neg (ne 3 (by decide) (by decide))).trans ((if_neg (ne 4 (by decide) (by decide))).trans ((if_neg (ne 5 (by decide) (by decide))).trans ((if_neg (ne 6 (by decide) (by decide))).trans ((if_neg (ne 7 (by decide) (by decide))).trans ((if_neg (ne 8 (by decide) (by decide))).trans ((if_neg (ne 9 (by decide) (by decide))).trans ((if_neg (ne 10 (by decide) (by decide))).trans ((if_neg (ne 11 (by decide) (by decide))).trans ((if_neg (ne 12 (by decide) (by decide))).trans ((if_neg (ne 13 (by decide) (by decide))).trans ((if_neg (ne 14 (by decide) (by decide))).trans ((if_neg (ne 15 (by decide) (by decide))).trans ((if_neg (ne 16 (by decide) (by decide))).trans ((if_neg (ne 17 (by decide) (by decide))).trans ((if_neg (ne 18 (by decide) (by decide))).trans ((if_neg (ne 19 (by decide) (by decide))).trans ((if_neg (ne 20 (by decide) (by decide))).trans ((if_neg (ne 21 (by decide) (by decide))).trans ((if_neg (ne 22 (by decide) (by decide))).trans ((if_neg (ne 23 (by decide) (by decide))).trans ((if_neg (ne 24 (by decide) (by decide))).trans ((if_neg (ne 25 (by decide) (by decide))).trans ((if_neg (ne 26 (by decide) (by decide))).trans ((if_neg (ne 27 (by decide) (by decide))).trans ((if_neg (ne 28 (by decide) (by decide))).trans ((if_neg (ne 29 (by decide) (by decide))).trans ((if_neg (ne 30 (by decide) (by decide))).trans ((if_neg (ne 31 (by decide) (by decide))).trans ((if_neg (ne 32 (by decide) (by decide))).trans ((if_neg (ne 33 (by decide) (by decide))).trans (if_neg (ne 34 (by decide) (by decide)))))))))))))))))))))))))))))))))))
  · unfold f_Pt_operands
    exact (if_neg (ne 1 (by decide) (by decide))).trans ((if_neg (ne 2 (by decide) (by decide))).trans ((if_neg (ne 3 (by decide) (by decide))).trans ((if_neg (ne 4 (by decide) (by decide))).trans ((if_neg (ne 5 (by decide) (by decide))).trans ((if_neg (ne 6 (by decide) (by decide))).trans ((if_neg (ne 7 (by decide) (by decide))).trans ((if_neg (ne 8 (by decide) (by decide))).trans ((if_neg (ne 9 (by decide) (by decide))).trans ((if_neg (ne 10 (by decide) (by decide))).trans ((if_neg (ne 11 (by decide) (by decide))).trans ((if_neg (ne 12 (by decide) (by decide))).trans ((if_neg (ne 13 (by decide) (by decide))).trans ((if_neg (ne 14 (by decide) (by decide))).trans ((if_neg (ne 15 (by decide) (by decide))).trans ((if_neg (ne 16 (by decide) (by decide))).trans ((if_neg (ne 17 (by decide) (by decide))).trans ((if_neg (ne 18 (by decide) (by decide))).trans ((if_neg (ne 19 (by decide) (by decide))).trans ((if_neg (ne 20 (by decide) (by decide))).trans ((if_neg (ne 21 (by decide) (by decide))).trans ((if_neg (ne 22 (by decide) (by decide))).trans ((if_neg (ne 23 (by decide) (by decide))).trans ((if_neg (ne 24 (by decide) (by decide))).trans ((if_neg (ne 25 (by decide) (by decide))).trans ((if_neg (ne 26 (by decide) (by decide))).trans ((if_neg (ne 27 (by decide) (by decide))).trans ((if_neg (ne 28 (by decide) (by decide))).trans ((if_neg (ne 29 (by decide) (by decide))).trans ((if_neg (ne 30 (by decide) (by decide))).trans ((if_neg (ne 31 (by decide) (by decide))).trans ((if_neg (ne 32 (by decide) (by decide))).trans ((if_neg (ne 33 (by decide) (by decide))).trans (if_neg (ne 34 (by decide) (by decide)))))))))))))))))))))))))))))))))))
