/-- an op that is as the check of a patch leaves it -/
def OV (r : St) (p : Nat) : Prop := (p : Int) + (f_M_wholeOf (sA r 30 p)).toInt ≤ 3200 ∧ ∀ j : Nat, (j : Int) + 1 < (f_M_wholeOf (sA r 30 p)).toInt → (f_M_leastOf (sA r 30 p) (nI j)).toInt ≤ (sA r 30 (p + 1 + j)).toInt ∧ (sA r 30 (p + 1 + j)).toInt ≤ (f_M_mostOf (sA r 30 p) (nI j) (sA r 30 (p + 1))).toInt
theorem OV.at {r : St} {p : Nat} (h : OV r p) {k : Int32} (e : sA r 30 p = k) : (p : Int) + (f_M_wholeOf k).toInt ≤ 3200 ∧ ∀ j : Nat, (j : Int) + 1 < (f_M_wholeOf k).toInt → (f_M_leastOf k (nI j)).toInt ≤ (sA r 30 (p + 1 + j)).toInt ∧ (sA r 30 (p + 1 + j)).toInt ≤ (f_M_mostOf k (nI j) (sA r 30 (p + 1))).toInt := by
  subst e
  exact h
theorem mo_f (x : Int32) : (cond (cn2 .eq x 6) (3 : Int32) (cond (cn2 .ne x 7) 7 3)).toInt = if x.toInt = 6 ∨ x.toInt = 7 then 3 else 7 := by
  rw [c2_eq, c2_ne, show (6 : Int32).toInt = 6 from rfl, show (7 : Int32).toInt = 7 from rfl]
  by_cases h : x.toInt = 6
  · rw [dt h, if_pos (Or.inl h)]; rfl
  · rw [df h]
    by_cases h2 : x.toInt = 7
    · rw [df (fun z => z h2), if_pos (Or.inr h2)]; rfl
    · rw [dt h2, if_neg (fun z => z.elim h h2)]; rfl
theorem mo_g (x : Int32) : (cond (cn2 .ne x 1) (cond (cn2 .ne x 3) (7 : Int32) 15) 3).toInt = if x.toInt = 1 then 3 else if x.toInt = 3 then 15 else 7 := by
  rw [c2_ne, c2_ne, show (1 : Int32).toInt = 1 from rfl, show (3 : Int32).toInt = 3 from rfl]
  by_cases h : x.toInt = 1
  · rw [df (fun z => z h), if_pos h]; rfl
  · rw [dt h, if_neg h]
    by_cases h2 : x.toInt = 3
    · rw [df (fun z => z h2), if_pos h2]; rfl
    · rw [dt h2, if_neg h2]; rfl
section DA
variable {G : AH} {T : Nat} {φ : Nat → Nat} {n u p fu : Nat} {c r : St} {a q : Int32}
theorem wo_1 : (f_M_wholeOf 1).toInt = 6 := by decide +kernel
theorem mo_1_0 (x : Int32) : f_M_mostOf 1 (nI 0) x = 7 := by
  unfold f_M_mostOf
  rw [show cn1 .ne (nI 0) = false from rfl, cond_false]
  unfold t_M_mostOf_5
  exact (if_pos rfl).trans rfl
theorem oa_1 (hfu : 1000000 ≤ fu) (h : RR G T φ n u (pI c 8 5 a) r) (hz : SZ (pI c 8 5 a)) (hc : CDH r p (pI c 8 5 a)) (hq : q.toInt = (p : Int) + 1) (hv : OV r p) (e : sA r 30 p = 1) : OUT G T φ n (pI c 8 5 a) r (f_Op_perform fu c a) (f_M_act fu r (sA r 30 p) q) ∧ w_Op_perform fu c a ∧ w_M_act fu r (sA r 30 p) q := by
  replace hv := hv.at e
  have hp : p + 6 ≤ 3200 := by have z := hv.1; rw [wo_1] at z; omega
  obtain ⟨o1, o2⟩ := o_opn (k := 0) (j := 0) hc rfl (by omega)
  replace o1 : f_Op_operand (pI c 8 5 a) 0 = 1 := o1.trans e
  have b1 : (sA r 30 (p + 1)).toInt ≤ 7 := by have z := (hv.2 0 (by rw [wo_1]; decide)).2; rw [mo_1_0] at z; exact z
  obtain ⟨x1, x2, x3⟩ := op_1 (fu := fu) (by omega) h hz hc hq hp b1
  rw [e, pf_1 o1, ma_1]
  exact ⟨x1, pw_1 o1 o2 x2, mw_1 x3⟩
theorem wo_2 : (f_M_wholeOf 2).toInt = 3 := by decide +kernel
theorem mo_2_0 (x : Int32) : f_M_mostOf 2 (nI 0) x = 7 := by
  unfold f_M_mostOf
  rw [show cn1 .ne (nI 0) = false from rfl, cond_false]
  unfold t_M_mostOf_5
  exact (if_neg (by decide)).trans ((if_pos rfl).trans rfl)
theorem mo_2_1 (x : Int32) : f_M_mostOf 2 (nI 1) x = 7 := by
  unfold f_M_mostOf
  rw [show cn1 .ne (nI 1) = true from rfl, cond_true]
  unfold t_M_mostOf_5
  exact (if_neg (by decide)).trans ((if_pos rfl).trans rfl)
theorem oa_2 (hfu : 1000000 ≤ fu) (h : RR G T φ n u (pI c 8 5 a) r) (hz : SZ (pI c 8 5 a)) (hc : CDH r p (pI c 8 5 a)) (hq : q.toInt = (p : Int) + 1) (hv : OV r p) (e : sA r 30 p = 2) : OUT G T φ n (pI c 8 5 a) r (f_Op_perform fu c a) (f_M_act fu r (sA r 30 p) q) ∧ w_Op_perform fu c a ∧ w_M_act fu r (sA r 30 p) q := by
  replace hv := hv.at e
  have hp : p + 3 ≤ 3200 := by have z := hv.1; rw [wo_2] at z; omega
  obtain ⟨o1, o2⟩ := o_opn (k := 0) (j := 0) hc rfl (by omega)
  replace o1 : f_Op_operand (pI c 8 5 a) 0 = 2 := o1.trans e
  have b1 : (sA r 30 (p + 1)).toInt ≤ 7 := by have z := (hv.2 0 (by rw [wo_2]; decide)).2; rw [mo_2_0] at z; exact z
  have b2 : (sA r 30 (p + 2)).toInt ≤ 7 := by have z := (hv.2 1 (by rw [wo_2]; decide)).2; rw [mo_2_1] at z; exact z
  obtain ⟨x1, x2, x3⟩ := op_2 (fu := fu) h hz hc hq hp b1 b2
  rw [e, pf_2 o1, ma_2]
  exact ⟨x1, pw_2 o1 o2 x2, mw_2 x3⟩
theorem wo_3 : (f_M_wholeOf 3).toInt = 4 := by decide +kernel
theorem mo_3_0 (x : Int32) : f_M_mostOf 3 (nI 0) x = 7 := by
  unfold f_M_mostOf
  rw [show cn1 .ne (nI 0) = false from rfl, cond_false]
  unfold t_M_mostOf_5
  exact (if_neg (by decide)).trans ((if_neg (by decide)).trans ((if_pos rfl).trans rfl))
theorem mo_3_1 (x : Int32) : f_M_mostOf 3 (nI 1) x = 7 := by
  unfold f_M_mostOf
  rw [show cn1 .ne (nI 1) = true from rfl, cond_true]
  unfold t_M_mostOf_5
  exact (if_neg (by decide)).trans ((if_neg (by decide)).trans ((if_pos rfl).trans rfl))
theorem mo_3_2 (x : Int32) : f_M_mostOf 3 (nI 2) x = 6 := by
  unfold f_M_mostOf
  rw [show cn1 .ne (nI 2) = true from rfl, cond_true]
  unfold t_M_mostOf_5
  exact (if_neg (by decide)).trans ((if_neg (by decide)).trans ((if_pos rfl).trans rfl))
theorem oa_3 (hfu : 1000000 ≤ fu) (h : RR G T φ n u (pI c 8 5 a) r) (hz : SZ (pI c 8 5 a)) (hc : CDH r p (pI c 8 5 a)) (hq : q.toInt = (p : Int) + 1) (hv : OV r p) (e : sA r 30 p = 3) : OUT G T φ n (pI c 8 5 a) r (f_Op_perform fu c a) (f_M_act fu r (sA r 30 p) q) ∧ w_Op_perform fu c a ∧ w_M_act fu r (sA r 30 p) q := by
  replace hv := hv.at e
  have hp : p + 4 ≤ 3200 := by have z := hv.1; rw [wo_3] at z; omega
  obtain ⟨o1, o2⟩ := o_opn (k := 0) (j := 0) hc rfl (by omega)
  replace o1 : f_Op_operand (pI c 8 5 a) 0 = 3 := o1.trans e
  have b1 : (sA r 30 (p + 1)).toInt ≤ 7 := by have z := (hv.2 0 (by rw [wo_3]; decide)).2; rw [mo_3_0] at z; exact z
  have b2 : (sA r 30 (p + 2)).toInt ≤ 7 := by have z := (hv.2 1 (by rw [wo_3]; decide)).2; rw [mo_3_1] at z; exact z
  have b3 : (sA r 30 (p + 3)).toInt ≤ 6 := by have z := (hv.2 2 (by rw [wo_3]; decide)).2; rw [mo_3_2] at z; exact z
  obtain ⟨x1, x2, x3⟩ := op_3 (fu := fu) h hz hc hq hp b1 b2 b3
  rw [e, pf_3 o1, ma_3]
  exact ⟨x1, pw_3 o1 o2 x2, mw_3 x3⟩
theorem wo_4 : (f_M_wholeOf 4).toInt = 10 := by decide +kernel
theorem mo_4_0 (x : Int32) : f_M_mostOf 4 (nI 0) x = 3 := by
  unfold f_M_mostOf
  rw [show cn1 .ne (nI 0) = false from rfl, cond_false]
  unfold t_M_mostOf_5
  exact (if_neg (by decide)).trans ((if_neg (by decide)).trans ((if_neg (by decide)).trans ((if_pos rfl).trans rfl)))
theorem oa_4 (hfu : 1000000 ≤ fu) (h : RR G T φ n u (pI c 8 5 a) r) (hz : SZ (pI c 8 5 a)) (hc : CDH r p (pI c 8 5 a)) (hq : q.toInt = (p : Int) + 1) (hv : OV r p) (e : sA r 30 p = 4) : OUT G T φ n (pI c 8 5 a) r (f_Op_perform fu c a) (f_M_act fu r (sA r 30 p) q) ∧ w_Op_perform fu c a ∧ w_M_act fu r (sA r 30 p) q := by
  replace hv := hv.at e
  have hp : p + 10 ≤ 3200 := by have z := hv.1; rw [wo_4] at z; omega
  obtain ⟨o1, o2⟩ := o_opn (k := 0) (j := 0) hc rfl (by omega)
  replace o1 : f_Op_operand (pI c 8 5 a) 0 = 4 := o1.trans e
  have b1 : (sA r 30 (p + 1)).toInt ≤ 3 := by have z := (hv.2 0 (by rw [wo_4]; decide)).2; rw [mo_4_0] at z; exact z
  obtain ⟨x1, x2, x3⟩ := op_4 (fu := fu) (by omega) h hz hc hq hp b1
  rw [e, pf_4 o1, ma_4]
  exact ⟨x1, pw_4 o1 o2 x2, mw_4 x3⟩
theorem wo_5 : (f_M_wholeOf 5).toInt = 3 := by decide +kernel
theorem mo_5_0 (x : Int32) : f_M_mostOf 5 (nI 0) x = 3 := by
  unfold f_M_mostOf
  rw [show cn1 .ne (nI 0) = false from rfl, cond_false]
  unfold t_M_mostOf_5
  exact (if_neg (by decide)).trans ((if_neg (by decide)).trans ((if_neg (by decide)).trans ((if_neg (by decide)).trans ((if_pos rfl).trans rfl))))
theorem mo_5_1 (x : Int32) : f_M_mostOf 5 (nI 1) x = 7 := by
  unfold f_M_mostOf
  rw [show cn1 .ne (nI 1) = true from rfl, cond_true]
  unfold t_M_mostOf_5
  exact (if_neg (by decide)).trans ((if_neg (by decide)).trans ((if_neg (by decide)).trans ((if_neg (by decide)).trans ((if_pos rfl).trans rfl))))
theorem oa_5 (hfu : 1000000 ≤ fu) (h : RR G T φ n u (pI c 8 5 a) r) (hz : SZ (pI c 8 5 a)) (hc : CDH r p (pI c 8 5 a)) (hq : q.toInt = (p : Int) + 1) (hv : OV r p) (e : sA r 30 p = 5) : OUT G T φ n (pI c 8 5 a) r (f_Op_perform fu c a) (f_M_act fu r (sA r 30 p) q) ∧ w_Op_perform fu c a ∧ w_M_act fu r (sA r 30 p) q := by
  replace hv := hv.at e
  have hp : p + 3 ≤ 3200 := by have z := hv.1; rw [wo_5] at z; omega
  obtain ⟨o1, o2⟩ := o_opn (k := 0) (j := 0) hc rfl (by omega)
  replace o1 : f_Op_operand (pI c 8 5 a) 0 = 5 := o1.trans e
  have b1 : (sA r 30 (p + 1)).toInt ≤ 3 := by have z := (hv.2 0 (by rw [wo_5]; decide)).2; rw [mo_5_0] at z; exact z
  have b2 : (sA r 30 (p + 2)).toInt ≤ 7 := by have z := (hv.2 1 (by rw [wo_5]; decide)).2; rw [mo_5_1] at z; exact z
  obtain ⟨x1, x2, x3⟩ := op_5 (fu := fu) h hz hc hq hp b1 b2
  rw [e, pf_5 o1, ma_5]
  exact ⟨x1, pw_5 o1 o2 x2, mw_5 x3⟩
theorem wo_6 : (f_M_wholeOf 6).toInt = 3 := by decide +kernel
theorem mo_6_0 (x : Int32) : f_M_mostOf 6 (nI 0) x = 7 := by
  unfold f_M_mostOf
  rw [show cn1 .ne (nI 0) = false from rfl, cond_false]
  unfold t_M_mostOf_5
  exact (if_neg (by decide)).trans ((if_neg (by decide)).trans ((if_neg (by decide)).trans ((if_neg (by decide)).trans ((if_neg (by decide)).trans ((if_pos rfl).trans rfl)))))
theorem mo_6_1 (x : Int32) : f_M_mostOf 6 (nI 1) x = 3 := by
  unfold f_M_mostOf
  rw [show cn1 .ne (nI 1) = true from rfl, cond_true]
  unfold t_M_mostOf_5
  exact (if_neg (by decide)).trans ((if_neg (by decide)).trans ((if_neg (by decide)).trans ((if_neg (by decide)).trans ((if_neg (by decide)).trans ((if_pos rfl).trans rfl)))))
theorem oa_6 (hfu : 1000000 ≤ fu) (h : RR G T φ n u (pI c 8 5 a) r) (hz : SZ (pI c 8 5 a)) (hc : CDH r p (pI c 8 5 a)) (hq : q.toInt = (p : Int) + 1) (hv : OV r p) (e : sA r 30 p = 6) : OUT G T φ n (pI c 8 5 a) r (f_Op_perform fu c a) (f_M_act fu r (sA r 30 p) q) ∧ w_Op_perform fu c a ∧ w_M_act fu r (sA r 30 p) q := by
  replace hv := hv.at e
  have hp : p + 3 ≤ 3200 := by have z := hv.1; rw [wo_6] at z; omega
  obtain ⟨o1, o2⟩ := o_opn (k := 0) (j := 0) hc rfl (by omega)
  replace o1 : f_Op_operand (pI c 8 5 a) 0 = 6 := o1.trans e
  have b1 : (sA r 30 (p + 1)).toInt ≤ 7 := by have z := (hv.2 0 (by rw [wo_6]; decide)).2; rw [mo_6_0] at z; exact z
  have b2 : (sA r 30 (p + 2)).toInt ≤ 3 := by have z := (hv.2 1 (by rw [wo_6]; decide)).2; rw [mo_6_1] at z; exact z
  obtain ⟨x1, x2, x3⟩ := op_6 (fu := fu) h hz hc hq hp b1 b2
  rw [e, pf_6 o1, ma_6]
  exact ⟨x1, pw_6 o1 o2 x2, mw_6 x3⟩
theorem wo_7 : (f_M_wholeOf 7).toInt = 4 := by decide +kernel
theorem mo_7_0 (x : Int32) : f_M_mostOf 7 (nI 0) x = 3 := by
  unfold f_M_mostOf
  rw [show cn1 .ne (nI 0) = false from rfl, cond_false]
  unfold t_M_mostOf_5
  exact (if_neg (by decide)).trans ((if_neg (by decide)).trans ((if_neg (by decide)).trans ((if_neg (by decide)).trans ((if_neg (by decide)).trans ((if_neg (by decide)).trans ((if_pos rfl).trans rfl))))))
theorem mo_7_1 (x : Int32) : f_M_mostOf 7 (nI 1) x = 3 := by
  unfold f_M_mostOf
  rw [show cn1 .ne (nI 1) = true from rfl, cond_true]
  unfold t_M_mostOf_5
  exact (if_neg (by decide)).trans ((if_neg (by decide)).trans ((if_neg (by decide)).trans ((if_neg (by decide)).trans ((if_neg (by decide)).trans ((if_neg (by decide)).trans ((if_pos rfl).trans rfl))))))
theorem oa_7 (hfu : 1000000 ≤ fu) (h : RR G T φ n u (pI c 8 5 a) r) (hz : SZ (pI c 8 5 a)) (hc : CDH r p (pI c 8 5 a)) (hq : q.toInt = (p : Int) + 1) (hv : OV r p) (e : sA r 30 p = 7) : OUT G T φ n (pI c 8 5 a) r (f_Op_perform fu c a) (f_M_act fu r (sA r 30 p) q) ∧ w_Op_perform fu c a ∧ w_M_act fu r (sA r 30 p) q := by
  replace hv := hv.at e
  have hp : p + 4 ≤ 3200 := by have z := hv.1; rw [wo_7] at z; omega
  obtain ⟨o1, o2⟩ := o_opn (k := 0) (j := 0) hc rfl (by omega)
  replace o1 : f_Op_operand (pI c 8 5 a) 0 = 7 := o1.trans e
  have b1 : (sA r 30 (p + 1)).toInt ≤ 3 := by have z := (hv.2 0 (by rw [wo_7]; decide)).2; rw [mo_7_0] at z; exact z
  have b2 : (sA r 30 (p + 2)).toInt ≤ 3 := by have z := (hv.2 1 (by rw [wo_7]; decide)).2; rw [mo_7_1] at z; exact z
  obtain ⟨x1, x2, x3⟩ := op_7 (fu := fu) h hz hc hq hp b1 b2
  rw [e, pf_7 o1, ma_7]
  exact ⟨x1, pw_7 o1 o2 x2, mw_7 x3⟩
theorem wo_8 : (f_M_wholeOf 8).toInt = 3 := by decide +kernel
theorem mo_8_0 (x : Int32) : f_M_mostOf 8 (nI 0) x = 3 := by
  unfold f_M_mostOf
  rw [show cn1 .ne (nI 0) = false from rfl, cond_false]
  unfold t_M_mostOf_5
  exact (if_neg (by decide)).trans ((if_neg (by decide)).trans ((if_neg (by decide)).trans ((if_neg (by decide)).trans ((if_neg (by decide)).trans ((if_neg (by decide)).trans ((if_neg (by decide)).trans ((if_pos rfl).trans rfl)))))))
theorem oa_8 (hfu : 1000000 ≤ fu) (h : RR G T φ n u (pI c 8 5 a) r) (hz : SZ (pI c 8 5 a)) (hc : CDH r p (pI c 8 5 a)) (hq : q.toInt = (p : Int) + 1) (hv : OV r p) (e : sA r 30 p = 8) : OUT G T φ n (pI c 8 5 a) r (f_Op_perform fu c a) (f_M_act fu r (sA r 30 p) q) ∧ w_Op_perform fu c a ∧ w_M_act fu r (sA r 30 p) q := by
  replace hv := hv.at e
  have hp : p + 3 ≤ 3200 := by have z := hv.1; rw [wo_8] at z; omega
  obtain ⟨o1, o2⟩ := o_opn (k := 0) (j := 0) hc rfl (by omega)
  replace o1 : f_Op_operand (pI c 8 5 a) 0 = 8 := o1.trans e
  have b1 : (sA r 30 (p + 1)).toInt ≤ 3 := by have z := (hv.2 0 (by rw [wo_8]; decide)).2; rw [mo_8_0] at z; exact z
  obtain ⟨x1, x2, x3⟩ := op_8 (fu := fu) h hz hc hq hp b1
  rw [e, pf_8 o1, ma_8]
  exact ⟨x1, pw_8 o1 o2 x2, mw_8 x3⟩
theorem wo_9 : (f_M_wholeOf 9).toInt = 5 := by decide +kernel
theorem mo_9_0 (x : Int32) : f_M_mostOf 9 (nI 0) x = 7 := by
  unfold f_M_mostOf
  rw [show cn1 .ne (nI 0) = false from rfl, cond_false]
  unfold t_M_mostOf_5
  exact (if_neg (by decide)).trans ((if_neg (by decide)).trans ((if_neg (by decide)).trans ((if_neg (by decide)).trans ((if_neg (by decide)).trans ((if_neg (by decide)).trans ((if_neg (by decide)).trans ((if_neg (by decide)).trans ((if_pos rfl).trans rfl))))))))
theorem mo_9_1 (x : Int32) : f_M_mostOf 9 (nI 1) x = 3 := by
  unfold f_M_mostOf
  rw [show cn1 .ne (nI 1) = true from rfl, cond_true]
  unfold t_M_mostOf_5
  exact (if_neg (by decide)).trans ((if_neg (by decide)).trans ((if_neg (by decide)).trans ((if_neg (by decide)).trans ((if_neg (by decide)).trans ((if_neg (by decide)).trans ((if_neg (by decide)).trans ((if_neg (by decide)).trans ((if_pos rfl).trans rfl))))))))
theorem mo_9_2 (x : Int32) : f_M_mostOf 9 (nI 2) x = 3 := by
  unfold f_M_mostOf
  rw [show cn1 .ne (nI 2) = true from rfl, cond_true]
  unfold t_M_mostOf_5
  exact (if_neg (by decide)).trans ((if_neg (by decide)).trans ((if_neg (by decide)).trans ((if_neg (by decide)).trans ((if_neg (by decide)).trans ((if_neg (by decide)).trans ((if_neg (by decide)).trans ((if_neg (by decide)).trans ((if_pos rfl).trans rfl))))))))
theorem mo_9_3 (x : Int32) : f_M_mostOf 9 (nI 3) x = 5 := by
  unfold f_M_mostOf
  rw [show cn1 .ne (nI 3) = true from rfl, cond_true]
  unfold t_M_mostOf_5
  exact (if_neg (by decide)).trans ((if_neg (by decide)).trans ((if_neg (by decide)).trans ((if_neg (by decide)).trans ((if_neg (by decide)).trans ((if_neg (by decide)).trans ((if_neg (by decide)).trans ((if_neg (by decide)).trans ((if_pos rfl).trans rfl))))))))
theorem oa_9 (hfu : 1000000 ≤ fu) (h : RR G T φ n u (pI c 8 5 a) r) (hz : SZ (pI c 8 5 a)) (hc : CDH r p (pI c 8 5 a)) (hq : q.toInt = (p : Int) + 1) (hv : OV r p) (e : sA r 30 p = 9) : OUT G T φ n (pI c 8 5 a) r (f_Op_perform fu c a) (f_M_act fu r (sA r 30 p) q) ∧ w_Op_perform fu c a ∧ w_M_act fu r (sA r 30 p) q := by
  replace hv := hv.at e
  have hp : p + 5 ≤ 3200 := by have z := hv.1; rw [wo_9] at z; omega
  obtain ⟨o1, o2⟩ := o_opn (k := 0) (j := 0) hc rfl (by omega)
  replace o1 : f_Op_operand (pI c 8 5 a) 0 = 9 := o1.trans e
  have b1 : (sA r 30 (p + 1)).toInt ≤ 7 := by have z := (hv.2 0 (by rw [wo_9]; decide)).2; rw [mo_9_0] at z; exact z
  have b2 : (sA r 30 (p + 2)).toInt ≤ 3 := by have z := (hv.2 1 (by rw [wo_9]; decide)).2; rw [mo_9_1] at z; exact z
  have b3 : (sA r 30 (p + 3)).toInt ≤ 3 := by have z := (hv.2 2 (by rw [wo_9]; decide)).2; rw [mo_9_2] at z; exact z
  have b4 : (sA r 30 (p + 4)).toInt ≤ 5 := by have z := (hv.2 3 (by rw [wo_9]; decide)).2; rw [mo_9_3] at z; exact z
  obtain ⟨x1, x2, x3⟩ := op_9 (fu := fu) h hz hc hq hp b1 b2 b3 b4
  rw [e, pf_9 o1, ma_9]
  exact ⟨x1, pw_9 o1 o2 x2, mw_9 x3⟩
theorem wo_10 : (f_M_wholeOf 10).toInt = 3 := by decide +kernel
theorem mo_10_0 (x : Int32) : f_M_mostOf 10 (nI 0) x = 15 := by
  unfold f_M_mostOf
  rw [show cn1 .ne (nI 0) = false from rfl, cond_false]
  unfold t_M_mostOf_5
  exact (if_neg (by decide)).trans ((if_neg (by decide)).trans ((if_neg (by decide)).trans ((if_neg (by decide)).trans ((if_neg (by decide)).trans ((if_neg (by decide)).trans ((if_neg (by decide)).trans ((if_neg (by decide)).trans ((if_neg (by decide)).trans ((if_pos rfl).trans rfl)))))))))
theorem mo_10_1 (x : Int32) : f_M_mostOf 10 (nI 1) x = 15 := by
  unfold f_M_mostOf
  rw [show cn1 .ne (nI 1) = true from rfl, cond_true]
  unfold t_M_mostOf_5
  exact (if_neg (by decide)).trans ((if_neg (by decide)).trans ((if_neg (by decide)).trans ((if_neg (by decide)).trans ((if_neg (by decide)).trans ((if_neg (by decide)).trans ((if_neg (by decide)).trans ((if_neg (by decide)).trans ((if_neg (by decide)).trans ((if_pos rfl).trans rfl)))))))))
theorem oa_10 (hfu : 1000000 ≤ fu) (h : RR G T φ n u (pI c 8 5 a) r) (hz : SZ (pI c 8 5 a)) (hc : CDH r p (pI c 8 5 a)) (hq : q.toInt = (p : Int) + 1) (hv : OV r p) (e : sA r 30 p = 10) : OUT G T φ n (pI c 8 5 a) r (f_Op_perform fu c a) (f_M_act fu r (sA r 30 p) q) ∧ w_Op_perform fu c a ∧ w_M_act fu r (sA r 30 p) q := by
  replace hv := hv.at e
  have hp : p + 3 ≤ 3200 := by have z := hv.1; rw [wo_10] at z; omega
  obtain ⟨o1, o2⟩ := o_opn (k := 0) (j := 0) hc rfl (by omega)
  replace o1 : f_Op_operand (pI c 8 5 a) 0 = 10 := o1.trans e
  have b1 : (sA r 30 (p + 1)).toInt ≤ 15 := by have z := (hv.2 0 (by rw [wo_10]; decide)).2; rw [mo_10_0] at z; exact z
  have b2 : (sA r 30 (p + 2)).toInt ≤ 15 := by have z := (hv.2 1 (by rw [wo_10]; decide)).2; rw [mo_10_1] at z; exact z
  obtain ⟨x1, x2, x3⟩ := op_10 (fu := fu) h hz hc hq hp b1 b2
  rw [e, pf_10 o1, ma_10]
  exact ⟨x1, pw_10 o1 o2 x2, mw_10 x3⟩
theorem wo_11 : (f_M_wholeOf 11).toInt = 2 := by decide +kernel
theorem mo_11_0 (x : Int32) : f_M_mostOf 11 (nI 0) x = 15 := by
  unfold f_M_mostOf
  rw [show cn1 .ne (nI 0) = false from rfl, cond_false]
  unfold t_M_mostOf_5
  exact (if_neg (by decide)).trans ((if_neg (by decide)).trans ((if_neg (by decide)).trans ((if_neg (by decide)).trans ((if_neg (by decide)).trans ((if_neg (by decide)).trans ((if_neg (by decide)).trans ((if_neg (by decide)).trans ((if_neg (by decide)).trans ((if_neg (by decide)).trans ((if_pos rfl).trans rfl))))))))))
theorem oa_11 (hfu : 1000000 ≤ fu) (h : RR G T φ n u (pI c 8 5 a) r) (hz : SZ (pI c 8 5 a)) (hc : CDH r p (pI c 8 5 a)) (hq : q.toInt = (p : Int) + 1) (hv : OV r p) (e : sA r 30 p = 11) : OUT G T φ n (pI c 8 5 a) r (f_Op_perform fu c a) (f_M_act fu r (sA r 30 p) q) ∧ w_Op_perform fu c a ∧ w_M_act fu r (sA r 30 p) q := by
  replace hv := hv.at e
  have hp : p + 2 ≤ 3200 := by have z := hv.1; rw [wo_11] at z; omega
  obtain ⟨o1, o2⟩ := o_opn (k := 0) (j := 0) hc rfl (by omega)
  replace o1 : f_Op_operand (pI c 8 5 a) 0 = 11 := o1.trans e
  have b1 : (sA r 30 (p + 1)).toInt ≤ 15 := by have z := (hv.2 0 (by rw [wo_11]; decide)).2; rw [mo_11_0] at z; exact z
  obtain ⟨x1, x2, x3⟩ := op_11 (fu := fu) h hz hc hq hp b1
  rw [e, pf_11 o1, ma_11]
  exact ⟨x1, pw_11 o1 o2 x2, mw_11 x3⟩
theorem wo_12 : (f_M_wholeOf 12).toInt = 4 := by decide +kernel
theorem mo_12_0 (x : Int32) : f_M_mostOf 12 (nI 0) x = 15 := by
  unfold f_M_mostOf
  rw [show cn1 .ne (nI 0) = false from rfl, cond_false]
  unfold t_M_mostOf_5
  exact (if_neg (by decide)).trans ((if_neg (by decide)).trans ((if_neg (by decide)).trans ((if_neg (by decide)).trans ((if_neg (by decide)).trans ((if_neg (by decide)).trans ((if_neg (by decide)).trans ((if_neg (by decide)).trans ((if_neg (by decide)).trans ((if_neg (by decide)).trans ((if_neg (by decide)).trans ((if_pos rfl).trans rfl)))))))))))
theorem le_12_1 : (f_M_leastOf 12 (nI 1)).toInt = 1 := by decide +kernel
theorem mo_12_1 (x : Int32) : f_M_mostOf 12 (nI 1) x = 8 := by
  unfold f_M_mostOf
  rw [show cn1 .ne (nI 1) = true from rfl, cond_true]
  unfold t_M_mostOf_5
  exact (if_neg (by decide)).trans ((if_neg (by decide)).trans ((if_neg (by decide)).trans ((if_neg (by decide)).trans ((if_neg (by decide)).trans ((if_neg (by decide)).trans ((if_neg (by decide)).trans ((if_neg (by decide)).trans ((if_neg (by decide)).trans ((if_neg (by decide)).trans ((if_neg (by decide)).trans ((if_pos rfl).trans rfl)))))))))))
theorem mo_12_2 (x : Int32) : f_M_mostOf 12 (nI 2) x = 7 := by
  unfold f_M_mostOf
  rw [show cn1 .ne (nI 2) = true from rfl, cond_true]
  unfold t_M_mostOf_5
  exact (if_neg (by decide)).trans ((if_neg (by decide)).trans ((if_neg (by decide)).trans ((if_neg (by decide)).trans ((if_neg (by decide)).trans ((if_neg (by decide)).trans ((if_neg (by decide)).trans ((if_neg (by decide)).trans ((if_neg (by decide)).trans ((if_neg (by decide)).trans ((if_neg (by decide)).trans ((if_pos rfl).trans rfl)))))))))))
theorem oa_12 (hfu : 1000000 ≤ fu) (h : RR G T φ n u (pI c 8 5 a) r) (hz : SZ (pI c 8 5 a)) (hc : CDH r p (pI c 8 5 a)) (hq : q.toInt = (p : Int) + 1) (hv : OV r p) (e : sA r 30 p = 12) : OUT G T φ n (pI c 8 5 a) r (f_Op_perform fu c a) (f_M_act fu r (sA r 30 p) q) ∧ w_Op_perform fu c a ∧ w_M_act fu r (sA r 30 p) q := by
  replace hv := hv.at e
  have hp : p + 4 ≤ 3200 := by have z := hv.1; rw [wo_12] at z; omega
  obtain ⟨o1, o2⟩ := o_opn (k := 0) (j := 0) hc rfl (by omega)
  replace o1 : f_Op_operand (pI c 8 5 a) 0 = 12 := o1.trans e
  have b1 : (sA r 30 (p + 1)).toInt ≤ 15 := by have z := (hv.2 0 (by rw [wo_12]; decide)).2; rw [mo_12_0] at z; exact z
  have b2 : 1 ≤ (sA r 30 (p + 2)).toInt := by have z := (hv.2 1 (by rw [wo_12]; decide)).1; rw [le_12_1] at z; exact z
  have b2' : (sA r 30 (p + 2)).toInt ≤ 8 := by have z := (hv.2 1 (by rw [wo_12]; decide)).2; rw [mo_12_1] at z; exact z
  have b3 : (sA r 30 (p + 3)).toInt ≤ 7 := by have z := (hv.2 2 (by rw [wo_12]; decide)).2; rw [mo_12_2] at z; exact z
  obtain ⟨x1, x2, x3⟩ := op_12 (fu := fu) h hz hc hq hp b1 b2 b2' b3
  rw [e, pf_12 o1, ma_12]
  exact ⟨x1, pw_12 o1 o2 x2, mw_12 x3⟩
theorem wo_13 : (f_M_wholeOf 13).toInt = 4 := by decide +kernel
theorem mo_13_0 (x : Int32) : f_M_mostOf 13 (nI 0) x = 15 := by
  unfold f_M_mostOf
  rw [show cn1 .ne (nI 0) = false from rfl, cond_false]
  unfold t_M_mostOf_5
  exact (if_neg (by decide)).trans ((if_neg (by decide)).trans ((if_neg (by decide)).trans ((if_neg (by decide)).trans ((if_neg (by decide)).trans ((if_neg (by decide)).trans ((if_neg (by decide)).trans ((if_neg (by decide)).trans ((if_neg (by decide)).trans ((if_neg (by decide)).trans ((if_neg (by decide)).trans ((if_neg (by decide)).trans ((if_pos rfl).trans rfl))))))))))))
theorem mo_13_1 (x : Int32) : f_M_mostOf 13 (nI 1) x = 7 := by
  unfold f_M_mostOf
  rw [show cn1 .ne (nI 1) = true from rfl, cond_true]
  unfold t_M_mostOf_5
  exact (if_neg (by decide)).trans ((if_neg (by decide)).trans ((if_neg (by decide)).trans ((if_neg (by decide)).trans ((if_neg (by decide)).trans ((if_neg (by decide)).trans ((if_neg (by decide)).trans ((if_neg (by decide)).trans ((if_neg (by decide)).trans ((if_neg (by decide)).trans ((if_neg (by decide)).trans ((if_neg (by decide)).trans ((if_pos rfl).trans rfl))))))))))))
theorem mo_13_2 (x : Int32) : f_M_mostOf 13 (nI 2) x = 7 := by
  unfold f_M_mostOf
  rw [show cn1 .ne (nI 2) = true from rfl, cond_true]
  unfold t_M_mostOf_5
  exact (if_neg (by decide)).trans ((if_neg (by decide)).trans ((if_neg (by decide)).trans ((if_neg (by decide)).trans ((if_neg (by decide)).trans ((if_neg (by decide)).trans ((if_neg (by decide)).trans ((if_neg (by decide)).trans ((if_neg (by decide)).trans ((if_neg (by decide)).trans ((if_neg (by decide)).trans ((if_neg (by decide)).trans ((if_pos rfl).trans rfl))))))))))))
theorem oa_13 (hfu : 1000000 ≤ fu) (h : RR G T φ n u (pI c 8 5 a) r) (hz : SZ (pI c 8 5 a)) (hc : CDH r p (pI c 8 5 a)) (hq : q.toInt = (p : Int) + 1) (hv : OV r p) (e : sA r 30 p = 13) : OUT G T φ n (pI c 8 5 a) r (f_Op_perform fu c a) (f_M_act fu r (sA r 30 p) q) ∧ w_Op_perform fu c a ∧ w_M_act fu r (sA r 30 p) q := by
  replace hv := hv.at e
  have hp : p + 4 ≤ 3200 := by have z := hv.1; rw [wo_13] at z; omega
  obtain ⟨o1, o2⟩ := o_opn (k := 0) (j := 0) hc rfl (by omega)
  replace o1 : f_Op_operand (pI c 8 5 a) 0 = 13 := o1.trans e
  have b1 : (sA r 30 (p + 1)).toInt ≤ 15 := by have z := (hv.2 0 (by rw [wo_13]; decide)).2; rw [mo_13_0] at z; exact z
  have b2 : (sA r 30 (p + 2)).toInt ≤ 7 := by have z := (hv.2 1 (by rw [wo_13]; decide)).2; rw [mo_13_1] at z; exact z
  have b3 : (sA r 30 (p + 3)).toInt ≤ 7 := by have z := (hv.2 2 (by rw [wo_13]; decide)).2; rw [mo_13_2] at z; exact z
  obtain ⟨x1, x2, x3⟩ := op_13 (fu := fu) (by omega) h hz hc hq hp b1 b2 b3
  rw [e, pf_13 o1, ma_13]
  exact ⟨x1, pw_13 o1 o2 x2, mw_13 x3⟩
theorem wo_14 : (f_M_wholeOf 14).toInt = 4 := by decide +kernel
theorem mo_14_0 (x : Int32) : f_M_mostOf 14 (nI 0) x = 15 := by
  unfold f_M_mostOf
  rw [show cn1 .ne (nI 0) = false from rfl, cond_false]
  unfold t_M_mostOf_5
  exact (if_neg (by decide)).trans ((if_neg (by decide)).trans ((if_neg (by decide)).trans ((if_neg (by decide)).trans ((if_neg (by decide)).trans ((if_neg (by decide)).trans ((if_neg (by decide)).trans ((if_neg (by decide)).trans ((if_neg (by decide)).trans ((if_neg (by decide)).trans ((if_neg (by decide)).trans ((if_neg (by decide)).trans ((if_neg (by decide)).trans ((if_pos rfl).trans rfl)))))))))))))
theorem mo_14_1 (x : Int32) : f_M_mostOf 14 (nI 1) x = 4 := by
  unfold f_M_mostOf
  rw [show cn1 .ne (nI 1) = true from rfl, cond_true]
  unfold t_M_mostOf_5
  exact (if_neg (by decide)).trans ((if_neg (by decide)).trans ((if_neg (by decide)).trans ((if_neg (by decide)).trans ((if_neg (by decide)).trans ((if_neg (by decide)).trans ((if_neg (by decide)).trans ((if_neg (by decide)).trans ((if_neg (by decide)).trans ((if_neg (by decide)).trans ((if_neg (by decide)).trans ((if_neg (by decide)).trans ((if_neg (by decide)).trans ((if_pos rfl).trans rfl)))))))))))))
theorem mo_14_2 (x : Int32) : f_M_mostOf 14 (nI 2) x = 7 := by
  unfold f_M_mostOf
  rw [show cn1 .ne (nI 2) = true from rfl, cond_true]
  unfold t_M_mostOf_5
  exact (if_neg (by decide)).trans ((if_neg (by decide)).trans ((if_neg (by decide)).trans ((if_neg (by decide)).trans ((if_neg (by decide)).trans ((if_neg (by decide)).trans ((if_neg (by decide)).trans ((if_neg (by decide)).trans ((if_neg (by decide)).trans ((if_neg (by decide)).trans ((if_neg (by decide)).trans ((if_neg (by decide)).trans ((if_neg (by decide)).trans ((if_pos rfl).trans rfl)))))))))))))
theorem oa_14 (hfu : 1000000 ≤ fu) (h : RR G T φ n u (pI c 8 5 a) r) (hz : SZ (pI c 8 5 a)) (hc : CDH r p (pI c 8 5 a)) (hq : q.toInt = (p : Int) + 1) (hv : OV r p) (e : sA r 30 p = 14) : OUT G T φ n (pI c 8 5 a) r (f_Op_perform fu c a) (f_M_act fu r (sA r 30 p) q) ∧ w_Op_perform fu c a ∧ w_M_act fu r (sA r 30 p) q := by
  replace hv := hv.at e
  have hp : p + 4 ≤ 3200 := by have z := hv.1; rw [wo_14] at z; omega
  obtain ⟨o1, o2⟩ := o_opn (k := 0) (j := 0) hc rfl (by omega)
  replace o1 : f_Op_operand (pI c 8 5 a) 0 = 14 := o1.trans e
  have b1 : (sA r 30 (p + 1)).toInt ≤ 15 := by have z := (hv.2 0 (by rw [wo_14]; decide)).2; rw [mo_14_0] at z; exact z
  have b2' : (sA r 30 (p + 2)).toInt ≤ 4 := by have z := (hv.2 1 (by rw [wo_14]; decide)).2; rw [mo_14_1] at z; exact z
  have b3 : (sA r 30 (p + 3)).toInt ≤ 7 := by have z := (hv.2 2 (by rw [wo_14]; decide)).2; rw [mo_14_2] at z; exact z
  obtain ⟨x1, x2, x3⟩ := op_14 (fu := fu) h hz hc hq hp b1 b2' b3
  rw [e, pf_14 o1, ma_14]
  exact ⟨x1, pw_14 o1 o2 x2, mw_14 x3⟩
theorem wo_15 : (f_M_wholeOf 15).toInt = 3 := by decide +kernel
theorem mo_15_0 (x : Int32) : f_M_mostOf 15 (nI 0) x = 15 := by
  unfold f_M_mostOf
  rw [show cn1 .ne (nI 0) = false from rfl, cond_false]
  unfold t_M_mostOf_5
  exact (if_neg (by decide)).trans ((if_neg (by decide)).trans ((if_neg (by decide)).trans ((if_neg (by decide)).trans ((if_neg (by decide)).trans ((if_neg (by decide)).trans ((if_neg (by decide)).trans ((if_neg (by decide)).trans ((if_neg (by decide)).trans ((if_neg (by decide)).trans ((if_neg (by decide)).trans ((if_neg (by decide)).trans ((if_neg (by decide)).trans ((if_neg (by decide)).trans ((if_pos rfl).trans rfl))))))))))))))
theorem mo_15_1 (x : Int32) : f_M_mostOf 15 (nI 1) x = 4 := by
  unfold f_M_mostOf
  rw [show cn1 .ne (nI 1) = true from rfl, cond_true]
  unfold t_M_mostOf_5
  exact (if_neg (by decide)).trans ((if_neg (by decide)).trans ((if_neg (by decide)).trans ((if_neg (by decide)).trans ((if_neg (by decide)).trans ((if_neg (by decide)).trans ((if_neg (by decide)).trans ((if_neg (by decide)).trans ((if_neg (by decide)).trans ((if_neg (by decide)).trans ((if_neg (by decide)).trans ((if_neg (by decide)).trans ((if_neg (by decide)).trans ((if_neg (by decide)).trans ((if_pos rfl).trans rfl))))))))))))))
theorem oa_15 (hfu : 1000000 ≤ fu) (h : RR G T φ n u (pI c 8 5 a) r) (hz : SZ (pI c 8 5 a)) (hc : CDH r p (pI c 8 5 a)) (hq : q.toInt = (p : Int) + 1) (hv : OV r p) (e : sA r 30 p = 15) : OUT G T φ n (pI c 8 5 a) r (f_Op_perform fu c a) (f_M_act fu r (sA r 30 p) q) ∧ w_Op_perform fu c a ∧ w_M_act fu r (sA r 30 p) q := by
  replace hv := hv.at e
  have hp : p + 3 ≤ 3200 := by have z := hv.1; rw [wo_15] at z; omega
  obtain ⟨o1, o2⟩ := o_opn (k := 0) (j := 0) hc rfl (by omega)
  replace o1 : f_Op_operand (pI c 8 5 a) 0 = 15 := o1.trans e
  have b1 : (sA r 30 (p + 1)).toInt ≤ 15 := by have z := (hv.2 0 (by rw [wo_15]; decide)).2; rw [mo_15_0] at z; exact z
  have b2 : (sA r 30 (p + 2)).toInt ≤ 4 := by have z := (hv.2 1 (by rw [wo_15]; decide)).2; rw [mo_15_1] at z; exact z
  obtain ⟨x1, x2, x3⟩ := op_15 (fu := fu) h hz hc hq hp b1 b2
  rw [e, pf_15 o1, ma_15]
  exact ⟨x1, pw_15 o1 o2 x2, mw_15 x3⟩
theorem wo_16 : (f_M_wholeOf 16).toInt = 3 := by decide +kernel
theorem mo_16_0 (x : Int32) : f_M_mostOf 16 (nI 0) x = 15 := by
  unfold f_M_mostOf
  rw [show cn1 .ne (nI 0) = false from rfl, cond_false]
  unfold t_M_mostOf_5
  exact (if_neg (by decide)).trans ((if_neg (by decide)).trans ((if_neg (by decide)).trans ((if_neg (by decide)).trans ((if_neg (by decide)).trans ((if_neg (by decide)).trans ((if_neg (by decide)).trans ((if_neg (by decide)).trans ((if_neg (by decide)).trans ((if_neg (by decide)).trans ((if_neg (by decide)).trans ((if_neg (by decide)).trans ((if_neg (by decide)).trans ((if_neg (by decide)).trans ((if_neg (by decide)).trans ((if_pos rfl).trans rfl)))))))))))))))
theorem mo_16_1 (x : Int32) : f_M_mostOf 16 (nI 1) x = 7 := by
  unfold f_M_mostOf
  rw [show cn1 .ne (nI 1) = true from rfl, cond_true]
  unfold t_M_mostOf_5
  exact (if_neg (by decide)).trans ((if_neg (by decide)).trans ((if_neg (by decide)).trans ((if_neg (by decide)).trans ((if_neg (by decide)).trans ((if_neg (by decide)).trans ((if_neg (by decide)).trans ((if_neg (by decide)).trans ((if_neg (by decide)).trans ((if_neg (by decide)).trans ((if_neg (by decide)).trans ((if_neg (by decide)).trans ((if_neg (by decide)).trans ((if_neg (by decide)).trans ((if_neg (by decide)).trans ((if_pos rfl).trans rfl)))))))))))))))
theorem oa_16 (hfu : 1000000 ≤ fu) (h : RR G T φ n u (pI c 8 5 a) r) (hz : SZ (pI c 8 5 a)) (hc : CDH r p (pI c 8 5 a)) (hq : q.toInt = (p : Int) + 1) (hv : OV r p) (e : sA r 30 p = 16) : OUT G T φ n (pI c 8 5 a) r (f_Op_perform fu c a) (f_M_act fu r (sA r 30 p) q) ∧ w_Op_perform fu c a ∧ w_M_act fu r (sA r 30 p) q := by
  replace hv := hv.at e
  have hp : p + 3 ≤ 3200 := by have z := hv.1; rw [wo_16] at z; omega
  obtain ⟨o1, o2⟩ := o_opn (k := 0) (j := 0) hc rfl (by omega)
  replace o1 : f_Op_operand (pI c 8 5 a) 0 = 16 := o1.trans e
  have b1 : (sA r 30 (p + 1)).toInt ≤ 15 := by have z := (hv.2 0 (by rw [wo_16]; decide)).2; rw [mo_16_0] at z; exact z
  have b2 : (sA r 30 (p + 2)).toInt ≤ 7 := by have z := (hv.2 1 (by rw [wo_16]; decide)).2; rw [mo_16_1] at z; exact z
  obtain ⟨x1, x2, x3⟩ := op_16 (fu := fu) h hz hc hq hp b1 b2
  rw [e, pf_16 o1, ma_16]
  exact ⟨x1, pw_16 o1 o2 x2, mw_16 x3⟩
theorem wo_17 : (f_M_wholeOf 17).toInt = 3 := by decide +kernel
theorem mo_17_0 (x : Int32) : f_M_mostOf 17 (nI 0) x = 7 := by
  unfold f_M_mostOf
  rw [show cn1 .ne (nI 0) = false from rfl, cond_false]
  unfold t_M_mostOf_5
  exact (if_neg (by decide)).trans ((if_neg (by decide)).trans ((if_neg (by decide)).trans ((if_neg (by decide)).trans ((if_neg (by decide)).trans ((if_neg (by decide)).trans ((if_neg (by decide)).trans ((if_neg (by decide)).trans ((if_neg (by decide)).trans ((if_neg (by decide)).trans ((if_neg (by decide)).trans ((if_neg (by decide)).trans ((if_neg (by decide)).trans ((if_neg (by decide)).trans ((if_neg (by decide)).trans ((if_neg (by decide)).trans ((if_pos rfl).trans rfl))))))))))))))))
theorem mo_17_1 (x : Int32) : f_M_mostOf 17 (nI 1) x = 15 := by
  unfold f_M_mostOf
  rw [show cn1 .ne (nI 1) = true from rfl, cond_true]
  unfold t_M_mostOf_5
  exact (if_neg (by decide)).trans ((if_neg (by decide)).trans ((if_neg (by decide)).trans ((if_neg (by decide)).trans ((if_neg (by decide)).trans ((if_neg (by decide)).trans ((if_neg (by decide)).trans ((if_neg (by decide)).trans ((if_neg (by decide)).trans ((if_neg (by decide)).trans ((if_neg (by decide)).trans ((if_neg (by decide)).trans ((if_neg (by decide)).trans ((if_neg (by decide)).trans ((if_neg (by decide)).trans ((if_neg (by decide)).trans ((if_pos rfl).trans rfl))))))))))))))))
theorem oa_17 (hfu : 1000000 ≤ fu) (h : RR G T φ n u (pI c 8 5 a) r) (hz : SZ (pI c 8 5 a)) (hc : CDH r p (pI c 8 5 a)) (hq : q.toInt = (p : Int) + 1) (hv : OV r p) (e : sA r 30 p = 17) : OUT G T φ n (pI c 8 5 a) r (f_Op_perform fu c a) (f_M_act fu r (sA r 30 p) q) ∧ w_Op_perform fu c a ∧ w_M_act fu r (sA r 30 p) q := by
  replace hv := hv.at e
  have hp : p + 3 ≤ 3200 := by have z := hv.1; rw [wo_17] at z; omega
  obtain ⟨o1, o2⟩ := o_opn (k := 0) (j := 0) hc rfl (by omega)
  replace o1 : f_Op_operand (pI c 8 5 a) 0 = 17 := o1.trans e
  have b1 : (sA r 30 (p + 1)).toInt ≤ 7 := by have z := (hv.2 0 (by rw [wo_17]; decide)).2; rw [mo_17_0] at z; exact z
  have b2 : (sA r 30 (p + 2)).toInt ≤ 15 := by have z := (hv.2 1 (by rw [wo_17]; decide)).2; rw [mo_17_1] at z; exact z
  obtain ⟨x1, x2, x3⟩ := op_17 (fu := fu) h hz hc hq hp b1 b2
  rw [e, pf_17 o1, ma_17]
  exact ⟨x1, pw_17 o1 o2 x2, mw_17 x3⟩
theorem wo_18 : (f_M_wholeOf 18).toInt = 4 := by decide +kernel
theorem mo_18_0 (x : Int32) : f_M_mostOf 18 (nI 0) x = 7 := by
  unfold f_M_mostOf
  rw [show cn1 .ne (nI 0) = false from rfl, cond_false]
  unfold t_M_mostOf_5
  exact (if_neg (by decide)).trans ((if_neg (by decide)).trans ((if_neg (by decide)).trans ((if_neg (by decide)).trans ((if_neg (by decide)).trans ((if_neg (by decide)).trans ((if_neg (by decide)).trans ((if_neg (by decide)).trans ((if_neg (by decide)).trans ((if_neg (by decide)).trans ((if_neg (by decide)).trans ((if_neg (by decide)).trans ((if_neg (by decide)).trans ((if_neg (by decide)).trans ((if_neg (by decide)).trans ((if_neg (by decide)).trans ((if_neg (by decide)).trans ((if_pos rfl).trans rfl)))))))))))))))))
theorem mo_18_1 (x : Int32) : f_M_mostOf 18 (nI 1) x = 15 := by
  unfold f_M_mostOf
  rw [show cn1 .ne (nI 1) = true from rfl, cond_true]
  unfold t_M_mostOf_5
  exact (if_neg (by decide)).trans ((if_neg (by decide)).trans ((if_neg (by decide)).trans ((if_neg (by decide)).trans ((if_neg (by decide)).trans ((if_neg (by decide)).trans ((if_neg (by decide)).trans ((if_neg (by decide)).trans ((if_neg (by decide)).trans ((if_neg (by decide)).trans ((if_neg (by decide)).trans ((if_neg (by decide)).trans ((if_neg (by decide)).trans ((if_neg (by decide)).trans ((if_neg (by decide)).trans ((if_neg (by decide)).trans ((if_neg (by decide)).trans ((if_pos rfl).trans rfl)))))))))))))))))
theorem mo_18_2 (x : Int32) : f_M_mostOf 18 (nI 2) x = 19 := by
  unfold f_M_mostOf
  rw [show cn1 .ne (nI 2) = true from rfl, cond_true]
  unfold t_M_mostOf_5
  exact (if_neg (by decide)).trans ((if_neg (by decide)).trans ((if_neg (by decide)).trans ((if_neg (by decide)).trans ((if_neg (by decide)).trans ((if_neg (by decide)).trans ((if_neg (by decide)).trans ((if_neg (by decide)).trans ((if_neg (by decide)).trans ((if_neg (by decide)).trans ((if_neg (by decide)).trans ((if_neg (by decide)).trans ((if_neg (by decide)).trans ((if_neg (by decide)).trans ((if_neg (by decide)).trans ((if_neg (by decide)).trans ((if_neg (by decide)).trans ((if_pos rfl).trans rfl)))))))))))))))))
theorem oa_18 (hfu : 1000000 ≤ fu) (h : RR G T φ n u (pI c 8 5 a) r) (hz : SZ (pI c 8 5 a)) (hc : CDH r p (pI c 8 5 a)) (hq : q.toInt = (p : Int) + 1) (hv : OV r p) (e : sA r 30 p = 18) : OUT G T φ n (pI c 8 5 a) r (f_Op_perform fu c a) (f_M_act fu r (sA r 30 p) q) ∧ w_Op_perform fu c a ∧ w_M_act fu r (sA r 30 p) q := by
  replace hv := hv.at e
  have hp : p + 4 ≤ 3200 := by have z := hv.1; rw [wo_18] at z; omega
  obtain ⟨o1, o2⟩ := o_opn (k := 0) (j := 0) hc rfl (by omega)
  replace o1 : f_Op_operand (pI c 8 5 a) 0 = 18 := o1.trans e
  have b1 : (sA r 30 (p + 1)).toInt ≤ 7 := by have z := (hv.2 0 (by rw [wo_18]; decide)).2; rw [mo_18_0] at z; exact z
  have b2 : (sA r 30 (p + 2)).toInt ≤ 15 := by have z := (hv.2 1 (by rw [wo_18]; decide)).2; rw [mo_18_1] at z; exact z
  have b3 : (sA r 30 (p + 3)).toInt ≤ 19 := by have z := (hv.2 2 (by rw [wo_18]; decide)).2; rw [mo_18_2] at z; exact z
  obtain ⟨x1, x2, x3⟩ := op_18 (fu := fu) h hz hc hq hp b1 b2 b3
  rw [e, pf_18 o1, ma_18]
  exact ⟨x1, pw_18 o1 o2 x2, mw_18 x3⟩
theorem wo_19 : (f_M_wholeOf 19).toInt = 5 := by decide +kernel
theorem le_19_0 : (f_M_leastOf 19 (nI 0)).toInt = 1 := by decide +kernel
theorem mo_19_0 (x : Int32) : f_M_mostOf 19 (nI 0) x = 8 := by
  unfold f_M_mostOf
  rw [show cn1 .ne (nI 0) = false from rfl, cond_false]
  unfold t_M_mostOf_5
  exact (if_neg (by decide)).trans ((if_neg (by decide)).trans ((if_neg (by decide)).trans ((if_neg (by decide)).trans ((if_neg (by decide)).trans ((if_neg (by decide)).trans ((if_neg (by decide)).trans ((if_neg (by decide)).trans ((if_neg (by decide)).trans ((if_neg (by decide)).trans ((if_neg (by decide)).trans ((if_neg (by decide)).trans ((if_neg (by decide)).trans ((if_neg (by decide)).trans ((if_neg (by decide)).trans ((if_neg (by decide)).trans ((if_neg (by decide)).trans ((if_neg (by decide)).trans ((if_pos rfl).trans rfl))))))))))))))))))
theorem mo_19_1 (x : Int32) : f_M_mostOf 19 (nI 1) x = cond (cn2 .eq x 6) (3 : Int32) (cond (cn2 .ne x 7) 7 3) := by
  unfold f_M_mostOf
  rw [show cn1 .ne (nI 1) = true from rfl, cond_true]
  unfold t_M_mostOf_5
  exact (if_neg (by decide)).trans ((if_neg (by decide)).trans ((if_neg (by decide)).trans ((if_neg (by decide)).trans ((if_neg (by decide)).trans ((if_neg (by decide)).trans ((if_neg (by decide)).trans ((if_neg (by decide)).trans ((if_neg (by decide)).trans ((if_neg (by decide)).trans ((if_neg (by decide)).trans ((if_neg (by decide)).trans ((if_neg (by decide)).trans ((if_neg (by decide)).trans ((if_neg (by decide)).trans ((if_neg (by decide)).trans ((if_neg (by decide)).trans ((if_neg (by decide)).trans ((if_pos rfl).trans rfl))))))))))))))))))
theorem mo_19_2 (x : Int32) : f_M_mostOf 19 (nI 2) x = 15 := by
  unfold f_M_mostOf
  rw [show cn1 .ne (nI 2) = true from rfl, cond_true]
  unfold t_M_mostOf_5
  exact (if_neg (by decide)).trans ((if_neg (by decide)).trans ((if_neg (by decide)).trans ((if_neg (by decide)).trans ((if_neg (by decide)).trans ((if_neg (by decide)).trans ((if_neg (by decide)).trans ((if_neg (by decide)).trans ((if_neg (by decide)).trans ((if_neg (by decide)).trans ((if_neg (by decide)).trans ((if_neg (by decide)).trans ((if_neg (by decide)).trans ((if_neg (by decide)).trans ((if_neg (by decide)).trans ((if_neg (by decide)).trans ((if_neg (by decide)).trans ((if_neg (by decide)).trans ((if_pos rfl).trans rfl))))))))))))))))))
theorem mo_19_3 (x : Int32) : f_M_mostOf 19 (nI 3) x = 7 := by
  unfold f_M_mostOf
  rw [show cn1 .ne (nI 3) = true from rfl, cond_true]
  unfold t_M_mostOf_5
  exact (if_neg (by decide)).trans ((if_neg (by decide)).trans ((if_neg (by decide)).trans ((if_neg (by decide)).trans ((if_neg (by decide)).trans ((if_neg (by decide)).trans ((if_neg (by decide)).trans ((if_neg (by decide)).trans ((if_neg (by decide)).trans ((if_neg (by decide)).trans ((if_neg (by decide)).trans ((if_neg (by decide)).trans ((if_neg (by decide)).trans ((if_neg (by decide)).trans ((if_neg (by decide)).trans ((if_neg (by decide)).trans ((if_neg (by decide)).trans ((if_neg (by decide)).trans ((if_pos rfl).trans rfl))))))))))))))))))
theorem oa_19 (hfu : 1000000 ≤ fu) (h : RR G T φ n u (pI c 8 5 a) r) (hz : SZ (pI c 8 5 a)) (hc : CDH r p (pI c 8 5 a)) (hq : q.toInt = (p : Int) + 1) (hv : OV r p) (e : sA r 30 p = 19) : OUT G T φ n (pI c 8 5 a) r (f_Op_perform fu c a) (f_M_act fu r (sA r 30 p) q) ∧ w_Op_perform fu c a ∧ w_M_act fu r (sA r 30 p) q := by
  replace hv := hv.at e
  have hp : p + 5 ≤ 3200 := by have z := hv.1; rw [wo_19] at z; omega
  obtain ⟨o1, o2⟩ := o_opn (k := 0) (j := 0) hc rfl (by omega)
  replace o1 : f_Op_operand (pI c 8 5 a) 0 = 19 := o1.trans e
  have b1 : 1 ≤ (sA r 30 (p + 1)).toInt := by have z := (hv.2 0 (by rw [wo_19]; decide)).1; rw [le_19_0] at z; exact z
  have b1' : (sA r 30 (p + 1)).toInt ≤ 8 := by have z := (hv.2 0 (by rw [wo_19]; decide)).2; rw [mo_19_0] at z; exact z
  have b2 : (sA r 30 (p + 2)).toInt ≤ (if (sA r 30 (p + 1)).toInt = 6 ∨ (sA r 30 (p + 1)).toInt = 7 then 3 else 7) := by have z := (hv.2 1 (by rw [wo_19]; decide)).2; rw [mo_19_1, mo_f] at z; exact z
  have b3 : (sA r 30 (p + 3)).toInt ≤ 15 := by have z := (hv.2 2 (by rw [wo_19]; decide)).2; rw [mo_19_2] at z; exact z
  have b4 : (sA r 30 (p + 4)).toInt ≤ 7 := by have z := (hv.2 3 (by rw [wo_19]; decide)).2; rw [mo_19_3] at z; exact z
  obtain ⟨x1, x2, x3⟩ := op_19 (fu := fu) h hz hc hq hp b1 b1' b2 b3 b4
  rw [e, pf_19 o1, ma_19]
  exact ⟨x1, pw_19 o1 o2 x2, mw_19 x3⟩
theorem wo_20 : (f_M_wholeOf 20).toInt = 5 := by decide +kernel
theorem le_20_0 : (f_M_leastOf 20 (nI 0)).toInt = 1 := by decide +kernel
theorem mo_20_0 (x : Int32) : f_M_mostOf 20 (nI 0) x = 8 := by
  unfold f_M_mostOf
  rw [show cn1 .ne (nI 0) = false from rfl, cond_false]
  unfold t_M_mostOf_5
  exact (if_neg (by decide)).trans ((if_neg (by decide)).trans ((if_neg (by decide)).trans ((if_neg (by decide)).trans ((if_neg (by decide)).trans ((if_neg (by decide)).trans ((if_neg (by decide)).trans ((if_neg (by decide)).trans ((if_neg (by decide)).trans ((if_neg (by decide)).trans ((if_neg (by decide)).trans ((if_neg (by decide)).trans ((if_neg (by decide)).trans ((if_neg (by decide)).trans ((if_neg (by decide)).trans ((if_neg (by decide)).trans ((if_neg (by decide)).trans ((if_neg (by decide)).trans ((if_neg (by decide)).trans ((if_pos rfl).trans rfl)))))))))))))))))))
theorem mo_20_1 (x : Int32) : f_M_mostOf 20 (nI 1) x = 15 := by
  unfold f_M_mostOf
  rw [show cn1 .ne (nI 1) = true from rfl, cond_true]
  unfold t_M_mostOf_5
  exact (if_neg (by decide)).trans ((if_neg (by decide)).trans ((if_neg (by decide)).trans ((if_neg (by decide)).trans ((if_neg (by decide)).trans ((if_neg (by decide)).trans ((if_neg (by decide)).trans ((if_neg (by decide)).trans ((if_neg (by decide)).trans ((if_neg (by decide)).trans ((if_neg (by decide)).trans ((if_neg (by decide)).trans ((if_neg (by decide)).trans ((if_neg (by decide)).trans ((if_neg (by decide)).trans ((if_neg (by decide)).trans ((if_neg (by decide)).trans ((if_neg (by decide)).trans ((if_neg (by decide)).trans ((if_pos rfl).trans rfl)))))))))))))))))))
theorem mo_20_2 (x : Int32) : f_M_mostOf 20 (nI 2) x = 7 := by
  unfold f_M_mostOf
  rw [show cn1 .ne (nI 2) = true from rfl, cond_true]
  unfold t_M_mostOf_5
  exact (if_neg (by decide)).trans ((if_neg (by decide)).trans ((if_neg (by decide)).trans ((if_neg (by decide)).trans ((if_neg (by decide)).trans ((if_neg (by decide)).trans ((if_neg (by decide)).trans ((if_neg (by decide)).trans ((if_neg (by decide)).trans ((if_neg (by decide)).trans ((if_neg (by decide)).trans ((if_neg (by decide)).trans ((if_neg (by decide)).trans ((if_neg (by decide)).trans ((if_neg (by decide)).trans ((if_neg (by decide)).trans ((if_neg (by decide)).trans ((if_neg (by decide)).trans ((if_neg (by decide)).trans ((if_pos rfl).trans rfl)))))))))))))))))))
theorem mo_20_3 (x : Int32) : f_M_mostOf 20 (nI 3) x = cond (cn2 .eq x 6) (3 : Int32) (cond (cn2 .ne x 7) 7 3) := by
  unfold f_M_mostOf
  rw [show cn1 .ne (nI 3) = true from rfl, cond_true]
  unfold t_M_mostOf_5
  exact (if_neg (by decide)).trans ((if_neg (by decide)).trans ((if_neg (by decide)).trans ((if_neg (by decide)).trans ((if_neg (by decide)).trans ((if_neg (by decide)).trans ((if_neg (by decide)).trans ((if_neg (by decide)).trans ((if_neg (by decide)).trans ((if_neg (by decide)).trans ((if_neg (by decide)).trans ((if_neg (by decide)).trans ((if_neg (by decide)).trans ((if_neg (by decide)).trans ((if_neg (by decide)).trans ((if_neg (by decide)).trans ((if_neg (by decide)).trans ((if_neg (by decide)).trans ((if_neg (by decide)).trans ((if_pos rfl).trans rfl)))))))))))))))))))
theorem oa_20 (hfu : 1000000 ≤ fu) (h : RR G T φ n u (pI c 8 5 a) r) (hz : SZ (pI c 8 5 a)) (hc : CDH r p (pI c 8 5 a)) (hq : q.toInt = (p : Int) + 1) (hv : OV r p) (e : sA r 30 p = 20) : OUT G T φ n (pI c 8 5 a) r (f_Op_perform fu c a) (f_M_act fu r (sA r 30 p) q) ∧ w_Op_perform fu c a ∧ w_M_act fu r (sA r 30 p) q := by
  replace hv := hv.at e
  have hp : p + 5 ≤ 3200 := by have z := hv.1; rw [wo_20] at z; omega
  obtain ⟨o1, o2⟩ := o_opn (k := 0) (j := 0) hc rfl (by omega)
  replace o1 : f_Op_operand (pI c 8 5 a) 0 = 20 := o1.trans e
  have b1 : 1 ≤ (sA r 30 (p + 1)).toInt := by have z := (hv.2 0 (by rw [wo_20]; decide)).1; rw [le_20_0] at z; exact z
  have b1' : (sA r 30 (p + 1)).toInt ≤ 8 := by have z := (hv.2 0 (by rw [wo_20]; decide)).2; rw [mo_20_0] at z; exact z
  have b2 : (sA r 30 (p + 2)).toInt ≤ 15 := by have z := (hv.2 1 (by rw [wo_20]; decide)).2; rw [mo_20_1] at z; exact z
  have b3 : (sA r 30 (p + 3)).toInt ≤ 7 := by have z := (hv.2 2 (by rw [wo_20]; decide)).2; rw [mo_20_2] at z; exact z
  have b4 : (sA r 30 (p + 4)).toInt ≤ (if (sA r 30 (p + 1)).toInt = 6 ∨ (sA r 30 (p + 1)).toInt = 7 then 3 else 7) := by have z := (hv.2 3 (by rw [wo_20]; decide)).2; rw [mo_20_3, mo_f] at z; exact z
  obtain ⟨x1, x2, x3⟩ := op_20 (fu := fu) h hz hc hq hp b1 b1' b2 b3 b4
  rw [e, pf_20 o1, ma_20]
  exact ⟨x1, pw_20 o1 o2 x2, mw_20 x3⟩
theorem wo_21 : (f_M_wholeOf 21).toInt = 6 := by decide +kernel
theorem mo_21_0 (x : Int32) : f_M_mostOf 21 (nI 0) x = 15 := by
  unfold f_M_mostOf
  rw [show cn1 .ne (nI 0) = false from rfl, cond_false]
  unfold t_M_mostOf_5
  exact (if_neg (by decide)).trans ((if_neg (by decide)).trans ((if_neg (by decide)).trans ((if_neg (by decide)).trans ((if_neg (by decide)).trans ((if_neg (by decide)).trans ((if_neg (by decide)).trans ((if_neg (by decide)).trans ((if_neg (by decide)).trans ((if_neg (by decide)).trans ((if_neg (by decide)).trans ((if_neg (by decide)).trans ((if_neg (by decide)).trans ((if_neg (by decide)).trans ((if_neg (by decide)).trans ((if_neg (by decide)).trans ((if_neg (by decide)).trans ((if_neg (by decide)).trans ((if_neg (by decide)).trans ((if_neg (by decide)).trans ((if_pos rfl).trans rfl))))))))))))))))))))
theorem mo_21_1 (x : Int32) : f_M_mostOf 21 (nI 1) x = 7 := by
  unfold f_M_mostOf
  rw [show cn1 .ne (nI 1) = true from rfl, cond_true]
  unfold t_M_mostOf_5
  exact (if_neg (by decide)).trans ((if_neg (by decide)).trans ((if_neg (by decide)).trans ((if_neg (by decide)).trans ((if_neg (by decide)).trans ((if_neg (by decide)).trans ((if_neg (by decide)).trans ((if_neg (by decide)).trans ((if_neg (by decide)).trans ((if_neg (by decide)).trans ((if_neg (by decide)).trans ((if_neg (by decide)).trans ((if_neg (by decide)).trans ((if_neg (by decide)).trans ((if_neg (by decide)).trans ((if_neg (by decide)).trans ((if_neg (by decide)).trans ((if_neg (by decide)).trans ((if_neg (by decide)).trans ((if_neg (by decide)).trans ((if_pos rfl).trans rfl))))))))))))))))))))
theorem mo_21_2 (x : Int32) : f_M_mostOf 21 (nI 2) x = 15 := by
  unfold f_M_mostOf
  rw [show cn1 .ne (nI 2) = true from rfl, cond_true]
  unfold t_M_mostOf_5
  exact (if_neg (by decide)).trans ((if_neg (by decide)).trans ((if_neg (by decide)).trans ((if_neg (by decide)).trans ((if_neg (by decide)).trans ((if_neg (by decide)).trans ((if_neg (by decide)).trans ((if_neg (by decide)).trans ((if_neg (by decide)).trans ((if_neg (by decide)).trans ((if_neg (by decide)).trans ((if_neg (by decide)).trans ((if_neg (by decide)).trans ((if_neg (by decide)).trans ((if_neg (by decide)).trans ((if_neg (by decide)).trans ((if_neg (by decide)).trans ((if_neg (by decide)).trans ((if_neg (by decide)).trans ((if_neg (by decide)).trans ((if_pos rfl).trans rfl))))))))))))))))))))
theorem mo_21_3 (x : Int32) : f_M_mostOf 21 (nI 3) x = 7 := by
  unfold f_M_mostOf
  rw [show cn1 .ne (nI 3) = true from rfl, cond_true]
  unfold t_M_mostOf_5
  exact (if_neg (by decide)).trans ((if_neg (by decide)).trans ((if_neg (by decide)).trans ((if_neg (by decide)).trans ((if_neg (by decide)).trans ((if_neg (by decide)).trans ((if_neg (by decide)).trans ((if_neg (by decide)).trans ((if_neg (by decide)).trans ((if_neg (by decide)).trans ((if_neg (by decide)).trans ((if_neg (by decide)).trans ((if_neg (by decide)).trans ((if_neg (by decide)).trans ((if_neg (by decide)).trans ((if_neg (by decide)).trans ((if_neg (by decide)).trans ((if_neg (by decide)).trans ((if_neg (by decide)).trans ((if_neg (by decide)).trans ((if_pos rfl).trans rfl))))))))))))))))))))
theorem mo_21_4 (x : Int32) : f_M_mostOf 21 (nI 4) x = 7 := by
  unfold f_M_mostOf
  rw [show cn1 .ne (nI 4) = true from rfl, cond_true]
  unfold t_M_mostOf_5
  exact (if_neg (by decide)).trans ((if_neg (by decide)).trans ((if_neg (by decide)).trans ((if_neg (by decide)).trans ((if_neg (by decide)).trans ((if_neg (by decide)).trans ((if_neg (by decide)).trans ((if_neg (by decide)).trans ((if_neg (by decide)).trans ((if_neg (by decide)).trans ((if_neg (by decide)).trans ((if_neg (by decide)).trans ((if_neg (by decide)).trans ((if_neg (by decide)).trans ((if_neg (by decide)).trans ((if_neg (by decide)).trans ((if_neg (by decide)).trans ((if_neg (by decide)).trans ((if_neg (by decide)).trans ((if_neg (by decide)).trans ((if_pos rfl).trans rfl))))))))))))))))))))
theorem oa_21 (hfu : 1000000 ≤ fu) (h : RR G T φ n u (pI c 8 5 a) r) (hz : SZ (pI c 8 5 a)) (hc : CDH r p (pI c 8 5 a)) (hq : q.toInt = (p : Int) + 1) (hv : OV r p) (e : sA r 30 p = 21) : OUT G T φ n (pI c 8 5 a) r (f_Op_perform fu c a) (f_M_act fu r (sA r 30 p) q) ∧ w_Op_perform fu c a ∧ w_M_act fu r (sA r 30 p) q := by
  replace hv := hv.at e
  have hp : p + 6 ≤ 3200 := by have z := hv.1; rw [wo_21] at z; omega
  obtain ⟨o1, o2⟩ := o_opn (k := 0) (j := 0) hc rfl (by omega)
  replace o1 : f_Op_operand (pI c 8 5 a) 0 = 21 := o1.trans e
  have b1 : (sA r 30 (p + 1)).toInt ≤ 15 := by have z := (hv.2 0 (by rw [wo_21]; decide)).2; rw [mo_21_0] at z; exact z
  have b2 : (sA r 30 (p + 2)).toInt ≤ 7 := by have z := (hv.2 1 (by rw [wo_21]; decide)).2; rw [mo_21_1] at z; exact z
  have b3 : (sA r 30 (p + 3)).toInt ≤ 15 := by have z := (hv.2 2 (by rw [wo_21]; decide)).2; rw [mo_21_2] at z; exact z
  have b4 : (sA r 30 (p + 4)).toInt ≤ 7 := by have z := (hv.2 3 (by rw [wo_21]; decide)).2; rw [mo_21_3] at z; exact z
  have b5 : (sA r 30 (p + 5)).toInt ≤ 7 := by have z := (hv.2 4 (by rw [wo_21]; decide)).2; rw [mo_21_4] at z; exact z
  obtain ⟨x1, x2, x3⟩ := op_21 (fu := fu) (by omega) h hz hc hq hp b1 b2 b3 b4 b5
  rw [e, pf_21 o1, ma_21]
  exact ⟨x1, pw_21 o1 o2 x2, mw_21 x3⟩
theorem wo_22 : (f_M_wholeOf 22).toInt = 3 := by decide +kernel
theorem mo_22_0 (x : Int32) : f_M_mostOf 22 (nI 0) x = 15 := by
  unfold f_M_mostOf
  rw [show cn1 .ne (nI 0) = false from rfl, cond_false]
  unfold t_M_mostOf_5
  exact (if_neg (by decide)).trans ((if_neg (by decide)).trans ((if_neg (by decide)).trans ((if_neg (by decide)).trans ((if_neg (by decide)).trans ((if_neg (by decide)).trans ((if_neg (by decide)).trans ((if_neg (by decide)).trans ((if_neg (by decide)).trans ((if_neg (by decide)).trans ((if_neg (by decide)).trans ((if_neg (by decide)).trans ((if_neg (by decide)).trans ((if_neg (by decide)).trans ((if_neg (by decide)).trans ((if_neg (by decide)).trans ((if_neg (by decide)).trans ((if_neg (by decide)).trans ((if_neg (by decide)).trans ((if_neg (by decide)).trans ((if_neg (by decide)).trans ((if_pos rfl).trans rfl)))))))))))))))))))))
theorem mo_22_1 (x : Int32) : f_M_mostOf 22 (nI 1) x = 15 := by
  unfold f_M_mostOf
  rw [show cn1 .ne (nI 1) = true from rfl, cond_true]
  unfold t_M_mostOf_5
  exact (if_neg (by decide)).trans ((if_neg (by decide)).trans ((if_neg (by decide)).trans ((if_neg (by decide)).trans ((if_neg (by decide)).trans ((if_neg (by decide)).trans ((if_neg (by decide)).trans ((if_neg (by decide)).trans ((if_neg (by decide)).trans ((if_neg (by decide)).trans ((if_neg (by decide)).trans ((if_neg (by decide)).trans ((if_neg (by decide)).trans ((if_neg (by decide)).trans ((if_neg (by decide)).trans ((if_neg (by decide)).trans ((if_neg (by decide)).trans ((if_neg (by decide)).trans ((if_neg (by decide)).trans ((if_neg (by decide)).trans ((if_neg (by decide)).trans ((if_pos rfl).trans rfl)))))))))))))))))))))
theorem oa_22 (hfu : 1000000 ≤ fu) (h : RR G T φ n u (pI c 8 5 a) r) (hz : SZ (pI c 8 5 a)) (hc : CDH r p (pI c 8 5 a)) (hq : q.toInt = (p : Int) + 1) (hv : OV r p) (e : sA r 30 p = 22) : OUT G T φ n (pI c 8 5 a) r (f_Op_perform fu c a) (f_M_act fu r (sA r 30 p) q) ∧ w_Op_perform fu c a ∧ w_M_act fu r (sA r 30 p) q := by
  replace hv := hv.at e
  have hp : p + 3 ≤ 3200 := by have z := hv.1; rw [wo_22] at z; omega
  obtain ⟨o1, o2⟩ := o_opn (k := 0) (j := 0) hc rfl (by omega)
  replace o1 : f_Op_operand (pI c 8 5 a) 0 = 22 := o1.trans e
  have b1 : (sA r 30 (p + 1)).toInt ≤ 15 := by have z := (hv.2 0 (by rw [wo_22]; decide)).2; rw [mo_22_0] at z; exact z
  have b2 : (sA r 30 (p + 2)).toInt ≤ 15 := by have z := (hv.2 1 (by rw [wo_22]; decide)).2; rw [mo_22_1] at z; exact z
  obtain ⟨x1, x2, x3⟩ := op_22 (fu := fu) (by omega) h hz hc hq hp b1 b2
  rw [e, pf_22 o1, ma_22]
  exact ⟨x1, pw_22 o1 o2 x2, mw_22 x3⟩
theorem wo_23 : (f_M_wholeOf 23).toInt = 4 := by decide +kernel
theorem mo_23_0 (x : Int32) : f_M_mostOf 23 (nI 0) x = 15 := by
  unfold f_M_mostOf
  rw [show cn1 .ne (nI 0) = false from rfl, cond_false]
  unfold t_M_mostOf_5
  exact (if_neg (by decide)).trans ((if_neg (by decide)).trans ((if_neg (by decide)).trans ((if_neg (by decide)).trans ((if_neg (by decide)).trans ((if_neg (by decide)).trans ((if_neg (by decide)).trans ((if_neg (by decide)).trans ((if_neg (by decide)).trans ((if_neg (by decide)).trans ((if_neg (by decide)).trans ((if_neg (by decide)).trans ((if_neg (by decide)).trans ((if_neg (by decide)).trans ((if_neg (by decide)).trans ((if_neg (by decide)).trans ((if_neg (by decide)).trans ((if_neg (by decide)).trans ((if_neg (by decide)).trans ((if_neg (by decide)).trans ((if_neg (by decide)).trans ((if_neg (by decide)).trans ((if_pos rfl).trans rfl))))))))))))))))))))))
theorem mo_23_1 (x : Int32) : f_M_mostOf 23 (nI 1) x = 15 := by
  unfold f_M_mostOf
  rw [show cn1 .ne (nI 1) = true from rfl, cond_true]
  unfold t_M_mostOf_5
  exact (if_neg (by decide)).trans ((if_neg (by decide)).trans ((if_neg (by decide)).trans ((if_neg (by decide)).trans ((if_neg (by decide)).trans ((if_neg (by decide)).trans ((if_neg (by decide)).trans ((if_neg (by decide)).trans ((if_neg (by decide)).trans ((if_neg (by decide)).trans ((if_neg (by decide)).trans ((if_neg (by decide)).trans ((if_neg (by decide)).trans ((if_neg (by decide)).trans ((if_neg (by decide)).trans ((if_neg (by decide)).trans ((if_neg (by decide)).trans ((if_neg (by decide)).trans ((if_neg (by decide)).trans ((if_neg (by decide)).trans ((if_neg (by decide)).trans ((if_neg (by decide)).trans ((if_pos rfl).trans rfl))))))))))))))))))))))
theorem mo_23_2 (x : Int32) : f_M_mostOf 23 (nI 2) x = 7 := by
  unfold f_M_mostOf
  rw [show cn1 .ne (nI 2) = true from rfl, cond_true]
  unfold t_M_mostOf_5
  exact (if_neg (by decide)).trans ((if_neg (by decide)).trans ((if_neg (by decide)).trans ((if_neg (by decide)).trans ((if_neg (by decide)).trans ((if_neg (by decide)).trans ((if_neg (by decide)).trans ((if_neg (by decide)).trans ((if_neg (by decide)).trans ((if_neg (by decide)).trans ((if_neg (by decide)).trans ((if_neg (by decide)).trans ((if_neg (by decide)).trans ((if_neg (by decide)).trans ((if_neg (by decide)).trans ((if_neg (by decide)).trans ((if_neg (by decide)).trans ((if_neg (by decide)).trans ((if_neg (by decide)).trans ((if_neg (by decide)).trans ((if_neg (by decide)).trans ((if_neg (by decide)).trans ((if_pos rfl).trans rfl))))))))))))))))))))))
theorem oa_23 (hfu : 1000000 ≤ fu) (h : RR G T φ n u (pI c 8 5 a) r) (hz : SZ (pI c 8 5 a)) (hc : CDH r p (pI c 8 5 a)) (hq : q.toInt = (p : Int) + 1) (hv : OV r p) (e : sA r 30 p = 23) : OUT G T φ n (pI c 8 5 a) r (f_Op_perform fu c a) (f_M_act fu r (sA r 30 p) q) ∧ w_Op_perform fu c a ∧ w_M_act fu r (sA r 30 p) q := by
  replace hv := hv.at e
  have hp : p + 4 ≤ 3200 := by have z := hv.1; rw [wo_23] at z; omega
  obtain ⟨o1, o2⟩ := o_opn (k := 0) (j := 0) hc rfl (by omega)
  replace o1 : f_Op_operand (pI c 8 5 a) 0 = 23 := o1.trans e
  have b1 : (sA r 30 (p + 1)).toInt ≤ 15 := by have z := (hv.2 0 (by rw [wo_23]; decide)).2; rw [mo_23_0] at z; exact z
  have b2 : (sA r 30 (p + 2)).toInt ≤ 15 := by have z := (hv.2 1 (by rw [wo_23]; decide)).2; rw [mo_23_1] at z; exact z
  have b3 : (sA r 30 (p + 3)).toInt ≤ 7 := by have z := (hv.2 2 (by rw [wo_23]; decide)).2; rw [mo_23_2] at z; exact z
  obtain ⟨x1, x2, x3⟩ := op_23 h hz hc hq hp b1 b2 b3
  rw [e, pf_23 o1, ma_23]
  exact ⟨x1, pw_23 o1 o2 x2, mw_23 x3⟩
theorem wo_24 : (f_M_wholeOf 24).toInt = 4 := by decide +kernel
theorem mo_24_0 (x : Int32) : f_M_mostOf 24 (nI 0) x = 15 := by
  unfold f_M_mostOf
  rw [show cn1 .ne (nI 0) = false from rfl, cond_false]
  unfold t_M_mostOf_5
  exact (if_neg (by decide)).trans ((if_neg (by decide)).trans ((if_neg (by decide)).trans ((if_neg (by decide)).trans ((if_neg (by decide)).trans ((if_neg (by decide)).trans ((if_neg (by decide)).trans ((if_neg (by decide)).trans ((if_neg (by decide)).trans ((if_neg (by decide)).trans ((if_neg (by decide)).trans ((if_neg (by decide)).trans ((if_neg (by decide)).trans ((if_neg (by decide)).trans ((if_neg (by decide)).trans ((if_neg (by decide)).trans ((if_neg (by decide)).trans ((if_neg (by decide)).trans ((if_neg (by decide)).trans ((if_neg (by decide)).trans ((if_neg (by decide)).trans ((if_neg (by decide)).trans ((if_neg (by decide)).trans ((if_pos rfl).trans rfl)))))))))))))))))))))))
theorem mo_24_1 (x : Int32) : f_M_mostOf 24 (nI 1) x = 7 := by
  unfold f_M_mostOf
  rw [show cn1 .ne (nI 1) = true from rfl, cond_true]
  unfold t_M_mostOf_5
  exact (if_neg (by decide)).trans ((if_neg (by decide)).trans ((if_neg (by decide)).trans ((if_neg (by decide)).trans ((if_neg (by decide)).trans ((if_neg (by decide)).trans ((if_neg (by decide)).trans ((if_neg (by decide)).trans ((if_neg (by decide)).trans ((if_neg (by decide)).trans ((if_neg (by decide)).trans ((if_neg (by decide)).trans ((if_neg (by decide)).trans ((if_neg (by decide)).trans ((if_neg (by decide)).trans ((if_neg (by decide)).trans ((if_neg (by decide)).trans ((if_neg (by decide)).trans ((if_neg (by decide)).trans ((if_neg (by decide)).trans ((if_neg (by decide)).trans ((if_neg (by decide)).trans ((if_neg (by decide)).trans ((if_pos rfl).trans rfl)))))))))))))))))))))))
theorem mo_24_2 (x : Int32) : f_M_mostOf 24 (nI 2) x = 15 := by
  unfold f_M_mostOf
  rw [show cn1 .ne (nI 2) = true from rfl, cond_true]
  unfold t_M_mostOf_5
  exact (if_neg (by decide)).trans ((if_neg (by decide)).trans ((if_neg (by decide)).trans ((if_neg (by decide)).trans ((if_neg (by decide)).trans ((if_neg (by decide)).trans ((if_neg (by decide)).trans ((if_neg (by decide)).trans ((if_neg (by decide)).trans ((if_neg (by decide)).trans ((if_neg (by decide)).trans ((if_neg (by decide)).trans ((if_neg (by decide)).trans ((if_neg (by decide)).trans ((if_neg (by decide)).trans ((if_neg (by decide)).trans ((if_neg (by decide)).trans ((if_neg (by decide)).trans ((if_neg (by decide)).trans ((if_neg (by decide)).trans ((if_neg (by decide)).trans ((if_neg (by decide)).trans ((if_neg (by decide)).trans ((if_pos rfl).trans rfl)))))))))))))))))))))))
theorem oa_24 (hfu : 1000000 ≤ fu) (h : RR G T φ n u (pI c 8 5 a) r) (hz : SZ (pI c 8 5 a)) (hc : CDH r p (pI c 8 5 a)) (hq : q.toInt = (p : Int) + 1) (hv : OV r p) (e : sA r 30 p = 24) : OUT G T φ n (pI c 8 5 a) r (f_Op_perform fu c a) (f_M_act fu r (sA r 30 p) q) ∧ w_Op_perform fu c a ∧ w_M_act fu r (sA r 30 p) q := by
  replace hv := hv.at e
  have hp : p + 4 ≤ 3200 := by have z := hv.1; rw [wo_24] at z; omega
  obtain ⟨o1, o2⟩ := o_opn (k := 0) (j := 0) hc rfl (by omega)
  replace o1 : f_Op_operand (pI c 8 5 a) 0 = 24 := o1.trans e
  have b1 : (sA r 30 (p + 1)).toInt ≤ 15 := by have z := (hv.2 0 (by rw [wo_24]; decide)).2; rw [mo_24_0] at z; exact z
  have b2 : (sA r 30 (p + 2)).toInt ≤ 7 := by have z := (hv.2 1 (by rw [wo_24]; decide)).2; rw [mo_24_1] at z; exact z
  have b3 : (sA r 30 (p + 3)).toInt ≤ 15 := by have z := (hv.2 2 (by rw [wo_24]; decide)).2; rw [mo_24_2] at z; exact z
  obtain ⟨x1, x2, x3⟩ := op_24 h hz hc hq hp b1 b2 b3
  rw [e, pf_24 o1, ma_24]
  exact ⟨x1, pw_24 o1 o2 x2, mw_24 x3⟩
theorem wo_25 : (f_M_wholeOf 25).toInt = 4 := by decide +kernel
theorem mo_25_0 (x : Int32) : f_M_mostOf 25 (nI 0) x = 15 := by
  unfold f_M_mostOf
  rw [show cn1 .ne (nI 0) = false from rfl, cond_false]
  unfold t_M_mostOf_5
  exact (if_neg (by decide)).trans ((if_neg (by decide)).trans ((if_neg (by decide)).trans ((if_neg (by decide)).trans ((if_neg (by decide)).trans ((if_neg (by decide)).trans ((if_neg (by decide)).trans ((if_neg (by decide)).trans ((if_neg (by decide)).trans ((if_neg (by decide)).trans ((if_neg (by decide)).trans ((if_neg (by decide)).trans ((if_neg (by decide)).trans ((if_neg (by decide)).trans ((if_neg (by decide)).trans ((if_neg (by decide)).trans ((if_neg (by decide)).trans ((if_neg (by decide)).trans ((if_neg (by decide)).trans ((if_neg (by decide)).trans ((if_neg (by decide)).trans ((if_neg (by decide)).trans ((if_neg (by decide)).trans ((if_neg (by decide)).trans ((if_pos rfl).trans rfl))))))))))))))))))))))))
theorem mo_25_1 (x : Int32) : f_M_mostOf 25 (nI 1) x = 15 := by
  unfold f_M_mostOf
  rw [show cn1 .ne (nI 1) = true from rfl, cond_true]
  unfold t_M_mostOf_5
  exact (if_neg (by decide)).trans ((if_neg (by decide)).trans ((if_neg (by decide)).trans ((if_neg (by decide)).trans ((if_neg (by decide)).trans ((if_neg (by decide)).trans ((if_neg (by decide)).trans ((if_neg (by decide)).trans ((if_neg (by decide)).trans ((if_neg (by decide)).trans ((if_neg (by decide)).trans ((if_neg (by decide)).trans ((if_neg (by decide)).trans ((if_neg (by decide)).trans ((if_neg (by decide)).trans ((if_neg (by decide)).trans ((if_neg (by decide)).trans ((if_neg (by decide)).trans ((if_neg (by decide)).trans ((if_neg (by decide)).trans ((if_neg (by decide)).trans ((if_neg (by decide)).trans ((if_neg (by decide)).trans ((if_neg (by decide)).trans ((if_pos rfl).trans rfl))))))))))))))))))))))))
theorem mo_25_2 (x : Int32) : f_M_mostOf 25 (nI 2) x = 7 := by
  unfold f_M_mostOf
  rw [show cn1 .ne (nI 2) = true from rfl, cond_true]
  unfold t_M_mostOf_5
  exact (if_neg (by decide)).trans ((if_neg (by decide)).trans ((if_neg (by decide)).trans ((if_neg (by decide)).trans ((if_neg (by decide)).trans ((if_neg (by decide)).trans ((if_neg (by decide)).trans ((if_neg (by decide)).trans ((if_neg (by decide)).trans ((if_neg (by decide)).trans ((if_neg (by decide)).trans ((if_neg (by decide)).trans ((if_neg (by decide)).trans ((if_neg (by decide)).trans ((if_neg (by decide)).trans ((if_neg (by decide)).trans ((if_neg (by decide)).trans ((if_neg (by decide)).trans ((if_neg (by decide)).trans ((if_neg (by decide)).trans ((if_neg (by decide)).trans ((if_neg (by decide)).trans ((if_neg (by decide)).trans ((if_neg (by decide)).trans ((if_pos rfl).trans rfl))))))))))))))))))))))))
theorem oa_25 (hfu : 1000000 ≤ fu) (h : RR G T φ n u (pI c 8 5 a) r) (hz : SZ (pI c 8 5 a)) (hc : CDH r p (pI c 8 5 a)) (hq : q.toInt = (p : Int) + 1) (hv : OV r p) (e : sA r 30 p = 25) : OUT G T φ n (pI c 8 5 a) r (f_Op_perform fu c a) (f_M_act fu r (sA r 30 p) q) ∧ w_Op_perform fu c a ∧ w_M_act fu r (sA r 30 p) q := by
  replace hv := hv.at e
  have hp : p + 4 ≤ 3200 := by have z := hv.1; rw [wo_25] at z; omega
  obtain ⟨o1, o2⟩ := o_opn (k := 0) (j := 0) hc rfl (by omega)
  replace o1 : f_Op_operand (pI c 8 5 a) 0 = 25 := o1.trans e
  have b1 : (sA r 30 (p + 1)).toInt ≤ 15 := by have z := (hv.2 0 (by rw [wo_25]; decide)).2; rw [mo_25_0] at z; exact z
  have b2 : (sA r 30 (p + 2)).toInt ≤ 15 := by have z := (hv.2 1 (by rw [wo_25]; decide)).2; rw [mo_25_1] at z; exact z
  have b3 : (sA r 30 (p + 3)).toInt ≤ 7 := by have z := (hv.2 2 (by rw [wo_25]; decide)).2; rw [mo_25_2] at z; exact z
  obtain ⟨x1, x2, x3⟩ := op_25 h hz hc hq hp b1 b2 b3
  rw [e, pf_25 o1, ma_25]
  exact ⟨x1, pw_25 o1 o2 x2, mw_25 x3⟩
theorem wo_26 : (f_M_wholeOf 26).toInt = 4 := by decide +kernel
theorem mo_26_0 (x : Int32) : f_M_mostOf 26 (nI 0) x = 15 := by
  unfold f_M_mostOf
  rw [show cn1 .ne (nI 0) = false from rfl, cond_false]
  unfold t_M_mostOf_5
  exact (if_neg (by decide)).trans ((if_neg (by decide)).trans ((if_neg (by decide)).trans ((if_neg (by decide)).trans ((if_neg (by decide)).trans ((if_neg (by decide)).trans ((if_neg (by decide)).trans ((if_neg (by decide)).trans ((if_neg (by decide)).trans ((if_neg (by decide)).trans ((if_neg (by decide)).trans ((if_neg (by decide)).trans ((if_neg (by decide)).trans ((if_neg (by decide)).trans ((if_neg (by decide)).trans ((if_neg (by decide)).trans ((if_neg (by decide)).trans ((if_neg (by decide)).trans ((if_neg (by decide)).trans ((if_neg (by decide)).trans ((if_neg (by decide)).trans ((if_neg (by decide)).trans ((if_neg (by decide)).trans ((if_neg (by decide)).trans ((if_neg (by decide)).trans ((if_pos rfl).trans rfl)))))))))))))))))))))))))
theorem mo_26_1 (x : Int32) : f_M_mostOf 26 (nI 1) x = 7 := by
  unfold f_M_mostOf
  rw [show cn1 .ne (nI 1) = true from rfl, cond_true]
  unfold t_M_mostOf_5
  exact (if_neg (by decide)).trans ((if_neg (by decide)).trans ((if_neg (by decide)).trans ((if_neg (by decide)).trans ((if_neg (by decide)).trans ((if_neg (by decide)).trans ((if_neg (by decide)).trans ((if_neg (by decide)).trans ((if_neg (by decide)).trans ((if_neg (by decide)).trans ((if_neg (by decide)).trans ((if_neg (by decide)).trans ((if_neg (by decide)).trans ((if_neg (by decide)).trans ((if_neg (by decide)).trans ((if_neg (by decide)).trans ((if_neg (by decide)).trans ((if_neg (by decide)).trans ((if_neg (by decide)).trans ((if_neg (by decide)).trans ((if_neg (by decide)).trans ((if_neg (by decide)).trans ((if_neg (by decide)).trans ((if_neg (by decide)).trans ((if_neg (by decide)).trans ((if_pos rfl).trans rfl)))))))))))))))))))))))))
theorem mo_26_2 (x : Int32) : f_M_mostOf 26 (nI 2) x = 15 := by
  unfold f_M_mostOf
  rw [show cn1 .ne (nI 2) = true from rfl, cond_true]
  unfold t_M_mostOf_5
  exact (if_neg (by decide)).trans ((if_neg (by decide)).trans ((if_neg (by decide)).trans ((if_neg (by decide)).trans ((if_neg (by decide)).trans ((if_neg (by decide)).trans ((if_neg (by decide)).trans ((if_neg (by decide)).trans ((if_neg (by decide)).trans ((if_neg (by decide)).trans ((if_neg (by decide)).trans ((if_neg (by decide)).trans ((if_neg (by decide)).trans ((if_neg (by decide)).trans ((if_neg (by decide)).trans ((if_neg (by decide)).trans ((if_neg (by decide)).trans ((if_neg (by decide)).trans ((if_neg (by decide)).trans ((if_neg (by decide)).trans ((if_neg (by decide)).trans ((if_neg (by decide)).trans ((if_neg (by decide)).trans ((if_neg (by decide)).trans ((if_neg (by decide)).trans ((if_pos rfl).trans rfl)))))))))))))))))))))))))
theorem oa_26 (hfu : 1000000 ≤ fu) (h : RR G T φ n u (pI c 8 5 a) r) (hz : SZ (pI c 8 5 a)) (hc : CDH r p (pI c 8 5 a)) (hq : q.toInt = (p : Int) + 1) (hv : OV r p) (e : sA r 30 p = 26) : OUT G T φ n (pI c 8 5 a) r (f_Op_perform fu c a) (f_M_act fu r (sA r 30 p) q) ∧ w_Op_perform fu c a ∧ w_M_act fu r (sA r 30 p) q := by
  replace hv := hv.at e
  have hp : p + 4 ≤ 3200 := by have z := hv.1; rw [wo_26] at z; omega
  obtain ⟨o1, o2⟩ := o_opn (k := 0) (j := 0) hc rfl (by omega)
  replace o1 : f_Op_operand (pI c 8 5 a) 0 = 26 := o1.trans e
  have b1 : (sA r 30 (p + 1)).toInt ≤ 15 := by have z := (hv.2 0 (by rw [wo_26]; decide)).2; rw [mo_26_0] at z; exact z
  have b2 : (sA r 30 (p + 2)).toInt ≤ 7 := by have z := (hv.2 1 (by rw [wo_26]; decide)).2; rw [mo_26_1] at z; exact z
  have b3 : (sA r 30 (p + 3)).toInt ≤ 15 := by have z := (hv.2 2 (by rw [wo_26]; decide)).2; rw [mo_26_2] at z; exact z
  obtain ⟨x1, x2, x3⟩ := op_26 h hz hc hq hp b1 b2 b3
  rw [e, pf_26 o1, ma_26]
  exact ⟨x1, pw_26 o1 o2 x2, mw_26 x3⟩
theorem wo_27 : (f_M_wholeOf 27).toInt = 4 := by decide +kernel
theorem mo_27_0 (x : Int32) : f_M_mostOf 27 (nI 0) x = 3 := by
  unfold f_M_mostOf
  rw [show cn1 .ne (nI 0) = false from rfl, cond_false]
  unfold t_M_mostOf_5
  exact (if_neg (by decide)).trans ((if_neg (by decide)).trans ((if_neg (by decide)).trans ((if_neg (by decide)).trans ((if_neg (by decide)).trans ((if_neg (by decide)).trans ((if_neg (by decide)).trans ((if_neg (by decide)).trans ((if_neg (by decide)).trans ((if_neg (by decide)).trans ((if_neg (by decide)).trans ((if_neg (by decide)).trans ((if_neg (by decide)).trans ((if_neg (by decide)).trans ((if_neg (by decide)).trans ((if_neg (by decide)).trans ((if_neg (by decide)).trans ((if_neg (by decide)).trans ((if_neg (by decide)).trans ((if_neg (by decide)).trans ((if_neg (by decide)).trans ((if_neg (by decide)).trans ((if_neg (by decide)).trans ((if_neg (by decide)).trans ((if_neg (by decide)).trans ((if_neg (by decide)).trans ((if_pos rfl).trans rfl))))))))))))))))))))))))))
theorem mo_27_1 (x : Int32) : f_M_mostOf 27 (nI 1) x = cond (cn2 .ne x 1) (cond (cn2 .ne x 3) (7 : Int32) 15) 3 := by
  unfold f_M_mostOf
  rw [show cn1 .ne (nI 1) = true from rfl, cond_true]
  unfold t_M_mostOf_5
  exact (if_neg (by decide)).trans ((if_neg (by decide)).trans ((if_neg (by decide)).trans ((if_neg (by decide)).trans ((if_neg (by decide)).trans ((if_neg (by decide)).trans ((if_neg (by decide)).trans ((if_neg (by decide)).trans ((if_neg (by decide)).trans ((if_neg (by decide)).trans ((if_neg (by decide)).trans ((if_neg (by decide)).trans ((if_neg (by decide)).trans ((if_neg (by decide)).trans ((if_neg (by decide)).trans ((if_neg (by decide)).trans ((if_neg (by decide)).trans ((if_neg (by decide)).trans ((if_neg (by decide)).trans ((if_neg (by decide)).trans ((if_neg (by decide)).trans ((if_neg (by decide)).trans ((if_neg (by decide)).trans ((if_neg (by decide)).trans ((if_neg (by decide)).trans ((if_neg (by decide)).trans ((if_pos rfl).trans rfl))))))))))))))))))))))))))
theorem mo_27_2 (x : Int32) : f_M_mostOf 27 (nI 2) x = 15 := by
  unfold f_M_mostOf
  rw [show cn1 .ne (nI 2) = true from rfl, cond_true]
  unfold t_M_mostOf_5
  exact (if_neg (by decide)).trans ((if_neg (by decide)).trans ((if_neg (by decide)).trans ((if_neg (by decide)).trans ((if_neg (by decide)).trans ((if_neg (by decide)).trans ((if_neg (by decide)).trans ((if_neg (by decide)).trans ((if_neg (by decide)).trans ((if_neg (by decide)).trans ((if_neg (by decide)).trans ((if_neg (by decide)).trans ((if_neg (by decide)).trans ((if_neg (by decide)).trans ((if_neg (by decide)).trans ((if_neg (by decide)).trans ((if_neg (by decide)).trans ((if_neg (by decide)).trans ((if_neg (by decide)).trans ((if_neg (by decide)).trans ((if_neg (by decide)).trans ((if_neg (by decide)).trans ((if_neg (by decide)).trans ((if_neg (by decide)).trans ((if_neg (by decide)).trans ((if_neg (by decide)).trans ((if_pos rfl).trans rfl))))))))))))))))))))))))))
theorem oa_27 (hfu : 1000000 ≤ fu) (h : RR G T φ n u (pI c 8 5 a) r) (hz : SZ (pI c 8 5 a)) (hc : CDH r p (pI c 8 5 a)) (hq : q.toInt = (p : Int) + 1) (hv : OV r p) (e : sA r 30 p = 27) : OUT G T φ n (pI c 8 5 a) r (f_Op_perform fu c a) (f_M_act fu r (sA r 30 p) q) ∧ w_Op_perform fu c a ∧ w_M_act fu r (sA r 30 p) q := by
  replace hv := hv.at e
  have hp : p + 4 ≤ 3200 := by have z := hv.1; rw [wo_27] at z; omega
  obtain ⟨o1, o2⟩ := o_opn (k := 0) (j := 0) hc rfl (by omega)
  replace o1 : f_Op_operand (pI c 8 5 a) 0 = 27 := o1.trans e
  have b1 : (sA r 30 (p + 1)).toInt ≤ 3 := by have z := (hv.2 0 (by rw [wo_27]; decide)).2; rw [mo_27_0] at z; exact z
  have b2 : (sA r 30 (p + 2)).toInt ≤ (if (sA r 30 (p + 1)).toInt = 1 then 3 else if (sA r 30 (p + 1)).toInt = 3 then 15 else 7) := by have z := (hv.2 1 (by rw [wo_27]; decide)).2; rw [mo_27_1, mo_g] at z; exact z
  have b3 : (sA r 30 (p + 3)).toInt ≤ 15 := by have z := (hv.2 2 (by rw [wo_27]; decide)).2; rw [mo_27_2] at z; exact z
  obtain ⟨x1, x2, x3⟩ := op_27 h hz hc hq hp b1 b2 b3
  rw [e, pf_27 o1, ma_27]
  exact ⟨x1, pw_27 o1 o2 x2, mw_27 x3⟩
theorem wo_28 : (f_M_wholeOf 28).toInt = 4 := by decide +kernel
theorem mo_28_0 (x : Int32) : f_M_mostOf 28 (nI 0) x = 3 := by
  unfold f_M_mostOf
  rw [show cn1 .ne (nI 0) = false from rfl, cond_false]
  unfold t_M_mostOf_5
  exact (if_neg (by decide)).trans ((if_neg (by decide)).trans ((if_neg (by decide)).trans ((if_neg (by decide)).trans ((if_neg (by decide)).trans ((if_neg (by decide)).trans ((if_neg (by decide)).trans ((if_neg (by decide)).trans ((if_neg (by decide)).trans ((if_neg (by decide)).trans ((if_neg (by decide)).trans ((if_neg (by decide)).trans ((if_neg (by decide)).trans ((if_neg (by decide)).trans ((if_neg (by decide)).trans ((if_neg (by decide)).trans ((if_neg (by decide)).trans ((if_neg (by decide)).trans ((if_neg (by decide)).trans ((if_neg (by decide)).trans ((if_neg (by decide)).trans ((if_neg (by decide)).trans ((if_neg (by decide)).trans ((if_neg (by decide)).trans ((if_neg (by decide)).trans ((if_neg (by decide)).trans ((if_neg (by decide)).trans ((if_pos rfl).trans rfl)))))))))))))))))))))))))))
theorem mo_28_1 (x : Int32) : f_M_mostOf 28 (nI 1) x = 15 := by
  unfold f_M_mostOf
  rw [show cn1 .ne (nI 1) = true from rfl, cond_true]
  unfold t_M_mostOf_5
  exact (if_neg (by decide)).trans ((if_neg (by decide)).trans ((if_neg (by decide)).trans ((if_neg (by decide)).trans ((if_neg (by decide)).trans ((if_neg (by decide)).trans ((if_neg (by decide)).trans ((if_neg (by decide)).trans ((if_neg (by decide)).trans ((if_neg (by decide)).trans ((if_neg (by decide)).trans ((if_neg (by decide)).trans ((if_neg (by decide)).trans ((if_neg (by decide)).trans ((if_neg (by decide)).trans ((if_neg (by decide)).trans ((if_neg (by decide)).trans ((if_neg (by decide)).trans ((if_neg (by decide)).trans ((if_neg (by decide)).trans ((if_neg (by decide)).trans ((if_neg (by decide)).trans ((if_neg (by decide)).trans ((if_neg (by decide)).trans ((if_neg (by decide)).trans ((if_neg (by decide)).trans ((if_neg (by decide)).trans ((if_pos rfl).trans rfl)))))))))))))))))))))))))))
theorem mo_28_2 (x : Int32) : f_M_mostOf 28 (nI 2) x = cond (cn2 .ne x 1) (cond (cn2 .ne x 3) (7 : Int32) 15) 3 := by
  unfold f_M_mostOf
  rw [show cn1 .ne (nI 2) = true from rfl, cond_true]
  unfold t_M_mostOf_5
  exact (if_neg (by decide)).trans ((if_neg (by decide)).trans ((if_neg (by decide)).trans ((if_neg (by decide)).trans ((if_neg (by decide)).trans ((if_neg (by decide)).trans ((if_neg (by decide)).trans ((if_neg (by decide)).trans ((if_neg (by decide)).trans ((if_neg (by decide)).trans ((if_neg (by decide)).trans ((if_neg (by decide)).trans ((if_neg (by decide)).trans ((if_neg (by decide)).trans ((if_neg (by decide)).trans ((if_neg (by decide)).trans ((if_neg (by decide)).trans ((if_neg (by decide)).trans ((if_neg (by decide)).trans ((if_neg (by decide)).trans ((if_neg (by decide)).trans ((if_neg (by decide)).trans ((if_neg (by decide)).trans ((if_neg (by decide)).trans ((if_neg (by decide)).trans ((if_neg (by decide)).trans ((if_neg (by decide)).trans ((if_pos rfl).trans rfl)))))))))))))))))))))))))))
theorem oa_28 (hfu : 1000000 ≤ fu) (h : RR G T φ n u (pI c 8 5 a) r) (hz : SZ (pI c 8 5 a)) (hc : CDH r p (pI c 8 5 a)) (hq : q.toInt = (p : Int) + 1) (hv : OV r p) (e : sA r 30 p = 28) : OUT G T φ n (pI c 8 5 a) r (f_Op_perform fu c a) (f_M_act fu r (sA r 30 p) q) ∧ w_Op_perform fu c a ∧ w_M_act fu r (sA r 30 p) q := by
  replace hv := hv.at e
  have hp : p + 4 ≤ 3200 := by have z := hv.1; rw [wo_28] at z; omega
  obtain ⟨o1, o2⟩ := o_opn (k := 0) (j := 0) hc rfl (by omega)
  replace o1 : f_Op_operand (pI c 8 5 a) 0 = 28 := o1.trans e
  have b1 : (sA r 30 (p + 1)).toInt ≤ 3 := by have z := (hv.2 0 (by rw [wo_28]; decide)).2; rw [mo_28_0] at z; exact z
  have b2 : (sA r 30 (p + 2)).toInt ≤ 15 := by have z := (hv.2 1 (by rw [wo_28]; decide)).2; rw [mo_28_1] at z; exact z
  have b3 : (sA r 30 (p + 3)).toInt ≤ (if (sA r 30 (p + 1)).toInt = 1 then 3 else if (sA r 30 (p + 1)).toInt = 3 then 15 else 7) := by have z := (hv.2 2 (by rw [wo_28]; decide)).2; rw [mo_28_2, mo_g] at z; exact z
  obtain ⟨x1, x2, x3⟩ := op_28 h hz hc hq hp b1 b2 b3
  rw [e, pf_28 o1, ma_28]
  exact ⟨x1, pw_28 o1 o2 x2, mw_28 x3⟩
theorem wo_29 : (f_M_wholeOf 29).toInt = 5 := by decide +kernel
theorem mo_29_0 (x : Int32) : f_M_mostOf 29 (nI 0) x = 5 := by
  unfold f_M_mostOf
  rw [show cn1 .ne (nI 0) = false from rfl, cond_false]
  unfold t_M_mostOf_5
  exact (if_neg (by decide)).trans ((if_neg (by decide)).trans ((if_neg (by decide)).trans ((if_neg (by decide)).trans ((if_neg (by decide)).trans ((if_neg (by decide)).trans ((if_neg (by decide)).trans ((if_neg (by decide)).trans ((if_neg (by decide)).trans ((if_neg (by decide)).trans ((if_neg (by decide)).trans ((if_neg (by decide)).trans ((if_neg (by decide)).trans ((if_neg (by decide)).trans ((if_neg (by decide)).trans ((if_neg (by decide)).trans ((if_neg (by decide)).trans ((if_neg (by decide)).trans ((if_neg (by decide)).trans ((if_neg (by decide)).trans ((if_neg (by decide)).trans ((if_neg (by decide)).trans ((if_neg (by decide)).trans ((if_neg (by decide)).trans ((if_neg (by decide)).trans ((if_neg (by decide)).trans ((if_neg (by decide)).trans ((if_neg (by decide)).trans ((if_pos rfl).trans rfl))))))))))))))))))))))))))))
theorem mo_29_1 (x : Int32) : f_M_mostOf 29 (nI 1) x = 3 := by
  unfold f_M_mostOf
  rw [show cn1 .ne (nI 1) = true from rfl, cond_true]
  unfold t_M_mostOf_5
  exact (if_neg (by decide)).trans ((if_neg (by decide)).trans ((if_neg (by decide)).trans ((if_neg (by decide)).trans ((if_neg (by decide)).trans ((if_neg (by decide)).trans ((if_neg (by decide)).trans ((if_neg (by decide)).trans ((if_neg (by decide)).trans ((if_neg (by decide)).trans ((if_neg (by decide)).trans ((if_neg (by decide)).trans ((if_neg (by decide)).trans ((if_neg (by decide)).trans ((if_neg (by decide)).trans ((if_neg (by decide)).trans ((if_neg (by decide)).trans ((if_neg (by decide)).trans ((if_neg (by decide)).trans ((if_neg (by decide)).trans ((if_neg (by decide)).trans ((if_neg (by decide)).trans ((if_neg (by decide)).trans ((if_neg (by decide)).trans ((if_neg (by decide)).trans ((if_neg (by decide)).trans ((if_neg (by decide)).trans ((if_neg (by decide)).trans ((if_pos rfl).trans rfl))))))))))))))))))))))))))))
theorem mo_29_2 (x : Int32) : f_M_mostOf 29 (nI 2) x = 15 := by
  unfold f_M_mostOf
  rw [show cn1 .ne (nI 2) = true from rfl, cond_true]
  unfold t_M_mostOf_5
  exact (if_neg (by decide)).trans ((if_neg (by decide)).trans ((if_neg (by decide)).trans ((if_neg (by decide)).trans ((if_neg (by decide)).trans ((if_neg (by decide)).trans ((if_neg (by decide)).trans ((if_neg (by decide)).trans ((if_neg (by decide)).trans ((if_neg (by decide)).trans ((if_neg (by decide)).trans ((if_neg (by decide)).trans ((if_neg (by decide)).trans ((if_neg (by decide)).trans ((if_neg (by decide)).trans ((if_neg (by decide)).trans ((if_neg (by decide)).trans ((if_neg (by decide)).trans ((if_neg (by decide)).trans ((if_neg (by decide)).trans ((if_neg (by decide)).trans ((if_neg (by decide)).trans ((if_neg (by decide)).trans ((if_neg (by decide)).trans ((if_neg (by decide)).trans ((if_neg (by decide)).trans ((if_neg (by decide)).trans ((if_neg (by decide)).trans ((if_pos rfl).trans rfl))))))))))))))))))))))))))))
theorem mo_29_3 (x : Int32) : f_M_mostOf 29 (nI 3) x = 7 := by
  unfold f_M_mostOf
  rw [show cn1 .ne (nI 3) = true from rfl, cond_true]
  unfold t_M_mostOf_5
  exact (if_neg (by decide)).trans ((if_neg (by decide)).trans ((if_neg (by decide)).trans ((if_neg (by decide)).trans ((if_neg (by decide)).trans ((if_neg (by decide)).trans ((if_neg (by decide)).trans ((if_neg (by decide)).trans ((if_neg (by decide)).trans ((if_neg (by decide)).trans ((if_neg (by decide)).trans ((if_neg (by decide)).trans ((if_neg (by decide)).trans ((if_neg (by decide)).trans ((if_neg (by decide)).trans ((if_neg (by decide)).trans ((if_neg (by decide)).trans ((if_neg (by decide)).trans ((if_neg (by decide)).trans ((if_neg (by decide)).trans ((if_neg (by decide)).trans ((if_neg (by decide)).trans ((if_neg (by decide)).trans ((if_neg (by decide)).trans ((if_neg (by decide)).trans ((if_neg (by decide)).trans ((if_neg (by decide)).trans ((if_neg (by decide)).trans ((if_pos rfl).trans rfl))))))))))))))))))))))))))))
theorem oa_29 (hfu : 1000000 ≤ fu) (h : RR G T φ n u (pI c 8 5 a) r) (hz : SZ (pI c 8 5 a)) (hc : CDH r p (pI c 8 5 a)) (hq : q.toInt = (p : Int) + 1) (hv : OV r p) (e : sA r 30 p = 29) : OUT G T φ n (pI c 8 5 a) r (f_Op_perform fu c a) (f_M_act fu r (sA r 30 p) q) ∧ w_Op_perform fu c a ∧ w_M_act fu r (sA r 30 p) q := by
  replace hv := hv.at e
  have hp : p + 5 ≤ 3200 := by have z := hv.1; rw [wo_29] at z; omega
  obtain ⟨o1, o2⟩ := o_opn (k := 0) (j := 0) hc rfl (by omega)
  replace o1 : f_Op_operand (pI c 8 5 a) 0 = 29 := o1.trans e
  have b1 : (sA r 30 (p + 1)).toInt ≤ 5 := by have z := (hv.2 0 (by rw [wo_29]; decide)).2; rw [mo_29_0] at z; exact z
  have b2 : (sA r 30 (p + 2)).toInt ≤ 3 := by have z := (hv.2 1 (by rw [wo_29]; decide)).2; rw [mo_29_1] at z; exact z
  have b3 : (sA r 30 (p + 3)).toInt ≤ 15 := by have z := (hv.2 2 (by rw [wo_29]; decide)).2; rw [mo_29_2] at z; exact z
  have b4 : (sA r 30 (p + 4)).toInt ≤ 7 := by have z := (hv.2 3 (by rw [wo_29]; decide)).2; rw [mo_29_3] at z; exact z
  obtain ⟨x1, x2, x3⟩ := op_29 (fu := fu) (by omega) h hz hc hq hp b1 b2 b3 b4
  rw [e, pf_29 o1, ma_29]
  exact ⟨x1, pw_29 o1 o2 x2, mw_29 x3⟩
theorem wo_34 : (f_M_wholeOf 34).toInt = 2 := by decide +kernel
theorem mo_34_0 (x : Int32) : f_M_mostOf 34 (nI 0) x = 15 := by
  unfold f_M_mostOf
  rw [show cn1 .ne (nI 0) = false from rfl, cond_false]
  unfold t_M_mostOf_5
  exact (if_neg (by decide)).trans ((if_neg (by decide)).trans ((if_neg (by decide)).trans ((if_neg (by decide)).trans ((if_neg (by decide)).trans ((if_neg (by decide)).trans ((if_neg (by decide)).trans ((if_neg (by decide)).trans ((if_neg (by decide)).trans ((if_neg (by decide)).trans ((if_neg (by decide)).trans ((if_neg (by decide)).trans ((if_neg (by decide)).trans ((if_neg (by decide)).trans ((if_neg (by decide)).trans ((if_neg (by decide)).trans ((if_neg (by decide)).trans ((if_neg (by decide)).trans ((if_neg (by decide)).trans ((if_neg (by decide)).trans ((if_neg (by decide)).trans ((if_neg (by decide)).trans ((if_neg (by decide)).trans ((if_neg (by decide)).trans ((if_neg (by decide)).trans ((if_neg (by decide)).trans ((if_neg (by decide)).trans ((if_neg (by decide)).trans ((if_neg (by decide)).trans ((if_neg (by decide)).trans ((if_neg (by decide)).trans ((if_neg (by decide)).trans ((if_neg (by decide)).trans ((if_pos rfl).trans rfl)))))))))))))))))))))))))))))))))
theorem oa_34 (hfu : 1000000 ≤ fu) (h : RR G T φ n u (pI c 8 5 a) r) (hz : SZ (pI c 8 5 a)) (hc : CDH r p (pI c 8 5 a)) (hq : q.toInt = (p : Int) + 1) (hv : OV r p) (e : sA r 30 p = 34) : OUT G T φ n (pI c 8 5 a) r (f_Op_perform fu c a) (f_M_act fu r (sA r 30 p) q) ∧ w_Op_perform fu c a ∧ w_M_act fu r (sA r 30 p) q := by
  replace hv := hv.at e
  have hp : p + 2 ≤ 3200 := by have z := hv.1; rw [wo_34] at z; omega
  obtain ⟨o1, o2⟩ := o_opn (k := 0) (j := 0) hc rfl (by omega)
  replace o1 : f_Op_operand (pI c 8 5 a) 0 = 34 := o1.trans e
  have b1 : (sA r 30 (p + 1)).toInt ≤ 15 := by have z := (hv.2 0 (by rw [wo_34]; decide)).2; rw [mo_34_0] at z; exact z
  obtain ⟨x1, x2, x3⟩ := op_34 (fu := fu) h hz hc hq hp b1
  rw [e, pf_34 o1]
  exact ⟨x1, pw_34 o1 o2 x2, x3⟩
/-- every op but those that open -/
theorem op_all {w : Nat} (hfu : 1000000 ≤ fu) (h : RR G T φ n u c r) (hz : SZ c) (hc : ∀ k, sA r 30 k = sA c 6 k &&& 255) (ha : a.toInt = (p : Int)) (hq : q.toInt = (p : Int) + 1) (hv : OV r p) (hw : (f_M_wholeOf (sA r 30 p)).toInt = (w : Int)) (h0 : 1 ≤ w) (hn : ¬ (30 ≤ (sA r 30 p).toInt ∧ (sA r 30 p).toInt ≤ 33)) : OUT G T φ n c r (f_Op_perform fu c a) (f_M_act fu r (sA r 30 p) q) ∧ w_Op_perform fu c a ∧ w_M_act fu r (sA r 30 p) q := by
  have h1 : RR G T φ n u (pI c 8 5 a) r := h.cI (a := 8) (k := 5) a (Or.inl (by decide))
  have z1 : SZ (pI c 8 5 a) := hz
  have c1 : CDH r p (pI c 8 5 a) := ⟨ha, hc⟩
  have f1 : opC c (pI c 8 5 a) := opC_8 c a
  suffices s : OUT G T φ n (pI c 8 5 a) r (f_Op_perform fu c a) (f_M_act fu r (sA r 30 p) q) ∧ w_Op_perform fu c a ∧ w_M_act fu r (sA r 30 p) q from ⟨OUT.tr (EX.rf φ n) f1 (opR.rf r) s.1, s.2⟩
  have b1 := (hc p).symm ▸ b255 (sA c 6 p)
  have ne : ∀ k : Int32, ¬ sA r 30 p = k → (sA r 30 p).toInt ≠ k.toInt := fun k z y => z (Int32.toInt_inj.mp y)
  by_cases e1 : sA r 30 p = 1
  · exact oa_1 hfu h1 z1 c1 hq hv e1
  by_cases e2 : sA r 30 p = 2
  · exact oa_2 hfu h1 z1 c1 hq hv e2
  by_cases e3 : sA r 30 p = 3
  · exact oa_3 hfu h1 z1 c1 hq hv e3
  by_cases e4 : sA r 30 p = 4
  · exact oa_4 hfu h1 z1 c1 hq hv e4
  by_cases e5 : sA r 30 p = 5
  · exact oa_5 hfu h1 z1 c1 hq hv e5
  by_cases e6 : sA r 30 p = 6
  · exact oa_6 hfu h1 z1 c1 hq hv e6
  by_cases e7 : sA r 30 p = 7
  · exact oa_7 hfu h1 z1 c1 hq hv e7
  by_cases e8 : sA r 30 p = 8
  · exact oa_8 hfu h1 z1 c1 hq hv e8
  by_cases e9 : sA r 30 p = 9
  · exact oa_9 hfu h1 z1 c1 hq hv e9
  by_cases e10 : sA r 30 p = 10
  · exact oa_10 hfu h1 z1 c1 hq hv e10
  by_cases e11 : sA r 30 p = 11
  · exact oa_11 hfu h1 z1 c1 hq hv e11
  by_cases e12 : sA r 30 p = 12
  · exact oa_12 hfu h1 z1 c1 hq hv e12
  by_cases e13 : sA r 30 p = 13
  · exact oa_13 hfu h1 z1 c1 hq hv e13
  by_cases e14 : sA r 30 p = 14
  · exact oa_14 hfu h1 z1 c1 hq hv e14
  by_cases e15 : sA r 30 p = 15
  · exact oa_15 hfu h1 z1 c1 hq hv e15
  by_cases e16 : sA r 30 p = 16
  · exact oa_16 hfu h1 z1 c1 hq hv e16
  by_cases e17 : sA r 30 p = 17
  · exact oa_17 hfu h1 z1 c1 hq hv e17
  by_cases e18 : sA r 30 p = 18
  · exact oa_18 hfu h1 z1 c1 hq hv e18
  by_cases e19 : sA r 30 p = 19
  · exact oa_19 hfu h1 z1 c1 hq hv e19
  by_cases e20 : sA r 30 p = 20
  · exact oa_20 hfu h1 z1 c1 hq hv e20
  by_cases e21 : sA r 30 p = 21
  · exact oa_21 hfu h1 z1 c1 hq hv e21
  by_cases e22 : sA r 30 p = 22
  · exact oa_22 hfu h1 z1 c1 hq hv e22
  by_cases e23 : sA r 30 p = 23
  · exact oa_23 hfu h1 z1 c1 hq hv e23
  by_cases e24 : sA r 30 p = 24
  · exact oa_24 hfu h1 z1 c1 hq hv e24
  by_cases e25 : sA r 30 p = 25
  · exact oa_25 hfu h1 z1 c1 hq hv e25
  by_cases e26 : sA r 30 p = 26
  · exact oa_26 hfu h1 z1 c1 hq hv e26
  by_cases e27 : sA r 30 p = 27
  · exact oa_27 hfu h1 z1 c1 hq hv e27
  by_cases e28 : sA r 30 p = 28
  · exact oa_28 hfu h1 z1 c1 hq hv e28
  by_cases e29 : sA r 30 p = 29
  · exact oa_29 hfu h1 z1 c1 hq hv e29
  by_cases e34 : sA r 30 p = 34
  · exact oa_34 hfu h1 z1 c1 hq hv e34
  by_cases e30 : sA r 30 p = 30
  · rw [e30] at hn; exact absurd (by decide) hn
  by_cases e31 : sA r 30 p = 31
  · rw [e31] at hn; exact absurd (by decide) hn
  by_cases e32 : sA r 30 p = 32
  · rw [e32] at hn; exact absurd (by decide) hn
  by_cases e33 : sA r 30 p = 33
  · rw [e33] at hn; exact absurd (by decide) hn
  exfalso
  have : f_M_wholeOf (sA r 30 p) = 0 := by
    unfold f_M_wholeOf
    exact (if_neg e1).trans ((if_neg e2).trans ((if_neg e3).trans ((if_neg e4).trans ((if_neg e5).trans ((if_neg e6).trans ((if_neg e7).trans ((if_neg e8).trans ((if_neg e9).trans ((if_neg e10).trans ((if_neg e11).trans ((if_neg e12).trans ((if_neg e13).trans ((if_neg e14).trans ((if_neg e15).trans ((if_neg e16).trans ((if_neg e17).trans ((if_neg e18).trans ((if_neg e19).trans ((if_neg e20).trans ((if_neg e21).trans ((if_neg e22).trans ((if_neg e23).trans ((if_neg e24).trans ((if_neg e25).trans ((if_neg e26).trans ((if_neg e27).trans ((if_neg e28).trans ((if_neg e29).trans ((if_neg e30).trans ((if_neg e31).trans ((if_neg e32).trans ((if_neg e33).trans (if_neg e34)))))))))))))))))))))))))))))))))
  rw [this] at hw
  have : (0 : Int32).toInt = 0 := rfl
  omega
end DA
