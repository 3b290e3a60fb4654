/-! OPS 12, 14, 15, 16 -/
theorem L_1 {x : Int32} (h : 0 ≤ x.toInt) : (1 : Int64) + Int32.toInt64 x = lN (1 + x.toNatClampNeg) := by
  have := Int32.toInt_lt x
  conv => lhs; rw [nIof h]
  rw [nI_L (by rw [tn_eq]; omega), show (1 : Int64) = lN 1 from rfl, yL_add]
theorem L_8 {m : Nat} (h : m < 9000000000000000000) : (lN m + 7) / 8 = lN ((m + 7) / 8) := by
  rw [show (7 : Int64) = lN 7 from rfl, show (8 : Int64) = lN 8 from rfl, yL_add, yL_div (Nat.lt_of_lt_of_le (Nat.add_lt_add_right h 7) (by decide)) (by decide)]
theorem L_x {x : Int32} (h : 0 ≤ x.toInt) : Int32.toInt64 x = lN x.toNatClampNeg := by
  have := Int32.toInt_lt x
  conv => lhs; rw [nIof h]
  exact nI_L (by rw [tn_eq]; omega)
theorem m31 (x : Int32) : x.toNatClampNeg < 2147483648 := by
  have := Int32.toInt_lt x
  rw [tn_eq]; omega
section MK
variable {G : AH} {T : Nat} {φ φ2 : Nat → Nat} {n u u2 p fu a : Nat} {c r c2 r2 : St} {q : Int32}
/-- a slot becomes the new thing -/
theorem sl_new (h2 : RR G T φ2 (n + 1) u2 c2 r2) (he : φ2 (n + 1) = a) (hc : CDH r p c2) (hp : p + 1 < 3200) (b1 : (sA r 30 (p + 1)).toInt ≤ 15) : f_Op_setSlot c2 1 (some a) = pT c2 11 (va_up (sT c2 11) (sA r 30 (p + 1)).toNatClampNeg (po φ2 (n + 1))) ∧ w_Op_setSlot c2 1 (some a) ∧ RR G T φ2 (n + 1) u2 (pT c2 11 (va_up (sT c2 11) (sA r 30 (p + 1)).toNatClampNeg (po φ2 (n + 1)))) (pA r2 27 (upd (sA r2 27) (sA r 30 (p + 1)).toNatClampNeg (nI (n + 1)))) := by
  have e : po φ2 (n + 1) = some a := by rw [po_s φ2 (by omega), he]
  rw [← e]
  obtain ⟨e1, e2⟩ := o_setS (k := 1) (j := 1) hc rfl hp b1 (po φ2 (n + 1)) (a_tho h2.rt (Nat.le_refl _))
  exact ⟨e1, e2, h2.slot (Nat.le_refl _)⟩
theorem op_12 (h : RR G T φ n u c r) (hz : SZ c) (hc : CDH r p c) (hq : q.toInt = (p : Int) + 1) (hp : p + 4 ≤ 3200) (b1 : (sA r 30 (p + 1)).toInt ≤ 15) (b2 : 1 ≤ (sA r 30 (p + 2)).toInt) (b2' : (sA r 30 (p + 2)).toInt ≤ 8) (b3 : (sA r 30 (p + 3)).toInt ≤ 7) :
    OUT G T φ n c r (f_Op_makeRow c (f_Op_numberAt c 3)) (f_M_makes fu r 12 q) ∧ (w_Op_numberAt c 3 ∧ (w_Op_makeRow c (f_Op_numberAt c 3) ∧ True)) ∧ w_M_makes fu r 12 q := by
  obtain ⟨q0, v0⟩ := o_q0 hq (by omega)
  obtain ⟨q1, v1⟩ := o_q (k := 1) (j := 2) hq rfl (by omega)
  obtain ⟨q2, v2⟩ := o_q (k := 2) (j := 3) hq rfl (by omega)
  have z1 := (hc.b (p + 1)).1
  have z3 := (hc.b (p + 3)).1
  obtain ⟨x1, x2⟩ := o_num (k := 3) (j := 3) hc h.1 rfl (by omega) b3
  rw [x1]
  obtain ⟨x, hx⟩ : ∃ x, x = sA r 28 (sA r 30 (p + 3)).toNatClampNeg := ⟨_, rfl⟩
  have hm : f_M_makes fu r 12 q = t_M_makes_77 fu r 12 (sA r 30 (p + 1)) (sA r 30 (p + 2)) x := by
    unfold f_M_makes
    rw [show cn2 .ge (12 : Int32) 12 = true from rfl, show cn2 .ne (12 : Int32) 13 = true from rfl, show cn2 .ne (12 : Int32) 16 = true from rfl, show cn2 .ne (12 : Int32) 15 = true from rfl, cond_true, cond_true, cond_true, cond_true, q0, q1, q2, ← hx]
  have wm : w_M_makes_77 fu r 12 (sA r 30 (p + 1)) (sA r 30 (p + 2)) x → w_M_makes fu r 12 q := fun g => by
    unfold w_M_makes
    rw [show cn2 .ge (12 : Int32) 12 = true from rfl, show cn2 .ne (12 : Int32) 13 = true from rfl, show cn2 .ne (12 : Int32) 16 = true from rfl, show cn2 .ne (12 : Int32) 15 = true from rfl, q0, q1, q2, ← hx]
    exact ⟨v0, fun _ => ⟨v1, fun _ => ⟨fun _ => ⟨fun _ => ⟨v2, vp_of z3 (by omega), g⟩, (fun z => nomatch z)⟩, (fun z => nomatch z)⟩, (fun z => nomatch z)⟩, (fun z => nomatch z)⟩
  rw [hm, ← hx]
  unfold f_Op_makeRow w_Op_makeRow t_M_makes_77
  by_cases g : 0 ≤ x.toInt
  · have gc : cn1 .ge x = true := by rw [c1_ge]; exact dt g
    have e12 : cn2 .ge (12 : Int32) 15 = false := rfl
    rw [gc, e12, cond_true, cond_false, cond_true, L_1 g]
    unfold t_M_makes_87 t_M_makes_97
    rw [e12, cond_false, L_1 g]
    have lm := m31 x
    rcases mk_pr h (z := 1 + x.toNatClampNeg) (by omega) with ⟨gm, v, hv, e1, e2⟩ | ⟨gm, e1, e2⟩
    · have h1 := h.made (v := v) (by omega) (by omega)
      have hc1 : CDH r p (pI c 1 0 v) := hc
      have hb := h1.bnd
      have hb2 := h1.2.2.2.1
      have hl := h.2.1
      have bx : x.toNatClampNeg ≤ 40000 := by have := hl.2.1; omega
      have sx : (x.toNatClampNeg : Int) = x.toInt := by rw [tn_eq]; omega
      have hU : sU c ≤ 347234 := hb.2.2.2.1
      have hN : sN c ≤ 80549 := hb.2.2.1
      obtain ⟨o1, o2⟩ := o_opn (s := pQ (pI c 1 0 v) (nwO (sD c) (sN c) 6) (sN c + 1) (sU c + 2)) (k := 2) (j := 2) hc1 rfl (by omega)
      obtain ⟨i1, i2, i3⟩ := i_ro (s := pI c 1 0 v) (k := sA r 30 (p + 2)) (m := x) hb.2.2.2.2 g (by show sN c + 2 ≤ 601024; omega) (by show sU c + 2 + x.toNatClampNeg ≤ 7293034; omega)
      have mn : (n : Int) + 1 ≤ v.toInt := by have := h.2.2.2.1.2.2.2.1; omega
      have mu : (u : Int) + x.toInt ≤ v.toInt := by have := h.2.2.2.1.2.2.2.2; omega
      have h2 := nw_row0 h1 (k := sA r 30 (p + 2)) (m := x) (q := sA r 30 (p + 2)) b2 b2' g mn mu
      obtain ⟨t1, t2⟩ := th_M (r := pI r 21 8 v) (k := sA r 30 (p + 2)) (m := x) (q := sA r 30 (p + 2)) hb2.2.1 hb2.2.2.1 (by omega) (fun _ => g)
      obtain ⟨s1, s2, s3⟩ := sl_new (r := r) h2 (ph1_s φ n (sN c)) hc1 (by omega) b1
      have z3' : SZ (pT (pQ (pI c 1 0 v) (rowD (sD c) (sN c) (sA r 30 (p + 2)) x) (sN c + 2) (sU c + 2 + x.toNatClampNeg)) 11 (va_up (sT c 11) (sA r 30 (p + 1)).toNatClampNeg (po (ph1 φ n (sN c)) (n + 1)))) := hz
      have fin := bn_out s3 z3' (z := (x.toNatClampNeg + 7) / 8) (by omega)
      have e8 : (Int32.toInt64 x + 7) / 8 = lN ((x.toNatClampNeg + 7) / 8) := by rw [L_x g, L_8 (by omega)]
      refine ⟨?_, ⟨x2, ⟨fun _ => ⟨trivial, ?_⟩, (fun z => nomatch z)⟩, trivial⟩, wm ?_⟩
      · rw [e1, e2]
        unfold t_M_makes_98 t_M_makes_123 t_M_makes_126 t_M_makes_150
        show OUT G T φ n c r (t_Op_makeRow_14 (pI c 1 0 v) x 1) (t_M_makes_123 fu (pI r 21 8 v) 12 (sA r 30 (p + 1)) (sA r 30 (p + 2)) x (sA r 30 (p + 2)) (sA r 30 (p + 1)))
        unfold t_M_makes_123 t_M_makes_126 t_M_makes_150
        rw [t1]
        show OUT G T φ n c r (t_Op_makeRow_24 (f_Ro_init (pQ (pI c 1 0 v) (nwO (sD c) (sN c) 6) (sN c + 1) (sU c + 2)) (some (sN c)) (f_Op_operand (pQ (pI c 1 0 v) (nwO (sD c) (sN c) 6) (sN c + 1) (sU c + 2)) 2) x) x (some (sN c)) 1) (f_M_takesFor (pA (thR (pI r 21 8 v) n u (sA r 30 (p + 2)) x (sA r 30 (p + 2))) 27 (upd (sA r 27) (sA r 30 (p + 1)).toNatClampNeg (nI (n + 1)))) (Int32.toInt64 x))
        rw [o1, show f_Ro_init (pQ (pI c 1 0 v) (nwO (sD c) (sN c) 6) (sN c + 1) (sU c + 2)) (some (sN c)) (sA r 30 (p + 2)) x = _ from i1]
        unfold t_Op_makeRow_24 t_Op_makeRow_25 t_Op_makeRow_31 f_Op_eighths f_M_takesFor
        rw [show f_Op_setSlot _ 1 (some (sN c)) = _ from s1, e8]
        exact OUT.tr (ph1_ex φ n (sN c)) (((opC_1 c 0 v).tr (opC_Q _ _ _ _)).tr (opC_T _ _)) (((opR_I r (Or.inl (by decide)) v).tr (thR_op _ _ _ _ _ _)).tr (opR_A _ (Or.inr (Or.inl rfl)) _)) fin
      · rw [e1]
        refine ⟨(fun z => nomatch z), fun _ => ⟨i3, o2, ?_, ?_, ?_⟩⟩
        · show w_Ro_init _ (some (sN c)) (f_Op_operand (pQ (pI c 1 0 v) (nwO (sD c) (sN c) 6) (sN c + 1) (sU c + 2)) 2) x
          rw [o1]; exact i2
        · exact i2.2.1
        · show w_Op_makeRow_24 (f_Ro_init _ (some (sN c)) (f_Op_operand (pQ (pI c 1 0 v) (nwO (sD c) (sN c) 6) (sN c + 1) (sU c + 2)) 2) x) x (some (sN c)) 1
          rw [o1, show f_Ro_init (pQ (pI c 1 0 v) (nwO (sD c) (sN c) 6) (sN c + 1) (sU c + 2)) (some (sN c)) (sA r 30 (p + 2)) x = _ from i1]
          exact ⟨s2, trivial, trivial⟩
      · have a1 : vp_in (sA r 30 (p + 1)) 16 := vp_of z1 (by omega)
        unfold w_M_makes_77 w_M_makes_87 w_M_makes_97
        rw [gc, e12, L_1 g, e2]
        refine ⟨(fun z => nomatch z), fun _ => ⟨fun _ => ⟨(fun z => nomatch z), fun _ => ⟨trivial, ?_⟩⟩, (fun z => nomatch z)⟩⟩
        refine ⟨fun _ => ⟨(fun z => nomatch z), fun _ => ?_⟩, (fun z => nomatch z)⟩
        refine ⟨t2, ?_⟩
        rw [t1]
        exact ⟨a1, fun _ => ⟨(fun z => nomatch z), fun _ => ⟨⟨trivial, trivial⟩, trivial⟩⟩, (fun z => nomatch z)⟩
    · refine ⟨?_, ⟨x2, ⟨fun _ => ⟨trivial, ?_⟩, (fun z => nomatch z)⟩, trivial⟩, wm ?_⟩
      · rw [e1, e2]
        exact full_out h hz
      · rw [e1]
        exact ⟨fun _ => trivial, (fun z => nomatch z)⟩
      · unfold w_M_makes_77 w_M_makes_87 w_M_makes_97
        rw [gc, e12, L_1 g, e2]
        exact ⟨(fun z => nomatch z), fun _ => ⟨fun _ => ⟨(fun z => nomatch z), fun _ => ⟨trivial, (fun z => nomatch z), fun _ => trivial⟩⟩, (fun z => nomatch z)⟩⟩
  · have gc : cn1 .ge x = false := by rw [c1_ge]; exact df g
    have e12 : cn2 .ge (12 : Int32) 15 = false := rfl
    rw [gc, e12, cond_false, cond_false, cond_false]
    refine ⟨fl_out h hz (by decide) (by decide), ⟨x2, ⟨(fun z => nomatch z), fun _ => ⟨w_fault c 3, trivial⟩⟩, trivial⟩, wm ?_⟩
    unfold w_M_makes_77
    rw [gc, e12]
    exact ⟨(fun z => nomatch z), fun _ => ⟨(fun z => nomatch z), fun _ => ⟨w_fails r 3, trivial⟩⟩⟩
end MK
