/-! OPS 12, 14, 15, 16 -/
theorem L_1 {x : Int32} (h : 0 ≤ x.toInt) : (1 : Int64) + Int32.toInt64 x = lN (1 + x.toNatClampNeg) := by
  have := Int32.toInt_lt x
  conv => lhs; rw [nIof h]
  rw [nI_L (by rw [tn_eq]; omega), show (1 : Int64) = lN 1 from rfl, yL_add]
theorem L_8 {m : Nat} (h : m < 9000000000000000000) : (lN m + 7) / 8 = lN ((m + 7) / 8) := by
  rw [show (7 : Int64) = lN 7 from rfl, show (8 : Int64) = lN 8 from rfl, yL_add, yL_div (Nat.lt_of_lt_of_le (Nat.add_lt_add_right h 7) (by decide)) (by decide)]
theorem L_x {x : Int32} (h : 0 ≤ x.toInt) : Int32.toInt64 x = lN x.toNatClampNeg := by
  have := Int32.toInt_lt x
  conv => lhs; rw [nIof h]
  exact nI_L (by rw [tn_eq]; omega)
theorem m31 (x : Int32) : x.toNatClampNeg < 2147483648 := by
  have := Int32.toInt_lt x
  rw [tn_eq]; omega
section MK
variable {G : AH} {T : Nat} {φ φ2 : Nat → Nat} {n u u2 p fu a : Nat} {c r c2 r2 : St} {q : Int32}
/-- a slot becomes the new thing -/
theorem sl_new (h2 : RR G T φ2 (n + 1) u2 c2 r2) (he : φ2 (n + 1) = a) (h37 : 37 ≤ a) (hc : CDH r p c2) (hp : p + 1 < 3200) (b1 : (sA r 30 (p + 1)).toInt ≤ 15) : f_Op_setSlot c2 1 (some a) = pT c2 11 (va_up (sT c2 11) (sA r 30 (p + 1)).toNatClampNeg (po φ2 (n + 1))) ∧ w_Op_setSlot c2 1 (some a) ∧ RR G T φ2 (n + 1) u2 (pT c2 11 (va_up (sT c2 11) (sA r 30 (p + 1)).toNatClampNeg (po φ2 (n + 1)))) (pA r2 27 (upd (sA r2 27) (sA r 30 (p + 1)).toNatClampNeg (nI (n + 1)))) := by
  have e : po φ2 (n + 1) = some a := by rw [po_s φ2 (by omega), he]
  rw [← e]
  obtain ⟨e1, e2⟩ := o_setS (k := 1) (j := 1) hc rfl hp b1 (po φ2 (n + 1)) (a_tho h2.rt ⟨Nat.le_refl _, Or.inr (by rw [he]; exact h37)⟩)
  exact ⟨e1, e2, h2.slot ⟨Nat.le_refl _, Or.inr (by rw [he]; exact h37)⟩⟩
/-- paid, or full -/
theorem mk_ok (h : RR G T φ n u c r) (hz : SZ c) {z : Nat} (hl : z < 9000000000000000000) :
    (∃ c1 r1, f_Le_make c (lN z) = (true, c1) ∧ f_M_pays r (lN z) = (true, r1) ∧ RR G T φ n u c1 r1 ∧ SZ c1 ∧ (sI c1 8 5 = sI c 8 5 ∧ sA c1 6 = sA c 6) ∧ opC c c1 ∧ opR r r1 ∧ (n : Int) + z ≤ (sI r1 21 8).toInt ∧ (u : Int) + z ≤ (sI r1 21 8).toInt ∧ z ≤ 40000 ∧ (sA r1 27 = sA r 27 ∧ sA r1 28 = sA r 28 ∧ sB r1 29 = sB r 29 ∧ sA r1 22 = sA r 22 ∧ sA r1 23 = sA r 23 ∧ sA r1 24 = sA r 24 ∧ sA r1 25 = sA r 25 ∧ sB r1 26 = sB r 26) ∧ (sD c1 = sD c ∧ sN c1 = sN c ∧ sT c1 11 = sT c 11)) ∨
    (f_Le_make c (lN z) = (false, pI (pI c 1 1 1) 1 3 3) ∧ f_M_pays r (lN z) = (false, pI r 21 15 1)) := by
  rcases mk_pr h hl with ⟨gm, v, hv, e1, e2⟩ | ⟨gm, e1, e2⟩
  · have hl2 := h.2.1
    have hn := h.2.2.2.1.2.2.2.1
    have hu := h.2.2.2.1.2.2.2.2
    have h0 := hl2.2.1
    refine Or.inl ⟨pI c 1 0 v, pI r 21 8 v, e1, e2, h.made (by omega) (by omega), hz, ⟨rfl, rfl⟩, opC_1 c 0 v, opR_I r (Or.inl (by decide)) v, ?_, ?_, by omega, ⟨rfl, rfl, rfl, rfl, rfl, rfl, rfl, rfl⟩, rfl, rfl, rfl⟩
    · show (n : Int) + z ≤ v.toInt
      omega
    · show (u : Int) + z ≤ v.toInt
      omega
  · exact Or.inr ⟨e1, e2⟩
theorem CDH.mv {s : St} (h : CDH r p c) (h1 : sI s 8 5 = sI c 8 5 ∧ sA s 6 = sA c 6) : CDH r p s := by
  unfold CDH
  rw [h1.1, h1.2]
  exact h
theorem op_12 (h : RR G T φ n u c r) (hz : SZ c) (hc : CDH r p c) (hq : q.toInt = (p : Int) + 1) (hp : p + 4 ≤ 3200) (b1 : (sA r 30 (p + 1)).toInt ≤ 15) (b2 : 1 ≤ (sA r 30 (p + 2)).toInt) (b2' : (sA r 30 (p + 2)).toInt ≤ 8) (b3 : (sA r 30 (p + 3)).toInt ≤ 7) :
    OUT G T φ n c r (f_Op_makeRow c (f_Op_numberAt c 3)) (f_M_makes fu r 12 q) ∧ (w_Op_numberAt c 3 ∧ (w_Op_makeRow c (f_Op_numberAt c 3) ∧ True)) ∧ w_M_makes fu r 12 q := by
  obtain ⟨q0, v0⟩ := o_q0 hq (by omega)
  obtain ⟨q1, v1⟩ := o_q (k := 1) (j := 2) hq rfl (by omega)
  obtain ⟨q2, v2⟩ := o_q (k := 2) (j := 3) hq rfl (by omega)
  have z1 := (hc.b (p + 1)).1
  have z2 := (hc.b (p + 2)).1
  have z3 := (hc.b (p + 3)).1
  obtain ⟨x1, x2⟩ := o_num (k := 3) (j := 3) hc h.1 rfl (by omega) b3
  rw [x1]
  obtain ⟨x, hx⟩ : ∃ x, x = sA r 28 (sA r 30 (p + 3)).toNatClampNeg := ⟨_, rfl⟩
  have hm : f_M_makes fu r 12 q = t_M_makes_77 fu r 12 (sA r 30 (p + 1)) (sA r 30 (p + 2)) x := by
    unfold f_M_makes
    rw [show cn2 .ge (12 : Int32) 12 = true from rfl, show cn2 .ne (12 : Int32) 13 = true from rfl, show cn2 .ne (12 : Int32) 16 = true from rfl, show cn2 .ne (12 : Int32) 15 = true from rfl, cond_true, cond_true, cond_true, cond_true, q0, q1, q2, ← hx]
  have wm : w_M_makes_77 fu r 12 (sA r 30 (p + 1)) (sA r 30 (p + 2)) x → w_M_makes fu r 12 q := fun g => by
    unfold w_M_makes
    rw [show cn2 .ge (12 : Int32) 12 = true from rfl, show cn2 .ne (12 : Int32) 13 = true from rfl, show cn2 .ne (12 : Int32) 16 = true from rfl, show cn2 .ne (12 : Int32) 15 = true from rfl, q0, q1, q2, ← hx]
    exact ⟨v0, fun _ => ⟨v1, fun _ => ⟨fun _ => ⟨fun _ => ⟨v2, vp_of z3 (by omega), g⟩, (fun z => nomatch z)⟩, (fun z => nomatch z)⟩, (fun z => nomatch z)⟩, (fun z => nomatch z)⟩
  rw [hm, ← hx]
  have e12 : cn2 .ge (12 : Int32) 15 = false := rfl
  unfold f_Op_makeRow w_Op_makeRow t_M_makes_77
  by_cases g : 0 ≤ x.toInt
  · have gc : cn1 .ge x = true := by rw [c1_ge]; exact dt g
    rw [gc, e12, cond_true, cond_false, cond_true, L_1 g]
    have lm := m31 x
    have sx : (x.toNatClampNeg : Int) = x.toInt := by rw [tn_eq]; omega
    rcases mk_ok h hz (z := 1 + x.toNatClampNeg) (by omega) with ⟨c1, r1, e1, e2, h1, hz1, hcd, oc1, or1, mn, mu, mz, -, -⟩ | ⟨e1, e2⟩
    · have hc1 : CDH r p c1 := hc.mv hcd
      have hb := h1.bnd
      have hb2 := h1.2.2.2.1
      have hl1 := h1.2.1.2.2.1
      obtain ⟨o1, o2⟩ := o_opn (s := pQ c1 (nwO (sD c1) (sN c1) 6) (sN c1 + 1) (sU c1 + 2)) (k := 2) (j := 2) hc1 rfl (by omega)
      obtain ⟨i1, i2, i3⟩ := i_ro (s := c1) (k := sA r 30 (p + 2)) (m := x) hb.2.2.2.2 g (by omega) (by omega)
      have h2 := nw_row0 h1 (k := sA r 30 (p + 2)) (m := x) (q := sA r 30 (p + 2)) b2 b2' g (by omega) (by omega)
      obtain ⟨t1, t2⟩ := th_M (r := r1) (k := sA r 30 (p + 2)) (m := x) (q := sA r 30 (p + 2)) hb2.2.1 hb2.2.2.1 (by omega) (fun _ => g)
      obtain ⟨s1, s2, s3⟩ := sl_new (r := r) h2 (ph1_s φ n (sN c1)) h1.bnd.2.2.2.2 hc1 (by omega) b1
      have fin := bn_out s3 hz1 (z := (x.toNatClampNeg + 7) / 8) (by omega)
      have e8 : (Int32.toInt64 x + 7) / 8 = lN ((x.toNatClampNeg + 7) / 8) := by rw [L_x g, L_8 (by omega)]
      refine ⟨?_, ⟨x2, ⟨fun _ => ⟨trivial, ?_⟩, (fun z => nomatch z)⟩, trivial⟩, wm ?_⟩
      · rw [e1]
        dsimp only
        unfold t_Op_makeRow_14
        rw [show cn1 .eq (b2i true) = false from rfl, cond_false, o1, i1]
        unfold t_Op_makeRow_24 t_Op_makeRow_25 t_Op_makeRow_31 f_Op_eighths
        rw [s1, e8]
        unfold t_M_makes_87 t_M_makes_97
        rw [e12, cond_false, L_1 g, e2]
        dsimp only
        unfold t_M_makes_98
        rw [show cn1 .ne (b2i true) = true from rfl, cond_true]
        rw [show cn2 .ne (12 : Int32) 12 = false from rfl, cond_false]
        unfold t_M_makes_123
        rw [t1]
        dsimp only
        unfold t_M_makes_126 t_M_makes_150
        rw [show cn2 .ne (12 : Int32) 16 = true from rfl, e12, cond_true, cond_false]
        unfold f_M_takesFor
        rw [e8]
        exact OUT.tr (ph1_ex φ n (sN c1)) ((oc1.tr (opC_Q _ _ _ _)).tr (opC_T _ _)) ((or1.tr (thR_op _ _ _ _ _ _ hb2.2.1 (by omega))).tr (opR_A _ (Or.inr (Or.inl rfl)) _)) fin
      · rw [e1]
        dsimp only
        unfold w_Op_makeRow_14
        rw [show cn1 .eq (b2i true) = false from rfl, o1, i1]
        exact ⟨(fun z => nomatch z), fun _ => ⟨i3, o2, i2, i2.2.1, s2, trivial, trivial⟩⟩
      · have a1 : vp_in (sA r 30 (p + 1)) 16 := vp_of z1 (by omega)
        unfold w_M_makes_77 w_M_makes_87 w_M_makes_97
        rw [gc, e12, L_1 g, e2]
        dsimp only
        refine ⟨(fun z => nomatch z), fun _ => ⟨fun _ => ⟨(fun z => nomatch z), fun _ => ⟨trivial, ?_⟩⟩, (fun z => nomatch z)⟩⟩
        have w3 : w_M_makes_123 fu r1 12 (sA r 30 (p + 1)) (sA r 30 (p + 2)) x (sA r 30 (p + 2)) (sA r 30 (p + 1)) := by
          unfold w_M_makes_123
          rw [t1]
          dsimp only
          unfold w_M_makes_126 w_M_makes_150
          rw [show cn2 .ne (12 : Int32) 16 = true from rfl, e12]
          exact ⟨t2, a1, fun _ => ⟨(fun z => nomatch z), fun _ => ⟨⟨trivial, trivial⟩, trivial⟩⟩, (fun z => nomatch z)⟩
        unfold w_M_makes_98
        rw [show cn1 .ne (b2i true) = true from rfl]
        rw [show cn2 .ne (12 : Int32) 12 = false from rfl]
        exact ⟨fun _ => ⟨(fun z => nomatch z), fun _ => w3⟩, (fun z => nomatch z)⟩
    · refine ⟨?_, ⟨x2, ⟨fun _ => ⟨trivial, ?_⟩, (fun z => nomatch z)⟩, trivial⟩, wm ?_⟩
      · rw [e1]
        unfold t_M_makes_87 t_M_makes_97
        rw [e12, cond_false, L_1 g, e2]
        exact full_out h hz
      · rw [e1]
        exact ⟨fun _ => trivial, (fun z => nomatch z)⟩
      · unfold w_M_makes_77 w_M_makes_87 w_M_makes_97
        rw [gc, e12, L_1 g, e2]
        exact ⟨(fun z => nomatch z), fun _ => ⟨fun _ => ⟨(fun z => nomatch z), fun _ => ⟨trivial, (fun z => nomatch z), fun _ => trivial⟩⟩, (fun z => nomatch z)⟩⟩
  · have gc : cn1 .ge x = false := by rw [c1_ge]; exact df g
    rw [gc, e12, cond_false, cond_false, cond_false]
    refine ⟨fl_out h hz (by decide) (by decide), ⟨x2, ⟨(fun z => nomatch z), fun _ => ⟨w_fault c 3, trivial⟩⟩, trivial⟩, wm ?_⟩
    unfold w_M_makes_77
    rw [gc, e12]
    exact ⟨(fun z => nomatch z), fun _ => ⟨(fun z => nomatch z), fun _ => ⟨w_fails r 3, trivial⟩⟩⟩
theorem op_14 (h : RR G T φ n u c r) (hz : SZ c) (hc : CDH r p c) (hq : q.toInt = (p : Int) + 1) (hp : p + 4 ≤ 3200) (b1 : (sA r 30 (p + 1)).toInt ≤ 15) (b2' : (sA r 30 (p + 2)).toInt ≤ 4) (b3 : (sA r 30 (p + 3)).toInt ≤ 7) :
    OUT G T φ n c r (f_Op_makeBox c (f_Op_numberAt c 3)) (f_M_makes fu r 14 q) ∧ (w_Op_numberAt c 3 ∧ (w_Op_makeBox c (f_Op_numberAt c 3) ∧ True)) ∧ w_M_makes fu r 14 q := by
  obtain ⟨q0, v0⟩ := o_q0 hq (by omega)
  obtain ⟨q1, v1⟩ := o_q (k := 1) (j := 2) hq rfl (by omega)
  obtain ⟨q2, v2⟩ := o_q (k := 2) (j := 3) hq rfl (by omega)
  have z1 := (hc.b (p + 1)).1
  have z2 := (hc.b (p + 2)).1
  have z3 := (hc.b (p + 3)).1
  obtain ⟨x1, x2⟩ := o_num (k := 3) (j := 3) hc h.1 rfl (by omega) b3
  rw [x1]
  obtain ⟨x, hx⟩ : ∃ x, x = sA r 28 (sA r 30 (p + 3)).toNatClampNeg := ⟨_, rfl⟩
  have hm : f_M_makes fu r 14 q = t_M_makes_77 fu r 14 (sA r 30 (p + 1)) (sA r 30 (p + 2)) x := by
    unfold f_M_makes
    rw [show cn2 .ge (14 : Int32) 12 = true from rfl, show cn2 .ne (14 : Int32) 13 = true from rfl, show cn2 .ne (14 : Int32) 16 = true from rfl, show cn2 .ne (14 : Int32) 15 = true from rfl, cond_true, cond_true, cond_true, cond_true, q0, q1, q2, ← hx]
  have wm : w_M_makes_77 fu r 14 (sA r 30 (p + 1)) (sA r 30 (p + 2)) x → w_M_makes fu r 14 q := fun g => by
    unfold w_M_makes
    rw [show cn2 .ge (14 : Int32) 12 = true from rfl, show cn2 .ne (14 : Int32) 13 = true from rfl, show cn2 .ne (14 : Int32) 16 = true from rfl, show cn2 .ne (14 : Int32) 15 = true from rfl, q0, q1, q2, ← hx]
    exact ⟨v0, fun _ => ⟨v1, fun _ => ⟨fun _ => ⟨fun _ => ⟨v2, vp_of z3 (by omega), g⟩, (fun z => nomatch z)⟩, (fun z => nomatch z)⟩, (fun z => nomatch z)⟩, (fun z => nomatch z)⟩
  rw [hm, ← hx]
  have e12 : cn2 .ge (14 : Int32) 15 = false := rfl
  unfold f_Op_makeBox w_Op_makeBox t_M_makes_77
  by_cases g : 0 ≤ x.toInt
  · have gc : cn1 .ge x = true := by rw [c1_ge]; exact dt g
    rw [gc, e12, cond_true, cond_false, cond_true, L_1 g]
    have lm := m31 x
    have sx : (x.toNatClampNeg : Int) = x.toInt := by rw [tn_eq]; omega
    rcases mk_ok h hz (z := 1 + x.toNatClampNeg) (by omega) with ⟨c1, r1, e1, e2, h1, hz1, hcd, oc1, or1, mn, mu, mz, -, -⟩ | ⟨e1, e2⟩
    · have hc1 : CDH r p c1 := hc.mv hcd
      have hb := h1.bnd
      have hb2 := h1.2.2.2.1
      have hl1 := h1.2.1.2.2.1
      obtain ⟨o1, o2⟩ := o_opn (s := pQ c1 (nwO (sD c1) (sN c1) 7) (sN c1 + 1) (sU c1 + 2)) (k := 2) (j := 2) hc1 rfl (by omega)
      obtain ⟨i1, i2, i3⟩ := i_sh (s := c1) (k := sA r 30 (p + 2)) (m := x) hb.2.2.2.2 g (by omega) (by omega)
      have h2 := nw_shl0 h1 (k := 10) (m := x) (q := sA r 30 (p + 2)) (b := sA r 30 (p + 2)) (Or.inr ⟨rfl, z2, b2', rfl⟩) g (by omega) (by omega)
      obtain ⟨t1, t2⟩ := th_M (r := r1) (k := 10) (m := x) (q := sA r 30 (p + 2)) hb2.2.1 hb2.2.2.1 (by omega) (fun _ => g)
      obtain ⟨s1, s2, s3⟩ := sl_new (r := r) h2 (ph1_s φ n (sN c1)) h1.bnd.2.2.2.2 hc1 (by omega) b1
      have fin := bn_out s3 hz1 (z := (x.toNatClampNeg + 7) / 8) (by omega)
      have e8 : (Int32.toInt64 x + 7) / 8 = lN ((x.toNatClampNeg + 7) / 8) := by rw [L_x g, L_8 (by omega)]
      refine ⟨?_, ⟨x2, ⟨fun _ => ⟨trivial, ?_⟩, (fun z => nomatch z)⟩, trivial⟩, wm ?_⟩
      · rw [e1]
        dsimp only
        unfold t_Op_makeBox_14
        rw [show cn1 .eq (b2i true) = false from rfl, cond_false, o1, i1]
        unfold t_Op_makeBox_24 t_Op_makeBox_25 t_Op_makeBox_31 f_Op_eighths
        rw [s1, e8]
        unfold t_M_makes_87 t_M_makes_97
        rw [e12, cond_false, L_1 g, e2]
        dsimp only
        unfold t_M_makes_98
        rw [show cn1 .ne (b2i true) = true from rfl, cond_true]
        rw [show cn2 .ne (14 : Int32) 12 = true from rfl, show cn2 .ne (14 : Int32) 14 = false from rfl, cond_true, cond_false]
        unfold t_M_makes_123
        rw [t1]
        dsimp only
        unfold t_M_makes_126 t_M_makes_150
        rw [show cn2 .ne (14 : Int32) 16 = true from rfl, e12, cond_true, cond_false]
        unfold f_M_takesFor
        rw [e8]
        exact OUT.tr (ph1_ex φ n (sN c1)) ((oc1.tr (opC_Q _ _ _ _)).tr (opC_T _ _)) ((or1.tr (thR_op _ _ _ _ _ _ hb2.2.1 (by omega))).tr (opR_A _ (Or.inr (Or.inl rfl)) _)) fin
      · rw [e1]
        dsimp only
        unfold w_Op_makeBox_14
        rw [show cn1 .eq (b2i true) = false from rfl, o1, i1]
        exact ⟨(fun z => nomatch z), fun _ => ⟨i3, o2, i2, i2.2.1, s2, trivial, trivial⟩⟩
      · have a1 : vp_in (sA r 30 (p + 1)) 16 := vp_of z1 (by omega)
        unfold w_M_makes_77 w_M_makes_87 w_M_makes_97
        rw [gc, e12, L_1 g, e2]
        dsimp only
        refine ⟨(fun z => nomatch z), fun _ => ⟨fun _ => ⟨(fun z => nomatch z), fun _ => ⟨trivial, ?_⟩⟩, (fun z => nomatch z)⟩⟩
        have w3 : w_M_makes_123 fu r1 14 (sA r 30 (p + 1)) (sA r 30 (p + 2)) x (10) (sA r 30 (p + 1)) := by
          unfold w_M_makes_123
          rw [t1]
          dsimp only
          unfold w_M_makes_126 w_M_makes_150
          rw [show cn2 .ne (14 : Int32) 16 = true from rfl, e12]
          exact ⟨t2, a1, fun _ => ⟨(fun z => nomatch z), fun _ => ⟨⟨trivial, trivial⟩, trivial⟩⟩, (fun z => nomatch z)⟩
        unfold w_M_makes_98
        rw [show cn1 .ne (b2i true) = true from rfl]
        rw [show cn2 .ne (14 : Int32) 12 = true from rfl, show cn2 .ne (14 : Int32) 14 = false from rfl]
        exact ⟨fun _ => ⟨fun _ => ⟨(fun z => nomatch z), fun _ => w3⟩, (fun z => nomatch z)⟩, (fun z => nomatch z)⟩
    · refine ⟨?_, ⟨x2, ⟨fun _ => ⟨trivial, ?_⟩, (fun z => nomatch z)⟩, trivial⟩, wm ?_⟩
      · rw [e1]
        unfold t_M_makes_87 t_M_makes_97
        rw [e12, cond_false, L_1 g, e2]
        exact full_out h hz
      · rw [e1]
        exact ⟨fun _ => trivial, (fun z => nomatch z)⟩
      · unfold w_M_makes_77 w_M_makes_87 w_M_makes_97
        rw [gc, e12, L_1 g, e2]
        exact ⟨(fun z => nomatch z), fun _ => ⟨fun _ => ⟨(fun z => nomatch z), fun _ => ⟨trivial, (fun z => nomatch z), fun _ => trivial⟩⟩, (fun z => nomatch z)⟩⟩
  · have gc : cn1 .ge x = false := by rw [c1_ge]; exact df g
    rw [gc, e12, cond_false, cond_false, cond_false]
    refine ⟨fl_out h hz (by decide) (by decide), ⟨x2, ⟨(fun z => nomatch z), fun _ => ⟨w_fault c 3, trivial⟩⟩, trivial⟩, wm ?_⟩
    unfold w_M_makes_77
    rw [gc, e12]
    exact ⟨(fun z => nomatch z), fun _ => ⟨(fun z => nomatch z), fun _ => ⟨w_fails r 3, trivial⟩⟩⟩
end MK
