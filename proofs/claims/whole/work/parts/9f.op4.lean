/-! OPS 17, 22, 34 -/
theorem n_ne {v : Nat} (h : v ≤ 40000) : cn1 .ne (nI v) = decide (¬ v = 0) := by rw [c1_ne, yI_i (by omega)]; exact dcg (by omega)
theorem n_le {v : Nat} (h : v ≤ 40000) : cn1 .le (nI v) = decide (v = 0) := by rw [c1_le, yI_i (by omega)]; exact dcg (by omega)
theorem n_eq {v : Nat} (h : v ≤ 40000) : cn1 .eq (nI v) = decide (v = 0) := by rw [c1_eq, yI_i (by omega)]; exact dcg (by omega)
theorem n_vp {v : Nat} (h : v ≤ 40000) : vp_in (nI v) 40001 := vp_of (by rw [yI_i (by omega)]; omega) (by rw [yI_i (by omega)]; omega)
theorem hm_M {r : St} {v : Nat} (h : v ≤ 40000) : f_M_hasMembers r (nI v) = decide (1 ≤ (sA r 22 v).toInt ∧ (sA r 22 v).toInt ≤ 10) ∧ w_M_hasMembers r (nI v) := by
  have e : (nI v).toNatClampNeg = v := nN (by omega)
  unfold f_M_hasMembers w_M_hasMembers
  rw [e, c1_le, c2_gt, show ((10 : Int32).toInt) = 10 from rfl]
  refine ⟨?_, n_vp h, fun _ => trivial, fun _ => ⟨n_vp h, trivial⟩⟩
  by_cases g1 : (sA r 22 v).toInt ≤ 0
  · rw [cd_t g1, df (by omega)]
  · rw [cd_f g1]
    by_cases g2 : 10 < (sA r 22 v).toInt
    · rw [cd_t g2, df (by omega)]
    · rw [cd_f g2, dt (by omega)]
theorem ir_M {r : St} {v : Nat} (h : v ≤ 40000) : f_M_isRow r (nI v) = decide (1 ≤ (sA r 22 v).toInt ∧ (sA r 22 v).toInt ≤ 8) ∧ w_M_isRow r (nI v) := by
  have e : (nI v).toNatClampNeg = v := nN (by omega)
  unfold f_M_isRow w_M_isRow
  rw [e, c1_le, c2_ge, show ((9 : Int32).toInt) = 9 from rfl]
  refine ⟨?_, n_vp h, fun _ => trivial, fun _ => ⟨n_vp h, trivial⟩⟩
  by_cases g1 : (sA r 22 v).toInt ≤ 0
  · rw [cd_t g1, df (by omega)]
  · rw [cd_f g1]
    by_cases g2 : 9 ≤ (sA r 22 v).toInt
    · rw [cd_t g2, df (by omega)]
    · rw [cd_f g2, dt (by omega)]
theorem ip_M {r : St} {v : Nat} (h : v ≤ 40000) : f_M_isPart r (nI v) = decide (11 ≤ (sA r 22 v).toInt ∧ (sA r 22 v).toInt ≤ 15) ∧ w_M_isPart r (nI v) := by
  have e : (nI v).toNatClampNeg = v := nN (by omega)
  unfold f_M_isPart w_M_isPart
  rw [e, c2_lt, c2_ge, show ((11 : Int32).toInt) = 11 from rfl, show ((16 : Int32).toInt) = 16 from rfl]
  refine ⟨?_, n_vp h, fun _ => trivial, fun _ => ⟨n_vp h, trivial⟩⟩
  by_cases g1 : (sA r 22 v).toInt < 11
  · rw [cd_t g1, df (by omega)]
  · rw [cd_f g1]
    by_cases g2 : 16 ≤ (sA r 22 v).toInt
    · rw [cd_t g2, df (by omega)]
    · rw [cd_f g2, dt (by omega)]
section O4
variable {G : AH} {T : Nat} {φ : Nat → Nat} {n u p fu v : Nat} {c r : St} {q : Int32}
theorem w_miss (c : St) (o : Option Nat) : w_Op_miss c o := ⟨fun _ => ⟨w_fault c 1, trivial⟩, fun _ => ⟨w_fault c 4, trivial⟩⟩
theorem ms_out (h : RR G T φ n u c r) (hz : SZ c) : OUT G T φ n c r (f_Op_miss c (po φ v)) (if v = 0 then f_M_fails r 1 else f_M_fails r 4) := by
  unfold f_Op_miss t_Op_miss_7
  by_cases g : v = 0
  · rw [if_pos g, g]
    exact fl_out h hz (by decide) (by decide)
  · rw [if_neg g, po_s φ (by omega)]
    exact fl_out h hz (by decide) (by decide)
theorem ms_0 (h : RR G T φ n u c r) (hz : SZ c) (g : v = 0) : OUT G T φ n c r (f_Op_miss c (po φ v)) (f_M_fails r 1) := by
  have := ms_out (v := v) h hz
  rw [if_pos g] at this
  exact this
theorem ms_1 (h : RR G T φ n u c r) (hz : SZ c) (g : ¬ v = 0) : OUT G T φ n c r (f_Op_miss c (po φ v)) (f_M_fails r 4) := by
  have := ms_out (v := v) h hz
  rw [if_neg g] at this
  exact this
theorem op_17 (h : RR G T φ n u c r) (hz : SZ c) (hc : CDH r p c) (hq : q.toInt = (p : Int) + 1) (hp : p + 3 ≤ 3200) (b1 : (sA r 30 (p + 1)).toInt ≤ 7) (b2 : (sA r 30 (p + 2)).toInt ≤ 15) :
    OUT G T φ n c r (f_Op_countMembers c (f_Op_slotAt c 2)) (f_M_members fu r 17 q) ∧ (w_Op_slotAt c 2 ∧ (w_Op_countMembers c (f_Op_slotAt c 2) ∧ True)) ∧ w_M_members fu r 17 q := by
  obtain ⟨q0, v0⟩ := o_q0 hq (by omega)
  obtain ⟨q1, v1⟩ := o_q (k := 1) (j := 2) hq rfl (by omega)
  have z1 := (hc.b (p + 1)).1
  have z2 := (hc.b (p + 2)).1
  have hb := h.bnd
  obtain ⟨v, y0, y1, y2, y3⟩ := o_slt (k := 2) (j := 2) hc h.2.2.2.2.1 rfl (by omega) b2
  have v40 : v ≤ 40000 := by omega
  obtain ⟨m1, m2⟩ := hm_M (r := r) v40
  have ev : (nI v).toNatClampNeg = v := nN (by omega)
  have a2 : vp_in (sA r 30 (p + 2)) 16 := vp_of z2 (by omega)
  have hm : f_M_members fu r 17 q = cond (cn1 .ne (nI v)) (cond (f_M_hasMembers r (nI v)) (0, pA r 28 (upd (sA r 28) (sA r 30 (p + 1)).toNatClampNeg (sA r 24 v))) (f_M_fails r 4)) (f_M_fails r 1) := by
    unfold f_M_members
    rw [show cn2 .ne (17 : Int32) 17 = false from rfl, cond_false, q0, q1, y1, ev, cn1_ne_b2i]
  have wm : w_M_members fu r 17 q := by
    unfold w_M_members
    rw [show cn2 .ne (17 : Int32) 17 = false from rfl, q0, q1, y1]
    exact ⟨(fun z => nomatch z), fun _ => ⟨v1, a2, fun _ => ⟨m2, fun _ => ⟨v0, n_vp v40, vp_of z1 (by omega), trivial⟩, fun _ => ⟨w_fails r 4, trivial⟩⟩, fun _ => ⟨w_fails r 1, trivial⟩⟩⟩
  have wc : w_Op_countMembers c (po φ v) := by
    unfold w_Op_countMembers
    by_cases g : v = 0
    · rw [g]
      exact ⟨fun _ => ⟨w_miss _ _, trivial⟩, (fun z => nomatch z)⟩
    · rw [po_s φ (by omega)]
      obtain ⟨s1, s2, s3, s4, s5⟩ := a_size h.rt (by omega) y0
      exact ⟨(fun z => nomatch z), fun _ => ⟨s2, fun _ => ⟨s2, (o_setN (k := 1) (j := 1) hc rfl (by omega) b1 _).2, trivial⟩, fun _ => ⟨w_miss _ _, trivial⟩⟩⟩
  rw [y2]
  refine ⟨?_, ⟨y3, wc, trivial⟩, wm⟩
  rw [hm, m1, n_ne v40]
  unfold f_Op_countMembers t_Op_countMembers_5
  by_cases g : v = 0
  · rw [cd_f (fun z => z g), show Option.isNone (po φ v) = true from by rw [g]; rfl, cond_true]
    exact ms_0 h hz g
  · rw [cd_t g, show Option.isNone (po φ v) = false from by rw [po_s φ (by omega)]; rfl, cond_false]
    obtain ⟨s1, s2, s3, s4, s5⟩ := a_size h.rt (show 1 ≤ v by omega) y0
    have us : u_size c (po φ v) = (if (sA r 22 v).toInt ≤ 10 then sA r 24 v else -1) := by rw [po_s φ (by omega)]; exact s1
    rw [us]
    by_cases k : (sA r 22 v).toInt ≤ 10
    · rw [if_pos k, c1_ge, cd_t (s3 k), cd_t (by omega), (o_setN (k := 1) (j := 1) hc rfl (by omega) b1 _).1]
      exact fin_num h hz _ _
    · rw [if_neg k, show cn1 .ge (-1 : Int32) = false from rfl, cond_false, cd_f (by omega)]
      exact ms_1 h hz g
theorem op_22 (hfu : 100000 ≤ fu) (h : RR G T φ n u c r) (hz : SZ c) (hc : CDH r p c) (hq : q.toInt = (p : Int) + 1) (hp : p + 3 ≤ 3200) (b1 : (sA r 30 (p + 1)).toInt ≤ 15) (b2 : (sA r 30 (p + 2)).toInt ≤ 15) :
    OUT G T φ n c r (f_Op_makeTwin fu c (f_Op_slotAt c 2)) (f_M_members fu r 22 q) ∧ (w_Op_slotAt c 2 ∧ (w_Op_makeTwin fu c (f_Op_slotAt c 2) ∧ True)) ∧ w_M_members fu r 22 q := by
  obtain ⟨q0, v0⟩ := o_q0 hq (by omega)
  obtain ⟨q1, v1⟩ := o_q (k := 1) (j := 2) hq rfl (by omega)
  have z1 := (hc.b (p + 1)).1
  have z2 := (hc.b (p + 2)).1
  have hb := h.bnd
  obtain ⟨v, y0, y1, y2, y3⟩ := o_slt (k := 2) (j := 2) hc h.2.2.2.2.1 rfl (by omega) b2
  have v40 : v ≤ 40000 := by omega
  obtain ⟨m1, m2⟩ := hm_M (r := r) v40
  have ev : (nI v).toNatClampNeg = v := nN (by omega)
  have a1 : vp_in (sA r 30 (p + 1)) 16 := vp_of z1 (by omega)
  have a2 : vp_in (sA r 30 (p + 2)) 16 := vp_of z2 (by omega)
  have hm : f_M_members fu r 22 q = cond (cn1 .ne (nI v)) (cond (f_M_hasMembers r (nI v)) (t_M_members_158 fu (f_M_pays r (1 + Int32.toInt64 (sA r 24 v))).2 q (nI v) (b2i (f_M_pays r (1 + Int32.toInt64 (sA r 24 v))).1)) (f_M_fails r 4)) (f_M_fails r 1) := by
    unfold f_M_members
    rw [show cn2 .ne (22 : Int32) 17 = true from rfl, show cn2 .ne (22 : Int32) 18 = true from rfl, show cn2 .ne (22 : Int32) 21 = true from rfl, show cn2 .ne (22 : Int32) 22 = false from rfl, cond_true, cond_true, cond_true, cond_false, q1, y1, ev, cn1_ne_b2i]
  have wm : ((1 ≤ (sA r 22 v).toInt ∧ (sA r 22 v).toInt ≤ 10) → w_M_members_158 fu (f_M_pays r (1 + Int32.toInt64 (sA r 24 v))).2 q (nI v) (b2i (f_M_pays r (1 + Int32.toInt64 (sA r 24 v))).1)) → w_M_members fu r 22 q := fun w => by
    unfold w_M_members
    rw [show cn2 .ne (22 : Int32) 17 = true from rfl, show cn2 .ne (22 : Int32) 18 = true from rfl, show cn2 .ne (22 : Int32) 21 = true from rfl, show cn2 .ne (22 : Int32) 22 = false from rfl, q1, y1, ev]
    refine ⟨fun _ => ⟨fun _ => ⟨fun _ => ⟨(fun z => nomatch z), fun _ => ⟨v1, a2, fun _ => ⟨m2, fun hh => ⟨n_vp v40, trivial, w ?_⟩, fun _ => ⟨w_fails r 4, trivial⟩⟩, fun _ => ⟨w_fails r 1, trivial⟩⟩⟩, (fun z => nomatch z)⟩, (fun z => nomatch z)⟩, (fun z => nomatch z)⟩
    rw [cn1_ne_b2i, m1] at hh
    exact of_decide_eq_true hh
  rw [y2, hm, m1, n_ne v40]
  unfold f_Op_makeTwin t_Op_makeTwin_5 w_Op_makeTwin
  by_cases g : v = 0
  · have K0 : ¬ (1 ≤ (sA r 22 v).toInt ∧ (sA r 22 v).toInt ≤ 10) := by rw [g, h.rt.2.1]; decide
    refine ⟨?_, ⟨y3, ⟨fun _ => ⟨w_miss _ _, trivial⟩, fun z => ?_⟩, trivial⟩, wm (fun z => absurd z K0)⟩
    · rw [cd_f (fun z => z g), show Option.isNone (po φ v) = true from by rw [g]; rfl, cond_true]
      exact ms_0 h hz g
    · rw [g] at z
      exact nomatch z
  · obtain ⟨s1, s2, s3, s4, s5⟩ := a_size h.rt (show 1 ≤ v by omega) y0
    have epo : po φ v = some (φ v) := po_s φ (by omega)
    rw [cd_t g, epo, show Option.isNone (some (φ v)) = false from rfl, cond_false, s1]
    by_cases k : (sA r 22 v).toInt ≤ 10
    · have sz := s3 k
      have sx : ((sA r 24 v).toNatClampNeg : Int) = (sA r 24 v).toInt := by rw [tn_eq]; omega
      have gc : cn1 .ge (sA r 24 v) = true := by rw [c1_ge]; exact dt sz
      have lm := m31 (sA r 24 v)
      rw [if_pos k, gc, cond_true, cd_t (by omega), L_1 sz]
      rcases mk_ok h hz (z := 1 + (sA r 24 v).toNatClampNeg) (by omega) with ⟨c1, r1, e1, e2, h1, hz1, hcd, oc1, or1, mn, mu, mz, ⟨ra, rb, rc, rd, re, rf, rg, ri⟩, rD, rN, -⟩ | ⟨e1, e2⟩
      · have hc1 : CDH r p c1 := hc.mv hcd
        obtain ⟨c2, r2, t1, t2, t3, t4, t5, t6, t7, t8, t9, t10, t11, -⟩ := tw_pr (t := v) hfu h1 (by omega) y0 (by rw [rd]; exact k) (by omega) (by rw [rf]; omega)
        rw [rf] at t5 t10
        rw [rd] at t11
        have hc2 : CDH r p c2 := hc1.mv t9
        have hz2 : SZ c2 := ⟨t8.1.trans hz1.1, t8.2.1.trans hz1.2.1, t8.2.2.trans hz1.2.2⟩
        obtain ⟨w1, w2, w3⟩ := sl_new (r := r) t5 (ph1_s φ n (sN c1)) h1.bnd.2.2.2.2 hc2 (by omega) b1
        have ep2 : ph1 φ n (sN c1) v = φ v := if_neg (by omega)
        have sz2 := a_size w3.rt (show 1 ≤ v by omega) (LVE.tr y0 (ph1_ex φ n (sN c1)))
        rw [ep2] at sz2
        have us : u_size (pT c2 11 (va_up (sT c2 11) (sA r 30 (p + 1)).toNatClampNeg (po (ph1 φ n (sN c1)) (n + 1)))) (some (φ v)) = sA r 24 v := by
          rw [sz2.1]
          show (if (sA r2 22 v).toInt ≤ 10 then sA r2 24 v else -1) = _
          rw [t11, if_pos k, t10]
        have e8 : (Int32.toInt64 (sA r 24 v) + 7) / 8 = lN (((sA r 24 v).toNatClampNeg + 7) / 8) := by rw [L_x sz, L_8 (by omega)]
        have fin := bn_out w3 hz2 (z := ((sA r 24 v).toNatClampNeg + 7) / 8) (by omega)
        have e30 : sA r1 30 = sA r 30 := or1.2.2.1 30 (by decide) (by decide) (by decide)
        refine ⟨?_, ⟨y3, ⟨(fun z => nomatch z), fun _ => ⟨s2, fun _ => ⟨s2, trivial, ?_⟩, (fun z => nomatch z)⟩⟩, trivial⟩, wm (fun _ => ?_)⟩
        · rw [e1, e2]
          dsimp only
          unfold t_Op_makeTwin_17 t_M_members_158
          rw [show cn1 .eq (b2i true) = false from rfl, cond_false, t1, show cn1 .ne (b2i true) = true from rfl, cond_true, t3]
          dsimp only
          unfold t_Op_makeTwin_22 t_Op_makeTwin_23 t_Op_makeTwin_30 f_Op_eighths t_M_members_170 f_M_takesFor
          rw [w1, us, e8, q0, e30, ev]
          show OUT G T φ n c r _ (f_M_takes _ ((Int32.toInt64 (sA r2 24 v) + 7) / 8))
          rw [t10, e8]
          exact OUT.tr (ph1_ex φ n (sN c1)) ((oc1.tr t6).tr (opC_T _ _)) ((or1.tr t7).tr (opR_A _ (Or.inr (Or.inl rfl)) _)) fin
        · rw [e1]
          dsimp only
          unfold w_Op_makeTwin_17
          rw [show cn1 .eq (b2i true) = false from rfl, t1]
          dsimp only
          unfold w_Op_makeTwin_22 w_Op_makeTwin_23
          rw [w1]
          exact ⟨(fun z => nomatch z), fun _ => ⟨t2, w2, sz2.2.1, trivial, trivial⟩⟩
        · rw [L_1 sz, e2]
          dsimp only
          unfold w_M_members_158
          rw [show cn1 .ne (b2i true) = true from rfl, t3, q0, e30]
          exact ⟨fun _ => ⟨v0, t4, a1, n_vp v40, ⟨trivial, trivial⟩, trivial⟩, (fun z => nomatch z)⟩
      · refine ⟨?_, ⟨y3, ⟨(fun z => nomatch z), fun _ => ⟨s2, fun _ => ⟨s2, trivial, ?_⟩, (fun z => nomatch z)⟩⟩, trivial⟩, wm (fun _ => ?_)⟩
        · rw [e1, e2]
          exact full_out h hz
        · rw [e1]
          exact ⟨fun _ => trivial, (fun z => nomatch z)⟩
        · rw [L_1 sz, e2]
          exact ⟨(fun z => nomatch z), fun _ => trivial⟩
    · rw [if_neg k, show cn1 .ge (-1 : Int32) = false from rfl, cond_false, cd_f (by omega), ← epo]
      exact ⟨ms_1 h hz g, ⟨y3, ⟨fun _ => ⟨w_miss _ _, trivial⟩, fun _ => ⟨epo ▸ s2, (fun z => nomatch z), fun _ => ⟨w_miss _ _, trivial⟩⟩⟩, trivial⟩, wm (fun z => absurd z.2 k)⟩
theorem op_34 (h : RR G T φ n u c r) (hz : SZ c) (hc : CDH r p c) (hq : q.toInt = (p : Int) + 1) (hp : p + 2 ≤ 3200) (b1 : (sA r 30 (p + 1)).toInt ≤ 15) :
    OUT G T φ n c r (f_Op_tell c (f_Op_slotAt c 1)) (f_M_act fu r 34 q) ∧ (w_Op_slotAt c 1 ∧ (w_Op_tell c (f_Op_slotAt c 1) ∧ True)) ∧ w_M_act fu r 34 q := by
  obtain ⟨q0, v0⟩ := o_q0 hq (by omega)
  have z1 := (hc.b (p + 1)).1
  have hb := h.bnd
  obtain ⟨v, y0, y1, y2, y3⟩ := o_slt (k := 1) (j := 1) hc h.2.2.2.2.1 rfl (by omega) b1
  have v40 : v ≤ 40000 := by omega
  have ev : (nI v).toNatClampNeg = v := nN (by omega)
  have a1 : vp_in (sA r 30 (p + 1)) 16 := vp_of z1 (by omega)
  have i3 := (a_isc h.rt y0).2.2.2
  have c1 : cn2 .ge (34 : Int32) 10 = true := rfl
  have c2 : cn2 .ge (34 : Int32) 17 = true := rfl
  have c3 : cn2 .ge (34 : Int32) 23 = true := rfl
  have c4 : cn2 .ge (34 : Int32) 27 = true := rfl
  have c5 : cn2 .ge (34 : Int32) 29 = true := rfl
  have c6 : cn2 .ne (34 : Int32) 29 = true := rfl
  have hm : f_M_act fu r 34 q = cond (cn1 .ne (nI v)) (cond (cn2 .eq (sA r 22 v) 16) (f_M_fault r 7 (Int64.toInt32 (sB r 26 (sA r 23 v).toNatClampNeg))) (f_M_fails r 4)) (f_M_fails r 1) := by
    unfold f_M_act
    rw [c1, c2, c3, c4, c5, c6, cond_true, cond_true, cond_true, cond_true, cond_true, cond_true, q0, y1, ev]
  have w16 : (sA r 22 v).toInt = 16 → vp_in (sA r 23 v) 40001 := fun g => by
    by_cases g0 : v = 0
    · rw [g0, h.rt.2.1] at g
      exact absurd g (by decide)
    · obtain ⟨x, d1, d2, d3, d4, d5, d6⟩ := rd_trb h.rt (by omega) y0 g
      exact vp_of d5 (by rw [tn_eq] at d6; omega)
  have wm : w_M_act fu r 34 q := by
    unfold w_M_act
    rw [c1, c2, c3, c4, c5, c6, q0, y1, ev, c2_eq, show ((16 : Int32).toInt) = 16 from rfl]
    exact ⟨fun _ => ⟨fun _ => ⟨fun _ => ⟨fun _ => ⟨fun _ => ⟨fun _ => ⟨v0, a1, fun _ => ⟨n_vp v40, fun g => ⟨n_vp v40, w16 (of_decide_eq_true g), ⟨trivial, trivial⟩, trivial⟩, fun _ => ⟨w_fails r 4, trivial⟩⟩, fun _ => ⟨w_fails r 1, trivial⟩⟩, (fun z => nomatch z)⟩, (fun z => nomatch z)⟩, (fun z => nomatch z)⟩, (fun z => nomatch z)⟩, (fun z => nomatch z)⟩, (fun z => nomatch z)⟩
  rw [y2, hm, n_ne v40]
  unfold f_Op_tell w_Op_tell
  rw [i3, cn1_eq_b2i, c2_eq, show ((16 : Int32).toInt) = 16 from rfl]
  by_cases g : (sA r 22 v).toInt = 16
  · have g0 : ¬ v = 0 := fun z => by rw [z, h.rt.2.1] at g; exact absurd g (by decide)
    obtain ⟨x, d1, d2, d3, d4, d5, d6⟩ := rd_trb h.rt (show 1 ≤ v by omega) y0 g
    have epo : po φ v = some (φ v) := po_s φ (by omega)
    rw [dt g, cd_t g0, cond_true, Bool.not_true, cond_false, epo, gI_at d3 d1 rfl, d2, Int32.toInt32_toInt64]
    refine ⟨?_, ⟨y3, ⟨epo ▸ a_tho h.rt y0, (fun z => nomatch z), fun _ => ⟨cst_at d3 d1 rfl, ob_at d3 d1 rfl, w_faultT c _, trivial⟩⟩, trivial⟩, wm⟩
    obtain ⟨c', -, e2, e3⟩ := ft_out h hz (k := 7) (m := x) (by decide) (by decide)
    rw [e2 rfl]
    exact e3
  · rw [df g, Bool.not_false, cond_true, cond_false]
    refine ⟨?_, ⟨y3, ⟨a_tho h.rt y0, fun _ => ⟨w_miss _ _, trivial⟩, (fun z => nomatch z)⟩, trivial⟩, wm⟩
    by_cases g0 : v = 0
    · rw [cd_f (fun z => z g0)]
      exact ms_0 h hz g0
    · rw [cd_t g0]
      exact ms_1 h hz g0
end O4
