/-! OP 20 -/
section O7
variable {G : AH} {T : Nat} {φ : Nat → Nat} {n u p fu : Nat} {c r : St} {q : Int32}
/-- a row's put on either side -/
theorem put_out (h : RR G T φ n u c r) (hz : SZ c) {v : Nat} (y0 : v ≤ n ∧ LVE φ v) (k1 : 1 ≤ (sA r 22 v).toInt) (k2 : (sA r 22 v).toInt ≤ 8) {i : Int32} (g1 : 0 ≤ i.toInt) (g2 : i.toInt < (sA r 24 v).toInt) {x y : Int64} (hx : f_Ro_narrowed (sA r 22 v) x = y) (hy : (sA r 22 v).toInt = 7 → KP y) : OUT G T φ n c r (f_Ro_put c (po φ v) i x) (0, pB r 26 (vp_updL (sB r 26) (sA r 23 v + i).toNatClampNeg y)) ∧ w_Ro_put c (po φ v) i x ∧ vp_in (sA r 23 v + i) 40001 := by
  have hb := h.bnd
  have g0 := k_pos h.rt k1
  obtain ⟨e1, e2, e3, e4, e5, e6, e7, e8, e9⟩ := p_row h.rt y0 k1 k2
  obtain ⟨f, d1, d2, d3, d5, d6, d7, d8, d9⟩ := rd_row h.rt (show 1 ≤ v by omega) y0 k1 k2
  have d9' := d9
  rw [tn_eq, tn_eq] at d9'
  obtain ⟨s1, s2⟩ := nn_add (x := sA r 23 v) (y := i) d8 g1 (by omega)
  have e10 : Int32.ofNat (sA r 24 v).toNatClampNeg = sA r 24 v := (nIof e9).symm
  have hin : i.toNatClampNeg < (sA r 24 v).toNatClampNeg := by rw [tn_eq, tn_eq]; omega
  have vin : vp_in i (sA r 24 v).toNatClampNeg := vp_of g1 (by rw [tn_eq]; omega)
  unfold f_Ro_put w_Ro_put
  rw [e6, e8, e10, c1_lt, c2_ge, cd_f (by omega), cd_f (by omega), e5, hx, s1]
  exact ⟨OUT.ok (h.rowput (show 1 ≤ v by omega) y0 k1 k2 hin hy) (EX.rf _ _) hz (opC_Q _ _ _ _) (opR_B _ (Or.inl rfl) _), ⟨fun _ => trivial, fun _ => ⟨e3, e7, fun _ => trivial, fun _ => ⟨e3, e3, e7, vin, trivial⟩⟩⟩, vp_of (by omega) (by omega)⟩
theorem op_20 (h : RR G T φ n u c r) (hz : SZ c) (hc : CDH r p c) (hq : q.toInt = (p : Int) + 1) (hp : p + 5 ≤ 3200) (b1 : 1 ≤ (sA r 30 (p + 1)).toInt) (b1' : (sA r 30 (p + 1)).toInt ≤ 8) (b2 : (sA r 30 (p + 2)).toInt ≤ 15) (b3 : (sA r 30 (p + 3)).toInt ≤ 7) (b4 : (sA r 30 (p + 4)).toInt ≤ (if (sA r 30 (p + 1)).toInt = 6 ∨ (sA r 30 (p + 1)).toInt = 7 then 3 else 7)) :
    OUT G T φ n c r (f_Op_putMember c (f_Op_slotAt c 2) (f_Op_numberAt c 3)) (f_M_members fu r 20 q) ∧ (w_Op_slotAt c 2 ∧ (w_Op_numberAt c 3 ∧ (w_Op_putMember c (f_Op_slotAt c 2) (f_Op_numberAt c 3) ∧ True))) ∧ w_M_members fu r 20 q := by
  obtain ⟨q0, v0⟩ := o_q0 hq (by omega)
  obtain ⟨q1, v1⟩ := o_q (k := 1) (j := 2) hq rfl (by omega)
  obtain ⟨q2, v2⟩ := o_q (k := 2) (j := 3) hq rfl (by omega)
  obtain ⟨q3, v3⟩ := o_q (k := 3) (j := 4) hq rfl (by omega)
  have z2 := (hc.b (p + 2)).1
  have z3 := (hc.b (p + 3)).1
  have z4 := (hc.b (p + 4)).1
  have hb := h.bnd
  obtain ⟨v, y0, y1, y2, y3⟩ := o_slt (k := 2) (j := 2) hc h.2.2.2.2.1 rfl (by omega) b2
  obtain ⟨x1, x2⟩ := o_num (k := 3) (j := 3) hc h.1 rfl (by omega) b3
  obtain ⟨w1, w2⟩ := o_opn (k := 1) (j := 1) hc rfl (by omega)
  obtain ⟨i, hi⟩ : ∃ i, i = sA r 28 (sA r 30 (p + 3)).toNatClampNeg := ⟨_, rfl⟩
  obtain ⟨w, hw⟩ : ∃ w, w = sA r 30 (p + 1) := ⟨_, rfl⟩
  rw [← hi] at x1
  rw [← hw] at w1 b1 b1' b4
  have v40 : v ≤ 40000 := by omega
  have ev : (nI v).toNatClampNeg = v := nN (by omega)
  have a2 : vp_in (sA r 30 (p + 2)) 16 := vp_of z2 (by omega)
  have a3 : vp_in (sA r 30 (p + 3)) 8 := vp_of z3 (by omega)
  have a47 : ¬ (w.toInt = 6 ∨ w.toInt = 7) → (sA r 30 (p + 4)).toInt ≤ 7 := fun g => by rw [if_neg g] at b4; exact b4
  have a43 : w.toInt = 6 ∨ w.toInt = 7 → (sA r 30 (p + 4)).toInt ≤ 3 := fun g => by rw [if_pos g] at b4; exact b4
  have a48 : vp_in (sA r 30 (p + 4)) 8 := vp_of z4 (by by_cases g : w.toInt = 6 ∨ w.toInt = 7; have := a43 g; omega; have := a47 g; omega)
  have hm : f_M_members fu r 20 q = t_M_members_230 fu r 20 w (nI v) i (q + 3) := by
    unfold f_M_members t_M_members_198 t_M_members_215
    rw [show cn2 .ne (20 : Int32) 17 = true from rfl, show cn2 .ne (20 : Int32) 18 = true from rfl, show cn2 .ne (20 : Int32) 21 = true from rfl, show cn2 .ne (20 : Int32) 22 = true from rfl, show cn2 .ne (20 : Int32) 19 = true from rfl, cond_true, cond_true, cond_true, cond_true, cond_true, cond_true, cond_true, q0, q1, q2, y1, ← hi, ← hw]
  obtain ⟨-, i1, -⟩ := a_isc h.rt y0
  have sI1 : (sA r 22 v).toInt = w.toInt → 0 ≤ i.toInt → i.toInt < (sA r 24 v).toInt → vp_in (sA r 23 v + i) 40001 := fun g1 g2 g3 => (put_out h hz y0 (by omega) (by omega) g2 g3 (x := f_M_kept 0) rfl (fun g => by
    have e7 : sA r 22 v = 7 := Int32.toInt_inj.mp g
    rw [e7, show f_M_kept 0 = 0 from kp0, nrw_7 kp0]
    exact kp0)).2.2
  have wm : w_M_members fu r 20 q := by
    unfold w_M_members w_M_members_198 w_M_members_215
    rw [show cn2 .ne (20 : Int32) 17 = true from rfl, show cn2 .ne (20 : Int32) 18 = true from rfl, show cn2 .ne (20 : Int32) 21 = true from rfl, show cn2 .ne (20 : Int32) 22 = true from rfl, show cn2 .ne (20 : Int32) 19 = true from rfl, q0, q1, q2, y1, ← hi, ← hw]
    refine ⟨fun _ => ⟨fun _ => ⟨fun _ => ⟨fun _ => ⟨v0, fun _ => ⟨v1, a2, fun _ => ⟨v2, a3, fun _ => ?_, (fun z => nomatch z)⟩, (fun z => nomatch z)⟩, (fun z => nomatch z)⟩, (fun z => nomatch z)⟩, (fun z => nomatch z)⟩, (fun z => nomatch z)⟩, (fun z => nomatch z)⟩
    unfold w_M_members_230 w_M_members_297
    rw [q3, ev, show cn2 .ne (20 : Int32) 20 = false from rfl, c2_eq, c1_lt, c2_lt, c2_ne w 7, c2_ne w 6, show ((7 : Int32).toInt) = 7 from rfl, show ((6 : Int32).toInt) = 6 from rfl]
    refine ⟨v3, fun _ => ⟨n_vp v40, fun g1 => ⟨fun _ => ⟨w_fails r 2, trivial⟩, fun g2 => ⟨n_vp v40, fun g3 => ⟨n_vp v40, (fun z => nomatch z), fun _ => ?_⟩, fun _ => ⟨w_fails r 2, trivial⟩⟩⟩, fun _ => ⟨w_fails r 4, trivial⟩⟩, fun _ => ⟨w_fails r 1, trivial⟩⟩
    have g4 := sI1 (of_decide_eq_true g1) (by have := of_decide_eq_false g2; omega) (of_decide_eq_true g3)
    refine ⟨fun g5 => ⟨fun g6 => ⟨a48, g4, trivial⟩, fun g6 => ⟨?_, g4, trivial⟩⟩, fun g5 => ⟨?_, g4, trivial⟩⟩
    · have := of_decide_eq_false g6
      have := a43 (by omega)
      exact vp_of z4 (by omega)
    · have := of_decide_eq_false g5
      have := a43 (by omega)
      exact vp_of z4 (by omega)
  rw [y2, x1, hm]
  unfold f_Op_putMember w_Op_putMember t_Op_putMember_14 w_Op_putMember_14 t_M_members_230 t_M_members_256
  rw [w1, i1, cn1_eq_b2i, n_ne v40, ev, q3, show cn2 .ne (20 : Int32) 20 = false from rfl, cond_false]
  by_cases k : 1 ≤ (sA r 22 v).toInt ∧ (sA r 22 v).toInt ≤ 8
  · have g0 := k_pos h.rt k.1
    obtain ⟨e1, e2, e3, e4, e5, e6, e7, e8, e9⟩ := p_row h.rt y0 k.1 k.2
    have e10 : Int32.ofNat (sA r 24 v).toNatClampNeg = sA r 24 v := (nIof e9).symm
    rw [dt k, Bool.not_true, cond_false, cd_t g0, e5, c2_eq, e6, e8, e10, wi_C]
    by_cases g1 : (sA r 22 v).toInt = w.toInt
    · have gw : sA r 22 v = w := Int32.toInt_inj.mp g1
      rw [cd_t g1, dt g1, cond_true]
      by_cases g2 : 0 ≤ i.toInt ∧ i.toInt < (sA r 24 v).toInt
      · rw [if_pos g2, c1_lt, c2_lt, cd_f (by omega), cd_t g2.2]
        dsimp only
        unfold t_Op_putMember_24 w_Op_putMember_24 t_Op_putMember_50 w_Op_putMember_50 t_M_members_297
        rw [show cn1 .eq (b2i true) = false from rfl, cond_false, c2_ne w 6, c2_ne w 7, show ((6 : Int32).toInt) = 6 from rfl, show ((7 : Int32).toInt) = 7 from rfl]
        by_cases g6 : w.toInt = 6
        · have w6 : sA r 22 v = 6 := Int32.toInt_inj.mp (g1.trans g6)
          obtain ⟨n1, n2, n3⟩ := o_rea (k := 4) (j := 4) hc h.1 rfl (by omega) (a43 (Or.inl g6))
          rw [dt (p := ¬ w.toInt = 7) (by omega), df (p := ¬ w.toInt = 6) (fun z => z g6), cond_false, cond_true, cond_false, n1]
          obtain ⟨p1, p2, p3⟩ := put_out h hz y0 k.1 k.2 g2.1 g2.2 (x := Int32.toInt64 (f_Re_toFloat (sB r 29 (sA r 30 (p + 4)).toNatClampNeg))) (y := Int32.toInt64 (f_Re_toFloat (sB r 29 (sA r 30 (p + 4)).toNatClampNeg))) (by rw [w6]; exact nrw_6 _) (fun g => by omega)
          rw [toFloat_narrow] at p1
          refine ⟨?_, ⟨y3, x2, ⟨w2, a_tho h.rt y0, (fun z => nomatch z), fun _ => ⟨e2, e3, fun _ => ⟨e3, e7, w_wi c i _, (fun z => nomatch z), fun _ => ⟨(fun z => nomatch z), fun _ => ⟨n2, p2, e4, trivial⟩⟩⟩, (fun z => nomatch z)⟩⟩, trivial⟩, wm⟩
          rw [toFloat_narrow]
          exact p1
        · rw [dt (p := ¬ w.toInt = 6) g6, cond_true]
          by_cases g7 : w.toInt = 7
          · have w7 : sA r 22 v = 7 := Int32.toInt_inj.mp (g1.trans g7)
            obtain ⟨n1, n2, n3⟩ := o_rea (k := 4) (j := 4) hc h.1 rfl (by omega) (a43 (Or.inr g7))
            rw [df (p := ¬ w.toInt = 7) (fun z => z g7), cond_false, cond_false, n1]
            obtain ⟨p1, p2, p3⟩ := put_out h hz y0 k.1 k.2 g2.1 g2.2 (x := sB r 29 (sA r 30 (p + 4)).toNatClampNeg) (y := sB r 29 (sA r 30 (p + 4)).toNatClampNeg) (by rw [w7]; exact nrw_7 n3) (fun _ => n3)
            exact ⟨p1, ⟨y3, x2, ⟨w2, a_tho h.rt y0, (fun z => nomatch z), fun _ => ⟨e2, e3, fun _ => ⟨e3, e7, w_wi c i _, (fun z => nomatch z), fun _ => ⟨fun _ => ⟨(fun z => nomatch z), fun _ => ⟨n2, p2, e4, trivial⟩⟩, (fun z => nomatch z)⟩⟩, (fun z => nomatch z)⟩⟩, trivial⟩, wm⟩
          · obtain ⟨n1, n2⟩ := o_num (k := 4) (j := 4) hc h.1 rfl (by omega) (a47 (by omega))
            rw [dt (p := ¬ w.toInt = 7) g7, cond_true, cond_true, cond_true, n1]
            obtain ⟨p1, p2, p3⟩ := put_out h hz y0 k.1 k.2 g2.1 g2.2 (x := Int32.toInt64 (sA r 28 (sA r 30 (p + 4)).toNatClampNeg)) (y := f_M_cut w (sA r 28 (sA r 30 (p + 4)).toNatClampNeg)) (by rw [gw]; exact nrw_cut (eight b1 b1' g6 g7)) (fun g => by omega)
            exact ⟨p1, ⟨y3, x2, ⟨w2, a_tho h.rt y0, (fun z => nomatch z), fun _ => ⟨e2, e3, fun _ => ⟨e3, e7, w_wi c i _, (fun z => nomatch z), fun _ => ⟨fun _ => ⟨fun _ => ⟨n2, p2, e4, trivial⟩, (fun z => nomatch z)⟩, (fun z => nomatch z)⟩⟩, (fun z => nomatch z)⟩⟩, trivial⟩, wm⟩
      · rw [if_neg g2]
        dsimp only
        refine ⟨?_, ⟨y3, x2, ⟨w2, a_tho h.rt y0, (fun z => nomatch z), fun _ => ⟨e2, e3, fun _ => ⟨e3, e7, w_wi c i _, fun _ => trivial, (fun z => nomatch z)⟩, (fun z => nomatch z)⟩⟩, trivial⟩, wm⟩
        have e0 : ∀ x : Int32 × St, cond (cn1 .lt i) (f_M_fails r 2) (cond (cn2 .lt i (sA r 24 v)) x (f_M_fails r 2)) = f_M_fails r 2 := fun x => by
          rw [c1_lt, c2_lt]
          by_cases g3 : i.toInt < 0
          · rw [cd_t g3]
          · rw [cd_f g3, cd_f (by omega)]
        rw [e0]
        exact fl_out h hz (by decide) (by decide)
    · rw [cd_f g1, df g1, cond_false]
      exact ⟨ms_1 h hz g0, ⟨y3, x2, ⟨w2, a_tho h.rt y0, (fun z => nomatch z), fun _ => ⟨e2, e3, (fun z => nomatch z), fun _ => ⟨w_miss _ _, trivial⟩⟩⟩, trivial⟩, wm⟩
  · rw [df k, Bool.not_false, cond_true]
    refine ⟨?_, ⟨y3, x2, ⟨w2, a_tho h.rt y0, fun _ => ⟨w_miss _ _, trivial⟩, (fun z => nomatch z)⟩, trivial⟩, wm⟩
    by_cases g : v = 0
    · rw [cd_f (fun z => z g)]
      exact ms_0 h hz g
    · rw [cd_t g, c2_eq, cd_f (by omega)]
      exact ms_1 h hz g
end O7
