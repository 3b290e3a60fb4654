/-! OP 29, its end -/
section O12
variable {G : AH} {T : Nat} {φ : Nat → Nat} {n u p fu : Nat} {c r : St} {q : Int32}
theorem is_17 {v : Nat} (v40 : v ≤ 40000) (g : ¬ v = 0) : f_M_is r (nI v) 17 = (decide (11 ≤ (sA r 22 v).toInt ∧ (sA r 22 v).toInt ≤ 15) && decide (11 < (sA r 22 v).toInt)) := by
  have ev : (nI v).toNatClampNeg = v := nN (by omega)
  unfold f_M_is
  rw [show cn1 .ne (17 : Int32) = true from rfl, show cn2 .gt (17 : Int32) 10 = true from rfl, show cn2 .ge (17 : Int32) 16 = true from rfl, show cn2 .ne (17 : Int32) 16 = true from rfl, show cn2 .ne (17 : Int32) 17 = false from rfl, cond_true, n_ne v40, cd_t g, cond_true, cond_true, cond_true, cond_false, (ip_M (r := r) v40).1, cn1_eq_b2i, ev, c2_le, show ((11 : Int32).toInt) = 11 from rfl]
  cases decide (11 ≤ (sA r 22 v).toInt ∧ (sA r 22 v).toInt ≤ 15)
  · rfl
  · by_cases y : (sA r 22 v).toInt ≤ 11
    · rw [cd_t y, df (by omega)]; rfl
    · rw [cd_f y, dt (by omega)]; rfl
theorem is_18 {v : Nat} (v40 : v ≤ 40000) (g : ¬ v = 0) : f_M_is r (nI v) 18 = (decide (11 ≤ (sA r 22 v).toInt ∧ (sA r 22 v).toInt ≤ 15) && decide (2 < (sA r 22 v - 11).toInt)) := by
  have ev : (nI v).toNatClampNeg = v := nN (by omega)
  unfold f_M_is
  rw [show cn1 .ne (18 : Int32) = true from rfl, show cn2 .gt (18 : Int32) 10 = true from rfl, show cn2 .ge (18 : Int32) 16 = true from rfl, show cn2 .ne (18 : Int32) 16 = true from rfl, show cn2 .ne (18 : Int32) 17 = true from rfl, show cn2 .ne (18 : Int32) 18 = false from rfl, cond_true, n_ne v40, cd_t g, cond_true, cond_true, cond_true, cond_true, cond_false, (ip_M (r := r) v40).1, cn1_eq_b2i, ev, c2_le, show ((2 : Int32).toInt) = 2 from rfl]
  cases decide (11 ≤ (sA r 22 v).toInt ∧ (sA r 22 v).toInt ≤ 15)
  · rfl
  · by_cases y : (sA r 22 v - 11).toInt ≤ 2
    · rw [cd_t y, df (by omega)]; rfl
    · rw [cd_f y, dt (by omega)]; rfl
/-- may it be asked: both sides -/
def may (r : St) (v : Nat) (hh : Int32) : Bool := if hh = 0 ∨ hh = 5 then f_M_isPart r (nI v) else if hh = 1 then f_M_is r (nI v) 17 else if hh = 2 then f_M_is r (nI v) 18 else if hh = 3 then f_M_is r (nI v) 12 else f_M_is r (nI v) 14
theorem may_C (h : RR G T φ n u c r) {v : Nat} (y0 : v ≤ n ∧ LVE φ v) (g : ¬ v = 0) {hh : Int32} (h1 : 0 ≤ hh.toInt) (h2 : hh.toInt ≤ 5) : (¬ (11 ≤ (sA r 22 v).toInt ∧ (sA r 22 v).toInt ≤ 15) → may r v hh = false) ∧ ((11 ≤ (sA r 22 v).toInt ∧ (sA r 22 v).toInt ≤ 15) → f_Pa_answers c (po φ v) hh = may r v hh ∧ w_Pa_answers c (po φ v) hh) := by
  have hb := h.bnd
  have v40 : v ≤ 40000 := by omega
  constructor
  · intro k
    unfold may
    rw [(ip_M (r := r) v40).1, is_17 v40 g, is_18 v40 g, is_11 v40 g (by decide) (by decide), is_11 v40 g (by decide) (by decide), df k, Bool.false_and, Bool.false_and, Bool.false_and, Bool.false_and]
    split
    · rfl
    split
    · rfl
    split
    · rfl
    split <;> rfl
  · intro k
    obtain ⟨e1, e2, e3, e4, e5⟩ := p_prt h.rt y0 k.1 k.2
    have e11 := sub11 k.1 k.2
    refine ⟨?_, fun _ => ⟨⟨e3, trivial⟩, e4, trivial⟩, fun _ => ⟨fun _ => ⟨⟨e3, trivial⟩, e4, trivial⟩, fun _ => ⟨fun _ => ⟨e3, trivial⟩, fun _ => ⟨fun _ => ⟨e3, trivial⟩, fun _ => trivial⟩⟩⟩⟩
    unfold may f_Pa_answers f_Pa_isWeighed f_Pa_isPriced
    have d11 : decide (11 < (sA r 22 v).toInt) = decide (0 < (sA r 22 v - 11).toInt) := dcg (by omega)
    rw [(ip_M (r := r) v40).1, is_17 v40 g, is_18 v40 g, is_11 v40 g (by decide) (by decide), is_11 v40 g (by decide) (by decide), dt k, Bool.true_and, Bool.true_and, Bool.true_and, Bool.true_and, e5, d11, bl_same, bl_same]
    rcases five (x := sA r 22 v - 11) (by omega) (by omega) with y | y | y | y | y <;> rw [y] <;> rcases six h1 h2 with z | z | z | z | z | z <;> subst z <;> decide
theorem one_r : f_M_realOf 1 = 4607182418800017408 := by decide +kernel
/-- LOAD -/
theorem ld_eq {c' r' : St} (h : RR G T φ n u c' r') {v : Nat} (y0 : v ≤ n ∧ LVE φ v) (k : 11 ≤ (sA r' 22 v).toInt ∧ (sA r' 22 v).toInt ≤ 15) (x : Int32) (w : Int64) : ∃ y, f_Pa_loadOf c' (po φ v) x w = y ∧ KP y ∧ w_Pa_loadOf c' (po φ v) x w ∧ y = (let a := f_M_times (f_M_realOf (Int32.toInt64 x)) w; let b := if (sA r' 22 v - 11).toInt ≤ 2 then a else f_M_added a (f_M_times (f_M_realOf (Int32.toInt64 x)) (f_M_realOf (sB r' 26 ((sA r' 23 v).toNatClampNeg + 2)))); if (sA r' 22 v - 11).toInt = 4 then f_M_added b (f_M_realOf 1) else b) := by
  have g0 := k_pos h.rt (v := v) (by omega)
  obtain ⟨e1, e2, e3, e4, e5⟩ := p_prt h.rt y0 k.1 k.2
  have e11 := sub11 k.1 k.2
  obtain ⟨qq, pp, ww, xx, d1, d2, d3, d4, d5, d6, d7, d8, d9, d10, d11, d12⟩ := rd_prt h.rt (show 1 ≤ v by omega) y0 k.1 k.2
  have gp : gI (sD c') (po φ v) 3 = pp := by rw [e1]; exact gI_at d9 d1 rfl
  refine ⟨_, rfl, ?_, ⟨⟨e3, trivial⟩, e4, fun _ => ⟨e3, trivial⟩, fun _ => ⟨e3, e3, trivial⟩⟩, ?_⟩
  · unfold f_Pa_loadOf t_Pa_loadOf_18
    rw [cn1_eq_b2i]
    cases f_Pa_isPriced c' (po φ v) <;> cases cn2 .ne (gI (sD c') (po φ v) 0) 4
    · exact kp_sum _ _
    · exact kp_product _ _
    · exact kp_sum _ _
    · exact kp_sum _ _
  · unfold f_Pa_loadOf t_Pa_loadOf_18 f_Pa_isPriced
    rw [cn1_eq_b2i, e5, gp, bl_same, bl_3 (by omega) (by omega), c2_ne, show ((4 : Int32).toInt) = 4 from rfl, d5, one_r, ← ofInt_realOf, ← ofInt_realOf]
    dsimp only
    rw [← product_times, ← product_times, ← sum_added]
    by_cases a : (sA r' 22 v - 11).toInt ≤ 2
    · rw [if_pos a, df (by omega), Bool.not_false, cond_true, cd_t (by omega), if_neg (by omega)]
    · rw [if_neg a, dt (by omega), Bool.not_true, cond_false]
      by_cases b : (sA r' 22 v - 11).toInt = 4
      · rw [cd_f (fun z => z b), if_pos b, ← sum_added]
      · rw [cd_t b, if_neg b, ← sum_added]
theorem op_29 (hfu : 1000000 ≤ fu) (h : RR G T φ n u c r) (hz : SZ c) (hc : CDH r p c) (hq : q.toInt = (p : Int) + 1) (hp : p + 5 ≤ 3200) (b1 : (sA r 30 (p + 1)).toInt ≤ 5) (b2 : (sA r 30 (p + 2)).toInt ≤ 3) (b3 : (sA r 30 (p + 3)).toInt ≤ 15) (b4 : (sA r 30 (p + 4)).toInt ≤ 7) :
    OUT G T φ n c r (f_Op_ask fu c (f_Op_operand c 1) (f_Op_slotAt c 3) (f_Op_numberAt c 4)) (f_M_asks fu r q) ∧ (w_Op_operand c 1 ∧ (w_Op_slotAt c 3 ∧ (w_Op_numberAt c 4 ∧ (w_Op_ask fu c (f_Op_operand c 1) (f_Op_slotAt c 3) (f_Op_numberAt c 4) ∧ True)))) ∧ w_M_asks fu r q := by
  obtain ⟨q0, v0⟩ := o_q0 hq (by omega)
  obtain ⟨q1, v1⟩ := o_q (k := 1) (j := 2) hq rfl (by omega)
  obtain ⟨q2, v2⟩ := o_q (k := 2) (j := 3) hq rfl (by omega)
  obtain ⟨q3, v3⟩ := o_q (k := 3) (j := 4) hq rfl (by omega)
  have z1 := (hc.b (p + 1)).1
  have z2 := (hc.b (p + 2)).1
  have z3 := (hc.b (p + 3)).1
  have z4 := (hc.b (p + 4)).1
  have hb := h.bnd
  obtain ⟨v, y0, y1, y2, y3⟩ := o_slt (k := 3) (j := 3) hc h.2.2.2.2.1 rfl (by omega) b3
  obtain ⟨x1, x2⟩ := o_num (k := 4) (j := 4) hc h.1 rfl (by omega) b4
  obtain ⟨w1, w2⟩ := o_opn (k := 1) (j := 1) hc rfl (by omega)
  obtain ⟨hh, hhh⟩ : ∃ hh, hh = sA r 30 (p + 1) := ⟨_, rfl⟩
  obtain ⟨x, hx⟩ : ∃ x, x = sA r 28 (sA r 30 (p + 4)).toNatClampNeg := ⟨_, rfl⟩
  rw [← hhh] at w1 b1 z1
  rw [← hx] at x1
  have v40 : v ≤ 40000 := by omega
  have ev : (nI v).toNatClampNeg = v := nN (by omega)
  have a2 : vp_in (sA r 30 (p + 2)) 4 := vp_of z2 (by omega)
  have a3 : vp_in (sA r 30 (p + 3)) 16 := vp_of z3 (by omega)
  have a4 : vp_in (sA r 30 (p + 4)) 8 := vp_of z4 (by omega)
  have ih : ∀ k : Int32, hh = k ↔ hh.toInt = k.toInt := fun k => ⟨fun z => by rw [z], fun z => Int32.toInt_inj.mp z⟩
  have hm : f_M_asks fu r q = cond (decide (¬ v = 0)) (t_M_asks_49 fu r q hh (nI v) (b2i (may r v hh))) (f_M_fails r 1) := by
    unfold f_M_asks t_M_asks_26 t_M_asks_48 may
    rw [q0, q2, y1, ← hhh, n_ne v40]
    rcases six z1 b1 with z | z | z | z | z | z <;> rw [z] <;> rfl
  have wm : w_M_asks_49 fu r q hh (nI v) (b2i (may r v hh)) → w_M_asks fu r q := fun w => by
    unfold w_M_asks w_M_asks_26 w_M_asks_48
    rw [q0, q2, y1, ← hhh]
    refine ⟨v0, v2, a3, fun _ => ?_, fun _ => ⟨w_fails r 1, trivial⟩⟩
    unfold may at w
    rcases six z1 b1 with z | z | z | z | z | z <;> rw [z] at w ⊢
    · exact ⟨fun _ => ⟨(ip_M (r := r) v40).2, w⟩, (fun z => nomatch z)⟩
    · exact ⟨(fun z => nomatch z), fun _ => ⟨fun _ => ⟨(fun z => nomatch z), fun _ => ⟨w_is v40, w⟩⟩, (fun z => nomatch z)⟩⟩
    · exact ⟨(fun z => nomatch z), fun _ => ⟨fun _ => ⟨fun _ => ⟨(fun z => nomatch z), fun _ => ⟨w_is v40, w⟩⟩, (fun z => nomatch z)⟩, (fun z => nomatch z)⟩⟩
    · exact ⟨(fun z => nomatch z), fun _ => ⟨fun _ => ⟨fun _ => ⟨fun _ => ⟨(fun z => nomatch z), fun _ => ⟨w_is v40, w⟩⟩, (fun z => nomatch z)⟩, (fun z => nomatch z)⟩, (fun z => nomatch z)⟩⟩
    · exact ⟨(fun z => nomatch z), fun _ => ⟨fun _ => ⟨fun _ => ⟨fun _ => ⟨fun _ => ⟨w_is v40, w⟩, (fun z => nomatch z)⟩, (fun z => nomatch z)⟩, (fun z => nomatch z)⟩, (fun z => nomatch z)⟩⟩
    · exact ⟨(fun z => nomatch z), fun _ => ⟨(fun z => nomatch z), fun _ => ⟨(ip_M (r := r) v40).2, w⟩⟩⟩
  obtain ⟨i0, -⟩ := a_isc h.rt y0
  rw [y2, w1, x1, hm]
  unfold f_Op_ask w_Op_ask t_Op_ask_10 w_Op_ask_10
  rw [i0, cn1_eq_b2i]
  by_cases k : 11 ≤ (sA r 22 v).toInt ∧ (sA r 22 v).toInt ≤ 15
  · have g0 := k_pos h.rt (v := v) (by omega)
    obtain ⟨e1, e2, e3, e4, e5⟩ := p_prt h.rt y0 k.1 k.2
    have e11 := sub11 k.1 k.2
    obtain ⟨mc1, mc2⟩ := (may_C h y0 g0 z1 b1).2 k
    rw [dt k, Bool.not_true, cond_false, cd_t g0, mc1, cn1_ne_b2i, c2_ne hh 5, show ((5 : Int32).toInt) = 5 from rfl]
    unfold t_M_asks_49
    rw [cn1_ne_b2i, c2_ne hh 5, show ((5 : Int32).toInt) = 5 from rfl]
    have w49a : hh.toInt = 5 → w_M_asks_49 fu r q hh (nI v) (b2i (may r v hh)) := fun g5 => by
      unfold w_M_asks_49 w_M_asks_79 w_M_asks_92
      rw [c2_ne hh 5, show ((5 : Int32).toInt) = 5 from rfl, df (p := ¬ hh.toInt = 5) (fun z => z g5), q1]
      exact ⟨fun _ => ⟨n_vp v40, (fun z => nomatch z), fun _ => ⟨v1, fun _ => ⟨a2, trivial⟩, fun _ => ⟨fun _ => ⟨fun _ => ⟨fun _ => ⟨a2, trivial⟩, fun _ => ⟨a2, trivial⟩⟩, fun _ => ⟨a2, trivial⟩⟩, fun _ => ⟨a2, trivial⟩⟩⟩⟩, fun _ => ⟨w_fails r 4, trivial⟩⟩
    have w49b : ¬ hh.toInt = 5 → (may r v hh = true → W_weighs fu 32 r (nI v) 1 ∧ w_M_asks_100 fu (F_weighs fu 32 r (nI v) 1).2 q hh (nI v) (sA r 22 v - 11) (F_weighs fu 32 r (nI v) 1).1) → w_M_asks_49 fu r q hh (nI v) (b2i (may r v hh)) := fun g5 y => by
      unfold w_M_asks_49
      rw [c2_ne hh 5, show ((5 : Int32).toInt) = 5 from rfl, dt (p := ¬ hh.toInt = 5) g5, cn1_ne_b2i, ev]
      exact ⟨fun z => ⟨n_vp v40, fun _ => y z, (fun z => nomatch z)⟩, fun _ => ⟨w_fails r 4, trivial⟩⟩
    cases hmay : may r v hh with
    | false =>
      rw [hmay] at w49a w49b
      refine ⟨ms_1 h hz g0, ⟨w2, y3, x2, ⟨a_tho h.rt y0, (fun z => nomatch z), fun _ => ⟨e2, mc2, e4, (fun z => nomatch z), fun _ => ⟨w_miss _ _, trivial⟩⟩⟩, trivial⟩, wm ?_⟩
      rw [hmay]
      by_cases g5 : hh.toInt = 5
      · exact w49a g5
      · exact w49b g5 (fun z => nomatch z)
    | true =>
      rw [hmay] at w49a w49b wm
      rw [cond_true, cond_true]
      by_cases g5 : hh.toInt = 5
      · rw [df (p := ¬ hh.toInt = 5) (fun z => z g5), cond_false, cond_false, ev, q1]
        unfold t_M_asks_79 t_M_asks_92
        have hset := o_setR (k := 2) (j := 2) hc rfl (by omega) b2 (f_Re_ofInt (f_Pa_label c (po φ v)))
        refine ⟨?_, ⟨w2, y3, x2, ⟨a_tho h.rt y0, (fun z => nomatch z), fun _ => ⟨e2, mc2, e4, fun _ => ⟨(fun z => nomatch z), fun _ => ⟨⟨e3, trivial⟩, e4, hset.2, trivial⟩⟩, (fun z => nomatch z)⟩⟩, trivial⟩, wm (w49a g5)⟩
        rw [hset.1]
        have fin := fin_real h hz (sA r 30 (p + 2)).toNatClampNeg (kp_ofInt (f_Pa_label c (po φ v)))
        have el : f_Pa_label c (po φ v) = (if sA r 22 v - 11 = 1 then 12 else if sA r 22 v - 11 = 2 then 123 else if sA r 22 v - 11 = 4 then 51 else 1) := by
          unfold f_Pa_label
          rw [e5]
          rcases five (x := sA r 22 v - 11) (by omega) (by omega) with y | y | y | y | y <;> rw [y] <;> decide
        rw [el] at fin ⊢
        rw [ofInt_realOf] at fin ⊢
        rcases five (x := sA r 22 v - 11) (by omega) (by omega) with y | y | y | y | y <;> rw [y] at fin ⊢ <;> exact fin
      · rw [dt (p := ¬ hh.toInt = 5) g5, cond_true, cond_true, ev]
        obtain ⟨⟨⟨l1, l2, l3, l4⟩, l5⟩, l6, l7⟩ := ws_go hfu 32 c r v 1 h hz y0 k.1 k.2 (by decide) (by decide) (by decide)
        obtain ⟨c1, hc1⟩ : ∃ c1, c1 = F_pweighs fu 32 c (po φ v) 1 := ⟨_, rfl⟩
        obtain ⟨r1, hr1⟩ : ∃ r1, r1 = F_weighs fu 32 r (nI v) 1 := ⟨_, rfl⟩
        rw [← hc1, ← hr1] at l1 l2 l5
        rw [← hc1] at l3
        rw [← hr1] at l4 w49b
        rw [← hc1, ← hr1]
        have hcd : CDH r p c1.2 := hc.mv ⟨l3.1 8 5 (by decide), by rw [l3.2.2.1]⟩
        have r30 : sA r1.2 30 = sA r 30 := by rw [l4.2.2.1]
        have r28 : sA r1.2 28 = sA r 28 := by rw [l4.2.2.1]
        have k' : 11 ≤ (sA r1.2 22 v).toInt ∧ (sA r1.2 22 v).toInt ≤ 15 := by rw [l4.2.2.1]; exact k
        have r22 : sA r1.2 22 v = sA r 22 v := by rw [l4.2.2.1]
        have i2 := fd_ix l1 y0 k'.1 k'.2 (hh := 2) (by decide) (by decide)
        have w157 : ∀ y, w_M_asks_157 fu r1.2 q y := fun y => by
          unfold w_M_asks_157
          rw [q1, r30]
          exact ⟨v1, a2, trivial⟩
        have w147 : ∀ y, w_M_asks_147 fu r1.2 q hh (sA r 22 v - 11) y := fun y => ⟨fun _ => w157 _, fun _ => ⟨fun _ => w157 _, fun _ => w157 _⟩⟩
        have w127 : ∀ y z, w_M_asks_127 fu r1.2 q hh (nI v) (sA r 22 v - 11) y z := fun y z => by
          unfold w_M_asks_127
          rw [ev]
          exact ⟨fun _ => w147 _, fun _ => ⟨fun _ => w147 _, fun _ => ⟨n_vp v40, i2.2, w147 _⟩⟩⟩
        have w100 : w_M_asks_100 fu r1.2 q hh (nI v) (sA r 22 v - 11) r1.1 := by
          unfold w_M_asks_100
          rw [q3, r30]
          exact ⟨fun _ => ⟨v3, a4, fun _ => w127 _ _, fun _ => w127 _ _⟩, fun _ => trivial⟩
        have wM : w_M_asks fu r q := wm (w49b g5 (fun _ => ⟨l7, w100⟩))
        obtain ⟨ldy, ld1, ld2, ld3, ld4⟩ := ld_eq l1 y0 k' x c1.1
        have hset := fun y => o_setR (k := 2) (j := 2) hcd rfl (by omega) b2 y
        have p4 := (p_prt l1.rt y0 k'.1 k'.2).2.2.2.1
        have w29 : w_Op_ask_29 fu c1.2 hh x (po φ v) c1.1 := ⟨trivial, fun _ => trivial, fun _ => ⟨fun _ => ⟨ld3, p4, (hset _).2, trivial⟩, fun _ => ⟨(hset _).2, trivial⟩⟩⟩
        refine ⟨?_, ⟨w2, y3, x2, ⟨a_tho h.rt y0, (fun z => nomatch z), fun _ => ⟨e2, mc2, e4, fun _ => ⟨fun _ => ⟨l6, e4, w29⟩, (fun z => nomatch z)⟩, (fun z => nomatch z)⟩⟩, trivial⟩, wM⟩
        unfold t_Op_ask_29 t_M_asks_100 t_Op_ask_44
        by_cases st : r1.1 = 0
        · have sz := l2.z st
          obtain ⟨s1, s2⟩ := l5 st
          have sx : Int32.toInt64 (sA r1.2 28 (sA r1.2 30 (q + 3).toNatClampNeg).toNatClampNeg) = Int32.toInt64 x := by rw [q3, r30, r28, hx]
          rw [sz.ns, show cn1 .ne (b2i false) = false from rfl, cond_false, st, show cn1 .eq (0 : Int32) = true from rfl, cond_true, sx, ← s1, (hset _).1, (hset _).1, ld1]
          unfold t_M_asks_127 t_M_asks_147 t_M_asks_157
          rw [q1, r30, ev, i2.1, show (2 : Int32).toNatClampNeg = 2 from rfl, c1_le hh, c1_ne hh, c2_le, c2_ne (sA r 22 v - 11) 4, show ((2 : Int32).toInt) = 2 from rfl, show ((4 : Int32).toInt) = 4 from rfl]
          by_cases gh : hh.toInt = 0
          · rw [cd_f (p := ¬ hh.toInt = 0) (fun z => z gh), dt (p := hh.toInt ≤ 0) (by omega), cond_true, cond_true, cond_true]
            exact OUT.tr (EX.rf _ _) l3.op l4.op (fin_real l1 sz _ s2)
          · rw [cd_t (p := ¬ hh.toInt = 0) gh, df (p := hh.toInt ≤ 0) (by omega), cond_false, cond_false]
            have fin := OUT.tr (EX.rf _ _) l3.op l4.op (fin_real l1 sz (sA r 30 (p + 2)).toNatClampNeg ld2)
            rw [r22] at ld4
            dsimp only at ld4
            by_cases ga : (sA r 22 v - 11).toInt ≤ 2
            · rw [cd_t ga, cond_false, cd_t (by omega)]
              rw [if_pos ga, if_neg (by omega)] at ld4
              rw [← ld4]
              exact fin
            · rw [cd_f ga, cond_false]
              rw [if_neg ga] at ld4
              by_cases gb : (sA r 22 v - 11).toInt = 4
              · rw [cd_f (fun z => z gb)]
                rw [if_pos gb] at ld4
                rw [← ld4]
                exact fin
              · rw [cd_t gb]
                rw [if_neg gb] at ld4
                rw [← ld4]
                exact fin
        · rw [l2.nz st, show cn1 .ne (b2i true) = true from rfl, cond_true, show cn1 .eq r1.1 = false from by rw [c1_eq]; exact df (fun z => st (Int32.toInt_inj.mp z)), cond_false]
          exact LED.out ⟨l1, l2, l3, l4⟩
  · rw [df k, Bool.not_false, cond_true]
    have wx : w_M_asks fu r q := by
      unfold w_M_asks w_M_asks_26 w_M_asks_48
      rw [q0, q2, y1, ← hhh]
      refine ⟨v0, v2, a3, fun gv => ?_, fun _ => ⟨w_fails r 1, trivial⟩⟩
      rw [n_ne v40] at gv
      have g0 := of_decide_eq_true gv
      have w49 : ∀ b : Bool, b = false → w_M_asks_49 fu r q hh (nI v) (b2i b) := fun b hb => by
        rw [hb]
        exact ⟨(fun z => nomatch z), fun _ => ⟨w_fails r 4, trivial⟩⟩
      have m26 : w_M_asks_49 fu r q hh (nI v) (b2i (f_M_isPart r (nI v))) := w49 _ (by rw [(ip_M (r := r) v40).1]; exact df k)
      have m17 : w_M_asks_49 fu r q hh (nI v) (b2i (f_M_is r (nI v) 17)) := w49 _ (by rw [is_17 v40 g0, df k]; rfl)
      have m18 : w_M_asks_49 fu r q hh (nI v) (b2i (f_M_is r (nI v) 18)) := w49 _ (by rw [is_18 v40 g0, df k]; rfl)
      have m12 : w_M_asks_49 fu r q hh (nI v) (b2i (f_M_is r (nI v) 12)) := w49 _ (by rw [is_11 v40 g0 (by decide) (by decide), df k]; rfl)
      have m14 : w_M_asks_49 fu r q hh (nI v) (b2i (f_M_is r (nI v) 14)) := w49 _ (by rw [is_11 v40 g0 (by decide) (by decide), df k]; rfl)
      have ip := (ip_M (r := r) v40).2
      exact ⟨fun _ => ⟨ip, m26⟩, fun _ => ⟨fun _ => ⟨fun _ => ⟨fun _ => ⟨fun _ => ⟨w_is v40, m14⟩, fun _ => ⟨w_is v40, m12⟩⟩, fun _ => ⟨w_is v40, m18⟩⟩, fun _ => ⟨w_is v40, m17⟩⟩, fun _ => ⟨ip, m26⟩⟩⟩
    refine ⟨?_, ⟨w2, y3, x2, ⟨a_tho h.rt y0, fun _ => ⟨w_miss _ _, trivial⟩, (fun z => nomatch z)⟩, trivial⟩, wx⟩
    by_cases g : v = 0
    · rw [cd_f (fun z => z g)]
      exact ms_0 h hz g
    · rw [cd_t g]
      unfold t_M_asks_49
      rw [(may_C h y0 g z1 b1).1 k, show cn1 .ne (b2i false) = false from rfl, cond_false]
      exact ms_1 h hz g
end O12
