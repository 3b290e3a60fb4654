/-! OP 28 -/
section O11
variable {G : AH} {T : Nat} {φ : Nat → Nat} {n u p fu : Nat} {c r : St} {q : Int32}
/-- a field put on either side: j-th cell -/
theorem fd_put (h : RR G T φ n u c r) (hz : SZ c) {v : Nat} (y0 : v ≤ n ∧ LVE φ v) (k1 : 11 ≤ (sA r 22 v).toInt) (k2 : (sA r 22 v).toInt ≤ 15) :
    (∀ x : Int32, OUT G T φ n c r (pQ c (dF (sD c) (po φ v) 1 (.inl x)) (sN c) (sU c)) (0, pB r 26 (vp_updL (sB r 26) ((sA r 23 v).toNatClampNeg) x.toInt64))) ∧
    (∀ x : Int64, KP x → OUT G T φ n c r (pQ c (dF (sD c) (po φ v) 2 (.inr (.inl x))) (sN c) (sU c)) (0, pB r 26 (vp_updL (sB r 26) ((sA r 23 v).toNatClampNeg + 1) x))) ∧
    (∀ x : Int32, OUT G T φ n c r (pQ c (dF (sD c) (po φ v) 3 (.inl x)) (sN c) (sU c)) (0, pB r 26 (vp_updL (sB r 26) ((sA r 23 v).toNatClampNeg + 2) x.toInt64))) ∧
    (∀ x : Nat, (x ≤ n ∧ LVE φ x) → (x = 0 ∨ (sA r 22 x).toInt = 10) → OUT G T φ n c r (pQ c (dF (sD c) (po φ v) 4 (.inr (.inr (po φ x)))) (sN c) (sU c)) (0, pB r 26 (vp_updL (sB r 26) ((sA r 23 v).toNatClampNeg + 3) (lN x)))) := by
  have g0 := k_pos h.rt (v := v) (by omega)
  obtain ⟨q', p', w', x', d1, d2, d3, d4, d5, d6, d7, d8, d9, d10, d11, d12⟩ := rd_prt h.rt (show 1 ≤ v by omega) y0 k1 k2
  rw [po_s φ (show 1 ≤ v by omega)]
  refine ⟨fun x => ?_, fun x hx => ?_, fun x => ?_, fun x hx hk => ?_⟩
  · rw [dF_at d9 d1]
    exact OUT.ok (h.prt y0 k1 k2 (q := x) (p := p') (w := w') (x := x') (fun j hj => up_n _ _ (by omega)) (up_s _ _ _) ((up_n _ _ (by omega)).trans d3) d4 ((up_n _ _ (by omega)).trans d5) ((up_n _ _ (by omega)).trans d6) d7 d8) (EX.rf _ _) hz (opC_Q _ _ _ _) (opR_B _ (Or.inl rfl) _)
  · rw [dF_at d9 d1]
    exact OUT.ok (h.prt y0 k1 k2 (q := q') (p := p') (w := x) (x := x') (fun j hj => up_n _ _ (by omega)) ((up_n _ _ (by omega)).trans d2) (up_s _ _ _) hx ((up_n _ _ (by omega)).trans d5) ((up_n _ _ (by omega)).trans d6) d7 d8) (EX.rf _ _) hz (opC_Q _ _ _ _) (opR_B _ (Or.inl rfl) _)
  · rw [dF_at d9 d1]
    exact OUT.ok (h.prt y0 k1 k2 (q := q') (p := x) (w := w') (x := x') (fun j hj => up_n _ _ (by omega)) ((up_n _ _ (by omega)).trans d2) ((up_n _ _ (by omega)).trans d3) d4 (up_s _ _ _) ((up_n _ _ (by omega)).trans d6) d7 d8) (EX.rf _ _) hz (opC_Q _ _ _ _) (opR_B _ (Or.inl rfl) _)
  · rw [dF_at d9 d1]
    exact OUT.ok (h.prt y0 k1 k2 (q := q') (p := p') (w := w') (x := x) (fun j hj => up_n _ _ (by omega)) ((up_n _ _ (by omega)).trans d2) ((up_n _ _ (by omega)).trans d3) d4 ((up_n _ _ (by omega)).trans d5) (up_s _ _ _) hx hk) (EX.rf _ _) hz (opC_Q _ _ _ _) (opR_B _ (Or.inl rfl) _)
theorem k15 {v : Nat} (v40 : v ≤ 40000) (g : ¬ v = 0) : f_M_is r (nI v) 15 = decide ((sA r 22 v).toInt = 15) := by
  rw [is_11 v40 g (by decide) (by decide)]
  by_cases k : 11 ≤ (sA r 22 v).toInt ∧ (sA r 22 v).toInt ≤ 15
  · rw [dt k, Bool.true_and]
    have e11 := sub11 k.1 k.2
    have e : decide ((sA r 22 v).toInt = 15) = decide ((sA r 22 v - 11).toInt = 4) := dcg (by omega)
    rw [e]
    rcases five (x := sA r 22 v - 11) (by omega) (by omega) with g | g | g | g | g <;> rw [g] <;> decide
  · rw [df k, Bool.false_and, df (by omega)]
/-- INNER put -/
theorem pi_out (h : RR G T φ n u c r) (hz : SZ c) {v x : Nat} (y0 : v ≤ n ∧ LVE φ v) (x0 : x ≤ n ∧ LVE φ x) {n0 : Int32} (b : 0 ≤ n0.toInt ∧ n0.toInt ≤ 15) (hx : sA r 27 n0.toNatClampNeg = nI x) : OUT G T φ n c r (f_Op_putInner c (po φ v) (po φ x)) (t_M_fields_54 r 3 (nI v) n0 1) ∧ w_Op_putInner c (po φ v) (po φ x) ∧ w_M_fields_54 r 3 (nI v) n0 1 := by
  have hb := h.bnd
  have v40 : v ≤ 40000 := by omega
  have x40 : x ≤ 40000 := by omega
  have ev : (nI v).toNatClampNeg = v := nN (by omega)
  have ex : (nI x).toNatClampNeg = x := nN (by omega)
  have a16 : vp_in n0 16 := vp_of b.1 (by omega)
  have c1 : cn1 .eq (1 : Int32) = false := rfl
  have c3 : cn2 .ne (3 : Int32) 3 = false := rfl
  have c31 : cn2 .ne (3 : Int32) 1 = true := rfl
  have f3 : fkd 3 = 15 := by unfold fkd; decide
  have h75 : t_M_fields_75 r 3 (nI v) n0 1 = cond (decide (x = 0 ∨ (sA r 22 x).toInt = 10)) (t_M_fields_98 r 3 (nI v) n0 1) (f_M_fails r 4) := by
    unfold t_M_fields_75
    rw [c1, cond_false, c3, cond_false, hx, ex, n_le x40, c2_eq, show ((10 : Int32).toInt) = 10 from rfl]
    by_cases g : x = 0
    · rw [cd_t g, cd_t (Or.inl g)]
    · rw [cd_f g]
      by_cases k : (sA r 22 x).toInt = 10
      · rw [cd_t k, cd_t (Or.inr k)]
      · rw [cd_f k, cd_f (by omega)]
  have w98 : ((11 ≤ (sA r 22 v).toInt ∧ (sA r 22 v).toInt ≤ 15) ∨ v = 0) → w_M_fields_98 r 3 (nI v) n0 1 := fun g => by
    unfold w_M_fields_98 w_M_fields_138
    rw [ev, n_ne v40]
    refine ⟨fun gv => ?_, fun _ => ⟨w_fails r 1, trivial⟩⟩
    have k := g.resolve_right (of_decide_eq_true gv)
    have fx := (fd_ix h y0 k.1 k.2 (hh := 3) (by decide) (by decide)).2
    exact ⟨n_vp v40, (fun z => nomatch z), fun _ => ⟨fun _ => ⟨(fun z => nomatch z), fun _ => ⟨a16, fx, trivial⟩⟩, (fun z => nomatch z)⟩⟩
  have w75 : ((11 ≤ (sA r 22 v).toInt ∧ (sA r 22 v).toInt ≤ 15) ∨ v = 0) → w_M_fields_75 r 3 (nI v) n0 1 := fun g => by
    unfold w_M_fields_75
    rw [hx]
    exact ⟨(fun z => nomatch z), fun _ => ⟨(fun z => nomatch z), fun _ => ⟨a16, fun _ => w98 g, fun _ => ⟨a16, n_vp x40, fun _ => w98 g, fun _ => ⟨w_fails r 4, trivial⟩⟩⟩⟩⟩
  have wm : w_M_fields_54 r 3 (nI v) n0 1 := w54 v40 (fun g => w75 (Or.inr g)) (fun g => w75 (Or.inl (is_prt v40 h.rt.2.1 g)))
  obtain ⟨i0, -⟩ := a_isc h.rt y0
  obtain ⟨-, -, i2, -⟩ := a_isc h.rt x0
  have w17 : w_Op_putInner_17 c (po φ v) (po φ x) := by
    refine ⟨a_tho h.rt y0, fun _ => ⟨w_fault c 1, trivial⟩, fun z => ?_⟩
    rw [i0, cn1_eq_b2i] at z
    have k : 11 ≤ (sA r 22 v).toInt ∧ (sA r 22 v).toInt ≤ 15 := by
      refine Decidable.byContradiction fun y => ?_
      rw [df y] at z
      exact nomatch z
    obtain ⟨e1, e2, e3, e4, e5⟩ := p_prt h.rt y0 k.1 k.2
    refine ⟨e2, a_tho h.rt x0, fun _ => ⟨e3, trivial⟩, fun z2 => ⟨?_, e3, trivial⟩⟩
    rw [i2, cn1_eq_b2i] at z2
    have kk : (sA r 22 x).toInt = 9 ∨ (sA r 22 x).toInt = 10 := by
      refine Decidable.byContradiction fun y => ?_
      rw [df y] at z2
      exact nomatch z2
    exact (p_shl h.rt x0 kk).2.1
  have w6 : w_Op_putInner_6 c (po φ v) (po φ x) := by
    refine ⟨fun _ => w17, fun z => ⟨?_, fun _ => w17, fun _ => ⟨w_fault c 4, trivial⟩⟩⟩
    have g : ¬ x = 0 := fun y => by rw [y] at z; exact nomatch z
    rw [po_s φ (by omega)]
    exact (a_kind h.rt (show 1 ≤ x by omega) x0).2
  have wC : w_Op_putInner c (po φ v) (po φ x) := by
    refine ⟨fun _ => w6, fun z => ⟨?_, fun _ => ⟨w_fault c 4, trivial⟩, fun _ => w6⟩⟩
    have g : ¬ v = 0 := fun y => by rw [y] at z; exact nomatch z
    rw [po_s φ (by omega)]
    exact (a_kind h.rt (show 1 ≤ v by omega) y0).2
  refine ⟨?_, wC, wm⟩
  have h6 : t_Op_putInner_6 c (po φ v) (po φ x) = cond (decide (x = 0 ∨ (sA r 22 x).toInt = 10)) (t_Op_putInner_17 c (po φ v) (po φ x)) (f_Le_fault c 4) := by
    unfold t_Op_putInner_6 t_Op_putInner_12
    by_cases g : x = 0
    · rw [show Option.isNone (po φ x) = true from by rw [g]; rfl, cond_true, cd_t (Or.inl g)]
    · have epo := po_s φ (show 1 ≤ x by omega)
      rw [show Option.isNone (po φ x) = false from by rw [epo]; rfl, cond_false, show u_kind c (po φ x) = sA r 22 x from by rw [epo]; exact (a_kind h.rt (show 1 ≤ x by omega) x0).1, c2_eq, show ((10 : Int32).toInt) = 10 from rfl]
      by_cases k : (sA r 22 x).toInt = 10
      · rw [cd_t k, cd_t (Or.inr k)]
      · rw [cd_f k, cd_f (by omega)]
  unfold f_Op_putInner t_Op_putInner_12
  rw [h6]
  by_cases g : v = 0
  · rw [show Option.isNone (po φ v) = true from by rw [g]; rfl, cond_true]
    unfold t_M_fields_54
    rw [n_le v40, cd_t g, h75]
    by_cases gx : x = 0 ∨ (sA r 22 x).toInt = 10
    · rw [cd_t gx, cd_t gx]
      unfold t_Op_putInner_17 t_M_fields_98
      rw [n_ne v40, cd_f (fun z => z g), i0, cn1_eq_b2i, df (by rw [g, h.rt.2.1]; decide), Bool.not_false, cond_true]
      exact fl_out h hz (by decide) (by decide)
    · rw [cd_f gx, cd_f gx]
      exact fl_out h hz (by decide) (by decide)
  · have epo := po_s φ (show 1 ≤ v by omega)
    rw [show Option.isNone (po φ v) = false from by rw [epo]; rfl, cond_false, show u_kind c (po φ v) = sA r 22 v from by rw [epo]; exact (a_kind h.rt (show 1 ≤ v by omega) y0).1, c2_ne, show ((15 : Int32).toInt) = 15 from rfl, t54 v40 g, f3, k15 v40 g]
    by_cases k : (sA r 22 v).toInt = 15
    · rw [cd_f (fun z => z k), cd_t k, h75]
      by_cases gx : x = 0 ∨ (sA r 22 x).toInt = 10
      · rw [cd_t gx, cd_t gx]
        unfold t_Op_putInner_17 t_M_fields_98 t_M_fields_138 t_Op_putInner_33
        rw [n_ne v40, cd_t g, i0, cn1_eq_b2i, dt (by omega), Bool.not_true, cond_false, c1, cond_false, c31, cond_true, c3, cond_false, hx, nI_L (by omega), ev, (fd_ix h y0 (by omega) (by omega) (hh := 3) (by decide) (by decide)).1, show (3 : Int32).toNatClampNeg = 3 from rfl, i2, cn1_eq_b2i]
        have fin := (fd_put h hz y0 (by omega) (by omega)).2.2.2 x x0 gx
        by_cases gx0 : x = 0
        · rw [df (by rw [gx0, h.rt.2.1]; decide), Bool.not_false, cond_true]
          rw [gx0] at fin
          rw [gx0]
          exact fin
        · rw [dt (by omega), Bool.not_true, cond_false]
          exact fin
      · rw [cd_f gx, cd_f gx]
        exact fl_out h hz (by decide) (by decide)
    · rw [cd_t k, cd_f k]
      exact fl_out h hz (by decide) (by decide)
theorem op_28 (h : RR G T φ n u c r) (hz : SZ c) (hc : CDH r p c) (hq : q.toInt = (p : Int) + 1) (hp : p + 4 ≤ 3200) (b1 : (sA r 30 (p + 1)).toInt ≤ 3) (b2 : (sA r 30 (p + 2)).toInt ≤ 15) (b3 : (sA r 30 (p + 3)).toInt ≤ (if (sA r 30 (p + 1)).toInt = 1 then 3 else if (sA r 30 (p + 1)).toInt = 3 then 15 else 7)) :
    OUT G T φ n c r (f_Op_putField c (f_Op_operand c 1) (f_Op_slotAt c 2)) (f_M_fields r 28 q) ∧ (w_Op_operand c 1 ∧ (w_Op_slotAt c 2 ∧ (w_Op_putField c (f_Op_operand c 1) (f_Op_slotAt c 2) ∧ True))) ∧ w_M_fields r 28 q := by
  obtain ⟨q0, v0⟩ := o_q0 hq (by omega)
  obtain ⟨q1, v1⟩ := o_q (k := 1) (j := 2) hq rfl (by omega)
  obtain ⟨q2, v2⟩ := o_q (k := 2) (j := 3) hq rfl (by omega)
  have z1 := (hc.b (p + 1)).1
  have z2 := (hc.b (p + 2)).1
  have z3 := (hc.b (p + 3)).1
  have hb := h.bnd
  obtain ⟨v, y0, y1, y2, y3⟩ := o_slt (k := 2) (j := 2) hc h.2.2.2.2.1 rfl (by omega) b2
  obtain ⟨w1, w2⟩ := o_opn (k := 1) (j := 1) hc rfl (by omega)
  obtain ⟨hh, hhh⟩ : ∃ hh, hh = sA r 30 (p + 1) := ⟨_, rfl⟩
  rw [← hhh] at w1 b1 b3 z1
  have v40 : v ≤ 40000 := by omega
  have ev : (nI v).toNatClampNeg = v := nN (by omega)
  have a2 : vp_in (sA r 30 (p + 2)) 16 := vp_of z2 (by omega)
  have n1 : hh.toInt = 1 → (sA r 30 (p + 3)).toInt ≤ 3 := fun g => by rw [if_pos g] at b3; exact b3
  have n3 : hh.toInt = 3 → (sA r 30 (p + 3)).toInt ≤ 15 := fun g => by rw [if_neg (by omega), if_pos g] at b3; exact b3
  have nn : ¬ hh.toInt = 1 → ¬ hh.toInt = 3 → (sA r 30 (p + 3)).toInt ≤ 7 := fun g1 g2 => by rw [if_neg g1, if_neg g2] at b3; exact b3
  have c1 : cn1 .eq (1 : Int32) = false := rfl
  have c27 : cn2 .ne (28 : Int32) 27 = true := rfl
  have c28 : cn2 .ne (28 : Int32) 28 = false := rfl
  have hm : f_M_fields r 28 q = cond (decide (¬ v = 0)) (t_M_fields_54 r hh (nI v) (sA r 30 (p + 3)) 1) (cond (decide (hh.toInt = 3)) (t_M_fields_54 r hh (nI v) (sA r 30 (p + 3)) 1) (f_M_fails r 1)) := by
    unfold f_M_fields
    rw [c27, cond_true]
    unfold t_M_fields_19
    rw [c27, cond_true, q0, q1, y1, ← hhh]
    unfold t_M_fields_34
    rw [c28, cond_false, q2]
    unfold t_M_fields_42 t_M_fields_50
    rw [c1, cond_false, n_ne v40, c2_eq, n3_]
  have wm : w_M_fields_54 r hh (nI v) (sA r 30 (p + 3)) 1 → w_M_fields r 28 q := fun w => by
    unfold w_M_fields
    rw [q0, ← hhh]
    refine ⟨v0, fun _ => ?_, (fun z => nomatch z)⟩
    unfold w_M_fields_19
    rw [q1, y1]
    refine ⟨v1, a2, fun _ => ?_, (fun z => nomatch z)⟩
    unfold w_M_fields_34
    rw [q2]
    refine ⟨v2, (fun z => nomatch z), fun _ => ?_⟩
    exact ⟨fun _ => w, fun _ => ⟨(fun z => nomatch z), fun _ => ⟨fun _ => w, fun _ => ⟨w_fails r 1, trivial⟩⟩⟩⟩
  rw [y2, w1, hm]
  unfold f_Op_putField w_Op_putField t_Op_putField_20 w_Op_putField_20
  rw [c2_ne hh 3, n3_]
  by_cases h3 : hh.toInt = 3
  · have e3 : hh = 3 := Int32.toInt_inj.mp h3
    obtain ⟨x, x0, x1, x2, x3⟩ := o_slt (k := 3) (j := 3) hc h.2.2.2.2.1 rfl (by omega) (n3 h3)
    obtain ⟨p1, p2, p3⟩ := pi_out h hz y0 x0 (n0 := sA r 30 (p + 3)) ⟨z3, n3 h3⟩ x1
    rw [x2, df (p := ¬ hh.toInt = 3) (fun z => z h3), cond_false, dt h3, cond_true, e3]
    rw [e3] at wm
    refine ⟨?_, ⟨w2, y3, ⟨(fun z => nomatch z), fun _ => ⟨x3, p2, trivial⟩⟩, trivial⟩, wm p3⟩
    cases decide (¬ v = 0) <;> exact p1
  · rw [dt (p := ¬ hh.toInt = 3) h3, cond_true, df h3, cond_false]
    have w98 : ((11 ≤ (sA r 22 v).toInt ∧ (sA r 22 v).toInt ≤ 15) ∨ v = 0) → w_M_fields_98 r hh (nI v) (sA r 30 (p + 3)) 1 := fun g => by
      unfold w_M_fields_98 w_M_fields_138
      rw [ev, n_ne v40, c2_ne hh 1, c2_ne hh 3, n3_, n1_]
      refine ⟨fun gv => ?_, fun _ => ⟨w_fails r 1, trivial⟩⟩
      have k := g.resolve_right (of_decide_eq_true gv)
      have fx := (fd_ix h y0 k.1 k.2 z1 b1).2
      refine ⟨n_vp v40, (fun z => nomatch z), fun _ => ⟨fun g1 => ⟨fun g3 => ⟨vp_of z3 ?_, fx, trivial⟩, fun g3 => absurd (Decidable.not_not.mp (of_decide_eq_false g3)) h3⟩, fun g1 => ⟨vp_of z3 ?_, fx, trivial⟩⟩⟩
      · have := nn (of_decide_eq_true g1) h3; omega
      · have := n1 (Decidable.not_not.mp (of_decide_eq_false g1)); omega
    have w75 : ((11 ≤ (sA r 22 v).toInt ∧ (sA r 22 v).toInt ≤ 15) ∨ v = 0) → w_M_fields_75 r hh (nI v) (sA r 30 (p + 3)) 1 := fun g => by
      unfold w_M_fields_75
      rw [c2_ne hh 3, n3_]
      exact ⟨(fun z => nomatch z), fun _ => ⟨fun _ => w98 g, fun g3 => absurd (Decidable.not_not.mp (of_decide_eq_false g3)) h3⟩⟩
    have w54' : w_M_fields_54 r hh (nI v) (sA r 30 (p + 3)) 1 := w54 v40 (fun g => w75 (Or.inr g)) (fun g => w75 (Or.inl (is_prt v40 h.rt.2.1 g)))
    obtain ⟨i0, -⟩ := a_isc h.rt y0
    rw [i0, cn1_eq_b2i]
    by_cases k : 11 ≤ (sA r 22 v).toInt ∧ (sA r 22 v).toInt ≤ 15
    · have g0 := k_pos h.rt (v := v) (by omega)
      obtain ⟨e1, e2, e3, e4, e5⟩ := p_prt h.rt y0 k.1 k.2
      obtain ⟨s1, s2⟩ := has_is h y0 k.1 k.2 z1 b1
      rw [dt k, Bool.not_true, cond_false, cd_t g0, t54 v40 g0, cn1_ne_b2i, show f_M_is r (nI v) (fkd hh) = f_Pa_has c (po φ v) hh from s1.symm]
      have wf : ((cn1 .ne hh) = true → ((cn2 .ne hh 1) = true → (w_Op_numberAt c 3 ∧ (ob (sD c) (po φ v) 4 ∧ True))) ∧ ((cn2 .ne hh 1) = false → (w_Op_realAt c 3 ∧ (ob (sD c) (po φ v) 4 ∧ True)))) ∧ ((cn1 .ne hh) = false → (w_Op_numberAt c 3 ∧ (ob (sD c) (po φ v) 4 ∧ True))) := by
        rw [c1_ne, c2_ne hh 1, n1_]
        refine ⟨fun ga => ⟨fun gb => ⟨?_, e3, trivial⟩, fun gb => ⟨?_, e3, trivial⟩⟩, fun ga => ⟨?_, e3, trivial⟩⟩
        · exact (o_num (k := 3) (j := 3) hc h.1 rfl (by omega) (nn (of_decide_eq_true gb) h3)).2
        · exact (o_rea (k := 3) (j := 3) hc h.1 rfl (by omega) (n1 (Decidable.not_not.mp (of_decide_eq_false gb)))).2.1
        · have ga := Decidable.not_not.mp (of_decide_eq_false ga)
          exact (o_num (k := 3) (j := 3) hc h.1 rfl (by omega) (nn (by omega) h3)).2
      refine ⟨?_, ⟨w2, y3, ⟨fun _ => ⟨a_tho h.rt y0, (fun z => nomatch z), fun _ => ⟨e2, s2, e4, fun _ => wf, fun _ => ⟨w_miss _ _, trivial⟩⟩⟩, (fun z => nomatch z)⟩, trivial⟩, wm w54'⟩
      cases f_Pa_has c (po φ v) hh
      · exact ms_1 h hz g0
      · rw [cond_true, cond_true]
        unfold t_M_fields_75 t_M_fields_98 t_M_fields_138
        obtain ⟨f1, f2, f3, -⟩ := fd_put h hz y0 k.1 k.2
        rw [c1, cond_false, c2_ne hh 3, n3_, dt (p := ¬ hh.toInt = 3) h3, cond_true, n_ne v40, cd_t g0, cond_false, cond_true, ev, (fd_ix h y0 k.1 k.2 z1 b1).1, c1_ne hh, c2_ne hh 1, n1_]
        by_cases h0 : hh.toInt = 0
        · have t0 : hh.toNatClampNeg = 0 := by rw [tn_eq, h0]; rfl
          rw [df (p := ¬ hh.toInt = 0) (fun z => z h0), cond_false, dt (p := ¬ hh.toInt = 1) (by omega), cond_true, t0, Nat.add_zero (sA r 23 v).toNatClampNeg, (o_num (k := 3) (j := 3) hc h.1 rfl (by omega) (nn (by omega) h3)).1]
          exact f1 _
        rw [dt (p := ¬ hh.toInt = 0) h0, cond_true]
        by_cases h1 : hh.toInt = 1
        · have t0 : hh.toNatClampNeg = 1 := by rw [tn_eq, h1]; rfl
          obtain ⟨r1, r2, r3⟩ := o_rea (k := 3) (j := 3) hc h.1 rfl (by omega) (n1 h1)
          rw [df (p := ¬ hh.toInt = 1) (fun z => z h1), cond_false, cond_false, t0, r1]
          exact f2 _ r3
        · have t0 : hh.toNatClampNeg = 2 := by rw [tn_eq]; omega
          rw [dt (p := ¬ hh.toInt = 1) h1, cond_true, cond_true, t0, (o_num (k := 3) (j := 3) hc h.1 rfl (by omega) (nn h1 h3)).1]
          exact f3 _
    · rw [df k, Bool.not_false, cond_true]
      refine ⟨?_, ⟨w2, y3, ⟨fun _ => ⟨a_tho h.rt y0, fun _ => ⟨w_miss _ _, trivial⟩, (fun z => nomatch z)⟩, (fun z => nomatch z)⟩, trivial⟩, wm w54'⟩
      by_cases g : v = 0
      · rw [cd_f (fun z => z g)]
        exact ms_0 h hz g
      · rw [cd_t g, t54 v40 g, is_11 v40 g (fkd_b hh).1 (fkd_b hh).2, df k, Bool.false_and, cond_false]
        exact ms_1 h hz g
end O11
