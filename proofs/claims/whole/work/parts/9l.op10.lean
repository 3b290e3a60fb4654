/-! OPS 27, 28 -/
theorem RR.prt {G : AH} {T : Nat} {φ : Nat → Nat} {n u t : Nat} {c r : St} (h : RR G T φ n u c r) (h2 : t ≤ n ∧ LVE φ t) (k1 : 11 ≤ (sA r 22 t).toInt) (k2 : (sA r 22 t).toInt ≤ 15) {q p : Int32} {w : Int64} {x : Nat} {C : Nat → Int64} (hC : ∀ j, (j < (sA r 23 t).toNatClampNeg ∨ (sA r 23 t).toNatClampNeg + 4 ≤ j) → C j = sB r 26 j) (c0 : C ((sA r 23 t).toNatClampNeg) = q.toInt64) (c1 : C ((sA r 23 t).toNatClampNeg + 1) = w) (hw : KP w) (c2 : C ((sA r 23 t).toNatClampNeg + 2) = p.toInt64) (c3 : C ((sA r 23 t).toNatClampNeg + 3) = lN x) (hx : x ≤ n ∧ LVE φ x) (hk : x = 0 ∨ (sA r 22 x).toInt = 10) :
    RR G T φ n u (pQ c (hup (sD c) (φ t) (.inl (4, [.inl (sA r 22 t - 11), .inl q, .inr (.inl w), .inl p, .inr (.inr (po φ x))]))) (sN c) (sU c)) (pB r 26 C) := by
  have g0 := k_pos h.rt (v := t) (by omega)
  obtain ⟨q', p', w', v', d1, d2, d3, d4, d5, d6, d7, d8, d9, d10, d11, d12⟩ := rd_prt h.rt (show 1 ≤ t by omega) h2 k1 k2
  have hb := h.bnd
  have ez : tsz (sA r 22 t) (sA r 24 t) = 4 := by unfold tsz; rw [if_neg (by omega), if_pos k1]
  refine h.put (h.rt.put (show 1 ≤ t by omega) h2 (fun a g1 g2 => hupN g1) (fun g => hupN (by omega)) (by rw [ez]; exact hC) ?_) (fun a ha => hupN (by omega))
  exact Or.inr (Or.inr (Or.inl ⟨k1, k2, q, p, w, x, hupS, c0, c1, hw, c2, c3, hx, hk⟩))
theorem up_s (f : Nat → Int64) (k : Nat) (v : Int64) : vp_updL f k v k = v := if_pos rfl
theorem up_n (f : Nat → Int64) {k j : Nat} (v : Int64) (h : j ≠ k) : vp_updL f k v j = f j := if_neg h
theorem is_11 {r : St} {v : Nat} (v40 : v ≤ 40000) (g : ¬ v = 0) {hh : Int32} (h1 : 11 ≤ hh.toInt) (h2 : hh.toInt ≤ 15) : f_M_is r (nI v) hh = (decide (11 ≤ (sA r 22 v).toInt ∧ (sA r 22 v).toInt ≤ 15) && f_M_isBelow (sA r 22 v - 11) (hh - 11)) := by
  have ev : (nI v).toNatClampNeg = v := nN (by omega)
  unfold f_M_is
  rw [c1_ne hh, cd_t (by omega), n_ne v40, cd_t g, c2_gt hh 10, show ((10 : Int32).toInt) = 10 from rfl, cd_t (by omega), c2_ge hh 16, show ((16 : Int32).toInt) = 16 from rfl, cd_f (by omega), (ip_M (r := r) v40).1, cn1_eq_b2i, ev, cn1_eq_b2i]
  cases decide (11 ≤ (sA r 22 v).toInt ∧ (sA r 22 v).toInt ≤ 15)
  · rfl
  · cases f_M_isBelow (sA r 22 v - 11) (hh - 11) <;> rfl
/-- has, of a part of class k - 11 -/
theorem has_is {c r : St} {G : AH} {T : Nat} {φ : Nat → Nat} {n u v : Nat} (h : RR G T φ n u c r) (y0 : v ≤ n ∧ LVE φ v) (k1 : 11 ≤ (sA r 22 v).toInt) (k2 : (sA r 22 v).toInt ≤ 15) {hh : Int32} (h1 : 0 ≤ hh.toInt) (h2 : hh.toInt ≤ 3) : f_Pa_has c (po φ v) hh = f_M_is r (nI v) (if hh.toInt < 2 then 11 else if hh.toInt = 2 then 14 else 15) ∧ w_Pa_has c (po φ v) hh := by
  have hb := h.bnd
  have v40 : v ≤ 40000 := by omega
  have g0 := k_pos h.rt (v := v) (by omega)
  obtain ⟨e1, e2, e3, e4, e5⟩ := p_prt h.rt y0 k1 k2
  have e11 := sub11 k1 k2
  refine ⟨?_, fun _ => trivial, fun _ => ⟨fun _ => ⟨e3, trivial⟩, fun _ => ⟨⟨e3, trivial⟩, e4, trivial⟩⟩⟩
  unfold f_Pa_has f_Pa_isPriced
  rw [c2_lt, c2_ne hh 2, show ((2 : Int32).toInt) = 2 from rfl, e5, bl_same, cn1_eq_b2i]
  by_cases a : hh.toInt < 2
  · rw [cd_t a, if_pos a, is_11 v40 g0 (by decide) (by decide), dt ⟨k1, k2⟩, Bool.true_and]
    rcases five (x := sA r 22 v - 11) (by omega) (by omega) with g | g | g | g | g <;> rw [g] <;> decide
  · rw [cd_f a, if_neg a]
    by_cases b : hh.toInt = 2
    · rw [cd_f (p := ¬ hh.toInt = 2) (fun z => z b), if_pos b, is_11 v40 g0 (by decide) (by decide), dt ⟨k1, k2⟩, Bool.true_and]
      rcases five (x := sA r 22 v - 11) (by omega) (by omega) with g | g | g | g | g <;> rw [g] <;> decide
    · rw [cd_t (p := ¬ hh.toInt = 2) b, if_neg b, is_11 v40 g0 (by decide) (by decide), dt ⟨k1, k2⟩, Bool.true_and]
      rcases five (x := sA r 22 v - 11) (by omega) (by omega) with g | g | g | g | g <;> rw [g] <;> decide
theorem n1_ : ((1 : Int32).toInt) = 1 := rfl
theorem n2_ : ((2 : Int32).toInt) = 2 := rfl
theorem n3_ : ((3 : Int32).toInt) = 3 := rfl
section O10
variable {G : AH} {T : Nat} {φ : Nat → Nat} {n u p fu : Nat} {c r : St} {q : Int32}
theorem fd_ix (h : RR G T φ n u c r) {v : Nat} (y0 : v ≤ n ∧ LVE φ v) (k1 : 11 ≤ (sA r 22 v).toInt) (k2 : (sA r 22 v).toInt ≤ 15) {hh : Int32} (h1 : 0 ≤ hh.toInt) (h2 : hh.toInt ≤ 3) : (sA r 23 v + hh).toNatClampNeg = (sA r 23 v).toNatClampNeg + hh.toNatClampNeg ∧ vp_in (sA r 23 v + hh) 40001 := by
  have hb := h.bnd
  have g0 := k_pos h.rt (v := v) (by omega)
  obtain ⟨q', p', w', v', d1, d2, d3, d4, d5, d6, d7, d8, d9, d10, d11, d12⟩ := rd_prt h.rt (show 1 ≤ v by omega) y0 k1 k2
  rw [tn_eq] at d12
  obtain ⟨e1, e2⟩ := nn_add (x := sA r 23 v) (y := hh) d11 h1 (by omega)
  exact ⟨e1, vp_of (by omega) (by omega)⟩
/-- the kind that a field wants -/
def fkd (hh : Int32) : Int32 := if hh.toInt < 2 then 11 else if hh.toInt = 2 then 14 else 15
theorem fkd_b (hh : Int32) : 11 ≤ (fkd hh).toInt ∧ (fkd hh).toInt ≤ 15 := by
  unfold fkd
  split
  · decide
  · split <;> decide
theorem t54 {v : Nat} (v40 : v ≤ 40000) (g : ¬ v = 0) {hh n0 v6 : Int32} : t_M_fields_54 r hh (nI v) n0 v6 = cond (f_M_is r (nI v) (fkd hh)) (t_M_fields_75 r hh (nI v) n0 v6) (f_M_fails r 4) := by
  unfold t_M_fields_54 t_M_fields_69 fkd
  rw [n_le v40, cd_f g, c2_ge hh 2, c2_ne hh 2, show ((2 : Int32).toInt) = 2 from rfl, cn1_ne_b2i, cn1_ne_b2i, cn1_ne_b2i]
  by_cases a : hh.toInt < 2
  · rw [cd_f (by omega), if_pos a]
  · rw [cd_t (by omega), if_neg a]
    by_cases b : hh.toInt = 2
    · rw [cd_f (fun z => z b), if_pos b]
    · rw [cd_t b, if_neg b]
theorem w54 {v : Nat} (v40 : v ≤ 40000) {hh n0 v6 : Int32} (h1 : v = 0 → w_M_fields_75 r hh (nI v) n0 v6) (h2 : f_M_is r (nI v) (fkd hh) = true → w_M_fields_75 r hh (nI v) n0 v6) : w_M_fields_54 r hh (nI v) n0 v6 := by
  unfold w_M_fields_54 w_M_fields_69
  unfold fkd at h2
  rw [n_le v40, c2_ge hh 2, c2_ne hh 2, show ((2 : Int32).toInt) = 2 from rfl, cn1_ne_b2i, cn1_ne_b2i, cn1_ne_b2i]
  refine ⟨fun z => h1 (of_decide_eq_true z), fun _ => ⟨fun a => ⟨fun b => ⟨w_is v40, fun z => h2 ?_, fun _ => ⟨w_fails r 4, trivial⟩⟩, fun b => ⟨w_is v40, fun z => h2 ?_, fun _ => ⟨w_fails r 4, trivial⟩⟩⟩, fun a => ⟨w_is v40, fun z => h2 ?_, fun _ => ⟨w_fails r 4, trivial⟩⟩⟩⟩
  · have a := of_decide_eq_true a
    have b := of_decide_eq_true b
    rw [if_neg (by omega), if_neg b]
    exact z
  · have a := of_decide_eq_true a
    have b := Decidable.not_not.mp (of_decide_eq_false b)
    rw [if_neg (by omega), if_pos b]
    exact z
  · have a := of_decide_eq_false a
    rw [if_pos (by omega)]
    exact z
theorem is_prt {v : Nat} (v40 : v ≤ 40000) (hK0 : sA r 22 0 = 0) {hh : Int32} (h : f_M_is r (nI v) (fkd hh) = true) : 11 ≤ (sA r 22 v).toInt ∧ (sA r 22 v).toInt ≤ 15 := by
  by_cases g : v = 0
  · rw [g] at h
    unfold f_M_is at h
    have := fkd_b hh
    rw [c1_ne (fkd hh), cd_t (by omega), show cn1 .ne (nI 0) = false from rfl, cond_false] at h
    exact nomatch h
  · rw [is_11 v40 g (fkd_b hh).1 (fkd_b hh).2] at h
    refine Decidable.byContradiction fun y => ?_
    rw [df y, Bool.false_and] at h
    exact nomatch h
theorem op_27 (h : RR G T φ n u c r) (hz : SZ c) (hc : CDH r p c) (hq : q.toInt = (p : Int) + 1) (hp : p + 4 ≤ 3200) (b1 : (sA r 30 (p + 1)).toInt ≤ 3) (b2 : (sA r 30 (p + 2)).toInt ≤ (if (sA r 30 (p + 1)).toInt = 1 then 3 else if (sA r 30 (p + 1)).toInt = 3 then 15 else 7)) (b3 : (sA r 30 (p + 3)).toInt ≤ 15) :
    OUT G T φ n c r (f_Op_takeField c (f_Op_operand c 1) (f_Op_slotAt c 3)) (f_M_fields r 27 q) ∧ (w_Op_operand c 1 ∧ (w_Op_slotAt c 3 ∧ (w_Op_takeField c (f_Op_operand c 1) (f_Op_slotAt c 3) ∧ True))) ∧ w_M_fields r 27 q := by
  obtain ⟨q0, v0⟩ := o_q0 hq (by omega)
  obtain ⟨q1, v1⟩ := o_q (k := 1) (j := 2) hq rfl (by omega)
  obtain ⟨q2, v2⟩ := o_q (k := 2) (j := 3) hq rfl (by omega)
  have z1 := (hc.b (p + 1)).1
  have z2 := (hc.b (p + 2)).1
  have z3 := (hc.b (p + 3)).1
  have hb := h.bnd
  obtain ⟨v, y0, y1, y2, y3⟩ := o_slt (k := 3) (j := 3) hc h.2.2.2.2.1 rfl (by omega) b3
  obtain ⟨w1, w2⟩ := o_opn (k := 1) (j := 1) hc rfl (by omega)
  obtain ⟨hh, hhh⟩ : ∃ hh, hh = sA r 30 (p + 1) := ⟨_, rfl⟩
  rw [← hhh] at w1 b1 b2 z1
  have v40 : v ≤ 40000 := by omega
  have ev : (nI v).toNatClampNeg = v := nN (by omega)
  have a3 : vp_in (sA r 30 (p + 3)) 16 := vp_of z3 (by omega)
  have n1 : hh.toInt = 1 → (sA r 30 (p + 2)).toInt ≤ 3 := fun g => by rw [if_pos g] at b2; exact b2
  have n3 : hh.toInt = 3 → (sA r 30 (p + 2)).toInt ≤ 15 := fun g => by rw [if_neg (by omega), if_pos g] at b2; exact b2
  have nn : ¬ hh.toInt = 1 → ¬ hh.toInt = 3 → (sA r 30 (p + 2)).toInt ≤ 7 := fun g1 g2 => by rw [if_neg g1, if_neg g2] at b2; exact b2
  have c0 : cn1 .eq (0 : Int32) = true := rfl
  have c27 : cn2 .ne (27 : Int32) 27 = false := rfl
  have c28 : cn2 .ne (27 : Int32) 28 = true := rfl
  have hm : f_M_fields r 27 q = cond (decide (¬ v = 0)) (t_M_fields_54 r hh (nI v) (sA r 30 (p + 2)) 0) (f_M_fails r 1) := by
    unfold f_M_fields t_M_fields_19 t_M_fields_34 t_M_fields_42 t_M_fields_50
    rw [c27, c28, cond_false, cond_false, cond_true, c0, cond_true, q0, q1, q2, y1, ← hhh, n_ne v40]
  have w75 : (11 ≤ (sA r 22 v).toInt ∧ (sA r 22 v).toInt ≤ 15) ∨ v = 0 → w_M_fields_75 r hh (nI v) (sA r 30 (p + 2)) 0 := fun g => by
    have w98 : w_M_fields_98 r hh (nI v) (sA r 30 (p + 2)) 0 := by
      unfold w_M_fields_98
      rw [ev, c0, n_ne v40, c2_ne hh 1, c2_ne hh 3, n3_ , n1_]
      refine ⟨fun gv => ?_, fun _ => ⟨w_fails r 1, trivial⟩⟩
      have k := g.resolve_right (of_decide_eq_true gv)
      have fx := (fd_ix h y0 k.1 k.2 z1 b1).2
      refine ⟨n_vp v40, fun _ => ⟨fun g1 => ⟨fun g3 => ⟨fx, vp_of z2 ?_, trivial⟩, fun g3 => ⟨fx, vp_of z2 ?_, trivial⟩⟩, fun g1 => ⟨fx, vp_of z2 ?_, trivial⟩⟩, (fun z => nomatch z)⟩
      · have := nn (of_decide_eq_true g1) (of_decide_eq_true g3); omega
      · have := n3 (Decidable.not_not.mp (of_decide_eq_false g3)); omega
      · have := n1 (Decidable.not_not.mp (of_decide_eq_false g1)); omega
    unfold w_M_fields_75
    rw [c0]
    exact ⟨fun _ => w98, (fun z => nomatch z)⟩
  have wm : w_M_fields r 27 q := by
    unfold w_M_fields w_M_fields_19 w_M_fields_34 w_M_fields_42
    rw [c27, c28, c0, q0, q1, q2, y1, ← hhh, n_ne v40]
    exact ⟨v0, (fun z => nomatch z), fun _ => ⟨v2, a3, (fun z => nomatch z), fun _ => ⟨v1, fun _ => ⟨fun _ => w54 v40 (fun g => w75 (Or.inr g)) (fun g => w75 (Or.inl (is_prt v40 h.rt.2.1 g))), fun _ => ⟨fun _ => ⟨w_fails r 1, trivial⟩, (fun z => nomatch z)⟩⟩, (fun z => nomatch z)⟩⟩⟩
  obtain ⟨i0, -⟩ := a_isc h.rt y0
  rw [y2, w1, hm]
  unfold f_Op_takeField w_Op_takeField t_Op_takeField_10 w_Op_takeField_10
  rw [i0, cn1_eq_b2i]
  by_cases k : 11 ≤ (sA r 22 v).toInt ∧ (sA r 22 v).toInt ≤ 15
  · have g0 := k_pos h.rt (v := v) (by omega)
    obtain ⟨e1, e2, e3, e4, e5⟩ := p_prt h.rt y0 k.1 k.2
    obtain ⟨s1, s2⟩ := has_is h y0 k.1 k.2 z1 b1
    obtain ⟨q', p', w', x', d1, d2, d3, d4, d5, d6, d7, d8, d9, d10, d11, d12⟩ := rd_prt h.rt (show 1 ≤ v by omega) y0 k.1 k.2
    rw [dt k, Bool.not_true, cond_false, cd_t g0, t54 v40 g0, cn1_ne_b2i, show f_M_is r (nI v) (fkd hh) = f_Pa_has c (po φ v) hh from s1.symm]
    have wf : ∀ b : Bool, ((cn1 .ne hh) = true → ((cn2 .ne hh 1) = true → ((cn2 .ne hh 2) = true → (ob (sD c) (po φ v) 4 ∧ (w_Op_setSlot c 2 (gR (sD c) (po φ v) 4) ∧ True))) ∧ ((cn2 .ne hh 2) = false → (ob (sD c) (po φ v) 4 ∧ (w_Op_setNumber c 2 (gI (sD c) (po φ v) 3) ∧ True)))) ∧ ((cn2 .ne hh 1) = false → (ob (sD c) (po φ v) 4 ∧ (w_Op_setReal c 2 (gL (sD c) (po φ v) 2) ∧ True)))) ∧ ((cn1 .ne hh) = false → (ob (sD c) (po φ v) 4 ∧ (w_Op_setNumber c 2 (gI (sD c) (po φ v) 1) ∧ True))) := fun _ => by
      rw [c1_ne, c2_ne hh 1, c2_ne hh 2, n1_, n2_]
      refine ⟨fun ga => ⟨fun gb => ⟨fun gc => ⟨e3, ?_, trivial⟩, fun gc => ⟨e3, ?_, trivial⟩⟩, fun gb => ⟨e3, ?_, trivial⟩⟩, fun ga => ⟨e3, ?_, trivial⟩⟩
      · have ga := of_decide_eq_true ga; have gb := of_decide_eq_true gb; have gc := of_decide_eq_true gc
        rw [e1, gR_at d9 d1 rfl]
        exact (o_setS (k := 2) (j := 2) hc rfl (by omega) (n3 (by omega)) _ (a_tho h.rt d7)).2
      · have gc := Decidable.not_not.mp (of_decide_eq_false gc)
        exact (o_setN (k := 2) (j := 2) hc rfl (by omega) (nn (by omega) (by omega)) _).2
      · exact (o_setR (k := 2) (j := 2) hc rfl (by omega) (n1 (Decidable.not_not.mp (of_decide_eq_false gb))) _).2
      · have ga := Decidable.not_not.mp (of_decide_eq_false ga)
        exact (o_setN (k := 2) (j := 2) hc rfl (by omega) (nn (by omega) (by omega)) _).2
    refine ⟨?_, ⟨w2, y3, ⟨a_tho h.rt y0, (fun z => nomatch z), fun _ => ⟨e2, s2, e4, fun _ => wf true, fun _ => ⟨w_miss _ _, trivial⟩⟩⟩, trivial⟩, wm⟩
    cases f_Pa_has c (po φ v) hh
    · exact ms_1 h hz g0
    · rw [cond_true, cond_true]
      unfold t_M_fields_75 t_M_fields_98
      rw [c0, cond_true, cond_true, n_ne v40, cd_t g0, ev, (fd_ix h y0 k.1 k.2 z1 b1).1, c1_ne hh, c2_ne hh 1, c2_ne hh 2, c2_ne hh 3, n1_, n2_, n3_, e1]
      by_cases h0 : hh.toInt = 0
      · have t0 : hh.toNatClampNeg = 0 := by rw [tn_eq, h0]; rfl
        rw [cd_f (p := ¬ hh.toInt = 0) (fun z => z h0), cd_t (p := ¬ hh.toInt = 1) (by omega), cd_t (p := ¬ hh.toInt = 3) (by omega), t0, Nat.add_zero (sA r 23 v).toNatClampNeg, d2, Int32.toInt32_toInt64, gI_at d9 d1 (k := 1) rfl, (o_setN (k := 2) (j := 2) hc rfl (by omega) (nn (by omega) (by omega)) _).1]
        exact fin_num h hz _ _
      rw [cd_t (p := ¬ hh.toInt = 0) h0]
      by_cases h1 : hh.toInt = 1
      · have t0 : hh.toNatClampNeg = 1 := by rw [tn_eq, h1]; rfl
        rw [cd_f (p := ¬ hh.toInt = 1) (fun z => z h1), cd_f (p := ¬ hh.toInt = 1) (fun z => z h1), t0, d3, gL_at d9 d1 (k := 2) rfl, (o_setR (k := 2) (j := 2) hc rfl (by omega) (n1 h1) _).1]
        exact fin_real h hz _ d4
      rw [cd_t (p := ¬ hh.toInt = 1) h1, cd_t (p := ¬ hh.toInt = 1) h1]
      by_cases h2 : hh.toInt = 2
      · have t0 : hh.toNatClampNeg = 2 := by rw [tn_eq, h2]; rfl
        rw [cd_f (p := ¬ hh.toInt = 2) (fun z => z h2), cd_t (p := ¬ hh.toInt = 3) (by omega), t0, d5, Int32.toInt32_toInt64, gI_at d9 d1 (k := 3) rfl, (o_setN (k := 2) (j := 2) hc rfl (by omega) (nn (by omega) (by omega)) _).1]
        exact fin_num h hz _ _
      · have h3 : hh.toInt = 3 := by omega
        have t0 : hh.toNatClampNeg = 3 := by rw [tn_eq, h3]; rfl
        rw [cd_t (p := ¬ hh.toInt = 2) h2, cd_f (p := ¬ hh.toInt = 3) (fun z => z h3), t0, d6, lN_I, gR_at d9 d1 (k := 4) rfl, (o_setS (k := 2) (j := 2) hc rfl (by omega) (n3 h3) _ (a_tho h.rt d7)).1]
        exact fin_slot h hz _ d7
  · rw [df k, Bool.not_false, cond_true]
    refine ⟨?_, ⟨w2, y3, ⟨a_tho h.rt y0, fun _ => ⟨w_miss _ _, trivial⟩, (fun z => nomatch z)⟩, trivial⟩, wm⟩
    by_cases g : v = 0
    · rw [cd_f (fun z => z g)]
      exact ms_0 h hz g
    · rw [cd_t g, t54 v40 g, is_11 v40 g (fkd_b hh).1 (fkd_b hh).2, df k, Bool.false_and, cond_false]
      exact ms_1 h hz g
end O10
