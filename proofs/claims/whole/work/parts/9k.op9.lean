/-! OPS 24, 26 -/
section O9
variable {G : AH} {T : Nat} {φ : Nat → Nat} {n u p fu : Nat} {c r : St} {q : Int32}
set_option maxHeartbeats 4000000 in
theorem op_pt {k : Int32} (hk : k.toInt = 9 ∨ k.toInt = 10) (h : RR G T φ n u c r) (hz : SZ c) (hc : CDH r p c) (hq : q.toInt = (p : Int) + 1) (hp : p + 4 ≤ 3200) (b1 : (sA r 30 (p + 1)).toInt ≤ 15) (b2 : (sA r 30 (p + 2)).toInt ≤ 7) (b3 : (sA r 30 (p + 3)).toInt ≤ 15) :
    OUT G T φ n c r (f_Op_putThing c k (f_Op_slotAt c 1) (f_Op_numberAt c 2) (f_Op_slotAt c 3)) (t_M_places_16 r q 1 k) ∧ (w_Op_slotAt c 1 ∧ (w_Op_numberAt c 2 ∧ (w_Op_slotAt c 3 ∧ (w_Op_putThing c k (f_Op_slotAt c 1) (f_Op_numberAt c 2) (f_Op_slotAt c 3) ∧ True)))) ∧ w_M_places_16 r q 1 k := by
  obtain ⟨q0, v0⟩ := o_q0 hq (by omega)
  obtain ⟨q1, v1⟩ := o_q (k := 1) (j := 2) hq rfl (by omega)
  obtain ⟨q2, v2⟩ := o_q (k := 2) (j := 3) hq rfl (by omega)
  have z1 := (hc.b (p + 1)).1
  have z2 := (hc.b (p + 2)).1
  have z3 := (hc.b (p + 3)).1
  have hb := h.bnd
  obtain ⟨v, y0, y1, y2, y3⟩ := o_slt (k := 1) (j := 1) hc h.2.2.2.2.1 rfl (by omega) b1
  obtain ⟨x, x0, x1, x2, x3⟩ := o_slt (k := 3) (j := 3) hc h.2.2.2.2.1 rfl (by omega) b3
  obtain ⟨n1, n2⟩ := o_num (k := 2) (j := 2) hc h.1 rfl (by omega) b2
  obtain ⟨i, hi⟩ : ∃ i, i = sA r 28 (sA r 30 (p + 2)).toNatClampNeg := ⟨_, rfl⟩
  rw [← hi] at n1
  have v40 : v ≤ 40000 := by omega
  have x40 : x ≤ 40000 := by omega
  have ev : (nI v).toNatClampNeg = v := nN (by omega)
  have ex : (nI x).toNatClampNeg = x := nN (by omega)
  have a1 : vp_in (sA r 30 (p + 1)) 16 := vp_of z1 (by omega)
  have a2 : vp_in (sA r 30 (p + 2)) 8 := vp_of z2 (by omega)
  have a3 : vp_in (sA r 30 (p + 3)) 16 := vp_of z3 (by omega)
  have c1 : cn1 .eq (1 : Int32) = false := rfl
  have c1' : cn1 .ne (1 : Int32) = true := rfl
  obtain ⟨gx, hgx⟩ : ∃ gx : Bool, gx = decide (x = 0 ∨ (k.toInt = 9 ∧ (sA r 22 x).toInt = 4) ∨ (k.toInt = 10 ∧ 11 ≤ (sA r 22 x).toInt ∧ (sA r 22 x).toInt ≤ 15)) := ⟨_, rfl⟩
  obtain ⟨ip, wip⟩ := ip_M (r := r) x40
  obtain ⟨ix0, -⟩ := a_isc h.rt x0
  have h78 : t_M_places_78 r 1 k (nI v) i (sA r 30 (p + 3)) = cond gx (t_M_places_105 r 1 (nI v) i (sA r 30 (p + 3)) (nI x)) (f_M_fails r 4) := by
    unfold t_M_places_78 t_M_places_101
    rw [c1, cond_false, x1, ex, n_le x40, ip, cn1_ne_b2i, c2_ne k 9, c2_ne (sA r 22 x) 4, show ((9 : Int32).toInt) = 9 from rfl, show ((4 : Int32).toInt) = 4 from rfl, hgx]
    by_cases g : x = 0
    · rw [cd_t g, cd_t (Or.inl g)]
    rw [cd_f g]
    by_cases k9 : k.toInt = 9
    · rw [cd_f (p := ¬ k.toInt = 9) (fun z => z k9)]
      by_cases k4 : (sA r 22 x).toInt = 4
      · rw [cd_f (p := ¬ (sA r 22 x).toInt = 4) (fun z => z k4), cd_t (Or.inr (Or.inl ⟨k9, k4⟩))]
      · rw [cd_t (p := ¬ (sA r 22 x).toInt = 4) k4, cd_f (by omega)]
    · rw [cd_t (p := ¬ k.toInt = 9) k9]
      by_cases kp : 11 ≤ (sA r 22 x).toInt ∧ (sA r 22 x).toInt ≤ 15
      · rw [cd_t kp, cd_t (Or.inr (Or.inr ⟨by omega, kp⟩))]
      · rw [cd_f kp, cd_f (by omega)]
  have hm : t_M_places_16 r q 1 k = cond (decide (v = 0)) (cond gx (t_M_places_105 r 1 (nI v) i (sA r 30 (p + 3)) (nI x)) (f_M_fails r 4)) (cond (decide ((sA r 22 v).toInt = k.toInt)) (cond gx (t_M_places_105 r 1 (nI v) i (sA r 30 (p + 3)) (nI x)) (f_M_fails r 4)) (f_M_fails r 4)) := by
    unfold t_M_places_16
    rw [c1, cond_false]
    unfold t_M_places_28
    rw [c1, cond_false, q0, y1]
    unfold t_M_places_44
    rw [c1, cond_false, q1, ← hi]
    unfold t_M_places_56
    rw [c1', cond_true, q2]
    unfold t_M_places_66
    rw [ev, h78, n_le v40, c2_eq]
  have sx := fun (g1 : (sA r 22 v).toInt = k.toInt) (g2 : 0 ≤ i.toInt) (g3 : i.toInt < (sA r 24 v).toInt) => sh_ix h y0 (by omega) g2 g3
  have w105 : (sA r 22 v).toInt = k.toInt ∨ v = 0 → w_M_places_105 r 1 (nI v) i (sA r 30 (p + 3)) (nI x) := fun g => by
    unfold w_M_places_105 w_M_places_134
    rw [ev, c1, n_ne v40, c1_lt, c2_lt]
    refine ⟨fun gv => ⟨fun _ => ⟨w_fails r 2, trivial⟩, fun g2 => ⟨n_vp v40, fun g3 => ⟨(fun z => nomatch z), fun _ => ?_⟩, fun _ => ⟨w_fails r 2, trivial⟩⟩⟩, fun _ => ⟨w_fails r 1, trivial⟩⟩
    have gv := of_decide_eq_true gv
    have s := sx (g.resolve_right gv) (by have := of_decide_eq_false g2; omega) (of_decide_eq_true g3)
    have kv := g.resolve_right gv
    exact ⟨(go_M h y0 (by omega) x0).2.1, fun _ => ⟨(fun z => nomatch z), fun _ => ⟨n_vp v40, s.2.1, trivial⟩⟩, fun _ => ⟨w_fails r 5, trivial⟩⟩
  have w78 : (sA r 22 v).toInt = k.toInt ∨ v = 0 → w_M_places_78 r 1 k (nI v) i (sA r 30 (p + 3)) := fun g => by
    unfold w_M_places_78
    rw [c1, x1]
    exact ⟨a3, (fun z => nomatch z), fun _ => ⟨fun _ => w105 g, fun _ => ⟨fun _ => ⟨wip, fun _ => w105 g, fun _ => ⟨w_fails r 4, trivial⟩⟩, fun _ => ⟨n_vp x40, fun _ => ⟨w_fails r 4, trivial⟩, fun _ => w105 g⟩⟩⟩⟩
  have wm : w_M_places_16 r q 1 k := by
    unfold w_M_places_16
    refine ⟨(fun z => nomatch z), fun _ => ?_⟩
    unfold w_M_places_28
    rw [q0, y1]
    refine ⟨v0, a1, (fun z => nomatch z), fun _ => ?_⟩
    unfold w_M_places_44
    rw [q1, ← hi]
    refine ⟨v1, a2, (fun z => nomatch z), fun _ => ?_⟩
    unfold w_M_places_56
    rw [q2]
    refine ⟨v2, fun _ => ?_, (fun z => nomatch z)⟩
    unfold w_M_places_66
    rw [ev, n_le v40, c2_eq]
    exact ⟨fun g => w78 (Or.inr (of_decide_eq_true g)), fun _ => ⟨n_vp v40, fun g => w78 (Or.inl (of_decide_eq_true g)), fun _ => ⟨w_fails r 4, trivial⟩⟩⟩
  have hC : f_Op_putThing c k (po φ v) i (po φ x) = t_Op_putThing_16 c k (po φ v) i (po φ x) (b2i gx) := by
    unfold f_Op_putThing t_Op_putThing_13 t_Op_putThing_15
    by_cases g : x = 0
    · rw [show Option.isNone (po φ x) = true from by rw [g]; rfl, cond_true, hgx, dt (Or.inl g)]
      rfl
    · obtain ⟨uk, wk⟩ := a_kind h.rt (show 1 ≤ x by omega) x0
      have epo := po_s φ (show 1 ≤ x by omega)
      rw [show Option.isNone (po φ x) = false from by rw [epo]; rfl, cond_false, ix0, cn1_eq_b2i, show u_kind c (po φ x) = sA r 22 x from by rw [epo]; exact uk, c2_ne k 9, c2_ne (sA r 22 x) 4, show ((9 : Int32).toInt) = 9 from rfl, show ((4 : Int32).toInt) = 4 from rfl, hgx]
      by_cases k9 : k.toInt = 9
      · rw [cd_f (p := ¬ k.toInt = 9) (fun z => z k9)]
        by_cases k4 : (sA r 22 x).toInt = 4
        · rw [cd_f (p := ¬ (sA r 22 x).toInt = 4) (fun z => z k4), dt (Or.inr (Or.inl ⟨k9, k4⟩))]
          rfl
        · rw [cd_t (p := ¬ (sA r 22 x).toInt = 4) k4, df (p := x = 0 ∨ (k.toInt = 9 ∧ (sA r 22 x).toInt = 4) ∨ (k.toInt = 10 ∧ 11 ≤ (sA r 22 x).toInt ∧ (sA r 22 x).toInt ≤ 15)) (by omega)]
          rfl
      · rw [cd_t (p := ¬ k.toInt = 9) k9]
        by_cases kp : 11 ≤ (sA r 22 x).toInt ∧ (sA r 22 x).toInt ≤ 15
        · rw [dt kp, Bool.not_true, cond_false, dt (p := x = 0 ∨ (k.toInt = 9 ∧ (sA r 22 x).toInt = 4) ∨ (k.toInt = 10 ∧ 11 ≤ (sA r 22 x).toInt ∧ (sA r 22 x).toInt ≤ 15)) (Or.inr (Or.inr ⟨by omega, kp⟩))]
          rfl
        · rw [df kp, Bool.not_false, cond_true, df (p := x = 0 ∨ (k.toInt = 9 ∧ (sA r 22 x).toInt = 4) ∨ (k.toInt = 10 ∧ 11 ≤ (sA r 22 x).toInt ∧ (sA r 22 x).toInt ≤ 15)) (by omega)]
          rfl
  have w4 : w_Op_putThing_25 c := ⟨w_fault c 4, trivial⟩
  obtain ⟨-, -, iv2, -⟩ := a_isc h.rt y0
  have w23 : ∀ w : Int32, ((sA r 22 v).toInt = k.toInt ∨ v = 0) → w_Op_putThing_23 c (po φ v) i (po φ x) w := fun w g => by
    unfold w_Op_putThing_23
    refine ⟨fun _ => ⟨a_tho h.rt y0, fun _ => ⟨w_fault c 1, trivial⟩, fun z => ?_⟩, fun _ => w4⟩
    rw [iv2, cn1_eq_b2i] at z
    have kk : (sA r 22 v).toInt = 9 ∨ (sA r 22 v).toInt = 10 := by
      refine Decidable.byContradiction fun y => ?_
      rw [df y] at z
      exact nomatch z
    obtain ⟨e1, e2, e3, e4, e5, e6, e7, e8, e9, e10⟩ := p_shl h.rt y0 kk
    have e11 : Int32.ofNat (sA r 24 v).toNatClampNeg = sA r 24 v := (nIof e10).symm
    rw [e6, e8, e11, wi_C]
    refine ⟨e2, e3, e7, w_wi c i _, ?_⟩
    by_cases g2 : 0 ≤ i.toInt ∧ i.toInt < (sA r 24 v).toInt
    · rw [if_pos g2]
      unfold w_Op_putThing_48
      dsimp only
      rw [e6, e8]
      have s := sh_ix h y0 kk g2.1 g2.2
      exact ⟨fun _ => trivial, fun _ => ⟨(rf_C h y0 kk x0).2, e4, fun _ => ⟨e3, e7, s.2.2.2.1, a_tho h.rt x0, trivial⟩, fun _ => ⟨(rf_C h y0 kk x0).2, e4, w_fault c _, trivial⟩⟩⟩
    · rw [if_neg g2]
      exact ⟨fun _ => trivial, (fun z => nomatch z)⟩
  have w16 : ∀ w : Int32, w_Op_putThing_16 c k (po φ v) i (po φ x) w := fun w => by
    unfold w_Op_putThing_16
    by_cases g : v = 0
    · refine ⟨fun _ => w23 w (Or.inr g), fun z => ?_⟩
      rw [g] at z
      exact nomatch z
    · obtain ⟨uk, wk⟩ := a_kind h.rt (show 1 ≤ v by omega) y0
      have epo := po_s φ (show 1 ≤ v by omega)
      rw [epo] at w23 ⊢
      rw [uk, c2_ne]
      exact ⟨(fun z => nomatch z), fun _ => ⟨wk, fun _ => w4, fun z => w23 w (Or.inl (Decidable.not_not.mp (of_decide_eq_false z)))⟩⟩
  have wC : w_Op_putThing c k (po φ v) i (po φ x) := by
    unfold w_Op_putThing w_Op_putThing_13 w_Op_putThing_15
    refine ⟨fun _ => w16 1, fun z => ⟨fun _ => ⟨a_tho h.rt x0, fun _ => w16 0, fun _ => w16 1⟩, fun _ => ⟨?_, fun _ => w16 0, fun _ => w16 1⟩⟩⟩
    have g : ¬ x = 0 := fun y => by rw [y] at z; exact nomatch z
    rw [po_s φ (by omega)]
    exact (a_kind h.rt (show 1 ≤ x by omega) x0).2
  rw [y2, x2, n1]
  refine ⟨?_, ⟨y3, n2, x3, wC, trivial⟩, wm⟩
  rw [hm, hC]
  unfold t_Op_putThing_16 t_Op_putThing_25
  have t23 : ((sA r 22 v).toInt = k.toInt ∨ v = 0) → OUT G T φ n c r (t_Op_putThing_23 c (po φ v) i (po φ x) (b2i gx)) (cond gx (t_M_places_105 r 1 (nI v) i (sA r 30 (p + 3)) (nI x)) (f_M_fails r 4)) := fun g => by
    unfold t_Op_putThing_23 t_Op_putThing_25
    rw [cn1_ne_b2i]
    cases hgx2 : gx with
    | false => exact fl_out h hz (by decide) (by decide)
    | true =>
      rw [hgx2] at hgx
      have hg := of_decide_eq_true hgx.symm
      rw [cond_true, cond_true, iv2, cn1_eq_b2i]
      unfold t_M_places_105 t_M_places_119
      rw [n_ne v40, ev, c1]
      by_cases g0 : v = 0
      · rw [cd_f (fun z => z g0), df (p := (sA r 22 v).toInt = 9 ∨ (sA r 22 v).toInt = 10) (by rw [g0, h.rt.2.1]; decide)]
        exact fl_out h hz (by decide) (by decide)
      · have kv := g.resolve_right g0
        have kk : (sA r 22 v).toInt = 9 ∨ (sA r 22 v).toInt = 10 := by omega
        obtain ⟨e1, e2, e3, e4, e5, e6, e7, e8, e9, e10⟩ := p_shl h.rt y0 kk
        have e11 : Int32.ofNat (sA r 24 v).toNatClampNeg = sA r 24 v := (nIof e10).symm
        rw [cd_t g0, dt kk, Bool.not_true, cond_false, cond_false, e6, e8, e11, wi_C, c1_lt, c2_lt, cn1_ne_b2i]
        by_cases g2 : 0 ≤ i.toInt ∧ i.toInt < (sA r 24 v).toInt
        · obtain ⟨s1, s2, s3, s4, s5⟩ := sx kv g2.1 g2.2
          obtain ⟨o1, o2, o3⟩ := go_M h y0 kk x0
          rw [if_pos g2, cd_f (by omega), cd_t g2.2, o1]
          dsimp only
          unfold t_Op_putThing_48 t_M_places_134
          rw [show cn1 .eq (b2i true) = false from rfl, cond_false, c1_eq, c1, cond_false, ev, s1, e6, nI_L (by omega)]
          by_cases gr : f_Sh_refusal c (po φ v) (po φ x) = 0
          · rw [cd_t (by rw [gr]; rfl), cd_t gr]
            exact OUT.ok (h.shlput y0 kk s3 x0 (o3.mp gr)) (EX.rf _ _) hz (opC_Q _ _ _ _) (opR_B _ (Or.inl rfl) _)
          · have g5 : f_Sh_refusal c (po φ v) (po φ x) = 5 := by
              have e := (rf_C h y0 kk x0).1
              rw [e] at gr ⊢
              by_cases gx0 : x = 0
              · rw [if_pos gx0] at gr; exact absurd rfl gr
              rw [if_neg gx0] at gr ⊢
              by_cases k9 : (sA r 22 v).toInt = 9
              · rw [if_pos k9] at gr
                rw [if_pos (by omega)] at gr
                exact absurd rfl gr
              · rw [if_neg k9] at gr ⊢
                have kp : 11 ≤ (sA r 22 x).toInt ∧ (sA r 22 x).toInt ≤ 15 := by omega
                rw [if_pos kp] at gr ⊢
                by_cases gb : f_M_isBelow (sA r 22 x - 11) (sA r 25 v) = true
                · rw [if_pos gb] at gr; exact absurd rfl gr
                · rw [if_neg gb]
            rw [cd_f (by rw [g5]; decide), cd_f gr, g5]
            exact fl_out h hz (by decide) (by decide)
        · rw [if_neg g2]
          dsimp only
          have e0 : ∀ y : Int32 × St, cond (decide (i.toInt < 0)) (f_M_fails r 2) (cond (decide (i.toInt < (sA r 24 v).toInt)) y (f_M_fails r 2)) = f_M_fails r 2 := fun y => by
            by_cases g3 : i.toInt < 0
            · rw [cd_t g3]
            · rw [cd_f g3, cd_f (by omega)]
          rw [e0]
          exact fl_out h hz (by decide) (by decide)
  by_cases g : v = 0
  · rw [cd_t g, show Option.isNone (po φ v) = true from by rw [g]; rfl, cond_true]
    exact t23 (Or.inr g)
  · obtain ⟨uk, wk⟩ := a_kind h.rt (show 1 ≤ v by omega) y0
    have epo := po_s φ (show 1 ≤ v by omega)
    rw [cd_f g, show Option.isNone (po φ v) = false from by rw [epo]; rfl, cond_false, show u_kind c (po φ v) = sA r 22 v from by rw [epo]; exact uk, c2_ne]
    by_cases kv : (sA r 22 v).toInt = k.toInt
    · rw [cd_t kv, cd_f (fun z => z kv)]
      exact t23 (Or.inl kv)
    · rw [cd_f kv, cd_t kv]
      exact fl_out h hz (by decide) (by decide)
theorem op_24 (h : RR G T φ n u c r) (hz : SZ c) (hc : CDH r p c) (hq : q.toInt = (p : Int) + 1) (hp : p + 4 ≤ 3200) (b1 : (sA r 30 (p + 1)).toInt ≤ 15) (b2 : (sA r 30 (p + 2)).toInt ≤ 7) (b3 : (sA r 30 (p + 3)).toInt ≤ 15) :
    OUT G T φ n c r (f_Op_putThing c 9 (f_Op_slotAt c 1) (f_Op_numberAt c 2) (f_Op_slotAt c 3)) (f_M_places r 24 q) ∧ (w_Op_slotAt c 1 ∧ (w_Op_numberAt c 2 ∧ (w_Op_slotAt c 3 ∧ (w_Op_putThing c 9 (f_Op_slotAt c 1) (f_Op_numberAt c 2) (f_Op_slotAt c 3) ∧ True)))) ∧ w_M_places r 24 q := by
  obtain ⟨a1, a2, a3⟩ := op_pt (k := 9) (Or.inl rfl) h hz hc hq hp b1 b2 b3
  have hm : f_M_places r 24 q = t_M_places_16 r q 1 9 := by
    unfold f_M_places t_M_places_6 t_M_places_9
    rw [show cn2 .eq (24 : Int32) 24 = true from rfl, show cn2 .ge (24 : Int32) 25 = false from rfl, cond_true, cond_false]
  rw [hm]
  refine ⟨a1, a2, ?_⟩
  unfold w_M_places w_M_places_6 w_M_places_9
  rw [show cn2 .eq (24 : Int32) 24 = true from rfl, show cn2 .ge (24 : Int32) 25 = false from rfl]
  exact ⟨fun _ => ⟨(fun z => nomatch z), fun _ => a3⟩, (fun z => nomatch z)⟩
theorem op_26 (h : RR G T φ n u c r) (hz : SZ c) (hc : CDH r p c) (hq : q.toInt = (p : Int) + 1) (hp : p + 4 ≤ 3200) (b1 : (sA r 30 (p + 1)).toInt ≤ 15) (b2 : (sA r 30 (p + 2)).toInt ≤ 7) (b3 : (sA r 30 (p + 3)).toInt ≤ 15) :
    OUT G T φ n c r (f_Op_putThing c 10 (f_Op_slotAt c 1) (f_Op_numberAt c 2) (f_Op_slotAt c 3)) (f_M_places r 26 q) ∧ (w_Op_slotAt c 1 ∧ (w_Op_numberAt c 2 ∧ (w_Op_slotAt c 3 ∧ (w_Op_putThing c 10 (f_Op_slotAt c 1) (f_Op_numberAt c 2) (f_Op_slotAt c 3) ∧ True)))) ∧ w_M_places r 26 q := by
  obtain ⟨a1, a2, a3⟩ := op_pt (k := 10) (Or.inr rfl) h hz hc hq hp b1 b2 b3
  have hm : f_M_places r 26 q = t_M_places_16 r q 1 10 := by
    unfold f_M_places t_M_places_6 t_M_places_9
    rw [show cn2 .eq (26 : Int32) 24 = false from rfl, show cn2 .ne (26 : Int32) 26 = false from rfl, show cn2 .ge (26 : Int32) 25 = true from rfl, cond_false, cond_false, cond_true]
  rw [hm]
  refine ⟨a1, a2, ?_⟩
  unfold w_M_places w_M_places_6 w_M_places_9
  rw [show cn2 .eq (26 : Int32) 24 = false from rfl, show cn2 .ne (26 : Int32) 26 = false from rfl, show cn2 .ge (26 : Int32) 25 = true from rfl]
  exact ⟨(fun z => nomatch z), fun _ => ⟨(fun z => nomatch z), fun _ => ⟨fun _ => a3, (fun z => nomatch z)⟩⟩⟩
end O9
