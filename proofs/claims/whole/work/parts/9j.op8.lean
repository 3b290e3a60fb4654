/-! OPS 23 to 26 -/
section O8
variable {G : AH} {T : Nat} {φ : Nat → Nat} {n u p fu : Nat} {c r : St} {q : Int32}
/-- whether it goes there: both sides -/
theorem rf_C (h : RR G T φ n u c r) {t x : Nat} (ht : t ≤ n ∧ LVE φ t) (hk : (sA r 22 t).toInt = 9 ∨ (sA r 22 t).toInt = 10) (hx : x ≤ n ∧ LVE φ x) : f_Sh_refusal c (po φ t) (po φ x) = (if x = 0 then 0 else if (sA r 22 t).toInt = 9 then (if (sA r 22 x).toInt = 4 then 0 else 4) else if 11 ≤ (sA r 22 x).toInt ∧ (sA r 22 x).toInt ≤ 15 then (if f_M_isBelow (sA r 22 x - 11) (sA r 25 t) = true then 0 else 5) else 4) ∧ w_Sh_refusal c (po φ t) (po φ x) := by
  obtain ⟨e1, e2, e3, e4, e5, e6, e7, e8, e9, e10⟩ := p_shl h.rt ht hk
  unfold f_Sh_refusal w_Sh_refusal
  by_cases g : x = 0
  · rw [g, if_pos rfl]
    exact ⟨rfl, fun _ => trivial, (fun z => nomatch z)⟩
  · have epo := po_s φ (show 1 ≤ x by omega)
    obtain ⟨uk, wk⟩ := a_kind h.rt (show 1 ≤ x by omega) hx
    obtain ⟨i0, -⟩ := a_isc h.rt hx
    rw [show Option.isNone (po φ x) = false from by rw [epo]; rfl, cond_false, if_neg g, e5, i0, cn1_eq_b2i]
    rw [show u_kind c (po φ x) = sA r 22 x from by rw [epo]; exact uk]
    constructor
    · by_cases k9 : (sA r 22 t).toInt = 9
      · rw [if_pos k9, if_pos k9, show cn2 .ne (-1 : Int32) (-1) = false from rfl, cond_false, c2_ne, show ((4 : Int32).toInt) = 4 from rfl]
        by_cases k4 : (sA r 22 x).toInt = 4
        · rw [cd_f (fun z => z k4), if_pos k4]
        · rw [cd_t k4, if_neg k4]
      · have k10 : (sA r 22 t).toInt = 10 := by omega
        have b := e9 k10
        rw [if_neg k9, if_neg k9, c2_ne, cd_t (show ¬ (sA r 25 t).toInt = (-1 : Int32).toInt by rw [show ((-1 : Int32).toInt) = -1 from rfl]; omega)]
        by_cases kp : 11 ≤ (sA r 22 x).toInt ∧ (sA r 22 x).toInt ≤ 15
        · obtain ⟨-, -, -, -, g5⟩ := p_prt h.rt hx kp.1 kp.2
          rw [dt kp, Bool.not_true, cond_false, if_pos kp, g5, bl_same, cn1_eq_b2i]
          cases f_M_isBelow (sA r 22 x - 11) (sA r 25 t) <;> rfl
        · rw [df kp, Bool.not_false, cond_true, if_neg kp]
    · refine ⟨(fun z => nomatch z), fun _ => ⟨e3, fun _ => ⟨a_tho h.rt hx, fun _ => trivial, fun z => ?_⟩, fun _ => ⟨by rw [epo]; exact wk, trivial⟩⟩⟩
      have kp : 11 ≤ (sA r 22 x).toInt ∧ (sA r 22 x).toInt ≤ 15 := by
        refine Decidable.byContradiction fun y => ?_
        rw [df y] at z
        exact nomatch z
      obtain ⟨-, g2, g3, -, -⟩ := p_prt h.rt hx kp.1 kp.2
      exact ⟨g2, g3, e3, trivial⟩
theorem go_M (h : RR G T φ n u c r) {t x : Nat} (ht : t ≤ n ∧ LVE φ t) (hk : (sA r 22 t).toInt = 9 ∨ (sA r 22 t).toInt = 10) (hx : x ≤ n ∧ LVE φ x) : f_M_goes r (nI x) (nI t) = decide (f_Sh_refusal c (po φ t) (po φ x) = 0) ∧ w_M_goes r (nI x) (nI t) ∧ (f_Sh_refusal c (po φ t) (po φ x) = 0 ↔ (x = 0 ∨ gok (sA r 22) (sA r 25) x t)) := by
  have hb := h.bnd
  have x40 : x ≤ 40000 := by omega
  have t40 : t ≤ 40000 := by omega
  have ex : (nI x).toNatClampNeg = x := nN (by omega)
  have et : (nI t).toNatClampNeg = t := nN (by omega)
  obtain ⟨i1, i2⟩ := ip_M (r := r) x40
  rw [(rf_C h ht hk hx).1]
  have w14 : w_M_goes_14 r (nI x) (nI t) := ⟨n_vp t40, fun _ => trivial, fun _ => ⟨i2, fun _ => trivial, fun _ => ⟨n_vp x40, n_vp t40, trivial⟩⟩⟩
  refine ⟨?_, ⟨fun _ => trivial, fun _ => ⟨n_vp t40, fun _ => w14, fun _ => ⟨n_vp x40, fun _ => trivial, fun _ => w14⟩⟩⟩, ?_⟩
  · unfold f_M_goes t_M_goes_14
    rw [ex, et, n_eq x40, i1, cn1_eq_b2i, cn1_eq_b2i, c2_ne (sA r 22 t) 9, c2_ne (sA r 22 t) 10, c2_eq, show ((9 : Int32).toInt) = 9 from rfl, show ((10 : Int32).toInt) = 10 from rfl, show ((4 : Int32).toInt) = 4 from rfl]
    by_cases g : x = 0
    · rw [cd_t g, if_pos g]; rfl
    rw [cd_f g, if_neg g]
    by_cases k9 : (sA r 22 t).toInt = 9
    · rw [cd_f (p := ¬ (sA r 22 t).toInt = 9) (fun z => z k9), if_pos k9]
      by_cases k4 : (sA r 22 x).toInt = 4
      · rw [cd_t k4, if_pos k4]; rfl
      · rw [cd_f k4, if_neg k4, cd_t (p := ¬ (sA r 22 t).toInt = 10) (by omega)]; rfl
    · rw [cd_t (p := ¬ (sA r 22 t).toInt = 9) k9, if_neg k9, cd_f (p := ¬ (sA r 22 t).toInt = 10) (by omega)]
      by_cases kp : 11 ≤ (sA r 22 x).toInt ∧ (sA r 22 x).toInt ≤ 15
      · rw [dt kp, Bool.not_true, cond_false, if_pos kp]
        cases f_M_isBelow (sA r 22 x - 11) (sA r 25 t) <;> rfl
      · rw [df kp, Bool.not_false, cond_true, if_neg kp]; rfl
  · unfold gok
    by_cases g : x = 0
    · rw [if_pos g]; exact ⟨fun _ => Or.inl g, fun _ => rfl⟩
    rw [if_neg g]
    by_cases k9 : (sA r 22 t).toInt = 9
    · rw [if_pos k9]
      by_cases k4 : (sA r 22 x).toInt = 4
      · rw [if_pos k4]; exact ⟨fun _ => Or.inr (Or.inl ⟨k9, k4⟩), fun _ => rfl⟩
      · rw [if_neg k4]
        refine ⟨fun z => absurd z (by decide), fun z => ?_⟩
        rcases z with z | ⟨-, z⟩ | ⟨z, -⟩
        · exact absurd z g
        · exact absurd z k4
        · omega
    · rw [if_neg k9]
      by_cases kp : 11 ≤ (sA r 22 x).toInt ∧ (sA r 22 x).toInt ≤ 15
      · rw [if_pos kp]
        by_cases kb : f_M_isBelow (sA r 22 x - 11) (sA r 25 t) = true
        · rw [if_pos kb]; exact ⟨fun _ => Or.inr (Or.inr ⟨by omega, kp.1, kp.2, kb⟩), fun _ => rfl⟩
        · rw [if_neg kb]
          refine ⟨fun z => absurd z (by decide), fun z => ?_⟩
          rcases z with z | ⟨z, -⟩ | ⟨-, -, -, z⟩
          · exact absurd z g
          · exact absurd z k9
          · exact absurd z kb
      · rw [if_neg kp]
        refine ⟨fun z => absurd z (by decide), fun z => ?_⟩
        rcases z with z | ⟨z, -⟩ | ⟨-, z1, z2, -⟩
        · exact absurd z g
        · exact absurd z k9
        · exact absurd ⟨z1, z2⟩ kp
/-- a shelf's member: both sides -/
theorem RR.shlput (h : RR G T φ n u c r) {t i x : Nat} (ht : t ≤ n ∧ LVE φ t) (hk : (sA r 22 t).toInt = 9 ∨ (sA r 22 t).toInt = 10) (hi : i < (sA r 24 t).toNatClampNeg) (hx : x ≤ n ∧ LVE φ x) (hg : x = 0 ∨ gok (sA r 22) (sA r 25) x t) : RR G T φ n u (pQ c (dR (sD c) (some (φ t + 1)) (va_up (aRF (sD c) (some (φ t + 1))) i (po φ x))) (sN c) (sU c)) (pB r 26 (vp_updL (sB r 26) ((sA r 23 t).toNatClampNeg + i) (lN x))) := by
  have g0 := k_pos h.rt (v := t) (by omega)
  obtain ⟨b, f, d1, d2, d0, d3, d5, d6, d7, d8, d9⟩ := rd_shl h.rt (show 1 ≤ t by omega) ht hk
  rw [dR_at (by omega) d2, aRF_at (by omega) d2]
  refine h.shl (show 1 ≤ t by omega) ht hk (fun j hj => ?_) (fun j hj => ?_)
  · unfold vp_updL; rw [if_neg (by omega)]
  · unfold vp_updL va_up
    by_cases e : j = i
    · rw [if_pos e, if_pos (by omega)]
      exact ⟨x, hx, rfl, rfl, hg⟩
    · rw [if_neg e, if_neg (by omega)]
      exact d3 j hj
theorem sh_ix (h : RR G T φ n u c r) {t : Nat} (ht : t ≤ n ∧ LVE φ t) (hk : (sA r 22 t).toInt = 9 ∨ (sA r 22 t).toInt = 10) {i : Int32} (g1 : 0 ≤ i.toInt) (g2 : i.toInt < (sA r 24 t).toInt) : (sA r 23 t + i).toNatClampNeg = (sA r 23 t).toNatClampNeg + i.toNatClampNeg ∧ vp_in (sA r 23 t + i) 40001 ∧ i.toNatClampNeg < (sA r 24 t).toNatClampNeg ∧ vp_in i (sA r 24 t).toNatClampNeg ∧ Int32.ofNat (sA r 24 t).toNatClampNeg = sA r 24 t := by
  have hb := h.bnd
  have g0 := k_pos h.rt (v := t) (by omega)
  obtain ⟨b, f, d1, d2, d0, d3, d5, d6, d7, d8, d9⟩ := rd_shl h.rt (show 1 ≤ t by omega) ht hk
  rw [tn_eq, tn_eq] at d9
  obtain ⟨e1, e2⟩ := nn_add (x := sA r 23 t) (y := i) d8 g1 (by omega)
  exact ⟨e1, vp_of (by omega) (by omega), by rw [tn_eq, tn_eq]; omega, vp_of g1 (by rw [tn_eq]; omega), (nIof d5).symm⟩
theorem op_tk {k : Int32} (hk : k.toInt = 9 ∨ k.toInt = 10) (h : RR G T φ n u c r) (hz : SZ c) (hc : CDH r p c) (hq : q.toInt = (p : Int) + 1) (hp : p + 4 ≤ 3200) (b1 : (sA r 30 (p + 1)).toInt ≤ 15) (b2 : (sA r 30 (p + 2)).toInt ≤ 15) (b3 : (sA r 30 (p + 3)).toInt ≤ 7) :
    OUT G T φ n c r (f_Op_takeThing c k (f_Op_slotAt c 2) (f_Op_numberAt c 3)) (t_M_places_16 r q 0 k) ∧ (w_Op_slotAt c 2 ∧ (w_Op_numberAt c 3 ∧ (w_Op_takeThing c k (f_Op_slotAt c 2) (f_Op_numberAt c 3) ∧ True))) ∧ w_M_places_16 r q 0 k := by
  obtain ⟨q0, v0⟩ := o_q0 hq (by omega)
  obtain ⟨q1, v1⟩ := o_q (k := 1) (j := 2) hq rfl (by omega)
  obtain ⟨q2, v2⟩ := o_q (k := 2) (j := 3) hq rfl (by omega)
  have z1 := (hc.b (p + 1)).1
  have z2 := (hc.b (p + 2)).1
  have z3 := (hc.b (p + 3)).1
  have hb := h.bnd
  obtain ⟨v, y0, y1, y2, y3⟩ := o_slt (k := 2) (j := 2) hc h.2.2.2.2.1 rfl (by omega) b2
  obtain ⟨x1, x2⟩ := o_num (k := 3) (j := 3) hc h.1 rfl (by omega) b3
  obtain ⟨i, hi⟩ : ∃ i, i = sA r 28 (sA r 30 (p + 3)).toNatClampNeg := ⟨_, rfl⟩
  rw [← hi] at x1
  have v40 : v ≤ 40000 := by omega
  have ev : (nI v).toNatClampNeg = v := nN (by omega)
  have a1 : vp_in (sA r 30 (p + 1)) 16 := vp_of z1 (by omega)
  have a2 : vp_in (sA r 30 (p + 2)) 16 := vp_of z2 (by omega)
  have a3 : vp_in (sA r 30 (p + 3)) 8 := vp_of z3 (by omega)
  have c0 : cn1 .eq (0 : Int32) = true := rfl
  have c0' : cn1 .ne (0 : Int32) = false := rfl
  have hm : t_M_places_16 r q 0 k = cond (cn1 .ne (nI v)) (cond (cn1 .le (nI v)) (t_M_places_105 r 0 (nI v) i (sA r 30 (p + 1)) (sA r 27 (sA r 30 (p + 1)).toNatClampNeg)) (cond (cn2 .eq (sA r 22 v) k) (t_M_places_105 r 0 (nI v) i (sA r 30 (p + 1)) (sA r 27 (sA r 30 (p + 1)).toNatClampNeg)) (f_M_fails r 4))) (f_M_fails r 1) := by
    unfold t_M_places_16 t_M_places_28 t_M_places_44 t_M_places_56 t_M_places_66 t_M_places_78
    rw [c0, c0', cond_true, cond_true, cond_true, cond_false, cond_true, q0, q1, q2, y1, ev, ← hi]
  have sx := fun (g1 : (sA r 22 v).toInt = k.toInt) (g2 : 0 ≤ i.toInt) (g3 : i.toInt < (sA r 24 v).toInt) => sh_ix h y0 (by omega) g2 g3
  have w105 : (sA r 22 v).toInt = k.toInt ∨ v = 0 → w_M_places_105 r 0 (nI v) i (sA r 30 (p + 1)) (sA r 27 (sA r 30 (p + 1)).toNatClampNeg) := fun g => by
    unfold w_M_places_105 w_M_places_134
    rw [ev, c0, n_ne v40, c1_lt, c2_lt]
    refine ⟨fun gv => ⟨fun _ => ⟨w_fails r 2, trivial⟩, fun g2 => ⟨n_vp v40, fun g3 => ⟨fun _ => ⟨fun _ => ⟨n_vp v40, ?_, a1, trivial⟩, (fun z => nomatch z)⟩, (fun z => nomatch z)⟩, fun _ => ⟨w_fails r 2, trivial⟩⟩⟩, fun _ => ⟨w_fails r 1, trivial⟩⟩
    have gv := of_decide_eq_true gv
    exact (sx (g.resolve_right gv) (by have := of_decide_eq_false g2; omega) (of_decide_eq_true g3)).2.1
  have wm : w_M_places_16 r q 0 k := by
    unfold w_M_places_16 w_M_places_28 w_M_places_44 w_M_places_56 w_M_places_66 w_M_places_78
    rw [c0, c0', q0, q1, q2, y1, ev, ← hi, n_le v40, n_ne v40, c2_eq]
    exact ⟨fun _ => ⟨v1, a2, fun _ => ⟨v2, a3, fun _ => ⟨v0, (fun z => nomatch z), fun _ => ⟨fun _ => ⟨fun g => ⟨a1, fun _ => w105 (Or.inr (of_decide_eq_true g)), (fun z => nomatch z)⟩, fun _ => ⟨n_vp v40, fun g => ⟨a1, fun _ => w105 (Or.inl (of_decide_eq_true g)), (fun z => nomatch z)⟩, fun _ => ⟨w_fails r 4, trivial⟩⟩⟩, fun _ => ⟨w_fails r 1, trivial⟩⟩⟩, (fun z => nomatch z)⟩, (fun z => nomatch z)⟩, (fun z => nomatch z)⟩
  obtain ⟨-, -, i2, -⟩ := a_isc h.rt y0
  rw [y2, x1, hm, n_ne v40, n_le v40]
  unfold f_Op_takeThing w_Op_takeThing t_Op_takeThing_10 w_Op_takeThing_10
  rw [i2, cn1_eq_b2i]
  by_cases kk : (sA r 22 v).toInt = 9 ∨ (sA r 22 v).toInt = 10
  · have g0 := k_pos h.rt (v := v) (by omega)
    obtain ⟨e1, e2, e3, e4, e5, e6, e7, e8, e9, e10⟩ := p_shl h.rt y0 kk
    have e11 : Int32.ofNat (sA r 24 v).toNatClampNeg = sA r 24 v := (nIof e10).symm
    rw [dt kk, Bool.not_true, cond_false, cd_t g0, cd_f g0, sh_kind h.rt y0 kk, c2_eq, e6, e8, e11, wi_C]
    by_cases g1 : (sA r 22 v).toInt = k.toInt
    · rw [cd_t g1, dt g1, cond_true]
      unfold t_M_places_105 t_M_places_119
      rw [n_ne v40, cd_t g0, ev, c1_lt, c2_lt, c0, cond_true]
      by_cases g2 : 0 ≤ i.toInt ∧ i.toInt < (sA r 24 v).toInt
      · obtain ⟨s1, s2, s3, s4, s5⟩ := sx g1 g2.1 g2.2
        rw [if_pos g2, cd_f (by omega), cd_t g2.2]
        dsimp only
        unfold t_Op_takeThing_20 w_Op_takeThing_20 t_M_places_134
        rw [show cn1 .eq (b2i true) = false from rfl, cond_false, c0, cond_true, ev, s1, e6, e8]
        obtain ⟨b, f, d1, d2, d0, d3, d5, d6, d7, d8, d9⟩ := rd_shl h.rt (show 1 ≤ v by omega) y0 kk
        obtain ⟨x, f1, f2, f3, f4⟩ := d3 _ s3
        rw [aRF_at (by omega) d2, f2, f3, lN_I]
        obtain ⟨o1, o2⟩ := o_setS (k := 1) (j := 1) hc rfl (by omega) b1 (po φ x) (a_tho h.rt f1)
        rw [o1]
        exact ⟨fin_slot h hz _ f1, ⟨y3, x2, ⟨a_tho h.rt y0, (fun z => nomatch z), fun _ => ⟨e2, ⟨e3, trivial⟩, e4, fun _ => ⟨e3, e7, w_wi c i _, (fun z => nomatch z), fun _ => ⟨e3, e7, s4, o2, trivial⟩⟩, (fun z => nomatch z)⟩⟩, trivial⟩, wm⟩
      · rw [if_neg g2]
        dsimp only
        refine ⟨?_, ⟨y3, x2, ⟨a_tho h.rt y0, (fun z => nomatch z), fun _ => ⟨e2, ⟨e3, trivial⟩, e4, fun _ => ⟨e3, e7, w_wi c i _, fun _ => trivial, (fun z => nomatch z)⟩, (fun z => nomatch z)⟩⟩, trivial⟩, wm⟩
        have e0 : ∀ x : Int32 × St, cond (decide (i.toInt < 0)) (f_M_fails r 2) (cond (decide (i.toInt < (sA r 24 v).toInt)) x (f_M_fails r 2)) = f_M_fails r 2 := fun x => by
          by_cases g3 : i.toInt < 0
          · rw [cd_t g3]
          · rw [cd_f g3, cd_f (by omega)]
        rw [e0]
        exact fl_out h hz (by decide) (by decide)
    · rw [cd_f g1, df g1, cond_false]
      exact ⟨ms_1 h hz g0, ⟨y3, x2, ⟨a_tho h.rt y0, (fun z => nomatch z), fun _ => ⟨e2, ⟨e3, trivial⟩, e4, (fun z => nomatch z), fun _ => ⟨w_miss _ _, trivial⟩⟩⟩, trivial⟩, wm⟩
  · rw [df kk, Bool.not_false, cond_true]
    refine ⟨?_, ⟨y3, x2, ⟨a_tho h.rt y0, fun _ => ⟨w_miss _ _, trivial⟩, (fun z => nomatch z)⟩, trivial⟩, wm⟩
    by_cases g : v = 0
    · rw [cd_f (fun z => z g)]
      exact ms_0 h hz g
    · rw [cd_t g, cd_f g, c2_eq, cd_f (by omega)]
      exact ms_1 h hz g
theorem op_23 (h : RR G T φ n u c r) (hz : SZ c) (hc : CDH r p c) (hq : q.toInt = (p : Int) + 1) (hp : p + 4 ≤ 3200) (b1 : (sA r 30 (p + 1)).toInt ≤ 15) (b2 : (sA r 30 (p + 2)).toInt ≤ 15) (b3 : (sA r 30 (p + 3)).toInt ≤ 7) :
    OUT G T φ n c r (f_Op_takeThing c 9 (f_Op_slotAt c 2) (f_Op_numberAt c 3)) (f_M_places r 23 q) ∧ (w_Op_slotAt c 2 ∧ (w_Op_numberAt c 3 ∧ (w_Op_takeThing c 9 (f_Op_slotAt c 2) (f_Op_numberAt c 3) ∧ True))) ∧ w_M_places r 23 q := by
  obtain ⟨a1, a2, a3⟩ := op_tk (k := 9) (Or.inl rfl) h hz hc hq hp b1 b2 b3
  have hm : f_M_places r 23 q = t_M_places_16 r q 0 9 := by
    unfold f_M_places t_M_places_9
    rw [show cn2 .eq (23 : Int32) 24 = false from rfl, show cn2 .ne (23 : Int32) 26 = true from rfl, show cn2 .ge (23 : Int32) 25 = false from rfl, cond_false, cond_true, cond_false]
  rw [hm]
  refine ⟨a1, a2, ?_⟩
  unfold w_M_places w_M_places_9
  rw [show cn2 .eq (23 : Int32) 24 = false from rfl, show cn2 .ne (23 : Int32) 26 = true from rfl, show cn2 .ge (23 : Int32) 25 = false from rfl]
  exact ⟨(fun z => nomatch z), fun _ => ⟨fun _ => ⟨(fun z => nomatch z), fun _ => a3⟩, (fun z => nomatch z)⟩⟩
theorem op_25 (h : RR G T φ n u c r) (hz : SZ c) (hc : CDH r p c) (hq : q.toInt = (p : Int) + 1) (hp : p + 4 ≤ 3200) (b1 : (sA r 30 (p + 1)).toInt ≤ 15) (b2 : (sA r 30 (p + 2)).toInt ≤ 15) (b3 : (sA r 30 (p + 3)).toInt ≤ 7) :
    OUT G T φ n c r (f_Op_takeThing c 10 (f_Op_slotAt c 2) (f_Op_numberAt c 3)) (f_M_places r 25 q) ∧ (w_Op_slotAt c 2 ∧ (w_Op_numberAt c 3 ∧ (w_Op_takeThing c 10 (f_Op_slotAt c 2) (f_Op_numberAt c 3) ∧ True))) ∧ w_M_places r 25 q := by
  obtain ⟨a1, a2, a3⟩ := op_tk (k := 10) (Or.inr rfl) h hz hc hq hp b1 b2 b3
  have hm : f_M_places r 25 q = t_M_places_16 r q 0 10 := by
    unfold f_M_places t_M_places_9
    rw [show cn2 .eq (25 : Int32) 24 = false from rfl, show cn2 .ne (25 : Int32) 26 = true from rfl, show cn2 .ge (25 : Int32) 25 = true from rfl, cond_false, cond_true, cond_true]
  rw [hm]
  refine ⟨a1, a2, ?_⟩
  unfold w_M_places w_M_places_9
  rw [show cn2 .eq (25 : Int32) 24 = false from rfl, show cn2 .ne (25 : Int32) 26 = true from rfl, show cn2 .ge (25 : Int32) 25 = true from rfl]
  exact ⟨(fun z => nomatch z), fun _ => ⟨fun _ => ⟨fun _ => a3, (fun z => nomatch z)⟩, (fun z => nomatch z)⟩⟩
end O8
