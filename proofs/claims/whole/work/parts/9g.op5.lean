/-! what a slot's thing is, as the class asks; OP 18 -/
section AK
variable {φ : Nat → Nat} {n u N v : Nat} {K S M Q : Nat → Int32} {C : Nat → Int64} {D : AH}
theorem k_pos (h : RT φ n u D N K S M Q C) (g : 1 ≤ (K v).toInt) : ¬ v = 0 := fun z => by
  rw [z, h.2.1] at g
  exact absurd g (by decide)
theorem p_prt (h : RT φ n u D N K S M Q C) (h2 : v ≤ n ∧ LVE φ v) (k1 : 11 ≤ (K v).toInt) (k2 : (K v).toInt ≤ 15) : po φ v = some (φ v) ∧ cst D (po φ v) 0 ∧ ob D (po φ v) 4 ∧ oC D (po φ v) = some 4 ∧ gI D (po φ v) 0 = K v - 11 := by
  have g0 := k_pos h (show 1 ≤ (K v).toInt by omega)
  obtain ⟨q, p, w, x, d1, -, -, -, -, -, -, -, d2, -⟩ := rd_prt h (show 1 ≤ v by omega) h2 k1 k2
  rw [po_s φ (by omega)]
  exact ⟨rfl, cst_at d2 d1 rfl, ob_at d2 d1 rfl, oC_at d2 d1, gI_at d2 d1 rfl⟩
theorem p_shl (h : RT φ n u D N K S M Q C) (h2 : v ≤ n ∧ LVE φ v) (hk : (K v).toInt = 9 ∨ (K v).toInt = 10) : po φ v = some (φ v) ∧ cst D (po φ v) 2 ∧ ob D (po φ v) 7 ∧ oC D (po φ v) = some 7 ∧ gI D (po φ v) 0 = (if (K v).toInt = 9 then -1 else Q v) ∧ gR D (po φ v) 1 = some (φ v + 1) ∧ isR D (some (φ v + 1)) ∧ aRN D (some (φ v + 1)) = (M v).toNatClampNeg ∧ ((K v).toInt = 10 → 0 ≤ (Q v).toInt ∧ (Q v).toInt ≤ 4) ∧ 0 ≤ (M v).toInt := by
  have g0 := k_pos h (show 1 ≤ (K v).toInt by omega)
  obtain ⟨b, f, d1, d3, d4, -, d5, d2, -⟩ := rd_shl h (show 1 ≤ v by omega) h2 hk
  rw [po_s φ (by omega)]
  refine ⟨rfl, cst_at d2 d1 rfl, ob_at d2 d1 rfl, oC_at d2 d1, ?_, gR_at d2 d1 rfl, isR_at (by omega) d3, aRN_at (by omega) d3, fun z => ?_, d5⟩
  · rw [gI_at d2 d1 (k := 0) rfl]
    rcases d4 with ⟨e1, e2⟩ | ⟨e1, e2, e3, e4⟩
    · rw [if_pos e1, e2]
    · rw [if_neg (by omega), e4]
  · rcases d4 with ⟨e1, e2⟩ | ⟨e1, e2, e3, e4⟩
    · omega
    · exact ⟨e2, e3⟩
theorem p_row (h : RT φ n u D N K S M Q C) (h2 : v ≤ n ∧ LVE φ v) (k1 : 1 ≤ (K v).toInt) (k2 : (K v).toInt ≤ 8) : po φ v = some (φ v) ∧ cst D (po φ v) 1 ∧ ob D (po φ v) 6 ∧ oC D (po φ v) = some 6 ∧ gI D (po φ v) 0 = K v ∧ gR D (po φ v) 1 = some (φ v + 1) ∧ isL D (some (φ v + 1)) ∧ aLN D (some (φ v + 1)) = (M v).toNatClampNeg ∧ 0 ≤ (M v).toInt := by
  have g0 := k_pos h (show 1 ≤ (K v).toInt by omega)
  obtain ⟨f, d1, d3, d4, d5, d2, -⟩ := rd_row h (show 1 ≤ v by omega) h2 k1 k2
  rw [po_s φ (by omega)]
  exact ⟨rfl, cst_at d2 d1 rfl, ob_at d2 d1 rfl, oC_at d2 d1, gI_at d2 d1 rfl, gR_at d2 d1 rfl, isL_at (by omega) d3, aLN_at (by omega) d3, d5⟩
end AK
theorem bl_same (a b : Int32) : f_Pa_isBelow a b = f_M_isBelow a b := rfl
theorem sh_kind {c : St} {φ : Nat → Nat} {n u N v : Nat} {K S M Q : Nat → Int32} {C : Nat → Int64} (h : RT φ n u (sD c) N K S M Q C) (h2 : v ≤ n ∧ LVE φ v) (hk : (K v).toInt = 9 ∨ (K v).toInt = 10) : f_Sh_kind c (po φ v) = K v := by
  obtain ⟨e, -, -, -, g, -, -, -, g2, -⟩ := p_shl h h2 hk
  unfold f_Sh_kind
  rw [g, c2_ne]
  by_cases k : (K v).toInt = 9
  · rw [if_pos k, cd_f (fun z => z rfl)]
    exact Int32.toInt_inj.mp k.symm
  · have k10 : (K v).toInt = 10 := by omega
    have := g2 k10
    rw [if_neg k, cd_t (by rw [show ((-1 : Int32).toInt) = -1 from rfl]; omega)]
    exact Int32.toInt_inj.mp k10.symm
/-- the classes of parts in numbers -/
theorem sub11 {k : Int32} (k1 : 11 ≤ k.toInt) (k2 : k.toInt ≤ 15) : (k - 11).toInt = k.toInt - 11 := i_subn rfl (show ((11 : Int32).toInt) = 11 from rfl) (by omega) (by omega) (by decide) (by decide)
theorem five {x : Int32} (h1 : 0 ≤ x.toInt) (h2 : x.toInt ≤ 4) : x = 0 ∨ x = 1 ∨ x = 2 ∨ x = 3 ∨ x = 4 := by
  rcases six h1 (by omega) with g | g | g | g | g | g
  · exact Or.inl g
  · exact Or.inr (Or.inl g)
  · exact Or.inr (Or.inr (Or.inl g))
  · exact Or.inr (Or.inr (Or.inr (Or.inl g)))
  · exact Or.inr (Or.inr (Or.inr (Or.inr g)))
  · rw [g] at h2; exact absurd h2 (by decide)
theorem bl_3 {x : Int32} (h1 : 0 ≤ x.toInt) (h2 : x.toInt ≤ 4) : f_M_isBelow x 3 = decide (2 < x.toInt) := by
  rcases five h1 h2 with g | g | g | g | g <;> subst g <;> decide
section O5
variable {G : AH} {T : Nat} {φ : Nat → Nat} {n u p fu v : Nat} {c r : St} {q hh : Int32}
theorem w_is (v40 : v ≤ 40000) : w_M_is r (nI v) hh := by
  have a := n_vp v40
  have b := (ip_M (r := r) v40).2
  exact ⟨fun _ => ⟨fun _ => ⟨fun _ => ⟨fun _ => ⟨fun _ => ⟨fun _ => ⟨fun _ => ⟨a, fun _ => trivial, fun _ => ⟨a, trivial⟩⟩, fun _ => ⟨b, fun _ => trivial, fun _ => ⟨a, trivial⟩⟩⟩, fun _ => ⟨b, fun _ => trivial, fun _ => ⟨a, trivial⟩⟩⟩, fun _ => ⟨a, trivial⟩⟩, fun _ => ⟨b, fun _ => trivial, fun _ => ⟨a, trivial⟩⟩⟩, fun _ => ⟨a, trivial⟩⟩, fun _ => trivial⟩, fun _ => trivial⟩
theorem fits_is (h : RR G T φ n u c r) (y0 : v ≤ n ∧ LVE φ v) (h1 : 0 ≤ hh.toInt) (h2 : hh.toInt ≤ 19) : f_Op_fits c (po φ v) hh = f_M_is r (nI v) hh ∧ w_Op_fits c (po φ v) hh := by
  have hb := h.bnd
  have v40 : v ≤ 40000 := by omega
  have ev : (nI v).toNatClampNeg = v := nN (by omega)
  unfold f_Op_fits f_M_is t_Op_fits_36 w_Op_fits w_Op_fits_36
  by_cases g : v = 0
  · rw [g]
    refine ⟨?_, fun _ => trivial, (fun z => nomatch z)⟩
    show cond (cn1 .ne hh) false true = cond (cn1 .ne hh) (cond (cn1 .ne (nI 0)) _ false) (cond (cn1 .ne (nI 0)) false true)
    rw [show cn1 .ne (nI 0) = false from rfl, cond_false, cond_false]
  · have epo := po_s φ (show 1 ≤ v by omega)
    obtain ⟨uk, wk⟩ := a_kind h.rt (show 1 ≤ v by omega) y0
    obtain ⟨s1, s2, s3, s4, s5⟩ := a_size h.rt (show 1 ≤ v by omega) y0
    obtain ⟨i0, -, i2, -⟩ := a_isc h.rt y0
    obtain ⟨ip, -⟩ := ip_M (r := r) v40
    rw [show Option.isNone (po φ v) = false from by rw [epo]; rfl]
    constructor
    · rw [cond_false, n_ne v40, cd_t g, ip, i0, i2, epo, uk, ← epo, ev, cn1_eq_b2i, cn1_eq_b2i]
      rw [c2_ne hh 19, c2_lt hh 11, c2_ne (sA r 22 v) hh, c2_ne hh 16, c2_ne hh 17, c2_ne hh 18, c1_ne hh, c2_gt hh 10, c2_ge hh 16, c2_ne (sA r 22 v) 10, c2_ne (sA r 22 v) 16, c2_le (sA r 22 v) 11, show ((19 : Int32).toInt) = 19 from rfl, show ((11 : Int32).toInt) = 11 from rfl, show ((16 : Int32).toInt) = 16 from rfl, show ((17 : Int32).toInt) = 17 from rfl, show ((18 : Int32).toInt) = 18 from rfl, show ((10 : Int32).toInt) = 10 from rfl]
      by_cases a0 : hh.toInt = 0
      · rw [cd_t (p := ¬ hh.toInt = 19) (by omega), cd_t (p := hh.toInt < 11) (by omega), cd_f (p := ¬ hh.toInt = 0) (by omega), cd_t (p := ¬ (sA r 22 v).toInt = hh.toInt) (by omega), cd_t g]
      rw [cd_t (p := ¬ hh.toInt = 0) a0]
      by_cases a1 : hh.toInt ≤ 10
      · rw [cd_t (p := ¬ hh.toInt = 19) (by omega), cd_t (p := hh.toInt < 11) (by omega), cd_f (p := 10 < hh.toInt) (by omega)]
      rw [cd_t (p := 10 < hh.toInt) (by omega), cd_f (p := hh.toInt < 11) (by omega)]
      by_cases a2 : hh.toInt < 16
      · rw [cd_t (p := ¬ hh.toInt = 19) (by omega), cd_t (p := ¬ hh.toInt = 16) (by omega), cd_f (p := 16 ≤ hh.toInt) (by omega), cd_t (p := ¬ hh.toInt = 17) (by omega), cd_t (p := ¬ hh.toInt = 18) (by omega)]
        by_cases k : 11 ≤ (sA r 22 v).toInt ∧ (sA r 22 v).toInt ≤ 15
        · obtain ⟨-, -, -, -, e5⟩ := p_prt h.rt y0 k.1 k.2
          rw [dt k, Bool.not_true, cond_false, cond_false, e5, bl_same, cn1_eq_b2i]
          cases f_M_isBelow (sA r 22 v - 11) (hh - 11) <;> rfl
        · rw [df k, Bool.not_false, cond_true, cond_true]
      rw [cd_t (p := 16 ≤ hh.toInt) (by omega)]
      by_cases a3 : hh.toInt = 16
      · rw [cd_t (p := ¬ hh.toInt = 19) (by omega), cd_f (p := ¬ hh.toInt = 16) (by omega), cd_f (p := ¬ hh.toInt = 16) (by omega), a3]
      rw [cd_t (p := ¬ hh.toInt = 16) a3, cd_t (p := ¬ hh.toInt = 16) a3]
      by_cases a4 : hh.toInt = 17
      · rw [cd_t (p := ¬ hh.toInt = 19) (by omega), cd_f (p := ¬ hh.toInt = 17) (by omega), cd_f (p := ¬ hh.toInt = 17) (by omega)]
        by_cases k : 11 ≤ (sA r 22 v).toInt ∧ (sA r 22 v).toInt ≤ 15
        · obtain ⟨-, -, -, -, e5⟩ := p_prt h.rt y0 k.1 k.2
          rw [dt k, Bool.not_true, cond_false, cond_false]
          unfold f_Pa_isWeighed
          rw [e5, c1_eq, sub11 k.1 k.2]
          by_cases j : (sA r 22 v).toInt ≤ 11
          · rw [cd_t j, cd_t (by omega)]
          · rw [cd_f j, cd_f (by omega)]
        · rw [df k, Bool.not_false, cond_true, cond_true]
      rw [cd_t (p := ¬ hh.toInt = 17) a4, cd_t (p := ¬ hh.toInt = 17) a4]
      by_cases a5 : hh.toInt = 18
      · rw [cd_t (p := ¬ hh.toInt = 19) (by omega), cd_f (p := ¬ hh.toInt = 18) (by omega), cd_f (p := ¬ hh.toInt = 18) (by omega)]
        by_cases k : 11 ≤ (sA r 22 v).toInt ∧ (sA r 22 v).toInt ≤ 15
        · obtain ⟨-, -, -, -, e5⟩ := p_prt h.rt y0 k.1 k.2
          rw [dt k, Bool.not_true, cond_false, cond_false]
          unfold f_Pa_isPriced
          have e11 := sub11 k.1 k.2
          rw [e5, bl_same, bl_3 (by omega) (by omega), c2_le, e11, show ((2 : Int32).toInt) = 2 from rfl]
          by_cases j : (sA r 22 v).toInt - 11 ≤ 2
          · rw [cd_t j, df (by omega)]
          · rw [cd_f j, dt (by omega)]
        · rw [df k, Bool.not_false, cond_true, cond_true]
      rw [cd_t (p := ¬ hh.toInt = 18) a5, cd_t (p := ¬ hh.toInt = 18) a5, cd_f (p := ¬ hh.toInt = 19) (by omega)]
      by_cases k : (sA r 22 v).toInt = 9 ∨ (sA r 22 v).toInt = 10
      · obtain ⟨-, -, -, -, e5, -⟩ := p_shl h.rt y0 k
        rw [dt k, Bool.not_true, cond_false, sh_kind h.rt y0 k, c2_ne, show ((10 : Int32).toInt) = 10 from rfl]
        by_cases j : (sA r 22 v).toInt = 10
        · rw [cd_f (fun z => z j), cd_f (fun z => z j), e5, if_neg (by omega), bl_same]
        · rw [cd_t j, cd_t j]
      · rw [df k, Bool.not_false, cond_true, cd_t (by omega)]
    · refine ⟨(fun z => nomatch z), fun _ => ⟨fun _ => ⟨fun _ => ⟨epo ▸ wk, trivial⟩, fun _ => ⟨fun _ => ⟨a_tho h.rt y0, fun _ => trivial, fun z => ?_⟩, fun _ => ⟨epo ▸ wk, trivial⟩⟩⟩, fun _ => ⟨a_tho h.rt y0, fun _ => trivial, fun z => ?_⟩⟩⟩
      · rw [cn1_eq_b2i, i0] at z
        have k : 11 ≤ (sA r 22 v).toInt ∧ (sA r 22 v).toInt ≤ 15 := by
          refine Decidable.byContradiction fun y => ?_
          rw [df y] at z
          exact nomatch z
        obtain ⟨-, e2, e3, e4, e5⟩ := p_prt h.rt y0 k.1 k.2
        exact ⟨e2, fun _ => ⟨fun _ => ⟨e3, trivial⟩, fun _ => ⟨⟨e3, trivial⟩, e4, trivial⟩⟩, fun _ => ⟨⟨e3, trivial⟩, e4, trivial⟩⟩
      · rw [cn1_eq_b2i, i2] at z
        have k : (sA r 22 v).toInt = 9 ∨ (sA r 22 v).toInt = 10 := by
          refine Decidable.byContradiction fun y => ?_
          rw [df y] at z
          exact nomatch z
        obtain ⟨-, e2, e3, e4, e5⟩ := p_shl h.rt y0 k
        exact ⟨e2, ⟨e3, trivial⟩, e4, fun _ => trivial, fun _ => ⟨e3, trivial⟩⟩
theorem op_18 (h : RR G T φ n u c r) (hz : SZ c) (hc : CDH r p c) (hq : q.toInt = (p : Int) + 1) (hp : p + 4 ≤ 3200) (b1 : (sA r 30 (p + 1)).toInt ≤ 7) (b2 : (sA r 30 (p + 2)).toInt ≤ 15) (b3 : (sA r 30 (p + 3)).toInt ≤ 19) :
    OUT G T φ n c r (cond (cn1 .eq (b2i (f_Op_fits c (f_Op_slotAt c 2) (f_Op_operand c 3)))) (t_Op_perform_163 fu c 0 1) (t_Op_perform_163 fu c 1 1)) (f_M_members fu r 18 q) ∧ (w_Op_slotAt c 2 ∧ w_Op_operand c 3 ∧ w_Op_fits c (f_Op_slotAt c 2) (f_Op_operand c 3) ∧ ∀ v, w_Op_perform_163 fu c v 1) ∧ w_M_members fu r 18 q := by
  obtain ⟨q0, v0⟩ := o_q0 hq (by omega)
  obtain ⟨q1, v1⟩ := o_q (k := 1) (j := 2) hq rfl (by omega)
  obtain ⟨q2, v2⟩ := o_q (k := 2) (j := 3) hq rfl (by omega)
  have z1 := (hc.b (p + 1)).1
  have z2 := (hc.b (p + 2)).1
  have z3 := (hc.b (p + 3)).1
  have hb := h.bnd
  obtain ⟨v, y0, y1, y2, y3⟩ := o_slt (k := 2) (j := 2) hc h.2.2.2.2.1 rfl (by omega) b2
  obtain ⟨x1, x2⟩ := o_opn (k := 3) (j := 3) hc rfl (by omega)
  have v40 : v ≤ 40000 := by omega
  have hset := fun v => o_setN (k := 1) (j := 1) hc rfl (by omega) b1 v
  have a1 : vp_in (sA r 30 (p + 1)) 8 := vp_of z1 (by omega)
  have a2 : vp_in (sA r 30 (p + 2)) 16 := vp_of z2 (by omega)
  obtain ⟨f1, f2⟩ := fits_is (hh := sA r 30 (p + 3)) h y0 z3 b3
  have hm : f_M_members fu r 18 q = cond (cn1 .eq (b2i (f_M_is r (nI v) (sA r 30 (p + 3))))) (0, pA r 28 (upd (sA r 28) (sA r 30 (p + 1)).toNatClampNeg 0)) (0, pA r 28 (upd (sA r 28) (sA r 30 (p + 1)).toNatClampNeg 1)) := by
    unfold f_M_members t_M_members_70
    rw [show cn2 .ne (18 : Int32) 17 = true from rfl, show cn2 .ne (18 : Int32) 18 = false from rfl, cond_true, cond_false, q0, q1, q2, y1]
  refine ⟨?_, ⟨y3, x2, by rw [y2, x1]; exact f2, fun v => ⟨(hset v).2, trivial⟩⟩, ?_⟩
  · rw [hm, y2, x1, f1, cn1_eq_b2i]
    unfold t_Op_perform_163
    rw [(hset 0).1, (hset 1).1]
    cases f_M_is r (nI v) (sA r 30 (p + 3))
    · exact fin_num h hz _ _
    · exact fin_num h hz _ _
  · unfold w_M_members
    rw [show cn2 .ne (18 : Int32) 17 = true from rfl, show cn2 .ne (18 : Int32) 18 = false from rfl, q0, q1, q2, y1]
    exact ⟨fun _ => ⟨(fun z => nomatch z), fun _ => ⟨v0, v1, a2, v2, w_is v40, fun _ => ⟨a1, trivial⟩, fun _ => ⟨a1, trivial⟩⟩⟩, (fun z => nomatch z)⟩
end O5
