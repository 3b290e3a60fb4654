/-! RUN -/
section RUN
variable {G : AH} {T : Nat} {φ : Nat → Nat} {n u fu p : Nat} {c r : St} {vp : Int32}
/-- the first frame -/
theorem psh0 (h : sI c 12 12 = 0) (x o v l : Int32) : w_En_push c x o v l ∧ ∃ c', f_En_push c x o v l = c' ∧ (∀ {φ : Nat → Nat} {n u : Nat} {r : St}, RR G T φ n u c r → RR G T φ n u c' r) ∧ enC c c' ∧ sI c' 12 12 = nI (0 + 1) ∧ sI c' 12 13 = sI c 12 13 ∧ (∀ k, sI c' 1 k = sI c 1 k) ∧ (sA c' 13 0 = x ∧ sA c' 14 0 = o ∧ sA c' 15 0 = v ∧ sA c' 16 0 = v + l) := by
  have ed : (0 : Int32).toNatClampNeg = 0 := rfl
  have vd : vp_in (0 : Int32) 132 := vp_of (by decide) (by decide)
  have g : cn2 .ge (0 : Int32) 132 = false := rfl
  have en : (0 : Int32) + 1 = nI (0 + 1) := rfl
  constructor
  · unfold w_En_push
    rw [h, g]
    refine ⟨(fun z => nomatch z), fun _ => ⟨vd, vd, vd, ?_⟩⟩
    unfold w_En_push_22
    show vp_in (sI c 12 12) 132 ∧ True
    rw [h]
    exact ⟨vd, trivial⟩
  · refine ⟨pI (pA (pA (pA (pA c 13 (upd (sA c 13) 0 x)) 14 (upd (sA c 14) 0 o)) 15 (upd (sA c 15) 0 v)) 16 (upd (sA c 16) 0 (v + l))) 12 12 (nI (0 + 1)), ?_, fun hh => ?_, ?_, rfl, rfl, fun _ => rfl, ⟨rfl, rfl, rfl, rfl⟩⟩
    · unfold f_En_push
      rw [h, g, cond_false, ed]
      unfold t_En_push_22
      show pI (pA (pA (pA (pA c 13 (upd (sA c 13) 0 x)) 14 (upd (sA c 14) 0 o)) 15 (upd (sA c 15) 0 v)) 16 (upd (sA c 16) (sI c 12 12).toNatClampNeg (v + l))) 12 12 (sI c 12 12 + 1) = _
      rw [h, ed, en]
    · exact ((((hh.cA (a := 13) (by decide) _).cA (a := 14) (by decide) _).cA (a := 15) (by decide) _).cA (a := 16) (by decide) _).cI (a := 12) (k := 12) _ (Or.inl (by decide))
    · exact ((((enC_A _ (by decide) _).tr (enC_A _ (by decide) _)).tr (enC_A _ (by decide) _)).tr (enC_A _ (by decide) _)).tr (enC_I _ _ _)
/-- the engine, from one patch -/
theorem pf_go (hfu : 10000000 ≤ fu) (h : RR G T φ n u c r) (hz : SZ c) (hV : CDV c r) (h1 : sI c 12 12 = 0) (h2 : sI c 12 13 = 0) (h3 : sI r 21 25 = 1) (h4 : sI r 21 26 = 0) (hp : vp.toInt = (p : Int)) (hp2 : p ≤ 15) :
    (W_part fu 290).1 r (nI (200 * p)) (nI (200 * p) + sA r 31 p) ∧ w_En_beginPatch c vp ∧ w_En_perform_9 fu (f_En_beginPatch c vp) ∧ ∃ (c' : St) (φ' : Nat → Nat) (n' u' : Nat), t_En_perform_9 fu (f_En_beginPatch c vp) = (((F_part fu 290).1 r (nI (200 * p)) (nI (200 * p) + sA r 31 p)).1, c') ∧ RR G T φ' n' u' c' ((F_part fu 290).1 r (nI (200 * p)) (nI (200 * p) + sA r 31 p)).2 ∧ SR ((F_part fu 290).1 r (nI (200 * p)) (nI (200 * p) + sA r 31 p)).1 c' ((F_part fu 290).1 r (nI (200 * p)) (nI (200 * p) + sA r 31 p)).2 ∧ enC c c' ∧ enR r ((F_part fu 290).1 r (nI (200 * p)) (nI (200 * p) + sA r 31 p)).2 := by
  have f0 := h.2.2.1.2
  have ep : vp.toNatClampNeg = p := by rw [tn_eq, hp]; omega
  have vv : vp_in vp 16 := vp_of (by omega) (by omega)
  have c12 : cn2 .lt (sI c 12 13) 12 = true := by rw [h2]; rfl
  have ea : vp &&& 15 = vp := by
    rw [yI_of hp (by omega), show (15 : Int32) = nI (2 ^ 4 - 1) from by decide, nx_and, Nat.and_two_pow_sub_one_eq_mod, Nat.mod_eq_of_lt (by omega)]
  obtain ⟨v1, v2, v3, k0, v4⟩ := hV.2 p (by omega)
  have eb : vp * 200 = nI (200 * p) := by rw [yI_of hp (by omega), show (200 : Int32) = nI 200 from rfl, show nI p * nI 200 = nI (p * 200) from (Int32.ofNat_mul p 200).symm, Nat.mul_comm]
  have i200 : (nI (200 * p)).toInt = ((200 * p : Nat) : Int) := yI_i (by omega)
  have ie := i_addy (x := nI (200 * p)) (y := sA r 31 p) i200 rfl (by omega) (by omega)
  obtain ⟨c1, hc1⟩ : ∃ c1, c1 = pI c 12 13 1 := ⟨_, rfl⟩
  have hR1 : RR G T φ n u c1 r := by rw [hc1]; exact h.cI (a := 12) (k := 13) _ (Or.inl (by decide))
  have e12 : sI c1 12 12 = 0 := by rw [hc1]; exact h1
  have I1 : ∀ k, sI c1 1 k = sI c 1 k := fun k => by rw [hc1]; rfl
  obtain ⟨wp, c2, q1, q2, q3, q4, q5, q6, q7⟩ := psh0 (G := G) (T := T) (c := c1) e12 0 (nI (200 * p)) (nI (200 * p)) (sA r 31 p)
  have ec2 : enC c c2 := (show enC c c1 by rw [hc1]; exact enC_I _ _ _).tr q3
  have hR2 : RR G T φ n u c2 r := q2 hR1
  have hz2 : SZ c2 := ⟨(q6 3).trans ((I1 3).trans hz.1), (q6 4).trans ((I1 4).trans hz.2.1), (q6 5).trans ((I1 5).trans hz.2.2)⟩
  have hH : HYP G T φ n u 1 10 0 0 (200 * p) (200 * p + (sA r 31 p).toInt.toNat) 0 (nI (200 * p)) (nI (200 * p) + sA r 31 p) c2 r := by
    refine ⟨hR2, hz2, hV.mv ec2 (opR.rf r).en, ⟨q4, ?_, h3, h4⟩, ⟨i200, ?_, q7.2.2.1, q7.2.2.2, by omega⟩, ⟨by omega, by omega, by omega, by omega, by omega⟩, by omega⟩
    · rw [q5, hc1]; rfl
    · rw [ie]; omega
  obtain ⟨w1, c3, t3, P, hy3⟩ := (SP_all (G := G) (T := T) hfu 290).1 φ n u 1 10 0 0 _ _ k0 0 _ _ c2 r hH v4 (by omega)
  have eC : f_En_beginPatch c vp = c2 := by
    unfold f_En_beginPatch
    rw [c12, cond_true, h2, ea, ep, v1, eb, show (0 : Int32) + 1 = 1 from rfl, ← hc1]
    exact q1
  have wB : w_En_beginPatch c vp := by
    unfold w_En_beginPatch
    rw [c12, h2, ea, ep, v1, eb, show (0 : Int32) + 1 = 1 from rfl, ← hc1]
    exact ⟨fun _ => ⟨vv, wp, trivial⟩, (fun z => nomatch z)⟩
  rw [eC]
  obtain ⟨Q, hQ⟩ : ∃ Q, Q = (F_part fu 290).1 r (nI (200 * p)) (nI (200 * p) + sA r 31 p) := ⟨_, rfl⟩
  rw [← hQ] at P
  rw [← hQ]
  obtain ⟨φ', n', u', g1, g2, g3, g4, g5, g6, g7, g8⟩ := P
  have fin : ∀ c4, RES fu c2 0 (sI c4 1 3, c4) → sI c4 1 3 = Q.1 → t_En_perform_9 fu c2 = (Q.1, c4) ∧ w_En_perform_9 fu c2 := fun c4 hr e => by
    obtain ⟨x1, x2⟩ := hr fu (by omega)
    have z0 : nI 0 = 0 := rfl
    rw [z0] at x1 x2
    rw [e] at x1
    unfold t_En_perform_9 w_En_perform_9
    exact ⟨x1, x2⟩
  by_cases st : Q.1 = 0 ∨ Q.1 = 1
  · obtain ⟨a1, a2, a3, a4, a5⟩ := g7 st
    have b12 : sI c3 12 12 = nI (0 + 1) := a1.1.trans q4
    have rl : sA c3 13 0 = 0 := a4.1.trans q7.1
    obtain ⟨pw, c4, p1, p2, p3, p4, p5, p6, p7, p8⟩ := pop (G := G) (T := T) (c := c3) (d := 0) (by omega)
    have s13 : sI c3 1 3 = Q.1 := g3.1
    have hR : RES fu c2 0 (sI c4 1 3, c4) := by
      refine hy3 _ (lv_01 (G := G) (T := T) (d := 0) (by omega) b12 (Or.inl rl) (by omega) ?_ (p1.symm ▸ en_fin (by omega) (Or.inl (p4.trans rfl))))
      rcases st with z | z
      · exact Or.inl ⟨s13.trans z, (g8 z).trans (q7.2.2.2.symm.trans (a4.2.2 16 (Or.inl rfl)).symm)⟩
      · exact Or.inr (s13.trans z)
    obtain ⟨x1, x2⟩ := fin c4 hR ((p6 3).trans s13)
    exact ⟨w1, wB, x2, c4, φ', n', u', x1, p2 g1, g3.mv p6 rfl rfl, ec2.tr (g4.tr p3), g5⟩
  · have g23 := SR.ge2 g3 (fun z => st (Or.inl z)) (fun z => st (Or.inr z))
    obtain ⟨x1, x2⟩ := fin c3 (hy3 _ (en_fin (by omega) (Or.inr g23))) g3.1
    exact ⟨w1, wB, x2, c3, φ', n', u', x1, g1, g3, ec2.tr g4, g5⟩
theorem RR.rI2 (h : RR G T φ n u c r) {k : Nat} (v : Int32) (hk : k ≠ 6 ∧ k ≠ 7 ∧ k ≠ 8 ∧ k ≠ 11 ∧ k ≠ 15) : RR G T φ n u c (pI r 21 k v) := by
  obtain ⟨a1, a2, a3, a4, a5, a6, a7⟩ := h
  have e : ∀ j, j = 6 ∨ j = 7 ∨ j = 8 ∨ j = 11 ∨ j = 15 → sI (pI r 21 k v) 21 j = sI r 21 j := fun j hj => by
    rw [sI_pI, if_pos rfl, if_neg (by omega)]
  refine ⟨a1, ?_, ?_, ?_, a5, a6, a7⟩
  · unfold R_led
    rw [e 8 (by decide), e 15 (by decide)]
    exact a2
  · unfold R_fu
    rw [e 11 (by decide)]
    exact a3
  · unfold R_tg
    rw [e 6 (by decide), e 7 (by decide), e 8 (by decide)]
    exact a4
/-- the last of the class: what is told of the run -/
theorem run_c {c0 r0 Q : St} {w : Int32} (h : RR G T φ n u c r) (hV : CDV c r) (ht : R_tape c r) (ho : R_out c r) (hl : sI c 1 4 = sI r 21 13 ∧ sI c 1 5 = sI r 21 14) (hm : mE c0 c) : RL G T (t_H_run_29 fu c w).2 r ∧ (t_H_run_29 fu c w).1 = w ∧ mE c0 (t_H_run_29 fu c w).2 := by
  have e : t_H_run_29 fu c w = (w, pI (pI (pI c 0 5 (sI c 1 4)) 0 6 (sI c 1 5)) 0 7 (sI c 1 2)) := rfl
  rw [e]
  refine ⟨⟨φ, n, u, ((h.cI (a := 0) _ (Or.inl (by decide))).cI (a := 0) _ (Or.inl (by decide))).cI (a := 0) _ (Or.inl (by decide)), hV, ht, ho, hl.1, hl.2, h.2.2.1.1⟩, rfl, hm.tr (((mE_pI _ 5 _ (by decide)).tr (mE_pI _ 6 _ (by decide))).tr (mE_pI _ 7 _ (by decide)))⟩
theorem p_run (hfu : 10000000 ≤ fu) (h : RL G T c r) (a b : Int32) : PC G T c r (f_H_run fu c a b) (f_M_run fu r a b) (w_H_run fu c a b) (w_M_run fu r a b) := by
  by_cases g1 : a.toInt < 0
  · have e1 : cn1 .lt a = true := by rw [c1_lt]; exact dt g1
    refine PC.no h (a := -1) (v := 0) ?_ ?_ ?_ ?_
    · unfold f_H_run; rw [e1, cond_true]
    · unfold f_M_run; rw [e1, cond_true]
    · unfold w_H_run; rw [e1]; exact ⟨fun _ => trivial, (fun z => nomatch z)⟩
    · unfold w_M_run; rw [e1]; exact ⟨fun _ => trivial, (fun z => nomatch z)⟩
  have e1 : cn1 .lt a = false := by rw [c1_lt]; exact df g1
  by_cases g2 : 16 ≤ a.toInt
  · have e2 : cn2 .ge a 16 = true := by rw [c2_ge]; exact dt g2
    refine PC.no h (a := -1) (v := 0) ?_ ?_ ?_ ?_
    · unfold f_H_run; rw [e1, cond_false, e2, cond_true]
    · unfold f_M_run; rw [e1, cond_false, e2, cond_true]
    · unfold w_H_run; rw [e1, e2]; exact ⟨(fun z => nomatch z), fun _ => ⟨fun _ => trivial, (fun z => nomatch z)⟩⟩
    · unfold w_M_run; rw [e1, e2]; exact ⟨(fun z => nomatch z), fun _ => ⟨fun _ => trivial, (fun z => nomatch z)⟩⟩
  have e2 : cn2 .ge a 16 = false := by rw [c2_ge]; exact df g2
  by_cases g3 : b.toInt < 0
  · have e3 : cn1 .lt b = true := by rw [c1_lt]; exact dt g3
    refine PC.no h (a := -1) (v := 0) ?_ ?_ ?_ ?_
    · unfold f_H_run; rw [e1, cond_false, e2, cond_false, e3, cond_true]
    · unfold f_M_run; rw [e1, cond_false, e2, cond_false, e3, cond_true]
    · unfold w_H_run; rw [e1, e2, e3]; exact ⟨(fun z => nomatch z), fun _ => ⟨(fun z => nomatch z), fun _ => ⟨fun _ => trivial, (fun z => nomatch z)⟩⟩⟩
    · unfold w_M_run; rw [e1, e2, e3]; exact ⟨(fun z => nomatch z), fun _ => ⟨(fun z => nomatch z), fun _ => ⟨fun _ => trivial, (fun z => nomatch z)⟩⟩⟩
  have e3 : cn1 .lt b = false := by rw [c1_lt]; exact df g3
  by_cases g4 : ¬ b.toInt ≤ 20000
  · have e4 : cn2 .le b 20000 = false := by rw [c2_le]; exact df g4
    refine PC.no h (a := -1) (v := 0) ?_ ?_ ?_ ?_
    · unfold f_H_run; rw [e1, cond_false, e2, cond_false, e3, cond_false, e4, cond_false]
    · unfold f_M_run; rw [e1, cond_false, e2, cond_false, e3, cond_false, e4, cond_false]
    · unfold w_H_run; rw [e1, e2, e3, e4]; exact ⟨(fun z => nomatch z), fun _ => ⟨(fun z => nomatch z), fun _ => ⟨(fun z => nomatch z), fun _ => ⟨(fun z => nomatch z), fun _ => trivial⟩⟩⟩⟩
    · unfold w_M_run; rw [e1, e2, e3, e4]; exact ⟨(fun z => nomatch z), fun _ => ⟨(fun z => nomatch z), fun _ => ⟨(fun z => nomatch z), fun _ => ⟨(fun z => nomatch z), fun _ => trivial⟩⟩⟩⟩
  have g4 : b.toInt ≤ 20000 := Decidable.not_not.mp g4
  have e4 : cn2 .le b 20000 = true := by rw [c2_le]; exact dt g4
  obtain ⟨φ, n, u, h1, h2, h3, h4, h5⟩ := h
  obtain ⟨p, hp⟩ : ∃ p : Nat, a.toInt = (p : Int) := ⟨a.toInt.toNat, by omega⟩
  have ep : a.toNatClampNeg = p := by rw [tn_eq, hp]; omega
  have vv : vp_in a 16 := vp_of (by omega) (by omega)
  have eb2 : 200 * a = nI (200 * p) := by rw [yI_of hp (by omega), show (200 : Int32) = nI 200 from rfl, show nI 200 * nI p = nI (200 * p) from (Int32.ofNat_mul 200 p).symm]
  obtain ⟨c1, hc1⟩ : ∃ c1, c1 = pI (f_Le_settle c) 1 2 b := ⟨_, rfl⟩
  obtain ⟨r0, hr0⟩ : ∃ r0, r0 = pI (pI (pI (pI r 21 0 0) 21 13 0) 21 14 0) 21 11 b := ⟨_, rfl⟩
  have hR1 : RR G T φ n u c1 r0 := by
    rw [hc1, hr0]
    exact (((((h1.cI (a := 1) (k := 3) 0 (Or.inr (by decide))).cI (a := 1) (k := 4) 0 (Or.inr (by decide))).cI (a := 1) (k := 5) 0 (Or.inr (by decide))).rI2 (k := 0) 0 (by decide)).rI2 (k := 13) 0 (by decide)).rI2 (k := 14) 0 (by decide) |>.fuel (by omega) g4
  have m1 : mE c c1 := by
    rw [hc1]
    exact (((mE_pI c 3 0 (by decide)).tr (mE_pI _ 4 0 (by decide))).tr (mE_pI _ 5 0 (by decide))).tr (mE_pI _ 2 b (by decide))
  have m0 : cE r r0 := by
    rw [hr0]
    exact (((cE_pI r 0 0 (by decide)).tr (cE_pI _ 13 0 (by decide))).tr (cE_pI _ 14 0 (by decide))).tr (cE_pI _ 11 b (by decide))
  have hz1 : SZ c1 := by rw [hc1]; exact ⟨rfl, rfl, rfl⟩
  have V1 : CDV c1 r0 := by rw [hc1, hr0]; exact h2
  have T1 : R_tape c1 r0 := by rw [hc1, hr0]; exact h3
  have O1 : R_out c1 r0 := by rw [hc1, hr0]; exact h4
  have d13 : sI r0 21 13 = 0 := by rw [hr0]; rfl
  have d14 : sI r0 21 14 = 0 := by rw [hr0]; rfl
  have l1 : sI (f_Le_settle c) 1 1 = sI r 21 15 := h1.2.1.2.2.2.1
  have eH : f_H_run fu c a b = t_H_run_15 fu (f_Le_settle c) a b := by
    unfold f_H_run; rw [e1, cond_false, e2, cond_false, e3, cond_false, e4, cond_true]
  have wH : w_H_run_15 fu (f_Le_settle c) a b → w_H_run fu c a b := fun w => by
    unfold w_H_run; rw [e1, e2, e3, e4]; exact ⟨(fun z => nomatch z), fun _ => ⟨(fun z => nomatch z), fun _ => ⟨(fun z => nomatch z), fun _ => ⟨fun _ => ⟨trivial, w⟩, (fun z => nomatch z)⟩⟩⟩⟩
  by_cases gf : sI r 21 15 = 0
  · have ef : cn1 .eq (sI r 21 15) = true := by rw [gf]; rfl
    obtain ⟨c2, hc2⟩ : ∃ c2, c2 = pI (pI c1 12 12 0) 12 13 0 := ⟨_, rfl⟩
    obtain ⟨r1, hr1⟩ : ∃ r1, r1 = pI (pI r0 21 25 1) 21 26 0 := ⟨_, rfl⟩
    have hR2 : RR G T φ n u c2 r1 := by
      rw [hc2, hr1]
      exact (((hR1.cI (a := 12) (k := 12) 0 (Or.inl (by decide))).cI (a := 12) (k := 13) 0 (Or.inl (by decide))).rI (k := 25) 1 (Or.inr (Or.inr (by decide)))).rI (k := 26) 0 (Or.inr (Or.inr (by decide)))
    have hz2 : SZ c2 := by rw [hc2]; exact hz1
    have V2 : CDV c2 r1 := by rw [hc2, hr1]; exact V1
    have T2 : R_tape c2 r1 := by rw [hc2, hr1]; exact T1
    have O2 : R_out c2 r1 := by rw [hc2, hr1]; exact O1
    have m2 : mE c c2 := by rw [hc2]; exact m1.tr ((mE_pI _ 12 _ (by decide)).tr (mE_pI _ 13 _ (by decide)))
    have m3 : cE r r1 := by rw [hr1]; exact m0.tr ((cE_pI _ 25 _ (by decide)).tr (cE_pI _ 26 _ (by decide)))
    have k13 : sI r1 21 13 = 0 := by rw [hr1]; exact d13
    have k14 : sI r1 21 14 = 0 := by rw [hr1]; exact d14
    have A31 : sA r1 31 = sA r 31 := by rw [hr1, hr0]; rfl
    obtain ⟨w1, w2, w3, c', φ', n', u', x1, x2, x3, x4, x5⟩ := pf_go (vp := a) (p := p) hfu hR2 hz2 V2 (by rw [hc2]; rfl) (by rw [hc2]; rfl) (by rw [hr1]; rfl) (by rw [hr1]; rfl) hp (by omega)
    rw [A31] at w1 x1 x2 x3 x5
    obtain ⟨Q, hQ⟩ : ∃ Q, Q = (F_part fu 290).1 r1 (nI (200 * p)) (nI (200 * p) + sA r 31 p) := ⟨_, rfl⟩
    rw [← hQ] at x1 x2 x3 x5
    have eP : f_En_perform fu c1 a = (Q.1, c') := by
      unfold f_En_perform
      rw [← hc2]
      exact x1
    have eH2 : f_H_run fu c a b = t_H_run_29 fu c' Q.1 := by
      rw [eH]
      unfold t_H_run_15
      rw [l1, ef, cond_true, ← hc1, eP]
    have wH2 : w_H_run fu c a b := by
      refine wH ?_
      unfold w_H_run_15
      rw [l1, ef, ← hc1, eP]
      refine ⟨fun _ => ⟨?_, trivial⟩, (fun z => nomatch z)⟩
      unfold w_En_perform
      rw [← hc2]
      exact ⟨w2, w3⟩
    have eM : f_M_run fu r a b = t_M_run_48 fu Q.2 Q.1 := by
      unfold f_M_run
      rw [e1, cond_false, e2, cond_false, e3, cond_false, e4, cond_true, ef, cond_true, eb2, ep, ← hr0, ← hr1, ← hQ]
    have wM : w_M_run fu r a b := by
      unfold w_M_run
      rw [e1, e2, e3, e4, ef, eb2, ep, ← hr0, ← hr1, ← hQ]
      exact ⟨(fun z => nomatch z), fun _ => ⟨(fun z => nomatch z), fun _ => ⟨(fun z => nomatch z), fun _ => ⟨fun _ => ⟨fun _ => ⟨vv, w1, trivial⟩, (fun z => nomatch z)⟩, (fun z => nomatch z)⟩⟩⟩⟩
    have V3 : CDV c' Q.2 := V2.mv x4 x5
    have T3 : R_tape c' Q.2 := by
      unfold R_tape
      rw [x4.1 2 2 (by decide) (by decide) (by decide) (by decide), x4.2.2.1 3 (by decide) (by decide), x5.1 21 23 (fun _ => by decide), x5.2.2.1 32 (by decide) (by decide) (by decide) (by decide) (by decide)]
      exact T2
    have O3 : R_out c' Q.2 := by
      unfold R_out
      rw [x4.1 2 3 (by decide) (by decide) (by decide) (by decide), x4.2.2.1 4 (by decide) (by decide), x5.1 21 24 (fun _ => by decide), x5.2.2.1 33 (by decide) (by decide) (by decide) (by decide) (by decide)]
      exact O2
    have j13 : sI Q.2 21 13 = 0 := (x5.1 21 13 (fun _ => by decide)).trans k13
    have j14 : sI Q.2 21 14 = 0 := (x5.1 21 14 (fun _ => by decide)).trans k14
    unfold PC
    rw [eH2, eM]
    by_cases s1 : Q.1 = 1
    · obtain ⟨rF, hrF⟩ : ∃ rF, rF = pI (pI Q.2 21 13 (sI Q.2 21 9)) 21 14 (sI Q.2 21 10) := ⟨_, rfl⟩
      have eT : t_M_run_48 fu Q.2 Q.1 = (Q.1, rF) := by
        unfold t_M_run_48
        rw [s1, show cn2 .ne (1 : Int32) 1 = false from rfl, cond_false, hrF]
      have hl : sI c' 1 4 = sI rF 21 13 ∧ sI c' 1 5 = sI rF 21 14 := by
        rw [hrF]
        rcases x3.2 with z | z | z | z
        · exact absurd (s1.symm.trans z.1) (by decide)
        · exact ⟨z.2.1, z.2.2.1⟩
        · exact absurd (s1.symm.trans z.1) (by decide)
        · exact absurd (s1.symm.trans z.1) (by decide)
      obtain ⟨y1, y2, y3⟩ := run_c (fu := fu) (w := Q.1) (c0 := c) (r0 := r) (Q := r) (r := rF) (show RR G T φ' n' u' c' rF by rw [hrF]; exact (x2.rI2 (k := 13) _ (by decide)).rI2 (k := 14) _ (by decide)) (by rw [hrF]; exact V3) (by rw [hrF]; exact T3) (by rw [hrF]; exact O3) hl (m2.tr x4.mE)
      rw [eT]
      exact ⟨wH2, wM, y2, y1, y3, m3.tr (x5.cE.tr (by rw [hrF]; exact (cE_pI _ 13 _ (by decide)).tr (cE_pI _ 14 _ (by decide))))⟩
    · have ne : cn2 .ne Q.1 1 = true := by rw [c2_ne]; exact dt (fun z => s1 (Int32.toInt_inj.mp z))
      have eT : t_M_run_48 fu Q.2 Q.1 = (Q.1, Q.2) := by
        unfold t_M_run_48
        rw [ne, cond_true]
      have hl : sI c' 1 4 = sI Q.2 21 13 ∧ sI c' 1 5 = sI Q.2 21 14 := by
        rw [j13, j14]
        rcases x3.2 with z | z | z | z
        · exact z.2
        · exact absurd z.1 s1
        · exact z.2
        · exact z.2
      obtain ⟨y1, y2, y3⟩ := run_c (fu := fu) (w := Q.1) (c0 := c) (r0 := r) (Q := r) x2 V3 T3 O3 hl (m2.tr x4.mE)
      rw [eT]
      exact ⟨wH2, wM, y2, y1, y3, m3.tr x5.cE⟩
  · have ef : cn1 .eq (sI r 21 15) = false := by rw [c1_eq]; exact df (fun y => gf (Int32.toInt_inj.mp (by rw [y]; rfl)))
    have eM : f_M_run fu r a b = (3, r0) := by
      unfold f_M_run
      rw [e1, cond_false, e2, cond_false, e3, cond_false, e4, cond_true, ef, cond_false, ← hr0]
    have wM : w_M_run fu r a b := by
      unfold w_M_run
      rw [e1, e2, e3, e4, ef]
      exact ⟨(fun z => nomatch z), fun _ => ⟨(fun z => nomatch z), fun _ => ⟨(fun z => nomatch z), fun _ => ⟨fun _ => ⟨(fun z => nomatch z), fun _ => trivial⟩, (fun z => nomatch z)⟩⟩⟩⟩
    have eH2 : f_H_run fu c a b = t_H_run_29 fu c1 3 := by
      rw [eH]
      unfold t_H_run_15
      rw [l1, ef, cond_false, ← hc1]
    have wH2 : w_H_run fu c a b := by
      refine wH ?_
      unfold w_H_run_15
      rw [l1, ef]
      exact ⟨(fun z => nomatch z), fun _ => trivial⟩
    obtain ⟨y1, y2, y3⟩ := run_c (fu := fu) (w := 3) (c0 := c) (r0 := r) (Q := r) hR1 V1 T1 O1 ⟨by rw [d13, hz1.2.1], by rw [d14, hz1.2.2]⟩ m1
    unfold PC
    rw [eH2, eM]
    exact ⟨wH2, wM, y2, y1, y3, m0⟩
end RUN
