/-! A SCOPE: its body, and what catches a fault -/
section BD
variable {G : AH} {T : Nat} {φ : Nat → Nat} {n u fu deep dd d e a b k t m : Nat} {c r : St} {va vb : Int32}
theorem bd_go (hfu : 10000000 ≤ fu) (hS : SP G T fu m) {l4 l5 l6 : Nat} (hH : HYP G T φ n u deep dd (d + 1) (e + 1) (a + 7) (a + 7 + l4) t (va + 7) (va + 7 + sA r 30 (a + 4)) c r) (L4 : (sA r 30 (a + 4)).toInt = (l4 : Int)) (L5 : (sA r 30 (a + 5)).toInt = (l5 : Int)) (L6 : (sA r 30 (a + 6)).toInt = (l6 : Int)) (hl : a + 7 + l4 + l5 + l6 ≤ 3200) (hP4 : PV (sA r 30) k dd (a + 7) (a + 7 + l4)) (hP5 : PV (sA r 30) k dd (a + 7 + l4) (a + 7 + l4 + l5)) (hP6 : PV (sA r 30) k dd (a + 7 + l4 + l5) (a + 7 + l4 + l5 + l6)) (i5 : sA c 14 (d + 1) = va) (hro : sA c 13 (d + 1) = 3) (hsv : SV φ n (d + 1) e (mskR r a) 16 c r) (ht : (t : Int) + 5 * (sI r 21 11).toInt ≤ 100097) (hed : e ≤ d) (hm : 22 * (12 - deep) + 2 * dd + 2 ≤ m) (hva : va.toInt = (a : Int)) :
    (W_part fu m).1 r (va + 7) (va + 7 + sA r 30 (a + 4)) ∧ w_M_scope_137 (F_part fu m) (W_part fu m) fu ((F_part fu m).1 r (va + 7) (va + 7 + sA r 30 (a + 4))).2 va (mskR r a) (nI (16 * e)) (va + 7 + sA r 30 (a + 4)) (va + 7 + sA r 30 (a + 4) + sA r 30 (a + 5)) ((F_part fu m).1 r (va + 7) (va + 7 + sA r 30 (a + 4))).1 ∧ ∃ c' t', PX G T φ n d e (t + 3) c r (t_M_scope_137 (F_part fu m) fu ((F_part fu m).1 r (va + 7) (va + 7 + sA r 30 (a + 4))).2 va (mskR r a) (nI (16 * e)) (va + 7 + sA r 30 (a + 4)) (va + 7 + sA r 30 (a + 4) + sA r 30 (a + 5)) ((F_part fu m).1 r (va + 7) (va + 7 + sA r 30 (a + 4))).1) c' t' ∧ ∀ y, RES fu c' t' y → RES fu c t y := by
  obtain ⟨w1, c3, t3, P, hy3⟩ := hS φ n u deep dd (d + 1) (e + 1) _ _ k t _ _ c r hH hP4 hm
  obtain ⟨h, hz, hV, ⟨i1, i2, i3, i4⟩, ⟨j1, j2, j3, j4, j5⟩, ⟨d1, d2, d3, d4, d5⟩, -⟩ := hH
  have f0 := h.2.2.1.2
  have hb := h.bnd
  have n6 : (sI r 21 6).toInt = (n : Int) := by rw [h.2.2.2.1.2.1, yI_i (by omega)]
  obtain ⟨Q, hQ⟩ : ∃ Q, Q = (F_part fu m).1 r (va + 7) (va + 7 + sA r 30 (a + 4)) := ⟨_, rfl⟩
  rw [← hQ] at P ⊢
  refine ⟨w1, ?_⟩
  obtain ⟨φ3, n3, u3, g1, g2, g3, g4, g5, g6, g7, g8⟩ := P
  have fq := g1.2.2.1.2
  have A3 : sA Q.2 30 = sA r 30 := g5.2.2.1 30 (by decide) (by decide) (by decide) (by decide) (by decide)
  have x1 : (va + 1).toInt = ((a + 1 : Nat) : Int) := (i_addy (y := 1) hva (show ((1 : Int32).toInt) = 1 from rfl) (by omega) (by omega)).trans (by omega)
  have n1 : (va + 1).toNatClampNeg = a + 1 := by rw [tn_eq, x1]; omega
  have vp1 : vp_in (va + 1) 3200 := vp_of (by omega) (by omega)
  have s5 : (va + 7 + sA r 30 (a + 4) + sA r 30 (a + 5)).toInt = ((a + 7 + l4 + l5 : Nat) : Int) := (i_addy j2 L5 (by omega) (by omega)).trans (by omega)
  have ed : (nI (d + 1)).toNatClampNeg = d + 1 := nN (by omega)
  have vd : vp_in (nI (d + 1)) 132 := vp_of (by rw [yI_i (by omega)]; omega) (by rw [yI_i (by omega)]; omega)
  have frm : Q.1 = 0 ∨ Q.1 = 1 → sI c3 12 13 = sI c 12 13 ∧ (∀ a k, 13 ≤ a → a ≤ 18 → k ≤ d → sA c3 a k = sA c a k) ∧ (∀ k, k < 16 * (d + 1) → sT c3 19 k = sT c 19 k ∧ sT c3 20 k = sT c 20 k) ∧ sI Q.2 21 25 = sI r 21 25 ∧ (∀ k, k < 16 * e → sA Q.2 34 k = sA r 34 k ∧ sA Q.2 35 k = sA r 35 k) ∧ (t3 : Int) + 5 * (sI Q.2 21 11).toInt ≤ t + 5 * (sI r 21 11).toInt := fun st => by
    obtain ⟨a1, a2, a3, a4, a5⟩ := g7 st
    exact ⟨a1.2.1, fun a k x1 x2 hk => a1.2.2.1 a k x1 x2 (by omega), fun k hk => a1.2.2.2 k hk, a2.1, fun k hk => a2.2.2 k (by omega), a3⟩
  by_cases hbt : Q.1 = 1 ∧ btf Q.2 a = false
  · obtain ⟨st1, bf⟩ := hbt
    obtain ⟨a1, a2, a3, a4, a5⟩ := g7 (Or.inr st1)
    obtain ⟨q1, q2⟩ := g3
    rw [st1] at q1 q2
    have s3 : sI c3 1 4 = sI Q.2 21 9 ∧ sI c3 1 5 = sI Q.2 21 10 ∧ 1 ≤ (sI Q.2 21 9).toInt ∧ (sI Q.2 21 9).toInt ≤ 8 := by
      rcases q2 with w | w | w | w
      · exact absurd w.1 (by decide)
      · exact w.2
      · exact absurd w.1 (by decide)
      · exact absurd w.1 (by decide)
    have rl : sA c3 13 (d + 1) = 3 := a4.1.trans hro
    have r14 : sA c3 14 (d + 1) = va := a4.2.1.trans i5
    have b12 : sI c3 12 12 = nI (d + 1 + 1) := a1.1.trans i1
    have hV3 : CDV c3 Q.2 := hV.mv g4 g5
    obtain ⟨cs, hcs⟩ : ∃ cs, cs = f_Le_settle c3 := ⟨_, rfl⟩
    have ocs : opC c3 cs := by rw [hcs]; exact stl_op c3
    have hRs : RR G T φ3 n3 u3 cs Q.2 := by rw [hcs]; exact stl_RR g1
    have hzs : SZ cs := by rw [hcs]; exact ⟨rfl, rfl, rfl⟩
    have hVs : CDV cs Q.2 := hV3.mv ocs.en (opR.rf Q.2).en
    have m3 : mskR Q.2 a = mskR r a := by unfold mskR; rw [A3]
    have hsv3 : SV φ3 n3 (d + 1) e (mskR r a) 16 cs Q.2 := hsv.mv n6 g5.2.2.2.2.2.2.2.2 g2 (fun i hi => by
      rw [ocs.2.2.2.2 19 (by decide), ocs.2.2.2.2 20 (by decide)]
      exact a5 _ (by omega)) (fun i hi => a2.2.2 _ (by omega))
    obtain ⟨cz, rz, B1, B2, B3, B4, B5, B6, B7⟩ := bs_go (G := G) (T := T) (φ := φ3) (n := n3) (u := u3) (fu := fu) (d := d + 1) (e := e) (r := r) (m := mskR r a) (o := a) (by omega) (by omega) (by omega) (by omega) rfl 16 0 cs Q.2 (by omega) hRs hVs.1 A3 (by rw [ocs.2.2.1 14 (by decide), r14]; exact hva) hsv3
    obtain ⟨y1, y2⟩ := B1 fu (by omega)
    obtain ⟨y3, y4⟩ := B2 fu (by omega)
    have hVz : CDV cz rz := hVs.mv B4.en B5.en
    have Az : sA rz 30 = sA r 30 := (B5.2.2.1 30 (by decide) (by decide) (by decide)).trans A3
    -- the numbers
    obtain ⟨cn, hcn⟩ : ∃ cn, cn = pA (pA cz 9 (upd (sA cz 9) 7 (sI Q.2 21 9))) 9 (upd (upd (sA cz 9) 7 (sI Q.2 21 9)) 6 (sI Q.2 21 10)) := ⟨_, rfl⟩
    obtain ⟨rn, hrn⟩ : ∃ rn, rn = pA (pA rz 28 (upd (sA rz 28) 7 (sI Q.2 21 9))) 28 (upd (upd (sA rz 28) 7 (sI Q.2 21 9)) 6 (sI Q.2 21 10)) := ⟨_, rfl⟩
    have hRn : RR G T φ3 n3 u3 cn rn := by
      rw [hcn, hrn]
      exact (B3.num (k := 7) (sI Q.2 21 9)).num (k := 6) (sI Q.2 21 10)
    have ocn : opC cz cn := by rw [hcn]; exact (opC_A _ _).tr (opC_A _ _)
    have orn : opR rz rn := by rw [hrn]; exact (opR_A _ (Or.inr (Or.inr rfl)) _).tr (opR_A _ (Or.inr (Or.inr rfl)) _)
    have hVn : CDV cn rn := hVz.mv ocn.en orn.en
    have An : sA rn 30 = sA r 30 := (orn.2.2.1 30 (by decide) (by decide) (by decide)).trans Az
    obtain ⟨hw, ch, h1, h2, h3, h4, h5, h6, h7, h8⟩ := bh (G := G) (T := T) (fu := fu) (c := cn) (r := rn) (d := d + 1) (a := a) (va := va) (by omega) hVn.1 hva (by omega)
    rw [An] at h6
    have oAll : opC c3 cn := (ocs.tr B4).tr ocn
    have rAll : opR Q.2 rn := B5.tr orn
    have Ir : ∀ k, sI rn 21 k = sI Q.2 21 k := fun k => by
      rw [hrn]
      exact B7 k
    have zn : SZ cn := by
      have e : ∀ k, sI cn 1 k = sI cs 1 k := fun k => by
        rw [hcn]
        exact B6 k
      exact ⟨(e 3).trans hzs.1, (e 4).trans hzs.2.1, (e 5).trans hzs.2.2⟩
    have sq : va + 7 + sA r 30 (a + 4) + sA r 30 (a + 5) = va + 7 + sA rn 30 (a + 4) + sA rn 30 (a + 5) := by rw [An]
    have hH5 : HYP G T φ3 n3 u3 deep dd (d + 1) (e + 1) (a + 7 + l4) (a + 7 + l4 + l5) (t3 + 1) (va + 7 + sA r 30 (a + 4)) (va + 7 + sA r 30 (a + 4) + sA r 30 (a + 5)) ch rn := by
      refine ⟨h2 hRn, ⟨(h5 3).trans zn.1, (h5 4).trans zn.2.1, (h5 5).trans zn.2.2⟩, hVn.mv h3 (opR.rf rn).en, ⟨((h4 12).trans (oAll.st 0).1).trans b12, ((h4 13).trans (oAll.st 0).2.1).trans (a1.2.1.trans i2), (Ir 25).trans (a2.1.trans i3), (Ir 26).trans (a2.2.1.trans i4)⟩, ⟨j2, s5, h6.2.2.1, h6.2.2.2, by omega⟩, ⟨d1, d2, d3, d4, d5⟩, ?_⟩
      rw [Ir 11]
      omega
    obtain ⟨w5, c', t', W, hy5⟩ := sp_ta (fu := fu) (d := d) (e := e) (xa := a + 7 + l4 + l5) (l6 := l6) (a := a) (va := va) hS hH5 (by rw [An]; exact hP5) (h6.2.1.trans ((congrFun (oAll.2.2.1 14 (by decide)) (d + 1)).trans r14)) h6.1 (by rw [Ir 11]; omega) (by rw [An]; exact s5) (by rw [An]; exact L6) (by omega) (by rw [An]; exact hP6) hed hm hva (by omega) sq
    have e1 : cn2 .ne Q.1 1 = false := by rw [st1]; rfl
    have bf' : cn2 .ne ((sA r 30 (a + 1) >>> ((sI Q.2 21 9 - 1) &&& 31)) &&& 1) 1 = false := by
      unfold btf at bf
      rw [A3] at bf
      exact bf
    have eM : f_M_back fu Q.2 (mskR r a) (nI (16 * e)) = rz := y3
    have eT : t_M_scope_137 (F_part fu m) fu Q.2 va (mskR r a) (nI (16 * e)) (va + 7 + sA r 30 (a + 4)) (va + 7 + sA r 30 (a + 4) + sA r 30 (a + 5)) Q.1 = t_M_scope_172 (F_part fu m) fu rn va (va + 7 + sA r 30 (a + 4)) (va + 7 + sA r 30 (a + 4) + sA r 30 (a + 5)) := by
      unfold t_M_scope_137
      rw [e1, cond_false, n1, A3, bf', cond_false, eM]
      unfold t_M_scope_160
      rw [B7 9, B7 10, show (7 : Int32).toNatClampNeg = 7 from rfl, show (6 : Int32).toNatClampNeg = 6 from rfl, ← hrn]
    have wT : w_M_scope_137 (F_part fu m) (W_part fu m) fu Q.2 va (mskR r a) (nI (16 * e)) (va + 7 + sA r 30 (a + 4)) (va + 7 + sA r 30 (a + 4) + sA r 30 (a + 5)) Q.1 := by
      unfold w_M_scope_137
      rw [e1, n1, A3, bf', eM]
      refine ⟨(fun q => nomatch q), fun _ => ⟨vp1, (fun q => nomatch q), fun _ => ⟨y4, ?_⟩⟩⟩
      unfold w_M_scope_160
      rw [B7 9, B7 10, show (7 : Int32).toNatClampNeg = 7 from rfl, show (6 : Int32).toNatClampNeg = 6 from rfl, ← hrn]
      exact ⟨vp_of (by decide) (by decide), vp_of (by decide) (by decide), w5⟩
    refine ⟨wT, c', t', ?_, fun y hh => hy3 y (en_f (d := d + 1) (by omega) b12 q1 (by omega) ?_ ?_)⟩
    · rw [eT]
      have frm1 := frm (Or.inr st1)
      refine PX.tr2 (t1 := t3 + 1 + 2) g2 (g4.tr (oAll.en.tr h3)) (g5.tr rAll.en) (fun _ => ⟨((h4 13).trans (oAll.st 0).2.1).trans frm1.1, fun a k x1 x2 hk => ?_, fun k hk => ?_, (Ir 25).trans frm1.2.2.2.1, fun k hk => ?_, ?_⟩) W
      · rw [h7 a k (by omega), oAll.2.2.1 a (by omega)]
        exact frm1.2.1 a k x1 x2 hk
      · rw [h8, h8, oAll.2.2.2.2 19 (by decide), oAll.2.2.2.2 20 (by decide)]
        exact frm1.2.2.1 k hk
      · rw [rAll.2.2.1 34 (by decide) (by decide) (by decide), rAll.2.2.1 35 (by decide) (by decide) (by decide)]
        exact frm1.2.2.2.2.1 k hk
      · rw [Ir 11]
        have := frm1.2.2.2.2.2
        omega
    · unfold w_En_leaveByFault w_En_leaveByFault_24
      rw [ed, s3.1, s3.2.1, rl, show cn2 .eq (3 : Int32) 3 = true from rfl, ← hcs]
      refine ⟨vd, fun _ => ⟨trivial, ?_⟩, (fun q => nomatch q)⟩
      obtain ⟨u1, u2⟩ := be_C hVs.1 x1 (by omega)
      rw [A3] at u1
      unfold w_En_leaveByFault_27
      rw [ed, ocs.2.2.1 13 (by decide), ocs.2.2.1 14 (by decide), rl, r14, u1, bf', show cn2 .ne (3 : Int32) 3 = false from rfl]
      refine ⟨vd, (fun q => nomatch q), fun _ => ⟨vd, u2, (fun q => nomatch q), fun _ => ⟨?_, trivial⟩⟩⟩
      unfold w_En_beginHandler
      rw [ed, ocs.2.2.1 14 (by decide), r14]
      refine ⟨vd, y2, ?_⟩
      unfold w_En_beginHandler_8
      rw [show f_En_putSlotsBack fu cs (nI (d + 1)) = cz from y1, show (7 : Int32).toNatClampNeg = 7 from rfl, show (6 : Int32).toNatClampNeg = 6 from rfl, ← hcn]
      exact ⟨vp_of (by decide) (by decide), vp_of (by decide) (by decide), hw⟩
    · obtain ⟨u1, u2⟩ := be_C hVs.1 x1 (by omega)
      rw [A3] at u1
      unfold f_En_leaveByFault t_En_leaveByFault_24
      rw [ed, s3.1, s3.2.1, rl, show cn2 .eq (3 : Int32) 3 = true from rfl, cond_true, ← hcs]
      unfold t_En_leaveByFault_27
      rw [ed, ocs.2.2.1 13 (by decide), ocs.2.2.1 14 (by decide), rl, r14, u1, bf', show cn2 .ne (3 : Int32) 3 = false from rfl, cond_false, cond_false]
      unfold f_En_beginHandler t_En_beginHandler_8
      rw [ed, ocs.2.2.1 14 (by decide), r14, show f_En_putSlotsBack fu cs (nI (d + 1)) = cz from y1, show (7 : Int32).toNatClampNeg = 7 from rfl, show (6 : Int32).toNatClampNeg = 6 from rfl, ← hcn, h1]
      exact hy5 y hh
  · have nb : Q.1 = 1 → btf Q.2 a = true := fun z => by
      cases hx : btf Q.2 a with
      | true => rfl
      | false => exact absurd ⟨z, hx⟩ hbt
    obtain ⟨w2, c', t', W, hy⟩ := ta_go (Q := Q) (fu := fu) (t := t3) (c := c3) (deep := deep) (d := d) (e := e) (va := va) (a := a) (k := k) (dd := dd) (xa := a + 7 + l4 + l5) (l6 := l6) hS g1 g3 (hV.mv g4 g5) (fun st => by
      obtain ⟨a1, a2, a3, a4, a5⟩ := g7 st
      exact ⟨a1.1.trans i1, a1.2.1.trans i2, a2.1.trans i3, a2.2.1.trans i4, a4.2.1.trans i5, Or.inl (a4.1.trans hro), by omega⟩) (fun z => by
      obtain ⟨a1, a2, a3, a4, a5⟩ := g7 (Or.inl z)
      exact (g8 z).trans (j4.symm.trans (a4.2.2 16 (Or.inl rfl)).symm)) (fun z => by
      obtain ⟨a1, a2, a3, a4, a5⟩ := g7 (Or.inr z)
      exact Or.inr ⟨a4.1.trans hro, nb z⟩) g6 (by rw [A3]; exact s5) (by rw [A3]; exact L6) (by omega) (by rw [A3]; exact hP6) d1 d2 d3 d4 hed hm hva (by omega)
    rw [A3] at w2 W
    have bt : Q.1 = 1 → cn2 .ne ((sA r 30 (a + 1) >>> ((sI Q.2 21 9 - 1) &&& 31)) &&& 1) 1 = true := fun z => by
      have := nb z
      unfold btf at this
      rw [A3] at this
      exact this
    have eT : t_M_scope_137 (F_part fu m) fu Q.2 va (mskR r a) (nI (16 * e)) (va + 7 + sA r 30 (a + 4)) (va + 7 + sA r 30 (a + 4) + sA r 30 (a + 5)) Q.1 = t_M_scope_177 (F_part fu m) fu Q.2 va Q.1 (va + 7 + sA r 30 (a + 4) + sA r 30 (a + 5)) ∧ w_M_scope_137 (F_part fu m) (W_part fu m) fu Q.2 va (mskR r a) (nI (16 * e)) (va + 7 + sA r 30 (a + 4)) (va + 7 + sA r 30 (a + 4) + sA r 30 (a + 5)) Q.1 := by
      unfold t_M_scope_137 w_M_scope_137
      by_cases z : Q.1 = 1
      · rw [show cn2 .ne Q.1 1 = false from by rw [z]; rfl, n1, A3, bt z]
        exact ⟨rfl, (fun q => nomatch q), fun _ => ⟨vp1, fun _ => w2, (fun q => nomatch q)⟩⟩
      · rw [show cn2 .ne Q.1 1 = true from by rw [c2_ne]; exact dt (fun q => z (Int32.toInt_inj.mp q))]
        exact ⟨rfl, fun _ => w2, (fun q => nomatch q)⟩
    refine ⟨eT.2, c', t', ?_, fun y hh => hy3 y (hy y hh)⟩
    rw [eT.1]
    refine PX.tr2 (t1 := t3 + 2) g2 g4 g5 (fun z => ?_) W
    have st : Q.1 = 0 ∨ Q.1 = 1 := Decidable.byContradiction fun y => s177 g3 y z
    obtain ⟨m1, m2, m3, m4, m5, m6⟩ := frm st
    exact ⟨m1, m2, m3, m4, m5, by omega⟩
end BD
