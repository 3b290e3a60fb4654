/-! PLAIN OPS, AND A PATCH CALLED -/
section PL
variable {G : AH} {T : Nat} {φ : Nat → Nat} {n u fu deep dd d e a b k t m : Nat} {c r c1 r1 : St} {va vb : Int32}
theorem t13 (hd : d ≤ 131) {op : Int32} (o1 : 1 ≤ op.toInt) (o2 : op.toInt ≤ 34) {c2 : St} (hc2 : c2 = pA c1 15 (upd (sA c1 15) d (va + f_M_wholeOf op))) :
    t_En_beginOp_13 fu c1 (nI d) va op 1 = (if op = 30 then f_En_choose c2 (nI d) va (va + f_M_wholeOf op) else if op = 31 then t_En_beginOp_47 fu (pA c2 15 (upd (upd (sA c1 15) d (va + f_M_wholeOf op)) d (va + f_M_wholeOf op + f_En_byteAt c2 (va + 2)))) va (va + f_M_wholeOf op) else if op = 32 then f_En_beginScope fu c2 (nI d) va (va + f_M_wholeOf op) else if op = 33 then f_En_beginPatch c2 (f_En_byteAt c2 (va + 1)) else f_Op_perform fu c2 va) ∧
    ((op = 30 → w_En_choose c2 (nI d) va (va + f_M_wholeOf op)) → (op = 31 → w_En_byteAt c2 (va + 2) ∧ w_En_beginOp_47 fu (pA c2 15 (upd (upd (sA c1 15) d (va + f_M_wholeOf op)) d (va + f_M_wholeOf op + f_En_byteAt c2 (va + 2)))) va (va + f_M_wholeOf op)) → (op = 32 → w_En_beginScope fu c2 (nI d) va (va + f_M_wholeOf op)) → (op = 33 → w_En_byteAt c2 (va + 1) ∧ w_En_beginPatch c2 (f_En_byteAt c2 (va + 1))) → (¬ op = 30 → ¬ op = 31 → ¬ op = 32 → ¬ op = 33 → w_Op_perform fu c2 va) → w_En_beginOp_13 fu c1 (nI d) va op 1) := by
  have ed : (nI d).toNatClampNeg = d := nN (by omega)
  have vd : vp_in (nI d) 132 := vp_of (by rw [yI_i (by omega)]; omega) (by rw [yI_i (by omega)]; omega)
  obtain ⟨p1, p2⟩ := opd (s := c1) o1 o2 va
  constructor
  · unfold t_En_beginOp_13
    rw [show cn1 .ne (1 : Int32) = true from rfl, cond_true, ed, p1, ← hc2]
  · intro w30 w31 w32 w33 wp
    unfold w_En_beginOp_13
    rw [show cn1 .ne (1 : Int32) = true from rfl, ed, p1, ← hc2]
    exact ⟨fun _ => ⟨trivial, p2, vd, fun z => ⟨w30 z, trivial⟩, fun n0 => ⟨fun z => ⟨(w31 z).1, vd, (w31 z).2⟩, fun n1 => ⟨fun z => ⟨w32 z, trivial⟩, fun n2 => ⟨fun z => ⟨(w33 z).1, (w33 z).2, trivial⟩, fun n3 => ⟨wp n0 n1 n2 n3, trivial⟩⟩⟩⟩⟩, (fun z => nomatch z)⟩
theorem i_of {x : Int32} {k : Int} (h : ¬ x.toInt = k) {y : Int32} (hy : y.toInt = k) : ¬ x = y := fun z => h (by rw [z]; exact hy)
theorem ops_pl (hfu : 1000000 ≤ fu) (hH : HYP G T φ n u deep dd d e a b t va vb c r) (hab : a < b) (hO : OVA (sA r 30) a) (hW : 2 ≤ (f_M_wholeOf (sA r 30 a)).toInt) (o1 : 1 ≤ (sA r 30 a).toInt) (o2 : (sA r 30 a).toInt ≤ 34) (hn : ¬ (30 ≤ (sA r 30 a).toInt ∧ (sA r 30 a).toInt ≤ 33)) (hP : PV (sA r 30) k dd (a + (f_M_wholeOf (sA r 30 a)).toInt.toNat) b) : OPS G T fu m φ n d e k dd a b t vb va c r := by
  have hH0 := hH
  obtain ⟨h, hz, hV, ⟨i1, i2, i3, i4⟩, ⟨j1, j2, j3, j4, j5⟩, ⟨d1, d2, d3, d4, d5⟩, ht⟩ := hH
  have f0 := h.2.2.1.2
  refine bo hH0 hab o1 o2 (fun c1 r1 h1 hz1 wc wr hf => ?_)
  have e30 : sA r1 30 = sA r 30 := by rw [wr.2.2.1]
  obtain ⟨c2, hc2⟩ : ∃ c2, c2 = pA c1 15 (upd (sA c1 15) d (va + f_M_wholeOf (sA r 30 a))) := ⟨_, rfl⟩
  obtain ⟨t1, t2⟩ := t13 (fu := fu) (show d ≤ 131 by omega) o1 o2 hc2
  have n30 := i_of (x := sA r 30 a) (k := 30) (by omega) (y := 30) rfl
  have n31 := i_of (x := sA r 30 a) (k := 31) (by omega) (y := 31) rfl
  have n32 := i_of (x := sA r 30 a) (k := 32) (by omega) (y := 32) rfl
  have n33 := i_of (x := sA r 30 a) (k := 33) (by omega) (y := 33) rfl
  rw [if_neg n30, if_neg n31, if_neg n32, if_neg n33] at t1
  have h2 : RR G T φ n u c2 r1 := by rw [hc2]; exact h1.cA (a := 15) (by decide) _
  have hz2 : SZ c2 := by rw [hc2]; exact hz1
  have A2 : ∀ k, k ≠ 15 → sA c2 k = sA c k := fun k hk => by rw [hc2, sA_pA, if_neg hk, wc.2.2.1]
  have T2 : ∀ k, sT c2 k = sT c k := fun k => by
    rw [hc2]
    show sT c1 k = _
    rw [wc.2.2.2.2.1]
  have va1 : (va + 1).toInt = (a : Int) + 1 := i_addy (y := 1) j1 (show ((1 : Int32).toInt) = 1 from rfl) (by omega) (by omega)
  obtain ⟨q1, q2, q3⟩ := op_all (fu := fu) (a := va) (q := va + 1) (p := a) (w := (f_M_wholeOf (sA r 30 a)).toInt.toNat) hfu h2 hz2 (fun k => by rw [e30, A2 6 (by decide)]; exact hV.1 k) j1 va1 (by unfold OV; rw [e30]; exact hO) (by rw [e30]; omega) (by omega) (by rw [e30]; exact hn)
  rw [e30] at q1 q3
  have iw := i_addy (x := va) (y := f_M_wholeOf (sA r 30 a)) j1 rfl (by have := hO.1; omega) (by have := hO.1; omega)
  obtain ⟨Q, hQ⟩ : ∃ Q, Q = f_M_act fu r1 (sA r 30 a) (va + 1) := ⟨_, rfl⟩
  rw [← hQ] at q1
  obtain ⟨φ', n', u', f1, f2, f3, f4, f5⟩ := q1
  have kf := f5.2.2.2.2.2.2.2.2.1
  have b30 : cn2 .ne (sA r 30 a) 30 = true := by rw [c2_ne]; exact dt (by show ¬ _ = (30 : Int); omega)
  have b31 : cn2 .ne (sA r 30 a) 31 = true := by rw [c2_ne]; exact dt (by show ¬ _ = (31 : Int); omega)
  have b32 : cn2 .ne (sA r 30 a) 32 = true := by rw [c2_ne]; exact dt (by show ¬ _ = (32 : Int); omega)
  have b33 : cn2 .ne (sA r 30 a) 33 = true := by rw [c2_ne]; exact dt (by show ¬ _ = (33 : Int); omega)
  refine ⟨Q, a + (f_M_wholeOf (sA r 30 a)).toInt.toNat, va + f_M_wholeOf (sA r 30 a), fun _ => ⟨by rw [iw]; omega, hP, by omega⟩, fun C y hy g hg => ?_, t2 (fun z => absurd z n30) (fun z => absurd z n31) (fun z => absurd z n32) (fun z => absurd z n33) (fun _ _ _ _ => q2), f_Op_perform fu c2 va, t + 1, ?_, fun y hy => ?_⟩
  · obtain ⟨g, rfl⟩ : ∃ g', g = g' + 1 := ⟨g - 1, by omega⟩
    obtain ⟨x1, x2⟩ := hy g (by unfold fl at hg ⊢; omega)
    constructor
    · unfold b_M_part_13
      rw [show cn1 .eq (0 : Int32) = true from rfl, cond_true, b30, cond_true, b31, cond_true, b32, cond_true, b33, cond_true, ← hQ]
      exact x1
    · unfold v_M_part_13
      rw [b30, b31, b32, b33, ← hQ]
      exact ⟨fun _ => ⟨fun _ => ⟨fun _ => ⟨fun _ => ⟨fun _ => ⟨q3, x2⟩, (fun z => nomatch z)⟩, (fun z => nomatch z)⟩, (fun z => nomatch z)⟩, (fun z => nomatch z)⟩, (fun z => nomatch z)⟩
  · have ec : enC c1 c2 := by rw [hc2]; exact enC_A _ (by decide) _
    have sc : stC d c1 c2 := by
      rw [hc2]
      refine ⟨rfl, rfl, fun a' k x1 x2 hk => ?_, fun k _ => ⟨rfl, rfl⟩⟩
      rw [sA_pA]
      by_cases e : a' = 15
      · rw [if_pos e, upN _ _ (by omega), e]
      · rw [if_neg e]
    have B2 : ∀ k, k ≠ 15 → sA c2 k = sA c1 k := fun k hk => by rw [hc2, sA_pA, if_neg hk]
    refine ⟨φ', n', u', f1, f2, f3, ec.tr f4.en, f5.en, by omega, fun _ => ⟨sc.tr (f4.st d), f5.st e, by omega, ⟨by rw [f4.2.2.1 13 (by decide), B2 13 (by decide)], by rw [f4.2.2.1 14 (by decide), B2 14 (by decide)], fun k hk => by rw [f4.2.2.1 k (by omega), B2 k (by omega)]⟩, fun k _ => ⟨?_, ?_⟩⟩, fun _ => ?_⟩
    · rw [f4.2.2.2.2 19 (by decide), hc2]; rfl
    · rw [f4.2.2.2.2 20 (by decide), hc2]; rfl
    · rw [f4.2.2.1 15 (by decide), hc2]
      exact upS _ _ _
  · rw [t1]
    exact hy
/-- a patch -/
theorem ops_pt (hfu : 1000000 ≤ fu) (hS : SP G T fu m) (hH : HYP G T φ n u deep dd d e a b t va vb c r) (hab : a < b) (hO : OVA (sA r 30) a) (h33 : sA r 30 a = 33) (hP : PV (sA r 30) k dd (a + (f_M_wholeOf (sA r 30 a)).toInt.toNat) b) (hm : 22 * (12 - deep) ≤ m) : OPS G T fu (m + 1) φ n d e k dd a b t vb va c r := by
  have hH0 := hH
  obtain ⟨h, hz, hV, ⟨i1, i2, i3, i4⟩, ⟨j1, j2, j3, j4, j5⟩, ⟨d1, d2, d3, d4, d5⟩, ht⟩ := hH
  have f0 := h.2.2.1.2
  have w2 : (f_M_wholeOf 33).toInt = 2 := by decide +kernel
  have m15 : ∀ x, f_M_mostOf 33 (nI 0) x = 15 := fun x => by
    unfold f_M_mostOf
    rw [show cn1 .ne (nI 0) = false from rfl, cond_false]
    unfold t_M_mostOf_5
    exact (if_neg (by decide)).trans ((if_neg (by decide)).trans ((if_neg (by decide)).trans ((if_neg (by decide)).trans ((if_neg (by decide)).trans ((if_neg (by decide)).trans ((if_neg (by decide)).trans ((if_neg (by decide)).trans ((if_neg (by decide)).trans ((if_neg (by decide)).trans ((if_neg (by decide)).trans ((if_neg (by decide)).trans ((if_neg (by decide)).trans ((if_neg (by decide)).trans ((if_neg (by decide)).trans ((if_neg (by decide)).trans ((if_neg (by decide)).trans ((if_neg (by decide)).trans ((if_neg (by decide)).trans ((if_neg (by decide)).trans ((if_neg (by decide)).trans ((if_neg (by decide)).trans ((if_neg (by decide)).trans ((if_neg (by decide)).trans ((if_neg (by decide)).trans ((if_neg (by decide)).trans ((if_neg (by decide)).trans ((if_neg (by decide)).trans ((if_neg (by decide)).trans ((if_neg (by decide)).trans ((if_neg (by decide)).trans ((if_neg (by decide)).trans (if_pos rfl))))))))))))))))))))))))))))))))
  have hO1 := hO.1
  have b15 := hO.2 0 (by rw [h33, w2]; decide)
  rw [h33] at hO1 b15 hP
  rw [m15] at b15
  have b15' : (sA r 30 (a + 1)).toInt ≤ 15 := b15.2
  have b0 := (b255 (sA c 6 (a + 1))).1
  rw [← hV.1 (a + 1)] at b0
  rw [w2] at hO1 hP
  refine bo hH0 hab (by rw [h33]; decide) (by rw [h33]; decide) (fun c1 r1 h1 hz1 wc wr hf => ?_)
  have e30 : sA r1 30 = sA r 30 := by rw [wr.2.2.1]
  obtain ⟨c2, hc2⟩ : ∃ c2, c2 = pA c1 15 (upd (sA c1 15) d (va + f_M_wholeOf 33)) := ⟨_, rfl⟩
  obtain ⟨t1, t2⟩ := t13 (fu := fu) (show d ≤ 131 by omega) (op := 33) (by decide) (by decide) hc2
  rw [if_neg (by decide), if_neg (by decide), if_neg (by decide), if_pos rfl] at t1
  have h2 : RR G T φ n u c2 r1 := by rw [hc2]; exact h1.cA (a := 15) (by decide) _
  have hz2 : SZ c2 := by rw [hc2]; exact hz1
  have B2 : ∀ k, k ≠ 15 → sA c2 k = sA c1 k := fun k hk => by rw [hc2, sA_pA, if_neg hk]
  have ec : enC c1 c2 := by rw [hc2]; exact enC_A _ (by decide) _
  have er := wr.op
  have hV2 : CDV c2 r1 := hV.mv (wc.op.en.tr ec) er.en
  have va1 : (va + 1).toInt = ((a + 1 : Nat) : Int) := (i_addy (y := 1) j1 (show ((1 : Int32).toInt) = 1 from rfl) (by omega) (by omega)).trans (by omega)
  obtain ⟨y1, y2⟩ := be_C hV2.1 va1 (by omega)
  rw [e30] at y1
  have iw := i_addy (x := va) (y := f_M_wholeOf 33) j1 w2 (by omega) (by omega)
  have I12 : ∀ k, sI c2 12 k = sI c 12 k := fun k => by
    rw [hc2]
    exact wc.1 12 k (by decide)
  have x15 : sA c2 15 d = va + f_M_wholeOf 33 := by rw [hc2]; exact upS _ _ _
  have i25 : sI r1 21 25 = sI r 21 25 := wr.1 21 25 (fun _ => by decide)
  have i26 : sI r1 21 26 = sI r 21 26 := wr.1 21 26 (fun _ => by decide)
  obtain ⟨w1, w3, c', t', P, hy'⟩ := pt_go (fu := fu) (t := t + 1) (p := (sA r 30 (a + 1)).toInt.toNat) (vp := sA r 30 (a + 1)) hS h2 hz2 hV2 ((I12 12).trans i1) ((I12 13).trans i2) (i25.trans i3) (i26.trans i4) (by omega) (by omega) d1 d2 (by omega) d5 (by omega) hm
  have ea1 : (va + 1).toNatClampNeg = a + 1 := by rw [tn_eq, va1]; omega
  have sc : stC d c1 c2 := by
    rw [hc2]
    refine ⟨rfl, rfl, fun a' k x1 x2 hk => ?_, fun k _ => ⟨rfl, rfl⟩⟩
    rw [sA_pA]
    by_cases e : a' = 15
    · rw [if_pos e, upN _ _ (by omega), e]
    · rw [if_neg e]
  obtain ⟨Q, hQ⟩ : ∃ Q, Q = f_M_patches (F_part fu m) fu r1 (sA r 30 (a + 1)) := ⟨_, rfl⟩
  rw [← hQ, x15] at P
  have kq : fl Q.2 ≤ fl r1 := by
    obtain ⟨φ', n', u', g1, g2, g3, g4, g5, -⟩ := P
    have := g5.2.2.2.2.2.2.2.2.1
    unfold fl
    omega
  rw [h33]
  refine ⟨Q, a + 2, va + f_M_wholeOf 33, fun _ => ⟨by rw [iw]; omega, hP, by omega⟩, fun C y hy g hg => ?_, t2 (fun z => absurd z (by decide)) (fun z => absurd z (by decide)) (fun z => absurd z (by decide)) (fun _ => ⟨y2, by rw [y1]; exact w3⟩) (fun _ _ _ z => absurd rfl z), c', t', ?_, fun y hy => ?_⟩
  · obtain ⟨g, rfl⟩ : ∃ g', g = g' + 1 := ⟨g - 1, by omega⟩
    obtain ⟨x1, x2⟩ := hy g (by omega)
    constructor
    · unfold b_M_part_13
      rw [show cn1 .eq (0 : Int32) = true from rfl, cond_true, show cn2 .ne (33 : Int32) 30 = true from rfl, cond_true, show cn2 .ne (33 : Int32) 31 = true from rfl, cond_true, show cn2 .ne (33 : Int32) 32 = true from rfl, cond_true, show cn2 .ne (33 : Int32) 33 = false from rfl, cond_false, ea1, e30, show (F_part fu (m + 1)).2.1 r1 (sA r 30 (a + 1)) = Q from hQ.symm]
      exact x1
    · unfold v_M_part_13
      rw [show cn2 .ne (33 : Int32) 30 = true from rfl, show cn2 .ne (33 : Int32) 31 = true from rfl, show cn2 .ne (33 : Int32) 32 = true from rfl, show cn2 .ne (33 : Int32) 33 = false from rfl, ea1, e30, show (F_part fu (m + 1)).2.1 r1 (sA r 30 (a + 1)) = Q from hQ.symm]
      exact ⟨fun _ => ⟨fun _ => ⟨fun _ => ⟨fun _ => ⟨(fun z => nomatch z), fun _ => ⟨vp_of (by omega) (by omega), w1, x2⟩⟩, (fun z => nomatch z)⟩, (fun z => nomatch z)⟩, (fun z => nomatch z)⟩, (fun z => nomatch z)⟩
  · refine PO.tr (t1 := t + 1 + 1) (EX.rf φ n) ec (opR.rf r1).en sc (stR.rf e r1) (show ((t + 1 + 1 : Nat) : Int) + _ ≤ ((t + 5 : Nat) : Int) + _ by omega) ⟨by rw [B2 13 (by decide)], by rw [B2 14 (by decide)], fun k hk => by rw [B2 k (by omega)]⟩ (fun k _ => ⟨by rw [hc2]; rfl, by rw [hc2]; rfl⟩) P
  · rw [t1, y1]
    exact hy' y hy
end PL
