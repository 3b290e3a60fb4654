/-! A SCOPE -/
section SCP
variable {G : AH} {T : Nat} {φ : Nat → Nat} {n u fu deep dd d e a b k t m : Nat} {c r : St} {va vb : Int32}
set_option maxHeartbeats 8000000 in
theorem ops_sc (hfu : 10000000 ≤ fu) (hS : SP G T fu m) (hH : HYP G T φ n u deep dd d e a b t va vb c r) (hab : a < b) (hO : OVA (sA r 30) a) (h32 : sA r 30 a = 32) (hdd : 1 ≤ dd) (hP1 : PV (sA r 30) k (dd - 1) (a + 7) (a + 7 + lnA (sA r 30) (a + 4))) (hP2 : PV (sA r 30) k (dd - 1) (a + 7 + lnA (sA r 30) (a + 4)) (a + 7 + lnA (sA r 30) (a + 4) + lnA (sA r 30) (a + 5))) (hP3 : PV (sA r 30) k (dd - 1) (a + 7 + lnA (sA r 30) (a + 4) + lnA (sA r 30) (a + 5)) (a + 7 + lnA (sA r 30) (a + 4) + lnA (sA r 30) (a + 5) + lnA (sA r 30) (a + 6))) (hP : PV (sA r 30) k dd (a + 7 + lnA (sA r 30) (a + 4) + lnA (sA r 30) (a + 5) + lnA (sA r 30) (a + 6)) b) (hm : 22 * (12 - deep) + 2 * dd ≤ m) : OPS G T fu (m + 1) φ n d e k dd a b t vb va c r := by
  have hH0 := hH
  obtain ⟨h, hz, hV, ⟨i1, i2, i3, i4⟩, ⟨j1, j2, j3, j4, j5⟩, ⟨d1, d2, d3, d4, d5⟩, ht⟩ := hH
  have f0 := h.2.2.1.2
  have le := hP.le
  have w7 : f_M_wholeOf 32 = 7 := by decide +kernel
  have hb0 : ∀ i, 0 ≤ (sA r 30 i).toInt ∧ (sA r 30 i).toInt ≤ 255 := fun i => by rw [hV.1 i]; exact b255 _
  have B4 := hb0 (a + 4)
  have B5 := hb0 (a + 5)
  have B6 := hb0 (a + 6)
  have L4 : (sA r 30 (a + 4)).toInt = (lnA (sA r 30) (a + 4) : Int) := by unfold lnA; omega
  have L5 : (sA r 30 (a + 5)).toInt = (lnA (sA r 30) (a + 5) : Int) := by unfold lnA; omega
  have L6 : (sA r 30 (a + 6)).toInt = (lnA (sA r 30) (a + 6) : Int) := by unfold lnA; omega
  clear B4 B5 B6
  refine bo hH0 hab (by rw [h32]; decide) (by rw [h32]; decide) (fun c1 r1 h1 hz1 wc wr hf => ?_)
  have e30 : sA r1 30 = sA r 30 := by rw [wr.2.2.1]
  obtain ⟨c2, hc2⟩ : ∃ c2, c2 = pA c1 15 (upd (sA c1 15) d (va + f_M_wholeOf 32)) := ⟨_, rfl⟩
  obtain ⟨t1, t2⟩ := t13 (fu := fu) (show d ≤ 131 by omega) (op := 32) (by decide) (by decide) hc2
  rw [if_neg (by decide), if_neg (by decide), if_pos rfl] at t1
  rw [w7] at t1 t2 hc2
  have hV1 : CDV c1 r1 := hV.mv wc.op.en wr.op.en
  have x2 : (va + 2).toInt = ((a + 2 : Nat) : Int) := (i_addy (y := 2) j1 (show ((2 : Int32).toInt) = 2 from rfl) (by omega) (by omega)).trans (by omega)
  have x3 : (va + 3).toInt = ((a + 3 : Nat) : Int) := (i_addy (y := 3) j1 (show ((3 : Int32).toInt) = 3 from rfl) (by omega) (by omega)).trans (by omega)
  have x4 : (va + 4).toInt = ((a + 4 : Nat) : Int) := (i_addy (y := 4) j1 (show ((4 : Int32).toInt) = 4 from rfl) (by omega) (by omega)).trans (by omega)
  have x5 : (va + 5).toInt = ((a + 5 : Nat) : Int) := (i_addy (y := 5) j1 (show ((5 : Int32).toInt) = 5 from rfl) (by omega) (by omega)).trans (by omega)
  have x6 : (va + 6).toInt = ((a + 6 : Nat) : Int) := (i_addy (y := 6) j1 (show ((6 : Int32).toInt) = 6 from rfl) (by omega) (by omega)).trans (by omega)
  have x7 : (va + 7).toInt = ((a + 7 : Nat) : Int) := (i_addy (y := 7) j1 (show ((7 : Int32).toInt) = 7 from rfl) (by omega) (by omega)).trans (by omega)
  have n2 : (va + 2).toNatClampNeg = a + 2 := by rw [tn_eq, x2]; omega
  have n3 : (va + 3).toNatClampNeg = a + 3 := by rw [tn_eq, x3]; omega
  have n4 : (va + 4).toNatClampNeg = a + 4 := by rw [tn_eq, x4]; omega
  have n5 : (va + 5).toNatClampNeg = a + 5 := by rw [tn_eq, x5]; omega
  have n6 : (va + 6).toNatClampNeg = a + 6 := by rw [tn_eq, x6]; omega
  have vp2 : vp_in (va + 2) 3200 := vp_of (by omega) (by omega)
  have vp3 : vp_in (va + 3) 3200 := vp_of (by omega) (by omega)
  have vp4 : vp_in (va + 4) 3200 := vp_of (by omega) (by omega)
  have vp5 : vp_in (va + 5) 3200 := vp_of (by omega) (by omega)
  have vp6 : vp_in (va + 6) 3200 := vp_of (by omega) (by omega)
  have s4 : (va + 7 + sA r 30 (a + 4)).toInt = ((a + 7 + lnA (sA r 30) (a + 4) : Nat) : Int) := (i_addy x7 L4 (by omega) (by omega)).trans (by omega)
  have s5 : (va + 7 + sA r 30 (a + 4) + sA r 30 (a + 5)).toInt = ((a + 7 + lnA (sA r 30) (a + 4) + lnA (sA r 30) (a + 5) : Nat) : Int) := (i_addy s4 L5 (by omega) (by omega)).trans (by omega)
  have s6 : (va + 7 + sA r 30 (a + 4) + sA r 30 (a + 5) + sA r 30 (a + 6)).toInt = ((a + 7 + lnA (sA r 30) (a + 4) + lnA (sA r 30) (a + 5) + lnA (sA r 30) (a + 6) : Nat) : Int) := (i_addy s5 L6 (by omega) (by omega)).trans (by omega)
  have sA7 : va + 7 + (sA r 30 (a + 4) + sA r 30 (a + 5) + sA r 30 (a + 6)) = va + 7 + sA r 30 (a + 4) + sA r 30 (a + 5) + sA r 30 (a + 6) := by rw [Int32.add_assoc (va + 7 + sA r 30 (a + 4)), Int32.add_assoc (va + 7), Int32.add_assoc (sA r 30 (a + 4))]
  have hV2 : CDV c2 r1 := hV1.mv (by rw [hc2]; exact enC_A _ (by decide) _) (opR.rf r1).en
  obtain ⟨y4, z4⟩ := be_C hV2.1 x4 (by omega)
  obtain ⟨y5, z5⟩ := be_C hV2.1 x5 (by omega)
  obtain ⟨y6, z6⟩ := be_C hV2.1 x6 (by omega)
  rw [e30] at y4 y5 y6
  obtain ⟨c3, hc3⟩ : ∃ c3, c3 = pA c2 15 (upd (sA c2 15) d (va + 7 + sA r 30 (a + 4) + sA r 30 (a + 5) + sA r 30 (a + 6))) := ⟨_, rfl⟩
  have ec3 : enC c1 c3 := by rw [hc3, hc2]; exact (enC_A _ (by decide) _).tr (enC_A _ (by decide) _)
  have h3 : RR G T φ n u c3 r1 := by rw [hc3, hc2]; exact (h1.cA (a := 15) (by decide) _).cA (a := 15) (by decide) _
  have hz3 : SZ c3 := by rw [hc3, hc2]; exact hz1
  have hV3 : CDV c3 r1 := hV1.mv ec3 (opR.rf r1).en
  obtain ⟨y4', z4'⟩ := be_C hV3.1 x4 (by omega)
  rw [e30] at y4'
  clear x2 x3 x4 x5 x6
  have A3 : ∀ k, k ≠ 15 → sA c3 k = sA c1 k := fun k hk => by rw [hc3, sA_pA, if_neg hk, hc2, sA_pA, if_neg hk]
  have A3l : ∀ a' k, k ≠ d → sA c3 a' k = sA c1 a' k := fun a' k hk => by
    by_cases e : a' = 15
    · rw [e, hc3, sA_pA, if_pos rfl, upN _ _ hk, hc2, sA_pA, if_pos rfl, upN _ _ hk]
    · rw [A3 a' e]
  have T3 : ∀ k, sT c3 k = sT c1 k := fun k => by rw [hc3, hc2]; rfl
  have I3 : ∀ k, sI c3 12 k = sI c1 12 k := fun k => by rw [hc3, hc2]; rfl
  have I1 : ∀ k, sI c1 12 k = sI c 12 k := fun k => wc.1 12 k (by decide)
  have x15 : sA c3 15 d = va + 7 + sA r 30 (a + 4) + sA r 30 (a + 5) + sA r 30 (a + 6) := by rw [hc3]; exact upS _ _ _
  have ed : (nI d).toNatClampNeg = d := nN (by omega)
  have vd : vp_in (nI d) 132 := vp_of (by rw [yI_i (by omega)]; omega) (by rw [yI_i (by omega)]; omega)
  have i25 : sI r1 21 25 = sI r 21 25 := wr.1 21 25 (fun _ => by decide)
  have i26 : sI r1 21 26 = nI e := (wr.1 21 26 (fun _ => by decide)).trans i4
  obtain ⟨wp, cp, q1, q2, q3, q4, q5, q6, q7, q8, q9, q10⟩ := psh (G := G) (T := T) (c := c3) (d := d) (by omega) ((I3 12).trans ((I1 12).trans i1)) 3 va (va + 7) (sA r 30 (a + 4))
  obtain ⟨r2, hr2⟩ : ∃ r2, r2 = pI r1 21 26 (nI (e + 1)) := ⟨_, rfl⟩
  have er2 : enR r1 r2 := by rw [hr2]; exact enR_I _ (Or.inr rfl) _
  have Ar2 : ∀ k, sA r2 k = sA r1 k := fun k => by rw [hr2]; rfl
  have Ir2 : ∀ k, k ≠ 26 → sI r2 21 k = sI r1 21 k := fun k hk => by rw [hr2, sI_pI, if_pos rfl, if_neg hk]
  have hRp : RR G T φ n u cp r2 := by rw [hr2]; exact (q2 h3).rI (k := 26) _ (Or.inr (Or.inr (by decide)))
  have zp : SZ cp := ⟨(q6 3).trans hz3.1, (q6 4).trans hz3.2.1, (q6 5).trans hz3.2.2⟩
  have hVp : CDV cp r2 := hV3.mv q3 er2
  have m30 : sA r2 30 = sA r 30 := (Ar2 30).trans e30
  obtain ⟨ck, q, φk, nk, uk, K1, K2, K3, K4, K5, K6, K7, K8, K9, K10, K11, K12⟩ := ks_go (G := G) (T := T) (fu := fu) (d := d + 1) (e := e) (r := r2) (m := mskR r2 a) (o := a) (by omega) (by omega) (by omega) (by omega) rfl 16 0 cp r2 φ n u (by omega) hRp zp hVp.1 rfl (by rw [q7.2.1]; exact j1) (fun i hi => absurd hi (by omega))
  have em : mskR r2 a = mskR r a := by unfold mskR; rw [m30]
  have eK : f_En_keepSlots fu cp (sI cp 12 12 - 1) = ck ∧ w_En_keepSlots fu cp (sI cp 12 12 - 1) := by
    rw [q4, show nI (d + 2) - 1 = nI (d + 1) from nI_p (d + 1)]
    exact K1 fu (by omega)
  have eC : f_En_beginScope fu c2 (nI d) va (va + 7) = ck := by
    unfold f_En_beginScope
    rw [y4, y5, y6, ed, ← hc3]
    unfold t_En_beginScope_23
    rw [y4', q1]
    exact eK.1
  have wC : w_En_beginScope fu c2 (nI d) va (va + 7) := by
    unfold w_En_beginScope
    rw [y4, y5, y6, ed, ← hc3]
    refine ⟨z4, z5, z6, vd, ?_⟩
    unfold w_En_beginScope_23
    rw [y4', q1]
    exact ⟨z4', wp, eK.2, trivial⟩
  have kf := K7.2.2.2.2.2.2.2.2.1
  have f11 : (sI r2 21 11).toInt = (sI r1 21 11).toInt := by rw [Ir2 11 (by decide)]
  have q30 : sA q.2 30 = sA r 30 := (K7.2.2.1 30 (by decide) (by decide) (by decide) (by decide) (by decide)).trans m30
  have e16 : (16 : Int32) * nI e = nI (16 * e) := by rw [show (16 : Int32) = nI 16 from rfl, show nI 16 * nI e = nI (16 * e) from (Int32.ofNat_mul 16 e).symm]
  have en1 : nI e + 1 = nI (e + 1) := (Int32.ofNat_add e 1).symm
  -- the reference's scope
  have rS : w_M_scope_105 (F_part fu m) (W_part fu m) fu q.2 va (va + 7) (mskR r a) (nI (16 * e)) q.1 → f_M_scope (F_part fu m) fu r1 va (va + 7) = t_M_scope_105 (F_part fu m) fu q.2 va (va + 7) (mskR r a) (nI (16 * e)) q.1 ∧ w_M_scope (F_part fu m) (W_part fu m) fu r1 va (va + 7) := fun w => by
    obtain ⟨u1, u2⟩ := K2 (F_part fu m) (W_part fu m) va (va + 7) (mskR r a) (nI (16 * e)) rfl em.symm w fu (by omega)
    unfold f_M_scope w_M_scope
    rw [n2, n3, i26, e16, en1, ← hr2, e30]
    exact ⟨u1, vp2, vp3, u2⟩
  -- from the result to the op
  have fin : ∀ (Qs : Int32 × St) (c' : St) (t' : Nat), f_M_scope (F_part fu m) fu r1 va (va + 7) = Qs → w_M_scope (F_part fu m) (W_part fu m) fu r1 va (va + 7) → PX G T φk nk d e (t + 4) ck q.2 Qs c' t' → (∀ y, RES fu c' t' y → RES fu ck (t + 1) y) → ∃ (q : Int32 × St) (a' : Nat) (va' : Int32), (q.1 = 0 → va'.toInt = (a' : Int) ∧ PV (sA r 30) k dd a' b ∧ a + 2 ≤ a') ∧ (∀ C y, RQ (F_part fu (m + 1)) (W_part fu (m + 1)) fu vb C q.2 q.1 va' y → ∀ g, C + 10 + 4 * fl r1 ≤ g → b_M_part_13 (F_part fu (m + 1)) fu (T_M_part_2 (F_part fu (m + 1)) fu g) r1 vb va (sA r 30 a) 0 = y ∧ v_M_part_13 (F_part fu (m + 1)) (W_part fu (m + 1)) fu (T_M_part_2 (F_part fu (m + 1)) fu g) (WT_M_part_2 (F_part fu (m + 1)) (W_part fu (m + 1)) fu g) r1 vb va (sA r 30 a) 0) ∧ w_En_beginOp_13 fu c1 (nI d) va (sA r 30 a) 1 ∧ ∃ c' t', PO G T φ n d e (t + 5) va' c1 r1 q c' t' ∧ ∀ y, RES fu c' t' y → RES fu (t_En_beginOp_13 fu c1 (nI d) va (sA r 30 a) 1) (t + 1) y := fun Qs c' t' eS wS hX hy' => by
    obtain ⟨φ', n', u', g1, g2, g3, g4, g5, g6, g7⟩ := hX
    have kq := g5.2.2.2.2.2.2.2.2.1
    have A30 : sA Qs.2 30 = sA r 30 := (g5.2.2.1 30 (by decide) (by decide) (by decide) (by decide) (by decide)).trans q30
    have flq : fl Qs.2 ≤ fl r1 := by unfold fl; omega
    rw [h32, t1, eC]
    refine ⟨Qs, a + 7 + lnA (sA r 30) (a + 4) + lnA (sA r 30) (a + 5) + lnA (sA r 30) (a + 6), va + 7 + sA r 30 (a + 4) + sA r 30 (a + 5) + sA r 30 (a + 6), fun _ => ⟨s6, hP, by omega⟩, fun C y hy g hg => ?_, t2 (fun z => absurd z (by decide)) (fun z => absurd z (by decide)) (fun _ => wC) (fun z => absurd z (by decide)) (fun _ _ z _ => absurd rfl z), c', t', ⟨φ', n', u', g1, K4.tr g2, g3, ec3.tr (q3.tr (K6.tr g4)), er2.tr (K7.tr g5), g6, fun z => ?_, fun z => ?_⟩, hy'⟩
    · obtain ⟨g, rfl⟩ : ∃ g', g = g' + 2 := ⟨g - 2, by omega⟩
      obtain ⟨u1, u2⟩ := hy g (by omega)
      have eS' : (F_part fu (m + 1)).2.2 r1 va (va + 7) = Qs := eS
      constructor
      · unfold b_M_part_13
        rw [show cn1 .eq (0 : Int32) = true from rfl, cond_true, show cn2 .ne (32 : Int32) 30 = true from rfl, cond_true, show cn2 .ne (32 : Int32) 31 = true from rfl, cond_true, show cn2 .ne (32 : Int32) 32 = false from rfl, cond_false, w7, eS']
        show b_M_part_129 (F_part fu (m + 1)) fu (T_M_part_2 (F_part fu (m + 1)) fu (g + 1)) Qs.2 vb va (va + 7) Qs.1 = _
        unfold b_M_part_129
        rw [n4, n5, n6, A30, sA7]
        exact u1
      · unfold v_M_part_13
        rw [show cn2 .ne (32 : Int32) 30 = true from rfl, show cn2 .ne (32 : Int32) 31 = true from rfl, show cn2 .ne (32 : Int32) 32 = false from rfl, w7, eS']
        refine ⟨fun _ => ⟨fun _ => ⟨fun _ => ⟨(fun q => nomatch q), fun _ => ⟨wS, ?_⟩⟩, (fun q => nomatch q)⟩, (fun q => nomatch q)⟩, (fun q => nomatch q)⟩
        show v_M_part_129 (F_part fu (m + 1)) (W_part fu (m + 1)) fu (T_M_part_2 (F_part fu (m + 1)) fu (g + 1)) (WT_M_part_2 (F_part fu (m + 1)) (W_part fu (m + 1)) fu (g + 1)) Qs.2 vb va (va + 7) Qs.1
        unfold v_M_part_129
        rw [n4, n5, n6, A30, sA7]
        exact ⟨vp4, vp5, vp6, u2⟩
    · obtain ⟨a1, a2, a3, a4, a5, a6⟩ := g7 z
      have lo : ∀ a' k, 13 ≤ a' → a' ≤ 18 → k ≤ d → sA c' a' k = sA c3 a' k := fun a' k x1 x2 hk => by rw [a3 a' k x1 x2 hk, K10 a' x1 x2, q8 a' k hk]
      have tl : ∀ k, k < 16 * (d + 1) → sT c' 19 k = sT c1 19 k ∧ sT c' 20 k = sT c1 20 k := fun k hk => by
        rw [(a4 k hk).1, (a4 k hk).2, (K8.2.2.2 k hk).1, (K8.2.2.2 k hk).2, q9, q9, T3, T3]
        exact ⟨rfl, rfl⟩
      refine ⟨⟨a1.trans ((I1 12).trans i1).symm, a2.trans (K8.2.1.trans (q5.trans (I3 13))), fun a' k x1 x2 hk => by rw [lo a' k x1 x2 (by omega), A3l a' k (by omega)], fun k hk => tl k (by omega)⟩, ⟨?_, a5.2.1.trans i26.symm, fun k hk => ?_⟩, ?_, ⟨by rw [lo 13 d (by decide) (by decide) (by omega), A3 13 (by decide)], by rw [lo 14 d (by decide) (by decide) (by omega), A3 14 (by decide)], fun k hk => by rw [lo k d (by omega) (by omega) (by omega), A3 k (by omega)]⟩, tl⟩
      · rw [a5.1, K9.1, Ir2 25 (by decide)]
      · rw [(a5.2.2 k hk).1, (a5.2.2 k hk).2, (K9.2.2 k hk).1, (K9.2.2 k hk).2, Ar2, Ar2]
        exact ⟨rfl, rfl⟩
      · omega
    · obtain ⟨a1, a2, a3, a4, a5, a6⟩ := g7 (Or.inl z)
      rw [a3 15 d (by decide) (by decide) (by omega), K10 15 (by decide) (by decide), q8 15 d (by omega)]
      exact x15
  by_cases st : q.1 = 0
  · have zk : SZ ck := SR.s0 (st ▸ K5)
    have hVk : CDV ck q.2 := hVp.mv K6 K7
    have emq : mskR q.2 a = mskR r a := by unfold mskR; rw [q30]
    obtain ⟨w1, w2, c', t', W, hy⟩ := bd_go (G := G) (T := T) (φ := φk) (n := nk) (u := uk) (fu := fu) (deep := deep) (dd := dd - 1) (d := d) (e := e) (a := a) (k := k) (t := t + 1) (c := ck) (r := q.2) (va := va) (l4 := lnA (sA r 30) (a + 4)) (l5 := lnA (sA r 30) (a + 5)) (l6 := lnA (sA r 30) (a + 6)) hfu hS ⟨K3, zk, hVk, ⟨K8.1.trans q4, K8.2.1.trans (q5.trans ((I3 13).trans ((I1 13).trans i2))), K9.1.trans ((Ir2 25 (by decide)).trans (i25.trans i3)), K9.2.1.trans (by rw [hr2]; rfl)⟩, ⟨x7, by rw [q30]; exact s4, by rw [K10 15 (by decide) (by decide)]; exact q7.2.2.1, by rw [K10 16 (by decide) (by decide), q30]; exact q7.2.2.2, by omega⟩, ⟨d1, d2, by omega, by omega, by omega⟩, by omega⟩ (by rw [q30]; exact L4) (by rw [q30]; exact L5) (by rw [q30]; exact L6) (by omega) (by rw [q30]; exact hP1) (by rw [q30]; exact hP2) (by rw [q30]; exact hP3) (by rw [K10 14 (by decide) (by decide)]; exact q7.2.1) (by rw [K10 13 (by decide) (by decide)]; exact q7.1) (by rw [emq, ← em]; exact K11 st) (by omega) d5 (by omega) j1
    rw [q30, emq] at w2 W
    rw [q30] at w1
    have e105 : t_M_scope_105 (F_part fu m) fu q.2 va (va + 7) (mskR r a) (nI (16 * e)) q.1 = t_M_scope_137 (F_part fu m) fu ((F_part fu m).1 q.2 (va + 7) (va + 7 + sA r 30 (a + 4))).2 va (mskR r a) (nI (16 * e)) (va + 7 + sA r 30 (a + 4)) (va + 7 + sA r 30 (a + 4) + sA r 30 (a + 5)) ((F_part fu m).1 q.2 (va + 7) (va + 7 + sA r 30 (a + 4))).1 := by
      unfold t_M_scope_105
      rw [st, show cn1 .eq (0 : Int32) = true from rfl, cond_true, n4, n5, q30]
    have w105 : w_M_scope_105 (F_part fu m) (W_part fu m) fu q.2 va (va + 7) (mskR r a) (nI (16 * e)) q.1 := by
      unfold w_M_scope_105
      rw [n4, n5, q30]
      exact ⟨fun _ => ⟨vp4, vp5, w1, w2⟩, fun _ => trivial⟩
    obtain ⟨u1, u2⟩ := rS w105
    exact fin _ c' t' (u1.trans e105) u2 W hy
  · have nq : cn1 .eq q.1 = false := by rw [c1_eq]; exact df (fun y => st (Int32.toInt_inj.mp (by rw [y]; rfl)))
    obtain ⟨rF, hrF⟩ : ∃ rF, rF = pI q.2 21 26 (sI q.2 21 26 - 1) := ⟨_, rfl⟩
    have e105 : t_M_scope_105 (F_part fu m) fu q.2 va (va + 7) (mskR r a) (nI (16 * e)) q.1 = (q.1, rF) := by
      unfold t_M_scope_105
      rw [nq, cond_false, hrF]
    have w105 : w_M_scope_105 (F_part fu m) (W_part fu m) fu q.2 va (va + 7) (mskR r a) (nI (16 * e)) q.1 := by
      unfold w_M_scope_105
      rw [nq]
      exact ⟨(fun z => nomatch z), fun _ => trivial⟩
    obtain ⟨u1, u2⟩ := rS w105
    have IF : ∀ k, k ≠ 26 → sI rF 21 k = sI q.2 21 k := fun k k3 => by rw [hrF, sI_pI, if_pos rfl, if_neg k3]
    exact fin _ ck (t + 1) (u1.trans e105) u2 ⟨φk, nk, uk, by rw [hrF]; exact K3.rI (k := 26) _ (Or.inr (Or.inr (by decide))), EX.rf _ _, K5.mv (fun _ => rfl) (IF 9 (by decide)) (IF 10 (by decide)), enC.rf _, by rw [hrF]; exact enR_I _ (Or.inr rfl) _, by omega, fun z => absurd z (fun y => y.elim st K12)⟩ (fun y hy => hy)
end SCP
