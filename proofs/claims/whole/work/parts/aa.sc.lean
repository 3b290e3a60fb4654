/-! A SCOPE -/
section SCN
variable {va x4 x5 x6 : Int32} {a l4 l5 l6 : Nat}
theorem sc_at (j1 : va.toInt = (a : Int)) (ha : a + 7 ≤ 3200) (i : Nat) (hi : i ≤ 6) {v : Int32} (hv : v.toInt = (i : Int)) : (va + v).toInt = ((a + i : Nat) : Int) ∧ (va + v).toNatClampNeg = a + i ∧ vp_in (va + v) 3200 := by
  have x : (va + v).toInt = ((a + i : Nat) : Int) := (i_addy j1 hv (by omega) (by omega)).trans (by omega)
  exact ⟨x, by rw [tn_eq, x]; omega, vp_of (by omega) (by omega)⟩
theorem sc_sum (j1 : va.toInt = (a : Int)) (hl : a + 7 + l4 + l5 + l6 ≤ 3200) (L4 : x4.toInt = (l4 : Int)) (L5 : x5.toInt = (l5 : Int)) (L6 : x6.toInt = (l6 : Int)) : (va + 7).toInt = ((a + 7 : Nat) : Int) ∧ (va + 7 + x4).toInt = ((a + 7 + l4 : Nat) : Int) ∧ (va + 7 + x4 + x5).toInt = ((a + 7 + l4 + l5 : Nat) : Int) ∧ (va + 7 + x4 + x5 + x6).toInt = ((a + 7 + l4 + l5 + l6 : Nat) : Int) ∧ va + 7 + (x4 + x5 + x6) = va + 7 + x4 + x5 + x6 := by
  have x7 : (va + 7).toInt = ((a + 7 : Nat) : Int) := (i_addy (y := 7) j1 (show ((7 : Int32).toInt) = 7 from rfl) (by omega) (by omega)).trans (by omega)
  have s4 : (va + 7 + x4).toInt = ((a + 7 + l4 : Nat) : Int) := (i_addy x7 L4 (by omega) (by omega)).trans (by omega)
  have s5 : (va + 7 + x4 + x5).toInt = ((a + 7 + l4 + l5 : Nat) : Int) := (i_addy s4 L5 (by omega) (by omega)).trans (by omega)
  have s6 : (va + 7 + x4 + x5 + x6).toInt = ((a + 7 + l4 + l5 + l6 : Nat) : Int) := (i_addy s5 L6 (by omega) (by omega)).trans (by omega)
  refine ⟨x7, s4, s5, s6, ?_⟩
  rw [← Int32.add_assoc (va + 7), ← Int32.add_assoc (va + 7)]
end SCN
section SCR
variable {rec : G_part} {wrec : GW_part} {C fu a e : Nat} {y Qs : Int32 × St} {r1 r2 : St} {va va' vb : Int32}
/-- the reference, when the scope has answered -/
theorem sc_ref (hS : rec.2.2 r1 va (va + 7) = Qs) (wS : wrec.2.2 r1 va (va + 7)) (n4 : (va + 4).toNatClampNeg = a + 4) (n5 : (va + 5).toNatClampNeg = a + 5) (n6 : (va + 6).toNatClampNeg = a + 6) (vp4 : vp_in (va + 4) 3200) (vp5 : vp_in (va + 5) 3200) (vp6 : vp_in (va + 6) 3200) (hva : va + 7 + (sA Qs.2 30 (a + 4) + sA Qs.2 30 (a + 5) + sA Qs.2 30 (a + 6)) = va') (hfl : fl Qs.2 ≤ fl r1) (hy : RQ rec wrec fu vb C Qs.2 Qs.1 va' y) (g : Nat) (hg : C + 10 + 4 * fl r1 ≤ g) : b_M_part_13 rec fu (T_M_part_2 rec fu g) r1 vb va 32 0 = y ∧ v_M_part_13 rec wrec fu (T_M_part_2 rec fu g) (WT_M_part_2 rec wrec fu g) r1 vb va 32 0 := by
  have w7 : f_M_wholeOf 32 = 7 := by decide +kernel
  obtain ⟨g, rfl⟩ : ∃ g', g = g' + 2 := ⟨g - 2, by omega⟩
  obtain ⟨u1, u2⟩ := hy g (by omega)
  constructor
  · unfold b_M_part_13
    rw [show cn1 .eq (0 : Int32) = true from rfl, cond_true, show cn2 .ne (32 : Int32) 30 = true from rfl, cond_true, show cn2 .ne (32 : Int32) 31 = true from rfl, cond_true, show cn2 .ne (32 : Int32) 32 = false from rfl, cond_false, w7, hS]
    show b_M_part_129 rec fu (T_M_part_2 rec fu (g + 1)) Qs.2 vb va (va + 7) Qs.1 = _
    unfold b_M_part_129
    rw [n4, n5, n6, hva]
    show b_M_part_153 rec fu (T_M_part_2 rec fu g) Qs.2 vb Qs.1 va' = _
    unfold b_M_part_153
    exact u1
  · unfold v_M_part_13
    rw [show cn2 .ne (32 : Int32) 30 = true from rfl, show cn2 .ne (32 : Int32) 31 = true from rfl, show cn2 .ne (32 : Int32) 32 = false from rfl, w7, hS]
    refine ⟨fun _ => ⟨fun _ => ⟨fun _ => ⟨(fun q => nomatch q), fun _ => ⟨wS, ?_⟩⟩, (fun q => nomatch q)⟩, (fun q => nomatch q)⟩, (fun q => nomatch q)⟩
    show v_M_part_129 rec wrec fu (T_M_part_2 rec fu (g + 1)) (WT_M_part_2 rec wrec fu (g + 1)) Qs.2 vb va (va + 7) Qs.1
    unfold v_M_part_129
    rw [n4, n5, n6, hva]
    refine ⟨vp4, vp5, vp6, ?_⟩
    show v_M_part_153 rec wrec fu (T_M_part_2 rec fu g) (WT_M_part_2 rec wrec fu g) Qs.2 vb Qs.1 va'
    unfold v_M_part_153
    exact u2
/-- the reference's scope, from its loop -/
theorem sc_rf (hfu : 100 ≤ fu) (n2 : (va + 2).toNatClampNeg = a + 2) (n3 : (va + 3).toNatClampNeg = a + 3) (vp2 : vp_in (va + 2) 3200) (vp3 : vp_in (va + 3) 3200) (i26 : sI r1 21 26 = nI e) (hr2 : r2 = pI r1 21 26 (nI (e + 1))) (K : RM rec wrec fu va (va + 7) (mskR r1 a) (nI (16 * e)) 0 r2 0 y) : f_M_scope rec fu r1 va (va + 7) = y ∧ w_M_scope rec wrec fu r1 va (va + 7) := by
  have e16 : (16 : Int32) * nI e = nI (16 * e) := by rw [show (16 : Int32) = nI 16 from rfl, show nI 16 * nI e = nI (16 * e) from (Int32.ofNat_mul 16 e).symm]
  have en1 : nI e + 1 = nI (e + 1) := (Int32.ofNat_add e 1).symm
  have em : (sA r1 30 (a + 2) ||| (sA r1 30 (a + 3) <<< (8 &&& 31))) = mskR r1 a := rfl
  obtain ⟨u1, u2⟩ := K fu (by omega)
  have z0 : nI 0 = 0 := rfl
  rw [z0] at u1 u2
  unfold f_M_scope w_M_scope
  rw [n2, n3, i26, e16, en1, ← hr2, em]
  exact ⟨u1, vp2, vp3, u2⟩
end SCR
section SCC
variable {G : AH} {T : Nat} {fu d a : Nat} {c2 c3 cp ck r : St} {va x4 x5 x6 : Int32}
/-- the class's beginning of a scope -/
theorem sc_cl (hfu : 100 ≤ fu) (hd : d ≤ 131) (hV2 : ∀ k, sA r 30 k = sA c2 6 k &&& 255) (hV3 : ∀ k, sA r 30 k = sA c3 6 k &&& 255) (ha : a + 7 ≤ 3200) (X4 : (va + 4).toInt = ((a + 4 : Nat) : Int)) (X5 : (va + 5).toInt = ((a + 5 : Nat) : Int)) (X6 : (va + 6).toInt = ((a + 6 : Nat) : Int)) (e4 : sA r 30 (a + 4) = x4) (e5 : sA r 30 (a + 5) = x5) (e6 : sA r 30 (a + 6) = x6) (hc3 : c3 = pA c2 15 (upd (sA c2 15) d (va + 7 + x4 + x5 + x6))) (wp : w_En_push c3 3 va (va + 7) x4) (q1 : f_En_push c3 3 va (va + 7) x4 = cp) (q4 : sI cp 12 12 = nI (d + 2)) (K1 : RK fu (d + 1) cp 0 ck) : f_En_beginScope fu c2 (nI d) va (va + 7) = ck ∧ w_En_beginScope fu c2 (nI d) va (va + 7) := by
  have ed : (nI d).toNatClampNeg = d := nN (by omega)
  have vd : vp_in (nI d) 132 := vp_of (by rw [yI_i (by omega)]; omega) (by rw [yI_i (by omega)]; omega)
  obtain ⟨y4, z4⟩ := be_C hV2 X4 (by omega)
  obtain ⟨y5, z5⟩ := be_C hV2 X5 (by omega)
  obtain ⟨y6, z6⟩ := be_C hV2 X6 (by omega)
  obtain ⟨y4', z4'⟩ := be_C hV3 X4 (by omega)
  rw [e4] at y4 y4'
  rw [e5] at y5
  rw [e6] at y6
  have z0 : nI 0 = 0 := rfl
  obtain ⟨K1a, K1b⟩ := K1 fu (by omega)
  rw [z0] at K1a K1b
  have ep : nI (d + 2) - 1 = nI (d + 1) := nI_p (d + 1)
  constructor
  · unfold f_En_beginScope
    rw [y4, y5, y6, ed, ← hc3]
    unfold t_En_beginScope_23
    rw [y4', q1]
    unfold t_En_beginScope_33
    rw [q4, ep]
    unfold f_En_keepSlots
    exact K1a
  · unfold w_En_beginScope
    rw [y4, y5, y6, ed, ← hc3]
    refine ⟨z4, z5, z6, vd, ?_⟩
    unfold w_En_beginScope_23
    rw [y4', q1]
    refine ⟨z4', wp, ?_⟩
    unfold w_En_beginScope_33
    rw [q4, ep]
    unfold w_En_keepSlots
    exact ⟨K1b, trivial⟩
end SCC
section SCP
variable {G : AH} {T : Nat} {φ φk : Nat → Nat} {n nk u uk fu deep dd d e a b k t t' m : Nat} {c r c1 r1 c3 cp ck c' : St} {va vb x : Int32} {q Qs : Int32 × St}
/-- from where the scope ended to where the op ends -/
theorem sc_po (hd : d ≤ 131) (i12 : sI c1 12 12 = nI (d + 1)) (A3 : ∀ k, k ≠ 15 → sA c3 k = sA c1 k) (A3l : ∀ a' k, k ≠ d → sA c3 a' k = sA c1 a' k) (T3 : ∀ k, sT c3 k = sT c1 k) (I3 : sI c3 12 13 = sI c1 12 13) (x15 : sA c3 15 d = x) (ec3 : enC c1 c3) (q3 : enC c3 cp) (q5 : sI cp 12 13 = sI c3 12 13) (q8 : ∀ a k, k ≤ d → sA cp a k = sA c3 a k) (q9 : ∀ a, sT cp a = sT c3 a) (K4 : EX φ n φk nk) (K6 : enC cp ck) (er : enR r1 q.2) (K8 : stC (d + 1) cp ck) (R25 : sI q.2 21 25 = sI r1 21 25) (R26 : sI r1 21 26 = nI e) (R34 : ∀ k, k < 16 * e → sA q.2 34 k = sA r1 34 k ∧ sA q.2 35 k = sA r1 35 k) (R11 : (sI q.2 21 11).toInt ≤ (sI r1 21 11).toInt) (K10 : ∀ k, 13 ≤ k → k ≤ 18 → sA ck k = sA cp k) (hX : PX G T φk nk d e (t + 4) ck q.2 Qs c' t') : PO G T φ n d e (t + 5) x c1 r1 Qs c' t' := by
  obtain ⟨φ', n', u', g1, g2, g3, g4, g5, g6, g7⟩ := hX
  refine ⟨φ', n', u', g1, K4.tr g2, g3, ec3.tr (q3.tr (K6.tr g4)), er.tr g5, g6, fun z => ?_, fun z => ?_⟩
  · obtain ⟨a1, a2, a3, a4, a5, a6⟩ := g7 z
    have lo : ∀ a' k, 13 ≤ a' → a' ≤ 18 → k ≤ d → sA c' a' k = sA c3 a' k := fun a' k x1 x2 hk => by rw [a3 a' k x1 x2 hk, K10 a' x1 x2, q8 a' k hk]
    have tl : ∀ k, k < 16 * (d + 1) → sT c' 19 k = sT c1 19 k ∧ sT c' 20 k = sT c1 20 k := fun k hk => by
      rw [(a4 k hk).1, (a4 k hk).2, (K8.2.2.2 k hk).1, (K8.2.2.2 k hk).2, q9, q9, T3, T3]
      exact ⟨rfl, rfl⟩
    refine ⟨⟨a1.trans i12.symm, a2.trans (K8.2.1.trans (q5.trans I3)), fun a' k x1 x2 hk => by rw [lo a' k x1 x2 (by omega), A3l a' k (by omega)], fun k hk => tl k (by omega)⟩, ⟨a5.1.trans R25, a5.2.1.trans R26.symm, fun k hk => ⟨(a5.2.2 k hk).1.trans (R34 k hk).1, (a5.2.2 k hk).2.trans (R34 k hk).2⟩⟩, by omega, ⟨by rw [lo 13 d (by decide) (by decide) (by omega), A3 13 (by decide)], by rw [lo 14 d (by decide) (by decide) (by omega), A3 14 (by decide)], fun k hk => by rw [lo k d (by omega) (by omega) (by omega), A3 k (by omega)]⟩, tl⟩
  · obtain ⟨a1, a2, a3, a4, a5, a6⟩ := g7 (Or.inl z)
    rw [a3 15 d (by decide) (by decide) (by omega), K10 15 (by decide) (by decide), q8 15 d (by omega)]
    exact x15
/-- what stands when the slots are kept -/
def SCK (G : AH) (T : Nat) (φ : Nat → Nat) (n fu d e a : Nat) (va : Int32) (c1 r1 : St) : Prop := ∃ (ck : St) (q : Int32 × St) (φk : Nat → Nat) (nk uk : Nat), (f_En_beginScope fu c1 (nI d) va (va + 7) = ck ∧ w_En_beginScope fu c1 (nI d) va (va + 7)) ∧ 
   (∀ (rec : G_part) (wrec : GW_part), w_M_scope_105 rec wrec fu q.2 va (va + 7) (mskR r1 a) (nI (16 * e)) q.1 → f_M_scope rec fu r1 va (va + 7) = t_M_scope_105 rec fu q.2 va (va + 7) (mskR r1 a) (nI (16 * e)) q.1 ∧ w_M_scope rec wrec fu r1 va (va + 7)) ∧ RR G T φk nk uk ck q.2 ∧ SR q.1 ck q.2 ∧ CDV ck q.2 ∧ sA q.2 30 = sA r1 30 ∧ (sI q.2 21 11).toInt ≤ (sI r1 21 11).toInt ∧
   (sI ck 12 12 = nI (d + 2) ∧ sI ck 12 13 = sI c1 12 13 ∧ sI q.2 21 25 = sI r1 21 25 ∧ sI q.2 21 26 = nI (e + 1)) ∧ (sA ck 13 (d + 1) = 3 ∧ sA ck 14 (d + 1) = va ∧ sA ck 15 (d + 1) = va + 7 ∧ sA ck 16 (d + 1) = va + 7 + sA r1 30 (a + 4)) ∧ (q.1 = 0 → SV φk nk (d + 1) e (mskR r1 a) 16 ck q.2) ∧ ¬ q.1 = 1 ∧
   ∀ (t : Nat) (Qs : Int32 × St) (c' : St) (t' : Nat), PX G T φk nk d e (t + 4) ck q.2 Qs c' t' → PO G T φ n d e (t + 5) (va + 7 + sA r1 30 (a + 4) + sA r1 30 (a + 5) + sA r1 30 (a + 6)) c1 r1 Qs c' t'
theorem sc_keep (hfu : 10000000 ≤ fu) (h : RR G T φ n u c1 r1) (hz : SZ c1) (hV : CDV c1 r1) (i12 : sI c1 12 12 = nI (d + 1)) (i26 : sI r1 21 26 = nI e) (j1 : va.toInt = (a : Int)) (ha : a + 7 ≤ 3200) (hd : d + 1 ≤ 131) (he : e ≤ d) : SCK G T φ n fu d e a va c1 r1 := by
  obtain ⟨x2, n2, vp2⟩ := sc_at j1 ha 2 (by omega) (v := 2) rfl
  obtain ⟨x3, n3, vp3⟩ := sc_at j1 ha 3 (by omega) (v := 3) rfl
  obtain ⟨x4, -, -⟩ := sc_at j1 ha 4 (by omega) (v := 4) rfl
  obtain ⟨x5, -, -⟩ := sc_at j1 ha 5 (by omega) (v := 5) rfl
  obtain ⟨x6, -, -⟩ := sc_at j1 ha 6 (by omega) (v := 6) rfl
  obtain ⟨c3, hc3⟩ : ∃ c3, c3 = pA c1 15 (upd (sA c1 15) d (va + 7 + sA r1 30 (a + 4) + sA r1 30 (a + 5) + sA r1 30 (a + 6))) := ⟨_, rfl⟩
  have ec3 : enC c1 c3 := by rw [hc3]; exact enC_A _ (by decide) _
  have h3 : RR G T φ n u c3 r1 := by rw [hc3]; exact h.cA (a := 15) (by decide) _
  have hz3 : SZ c3 := by rw [hc3]; exact hz
  have hV3 : CDV c3 r1 := hV.mv ec3 (opR.rf r1).en
  have A3 : ∀ k, k ≠ 15 → sA c3 k = sA c1 k := fun k hk => by rw [hc3, sA_pA, if_neg hk]
  have A3l : ∀ a' k, k ≠ d → sA c3 a' k = sA c1 a' k := fun a' k hk => by
    by_cases e : a' = 15
    · rw [e, hc3, sA_pA, if_pos rfl, upN _ _ hk]
    · rw [A3 a' e]
  have T3 : ∀ k, sT c3 k = sT c1 k := fun k => by rw [hc3]; rfl
  have I3 : ∀ k, sI c3 12 k = sI c1 12 k := fun k => by rw [hc3]; rfl
  have x15 : sA c3 15 d = va + 7 + sA r1 30 (a + 4) + sA r1 30 (a + 5) + sA r1 30 (a + 6) := by rw [hc3]; exact upS _ _ _
  obtain ⟨wp, cp, q1, q2, q3, q4, q5, q6, q7, q8, q9, q10⟩ := psh (G := G) (T := T) (c := c3) (d := d) hd ((I3 12).trans i12) 3 va (va + 7) (sA r1 30 (a + 4))
  obtain ⟨r2, hr2⟩ : ∃ r2, r2 = pI r1 21 26 (nI (e + 1)) := ⟨_, rfl⟩
  have er2 : enR r1 r2 := by rw [hr2]; exact enR_I _ (Or.inr rfl) _
  have Ar2 : ∀ k, sA r2 k = sA r1 k := fun k => by rw [hr2]; rfl
  have Ir2 : ∀ k, k ≠ 26 → sI r2 21 k = sI r1 21 k := fun k hk => by rw [hr2, sI_pI, if_pos rfl, if_neg hk]
  have hRp : RR G T φ n u cp r2 := by rw [hr2]; exact (q2 h3).rI (k := 26) _ (Or.inr (Or.inr (by decide)))
  have zp : SZ cp := ⟨(q6 3).trans hz3.1, (q6 4).trans hz3.2.1, (q6 5).trans hz3.2.2⟩
  have hVp : CDV cp r2 := hV3.mv q3 er2
  obtain ⟨ck, q, φk, nk, uk, K1, K2, K3, K4, K5, K6, K7, K8, K9, K10, K11, K12⟩ := ks_go (G := G) (T := T) (fu := fu) (d := d + 1) (e := e) (r := r2) (m := mskR r2 a) (o := a) (by omega) (by omega) (by omega) (by omega) rfl 16 0 cp r2 φ n u (by omega) hRp zp hVp.1 rfl (by rw [q7.2.1]; exact j1) (fun i hi => absurd hi (by omega))
  have em : mskR r1 a = mskR r2 a := by unfold mskR; rw [Ar2]
  have kf := K7.2.2.2.2.2.2.2.2.1
  have f11 : (sI r2 21 11).toInt = (sI r1 21 11).toInt := by rw [Ir2 11 (by decide)]
  have q30 : sA q.2 30 = sA r1 30 := (K7.2.2.1 30 (by decide) (by decide) (by decide) (by decide) (by decide)).trans (Ar2 30)
  have R25 : sI q.2 21 25 = sI r1 21 25 := K9.1.trans (Ir2 25 (by decide))
  have R11 : (sI q.2 21 11).toInt ≤ (sI r1 21 11).toInt := by rw [← f11]; exact kf
  refine ⟨ck, q, φk, nk, uk, sc_cl (by omega) (by omega) hV.1 hV3.1 ha x4 x5 x6 rfl rfl rfl hc3 wp q1 q4 K1, fun rec wrec w => ?_, K3, K5, hVp.mv K6 K7, q30, R11, ⟨K8.1.trans q4, K8.2.1.trans (q5.trans (I3 13)), R25, K9.2.1.trans (by rw [hr2]; rfl)⟩, ⟨by rw [K10 13 (by decide) (by decide)]; exact q7.1, by rw [K10 14 (by decide) (by decide)]; exact q7.2.1, by rw [K10 15 (by decide) (by decide)]; exact q7.2.2.1, by rw [K10 16 (by decide) (by decide)]; exact q7.2.2.2⟩, fun z => by rw [em]; exact K11 z, K12, fun t Qs c' t' hX => ?_⟩
  · exact sc_rf (by omega) n2 n3 vp2 vp3 i26 hr2 (K2 rec wrec va (va + 7) (mskR r1 a) (nI (16 * e)) rfl em w)
  · exact sc_po (by omega) i12 A3 A3l T3 (I3 13) x15 ec3 q3 q5 q8 q9 K4 K6 (er2.tr K7) K8 R25 i26 (fun k hk => ⟨((K9.2.2 k hk).1).trans (by rw [Ar2]), ((K9.2.2 k hk).2).trans (by rw [Ar2])⟩) R11 K10 hX
/-- the scope itself, on both sides -/
def SCQ (G : AH) (T : Nat) (φ : Nat → Nat) (n fu d e a t m : Nat) (va : Int32) (c1 r1 : St) : Prop := ∃ (Qs : Int32 × St) (c' : St) (t' : Nat), f_M_scope (F_part fu m) fu r1 va (va + 7) = Qs ∧ w_M_scope (F_part fu m) (W_part fu m) fu r1 va (va + 7) ∧ w_En_beginScope fu c1 (nI d) va (va + 7) ∧ sA Qs.2 30 = sA r1 30 ∧ fl Qs.2 ≤ fl r1 ∧ PO G T φ n d e (t + 5) (va + 7 + sA r1 30 (a + 4) + sA r1 30 (a + 5) + sA r1 30 (a + 6)) c1 r1 Qs c' t' ∧ ∀ y, RES fu c' t' y → RES fu (f_En_beginScope fu c1 (nI d) va (va + 7)) (t + 1) y
theorem sc_run (hfu : 10000000 ≤ fu) (hS : SP G T fu m) {l4 l5 l6 : Nat} (hK : SCK G T φ n fu d e a va c1 r1) (j1 : va.toInt = (a : Int)) (i13 : sI c1 12 13 = nI deep) (i25 : sI r1 21 25 = nI deep) (hl : a + 7 + l4 + l5 + l6 ≤ 3200) (L4 : (sA r1 30 (a + 4)).toInt = (l4 : Int)) (L5 : (sA r1 30 (a + 5)).toInt = (l5 : Int)) (L6 : (sA r1 30 (a + 6)).toInt = (l6 : Int)) (hP1 : PV (sA r1 30) k dd (a + 7) (a + 7 + l4)) (hP2 : PV (sA r1 30) k dd (a + 7 + l4) (a + 7 + l4 + l5)) (hP3 : PV (sA r1 30) k dd (a + 7 + l4 + l5) (a + 7 + l4 + l5 + l6)) (d1 : 1 ≤ deep) (d2 : deep ≤ 12) (d3 : dd ≤ 10) (d4 : d + dd + 2 ≤ 11 * deep) (d5 : e ≤ d) (ht : (t : Int) + 5 * (sI r1 21 11).toInt ≤ 100095) (ht2 : t ≤ 140000) (f1 : 0 ≤ (sI r1 21 11).toInt) (hm : 22 * (12 - deep) + 2 * dd + 2 ≤ m) : SCQ G T φ n fu d e a t m va c1 r1 := by
  obtain ⟨ck, q, φk, nk, uk, ⟨eC, wC⟩, rS, K3, K5, hVk, q30, R11, ⟨k1, k2, k3, k4⟩, ⟨p1, p2, p3, p4⟩, ksv, kn1, fin⟩ := hK
  have emq : mskR q.2 a = mskR r1 a := by unfold mskR; rw [q30]
  have don : ∀ (Qs : Int32 × St) (c' : St) (t' : Nat), f_M_scope (F_part fu m) fu r1 va (va + 7) = Qs → w_M_scope (F_part fu m) (W_part fu m) fu r1 va (va + 7) → PX G T φk nk d e (t + 4) ck q.2 Qs c' t' → (∀ y, RES fu c' t' y → RES fu ck (t + 1) y) → SCQ G T φ n fu d e a t m va c1 r1 := fun Qs c' t' eS wS hX hy => by
    have P := fin t Qs c' t' hX
    obtain ⟨φ', n', u', g1, g2, g3, g4, g5, -⟩ := hX
    have kq := g5.2.2.2.2.2.2.2.2.1
    refine ⟨Qs, c', t', eS, wS, wC, (g5.2.2.1 30 (by decide) (by decide) (by decide) (by decide) (by decide)).trans q30, ?_, P, ?_⟩
    · unfold fl
      clear P fin rS
      omega
    · rw [eC]; exact hy
  by_cases st : q.1 = 0
  · obtain ⟨x7, s4, -, -, -⟩ := sc_sum (va := va) j1 hl L4 L5 L6
    obtain ⟨-, n4, vp4⟩ := sc_at j1 (by omega) 4 (by omega) (v := 4) rfl
    obtain ⟨-, n5, vp5⟩ := sc_at j1 (by omega) 5 (by omega) (v := 5) rfl
    have zk : SZ ck := SR.s0 (st ▸ K5)
    have ksv0 := ksv st
    have H : HYP G T φk nk uk deep dd (d + 1) (e + 1) (a + 7) (a + 7 + l4) (t + 1) (va + 7) (va + 7 + sA q.2 30 (a + 4)) ck q.2 := by
      rw [q30]
      refine ⟨K3, zk, hVk, ⟨k1, k2.trans i13, k3.trans i25, k4⟩, ⟨x7, s4, p3, p4, ?_⟩, ⟨d1, d2, d3, ?_, ?_⟩, ?_⟩
      · clear fin rS don; omega
      · clear fin rS don; omega
      · clear fin rS don; omega
      · clear fin rS don; omega
    obtain ⟨w1, w2, c', t', W, hy⟩ := bd_go (a := a) (d := d) (e := e) (va := va) hfu hS H (by rw [q30]; exact L4) (by rw [q30]; exact L5) (by rw [q30]; exact L6) hl (by rw [q30]; exact hP1) (by rw [q30]; exact hP2) (by rw [q30]; exact hP3) p2 p1 (by rw [emq]; exact ksv0) (by clear fin rS don; omega) d5 hm j1
    rw [q30, emq] at w2 W
    rw [q30] at w1
    have e105 : t_M_scope_105 (F_part fu m) fu q.2 va (va + 7) (mskR r1 a) (nI (16 * e)) q.1 = t_M_scope_137 (F_part fu m) fu ((F_part fu m).1 q.2 (va + 7) (va + 7 + sA r1 30 (a + 4))).2 va (mskR r1 a) (nI (16 * e)) (va + 7 + sA r1 30 (a + 4)) (va + 7 + sA r1 30 (a + 4) + sA r1 30 (a + 5)) ((F_part fu m).1 q.2 (va + 7) (va + 7 + sA r1 30 (a + 4))).1 := by
      unfold t_M_scope_105
      rw [st, show cn1 .eq (0 : Int32) = true from rfl, cond_true, n4, n5, q30]
    have w105 : w_M_scope_105 (F_part fu m) (W_part fu m) fu q.2 va (va + 7) (mskR r1 a) (nI (16 * e)) q.1 := by
      unfold w_M_scope_105
      rw [n4, n5, q30]
      exact ⟨fun _ => ⟨vp4, vp5, w1, w2⟩, fun _ => trivial⟩
    obtain ⟨u1, u2⟩ := rS _ _ w105
    exact don _ c' t' (u1.trans e105) u2 W hy
  · have nq : cn1 .eq q.1 = false := by rw [c1_eq]; exact df (fun y => st (Int32.toInt_inj.mp (by rw [y]; rfl)))
    obtain ⟨rF, hrF⟩ : ∃ rF, rF = pI q.2 21 26 (sI q.2 21 26 - 1) := ⟨_, rfl⟩
    have e105 : t_M_scope_105 (F_part fu m) fu q.2 va (va + 7) (mskR r1 a) (nI (16 * e)) q.1 = (q.1, rF) := by
      unfold t_M_scope_105
      rw [nq, cond_false, hrF]
    have w105 : w_M_scope_105 (F_part fu m) (W_part fu m) fu q.2 va (va + 7) (mskR r1 a) (nI (16 * e)) q.1 := by
      unfold w_M_scope_105
      rw [nq]
      exact ⟨(fun z => nomatch z), fun _ => trivial⟩
    obtain ⟨u1, u2⟩ := rS _ _ w105
    have IF : ∀ k, k ≠ 26 → sI rF 21 k = sI q.2 21 k := fun k k3 => by rw [hrF, sI_pI, if_pos rfl, if_neg k3]
    refine don (q.1, rF) ck (t + 1) (u1.trans e105) u2 ⟨φk, nk, uk, by rw [hrF]; exact K3.rI (k := 26) _ (Or.inr (Or.inr (by decide))), EX.rf _ _, K5.mv (fun _ => rfl) (IF 9 (by decide)) (IF 10 (by decide)), enC.rf _, by rw [hrF]; exact enR_I _ (Or.inr rfl) _, ?_, fun z => absurd z (fun y => y.elim st kn1)⟩ (fun y hy => hy)
    clear fin rS don
    omega
theorem ops_sc (hfu : 10000000 ≤ fu) (hS : SP G T fu m) (hH : HYP G T φ n u deep dd d e a b t va vb c r) (hab : a < b) (hO : OVA (sA r 30) a) (h32 : sA r 30 a = 32) (hdd : 1 ≤ dd) (hP1 : PV (sA r 30) k (dd - 1) (a + 7) (a + 7 + lnA (sA r 30) (a + 4))) (hP2 : PV (sA r 30) k (dd - 1) (a + 7 + lnA (sA r 30) (a + 4)) (a + 7 + lnA (sA r 30) (a + 4) + lnA (sA r 30) (a + 5))) (hP3 : PV (sA r 30) k (dd - 1) (a + 7 + lnA (sA r 30) (a + 4) + lnA (sA r 30) (a + 5)) (a + 7 + lnA (sA r 30) (a + 4) + lnA (sA r 30) (a + 5) + lnA (sA r 30) (a + 6))) (hP : PV (sA r 30) k dd (a + 7 + lnA (sA r 30) (a + 4) + lnA (sA r 30) (a + 5) + lnA (sA r 30) (a + 6)) b) (hm : 22 * (12 - deep) + 2 * dd ≤ m) : OPS G T fu (m + 1) φ n d e k dd a b t vb va c r := by
  have hH0 := hH
  obtain ⟨h, hz, hV, ⟨i1, i2, i3, i4⟩, ⟨j1, j2, j3, j4, j5⟩, ⟨d1, d2, d3, d4, d5⟩, ht⟩ := hH
  have f0 := h.2.2.1.2
  have le := hP.le
  have w7 : f_M_wholeOf 32 = 7 := by decide +kernel
  have hb0 : ∀ i, (sA r 30 i).toInt = (lnA (sA r 30) i : Int) := fun i => by
    have := b255 (sA c 6 i)
    rw [← hV.1 i] at this
    unfold lnA
    omega
  obtain ⟨l4, hl4⟩ : ∃ l, l = lnA (sA r 30) (a + 4) := ⟨_, rfl⟩
  obtain ⟨l5, hl5⟩ : ∃ l, l = lnA (sA r 30) (a + 5) := ⟨_, rfl⟩
  obtain ⟨l6, hl6⟩ : ∃ l, l = lnA (sA r 30) (a + 6) := ⟨_, rfl⟩
  have L4 := hb0 (a + 4)
  have L5 := hb0 (a + 5)
  have L6 := hb0 (a + 6)
  rw [← hl4] at L4 hP1 hP2 hP3 hP le
  rw [← hl5] at L5 hP2 hP3 hP le
  rw [← hl6] at L6 hP3 hP le
  clear hl4 hl5 hl6 hb0
  refine bo hH0 hab (by rw [h32]; decide) (by rw [h32]; decide) (fun c1 r1 h1 hz1 wc wr hf => ?_)
  have e30 : sA r1 30 = sA r 30 := by rw [wr.2.2.1]
  obtain ⟨c2, hc2⟩ : ∃ c2, c2 = pA c1 15 (upd (sA c1 15) d (va + f_M_wholeOf 32)) := ⟨_, rfl⟩
  obtain ⟨t1, t2⟩ := t13 (fu := fu) (show d ≤ 131 by omega) (op := 32) (by decide) (by decide) hc2
  rw [if_neg (by decide), if_neg (by decide), if_pos rfl] at t1
  rw [w7] at t1 t2 hc2
  have ec : enC c1 c2 := by rw [hc2]; exact enC_A _ (by decide) _
  have B2 : ∀ k, k ≠ 15 → sA c2 k = sA c1 k := fun k hk => by rw [hc2, sA_pA, if_neg hk]
  have sc : stC d c1 c2 := by
    rw [hc2]
    refine ⟨rfl, rfl, fun a' k x1 x2 hk => ?_, fun k _ => ⟨rfl, rfl⟩⟩
    rw [sA_pA]
    by_cases e : a' = 15
    · rw [if_pos e, upN _ _ (by omega), e]
    · rw [if_neg e]
  have h2 : RR G T φ n u c2 r1 := by rw [hc2]; exact h1.cA (a := 15) (by decide) _
  have hz2 : SZ c2 := by rw [hc2]; exact hz1
  have hV2 : CDV c2 r1 := hV.mv (wc.op.en.tr ec) wr.op.en
  have I2 : ∀ k, sI c2 12 k = sI c 12 k := fun k => by
    rw [hc2]
    exact wc.1 12 k (by decide)
  have i25 : sI r1 21 25 = sI r 21 25 := wr.1 21 25 (fun _ => by decide)
  have i26 : sI r1 21 26 = nI e := (wr.1 21 26 (fun _ => by decide)).trans i4
  have f1 := h1.2.2.1.2
  have hK := sc_keep hfu h2 hz2 hV2 ((I2 12).trans i1) i26 j1 (by omega) (by omega) d5
  obtain ⟨Qs, c', t', eS, wS, wC, A30, flq, P, hy'⟩ := sc_run (l4 := l4) (l5 := l5) (l6 := l6) (k := k) (dd := dd - 1) (t := t) hfu hS hK j1 ((I2 13).trans i2) (i25.trans i3) (by omega) (by rw [e30]; exact L4) (by rw [e30]; exact L5) (by rw [e30]; exact L6) (by rw [e30]; exact hP1) (by rw [e30]; exact hP2) (by rw [e30]; exact hP3) d1 d2 (by omega) (by omega) d5 (by omega) (by omega) (by omega) (by omega)
  obtain ⟨-, -, -, s6, sA7⟩ := sc_sum (va := va) j1 (show a + 7 + l4 + l5 + l6 ≤ 3200 by omega) L4 L5 L6
  obtain ⟨-, n4, vp4⟩ := sc_at j1 (by omega) 4 (by omega) (v := 4) rfl
  obtain ⟨-, n5, vp5⟩ := sc_at j1 (by omega) 5 (by omega) (v := 5) rfl
  obtain ⟨-, n6, vp6⟩ := sc_at j1 (by omega) 6 (by omega) (v := 6) rfl
  rw [e30] at A30 P
  rw [h32, t1]
  refine ⟨Qs, a + 7 + l4 + l5 + l6, va + 7 + sA r 30 (a + 4) + sA r 30 (a + 5) + sA r 30 (a + 6), fun _ => ⟨s6, hP, by omega⟩, fun C y hy g hg => ?_, t2 (fun z => absurd z (by decide)) (fun z => absurd z (by decide)) (fun _ => wC) (fun z => absurd z (by decide)) (fun _ _ z _ => absurd rfl z), c', t', ?_, hy'⟩
  · exact sc_ref (rec := F_part fu (m + 1)) (wrec := W_part fu (m + 1)) (Qs := Qs) (a := a) eS wS n4 n5 n6 vp4 vp5 vp6 (by rw [A30]; exact sA7) flq hy g hg
  · exact PO.tr (t1 := t + 5) (EX.rf φ n) ec (opR.rf r1).en sc (stR.rf e r1) (Int.le_refl _) ⟨by rw [B2 13 (by decide)], by rw [B2 14 (by decide)], fun k hk => by rw [B2 k (by omega)]⟩ (fun k _ => ⟨by rw [hc2]; rfl, by rw [hc2]; rfl⟩) P
end SCP
