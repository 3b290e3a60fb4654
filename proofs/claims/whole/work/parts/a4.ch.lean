/-! A FRAME AND BACK; CHOICE -/
/-- what is left when frame d + 1 is gone -/
def PW (G : AH) (T : Nat) (φ : Nat → Nat) (n d e t : Nat) (c r : St) (q : Int32 × St) (c' : St) (t' : Nat) : Prop := ∃ φ' n' u', RR G T φ' n' u' c' q.2 ∧ EX φ n φ' n' ∧ SR q.1 c' q.2 ∧ enC c c' ∧ enR r q.2 ∧ t' ≤ 150000 ∧ (q.1 = 0 ∨ q.1 = 1 → sI c' 12 12 = nI (d + 1) ∧ sI c' 12 13 = sI c 12 13 ∧ (∀ a k, 13 ≤ a → a ≤ 18 → k ≤ d → sA c' a k = sA c a k) ∧ (∀ k, k < 16 * (d + 1) → sT c' 19 k = sT c 19 k ∧ sT c' 20 k = sT c 20 k) ∧ stR e r q.2 ∧ (t' : Int) + 5 * (sI q.2 21 11).toInt ≤ t + 5 * (sI r 21 11).toInt)
section CH
variable {G : AH} {T : Nat} {φ : Nat → Nat} {n u fu deep dd d e a b k t m : Nat} {c r : St} {va vb : Int32}
/-- from before the push -/
theorem PW.po {cp : St} {q : Int32 × St} {c' : St} {t' : Nat} (hW : PW G T φ n d e t cp r q c' t') (h1 : sI c 12 12 = nI (d + 1)) (ec : enC c cp) (h13 : sI cp 12 13 = sI c 12 13) (hA : ∀ a k, k ≤ d → sA cp a k = sA c a k) (hT : ∀ a, sT cp a = sT c a) : PO G T φ n d e t (sA c 15 d) c r q c' t' := by
  obtain ⟨φ', n', u', g1, g2, g3, g4, g5, g6, g7⟩ := hW
  refine ⟨φ', n', u', g1, g2, g3, ec.tr g4, g5, g6, fun z => ?_, fun z => ?_⟩
  · obtain ⟨a1, a2, a3, a4, a5, a6⟩ := g7 z
    have lo : ∀ a k, k ≤ d → 13 ≤ a → a ≤ 18 → sA c' a k = sA c a k := fun a k hk x1 x2 => (a3 a k x1 x2 hk).trans (hA a k hk)
    have tl : ∀ k, k < 16 * (d + 1) → sT c' 19 k = sT c 19 k ∧ sT c' 20 k = sT c 20 k := fun k hk => by
      rw [(a4 k hk).1, (a4 k hk).2, hT, hT]
      exact ⟨rfl, rfl⟩
    exact ⟨⟨a1.trans h1.symm, a2.trans h13, fun a k x1 x2 hk => lo a k (by omega) x1 x2, fun k hk => tl k (by omega)⟩, a5, a6, ⟨lo 13 d (by omega) (by decide) (by decide), lo 14 d (by omega) (by decide) (by decide), fun k hk => lo k d (by omega) (by omega) (by omega)⟩, tl⟩
  · obtain ⟨a1, a2, a3, a4, a5, a6⟩ := g7 (Or.inl z)
    exact (a3 15 d (by decide) (by decide) (by omega)).trans (hA 15 d (by omega))
/-- a part in a frame of role 1 -/
theorem pp_go (hS : SP G T fu m) (hH : HYP G T φ n u deep dd (d + 1) e a b t va vb c r) (hP : PV (sA r 30) k dd a b) (hm : 22 * (12 - deep) + 2 * dd + 2 ≤ m) (hr : sA c 13 (d + 1) = 1) : (W_part fu m).1 r va vb ∧ ∃ c' t', PW G T φ n d e (t + 1) c r ((F_part fu m).1 r va vb) c' t' ∧ ∀ y, RES fu c' t' y → RES fu c t y := by
  obtain ⟨w1, c3, t3, P, hy3⟩ := hS φ n u deep dd (d + 1) e a b k t va vb c r hH hP hm
  refine ⟨w1, ?_⟩
  obtain ⟨h, hz, hV, ⟨i1, i2, i3, i4⟩, ⟨j1, j2, j3, j4, j5⟩, ⟨d1, d2, d3, d4, d5⟩, ht⟩ := hH
  have f0 := h.2.2.1.2
  obtain ⟨Q, hQ⟩ : ∃ Q, Q = (F_part fu m).1 r va vb := ⟨_, rfl⟩
  rw [← hQ] at P ⊢
  obtain ⟨φ', n', u', g1, g2, g3, g4, g5, g6, g7, g8⟩ := P
  by_cases st : Q.1 = 0 ∨ Q.1 = 1
  · obtain ⟨a1, a2, a3, a4, a5⟩ := g7 st
    have fq := g1.2.2.1.2
    have b12 : sI c3 12 12 = nI (d + 1 + 1) := a1.1.trans i1
    have rl : sA c3 13 (d + 1) = 1 := a4.1.trans hr
    obtain ⟨pw, c4, p1, p2, p3, p4, p5, p6, p7, p8⟩ := pop (G := G) (T := T) (c := c3) (d := d + 1) (by omega)
    rw [if_neg (by rw [rl]; decide)] at p5
    refine ⟨c4, t3 + 1, ⟨φ', n', u', p2 g1, g2, g3.mv p6 rfl rfl, g4.tr p3, g5, by omega, fun _ => ⟨p4, p5.trans a1.2.1, fun a k x1 x2 hk => by rw [p7, a1.2.2.1 a k x1 x2 (by omega)], fun k hk => ?_, a2, by omega⟩⟩, fun y hy => hy3 y ?_⟩
    · rw [p8, p8]
      exact a1.2.2.2 k hk
    · have s13 : sI c3 1 3 = Q.1 := g3.1
      refine lv_01 (G := G) (T := T) (d := d + 1) (by omega) b12 (Or.inr rl) (by omega) ?_ (p1.symm ▸ hy)
      rcases st with z | z
      · exact Or.inl ⟨s13.trans z, (g8 z).trans (j4.symm.trans (a4.2.2 16 (Or.inl rfl)).symm)⟩
      · exact Or.inr (s13.trans z)
  · exact ⟨c3, t3, ⟨φ', n', u', g1, g2, g3, g4, g5, g6, fun z => absurd z st⟩, hy3⟩
/-- whether a number is on -/
theorem on_C (h : RR G T φ n u c r) (hc : ∀ k, sA r 30 k = sA c 6 k &&& 255) (hx : va.toInt = (a : Int)) (ha : a + 1 < 3200) (b7 : (sA r 30 (a + 1)).toInt ≤ 7) : f_En_isOn c va = !(cn1 .eq (sA r 28 (sA r 30 (a + 1)).toNatClampNeg)) ∧ w_En_isOn c va := by
  have e1 : (va + 1).toInt = ((a + 1 : Nat) : Int) := (i_addy (y := 1) hx (show ((1 : Int32).toInt) = 1 from rfl) (by omega) (by omega)).trans (by omega)
  obtain ⟨x1, x2⟩ := be_C hc e1 ha
  have b0 := (b255 (sA c 6 (a + 1))).1
  rw [← hc (a + 1)] at b0
  have e7 : sA r 30 (a + 1) &&& 7 = sA r 30 (a + 1) := by
    have e : sA r 30 (a + 1) = nI (sA r 30 (a + 1)).toInt.toNat := yI_of (by omega) (by omega)
    rw [e, show (7 : Int32) = nI (2 ^ 3 - 1) from by decide, nx_and, Nat.and_two_pow_sub_one_eq_mod, Nat.mod_eq_of_lt (by omega)]
  have k8 : (sA r 30 (a + 1)).toNatClampNeg < 8 := by rw [tn_eq]; omega
  unfold f_En_isOn w_En_isOn
  rw [x1, e7, h.1.1 _ k8]
  refine ⟨?_, x2, vp_of b0 (by omega), trivial⟩
  cases cn1 .eq (sA r 28 (sA r 30 (a + 1)).toNatClampNeg) <;> rfl
/-- bounds of what opens -/
theorem mo30_0 (x : Int32) : f_M_mostOf 30 (nI 0) x = 7 := by
  unfold f_M_mostOf
  rw [show cn1 .ne (nI 0) = false from rfl, cond_false]
  unfold t_M_mostOf_5
  exact (if_neg (by decide)).trans ((if_neg (by decide)).trans ((if_neg (by decide)).trans ((if_neg (by decide)).trans ((if_neg (by decide)).trans ((if_neg (by decide)).trans ((if_neg (by decide)).trans ((if_neg (by decide)).trans ((if_neg (by decide)).trans ((if_neg (by decide)).trans ((if_neg (by decide)).trans ((if_neg (by decide)).trans ((if_neg (by decide)).trans ((if_neg (by decide)).trans ((if_neg (by decide)).trans ((if_neg (by decide)).trans ((if_neg (by decide)).trans ((if_neg (by decide)).trans ((if_neg (by decide)).trans ((if_neg (by decide)).trans ((if_neg (by decide)).trans ((if_neg (by decide)).trans ((if_neg (by decide)).trans ((if_neg (by decide)).trans ((if_neg (by decide)).trans ((if_neg (by decide)).trans ((if_neg (by decide)).trans ((if_neg (by decide)).trans ((if_neg (by decide)).trans ((if_pos rfl).trans rfl)))))))))))))))))))))))))))))
theorem mo31_0 (x : Int32) : f_M_mostOf 31 (nI 0) x = 7 := by
  unfold f_M_mostOf
  rw [show cn1 .ne (nI 0) = false from rfl, cond_false]
  unfold t_M_mostOf_5
  exact (if_neg (by decide)).trans ((if_neg (by decide)).trans ((if_neg (by decide)).trans ((if_neg (by decide)).trans ((if_neg (by decide)).trans ((if_neg (by decide)).trans ((if_neg (by decide)).trans ((if_neg (by decide)).trans ((if_neg (by decide)).trans ((if_neg (by decide)).trans ((if_neg (by decide)).trans ((if_neg (by decide)).trans ((if_neg (by decide)).trans ((if_neg (by decide)).trans ((if_neg (by decide)).trans ((if_neg (by decide)).trans ((if_neg (by decide)).trans ((if_neg (by decide)).trans ((if_neg (by decide)).trans ((if_neg (by decide)).trans ((if_neg (by decide)).trans ((if_neg (by decide)).trans ((if_neg (by decide)).trans ((if_neg (by decide)).trans ((if_neg (by decide)).trans ((if_neg (by decide)).trans ((if_neg (by decide)).trans ((if_neg (by decide)).trans ((if_neg (by decide)).trans ((if_neg (by decide)).trans ((if_pos rfl).trans rfl))))))))))))))))))))))))))))))
theorem stC_15 (f : Nat → Int32) (hf : ∀ k, k < d → f k = sA c 15 k) : stC d c (pA c 15 f) := by
  refine ⟨rfl, rfl, fun a' k x1 x2 hk => ?_, fun k _ => ⟨rfl, rfl⟩⟩
  rw [sA_pA]
  by_cases e : a' = 15
  · rw [if_pos e, hf k hk, e]
  · rw [if_neg e]
theorem ops_ch (hS : SP G T fu m) (hH : HYP G T φ n u deep dd d e a b t va vb c r) (hab : a < b) (hO : OVA (sA r 30) a) (h30 : sA r 30 a = 30) (hdd : 1 ≤ dd) (hP1 : PV (sA r 30) k (dd - 1) (a + 4) (a + 4 + lnA (sA r 30) (a + 2))) (hP2 : PV (sA r 30) k (dd - 1) (a + 4 + lnA (sA r 30) (a + 2)) (a + 4 + lnA (sA r 30) (a + 2) + lnA (sA r 30) (a + 3))) (hP : PV (sA r 30) k dd (a + 4 + lnA (sA r 30) (a + 2) + lnA (sA r 30) (a + 3)) b) (hm : 22 * (12 - deep) + 2 * dd ≤ m) : OPS G T fu m φ n d e k dd a b t vb va c r := by
  have hH0 := hH
  obtain ⟨h, hz, hV, ⟨i1, i2, i3, i4⟩, ⟨j1, j2, j3, j4, j5⟩, ⟨d1, d2, d3, d4, d5⟩, ht⟩ := hH
  have f0 := h.2.2.1.2
  have le := hP.le
  have w4 : (f_M_wholeOf 30).toInt = 4 := by decide +kernel
  have hb0 : ∀ i, 0 ≤ (sA r 30 i).toInt ∧ (sA r 30 i).toInt ≤ 255 := fun i => by rw [hV.1 i]; exact b255 _
  have B2 := hb0 (a + 2)
  have B3 := hb0 (a + 3)
  have L2 : (sA r 30 (a + 2)).toInt = (lnA (sA r 30) (a + 2) : Int) := by unfold lnA; omega
  have L3 : (sA r 30 (a + 3)).toInt = (lnA (sA r 30) (a + 3) : Int) := by unfold lnA; omega
  have b7 := (hO.2 0 (by rw [h30, w4]; decide)).2
  rw [h30, mo30_0] at b7
  have b7' : (sA r 30 (a + 1)).toInt ≤ 7 := b7
  refine bo hH0 hab (by rw [h30]; decide) (by rw [h30]; decide) (fun c1 r1 h1 hz1 wc wr hf => ?_)
  have e30 : sA r1 30 = sA r 30 := by rw [wr.2.2.1]
  obtain ⟨c2, hc2⟩ : ∃ c2, c2 = pA c1 15 (upd (sA c1 15) d (va + f_M_wholeOf 30)) := ⟨_, rfl⟩
  obtain ⟨t1, t2⟩ := t13 (fu := fu) (show d ≤ 131 by omega) (op := 30) (by decide) (by decide) hc2
  rw [if_pos rfl] at t1
  have hV1 : CDV c1 r1 := hV.mv wc.op.en wr.op.en
  have v1 : (va + f_M_wholeOf 30).toInt = ((a + 4 : Nat) : Int) := (i_addy (x := va) (y := f_M_wholeOf 30) j1 w4 (by omega) (by omega)).trans (by omega)
  have x1 : (va + 1).toInt = ((a + 1 : Nat) : Int) := (i_addy (y := 1) j1 (show ((1 : Int32).toInt) = 1 from rfl) (by omega) (by omega)).trans (by omega)
  have x2 : (va + 2).toInt = ((a + 2 : Nat) : Int) := (i_addy (y := 2) j1 (show ((2 : Int32).toInt) = 2 from rfl) (by omega) (by omega)).trans (by omega)
  have x3 : (va + 3).toInt = ((a + 3 : Nat) : Int) := (i_addy (y := 3) j1 (show ((3 : Int32).toInt) = 3 from rfl) (by omega) (by omega)).trans (by omega)
  have n1 : (va + 1).toNatClampNeg = a + 1 := by rw [tn_eq, x1]; omega
  have n2 : (va + 2).toNatClampNeg = a + 2 := by rw [tn_eq, x2]; omega
  have n3 : (va + 3).toNatClampNeg = a + 3 := by rw [tn_eq, x3]; omega
  have s1 : (va + f_M_wholeOf 30 + sA r 30 (a + 2)).toInt = ((a + 4 + lnA (sA r 30) (a + 2) : Nat) : Int) := (i_addy v1 L2 (by omega) (by omega)).trans (by omega)
  have s2 : (va + f_M_wholeOf 30 + sA r 30 (a + 2) + sA r 30 (a + 3)).toInt = ((a + 4 + lnA (sA r 30) (a + 2) + lnA (sA r 30) (a + 3) : Nat) : Int) := (i_addy s1 L3 (by omega) (by omega)).trans (by omega)
  have s3 : (sA r 30 (a + 2) + sA r 30 (a + 3)).toInt = ((lnA (sA r 30) (a + 2) + lnA (sA r 30) (a + 3) : Nat) : Int) := (i_addy L2 L3 (by omega) (by omega)).trans (by omega)
  have s4 : va + f_M_wholeOf 30 + (sA r 30 (a + 2) + sA r 30 (a + 3)) = va + f_M_wholeOf 30 + sA r 30 (a + 2) + sA r 30 (a + 3) := (Int32.add_assoc _ _ _).symm
  have hV2 : CDV c2 r1 := hV1.mv (by rw [hc2]; exact enC_A _ (by decide) _) (opR.rf r1).en
  obtain ⟨y2, z2⟩ := be_C hV2.1 x2 (by omega)
  obtain ⟨y3, z3⟩ := be_C hV2.1 x3 (by omega)
  rw [e30] at y2 y3
  obtain ⟨c3, hc3⟩ : ∃ c3, c3 = pA c2 15 (upd (sA c2 15) d (va + f_M_wholeOf 30 + sA r 30 (a + 2) + sA r 30 (a + 3))) := ⟨_, rfl⟩
  have ec3 : enC c1 c3 := by rw [hc3, hc2]; exact (enC_A _ (by decide) _).tr (enC_A _ (by decide) _)
  have h3 : RR G T φ n u c3 r1 := by rw [hc3, hc2]; exact (h1.cA (a := 15) (by decide) _).cA (a := 15) (by decide) _
  have hz3 : SZ c3 := by rw [hc3, hc2]; exact hz1
  have hV3 : CDV c3 r1 := hV1.mv ec3 (opR.rf r1).en
  have st3 : stC d c1 c3 := by
    rw [hc3, hc2]
    exact (stC_15 _ (fun k hk => upN _ _ (by omega))).tr (stC_15 _ (fun k hk => upN _ _ (by omega)))
  have A3 : ∀ k, k ≠ 15 → sA c3 k = sA c1 k := fun k hk => by rw [hc3, sA_pA, if_neg hk, hc2, sA_pA, if_neg hk]
  have T3 : ∀ k, sT c3 k = sT c1 k := fun k => by rw [hc3, hc2]; rfl
  have I3 : ∀ k, sI c3 12 k = sI c 12 k := fun k => by
    rw [hc3, hc2]
    exact wc.1 12 k (by decide)
  have x15 : sA c3 15 d = va + f_M_wholeOf 30 + sA r 30 (a + 2) + sA r 30 (a + 3) := by rw [hc3]; exact upS _ _ _
  obtain ⟨on1, on2⟩ := on_C (va := va) (a := a) h3 hV3.1 j1 (by omega) (by rw [e30]; exact b7')
  rw [e30] at on1
  have ed : (nI d).toNatClampNeg = d := nN (by omega)
  have vd : vp_in (nI d) 132 := vp_of (by rw [yI_i (by omega)]; omega) (by rw [yI_i (by omega)]; omega)
  have i25 : sI r1 21 25 = sI r 21 25 := wr.1 21 25 (fun _ => by decide)
  have i26 : sI r1 21 26 = sI r 21 26 := wr.1 21 26 (fun _ => by decide)
  have va0 : vp_in (va + 1) 3200 := vp_of (by omega) (by omega)
  have va2 : vp_in (va + 2) 3200 := vp_of (by omega) (by omega)
  have va3 : vp_in (va + 3) 3200 := vp_of (by omega) (by omega)
  have v8 : vp_in (sA r 30 (a + 1)) 8 := vp_of (hb0 (a + 1)).1 (by omega)
  -- one of the two parts
  have br : ∀ (x l : Int32) (xa ll : Nat), x.toInt = (xa : Int) → l.toInt = (ll : Int) → xa + ll ≤ b → PV (sA r 30) k (dd - 1) xa (xa + ll) → w_En_push c3 1 va x l ∧ (W_part fu m).1 r1 x (x + l) ∧ ∃ c' t', PO G T φ n d e (t + 5) (va + f_M_wholeOf 30 + sA r 30 (a + 2) + sA r 30 (a + 3)) c1 r1 ((F_part fu m).1 r1 x (x + l)) c' t' ∧ ∀ y, RES fu c' t' y → RES fu (f_En_push c3 1 va x l) (t + 1) y := fun x l xa ll hx hl hle hpv => by
    obtain ⟨wp, c4, q1, q2, q3, q4, q5, q6, q7, q8, q9, q10⟩ := psh (G := G) (T := T) (c := c3) (d := d) (by omega) ((I3 12).trans i1) 1 va x l
    have hH4 : HYP G T φ n u deep (dd - 1) (d + 1) e xa (xa + ll) (t + 1) x (x + l) c4 r1 := by
      refine ⟨q2 h3, ⟨(q6 3).trans hz3.1, (q6 4).trans hz3.2.1, (q6 5).trans hz3.2.2⟩, hV3.mv q3 (opR.rf r1).en, ⟨q4, (q5.trans (I3 13)).trans i2, i25.trans i3, i26.trans i4⟩, ⟨hx, (i_addy hx hl (by omega) (by omega)).trans (by omega), q7.2.2.1, q7.2.2.2, by omega⟩, ⟨d1, d2, by omega, by omega, by omega⟩, ?_⟩
      rw [hf]
      omega
    obtain ⟨w1, c', t', W, hy⟩ := pp_go hS hH4 (by rw [e30]; exact hpv) (by omega) q7.1
    refine ⟨wp, w1, c', t', ?_, fun y hh => q1.symm ▸ hy y hh⟩
    have P := W.po ((I3 12).trans i1) q3 q5 q8 q9
    rw [x15] at P
    exact PO.tr (t1 := t + 1 + 1) (EX.rf φ n) ec3 (opR.rf r1).en st3 (stR.rf e r1) (show ((t + 1 + 1 : Nat) : Int) + _ ≤ ((t + 5 : Nat) : Int) + _ by omega) ⟨by rw [A3 13 (by decide)], by rw [A3 14 (by decide)], fun k hk => by rw [A3 k (by omega)]⟩ (fun k _ => ⟨by rw [T3], by rw [T3]⟩) P
  have eC : f_En_choose c2 (nI d) va (va + f_M_wholeOf 30) = cond (cn1 .eq (sA r1 28 (sA r 30 (a + 1)).toNatClampNeg)) (f_En_push c3 1 va (va + f_M_wholeOf 30 + sA r 30 (a + 2)) (sA r 30 (a + 3))) (f_En_push c3 1 va (va + f_M_wholeOf 30) (sA r 30 (a + 2))) := by
    unfold f_En_choose
    rw [y2, y3, ed, ← hc3, on1, cn1_eq_b2i, Bool.not_not]
  have wC : w_En_push c3 1 va (va + f_M_wholeOf 30 + sA r 30 (a + 2)) (sA r 30 (a + 3)) → w_En_push c3 1 va (va + f_M_wholeOf 30) (sA r 30 (a + 2)) → w_En_choose c2 (nI d) va (va + f_M_wholeOf 30) := fun wa wb => by
    unfold w_En_choose
    rw [y2, y3, ed, ← hc3]
    exact ⟨z2, z3, vd, on2, fun _ => ⟨wa, trivial⟩, fun _ => ⟨wb, trivial⟩⟩
  obtain ⟨wp1, wr1, ca, ta, Pa, Ra⟩ := br _ _ _ _ v1 L2 (by omega) hP1
  obtain ⟨wp2, wr2, cb, tb, Pb, Rb⟩ := br _ _ _ _ s1 L3 (by omega) hP2
  have kf : ∀ {Q : Int32 × St} {x : Int32} {c' : St} {t' : Nat}, PO G T φ n d e (t + 5) x c1 r1 Q c' t' → fl Q.2 ≤ fl r1 := fun P => by
    obtain ⟨φ', n', u', g1, g2, g3, g4, g5, -⟩ := P
    have := g5.2.2.2.2.2.2.2.2.1
    unfold fl
    omega
  rw [h30]
  rw [t1, eC]
  by_cases on : cn1 .eq (sA r1 28 (sA r 30 (a + 1)).toNatClampNeg) = true
  · refine ⟨(F_part fu m).1 r1 (va + f_M_wholeOf 30 + sA r 30 (a + 2)) (va + f_M_wholeOf 30 + sA r 30 (a + 2) + sA r 30 (a + 3)), a + 4 + lnA (sA r 30) (a + 2) + lnA (sA r 30) (a + 3), va + f_M_wholeOf 30 + sA r 30 (a + 2) + sA r 30 (a + 3), fun _ => ⟨s2, hP, by omega⟩, fun C y hy g hg => ?_, t2 (fun _ => wC wp2 wp1) (fun z => absurd z (by decide)) (fun z => absurd z (by decide)) (fun z => absurd z (by decide)) (fun z _ _ _ => absurd rfl z), cb, tb, Pb, fun y hy => ?_⟩
    · obtain ⟨g, rfl⟩ : ∃ g', g = g' + 1 := ⟨g - 1, by omega⟩
      obtain ⟨u1, u2⟩ := hy g (by have := kf Pb; omega)
      constructor
      · unfold b_M_part_13
        rw [show cn1 .eq (0 : Int32) = true from rfl, cond_true, show cn2 .ne (30 : Int32) 30 = false from rfl, cond_false, n1, n2, n3, e30, on, cond_true]
        show (T_M_part_2 (F_part fu m) fu g).2.2.2.2.2.2.2.2.2.2.2.2.2 _ _ _ (va + f_M_wholeOf 30 + (sA r 30 (a + 2) + sA r 30 (a + 3))) = _
        rw [s4]
        exact u1
      · unfold v_M_part_13
        rw [show cn2 .ne (30 : Int32) 30 = false from rfl, n1, n2, n3, e30, on]
        refine ⟨fun _ => ⟨(fun z => nomatch z), fun _ => ⟨va2, va3, va0, v8, fun _ => ⟨wr2, ?_⟩, (fun z => nomatch z)⟩⟩, (fun z => nomatch z)⟩
        show (WT_M_part_2 (F_part fu m) (W_part fu m) fu g).2.2.2.2.2.2.2.2.2.2.2.2.2 _ _ _ (va + f_M_wholeOf 30 + (sA r 30 (a + 2) + sA r 30 (a + 3)))
        rw [s4]
        exact u2
    · rw [on, cond_true]
      exact Rb y hy
  · have off : cn1 .eq (sA r1 28 (sA r 30 (a + 1)).toNatClampNeg) = false := by
      cases hx : cn1 .eq (sA r1 28 (sA r 30 (a + 1)).toNatClampNeg) with
      | true => exact absurd hx on
      | false => rfl
    refine ⟨(F_part fu m).1 r1 (va + f_M_wholeOf 30) (va + f_M_wholeOf 30 + sA r 30 (a + 2)), a + 4 + lnA (sA r 30) (a + 2) + lnA (sA r 30) (a + 3), va + f_M_wholeOf 30 + sA r 30 (a + 2) + sA r 30 (a + 3), fun _ => ⟨s2, hP, by omega⟩, fun C y hy g hg => ?_, t2 (fun _ => wC wp2 wp1) (fun z => absurd z (by decide)) (fun z => absurd z (by decide)) (fun z => absurd z (by decide)) (fun z _ _ _ => absurd rfl z), ca, ta, Pa, fun y hy => ?_⟩
    · obtain ⟨g, rfl⟩ : ∃ g', g = g' + 2 := ⟨g - 2, by omega⟩
      obtain ⟨u1, u2⟩ := hy g (by have := kf Pa; omega)
      constructor
      · unfold b_M_part_13
        rw [show cn1 .eq (0 : Int32) = true from rfl, cond_true, show cn2 .ne (30 : Int32) 30 = false from rfl, cond_false, n1, n2, n3, e30, off, cond_false]
        show (T_M_part_2 (F_part fu m) fu g).2.2.2.2.2.2.2.2.2.2.2.2.2 _ _ _ (va + f_M_wholeOf 30 + (sA r 30 (a + 2) + sA r 30 (a + 3))) = _
        rw [s4]
        exact u1
      · unfold v_M_part_13
        rw [show cn2 .ne (30 : Int32) 30 = false from rfl, n1, n2, n3, e30, off]
        refine ⟨fun _ => ⟨(fun z => nomatch z), fun _ => ⟨va2, va3, va0, v8, (fun z => nomatch z), fun _ => ⟨wr1, ?_⟩⟩⟩, (fun z => nomatch z)⟩
        show (WT_M_part_2 (F_part fu m) (W_part fu m) fu g).2.2.2.2.2.2.2.2.2.2.2.2.2 _ _ _ (va + f_M_wholeOf 30 + (sA r 30 (a + 2) + sA r 30 (a + 3)))
        rw [s4]
        exact u2
    · rw [off, cond_false]
      exact Ra y hy
end CH
