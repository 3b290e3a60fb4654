/-! LOAD: parts, from their beginning -/
section PR2
variable {G : AH} {T : Nat} {φ : Nat → Nat} {n u L p fu N t : Nat} {c r c0 r0 : St} {k m d : Int32} {rec recI : G_read} {wrec wrecI : GW_read} {recM : G_parse} {wrecM : GW_parse}
/-- a field of a part that is being made, when it has stopped -/
theorem p_fl (hW : WK G T φ n u L 4 N k 0 c0 r0 c r p) (k1 : 11 ≤ k.toInt) (k2 : k.toInt ≤ 15) (j : Nat) (hj : j < 5) (y : AV) (hy : kv y = kv (([.inl 0, .inl 0, .inr (.inl 0), .inl 0, .inr (.inr none)] : List AV).getD j (.inl 0))) : f_Le_stopped (pQ (f_Le_fault c 2) (dF (sD (f_Le_fault c 2)) (some N) j y) (sN (f_Le_fault c 2)) (sU (f_Le_fault c 2))) = true ∧ PRd G T φ n u L c0 r0 (some N, pQ (f_Le_fault c 2) (dF (sD (f_Le_fault c 2)) (some N) j y) (sN (f_Le_fault c 2)) (sU (f_Le_fault c 2))) (f_M_fails r 2) ∧ ob (sD (f_Le_fault c 2)) (some N) 4 := by
  obtain ⟨sf, w⟩ := fl_st hW.1 hW.2.1 (k := 2) (by decide) (by decide)
  have K := hW.2.2.2.2.2.2.1.1
  obtain ⟨-, -, -, -, f5, f6⟩ := fd_rr hW.1 hW.lv (by rw [K]; exact k1) (by rw [K]; exact k2)
  rw [hW.po] at f5 f6
  rw [ph1_s] at f5
  have o4 := (p_prt hW.1.rt hW.lv (by rw [K]; exact k1) (by rw [K]; exact k2)).2.2.1
  rw [hW.po] at o4
  have eD := w.2.2.2.2.2.1
  have P := hW.fl (kk := 2) (by decide) (by decide) (D' := dF (sD c) (some N) j y) (fun a a1 a2 => f5 j y a a1) (f6 j y hy hj).1 rfl
  rw [eD]
  obtain ⟨cF, hcF⟩ : ∃ cF, cF = f_Le_fault c 2 := ⟨_, rfl⟩
  rw [← hcF] at sf P
  rw [← hcF]
  exact ⟨sf, P, o4⟩
/-- a field was put -/
theorem p_pt (hW : WK G T φ n u L 4 N k 0 c0 r0 c r p) (k1 : 11 ≤ k.toInt) (k2 : k.toInt ≤ 15) : (∀ x : Int32, WK G T φ n u L 4 N k 0 c0 r0 (pQ c (dF (sD c) (some N) 1 (.inl x)) (sN c) (sU c)) (pB r 26 (vp_updL (sB r 26) u x.toInt64)) p) ∧ (∀ x : Int64, KP x → WK G T φ n u L 4 N k 0 c0 r0 (pQ c (dF (sD c) (some N) 2 (.inr (.inl x))) (sN c) (sU c)) (pB r 26 (vp_updL (sB r 26) (u + 1) x)) p) ∧ (∀ x : Int32, WK G T φ n u L 4 N k 0 c0 r0 (pQ c (dF (sD c) (some N) 3 (.inl x)) (sN c) (sU c)) (pB r 26 (vp_updL (sB r 26) (u + 2) x.toInt64)) p) ∧ ob (sD c) (some N) 4 ∧ oC (sD c) (some N) = some 4 ∧ gI (sD c) (some N) 0 = k - 11 := by
  have K := hW.2.2.2.2.2.2.1.1
  have S := hW.2.2.2.2.2.2.1.2.1
  have hb := hW.1.bnd
  have nu : (nI u).toNatClampNeg = u := nN (by omega)
  obtain ⟨f1, f2, f3, -, f5, -⟩ := fd_rr hW.1 hW.lv (by rw [K]; exact k1) (by rw [K]; exact k2)
  obtain ⟨-, -, o4, o5, o6⟩ := p_prt hW.1.rt hW.lv (by rw [K]; exact k1) (by rw [K]; exact k2)
  rw [hW.po] at f1 f2 f3 f5 o4 o5 o6
  rw [S, nu] at f1 f2 f3
  rw [ph1_s] at f5
  rw [K] at o6
  exact ⟨fun x => hW.pt (j := 0) (f1 x) (fun a a1 _ => f5 1 _ a a1), fun x hx => hW.pt (f2 x hx) (fun a a1 _ => f5 2 _ a a1), fun x => hW.pt (f3 x) (fun a a1 _ => f5 3 _ a a1), o4, o5, o6⟩
/-- from the weight on -/
theorem p_28 (hfu : 100 ≤ fu) (hI : RDI G T fu recI wrecI recM wrecM (d + 1)) (hr2 : ∀ s o a, rec.2.2.2 s o a = f_Fo_readInner recI fu s o a) (hw2 : ∀ s o a, wrec.2.2.2 s o a = w_Fo_readInner recI wrecI fu s o a) (hW : WK G T φ n u L 4 N k 0 c0 r0 c r p) (k1 : 11 ≤ k.toInt) (k2 : k.toInt ≤ 15) (hC3 : sB r 26 (u + 3) = 0) : ∃ x q, t_Fo_readPart_28 rec fu c (k - 11) d (some N) = x ∧ w_Fo_readPart_28 rec wrec fu c (k - 11) d (some N) ∧ cond (cn2 .le k 13) (t_M_parsePart_74 recM fu r k d (nI (n + 1)) (nI u)) (cond (cn1 .ne (b2i (f_M_has r 4))) (t_M_parsePart_71 recM fu ((f_M_next fu r 4).2) k d (nI (n + 1)) (nI u) ((f_M_next fu r 4).1) (nI u + 2)) (f_M_fails r 2)) = q ∧ ((cn2 .le k 13) = true → w_M_parsePart_74 recM wrecM fu r k d (nI (n + 1)) (nI u)) ∧ ((cn2 .le k 13) = false → (w_M_has r 4 ∧ ((cn1 .ne (b2i (f_M_has r 4))) = true → (w_M_next fu r 4 ∧ (w_M_parsePart_71 recM wrecM fu ((f_M_next fu r 4).2) k d (nI (n + 1)) (nI u) ((f_M_next fu r 4).1) (nI u + 2)))) ∧ ((cn1 .ne (b2i (f_M_has r 4))) = false → (w_M_fails r 2 ∧ True)))) ∧ PRd G T φ n u L c0 r0 x q := by
  have hb := hW.1.bnd
  have s0 : f_Le_stopped c = false := st_0 hW.2.1
  obtain ⟨-, -, -, o4, o5, o6⟩ := p_pt hW k1 k2
  have i11 : (k - 11).toInt = k.toInt - 11 := sub11 k1 k2
  have ip : f_Pa_isPriced c (some N) = decide (2 < (k - 11).toInt) := by
    unfold f_Pa_isPriced
    rw [o6, bl_same]
    exact bl_3 (by omega) (by omega)
  have le13 : cn2 .le k 13 = decide (k.toInt ≤ 13) := c2_le k 13
  have n2 : (nI u + 2).toNatClampNeg = u + 2 := by rw [show nI u + 2 = nI (u + 2) from nAd u 2]; exact nN (by omega)
  have v2 : vp_in (nI u + 2) 40001 := by rw [show nI u + 2 = nI (u + 2) from nAd u 2]; exact vp_n (by omega) (by omega)
  unfold t_Fo_readPart_28 w_Fo_readPart_28
  rw [s0, show cn1 .ne (b2i false) = false from rfl, cond_false, ip, le13]
  by_cases k13 : k.toInt ≤ 13
  · obtain ⟨P, w1, w2⟩ := p_41 hI hr2 hw2 hW k1 k2 hC3
    rw [df (show ¬ 2 < (k - 11).toInt by omega), show cn1 .eq (b2i false) = true from rfl, cond_true, dt k13, cond_true]
    exact ⟨_, _, rfl, ⟨trivial, (fun z => nomatch z), fun _ => ⟨⟨o4, trivial⟩, o5, fun _ => w1, (fun z => nomatch z)⟩⟩, rfl, fun _ => w2, (fun z => nomatch z), P⟩
  · rw [dt (show 2 < (k - 11).toInt by omega), show cn1 .eq (b2i true) = false from rfl, cond_false, df k13, cond_false]
    rcases rb hfu hW.2.2.1 (cnt := 4) (x := 4) rfl (by decide) with ⟨g, val, y1, y2, y3, y4, y5, y6, -⟩ | ⟨g, y1, y2, y3⟩
    · rw [y1, y3, y4, show cn1 .ne (b2i true) = true from rfl, cond_true]
      dsimp only
      have W2 := hW.rd y6
      obtain ⟨-, -, e3, ob2, -, -⟩ := p_pt W2 k1 k2
      have W3 := e3 (Int64.toInt32 val)
      obtain ⟨P, w1, w2⟩ := p_41 hI hr2 hw2 W3 k1 k2 ((show vp_updL (sB r 26) (u + 2) (Int32.toInt64 (Int64.toInt32 val)) (u + 3) = sB r 26 (u + 3) from if_neg (by omega)).trans hC3)
      unfold t_Fo_readPart_39 w_Fo_readPart_39 t_M_parsePart_71 w_M_parsePart_71
      rw [n2]
      exact ⟨_, _, rfl, ⟨trivial, (fun z => nomatch z), fun _ => ⟨⟨o4, trivial⟩, o5, (fun z => nomatch z), fun _ => ⟨y2, ob2, w1⟩⟩⟩, rfl, (fun z => nomatch z), fun _ => ⟨trivial, fun _ => ⟨y5, v2, w2⟩, (fun z => nomatch z)⟩, P⟩
    · rw [y1, y3, show cn1 .ne (b2i false) = false from rfl, cond_false]
      dsimp only
      obtain ⟨sf, P, o⟩ := p_fl hW k1 k2 3 (by decide) (.inl (Int64.toInt32 0)) rfl
      unfold t_Fo_readPart_39 w_Fo_readPart_39
      obtain ⟨a1, a2, -, -⟩ := p41_s (rec := rec) (wrec := wrec) (fu := fu) sf (k - 11) d (some N)
      exact ⟨_, _, a1, ⟨trivial, (fun z => nomatch z), fun _ => ⟨⟨o4, trivial⟩, o5, (fun z => nomatch z), fun _ => ⟨y2, o, a2⟩⟩⟩, rfl, (fun z => nomatch z), fun _ => ⟨trivial, (fun z => nomatch z), fun _ => ⟨w_fails r 2, trivial⟩⟩, P⟩
theorem ld_prt (hfu : 100 ≤ fu) (hI : RDI G T fu recI wrecI recM wrecM (d + 1)) (hr2 : ∀ s o a, rec.2.2.2 s o a = f_Fo_readInner recI fu s o a) (hw2 : ∀ s o a, wrec.2.2.2 s o a = w_Fo_readInner recI wrecI fu s o a) (h : RR G T φ n u c r) (hz : SZ c) (hP : PL L p c r) (k1 : 11 ≤ k.toInt) (k2 : k.toInt ≤ 15) : PRd G T φ n u L c r (f_Fo_readPart rec fu c (k - 11) d) (f_M_parsePart recM fu r k d) ∧ w_Fo_readPart rec wrec fu c (k - 11) d ∧ w_M_parsePart recM wrecM fu r k d := by
  unfold f_Fo_readPart w_Fo_readPart f_M_parsePart w_M_parsePart
  rw [show (4 : Int64) = lN 4 from rfl]
  rcases mk2 h (z := 4) (by decide) with ⟨v, e1, e2, h1, mn, mu, mv, -⟩ | ⟨e1, e2⟩
  · rw [e1, e2]
    dsimp only
    have hb := h1.bnd
    have hb2 := h1.2.2.2.1
    have h2 := nw_prt h1 (k := k) (m := 0) (q := 0) (b := k - 11) k1 k2 rfl (show (n : Int) + 1 ≤ v.toInt by omega) (show (u : Int) + 4 ≤ v.toInt by omega)
    obtain ⟨t1, t2⟩ := th_M (r := pI r 21 8 v) (k := k) (m := 0) (q := 0) hb2.2.1 hb2.2.2.1 (by omega) (fun z => absurd z (by omega))
    obtain ⟨i1, i2, i3⟩ := i_pa (s := pI c 1 0 v) (k := k - 11) hb.2.2.2.2 (by omega) (by omega)
    obtain ⟨N, hN⟩ : ∃ N, N = sN (pI c 1 0 v) := ⟨_, rfl⟩
    have hN0 : N = sN c := hN
    have h37 : 37 ≤ N := by rw [hN]; exact hb.2.2.2.2
    have hNb : N + 1 < 601024 := by rw [hN]; omega
    have oC1 : (oC (nwO (sD (pI c 1 0 v)) (sN (pI c 1 0 v)) 4) (some (sN (pI c 1 0 v)))).isSome = true := by
      rw [oC_at hb.2.2.2.2 (show nwO (sD (pI c 1 0 v)) (sN (pI c 1 0 v)) 4 (sN (pI c 1 0 v)) = some (.inl (4, [.inl 0, .inl 0, .inr (.inl 0), .inl 0, .inr (.inr none)])) from hupS)]
      rfl
    obtain ⟨c2, hc2⟩ : ∃ c2, c2 = pQ (pI c 1 0 v) (prtD (sD (pI c 1 0 v)) (sN (pI c 1 0 v)) (k - 11)) (sN (pI c 1 0 v) + 1) (sU (pI c 1 0 v) + 5) := ⟨_, rfl⟩
    obtain ⟨r2, hr2'⟩ : ∃ r2, r2 = thR (pI r 21 8 v) n u k 0 0 := ⟨_, rfl⟩
    have cz : ∀ i, sB r2 26 (u + i) = 0 := fun i => by rw [hr2']; exact h1.rt.1 (u + i) (Nat.le_add_right _ _)
    rw [← hr2'] at t1 h2
    rw [← hc2] at i1
    rw [← hc2, ← hN] at h2
    have hW : WK G T φ n u L 4 N k 0 c r c2 r2 p := by
      refine ⟨h2, by rw [hc2]; exact hz, by rw [hc2, hr2']; exact PL.qq (c := pI c 1 0 v) (r := pI r 21 8 v) hP _ _ _ _ _ _ _ _, ?_, by rw [hc2]; exact (opC_1 c 0 v).tr (opC_Q _ _ _ _), by rw [hr2']; exact (opR_I r (Or.inl (by decide)) v).tr (thR_op _ _ _ _ _ _ hb2.2.1 (by omega)), ?_, by omega, h37, hNb⟩
      · rw [hc2, hr2']
        exact (GF.mk v).tr (GF.nw (fun a ha => hupN (by omega)) (Nat.le_succ _))
      · rw [hr2']
        exact ⟨if_pos rfl, if_pos rfl, if_pos rfl⟩
    have nn : (nI (n + 1)).toNatClampNeg = n + 1 := nN (by omega)
    have vn : vp_in (nI (n + 1)) 40001 := n_vp (by omega)
    have nu : (nI u).toNatClampNeg = u := nN (by omega)
    have vu : vp_in (nI u) 40001 := n_vp (by omega)
    have n1 : (nI u + 1).toNatClampNeg = u + 1 := by rw [show nI u + 1 = nI (u + 1) from nAd u 1]; exact nN (by omega)
    have v1 : vp_in (nI u + 1) 40001 := by rw [show nI u + 1 = nI (u + 1) from nAd u 1]; exact vp_n (by omega) (by omega)
    unfold t_Fo_readPart_4 w_Fo_readPart_4 t_M_parsePart_3 w_M_parsePart_3
    rw [show cn1 .ne (b2i true) = true from rfl, cond_true, cond_true, t1, i1]
    dsimp only
    rw [← hN]
    rw [← hN] at i3 oC1 i2
    unfold t_Fo_readPart_11 w_Fo_readPart_11 t_M_parsePart_11 w_M_parsePart_11
    rw [nn, hW.2.2.2.2.2.2.1.2.1]
    rcases rb hfu hW.2.2.1 (cnt := 4) (x := 4) rfl (by decide) with ⟨g, val, y1, y2, y3, y4, y5, y6, -⟩ | ⟨g, y1, y2, y3⟩
    · rw [y1, y3, y4, show cn1 .ne (b2i true) = true from rfl, cond_true]
      dsimp only
      have W3 := hW.rd y6
      obtain ⟨e1', -, -, ob3, -, -⟩ := p_pt W3 k1 k2
      have W4 := e1' (Int64.toInt32 val)
      unfold t_Fo_readPart_16 w_Fo_readPart_16 t_M_parsePart_31 w_M_parsePart_31
      rw [nu]
      obtain ⟨c4, hc4⟩ : ∃ c4, c4 = pQ (pI c2 2 5 (nI (p + 4))) (dF (sD (pI c2 2 5 (nI (p + 4)))) (some N) 1 (.inl (Int64.toInt32 val))) (sN (pI c2 2 5 (nI (p + 4)))) (sU (pI c2 2 5 (nI (p + 4)))) := ⟨_, rfl⟩
      obtain ⟨r4, hr4⟩ : ∃ r4, r4 = pB (pI r2 21 30 (nI (p + 4))) 26 (vp_updL (sB (pI r2 21 30 (nI (p + 4))) 26) u (Int32.toInt64 (Int64.toInt32 val))) := ⟨_, rfl⟩
      have c43 : sB r4 26 (u + 3) = 0 := by
        rw [hr4]
        exact (show vp_updL (sB r2 26) u (Int32.toInt64 (Int64.toInt32 val)) (u + 3) = sB r2 26 (u + 3) from if_neg (by omega)).trans (cz 3)
      rw [← hc4, ← hr4] at W4
      rw [← hc4, ← hr4, st_0 W4.2.1, show cn1 .ne (b2i false) = false from rfl, cond_false]
      rcases rb hfu W4.2.2.1 (cnt := 8) (x := 8) rfl (by decide) with ⟨g', val2, z1, z2, z3, z4, z5, z6, -⟩ | ⟨g', z1, z2, z3⟩
      · rw [z1, z3, z4, show cn1 .ne (b2i true) = true from rfl, cond_true]
        dsimp only
        have W5 := W4.rd z6
        obtain ⟨-, e2', -, ob5, -, -⟩ := p_pt W5 k1 k2
        have W6 := e2' (f_M_kept val2) (kp_k val2)
        unfold t_Fo_readPart_26 w_Fo_readPart_26 t_M_parsePart_50 w_M_parsePart_50
        rw [n1]
        have c53 : sB (pB (pI r4 21 30 (nI (p + 4 + 8))) 26 (vp_updL (sB (pI r4 21 30 (nI (p + 4 + 8))) 26) (u + 1) (f_M_kept val2))) 26 (u + 3) = 0 := (show vp_updL (sB r4 26) (u + 1) (f_M_kept val2) (u + 3) = sB r4 26 (u + 3) from if_neg (by omega)).trans c43
        obtain ⟨x, q, x1, x2, x3, x4, x5, x6⟩ := p_28 hfu hI hr2 hw2 W6 k1 k2 c53
        rw [show f_Re_plain val2 = f_M_kept val2 from rfl, x1, x3]
        exact ⟨x6, ⟨trivial, fun _ => ⟨i3, i2, oC1, y2, ob3, trivial, (fun z => nomatch z), fun _ => ⟨z2, ob5, x2⟩⟩, (fun z => nomatch z)⟩, ⟨trivial, fun _ => ⟨t2, vn, trivial, fun _ => ⟨y5, vu, trivial, fun _ => ⟨z5, v1, x4, x5⟩, (fun z => nomatch z)⟩, (fun z => nomatch z)⟩, (fun z => nomatch z)⟩⟩
      · rw [z1, z3, show cn1 .ne (b2i false) = false from rfl, cond_false]
        dsimp only
        obtain ⟨sf, P, o⟩ := p_fl W4 k1 k2 2 (by decide) (.inr (.inl (f_Re_plain 0))) rfl
        unfold t_Fo_readPart_26 w_Fo_readPart_26
        obtain ⟨-, -, a3, a4⟩ := p41_s (rec := rec) (wrec := wrec) (fu := fu) sf (k - 11) d (some N)
        rw [a3]
        exact ⟨P, ⟨trivial, fun _ => ⟨i3, i2, oC1, y2, ob3, trivial, (fun z => nomatch z), fun _ => ⟨z2, o, a4⟩⟩, (fun z => nomatch z)⟩, ⟨trivial, fun _ => ⟨t2, vn, trivial, fun _ => ⟨y5, vu, trivial, (fun z => nomatch z), fun _ => ⟨w_fails r4 2, trivial⟩⟩, (fun z => nomatch z)⟩, (fun z => nomatch z)⟩⟩
    · rw [y1, y3, show cn1 .ne (b2i false) = false from rfl, cond_false]
      dsimp only
      obtain ⟨sf, P, o⟩ := p_fl hW k1 k2 1 (by decide) (.inl (Int64.toInt32 0)) rfl
      unfold t_Fo_readPart_16 w_Fo_readPart_16
      obtain ⟨-, -, a3, a4⟩ := p41_s (rec := rec) (wrec := wrec) (fu := fu) sf (k - 11) d (some N)
      rw [sf, show cn1 .ne (b2i true) = true from rfl, cond_true, a3]
      exact ⟨P, ⟨trivial, fun _ => ⟨i3, i2, oC1, y2, o, trivial, fun _ => a4, (fun z => nomatch z)⟩, (fun z => nomatch z)⟩, ⟨trivial, fun _ => ⟨t2, vn, trivial, (fun z => nomatch z), fun _ => ⟨w_fails r2 2, trivial⟩⟩, (fun z => nomatch z)⟩⟩
  · rw [e1, e2]
    dsimp only
    unfold t_Fo_readPart_4 w_Fo_readPart_4 t_M_parsePart_3 w_M_parsePart_3
    rw [show cn1 .ne (b2i false) = false from rfl, cond_false, cond_false]
    exact ⟨PRd.ful h hz, ⟨trivial, (fun z => nomatch z), fun _ => trivial⟩, ⟨trivial, (fun z => nomatch z), fun _ => trivial⟩⟩
end PR2
