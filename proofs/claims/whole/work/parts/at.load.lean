/-! LOAD: the call -/
section LOAD
variable {G : AH} {T : Nat} {φ : Nat → Nat} {n u fu : Nat} {c r c1 r1 c2 r2 : St}
/-- what stays when a tape was read -/
theorem ld_fin (hV : CDV c1 r1) (hO : R_out c1 r1) (hl : R_last c1 r1) (h22 : sI c1 2 2 = 0) (hm : mE c c1) (hn : cE r r1) (h : RR G T φ n u c2 r2) (o1 : opC c1 c2) (o2 : opR r1 r2) (h11 : sI r2 21 11 = sI r1 21 11) : RL G T c2 (pI r2 21 23 0) ∧ mE c c2 ∧ cE r (pI r2 21 23 0) := by
  refine ⟨⟨φ, n, u, h.rI2 (k := 23) 0 (by decide), ?_, ?_, ?_, ?_⟩, hm.tr o1.en.mE, (hn.tr o2.en.cE).tr (cE_pI _ 23 0 (by decide))⟩
  · have V := hV.mv o1.en o2.en
    exact V
  · have e : sI c2 2 2 = 0 := (o1.1 2 2 (by decide) (by decide) (by decide)).trans h22
    refine ⟨e, show (0 : Int) ≤ (0 : Int32).toInt by decide, show (0 : Int32).toInt ≤ (2000 : Int) by decide, fun k hk => absurd hk ?_⟩
    rw [show (sI (pI r2 21 23 0) 21 23).toInt = 0 from rfl]
    omega
  · unfold R_out
    rw [show sI (pI r2 21 23 0) 21 24 = sI r2 21 24 from rfl, show sA (pI r2 21 23 0) 33 = sA r2 33 from rfl, o1.1 2 3 (by decide) (by decide) (by decide), o1.2.2.1 4 (by decide), o2.1 21 24 (fun _ => by decide), o2.2.2.1 33 (by decide) (by decide) (by decide)]
    exact hO
  · unfold R_last
    rw [show sI (pI r2 21 23 0) 21 13 = sI r2 21 13 from rfl, show sI (pI r2 21 23 0) 21 14 = sI r2 21 14 from rfl, show sI (pI r2 21 23 0) 21 11 = sI r2 21 11 from rfl, h11, o1.1 0 5 (by decide) (by decide) (by decide), o1.1 0 6 (by decide) (by decide) (by decide), o1.1 0 7 (by decide) (by decide) (by decide), o2.1 21 13 (fun _ => by decide), o2.1 21 14 (fun _ => by decide)]
    exact hl
theorem P_load (hfu : 1000000 ≤ fu) (h : RL G T c r) (a : Int32) : PC G T c r (f_H_load fu c a) (f_M_load fu r a) (w_H_load fu c a) (w_M_load fu r a) := by
  by_cases g1 : a.toInt < 0
  · have e1 : cn1 .lt a = true := by rw [c1_lt]; exact dt g1
    refine PC.no h (a := -1) (v := 0) ?_ ?_ ?_ ?_
    · unfold f_H_load; rw [e1, cond_true]
    · unfold f_M_load; rw [e1, cond_true]
    · unfold w_H_load; rw [e1]; exact ⟨fun _ => trivial, (fun z => nomatch z)⟩
    · unfold w_M_load; rw [e1]; exact ⟨fun _ => trivial, (fun z => nomatch z)⟩
  have e1 : cn1 .lt a = false := by rw [c1_lt]; exact df g1
  have q2 : cn2 .lt a 16 = decide (a.toInt < 16) := c2_lt a 16
  have q3 : cn2 .le a 15 = decide (a.toInt < 16) := by rw [c2_le, show ((15 : Int32).toInt) = 15 from rfl]; exact decide_eq_decide.mpr (by omega)
  by_cases g2 : ¬ a.toInt < 16
  · have e2 : cn2 .lt a 16 = false := by rw [q2]; exact df g2
    have e3 : cn2 .le a 15 = false := by rw [q3]; exact df g2
    refine PC.no h (a := -1) (v := 0) ?_ ?_ ?_ ?_
    · unfold f_H_load; rw [e1, cond_false, e2, cond_false]
    · unfold f_M_load; rw [e1, cond_false, e3, cond_false]
    · unfold w_H_load; rw [e1, e2]; exact ⟨(fun z => nomatch z), fun _ => ⟨(fun z => nomatch z), fun _ => trivial⟩⟩
    · unfold w_M_load; rw [e1, e3]; exact ⟨(fun z => nomatch z), fun _ => ⟨(fun z => nomatch z), fun _ => trivial⟩⟩
  have g2 : a.toInt < 16 := Decidable.not_not.mp g2
  have e2 : cn2 .lt a 16 = true := by rw [q2]; exact dt g2
  have e3 : cn2 .le a 15 = true := by rw [q3]; exact dt g2
  obtain ⟨φ, n, u, h1, h2, h3, h4, h5⟩ := h
  have vv : vp_in a 16 := vp_of (by omega) (by omega)
  have l1 : sI c 1 1 = sI r 21 15 := h1.2.1.2.2.2.1
  obtain ⟨t1, t2, t3, t4⟩ := h3
  obtain ⟨L, hL, hL2⟩ : ∃ L : Nat, sI r 21 23 = nI L ∧ L ≤ 2000 := ⟨(sI r 21 23).toNatClampNeg, nIof t2, by rw [tn_eq]; omega⟩
  have iL : (sI r 21 23).toInt = (L : Int) := by rw [hL]; exact yI_i (by omega)
  obtain ⟨r1, hr1⟩ : ∃ r1, r1 = pI (pI r 21 0 0) 21 30 0 := ⟨_, rfl⟩
  have n1 : cE r r1 := by rw [hr1]; exact (cE_pI r 0 0 (by decide)).tr (cE_pI _ 30 0 (by decide))
  by_cases gf : sI r 21 15 = 0
  · have ef : cn1 .eq (sI r 21 15) = true := by rw [gf]; rfl
    obtain ⟨c1, hc1⟩ : ∃ c1, c1 = pI (pI (f_Le_settle (pI c 2 2 0)) 2 5 0) 2 6 (sI c 2 2) := ⟨_, rfl⟩
    have hR1 : RR G T φ n u c1 r1 := by
      rw [hc1, hr1]
      exact (((((((h1.cI (a := 2) (k := 2) 0 (Or.inl (by decide))).cI (a := 1) (k := 3) 0 (Or.inr (by decide))).cI (a := 1) (k := 4) 0 (Or.inr (by decide))).cI (a := 1) (k := 5) 0 (Or.inr (by decide))).cI (a := 2) (k := 5) 0 (Or.inl (by decide))).cI (a := 2) (k := 6) _ (Or.inl (by decide))).rI2 (k := 0) 0 (by decide)).rI2 (k := 30) 0 (by decide)
    have m1 : mE c c1 := by
      rw [hc1]
      exact (((((mE_pI c 2 0 (by decide)).tr (mE_pI _ 3 0 (by decide))).tr (mE_pI _ 4 0 (by decide))).tr (mE_pI _ 5 0 (by decide))).tr (mE_pI _ 5 0 (by decide))).tr (mE_pI _ 6 _ (by decide))
    have hz1 : SZ c1 := by rw [hc1]; exact ⟨rfl, rfl, rfl⟩
    have V1 : CDV c1 r1 := by rw [hc1, hr1]; exact h2
    have O1 : R_out c1 r1 := by rw [hc1, hr1]; exact h4
    have L1 : R_last c1 r1 := by rw [hc1, hr1]; exact h5
    have z22 : sI c1 2 2 = 0 := by rw [hc1]; rfl
    have hP : PL L 0 c1 r1 := by
      refine ⟨by rw [hc1]; rfl, by rw [hr1]; rfl, ?_, ?_, Nat.zero_le _, hL2, fun k hk => ?_⟩
      · rw [hc1]; exact t1.trans hL
      · rw [hr1]; exact hL
      · rw [hc1, hr1]; exact t4 k (by omega)
    obtain ⟨P, w1, w2⟩ := ld_all (G := G) (T := T) hfu 30 (by decide) 96 64 (by decide) (by decide) φ n u L 0 c1 r1 hR1 hz1 hP
    rw [show nI (31 - 30) = 1 from rfl] at P w1 w2
    obtain ⟨x, hx⟩ : ∃ x, x = (F_read fu 96).1 c1 1 := ⟨_, rfl⟩
    obtain ⟨q, hq⟩ : ∃ q, q = (F_parse fu 64).1 r1 1 := ⟨_, rfl⟩
    rw [← hx, ← hq] at P
    obtain ⟨n', u', gg, rc, sr, o1, o2, th, ne2, ok⟩ := P
    have eH : f_H_load fu c a = t_H_load_28 fu x.2 a x.1 := by
      unfold f_H_load; rw [e1, cond_false, e2, cond_true, l1, ef, cond_true]
      unfold t_H_load_24 f_Fo_readTape
      rw [← hc1, ← hx]
    have wH : w_H_load_28 fu x.2 a x.1 → w_H_load fu c a := fun w => by
      unfold w_H_load; rw [e1, e2, l1, ef]
      refine ⟨(fun z => nomatch z), fun _ => ⟨fun _ => ⟨fun _ => ⟨trivial, ?_⟩, (fun z => nomatch z)⟩, (fun z => nomatch z)⟩⟩
      unfold w_H_load_24 f_Fo_readTape w_Fo_readTape
      rw [← hc1, ← hx]
      exact ⟨⟨w1, trivial⟩, w⟩
    have eM : f_M_load fu r a = t_M_load_21 fu q.2 a q.1 := by
      unfold f_M_load; rw [e1, cond_false, e3, cond_true, ef, cond_true, ← hr1, ← hq]
    have wM : w_M_load_21 fu q.2 a q.1 → w_M_load fu r a := fun w => by
      unfold w_M_load; rw [e1, e3, ef, ← hr1, ← hq]
      exact ⟨(fun z => nomatch z), fun _ => ⟨fun _ => ⟨fun _ => ⟨w2, w⟩, (fun z => nomatch z)⟩, (fun z => nomatch z)⟩⟩
    have s3 : sI x.2 1 3 = q.1 := sr.1
    have b3 : cn2 .ne q.1 3 = decide (¬ q.1 = 3) := by rw [c2_ne]; exact decide_eq_decide.mpr ⟨fun z y => z (by rw [y]), fun z y => z (Int32.toInt_inj.mp y)⟩
    have b1 : cn2 .ne q.1 1 = decide (¬ q.1 = 1) := by rw [c2_ne]; exact decide_eq_decide.mpr ⟨fun z y => z (by rw [y]), fun z y => z (Int32.toInt_inj.mp y)⟩
    have k11 : sI q.2 21 11 = sI r1 21 11 := gg.2.2.2.2.2.2.2.2
    unfold PC
    rw [eH, eM]
    by_cases k3 : q.1 = 3
    · obtain ⟨y1, y2, y3⟩ := ld_fin V1 O1 L1 z22 m1 n1 (hR1.die gg rc) o1 o2 k11
      have j3 : cn2 .ne q.1 3 = false := by rw [b3]; exact df (fun z => z k3)
      have eA : t_H_load_28 fu x.2 a x.1 = (9, x.2) := by
        unfold t_H_load_28; rw [s3, j3, cond_false]
      have eB : t_M_load_21 fu q.2 a q.1 = (9, pI q.2 21 23 0) := by
        unfold t_M_load_21; rw [j3, cond_false]
      rw [eA, eB]
      refine ⟨wH ?_, wM ?_, rfl, y1, y2, y3⟩
      · unfold w_H_load_28; rw [s3, j3]; exact ⟨(fun z => nomatch z), fun _ => trivial⟩
      · unfold w_M_load_21; rw [j3]; exact ⟨(fun z => nomatch z), fun _ => trivial⟩
    have j3 : cn2 .ne q.1 3 = true := by rw [b3]; exact dt k3
    by_cases k1 : q.1 = 1
    · obtain ⟨y1, y2, y3⟩ := ld_fin V1 O1 L1 z22 m1 n1 (hR1.die gg rc) o1 o2 k11
      have j1 : cn2 .ne q.1 1 = false := by rw [b1]; exact df (fun z => z k1)
      have e14 : sI x.2 1 4 = sI q.2 21 9 := by
        rcases sr.2 with z | z | z | z
        · exact absurd (k1.symm.trans z.1) (by decide)
        · exact z.2.1
        · exact absurd (k1.symm.trans z.1) (by decide)
        · exact absurd (k1.symm.trans z.1) (by decide)
      have eA : t_H_load_28 fu x.2 a x.1 = (sI x.2 1 4, x.2) := by
        unfold t_H_load_28; rw [s3, j3, cond_true, j1, cond_false]
      have eB : t_M_load_21 fu q.2 a q.1 = (sI q.2 21 9, pI q.2 21 23 0) := by
        unfold t_M_load_21; rw [j3, cond_true, j1, cond_false]
      rw [eA, eB]
      refine ⟨wH ?_, wM ?_, e14, y1, y2, y3⟩
      · unfold w_H_load_28; rw [s3, j3, j1]; exact ⟨fun _ => ⟨(fun z => nomatch z), fun _ => trivial⟩, (fun z => nomatch z)⟩
      · unfold w_M_load_21; rw [j3, j1]; exact ⟨fun _ => ⟨(fun z => nomatch z), fun _ => trivial⟩, (fun z => nomatch z)⟩
    have j1 : cn2 .ne q.1 1 = true := by rw [b1]; exact dt k1
    have k0 : q.1 = 0 := by
      rcases sr.four with z | z | z | z
      · exact z
      · exact absurd z k1
      · exact absurd z ne2
      · exact absurd z k3
    obtain ⟨φ', v, p', hR2, -, hv, ex, ev, -⟩ := ok k0
    obtain ⟨y1, y2, y3⟩ := ld_fin V1 O1 L1 z22 m1 n1 hR2 o1 o2 k11
    have eA : t_H_load_28 fu x.2 a x.1 = (0, pT x.2 11 (va_up (sT x.2 11) a.toNatClampNeg (po φ' v))) := by
      unfold t_H_load_28; rw [s3, j3, cond_true, j1, cond_true, ex]
    have eB : t_M_load_21 fu q.2 a q.1 = (0, pA (pI q.2 21 23 0) 27 (upd (sA (pI q.2 21 23 0) 27) a.toNatClampNeg (nI v))) := by
      unfold t_M_load_21; rw [j3, cond_true, j1, cond_true, ev]; rfl
    rw [eA, eB]
    refine ⟨wH ?_, wM ?_, rfl, ?_, y2.tr (mE_pT _ _ (by decide)), y3.tr (cE_pA _ _ (by decide))⟩
    · unfold w_H_load_28; rw [s3, j3, j1]; exact ⟨fun _ => ⟨fun _ => ⟨vv, th, trivial⟩, (fun z => nomatch z)⟩, (fun z => nomatch z)⟩
    · unfold w_M_load_21; rw [j3, j1]; exact ⟨fun _ => ⟨fun _ => ⟨vv, trivial⟩, (fun z => nomatch z)⟩, (fun z => nomatch z)⟩
    · obtain ⟨-, -, -, -, v2, v3, v4, v5⟩ := y1
      exact ⟨φ', n', u', (hR2.rI2 (k := 23) 0 (by decide)).slot hv, v2, v3, v4, v5⟩
  · have ef : cn1 .eq (sI r 21 15) = false := by rw [c1_eq]; exact df (fun y => gf (Int32.toInt_inj.mp (by rw [y]; rfl)))
    have eM : f_M_load fu r a = (9, pI r1 21 23 0) := by
      unfold f_M_load; rw [e1, cond_false, e3, cond_true, ef, cond_false, ← hr1]; rfl
    have eH : f_H_load fu c a = (9, pI c 2 2 0) := by
      unfold f_H_load; rw [e1, cond_false, e2, cond_true, l1, ef, cond_false]
    obtain ⟨y1, y2, y3⟩ := ld_fin (c := c) (r := r) (c1 := pI c 2 2 0) (r1 := r1) (c2 := pI c 2 2 0) (r2 := r1) (by rw [hr1]; exact h2) (by rw [hr1]; exact h4) (by rw [hr1]; exact h5) rfl (mE_pI c 2 0 (by decide)) n1 (show RR G T φ n u (pI c 2 2 0) r1 by rw [hr1]; exact ((h1.cI (a := 2) (k := 2) 0 (Or.inl (by decide))).rI2 (k := 0) 0 (by decide)).rI2 (k := 30) 0 (by decide)) (opC.rf _) (opR.rf _) rfl
    unfold PC
    rw [eH, eM]
    refine ⟨?_, ?_, rfl, y1, y2, y3⟩
    · unfold w_H_load; rw [e1, e2, l1, ef]
      exact ⟨(fun z => nomatch z), fun _ => ⟨fun _ => ⟨(fun z => nomatch z), fun _ => trivial⟩, (fun z => nomatch z)⟩⟩
    · unfold w_M_load; rw [e1, e3, ef]
      refine ⟨(fun z => nomatch z), fun _ => ⟨fun _ => ⟨(fun z => nomatch z), fun _ => ?_⟩, (fun z => nomatch z)⟩⟩
      unfold w_M_load_21
      rw [show cn2 .ne (3 : Int32) 3 = false from rfl]
      exact ⟨(fun z => nomatch z), fun _ => trivial⟩
end LOAD
