/-! SAVE: the call -/
section SAVE
variable {G : AH} {T : Nat} {φ : Nat → Nat} {n u fu : Nat} {c r c1 r1 c2 r2 : St}
theorem fwC.mE {c c' : St} (h : fwC c c') : mE c c' := fun a ha => ⟨fun k => h.1 a k (by omega), h.2.1 a, h.2.2.1 a (by omega), h.2.2.2.1 a, h.2.2.2.2.1 a⟩
theorem fwR.cE {r r' : St} (h : fwR r r') : cE r r' := ⟨fun a ha => ⟨fun k => h.1 a k (by omega), h.2.1 a, h.2.2.1 a (by omega), h.2.2.2.1 a, h.2.2.2.2.1 a⟩, h.2.2.2.2.2.1, h.2.2.2.2.2.2.1, h.2.2.2.2.2.2.2⟩
theorem sv_fin (h : RR G T φ n u c1 r1) (hV : CDV c1 r1) (hT : R_tape c1 r1) (hl : R_last c1 r1) (hm : mE c c1) (hn : cE r r1) (f1 : fwC c1 c2) (f2 : fwR r1 r2) (hO : R_out c2 r2) : RL G T c2 r2 ∧ mE c c2 ∧ cE r r2 := by
  refine ⟨⟨φ, n, u, h.fw f1 f2, ?_, ?_, hO, ?_⟩, hm.tr f1.mE, hn.tr f2.cE⟩
  · unfold CDV
    rw [f1.2.2.1 6 (by decide), f1.2.2.1 7 (by decide), f2.2.2.1 30 (by decide), f2.2.2.1 31 (by decide)]
    exact hV
  · unfold R_tape
    rw [f1.1 2 2 (by decide), f1.2.2.1 3 (by decide), f2.1 21 23 (by decide), f2.2.2.1 32 (by decide)]
    exact hT
  · unfold R_last
    rw [f1.1 0 5 (by decide), f1.1 0 6 (by decide), f1.1 0 7 (by decide), f2.1 21 13 (by decide), f2.1 21 14 (by decide), f2.1 21 11 (by decide)]
    exact hl
theorem P_save (hfu : 1000000 ≤ fu) (h : RL G T c r) (a : Int32) : PC G T c r (f_H_save fu c a) (f_M_save fu r a) (w_H_save fu c a) (w_M_save fu r a) := by
  by_cases g1 : a.toInt < 0
  · have e1 : cn1 .lt a = true := by rw [c1_lt]; exact dt g1
    refine PC.no h (a := -1) (v := 0) ?_ ?_ ?_ ?_
    · unfold f_H_save; rw [e1, cond_true]
    · unfold f_M_save; rw [e1, cond_true]
    · unfold w_H_save; rw [e1]; exact ⟨fun _ => trivial, (fun z => nomatch z)⟩
    · unfold w_M_save; rw [e1]; exact ⟨fun _ => trivial, (fun z => nomatch z)⟩
  have e1 : cn1 .lt a = false := by rw [c1_lt]; exact df g1
  have q2 : cn2 .lt a 16 = decide (a.toInt < 16) := c2_lt a 16
  have q3 : cn2 .le a 15 = decide (a.toInt < 16) := by rw [c2_le, show ((15 : Int32).toInt) = 15 from rfl]; exact decide_eq_decide.mpr (by omega)
  by_cases g2 : ¬ a.toInt < 16
  · have e2 : cn2 .lt a 16 = false := by rw [q2]; exact df g2
    have e3 : cn2 .le a 15 = false := by rw [q3]; exact df g2
    refine PC.no h (a := -1) (v := 0) ?_ ?_ ?_ ?_
    · unfold f_H_save; rw [e1, cond_false, e2, cond_false]
    · unfold f_M_save; rw [e1, cond_false, e3, cond_false]
    · unfold w_H_save; rw [e1, e2]; exact ⟨(fun z => nomatch z), fun _ => ⟨(fun z => nomatch z), fun _ => trivial⟩⟩
    · unfold w_M_save; rw [e1, e3]; exact ⟨(fun z => nomatch z), fun _ => ⟨(fun z => nomatch z), fun _ => trivial⟩⟩
  have g2 : a.toInt < 16 := Decidable.not_not.mp g2
  have e2 : cn2 .lt a 16 = true := by rw [q2]; exact dt g2
  have e3 : cn2 .le a 15 = true := by rw [q3]; exact dt g2
  obtain ⟨φ, n, u, h1, h2, h3, h4, h5⟩ := h
  have vv : vp_in a 16 := vp_of (by omega) (by omega)
  obtain ⟨v, hv, v1, v2⟩ := h1.2.2.2.2.1 a.toNatClampNeg (by rw [tn_eq]; omega)
  replace v1 : sA r 27 a.toNatClampNeg = nI v := v1
  obtain ⟨c0, hc0⟩ : ∃ c0, c0 = pI (pI c 2 3 0) 2 7 0 := ⟨_, rfl⟩
  obtain ⟨r0, hr0⟩ : ∃ r0, r0 = pI (pI r 21 0 0) 21 24 0 := ⟨_, rfl⟩
  have R0 : RR G T φ n u c0 r0 := by
    rw [hc0, hr0]
    exact (((h1.cI (a := 2) (k := 3) 0 (Or.inl (by decide))).cI (a := 2) (k := 7) 0 (Or.inl (by decide))).rI2 (k := 0) 0 (by decide)).rI2 (k := 24) 0 (by decide)
  have V0 : CDV c0 r0 := by rw [hc0, hr0]; exact h2
  have T0 : R_tape c0 r0 := by rw [hc0, hr0]; exact h3
  have L0 : R_last c0 r0 := by rw [hc0, hr0]; exact h5
  have O0 : R_out c0 r0 := by
    rw [hc0, hr0]
    refine ⟨rfl, show (0 : Int) ≤ (0 : Int32).toInt by decide, show (0 : Int32).toInt ≤ (2000 : Int) by decide, fun k hk => absurd hk ?_⟩
    rw [show (sI (pI (pI r 21 0 0) 21 24 0) 21 24).toInt = 0 from rfl]
    omega
  have m0 : mE c c0 := by rw [hc0]; exact (mE_pI c 3 0 (by decide)).tr (mE_pI _ 7 0 (by decide))
  have n0 : cE r r0 := by rw [hr0]; exact (cE_pI r 0 0 (by decide)).tr (cE_pI _ 24 0 (by decide))
  obtain ⟨W, w1, w2⟩ := sv_all (G := G) (T := T) hfu 30 (by decide) 64 32 (by decide) (by decide) φ n u v c0 r0 R0 O0 (by rw [hc0]; rfl) hv
  rw [show nI (31 - 30) = 1 from rfl] at W w1 w2
  obtain ⟨x, hx⟩ : ∃ x, x = (F_wr fu 64).1 c0 (po φ v) 1 := ⟨_, rfl⟩
  obtain ⟨q, hq⟩ : ∃ q, q = F_write fu 32 r0 (nI v) 1 := ⟨_, rfl⟩
  rw [← hx, ← hq] at W
  have eH : f_H_save fu c a = t_Fo_writeOut_10 fu x := by
    unfold f_H_save; rw [e1, cond_false, e2, cond_true, v2]
    unfold f_Fo_writeOut
    rw [← hc0, ← hx]
  have wH : w_H_save fu c a := by
    unfold w_H_save; rw [e1, e2, v2]
    refine ⟨(fun z => nomatch z), fun _ => ⟨fun _ => ⟨vv, ?_, trivial⟩, (fun z => nomatch z)⟩⟩
    unfold w_Fo_writeOut
    rw [← hc0]
    exact ⟨w1, trivial⟩
  have eM : f_M_save fu r a = t_M_save_20 fu q.2 q.1 := by
    unfold f_M_save; rw [e1, cond_false, e3, cond_true, v1, ← hr0, ← hq]
  have wM : w_M_save fu r a := by
    unfold w_M_save; rw [e1, e3, v1, ← hr0, ← hq]
    exact ⟨(fun z => nomatch z), fun _ => ⟨fun _ => ⟨vv, w2, fun _ => trivial, fun _ => trivial⟩, (fun z => nomatch z)⟩⟩
  obtain ⟨f1, f2, s7, s3, hO⟩ := W
  unfold PC
  rw [eH, eM]
  by_cases g : q.1 = 0
  · have hO := hO g
    obtain ⟨y1, y2, y3⟩ := sv_fin R0 V0 T0 L0 m0 n0 f1 f2 hO
    have eA : t_Fo_writeOut_10 fu x = (sI x 2 3, x) := by
      unfold t_Fo_writeOut_10
      rw [s7, g, show cn1 .eq (0 : Int32) = true from rfl, cond_true]
    have eB : t_M_save_20 fu q.2 q.1 = (sI q.2 21 24, q.2) := by
      unfold t_M_save_20 t_M_save_26
      rw [g, show cn1 .le (0 : Int32) = true from rfl, cond_true, cond_true]
    rw [eA, eB]
    exact ⟨wH, wM, hO.1, y1, y2, y3⟩
  · have lg : cn1 .eq q.1 = false ∧ cn1 .le q.1 = false := by
      rcases s3 with z | z | z
      · exact absurd z g
      · rw [z]; exact ⟨rfl, rfl⟩
      · rw [z]; exact ⟨rfl, rfl⟩
    have hO2 : R_out (pI x 2 3 0) (pI q.2 21 24 0) := by
      refine ⟨rfl, show (0 : Int) ≤ (0 : Int32).toInt by decide, show (0 : Int32).toInt ≤ (2000 : Int) by decide, fun k hk => absurd hk ?_⟩
      rw [show (sI (pI q.2 21 24 0) 21 24).toInt = 0 from rfl]
      omega
    obtain ⟨y1, y2, y3⟩ := sv_fin R0 V0 T0 L0 m0 n0 (f1.tr (fwC_I x (Or.inl rfl) 0)) (f2.tr (fwR_I q.2 0)) hO2
    have eA : t_Fo_writeOut_10 fu x = (-1 - q.1, pI x 2 3 0) := by
      unfold t_Fo_writeOut_10
      rw [s7, lg.1, cond_false]
    have eB : t_M_save_20 fu q.2 q.1 = (-1 - q.1, pI q.2 21 24 0) := by
      unfold t_M_save_20 t_M_save_26
      rw [lg.2, cond_false, cond_false]
    rw [eA, eB]
    exact ⟨wH, wM, rfl, y1, y2, y3⟩
end SAVE
