/-! A SCOPE: from a part to the last one -/
def btf (r : St) (a : Nat) : Bool := cn2 .ne ((sA r 30 (a + 1) >>> ((sI r 21 9 - 1) &&& 31)) &&& 1) 1
section TA
variable {G : AH} {T : Nat} {φ : Nat → Nat} {n u fu deep dd d e a b k t m : Nat} {c : St} {Q : Int32 × St} {va vb : Int32}
theorem stl_RR {φ : Nat → Nat} {n u : Nat} {c r : St} (h : RR G T φ n u c r) : RR G T φ n u (f_Le_settle c) r := ((h.cI (a := 1) (k := 3) _ (Or.inr (by decide))).cI (a := 1) (k := 4) _ (Or.inr (by decide))).cI (a := 1) (k := 5) _ (Or.inr (by decide))
theorem stl_op (c : St) : opC c (f_Le_settle c) := ((opC_1 _ _ _).tr (opC_1 _ _ _)).tr (opC_1 _ _ _)
theorem ta_go (hS : SP G T fu m) {xa l6 : Nat} (h : RR G T φ n u c Q.2) (hs : SR Q.1 c Q.2) (hV : CDV c Q.2) (hf : Q.1 = 0 ∨ Q.1 = 1 → sI c 12 12 = nI (d + 2) ∧ sI c 12 13 = nI deep ∧ sI Q.2 21 25 = nI deep ∧ sI Q.2 21 26 = nI (e + 1) ∧ sA c 14 (d + 1) = va ∧ (sA c 13 (d + 1) = 3 ∨ sA c 13 (d + 1) = 4) ∧ (t : Int) + 5 * (sI Q.2 21 11).toInt ≤ 100098) (h0 : Q.1 = 0 → sA c 15 (d + 1) = sA c 16 (d + 1)) (h1 : Q.1 = 1 → sA c 13 (d + 1) = 4 ∨ (sA c 13 (d + 1) = 3 ∧ btf Q.2 a = true)) (tt : t ≤ 150000)
    (hx : (va + 7 + sA Q.2 30 (a + 4) + sA Q.2 30 (a + 5)).toInt = (xa : Int)) (L6 : (sA Q.2 30 (a + 6)).toInt = (l6 : Int)) (hxl : xa + l6 ≤ 3200) (hPV : PV (sA Q.2 30) k dd xa (xa + l6)) (d1 : 1 ≤ deep) (d2 : deep ≤ 12) (d3 : dd ≤ 10) (d4 : d + 1 + dd + 1 ≤ 11 * deep) (d5 : e ≤ d) (hm : 22 * (12 - deep) + 2 * dd + 2 ≤ m) (hva : va.toInt = (a : Int)) (ha : a + 6 < 3200) :
    w_M_scope_177 (F_part fu m) (W_part fu m) fu Q.2 va Q.1 (va + 7 + sA Q.2 30 (a + 4) + sA Q.2 30 (a + 5)) ∧ ∃ c' t', PX G T φ n d e (t + 2) c Q.2 (t_M_scope_177 (F_part fu m) fu Q.2 va Q.1 (va + 7 + sA Q.2 30 (a + 4) + sA Q.2 30 (a + 5))) c' t' ∧ ∀ y, RES fu c' t' y → RES fu c t y := by
  have f0 := h.2.2.1.2
  have ed : (nI (d + 1)).toNatClampNeg = d + 1 := nN (by omega)
  have vd : vp_in (nI (d + 1)) 132 := vp_of (by rw [yI_i (by omega)]; omega) (by rw [yI_i (by omega)]; omega)
  by_cases st : Q.1 = 0 ∨ Q.1 = 1
  · obtain ⟨i1, i2, i3, i4, i5, i6, i7⟩ := hf st
    -- from the state where the last part is begun
    have fin : ∀ (c1 : St) (hk hn : Int32), RR G T φ n u c1 Q.2 → SZ c1 → opC c c1 → ((Q.1 = 0 ∧ hk = 0) ∨ (Q.1 = 1 ∧ hk = sI Q.2 21 9 ∧ hn = sI Q.2 21 10 ∧ 1 ≤ (sI Q.2 21 9).toInt ∧ (sI Q.2 21 9).toInt ≤ 8)) → (w_En_beginAlways c1 (nI (d + 1)) hk hn → ∀ y, RES fu (f_En_beginAlways c1 (nI (d + 1)) hk hn) (t + 1) y → RES fu c t y) → w_M_scope_177 (F_part fu m) (W_part fu m) fu Q.2 va Q.1 (va + 7 + sA Q.2 30 (a + 4) + sA Q.2 30 (a + 5)) ∧ ∃ c' t', PX G T φ n d e (t + 2) c Q.2 (t_M_scope_177 (F_part fu m) fu Q.2 va Q.1 (va + 7 + sA Q.2 30 (a + 4) + sA Q.2 30 (a + 5))) c' t' ∧ ∀ y, RES fu c' t' y → RES fu c t y := fun c1 hk hn r1 z1 oc held stp => by
      have hV1 : CDV c1 Q.2 := hV.mv oc.en (opR.rf Q.2).en
      have A1 : ∀ k, 13 ≤ k → k ≤ 18 → sA c1 k = sA c k := fun k x1 x2 => oc.2.2.1 k (by omega)
      obtain ⟨bw, c2, b1, b2, b3, b4, b5, b6, b7, b8⟩ := ba (G := G) (T := T) (c := c1) (r := Q.2) (d := d + 1) (a := a) (va := va) (by omega) hV1.1 (by rw [A1 14 (by decide) (by decide)]; exact i5) hva ha hk hn
      obtain ⟨w, c', t', W, hy⟩ := al_go (G := G) (T := T) (d := d) (e := e) (t := t + 1) (c := c2) (r := Q.2) (st := Q.1) (va := va) (a := a) hS (b2 r1) ⟨(b5 3).trans z1.1, (b5 4).trans z1.2.1, (b5 5).trans z1.2.2⟩ (hV1.mv b3 (opR.rf Q.2).en) (((b4 12).trans (oc.st 0).1).trans i1) (((b4 13).trans (oc.st 0).2.1).trans i2) i3 i4 hx L6 hxl hPV b6.2.2.1 b6.2.2.2.1 b6.1 (by
        rcases held with z | z
        · exact Or.inl ⟨z.1, b6.2.2.2.2.1.trans z.2⟩
        · exact Or.inr ⟨z.1, b6.2.2.2.2.1.trans z.2.1, b6.2.2.2.2.2.trans z.2.2.1, z.2.2.2⟩) d1 d2 d3 d4 d5 (by omega) hm hva ha
      refine ⟨w, c', t', ?_, fun y hh => stp bw y (b1.symm ▸ hy y hh)⟩
      exact PX.tr (t1 := t + 1 + 1) (EX.rf φ n) (oc.en.tr b3) (opR.rf Q.2).en ((b4 13).trans (oc.st 0).2.1) (fun a k x1 x2 hk => by rw [b7 a k (by omega), A1 a x1 x2]) (fun k _ => by rw [b8, b8, oc.2.2.2.2 19 (by decide), oc.2.2.2.2 20 (by decide)]; exact ⟨rfl, rfl⟩) rfl (fun _ _ => ⟨rfl, rfl⟩) (by omega) W
    rcases st with z | z
    · have hz : SZ c := SR.s0 (z ▸ hs)
      refine fin c 0 0 h hz (opC.rf c) (Or.inl ⟨z, rfl⟩) (fun bw y hy => ?_)
      refine en_l (d := d + 1) (by omega) i1 hz.1 (by omega) (by rw [h0 z]; exact Int.le_refl _) ?_ ?_
      · unfold w_En_leave
        rw [ed]
        rcases i6 with w | w
        · exact ⟨vd, fun q => absurd (w.symm.trans q) (by decide), fun _ => ⟨fun _ => ⟨bw, trivial⟩, fun q => absurd w q⟩⟩
        · exact ⟨vd, fun q => absurd (w.symm.trans q) (by decide), fun _ => ⟨fun q => absurd (w.symm.trans q) (by decide), fun _ => ⟨fun _ => ⟨bw, trivial⟩, fun q => absurd w q⟩⟩⟩
      · unfold f_En_leave
        rcases i6 with w | w
        · rw [ed, if_neg (by rw [w]; decide), if_pos w]
          exact hy
        · rw [ed, if_neg (by rw [w]; decide), if_neg (by rw [w]; decide), if_pos w]
          exact hy
    · obtain ⟨s1, s2⟩ := hs
      rw [z] at s1 s2
      have s3 : sI c 1 4 = sI Q.2 21 9 ∧ sI c 1 5 = sI Q.2 21 10 ∧ 1 ≤ (sI Q.2 21 9).toInt ∧ (sI Q.2 21 9).toInt ≤ 8 := by
        rcases s2 with w | w | w | w
        · exact absurd w.1 (by decide)
        · exact w.2
        · exact absurd w.1 (by decide)
        · exact absurd w.1 (by decide)
      refine fin (f_Le_settle c) (sI Q.2 21 9) (sI Q.2 21 10) (stl_RR h) ⟨rfl, rfl, rfl⟩ (stl_op c) (Or.inr ⟨z, rfl, rfl, s3.2.2⟩) (fun bw y hy => ?_)
      have x1 : (va + 1).toInt = ((a + 1 : Nat) : Int) := (i_addy (y := 1) hva (show ((1 : Int32).toInt) = 1 from rfl) (by omega) (by omega)).trans (by omega)
      obtain ⟨y1, z1⟩ := be_C (c := f_Le_settle c) (r := Q.2) hV.1 x1 (by omega)
      have e27 : t_En_leaveByFault_27 fu (f_Le_settle c) (nI (d + 1)) (sI Q.2 21 9) (sI Q.2 21 10) = f_En_beginAlways (f_Le_settle c) (nI (d + 1)) (sI Q.2 21 9) (sI Q.2 21 10) ∧ w_En_leaveByFault_27 fu (f_Le_settle c) (nI (d + 1)) (sI Q.2 21 9) (sI Q.2 21 10) := by
        unfold t_En_leaveByFault_27 w_En_leaveByFault_27 t_En_leaveByFault_55
        rw [ed, show sA (f_Le_settle c) 13 (d + 1) = sA c 13 (d + 1) from rfl, show sA (f_Le_settle c) 14 (d + 1) = sA c 14 (d + 1) from rfl, i5, y1]
        rcases h1 z with w | ⟨w, wb⟩
        · rw [w, show cn2 .ne (4 : Int32) 3 = true from rfl]
          exact ⟨rfl, vd, fun _ => ⟨bw, trivial⟩, (fun q => nomatch q)⟩
        · unfold btf at wb
          rw [w, show cn2 .ne (3 : Int32) 3 = false from rfl, wb]
          exact ⟨rfl, vd, (fun q => nomatch q), fun _ => ⟨vd, z1, fun _ => ⟨bw, trivial⟩, (fun q => nomatch q)⟩⟩
      refine en_f (d := d + 1) (by omega) i1 s1 (by omega) ?_ ?_
      · unfold w_En_leaveByFault w_En_leaveByFault_24
        rw [ed, s3.1, s3.2.1]
        rcases i6 with w | w
        · rw [w, show cn2 .eq (3 : Int32) 3 = true from rfl]
          exact ⟨vd, fun _ => ⟨trivial, e27.2⟩, (fun q => nomatch q)⟩
        · rw [w, show cn2 .eq (4 : Int32) 3 = false from rfl, show cn2 .eq (4 : Int32) 4 = true from rfl]
          exact ⟨vd, (fun q => nomatch q), fun _ => ⟨vd, fun _ => ⟨trivial, e27.2⟩, (fun q => nomatch q)⟩⟩
      · unfold f_En_leaveByFault t_En_leaveByFault_24
        rw [ed, s3.1, s3.2.1, e27.1]
        rcases i6 with w | w
        · rw [w, show cn2 .eq (3 : Int32) 3 = true from rfl, cond_true]
          exact hy
        · rw [w, show cn2 .eq (4 : Int32) 3 = false from rfl, show cn2 .eq (4 : Int32) 4 = true from rfl, cond_false, cond_true]
          exact hy
  · have g2 : cn2 .ge Q.1 2 = true := by
      rcases hs.four with w | w | w | w
      · exact absurd (Or.inl w) st
      · exact absurd (Or.inr w) st
      · rw [w]; rfl
      · rw [w]; rfl
    obtain ⟨rF, hrF⟩ : ∃ rF, rF = pI Q.2 21 26 (sI Q.2 21 26 - 1) := ⟨_, rfl⟩
    have eT : t_M_scope_177 (F_part fu m) fu Q.2 va Q.1 (va + 7 + sA Q.2 30 (a + 4) + sA Q.2 30 (a + 5)) = (Q.1, rF) := by
      unfold t_M_scope_177 t_M_scope_209
      rw [g2, cond_true, hrF]
    rw [eT]
    have IF : ∀ k, k ≠ 26 → sI rF 21 k = sI Q.2 21 k := fun k k3 => by rw [hrF, sI_pI, if_pos rfl, if_neg k3]
    refine ⟨?_, c, t, ⟨φ, n, u, ?_, EX.rf _ _, hs.mv (fun _ => rfl) (IF 9 (by decide)) (IF 10 (by decide)), enC.rf _, ?_, tt, fun z => absurd z st⟩, fun y hy => hy⟩
    · unfold w_M_scope_177
      rw [g2]
      exact ⟨fun _ => trivial, (fun q => nomatch q)⟩
    · rw [hrF]
      exact h.rI (k := 26) _ (Or.inr (Or.inr (by decide)))
    · rw [hrF]
      exact enR_I _ (Or.inr rfl) _
end TA
