/-! A PATCH CALLED -/
theorem fr_up {d e : Nat} {c c' : St} (h : stC (d + 1) c c') : sA c' 13 d = sA c 13 d ∧ sA c' 14 d = sA c 14 d ∧ sA c' 15 d = sA c 15 d ∧ sA c' 16 d = sA c 16 d := ⟨h.2.2.1 13 d (by decide) (by decide) (by omega), h.2.2.1 14 d (by decide) (by decide) (by omega), h.2.2.1 15 d (by decide) (by decide) (by omega), h.2.2.1 16 d (by decide) (by decide) (by omega)⟩
theorem w_fault8 (c : St) : w_Le_fault c 8 := ⟨trivial, fun _ => trivial, fun _ => ⟨trivial, trivial⟩⟩
theorem SR.ge2 {st : Int32} {c r : St} (h : SR st c r) (h0 : ¬ st = 0) (h1 : ¬ st = 1) : sI c 1 3 = 2 ∨ sI c 1 3 = 3 := by
  rcases h.four with g | g | g | g
  · exact absurd g h0
  · exact absurd g h1
  · exact Or.inl (h.1.trans g)
  · exact Or.inr (h.1.trans g)
section PTC
variable {G : AH} {T : Nat} {φ : Nat → Nat} {n u fu deep d e p t m : Nat} {c r : St} {vp : Int32}
theorem pt_go (hP : SP G T fu m) (h : RR G T φ n u c r) (hz : SZ c) (hV : CDV c r) (h1 : sI c 12 12 = nI (d + 1)) (h2 : sI c 12 13 = nI deep) (h3 : sI r 21 25 = nI deep) (h4 : sI r 21 26 = nI e) (hp : vp.toInt = (p : Int)) (hp2 : p ≤ 15) (d1 : 1 ≤ deep) (d2 : deep ≤ 12) (d3 : d + 1 ≤ 11 * deep) (d4 : e ≤ d) (ht : (t : Int) + 5 * (sI r 21 11).toInt + 1 ≤ 100100) (hm : 22 * (12 - deep) ≤ m) :
    w_M_patches (F_part fu m) (W_part fu m) fu r vp ∧ w_En_beginPatch c vp ∧ ∃ c' t', PO G T φ n d e (t + 1) (sA c 15 d) c r (f_M_patches (F_part fu m) fu r vp) c' t' ∧ ∀ y, RES fu c' t' y → RES fu (f_En_beginPatch c vp) t y := by
  have f0 := h.2.2.1.2
  have ep : vp.toNatClampNeg = p := by rw [tn_eq, hp]; omega
  have vv : vp_in vp 16 := vp_of (by omega) (by omega)
  by_cases dp : deep = 12
  · have c12 : cn2 .lt (sI c 12 13) 12 = false := by rw [h2, dp]; rfl
    have r12 : cn2 .ne (sI r 21 25) 12 = false := by rw [h3, dp]; rfl
    obtain ⟨φ', n', u', f1, f2, f3, f4, f5⟩ := fl_out h hz (k := 8) (by decide) (by decide)
    refine ⟨?_, ?_, f_Le_fault c 8, t, ?_, fun y hy => ?_⟩
    · unfold w_M_patches
      rw [r12]
      exact ⟨(fun z => nomatch z), fun _ => ⟨w_fails r 8, trivial⟩⟩
    · unfold w_En_beginPatch
      rw [c12]
      exact ⟨(fun z => nomatch z), fun _ => ⟨w_fault8 c, trivial⟩⟩
    · unfold f_M_patches
      rw [r12, cond_false]
      have k := f5.2.2.2.2.2.2.2.2.1
      exact ⟨φ', n', u', f1, f2, f3, f4.en, f5.en, by omega, fun _ => ⟨f4.st d, f5.st e, by omega, ⟨by rw [f4.2.2.1 13 (by decide)], by rw [f4.2.2.1 14 (by decide)], fun k hk => by rw [f4.2.2.1 k (by omega)]⟩, fun k _ => ⟨by rw [f4.2.2.2.2 19 (by decide)], by rw [f4.2.2.2.2 20 (by decide)]⟩⟩, fun _ => by rw [f4.2.2.1 15 (by decide)]⟩
    · unfold f_En_beginPatch
      rw [c12, cond_false]
      exact hy
  · have c12 : cn2 .lt (sI c 12 13) 12 = true := by rw [h2, c2_lt, yI_i (by omega), show ((12 : Int32).toInt) = 12 from rfl]; exact dt (by omega)
    have r12 : cn2 .ne (sI r 21 25) 12 = true := by rw [h3, c2_ne, yI_i (by omega), show ((12 : Int32).toInt) = 12 from rfl]; exact dt (by omega)
    have ea : vp &&& 15 = vp := by
      rw [yI_of hp (by omega), show (15 : Int32) = nI (2 ^ 4 - 1) from by decide, nx_and, Nat.and_two_pow_sub_one_eq_mod, Nat.mod_eq_of_lt (by omega)]
    obtain ⟨v1, v2, v3, k0, v4⟩ := hV.2 p (by omega)
    have eb : vp * 200 = nI (200 * p) := by rw [yI_of hp (by omega), show (200 : Int32) = nI 200 from rfl, show nI p * nI 200 = nI (p * 200) from (Int32.ofNat_mul p 200).symm, Nat.mul_comm]
    have eb2 : 200 * vp = nI (200 * p) := by rw [yI_of hp (by omega), show (200 : Int32) = nI 200 from rfl, show nI 200 * nI p = nI (200 * p) from (Int32.ofNat_mul 200 p).symm]
    have i200 : (nI (200 * p)).toInt = ((200 * p : Nat) : Int) := yI_i (by omega)
    have ie := i_addy (x := nI (200 * p)) (y := sA r 31 p) i200 rfl (by omega) (by omega)
    have en : nI deep + 1 = nI (deep + 1) := (Int32.ofNat_add deep 1).symm
    obtain ⟨c1, hc1⟩ : ∃ c1, c1 = pI c 12 13 (nI (deep + 1)) := ⟨_, rfl⟩
    have hR1 : RR G T φ n u c1 r := by rw [hc1]; exact h.cI (a := 12) (k := 13) _ (Or.inl (by decide))
    have e12 : sI c1 12 12 = nI (d + 1) := by rw [hc1]; exact h1
    have A1 : ∀ k, sA c1 k = sA c k := fun k => by rw [hc1]; rfl
    have T1 : ∀ k, sT c1 k = sT c k := fun k => by rw [hc1]; rfl
    have I1 : ∀ k, sI c1 1 k = sI c 1 k := fun k => by rw [hc1]; rfl
    obtain ⟨wp, c2, q1, q2, q3, q4, q5, q6, q7, q8, q9, q10⟩ := psh (G := G) (T := T) (c := c1) (d := d) (by omega) e12 0 (nI (200 * p)) (nI (200 * p)) (sA r 31 p)
    obtain ⟨r1, hr1⟩ : ∃ r1, r1 = pI r 21 25 (nI (deep + 1)) := ⟨_, rfl⟩
    have er1 : enR r r1 := by rw [hr1]; exact enR_I _ (Or.inl rfl) _
    have Ar : ∀ k, sA r1 k = sA r k := fun k => by rw [hr1]; rfl
    have Ir : ∀ k, k ≠ 25 → sI r1 21 k = sI r 21 k := fun k hk => by rw [hr1, sI_pI, if_pos rfl, if_neg hk]
    have ec2 : enC c c2 := (show enC c c1 by rw [hc1]; exact enC_I _ _ _).tr q3
    have hR2 : RR G T φ n u c2 r1 := by rw [hr1]; exact (q2 hR1).rI _ (Or.inr (Or.inr (by decide)))
    have hz2 : SZ c2 := ⟨(q6 3).trans ((I1 3).trans hz.1), (q6 4).trans ((I1 4).trans hz.2.1), (q6 5).trans ((I1 5).trans hz.2.2)⟩
    have hH : HYP G T φ n u (deep + 1) 10 (d + 1) e (200 * p) (200 * p + (sA r 31 p).toInt.toNat) t (nI (200 * p)) (nI (200 * p) + sA r 31 p) c2 r1 := by
      refine ⟨hR2, hz2, hV.mv ec2 er1, ⟨q4, ?_, ?_, ?_⟩, ⟨i200, ?_, q7.2.2.1, q7.2.2.2, by omega⟩, ⟨by omega, by omega, by omega, by omega, by omega⟩, ?_⟩
      · rw [q5, hc1]; rfl
      · rw [hr1]; rfl
      · rw [Ir 26 (by decide)]; exact h4
      · rw [ie]; omega
      · rw [Ir 11 (by decide)]; omega
    obtain ⟨w1, c3, t3, P, hy3⟩ := hP φ n u (deep + 1) 10 (d + 1) e _ _ k0 t _ _ c2 r1 hH (by rw [Ar]; exact v4) (by omega)
    have eF : f_M_patches (F_part fu m) fu r vp = (((F_part fu m).1 r1 (nI (200 * p)) (nI (200 * p) + sA r 31 p)).1, pI ((F_part fu m).1 r1 (nI (200 * p)) (nI (200 * p) + sA r 31 p)).2 21 25 (sI ((F_part fu m).1 r1 (nI (200 * p)) (nI (200 * p) + sA r 31 p)).2 21 25 - 1)) := by
      unfold f_M_patches t_M_patches_27
      rw [r12, cond_true, eb2, ep, h3, en, ← hr1]
    have wF : w_M_patches (F_part fu m) (W_part fu m) fu r vp := by
      unfold w_M_patches
      rw [r12, eb2, ep, h3, en, ← hr1]
      exact ⟨fun _ => ⟨vv, w1, trivial⟩, (fun z => nomatch z)⟩
    obtain ⟨Q, hQ⟩ : ∃ Q, Q = (F_part fu m).1 r1 (nI (200 * p)) (nI (200 * p) + sA r 31 p) := ⟨_, rfl⟩
    rw [← hQ] at P eF
    obtain ⟨φ', n', u', g1, g2, g3, g4, g5, g6, g7, g8⟩ := P
    have eC : f_En_beginPatch c vp = c2 := by
      unfold f_En_beginPatch
      rw [c12, cond_true, h2, en, ea, ep, v1, eb, ← hc1]
      exact q1
    have wB : w_En_beginPatch c vp := by
      unfold w_En_beginPatch
      rw [c12, h2, en, ea, ep, v1, eb, ← hc1]
      exact ⟨fun _ => ⟨vv, wp, trivial⟩, (fun z => nomatch z)⟩
    refine ⟨wF, wB, ?_⟩
    rw [eC, eF]
    obtain ⟨r3, hr3⟩ : ∃ r3, r3 = pI Q.2 21 25 (sI Q.2 21 25 - 1) := ⟨_, rfl⟩
    rw [← hr3]
    have Ir3 : ∀ k, k ≠ 25 → sI r3 21 k = sI Q.2 21 k := fun k hk => by rw [hr3, sI_pI, if_pos rfl, if_neg hk]
    have er3 : enR r r3 := er1.tr (g5.tr (by rw [hr3]; exact enR_I _ (Or.inl rfl) _))
    by_cases st : Q.1 = 0 ∨ Q.1 = 1
    · obtain ⟨a1, a2, a3, a4, a5⟩ := g7 st
      have fq := g1.2.2.1.2
      have f11 : (sI r1 21 11).toInt = (sI r 21 11).toInt := by rw [Ir 11 (by decide)]
      have b12 : sI c3 12 12 = nI (d + 1 + 1) := a1.1.trans q4
      have b13 : sI c3 12 13 = nI (deep + 1) := a1.2.1.trans (q5.trans (by rw [hc1]; rfl))
      have rl : sA c3 13 (d + 1) = 0 := a4.1.trans q7.1
      obtain ⟨pw, c4, p1, p2, p3, p4, p5, p6, p7, p8⟩ := pop (G := G) (T := T) (c := c3) (d := d + 1) (by omega)
      rw [if_pos rl, b13, nI_p] at p5
      have up := fr_up (e := e) a1
      have lo : ∀ a k, k ≤ d → 13 ≤ a → a ≤ 18 → sA c4 a k = sA c a k := fun a k hk x1 x2 => by rw [p7, a1.2.2.1 a k x1 x2 (by omega), q8 a k hk, A1]
      have tl : ∀ k, k < 16 * (d + 1) → sT c4 19 k = sT c 19 k ∧ sT c4 20 k = sT c 20 k := fun k hk => by
        rw [p8, p8, (a1.2.2.2 k hk).1, (a1.2.2.2 k hk).2, q9, q9, T1, T1]
        exact ⟨rfl, rfl⟩
      refine ⟨c4, t3 + 1, ⟨φ', n', u', ?_, g2, ?_, ec2.tr (g4.tr p3), er3, by omega, fun _ => ⟨⟨p4.trans h1.symm, p5.trans h2.symm, fun a k x1 x2 hk => lo a k (by omega) x1 x2, fun k hk => tl k (by omega)⟩, ⟨?_, ?_, fun k hk => ?_⟩, ?_, ⟨lo 13 d (by omega) (by decide) (by decide), lo 14 d (by omega) (by decide) (by decide), fun k hk => lo k d (by omega) (by omega) (by omega)⟩, tl⟩, fun _ => lo 15 d (by omega) (by decide) (by decide)⟩, fun y hy => hy3 y ?_⟩
      · rw [hr3]
        exact (p2 g1).rI _ (Or.inr (Or.inr (by decide)))
      · exact g3.mv p6 (Ir3 9 (by decide)) (Ir3 10 (by decide))
      · rw [hr3]
        show sI Q.2 21 25 - 1 = _
        rw [a2.1, hr1, h3]
        exact nI_p deep
      · rw [Ir3 26 (by decide), a2.2.1, Ir 26 (by decide)]
      · have := a2.2.2 k hk
        rw [Ar, Ar] at this
        rw [hr3]
        exact this
      · rw [Ir3 11 (by decide)]
        rw [Ir 11 (by decide)] at a3
        omega
      · have s13 : sI c3 1 3 = Q.1 := g3.1
        refine lv_01 (G := G) (T := T) (d := d + 1) (by omega) b12 (Or.inl rl) (by omega) ?_ (p1.symm ▸ hy)
        rcases st with z | z
        · exact Or.inl ⟨s13.trans z, (g8 z).trans (q7.2.2.2.symm.trans (a4.2.2 16 (Or.inl rfl)).symm)⟩
        · exact Or.inr (s13.trans z)
    · refine ⟨c3, t3, ⟨φ', n', u', ?_, g2, ?_, ec2.tr g4, er3, g6, fun z => absurd z st, fun z => absurd (Or.inl z) st⟩, fun y hy => hy3 y hy⟩
      · rw [hr3]
        exact g1.rI _ (Or.inr (Or.inr (by decide)))
      · exact g3.mv (fun _ => rfl) (Ir3 9 (by decide)) (Ir3 10 (by decide))
end PTC
