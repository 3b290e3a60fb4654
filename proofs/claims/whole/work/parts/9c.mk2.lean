/-! OPS 15, 16 -/
theorem RT.many {φ : Nat → Nat} {n u N : Nat} {D : AH} {K S M Q : Nat → Int32} {C : Nat → Int64} {t : Nat} (h : RT φ n u D N K S M Q C) (h1 : 1 ≤ t) (hk : 11 ≤ (K t).toInt) (v : Int32) : RT φ n u D N K S (upd M t v) Q C := by
  obtain ⟨a1, a2, a3, a4, a5⟩ := h
  have ez : ∀ t', tsz (K t') (upd M t v t') = tsz (K t') (M t') := fun t' => by
    by_cases e : t' = t
    · subst e
      unfold tsz
      by_cases g : (K t').toInt = 16
      · rw [if_pos g, if_pos g]
      · rw [if_neg g, if_neg g, if_pos hk, if_pos hk]
    · rw [show upd M t v t' = M t' from if_neg e]
  refine ⟨a1, a2, ?_, fun t' g1 g2 => ?_, fun t' t2 g1 g2 g3 g4 => ?_⟩
  · rw [show upd M t v 0 = M 0 from if_neg (by omega)]
    exact a3
  · obtain ⟨b1, b2, b3, b4, b5⟩ := a4 t' g1 g2
    rw [ez]
    refine ⟨?_, b2, b3, b4, b5⟩
    by_cases e : t' = t
    · subst e
      rcases b1 with b | b | b | b
      · exact absurd b.2.1 (by omega)
      · exact absurd b.kk (by omega)
      · exact Or.inr (Or.inr (Or.inl b))
      · exact Or.inr (Or.inr (Or.inr b))
    · exact b1.cg g2.1 (Nat.le_refl _) (fun _ _ => rfl) (fun _ _ => rfl) rfl (if_neg e) rfl rfl (fun _ => rfl) (fun _ _ => rfl)
  · rw [ez]
    exact a5 t' t2 g1 g2 g3 g4
theorem RR.many {G : AH} {T : Nat} {φ : Nat → Nat} {n u : Nat} {c r : St} (h : RR G T φ n u c r) {t : Nat} (h1 : 1 ≤ t) (hk : 11 ≤ (sA r 22 t).toInt) (v : Int32) : RR G T φ n u c (pA r 24 (upd (sA r 24) t v)) := by
  obtain ⟨a1, a2, a3, a4, a5, a6, a7⟩ := h
  exact ⟨a1, a2, a3, ⟨a4.1.many h1 hk v, a4.2⟩, a5, a6, a7⟩
section MK2
variable {G : AH} {T : Nat} {φ : Nat → Nat} {n u p fu : Nat} {c r : St} {q : Int32}
theorem op_15 (h : RR G T φ n u c r) (hz : SZ c) (hc : CDH r p c) (hq : q.toInt = (p : Int) + 1) (hp : p + 3 ≤ 3200) (b1 : (sA r 30 (p + 1)).toInt ≤ 15) (b2 : (sA r 30 (p + 2)).toInt ≤ 4) :
    OUT G T φ n c r (f_Op_makePart c) (f_M_makes fu r 15 q) ∧ (w_Op_makePart c ∧ True) ∧ w_M_makes fu r 15 q := by
  obtain ⟨q0, v0⟩ := o_q0 hq (by omega)
  obtain ⟨q1, v1⟩ := o_q (k := 1) (j := 2) hq rfl (by omega)
  have z1 := (hc.b (p + 1)).1
  have z2 := (hc.b (p + 2)).1
  have a1 : vp_in (sA r 30 (p + 1)) 16 := vp_of z1 (by omega)
  have hm : f_M_makes fu r 15 q = t_M_makes_77 fu r 15 (sA r 30 (p + 1)) (sA r 30 (p + 2)) 0 := by
    unfold f_M_makes
    rw [show cn2 .ge (15 : Int32) 12 = true from rfl, show cn2 .ne (15 : Int32) 13 = true from rfl, show cn2 .ne (15 : Int32) 16 = true from rfl, show cn2 .ne (15 : Int32) 15 = false from rfl, cond_true, cond_true, cond_true, cond_false, q0, q1]
  have wm : w_M_makes_77 fu r 15 (sA r 30 (p + 1)) (sA r 30 (p + 2)) 0 → w_M_makes fu r 15 q := fun g => by
    unfold w_M_makes
    rw [show cn2 .ge (15 : Int32) 12 = true from rfl, show cn2 .ne (15 : Int32) 13 = true from rfl, show cn2 .ne (15 : Int32) 16 = true from rfl, show cn2 .ne (15 : Int32) 15 = false from rfl, q0, q1]
    exact ⟨v0, fun _ => ⟨v1, fun _ => ⟨fun _ => ⟨(fun z => nomatch z), fun _ => g⟩, (fun z => nomatch z)⟩, (fun z => nomatch z)⟩, (fun z => nomatch z)⟩
  have e15 : cn2 .ge (15 : Int32) 15 = true := rfl
  have ek := i_addy (x := 11) (y := sA r 30 (p + 2)) (a := 11) rfl rfl (by omega) (by omega)
  rw [hm]
  unfold f_Op_makePart w_Op_makePart t_M_makes_77 t_M_makes_87 t_M_makes_97
  rw [e15, cond_true, cond_true, show (4 : Int64) = lN 4 from rfl]
  rcases mk_ok h hz (z := 4) (by decide) with ⟨c1, r1, e1, e2, h1, hz1, hcd, oc1, or1, mn, mu, mz, -, -⟩ | ⟨e1, e2⟩
  · have hc1 : CDH r p c1 := hc.mv hcd
    have hb := h1.bnd
    have hb2 := h1.2.2.2.1
    have hl1 := h1.2.1.2.2.1
    obtain ⟨o1, o2⟩ := o_opn (s := pQ c1 (nwO (sD c1) (sN c1) 4) (sN c1 + 1) (sU c1 + 5)) (k := 2) (j := 2) hc1 rfl (by omega)
    obtain ⟨i1, i2, i3⟩ := i_pa (s := c1) (k := sA r 30 (p + 2)) hb.2.2.2.2 (by omega) (by omega)
    have h2 := nw_prt h1 (k := 11 + sA r 30 (p + 2)) (m := 0) (q := sA r 30 (p + 2)) (b := sA r 30 (p + 2)) (by omega) (by omega) (by rw [Int32.add_comm, Int32.add_sub_cancel]) (by omega) (by omega)
    obtain ⟨t1, t2⟩ := th_M (r := r1) (k := 11 + sA r 30 (p + 2)) (m := 0) (q := sA r 30 (p + 2)) hb2.2.1 hb2.2.2.1 (by omega) (fun _ => by decide)
    obtain ⟨s1, s2, s3⟩ := sl_new (r := r) h2 (ph1_s φ n (sN c1)) h1.bnd.2.2.2.2 hc1 (by omega) b1
    refine ⟨?_, ⟨⟨trivial, ?_⟩, trivial⟩, wm ?_⟩
    · rw [e1, e2]
      dsimp only
      unfold t_Op_makePart_4 t_M_makes_98
      rw [show cn1 .eq (b2i true) = false from rfl, cond_false, o1, i1, show cn1 .ne (b2i true) = true from rfl, cond_true, show cn2 .ne (15 : Int32) 12 = true from rfl, show cn2 .ne (15 : Int32) 14 = true from rfl, show cn2 .ne (15 : Int32) 15 = false from rfl, cond_true, cond_true, cond_false]
      unfold t_Op_makePart_13 t_M_makes_123
      rw [s1, t1]
      dsimp only
      unfold t_M_makes_126 t_M_makes_150
      rw [show cn2 .ne (15 : Int32) 16 = true from rfl, e15, cond_true, cond_true]
      exact OUT.ok s3 (ph1_ex φ n (sN c1)) hz1 ((oc1.tr (opC_Q _ _ _ _)).tr (opC_T _ _)) ((or1.tr (thR_op _ _ _ _ _ _ hb2.2.1 (by omega))).tr (opR_A _ (Or.inr (Or.inl rfl)) _))
    · rw [e1]
      dsimp only
      unfold w_Op_makePart_4
      rw [show cn1 .eq (b2i true) = false from rfl, o1, i1]
      exact ⟨(fun z => nomatch z), fun _ => ⟨i3, o2, i2, i2.2.1, s2, trivial⟩⟩
    · have w3 : w_M_makes_123 fu r1 15 (sA r 30 (p + 1)) (sA r 30 (p + 2)) 0 (11 + sA r 30 (p + 2)) (sA r 30 (p + 1)) := by
        unfold w_M_makes_123
        rw [t1]
        dsimp only
        unfold w_M_makes_126 w_M_makes_150
        rw [show cn2 .ne (15 : Int32) 16 = true from rfl, e15]
        exact ⟨t2, a1, fun _ => ⟨fun _ => trivial, (fun z => nomatch z)⟩, (fun z => nomatch z)⟩
      unfold w_M_makes_77 w_M_makes_87 w_M_makes_97
      rw [e15, show (4 : Int64) = lN 4 from rfl, e2]
      dsimp only
      unfold w_M_makes_98
      rw [show cn1 .ne (b2i true) = true from rfl, show cn2 .ne (15 : Int32) 12 = true from rfl, show cn2 .ne (15 : Int32) 14 = true from rfl, show cn2 .ne (15 : Int32) 15 = false from rfl]
      exact ⟨fun _ => ⟨fun _ => ⟨trivial, fun _ => ⟨fun _ => ⟨fun _ => ⟨(fun z => nomatch z), fun _ => w3⟩, (fun z => nomatch z)⟩, (fun z => nomatch z)⟩, (fun z => nomatch z)⟩, (fun z => nomatch z)⟩, (fun z => nomatch z)⟩
  · refine ⟨?_, ⟨⟨trivial, ?_⟩, trivial⟩, wm ?_⟩
    · rw [e1, e2]
      exact full_out h hz
    · rw [e1]
      exact ⟨fun _ => trivial, (fun z => nomatch z)⟩
    · unfold w_M_makes_77 w_M_makes_87 w_M_makes_97
      rw [e15, show (4 : Int64) = lN 4 from rfl, e2]
      exact ⟨fun _ => ⟨fun _ => ⟨trivial, (fun z => nomatch z), fun _ => trivial⟩, (fun z => nomatch z)⟩, (fun z => nomatch z)⟩
theorem op_16 (h : RR G T φ n u c r) (hz : SZ c) (hc : CDH r p c) (hq : q.toInt = (p : Int) + 1) (hp : p + 3 ≤ 3200) (b1 : (sA r 30 (p + 1)).toInt ≤ 15) (b2 : (sA r 30 (p + 2)).toInt ≤ 7) :
    OUT G T φ n c r (f_Op_makeTrouble c) (f_M_makes fu r 16 q) ∧ (w_Op_makeTrouble c ∧ True) ∧ w_M_makes fu r 16 q := by
  obtain ⟨q0, v0⟩ := o_q0 hq (by omega)
  obtain ⟨q1, v1⟩ := o_q (k := 1) (j := 2) hq rfl (by omega)
  have z1 := (hc.b (p + 1)).1
  have z2 := (hc.b (p + 2)).1
  have a1 : vp_in (sA r 30 (p + 1)) 16 := vp_of z1 (by omega)
  obtain ⟨x, hx⟩ : ∃ x, x = sA r 28 (sA r 30 (p + 2)).toNatClampNeg := ⟨_, rfl⟩
  have hm : f_M_makes fu r 16 q = t_M_makes_77 fu r 16 (sA r 30 (p + 1)) (sA r 30 (p + 2)) x := by
    unfold f_M_makes
    rw [show cn2 .ge (16 : Int32) 12 = true from rfl, show cn2 .ne (16 : Int32) 13 = true from rfl, show cn2 .ne (16 : Int32) 16 = false from rfl, cond_true, cond_true, cond_false, q0, q1, ← hx]
  have wm : w_M_makes_77 fu r 16 (sA r 30 (p + 1)) (sA r 30 (p + 2)) x → w_M_makes fu r 16 q := fun g => by
    unfold w_M_makes
    rw [show cn2 .ge (16 : Int32) 12 = true from rfl, show cn2 .ne (16 : Int32) 13 = true from rfl, show cn2 .ne (16 : Int32) 16 = false from rfl, q0, q1, ← hx]
    exact ⟨v0, fun _ => ⟨v1, fun _ => ⟨(fun z => nomatch z), fun _ => ⟨vp_of z2 (by omega), g⟩⟩, (fun z => nomatch z)⟩, (fun z => nomatch z)⟩
  have e15 : cn2 .ge (16 : Int32) 15 = true := rfl
  rw [hm]
  unfold f_Op_makeTrouble w_Op_makeTrouble t_M_makes_77 t_M_makes_87 t_M_makes_97
  rw [e15, cond_true, cond_true, show (4 : Int64) = lN 4 from rfl]
  rcases mk_ok h hz (z := 4) (by decide) with ⟨c1, r1, e1, e2, h1, hz1, hcd, oc1, or1, mn, mu, mz, ⟨ra, rb, -⟩, -⟩ | ⟨e1, e2⟩
  · have hc1 : CDH r p c1 := hc.mv hcd
    have hc11 : CDH r1 p c1 := ⟨hc1.1, fun k => (show sA r1 30 k = sA r 30 k from by rw [or1.2.2.1 30 (by decide) (by decide) (by decide)]).trans (hc1.2 k)⟩
    have hb := h1.bnd
    have hb2 := h1.2.2.2.1
    have hl1 := h1.2.1.2.2.1
    have e30 : sA r1 30 = sA r 30 := or1.2.2.1 30 (by decide) (by decide) (by decide)
    obtain ⟨o1, o2⟩ := o_num (s := pQ c1 (nwO (sD c1) (sN c1) 8) (sN c1 + 1) (sU c1 + 1)) (k := 2) (j := 2) hc11 h1.1 rfl (by omega) (by rw [e30]; exact b2)
    rw [e30, rb, ← hx] at o1
    obtain ⟨i1, i2, i3⟩ := i_tr (s := c1) (k := x) hb.2.2.2.2 (by omega) (by omega)
    have h2 := nw_trb h1 (m := x) (q := sA r 30 (p + 2)) (v := x) (by omega) (by omega)
    obtain ⟨t1, t2⟩ := th_M (r := r1) (k := 16) (m := x) (q := sA r 30 (p + 2)) hb2.2.1 hb2.2.2.1 (by omega) (fun z => absurd z (by decide))
    obtain ⟨s1, s2, s3⟩ := sl_new (r := r) h2 (ph1_s φ n (sN c1)) h1.bnd.2.2.2.2 hc1 (by omega) b1
    have s4 := s3.many (t := n + 1) (by omega) (by show 11 ≤ (upd (sA r1 22) (n + 1) 16 (n + 1)).toInt; rw [upS]; decide) 0
    have eN : (nI (n + 1)).toNatClampNeg = n + 1 := nN (by omega)
    have i27 : upd (sA (thR r1 n u 16 x (sA r 30 (p + 2))) 27) (sA r 30 (p + 1)).toNatClampNeg (nI (n + 1)) (sA r 30 (p + 1)).toNatClampNeg = nI (n + 1) := upS _ _ _
    have i23 : sA (thR r1 n u 16 x (sA r 30 (p + 2))) 23 (n + 1) = nI u := upS _ _ _
    have eu : (nI u).toNatClampNeg = u := nN (by omega)
    have w4 : vp_in (nI (n + 1)) 40001 := vp_of (by rw [yI_i (by omega)]; omega) (by rw [yI_i (by omega)]; omega)
    have w5 : vp_in (nI u) 40001 := vp_of (by rw [yI_i (by omega)]; omega) (by rw [yI_i (by omega)]; omega)
    refine ⟨?_, ⟨⟨trivial, ?_⟩, trivial⟩, wm ?_⟩
    · rw [e1, e2]
      dsimp only
      unfold t_Op_makeTrouble_4 t_M_makes_98
      rw [show cn1 .eq (b2i true) = false from rfl, cond_false, o1, i1, show cn1 .ne (b2i true) = true from rfl, cond_true, show cn2 .ne (16 : Int32) 12 = true from rfl, show cn2 .ne (16 : Int32) 14 = true from rfl, show cn2 .ne (16 : Int32) 15 = true from rfl, cond_true, cond_true, cond_true]
      unfold t_Op_makeTrouble_13 t_M_makes_123
      rw [s1, t1]
      dsimp only
      unfold t_M_makes_126 t_M_makes_138 t_M_makes_150
      rw [show cn2 .ne (16 : Int32) 16 = false from rfl, e15, cond_false, cond_true, i27, eN]
      have k27 : sA (pA (pA (thR r1 n u 16 x (sA r 30 (p + 2))) 27 (upd (sA (thR r1 n u 16 x (sA r 30 (p + 2))) 27) (sA r 30 (p + 1)).toNatClampNeg (nI (n + 1)))) 24 (upd (sA (thR r1 n u 16 x (sA r 30 (p + 2))) 24) (n + 1) 0)) 27 (sA r 30 (p + 1)).toNatClampNeg = nI (n + 1) := upS _ _ _
      have k22' : sA (pA (thR r1 n u 16 x (sA r 30 (p + 2))) 27 (upd (sA (thR r1 n u 16 x (sA r 30 (p + 2))) 27) (sA r 30 (p + 1)).toNatClampNeg (nI (n + 1)))) 22 (n + 1) = 16 := upS _ _ _
      have k23 : sA (pA (pA (thR r1 n u 16 x (sA r 30 (p + 2))) 27 (upd (sA (thR r1 n u 16 x (sA r 30 (p + 2))) 27) (sA r 30 (p + 1)).toNatClampNeg (nI (n + 1)))) 24 (upd (sA (thR r1 n u 16 x (sA r 30 (p + 2))) 24) (n + 1) 0)) 23 (n + 1) = nI u := upS _ _ _
      rw [k27, eN, k23, eu]
      exact OUT.ok s4 (ph1_ex φ n (sN c1)) hz1 ((oc1.tr (opC_Q _ _ _ _)).tr (opC_T _ _)) (((or1.tr (thR_op _ _ _ _ _ _ hb2.2.1 (by omega))).tr (opR_A _ (Or.inr (Or.inl rfl)) _)).tr ((opR_24 _ (by rw [k22']; decide) _).tr (opR_B _ (Or.inl rfl) _)))
    · rw [e1]
      dsimp only
      unfold w_Op_makeTrouble_4
      rw [show cn1 .eq (b2i true) = false from rfl, o1, i1]
      exact ⟨(fun z => nomatch z), fun _ => ⟨i3, o2, i2, i2.2.1, s2, trivial⟩⟩
    · have w3 : w_M_makes_123 fu r1 16 (sA r 30 (p + 1)) (sA r 30 (p + 2)) x 16 (sA r 30 (p + 1)) := by
        unfold w_M_makes_123
        rw [t1]
        dsimp only
        unfold w_M_makes_126 w_M_makes_138 w_M_makes_150
        rw [show cn2 .ne (16 : Int32) 16 = false from rfl, e15, i27, eN]
        refine ⟨t2, a1, (fun z => nomatch z), fun _ => ⟨a1, w4, a1, ?_, ?_, fun _ => trivial, (fun z => nomatch z)⟩⟩
        · show vp_in (upd (sA (thR r1 n u 16 x (sA r 30 (p + 2))) 27) (sA r 30 (p + 1)).toNatClampNeg (nI (n + 1)) (sA r 30 (p + 1)).toNatClampNeg) 40001
          rw [i27]
          exact w4
        · show vp_in (sA (thR r1 n u 16 x (sA r 30 (p + 2))) 23 (upd (sA (thR r1 n u 16 x (sA r 30 (p + 2))) 27) (sA r 30 (p + 1)).toNatClampNeg (nI (n + 1)) (sA r 30 (p + 1)).toNatClampNeg).toNatClampNeg) 40001
          rw [i27, eN, i23]
          exact w5
      unfold w_M_makes_77 w_M_makes_87 w_M_makes_97
      rw [e15, show (4 : Int64) = lN 4 from rfl, e2]
      dsimp only
      unfold w_M_makes_98
      rw [show cn1 .ne (b2i true) = true from rfl, show cn2 .ne (16 : Int32) 12 = true from rfl, show cn2 .ne (16 : Int32) 14 = true from rfl, show cn2 .ne (16 : Int32) 15 = true from rfl]
      exact ⟨fun _ => ⟨fun _ => ⟨trivial, fun _ => ⟨fun _ => ⟨fun _ => ⟨fun _ => w3, (fun z => nomatch z)⟩, (fun z => nomatch z)⟩, (fun z => nomatch z)⟩, (fun z => nomatch z)⟩, (fun z => nomatch z)⟩, (fun z => nomatch z)⟩
  · refine ⟨?_, ⟨⟨trivial, ?_⟩, trivial⟩, wm ?_⟩
    · rw [e1, e2]
      exact full_out h hz
    · rw [e1]
      exact ⟨fun _ => trivial, (fun z => nomatch z)⟩
    · unfold w_M_makes_77 w_M_makes_87 w_M_makes_97
      rw [e15, show (4 : Int64) = lN 4 from rfl, e2]
      exact ⟨fun _ => ⟨fun _ => ⟨trivial, (fun z => nomatch z), fun _ => trivial⟩, (fun z => nomatch z)⟩, (fun z => nomatch z)⟩
end MK2
