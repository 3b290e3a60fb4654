/-! ROUNDS -/
section WH
variable {G : AH} {T : Nat} {φ : Nat → Nat} {n u fu deep dd d e a b k t m : Nat} {c r : St} {va vb : Int32}
/-- rounds in the frame d + 1; nx: where they begin, l: how long -/
theorem wh_go (hS : SP G T fu m) {A : Nat → Int32} {nx l : Int32} {xa ll : Nat} (hx : nx.toInt = (xa : Int)) (hl : l.toInt = (ll : Int)) (el : l = A (a + 2)) (hva : va.toInt = (a : Int)) (ha : a + 2 < 3200) (b7 : (A (a + 1)).toInt ≤ 7) (hPV : PV A k dd xa (xa + ll)) (hm : 22 * (12 - deep) + 2 * dd + 2 ≤ m) : ∀ (F : Nat) (φ : Nat → Nat) (n u : Nat) (c r : St) (t : Nat), HYP G T φ n u deep dd (d + 1) e xa (xa + ll) t nx (nx + l) c r → sA r 30 = A → sA c 13 (d + 1) = 2 → sA c 14 (d + 1) = va → fl r ≤ F →
    ∃ q, (∀ C y, RQ (F_part fu m) (W_part fu m) fu vb C q.2 q.1 (nx + l) y → ∀ g, C + 8 + 4 * fl r ≤ g → (T_M_part_2 (F_part fu m) fu g).2.2.2.2.2.2.1 r vb va 0 nx l = y ∧ (WT_M_part_2 (F_part fu m) (W_part fu m) fu g).2.2.2.2.2.2.1 r vb va 0 nx l) ∧ ∃ c' t', PW G T φ n d e (t + 1) c r q c' t' ∧ ∀ y, RES fu c' t' y → RES fu c t y
  | F, φ, n, u, c, r, t, hH, hA, hro, hop, hF => by
    obtain ⟨w1, c3, t3, P, hy3⟩ := hS φ n u deep dd (d + 1) e xa (xa + ll) k t nx (nx + l) c r hH (by rw [hA]; exact hPV) hm
    obtain ⟨h, hz, hV, ⟨i1, i2, i3, i4⟩, ⟨j1, j2, j3, j4, j5⟩, ⟨d1, d2, d3, d4, d5⟩, ht⟩ := hH
    have f0 := h.2.2.1.2
    obtain ⟨Q, hQ⟩ : ∃ Q, Q = (F_part fu m).1 r nx (nx + l) := ⟨_, rfl⟩
    rw [← hQ] at P
    obtain ⟨φ3, n3, u3, g1, g2, g3, g4, g5, g6, g7, g8⟩ := P
    have fq := g1.2.2.1.2
    have kq := g5.2.2.2.2.2.2.2.2.1
    have flq : fl Q.2 ≤ fl r := by unfold fl; omega
    have e1 : (va + 1).toInt = ((a + 1 : Nat) : Int) := (i_addy (y := 1) hva (show ((1 : Int32).toInt) = 1 from rfl) (by omega) (by omega)).trans (by omega)
    have n1 : (va + 1).toNatClampNeg = a + 1 := by rw [tn_eq, e1]; omega
    have v1 : vp_in (va + 1) 3200 := vp_of (by omega) (by omega)
    have hb0 : 0 ≤ (A (a + 1)).toInt := by rw [← hA, hV.1 (a + 1)]; exact (b255 _).1
    have v8 : vp_in (A (a + 1)) 8 := vp_of hb0 (by omega)
    have A3 : sA Q.2 30 = A := (g5.2.2.1 30 (by decide) (by decide) (by decide) (by decide) (by decide)).trans hA
    -- the reference when the rounds end with Q
    have rE : (cn1 .ne Q.1 = true ∨ cn1 .ne Q.1 = false ∧ cn1 .eq (sA Q.2 28 (A (a + 1)).toNatClampNeg) = true) → ∀ C y, RQ (F_part fu m) (W_part fu m) fu vb C Q.2 Q.1 (nx + l) y → ∀ g, C + 8 + 4 * fl r ≤ g → (T_M_part_2 (F_part fu m) fu g).2.2.2.2.2.2.1 r vb va 0 nx l = y ∧ (WT_M_part_2 (F_part fu m) (W_part fu m) fu g).2.2.2.2.2.2.1 r vb va 0 nx l := fun hh C y hy g hg => by
      obtain ⟨g, rfl⟩ : ∃ g', g = g' + 4 := ⟨g - 4, by omega⟩
      obtain ⟨x1, x2⟩ := hy g (by omega)
      have z1 : b_M_part_87 (F_part fu m) fu (T_M_part_2 (F_part fu m) fu (g + 1)) Q.2 vb va Q.1 nx l 0 = y := by
        unfold b_M_part_87
        rcases hh with hh | ⟨hh, ho⟩
        · rw [hh, cond_true]
          exact x1
        · rw [hh, cond_false, n1, A3, ho, cond_true]
          exact x1
      have z2 : v_M_part_87 (F_part fu m) (W_part fu m) fu (T_M_part_2 (F_part fu m) fu (g + 1)) (WT_M_part_2 (F_part fu m) (W_part fu m) fu (g + 1)) Q.2 vb va Q.1 nx l 0 := by
        unfold v_M_part_87
        rcases hh with hh | ⟨hh, ho⟩
        · rw [hh]
          exact ⟨fun _ => x2, (fun z => nomatch z)⟩
        · rw [hh, n1, A3, ho]
          exact ⟨(fun z => nomatch z), fun _ => ⟨v1, v8, fun _ => x2, (fun z => nomatch z)⟩⟩
      constructor
      · show b_M_part_105 (F_part fu m) fu (T_M_part_2 (F_part fu m) fu (g + 3)) r vb va 0 nx l = _
        unfold b_M_part_105
        rw [show cn1 .ne (0 : Int32) = false from rfl, cond_false, ← hQ]
        exact z1
      · show v_M_part_105 (F_part fu m) (W_part fu m) fu (T_M_part_2 (F_part fu m) fu (g + 3)) (WT_M_part_2 (F_part fu m) (W_part fu m) fu (g + 3)) r vb va 0 nx l
        unfold v_M_part_105
        rw [show cn1 .ne (0 : Int32) = false from rfl, ← hQ]
        exact ⟨(fun z => nomatch z), fun _ => ⟨w1, z2⟩⟩
    -- the class when the frame goes
    have cE : Q.1 = 0 ∨ Q.1 = 1 → ∃ c4, f_En_pop c3 (nI (d + 1)) = c4 ∧ w_En_pop c3 (nI (d + 1)) ∧ PW G T φ n d e (t + 1) c r Q c4 (t3 + 1) := fun st => by
      obtain ⟨a1, a2, a3, a4, a5⟩ := g7 st
      have rl : sA c3 13 (d + 1) = 2 := a4.1.trans hro
      obtain ⟨pw, c4, p1, p2, p3, p4, p5, p6, p7, p8⟩ := pop (G := G) (T := T) (c := c3) (d := d + 1) (by omega)
      rw [if_neg (by rw [rl]; decide)] at p5
      refine ⟨c4, p1, pw, φ3, n3, u3, p2 g1, g2, g3.mv p6 rfl rfl, g4.tr p3, g5, by omega, fun _ => ⟨p4, p5.trans a1.2.1, fun a k x1 x2 hk => by rw [p7, a1.2.2.1 a k x1 x2 (by omega)], fun k hk => ?_, a2, by omega⟩⟩
      rw [p8, p8]
      exact a1.2.2.2 k hk
    have ed : (nI (d + 1)).toNatClampNeg = d + 1 := nN (by omega)
    have vd : vp_in (nI (d + 1)) 132 := vp_of (by rw [yI_i (by omega)]; omega) (by rw [yI_i (by omega)]; omega)
    have s13 : sI c3 1 3 = Q.1 := g3.1
    by_cases st0 : Q.1 = 0
    · obtain ⟨a1, a2, a3, a4, a5⟩ := g7 (Or.inl st0)
      have rl : sA c3 13 (d + 1) = 2 := a4.1.trans hro
      have ro : sA c3 14 (d + 1) = va := a4.2.1.trans hop
      have b12 : sI c3 12 12 = nI (d + 1 + 1) := a1.1.trans i1
      have ne0 : cn1 .ne Q.1 = false := by rw [st0]; rfl
      have hV3 : CDV c3 Q.2 := hV.mv g4 g5
      have hz3 : SZ c3 := SR.s0 (st0 ▸ g3)
      obtain ⟨on1, on2⟩ := on_C (va := va) (a := a) g1 hV3.1 hva (by omega) (by rw [A3]; exact b7)
      rw [A3] at on1
      have nx3 : sA c3 15 (d + 1) = nx + l := g8 st0
      have en3 : sA c3 16 (d + 1) = nx + l := (a4.2.2 16 (Or.inl rfl)).trans j4
      -- the step at the end of the body
      have lv : ∀ y, w_En_beginFurtherRound c3 (nI (d + 1)) → RES fu (f_En_beginFurtherRound c3 (nI (d + 1))) (t3 + 1) y → RES fu c t y := fun y w hy => by
        refine hy3 y (en_l (d := d + 1) (by omega) b12 (s13.trans st0) (by omega) (by rw [nx3, en3]; exact Int.le_refl _) ?_ ?_)
        · unfold w_En_leave
          rw [ed]
          exact ⟨vd, fun _ => ⟨w, trivial⟩, fun z => absurd rl z⟩
        · unfold f_En_leave
          rw [ed, if_pos rl]
          exact hy
      by_cases on : cn1 .eq (sA Q.2 28 (A (a + 1)).toNatClampNeg) = true
      · obtain ⟨c4, p1, pw, hW⟩ := cE (Or.inl st0)
        refine ⟨Q, rE (Or.inr ⟨ne0, on⟩), c4, t3 + 1, hW, fun y hy => lv y ?_ ?_⟩
        · unfold w_En_beginFurtherRound
          rw [ed, ro, on1, on]
          exact ⟨vd, on2, (fun z => nomatch z), fun _ => ⟨pw, trivial⟩⟩
        · unfold f_En_beginFurtherRound
          rw [ed, ro, on1, on, show cn1 .ne (b2i (!true)) = false from rfl, cond_false, p1]
          exact hy
      · have off : cn1 .eq (sA Q.2 28 (A (a + 1)).toNatClampNeg) = false := by
          cases hx : cn1 .eq (sA Q.2 28 (A (a + 1)).toNatClampNeg) with
          | true => exact absurd hx on
          | false => rfl
        obtain ⟨L, l1, l2, l3⟩ := b1_led g1 hz3
        obtain ⟨c5, hc5⟩ : ∃ c5, c5 = (f_Le_burn c3 1).2 := ⟨_, rfl⟩
        obtain ⟨M, hM⟩ : ∃ M, M = f_M_takes Q.2 1 := ⟨_, rfl⟩
        rw [← hc5, ← hM] at L
        rw [← hM] at l1 l2 l3
        have eB : f_En_beginFurtherRound c3 (nI (d + 1)) = t_En_beginFurtherRound_17 c5 (nI (d + 1)) va (b2i (decide (M.1 = 0))) := by
          unfold f_En_beginFurtherRound
          rw [ed, ro, on1, off, show cn1 .ne (b2i (!false)) = true from rfl, cond_true, l1, ← hc5]
        have wB : w_En_beginFurtherRound_17 c5 (nI (d + 1)) va (b2i (decide (M.1 = 0))) → w_En_beginFurtherRound c3 (nI (d + 1)) := fun w => by
          unfold w_En_beginFurtherRound
          rw [ed, ro, on1, off, show cn1 .ne (b2i (!false)) = true from rfl, l1, ← hc5]
          exact ⟨vd, on2, fun _ => ⟨trivial, w⟩, (fun z => nomatch z)⟩
        -- the reference up to the next round
        have rN : ∀ (y : Int32 × St) g, ((T_M_part_2 (F_part fu m) fu g).2.2.2.2.2.2.1 M.2 vb va M.1 nx l = y ∧ (WT_M_part_2 (F_part fu m) (W_part fu m) fu g).2.2.2.2.2.2.1 M.2 vb va M.1 nx l) → (T_M_part_2 (F_part fu m) fu (g + 4)).2.2.2.2.2.2.1 r vb va 0 nx l = y ∧ (WT_M_part_2 (F_part fu m) (W_part fu m) fu (g + 4)).2.2.2.2.2.2.1 r vb va 0 nx l := fun y g hh => by
          have z1 : b_M_part_87 (F_part fu m) fu (T_M_part_2 (F_part fu m) fu (g + 1)) Q.2 vb va Q.1 nx l 0 = y := by
            unfold b_M_part_87
            rw [ne0, cond_false, n1, A3, off, cond_false, show cn1 .ne (0 : Int32) = false from rfl, cond_false, ← hM]
            exact hh.1
          have z2 : v_M_part_87 (F_part fu m) (W_part fu m) fu (T_M_part_2 (F_part fu m) fu (g + 1)) (WT_M_part_2 (F_part fu m) (W_part fu m) fu (g + 1)) Q.2 vb va Q.1 nx l 0 := by
            unfold v_M_part_87
            rw [ne0, n1, A3, off, show cn1 .ne (0 : Int32) = false from rfl, ← hM]
            exact ⟨(fun z => nomatch z), fun _ => ⟨v1, v8, (fun z => nomatch z), fun _ => ⟨(fun z => nomatch z), fun _ => ⟨trivial, hh.2⟩⟩⟩⟩
          constructor
          · show b_M_part_105 (F_part fu m) fu (T_M_part_2 (F_part fu m) fu (g + 3)) r vb va 0 nx l = _
            unfold b_M_part_105
            rw [show cn1 .ne (0 : Int32) = false from rfl, cond_false, ← hQ]
            exact z1
          · show v_M_part_105 (F_part fu m) (W_part fu m) fu (T_M_part_2 (F_part fu m) fu (g + 3)) (WT_M_part_2 (F_part fu m) (W_part fu m) fu (g + 3)) r vb va 0 nx l
            unfold v_M_part_105
            rw [show cn1 .ne (0 : Int32) = false from rfl, ← hQ]
            exact ⟨(fun z => nomatch z), fun _ => ⟨w1, z2⟩⟩
        have oc := L.2.2.1.op
        have or := L.2.2.2.op
        have km := or.2.2.2.2.2.2.2.2.1
        rcases l2 with z | z
        · rw [dt z] at eB wB
          have fm := l3 z
          have f5 := L.1.2.2.1.2
          obtain ⟨F, rfl⟩ : ∃ F', F = F' + 1 := ⟨F - 1, by unfold fl at hF flq; omega⟩
          have hz5 : SZ c5 := SR.s0 (z ▸ L.2.1)
          have hV5 : CDV c5 M.2 := hV3.mv oc.en or.en
          have e2 : (va + 2).toInt = ((a + 2 : Nat) : Int) := (i_addy (y := 2) hva (show ((2 : Int32).toInt) = 2 from rfl) (by omega) (by omega)).trans (by omega)
          obtain ⟨y2, z2⟩ := be_C hV5.1 e2 ha
          have A5 : sA M.2 30 = A := (or.2.2.1 30 (by decide) (by decide) (by decide)).trans A3
          rw [A5, ← el] at y2
          obtain ⟨c6, hc6⟩ : ∃ c6, c6 = pA c5 15 (upd (sA c5 15) (d + 1) nx) := ⟨_, rfl⟩
          have sub : nx + l - l = nx := Int32.add_sub_cancel nx l
          have s5 : ∀ k, k ≠ 9 → sA c5 k = sA c3 k := fun k hk => oc.2.2.1 k hk
          have eC : t_En_beginFurtherRound_17 c5 (nI (d + 1)) va (b2i true) = c6 := by
            unfold t_En_beginFurtherRound_17
            rw [show cn1 .eq (b2i true) = false from rfl, cond_false, ed, y2, s5 16 (by decide), en3, sub, ← hc6]
          have wE : w_En_beginFurtherRound_17 c5 (nI (d + 1)) va (b2i true) := by
            unfold w_En_beginFurtherRound_17
            rw [show cn1 .eq (b2i true) = false from rfl]
            exact ⟨(fun z => nomatch z), fun _ => ⟨vd, z2, vd, trivial⟩⟩
          have ec6 : enC c5 c6 := by rw [hc6]; exact enC_A _ (by decide) _
          have A6 : ∀ k, k ≠ 15 → sA c6 k = sA c5 k := fun k hk => by rw [hc6, sA_pA, if_neg hk]
          have T6 : ∀ k, sT c6 k = sT c5 k := fun k => by rw [hc6]; rfl
          have I6 : ∀ k, sI c6 12 k = sI c3 12 k := fun k => by
            rw [hc6]
            exact L.2.2.1.1 12 k (by decide)
          have lo : ∀ a k, 13 ≤ a → a ≤ 18 → k ≤ d → sA c6 a k = sA c a k := fun a k x1 x2 hk => by
            rw [hc6, sA_pA]
            by_cases e : a = 15
            · rw [if_pos e, upN _ _ (by omega), s5 15 (by decide), e, a1.2.2.1 15 k (by decide) (by decide) (by omega)]
            · rw [if_neg e, s5 a (by omega), a1.2.2.1 a k x1 x2 (by omega)]
          have hH6 : HYP G T φ3 n3 u3 deep dd (d + 1) e xa (xa + ll) (t3 + 1) nx (nx + l) c6 M.2 := by
            refine ⟨by rw [hc6]; exact L.1.cA (a := 15) (by decide) _, by rw [hc6]; exact hz5, hV5.mv ec6 (opR.rf M.2).en, ⟨(I6 12).trans b12, (I6 13).trans (a1.2.1.trans i2), ?_, ?_⟩, ⟨hx, j2, by rw [hc6]; exact upS _ _ _, ?_, j5⟩, ⟨d1, d2, d3, d4, d5⟩, by omega⟩
            · exact (or.st e).1.trans (a2.1.trans i3)
            · exact (or.st e).2.1.trans (a2.2.1.trans i4)
            · rw [A6 16 (by decide), s5 16 (by decide)]
              exact en3
          obtain ⟨q, r1, c', t', W, hyW⟩ := wh_go hS hx hl el hva ha b7 hPV hm F φ3 n3 u3 c6 M.2 (t3 + 1) hH6 A5 (by rw [A6 13 (by decide), s5 13 (by decide)]; exact rl) (by rw [A6 14 (by decide), s5 14 (by decide)]; exact ro) (by unfold fl at hF flq ⊢; omega)
          refine ⟨q, fun C y hy g hg => ?_, c', t', ?_, fun y hy => lv y (wB wE) ?_⟩
          · obtain ⟨g, rfl⟩ : ∃ g', g = g' + 4 := ⟨g - 4, by omega⟩
            refine rN y g ?_
            rw [z]
            exact r1 C y hy g (by unfold fl at hg flq ⊢; omega)
          · obtain ⟨φ', n', u', k1, k2, k3, k4, k5, k6, k7⟩ := W
            refine ⟨φ', n', u', k1, g2.tr k2, k3, g4.tr (oc.en.tr (ec6.tr k4)), g5.tr (or.en.tr k5), k6, fun y => ?_⟩
            obtain ⟨m1, m2, m3, m4, m5, m6⟩ := k7 y
            refine ⟨m1, m2.trans ((I6 13).trans a1.2.1), fun a k x1 x2 hk => (m3 a k x1 x2 hk).trans (lo a k x1 x2 hk), fun k hk => ?_, a2.tr ((or.st e).tr m5), by omega⟩
            rw [(m4 k hk).1, (m4 k hk).2, T6, T6, oc.2.2.2.2 19 (by decide), oc.2.2.2.2 20 (by decide)]
            exact a1.2.2.2 k hk
          · rw [eB, eC]
            exact hyW y hy
        · have nz : ¬ M.1 = 0 := by rw [z]; decide
          rw [df nz] at eB wB
          refine ⟨M, fun C y hy g hg => ?_, c5, t3 + 1, ⟨φ3, n3, u3, L.1, g2, L.2.1, g4.tr oc.en, g5.tr or.en, by omega, fun y => ?_⟩, fun y hy => lv y (wB ⟨fun _ => trivial, (fun z => nomatch z)⟩) ?_⟩
          · obtain ⟨g, rfl⟩ : ∃ g', g = g' + 8 := ⟨g - 8, by omega⟩
            refine rN y (g + 4) ?_
            obtain ⟨x1, x2⟩ := hy (g + 1) (by unfold fl at hg flq ⊢; omega)
            have nm : cn1 .ne M.1 = true := by rw [z]; rfl
            constructor
            · show b_M_part_105 (F_part fu m) fu (T_M_part_2 (F_part fu m) fu (g + 3)) M.2 vb va M.1 nx l = _
              unfold b_M_part_105
              rw [nm, cond_true]
              show b_M_part_87 (F_part fu m) fu (T_M_part_2 (F_part fu m) fu (g + 2)) M.2 vb va M.1 nx l 0 = _
              unfold b_M_part_87
              rw [nm, cond_true]
              exact x1
            · show v_M_part_105 (F_part fu m) (W_part fu m) fu (T_M_part_2 (F_part fu m) fu (g + 3)) (WT_M_part_2 (F_part fu m) (W_part fu m) fu (g + 3)) M.2 vb va M.1 nx l
              unfold v_M_part_105
              rw [nm]
              refine ⟨fun _ => ?_, (fun z => nomatch z)⟩
              show v_M_part_87 (F_part fu m) (W_part fu m) fu (T_M_part_2 (F_part fu m) fu (g + 2)) (WT_M_part_2 (F_part fu m) (W_part fu m) fu (g + 2)) M.2 vb va M.1 nx l 0
              unfold v_M_part_87
              rw [nm]
              exact ⟨fun _ => x2, (fun z => nomatch z)⟩
          · rcases y with y | y
            · exact absurd y nz
            · exact absurd (z.symm.trans y) (by decide)
          · rw [eB]
            exact hy
    · by_cases st1 : Q.1 = 1
      · obtain ⟨a1, a2, a3, a4, a5⟩ := g7 (Or.inr st1)
        have rl : sA c3 13 (d + 1) = 2 := a4.1.trans hro
        have b12 : sI c3 12 12 = nI (d + 1 + 1) := a1.1.trans i1
        obtain ⟨c4, p1, pw, hW⟩ := cE (Or.inr st1)
        refine ⟨Q, rE (Or.inl (by rw [st1]; rfl)), c4, t3 + 1, hW, fun y hy => hy3 y (en_f (d := d + 1) (by omega) b12 (s13.trans st1) (by omega) ?_ ?_)⟩
        · unfold w_En_leaveByFault
          rw [ed, rl, show cn2 .eq (2 : Int32) 3 = false from rfl, show cn2 .eq (2 : Int32) 4 = false from rfl]
          exact ⟨vd, (fun z => nomatch z), fun _ => ⟨vd, (fun z => nomatch z), fun _ => ⟨pw, trivial⟩⟩⟩
        · unfold f_En_leaveByFault
          rw [ed, rl, show cn2 .eq (2 : Int32) 3 = false from rfl, show cn2 .eq (2 : Int32) 4 = false from rfl, cond_false, cond_false, p1]
          exact hy
      · have nq : cn1 .ne Q.1 = true := by rw [c1_ne]; exact dt (fun y => st0 (Int32.toInt_inj.mp (by rw [y]; rfl)))
        exact ⟨Q, rE (Or.inl nq), c3, t3, ⟨φ3, n3, u3, g1, g2, g3, g4, g5, g6, fun z => absurd z (fun y => y.elim st0 st1)⟩, hy3⟩
theorem ops_wh (hS : SP G T fu m) (hH : HYP G T φ n u deep dd d e a b t va vb c r) (hab : a < b) (hO : OVA (sA r 30) a) (h31 : sA r 30 a = 31) (hdd : 1 ≤ dd) (hP1 : PV (sA r 30) k (dd - 1) (a + 3) (a + 3 + lnA (sA r 30) (a + 2))) (hP : PV (sA r 30) k dd (a + 3 + lnA (sA r 30) (a + 2)) b) (hm : 22 * (12 - deep) + 2 * dd ≤ m) : OPS G T fu m φ n d e k dd a b t vb va c r := by
  have hH0 := hH
  obtain ⟨h, hz, hV, ⟨i1, i2, i3, i4⟩, ⟨j1, j2, j3, j4, j5⟩, ⟨d1, d2, d3, d4, d5⟩, ht⟩ := hH
  have f0 := h.2.2.1.2
  have le := hP.le
  have w3 : (f_M_wholeOf 31).toInt = 3 := by decide +kernel
  have hb0 : ∀ i, 0 ≤ (sA r 30 i).toInt ∧ (sA r 30 i).toInt ≤ 255 := fun i => by rw [hV.1 i]; exact b255 _
  have B2 := hb0 (a + 2)
  have L2 : (sA r 30 (a + 2)).toInt = (lnA (sA r 30) (a + 2) : Int) := by unfold lnA; omega
  have b7 := (hO.2 0 (by rw [h31, w3]; decide)).2
  rw [h31, mo31_0] at b7
  have b7' : (sA r 30 (a + 1)).toInt ≤ 7 := b7
  refine bo hH0 hab (by rw [h31]; decide) (by rw [h31]; decide) (fun c1 r1 h1 hz1 wc wr hf => ?_)
  have e30 : sA r1 30 = sA r 30 := by rw [wr.2.2.1]
  obtain ⟨c2, hc2⟩ : ∃ c2, c2 = pA c1 15 (upd (sA c1 15) d (va + f_M_wholeOf 31)) := ⟨_, rfl⟩
  obtain ⟨t1, t2⟩ := t13 (fu := fu) (show d ≤ 131 by omega) (op := 31) (by decide) (by decide) hc2
  rw [if_neg (by decide), if_pos rfl] at t1
  have hV1 : CDV c1 r1 := hV.mv wc.op.en wr.op.en
  have v1 : (va + f_M_wholeOf 31).toInt = ((a + 3 : Nat) : Int) := (i_addy (x := va) (y := f_M_wholeOf 31) j1 w3 (by omega) (by omega)).trans (by omega)
  have x1 : (va + 1).toInt = ((a + 1 : Nat) : Int) := (i_addy (y := 1) j1 (show ((1 : Int32).toInt) = 1 from rfl) (by omega) (by omega)).trans (by omega)
  have x2 : (va + 2).toInt = ((a + 2 : Nat) : Int) := (i_addy (y := 2) j1 (show ((2 : Int32).toInt) = 2 from rfl) (by omega) (by omega)).trans (by omega)
  have n1 : (va + 1).toNatClampNeg = a + 1 := by rw [tn_eq, x1]; omega
  have n2 : (va + 2).toNatClampNeg = a + 2 := by rw [tn_eq, x2]; omega
  have s1 : (va + f_M_wholeOf 31 + sA r 30 (a + 2)).toInt = ((a + 3 + lnA (sA r 30) (a + 2) : Nat) : Int) := (i_addy v1 L2 (by omega) (by omega)).trans (by omega)
  have hV2 : CDV c2 r1 := hV1.mv (by rw [hc2]; exact enC_A _ (by decide) _) (opR.rf r1).en
  obtain ⟨y2, z2⟩ := be_C hV2.1 x2 (by omega)
  rw [e30] at y2
  rw [y2] at t1 t2
  obtain ⟨c3, hc3⟩ : ∃ c3, c3 = pA c2 15 (upd (upd (sA c1 15) d (va + f_M_wholeOf 31)) d (va + f_M_wholeOf 31 + sA r 30 (a + 2))) := ⟨_, rfl⟩
  rw [← hc3] at t1 t2
  have ec3 : enC c1 c3 := by rw [hc3, hc2]; exact (enC_A _ (by decide) _).tr (enC_A _ (by decide) _)
  have h3 : RR G T φ n u c3 r1 := by rw [hc3, hc2]; exact (h1.cA (a := 15) (by decide) _).cA (a := 15) (by decide) _
  have hz3 : SZ c3 := by rw [hc3, hc2]; exact hz1
  have hV3 : CDV c3 r1 := hV1.mv ec3 (opR.rf r1).en
  have st3 : stC d c1 c3 := by
    rw [hc3, hc2]
    exact (stC_15 _ (fun k hk => upN _ _ (by omega))).tr (stC_15 _ (fun k hk => upN _ _ (by omega)))
  have A3 : ∀ k, k ≠ 15 → sA c3 k = sA c1 k := fun k hk => by rw [hc3, sA_pA, if_neg hk, hc2, sA_pA, if_neg hk]
  have T3 : ∀ k, sT c3 k = sT c1 k := fun k => by rw [hc3, hc2]; rfl
  have I3 : ∀ k, sI c3 12 k = sI c 12 k := fun k => by
    rw [hc3, hc2]
    exact wc.1 12 k (by decide)
  have x15 : sA c3 15 d = va + f_M_wholeOf 31 + sA r 30 (a + 2) := by rw [hc3]; exact upS _ _ _
  obtain ⟨on1, on2⟩ := on_C (va := va) (a := a) h3 hV3.1 j1 (by omega) (by rw [e30]; exact b7')
  rw [e30] at on1
  obtain ⟨y3, z3⟩ := be_C hV3.1 x2 (by omega)
  rw [e30] at y3
  have i25 : sI r1 21 25 = sI r 21 25 := wr.1 21 25 (fun _ => by decide)
  have i26 : sI r1 21 26 = sI r 21 26 := wr.1 21 26 (fun _ => by decide)
  have va0 : vp_in (va + 1) 3200 := vp_of (by omega) (by omega)
  have va2 : vp_in (va + 2) 3200 := vp_of (by omega) (by omega)
  have v8 : vp_in (sA r 30 (a + 1)) 8 := vp_of (hb0 (a + 1)).1 (by omega)
  rw [h31, t1]
  have w13 : w_En_beginOp_47 fu c3 va (va + f_M_wholeOf 31) → w_En_beginOp_13 fu c1 (nI d) va 31 1 := fun w => t2 (fun z => absurd z (by decide)) (fun _ => ⟨z2, w⟩) (fun z => absurd z (by decide)) (fun z => absurd z (by decide)) (fun _ z _ _ => absurd rfl z)
  have tr3 : ∀ {q : Int32 × St} {c' : St} {t' t2 : Nat}, t2 ≤ t + 5 → PO G T φ n d e t2 (sA c3 15 d) c3 r1 q c' t' → PO G T φ n d e (t + 5) (va + f_M_wholeOf 31 + sA r 30 (a + 2)) c1 r1 q c' t' := fun ht2 P => by
    rw [x15] at P
    exact PO.tr (EX.rf φ n) ec3 (opR.rf r1).en st3 (stR.rf e r1) (by omega) ⟨by rw [A3 13 (by decide)], by rw [A3 14 (by decide)], fun k hk => by rw [A3 k (by omega)]⟩ (fun k _ => ⟨by rw [T3], by rw [T3]⟩) P
  by_cases on : cn1 .eq (sA r1 28 (sA r 30 (a + 1)).toNatClampNeg) = true
  · rw [on] at on1
    refine ⟨(0, r1), a + 3 + lnA (sA r 30) (a + 2), va + f_M_wholeOf 31 + sA r 30 (a + 2), fun _ => ⟨s1, hP, by omega⟩, fun C y hy g hg => ?_, w13 ?_, c3, t + 1, tr3 (t2 := t + 1) (by omega) ⟨φ, n, u, h3, EX.rf _ _, ⟨hz3.1, Or.inl ⟨rfl, hz3.2⟩⟩, enC.rf _, (opR.rf r1).en, by omega, fun _ => ⟨stC.rf _ _, stR.rf _ _, Int.le_refl _, ⟨rfl, rfl, fun _ _ => rfl⟩, fun _ _ => ⟨rfl, rfl⟩⟩, fun _ => rfl⟩, fun y hy => ?_⟩
    · obtain ⟨g, rfl⟩ : ∃ g', g = g' + 2 := ⟨g - 2, by omega⟩
      obtain ⟨u1, u2⟩ := hy g (by show C + 4 * fl r1 ≤ g; omega)
      constructor
      · unfold b_M_part_13
        rw [show cn1 .eq (0 : Int32) = true from rfl, cond_true, show cn2 .ne (31 : Int32) 30 = true from rfl, cond_true, show cn2 .ne (31 : Int32) 31 = false from rfl, cond_false, n2, e30]
        show b_M_part_87 (F_part fu m) fu (T_M_part_2 (F_part fu m) fu (g + 1)) r1 vb va 0 (va + f_M_wholeOf 31) (sA r 30 (a + 2)) 1 = _
        unfold b_M_part_87
        rw [show cn1 .ne (0 : Int32) = false from rfl, cond_false, n1, e30, on, cond_true]
        exact u1
      · unfold v_M_part_13
        rw [show cn2 .ne (31 : Int32) 30 = true from rfl, show cn2 .ne (31 : Int32) 31 = false from rfl, n2, e30]
        refine ⟨fun _ => ⟨fun _ => ⟨(fun z => nomatch z), fun _ => ⟨va2, ?_⟩⟩, (fun z => nomatch z)⟩, (fun z => nomatch z)⟩
        show v_M_part_87 (F_part fu m) (W_part fu m) fu (T_M_part_2 (F_part fu m) fu (g + 1)) (WT_M_part_2 (F_part fu m) (W_part fu m) fu (g + 1)) r1 vb va 0 (va + f_M_wholeOf 31) (sA r 30 (a + 2)) 1
        unfold v_M_part_87
        rw [show cn1 .ne (0 : Int32) = false from rfl, n1, e30, on]
        exact ⟨(fun z => nomatch z), fun _ => ⟨va0, v8, fun _ => u2, (fun z => nomatch z)⟩⟩
    · unfold w_En_beginOp_47
      rw [on1]
      exact ⟨on2, fun _ => trivial, (fun z => nomatch z)⟩
    · unfold t_En_beginOp_47
      rw [on1, show cn1 .eq (b2i (!true)) = true from rfl, cond_true]
      exact hy
  · have off : cn1 .eq (sA r1 28 (sA r 30 (a + 1)).toNatClampNeg) = false := by
      cases hx : cn1 .eq (sA r1 28 (sA r 30 (a + 1)).toNatClampNeg) with
      | true => exact absurd hx on
      | false => rfl
    rw [off] at on1
    obtain ⟨wp, c4, q1, q2, q3, q4, q5, q6, q7, q8, q9, q10⟩ := psh (G := G) (T := T) (c := c3) (d := d) (by omega) ((I3 12).trans i1) 2 va (va + f_M_wholeOf 31) (sA r 30 (a + 2))
    have hH4 : HYP G T φ n u deep (dd - 1) (d + 1) e (a + 3) (a + 3 + lnA (sA r 30) (a + 2)) (t + 1) (va + f_M_wholeOf 31) (va + f_M_wholeOf 31 + sA r 30 (a + 2)) c4 r1 := by
      refine ⟨q2 h3, ⟨(q6 3).trans hz3.1, (q6 4).trans hz3.2.1, (q6 5).trans hz3.2.2⟩, hV3.mv q3 (opR.rf r1).en, ⟨q4, (q5.trans (I3 13)).trans i2, i25.trans i3, i26.trans i4⟩, ⟨v1, s1, q7.2.2.1, q7.2.2.2, by omega⟩, ⟨d1, d2, by omega, by omega, by omega⟩, ?_⟩
      rw [hf]
      omega
    obtain ⟨q, r2, c', t', W, hy'⟩ := wh_go (vb := vb) (fu := fu) hS v1 L2 rfl j1 (by omega) b7' hP1 (by omega) (fl r1) φ n u c4 r1 (t + 1) hH4 e30 q7.1 q7.2.1 (Nat.le_refl _)
    refine ⟨q, a + 3 + lnA (sA r 30) (a + 2), va + f_M_wholeOf 31 + sA r 30 (a + 2), fun _ => ⟨s1, hP, by omega⟩, fun C y hy g hg => ?_, w13 ?_, c', t', tr3 (t2 := t + 1 + 1) (by omega) (W.po ((I3 12).trans i1) q3 q5 q8 q9), fun y hy => ?_⟩
    · obtain ⟨g, rfl⟩ : ∃ g', g = g' + 1 := ⟨g - 1, by omega⟩
      obtain ⟨u1, u2⟩ := r2 C y hy g (by omega)
      constructor
      · unfold b_M_part_13
        rw [show cn1 .eq (0 : Int32) = true from rfl, cond_true, show cn2 .ne (31 : Int32) 30 = true from rfl, cond_true, show cn2 .ne (31 : Int32) 31 = false from rfl, cond_false, n2, e30]
        show b_M_part_87 (F_part fu m) fu (T_M_part_2 (F_part fu m) fu g) r1 vb va 0 (va + f_M_wholeOf 31) (sA r 30 (a + 2)) 1 = _
        unfold b_M_part_87
        rw [show cn1 .ne (0 : Int32) = false from rfl, cond_false, n1, e30, off, cond_false, show cn1 .ne (1 : Int32) = true from rfl, cond_true]
        exact u1
      · unfold v_M_part_13
        rw [show cn2 .ne (31 : Int32) 30 = true from rfl, show cn2 .ne (31 : Int32) 31 = false from rfl, n2, e30]
        refine ⟨fun _ => ⟨fun _ => ⟨(fun z => nomatch z), fun _ => ⟨va2, ?_⟩⟩, (fun z => nomatch z)⟩, (fun z => nomatch z)⟩
        show v_M_part_87 (F_part fu m) (W_part fu m) fu (T_M_part_2 (F_part fu m) fu g) (WT_M_part_2 (F_part fu m) (W_part fu m) fu g) r1 vb va 0 (va + f_M_wholeOf 31) (sA r 30 (a + 2)) 1
        unfold v_M_part_87
        rw [show cn1 .ne (0 : Int32) = false from rfl, n1, e30, off, show cn1 .ne (1 : Int32) = true from rfl]
        exact ⟨(fun z => nomatch z), fun _ => ⟨va0, v8, (fun z => nomatch z), fun _ => ⟨fun _ => u2, (fun z => nomatch z)⟩⟩⟩
    · unfold w_En_beginOp_47
      rw [on1, y3]
      exact ⟨on2, (fun z => nomatch z), fun _ => ⟨z3, wp, trivial⟩⟩
    · unfold t_En_beginOp_47
      rw [on1, show cn1 .eq (b2i (!false)) = false from rfl, cond_false, y3, q1]
      exact hy' y hy
end WH
