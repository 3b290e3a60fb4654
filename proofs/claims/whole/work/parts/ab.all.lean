/-! ALL PARTS -/
theorem wo_rng {x : Int32} (h : 2 ≤ (f_M_wholeOf x).toInt) : 1 ≤ x.toInt ∧ x.toInt ≤ 34 := by
  refine Decidable.byContradiction fun z => ?_
  have ne : ∀ k : Int32, 1 ≤ k.toInt → k.toInt ≤ 34 → ¬ x = k := fun k a b e => z (by rw [e]; exact ⟨a, b⟩)
  have : f_M_wholeOf x = 0 := by
    unfold f_M_wholeOf
    exact (if_neg (ne 1 (by decide) (by decide))).trans ((if_neg (ne 2 (by decide) (by decide))).trans ((if_neg (ne 3 (by decide) (by decide))).trans ((if_neg (ne 4 (by decide) (by decide))).trans ((if_neg (ne 5 (by decide) (by decide))).trans ((if_neg (ne 6 (by decide) (by decide))).trans ((if_neg (ne 7 (by decide) (by decide))).trans ((if_neg (ne 8 (by decide) (by decide))).trans ((if_neg (ne 9 (by decide) (by decide))).trans ((if_neg (ne 10 (by decide) (by decide))).trans ((if_neg (ne 11 (by decide) (by decide))).trans ((if_neg (ne 12 (by decide) (by decide))).trans ((if_neg (ne 13 (by decide) (by decide))).trans ((if_neg (ne 14 (by decide) (by decide))).trans ((if_neg (ne 15 (by decide) (by decide))).trans ((if_neg (ne 16 (by decide) (by decide))).trans ((if_neg (ne 17 (by decide) (by decide))).trans ((if_neg (ne 18 (by decide) (by decide))).trans ((if_neg (ne 19 (by decide) (by decide))).trans ((if_neg (ne 20 (by decide) (by decide))).trans ((if_neg (ne 21 (by decide) (by decide))).trans ((if_neg (ne 22 (by decide) (by decide))).trans ((if_neg (ne 23 (by decide) (by decide))).trans ((if_neg (ne 24 (by decide) (by decide))).trans ((if_neg (ne 25 (by decide) (by decide))).trans ((if_neg (ne 26 (by decide) (by decide))).trans ((if_neg (ne 27 (by decide) (by decide))).trans ((if_neg (ne 28 (by decide) (by decide))).trans ((if_neg (ne 29 (by decide) (by decide))).trans ((if_neg (ne 30 (by decide) (by decide))).trans ((if_neg (ne 31 (by decide) (by decide))).trans ((if_neg (ne 32 (by decide) (by decide))).trans ((if_neg (ne 33 (by decide) (by decide))).trans (if_neg (ne 34 (by decide) (by decide)))))))))))))))))))))))))))))))))))
  rw [this] at h
  exact absurd h (by decide)
section AP
variable {G : AH} {T : Nat} {fu deep dd d e b m : Nat} {vb : Int32}
theorem part_go (hfu : 10000000 ≤ fu) (hS : SP G T fu (m + 1)) (hS' : SP G T fu m) (hm : 22 * (12 - deep) + 2 * dd ≤ m) : ∀ (k : Nat) (φ : Nat → Nat) (n u a t : Nat) (va : Int32) (c r : St), HYP G T φ n u deep dd d e a b t va vb c r → PV (sA r 30) k dd a b → ∃ q, (∀ g, 16 * (b - a) + 2 + 4 * fl r ≤ g → (T_M_part_2 (F_part fu (m + 1)) fu g).1 r vb va = q ∧ (WT_M_part_2 (F_part fu (m + 1)) (W_part fu (m + 1)) fu g).1 r vb va) ∧ ∃ c' t', PO G T φ n d e t vb c r q c' t' ∧ ∀ y, RES fu c' t' y → RES fu c t y := by
  have nil : ∀ (φ : Nat → Nat) (n u a t : Nat) (va : Int32) (c r : St), HYP G T φ n u deep dd d e a b t va vb c r → a = b → ∃ q, (∀ g, 16 * (b - a) + 2 + 4 * fl r ≤ g → (T_M_part_2 (F_part fu (m + 1)) fu g).1 r vb va = q ∧ (WT_M_part_2 (F_part fu (m + 1)) (W_part fu (m + 1)) fu g).1 r vb va) ∧ ∃ c' t', PO G T φ n d e t vb c r q c' t' ∧ ∀ y, RES fu c' t' y → RES fu c t y := fun φ n u a t va c r hH hab => by
    obtain ⟨h, hz, hV, ⟨i1, i2, i3, i4⟩, ⟨j1, j2, j3, j4, j5⟩, ⟨d1, d2, d3, d4, d5⟩, ht⟩ := hH
    have f0 := h.2.2.1.2
    have ge : cn2 .ge va vb = true := by rw [c2_ge]; exact dt (by omega)
    refine ⟨(0, r), fun g hg => ?_, c, t, ⟨φ, n, u, h, EX.rf _ _, ⟨hz.1, Or.inl ⟨rfl, hz.2⟩⟩, enC.rf _, (opR.rf r).en, by omega, fun _ => ⟨stC.rf _ _, stR.rf _ _, Int.le_refl _, ⟨rfl, rfl, fun _ _ => rfl⟩, fun _ _ => ⟨rfl, rfl⟩⟩, fun _ => ?_⟩, fun y hy => hy⟩
    · obtain ⟨g, rfl⟩ : ∃ g', g = g' + 1 := ⟨g - 1, by omega⟩
      constructor
      · show b_M_part_2 (F_part fu (m + 1)) fu (T_M_part_2 (F_part fu (m + 1)) fu g) r vb va = _
        unfold b_M_part_2
        rw [ge, cond_true]
      · show v_M_part_2 (F_part fu (m + 1)) (W_part fu (m + 1)) fu (T_M_part_2 (F_part fu (m + 1)) fu g) (WT_M_part_2 (F_part fu (m + 1)) (W_part fu (m + 1)) fu g) r vb va
        unfold v_M_part_2
        rw [ge]
        exact ⟨fun _ => trivial, (fun z => nomatch z)⟩
    · rw [j3]
      exact Int32.toInt_inj.mp (by omega)
  intro k
  induction k with
  | zero => exact fun φ n u a t va c r hH hP => nil φ n u a t va c r hH hP
  | succ k ih =>
    intro φ n u a t va c r hH hP
    rcases hP with hP | ⟨hO, hW, hP⟩
    · exact nil φ n u a t va c r hH hP
    · have rg := wo_rng hW
      have toI : ∀ (x : Int32) (v : Int32), x.toInt = v.toInt → x = v := fun x v z => Int32.toInt_inj.mp z
      have ops : OPS G T fu (m + 1) φ n d e k dd a b t vb va c r := by
        rcases hP with ⟨o, hd, p1, p2, p3⟩ | ⟨o, hd, p1, p2⟩ | ⟨o, hd, p1, p2, p3, p4⟩ | ⟨o, p1⟩
        · exact ops_ch hS hH (by have := p3.le; omega) hO (toI _ 30 o) hd p1 p2 p3 (by omega)
        · exact ops_wh hS hH (by have := p2.le; omega) hO (toI _ 31 o) hd p1 p2 (by omega)
        · exact ops_sc hfu hS' hH (by have := p4.le; omega) hO (toI _ 32 o) hd p1 p2 p3 p4 hm
        · by_cases o33 : (sA r 30 a).toInt = 33
          · exact ops_pt (by omega) hS' hH (by have := p1.le; omega) hO (toI _ 33 o33) p1 (by omega)
          · exact ops_pl (by omega) hH (by have := p1.le; omega) hO hW rg.1 rg.2 (by omega) p1
      obtain ⟨q1, a', va', o1, o2, c1, t1, P, hy⟩ := ops
      obtain ⟨h, hz, hV, ⟨i1, i2, i3, i4⟩, ⟨j1, j2, j3, j4, j5⟩, ⟨d1, d2, d3, d4, d5⟩, ht⟩ := hH
      obtain ⟨φ1, n1, u1, g1, g2, g3, g4, g5, g6, g7, g8⟩ := P
      by_cases st : q1.1 = 0
      · obtain ⟨b1, b2, b3⟩ := o1 st
        obtain ⟨a1, a2, a3, a4, a5⟩ := g7 (Or.inl st)
        have A1 : sA q1.2 30 = sA r 30 := g5.2.2.1 30 (by decide) (by decide) (by decide) (by decide) (by decide)
        have ab := b2.le
        obtain ⟨q, R, c', t', P', hy'⟩ := ih φ1 n1 u1 a' t1 va' c1 q1.2 ⟨g1, SR.s0 (st ▸ g3), hV.mv g4 g5, ⟨a1.1.trans i1, a1.2.1.trans i2, a2.1.trans i3, a2.2.1.trans i4⟩, ⟨b1, j2, g8 st, (a4.2.2 16 (Or.inl rfl)).trans j4, j5⟩, ⟨d1, d2, d3, d4, d5⟩, by omega⟩ (by rw [A1]; exact b2)
        refine ⟨q, fun g hg => ?_, c', t', PO.tr g2 g4 g5 a1 a2 a3 a4 a5 P', fun y hh => hy y (hy' y hh)⟩
        refine o2 (16 * (b - a') + 3) q (fun g hg => ?_) g (by omega)
        obtain ⟨g, rfl⟩ : ∃ g', g = g' + 1 := ⟨g - 1, by omega⟩
        obtain ⟨x1, x2⟩ := R g (by omega)
        constructor
        · show b_M_part_174 (F_part fu (m + 1)) fu (T_M_part_2 (F_part fu (m + 1)) fu g) q1.2 vb q1.1 va' = _
          unfold b_M_part_174
          rw [st, show cn1 .eq (0 : Int32) = true from rfl, cond_true]
          exact x1
        · show v_M_part_174 (F_part fu (m + 1)) (W_part fu (m + 1)) fu (T_M_part_2 (F_part fu (m + 1)) fu g) (WT_M_part_2 (F_part fu (m + 1)) (W_part fu (m + 1)) fu g) q1.2 vb q1.1 va'
          unfold v_M_part_174
          exact ⟨fun _ => x2, fun _ => trivial⟩
      · have nq : cn1 .eq q1.1 = false := by rw [c1_eq]; exact df (fun y => st (Int32.toInt_inj.mp (by rw [y]; rfl)))
        have ab : 1 ≤ b - a := by
          rcases hP with ⟨o, hd, p1, p2, p3⟩ | ⟨o, hd, p1, p2⟩ | ⟨o, hd, p1, p2, p3, p4⟩ | ⟨o, p1⟩
          · have := p3.le; omega
          · have := p2.le; omega
          · have := p4.le; omega
          · have := p1.le; omega
        refine ⟨q1, fun g hg => ?_, c1, t1, ⟨φ1, n1, u1, g1, g2, g3, g4, g5, g6, g7, fun z => absurd z st⟩, hy⟩
        refine o2 1 q1 (fun g hg => ?_) g (by omega)
        obtain ⟨g, rfl⟩ : ∃ g', g = g' + 1 := ⟨g - 1, by omega⟩
        constructor
        · show b_M_part_174 (F_part fu (m + 1)) fu (T_M_part_2 (F_part fu (m + 1)) fu g) q1.2 vb q1.1 va' = _
          unfold b_M_part_174
          rw [nq, cond_false]
        · show v_M_part_174 (F_part fu (m + 1)) (W_part fu (m + 1)) fu (T_M_part_2 (F_part fu (m + 1)) fu g) (WT_M_part_2 (F_part fu (m + 1)) (W_part fu (m + 1)) fu g) q1.2 vb q1.1 va'
          unfold v_M_part_174
          rw [nq]
          exact ⟨(fun z => nomatch z), fun _ => trivial⟩
/-- at every depth -/
theorem SP_all (hfu : 10000000 ≤ fu) : ∀ m, SP G T fu m ∧ SP G T fu (m + 1) := by
  have s0 : SP G T fu 0 := fun φ n u deep dd d e a b k t va vb c r _ _ hm => absurd hm (by omega)
  have s1 : SP G T fu 1 := fun φ n u deep dd d e a b k t va vb c r _ _ hm => absurd hm (by omega)
  intro m
  induction m with
  | zero => exact ⟨s0, s1⟩
  | succ m ih =>
    refine ⟨ih.2, fun φ n u deep dd d e a b k t va vb c r hH hP hm => ?_⟩
    obtain ⟨q, R, c', t', P, hy⟩ := part_go hfu ih.2 ih.1 (by omega) k φ n u a t va c r hH hP
    obtain ⟨h, hz, hV, -, ⟨j1, j2, j3, j4, j5⟩, -, ht⟩ := hH
    have f0 := h.2.2.1.2
    obtain ⟨x1, x2⟩ := R fu (by unfold fl; omega)
    have e : (F_part fu (m + 1 + 1)).1 r va vb = q := x1
    exact ⟨x2, c', t', by rw [e]; exact P, hy⟩
end AP
