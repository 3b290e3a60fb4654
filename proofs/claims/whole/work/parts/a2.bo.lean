/-! AN OP BEGUN -/
def fl (r : St) : Nat := (sI r 21 11).toInt.toNat
def RP (rec : G_part) (wrec : GW_part) (fu : Nat) (vb : Int32) (C : Nat) (r : St) (va : Int32) (y : Int32 × St) : Prop := ∀ g, C + 4 * fl r ≤ g → (T_M_part_2 rec fu g).1 r vb va = y ∧ (WT_M_part_2 rec wrec fu g).1 r vb va
def RQ (rec : G_part) (wrec : GW_part) (fu : Nat) (vb : Int32) (C : Nat) (r : St) (st va : Int32) (y : Int32 × St) : Prop := ∀ g, C + 4 * fl r ≤ g → (T_M_part_2 rec fu g).2.2.2.2.2.2.2.2.2.2.2.2.2 r vb st va = y ∧ (WT_M_part_2 rec wrec fu g).2.2.2.2.2.2.2.2.2.2.2.2.2 r vb st va
def OPS (G : AH) (T fu m : Nat) (φ : Nat → Nat) (n d e k dd a b t : Nat) (vb va : Int32) (c r : St) : Prop := ∃ (q : Int32 × St) (a' : Nat) (va' : Int32), (q.1 = 0 → va'.toInt = (a' : Int) ∧ PV (sA r 30) k dd a' b ∧ a + 2 ≤ a') ∧ (∀ C y, RQ (F_part fu m) (W_part fu m) fu vb C q.2 q.1 va' y → RP (F_part fu m) (W_part fu m) fu vb (C + 16) r va y) ∧ ∃ c' t', PO G T φ n d e t va' c r q c' t' ∧ ∀ y, RES fu c' t' y → RES fu c t y
section BO
variable {G : AH} {T : Nat} {φ : Nat → Nat} {n u fu deep dd d e a b k t m : Nat} {c r : St} {va vb : Int32}
/-- fuel for the op; then what it does -/
theorem bo (hH : HYP G T φ n u deep dd d e a b t va vb c r) (hab : a < b) (o1 : 1 ≤ (sA r 30 a).toInt) (o2 : (sA r 30 a).toInt ≤ 34)
    (go : ∀ c1 r1, RR G T φ n u c1 r1 → SZ c1 → wC c c1 → wR r r1 → (sI r1 21 11).toInt = (sI r 21 11).toInt - 1 → 
      ∃ (q : Int32 × St) (a' : Nat) (va' : Int32), (q.1 = 0 → va'.toInt = (a' : Int) ∧ PV (sA r 30) k dd a' b ∧ a + 2 ≤ a') ∧
        (∀ C y, RQ (F_part fu m) (W_part fu m) fu vb C q.2 q.1 va' y → ∀ g, C + 10 + 4 * fl r1 ≤ g → b_M_part_13 (F_part fu m) fu (T_M_part_2 (F_part fu m) fu g) r1 vb va (sA r 30 a) 0 = y ∧ v_M_part_13 (F_part fu m) (W_part fu m) fu (T_M_part_2 (F_part fu m) fu g) (WT_M_part_2 (F_part fu m) (W_part fu m) fu g) r1 vb va (sA r 30 a) 0) ∧
        w_En_beginOp_13 fu c1 (nI d) va (sA r 30 a) 1 ∧ ∃ c' t', PO G T φ n d e (t + 5) va' c1 r1 q c' t' ∧ ∀ y, RES fu c' t' y → RES fu (t_En_beginOp_13 fu c1 (nI d) va (sA r 30 a) 1) (t + 1) y) : OPS G T fu m φ n d e k dd a b t vb va c r := by
  obtain ⟨h, hz, hV, ⟨i1, i2, i3, i4⟩, ⟨j1, j2, j3, j4, j5⟩, ⟨d1, d2, d3, d4, d5⟩, ht⟩ := hH
  have f0 := h.2.2.1.2
  have ed : (nI d).toNatClampNeg = d := nN (by omega)
  have vd : vp_in (nI d) 132 := vp_of (by rw [yI_i (by omega)]; omega) (by rw [yI_i (by omega)]; omega)
  have ea : va.toNatClampNeg = a := by rw [tn_eq, j1]; omega
  have va3 : vp_in va 3200 := vp_of (by omega) (by omega)
  obtain ⟨b1, b2⟩ := be_C hV.1 j1 (show a < 3200 by omega)
  obtain ⟨L, l1, l2, l3⟩ := b1_led h hz
  obtain ⟨c1, hc1⟩ : ∃ c1, c1 = (f_Le_burn c 1).2 := ⟨_, rfl⟩
  obtain ⟨M, hM⟩ : ∃ M, M = f_M_takes r 1 := ⟨_, rfl⟩
  rw [← hc1, ← hM] at L
  rw [← hM] at l1 l2 l3
  have ge : cn2 .ge va vb = false := by rw [c2_ge]; exact df (by omega)
  have eB : f_En_beginOp fu c (nI d) = t_En_beginOp_13 fu c1 (nI d) va (sA r 30 a) (b2i (decide (M.1 = 0))) := by
    unfold f_En_beginOp
    rw [ed, j3, b1, l1, ← hc1]
  have wB : w_En_beginOp_13 fu c1 (nI d) va (sA r 30 a) (b2i (decide (M.1 = 0))) → w_En_beginOp fu c (nI d) := fun w => by
    unfold w_En_beginOp
    rw [ed, j3, b1, l1, ← hc1]
    exact ⟨vd, b2, trivial, w⟩
  have s0 : sI c 1 3 = 0 := hz.1
  have rp : ∀ C y, (∀ g, C ≤ g → b_M_part_13 (F_part fu m) fu (T_M_part_2 (F_part fu m) fu g) M.2 vb va (sA r 30 a) M.1 = y ∧ v_M_part_13 (F_part fu m) (W_part fu m) fu (T_M_part_2 (F_part fu m) fu g) (WT_M_part_2 (F_part fu m) (W_part fu m) fu g) M.2 vb va (sA r 30 a) M.1) → ∀ g, C + 2 ≤ g → (T_M_part_2 (F_part fu m) fu g).1 r vb va = y ∧ (WT_M_part_2 (F_part fu m) (W_part fu m) fu g).1 r vb va := fun C y hh g hg => by
    obtain ⟨g, rfl⟩ : ∃ g', g = g' + 2 := ⟨g - 2, by omega⟩
    obtain ⟨x1, x2⟩ := hh g (by omega)
    constructor
    · show b_M_part_2 (F_part fu m) fu (T_M_part_2 (F_part fu m) fu (g + 1)) r vb va = _
      unfold b_M_part_2
      rw [ge, cond_false, ea, ← hM]
      exact x1
    · show v_M_part_2 (F_part fu m) (W_part fu m) fu (T_M_part_2 (F_part fu m) fu (g + 1)) (WT_M_part_2 (F_part fu m) (W_part fu m) fu (g + 1)) r vb va
      unfold v_M_part_2
      rw [ge, ea, ← hM]
      exact ⟨(fun z => nomatch z), fun _ => ⟨va3, trivial, x2⟩⟩
  rcases l2 with z | z
  · have e1 : decide (M.1 = 0) = true := dt z
    rw [e1] at eB wB
    have hz1 : SZ c1 := SR.s0 (z ▸ L.2.1)
    have fm := l3 z
    obtain ⟨q, a', va', g1, g2, g3, c', t', P, g4⟩ := go c1 M.2 L.1 hz1 L.2.2.1 L.2.2.2 fm
    refine ⟨q, a', va', g1, fun C y hy g hg => ?_, c', t', ?_, fun y hy => ?_⟩
    · refine rp (C + 10 + 4 * fl M.2) y (fun g hg => ?_) g ?_
      · rw [z]
        exact g2 C y hy g hg
      · have : fl M.2 + 1 = fl r := by
          have f1 := L.1.2.2.1.2
          unfold fl
          omega
        omega
    · have oc := L.2.2.1.op
      have or := L.2.2.2.op
      exact PO.tr (EX.rf φ n) oc.en or.en (oc.st d) (or.st e) (show ((t + 5 : Nat) : Int) + _ ≤ _ by omega) ⟨by rw [oc.2.2.1 13 (by decide)], by rw [oc.2.2.1 14 (by decide)], fun k hk => by rw [oc.2.2.1 k (by omega)]⟩ (fun k _ => ⟨by rw [oc.2.2.2.2 19 (by decide)], by rw [oc.2.2.2.2 20 (by decide)]⟩) P
    · refine en_o (by omega) i1 s0 (by omega) (by rw [j3, j4]; omega) (wB g3) ?_
      rw [eB]
      exact g4 y hy
  · have e1 : decide (M.1 = 0) = false := df (by rw [z]; decide)
    rw [e1] at eB wB
    have eB2 : f_En_beginOp fu c (nI d) = c1 := eB
    have oc := L.2.2.1.op
    have or := L.2.2.2.op
    refine ⟨M, a, va, fun y => absurd (z.symm.trans y) (by decide), fun C y hy g hg => ?_, c1, t + 1, ⟨φ, n, u, L.1, EX.rf _ _, L.2.1, oc.en, or.en, by omega, fun y => ?_, fun y => absurd (z.symm.trans y) (by decide)⟩, fun y hy => ?_⟩
    · have ey : y = M := by
        obtain ⟨x1, -⟩ := hy (C + 4 * fl M.2 + 1) (by omega)
        rw [← x1]
        show b_M_part_174 (F_part fu m) fu (T_M_part_2 (F_part fu m) fu (C + 4 * fl M.2)) M.2 vb M.1 va = _
        unfold b_M_part_174
        rw [z]
        show (2, M.2) = M
        rw [← z]
      refine rp 0 y (fun g hg => ?_) g (by omega)
      rw [ey]
      constructor
      · unfold b_M_part_13
        rw [z]
        show (2, M.2) = M
        rw [← z]
      · unfold v_M_part_13
        rw [z]
        exact ⟨(fun z => nomatch z), fun _ => trivial⟩
    · rcases y with y | y
      · exact absurd (z.symm.trans y) (by decide)
      · exact absurd (z.symm.trans y) (by decide)
    · refine en_o (by omega) i1 s0 (by omega) (by rw [j3, j4]; omega) (wB ⟨(fun z => nomatch z), fun _ => trivial⟩) ?_
      rw [eB2]
      exact hy
end BO
