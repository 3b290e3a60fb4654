/-! IS THE TAPE A PATCH? -/
theorem nAd (x y : Nat) : nI x + nI y = nI (x + y) := (Int32.ofNat_add x y).symm
theorem nSb (x y : Nat) : nI (x + y) - nI y = nI x := by rw [← nAd, Int32.add_sub_cancel]
theorem kge {x y : Nat} (hx : x < 2147483648) (hy : y < 2147483648) : cn2 .ge (nI x) (nI y) = decide (y ≤ x) := by rw [c2_ge, yI_i hx, yI_i hy]; exact decide_eq_decide.mpr (by omega)
theorem kle {x y : Nat} (hx : x < 2147483648) (hy : y < 2147483648) : cn2 .le (nI x) (nI y) = decide (x ≤ y) := by rw [c2_le, yI_i hx, yI_i hy]; exact decide_eq_decide.mpr (by omega)
theorem kgt {x y : Nat} (hx : x < 2147483648) (hy : y < 2147483648) : cn2 .gt (nI x) (nI y) = decide (y < x) := by rw [c2_gt, yI_i hx, yI_i hy]; exact decide_eq_decide.mpr (by omega)
theorem klt {x y : Nat} (hx : x < 2147483648) (hy : y < 2147483648) : cn2 .lt (nI x) (nI y) = decide (x < y) := by rw [c2_lt, yI_i hx, yI_i hy]; exact decide_eq_decide.mpr (by omega)
theorem n_m1 {x : Nat} (hx : x < 2147483648) : ¬ nI x = -1 := fun z => by
  have := yI_i hx
  rw [z] at this
  have e : ((-1 : Int32).toInt) = -1 := rfl
  omega
theorem vp_n {x n : Nat} (h : x < n) (hn : n < 2147483648) : vp_in (nI x) n := vp_of (by rw [yI_i (by omega)]; omega) (by rw [yI_i (by omega)]; omega)
/-- L bytes of the tape, on both sides -/
def TP (c r : St) (L : Nat) : Prop := L ≤ 200 ∧ ∀ k, k < L → sA r 32 k = sA c 3 k &&& 255
theorem TP.ln {c r : St} {L k : Nat} (h : TP c r L) (hk : k < L) : sA c 3 k &&& 255 = nI (lnA (sA r 32) k) ∧ sA r 32 k = nI (lnA (sA r 32) k) ∧ lnA (sA r 32) k ≤ 255 := by
  have e := h.2 k hk
  have b := b255 (sA c 3 k)
  rw [← e] at b
  have z : sA r 32 k = nI (lnA (sA r 32) k) := yI_of (by unfold lnA; omega) (by unfold lnA; omega)
  exact ⟨e.symm.trans z, z, by unfold lnA; omega⟩
section OPG
variable {c r : St} {fu L a W : Nat} {op x1 v2 v3 v7 : Int32} {rec : G_wrong} {wrec : GW_wrong}
theorem op_len (h1 : 1 ≤ op.toInt) (h2 : op.toInt ≤ 34) (hW : (f_M_wholeOf op).toInt = (W : Int)) : 2 ≤ W ∧ W ≤ 10 ∧ f_M_wholeOf op = nI W ∧ sk (f_Pt_operands c op) ∧ stl (f_Pt_operands c op) = nI (W - 1) ∧ stn (f_Pt_operands c op) = W - 1 := by
  have b := wo_ge h1 h2
  obtain ⟨o1, o2⟩ := opd (s := c) h1 h2 0
  have eW : f_M_wholeOf op = nI W := yI_of hW (by omega)
  obtain ⟨k, k1, k2⟩ := o2
  have sl := sn_le k
  have e : stl (f_Pt_operands c op) = nI (stn (f_Pt_operands c op)) := rfl
  rw [← k2] at sl
  rw [e, eW, show (0 : Int32) + 1 = nI 1 from rfl, show (0 : Int32) = nI 0 from rfl, nAd, nAd] at o1
  have i1 := yI_i (k := 1 + stn (f_Pt_operands c op)) (by omega)
  have i2 := yI_i (k := 0 + W) (by omega)
  rw [o1] at i1
  have z : stn (f_Pt_operands c op) = W - 1 := by omega
  exact ⟨by omega, by omega, eW, ⟨k, k1, k2⟩, by rw [e, z], z⟩
theorem op_go (hT : TP c r L) (hG : isG (sD c)) (h1 : 1 ≤ op.toInt) (h2 : op.toInt ≤ 34) (hW : (f_M_wholeOf op).toInt = (W : Int)) (haL : a + W ≤ L) (hx : x1 = sA r 32 (a + 1)) : ∀ (k j : Nat), j + k + 1 = W →
    (∃ x : Int32, ¬ x = -1 ∧ (∀ g, 2 * k + 1 ≤ g → (T_Pt_wrongOperand_16 fu g).1 c (nI a) (f_Pt_operands c op) op x1 (nI j) = x ∧ (WT_Pt_wrongOperand_16 fu g).1 c (nI a) (f_Pt_operands c op) op x1 (nI j)) ∧ (∀ g, k + 1 ≤ g → (T_M_wrong_2 rec fu g).2.2.2.2.1 r v2 v3 (nI a) op (nI W) v7 (nI j) = x ∧ (WT_M_wrong_2 rec wrec fu g).2.2.2.2.1 r v2 v3 (nI a) op (nI W) v7 (nI j))) ∨
    ((∀ g, 2 * k + 1 ≤ g → (T_Pt_wrongOperand_16 fu g).1 c (nI a) (f_Pt_operands c op) op x1 (nI j) = -1 ∧ (WT_Pt_wrongOperand_16 fu g).1 c (nI a) (f_Pt_operands c op) op x1 (nI j)) ∧ (∀ i, j ≤ i → i + 1 < W → (f_M_leastOf op (nI i)).toInt ≤ (sA r 32 (a + 1 + i)).toInt ∧ (sA r 32 (a + 1 + i)).toInt ≤ (f_M_mostOf op (nI i) x1).toInt) ∧ ∀ C y, (∀ g, C ≤ g → (T_M_wrong_2 rec fu g).2.2.2.2.1 r v2 v3 (nI a) op (nI W) v7 (nI (W - 1)) = y ∧ (WT_M_wrong_2 rec wrec fu g).2.2.2.2.1 r v2 v3 (nI a) op (nI W) v7 (nI (W - 1))) → ∀ g, C + k ≤ g → (T_M_wrong_2 rec fu g).2.2.2.2.1 r v2 v3 (nI a) op (nI W) v7 (nI j) = y ∧ (WT_M_wrong_2 rec wrec fu g).2.2.2.2.1 r v2 v3 (nI a) op (nI W) v7 (nI j)) := by
  obtain ⟨w1, w2, w3, w4, w5, w6⟩ := op_len (c := c) h1 h2 hW
  have tL := hT.1
  obtain ⟨o, ho⟩ : ∃ o, o = f_Pt_operands c op := ⟨_, rfl⟩
  have tb := fun j hj => gt_all (s := c) hG h1 h2 x1 j hj
  rw [← ho] at w4 w5 w6 tb ⊢
  intro k
  induction k with
  | zero =>
    intro j hj
    have ge : cn2 .ge (nI j) (nI (W - 1)) = true := by rw [kge (by omega) (by omega)]; exact dt (by omega)
    refine Or.inr ⟨fun g hg => ?_, fun i z1 z2 => absurd z2 (by omega), fun C y hy g hg => ?_⟩
    · obtain ⟨g, rfl⟩ : ∃ g', g = g' + 1 := ⟨g - 1, by omega⟩
      constructor
      · show b_Pt_wrongOperand_16 fu (T_Pt_wrongOperand_16 fu g) c (nI a) o op x1 (nI j) = _
        unfold b_Pt_wrongOperand_16
        rw [w5, ge, cond_true]
      · show v_Pt_wrongOperand_16 fu (T_Pt_wrongOperand_16 fu g) (WT_Pt_wrongOperand_16 fu g) c (nI a) o op x1 (nI j)
        unfold v_Pt_wrongOperand_16
        rw [w5, ge]
        exact ⟨w4, fun _ => trivial, (fun z => nomatch z)⟩
    · have e : j = W - 1 := by omega
      rw [e]
      exact hy g (by omega)
  | succ k ih =>
    intro j hj
    have ge : cn2 .ge (nI j) (nI (W - 1)) = false := by rw [kge (by omega) (by omega)]; exact df (by omega)
    have e61 : nI W - 1 = nI (W - 1) := by
      obtain ⟨w, rfl⟩ : ∃ w, W = w + 1 := ⟨W - 1, by omega⟩
      exact nI_p w
    have e1 : nI a + 1 = nI (a + 1) := nAd a 1
    have e2 : nI a + 1 + nI j = nI (a + 1 + j) := by rw [e1, nAd]
    have n1 : (nI (a + 1)).toNatClampNeg = a + 1 := nN (by omega)
    have n2 : (nI (a + 1 + j)).toNatClampNeg = a + 1 + j := nN (by omega)
    have p1 : vp_in (nI (a + 1)) 2000 := vp_n (by omega) (by omega)
    have p2 : vp_in (nI (a + 1 + j)) 2000 := vp_n (by omega) (by omega)
    have p3 : vp_in (nI j) (stn o) := vp_n (by omega) (by omega)
    obtain ⟨q1, q2, q3⟩ := tb j (by omega)
    have hb : sA c 3 (a + 1 + j) &&& 255 = sA r 32 (a + 1 + j) := (hT.2 _ (by omega)).symm
    have b0 := b255 (sA c 3 (a + 1 + j))
    rw [hb] at b0
    obtain ⟨b, hbb⟩ : ∃ b, b = sA r 32 (a + 1 + j) := ⟨_, rfl⟩
    rw [← hbb] at hb b0
    have sj : nI j + Int32.ofInt 1 = nI (j + 1) := nI_s j
    -- both stop here
    have stp : (cn2 .gt b (f_M_mostOf op (nI j) x1) = true ∨ (cn2 .gt b (f_M_mostOf op (nI j) x1) = false ∧ stc o (nI j) = 119 ∧ cn1 .ne b = false)) → cn2 .gt b (f_M_mostOf op (nI j) x1) = true ∨ cn2 .ge b (f_M_leastOf op (nI j)) = false → (∃ x : Int32, ¬ x = -1 ∧ (∀ g, 2 * (k + 1) + 1 ≤ g → (T_Pt_wrongOperand_16 fu g).1 c (nI a) o op x1 (nI j) = x ∧ (WT_Pt_wrongOperand_16 fu g).1 c (nI a) o op x1 (nI j)) ∧ (∀ g, k + 1 + 1 ≤ g → (T_M_wrong_2 rec fu g).2.2.2.2.1 r v2 v3 (nI a) op (nI W) v7 (nI j) = x ∧ (WT_M_wrong_2 rec wrec fu g).2.2.2.2.1 r v2 v3 (nI a) op (nI W) v7 (nI j))) := fun s1 s2 => by
      refine ⟨nI (a + 1 + j), n_m1 (by omega), fun g hg => ?_, fun g hg => ?_⟩
      · obtain ⟨g, rfl⟩ : ∃ g', g = g' + 1 := ⟨g - 1, by omega⟩
        constructor
        · show b_Pt_wrongOperand_16 fu (T_Pt_wrongOperand_16 fu g) c (nI a) o op x1 (nI j) = _
          unfold b_Pt_wrongOperand_16 t_Pt_wrongOperand_45
          rw [w5, ge, cond_false, e2, n2, hb, q1]
          rcases s1 with s | ⟨s, t, u⟩
          · rw [s, cond_true]
          · rw [s, cond_false, t, show cn2 .ne (119 : Int32) 119 = false from rfl, cond_false, u, cond_false]
        · show v_Pt_wrongOperand_16 fu (T_Pt_wrongOperand_16 fu g) (WT_Pt_wrongOperand_16 fu g) c (nI a) o op x1 (nI j)
          unfold v_Pt_wrongOperand_16
          rw [w5, ge, e2, n2, hb, q1]
          refine ⟨w4, (fun z => nomatch z), fun _ => ⟨w4, p3, p2, q2, fun _ => trivial, fun z => ?_⟩⟩
          rcases s1 with s | ⟨s, t, u⟩
          · exact absurd (s.symm.trans z) (by decide)
          · rw [t, u]
            exact ⟨(fun z => nomatch z), fun _ => ⟨(fun z => nomatch z), fun _ => trivial⟩⟩
      · obtain ⟨g, rfl⟩ : ∃ g', g = g' + 1 := ⟨g - 1, by omega⟩
        constructor
        · show b_M_wrong_39 rec fu (T_M_wrong_2 rec fu g) r v2 v3 (nI a) op (nI W) v7 (nI j) = _
          unfold b_M_wrong_39 t_M_wrong_74
          rw [e61, ge, cond_false, e2, n2, e1, n1, ← hbb, ← hx]
          rcases s2 with s | s
          · rw [s, cond_true]
          · rw [s, cond_false]
            cases cn2 .gt b (f_M_mostOf op (nI j) x1) <;> rfl
        · show v_M_wrong_39 rec wrec fu (T_M_wrong_2 rec fu g) (WT_M_wrong_2 rec wrec fu g) r v2 v3 (nI a) op (nI W) v7 (nI j)
          unfold v_M_wrong_39
          rw [e61, ge, e2, n2, e1, n1, ← hbb, ← hx]
          refine ⟨(fun z => nomatch z), fun _ => ⟨p2, p1, fun _ => trivial, fun z => ⟨p2, fun y => ?_, fun _ => trivial⟩⟩⟩
          rcases s2 with s | s
          · exact absurd (s.symm.trans z) (by decide)
          · exact absurd (s.symm.trans y) (by decide)
    -- both go on
    have dne : cn2 .gt b (f_M_mostOf op (nI j) x1) = false → (¬ stc o (nI j) = 119 ∨ cn1 .ne b = true) → cn2 .ge b (f_M_leastOf op (nI j)) = true → ((f_M_leastOf op (nI j)).toInt ≤ b.toInt ∧ b.toInt ≤ (f_M_mostOf op (nI j) x1).toInt) → (∃ x : Int32, ¬ x = -1 ∧ (∀ g, 2 * (k + 1) + 1 ≤ g → (T_Pt_wrongOperand_16 fu g).1 c (nI a) o op x1 (nI j) = x ∧ (WT_Pt_wrongOperand_16 fu g).1 c (nI a) o op x1 (nI j)) ∧ (∀ g, k + 1 + 1 ≤ g → (T_M_wrong_2 rec fu g).2.2.2.2.1 r v2 v3 (nI a) op (nI W) v7 (nI j) = x ∧ (WT_M_wrong_2 rec wrec fu g).2.2.2.2.1 r v2 v3 (nI a) op (nI W) v7 (nI j))) ∨ ((∀ g, 2 * (k + 1) + 1 ≤ g → (T_Pt_wrongOperand_16 fu g).1 c (nI a) o op x1 (nI j) = -1 ∧ (WT_Pt_wrongOperand_16 fu g).1 c (nI a) o op x1 (nI j)) ∧ (∀ i, j ≤ i → i + 1 < W → (f_M_leastOf op (nI i)).toInt ≤ (sA r 32 (a + 1 + i)).toInt ∧ (sA r 32 (a + 1 + i)).toInt ≤ (f_M_mostOf op (nI i) x1).toInt) ∧ ∀ C y, (∀ g, C ≤ g → (T_M_wrong_2 rec fu g).2.2.2.2.1 r v2 v3 (nI a) op (nI W) v7 (nI (W - 1)) = y ∧ (WT_M_wrong_2 rec wrec fu g).2.2.2.2.1 r v2 v3 (nI a) op (nI W) v7 (nI (W - 1))) → ∀ g, C + (k + 1) ≤ g → (T_M_wrong_2 rec fu g).2.2.2.2.1 r v2 v3 (nI a) op (nI W) v7 (nI j) = y ∧ (WT_M_wrong_2 rec wrec fu g).2.2.2.2.1 r v2 v3 (nI a) op (nI W) v7 (nI j)) := fun s1 s2 s3 s4 => by
      have gC : ∀ g x, ((T_Pt_wrongOperand_16 fu g).1 c (nI a) o op x1 (nI (j + 1)) = x ∧ (WT_Pt_wrongOperand_16 fu g).1 c (nI a) o op x1 (nI (j + 1))) → (T_Pt_wrongOperand_16 fu (g + 2)).1 c (nI a) o op x1 (nI j) = x ∧ (WT_Pt_wrongOperand_16 fu (g + 2)).1 c (nI a) o op x1 (nI j) := fun g x hh => by
        have f1 : (T_Pt_wrongOperand_16 fu (g + 1)).2 c (nI a) o op x1 (nI j) = x := by
          show b_Pt_wrongOperand_51 fu (T_Pt_wrongOperand_16 fu g) c (nI a) o op x1 (nI j) = _
          unfold b_Pt_wrongOperand_51
          rw [sj]
          exact hh.1
        have f2 : (WT_Pt_wrongOperand_16 fu (g + 1)).2 c (nI a) o op x1 (nI j) := by
          show v_Pt_wrongOperand_51 fu (T_Pt_wrongOperand_16 fu g) (WT_Pt_wrongOperand_16 fu g) c (nI a) o op x1 (nI j)
          unfold v_Pt_wrongOperand_51
          rw [sj]
          exact hh.2
        constructor
        · show b_Pt_wrongOperand_16 fu (T_Pt_wrongOperand_16 fu (g + 1)) c (nI a) o op x1 (nI j) = _
          unfold b_Pt_wrongOperand_16
          rw [w5, ge, cond_false, e2, n2, hb, q1, s1, cond_false]
          rcases s2 with s | s
          · rw [show cn2 .ne (stc o (nI j)) 119 = true from by rw [c2_ne]; exact dt (fun z => s (Int32.toInt_inj.mp z)), cond_true]
            exact f1
          · rw [s, cond_true]
            cases cn2 .ne (stc o (nI j)) 119
            · exact f1
            · exact f1
        · show v_Pt_wrongOperand_16 fu (T_Pt_wrongOperand_16 fu (g + 1)) (WT_Pt_wrongOperand_16 fu (g + 1)) c (nI a) o op x1 (nI j)
          unfold v_Pt_wrongOperand_16
          rw [w5, ge, e2, n2, hb, q1, s1]
          refine ⟨w4, (fun z => nomatch z), fun _ => ⟨w4, p3, p2, q2, (fun z => nomatch z), fun _ => ⟨fun _ => f2, fun z => ⟨fun _ => f2, fun _ => trivial⟩⟩⟩⟩
      have gM : ∀ g x, ((T_M_wrong_2 rec fu g).2.2.2.2.1 r v2 v3 (nI a) op (nI W) v7 (nI (j + 1)) = x ∧ (WT_M_wrong_2 rec wrec fu g).2.2.2.2.1 r v2 v3 (nI a) op (nI W) v7 (nI (j + 1))) → (T_M_wrong_2 rec fu (g + 1)).2.2.2.2.1 r v2 v3 (nI a) op (nI W) v7 (nI j) = x ∧ (WT_M_wrong_2 rec wrec fu (g + 1)).2.2.2.2.1 r v2 v3 (nI a) op (nI W) v7 (nI j) := fun g x hh => by
        constructor
        · show b_M_wrong_39 rec fu (T_M_wrong_2 rec fu g) r v2 v3 (nI a) op (nI W) v7 (nI j) = _
          unfold b_M_wrong_39
          rw [e61, ge, cond_false, e2, n2, e1, n1, ← hbb, ← hx, s1, cond_false, s3, cond_true, sj]
          exact hh.1
        · show v_M_wrong_39 rec wrec fu (T_M_wrong_2 rec fu g) (WT_M_wrong_2 rec wrec fu g) r v2 v3 (nI a) op (nI W) v7 (nI j)
          unfold v_M_wrong_39
          rw [e61, ge, e2, n2, e1, n1, ← hbb, ← hx, s1, s3, sj]
          exact ⟨(fun z => nomatch z), fun _ => ⟨p2, p1, (fun z => nomatch z), fun _ => ⟨p2, fun _ => hh.2, (fun z => nomatch z)⟩⟩⟩
      rcases ih (j + 1) (by omega) with ⟨x, z1, z2, z3⟩ | ⟨z1, z2, z3⟩
      · refine Or.inl ⟨x, z1, fun g hg => ?_, fun g hg => ?_⟩
        · obtain ⟨g, rfl⟩ : ∃ g', g = g' + 2 := ⟨g - 2, by omega⟩
          exact gC g x (z2 g (by omega))
        · obtain ⟨g, rfl⟩ : ∃ g', g = g' + 1 := ⟨g - 1, by omega⟩
          exact gM g x (z3 g (by omega))
      · refine Or.inr ⟨fun g hg => ?_, fun i y1 y2 => ?_, fun C y hy g hg => ?_⟩
        · obtain ⟨g, rfl⟩ : ∃ g', g = g' + 2 := ⟨g - 2, by omega⟩
          exact gC g _ (z1 g (by omega))
        · by_cases e : i = j
          · rw [e, ← hbb]
            exact s4
          · exact z2 i (by omega) y2
        · obtain ⟨g, rfl⟩ : ∃ g', g = g' + 1 := ⟨g - 1, by omega⟩
          exact gM g y (z3 C y hy g (by omega))
    by_cases g1 : (f_M_mostOf op (nI j) x1).toInt < b.toInt
    · have t1 : cn2 .gt b (f_M_mostOf op (nI j) x1) = true := by rw [c2_gt]; exact dt g1
      exact Or.inl (stp (Or.inl t1) (Or.inl t1))
    · have t1 : cn2 .gt b (f_M_mostOf op (nI j) x1) = false := by rw [c2_gt]; exact df g1
      rcases q3 with ⟨y1, y2⟩ | ⟨y1, y2⟩
      · by_cases g2 : b.toInt = 0
        · have t2 : cn1 .ne b = false := by rw [c1_ne]; exact df (fun z => z g2)
          have t3 : cn2 .ge b (f_M_leastOf op (nI j)) = false := by rw [y2, c2_ge, g2]; rfl
          exact Or.inl (stp (Or.inr ⟨t1, y1, t2⟩) (Or.inr t3))
        · have t2 : cn1 .ne b = true := by rw [c1_ne]; exact dt g2
          have l1 : (f_M_leastOf op (nI j)).toInt = 1 := by rw [y2]; rfl
          have t3 : cn2 .ge b (f_M_leastOf op (nI j)) = true := by rw [c2_ge]; exact dt (by omega)
          exact dne t1 (Or.inr t2) t3 ⟨by omega, by omega⟩
      · have l1 : (f_M_leastOf op (nI j)).toInt = 0 := by rw [y2]; rfl
        have t3 : cn2 .ge b (f_M_leastOf op (nI j)) = true := by rw [c2_ge]; exact dt (by omega)
        exact dne t1 (Or.inl y1) t3 ⟨by omega, by omega⟩
end OPG
