/-! THE CHECK OF A TAPE, whole -/
def FXW (c r : St) (rC : G_fw) (wC : GW_fw) (rec : G_wrong) (wrec : GW_wrong) (fu to nst dd k a o : Nat) : Prop := ∃ x, (∀ g, 10 * k + 10 ≤ g → (T_Pt_firstWrong_4 rC fu g).1 c (nI to) (nI nst) (nI a) (nI o) = x ∧ (WT_Pt_firstWrong_4 rC wC fu g).1 c (nI to) (nI nst) (nI a) (nI o)) ∧ (∀ g, 40 * k + 40 ≤ g → (T_M_wrong_2 rec fu g).1 r (nI to) (nI nst) (nI a) = x ∧ (WT_M_wrong_2 rec wrec fu g).1 r (nI to) (nI nst) (nI a)) ∧ (x = -1 → ∃ kk, PV (sA r 32) kk dd a to)
theorem pt_P {op : Int32} {W : Nat} (hW : (f_M_wholeOf op).toInt = (W : Int)) : ∃ P w0 : Nat, f_Pt_parts op = nI P ∧ P ≤ 3 ∧ ((P = 0 ∧ w0 = W ∧ ¬ (30 ≤ op.toInt ∧ op.toInt ≤ 32)) ∨ (1 ≤ P ∧ w0 + P = W ∧ (30 ≤ op.toInt ∧ op.toInt ≤ 32) ∧ ((¬ op = 32 ∧ w0 = 2) ∨ (op = 32 ∧ w0 = 4)))) := by
  have ne : ∀ k : Int32, ¬ op = k → op.toInt ≠ k.toInt := fun k z y => z (Int32.toInt_inj.mp y)
  by_cases e0 : op = 30
  · have : (f_M_wholeOf 30).toInt = 4 := by decide +kernel
    rw [e0, this] at hW
    refine ⟨2, 2, by rw [e0]; rfl, by omega, Or.inr ⟨by omega, by omega, by rw [e0]; decide, Or.inl ⟨by rw [e0]; decide, rfl⟩⟩⟩
  by_cases e1 : op = 31
  · have : (f_M_wholeOf 31).toInt = 3 := by decide +kernel
    rw [e1, this] at hW
    refine ⟨1, 2, by rw [e1]; rfl, by omega, Or.inr ⟨by omega, by omega, by rw [e1]; decide, Or.inl ⟨by rw [e1]; decide, rfl⟩⟩⟩
  by_cases e2 : op = 32
  · have : (f_M_wholeOf 32).toInt = 7 := by decide +kernel
    rw [e2, this] at hW
    refine ⟨3, 4, by rw [e2]; rfl, by omega, Or.inr ⟨by omega, by omega, by rw [e2]; decide, Or.inr ⟨e2, rfl⟩⟩⟩
  have f0 : op.toInt ≠ 30 := ne 30 e0
  have f1 : op.toInt ≠ 31 := ne 31 e1
  have f2 : op.toInt ≠ 32 := ne 32 e2
  refine ⟨0, W, ?_, by omega, Or.inl ⟨rfl, rfl, by omega⟩⟩
  unfold f_Pt_parts
  rw [show cn2 .ne op 30 = true from by rw [c2_ne]; exact dt f0, cond_true, show cn2 .ne op 31 = true from by rw [c2_ne]; exact dt f1, cond_true, show cn2 .ne op 32 = true from by rw [c2_ne]; exact dt f2, cond_true]
  rfl
theorem pv_asm {A : Nat → Int32} {op : Int32} {W P w0 a to dd k2 : Nat} (hop : A a = op) (hW : (f_M_wholeOf op).toInt = (W : Int)) (hO : OVA A a) (hd : 1 ≤ dd) (hw : w0 + P = W) (h30 : 30 ≤ op.toInt ∧ op.toInt ≤ 32) (hc : (¬ op = 32 ∧ w0 = 2) ∨ (op = 32 ∧ w0 = 4)) (hP : ∀ i, i < P → ∃ k, PV A k (dd - 1) (ps A (a + w0) (a + W) i) (ps A (a + w0) (a + W) (i + 1))) (hN : PV A k2 dd (ps A (a + w0) (a + W) P) to) : ∃ kk, PV A kk dd a to := by
  have ne : ∀ k : Int32, ¬ op = k → op.toInt ≠ k.toInt := fun k z y => z (Int32.toInt_inj.mp y)
  by_cases e0 : op = 30
  · have w4 : (f_M_wholeOf 30).toInt = 4 := by decide +kernel
    rw [e0, w4] at hW
    have z2 : w0 = 2 := by
      rcases hc with z | z
      · exact z.2
      · exact absurd (e0.symm.trans z.1) (by decide)
    obtain rfl : W = 4 := by omega
    obtain rfl : P = 2 := by omega
    subst z2
    obtain ⟨k0, q0⟩ := hP 0 (by omega)
    obtain ⟨k1, q1⟩ := hP 1 (by omega)
    refine ⟨k0 + k1 + k2 + 1, Or.inr ⟨hO, by rw [hop, e0, w4]; decide, Or.inl ⟨by rw [hop, e0]; rfl, hd, PV.ups (by omega) q0, PV.ups (by omega) q1, PV.ups (by omega) hN⟩⟩⟩
  by_cases e1 : op = 31
  · have w4 : (f_M_wholeOf 31).toInt = 3 := by decide +kernel
    rw [e1, w4] at hW
    have z2 : w0 = 2 := by
      rcases hc with z | z
      · exact z.2
      · exact absurd (e1.symm.trans z.1) (by decide)
    obtain rfl : W = 3 := by omega
    obtain rfl : P = 1 := by omega
    subst z2
    obtain ⟨k0, q0⟩ := hP 0 (by omega)
    refine ⟨k0 + k2 + 1, Or.inr ⟨hO, by rw [hop, e1, w4]; decide, Or.inr (Or.inl ⟨by rw [hop, e1]; rfl, hd, PV.ups (by omega) q0, PV.ups (by omega) hN⟩)⟩⟩
  have f0 : op.toInt ≠ 30 := ne 30 e0
  have f1 : op.toInt ≠ 31 := ne 31 e1
  have e2 : op = 32 := Int32.toInt_inj.mp (show op.toInt = 32 by omega)
  have w4 : (f_M_wholeOf 32).toInt = 7 := by decide +kernel
  rw [e2, w4] at hW
  have z2 : w0 = 4 := by
    rcases hc with z | z
    · exact absurd e2 z.1
    · exact z.2
  obtain rfl : W = 7 := by omega
  obtain rfl : P = 3 := by omega
  subst z2
  obtain ⟨k0, q0⟩ := hP 0 (by omega)
  obtain ⟨k1, q1⟩ := hP 1 (by omega)
  obtain ⟨k3, q3⟩ := hP 2 (by omega)
  exact ⟨k0 + k1 + k2 + k3 + 1, Or.inr ⟨hO, by rw [hop, e2, w4]; decide, Or.inr (Or.inr (Or.inl ⟨by rw [hop, e2]; rfl, hd, PV.ups (by omega) q0, PV.ups (by omega) q1, PV.ups (by omega) q3, PV.ups (by omega) hN⟩))⟩⟩
section FWG
variable {c r : St} {fu L a W P w0 to nst dd o : Nat} {op : Int32} {rec : G_wrong} {wrec : GW_wrong} {rC rD : G_fw} {wC wD : GW_fw}
theorem fw_end (hL : to ≤ 200) (hn : nst ≤ 10) (k : Nat) (ho : o ≤ to) : FXW c r rC wC rec wrec fu to nst dd k to o := by
  have k2 : cn2 .ge (nI to) (nI to) = true := by rw [kge (by omega) (by omega)]; exact dt (by omega)
  refine ⟨-1, fun g hg => ?_, fun g hg => ?_, fun _ => ⟨0, rfl⟩⟩
  · obtain ⟨g, rfl⟩ : ∃ g', g = g' + 1 := ⟨g - 1, by omega⟩
    constructor
    · show b_Pt_firstWrong_4 rC fu (T_Pt_firstWrong_4 rC fu g) c (nI to) (nI nst) (nI to) (nI o) = _
      unfold b_Pt_firstWrong_4
      rw [k2, cond_true]
      cases cn2 .ge (nI o) 200 <;> rfl
    · show v_Pt_firstWrong_4 rC wC fu (T_Pt_firstWrong_4 rC fu g) (WT_Pt_firstWrong_4 rC wC fu g) c (nI to) (nI nst) (nI to) (nI o)
      unfold v_Pt_firstWrong_4
      rw [k2]
      exact ⟨fun _ => trivial, fun _ => ⟨fun _ => trivial, (fun z => nomatch z)⟩⟩
  · obtain ⟨g, rfl⟩ : ∃ g', g = g' + 1 := ⟨g - 1, by omega⟩
    constructor
    · show b_M_wrong_2 rec fu (T_M_wrong_2 rec fu g) r (nI to) (nI nst) (nI to) = _
      unfold b_M_wrong_2
      rw [k2, cond_true]
    · show v_M_wrong_2 rec wrec fu (T_M_wrong_2 rec fu g) (WT_M_wrong_2 rec wrec fu g) r (nI to) (nI nst) (nI to)
      unfold v_M_wrong_2
      rw [k2]
      exact ⟨fun _ => trivial, (fun z => nomatch z)⟩
/-- wrong at the first byte -/
theorem fw_no (hT : TP c r L) (hop : sA r 32 a = op) (hat : a < to) (hto : to ≤ L) (ho : o ≤ a) (hns : nst ≤ 10) (k : Nat) (hd : (W = 0 ∧ ¬ (1 ≤ op.toInt ∧ op.toInt ≤ 34)) ∨ (1 ≤ op.toInt ∧ op.toInt ≤ 34 ∧ (f_M_wholeOf op).toInt = (W : Int) ∧ (to < a + W ∨ (f_Pt_parts op = nI P ∧ 1 ≤ P ∧ P ≤ 3 ∧ nst = 10 ∧ 30 ≤ op.toInt ∧ op.toInt ≤ 32)))) : FXW c r rC wC rec wrec fu to nst dd k a o := by
  have tL := hT.1
  refine ⟨nI a, fun g hg => ?_, fun g hg => ?_, fun z => absurd z (n_m1 (by omega))⟩
  · obtain ⟨g, rfl⟩ : ∃ g', g = g' + 1 := ⟨g - 1, by omega⟩
    refine fc_no (W := W) (P := P) hT hop hat hto ho hns ?_ g
    rcases hd with ⟨-, z⟩ | ⟨z1, z2, z3, z4 | ⟨z4, z5, z6, z7, -⟩⟩
    · exact Or.inl z
    · exact Or.inr ⟨z1, z2, z3, Or.inl z4⟩
    · exact Or.inr ⟨z1, z2, z3, Or.inr ⟨z4, z5, z6, z7⟩⟩
  · have hh : f_M_wholeOf op = nI W ∧ W ≤ 10 := by
      rcases hd with ⟨z0, z⟩ | ⟨z1, z2, z3, -⟩
      · exact ⟨by rw [(wo_no z c).1, z0]; rfl, by omega⟩
      · have b := wo_ge z1 z2
        exact ⟨yI_of z3 (by omega), by omega⟩
    refine fr_A (C := 1) (W := W) hT hop hat hto rfl hh.1 (fr_no (by omega) hat hh.2 hns ?_) g (by omega)
    rcases hd with ⟨z0, z⟩ | ⟨z1, z2, z3, z4 | ⟨z4, z5, z6, z7, z8⟩⟩
    · exact Or.inl z0
    · exact Or.inr (Or.inl z4)
    · exact Or.inr (Or.inr ⟨if_pos z8, z7⟩)
theorem wo_eq (hT : TP c r L) (hop : sA r 32 a = op) (ha : a + 1 < L) {x : Int32} (hx : (T_Pt_wrongOperand_16 fu fu).1 c (nI a) (f_Pt_operands c op) op (sA r 32 (a + 1)) (nI 0) = x ∧ (WT_Pt_wrongOperand_16 fu fu).1 c (nI a) (f_Pt_operands c op) op (sA r 32 (a + 1)) (nI 0)) : f_Pt_wrongOperand fu c (nI a) (f_Pt_operands c op) = x ∧ w_Pt_wrongOperand fu c (nI a) (f_Pt_operands c op) := by
  have tL := hT.1
  have na : (nI a).toNatClampNeg = a := nN (by omega)
  have e1 : nI a + 1 = nI (a + 1) := nAd a 1
  have n1 : (nI (a + 1)).toNatClampNeg = a + 1 := nN (by omega)
  have hb : sA c 3 a &&& 255 = op := (hT.2 a (by omega)).symm.trans hop
  have hb1 : sA c 3 (a + 1) &&& 255 = sA r 32 (a + 1) := (hT.2 (a + 1) (by omega)).symm
  unfold f_Pt_wrongOperand w_Pt_wrongOperand
  rw [e1, na, n1, hb, hb1]
  exact ⟨hx.1, vp_n (by omega) (by omega), vp_n (by omega) (by omega), hx.2⟩
theorem wp_eq (hw : w0 + P = W) {x : Int32} (hx : t_Pt_wrongPart_8 rD fu fu c (nI (a + W)) (nI to) (nI P) (nI nst) (nI (a + w0)) (nI (a + W)) (nI 0) = x ∧ w_Pt_wrongPart_8 rD wD fu fu c (nI (a + W)) (nI to) (nI P) (nI nst) (nI (a + w0)) (nI (a + W)) (nI 0)) : f_Pt_wrongPart rD fu c (nI (a + W)) (nI to) (nI P) (nI nst) = x ∧ w_Pt_wrongPart rD wD fu c (nI (a + W)) (nI to) (nI P) (nI nst) := by
  have e0 : nI (a + W) - nI P = nI (a + w0) := by rw [← hw, ← Nat.add_assoc, nSb]
  unfold f_Pt_wrongPart w_Pt_wrongPart
  rw [e0]
  exact hx
theorem fw_go (hT : TP c r L) (hG : isG (sD c)) (hfu : 1000 ≤ fu) (hC : ∀ p q s t, rC.2 c p q s t = f_Pt_wrongPart rD fu c p q s t) (hCw : ∀ p q s t, wC.2 c p q s t = w_Pt_wrongPart rD wD fu c p q s t) (hn : nst + dd = 10) (hI : 1 ≤ dd → FI c r rD wD rec wrec L (nst + 1) (dd - 1)) (hto : to ≤ L) : ∀ (k a o : Nat), to - a ≤ k → a ≤ to → o ≤ a → FXW c r rC wC rec wrec fu to nst dd k a o := by
  have tL := hT.1
  intro k
  induction k with
  | zero =>
    intro a o h1 h2 h3
    obtain rfl : a = to := by omega
    exact fw_end (by omega) (by omega) 0 h3
  | succ k ih =>
    intro a o h1 h2 h3
    by_cases hat : a = to
    · subst hat
      exact fw_end (by omega) (by omega) _ h3
    obtain ⟨op, hop⟩ : ∃ op, sA r 32 a = op := ⟨_, rfl⟩
    by_cases hr : ¬ (1 ≤ op.toInt ∧ op.toInt ≤ 34)
    · exact fw_no (W := 0) (P := 0) hT hop (by omega) hto h3 (by omega) _ (Or.inl ⟨rfl, hr⟩)
    have hr := Decidable.not_not.mp hr
    have b := wo_ge hr.1 hr.2
    obtain ⟨W, hW⟩ : ∃ W : Nat, (f_M_wholeOf op).toInt = (W : Int) := ⟨(f_M_wholeOf op).toInt.toNat, by omega⟩
    by_cases haW : to < a + W
    · exact fw_no (W := W) (P := 0) hT hop (by omega) hto h3 (by omega) _ (Or.inr ⟨hr.1, hr.2, hW, Or.inl haW⟩)
    obtain ⟨P, w0, hP, hP3, hcase⟩ := pt_P hW
    by_cases h10 : 1 ≤ P ∧ nst = 10
    · rcases hcase with z | z
      · exact absurd h10.1 (by omega)
      · exact fw_no (W := W) (P := P) hT hop (by omega) hto h3 (by omega) _ (Or.inr ⟨hr.1, hr.2, hW, Or.inr ⟨hP, h10.1, hP3, h10.2, z.2.2.1⟩⟩)
    have hWn : f_M_wholeOf op = nI W := yI_of hW (by omega)
    obtain ⟨f7, hf7⟩ : ∃ f7 : Int32, f7 = if 30 ≤ op.toInt ∧ op.toInt ≤ 32 then 1 else 0 := ⟨_, rfl⟩
    have hd0 : P = 0 ∨ nst < 10 := by omega
    have f7d : f7 = 0 ∨ nst < 10 := by
      rcases hcase with z | z
      · rw [if_neg z.2.2] at hf7; exact Or.inl hf7
      · exact Or.inr (by omega)
    have A1 : ∀ {g : Nat} {y : Int32}, ((T_Pt_firstWrong_4 rC fu g).2.1 c (nI to) (nI nst) (nI a) (nI o) (f_Pt_operands c op) (nI P) (nI (a + W)) = y ∧ (WT_Pt_firstWrong_4 rC wC fu g).2.1 c (nI to) (nI nst) (nI a) (nI o) (f_Pt_operands c op) (nI P) (nI (a + W))) → (T_Pt_firstWrong_4 rC fu (g + 1)).1 c (nI to) (nI nst) (nI a) (nI o) = y ∧ (WT_Pt_firstWrong_4 rC wC fu (g + 1)).1 c (nI to) (nI nst) (nI a) (nI o) := fun hy => fc_A hT hr.1 hr.2 hW hop (by omega) hto h3 hP hP3 hd0 (by omega) hy
    have A2 : ∀ {C : Nat} {y : Int32}, (∀ g, C ≤ g → (T_M_wrong_2 rec fu g).2.2.2.2.1 r (nI to) (nI nst) (nI a) op (nI W) f7 (nI 0) = y ∧ (WT_M_wrong_2 rec wrec fu g).2.2.2.2.1 r (nI to) (nI nst) (nI a) op (nI W) f7 (nI 0)) → ∀ g, C + 4 ≤ g → (T_M_wrong_2 rec fu g).1 r (nI to) (nI nst) (nI a) = y ∧ (WT_M_wrong_2 rec wrec fu g).1 r (nI to) (nI nst) (nI a) := fun hy g hg => fr_A (W := W) hT hop (by omega) hto hf7 hWn (fr_B (by omega) (by omega) (by omega) (by omega) f7d hy) g (by omega)
    rcases op_go (fu := fu) (rec := rec) (wrec := wrec) (v2 := nI to) (v3 := nI nst) (v7 := f7) (x1 := sA r 32 (a + 1)) hT hG hr.1 hr.2 hW (show a + W ≤ L by omega) rfl (W - 1) 0 (by omega) with ⟨x, z1, z2, z3⟩ | ⟨z1, z2, z3⟩
    · obtain ⟨y1, y2⟩ := wo_eq hT hop (by omega) (z2 fu (by omega))
      refine ⟨x, fun g hg => ?_, fun g hg => A2 (C := W) (fun g hg => z3 g (by omega)) g (by omega), fun z => absurd z z1⟩
      obtain ⟨g, rfl⟩ : ∃ g', g = g' + 2 + 1 := ⟨g - 3, by omega⟩
      exact A1 (fc_B y2 (Or.inl ⟨by rw [y1]; exact z1, y1.symm⟩) (Or.inl ⟨z1, rfl⟩))
    · obtain ⟨y1, y2⟩ := wo_eq hT hop (by omega) (z1 fu (by omega))
      have hO : OVA (sA r 32) a := by
        refine ⟨by rw [hop, hW]; omega, fun j hj => ?_⟩
        rw [hop] at hj ⊢
        exact z2 j (by omega) (by omega)
      rcases hcase with ⟨p0, p1, p2⟩ | ⟨p0, p1, p2, p3⟩
      · subst p0 p1
        obtain ⟨x, s1, s2, s3⟩ := ih (a + w0) (o + 1) (by omega) (by omega) (by omega)
        rw [if_neg p2] at hf7
        refine ⟨x, fun g hg => ?_, fun g hg => ?_, fun z => ?_⟩
        · obtain ⟨g, rfl⟩ : ∃ g', g = g' + 2 + 1 := ⟨g - 3, by omega⟩
          exact A1 (fc_B y2 (Or.inr ⟨y1, Or.inl ⟨rfl, rfl⟩⟩) (Or.inr ⟨rfl, pc_go (w0 := w0) (P := 0) hT (by omega) (show a + w0 ≤ L by omega) (by omega) 0 0 (by omega) _ _ s1 g (by omega)⟩))
        · exact A2 (z3 _ x (fr_E0 (by omega) (by omega) hf7 s2)) g (by omega)
        · obtain ⟨kk, hk⟩ := s3 z
          refine ⟨kk + 1, Or.inr ⟨hO, by rw [hop, hW]; omega, Or.inr (Or.inr (Or.inr ⟨by rw [hop]; exact p2, ?_⟩))⟩⟩
          rw [hop, hW]
          exact hk
      · have hI' := hI (by omega)
        have hf1 : f7 = 1 := by rw [hf7, if_pos p2]
        rcases pa_go (fu := fu) (nst := nst) (rec := rec) (wrec := wrec) (rD := rD) (wD := wD) (to := to) hT p1 (show a + W ≤ L by omega) hto hP3 P 0 (by omega) (show a + W ≤ to by omega) with ⟨x, q1, q2, q3⟩ | ⟨q1, q2, q3⟩
        · obtain ⟨v1, v2⟩ := wp_eq (rD := rD) (wD := wD) p1 (q2 fu (by omega))
          refine ⟨x, fun g hg => ?_, fun g hg => ?_, fun z => absurd z q1⟩
          · obtain ⟨g, rfl⟩ : ∃ g', g = g' + 2 + 1 := ⟨g - 3, by omega⟩
            exact A1 (fc_B y2 (Or.inr ⟨y1, Or.inr ⟨p0, hP3, by rw [hCw]; exact v2, by rw [hC]; exact v1⟩⟩) (Or.inl ⟨q1, rfl⟩))
          · exact A2 (z3 _ x (fr_E1 (C := P + 1) (by omega) (by omega) hf1 p3 q3)) g (by omega)
        · rcases pd_go (fu := fu) hT hI' p1 (show a + W ≤ L by omega) hto hP3 q1 P 0 (by omega) with ⟨x, u1, u2, u3⟩ | ⟨u1, u2, u3⟩
          · obtain ⟨v1, v2⟩ := wp_eq (rD := rD) (wD := wD) p1 (q2 x (u2 fu (by omega)) fu (by omega))
            refine ⟨x, fun g hg => ?_, fun g hg => ?_, fun z => absurd z u1⟩
            · obtain ⟨g, rfl⟩ : ∃ g', g = g' + 2 + 1 := ⟨g - 3, by omega⟩
              exact A1 (fc_B y2 (Or.inr ⟨y1, Or.inr ⟨p0, hP3, by rw [hCw]; exact v2, by rw [hC]; exact v1⟩⟩) (Or.inl ⟨u1, rfl⟩))
            · exact A2 (z3 _ x (fr_E1 (by omega) (by omega) hf1 p3 (q3 (P + 1) x u3))) g (by omega)
          · obtain ⟨v1, v2⟩ := wp_eq (rD := rD) (wD := wD) p1 (q2 _ (u1 fu (by omega)) fu (by omega))
            have lp := ps_le (sA r 32) (a + w0) (a + W) (show 0 ≤ P by omega)
            have lp0 : ps (sA r 32) (a + w0) (a + W) 0 = a + W := rfl
            obtain ⟨x, s1, s2, s3⟩ := ih (ps (sA r 32) (a + w0) (a + W) P) (o + 1) (by omega) q1 (by omega)
            refine ⟨x, fun g hg => ?_, fun g hg => ?_, fun z => ?_⟩
            · obtain ⟨g, rfl⟩ : ∃ g', g = g' + 2 + 1 := ⟨g - 3, by omega⟩
              exact A1 (fc_B y2 (Or.inr ⟨y1, Or.inr ⟨p0, hP3, by rw [hCw]; exact v2, by rw [hC]; exact v1⟩⟩) (Or.inr ⟨rfl, pc_go hT p1 (show a + W ≤ L by omega) hP3 P 0 (by omega) _ _ s1 g (by omega)⟩))
            · exact A2 (z3 _ x (fr_E1 (by omega) (by omega) hf1 p3 (q3 _ x (u3 _ x s2)))) g (by omega)
            · obtain ⟨kk, hk⟩ := s3 z
              exact pv_asm hop hW hO (by omega) p1 p2 p3 (fun i hi => u2 i (by omega) hi) hk
/-- at every depth -/
theorem fw_all (hT : TP c r L) (hG : isG (sD c)) (hfu : 100000 ≤ fu) : ∀ j, j ≤ 10 → FI c r (F_fw fu (2 * j + 4)) (W_fw fu (2 * j + 4)) (F_wrong fu (j + 2)) (W_wrong fu (j + 2)) L (10 - j) j := by
  have tL := hT.1
  intro j
  induction j with
  | zero =>
    intro _ from' to' h1 h2
    obtain ⟨x, s1, s2, s3⟩ := fw_go (rC := F_fw fu 3) (wC := W_fw fu 3) (rD := F_fw fu 2) (wD := W_fw fu 2) (rec := F_wrong fu 1) (wrec := W_wrong fu 1) (nst := 10) (dd := 0) hT hG (by omega) (fun _ _ _ _ => rfl) (fun _ _ _ _ => rfl) (by omega) (fun z => absurd z (by omega)) h2 200 from' 0 (by omega) h1 (by omega)
    obtain ⟨a1, a2⟩ := s1 fu (by omega)
    obtain ⟨b1, b2⟩ := s2 fu (by omega)
    exact ⟨x, a1, a2, b1, b2, s3⟩
  | succ j ih =>
    intro hj from' to' h1 h2
    have hI := ih (by omega)
    rw [show 10 - j = 10 - (j + 1) + 1 by omega] at hI
    obtain ⟨x, s1, s2, s3⟩ := fw_go (rC := F_fw fu (2 * j + 5)) (wC := W_fw fu (2 * j + 5)) (rD := F_fw fu (2 * j + 4)) (wD := W_fw fu (2 * j + 4)) (rec := F_wrong fu (j + 2)) (wrec := W_wrong fu (j + 2)) (nst := 10 - (j + 1)) (dd := j + 1) hT hG (by omega) (fun _ _ _ _ => rfl) (fun _ _ _ _ => rfl) (by omega) (fun _ => hI) h2 200 from' 0 (by omega) h1 (by omega)
    obtain ⟨a1, a2⟩ := s1 fu (by omega)
    obtain ⟨b1, b2⟩ := s2 fu (by omega)
    exact ⟨x, a1, a2, b1, b2, s3⟩
end FWG
