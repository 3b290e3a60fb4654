/-! THE CHECK OF A TAPE, op by op -/
theorem PV.up {A : Nat → Int32} : ∀ {k dd a b : Nat}, PV A k dd a b → PV A (k + 1) dd a b
  | 0, _, _, _, h => Or.inl h
  | k + 1, dd, a, b, h => by
    rcases h with h | ⟨h1, h2, h⟩
    · exact Or.inl h
    · refine Or.inr ⟨h1, h2, ?_⟩
      rcases h with ⟨x1, x2, x3, x4, x5⟩ | ⟨x1, x2, x3, x4⟩ | ⟨x1, x2, x3, x4, x5, x6⟩ | ⟨x1, x2⟩
      · exact Or.inl ⟨x1, x2, PV.up x3, PV.up x4, PV.up x5⟩
      · exact Or.inr (Or.inl ⟨x1, x2, PV.up x3, PV.up x4⟩)
      · exact Or.inr (Or.inr (Or.inl ⟨x1, x2, PV.up x3, PV.up x4, PV.up x5, PV.up x6⟩))
      · exact Or.inr (Or.inr (Or.inr ⟨x1, PV.up x2⟩))
theorem PV.ups {A : Nat → Int32} {k k' dd a b : Nat} (h : k ≤ k') (hp : PV A k dd a b) : PV A k' dd a b := by
  obtain ⟨i, rfl⟩ : ∃ i, k' = k + i := ⟨k' - k, by omega⟩
  clear h
  induction i with
  | zero => exact hp
  | succ i ih => exact PV.up ih
section FWC
variable {c r : St} {fu L a W P w0 to nst dd o : Nat} {op fl7 : Int32} {rec : G_wrong} {wrec : GW_wrong} {rC rD : G_fw} {wC wD : GW_fw}
/-- the class: an op that goes on to its operands -/
theorem fc_A (hT : TP c r L) (h1 : 1 ≤ op.toInt) (h2 : op.toInt ≤ 34) (hW : (f_M_wholeOf op).toInt = (W : Int)) (hop : sA r 32 a = op) (haW : a + W ≤ to) (hto : to ≤ L) (ho : o ≤ a) (hP : f_Pt_parts op = nI P) (hP3 : P ≤ 3) (hd : P = 0 ∨ nst < 10) (hns : nst ≤ 10) {g : Nat} {y : Int32} (hy : (T_Pt_firstWrong_4 rC fu g).2.1 c (nI to) (nI nst) (nI a) (nI o) (f_Pt_operands c op) (nI P) (nI (a + W)) = y ∧ (WT_Pt_firstWrong_4 rC wC fu g).2.1 c (nI to) (nI nst) (nI a) (nI o) (f_Pt_operands c op) (nI P) (nI (a + W))) : (T_Pt_firstWrong_4 rC fu (g + 1)).1 c (nI to) (nI nst) (nI a) (nI o) = y ∧ (WT_Pt_firstWrong_4 rC wC fu (g + 1)).1 c (nI to) (nI nst) (nI a) (nI o) := by
  obtain ⟨w1, w2, w3, w4, w5, w6⟩ := op_len (c := c) h1 h2 hW
  have tL := hT.1
  have k1 : cn2 .ge (nI o) 200 = false := by rw [show (200 : Int32) = nI 200 from rfl, kge (by omega) (by omega)]; exact df (by omega)
  have k2 : cn2 .ge (nI a) (nI to) = false := by rw [kge (by omega) (by omega)]; exact df (by omega)
  have na : (nI a).toNatClampNeg = a := nN (by omega)
  have hb : sA c 3 a &&& 255 = op := (hT.2 a (by omega)).symm.trans hop
  have k3 : cn1 .ne (b2i (ste (f_Pt_operands c op))) = false := by
    have : ste (f_Pt_operands c op) = false := by unfold ste; exact df (by omega)
    rw [this]; rfl
  have e1 : nI a + 1 + stl (f_Pt_operands c op) = nI (a + W) := by rw [(opd (s := c) h1 h2 (nI a)).1, w3, nAd]
  have k4 : cn2 .gt (nI (a + W)) (nI to) = false := by rw [kgt (by omega) (by omega)]; exact df (by omega)
  have va : vp_in (nI a) 2000 := vp_n (by omega) (by omega)
  have k5 : cn1 .le (nI P) = decide (P = 0) := by rw [c1_le, yI_i (by omega)]; exact decide_eq_decide.mpr (by omega)
  have k6 : cn2 .lt (nI nst) 10 = decide (nst < 10) := by rw [show (10 : Int32) = nI 10 from rfl, klt (by omega) (by omega)]
  constructor
  · show b_Pt_firstWrong_4 rC fu (T_Pt_firstWrong_4 rC fu g) c (nI to) (nI nst) (nI a) (nI o) = _
    unfold b_Pt_firstWrong_4
    rw [k1, cond_false, k2, cond_false, na, hb, k3, cond_false, e1, k4, cond_false, hP, k5, k6]
    rcases hd with z | z
    · rw [dt z, cond_true]; exact hy.1
    · rw [dt z, cond_true]
      cases decide (P = 0)
      · exact hy.1
      · exact hy.1
  · show v_Pt_firstWrong_4 rC wC fu (T_Pt_firstWrong_4 rC fu g) (WT_Pt_firstWrong_4 rC wC fu g) c (nI to) (nI nst) (nI a) (nI o)
    unfold v_Pt_firstWrong_4
    rw [k1, k2, na, hb, k3, e1, k4, hP, k5, k6]
    exact ⟨(fun z => nomatch z), fun _ => ⟨(fun z => nomatch z), fun _ => ⟨va, trivial, w4, w4, (fun z => nomatch z), fun _ => ⟨(fun z => nomatch z), fun _ => ⟨fun _ => hy.2, fun _ => ⟨fun _ => hy.2, fun _ => trivial⟩⟩⟩⟩⟩⟩
/-- the class: an op that is wrong at its first byte -/
theorem fc_no (hT : TP c r L) (hop : sA r 32 a = op) (hat : a < to) (hto : to ≤ L) (ho : o ≤ a) (hns : nst ≤ 10) (hd : ¬ (1 ≤ op.toInt ∧ op.toInt ≤ 34) ∨ (1 ≤ op.toInt ∧ op.toInt ≤ 34 ∧ (f_M_wholeOf op).toInt = (W : Int) ∧ (to < a + W ∨ (f_Pt_parts op = nI P ∧ 1 ≤ P ∧ P ≤ 3 ∧ nst = 10)))) (g : Nat) : (T_Pt_firstWrong_4 rC fu (g + 1)).1 c (nI to) (nI nst) (nI a) (nI o) = nI a ∧ (WT_Pt_firstWrong_4 rC wC fu (g + 1)).1 c (nI to) (nI nst) (nI a) (nI o) := by
  have tL := hT.1
  have k1 : cn2 .ge (nI o) 200 = false := by rw [show (200 : Int32) = nI 200 from rfl, kge (by omega) (by omega)]; exact df (by omega)
  have k2 : cn2 .ge (nI a) (nI to) = false := by rw [kge (by omega) (by omega)]; exact df (by omega)
  have na : (nI a).toNatClampNeg = a := nN (by omega)
  have hb : sA c 3 a &&& 255 = op := (hT.2 a (by omega)).symm.trans hop
  have va : vp_in (nI a) 2000 := vp_n (by omega) (by omega)
  have k6 : cn2 .lt (nI nst) 10 = decide (nst < 10) := by rw [show (10 : Int32) = nI 10 from rfl, klt (by omega) (by omega)]
  rcases hd with hd | ⟨h1, h2, hW, hd⟩
  · obtain ⟨z1, z2⟩ := wo_no hd c
    have w4 : sk (f_Pt_operands c op) := ⟨30, by decide, z2⟩
    have k3 : cn1 .ne (b2i (ste (f_Pt_operands c op))) = true := by
      rw [z2, show ste (some (am_sa + 30)) = true from by decide +kernel]; rfl
    constructor
    · show b_Pt_firstWrong_4 rC fu (T_Pt_firstWrong_4 rC fu g) c (nI to) (nI nst) (nI a) (nI o) = _
      unfold b_Pt_firstWrong_4
      rw [k1, cond_false, k2, cond_false, na, hb, k3, cond_true]
    · show v_Pt_firstWrong_4 rC wC fu (T_Pt_firstWrong_4 rC fu g) (WT_Pt_firstWrong_4 rC wC fu g) c (nI to) (nI nst) (nI a) (nI o)
      unfold v_Pt_firstWrong_4
      rw [k1, k2, na, hb, k3]
      exact ⟨(fun z => nomatch z), fun _ => ⟨(fun z => nomatch z), fun _ => ⟨va, trivial, w4, w4, fun _ => trivial, (fun z => nomatch z)⟩⟩⟩
  · obtain ⟨w1, w2, w3, w4, w5, w6⟩ := op_len (c := c) h1 h2 hW
    have k3 : cn1 .ne (b2i (ste (f_Pt_operands c op))) = false := by
      have : ste (f_Pt_operands c op) = false := by unfold ste; exact df (by omega)
      rw [this]; rfl
    have e1 : nI a + 1 + stl (f_Pt_operands c op) = nI (a + W) := by rw [(opd (s := c) h1 h2 (nI a)).1, w3, nAd]
    have k4 : cn2 .gt (nI (a + W)) (nI to) = decide (to < a + W) := kgt (by omega) (by omega)
    rcases hd with z | ⟨hP, p1, p3, z⟩
    · constructor
      · show b_Pt_firstWrong_4 rC fu (T_Pt_firstWrong_4 rC fu g) c (nI to) (nI nst) (nI a) (nI o) = _
        unfold b_Pt_firstWrong_4
        rw [k1, cond_false, k2, cond_false, na, hb, k3, cond_false, e1, k4, dt z, cond_true]
      · show v_Pt_firstWrong_4 rC wC fu (T_Pt_firstWrong_4 rC fu g) (WT_Pt_firstWrong_4 rC wC fu g) c (nI to) (nI nst) (nI a) (nI o)
        unfold v_Pt_firstWrong_4
        rw [k1, k2, na, hb, k3, e1, k4, dt z]
        exact ⟨(fun z => nomatch z), fun _ => ⟨(fun z => nomatch z), fun _ => ⟨va, trivial, w4, w4, (fun z => nomatch z), fun _ => ⟨fun _ => trivial, (fun z => nomatch z)⟩⟩⟩⟩
    · have k5 : cn1 .le (nI P) = false := by rw [c1_le, yI_i (by omega)]; exact df (by omega)
      have k7 : decide (nst < 10) = false := df (by omega)
      constructor
      · show b_Pt_firstWrong_4 rC fu (T_Pt_firstWrong_4 rC fu g) c (nI to) (nI nst) (nI a) (nI o) = _
        unfold b_Pt_firstWrong_4
        rw [k1, cond_false, k2, cond_false, na, hb, k3, cond_false, e1, hP, k5, cond_false, k6, k7, cond_false]
        cases cn2 .gt (nI (a + W)) (nI to) <;> rfl
      · show v_Pt_firstWrong_4 rC wC fu (T_Pt_firstWrong_4 rC fu g) (WT_Pt_firstWrong_4 rC wC fu g) c (nI to) (nI nst) (nI a) (nI o)
        unfold v_Pt_firstWrong_4
        rw [k1, k2, na, hb, k3, e1, hP, k5, k6, k7]
        exact ⟨(fun z => nomatch z), fun _ => ⟨(fun z => nomatch z), fun _ => ⟨va, trivial, w4, w4, (fun z => nomatch z), fun _ => ⟨fun _ => trivial, fun _ => ⟨(fun z => nomatch z), fun _ => ⟨(fun z => nomatch z), fun _ => trivial⟩⟩⟩⟩⟩⟩
/-- the class: behind the operands; x: what the operands and the parts say -/
theorem fc_B {x : Int32} {oo : Option Nat} (hw : w_Pt_wrongOperand fu c (nI a) oo) (hx : (¬ f_Pt_wrongOperand fu c (nI a) oo = -1 ∧ x = f_Pt_wrongOperand fu c (nI a) oo) ∨ (f_Pt_wrongOperand fu c (nI a) oo = -1 ∧ ((P = 0 ∧ x = -1) ∨ (1 ≤ P ∧ P ≤ 3 ∧ wC.2 c (nI (a + W)) (nI to) (nI P) (nI nst) ∧ rC.2 c (nI (a + W)) (nI to) (nI P) (nI nst) = x)))) {g : Nat} {y : Int32} (hy : (¬ x = -1 ∧ y = x) ∨ (x = -1 ∧ (T_Pt_firstWrong_4 rC fu g).2.2.2 c (nI to) (nI nst) (nI (a + W)) (nI o) (nI P) (nI (a + W)) (nI 0) = y ∧ (WT_Pt_firstWrong_4 rC wC fu g).2.2.2 c (nI to) (nI nst) (nI (a + W)) (nI o) (nI P) (nI (a + W)) (nI 0))) : (T_Pt_firstWrong_4 rC fu (g + 2)).2.1 c (nI to) (nI nst) (nI a) (nI o) oo (nI P) (nI (a + W)) = y ∧ (WT_Pt_firstWrong_4 rC wC fu (g + 2)).2.1 c (nI to) (nI nst) (nI a) (nI o) oo (nI P) (nI (a + W)) := by
  have h59 : (T_Pt_firstWrong_4 rC fu (g + 1)).2.2.1 c (nI to) (nI nst) (nI o) (nI P) (nI (a + W)) x = y ∧ (WT_Pt_firstWrong_4 rC wC fu (g + 1)).2.2.1 c (nI to) (nI nst) (nI o) (nI P) (nI (a + W)) x := by
    rcases hy with ⟨z, hy⟩ | ⟨z, hy⟩
    · have t : cn2 .eq x (-1) = false := by rw [c2_eq]; exact df (fun u => z (Int32.toInt_inj.mp u))
      constructor
      · show b_Pt_firstWrong_59 rC fu (T_Pt_firstWrong_4 rC fu g) c (nI to) (nI nst) (nI o) (nI P) (nI (a + W)) x = _
        unfold b_Pt_firstWrong_59
        rw [t, cond_false]
        exact hy.symm
      · show v_Pt_firstWrong_59 rC wC fu (T_Pt_firstWrong_4 rC fu g) (WT_Pt_firstWrong_4 rC wC fu g) c (nI to) (nI nst) (nI o) (nI P) (nI (a + W)) x
        unfold v_Pt_firstWrong_59
        rw [t]
        exact ⟨(fun z => nomatch z), fun _ => trivial⟩
    · have t : cn2 .eq x (-1) = true := by rw [z]; rfl
      constructor
      · show b_Pt_firstWrong_59 rC fu (T_Pt_firstWrong_4 rC fu g) c (nI to) (nI nst) (nI o) (nI P) (nI (a + W)) x = _
        unfold b_Pt_firstWrong_59
        rw [t, cond_true]
        exact hy.1
      · show v_Pt_firstWrong_59 rC wC fu (T_Pt_firstWrong_4 rC fu g) (WT_Pt_firstWrong_4 rC wC fu g) c (nI to) (nI nst) (nI o) (nI P) (nI (a + W)) x
        unfold v_Pt_firstWrong_59
        rw [t]
        exact ⟨fun _ => hy.2, (fun z => nomatch z)⟩
  have fin : (T_Pt_firstWrong_4 rC fu (g + 2)).2.1 c (nI to) (nI nst) (nI a) (nI o) oo (nI P) (nI (a + W)) = b_Pt_firstWrong_42 rC fu (T_Pt_firstWrong_4 rC fu (g + 1)) c (nI to) (nI nst) (nI a) (nI o) oo (nI P) (nI (a + W)) := rfl
  have finw : (WT_Pt_firstWrong_4 rC wC fu (g + 2)).2.1 c (nI to) (nI nst) (nI a) (nI o) oo (nI P) (nI (a + W)) = v_Pt_firstWrong_42 rC wC fu (T_Pt_firstWrong_4 rC fu (g + 1)) (WT_Pt_firstWrong_4 rC wC fu (g + 1)) c (nI to) (nI nst) (nI a) (nI o) oo (nI P) (nI (a + W)) := rfl
  rw [fin, finw]
  unfold b_Pt_firstWrong_42 v_Pt_firstWrong_42
  rcases hx with ⟨z1, z2⟩ | ⟨z1, ⟨z2, z3⟩ | ⟨z2, z3, z4, z5⟩⟩
  · have t : cn2 .ne (f_Pt_wrongOperand fu c (nI a) oo) (-1) = true := by rw [c2_ne]; exact dt (fun u => z1 (Int32.toInt_inj.mp u))
    rw [t, cond_true, ← z2]
    exact ⟨h59.1, hw, fun _ => h59.2, (fun z => nomatch z)⟩
  · have t : cn2 .ne (f_Pt_wrongOperand fu c (nI a) oo) (-1) = false := by rw [z1]; rfl
    have t2 : cn1 .le (nI P) = true := by rw [c1_le, z2]; rfl
    rw [t, cond_false, t2, cond_true, z1, ← z3]
    exact ⟨h59.1, hw, (fun z => nomatch z), fun _ => ⟨fun _ => h59.2, (fun z => nomatch z)⟩⟩
  · have t : cn2 .ne (f_Pt_wrongOperand fu c (nI a) oo) (-1) = false := by rw [z1]; rfl
    have t2 : cn1 .le (nI P) = false := by rw [c1_le, yI_i (by omega)]; exact df (by omega)
    rw [t, cond_false, t2, cond_false, z5]
    exact ⟨h59.1, hw, (fun z => nomatch z), fun _ => ⟨(fun z => nomatch z), fun _ => ⟨z4, h59.2⟩⟩⟩
/-- the reference: an op begun -/
theorem fr_A (hT : TP c r L) (hop : sA r 32 a = op) (hat : a < to) (hto : to ≤ L) (hf : fl7 = if 30 ≤ op.toInt ∧ op.toInt ≤ 32 then 1 else 0) (hWn : f_M_wholeOf op = nI W) {C : Nat} {y : Int32} (hy : ∀ g, C ≤ g → (T_M_wrong_2 rec fu g).2.2.1 r (nI to) (nI nst) (nI a) op (nI W) fl7 = y ∧ (WT_M_wrong_2 rec wrec fu g).2.2.1 r (nI to) (nI nst) (nI a) op (nI W) fl7) : ∀ g, C + 2 ≤ g → (T_M_wrong_2 rec fu g).1 r (nI to) (nI nst) (nI a) = y ∧ (WT_M_wrong_2 rec wrec fu g).1 r (nI to) (nI nst) (nI a) := fun g hg => by
  have tL := hT.1
  have k2 : cn2 .ge (nI a) (nI to) = false := by rw [kge (by omega) (by omega)]; exact df (by omega)
  have na : (nI a).toNatClampNeg = a := nN (by omega)
  have va : vp_in (nI a) 2000 := vp_n (by omega) (by omega)
  obtain ⟨g, rfl⟩ : ∃ g', g = g' + 2 := ⟨g - 2, by omega⟩
  obtain ⟨x1, x2⟩ := hy g (by omega)
  obtain ⟨x3, x4⟩ := hy (g + 1) (by omega)
  have h21 : fl7 = 0 → (T_M_wrong_2 rec fu (g + 1)).2.1 r (nI to) (nI nst) (nI a) op (nI W) = y ∧ (WT_M_wrong_2 rec wrec fu (g + 1)).2.1 r (nI to) (nI nst) (nI a) op (nI W) := fun z => by
    rw [z] at x1 x2
    constructor
    · show b_M_wrong_21 rec fu (T_M_wrong_2 rec fu g) r (nI to) (nI nst) (nI a) op (nI W) = _
      unfold b_M_wrong_21
      exact x1
    · show v_M_wrong_21 rec wrec fu (T_M_wrong_2 rec fu g) (WT_M_wrong_2 rec wrec fu g) r (nI to) (nI nst) (nI a) op (nI W)
      unfold v_M_wrong_21
      exact x2
  have fin : (T_M_wrong_2 rec fu (g + 2)).1 r (nI to) (nI nst) (nI a) = b_M_wrong_2 rec fu (T_M_wrong_2 rec fu (g + 1)) r (nI to) (nI nst) (nI a) := rfl
  have finw : (WT_M_wrong_2 rec wrec fu (g + 2)).1 r (nI to) (nI nst) (nI a) = v_M_wrong_2 rec wrec fu (T_M_wrong_2 rec fu (g + 1)) (WT_M_wrong_2 rec wrec fu (g + 1)) r (nI to) (nI nst) (nI a) := rfl
  rw [fin, finw]
  unfold b_M_wrong_2 v_M_wrong_2
  rw [k2, cond_false, na, hop, hWn]
  have l29 : cn2 .le op 29 = decide (op.toInt ≤ 29) := c2_le op 29
  have g33 : cn2 .ge op 33 = decide (33 ≤ op.toInt) := c2_ge op 33
  rw [l29, g33]
  by_cases q1 : op.toInt ≤ 29
  · rw [if_neg (by omega)] at hf
    rw [dt q1, cond_true]
    exact ⟨(h21 hf).1, (fun z => nomatch z), fun _ => ⟨va, fun _ => (h21 hf).2, (fun z => nomatch z)⟩⟩
  · by_cases q2 : 33 ≤ op.toInt
    · rw [if_neg (by omega)] at hf
      rw [df q1, cond_false, dt q2, cond_true]
      exact ⟨(h21 hf).1, (fun z => nomatch z), fun _ => ⟨va, (fun z => nomatch z), fun _ => ⟨fun _ => (h21 hf).2, (fun z => nomatch z)⟩⟩⟩
    · rw [if_pos (by omega)] at hf
      rw [hf] at x3 x4
      rw [df q1, cond_false, df q2, cond_false]
      exact ⟨x3, (fun z => nomatch z), fun _ => ⟨va, (fun z => nomatch z), fun _ => ⟨(fun z => nomatch z), fun _ => x4⟩⟩⟩
/-- the reference: wrong at the first byte -/
theorem fr_no (hL : to ≤ 200) (hat : a < to) (hW10 : W ≤ 10) (hns : nst ≤ 10) (hd : W = 0 ∨ to < a + W ∨ (fl7 = 1 ∧ nst = 10)) : ∀ g, 1 ≤ g → (T_M_wrong_2 rec fu g).2.2.1 r (nI to) (nI nst) (nI a) op (nI W) fl7 = nI a ∧ (WT_M_wrong_2 rec wrec fu g).2.2.1 r (nI to) (nI nst) (nI a) op (nI W) fl7 := fun g hg => by
  obtain ⟨g, rfl⟩ : ∃ g', g = g' + 1 := ⟨g - 1, by omega⟩
  have k1 : cn1 .eq (nI W) = decide (W = 0) := by rw [c1_eq, yI_i (by omega)]; exact decide_eq_decide.mpr (by omega)
  have k2 : cn2 .gt (nI a + nI W) (nI to) = decide (to < a + W) := by rw [nAd, kgt (by omega) (by omega)]
  have k3 : cn2 .ne (nI nst) 10 = decide (¬ nst = 10) := by rw [c2_ne, yI_i (by omega), show ((10 : Int32).toInt) = 10 from rfl]; exact decide_eq_decide.mpr (by omega)
  have fin : (T_M_wrong_2 rec fu (g + 1)).2.2.1 r (nI to) (nI nst) (nI a) op (nI W) fl7 = b_M_wrong_22 rec fu (T_M_wrong_2 rec fu g) r (nI to) (nI nst) (nI a) op (nI W) fl7 := rfl
  have finw : (WT_M_wrong_2 rec wrec fu (g + 1)).2.2.1 r (nI to) (nI nst) (nI a) op (nI W) fl7 = v_M_wrong_22 rec wrec fu (T_M_wrong_2 rec fu g) (WT_M_wrong_2 rec wrec fu g) r (nI to) (nI nst) (nI a) op (nI W) fl7 := rfl
  rw [fin, finw]
  unfold b_M_wrong_22 v_M_wrong_22
  rw [k1, k2, k3]
  rcases hd with z | z | ⟨z1, z2⟩
  · rw [dt z, cond_true]
    exact ⟨rfl, fun _ => trivial, (fun z => nomatch z)⟩
  · rw [dt z, cond_true]
    refine ⟨?_, fun _ => trivial, fun _ => ⟨fun _ => trivial, (fun z => nomatch z)⟩⟩
    cases decide (W = 0) <;> rfl
  · rw [df (p := ¬ nst = 10) (fun y => y z2), cond_false, z1, show cn1 .eq (1 : Int32) = false from rfl, cond_false]
    refine ⟨?_, fun _ => trivial, fun _ => ⟨fun _ => trivial, fun _ => ⟨(fun z => nomatch z), fun _ => ⟨(fun z => nomatch z), fun _ => trivial⟩⟩⟩⟩
    cases decide (W = 0) <;> cases decide (to < a + W) <;> rfl
/-- the reference: on to the operands -/
theorem fr_B (hL : to ≤ 200) (haW : a + W ≤ to) (hW0 : 2 ≤ W) (hns : nst ≤ 10) (hd : fl7 = 0 ∨ nst < 10) {C : Nat} {y : Int32} (hy : ∀ g, C ≤ g → (T_M_wrong_2 rec fu g).2.2.2.2.1 r (nI to) (nI nst) (nI a) op (nI W) fl7 (nI 0) = y ∧ (WT_M_wrong_2 rec wrec fu g).2.2.2.2.1 r (nI to) (nI nst) (nI a) op (nI W) fl7 (nI 0)) : ∀ g, C + 2 ≤ g → (T_M_wrong_2 rec fu g).2.2.1 r (nI to) (nI nst) (nI a) op (nI W) fl7 = y ∧ (WT_M_wrong_2 rec wrec fu g).2.2.1 r (nI to) (nI nst) (nI a) op (nI W) fl7 := fun g hg => by
  obtain ⟨g, rfl⟩ : ∃ g', g = g' + 2 := ⟨g - 2, by omega⟩
  obtain ⟨x1, x2⟩ := hy g (by omega)
  have k1 : cn1 .eq (nI W) = false := by rw [c1_eq, yI_i (by omega)]; exact df (by omega)
  have k2 : cn2 .gt (nI a + nI W) (nI to) = false := by rw [nAd, kgt (by omega) (by omega)]; exact df (by omega)
  have k3 : cn2 .ne (nI nst) 10 = decide (¬ nst = 10) := by rw [c2_ne, yI_i (by omega), show ((10 : Int32).toInt) = 10 from rfl]; exact decide_eq_decide.mpr (by omega)
  have h37 : (T_M_wrong_2 rec fu (g + 1)).2.2.2.1 r (nI to) (nI nst) (nI a) op (nI W) fl7 = y ∧ (WT_M_wrong_2 rec wrec fu (g + 1)).2.2.2.1 r (nI to) (nI nst) (nI a) op (nI W) fl7 := by
    constructor
    · show b_M_wrong_37 rec fu (T_M_wrong_2 rec fu g) r (nI to) (nI nst) (nI a) op (nI W) fl7 = _
      unfold b_M_wrong_37
      exact x1
    · show v_M_wrong_37 rec wrec fu (T_M_wrong_2 rec fu g) (WT_M_wrong_2 rec wrec fu g) r (nI to) (nI nst) (nI a) op (nI W) fl7
      unfold v_M_wrong_37
      exact x2
  have fin : (T_M_wrong_2 rec fu (g + 2)).2.2.1 r (nI to) (nI nst) (nI a) op (nI W) fl7 = b_M_wrong_22 rec fu (T_M_wrong_2 rec fu (g + 1)) r (nI to) (nI nst) (nI a) op (nI W) fl7 := rfl
  have finw : (WT_M_wrong_2 rec wrec fu (g + 2)).2.2.1 r (nI to) (nI nst) (nI a) op (nI W) fl7 = v_M_wrong_22 rec wrec fu (T_M_wrong_2 rec fu (g + 1)) (WT_M_wrong_2 rec wrec fu (g + 1)) r (nI to) (nI nst) (nI a) op (nI W) fl7 := rfl
  rw [fin, finw]
  unfold b_M_wrong_22 v_M_wrong_22
  rw [k1, k2, k3, cond_false, cond_false]
  rcases hd with z | z
  · rw [show cn1 .eq fl7 = true from by rw [z]; rfl, cond_true]
    exact ⟨h37.1, (fun z => nomatch z), fun _ => ⟨(fun z => nomatch z), fun _ => ⟨fun _ => h37.2, (fun z => nomatch z)⟩⟩⟩
  · rw [dt (show ¬ nst = 10 by omega), cond_true]
    refine ⟨?_, (fun z => nomatch z), fun _ => ⟨(fun z => nomatch z), fun _ => ⟨fun _ => h37.2, fun _ => ⟨fun _ => h37.2, (fun z => nomatch z)⟩⟩⟩⟩
    cases cn1 .eq fl7
    · exact h37.1
    · exact h37.1
/-- the reference: behind the operands, no parts -/
theorem fr_E0 (hL : a + W ≤ 200) (hW0 : 2 ≤ W) (hf : fl7 = 0) {C : Nat} {y : Int32} (hy : ∀ g, C ≤ g → (T_M_wrong_2 rec fu g).1 r (nI to) (nI nst) (nI (a + W)) = y ∧ (WT_M_wrong_2 rec wrec fu g).1 r (nI to) (nI nst) (nI (a + W))) : ∀ g, C + 2 ≤ g → (T_M_wrong_2 rec fu g).2.2.2.2.1 r (nI to) (nI nst) (nI a) op (nI W) fl7 (nI (W - 1)) = y ∧ (WT_M_wrong_2 rec wrec fu g).2.2.2.2.1 r (nI to) (nI nst) (nI a) op (nI W) fl7 (nI (W - 1)) := fun g hg => by
  obtain ⟨g, rfl⟩ : ∃ g', g = g' + 2 := ⟨g - 2, by omega⟩
  obtain ⟨x1, x2⟩ := hy g (by omega)
  have e61 : nI W - 1 = nI (W - 1) := by
    obtain ⟨w, rfl⟩ : ∃ w, W = w + 1 := ⟨W - 1, by omega⟩
    exact nI_p w
  have ge : cn2 .ge (nI (W - 1)) (nI (W - 1)) = true := by rw [kge (by omega) (by omega)]; exact dt (by omega)
  have h9 : (T_M_wrong_2 rec fu (g + 1)).2.2.2.2.2.2.2.2 r (nI to) (nI nst) (nI (a + W)) = y ∧ (WT_M_wrong_2 rec wrec fu (g + 1)).2.2.2.2.2.2.2.2 r (nI to) (nI nst) (nI (a + W)) := by
    constructor
    · show b_M_wrong_158 rec fu (T_M_wrong_2 rec fu g) r (nI to) (nI nst) (nI (a + W)) = _
      unfold b_M_wrong_158
      exact x1
    · show v_M_wrong_158 rec wrec fu (T_M_wrong_2 rec fu g) (WT_M_wrong_2 rec wrec fu g) r (nI to) (nI nst) (nI (a + W))
      unfold v_M_wrong_158
      exact x2
  have fin : (T_M_wrong_2 rec fu (g + 2)).2.2.2.2.1 r (nI to) (nI nst) (nI a) op (nI W) fl7 (nI (W - 1)) = b_M_wrong_39 rec fu (T_M_wrong_2 rec fu (g + 1)) r (nI to) (nI nst) (nI a) op (nI W) fl7 (nI (W - 1)) := rfl
  have finw : (WT_M_wrong_2 rec wrec fu (g + 2)).2.2.2.2.1 r (nI to) (nI nst) (nI a) op (nI W) fl7 (nI (W - 1)) = v_M_wrong_39 rec wrec fu (T_M_wrong_2 rec fu (g + 1)) (WT_M_wrong_2 rec wrec fu (g + 1)) r (nI to) (nI nst) (nI a) op (nI W) fl7 (nI (W - 1)) := rfl
  rw [fin, finw]
  unfold b_M_wrong_39 v_M_wrong_39
  rw [e61, ge, cond_true, hf, show cn1 .eq (0 : Int32) = true from rfl, cond_true, nAd]
  exact ⟨h9.1, fun _ => ⟨fun _ => h9.2, (fun z => nomatch z)⟩, (fun z => nomatch z)⟩
/-- the reference: behind the operands, parts -/
theorem fr_E1 (hL : a + W ≤ 200) (hW0 : 2 ≤ W) (hf : fl7 = 1) (hw : (¬ op = 32 ∧ w0 = 2) ∨ (op = 32 ∧ w0 = 4)) {C : Nat} {y : Int32} (hy : ∀ g, C ≤ g → (T_M_wrong_2 rec fu g).2.2.2.2.2.2.1 r (nI to) (nI nst) (nI a) (nI W) (nI (a + W)) (nI w0) (nI w0) = y ∧ (WT_M_wrong_2 rec wrec fu g).2.2.2.2.2.2.1 r (nI to) (nI nst) (nI a) (nI W) (nI (a + W)) (nI w0) (nI w0)) : ∀ g, C + 2 ≤ g → (T_M_wrong_2 rec fu g).2.2.2.2.1 r (nI to) (nI nst) (nI a) op (nI W) fl7 (nI (W - 1)) = y ∧ (WT_M_wrong_2 rec wrec fu g).2.2.2.2.1 r (nI to) (nI nst) (nI a) op (nI W) fl7 (nI (W - 1)) := fun g hg => by
  obtain ⟨g, rfl⟩ : ∃ g', g = g' + 2 := ⟨g - 2, by omega⟩
  obtain ⟨x1, x2⟩ := hy g (by omega)
  have e61 : nI W - 1 = nI (W - 1) := by
    obtain ⟨w, rfl⟩ : ∃ w, W = w + 1 := ⟨W - 1, by omega⟩
    exact nI_p w
  have ge : cn2 .ge (nI (W - 1)) (nI (W - 1)) = true := by rw [kge (by omega) (by omega)]; exact dt (by omega)
  have h6 : (T_M_wrong_2 rec fu (g + 1)).2.2.2.2.2.1 r (nI to) (nI nst) (nI a) (nI W) (nI (a + W)) (nI w0) = y ∧ (WT_M_wrong_2 rec wrec fu (g + 1)).2.2.2.2.2.1 r (nI to) (nI nst) (nI a) (nI W) (nI (a + W)) (nI w0) := by
    constructor
    · show b_M_wrong_94 rec fu (T_M_wrong_2 rec fu g) r (nI to) (nI nst) (nI a) (nI W) (nI (a + W)) (nI w0) = _
      unfold b_M_wrong_94
      exact x1
    · show v_M_wrong_94 rec wrec fu (T_M_wrong_2 rec fu g) (WT_M_wrong_2 rec wrec fu g) r (nI to) (nI nst) (nI a) (nI W) (nI (a + W)) (nI w0)
      unfold v_M_wrong_94
      exact x2
  have fin : (T_M_wrong_2 rec fu (g + 2)).2.2.2.2.1 r (nI to) (nI nst) (nI a) op (nI W) fl7 (nI (W - 1)) = b_M_wrong_39 rec fu (T_M_wrong_2 rec fu (g + 1)) r (nI to) (nI nst) (nI a) op (nI W) fl7 (nI (W - 1)) := rfl
  have finw : (WT_M_wrong_2 rec wrec fu (g + 2)).2.2.2.2.1 r (nI to) (nI nst) (nI a) op (nI W) fl7 (nI (W - 1)) = v_M_wrong_39 rec wrec fu (T_M_wrong_2 rec fu (g + 1)) (WT_M_wrong_2 rec wrec fu (g + 1)) r (nI to) (nI nst) (nI a) op (nI W) fl7 (nI (W - 1)) := rfl
  rw [fin, finw]
  unfold b_M_wrong_39 v_M_wrong_39
  rw [e61, ge, cond_true, hf, show cn1 .eq (1 : Int32) = false from rfl, cond_false, nAd]
  rcases hw with ⟨z1, z2⟩ | ⟨z1, z2⟩
  · rw [show cn2 .ne op 32 = true from by rw [c2_ne]; exact dt (fun u => z1 (Int32.toInt_inj.mp u)), cond_true]
    rw [z2] at h6
    exact ⟨h6.1, fun _ => ⟨(fun z => nomatch z), fun _ => ⟨fun _ => h6.2, (fun z => nomatch z)⟩⟩, (fun z => nomatch z)⟩
  · rw [show cn2 .ne op 32 = false from by rw [z1]; rfl, cond_false]
    rw [z2] at h6
    exact ⟨h6.1, fun _ => ⟨(fun z => nomatch z), fun _ => ⟨(fun z => nomatch z), fun _ => h6.2⟩⟩, (fun z => nomatch z)⟩
end FWC
