/-! THE PARTS BEHIND AN OP, when a tape is checked -/
def ps (A : Nat → Int32) (b0 base : Nat) : Nat → Nat
  | 0 => base
  | j + 1 => ps A b0 base j + lnA A (b0 + j)
theorem ps_mono (A : Nat → Int32) (b0 base : Nat) : ∀ k j, ps A b0 base j ≤ ps A b0 base (j + k)
  | 0, _ => Nat.le_refl _
  | k + 1, j => Nat.le_trans (ps_mono A b0 base k j) (Nat.le_add_right _ _)
theorem ps_le (A : Nat → Int32) (b0 base : Nat) {i j : Nat} (h : i ≤ j) : ps A b0 base i ≤ ps A b0 base j := by
  obtain ⟨k, rfl⟩ : ∃ k, j = i + k := ⟨j - i, by omega⟩
  exact ps_mono A b0 base k i
section WPG
variable {c r : St} {fu L a W P w0 to nst dd : Nat} {rec : G_wrong} {wrec : GW_wrong} {rD : G_fw} {wD : GW_fw}
theorem wp_b (hT : TP c r L) (hw : w0 + P = W) (haL : a + W ≤ L) {j : Nat} (hj : j < P) : nI (a + w0) + nI j = nI (a + w0 + j) ∧ nI a + nI (w0 + j) = nI (a + w0 + j) ∧ (nI (a + w0 + j)).toNatClampNeg = a + w0 + j ∧ vp_in (nI (a + w0 + j)) 2000 ∧ sA c 3 (a + w0 + j) &&& 255 = nI (lnA (sA r 32) (a + w0 + j)) ∧ sA r 32 (a + w0 + j) = nI (lnA (sA r 32) (a + w0 + j)) ∧ nI (ps (sA r 32) (a + w0) (a + W) j) + nI (lnA (sA r 32) (a + w0 + j)) = nI (ps (sA r 32) (a + w0) (a + W) (j + 1)) ∧ lnA (sA r 32) (a + w0 + j) ≤ 255 := by
  have tL := hT.1
  obtain ⟨t1, t2, t3⟩ := hT.ln (k := a + w0 + j) (by omega)
  exact ⟨nAd _ _, by rw [nAd, Nat.add_assoc], nN (by omega), vp_n (by omega) (by omega), t1, t2, nAd _ _, t3⟩
/-- are the parts within? -/
theorem pa_go (hT : TP c r L) (hw : w0 + P = W) (haL : a + W ≤ L) (hto : to ≤ L) (hP : P ≤ 3) : ∀ (k j : Nat), j + k = P → ps (sA r 32) (a + w0) (a + W) j ≤ to →
    (∃ x : Int32, ¬ x = -1 ∧ (∀ g, k + 1 ≤ g → t_Pt_wrongPart_8 rD fu g c (nI (a + W)) (nI to) (nI P) (nI nst) (nI (a + w0)) (nI (ps (sA r 32) (a + w0) (a + W) j)) (nI j) = x ∧ w_Pt_wrongPart_8 rD wD fu g c (nI (a + W)) (nI to) (nI P) (nI nst) (nI (a + w0)) (nI (ps (sA r 32) (a + w0) (a + W) j)) (nI j)) ∧ ∀ g, k + 1 ≤ g → (T_M_wrong_2 rec fu g).2.2.2.2.2.2.1 r (nI to) (nI nst) (nI a) (nI W) (nI (ps (sA r 32) (a + w0) (a + W) j)) (nI w0) (nI (w0 + j)) = x ∧ (WT_M_wrong_2 rec wrec fu g).2.2.2.2.2.2.1 r (nI to) (nI nst) (nI a) (nI W) (nI (ps (sA r 32) (a + w0) (a + W) j)) (nI w0) (nI (w0 + j))) ∨
    (ps (sA r 32) (a + w0) (a + W) P ≤ to ∧ (∀ y, (t_Pt_wrongPart_34 rD fu fu c (nI P) (nI nst) (nI (a + w0)) (nI (a + W)) 0 = y ∧ w_Pt_wrongPart_34 rD wD fu fu c (nI P) (nI nst) (nI (a + w0)) (nI (a + W)) 0) → ∀ g, k + 1 ≤ g → t_Pt_wrongPart_8 rD fu g c (nI (a + W)) (nI to) (nI P) (nI nst) (nI (a + w0)) (nI (ps (sA r 32) (a + w0) (a + W) j)) (nI j) = y ∧ w_Pt_wrongPart_8 rD wD fu g c (nI (a + W)) (nI to) (nI P) (nI nst) (nI (a + w0)) (nI (ps (sA r 32) (a + w0) (a + W) j)) (nI j)) ∧ ∀ C y, (∀ g, C ≤ g → (T_M_wrong_2 rec fu g).2.2.2.2.2.2.2.1 r (nI to) (nI nst) (nI a) (nI W) (nI (a + W)) (nI w0) = y ∧ (WT_M_wrong_2 rec wrec fu g).2.2.2.2.2.2.2.1 r (nI to) (nI nst) (nI a) (nI W) (nI (a + W)) (nI w0)) → ∀ g, C + k + 1 ≤ g → (T_M_wrong_2 rec fu g).2.2.2.2.2.2.1 r (nI to) (nI nst) (nI a) (nI W) (nI (ps (sA r 32) (a + w0) (a + W) j)) (nI w0) (nI (w0 + j)) = y ∧ (WT_M_wrong_2 rec wrec fu g).2.2.2.2.2.2.1 r (nI to) (nI nst) (nI a) (nI W) (nI (ps (sA r 32) (a + w0) (a + W) j)) (nI w0) (nI (w0 + j))) := by
  have tL := hT.1
  intro k
  induction k with
  | zero =>
    intro j hj hps
    have ej : j = P := by omega
    subst ej
    have ge : cn2 .ge (nI j) (nI j) = true := by rw [kge (by omega) (by omega)]; exact dt (by omega)
    have ge2 : cn2 .ge (nI (w0 + j)) (nI W) = true := by rw [kge (by omega) (by omega)]; exact dt (by omega)
    refine Or.inr ⟨hps, fun y hy g hg => ?_, fun C y hy g hg => ?_⟩
    · obtain ⟨g, rfl⟩ : ∃ g', g = g' + 1 := ⟨g - 1, by omega⟩
      unfold t_Pt_wrongPart_8 w_Pt_wrongPart_8
      rw [ge, cond_true]
      exact ⟨hy.1, fun _ => hy.2, (fun z => nomatch z)⟩
    · obtain ⟨g, rfl⟩ : ∃ g', g = g' + 1 := ⟨g - 1, by omega⟩
      obtain ⟨x1, x2⟩ := hy g (by omega)
      constructor
      · show b_M_wrong_97 rec fu (T_M_wrong_2 rec fu g) r (nI to) (nI nst) (nI a) (nI W) (nI (ps (sA r 32) (a + w0) (a + W) j)) (nI w0) (nI (w0 + j)) = _
        unfold b_M_wrong_97
        rw [ge2, cond_true, nAd]
        exact x1
      · show v_M_wrong_97 rec wrec fu (T_M_wrong_2 rec fu g) (WT_M_wrong_2 rec wrec fu g) r (nI to) (nI nst) (nI a) (nI W) (nI (ps (sA r 32) (a + w0) (a + W) j)) (nI w0) (nI (w0 + j))
        unfold v_M_wrong_97
        rw [ge2, nAd]
        exact ⟨fun _ => x2, (fun z => nomatch z)⟩
  | succ k ih =>
    intro j hj hps
    obtain ⟨b1, b2, b3, b4, b5, b6, b7, b8⟩ := wp_b hT hw haL (j := j) (by omega)
    have ge : cn2 .ge (nI j) (nI P) = false := by rw [kge (by omega) (by omega)]; exact df (by omega)
    have ge2 : cn2 .ge (nI (w0 + j)) (nI W) = false := by rw [kge (by omega) (by omega)]; exact df (by omega)
    have sj : nI j + Int32.ofInt 1 = nI (j + 1) := nI_s j
    have sj2 : nI (w0 + j) + Int32.ofInt 1 = nI (w0 + (j + 1)) := nI_s (w0 + j)
    have ps1 : ps (sA r 32) (a + w0) (a + W) (j + 1) = ps (sA r 32) (a + w0) (a + W) j + lnA (sA r 32) (a + w0 + j) := rfl
    obtain ⟨p0, hp0⟩ : ∃ p0, p0 = ps (sA r 32) (a + w0) (a + W) j := ⟨_, rfl⟩
    obtain ⟨p1, hp1⟩ : ∃ p1, p1 = ps (sA r 32) (a + w0) (a + W) (j + 1) := ⟨_, rfl⟩
    rw [← hp0, ← hp1] at b7
    rw [← hp0, ← hp1] at ps1
    rw [← hp0] at hps ⊢
    by_cases g1 : p1 ≤ to
    · have t1 : cn2 .le (nI p1) (nI to) = true := by rw [kle (by omega) (by omega)]; exact dt g1
      have gC : ∀ g y, (t_Pt_wrongPart_8 rD fu g c (nI (a + W)) (nI to) (nI P) (nI nst) (nI (a + w0)) (nI p1) (nI (j + 1)) = y ∧ w_Pt_wrongPart_8 rD wD fu g c (nI (a + W)) (nI to) (nI P) (nI nst) (nI (a + w0)) (nI p1) (nI (j + 1))) → t_Pt_wrongPart_8 rD fu (g + 1) c (nI (a + W)) (nI to) (nI P) (nI nst) (nI (a + w0)) (nI p0) (nI j) = y ∧ w_Pt_wrongPart_8 rD wD fu (g + 1) c (nI (a + W)) (nI to) (nI P) (nI nst) (nI (a + w0)) (nI p0) (nI j) := fun g y hy => by
        unfold t_Pt_wrongPart_8 w_Pt_wrongPart_8
        rw [ge, cond_false, b1, b3, b5, b7, t1, cond_true, sj]
        exact ⟨hy.1, (fun z => nomatch z), fun _ => ⟨b4, fun _ => hy.2, (fun z => nomatch z)⟩⟩
      have gM : ∀ g y, ((T_M_wrong_2 rec fu g).2.2.2.2.2.2.1 r (nI to) (nI nst) (nI a) (nI W) (nI p1) (nI w0) (nI (w0 + (j + 1))) = y ∧ (WT_M_wrong_2 rec wrec fu g).2.2.2.2.2.2.1 r (nI to) (nI nst) (nI a) (nI W) (nI p1) (nI w0) (nI (w0 + (j + 1)))) → (T_M_wrong_2 rec fu (g + 1)).2.2.2.2.2.2.1 r (nI to) (nI nst) (nI a) (nI W) (nI p0) (nI w0) (nI (w0 + j)) = y ∧ (WT_M_wrong_2 rec wrec fu (g + 1)).2.2.2.2.2.2.1 r (nI to) (nI nst) (nI a) (nI W) (nI p0) (nI w0) (nI (w0 + j)) := fun g y hy => by
        constructor
        · show b_M_wrong_97 rec fu (T_M_wrong_2 rec fu g) r (nI to) (nI nst) (nI a) (nI W) (nI p0) (nI w0) (nI (w0 + j)) = _
          unfold b_M_wrong_97
          rw [ge2, cond_false, b2, b3, b6, b7, t1, cond_true, sj2]
          exact hy.1
        · show v_M_wrong_97 rec wrec fu (T_M_wrong_2 rec fu g) (WT_M_wrong_2 rec wrec fu g) r (nI to) (nI nst) (nI a) (nI W) (nI p0) (nI w0) (nI (w0 + j))
          unfold v_M_wrong_97
          rw [ge2, b2, b3, b6, b7, t1, sj2]
          exact ⟨(fun z => nomatch z), fun _ => ⟨b4, fun _ => hy.2, (fun z => nomatch z)⟩⟩
      have ih' := ih (j + 1) (by omega) (by rw [← hp1]; exact g1)
      rw [← hp1] at ih'
      rcases ih' with ⟨x, z1, z2, z3⟩ | ⟨z1, z2, z3⟩
      · refine Or.inl ⟨x, z1, fun g hg => ?_, fun g hg => ?_⟩
        · obtain ⟨g, rfl⟩ : ∃ g', g = g' + 1 := ⟨g - 1, by omega⟩
          exact gC g x (z2 g (by omega))
        · obtain ⟨g, rfl⟩ : ∃ g', g = g' + 1 := ⟨g - 1, by omega⟩
          exact gM g x (z3 g (by omega))
      · refine Or.inr ⟨z1, fun y hy g hg => ?_, fun C y hy g hg => ?_⟩
        · obtain ⟨g, rfl⟩ : ∃ g', g = g' + 1 := ⟨g - 1, by omega⟩
          exact gC g y (z2 y hy g (by omega))
        · obtain ⟨g, rfl⟩ : ∃ g', g = g' + 1 := ⟨g - 1, by omega⟩
          exact gM g y (z3 C y hy g (by omega))
    · have t1 : cn2 .le (nI p1) (nI to) = false := by rw [kle (by omega) (by omega)]; exact df g1
      refine Or.inl ⟨nI (a + w0 + j), n_m1 (by omega), fun g hg => ?_, fun g hg => ?_⟩
      · obtain ⟨g, rfl⟩ : ∃ g', g = g' + 1 := ⟨g - 1, by omega⟩
        unfold t_Pt_wrongPart_8 w_Pt_wrongPart_8
        rw [ge, cond_false, b1, b3, b5, b7, t1, cond_false]
        exact ⟨rfl, (fun z => nomatch z), fun _ => ⟨b4, (fun z => nomatch z), fun _ => trivial⟩⟩
      · obtain ⟨g, rfl⟩ : ∃ g', g = g' + 1 := ⟨g - 1, by omega⟩
        constructor
        · show b_M_wrong_97 rec fu (T_M_wrong_2 rec fu g) r (nI to) (nI nst) (nI a) (nI W) (nI p0) (nI w0) (nI (w0 + j)) = _
          unfold b_M_wrong_97
          rw [ge2, cond_false, b2, b3, b6, b7, t1, cond_false]
        · show v_M_wrong_97 rec wrec fu (T_M_wrong_2 rec fu g) (WT_M_wrong_2 rec wrec fu g) r (nI to) (nI nst) (nI a) (nI W) (nI p0) (nI w0) (nI (w0 + j))
          unfold v_M_wrong_97
          rw [ge2, b2, b3, b6, b7, t1]
          exact ⟨(fun z => nomatch z), fun _ => ⟨b4, (fun z => nomatch z), fun _ => trivial⟩⟩
/-- what is known of the parts' own check -/
def FI (c r : St) (rD : G_fw) (wD : GW_fw) (rec : G_wrong) (wrec : GW_wrong) (L n1 d1 : Nat) : Prop := ∀ from' to' : Nat, from' ≤ to' → to' ≤ L → ∃ x, rD.1 c (nI from') (nI to') (nI n1) = x ∧ wD.1 c (nI from') (nI to') (nI n1) ∧ rec r (nI from') (nI to') (nI n1) = x ∧ wrec r (nI from') (nI to') (nI n1) ∧ (x = -1 → ∃ k, PV (sA r 32) k d1 from' to')
/-- the parts one after the other -/
theorem pd_go (hT : TP c r L) (hI : FI c r rD wD rec wrec L (nst + 1) dd) (hw : w0 + P = W) (haL : a + W ≤ L) (hto : to ≤ L) (hP : P ≤ 3) (hps : ps (sA r 32) (a + w0) (a + W) P ≤ to) : ∀ (k j : Nat), j + k = P →
    (∃ x : Int32, ¬ x = -1 ∧ (∀ g, k + 1 ≤ g → t_Pt_wrongPart_34 rD fu g c (nI P) (nI nst) (nI (a + w0)) (nI (ps (sA r 32) (a + w0) (a + W) j)) (nI j) = x ∧ w_Pt_wrongPart_34 rD wD fu g c (nI P) (nI nst) (nI (a + w0)) (nI (ps (sA r 32) (a + w0) (a + W) j)) (nI j)) ∧ ∀ g, k + 1 ≤ g → (T_M_wrong_2 rec fu g).2.2.2.2.2.2.2.1 r (nI to) (nI nst) (nI a) (nI W) (nI (ps (sA r 32) (a + w0) (a + W) j)) (nI (w0 + j)) = x ∧ (WT_M_wrong_2 rec wrec fu g).2.2.2.2.2.2.2.1 r (nI to) (nI nst) (nI a) (nI W) (nI (ps (sA r 32) (a + w0) (a + W) j)) (nI (w0 + j))) ∨
    ((∀ g, k + 1 ≤ g → t_Pt_wrongPart_34 rD fu g c (nI P) (nI nst) (nI (a + w0)) (nI (ps (sA r 32) (a + w0) (a + W) j)) (nI j) = -1 ∧ w_Pt_wrongPart_34 rD wD fu g c (nI P) (nI nst) (nI (a + w0)) (nI (ps (sA r 32) (a + w0) (a + W) j)) (nI j)) ∧ (∀ i, j ≤ i → i < P → ∃ k, PV (sA r 32) k dd (ps (sA r 32) (a + w0) (a + W) i) (ps (sA r 32) (a + w0) (a + W) (i + 1))) ∧ ∀ C y, (∀ g, C ≤ g → (T_M_wrong_2 rec fu g).1 r (nI to) (nI nst) (nI (ps (sA r 32) (a + w0) (a + W) P)) = y ∧ (WT_M_wrong_2 rec wrec fu g).1 r (nI to) (nI nst) (nI (ps (sA r 32) (a + w0) (a + W) P))) → ∀ g, C + k + 2 ≤ g → (T_M_wrong_2 rec fu g).2.2.2.2.2.2.2.1 r (nI to) (nI nst) (nI a) (nI W) (nI (ps (sA r 32) (a + w0) (a + W) j)) (nI (w0 + j)) = y ∧ (WT_M_wrong_2 rec wrec fu g).2.2.2.2.2.2.2.1 r (nI to) (nI nst) (nI a) (nI W) (nI (ps (sA r 32) (a + w0) (a + W) j)) (nI (w0 + j))) := by
  have tL := hT.1
  intro k
  induction k with
  | zero =>
    intro j hj
    have ej : j = P := by omega
    subst ej
    have ge : cn2 .ge (nI j) (nI j) = true := by rw [kge (by omega) (by omega)]; exact dt (by omega)
    have ge2 : cn2 .ge (nI (w0 + j)) (nI W) = true := by rw [kge (by omega) (by omega)]; exact dt (by omega)
    refine Or.inr ⟨fun g hg => ?_, fun i z1 z2 => absurd z2 (by omega), fun C y hy g hg => ?_⟩
    · obtain ⟨g, rfl⟩ : ∃ g', g = g' + 1 := ⟨g - 1, by omega⟩
      unfold t_Pt_wrongPart_34 w_Pt_wrongPart_34
      rw [ge, cond_true]
      exact ⟨rfl, fun _ => trivial, (fun z => nomatch z)⟩
    · obtain ⟨g, rfl⟩ : ∃ g', g = g' + 2 := ⟨g - 2, by omega⟩
      obtain ⟨x1, x2⟩ := hy g (by omega)
      constructor
      · show b_M_wrong_124 rec fu (T_M_wrong_2 rec fu (g + 1)) r (nI to) (nI nst) (nI a) (nI W) (nI (ps (sA r 32) (a + w0) (a + W) j)) (nI (w0 + j)) = _
        unfold b_M_wrong_124
        rw [ge2, cond_true]
        show b_M_wrong_158 rec fu (T_M_wrong_2 rec fu g) r (nI to) (nI nst) (nI (ps (sA r 32) (a + w0) (a + W) j)) = _
        unfold b_M_wrong_158
        exact x1
      · show v_M_wrong_124 rec wrec fu (T_M_wrong_2 rec fu (g + 1)) (WT_M_wrong_2 rec wrec fu (g + 1)) r (nI to) (nI nst) (nI a) (nI W) (nI (ps (sA r 32) (a + w0) (a + W) j)) (nI (w0 + j))
        unfold v_M_wrong_124
        rw [ge2]
        refine ⟨fun _ => ?_, (fun z => nomatch z)⟩
        show v_M_wrong_158 rec wrec fu (T_M_wrong_2 rec fu g) (WT_M_wrong_2 rec wrec fu g) r (nI to) (nI nst) (nI (ps (sA r 32) (a + w0) (a + W) j))
        unfold v_M_wrong_158
        exact x2
  | succ k ih =>
    intro j hj
    obtain ⟨b1, b2, b3, b4, b5, b6, b7, b8⟩ := wp_b hT hw haL (j := j) (by omega)
    have ge : cn2 .ge (nI j) (nI P) = false := by rw [kge (by omega) (by omega)]; exact df (by omega)
    have ge2 : cn2 .ge (nI (w0 + j)) (nI W) = false := by rw [kge (by omega) (by omega)]; exact df (by omega)
    have sj : nI j + Int32.ofInt 1 = nI (j + 1) := nI_s j
    have sj2 : nI (w0 + j) + Int32.ofInt 1 = nI (w0 + (j + 1)) := nI_s (w0 + j)
    have sn : nI nst + 1 = nI (nst + 1) := nAd nst 1
    have l1 := ps_le (sA r 32) (a + w0) (a + W) (show j ≤ j + 1 by omega)
    have l2 := ps_le (sA r 32) (a + w0) (a + W) (show j + 1 ≤ P by omega)
    obtain ⟨x, x1, x2, x3, x4, x5⟩ := hI (ps (sA r 32) (a + w0) (a + W) j) (ps (sA r 32) (a + w0) (a + W) (j + 1)) l1 (by omega)
    have ih' := ih (j + 1) (by omega)
    obtain ⟨p0, hp0⟩ : ∃ p0, p0 = ps (sA r 32) (a + w0) (a + W) j := ⟨_, rfl⟩
    obtain ⟨p1, hp1⟩ : ∃ p1, p1 = ps (sA r 32) (a + w0) (a + W) (j + 1) := ⟨_, rfl⟩
    rw [← hp0, ← hp1] at b7 x1 x2 x3 x4 x5
    rw [← hp1] at ih'
    rw [← hp0]
    by_cases g1 : x = -1
    · have gC : ∀ g y, (t_Pt_wrongPart_34 rD fu g c (nI P) (nI nst) (nI (a + w0)) (nI p1) (nI (j + 1)) = y ∧ w_Pt_wrongPart_34 rD wD fu g c (nI P) (nI nst) (nI (a + w0)) (nI p1) (nI (j + 1))) → t_Pt_wrongPart_34 rD fu (g + 1) c (nI P) (nI nst) (nI (a + w0)) (nI p0) (nI j) = y ∧ w_Pt_wrongPart_34 rD wD fu (g + 1) c (nI P) (nI nst) (nI (a + w0)) (nI p0) (nI j) := fun g y hy => by
        unfold t_Pt_wrongPart_34 w_Pt_wrongPart_34
        rw [ge, cond_false, b1, b3, b5, b7, sn, x1, g1, show cn2 .eq (-1 : Int32) (-1) = true from rfl, cond_true, sj]
        exact ⟨hy.1, (fun z => nomatch z), fun _ => ⟨b4, x2, fun _ => hy.2, (fun z => nomatch z)⟩⟩
      have gM : ∀ g y, ((T_M_wrong_2 rec fu g).2.2.2.2.2.2.2.1 r (nI to) (nI nst) (nI a) (nI W) (nI p1) (nI (w0 + (j + 1))) = y ∧ (WT_M_wrong_2 rec wrec fu g).2.2.2.2.2.2.2.1 r (nI to) (nI nst) (nI a) (nI W) (nI p1) (nI (w0 + (j + 1)))) → (T_M_wrong_2 rec fu (g + 1)).2.2.2.2.2.2.2.1 r (nI to) (nI nst) (nI a) (nI W) (nI p0) (nI (w0 + j)) = y ∧ (WT_M_wrong_2 rec wrec fu (g + 1)).2.2.2.2.2.2.2.1 r (nI to) (nI nst) (nI a) (nI W) (nI p0) (nI (w0 + j)) := fun g y hy => by
        constructor
        · show b_M_wrong_124 rec fu (T_M_wrong_2 rec fu g) r (nI to) (nI nst) (nI a) (nI W) (nI p0) (nI (w0 + j)) = _
          unfold b_M_wrong_124
          rw [ge2, cond_false, b2, b3, b6, b7, sn, x3, g1, show cn2 .eq (-1 : Int32) (-1) = true from rfl, cond_true, sj2]
          exact hy.1
        · show v_M_wrong_124 rec wrec fu (T_M_wrong_2 rec fu g) (WT_M_wrong_2 rec wrec fu g) r (nI to) (nI nst) (nI a) (nI W) (nI p0) (nI (w0 + j))
          unfold v_M_wrong_124
          rw [ge2, b2, b3, b6, b7, sn, x3, g1, show cn2 .eq (-1 : Int32) (-1) = true from rfl, sj2]
          exact ⟨(fun z => nomatch z), fun _ => ⟨b4, x4, fun _ => ⟨b4, hy.2⟩, (fun z => nomatch z)⟩⟩
      rcases ih' with ⟨x, z1, z2, z3⟩ | ⟨z1, z2, z3⟩
      · refine Or.inl ⟨x, z1, fun g hg => ?_, fun g hg => ?_⟩
        · obtain ⟨g, rfl⟩ : ∃ g', g = g' + 1 := ⟨g - 1, by omega⟩
          exact gC g x (z2 g (by omega))
        · obtain ⟨g, rfl⟩ : ∃ g', g = g' + 1 := ⟨g - 1, by omega⟩
          exact gM g x (z3 g (by omega))
      · refine Or.inr ⟨fun g hg => ?_, fun i y1 y2 => ?_, fun C y hy g hg => ?_⟩
        · obtain ⟨g, rfl⟩ : ∃ g', g = g' + 1 := ⟨g - 1, by omega⟩
          exact gC g _ (z1 g (by omega))
        · by_cases e : i = j
          · rw [e, ← hp0, ← hp1]
            exact x5 g1
          · exact z2 i (by omega) y2
        · obtain ⟨g, rfl⟩ : ∃ g', g = g' + 1 := ⟨g - 1, by omega⟩
          exact gM g y (z3 C y hy g (by omega))
    · have t1 : cn2 .eq x (-1) = false := by rw [c2_eq]; exact df (fun z => g1 (Int32.toInt_inj.mp z))
      refine Or.inl ⟨x, g1, fun g hg => ?_, fun g hg => ?_⟩
      · obtain ⟨g, rfl⟩ : ∃ g', g = g' + 1 := ⟨g - 1, by omega⟩
        unfold t_Pt_wrongPart_34 w_Pt_wrongPart_34
        rw [ge, cond_false, b1, b3, b5, b7, sn, x1, t1, cond_false]
        exact ⟨rfl, (fun z => nomatch z), fun _ => ⟨b4, x2, (fun z => nomatch z), fun _ => trivial⟩⟩
      · obtain ⟨g, rfl⟩ : ∃ g', g = g' + 1 := ⟨g - 1, by omega⟩
        constructor
        · show b_M_wrong_124 rec fu (T_M_wrong_2 rec fu g) r (nI to) (nI nst) (nI a) (nI W) (nI p0) (nI (w0 + j)) = _
          unfold b_M_wrong_124
          rw [ge2, cond_false, b2, b3, b6, b7, sn, x3, t1, cond_false]
        · show v_M_wrong_124 rec wrec fu (T_M_wrong_2 rec fu g) (WT_M_wrong_2 rec wrec fu g) r (nI to) (nI nst) (nI a) (nI W) (nI p0) (nI (w0 + j))
          unfold v_M_wrong_124
          rw [ge2, b2, b3, b6, b7, sn, x3, t1]
          exact ⟨(fun z => nomatch z), fun _ => ⟨b4, x4, (fun z => nomatch z), fun _ => trivial⟩⟩
/-- the class goes over the parts -/
theorem pc_go {rC : G_fw} {wC : GW_fw} {o : Nat} (hT : TP c r L) (hw : w0 + P = W) (haL : a + W ≤ L) (hP : P ≤ 3) : ∀ (k j : Nat), j + k = P → ∀ C y, (∀ g, C ≤ g → (T_Pt_firstWrong_4 rC fu g).1 c (nI to) (nI nst) (nI (ps (sA r 32) (a + w0) (a + W) P)) (nI (o + 1)) = y ∧ (WT_Pt_firstWrong_4 rC wC fu g).1 c (nI to) (nI nst) (nI (ps (sA r 32) (a + w0) (a + W) P)) (nI (o + 1))) → ∀ g, C + k + 1 ≤ g → (T_Pt_firstWrong_4 rC fu g).2.2.2 c (nI to) (nI nst) (nI (ps (sA r 32) (a + w0) (a + W) j)) (nI o) (nI P) (nI (a + W)) (nI j) = y ∧ (WT_Pt_firstWrong_4 rC wC fu g).2.2.2 c (nI to) (nI nst) (nI (ps (sA r 32) (a + w0) (a + W) j)) (nI o) (nI P) (nI (a + W)) (nI j) := by
  have tL := hT.1
  have e0 : nI (a + W) - nI P = nI (a + w0) := by rw [← hw, ← Nat.add_assoc, nSb]
  intro k
  induction k with
  | zero =>
    intro j hj C y hy g hg
    have ej : j = P := by omega
    subst ej
    have ge : cn2 .ge (nI j) (nI j) = true := by rw [kge (by omega) (by omega)]; exact dt (by omega)
    obtain ⟨g, rfl⟩ : ∃ g', g = g' + 1 := ⟨g - 1, by omega⟩
    obtain ⟨x1, x2⟩ := hy g (by omega)
    have so : nI o + Int32.ofInt 1 = nI (o + 1) := nI_s o
    constructor
    · show b_Pt_firstWrong_68 rC fu (T_Pt_firstWrong_4 rC fu g) c (nI to) (nI nst) (nI (ps (sA r 32) (a + w0) (a + W) j)) (nI o) (nI j) (nI (a + W)) (nI j) = _
      unfold b_Pt_firstWrong_68
      rw [ge, cond_true, so]
      exact x1
    · show v_Pt_firstWrong_68 rC wC fu (T_Pt_firstWrong_4 rC fu g) (WT_Pt_firstWrong_4 rC wC fu g) c (nI to) (nI nst) (nI (ps (sA r 32) (a + w0) (a + W) j)) (nI o) (nI j) (nI (a + W)) (nI j)
      unfold v_Pt_firstWrong_68
      rw [ge, so]
      exact ⟨fun _ => x2, (fun z => nomatch z)⟩
  | succ k ih =>
    intro j hj C y hy g hg
    obtain ⟨b1, b2, b3, b4, b5, b6, b7, b8⟩ := wp_b hT hw haL (j := j) (by omega)
    have ge : cn2 .ge (nI j) (nI P) = false := by rw [kge (by omega) (by omega)]; exact df (by omega)
    have sj : nI j + Int32.ofInt 1 = nI (j + 1) := nI_s j
    obtain ⟨g, rfl⟩ : ∃ g', g = g' + 1 := ⟨g - 1, by omega⟩
    obtain ⟨x1, x2⟩ := ih (j + 1) (by omega) C y hy g (by omega)
    constructor
    · show b_Pt_firstWrong_68 rC fu (T_Pt_firstWrong_4 rC fu g) c (nI to) (nI nst) (nI (ps (sA r 32) (a + w0) (a + W) j)) (nI o) (nI P) (nI (a + W)) (nI j) = _
      unfold b_Pt_firstWrong_68
      rw [ge, cond_false, e0, b1, b3, b5, b7, sj]
      exact x1
    · show v_Pt_firstWrong_68 rC wC fu (T_Pt_firstWrong_4 rC fu g) (WT_Pt_firstWrong_4 rC wC fu g) c (nI to) (nI nst) (nI (ps (sA r 32) (a + w0) (a + W) j)) (nI o) (nI P) (nI (a + W)) (nI j)
      unfold v_Pt_firstWrong_68
      rw [ge, e0, b1, b3, b5, b7, sj]
      exact ⟨(fun z => nomatch z), fun _ => ⟨b4, x2⟩⟩
end WPG
