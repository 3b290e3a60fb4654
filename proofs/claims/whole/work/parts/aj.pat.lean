/-! PATCH -/
theorem PV.eq {A : Nat → Int32} {k dd x y x' y' : Nat} (h : PV A k dd x y) (hx : x = x') (hy : y = y') : PV A k dd x' y' := hx ▸ hy ▸ h
theorem PV.cg {A B : Nat → Int32} {s : Nat} : ∀ {k dd a b : Nat}, PV A k dd a b → (∀ i, a ≤ i → i < b → B (i + s) = A i) → b + s ≤ 3200 → PV B k dd (a + s) (b + s)
  | 0, _, a, b, h, _, _ => by
    show a + s = b + s
    rw [show a = b from h]
  | k + 1, dd, a, b, h, hB, hb => by
    rcases h with h | ⟨hO, hW, h⟩
    · exact Or.inl (by rw [h])
    · have key : (a : Int) + (f_M_wholeOf (A a)).toInt ≤ b := by
        rcases h with ⟨x1, -, -, -, h⟩ | ⟨x1, -, -, h⟩ | ⟨x1, -, -, -, -, h⟩ | ⟨-, h⟩
        · have l := PV.le h
          have w : (f_M_wholeOf (A a)).toInt = 4 := by rw [show A a = 30 from Int32.toInt_inj.mp x1]; decide +kernel
          omega
        · have l := PV.le h
          have w : (f_M_wholeOf (A a)).toInt = 3 := by rw [show A a = 31 from Int32.toInt_inj.mp x1]; decide +kernel
          omega
        · have l := PV.le h
          have w : (f_M_wholeOf (A a)).toInt = 7 := by rw [show A a = 32 from Int32.toInt_inj.mp x1]; decide +kernel
          omega
        · have l := PV.le h
          omega
      have ea : B (a + s) = A a := hB a (by omega) (by omega)
      have el : ∀ i, 1 ≤ i → ((a + i : Nat) : Int) < b → lnA B (a + s + i) = lnA A (a + i) := fun i i1 i2 => by
        unfold lnA
        rw [show a + s + i = (a + i) + s by omega, hB (a + i) (by omega) (by omega)]
      have hO' : OVA B (a + s) := by
        refine ⟨by rw [ea]; omega, fun j hj => ?_⟩
        rw [ea] at hj ⊢
        rw [show a + s + 1 + j = (a + 1 + j) + s by omega, hB (a + 1 + j) (by omega) (by omega), show a + s + 1 = (a + 1) + s by omega, hB (a + 1) (by omega) (by omega)]
        exact hO.2 j hj
      refine Or.inr ⟨hO', by rw [ea]; exact hW, ?_⟩
      rw [ea]
      rcases h with ⟨x1, x2, x3, x4, x5⟩ | ⟨x1, x2, x3, x4⟩ | ⟨x1, x2, x3, x4, x5, x6⟩ | ⟨x1, x2⟩
      · have w : (f_M_wholeOf (A a)).toInt = 4 := by rw [show A a = 30 from Int32.toInt_inj.mp x1]; decide +kernel
        have l3 := PV.le x3
        have l4 := PV.le x4
        have l5 := PV.le x5
        rw [el 2 (by omega) (by omega), el 3 (by omega) (by omega)]
        exact Or.inl ⟨x1, x2, (PV.cg x3 (fun i i1 i2 => hB i (by omega) (by omega)) (by omega)).eq (by omega) (by omega), (PV.cg x4 (fun i i1 i2 => hB i (by omega) (by omega)) (by omega)).eq (by omega) (by omega), (PV.cg x5 (fun i i1 i2 => hB i (by omega) (by omega)) hb).eq (by omega) rfl⟩
      · have w : (f_M_wholeOf (A a)).toInt = 3 := by rw [show A a = 31 from Int32.toInt_inj.mp x1]; decide +kernel
        have l3 := PV.le x3
        have l4 := PV.le x4
        rw [el 2 (by omega) (by omega)]
        exact Or.inr (Or.inl ⟨x1, x2, (PV.cg x3 (fun i i1 i2 => hB i (by omega) (by omega)) (by omega)).eq (by omega) (by omega), (PV.cg x4 (fun i i1 i2 => hB i (by omega) (by omega)) hb).eq (by omega) rfl⟩)
      · have w : (f_M_wholeOf (A a)).toInt = 7 := by rw [show A a = 32 from Int32.toInt_inj.mp x1]; decide +kernel
        have l3 := PV.le x3
        have l4 := PV.le x4
        have l5 := PV.le x5
        have l6 := PV.le x6
        rw [el 4 (by omega) (by omega), el 5 (by omega) (by omega), el 6 (by omega) (by omega)]
        exact Or.inr (Or.inr (Or.inl ⟨x1, x2, (PV.cg x3 (fun i i1 i2 => hB i (by omega) (by omega)) (by omega)).eq (by omega) (by omega), (PV.cg x4 (fun i i1 i2 => hB i (by omega) (by omega)) (by omega)).eq (by omega) (by omega), (PV.cg x5 (fun i i1 i2 => hB i (by omega) (by omega)) (by omega)).eq (by omega) (by omega), (PV.cg x6 (fun i i1 i2 => hB i (by omega) (by omega)) hb).eq (by omega) rfl⟩))
      · have l2 := PV.le x2
        exact Or.inr (Or.inr (Or.inr ⟨x1, (PV.cg x2 (fun i i1 i2 => hB i (by omega) (by omega)) hb).eq (by omega) rfl⟩))
/-- all that the run's relation reads is kept -/
theorem RR.mv3 {G : AH} {T : Nat} {φ : Nat → Nat} {n u : Nat} {c c' r r' : St} (h : RR G T φ n u c r) (c1 : ∀ k, k < 3 → sI c' 1 k = sI c 1 k) (cA : sA c' 9 = sA c 9) (cB : sB c' 10 = sB c 10) (cT : sT c' 11 = sT c 11) (cD : sD c' = sD c) (cN : sN c' = sN c) (cU : sU c' = sU c) (rI : ∀ k, k = 6 ∨ k = 7 ∨ k = 8 ∨ k = 11 ∨ k = 15 → sI r' 21 k = sI r 21 k) (rA : ∀ a, 22 ≤ a → a ≤ 28 → sA r' a = sA r a) (rB : ∀ a, 22 ≤ a → a ≤ 29 → sB r' a = sB r a) : RR G T φ n u c' r' := by
  obtain ⟨a1, a2, a3, a4, a5, a6, a7⟩ := h
  refine ⟨?_, ?_, ?_, ?_, ?_, ?_, ?_⟩
  · unfold R_num
    rw [cA, cB, rA 28 (by decide) (by decide), rB 29 (by decide) (by decide)]
    exact a1
  · unfold R_led
    rw [c1 0 (by decide), c1 1 (by decide), rI 8 (by decide), rI 15 (by decide)]
    exact a2
  · unfold R_fu
    rw [c1 2 (by decide), rI 11 (by decide)]
    exact a3
  · unfold R_tg
    rw [cD, cN, rA 22 (by decide) (by decide), rA 23 (by decide) (by decide), rA 24 (by decide) (by decide), rA 25 (by decide) (by decide), rB 26 (by decide) (by decide), rI 6 (by decide), rI 7 (by decide), rI 8 (by decide)]
    exact a4
  · unfold R_sv
    rw [cT, rA 27 (by decide) (by decide)]
    exact a5
  · unfold R_rm
    rw [cN, cU]
    exact a6
  · unfold R_gv
    rw [cD]
    exact a7
section PAT
variable {G : AH} {T : Nat} {fu p L : Nat} {c r : St}
/-- the reference's copy -/
theorem pm_go (hp : p ≤ 15) (hL : L ≤ 200) : ∀ (k j : Nat) (s : St), j + k = L → ∃ s', (∀ g, k + 1 ≤ g → t_M_patch_36 fu g s (nI p) (nI L) (nI j) = (0, s') ∧ w_M_patch_36 fu g s (nI p) (nI L) (nI j)) ∧ (∀ i, sA s' 30 i = if 200 * p + j ≤ i ∧ i < 200 * p + L then sA s 32 (i - 200 * p) else sA s 30 i) ∧ sA s' 31 = upd (sA s 31) p (nI L) ∧ (∀ a, a ≠ 30 → a ≠ 31 → sA s' a = sA s a) ∧ (∀ a k, sI s' a k = sI s a k) ∧ (∀ a k, sG s' a k = sG s a k) ∧ (∀ a, sB s' a = sB s a) ∧ (∀ a, sT s' a = sT s a) ∧ sD s' = sD s ∧ sN s' = sN s ∧ sU s' = sU s := by
  intro k
  induction k with
  | zero =>
    intro j s hj
    have ge : cn2 .ge (nI j) (nI L) = true := by rw [kge (by omega) (by omega)]; exact dt (by omega)
    have np : (nI p).toNatClampNeg = p := nN (by omega)
    refine ⟨pA s 31 (upd (sA s 31) p (nI L)), fun g hg => ?_, fun i => ?_, rfl, fun a _ h => if_neg h, fun _ _ => rfl, fun _ _ => rfl, fun _ => rfl, fun _ => rfl, rfl, rfl, rfl⟩
    · obtain ⟨g, rfl⟩ : ∃ g', g = g' + 1 := ⟨g - 1, by omega⟩
      unfold t_M_patch_36 w_M_patch_36
      rw [ge, cond_true, np]
      exact ⟨rfl, fun _ => ⟨vp_n (by omega) (by omega), trivial⟩, (fun z => nomatch z)⟩
    · rw [if_neg (by omega)]; rfl
  | succ k ih =>
    intro j s hj
    have ge : cn2 .ge (nI j) (nI L) = false := by rw [kge (by omega) (by omega)]; exact df (by omega)
    have nj : (nI j).toNatClampNeg = j := nN (by omega)
    have e2 : 200 * nI p + nI j = nI (200 * p + j) := by rw [show (200 : Int32) = nI 200 from rfl, show nI 200 * nI p = nI (200 * p) from (Int32.ofNat_mul 200 p).symm, nAd]
    have n2 : (nI (200 * p + j)).toNatClampNeg = 200 * p + j := nN (by omega)
    have sj : nI j + Int32.ofInt 1 = nI (j + 1) := nI_s j
    obtain ⟨s', x1, x2, x3, x4, x5, x6, x7, x8, x9, x10, x11⟩ := ih (j + 1) (pA s 30 (upd (sA s 30) (200 * p + j) (sA s 32 j))) (by omega)
    refine ⟨s', fun g hg => ?_, fun i => ?_, x3, fun a h1 h2 => (x4 a h1 h2).trans (if_neg h1), x5, x6, x7, x8, x9, x10, x11⟩
    · obtain ⟨g, rfl⟩ : ∃ g', g = g' + 1 := ⟨g - 1, by omega⟩
      obtain ⟨y1, y2⟩ := x1 g (by omega)
      unfold t_M_patch_36 w_M_patch_36
      rw [ge, cond_false, nj, e2, n2, sj]
      exact ⟨y1, (fun z => nomatch z), fun _ => ⟨vp_n (by omega) (by omega), vp_n (by omega) (by omega), y2⟩⟩
    · rw [x2 i, sA_pA, sA_pA, if_neg (show ¬ (32 : Nat) = 30 by decide), if_pos rfl]
      by_cases e : i = 200 * p + j
      · rw [if_neg (by omega), if_pos (by omega), e, upS, Nat.add_sub_cancel_left]
      · rw [upN _ _ e]
        by_cases e' : 200 * p + (j + 1) ≤ i ∧ i < 200 * p + L
        · rw [if_pos e', if_pos (by omega)]
        · rw [if_neg e', if_neg (by omega)]
theorem RL.t0 (h : RL G T c r) : RL G T (pI c 2 2 0) (pI (pI r 21 0 0) 21 23 0) := by
  obtain ⟨φ, n, u, h1, h2, h3, h4, h5⟩ := h
  exact ⟨φ, n, u, ((h1.cI (a := 2) 0 (Or.inl (by decide))).rI2 (k := 0) 0 (by decide)).rI2 (k := 23) 0 (by decide), h2, ⟨rfl, show (0 : Int) ≤ (0 : Int32).toInt by decide, show (0 : Int32).toInt ≤ (2000 : Int) by decide, fun k hk => absurd hk (by rw [show sI (pI (pI r 21 0 0) 21 23 0) 21 23 = 0 from rfl, z0]; omega)⟩, h4, h5⟩
theorem p_patch (hG : isG G) (hfu : 1000000 ≤ fu) (h : RL G T c r) (a : Int32) : PC G T c r (f_H_patch fu c a) (f_M_patch fu r a) (w_H_patch fu c a) (w_M_patch fu r a) := by
  by_cases g1 : a.toInt < 0
  · have e1 : cn1 .lt a = true := by rw [c1_lt]; exact dt g1
    refine PC.no h (a := -1) (v := 0) ?_ ?_ ?_ ?_
    · unfold f_H_patch; rw [e1, cond_true]
    · unfold f_M_patch; rw [e1, cond_true]
    · unfold w_H_patch; rw [e1]; exact ⟨fun _ => trivial, (fun z => nomatch z)⟩
    · unfold w_M_patch; rw [e1]; exact ⟨fun _ => trivial, (fun z => nomatch z)⟩
  have e1 : cn1 .lt a = false := by rw [c1_lt]; exact df g1
  by_cases g2 : ¬ a.toInt < 16
  · have e2 : cn2 .lt a 16 = false := by rw [c2_lt]; exact df g2
    refine PC.no h (a := -1) (v := 0) ?_ ?_ ?_ ?_
    · unfold f_H_patch; rw [e1, cond_false, e2, cond_false]
    · unfold f_M_patch; rw [e1, cond_false, e2, cond_false]
    · unfold w_H_patch; rw [e1, e2]; exact ⟨(fun z => nomatch z), fun _ => ⟨(fun z => nomatch z), fun _ => trivial⟩⟩
    · unfold w_M_patch; rw [e1, e2]; exact ⟨(fun z => nomatch z), fun _ => ⟨(fun z => nomatch z), fun _ => trivial⟩⟩
  have g2 : a.toInt < 16 := Decidable.not_not.mp g2
  have e2 : cn2 .lt a 16 = true := by rw [c2_lt]; exact dt g2
  obtain ⟨p, hp⟩ : ∃ p : Nat, a.toInt = (p : Int) := ⟨a.toInt.toNat, by omega⟩
  have hp15 : p ≤ 15 := by omega
  obtain rfl : a = nI p := yI_of hp (by omega)
  have h0 := h.t0
  obtain ⟨φ, n, u, h1, h2, h3, h4, h5⟩ := h
  obtain ⟨t1, t2, t3, t4⟩ := h3
  obtain ⟨L, hL, hL2⟩ : ∃ L : Nat, sI r 21 23 = nI L ∧ L ≤ 2000 := ⟨(sI r 21 23).toInt.toNat, yI_of (by omega) (by omega), by omega⟩
  have iL : (nI L).toInt = (L : Int) := yI_i (by omega)
  rw [hL] at t1 t4
  rw [iL] at t4
  obtain ⟨c0, hc0⟩ : ∃ c0, c0 = pI c 2 2 0 := ⟨_, rfl⟩
  obtain ⟨r0, hr0⟩ : ∃ r0, r0 = pI (pI r 21 0 0) 21 23 0 := ⟨_, rfl⟩
  rw [← hc0, ← hr0] at h0
  have m0 : mE c c0 := by rw [hc0]; exact mE_pI c 2 0 (by decide)
  have n0 : cE r r0 := by rw [hr0]; exact (cE_pI r 0 0 (by decide)).tr (cE_pI _ 23 0 (by decide))
  have eH : f_H_patch fu c (nI p) = f_Pt_take fu c0 (nI p) (nI L) := by
    unfold f_H_patch
    rw [e1, cond_false, e2, cond_true, t1, ← hc0]
  have wH : w_Pt_take fu c0 (nI p) (nI L) → w_H_patch fu c (nI p) := fun w => by
    unfold w_H_patch
    rw [e1, e2, t1, ← hc0]
    exact ⟨(fun z => nomatch z), fun _ => ⟨fun _ => ⟨w, trivial⟩, (fun z => nomatch z)⟩⟩
  have k200 : cn2 .le (nI L) 200 = decide (L ≤ 200) := by rw [show (200 : Int32) = nI 200 from rfl, kle (by omega) (by omega)]
  by_cases gL : ¬ L ≤ 200
  · have eM : f_M_patch fu r (nI p) = (201, r0) := by
      unfold f_M_patch
      rw [e1, cond_false, e2, cond_true, hL, k200, df gL, cond_false, ← hr0]
    have wM : w_M_patch fu r (nI p) := by
      unfold w_M_patch
      rw [e1, e2, hL, k200, df gL]
      exact ⟨(fun z => nomatch z), fun _ => ⟨fun _ => ⟨(fun z => nomatch z), fun _ => trivial⟩, (fun z => nomatch z)⟩⟩
    have eT : f_Pt_take fu c0 (nI p) (nI L) = (201, c0) := by
      unfold f_Pt_take
      rw [k200, df gL, cond_false]
    have wT : w_Pt_take fu c0 (nI p) (nI L) := by
      unfold w_Pt_take
      rw [k200, df gL]
      exact ⟨(fun z => nomatch z), fun _ => trivial⟩
    unfold PC
    rw [eH, eM, eT]
    exact ⟨wH wT, wM, rfl, h0, m0, n0⟩
  have gL : L ≤ 200 := Decidable.not_not.mp gL
  have hT : TP c0 r0 L := ⟨gL, fun k hk => by rw [hc0, hr0]; exact t4 k (by omega)⟩
  have hGc : isG (sD c0) := by
    rw [hc0]
    exact (h1.2.2.2.2.2.2 am_ga (by decide)).trans hG
  obtain ⟨x, x1, x2, x3, x4, x5⟩ := fw_all (fu := fu) hT hGc (by omega) 10 (by omega) 0 L (by omega) (by omega)
  replace x1 : (F_fw fu 24).1 c0 0 (nI L) 0 = x := x1
  replace x2 : (W_fw fu 24).1 c0 0 (nI L) 0 := x2
  replace x3 : (F_wrong fu 12) r0 0 (nI L) 0 = x := x3
  replace x4 : (W_wrong fu 12) r0 0 (nI L) 0 := x4
  by_cases gx : ¬ x = -1
  · have t : cn2 .eq x (-1) = false := by rw [c2_eq]; exact df (fun z => gx (Int32.toInt_inj.mp z))
    have eM : f_M_patch fu r (nI p) = (1 + x, r0) := by
      unfold f_M_patch
      rw [e1, cond_false, e2, cond_true, hL, k200, dt gL, cond_true, ← hr0, x3, t, cond_false]
    have wM : w_M_patch fu r (nI p) := by
      unfold w_M_patch
      rw [e1, e2, hL, k200, dt gL, ← hr0, x3, t]
      exact ⟨(fun z => nomatch z), fun _ => ⟨fun _ => ⟨fun _ => ⟨x4, (fun z => nomatch z), fun _ => trivial⟩, (fun z => nomatch z)⟩, (fun z => nomatch z)⟩⟩
    have eT : f_Pt_take fu c0 (nI p) (nI L) = (1 + x, c0) := by
      unfold f_Pt_take
      rw [k200, dt gL, cond_true, x1, t, cond_false]
    have wT : w_Pt_take fu c0 (nI p) (nI L) := by
      unfold w_Pt_take
      rw [k200, dt gL, x1, t]
      exact ⟨fun _ => ⟨x2, (fun z => nomatch z), fun _ => trivial⟩, (fun z => nomatch z)⟩
    unfold PC
    rw [eH, eM, eT]
    exact ⟨wH wT, wM, rfl, h0, m0, n0⟩
  have gx : x = -1 := Decidable.not_not.mp gx
  obtain ⟨kk, pv⟩ := x5 gx
  have t : cn2 .eq x (-1) = true := by rw [gx]; rfl
  obtain ⟨r1, y1, y2, y3, y4, y5, y6, y7, y8, y9, y10, y11⟩ := pm_go (fu := fu) hp15 gL L 0 r0 (by omega)
  obtain ⟨ya, yb⟩ := y1 fu (by omega)
  replace ya : t_M_patch_36 fu fu r0 (nI p) (nI L) 0 = (0, r1) := ya
  replace yb : w_M_patch_36 fu fu r0 (nI p) (nI L) 0 := yb
  have np : (nI p).toNatClampNeg = p := nN (by omega)
  have nL : (nI L).toNatClampNeg = L := nN (by omega)
  have e2p : nI p * 200 = nI (200 * p) := by rw [show (200 : Int32) = nI 200 from rfl, show nI p * nI 200 = nI (p * 200) from (Int32.ofNat_mul p 200).symm, Nat.mul_comm]
  have n2p : (nI (200 * p)).toNatClampNeg = 200 * p := nN (by omega)
  obtain ⟨c1, hc1⟩ : ∃ c1, c1 = pA (pA c0 6 (va_cpy (sA c0 3) (sA c0 6) 0 (200 * p) L)) 7 (upd (sA c0 7) p (nI L)) := ⟨_, rfl⟩
  have eM : f_M_patch fu r (nI p) = (0, r1) := by
    unfold f_M_patch
    rw [e1, cond_false, e2, cond_true, hL, k200, dt gL, cond_true, ← hr0, x3, t, cond_true]
    exact ya
  have wM : w_M_patch fu r (nI p) := by
    unfold w_M_patch
    rw [e1, e2, hL, k200, dt gL, ← hr0, x3, t]
    exact ⟨(fun z => nomatch z), fun _ => ⟨fun _ => ⟨fun _ => ⟨x4, fun _ => yb, (fun z => nomatch z)⟩, (fun z => nomatch z)⟩, (fun z => nomatch z)⟩⟩
  have eT : f_Pt_take fu c0 (nI p) (nI L) = (0, c1) := by
    unfold f_Pt_take
    rw [k200, dt gL, cond_true, x1, t, cond_true, e2p, n2p, nL, np, show (0 : Int32).toNatClampNeg = 0 from rfl, hc1]
  have wT : w_Pt_take fu c0 (nI p) (nI L) := by
    unfold w_Pt_take
    rw [k200, dt gL, x1, t, e2p]
    refine ⟨fun _ => ⟨x2, fun _ => ⟨⟨by decide, ?_, ?_, ?_, ?_⟩, vp_n (by omega) (by omega), trivial⟩, (fun z => nomatch z)⟩, (fun z => nomatch z)⟩
    · rw [Int32.lt_iff_toInt_lt, yI_i (by omega), z0]; omega
    · rw [Int32.lt_iff_toInt_lt, iL, z0]; omega
    · rw [nL, show (0 : Int32).toNatClampNeg = 0 from rfl]; omega
    · rw [nL, n2p]; omega
  obtain ⟨φ0, n0', u0, k1, k2, k3, k4, k5⟩ := h0
  have A6 : sA c1 6 = va_cpy (sA c0 3) (sA c0 6) 0 (200 * p) L := by rw [hc1]; rfl
  have A7 : sA c1 7 = upd (sA c0 7) p (nI L) := by rw [hc1]; rfl
  have V : CDV c1 r1 := by
    refine ⟨fun k => ?_, fun q hq => ?_⟩
    · rw [y2 k, A6]
      unfold va_cpy
      by_cases e : 200 * p ≤ k ∧ k < 200 * p + L
      · rw [if_pos (show 200 * p + 0 ≤ k ∧ k < 200 * p + L from e), if_pos e, Nat.zero_add]
        exact hT.2 _ (by omega)
      · rw [if_neg (show ¬ (200 * p + 0 ≤ k ∧ k < 200 * p + L) from e), if_neg e]
        exact k2.1 k
    · rw [A7, y3]
      by_cases e : q = p
      · rw [e, upS, upS, iL]
        refine ⟨rfl, by omega, by omega, kk, ?_⟩
        refine (PV.cg (s := 200 * p) (B := sA r1 30) pv (fun i i1 i2 => ?_) (by omega)).eq (by omega) (by omega)
        rw [y2, if_pos (by omega), Nat.add_sub_cancel]
      · rw [upN _ _ e, upN _ _ e]
        obtain ⟨v1, v2, v3, v4, v5⟩ := k2.2 q hq
        refine ⟨v1, v2, v3, v4, (PV.cg (s := 0) (B := sA r1 30) v5 (fun i i1 i2 => ?_) (by omega)).eq (by omega) (by omega)⟩
        rw [Nat.add_zero, y2, if_neg (by omega)]
  have m1 : mE c c1 := m0.tr (by rw [hc1]; exact (mE_pA _ _ (by decide)).tr (mE_pA _ _ (by decide)))
  have n1 : cE r r1 := n0.tr ⟨fun b hb => ⟨fun k => y5 b k, fun k => y6 b k, y4 b (by omega) (by omega), y7 b, y8 b⟩, y9, y10, y11⟩
  unfold PC
  rw [eH, eM, eT]
  refine ⟨wH wT, wM, rfl, ⟨φ0, n0', u0, ?_, V, ?_, ?_, ?_⟩, m1, n1⟩
  · exact k1.mv3 (fun k _ => by rw [hc1]; rfl) (by rw [hc1]; rfl) (by rw [hc1]; rfl) (by rw [hc1]; rfl) (by rw [hc1]; rfl) (by rw [hc1]; rfl) (by rw [hc1]; rfl) (fun k _ => y5 21 k) (fun a a1 a2 => y4 a (by omega) (by omega)) (fun a _ _ => y7 a)
  · unfold R_tape
    rw [y5 21 23, y4 32 (by decide) (by decide), show sI c1 2 2 = sI c0 2 2 from by rw [hc1]; rfl, show sA c1 3 = sA c0 3 from by rw [hc1]; rfl]
    exact k3
  · unfold R_out
    rw [y5 21 24, y4 33 (by decide) (by decide), show sI c1 2 3 = sI c0 2 3 from by rw [hc1]; rfl, show sA c1 4 = sA c0 4 from by rw [hc1]; rfl]
    exact k4
  · unfold R_last
    rw [y5, y5, y5, show ∀ k, sI c1 0 k = sI c0 0 k from fun k => by rw [hc1]; rfl, show ∀ k, sI c1 0 k = sI c0 0 k from fun k => by rw [hc1]; rfl, show ∀ k, sI c1 0 k = sI c0 0 k from fun k => by rw [hc1]; rfl]
    exact k5
end PAT
