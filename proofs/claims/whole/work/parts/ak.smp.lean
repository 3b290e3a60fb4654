/-! THE SIMPLE CALLS -/
theorem RT.mono {φ : Nat → Nat} {n u N N' : Nat} {D : AH} {K S M Q : Nat → Int32} {C : Nat → Int64} (h : RT φ n u D N K S M Q C) (hN : N ≤ N') : RT φ n u D N' K S M Q C := by
  obtain ⟨h1, h2, h3, h4, h5⟩ := h
  refine ⟨h1, h2, h3, fun t t1 t2 => ?_, h5⟩
  obtain ⟨x1, x2, x3, x4, x5⟩ := h4 t t1 t2
  exact ⟨x1, x2, x3, x4, by omega⟩
section SMP
variable {G : AH} {T : Nat} {fu : Nat} {c r s r' : St}
/-- a value told -/
theorem RL.ok (h : RL G T s s) (v : Int64) (hm : mF (pB s 36 (vp_updL (sB s 36) (Int32.toNatClampNeg 0) v)) r') (hc : cE (pB s 36 (vp_updL (sB s 36) (Int32.toNatClampNeg 0) v)) r') : RL G T r' r' ∧ sB r' 36 (Int32.toNatClampNeg 0) = v := by
  have m1 : mF s (pB s 36 (vp_updL (sB s 36) (Int32.toNatClampNeg 0) v)) := ⟨fun _ _ => rfl, fun a _ h2 => ⟨rfl, if_neg (by omega)⟩⟩
  have c1 : cF s (pB s 36 (vp_updL (sB s 36) (Int32.toNatClampNeg 0) v)) := ⟨fun _ _ => rfl, fun _ _ => rfl, fun _ => rfl, fun _ _ => rfl, fun a _ => if_neg (by omega), rfl, rfl, rfl, rfl⟩
  refine ⟨h.mv (c1.tr hc.cF) (m1.tr hm), ?_⟩
  rw [(hc.1 36 (Or.inr rfl)).2.2.2.1]
  show vp_updL (sB s 36) (Int32.toNatClampNeg 0) v (Int32.toNatClampNeg 0) = v
  exact if_pos rfl
/-- nothing told: something was thrown -/
theorem RL.th (h : RL G T s s) (hT : T + 1 ≤ 512) {n u : Nat} (n1 : sN s ≤ n) (n2 : n ≤ sN s + 1) (u1 : sU s ≤ u) (u2 : u ≤ sU s + 6) : RL G (T + 1) (pQ s (sD s) n u) s := by
  obtain ⟨φ, m, w, ⟨a1, a2, a3, a4, a5, a6, a7⟩, h2, h3, h4, h5⟩ := h
  obtain ⟨b1, b2, b3, b4⟩ := a6
  refine ⟨φ, m, w, ⟨a1, a2, a3, ⟨a4.1.mono n1, a4.2⟩, a5, ⟨hT, ?_, ?_, ?_⟩, a7⟩, h2, h3, h4, h5⟩
  · show 37 ≤ n; omega
  · show n ≤ _; omega
  · show u ≤ _; omega
theorem RL.thr' (h : RL G T s s) (hT : T + 1 ≤ 512) {n u : Nat} (n1 : sN s ≤ n) (n2 : n ≤ sN s + 1) (u1 : sU s ≤ u) (u2 : u ≤ sU s + 6) (hm : mF (pQ s (sD s) n u) r') (hc : cE (pQ s (sD s) n u) r') : RL G (T + 1) r' r' := by
  have m1 : mF s (pQ s (sD s) n u) := ⟨fun _ _ => rfl, fun _ _ _ => ⟨rfl, rfl⟩⟩
  exact (h.th hT n1 n2 u1 u2).mv hc.cF (m1.tr hm)
theorem RL.gS {N : Nat} {xs : Nat → Int32} (h : RL G T c r) (hG : G am_sc = some (.inr (.inl (2, N, xs)))) : isS N xs c := by
  obtain ⟨φ, m, w, a, -⟩ := h
  exact (a.2.2.2.2.2.2 am_sc (by decide)).trans hG
theorem RL.bd (h : RL G T c r) : thr c := by
  obtain ⟨φ, m, w, a, -⟩ := h
  have := a.bnd
  exact ⟨by omega, by omega⟩
/-- feed -/
theorem P_feed (hfu : 10 ≤ fu) (h : RL G T c r) (a b d e g : Int32) : PC G T c r (f_H_feed fu c a b d e g) (f_M_feed fu r a b d e g) (w_H_feed fu c a b d e g) (w_M_feed fu r a b d e g) := by
  obtain ⟨φ, n, u, h1, h2, h3, h4, h5⟩ := h
  obtain ⟨q1, q2, q3, q4, f1, f2⟩ := p_feed fu hfu h3 a b d e g
  obtain ⟨x, hx⟩ : ∃ x, x = f_H_feed fu c a b d e g := ⟨_, rfl⟩
  obtain ⟨y, hy⟩ : ∃ y, y = f_M_feed fu r a b d e g := ⟨_, rfl⟩
  rw [← hx] at q1 q2 f1
  rw [← hy] at q1 q2 f2
  rw [← hx, ← hy]
  obtain ⟨cI, cG, cA, cB, cT, cD, cN, cU⟩ := f1
  obtain ⟨rI, rG, rA, rB, rT, rD, rN, rU⟩ := f2
  have cI' : ∀ a k, a ≠ 2 → sI x.2 a k = sI c a k := fun a k z => cI a k (fun y => z y.1)
  have rI' : ∀ k, k ≠ 0 → k ≠ 23 → sI y.2 21 k = sI r 21 k := fun k z1 z2 => rI 21 k (fun y => y.2.elim z2 z1)
  have cA' : ∀ a, a ≠ 3 → sA x.2 a = sA c a := fun a z => cA a z
  have rA' : ∀ a, a ≠ 32 → sA y.2 a = sA r a := fun a z => rA a z
  refine ⟨q3, q4, q1, ⟨φ, n, u, ?_, ?_, q2, ?_, ?_⟩, fun a ha => ⟨fun k => cI' a k (by omega), fun k => cG a k, cA' a (by omega), cB a, cT a⟩, ⟨fun a ha => ⟨fun k => rI a k (fun y => absurd y.1 (by omega)), fun k => rG a k, rA' a (by omega), rB a, rT a⟩, rD, rN, rU⟩⟩
  · exact h1.mv3 (fun k _ => cI' 1 k (by decide)) (cA' 9 (by decide)) (cB 10) (cT 11) cD cN cU (fun k hk => rI' k (by omega) (by omega)) (fun a a1 a2 => rA' a (by omega)) (fun a _ _ => rB a)
  · unfold CDV
    rw [cA' 6 (by decide), cA' 7 (by decide), rA' 30 (by decide), rA' 31 (by decide)]
    exact h2
  · unfold R_out
    rw [cI 2 3 (fun z => absurd z.2 (by decide)), cA' 4 (by decide), rI' 24 (by decide) (by decide), rA' 33 (by decide)]
    exact h4
  · unfold R_last
    rw [cI' 0 5 (by decide), cI' 0 6 (by decide), cI' 0 7 (by decide), rI' 13 (by decide) (by decide), rI' 14 (by decide) (by decide), rI' 11 (by decide) (by decide)]
    exact h5
/-- end -/
theorem P_end (h : RL G T c r) (a : Int32) : PC G T c r (f_H_end c a) (f_M_end r a) (w_H_end c a) (w_M_end r a) := by
  have h0 := h
  obtain ⟨φ, n, u, h1, h2, h3, h4, h5⟩ := h
  obtain ⟨q1, q2⟩ := p_end h3 a
  by_cases g1 : a.toInt < 0
  · have e1 : cn1 .lt a = true := by rw [c1_lt]; exact dt g1
    refine PC.no h0 (a := -1) (v := 0) ?_ ?_ trivial trivial
    · unfold f_H_end; rw [e1, cond_true]
    · unfold f_M_end; rw [e1, cond_true]
  have e1 : cn1 .lt a = false := by rw [c1_lt]; exact df g1
  by_cases g2 : a.toInt ≤ (sI r 21 23).toInt
  · have e2 : cn2 .le a (sI r 21 23) = true := by rw [c2_le]; exact dt g2
    have eH : f_H_end c a = (a, pI c 2 2 a) := by unfold f_H_end; rw [e1, cond_false, h3.1, e2, cond_true]
    have eM : f_M_end r a = (a, pI (pI r 21 0 0) 21 23 a) := by unfold f_M_end; rw [e1, cond_false, e2, cond_true]
    rw [eH, eM] at q2
    unfold PC
    rw [eH, eM]
    exact ⟨trivial, trivial, rfl, ⟨φ, n, u, ((h1.cI (a := 2) a (Or.inl (by decide))).rI2 (k := 0) 0 (by decide)).rI2 (k := 23) a (by decide), h2, q2, h4, h5⟩, mE_pI c 2 a (by decide), (cE_pI r 0 0 (by decide)).tr (cE_pI _ 23 a (by decide))⟩
  · have e2 : cn2 .le a (sI r 21 23) = false := by rw [c2_le]; exact df g2
    refine PC.no h0 (a := -1) (v := 0) ?_ ?_ trivial trivial
    · unfold f_H_end; rw [e1, cond_false, h3.1, e2, cond_false]
    · unfold f_M_end; rw [e1, cond_false, e2, cond_false]
theorem CDV.pt (h : CDV c r) : R_pt c r := fun p hp => ⟨(h.2 p hp).1, (h.2 p hp).2.1, (h.2 p hp).2.2.1, fun k _ => h.1 _⟩
/-- same -/
theorem P_same (h : RL G T c r) (a b : Int32) : w_H_same c a b ∧ w_M_same r a b ∧ f_H_same c a b = (f_M_same r a b).1 ∧ (f_M_same r a b).2 = pI r 21 0 0 := by
  obtain ⟨φ, n, u, h1, h2, h3, h4, h5⟩ := h
  have a5 := h1.2.2.2.2.1
  have ht := h1.rt
  have n4 := h1.bnd.1
  unfold f_H_same f_M_same w_H_same w_M_same
  by_cases g1 : a.toInt < 0
  · have e1 : cn1 .lt a = true := by rw [c1_lt]; exact dt g1
    rw [e1, cond_true, cond_true]
    exact ⟨⟨fun _ => trivial, (fun z => nomatch z)⟩, ⟨fun _ => trivial, (fun z => nomatch z)⟩, rfl, rfl⟩
  have e1 : cn1 .lt a = false := by rw [c1_lt]; exact df g1
  have e2 : cn2 .ge a 16 = decide (16 ≤ a.toInt) := c2_ge a 16
  have e3 : cn2 .gt a 15 = decide (16 ≤ a.toInt) := by rw [c2_gt, n15]; exact decide_eq_decide.mpr (by omega)
  rw [e1, cond_false, cond_false, e2, e3]
  by_cases g2 : 16 ≤ a.toInt
  · rw [dt g2, cond_true, cond_true]
    exact ⟨⟨(fun z => nomatch z), fun _ => ⟨fun _ => trivial, (fun z => nomatch z)⟩⟩, ⟨(fun z => nomatch z), fun _ => ⟨fun _ => trivial, (fun z => nomatch z)⟩⟩, rfl, rfl⟩
  rw [df g2, cond_false, cond_false]
  by_cases g3 : b.toInt < 0
  · have e4 : cn1 .lt b = true := by rw [c1_lt]; exact dt g3
    rw [e4, cond_true, cond_true]
    exact ⟨⟨(fun z => nomatch z), fun _ => ⟨(fun z => nomatch z), fun _ => ⟨fun _ => trivial, (fun z => nomatch z)⟩⟩⟩, ⟨(fun z => nomatch z), fun _ => ⟨(fun z => nomatch z), fun _ => ⟨fun _ => trivial, (fun z => nomatch z)⟩⟩⟩, rfl, rfl⟩
  have e4 : cn1 .lt b = false := by rw [c1_lt]; exact df g3
  have e5 : cn2 .lt b 16 = decide (b.toInt < 16) := c2_lt b 16
  have e6 : cn2 .le b 15 = decide (b.toInt < 16) := by rw [c2_le, n15]; exact decide_eq_decide.mpr (by omega)
  rw [e4, cond_false, cond_false, e5, e6]
  by_cases g4 : b.toInt < 16
  · have va : vp_in a 16 := vp_of (by omega) (by omega)
    have vb : vp_in b 16 := vp_of (by omega) (by omega)
    obtain ⟨v, v1, v2, v3⟩ := a5 a.toNatClampNeg (by rw [tn_eq]; omega)
    obtain ⟨w, w1, w2, w3⟩ := a5 b.toNatClampNeg (by rw [tn_eq]; omega)
    rw [dt g4, cond_true, cond_true, v2, v3, w2, w3]
    refine ⟨⟨(fun z => nomatch z), fun _ => ⟨(fun z => nomatch z), fun _ => ⟨(fun z => nomatch z), fun _ => ⟨fun _ => ⟨va, vb, lx_po h1 v1, lx_po h1 w1, trivial⟩, (fun z => nomatch z)⟩⟩⟩⟩, ⟨(fun z => nomatch z), fun _ => ⟨(fun z => nomatch z), fun _ => ⟨(fun z => nomatch z), fun _ => ⟨fun _ => ⟨va, vb, trivial⟩, (fun z => nomatch z)⟩⟩⟩⟩, ?_, ?_⟩
    · have k : cn2 .ne (Int32.ofNat v) (Int32.ofNat w) = decide (¬ v = w) := by
        rw [c2_ne, show (Int32.ofNat v).toInt = (v : Int) from yI_i (by omega), show (Int32.ofNat w).toInt = (w : Int) from yI_i (by omega)]
        exact decide_eq_decide.mpr (by omega)
      rw [k]
      by_cases e : v = w
      · rw [if_pos (by rw [e]), df (fun z => z e), cond_false]
      · rw [dt e, cond_true, if_neg]
        intro z
        unfold po at z
        by_cases e0 : v = 0
        · rw [if_pos e0, if_neg (by omega)] at z
          exact absurd z (by simp)
        · rw [if_neg e0] at z
          by_cases e1 : w = 0
          · rw [if_pos e1] at z
            exact absurd z (by simp)
          · rw [if_neg e1] at z
            have z' : φ v = φ w := Option.some.inj z
            have mo := ht.2.2.2.2
            have tw : ∀ t, 1 ≤ twd (sA r 22 t) := fun t => by unfold twd; by_cases q : (sA r 22 t).toInt ≤ 10 <;> simp [q]
            have t1 := tw v
            have t2 := tw w
            rcases Nat.lt_or_gt_of_ne e with q | q
            · have := (mo v w (by omega) q v1 w1).2
              omega
            · have := (mo w v (by omega) q w1 v1).2
              omega
    · cases cn2 .ne (Int32.ofNat v) (Int32.ofNat w) <;> rfl
  · rw [df g4, cond_false, cond_false]
    exact ⟨⟨(fun z => nomatch z), fun _ => ⟨(fun z => nomatch z), fun _ => ⟨(fun z => nomatch z), fun _ => ⟨(fun z => nomatch z), fun _ => trivial⟩⟩⟩⟩, ⟨(fun z => nomatch z), fun _ => ⟨(fun z => nomatch z), fun _ => ⟨(fun z => nomatch z), fun _ => ⟨(fun z => nomatch z), fun _ => trivial⟩⟩⟩⟩, rfl, rfl⟩
end SMP
