/-! WHAT IT WEIGHS -/
def wC (c c' : St) : Prop := (∀ a k, a ≠ 1 → sI c' a k = sI c a k) ∧ (∀ a k, sG c' a k = sG c a k) ∧ sA c' = sA c ∧ sB c' = sB c ∧ sT c' = sT c ∧ sD c' = sD c ∧ sN c' = sN c ∧ sU c' = sU c
def wR (r r' : St) : Prop := (∀ a k, (a = 21 → ¬ (8 ≤ k ∧ k ≤ 11) ∧ k ≠ 15) → sI r' a k = sI r a k) ∧ (∀ a k, ¬ (a = 21 ∧ k = 29) → sG r' a k = sG r a k) ∧ sA r' = sA r ∧ sB r' = sB r ∧ sT r' = sT r ∧ sD r' = sD r ∧ sN r' = sN r ∧ sU r' = sU r ∧ (sI r' 21 11).toInt ≤ (sI r 21 11).toInt
theorem wC.rf (c : St) : wC c c := ⟨fun _ _ _ => rfl, fun _ _ => rfl, rfl, rfl, rfl, rfl, rfl, rfl⟩
theorem wR.rf (c : St) : wR c c := ⟨fun _ _ _ => rfl, fun _ _ _ => rfl, rfl, rfl, rfl, rfl, rfl, rfl, Int.le_refl _⟩
theorem wC.tr {a b c : St} (h : wC a b) (g : wC b c) : wC a c := by
  obtain ⟨h1, h2, h3, h4, h5, h6, h7, h8⟩ := h
  obtain ⟨g1, g2, g3, g4, g5, g6, g7, g8⟩ := g
  exact ⟨fun x k z => (g1 x k z).trans (h1 x k z), fun x k => (g2 x k).trans (h2 x k), g3.trans h3, g4.trans h4, g5.trans h5, g6.trans h6, g7.trans h7, g8.trans h8⟩
theorem wR.tr {a b c : St} (h : wR a b) (g : wR b c) : wR a c := by
  obtain ⟨h1, h2, h3, h4, h5, h6, h7, h8, h9⟩ := h
  obtain ⟨g1, g2, g3, g4, g5, g6, g7, g8, g9⟩ := g
  exact ⟨fun x k z => (g1 x k z).trans (h1 x k z), fun x k z => (g2 x k z).trans (h2 x k z), g3.trans h3, g4.trans h4, g5.trans h5, g6.trans h6, g7.trans h7, g8.trans h8, Int.le_trans g9 h9⟩
theorem wC_1 (c : St) (k : Nat) (v : Int32) : wC c (pI c 1 k v) := ⟨fun a j z => if_neg z, fun _ _ => rfl, rfl, rfl, rfl, rfl, rfl, rfl⟩
theorem wR_I (c : St) {k : Nat} (hk : (8 ≤ k ∧ k ≤ 10) ∨ k = 15) (v : Int32) : wR c (pI c 21 k v) := ⟨fun a j z => by
  rw [sI_pI]
  by_cases h : a = 21
  · have := z h
    rw [if_pos h, if_neg (by omega)]
  · rw [if_neg h], fun _ _ _ => rfl, rfl, rfl, rfl, rfl, rfl, rfl, by rw [sI_pI, if_pos rfl, if_neg (by omega)]; exact Int.le_refl _⟩
theorem wR_F (c : St) (v : Int32) (hv : v.toInt ≤ (sI c 21 11).toInt) : wR c (pI c 21 11 v) := ⟨fun a j z => by
  rw [sI_pI]
  by_cases h : a = 21
  · have := z h
    rw [if_pos h, if_neg (by omega)]
  · rw [if_neg h], fun _ _ _ => rfl, rfl, rfl, rfl, rfl, rfl, rfl, hv⟩
theorem wR_G (c : St) (v : Int64) : wR c (pG c 21 29 v) := ⟨fun _ _ _ => rfl, fun a j z => by
  rw [sG_pG]
  by_cases h : a = 21
  · rw [if_pos h, if_neg (fun y => z ⟨h, y⟩)]
  · rw [if_neg h], rfl, rfl, rfl, rfl, rfl, rfl, Int.le_refl _⟩
theorem wC.op {c c' : St} (h : wC c c') : opC c c' := ⟨fun a k z _ _ => h.1 a k z, h.2.1, fun a _ => by rw [h.2.2.1], fun a _ => by rw [h.2.2.2.1], fun a _ => by rw [h.2.2.2.2.1]⟩
theorem wR.op {c c' : St} (h : wR c c') : opR c c' := ⟨fun a k z => h.1 a k (fun y => ⟨fun x => (z y).1 ⟨by omega, x.2⟩, (z y).2.1⟩), h.2.1, fun a _ _ _ => by rw [h.2.2.1], fun a _ _ => by rw [h.2.2.2.1], fun a => by rw [h.2.2.2.2.1], h.2.2.2.2.2.1, h.2.2.2.2.2.2.1, h.2.2.2.2.2.2.2.1, h.2.2.2.2.2.2.2.2, Int.le_of_eq (congrArg _ (h.1 21 6 (fun _ => by decide)).symm), fun v _ => by rw [h.2.2.1]; exact ⟨rfl, rfl, rfl, fun _ => rfl⟩⟩
/-- things as they were; how it stands -/
def LED (G : AH) (T : Nat) (φ : Nat → Nat) (n u : Nat) (c r c' : St) (z : Int32 × St) : Prop := RR G T φ n u c' z.2 ∧ SR z.1 c' z.2 ∧ wC c c' ∧ wR r z.2
theorem LED.out {G : AH} {T : Nat} {φ : Nat → Nat} {n u : Nat} {c r c' : St} {z : Int32 × St} (h : LED G T φ n u c r c' z) : OUT G T φ n c r c' z := ⟨φ, n, u, h.1, EX.rf _ _, h.2.1, h.2.2.1.op, h.2.2.2.op⟩
section LE
variable {G : AH} {T : Nat} {φ : Nat → Nat} {n u : Nat} {c r : St}
theorem fl_led (h : RR G T φ n u c r) (hz : SZ c) {k : Int32} (k1 : 1 ≤ k.toInt) (k2 : k.toInt ≤ 8) : LED G T φ n u c r (f_Le_fault c k) (f_M_fails r k) := by
  obtain ⟨z1, z2, z3⟩ := hz
  rcases mk_pr h (z := 8) (by decide) with ⟨g, v, hv, e1, e2⟩ | ⟨g, e1, e2⟩
  · have hR := h.made (v := v) (by omega) (by omega)
    have ec : f_Le_fault c k = pI (pI (pI (pI c 1 0 v) 1 3 1) 1 4 k) 1 5 0 := by
      unfold f_Le_fault t_Le_fault_3
      rw [show (8 : Int64) = lN 8 from rfl, e1]
      rfl
    have ef : f_M_fails r k = (1, pI (pI (pI r 21 8 v) 21 9 k) 21 10 0) := by
      unfold f_M_fails f_M_fault t_M_fault_3
      rw [show (8 : Int64) = lN 8 from rfl, e2]
      rfl
    rw [ec, ef]
    exact ⟨((((((hR.cI 1 (Or.inr (Nat.le_refl 3))).cI k (Or.inr (by decide))).cI 0 (Or.inr (by decide))).rI k (Or.inl rfl))).rI 0 (Or.inr (Or.inl rfl))), ⟨rfl, Or.inr (Or.inl ⟨rfl, rfl, rfl, k1, k2⟩)⟩, (((wC_1 c 0 v).tr (wC_1 _ 3 1)).tr (wC_1 _ 4 k)).tr (wC_1 _ 5 0), ((wR_I r (Or.inl (by decide)) v).tr (wR_I _ (Or.inl (by decide)) k)).tr (wR_I _ (Or.inl (by decide)) 0)⟩
  · have ec : f_Le_fault c k = pI (pI c 1 1 1) 1 3 3 := by
      unfold f_Le_fault t_Le_fault_3
      rw [show (8 : Int64) = lN 8 from rfl, e1]
      rfl
    have ef : f_M_fails r k = (3, pI r 21 15 1) := by
      unfold f_M_fails f_M_fault t_M_fault_3
      rw [show (8 : Int64) = lN 8 from rfl, e2]
      rfl
    rw [ec, ef]
    exact ⟨h.full, ⟨rfl, Or.inr (Or.inr (Or.inr ⟨rfl, z2, z3⟩))⟩, (wC_1 c 1 1).tr (wC_1 _ 3 3), wR_I r (Or.inr rfl) 1⟩
/-- one of fuel -/
theorem b1_led (h : RR G T φ n u c r) (hz : SZ c) : LED G T φ n u c r (f_Le_burn c 1).2 (f_M_takes r 1) ∧ ((f_Le_burn c 1).1 = decide ((f_M_takes r 1).1 = 0)) ∧ ((f_M_takes r 1).1 = 0 ∨ (f_M_takes r 1).1 = 2) ∧ ((f_M_takes r 1).1 = 0 → (sI (f_M_takes r 1).2 21 11).toInt = (sI r 21 11).toInt - 1) := by
  obtain ⟨z1, z2, z3⟩ := hz
  have fb := h.2.2.1.2
  rcases bn_pr h (z := 1) (by decide) with ⟨g, v, hv, e1, e2⟩ | ⟨g, e1, e2⟩
  · rw [show (1 : Int64) = lN 1 from rfl, e1, e2]
    exact ⟨⟨h.fuel (v := v) (by omega) (by omega), ⟨z1, Or.inl ⟨rfl, z2, z3⟩⟩, wC_1 c 2 v, wR_F r v (by omega)⟩, rfl, Or.inl rfl, fun _ => hv⟩
  · rw [show (1 : Int64) = lN 1 from rfl, e1, e2]
    exact ⟨⟨(h.fuel (v := 0) (by decide) (by decide)).cI 2 (Or.inr (Nat.le_refl 3)), ⟨rfl, Or.inr (Or.inr (Or.inl ⟨rfl, z2, z3⟩))⟩, (wC_1 c 2 0).tr (wC_1 _ 3 2), wR_F r 0 (by rw [show (0 : Int32).toInt = 0 from rfl]; exact fb.1)⟩, rfl, Or.inr rfl, fun z => absurd (show (2 : Int32) = 0 from z) (by decide)⟩
end LE
theorem SR.z {st : Int32} {c r : St} (h : SR st c r) (h0 : st = 0) : SZ c := by
  obtain ⟨h1, h2 | h2 | h2 | h2⟩ := h
  · exact ⟨h1.trans h0, h2.2⟩
  · exact absurd (h0.symm.trans h2.1) (by decide)
  · exact absurd (h0.symm.trans h2.1) (by decide)
  · exact absurd (h0.symm.trans h2.1) (by decide)
theorem SR.nz {st : Int32} {c r : St} (h : SR st c r) (h0 : ¬ st = 0) : f_Le_stopped c = true := by
  unfold f_Le_stopped
  rw [h.1, c1_eq, cd_f]
  exact fun z => h0 (Int32.toInt_inj.mp z)
theorem SZ.ns {c : St} (h : SZ c) : f_Le_stopped c = false := by
  unfold f_Le_stopped
  rw [h.1]
  rfl
/-- the answer beside -/
def WG (G : AH) (T : Nat) (φ : Nat → Nat) (n u : Nat) (c r : St) (q : Int64 × St) (z : Int32 × St) : Prop := LED G T φ n u c r q.2 z ∧ (z.1 = 0 → q.1 = sG z.2 21 29 ∧ KP q.1)
section WL
variable {G : AH} {T : Nat} {φ : Nat → Nat} {n u fu : Nat}
/-- nothing is done any more -/
theorem wl_end {rec : G_pweighs} {wrec : GW_pweighs} {c r : St} (h : RR G T φ n u c r) (hs : f_Le_stopped c = true) {v x : Nat} (y0 : v ≤ n ∧ LVE φ v) (k1 : 11 ≤ (sA r 22 v).toInt) (k2 : (sA r 22 v).toInt ≤ 15) (hx : x ≤ n ∧ LVE φ x) (kx : (sA r 22 x).toInt = 10) (hg : gR (sD c) (po φ v) 4 = po φ x) (g : Nat) (w : Int32) (t : Int64) (i : Int32) : (T_Pa_weighs_47 rec fu (g + 1)).1 c (po φ v) w t i = (t, c) ∧ (WT_Pa_weighs_47 rec wrec fu (g + 1)).1 c (po φ v) w t i := by
  obtain ⟨e1, e2, e3, e4, e5⟩ := p_prt h.rt y0 k1 k2
  obtain ⟨f1, f2, f3, f4, f5, f6, f7, f8, f9, f10⟩ := p_shl h.rt hx (Or.inr kx)
  constructor
  · show b_Pa_weighs_47 rec fu (T_Pa_weighs_47 rec fu g) c (po φ v) w t i = _
    unfold b_Pa_weighs_47
    rw [hs, show cn1 .ne (b2i true) = true from rfl, cond_true]
    cases cn2 .ge i (Int32.ofNat (aRN (sD c) (gR (sD c) (gR (sD c) (po φ v) 4) 1))) <;> rfl
  · show v_Pa_weighs_47 rec wrec fu (T_Pa_weighs_47 rec fu g) (WT_Pa_weighs_47 rec wrec fu g) c (po φ v) w t i
    unfold v_Pa_weighs_47
    rw [hs, hg, f6]
    exact ⟨e3, f3, f7, fun _ => trivial, fun _ => ⟨trivial, fun _ => trivial, (fun z => nomatch z)⟩⟩
theorem wl_go {rec : G_pweighs} {wrec : GW_pweighs} {rec' : G_weighs} {wrec' : GW_weighs} {w : Int32}
    (IH : ∀ (c r : St) (m : Nat), RR G T φ n u c r → SZ c → (m ≤ n ∧ LVE φ m) → 11 ≤ (sA r 22 m).toInt → (sA r 22 m).toInt ≤ 15 → WG G T φ n u c r (rec c (po φ m) (w + 1)) (rec' r (nI m) (w + 1)) ∧ wrec c (po φ m) (w + 1) ∧ wrec' r (nI m) (w + 1))
    {v x : Nat} (hv : v ≤ n ∧ LVE φ v) (hx : x ≤ n ∧ LVE φ x) : ∀ (k i : Nat) (c r : St) (vi : Int32) (t : Int64), RR G T φ n u c r → SZ c → KP t → 11 ≤ (sA r 22 v).toInt → (sA r 22 v).toInt ≤ 15 → (sA r 22 x).toInt = 10 → gR (sD c) (po φ v) 4 = po φ x → i + k = (sA r 24 x).toNatClampNeg → vi.toInt = (i : Int) → ∀ g g', 3 * k < g → 2 * k < g' →
      WG G T φ n u c r ((T_Pa_weighs_47 rec fu g).1 c (po φ v) w t vi) ((T_M_weighs_70 rec' fu g').1 r w t (nI x) vi) ∧ (WT_Pa_weighs_47 rec wrec fu g).1 c (po φ v) w t vi ∧ (WT_M_weighs_70 rec' wrec' fu g').1 r w t (nI x) vi
  | k, i, c, r, vi, t, h, hz, ht, k1, k2, kx, hg, hi, hvi, g, g', hg1, hg2 => by
    have hb := h.bnd
    have x40 : x ≤ 40000 := by omega
    have ex : (nI x).toNatClampNeg = x := nN (by omega)
    obtain ⟨e1, e2, e3, e4, e5⟩ := p_prt h.rt hv k1 k2
    obtain ⟨f1, f2, f3, f4, f5, f6, f7, f8, f9, f10⟩ := p_shl h.rt hx (Or.inr kx)
    have f11 : Int32.ofNat (sA r 24 x).toNatClampNeg = sA r 24 x := (nIof f10).symm
    have mx : ((sA r 24 x).toNatClampNeg : Int) = (sA r 24 x).toInt := by rw [tn_eq]; omega
    match k, g, g', hi, hg1, hg2 with
    | 0, g + 1, g' + 1, hi, hg1, hg2 =>
      have ge : cn2 .ge vi (sA r 24 x) = true := by rw [c2_ge]; exact dt (by omega)
      refine ⟨?_, ?_, ?_⟩
      · show WG G T φ n u c r (b_Pa_weighs_47 rec fu (T_Pa_weighs_47 rec fu g) c (po φ v) w t vi) (b_M_weighs_70 rec' fu (T_M_weighs_70 rec' fu g') r w t (nI x) vi)
        unfold b_Pa_weighs_47 b_M_weighs_70 t_M_weighs_111
        rw [hg, f6, f8, f11, ex, ge, cond_true, cond_true]
        exact ⟨⟨h.rG t, ⟨hz.1, Or.inl ⟨rfl, hz.2⟩⟩, wC.rf c, wR_G r t⟩, fun _ => ⟨rfl, ht⟩⟩
      · show v_Pa_weighs_47 rec wrec fu (T_Pa_weighs_47 rec fu g) (WT_Pa_weighs_47 rec wrec fu g) c (po φ v) w t vi
        unfold v_Pa_weighs_47
        rw [hg, f6, f8, f11, ge]
        exact ⟨e3, f3, f7, fun _ => trivial, (fun z => nomatch z)⟩
      · show v_M_weighs_70 rec' wrec' fu (T_M_weighs_70 rec' fu g') (WT_M_weighs_70 rec' wrec' fu g') r w t (nI x) vi
        unfold v_M_weighs_70
        rw [ex, ge]
        exact ⟨n_vp x40, fun _ => trivial, (fun z => nomatch z)⟩
    | k + 1, g + 3, g' + 2, hi, hg1, hg2 =>
      have ge : cn2 .ge vi (sA r 24 x) = false := by rw [c2_ge]; exact df (by omega)
      have vn : vi.toNatClampNeg = i := by rw [tn_eq]; omega
      obtain ⟨s1, s2, s3, s4, s5⟩ := sh_ix h hx (Or.inr kx) (i := vi) (by omega) (by omega)
      have g0 := k_pos h.rt (v := x) (by omega)
      obtain ⟨b, f, d1, d2, d0, d3, d5, d6, d7, d8, d9⟩ := rd_shl h.rt (show 1 ≤ x by omega) hx (Or.inr kx)
      obtain ⟨m, m1, m2, m3, m4⟩ := d3 _ s3
      have af : aRF (sD c) (some (φ x + 1)) vi.toNatClampNeg = po φ m := by rw [aRF_at (by omega) d2]; exact m3
      have cf : Int64.toInt32 (sB r 26 (sA r 23 x + vi).toNatClampNeg) = nI m := by rw [s1, m2, lN_I]
      have m40 : m ≤ 40000 := by omega
      obtain ⟨i0, -⟩ := a_isc h.rt m1
      have e5 := i_add (x := vi) 1 (by omega) (by omega) (by decide) (by decide)
      have hC : (T_Pa_weighs_47 rec fu (g + 3)).1 c (po φ v) w t vi = cond (!(decide (11 ≤ (sA r 22 m).toInt ∧ (sA r 22 m).toInt ≤ 15))) ((T_Pa_weighs_47 rec fu (g + 1)).1 (f_Le_fault c 1) (po φ v) w t (vi + Int32.ofInt 1)) ((T_Pa_weighs_47 rec fu (g + 2)).2.1 (rec c (po φ m) (w + 1)).2 (po φ v) w vi (rec c (po φ m) (w + 1)).1 t) := by
        show b_Pa_weighs_47 rec fu (T_Pa_weighs_47 rec fu (g + 2)) c (po φ v) w t vi = _
        unfold b_Pa_weighs_47
        rw [hg, f6, f8, f11, ge, cond_false, hz.ns, show cn1 .ne (b2i false) = false from rfl, cond_false, af, i0, cn1_eq_b2i]
        rfl
      have hM : (T_M_weighs_70 rec' fu (g' + 2)).1 r w t (nI x) vi = cond (decide (¬ m = 0)) ((T_M_weighs_70 rec' fu (g' + 1)).2 (rec' r (nI m) (w + 1)).2 w t (nI x) vi (rec' r (nI m) (w + 1)).1) (f_M_fails r 1) := by
        show b_M_weighs_70 rec' fu (T_M_weighs_70 rec' fu (g' + 1)) r w t (nI x) vi = _
        unfold b_M_weighs_70
        rw [ex, ge, cond_false, cf, n_ne m40]
      by_cases gm : m = 0
      · have nk : ¬ (11 ≤ (sA r 22 m).toInt ∧ (sA r 22 m).toInt ≤ 15) := by rw [gm, h.rt.2.1]; decide
        obtain ⟨l1, l2, l3, l4⟩ := fl_led h hz (k := 1) (by decide) (by decide)
        have hs := l2.nz (by
          rcases l2.2 with y | y | y | y
          · have := l2.1
            rw [y.1] at this
            intro z
            exact absurd (show sI (f_Le_fault c 1) 1 3 = 0 from this) (by
              unfold f_Le_fault t_Le_fault_3
              rcases mk_pr h (z := 8) (by decide) with ⟨-, v9, -, e9, -⟩ | ⟨-, e9, -⟩
              · rw [show (8 : Int64) = lN 8 from rfl, e9]; exact (by decide : ¬ ((1 : Int32) = 0))
              · rw [show (8 : Int64) = lN 8 from rfl, e9]; exact (by decide : ¬ ((3 : Int32) = 0)))
          · rw [y.1]; decide
          · rw [y.1]; decide
          · rw [y.1]; decide)
        have kv1 : 11 ≤ (sA (f_M_fails r 1).2 22 v).toInt := by rw [l4.2.2.1]; exact k1
        have kv2 : (sA (f_M_fails r 1).2 22 v).toInt ≤ 15 := by rw [l4.2.2.1]; exact k2
        have kv3 : (sA (f_M_fails r 1).2 22 x).toInt = 10 := by rw [l4.2.2.1]; exact kx
        have kv4 : gR (sD (f_Le_fault c 1)) (po φ v) 4 = po φ x := by rw [l3.2.2.2.2.2.1]; exact hg
        obtain ⟨n1, n2⟩ := wl_end (fu := fu) (rec := rec) (wrec := wrec) l1 hs hv kv1 kv2 hx kv3 kv4 g w t (vi + Int32.ofInt 1)
        refine ⟨?_, ?_, ?_⟩
        · rw [hC, hM, df nk, Bool.not_false, cond_true, cd_f (fun z => z gm), n1]
          refine ⟨⟨l1, l2, l3, l4⟩, fun z => ?_⟩
          have := l2.z z
          rw [this.ns] at hs
          exact nomatch hs
        · show v_Pa_weighs_47 rec wrec fu (T_Pa_weighs_47 rec fu (g + 2)) (WT_Pa_weighs_47 rec wrec fu (g + 2)) c (po φ v) w t vi
          unfold v_Pa_weighs_47
          rw [hg, f6, f8, f11, ge, hz.ns, af, i0, cn1_eq_b2i, df nk]
          exact ⟨e3, f3, f7, (fun z => nomatch z), fun _ => ⟨trivial, (fun z => nomatch z), fun _ => ⟨e3, f3, f7, s4, a_tho h.rt m1, fun _ => ⟨w_fault c 1, n2⟩, (fun z => nomatch z)⟩⟩⟩
        · show v_M_weighs_70 rec' wrec' fu (T_M_weighs_70 rec' fu (g' + 1)) (WT_M_weighs_70 rec' wrec' fu (g' + 1)) r w t (nI x) vi
          unfold v_M_weighs_70
          rw [ex, ge, cf, n_ne m40, df (p := ¬ m = 0) (fun z => z gm)]
          exact ⟨n_vp x40, (fun z => nomatch z), fun _ => ⟨n_vp x40, s2, (fun z => nomatch z), fun _ => ⟨w_fails r 1, trivial⟩⟩⟩
      · have gk : 11 ≤ (sA r 22 m).toInt ∧ (sA r 22 m).toInt ≤ 15 := by
          rcases m4 with y | ⟨y, -⟩ | ⟨-, y1, y2, -⟩
          · exact absurd y gm
          · omega
          · exact ⟨y1, y2⟩
        obtain ⟨⟨⟨l1, l2, l3, l4⟩, l5⟩, l6, l7⟩ := IH c r m h hz m1 gk.1 gk.2
        have kv1 : 11 ≤ (sA (rec' r (nI m) (w + 1)).2 22 v).toInt := by rw [l4.2.2.1]; exact k1
        have kv2 : (sA (rec' r (nI m) (w + 1)).2 22 v).toInt ≤ 15 := by rw [l4.2.2.1]; exact k2
        have kv3 : (sA (rec' r (nI m) (w + 1)).2 22 x).toInt = 10 := by rw [l4.2.2.1]; exact kx
        have kv4 : gR (sD (rec c (po φ m) (w + 1)).2) (po φ v) 4 = po φ x := by rw [l3.2.2.2.2.2.1]; exact hg
        have hC2 : (T_Pa_weighs_47 rec fu (g + 2)).2.1 (rec c (po φ m) (w + 1)).2 (po φ v) w vi (rec c (po φ m) (w + 1)).1 t = (T_Pa_weighs_47 rec fu g).1 (rec c (po φ m) (w + 1)).2 (po φ v) w (f_Re_sum t (rec c (po φ m) (w + 1)).1) (vi + Int32.ofInt 1) := rfl
        have hM2 : (T_M_weighs_70 rec' fu (g' + 1)).2 (rec' r (nI m) (w + 1)).2 w t (nI x) vi (rec' r (nI m) (w + 1)).1 = cond (cn1 .eq (rec' r (nI m) (w + 1)).1) ((T_M_weighs_70 rec' fu g').1 (rec' r (nI m) (w + 1)).2 w (f_M_added t (sG (rec' r (nI m) (w + 1)).2 21 29)) (nI x) (vi + Int32.ofInt 1)) ((rec' r (nI m) (w + 1)).1, (rec' r (nI m) (w + 1)).2) := rfl
        have wv : (WT_Pa_weighs_47 rec wrec fu g).1 (rec c (po φ m) (w + 1)).2 (po φ v) w (f_Re_sum t (rec c (po φ m) (w + 1)).1) (vi + Int32.ofInt 1) → (WT_Pa_weighs_47 rec wrec fu (g + 3)).1 c (po φ v) w t vi := fun y => by
          show v_Pa_weighs_47 rec wrec fu (T_Pa_weighs_47 rec fu (g + 2)) (WT_Pa_weighs_47 rec wrec fu (g + 2)) c (po φ v) w t vi
          unfold v_Pa_weighs_47
          rw [hg, f6, f8, f11, ge, hz.ns, af, i0, cn1_eq_b2i, dt gk]
          obtain ⟨p1, p2, p3, p4, p5⟩ := p_prt h.rt m1 gk.1 gk.2
          exact ⟨e3, f3, f7, (fun z => nomatch z), fun _ => ⟨trivial, (fun z => nomatch z), fun _ => ⟨e3, f3, f7, s4, a_tho h.rt m1, (fun z => nomatch z), fun _ => ⟨p2, l6, p4, y⟩⟩⟩⟩
        have wm : ((rec' r (nI m) (w + 1)).1 = 0 → (WT_M_weighs_70 rec' wrec' fu g').1 (rec' r (nI m) (w + 1)).2 w (f_M_added t (sG (rec' r (nI m) (w + 1)).2 21 29)) (nI x) (vi + Int32.ofInt 1)) → (WT_M_weighs_70 rec' wrec' fu (g' + 2)).1 r w t (nI x) vi := fun y => by
          show v_M_weighs_70 rec' wrec' fu (T_M_weighs_70 rec' fu (g' + 1)) (WT_M_weighs_70 rec' wrec' fu (g' + 1)) r w t (nI x) vi
          unfold v_M_weighs_70
          rw [ex, ge, cf, n_ne m40, dt (p := ¬ m = 0) gm]
          refine ⟨n_vp x40, (fun z => nomatch z), fun _ => ⟨n_vp x40, s2, fun _ => ⟨l7, fun z => y ?_, fun _ => trivial⟩, (fun z => nomatch z)⟩⟩
          rw [c1_eq] at z
          exact Int32.toInt_inj.mp (of_decide_eq_true z)
        rw [hC, hM, dt gk, Bool.not_true, cond_false, cd_t gm, hC2, hM2]
        by_cases st : (rec' r (nI m) (w + 1)).1 = 0
        · have sz := l2.z st
          obtain ⟨q1, q2⟩ := l5 st
          have ih := wl_go IH hv hx k (i + 1) (rec c (po φ m) (w + 1)).2 (rec' r (nI m) (w + 1)).2 (vi + Int32.ofInt 1) (f_Re_sum t (rec c (po φ m) (w + 1)).1) l1 sz (kp_sum _ _) kv1 kv2 kv3 kv4 (by rw [l4.2.2.1]; omega) (by omega) g g' (by omega) (by omega)
          rw [show cn1 .eq (rec' r (nI m) (w + 1)).1 = true from by rw [st]; rfl, cond_true, ← q1, ← sum_added]
          obtain ⟨⟨⟨a1, a2, a3, a4⟩, a5⟩, a6, a7⟩ := ih
          refine ⟨⟨⟨a1, a2, l3.tr a3, l4.tr a4⟩, a5⟩, wv a6, wm fun _ => ?_⟩
          rw [← q1, ← sum_added]
          exact a7
        · have hs := l2.nz st
          rw [show cn1 .eq (rec' r (nI m) (w + 1)).1 = false from by rw [c1_eq]; exact df (fun z => st (Int32.toInt_inj.mp z)), cond_false]
          obtain ⟨g9, rfl⟩ : ∃ g9, g = g9 + 1 := ⟨g - 1, by omega⟩
          obtain ⟨n1, n2⟩ := wl_end (fu := fu) (rec := rec) (wrec := wrec) l1 hs hv kv1 kv2 hx kv3 kv4 g9 w (f_Re_sum t (rec c (po φ m) (w + 1)).1) (vi + Int32.ofInt 1)
          rw [n1]
          exact ⟨⟨⟨l1, l2, l3, l4⟩, fun z => absurd z st⟩, wv n2, wm fun z => absurd z st⟩
end WL
