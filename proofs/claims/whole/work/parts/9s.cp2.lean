/-! OP 21 -/
theorem pB_self (r : St) : pB r 26 (sB r 26) = r := by
  have : up1 r.2.2.2.1 26 (r.2.2.2.1 26) = r.2.2.2.1 := by
    funext b
    unfold up1
    by_cases h : b = 26
    · rw [if_pos h, h]
    · rw [if_neg h]
  show (r.1, r.2.1, r.2.2.1, up1 r.2.2.2.1 26 (r.2.2.2.1 26), r.2.2.2.2) = r
  rw [this]
theorem h2m {m g : Nat} (h : 2 * (m + 1) < g + 2) : 2 * m < g := by omega
theorem h3m {m g : Nat} (h : 3 * (m + 1) < g + 3) : 3 * m < g := by omega
theorem h2z {m t k : Nat} (h : t + (m + 1) = k) : t + 1 + m = k := by omega
theorem h2x {a b : Int} {t : Nat} (h : a = b + 1) (h2 : b = (t : Int)) : a = ((t + 1 : Nat) : Int) := by omega
theorem h2y {a b : Int} {t : Nat} (h : a = b + -1) (h2 : b = (t : Int)) : a = (t : Int) - 1 := by omega
section CB
variable {G : AH} {T : Nat} {φ : Nat → Nat} {n u fu : Nat}
/-- backwards, within one -/
theorem sb_go {a i j k : Nat} {vi vj vk v6 v7 : Int32} (ha : a ≤ n ∧ LVE φ a) (hi : vi.toInt = (i : Int)) (hj : vj.toInt = (j : Int)) (hk : vk.toInt = (k : Int)) : ∀ (m t : Nat) (c r : St) (vt vd : Int32), RR G T φ n u c r → (sA r 22 a).toInt = 9 ∨ (sA r 22 a).toInt = 10 → i + k ≤ (sA r 24 a).toNatClampNeg → j + k ≤ (sA r 24 a).toNatClampNeg → v6.toInt = (sA r 23 a).toInt + i → v7.toInt = (sA r 23 a).toInt + j → t + m = k → vt.toInt = (t : Int) → vd.toInt = (m : Int) - 1 → ∀ g g', 2 * m < g → 3 * m < g' →
    ∃ (D' : AH) (C' : Nat → Int64), (T_Sh_takeFrom_10 fu g).1 c (po φ a) vi vj vd = (true, pQ c D' (sN c) (sU c)) ∧ (T_M_copies_100 fu g').1 r (nI a) (nI a) vk v6 v7 1 vt = f_M_takesFor (pB r 26 C') (Int32.toInt64 vk) ∧ RR G T φ n u (pQ c D' (sN c) (sU c)) (pB r 26 C') ∧ (WT_Sh_takeFrom_10 fu g).1 c (po φ a) vi vj vd ∧ (WT_M_copies_100 fu g').1 r (nI a) (nI a) vk v6 v7 1 vt
  | 0, t, c, r, vt, vd, h, ka, h1, h2, h6, h7, ht, hvt, hvd, g + 1, g' + 1, _, _ => by
    have ge : cn2 .ge vt vk = true := by rw [c2_ge]; exact dt (by omega)
    have gd : cn1 .lt vd = true := by rw [c1_lt]; exact dt (by omega)
    refine ⟨sD c, sB r 26, ?_, ?_, ?_, ?_, ?_⟩
    · show b_Sh_takeFrom_10 fu (T_Sh_takeFrom_10 fu g) _ _ _ _ _ = _
      unfold b_Sh_takeFrom_10
      rw [gd, cond_true]
      rfl
    · show b_M_copies_100 fu (T_M_copies_100 fu g') _ _ _ _ _ _ _ _ = _
      unfold b_M_copies_100
      rw [ge, cond_true, pB_self]
    · rw [pB_self]
      exact h
    · show v_Sh_takeFrom_10 fu (T_Sh_takeFrom_10 fu g) (WT_Sh_takeFrom_10 fu g) _ _ _ _ _
      unfold v_Sh_takeFrom_10
      rw [gd]
      exact ⟨fun _ => trivial, (fun z => nomatch z)⟩
    · show v_M_copies_100 fu (T_M_copies_100 fu g') (WT_M_copies_100 fu g') _ _ _ _ _ _ _ _
      unfold v_M_copies_100
      rw [ge]
      exact ⟨fun _ => ⟨⟨trivial, trivial⟩, trivial⟩, (fun z => nomatch z)⟩
  | m + 1, t, c, r, vt, vd, h, ka, h1, h2, h6, h7, ht, hvt, hvd, g + 2, g' + 3, hg, hg' => by
    have hbn := h.bnd
    have a40 : a ≤ 40000 := by omega
    have ge : cn2 .ge vt vk = false := by rw [c2_ge]; exact df (by omega)
    have gd : cn1 .lt vd = false := by rw [c1_lt]; exact df (by omega)
    obtain ⟨p1, p2, p3, p4, p5, p6, p7, p8, p9, p10⟩ := p_shl h.rt ha ka
    obtain ⟨x, x1, x2, x3, x4, x5⟩ := sm_1 h ha ha ka ka (x := i + m) (y := j + m) (by omega) (by omega)
    have g0 := k_pos h.rt (v := a) (by omega)
    obtain ⟨b9, f9, -, -, -, -, -, -, -, sa0, sa1⟩ := rd_shl h.rt (show 1 ≤ a by omega) ha ka
    have ma : ((sA r 24 a).toNatClampNeg : Int) = (sA r 24 a).toInt := by rw [tn_eq]; omega
    have sae : ((sA r 23 a).toNatClampNeg : Int) = (sA r 23 a).toInt := by rw [tn_eq]; omega
    have vdm : vd.toInt = (m : Int) := by omega
    have eid := i_addy (x := vi) (y := vd) hi vdm (by omega) (by omega)
    have ejd := i_addy (x := vj) (y := vd) hj vdm (by omega) (by omega)
    obtain ⟨s1, s2, s3, s4, s5⟩ := sh_ix h ha ka (i := vi + vd) (by omega) (by omega)
    obtain ⟨t1, t2, t3, t4, t5⟩ := sh_ix h ha ka (i := vj + vd) (by omega) (by omega)
    have ni : (vi + vd).toNatClampNeg = i + m := by rw [tn_eq, eid]; omega
    have nj : (vj + vd).toNatClampNeg = j + m := by rw [tn_eq, ejd]; omega
    have ek1 := i_subn (x := vk) (y := 1) hk (show ((1 : Int32).toInt) = 1 from rfl) (by omega) (by omega) (by decide) (by decide)
    have ek2 := i_subn (x := vk - 1) (y := vt) ek1 hvt (by omega) (by omega) (by omega) (by omega)
    have wm : ((vk - 1) - vt).toInt = (m : Int) := by omega
    have i6 := i_addy (x := v6) (y := (vk - 1) - vt) h6 wm (by omega) (by omega)
    have i7 := i_addy (x := v7) (y := (vk - 1) - vt) h7 wm (by omega) (by omega)
    have n6 : (v6 + ((vk - 1) - vt)).toNatClampNeg = (sA r 23 a).toNatClampNeg + (i + m) := by rw [tn_eq, i6]; omega
    have n7 : (v7 + ((vk - 1) - vt)).toNatClampNeg = (sA r 23 a).toNatClampNeg + (j + m) := by rw [tn_eq, i7]; omega
    have et := i_add (x := vt) 1 (by omega) (by omega) (by decide) (by decide)
    have ed := i_add (x := vd) (-1) (by omega) (by omega) (by decide) (by decide)
    obtain ⟨o1, o2, o3⟩ := go_M h ha ka x1
    have gr : f_Sh_refusal c (po φ a) (po φ x) = 0 := o3.mpr x4
    have nr : decide (1 ≤ (sA r 22 a).toInt ∧ (sA r 22 a).toInt ≤ 8) = false := df (by omega)
    obtain ⟨ir1, ir2⟩ := ir_M (r := r) a40
    rw [nr] at ir1
    have h3 := x5 x4
    obtain ⟨D', C', y1, y2, y3, y4, y5⟩ := sb_go ha hi hj hk m (t + 1) _ _ (vt + Int32.ofInt 1) (vd + Int32.ofInt (-1)) h3 ka h1 h2 h6 h7 (h2z ht) (h2x et hvt) (h2y ed vdm) g g' (h2m hg) (h3m hg')
    have hM : (T_M_copies_100 fu (g' + 3)).1 r (nI a) (nI a) vk v6 v7 1 vt = (T_M_copies_100 fu g').1 (pB r 26 (vp_updL (sB r 26) ((sA r 23 a).toNatClampNeg + (j + m)) (lN x))) (nI a) (nI a) vk v6 v7 1 (vt + Int32.ofInt 1) := by
      show b_M_copies_100 fu (T_M_copies_100 fu (g' + 2)) _ _ _ _ _ _ _ _ = _
      unfold b_M_copies_100
      rw [ge, cond_false, show cn1 .eq (1 : Int32) = false from rfl, cond_false]
      show b_M_copies_112 fu (T_M_copies_100 fu (g' + 1)) _ _ _ _ _ _ _ _ _ = _
      unfold b_M_copies_112
      rw [ir1, show cn1 .ne (b2i false) = false from rfl, cond_false, n6, x3, lN_I, o1, cn1_ne_b2i, dt gr, cond_true]
      show b_M_copies_132 fu (T_M_copies_100 fu g') _ _ _ _ _ _ _ _ _ = _
      unfold b_M_copies_132
      rw [n6, n7, x3]
    have hC : (T_Sh_takeFrom_10 fu (g + 2)).1 c (po φ a) vi vj vd = (T_Sh_takeFrom_10 fu g).1 (pQ c (dR (sD c) (some (φ a + 1)) (va_up (aRF (sD c) (some (φ a + 1))) (j + m) (po φ x))) (sN c) (sU c)) (po φ a) vi vj (vd + Int32.ofInt (-1)) := by
      show b_Sh_takeFrom_10 fu (T_Sh_takeFrom_10 fu (g + 1)) _ _ _ _ _ = _
      unfold b_Sh_takeFrom_10
      rw [gd, cond_false, p6, ni, nj, x2]
      rfl
    refine ⟨D', C', ?_, ?_, ?_, ?_, ?_⟩
    · rw [hC, y1]
      rfl
    · rw [hM, y2, pB_pB]
    · rw [pB_pB] at y3
      exact y3
    · show v_Sh_takeFrom_10 fu (T_Sh_takeFrom_10 fu (g + 1)) (WT_Sh_takeFrom_10 fu (g + 1)) _ _ _ _ _
      unfold v_Sh_takeFrom_10
      rw [gd, p6, p8, ni, nj, x2]
      exact ⟨(fun z => nomatch z), fun _ => ⟨p3, p3, p7, s4, p7, t4, a_tho h.rt x1, y4⟩⟩
    · show v_M_copies_100 fu (T_M_copies_100 fu (g' + 2)) (WT_M_copies_100 fu (g' + 2)) _ _ _ _ _ _ _ _
      unfold v_M_copies_100
      rw [ge]
      refine ⟨(fun z => nomatch z), fun _ => ⟨(fun z => nomatch z), fun _ => ?_⟩⟩
      show v_M_copies_112 fu (T_M_copies_100 fu (g' + 1)) (WT_M_copies_100 fu (g' + 1)) _ _ _ _ _ _ _ _ _
      unfold v_M_copies_112
      rw [ir1, n6, x3, lN_I]
      refine ⟨ir2, (fun z => nomatch z), fun _ => ⟨vp_of (by omega) (by omega), o2, fun _ => ?_, fun _ => ⟨w_fails r 5, trivial⟩⟩⟩
      show v_M_copies_132 fu (T_M_copies_100 fu g') (WT_M_copies_100 fu g') _ _ _ _ _ _ _ _ _
      unfold v_M_copies_132
      rw [n6, n7, x3]
      exact ⟨vp_of (by omega) (by omega), vp_of (by omega) (by omega), y5⟩
end CB
section C21
variable {G : AH} {T : Nat} {φ : Nat → Nat} {n u p fu : Nat} {c r : St} {q : Int32}
theorem ph_inj (h : RR G T φ n u c r) {a b : Nat} (ha1 : 1 ≤ a) (ha : a ≤ n ∧ LVE φ a) (hb1 : 1 ≤ b) (hb : b ≤ n ∧ LVE φ b) (e : φ a = φ b) : a = b := by
  have w1 : ∀ k : Int32, 1 ≤ twd k := fun k => by unfold twd; split <;> omega
  have hm := h.rt.2.2.2.2
  rcases Nat.lt_trichotomy a b with g | g | g
  · have := (hm a b ha1 g ha hb).2; have := w1 (sA r 22 a); omega
  · exact g
  · have := (hm b a hb1 g hb ha).2; have := w1 (sA r 22 b); omega
theorem lx_po (h : RR G T φ n u c r) {a : Nat} (ha : a ≤ n ∧ LVE φ a) : lx (po φ a) := by
  intro y hy
  by_cases g : a = 0
  · rw [g] at hy; cases hy
  · rw [po_s φ (by omega)] at hy
    cases hy
    have := (h.rt.2.2.2.1 a (by omega) ha).2.2.2.2
    have hb := h.bnd
    unfold ax
    omega
/-- what may be copied, on either side -/
def alk (r : St) (a b : Nat) : Prop := (1 ≤ (sA r 22 a).toInt ∧ (sA r 22 a).toInt ≤ 8 ∧ (sA r 22 a).toInt = (sA r 22 b).toInt) ∨ (((sA r 22 a).toInt = 9 ∨ (sA r 22 a).toInt = 10) ∧ ((sA r 22 b).toInt = 9 ∨ (sA r 22 b).toInt = 10))
theorem al_C (h : RR G T φ n u c r) {a b : Nat} (ha : a ≤ n ∧ LVE φ a) (hb : b ≤ n ∧ LVE φ b) : (f_Op_areAlike c (po φ a) (po φ b) = true ↔ alk r a b) ∧ w_Op_areAlike c (po φ a) (po φ b) := by
  obtain ⟨-, ia1, ia2, -⟩ := a_isc h.rt ha
  obtain ⟨-, ib1, ib2, -⟩ := a_isc h.rt hb
  have rowf : ∀ {v : Nat}, (v ≤ n ∧ LVE φ v) → isc (sD c) (po φ v) 1 = decide (1 ≤ (sA r 22 v).toInt ∧ (sA r 22 v).toInt ≤ 8) → (cn1 .eq (b2i (isc (sD c) (po φ v) 1))) = false → 1 ≤ (sA r 22 v).toInt ∧ (sA r 22 v).toInt ≤ 8 := fun hv e z => by
    rw [e, cn1_eq_b2i] at z
    refine Decidable.byContradiction fun y => ?_
    rw [df y] at z
    exact nomatch z
  constructor
  · unfold f_Op_areAlike t_Op_areAlike_21 alk
    rw [ia1, ib1, ia2, ib2, cn1_eq_b2i, cn1_eq_b2i, cn1_eq_b2i, cn1_eq_b2i]
    by_cases ra : 1 ≤ (sA r 22 a).toInt ∧ (sA r 22 a).toInt ≤ 8
    · rw [dt ra, Bool.not_true, cond_false]
      by_cases rb : 1 ≤ (sA r 22 b).toInt ∧ (sA r 22 b).toInt ≤ 8
      · rw [dt rb, Bool.not_true, cond_false, (p_row h.rt ha ra.1 ra.2).2.2.2.2.1, (p_row h.rt hb rb.1 rb.2).2.2.2.2.1, c2_ne]
        by_cases e : (sA r 22 a).toInt = (sA r 22 b).toInt
        · rw [cd_f (fun z => z e)]
          exact ⟨fun _ => Or.inl ⟨ra.1, ra.2, e⟩, fun _ => rfl⟩
        · rw [cd_t e]
          exact ⟨(fun z => nomatch z), fun z => by omega⟩
      · rw [df rb, Bool.not_false, cond_true, df (p := (sA r 22 a).toInt = 9 ∨ (sA r 22 a).toInt = 10) (by omega), Bool.not_false, cond_true]
        exact ⟨(fun z => nomatch z), fun z => by omega⟩
    · rw [df ra, Bool.not_false, cond_true]
      by_cases sa : (sA r 22 a).toInt = 9 ∨ (sA r 22 a).toInt = 10
      · rw [dt sa, Bool.not_true, cond_false]
        by_cases sb : (sA r 22 b).toInt = 9 ∨ (sA r 22 b).toInt = 10
        · rw [dt sb]
          exact ⟨fun _ => Or.inr ⟨sa, sb⟩, fun _ => rfl⟩
        · rw [df sb]
          exact ⟨(fun z => nomatch z), fun z => by omega⟩
      · rw [df sa]
        exact ⟨(fun z => nomatch z), fun z => by omega⟩
  · have w21 : w_Op_areAlike_21 c (po φ a) (po φ b) := ⟨a_tho h.rt ha, fun _ => trivial, fun _ => ⟨a_tho h.rt hb, trivial⟩⟩
    refine ⟨a_tho h.rt ha, fun _ => w21, fun z => ?_⟩
    have ra := rowf ha ia1 z
    obtain ⟨e1, e2, e3, -⟩ := p_row h.rt ha ra.1 ra.2
    refine ⟨e2, a_tho h.rt hb, fun _ => w21, fun z2 => ?_⟩
    have rb := rowf hb ib1 z2
    obtain ⟨f1, f2, f3, -⟩ := p_row h.rt hb rb.1 rb.2
    exact ⟨f2, e3, f3, trivial⟩
theorem al_M (h : RR G T φ n u c r) {a b : Nat} (ha : a ≤ n ∧ LVE φ a) (hb : b ≤ n ∧ LVE φ b) (ga : ¬ a = 0) (gb : ¬ b = 0) (i j k : Int32) : (alk r a b → f_M_copies fu r (nI a) i (nI b) j k = t_M_copies_40 fu r (nI a) i (nI b) j k) ∧ (¬ alk r a b → f_M_copies fu r (nI a) i (nI b) j k = f_M_fails r 5) ∧ ((alk r a b → w_M_copies_40 fu r (nI a) i (nI b) j k) → w_M_copies fu r (nI a) i (nI b) j k) := by
  have hbn := h.bnd
  have a40 : a ≤ 40000 := by omega
  have b40 : b ≤ 40000 := by omega
  have ea : (nI a).toNatClampNeg = a := nN (by omega)
  have eb : (nI b).toNatClampNeg = b := nN (by omega)
  obtain ⟨ha1, ha2⟩ := hm_M (r := r) a40
  obtain ⟨hb1, hb2⟩ := hm_M (r := r) b40
  obtain ⟨ra1, ra2⟩ := ir_M (r := r) a40
  obtain ⟨rb1, rb2⟩ := ir_M (r := r) b40
  have key : f_M_copies fu r (nI a) i (nI b) j k = cond (decide (1 ≤ (sA r 22 a).toInt ∧ (sA r 22 a).toInt ≤ 10)) (cond (decide (1 ≤ (sA r 22 b).toInt ∧ (sA r 22 b).toInt ≤ 10)) (cond (decide (decide (1 ≤ (sA r 22 a).toInt ∧ (sA r 22 a).toInt ≤ 8) = decide (1 ≤ (sA r 22 b).toInt ∧ (sA r 22 b).toInt ≤ 8))) (cond (decide (1 ≤ (sA r 22 a).toInt ∧ (sA r 22 a).toInt ≤ 8)) (cond (decide ((sA r 22 a).toInt = (sA r 22 b).toInt)) (t_M_copies_40 fu r (nI a) i (nI b) j k) (f_M_fails r 5)) (t_M_copies_40 fu r (nI a) i (nI b) j k)) (f_M_fails r 5)) (f_M_fails r 5)) (f_M_fails r 5) := by
    unfold f_M_copies t_M_copies_36
    rw [n_eq a40, cd_f ga, n_ne b40, cd_t gb, ha1, hb1, ra1, rb1, cn1_eq_b2i, cn1_eq_b2i, cn1_eq_b2i, ea, eb, c2_eq]
    cases decide (1 ≤ (sA r 22 a).toInt ∧ (sA r 22 a).toInt ≤ 10) <;> cases decide (1 ≤ (sA r 22 b).toInt ∧ (sA r 22 b).toInt ≤ 10) <;> cases decide (1 ≤ (sA r 22 a).toInt ∧ (sA r 22 a).toInt ≤ 8) <;> cases decide (1 ≤ (sA r 22 b).toInt ∧ (sA r 22 b).toInt ≤ 8) <;> rfl
  refine ⟨fun g => ?_, fun g => ?_, fun w => ?_⟩
  · rw [key]
    unfold alk at g
    rw [cd_t (by omega), cd_t (by omega)]
    rcases g with g | g
    · rw [dt (p := 1 ≤ (sA r 22 a).toInt ∧ (sA r 22 a).toInt ≤ 8) (by omega), dt (p := 1 ≤ (sA r 22 b).toInt ∧ (sA r 22 b).toInt ≤ 8) (by omega), cd_t rfl, cond_true, cd_t g.2.2]
    · rw [df (p := 1 ≤ (sA r 22 a).toInt ∧ (sA r 22 a).toInt ≤ 8) (by omega), df (p := 1 ≤ (sA r 22 b).toInt ∧ (sA r 22 b).toInt ≤ 8) (by omega), cd_t rfl, cond_false]
  · rw [key]
    unfold alk at g
    by_cases g1 : 1 ≤ (sA r 22 a).toInt ∧ (sA r 22 a).toInt ≤ 10
    · rw [cd_t g1]
      by_cases g2 : 1 ≤ (sA r 22 b).toInt ∧ (sA r 22 b).toInt ≤ 10
      · rw [cd_t g2]
        by_cases g3 : 1 ≤ (sA r 22 a).toInt ∧ (sA r 22 a).toInt ≤ 8
        · rw [dt g3]
          by_cases g4 : 1 ≤ (sA r 22 b).toInt ∧ (sA r 22 b).toInt ≤ 8
          · rw [dt g4, cd_t rfl, cond_true, cd_f (by omega)]
          · rw [df g4, cd_f (by decide)]
        · rw [df g3]
          by_cases g4 : 1 ≤ (sA r 22 b).toInt ∧ (sA r 22 b).toInt ≤ 8
          · rw [dt g4, cd_f (by decide)]
          · omega
      · rw [cd_f g2]
    · rw [cd_f g1]
  · have w5 : w_M_copies_36 fu r := ⟨w_fails r 5, trivial⟩
    have w1 : w_M_copies_4 fu r := ⟨w_fails r 1, trivial⟩
    unfold w_M_copies
    rw [ha1, hb1, ra1, rb1, ea, eb, cn1_eq_b2i, cn1_eq_b2i, cn1_eq_b2i, c2_eq]
    refine ⟨fun _ => w1, fun _ => ⟨fun _ => ⟨ha2, fun _ => w5, fun g1 => ⟨hb2, fun _ => w5, fun g2 => ⟨ra2, rb2, fun _ => w5, fun g3 => ⟨ra2, fun g4 => w ?_, fun g4 => ⟨n_vp a40, n_vp b40, fun g5 => w ?_, fun _ => w5⟩⟩⟩⟩⟩, fun _ => w1⟩⟩
    · unfold alk
      have x1 : 1 ≤ (sA r 22 a).toInt ∧ (sA r 22 a).toInt ≤ 10 := Decidable.byContradiction fun y => by rw [df y] at g1; exact nomatch g1
      have x2 : 1 ≤ (sA r 22 b).toInt ∧ (sA r 22 b).toInt ≤ 10 := Decidable.byContradiction fun y => by rw [df y] at g2; exact nomatch g2
      have x3 : ¬ (1 ≤ (sA r 22 a).toInt ∧ (sA r 22 a).toInt ≤ 8) := fun y => by rw [dt y] at g4; exact nomatch g4
      have x4 : ¬ (1 ≤ (sA r 22 b).toInt ∧ (sA r 22 b).toInt ≤ 8) := fun y => by rw [dt y, df x3] at g3; exact nomatch g3
      omega
    · unfold alk
      have x3 : (1 ≤ (sA r 22 a).toInt ∧ (sA r 22 a).toInt ≤ 8) := Decidable.byContradiction fun y => by rw [df y] at g4; exact nomatch g4
      exact Or.inl ⟨x3.1, x3.2, of_decide_eq_true g5⟩
end C21
