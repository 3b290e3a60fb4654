/-! OP 13 -/
section GR
variable {G : AH} {T : Nat} {p fu : Nat}
theorem L_rm {x y : Int32} (hx : 0 ≤ x.toInt) (hy : 0 ≤ y.toInt) : Int32.toInt64 x * Int32.toInt64 y + Int32.toInt64 x = lN (x.toNatClampNeg * y.toNatClampNeg + x.toNatClampNeg) := by rw [L_x hx, L_x hy, yL_mul, yL_add]
theorem L_gr {x y : Int32} (hx : 0 ≤ x.toInt) (hy : 0 ≤ y.toInt) : 1 + Int32.toInt64 x + Int32.toInt64 x * (1 + Int32.toInt64 y) = lN (1 + x.toNatClampNeg + x.toNatClampNeg * (1 + y.toNatClampNeg)) := by
  rw [L_1 hx, L_1 hy, L_x hx, yL_mul, yL_add]
theorem mul31 {a b : Nat} (ha : a < 2147483648) (hb : b < 2147483648) : a * b < 4611686018427387904 := Nat.lt_of_lt_of_le (Nat.mul_lt_mul'' ha hb) (by decide)
theorem gd_go (hfu : 1000000 ≤ fu) {rows size s1 : Int32} (hr : 0 ≤ rows.toInt) (hs : 0 ≤ size.toInt) (hp : p + 1 < 3200) (b1 : s1.toInt ≤ 15) {g : Nat} (hg1 : 1 ≤ g) : ∀ (k i : Nat) (φ : Nat → Nat) (n u : Nat) (c r : St) (vi : Int32), RR G T φ n u c r → SZ c → CDH r p c → s1 = sA r 30 (p + 1) → (g ≤ n ∧ LVE φ g) → (sA r 22 g).toInt = 9 → sA r 24 g = rows → i + k = rows.toNatClampNeg → vi.toInt = (i : Int) → (n : Int) + k ≤ (sI r 21 8).toInt → ((u + k * size.toNatClampNeg : Nat) : Int) ≤ (sI r 21 8).toInt → ∀ j j', 2 * k < j → 2 * k < j' →
    OUT G T φ n c r ((T_Op_makeGrid_33 fu j).1 c rows size (po φ g) vi) ((T_M_grid_33 fu j').1 r s1 rows size (nI g) vi) ∧ (WT_Op_makeGrid_33 fu j).1 c rows size (po φ g) vi ∧ (WT_M_grid_33 fu j').1 r s1 rows size (nI g) vi
  | k, i, φ, n, u, c, r, vi, h, hz, hc, hs1, hgn, hk, hM, hi, hvi, mn, mu, j, j', hj, hj' => by
    have hb := h.bnd
    have hl1 := h.2.1.2.2.1
    have hb2 := h.2.2.2.1
    have g40 : g ≤ 40000 := by omega
    have eg : (nI g).toNatClampNeg = g := nN (by omega)
    have s0 : 0 ≤ s1.toInt := by rw [hs1]; exact (hc.b (p + 1)).1
    have a1 : vp_in s1 16 := vp_of s0 (by omega)
    have er : (rows.toNatClampNeg : Int) = rows.toInt := by rw [tn_eq]; omega
    have r31 := m31 rows
    have z31 := m31 size
    have mm := mul31 r31 z31
    obtain ⟨e1, e2, e3, e4, e5, e6, e7, e8, e9, e10⟩ := p_shl h.rt hgn (Or.inl hk)
    match k, j, j', hi, hj, hj' with
    | 0, j + 1, j' + 1, hi, hj, hj' =>
      have ge : cn2 .ge vi rows = true := by rw [c2_ge]; exact dt (by omega)
      obtain ⟨o1, o2⟩ := o_setS (k := 1) (j := 1) hc rfl hp (by rw [← hs1]; exact b1) (po φ g) (a_tho h.rt hgn)
      rw [← hs1] at o1
      have h3 := h.slot (k := s1.toNatClampNeg) hgn
      have fin := bn_out h3 hz (z := (rows.toNatClampNeg * size.toNatClampNeg + rows.toNatClampNeg + 7) / 8) (by omega)
      have e8' : (Int32.toInt64 rows * Int32.toInt64 size + Int32.toInt64 rows + 7) / 8 = lN ((rows.toNatClampNeg * size.toNatClampNeg + rows.toNatClampNeg + 7) / 8) := by rw [L_rm hr hs, L_8 (by omega)]
      refine ⟨?_, ?_, ?_⟩
      · show OUT G T φ n c r (b_Op_makeGrid_33 fu (T_Op_makeGrid_33 fu j) c rows size (po φ g) vi) (b_M_grid_33 fu (T_M_grid_33 fu j') r s1 rows size (nI g) vi)
        unfold b_Op_makeGrid_33 b_M_grid_33 t_Op_makeGrid_51 t_Op_makeGrid_63 f_Op_eighths f_M_takesFor
        rw [ge, cond_true, cond_true, o1, e8']
        exact OUT.tr (EX.rf _ _) (opC_T _ _) (opR_A _ (Or.inr (Or.inl rfl)) _) fin
      · show v_Op_makeGrid_33 fu (T_Op_makeGrid_33 fu j) (WT_Op_makeGrid_33 fu j) c rows size (po φ g) vi
        unfold v_Op_makeGrid_33
        rw [ge]
        exact ⟨fun _ => ⟨o2, trivial, trivial⟩, (fun z => nomatch z)⟩
      · show v_M_grid_33 fu (T_M_grid_33 fu j') (WT_M_grid_33 fu j') r s1 rows size (nI g) vi
        unfold v_M_grid_33
        rw [ge]
        exact ⟨fun _ => ⟨a1, ⟨trivial, trivial⟩, trivial⟩, (fun z => nomatch z)⟩
    | k + 1, j + 2, j' + 2, hi, hj, hj' =>
      have ge : cn2 .ge vi rows = false := by rw [c2_ge]; exact df (by omega)
      have vn : vi.toNatClampNeg = i := by rw [tn_eq]; omega
      have sz : (size.toNatClampNeg : Int) = size.toInt := by rw [tn_eq]; omega
      have mu2 : (u : Int) + size.toInt ≤ (sI r 21 8).toInt := by
        rw [Nat.add_mul, Nat.one_mul] at mu
        have : 0 ≤ k * size.toNatClampNeg := Nat.zero_le _
        omega
      obtain ⟨i1, i2, i3⟩ := i_ro (s := c) (k := 4) (m := size) hb.2.2.2.2 hs (by omega) (by omega)
      have h2 := nw_row0 h (k := 4) (m := size) (q := 0) (by decide) (by decide) hs (by omega) mu2
      obtain ⟨t1, t2⟩ := th_M (r := r) (k := 4) (m := size) (q := 0) hb2.2.1 hb2.2.2.1 (by omega) (fun _ => hs)
      have kg : sA (thR r n u 4 size 0) 22 g = sA r 22 g := if_neg (by omega)
      have mg : sA (thR r n u 4 size 0) 24 g = sA r 24 g := if_neg (by omega)
      have sg : sA (thR r n u 4 size 0) 23 g = sA r 23 g := if_neg (by omega)
      have kn : sA (thR r n u 4 size 0) 22 (n + 1) = 4 := if_pos rfl
      have eph : ph1 φ n (sN c) g = φ g := if_neg (by omega)
      have six9 := sh_ix h hgn (Or.inl hk) (i := vi) (by omega) (by rw [hM]; omega)
      have hk2 : (sA (thR r n u 4 size 0) 22 g).toInt = 9 ∨ (sA (thR r n u 4 size 0) 22 g).toInt = 10 := by rw [kg]; exact Or.inl hk
      have h3 := h2.shlput (t := g) (i := i) (x := n + 1) (LVE.tr hgn (ph1_ex φ n (sN c))) hk2 (by rw [mg, hM]; omega) (LVE.nw h.bnd.2.2.2.2) (Or.inr (Or.inl ⟨by rw [kg]; exact hk, by rw [kn]; rfl⟩))
      rw [eph, sg] at h3
      have hpo : po (ph1 φ n (sN c)) (n + 1) = some (sN c) := by rw [po_s _ (by omega), ph1_s]
      have hpg : po (ph1 φ n (sN c)) g = po φ g := po_cg (ph1_ex φ n (sN c)).2 hgn.1
      rw [hpo] at h3
      have e5' := i_add (x := vi) 1 (by omega) (by omega) (by decide) (by decide)
      have hmade : sI (pB (thR r n u 4 size 0) 26 (vp_updL (sB (thR r n u 4 size 0) 26) ((sA r 23 g).toNatClampNeg + i) (lN (n + 1)))) 21 8 = sI r 21 8 := rfl
      have hc3 : CDH (pB (thR r n u 4 size 0) 26 (vp_updL (sB (thR r n u 4 size 0) 26) ((sA r 23 g).toNatClampNeg + i) (lN (n + 1)))) p (pQ (pQ c (rowD (sD c) (sN c) 4 size) (sN c + 2) (sU c + 2 + size.toNatClampNeg)) (dR (sD (pQ c (rowD (sD c) (sN c) 4 size) (sN c + 2) (sU c + 2 + size.toNatClampNeg))) (some (φ g + 1)) (va_up (aRF (sD (pQ c (rowD (sD c) (sN c) 4 size) (sN c + 2) (sU c + 2 + size.toNatClampNeg))) (some (φ g + 1))) i (some (sN c)))) (sN (pQ c (rowD (sD c) (sN c) 4 size) (sN c + 2) (sU c + 2 + size.toNatClampNeg))) (sU (pQ c (rowD (sD c) (sN c) 4 size) (sN c + 2) (sU c + 2 + size.toNatClampNeg)))) := hc
      obtain ⟨c3, hc3e⟩ : ∃ c3, c3 = pQ (pQ c (rowD (sD c) (sN c) 4 size) (sN c + 2) (sU c + 2 + size.toNatClampNeg)) (dR (sD (pQ c (rowD (sD c) (sN c) 4 size) (sN c + 2) (sU c + 2 + size.toNatClampNeg))) (some (φ g + 1)) (va_up (aRF (sD (pQ c (rowD (sD c) (sN c) 4 size) (sN c + 2) (sU c + 2 + size.toNatClampNeg))) (some (φ g + 1))) i (some (sN c)))) (sN (pQ c (rowD (sD c) (sN c) 4 size) (sN c + 2) (sU c + 2 + size.toNatClampNeg))) (sU (pQ c (rowD (sD c) (sN c) 4 size) (sN c + 2) (sU c + 2 + size.toNatClampNeg))) := ⟨_, rfl⟩
      obtain ⟨r3, hr3e⟩ : ∃ r3, r3 = pB (thR r n u 4 size 0) 26 (vp_updL (sB (thR r n u 4 size 0) 26) ((sA r 23 g).toNatClampNeg + i) (lN (n + 1))) := ⟨_, rfl⟩
      have hz3 : SZ c3 := by rw [hc3e]; exact hz
      have oc3 : opC c c3 := by rw [hc3e]; exact (opC_Q _ _ _ _).tr (opC_Q _ _ _ _)
      have or3 : opR r r3 := by rw [hr3e]; exact (thR_op _ _ _ _ _ _ hb2.2.1 (by omega)).tr (opR_B _ (Or.inl rfl) _)
      have r30 : sA r3 30 = sA r 30 := or3.2.2.1 30 (by decide) (by decide) (by decide)
      have r22 : sA r3 22 g = sA r 22 g := by rw [hr3e]; exact kg
      have r24 : sA r3 24 g = sA r 24 g := by rw [hr3e]; exact mg
      have r8 : sI r3 21 8 = sI r 21 8 := by rw [hr3e]; rfl
      rw [← hc3e, ← hr3e] at hc3 h3
      have ih := gd_go hfu hr hs hp b1 hg1 k (i + 1) (ph1 φ n (sN c)) (n + 1) (u + size.toNatClampNeg) c3 r3 (vi + Int32.ofInt 1) h3 hz3 hc3 (by rw [r30]; exact hs1) (LVE.tr hgn (ph1_ex φ n (sN c))) (by rw [r22]; exact hk) (by rw [r24]; exact hM) (by omega) (by omega) (by rw [r8]; omega) (by rw [r8]; rw [Nat.add_mul, Nat.one_mul] at mu; omega) j j' (by omega) (by omega)
      rw [hpg] at ih
      obtain ⟨x1, x2, x3⟩ := ih
      have hC : (T_Op_makeGrid_33 fu (j + 2)).1 c rows size (po φ g) vi = (T_Op_makeGrid_33 fu j).1 c3 rows size (po φ g) (vi + Int32.ofInt 1) := by
        show b_Op_makeGrid_33 fu (T_Op_makeGrid_33 fu (j + 1)) c rows size (po φ g) vi = _
        unfold b_Op_makeGrid_33
        rw [ge, cond_false, i1, e6]
        show (T_Op_makeGrid_33 fu j).1 (pQ (pQ c (rowD (sD c) (sN c) 4 size) (sN c + 2) (sU c + 2 + size.toNatClampNeg)) (dR (sD (pQ c (rowD (sD c) (sN c) 4 size) (sN c + 2) (sU c + 2 + size.toNatClampNeg))) (some (φ g + 1)) (va_up (aRF (sD (pQ c (rowD (sD c) (sN c) 4 size) (sN c + 2) (sU c + 2 + size.toNatClampNeg))) (some (φ g + 1))) vi.toNatClampNeg (some (sN c)))) (sN (pQ c (rowD (sD c) (sN c) 4 size) (sN c + 2) (sU c + 2 + size.toNatClampNeg))) (sU (pQ c (rowD (sD c) (sN c) 4 size) (sN c + 2) (sU c + 2 + size.toNatClampNeg)))) rows size (po φ g) (vi + Int32.ofInt 1) = _
        rw [vn, ← hc3e]
      have ei : (sA r 23 g + vi).toNatClampNeg = (sA r 23 g).toNatClampNeg + i := by rw [six9.1, vn]
      have hMd : (T_M_grid_33 fu (j' + 2)).1 r s1 rows size (nI g) vi = (T_M_grid_33 fu j').1 r3 s1 rows size (nI g) (vi + Int32.ofInt 1) := by
        show b_M_grid_33 fu (T_M_grid_33 fu (j' + 1)) r s1 rows size (nI g) vi = _
        unfold b_M_grid_33
        rw [ge, cond_false, t1, eg]
        show (T_M_grid_33 fu j').1 (pB (thR r n u 4 size 0) 26 (vp_updL (sB (thR r n u 4 size 0) 26) (sA r 23 g + vi).toNatClampNeg (Int32.toInt64 (nI (n + 1))))) s1 rows size (nI g) (vi + Int32.ofInt 1) = _
        rw [ei, nI_L (by omega), ← hr3e]
      refine ⟨?_, ?_, ?_⟩
      · rw [hC, hMd]
        exact OUT.tr (ph1_ex φ n (sN c)) oc3 or3 x1
      · show v_Op_makeGrid_33 fu (T_Op_makeGrid_33 fu (j + 1)) (WT_Op_makeGrid_33 fu (j + 1)) c rows size (po φ g) vi
        unfold v_Op_makeGrid_33
        rw [ge, i1, e6]
        refine ⟨(fun z => nomatch z), fun _ => ⟨e3, i3, i2, i2.2.1, ?_⟩⟩
        show v_Op_makeGrid_44 fu (T_Op_makeGrid_33 fu j) (WT_Op_makeGrid_33 fu j) (pQ c (rowD (sD c) (sN c) 4 size) (sN c + 2) (sU c + 2 + size.toNatClampNeg)) rows size (po φ g) vi (some (sN c)) vi (some (φ g + 1))
        unfold v_Op_makeGrid_44
        obtain ⟨f1, f2, f3, f4, f5, f6, f7, f8, f9, f10⟩ := p_shl h2.rt (v := g) (LVE.tr hgn (ph1_ex φ n (sN c))) hk2
        rw [eph, mg, hM] at f8
        rw [eph] at f7
        rw [f8, vn, ← hc3e]
        refine ⟨f7, vp_of (by omega) (by rw [tn_eq]; omega), ?_, x2⟩
        rw [← hpo]
        exact a_tho h2.rt (LVE.nw h.bnd.2.2.2.2)
      · show v_M_grid_33 fu (T_M_grid_33 fu (j' + 1)) (WT_M_grid_33 fu (j' + 1)) r s1 rows size (nI g) vi
        unfold v_M_grid_33
        rw [ge, t1, eg]
        refine ⟨(fun z => nomatch z), fun _ => ⟨n_vp g40, t2, ?_⟩⟩
        show v_M_grid_49 fu (T_M_grid_33 fu j') (WT_M_grid_33 fu j') (thR r n u 4 size 0) s1 rows size (nI g) vi (nI (n + 1)) (sA r 23 g + vi)
        unfold v_M_grid_49
        rw [ei, nI_L (by omega), ← hr3e]
        exact ⟨six9.2.1, x3⟩
end GR
section GR2
variable {G : AH} {T : Nat} {φ : Nat → Nat} {n u p fu : Nat} {c r : St} {q : Int32}
theorem op_13 (hfu : 1000000 ≤ fu) (h : RR G T φ n u c r) (hz : SZ c) (hc : CDH r p c) (hq : q.toInt = (p : Int) + 1) (hp : p + 4 ≤ 3200) (b1 : (sA r 30 (p + 1)).toInt ≤ 15) (b2 : (sA r 30 (p + 2)).toInt ≤ 7) (b3 : (sA r 30 (p + 3)).toInt ≤ 7) :
    OUT G T φ n c r (f_Op_makeGrid fu c (f_Op_numberAt c 2) (f_Op_numberAt c 3)) (f_M_makes fu r 13 q) ∧ (w_Op_numberAt c 2 ∧ (w_Op_numberAt c 3 ∧ (w_Op_makeGrid fu c (f_Op_numberAt c 2) (f_Op_numberAt c 3) ∧ True))) ∧ w_M_makes fu r 13 q := by
  obtain ⟨q0, v0⟩ := o_q0 hq (by omega)
  obtain ⟨q1, v1⟩ := o_q (k := 1) (j := 2) hq rfl (by omega)
  obtain ⟨q2, v2⟩ := o_q (k := 2) (j := 3) hq rfl (by omega)
  have z1 := (hc.b (p + 1)).1
  have z2 := (hc.b (p + 2)).1
  have z3 := (hc.b (p + 3)).1
  obtain ⟨x1, x2⟩ := o_num (k := 2) (j := 2) hc h.1 rfl (by omega) b2
  obtain ⟨y1, y2⟩ := o_num (k := 3) (j := 3) hc h.1 rfl (by omega) b3
  rw [x1, y1]
  obtain ⟨x, hx⟩ : ∃ x, x = sA r 28 (sA r 30 (p + 2)).toNatClampNeg := ⟨_, rfl⟩
  obtain ⟨y, hy⟩ : ∃ y, y = sA r 28 (sA r 30 (p + 3)).toNatClampNeg := ⟨_, rfl⟩
  have hm : f_M_makes fu r 13 q = f_M_grid fu r (sA r 30 (p + 1)) x y := by
    unfold f_M_makes
    rw [show cn2 .ge (13 : Int32) 12 = true from rfl, show cn2 .ne (13 : Int32) 13 = false from rfl, cond_true, cond_false, q0, q1, q2, ← hx, ← hy]
  have wm : w_M_grid fu r (sA r 30 (p + 1)) x y → w_M_makes fu r 13 q := fun w => by
    unfold w_M_makes
    rw [show cn2 .ge (13 : Int32) 12 = true from rfl, show cn2 .ne (13 : Int32) 13 = false from rfl, q0, q1, q2, ← hx, ← hy]
    exact ⟨v0, fun _ => ⟨v1, (fun z => nomatch z), fun _ => ⟨vp_of z2 (by omega), v2, vp_of z3 (by omega), w, trivial⟩⟩, (fun z => nomatch z)⟩
  rw [hm, ← hx, ← hy]
  unfold f_Op_makeGrid w_Op_makeGrid f_M_grid t_Op_makeGrid_4 t_M_grid_4 w_Op_makeGrid_4
  rw [c1_lt, c1_ge]
  by_cases gx : x.toInt < 0
  · rw [cd_t gx, cd_t gx, dt gx]
    refine ⟨fl_out h hz (by decide) (by decide), ⟨x2, y2, ⟨fun _ => ⟨w_fault c 3, trivial⟩, (fun z => nomatch z)⟩, trivial⟩, wm ?_⟩
    unfold w_M_grid w_M_grid_4
    rw [c1_lt, dt gx]
    exact ⟨fun _ => ⟨w_fails r 3, trivial⟩, (fun z => nomatch z)⟩
  rw [cd_f gx, cd_f gx, df gx]
  by_cases gy : 0 ≤ y.toInt
  · rw [cd_t gy, cd_t gy, dt gy, L_gr (by omega) gy]
    have lx := m31 x
    have ly := m31 y
    have mm := mul31 lx ly
    have em : x.toNatClampNeg * (1 + y.toNatClampNeg) = x.toNatClampNeg + x.toNatClampNeg * y.toNatClampNeg := by rw [Nat.mul_add, Nat.mul_one]
    have sx : (x.toNatClampNeg : Int) = x.toInt := by rw [tn_eq]; omega
    rcases mk_ok h hz (z := 1 + x.toNatClampNeg + x.toNatClampNeg * (1 + y.toNatClampNeg)) (by omega) with ⟨c1, r1, e1, e2, h1, hz1, hcd, oc1, or1, mn, mu, mz, -, -⟩ | ⟨e1, e2⟩
    · have hc1 : CDH r p c1 := hc.mv hcd
      have e30 : sA r1 30 = sA r 30 := or1.2.2.1 30 (by decide) (by decide) (by decide)
      have hb := h1.bnd
      have hb2 := h1.2.2.2.1
      have hl1 := h1.2.1.2.2.1
      obtain ⟨i1, i2, i3⟩ := i_sh (s := c1) (k := -1) (m := x) hb.2.2.2.2 (by omega) (by omega) (by omega)
      have h2 := nw_shl0 h1 (k := 9) (m := x) (q := 0) (b := -1) (Or.inl ⟨rfl, rfl⟩) (by omega) (by omega) (by omega)
      obtain ⟨t1, t2⟩ := th_M (r := r1) (k := 9) (m := x) (q := 0) hb2.2.1 hb2.2.2.1 (by omega) (fun _ => by omega)
      have hc2 : CDH (thR r1 n u 9 x 0) p (pQ c1 (shlD (sD c1) (sN c1) (-1) x) (sN c1 + 2) (sU c1 + 2 + x.toNatClampNeg)) := ⟨hc1.1, fun k => (show sA r1 30 k = sA r 30 k by rw [e30]).trans (hc1.2 k)⟩
      have loop := gd_go hfu (rows := x) (size := y) (s1 := sA r 30 (p + 1)) (by omega) gy (by omega) b1 (g := n + 1) (by omega) x.toNatClampNeg 0 (ph1 φ n (sN c1)) (n + 1) (u + x.toNatClampNeg) _ _ 0 h2 hz1 hc2 (by show _ = sA r1 30 (p + 1); rw [e30]) (LVE.nw hb.2.2.2.2) (by show (upd (sA r1 22) (n + 1) 9 (n + 1)).toInt = 9; rw [upS]; rfl) (by show upd (sA r1 24) (n + 1) x (n + 1) = x; rw [upS]) (by omega) rfl (by show ((n + 1 : Nat) : Int) + _ ≤ (sI r1 21 8).toInt; omega) (by show _ ≤ (sI r1 21 8).toInt; omega) fu fu (by omega) (by omega)
      rw [show po (ph1 φ n (sN c1)) (n + 1) = some (sN c1) from by rw [po_s _ (by omega), ph1_s]] at loop
      obtain ⟨l1, l2, l3⟩ := loop
      refine ⟨?_, ⟨x2, y2, ⟨(fun z => nomatch z), fun _ => ⟨fun _ => ⟨trivial, ?_⟩, (fun z => nomatch z)⟩⟩, trivial⟩, wm ?_⟩
      · rw [e1, e2]
        dsimp only
        unfold t_Op_makeGrid_24 t_M_grid_22
        rw [show cn1 .eq (b2i true) = false from rfl, cond_false, i1, show cn1 .ne (b2i true) = true from rfl, cond_true, t1]
        dsimp only
        unfold t_Op_makeGrid_30 t_M_grid_30
        exact OUT.tr (ph1_ex φ n (sN c1)) (oc1.tr (opC_Q _ _ _ _)) (or1.tr (thR_op _ _ _ _ _ _ hb2.2.1 (by omega))) l1
      · rw [e1]
        dsimp only
        unfold w_Op_makeGrid_24
        rw [show cn1 .eq (b2i true) = false from rfl, i1]
        exact ⟨(fun z => nomatch z), fun _ => ⟨i3, i2, i2.2.1, l2⟩⟩
      · unfold w_M_grid
        rw [c1_lt, c1_ge, df gx, dt gy, L_gr (by omega) gy, e2]
        dsimp only
        unfold w_M_grid_22
        rw [t1]
        exact ⟨(fun z => nomatch z), fun _ => ⟨fun _ => ⟨trivial, fun _ => ⟨t2, l3⟩, (fun z => nomatch z)⟩, (fun z => nomatch z)⟩⟩
    · refine ⟨?_, ⟨x2, y2, ⟨(fun z => nomatch z), fun _ => ⟨fun _ => ⟨trivial, ?_⟩, (fun z => nomatch z)⟩⟩, trivial⟩, wm ?_⟩
      · rw [e1, e2]
        exact full_out h hz
      · rw [e1]
        exact ⟨fun _ => trivial, (fun z => nomatch z)⟩
      · unfold w_M_grid
        rw [c1_lt, c1_ge, df gx, dt gy, L_gr (by omega) gy, e2]
        exact ⟨(fun z => nomatch z), fun _ => ⟨fun _ => ⟨trivial, (fun z => nomatch z), fun _ => trivial⟩, (fun z => nomatch z)⟩⟩
  · rw [cd_f gy, cd_f gy, df gy]
    refine ⟨fl_out h hz (by decide) (by decide), ⟨x2, y2, ⟨(fun z => nomatch z), fun _ => ⟨(fun z => nomatch z), fun _ => ⟨w_fault c 3, trivial⟩⟩⟩, trivial⟩, wm ?_⟩
    unfold w_M_grid w_M_grid_4
    rw [c1_lt, c1_ge, df gx, df gy]
    exact ⟨(fun z => nomatch z), fun _ => ⟨(fun z => nomatch z), fun _ => ⟨w_fails r 3, trivial⟩⟩⟩
end GR2
