/-! LOAD: rows -/
def bw (w : Nat) : Nat := if w = 1 then 1 else if w = 2 then 2 else if w = 3 then 2 else if w = 4 then 4 else if w = 5 then 8 else if w = 6 then 4 else if w = 7 then 8 else 1
theorem bw_tab : ∀ w : Nat, w < 9 → 1 ≤ w → f_Fo_bytesOf (nI w) = nI (bw w) ∧ f_M_wideOf (nI w) = nI (bw w) ∧ bw w ≤ 8 ∧ ((w = 1 ∨ w = 8) → bw w = 1) := by decide +kernel
theorem kp_k (x : Int64) : KP (f_M_kept x) := by
  unfold KP f_M_kept
  cases hb : f_M_isNo x
  · show cond (cn1 .eq (b2i (f_M_isNo x))) _ _ = x
    rw [hb]
    rfl
  · exact kp_nan
theorem nv_eq {w : Nat} (h1 : 1 ≤ w) (h2 : w ≤ 8) {x : Int64} (hb : (w = 1 ∨ w = 8) → x = Int32.toInt64 (Int64.toInt32 x)) : f_Ro_narrowed (nI w) x = cond (cn2 .ne (nI w) 7) (cond (cn2 .ne (nI w) 6) (cond (cn2 .ne (nI w) 5) (f_M_cut (nI w) (Int64.toInt32 x)) x) (Int32.toInt64 (f_M_keptNarrow (Int64.toInt32 x)))) (f_M_kept x) ∧ ((nI w).toInt = 7 → KP (f_Ro_narrowed (nI w) x)) := by
  match w, h1, h2 with
  | 1, _, _ =>
    rw [show nI 1 = (1 : Int32) from rfl]
    refine ⟨?_, fun z => absurd z (by decide)⟩
    rw [show cn2 .ne (1 : Int32) 7 = true from rfl, show cn2 .ne (1 : Int32) 6 = true from rfl, show cn2 .ne (1 : Int32) 5 = true from rfl, cond_true, cond_true, cond_true, ← nrw_cut (Or.inl rfl)]
    rw [← hb (Or.inl rfl)]
  | 2, _, _ =>
    rw [show nI 2 = (2 : Int32) from rfl]
    refine ⟨?_, fun z => absurd z (by decide)⟩
    rw [show cn2 .ne (2 : Int32) 7 = true from rfl, show cn2 .ne (2 : Int32) 6 = true from rfl, show cn2 .ne (2 : Int32) 5 = true from rfl, cond_true, cond_true, cond_true, ← nrw_cut (Or.inr (Or.inl rfl))]
    unfold f_Ro_narrowed
    rw [if_neg (by decide), if_pos rfl, if_neg (by decide), if_pos rfl, Int32.toInt32_toInt64]
  | 3, _, _ =>
    rw [show nI 3 = (3 : Int32) from rfl]
    refine ⟨?_, fun z => absurd z (by decide)⟩
    rw [show cn2 .ne (3 : Int32) 7 = true from rfl, show cn2 .ne (3 : Int32) 6 = true from rfl, show cn2 .ne (3 : Int32) 5 = true from rfl, cond_true, cond_true, cond_true, ← nrw_cut (Or.inr (Or.inr (Or.inl rfl)))]
    unfold f_Ro_narrowed
    rw [if_neg (by decide), if_neg (by decide), if_pos rfl, if_neg (by decide), if_neg (by decide), if_pos rfl, Int32.toInt32_toInt64]
  | 4, _, _ =>
    rw [show nI 4 = (4 : Int32) from rfl]
    refine ⟨?_, fun z => absurd z (by decide)⟩
    rw [show cn2 .ne (4 : Int32) 7 = true from rfl, show cn2 .ne (4 : Int32) 6 = true from rfl, show cn2 .ne (4 : Int32) 5 = true from rfl, cond_true, cond_true, cond_true, ← nrw_cut (Or.inr (Or.inr (Or.inr (Or.inl rfl))))]
    unfold f_Ro_narrowed
    rw [if_neg (by decide), if_neg (by decide), if_neg (by decide), if_pos rfl, if_neg (by decide), if_neg (by decide), if_neg (by decide), if_pos rfl, Int32.toInt32_toInt64]
  | 5, _, _ =>
    rw [show nI 5 = (5 : Int32) from rfl]
    refine ⟨?_, fun z => absurd z (by decide)⟩
    rw [show cn2 .ne (5 : Int32) 7 = true from rfl, show cn2 .ne (5 : Int32) 6 = true from rfl, show cn2 .ne (5 : Int32) 5 = false from rfl, cond_true, cond_true, cond_false]
    unfold f_Ro_narrowed
    rw [if_neg (by decide), if_neg (by decide), if_neg (by decide), if_neg (by decide), if_pos rfl]
  | 6, _, _ =>
    rw [show nI 6 = (6 : Int32) from rfl]
    refine ⟨?_, fun z => absurd z (by decide)⟩
    rw [show cn2 .ne (6 : Int32) 7 = true from rfl, show cn2 .ne (6 : Int32) 6 = false from rfl, cond_true, cond_false]
    unfold f_Ro_narrowed
    rw [if_neg (by decide), if_neg (by decide), if_neg (by decide), if_neg (by decide), if_neg (by decide), if_pos rfl]
    rfl
  | 7, _, _ =>
    rw [show nI 7 = (7 : Int32) from rfl]
    have e : f_Ro_narrowed (7 : Int32) x = f_M_kept x := by
      unfold f_Ro_narrowed
      rw [if_neg (by decide), if_neg (by decide), if_neg (by decide), if_neg (by decide), if_neg (by decide), if_neg (by decide), if_pos rfl]
      rfl
    refine ⟨?_, fun _ => by rw [e]; exact kp_k x⟩
    rw [show cn2 .ne (7 : Int32) 7 = false from rfl, cond_false]
    exact e
  | 8, _, _ =>
    rw [show nI 8 = (8 : Int32) from rfl]
    refine ⟨?_, fun z => absurd z (by decide)⟩
    rw [show cn2 .ne (8 : Int32) 7 = true from rfl, show cn2 .ne (8 : Int32) 6 = true from rfl, show cn2 .ne (8 : Int32) 5 = true from rfl, cond_true, cond_true, cond_true, ← nrw_cut (Or.inr (Or.inr (Or.inr (Or.inr (Or.inr rfl)))))]
    rw [← hb (Or.inr rfl)]
section RWG
variable {G : AH} {T : Nat} {φ : Nat → Nat} {n u L p fu m w N : Nat} {c r c0 r0 : St} {v2 : Int32} {rec : G_parse} {wrec : GW_parse}
theorem put_rr (h : RR G T φ n u c r) {v : Nat} (y0 : v ≤ n ∧ LVE φ v) (k1 : 1 ≤ (sA r 22 v).toInt) (k2 : (sA r 22 v).toInt ≤ 8) {i : Int32} (g1 : 0 ≤ i.toInt) (g2 : i.toInt < (sA r 24 v).toInt) {x y : Int64} (hx : f_Ro_narrowed (sA r 22 v) x = y) (hy : (sA r 22 v).toInt = 7 → KP y) : ∃ D', f_Ro_put c (po φ v) i x = pQ c D' (sN c) (sU c) ∧ RR G T φ n u (pQ c D' (sN c) (sU c)) (pB r 26 (vp_updL (sB r 26) ((sA r 23 v).toNatClampNeg + i.toNatClampNeg) y)) ∧ w_Ro_put c (po φ v) i x ∧ (sA r 23 v + i).toNatClampNeg = (sA r 23 v).toNatClampNeg + i.toNatClampNeg ∧ vp_in (sA r 23 v + i) 40001 ∧ (∀ a, a ≠ φ v + 1 → D' a = sD c a) ∧ oC (sD c) (po φ v) = some 6 := by
  have hb := h.bnd
  have g0 := k_pos h.rt k1
  obtain ⟨e1, e2, e3, e4, e5, e6, e7, e8, e9⟩ := p_row h.rt y0 k1 k2
  obtain ⟨f, d1, d2, d3, d5, d6, d7, d8, d9⟩ := rd_row h.rt (show 1 ≤ v by omega) y0 k1 k2
  have d9' := d9
  rw [tn_eq, tn_eq] at d9'
  obtain ⟨s1, s2⟩ := nn_add (x := sA r 23 v) (y := i) d8 g1 (by omega)
  have e10 : Int32.ofNat (sA r 24 v).toNatClampNeg = sA r 24 v := (nIof e9).symm
  have hin : i.toNatClampNeg < (sA r 24 v).toNatClampNeg := by rw [tn_eq, tn_eq]; omega
  have vin : vp_in i (sA r 24 v).toNatClampNeg := vp_of g1 (by rw [tn_eq]; omega)
  refine ⟨dL (sD c) (some (φ v + 1)) (vp_updL (aLF (sD c) (some (φ v + 1))) i.toNatClampNeg y), ?_, h.rowput (show 1 ≤ v by omega) y0 k1 k2 hin hy, ?_, s1, vp_of (by omega) (by omega), fun a ha => ?_, e4⟩
  · unfold f_Ro_put
    rw [e6, e8, e10, c1_lt, c2_ge, cd_f (by omega), cd_f (by omega), e5, hx]
  · unfold w_Ro_put
    rw [e6, e8, e10]
    exact ⟨fun _ => trivial, fun _ => ⟨e3, e7, fun _ => trivial, fun _ => ⟨e3, e3, e7, vin, trivial⟩⟩⟩
  · rw [dL_at (by omega) d2]
    exact hupN ha
theorem rwl_go (hfu : 100 ≤ fu) (h1 : 1 ≤ w) (h2 : w ≤ 8) (hm : m ≤ 40000) : ∀ (k j p : Nat) (c r : St), j + k = m → WK G T φ n u L m N (nI w) (nI m) c0 r0 c r p → ∃ x q, (∀ g, 3 * k + 2 ≤ g → (T_Fo_readRow_15 fu g).1 c (nI w) (nI m) (some N) (nI j) = x ∧ (WT_Fo_readRow_15 fu g).1 c (nI w) (nI m) (some N) (nI j)) ∧ (∀ g, 4 * k + 1 ≤ g → (T_M_parseMany_64 rec fu g).1 r (nI w) v2 (nI m) (nI (n + 1)) (nI (bw w)) (nI j) = q ∧ (WT_M_parseMany_64 rec wrec fu g).1 r (nI w) v2 (nI m) (nI (n + 1)) (nI (bw w)) (nI j)) ∧ PRd G T φ n u L c0 r0 x q := by
  obtain ⟨t1, t2, t3, t4⟩ := bw_tab w (by omega) h1
  intro k
  induction k with
  | zero =>
    intro j p c r hj hW
    have ge : cn2 .ge (nI j) (nI m) = true := by rw [kge (by omega) (by omega)]; exact dt (by omega)
    refine ⟨(some N, c), (0, pI r 21 31 (nI (n + 1))), fun g hg => ?_, fun g hg => ?_, hW.fin⟩
    · obtain ⟨g, rfl⟩ : ∃ g', g = g' + 1 := ⟨g - 1, by omega⟩
      constructor
      · show b_Fo_readRow_15 fu (T_Fo_readRow_15 fu g) c (nI w) (nI m) (some N) (nI j) = _
        unfold b_Fo_readRow_15
        rw [ge, cond_true]
      · show v_Fo_readRow_15 fu (T_Fo_readRow_15 fu g) (WT_Fo_readRow_15 fu g) c (nI w) (nI m) (some N) (nI j)
        unfold v_Fo_readRow_15
        rw [ge]
        exact ⟨fun _ => trivial, (fun z => nomatch z)⟩
    · obtain ⟨g, rfl⟩ : ∃ g', g = g' + 1 := ⟨g - 1, by omega⟩
      constructor
      · show b_M_parseMany_64 rec fu (T_M_parseMany_64 rec fu g) r (nI w) v2 (nI m) (nI (n + 1)) (nI (bw w)) (nI j) = _
        unfold b_M_parseMany_64
        rw [ge, cond_true]
      · show v_M_parseMany_64 rec wrec fu (T_M_parseMany_64 rec fu g) (WT_M_parseMany_64 rec wrec fu g) r (nI w) v2 (nI m) (nI (n + 1)) (nI (bw w)) (nI j)
        unfold v_M_parseMany_64
        rw [ge]
        exact ⟨fun _ => trivial, (fun z => nomatch z)⟩
  | succ k ih =>
    intro j p c r hj hW
    have hb := hW.1.bnd
    have ge : cn2 .ge (nI j) (nI m) = false := by rw [kge (by omega) (by omega)]; exact df (by omega)
    have ge9 : cn2 .ge (nI w) 9 = false := by rw [show (9 : Int32) = nI 9 from rfl, kge (by omega) (by omega)]; exact df (by omega)
    have sj : nI j + Int32.ofInt 1 = nI (j + 1) := nI_s j
    have s0 : f_Le_stopped c = false := st_0 hW.2.1
    have ij : (nI j).toInt = (j : Int) := yI_i (by omega)
    have im : (nI m).toInt = (m : Int) := yI_i (by omega)
    have iw : (nI w).toInt = (w : Int) := yI_i (by omega)
    have nj : (nI j).toNatClampNeg = j := nN (by omega)
    have nu : (nI u).toNatClampNeg = u := nN (by omega)
    have nn : (nI (n + 1)).toNatClampNeg = n + 1 := nN (by omega)
    have vn : vp_in (nI (n + 1)) 40001 := n_vp (by omega)
    have hpo := hW.po
    obtain ⟨k22, k23, k24⟩ := hW.2.2.2.2.2.2.1
    rcases rb hfu hW.2.2.1 (cnt := bw w) (x := nI (bw w)) rfl t3 with ⟨g0, val, y1, y2, y3, y4, y5, y6, y7⟩ | ⟨g0, y1, y2, y3⟩
    · have W2 := hW.rd y6
      obtain ⟨c2, hc2⟩ : ∃ c2, c2 = pI c 2 5 (nI (p + bw w)) := ⟨_, rfl⟩
      obtain ⟨r2, hr2⟩ : ∃ r2, r2 = pI r 21 30 (nI (p + bw w)) := ⟨_, rfl⟩
      rw [← hc2] at y1
      rw [← hr2] at y4
      rw [← hc2, ← hr2] at W2
      obtain ⟨l22, l23, l24⟩ := W2.2.2.2.2.2.2.1
      obtain ⟨n1, n2⟩ := nv_eq h1 h2 (x := val) (fun z => by rw [(y7 (t4 z)).1, Int32.toInt32_toInt64])
      obtain ⟨y, hy⟩ : ∃ y, y = f_Ro_narrowed (nI w) val := ⟨_, rfl⟩
      rw [← hy] at n1 n2
      obtain ⟨D', q1, q2, q3, q4, q5, q6, q7⟩ := put_rr W2.1 W2.lv (i := nI j) (x := val) (y := y) (by rw [l22, iw]; omega) (by rw [l22, iw]; omega) (by omega) (by rw [l24, im]; omega) (by rw [l22]; exact hy.symm) (by rw [l22]; exact n2)
      rw [hpo] at q1 q3 q7
      rw [l23, nu, nj] at q2
      rw [l23, nu, nj] at q4
      rw [l23] at q5
      rw [ph1_s] at q6
      have W3 := W2.pt q2 (fun a a1 a2 => q6 a a2)
      obtain ⟨x, q, x1, x2, x3⟩ := ih (j + 1) (p + bw w) _ _ (by omega) W3
      refine ⟨x, q, fun g hg => ?_, fun g hg => ?_, x3⟩
      · obtain ⟨g, rfl⟩ : ∃ g', g = g' + 3 := ⟨g - 3, by omega⟩
        obtain ⟨z1, z2⟩ := x1 g (by omega)
        have a29 : (T_Fo_readRow_15 fu (g + 1)).2.2 (pQ c2 D' (sN c2) (sU c2)) (nI w) (nI m) (some N) (nI j) = x := by
          show b_Fo_readRow_29 fu (T_Fo_readRow_15 fu g) (pQ c2 D' (sN c2) (sU c2)) (nI w) (nI m) (some N) (nI j) = _
          unfold b_Fo_readRow_29
          rw [sj]
          exact z1
        have b29 : (WT_Fo_readRow_15 fu (g + 1)).2.2 (pQ c2 D' (sN c2) (sU c2)) (nI w) (nI m) (some N) (nI j) := by
          show v_Fo_readRow_29 fu (T_Fo_readRow_15 fu g) (WT_Fo_readRow_15 fu g) (pQ c2 D' (sN c2) (sU c2)) (nI w) (nI m) (some N) (nI j)
          unfold v_Fo_readRow_29
          rw [sj]
          exact z2
        constructor
        · show b_Fo_readRow_15 fu (T_Fo_readRow_15 fu (g + 2)) c (nI w) (nI m) (some N) (nI j) = _
          unfold b_Fo_readRow_15
          rw [ge, cond_false, s0, show cn1 .ne (b2i false) = false from rfl, cond_false, t1, y1]
          show b_Fo_readRow_28 fu (T_Fo_readRow_15 fu (g + 1)) c2 (nI w) (nI m) (some N) (nI j) val (nI j) (some N) = _
          unfold b_Fo_readRow_28
          rw [q1]
          exact a29
        · show v_Fo_readRow_15 fu (T_Fo_readRow_15 fu (g + 2)) (WT_Fo_readRow_15 fu (g + 2)) c (nI w) (nI m) (some N) (nI j)
          unfold v_Fo_readRow_15
          rw [ge, s0, show cn1 .ne (b2i false) = false from rfl, t1, y1]
          refine ⟨(fun z => nomatch z), fun _ => ⟨trivial, (fun z => nomatch z), fun _ => ⟨y2, ?_⟩⟩⟩
          show v_Fo_readRow_28 fu (T_Fo_readRow_15 fu (g + 1)) (WT_Fo_readRow_15 fu (g + 1)) c2 (nI w) (nI m) (some N) (nI j) val (nI j) (some N)
          unfold v_Fo_readRow_28
          rw [q1]
          exact ⟨q3, q7, b29⟩
      · obtain ⟨g, rfl⟩ : ∃ g', g = g' + 4 := ⟨g - 4, by omega⟩
        obtain ⟨z1, z2⟩ := x2 g (by omega)
        obtain ⟨r3, hr3⟩ : ∃ r3, r3 = pB r2 26 (vp_updL (sB r2 26) (u + j) y) := ⟨_, rfl⟩
        rw [← hr3] at z1 z2
        have a170 : (T_M_parseMany_64 rec fu (g + 1)).2.2.2.2.2 r3 (nI w) v2 (nI m) (nI (n + 1)) (nI (bw w)) (nI j) = q := by
          show b_M_parseMany_170 rec fu (T_M_parseMany_64 rec fu g) r3 (nI w) v2 (nI m) (nI (n + 1)) (nI (bw w)) (nI j) = _
          unfold b_M_parseMany_170
          rw [sj]
          exact z1
        have b170 : (WT_M_parseMany_64 rec wrec fu (g + 1)).2.2.2.2.2 r3 (nI w) v2 (nI m) (nI (n + 1)) (nI (bw w)) (nI j) := by
          show v_M_parseMany_170 rec wrec fu (T_M_parseMany_64 rec fu g) (WT_M_parseMany_64 rec wrec fu g) r3 (nI w) v2 (nI m) (nI (n + 1)) (nI (bw w)) (nI j)
          unfold v_M_parseMany_170
          rw [sj]
          exact z2
        have a113 : (T_M_parseMany_64 rec fu (g + 2)).2.2.1 r2 (nI w) v2 (nI m) (nI (n + 1)) (nI (bw w)) (nI j) y (nI u + nI j) = q := by
          show b_M_parseMany_113 rec fu (T_M_parseMany_64 rec fu (g + 1)) r2 (nI w) v2 (nI m) (nI (n + 1)) (nI (bw w)) (nI j) y (nI u + nI j) = _
          unfold b_M_parseMany_113
          rw [q4, ← hr3]
          exact a170
        have b113 : (WT_M_parseMany_64 rec wrec fu (g + 2)).2.2.1 r2 (nI w) v2 (nI m) (nI (n + 1)) (nI (bw w)) (nI j) y (nI u + nI j) := by
          show v_M_parseMany_113 rec wrec fu (T_M_parseMany_64 rec fu (g + 1)) (WT_M_parseMany_64 rec wrec fu (g + 1)) r2 (nI w) v2 (nI m) (nI (n + 1)) (nI (bw w)) (nI j) y (nI u + nI j)
          unfold v_M_parseMany_113
          rw [q4, ← hr3]
          exact ⟨q5, b170⟩
        have e81 : b_M_parseMany_81 rec fu (T_M_parseMany_64 rec fu (g + 2)) r2 (nI w) v2 (nI m) (nI (n + 1)) (nI (bw w)) (nI j) val = q := by
          unfold b_M_parseMany_81
          rw [nn, l23]
          cases a7 : cn2 .ne (nI w) 7 with
          | false => rw [a7] at n1; rw [cond_false] at n1 ⊢; rw [← n1]; exact a113
          | true =>
            rw [a7] at n1; rw [cond_true] at n1 ⊢
            cases a6 : cn2 .ne (nI w) 6 with
            | false => rw [a6] at n1; rw [cond_false] at n1 ⊢; rw [← n1]; exact a113
            | true =>
              rw [a6] at n1; rw [cond_true] at n1 ⊢
              cases a5 : cn2 .ne (nI w) 5 with
              | false => rw [a5] at n1; rw [cond_false] at n1 ⊢; rw [← n1]; exact a113
              | true => rw [a5] at n1; rw [cond_true] at n1 ⊢; rw [← n1]; exact a113
        have w81 : v_M_parseMany_81 rec wrec fu (T_M_parseMany_64 rec fu (g + 2)) (WT_M_parseMany_64 rec wrec fu (g + 2)) r2 (nI w) v2 (nI m) (nI (n + 1)) (nI (bw w)) (nI j) val := by
          unfold v_M_parseMany_81
          rw [nn, l23]
          refine ⟨vn, fun a7 => ⟨fun a6 => ⟨fun a5 => ?_, fun a5 => ?_⟩, fun a6 => ?_⟩, fun a7 => ?_⟩
          · rw [a7, a6, a5, cond_true, cond_true, cond_true] at n1; rw [← n1]; exact b113
          · rw [a7, a6, a5, cond_true, cond_true, cond_false] at n1; rw [← n1]; exact b113
          · rw [a7, a6, cond_true, cond_false] at n1; rw [← n1]; exact b113
          · rw [a7, cond_false] at n1; rw [← n1]; exact b113
        constructor
        · show b_M_parseMany_64 rec fu (T_M_parseMany_64 rec fu (g + 3)) r (nI w) v2 (nI m) (nI (n + 1)) (nI (bw w)) (nI j) = _
          unfold b_M_parseMany_64
          rw [ge, cond_false, ge9, cond_false, y3, show cn1 .ne (b2i true) = true from rfl, cond_true, y4]
          exact e81
        · show v_M_parseMany_64 rec wrec fu (T_M_parseMany_64 rec fu (g + 3)) (WT_M_parseMany_64 rec wrec fu (g + 3)) r (nI w) v2 (nI m) (nI (n + 1)) (nI (bw w)) (nI j)
          unfold v_M_parseMany_64
          rw [ge, ge9, y3, y4]
          exact ⟨(fun z => nomatch z), fun _ => ⟨(fun z => nomatch z), fun _ => ⟨trivial, fun _ => ⟨y5, w81⟩, (fun z => nomatch z)⟩⟩⟩
    · obtain ⟨l1, l2, l3, l4⟩ := fl_led hW.1 hW.2.1 (k := 2) (by decide) (by decide)
      have sf := (fl_st hW.1 hW.2.1 (k := 2) (by decide) (by decide)).1
      obtain ⟨cF, hcF⟩ : ∃ cF, cF = f_Le_fault c 2 := ⟨_, rfl⟩
      obtain ⟨rF, hrF⟩ : ∃ rF, rF = (f_M_fails r 2).2 := ⟨_, rfl⟩
      rw [← hcF] at l1 l3 sf y1
      rw [← hrF] at l1 l4
      have A : ∀ a, sA rF a = sA r a := fun a => by rw [l4.2.2.1]
      obtain ⟨D', q1, -, q3, -, -, q6, q7⟩ := put_rr l1 hW.lv (i := nI j) (x := 0) (y := f_Ro_narrowed (nI w) 0) (by rw [A, k22, iw]; omega) (by rw [A, k22, iw]; omega) (by omega) (by rw [A, k24, im]; omega) (by rw [A, k22]) (by rw [A, k22]; exact (nv_eq h1 h2 (x := 0) (fun _ => by decide)).2)
      rw [hpo] at q1 q3 q7
      rw [ph1_s, l3.2.2.2.2.2.1] at q6
      have tD : tho D' (some N) := by
        rcases hW.tho' with z | ⟨ci, fs, z1, z2⟩
        · exact absurd z (by simp)
        · refine Or.inr ⟨ci, fs, ?_, z2⟩
          rw [← z1]
          show (if N < 37 then none else D' N) = (if N < 37 then none else sD c N)
          rw [q6 N (by omega)]
      refine ⟨(some N, pQ cF D' (sN cF) (sU cF)), f_M_fails r 2, fun g hg => ?_, fun g hg => ?_, hW.fl (by decide) (by decide) (fun a a1 a2 => q6 a a2) tD (by rw [← hcF])⟩
      · obtain ⟨g, rfl⟩ : ∃ g', g = g' + 4 := ⟨g - 4, by omega⟩
        have sf' : f_Le_stopped (pQ cF D' (sN cF) (sU cF)) = true := sf
        have a15 : (T_Fo_readRow_15 fu (g + 1)).1 (pQ cF D' (sN cF) (sU cF)) (nI w) (nI m) (some N) (nI (j + 1)) = (some N, pQ cF D' (sN cF) (sU cF)) := by
          show b_Fo_readRow_15 fu (T_Fo_readRow_15 fu g) (pQ cF D' (sN cF) (sU cF)) (nI w) (nI m) (some N) (nI (j + 1)) = _
          unfold b_Fo_readRow_15
          rw [sf', show cn1 .ne (b2i true) = true from rfl, cond_true]
          cases cn2 .ge (nI (j + 1)) (nI m) <;> rfl
        have b15 : (WT_Fo_readRow_15 fu (g + 1)).1 (pQ cF D' (sN cF) (sU cF)) (nI w) (nI m) (some N) (nI (j + 1)) := by
          show v_Fo_readRow_15 fu (T_Fo_readRow_15 fu g) (WT_Fo_readRow_15 fu g) (pQ cF D' (sN cF) (sU cF)) (nI w) (nI m) (some N) (nI (j + 1))
          unfold v_Fo_readRow_15
          rw [sf']
          exact ⟨fun _ => trivial, fun _ => ⟨trivial, fun _ => trivial, (fun z => nomatch z)⟩⟩
        have a29 : (T_Fo_readRow_15 fu (g + 2)).2.2 (pQ cF D' (sN cF) (sU cF)) (nI w) (nI m) (some N) (nI j) = (some N, pQ cF D' (sN cF) (sU cF)) := by
          show b_Fo_readRow_29 fu (T_Fo_readRow_15 fu (g + 1)) (pQ cF D' (sN cF) (sU cF)) (nI w) (nI m) (some N) (nI j) = _
          unfold b_Fo_readRow_29
          rw [sj]
          exact a15
        have b29 : (WT_Fo_readRow_15 fu (g + 2)).2.2 (pQ cF D' (sN cF) (sU cF)) (nI w) (nI m) (some N) (nI j) := by
          show v_Fo_readRow_29 fu (T_Fo_readRow_15 fu (g + 1)) (WT_Fo_readRow_15 fu (g + 1)) (pQ cF D' (sN cF) (sU cF)) (nI w) (nI m) (some N) (nI j)
          unfold v_Fo_readRow_29
          rw [sj]
          exact b15
        constructor
        · show b_Fo_readRow_15 fu (T_Fo_readRow_15 fu (g + 3)) c (nI w) (nI m) (some N) (nI j) = _
          unfold b_Fo_readRow_15
          rw [ge, cond_false, s0, show cn1 .ne (b2i false) = false from rfl, cond_false, t1, y1]
          show b_Fo_readRow_28 fu (T_Fo_readRow_15 fu (g + 2)) cF (nI w) (nI m) (some N) (nI j) 0 (nI j) (some N) = _
          unfold b_Fo_readRow_28
          rw [q1]
          exact a29
        · show v_Fo_readRow_15 fu (T_Fo_readRow_15 fu (g + 3)) (WT_Fo_readRow_15 fu (g + 3)) c (nI w) (nI m) (some N) (nI j)
          unfold v_Fo_readRow_15
          rw [ge, s0, show cn1 .ne (b2i false) = false from rfl, t1, y1]
          refine ⟨(fun z => nomatch z), fun _ => ⟨trivial, (fun z => nomatch z), fun _ => ⟨y2, ?_⟩⟩⟩
          show v_Fo_readRow_28 fu (T_Fo_readRow_15 fu (g + 2)) (WT_Fo_readRow_15 fu (g + 2)) cF (nI w) (nI m) (some N) (nI j) 0 (nI j) (some N)
          unfold v_Fo_readRow_28
          rw [q1]
          exact ⟨q3, q7, b29⟩
      · obtain ⟨g, rfl⟩ : ∃ g', g = g' + 1 := ⟨g - 1, by omega⟩
        constructor
        · show b_M_parseMany_64 rec fu (T_M_parseMany_64 rec fu g) r (nI w) v2 (nI m) (nI (n + 1)) (nI (bw w)) (nI j) = _
          unfold b_M_parseMany_64
          rw [ge, cond_false, ge9, cond_false, y3, show cn1 .ne (b2i false) = false from rfl, cond_false]
        · show v_M_parseMany_64 rec wrec fu (T_M_parseMany_64 rec fu g) (WT_M_parseMany_64 rec wrec fu g) r (nI w) v2 (nI m) (nI (n + 1)) (nI (bw w)) (nI j)
          unfold v_M_parseMany_64
          rw [ge, ge9, y3]
          exact ⟨(fun z => nomatch z), fun _ => ⟨(fun z => nomatch z), fun _ => ⟨trivial, (fun z => nomatch z), fun _ => ⟨w_fails r 2, trivial⟩⟩⟩⟩
/-- a size -/
theorem ld_sz (hfu : 100 ≤ fu) (v1 v2 v3 : Int32) (rec : G_parse) (wrec : GW_parse) (h : RR G T φ n u c r) (hz : SZ c) (hP : PL L p c r) :
    (∃ cF q, f_Fo_readSize fu c = (-1, cF) ∧ w_Fo_readSize fu c ∧ t_M_parseMany_25 rec fu r v1 v2 v3 = q ∧ w_M_parseMany_25 rec wrec fu r v1 v2 v3 ∧ PRd G T φ n u L c r (none, cF) q) ∨
    (∃ (m : Int32) (c1 r1 : St) (p' : Nat), 0 ≤ m.toInt ∧ f_Fo_readSize fu c = (m, c1) ∧ w_Fo_readSize fu c ∧ t_M_parseMany_25 rec fu r v1 v2 v3 = t_M_parseMany_58 rec fu (f_M_thing r1 v1 m v3).2 v1 v2 m (f_M_thing r1 v1 m v3).1 ∧ (w_M_thing r1 v1 m v3 → w_M_parseMany_58 rec wrec fu (f_M_thing r1 v1 m v3).2 v1 v2 m (f_M_thing r1 v1 m v3).1 → w_M_parseMany_25 rec wrec fu r v1 v2 v3) ∧ RR G T φ n u c1 r1 ∧ SZ c1 ∧ PL L p' c1 r1 ∧ GF n u c r c1 r1 n u ∧ opC c c1 ∧ opR r r1 ∧ (n : Int) + 1 + m.toInt ≤ (sI r1 21 8).toInt ∧ (u : Int) + 1 + m.toInt ≤ (sI r1 21 8).toInt ∧ (sI r1 21 8).toInt ≤ 40000) := by
  unfold f_Fo_readSize w_Fo_readSize t_M_parseMany_25 w_M_parseMany_25
  rcases rb hfu hP (cnt := 4) (x := 4) rfl (by decide) with ⟨g0, val, y1, y2, y3, y4, y5, y6, -⟩ | ⟨g0, y1, y2, y3⟩
  · have h1 : RR G T φ n u (pI c 2 5 (nI (p + 4))) (pI r 21 30 (nI (p + 4))) := (h.cI (a := 2) _ (Or.inl (by decide))).rI (k := 30) _ (Or.inr (Or.inr (by decide)))
    have hz1 : SZ (pI c 2 5 (nI (p + 4))) := hz
    have g1 : GF n u c r (pI c 2 5 (nI (p + 4))) (pI r 21 30 (nI (p + 4))) n u := GF.w rfl rfl rfl rfl rfl rfl rfl rfl rfl rfl
    have o1 : opC c (pI c 2 5 (nI (p + 4))) := opC_2 c (by decide) _
    have o2 : opR r (pI r 21 30 (nI (p + 4))) := opR_30 _
    obtain ⟨c1, hc1⟩ : ∃ c1, c1 = pI c 2 5 (nI (p + 4)) := ⟨_, rfl⟩
    obtain ⟨r1, hr1⟩ : ∃ r1, r1 = pI r 21 30 (nI (p + 4)) := ⟨_, rfl⟩
    rw [← hc1] at y1 o1 hz1
    rw [← hr1] at y4 o2
    rw [← hc1, ← hr1] at h1 g1 y6
    rw [y1, y3, y4, show cn1 .ne (b2i true) = true from rfl, cond_true]
    dsimp only
    obtain ⟨m, hm⟩ : ∃ m, m = Int64.toInt32 val := ⟨_, rfl⟩
    unfold t_Fo_readSize_3 w_Fo_readSize_3 t_M_parseMany_36 w_M_parseMany_36
    rw [st_0 hz1, show cn1 .eq (b2i false) = true from rfl, cond_true, ← hm, c1_ge]
    by_cases gm : 0 ≤ m.toInt
    · rw [dt gm, cond_true, cond_true, L_1 gm]
      have lm := m31 m
      rcases mk2 h1 (z := 1 + m.toNatClampNeg) (by omega) with ⟨v, e1, e2, h2, mn, mu, mv, mz⟩ | ⟨e1, e2⟩
      · rw [e1, e2]
        dsimp only
        unfold t_Fo_readSize_26 t_M_parseMany_50 w_M_parseMany_50
        rw [show cn1 .eq (b2i true) = false from rfl, cond_false, show cn1 .ne (b2i true) = true from rfl, cond_true]
        have em : (m.toNatClampNeg : Int) = m.toInt := by rw [tn_eq]; omega
        exact Or.inr ⟨m, pI c1 1 0 v, pI r1 21 8 v, p + 4, gm, rfl, ⟨y2, trivial, fun _ => ⟨fun _ => ⟨trivial, trivial⟩, (fun z => nomatch z)⟩, (fun z => nomatch z)⟩, rfl, fun a b => ⟨trivial, fun _ => ⟨y5, fun _ => ⟨trivial, fun _ => ⟨a, b⟩, (fun z => nomatch z)⟩, (fun z => nomatch z)⟩, (fun z => nomatch z)⟩, h2, hz1, y6, g1.tr (GF.mk v), o1.tr (opC_1 _ 0 v), o2.tr (opR_I _ (Or.inl (by decide)) v), by show _ ≤ v.toInt; omega, by show _ ≤ v.toInt; omega, mv⟩
      · rw [e1, e2]
        dsimp only
        unfold t_Fo_readSize_26 t_M_parseMany_50 w_M_parseMany_50
        rw [show cn1 .eq (b2i false) = true from rfl, cond_true, show cn1 .ne (b2i false) = false from rfl, cond_false]
        exact Or.inl ⟨_, _, rfl, ⟨y2, trivial, fun _ => ⟨fun _ => ⟨trivial, trivial⟩, (fun z => nomatch z)⟩, (fun z => nomatch z)⟩, rfl, ⟨trivial, fun _ => ⟨y5, fun _ => ⟨trivial, (fun z => nomatch z), fun _ => trivial⟩, (fun z => nomatch z)⟩, (fun z => nomatch z)⟩, PRd.tr g1 o1 o2 (EX.rf _ _) (PRd.ful h1 hz1)⟩
    · rw [df gm, cond_false, cond_false]
      exact Or.inl ⟨_, _, rfl, ⟨y2, trivial, fun _ => ⟨(fun z => nomatch z), fun _ => ⟨w_fault c1 3, trivial⟩⟩, (fun z => nomatch z)⟩, rfl, ⟨trivial, fun _ => ⟨y5, (fun z => nomatch z), fun _ => ⟨w_fails r1 3, trivial⟩⟩, (fun z => nomatch z)⟩, PRd.tr g1 o1 o2 (EX.rf _ _) (PRd.fl h1 hz1 (by decide) (by decide) (tho_n _))⟩
  · have sf := (fl_st h hz (k := 2) (by decide) (by decide)).1
    rw [y1, y3, show cn1 .ne (b2i false) = false from rfl, cond_false]
    dsimp only
    unfold t_Fo_readSize_3 w_Fo_readSize_3
    rw [sf, show cn1 .eq (b2i true) = false from rfl, cond_false]
    exact Or.inl ⟨_, _, rfl, ⟨y2, trivial, (fun z => nomatch z), fun _ => trivial⟩, rfl, ⟨trivial, (fun z => nomatch z), fun _ => ⟨w_fails r 2, trivial⟩⟩, PRd.fl h hz (by decide) (by decide) (tho_n _)⟩
/-- a row -/
theorem ld_row (hfu : 1000000 ≤ fu) (h1 : 1 ≤ w) (h2 : w ≤ 8) (v2 : Int32) (rec : G_parse) (wrec : GW_parse) (h : RR G T φ n u c r) (hz : SZ c) (hP : PL L p c r) : PRd G T φ n u L c r (f_Fo_readRow fu c (nI w)) (f_M_parseMany rec fu r (nI w) v2) ∧ w_Fo_readRow fu c (nI w) ∧ w_M_parseMany rec wrec fu r (nI w) v2 := by
  have iw : (nI w).toInt = (w : Int) := yI_i (by omega)
  have n10 : cn2 .ne (nI w) 10 = true := by rw [c2_ne, iw]; exact dt (by show ¬ (w : Int) = 10; omega)
  unfold f_Fo_readRow w_Fo_readRow f_M_parseMany w_M_parseMany
  rw [n10, cond_true]
  rcases ld_sz (show 100 ≤ fu by omega) (nI w) v2 0 rec wrec h hz hP with ⟨cF, q, y1, y2, y3, y4, y5⟩ | ⟨m, c1, r1, p', gm, y1, y2, y3, y4, hR, hz1, hP1, g1, o1, o2, mn, mu, mz⟩
  · rw [y1, y3]
    dsimp only
    unfold t_Fo_readRow_2 w_Fo_readRow_2
    rw [show cn1 .ge (-1 : Int32) = false from rfl, cond_false]
    exact ⟨y5, ⟨y2, (fun z => nomatch z), fun _ => trivial⟩, fun _ => y4, (fun z => nomatch z)⟩
  · have hb := hR.bnd
    have hb2 := hR.2.2.2.1
    obtain ⟨mm, hmm, hm4⟩ : ∃ mm : Nat, m = nI mm ∧ mm ≤ 40000 := ⟨m.toNatClampNeg, nIof gm, by rw [tn_eq]; omega⟩
    subst hmm
    have im : (nI mm).toInt = (mm : Int) := yI_i (by omega)
    have nm : (nI mm).toNatClampNeg = mm := nN (by omega)
    obtain ⟨t1, t2, t3, t4⟩ := bw_tab w (by omega) h1
    obtain ⟨i1, i2, i3⟩ := i_ro (s := c1) (k := nI w) (m := nI mm) hb.2.2.2.2 gm (by omega) (by rw [nm]; omega)
    have hN := nw_row0 hR (k := nI w) (m := nI mm) (q := 0) (by omega) (by omega) gm (by omega) (by omega)
    obtain ⟨a1, a2⟩ := th_M (r := r1) (k := nI w) (m := nI mm) (q := 0) hb2.2.1 hb2.2.2.1 (by omega) (fun _ => gm)
    rw [nm] at hN i1
    obtain ⟨c2, hc2⟩ : ∃ c2, c2 = pQ c1 (rowD (sD c1) (sN c1) (nI w) (nI mm)) (sN c1 + 2) (sU c1 + 2 + mm) := ⟨_, rfl⟩
    obtain ⟨r2, hr2⟩ : ∃ r2, r2 = thR r1 n u (nI w) (nI mm) 0 := ⟨_, rfl⟩
    rw [← hc2] at i1 hN
    rw [← hr2] at a1 hN
    have hW : WK G T φ n u L mm (sN c1) (nI w) (nI mm) c1 r1 c2 r2 p' := by
      refine ⟨hN, by rw [hc2]; exact hz1, by rw [hc2, hr2]; exact hP1.qq _ _ _ _ _ _ _ _, ?_, by rw [hc2]; exact opC_Q _ _ _ _, by rw [hr2]; exact thR_op _ _ _ _ _ _ hb2.2.1 (by omega), ?_, Nat.le_refl _, hb.2.2.2.2, by omega⟩
      · rw [hc2, hr2]
        refine GF.nw (fun a ha => ?_) (by omega)
        unfold rowD
        rw [if_neg (by omega), if_neg (by omega)]
      · rw [hr2]
        exact ⟨if_pos rfl, if_pos rfl, if_pos rfl⟩
    obtain ⟨x, q, x1, x2, x3⟩ := rwl_go (rec := rec) (wrec := wrec) (v2 := v2) (show 100 ≤ fu by omega) h1 h2 hm4 mm 0 p' c2 r2 (by omega) hW
    obtain ⟨b1, b2⟩ := x1 fu (by omega)
    obtain ⟨d1, d2⟩ := x2 fu (by omega)
    rw [y1, y3, a1]
    rw [a1] at y4
    dsimp only at y4 ⊢
    unfold t_Fo_readRow_2 w_Fo_readRow_2 t_Fo_readRow_12 w_Fo_readRow_12
    rw [show cn1 .ge (nI mm) = true from by rw [c1_ge]; exact dt gm, cond_true, i1]
    have e58 : t_M_parseMany_58 rec fu r2 (nI w) v2 (nI mm) (nI (n + 1)) = q := by
      unfold t_M_parseMany_58
      rw [t2]
      exact d1
    have w58 : w_M_parseMany_58 rec wrec fu r2 (nI w) v2 (nI mm) (nI (n + 1)) := by
      unfold w_M_parseMany_58
      rw [t2]
      exact d2
    have e12 : (T_Fo_readRow_15 fu fu).1 c2 (nI w) (nI mm) (some (sN c1)) 0 = x := b1
    have oC1 : (oC (nwO (sD c1) (sN c1) 6) (some (sN c1))).isSome = true := by
      rw [oC_at hb.2.2.2.2 (show nwO (sD c1) (sN c1) 6 (sN c1) = some (.inl (6, [.inl 0, .inr (.inr none)])) from hupS)]
      rfl
    rw [e58, e12]
    exact ⟨PRd.tr g1 o1 o2 (EX.rf _ _) x3, ⟨y2, fun _ => ⟨i3, i2, oC1, b2⟩, (fun z => nomatch z)⟩, fun _ => y4 a2 w58, (fun z => nomatch z)⟩
end RWG
