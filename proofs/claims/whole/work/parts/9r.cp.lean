/-! OP 21: the loops -/
noncomputable def cpC (dn : Bool) (C : Nat → Int64) (s d k n : Nat) : Nat → Int64 := fun x => if dn = true then (if d + (k - n) ≤ x ∧ x < d + k then C (s + (x - d)) else C x) else (if d ≤ x ∧ x < d + n then C (s + (x - d)) else C x)
theorem cpC_0 (dn : Bool) (C : Nat → Int64) (s d k : Nat) : cpC dn C s d k 0 = C := by
  funext x
  unfold cpC
  cases dn
  · rw [if_neg (by decide), if_neg (by omega)]
  · rw [if_pos rfl, if_neg (by omega)]
theorem cpC_k (dn : Bool) (C : Nat → Int64) (s d k : Nat) : cpC dn C s d k k = va_cpy C C s d k := by
  funext x
  unfold cpC va_cpy
  cases dn
  · rw [if_neg (by decide)]
  · rw [if_pos rfl]
    by_cases g : d ≤ x ∧ x < d + k
    · rw [if_pos g, if_pos (by omega)]
    · rw [if_neg g, if_neg (by omega)]
theorem cpC_s {dn : Bool} {C : Nat → Int64} {s d k n : Nat} (hn : n < k) (h : (dn = false ∧ (s + k ≤ d ∨ d ≤ s)) ∨ (dn = true ∧ s < d)) : vp_updL (cpC dn C s d k n) (d + (if dn = true then k - 1 - n else n)) (cpC dn C s d k n (s + (if dn = true then k - 1 - n else n))) = cpC dn C s d k (n + 1) := by
  funext x
  unfold vp_updL cpC
  cases dn
  · have h' : s + k ≤ d ∨ d ≤ s := by
      rcases h with h | h
      · exact h.2
      · exact absurd h.1 (by decide)
    simp only [Bool.false_eq_true, if_false]
    rw [if_neg (show ¬ (d ≤ s + n ∧ s + n < d + n) by omega)]
    by_cases g : x = d + n
    · rw [if_pos g, if_pos (show d ≤ x ∧ x < d + (n + 1) by omega), g]
      congr 1
      omega
    · rw [if_neg g]
      by_cases g2 : d ≤ x ∧ x < d + n
      · rw [if_pos g2, if_pos (show d ≤ x ∧ x < d + (n + 1) by omega)]
      · rw [if_neg g2, if_neg (show ¬ (d ≤ x ∧ x < d + (n + 1)) by omega)]
  · have h' : s < d := by
      rcases h with h | h
      · exact absurd h.1 (by decide)
      · exact h.2
    simp only [if_true]
    rw [if_neg (show ¬ (d + (k - n) ≤ s + (k - 1 - n) ∧ s + (k - 1 - n) < d + k) by omega)]
    by_cases g : x = d + (k - 1 - n)
    · rw [if_pos g, if_pos (show d + (k - (n + 1)) ≤ x ∧ x < d + k by omega), g]
      congr 1
      omega
    · rw [if_neg g]
      by_cases g2 : d + (k - n) ≤ x ∧ x < d + k
      · rw [if_pos g2, if_pos (show d + (k - (n + 1)) ≤ x ∧ x < d + k by omega)]
      · rw [if_neg g2, if_neg (show ¬ (d + (k - (n + 1)) ≤ x ∧ x < d + k) by omega)]
section CP
variable {G : AH} {T : Nat} {φ : Nat → Nat} {n u fu : Nat}
/-- the reference's loop over rows -/
theorem rw_go {r : St} {a b s d k : Nat} {dn : Bool} {C : Nat → Int64} {vk v6 v7 v8 : Int32} (a40 : a ≤ 40000) (ka : 1 ≤ (sA r 22 a).toInt ∧ (sA r 22 a).toInt ≤ 8) (hk : vk.toInt = (k : Int)) (h6 : v6.toInt = (s : Int)) (h7 : v7.toInt = (d : Int)) (h8 : v8 = b2i dn) (hs : s + k ≤ 40001) (hd : d + k ≤ 40001) (h : (dn = false ∧ (s + k ≤ d ∨ d ≤ s)) ∨ (dn = true ∧ s < d)) : ∀ (m i : Nat) (v9 : Int32), i + m = k → v9.toInt = (i : Int) → ∀ g, 3 * m < g →
    (T_M_copies_100 fu g).1 (pB r 26 (cpC dn C s d k i)) (nI a) (nI b) vk v6 v7 v8 v9 = f_M_takesFor (pB r 26 (cpC dn C s d k k)) (Int32.toInt64 vk) ∧ (WT_M_copies_100 fu g).1 (pB r 26 (cpC dn C s d k i)) (nI a) (nI b) vk v6 v7 v8 v9
  | 0, i, v9, hi, h9, g + 1, _ => by
    have ge : cn2 .ge v9 vk = true := by rw [c2_ge]; exact dt (by omega)
    have ei : i = k := by omega
    constructor
    · show b_M_copies_100 fu (T_M_copies_100 fu g) _ _ _ _ _ _ _ _ = _
      unfold b_M_copies_100
      rw [ge, cond_true, ei]
    · show v_M_copies_100 fu (T_M_copies_100 fu g) (WT_M_copies_100 fu g) _ _ _ _ _ _ _ _
      unfold v_M_copies_100
      rw [ge]
      exact ⟨fun _ => ⟨⟨trivial, trivial⟩, trivial⟩, (fun z => nomatch z)⟩
  | m + 1, i, v9, hi, h9, g + 3, hg => by
    have ge : cn2 .ge v9 vk = false := by rw [c2_ge]; exact df (by omega)
    obtain ⟨ir1, ir2⟩ := ir_M (r := pB r 26 (cpC dn C s d k i)) a40
    have e9 := i_add (x := v9) 1 (by omega) (by omega) (by decide) (by decide)
    obtain ⟨w, hw, hwe⟩ : ∃ w : Int32, w.toInt = ((if dn = true then k - 1 - i else i : Nat) : Int) ∧ w = cond (cn1 .eq v8) v9 ((vk - 1) - v9) := by
      cases dn
      · exact ⟨v9, by rw [if_neg (by decide)]; exact h9, by rw [h8]; rfl⟩
      · refine ⟨(vk - 1) - v9, ?_, by rw [h8]; rfl⟩
        have e1 := i_subn (x := vk) (y := 1) hk (show ((1 : Int32).toInt) = 1 from rfl) (by omega) (by omega) (by decide) (by decide)
        have e2 := i_subn (x := vk - 1) (y := v9) e1 h9 (by omega) (by omega) (by omega) (by omega)
        rw [e2, if_pos rfl]
        omega
    have wb : (if dn = true then k - 1 - i else i) < k := by split <;> omega
    have a6 := i_addy (x := v6) (y := w) h6 hw (by omega) (by omega)
    have a7 := i_addy (x := v7) (y := w) h7 hw (by omega) (by omega)
    have n6 : (v6 + w).toNatClampNeg = s + (if dn = true then k - 1 - i else i) := by rw [tn_eq, a6]; omega
    have n7 : (v7 + w).toNatClampNeg = d + (if dn = true then k - 1 - i else i) := by rw [tn_eq, a7]; omega
    have st : pB (pB r 26 (cpC dn C s d k i)) 26 (vp_updL (sB (pB r 26 (cpC dn C s d k i)) 26) (v7 + w).toNatClampNeg (sB (pB r 26 (cpC dn C s d k i)) 26 (v6 + w).toNatClampNeg)) = pB r 26 (cpC dn C s d k (i + 1)) := by
      rw [pB_pB, n6, n7]
      show pB r 26 (vp_updL (cpC dn C s d k i) _ (cpC dn C s d k i _)) = _
      rw [cpC_s (by omega) h]
    obtain ⟨i1, i2⟩ := rw_go a40 ka hk h6 h7 h8 hs hd h m (i + 1) (v9 + Int32.ofInt 1) (by omega) (by omega) g (by omega)
    have hf : (T_M_copies_100 fu (g + 3)).1 (pB r 26 (cpC dn C s d k i)) (nI a) (nI b) vk v6 v7 v8 v9 = (T_M_copies_100 fu (g + 2)).2.1 (pB r 26 (cpC dn C s d k i)) (nI a) (nI b) vk v6 v7 v8 v9 w := by
      show b_M_copies_100 fu (T_M_copies_100 fu (g + 2)) _ _ _ _ _ _ _ _ = _
      unfold b_M_copies_100
      rw [ge, cond_false, hwe]
      cases cn1 .eq v8 <;> rfl
    have hf2 : (T_M_copies_100 fu (g + 2)).2.1 (pB r 26 (cpC dn C s d k i)) (nI a) (nI b) vk v6 v7 v8 v9 w = (T_M_copies_100 fu g).1 (pB r 26 (cpC dn C s d k (i + 1))) (nI a) (nI b) vk v6 v7 v8 (v9 + Int32.ofInt 1) := by
      show b_M_copies_112 fu (T_M_copies_100 fu (g + 1)) _ _ _ _ _ _ _ _ _ = _
      unfold b_M_copies_112
      rw [ir1, cn1_ne_b2i, show decide (1 ≤ (sA (pB r 26 (cpC dn C s d k i)) 22 a).toInt ∧ (sA (pB r 26 (cpC dn C s d k i)) 22 a).toInt ≤ 8) = true from dt ka, cond_true]
      show b_M_copies_132 fu (T_M_copies_100 fu g) _ _ _ _ _ _ _ _ _ = _
      unfold b_M_copies_132
      rw [st]
    have hw2 : (WT_M_copies_100 fu (g + 2)).2.1 (pB r 26 (cpC dn C s d k i)) (nI a) (nI b) vk v6 v7 v8 v9 w := by
      show v_M_copies_112 fu (T_M_copies_100 fu (g + 1)) (WT_M_copies_100 fu (g + 1)) _ _ _ _ _ _ _ _ _
      unfold v_M_copies_112
      rw [ir1, cn1_ne_b2i, show decide (1 ≤ (sA (pB r 26 (cpC dn C s d k i)) 22 a).toInt ∧ (sA (pB r 26 (cpC dn C s d k i)) 22 a).toInt ≤ 8) = true from dt ka]
      refine ⟨ir2, fun _ => ?_, (fun z => nomatch z)⟩
      show v_M_copies_132 fu (T_M_copies_100 fu g) (WT_M_copies_100 fu g) _ _ _ _ _ _ _ _ _
      unfold v_M_copies_132
      rw [st]
      exact ⟨vp_of (by omega) (by omega), vp_of (by omega) (by omega), i2⟩
    constructor
    · rw [hf, hf2]
      exact i1
    · show v_M_copies_100 fu (T_M_copies_100 fu (g + 2)) (WT_M_copies_100 fu (g + 2)) _ _ _ _ _ _ _ _
      unfold v_M_copies_100
      rw [ge]
      refine ⟨(fun z => nomatch z), fun _ => ⟨fun z => ?_, fun z => ?_⟩⟩
      · rw [z, cond_true] at hwe
        rw [hwe] at hw2
        exact hw2
      · rw [z, cond_false] at hwe
        rw [hwe] at hw2
        exact hw2
/-- one member of a shelf goes to another place: both sides -/
theorem sm_1 {c r : St} (h : RR G T φ n u c r) {a b x y : Nat} (ha : a ≤ n ∧ LVE φ a) (hb : b ≤ n ∧ LVE φ b) (ka : (sA r 22 a).toInt = 9 ∨ (sA r 22 a).toInt = 10) (kb : (sA r 22 b).toInt = 9 ∨ (sA r 22 b).toInt = 10) (hx : x < (sA r 24 a).toNatClampNeg) (hy : y < (sA r 24 b).toNatClampNeg) : ∃ m, (m ≤ n ∧ LVE φ m) ∧ aRF (sD c) (some (φ a + 1)) x = po φ m ∧ sB r 26 ((sA r 23 a).toNatClampNeg + x) = lN m ∧ (m = 0 ∨ gok (sA r 22) (sA r 25) m a) ∧ ((m = 0 ∨ gok (sA r 22) (sA r 25) m b) → RR G T φ n u (pQ c (dR (sD c) (some (φ b + 1)) (va_up (aRF (sD c) (some (φ b + 1))) y (po φ m))) (sN c) (sU c)) (pB r 26 (vp_updL (sB r 26) ((sA r 23 b).toNatClampNeg + y) (lN m)))) := by
  have g0 := k_pos h.rt (v := a) (by omega)
  obtain ⟨b', f, d1, d2, d0, d3, d5, d6, d7, d8, d9⟩ := rd_shl h.rt (show 1 ≤ a by omega) ha ka
  obtain ⟨m, m1, m2, m3, m4⟩ := d3 x hx
  exact ⟨m, m1, by rw [aRF_at (by omega) d2]; exact m3, m2, m4, fun g => h.shlput hb kb hy m1 g⟩
/-- forwards -/
theorem sf_go {a b i j k : Nat} {vi vj vk v6 v7 : Int32} (ha : a ≤ n ∧ LVE φ a) (hb : b ≤ n ∧ LVE φ b) (hi : vi.toInt = (i : Int)) (hj : vj.toInt = (j : Int)) (hk : vk.toInt = (k : Int)) : ∀ (m t : Nat) (c r : St) (vt : Int32), RR G T φ n u c r → (sA r 22 a).toInt = 9 ∨ (sA r 22 a).toInt = 10 → (sA r 22 b).toInt = 9 ∨ (sA r 22 b).toInt = 10 → i + k ≤ (sA r 24 a).toNatClampNeg → j + k ≤ (sA r 24 b).toNatClampNeg → v6.toInt = (sA r 23 a).toInt + i → v7.toInt = (sA r 23 b).toInt + j → t + m = k → vt.toInt = (t : Int) → ∀ g g', 2 * m < g → 3 * m < g' →
    ∃ (ok : Bool) (D' : AH) (C' : Nat → Int64), (T_Sh_takeFrom_30 fu g).1 c (po φ b) (po φ a) vi vj vk vt = (ok, pQ c D' (sN c) (sU c)) ∧ (T_M_copies_100 fu g').1 r (nI a) (nI b) vk v6 v7 0 vt = cond ok (f_M_takesFor (pB r 26 C') (Int32.toInt64 vk)) (f_M_fails (pB r 26 C') 5) ∧ RR G T φ n u (pQ c D' (sN c) (sU c)) (pB r 26 C') ∧ (WT_Sh_takeFrom_30 fu g).1 c (po φ b) (po φ a) vi vj vk vt ∧ (WT_M_copies_100 fu g').1 r (nI a) (nI b) vk v6 v7 0 vt
  | 0, t, c, r, vt, h, ka, kb, h1, h2, h6, h7, ht, hvt, g + 1, g' + 1, _, _ => by
    have ge : cn2 .ge vt vk = true := by rw [c2_ge]; exact dt (by omega)
    have eD : pQ c (sD c) (sN c) (sU c) = c := rfl
    have eC : pB r 26 (sB r 26) = r := by
      have : up1 r.2.2.2.1 26 (r.2.2.2.1 26) = r.2.2.2.1 := by
        funext b
        unfold up1
        by_cases h : b = 26
        · rw [if_pos h, h]
        · rw [if_neg h]
      show (r.1, r.2.1, r.2.2.1, up1 r.2.2.2.1 26 (r.2.2.2.1 26), r.2.2.2.2) = r
      rw [this]
    refine ⟨true, sD c, sB r 26, ?_, ?_, ?_, ?_, ?_⟩
    · show b_Sh_takeFrom_30 fu (T_Sh_takeFrom_30 fu g) _ _ _ _ _ _ _ = _
      unfold b_Sh_takeFrom_30
      rw [ge, cond_true, eD]
    · show b_M_copies_100 fu (T_M_copies_100 fu g') _ _ _ _ _ _ _ _ = _
      unfold b_M_copies_100
      rw [ge, cond_true, cond_true, eC]
    · rw [eD, eC]
      exact h
    · show v_Sh_takeFrom_30 fu (T_Sh_takeFrom_30 fu g) (WT_Sh_takeFrom_30 fu g) _ _ _ _ _ _ _
      unfold v_Sh_takeFrom_30
      rw [ge]
      exact ⟨fun _ => trivial, (fun z => nomatch z)⟩
    · show v_M_copies_100 fu (T_M_copies_100 fu g') (WT_M_copies_100 fu g') _ _ _ _ _ _ _ _
      unfold v_M_copies_100
      rw [ge]
      exact ⟨fun _ => ⟨⟨trivial, trivial⟩, trivial⟩, (fun z => nomatch z)⟩
  | m + 1, t, c, r, vt, h, ka, kb, h1, h2, h6, h7, ht, hvt, g + 2, g' + 3, hg, hg' => by
    have hbn := h.bnd
    have a40 : a ≤ 40000 := by omega
    have b40 : b ≤ 40000 := by omega
    have ge : cn2 .ge vt vk = false := by rw [c2_ge]; exact df (by omega)
    obtain ⟨p1, p2, p3, p4, p5, p6, p7, p8, p9, p10⟩ := p_shl h.rt ha ka
    obtain ⟨q1, q2, q3, q4, q5, q6, q7, q8, q9, q10⟩ := p_shl h.rt hb kb
    obtain ⟨x, x1, x2, x3, x4, x5⟩ := sm_1 h ha hb ka kb (x := i + t) (y := j + t) (by omega) (by omega)
    have ma : ((sA r 24 a).toNatClampNeg : Int) = (sA r 24 a).toInt := by rw [tn_eq]; omega
    have mb : ((sA r 24 b).toNatClampNeg : Int) = (sA r 24 b).toInt := by rw [tn_eq]; omega
    have sa0 : 0 ≤ (sA r 23 a).toInt := (rd_shl h.rt (show 1 ≤ a by have := k_pos h.rt (v := a) (by omega); omega) ha ka).choose_spec.choose_spec.2.2.2.2.2.2.2.1
    have sb0 : 0 ≤ (sA r 23 b).toInt := (rd_shl h.rt (show 1 ≤ b by have := k_pos h.rt (v := b) (by omega); omega) hb kb).choose_spec.choose_spec.2.2.2.2.2.2.2.1
    have sa1 : (sA r 23 a).toNatClampNeg + (sA r 24 a).toNatClampNeg ≤ u := (rd_shl h.rt (show 1 ≤ a by have := k_pos h.rt (v := a) (by omega); omega) ha ka).choose_spec.choose_spec.2.2.2.2.2.2.2.2
    have sb1 : (sA r 23 b).toNatClampNeg + (sA r 24 b).toNatClampNeg ≤ u := (rd_shl h.rt (show 1 ≤ b by have := k_pos h.rt (v := b) (by omega); omega) hb kb).choose_spec.choose_spec.2.2.2.2.2.2.2.2
    have sae : ((sA r 23 a).toNatClampNeg : Int) = (sA r 23 a).toInt := by rw [tn_eq]; omega
    have sbe : ((sA r 23 b).toNatClampNeg : Int) = (sA r 23 b).toInt := by rw [tn_eq]; omega
    obtain ⟨s1, s2, s3, s4, s5⟩ := sh_ix h ha ka (i := vi + vt) (by rw [i_addy hi hvt (by omega) (by omega)]; omega) (by rw [i_addy hi hvt (by omega) (by omega)]; omega)
    obtain ⟨t1, t2, t3, t4, t5⟩ := sh_ix h hb kb (i := vj + vt) (by rw [i_addy hj hvt (by omega) (by omega)]; omega) (by rw [i_addy hj hvt (by omega) (by omega)]; omega)
    have ni : (vi + vt).toNatClampNeg = i + t := by rw [tn_eq, i_addy hi hvt (by omega) (by omega)]; omega
    have nj : (vj + vt).toNatClampNeg = j + t := by rw [tn_eq, i_addy hj hvt (by omega) (by omega)]; omega
    have i6 := i_addy (x := v6) (y := vt) h6 hvt (by omega) (by omega)
    have i7 := i_addy (x := v7) (y := vt) h7 hvt (by omega) (by omega)
    have n6 : (v6 + vt).toNatClampNeg = (sA r 23 a).toNatClampNeg + (i + t) := by rw [tn_eq, i6]; omega
    have n7 : (v7 + vt).toNatClampNeg = (sA r 23 b).toNatClampNeg + (j + t) := by rw [tn_eq, i7]; omega
    have et := i_add (x := vt) 1 (by omega) (by omega) (by decide) (by decide)
    obtain ⟨o1, o2, o3⟩ := go_M h hb kb x1
    have nr : decide (1 ≤ (sA r 22 a).toInt ∧ (sA r 22 a).toInt ≤ 8) = false := df (by omega)
    obtain ⟨ir1, ir2⟩ := ir_M (r := r) a40
    rw [nr] at ir1
    have hM : (T_M_copies_100 fu (g' + 3)).1 r (nI a) (nI b) vk v6 v7 0 vt = cond (decide (f_Sh_refusal c (po φ b) (po φ x) = 0)) ((T_M_copies_100 fu g').1 (pB r 26 (vp_updL (sB r 26) ((sA r 23 b).toNatClampNeg + (j + t)) (lN x))) (nI a) (nI b) vk v6 v7 0 (vt + Int32.ofInt 1)) (f_M_fails r 5) := by
      show b_M_copies_100 fu (T_M_copies_100 fu (g' + 2)) _ _ _ _ _ _ _ _ = _
      unfold b_M_copies_100
      rw [ge, cond_false, show cn1 .eq (0 : Int32) = true from rfl, cond_true]
      show b_M_copies_112 fu (T_M_copies_100 fu (g' + 1)) _ _ _ _ _ _ _ _ _ = _
      unfold b_M_copies_112
      rw [ir1, show cn1 .ne (b2i false) = false from rfl, cond_false, n6, x3, lN_I, o1, cn1_ne_b2i]
      show cond _ (b_M_copies_132 fu (T_M_copies_100 fu g') _ _ _ _ _ _ _ _ _) _ = _
      unfold b_M_copies_132
      rw [n6, n7, x3]
    have hC : (T_Sh_takeFrom_30 fu (g + 2)).1 c (po φ b) (po φ a) vi vj vk vt = cond (decide (f_Sh_refusal c (po φ b) (po φ x) = 0)) ((T_Sh_takeFrom_30 fu g).1 (pQ c (dR (sD c) (some (φ b + 1)) (va_up (aRF (sD c) (some (φ b + 1))) (j + t) (po φ x))) (sN c) (sU c)) (po φ b) (po φ a) vi vj vk (vt + Int32.ofInt 1)) (false, c) := by
      show b_Sh_takeFrom_30 fu (T_Sh_takeFrom_30 fu (g + 1)) _ _ _ _ _ _ _ = _
      unfold b_Sh_takeFrom_30
      rw [ge, cond_false, p6, q6, ni, nj, x2]
      have e0 : cn1 .eq (f_Sh_refusal c (po φ b) (po φ x)) = decide (f_Sh_refusal c (po φ b) (po φ x) = 0) := by
        rw [c1_eq]
        exact dcg ⟨fun z => Int32.toInt_inj.mp z, fun z => by rw [z]; rfl⟩
      rw [e0]
      rfl
    have wgo := o2
    by_cases gr : f_Sh_refusal c (po φ b) (po φ x) = 0
    · have h3 := x5 (o3.mp gr)
      obtain ⟨ok, D', C', y1, y2, y3, y4, y5⟩ := sf_go ha hb hi hj hk m (t + 1) _ _ (vt + Int32.ofInt 1) h3 ka kb h1 h2 h6 h7 (by omega) (by omega) g g' (by omega) (by omega)
      refine ⟨ok, D', C', ?_, ?_, ?_, ?_, ?_⟩
      · rw [hC, dt gr, cond_true, y1]
        rfl
      · rw [hM, dt gr, cond_true, y2, pB_pB]
      · rw [pB_pB] at y3
        exact y3
      · show v_Sh_takeFrom_30 fu (T_Sh_takeFrom_30 fu (g + 1)) (WT_Sh_takeFrom_30 fu (g + 1)) _ _ _ _ _ _ _
        unfold v_Sh_takeFrom_30
        rw [ge, p6, q6, p8, q8, ni, nj, x2]
        refine ⟨(fun z => nomatch z), fun _ => ⟨p3, p7, s4, (rf_C h hb kb x1).2, q4, fun _ => ⟨q3, q7, t4, a_tho h.rt x1, y4⟩, fun z => trivial⟩⟩
      · show v_M_copies_100 fu (T_M_copies_100 fu (g' + 2)) (WT_M_copies_100 fu (g' + 2)) _ _ _ _ _ _ _ _
        unfold v_M_copies_100
        rw [ge]
        refine ⟨(fun z => nomatch z), fun _ => ⟨fun _ => ?_, (fun z => nomatch z)⟩⟩
        show v_M_copies_112 fu (T_M_copies_100 fu (g' + 1)) (WT_M_copies_100 fu (g' + 1)) _ _ _ _ _ _ _ _ _
        unfold v_M_copies_112
        rw [ir1, n6, x3, lN_I]
        refine ⟨ir2, (fun z => nomatch z), fun _ => ⟨vp_of (by omega) (by omega), o2, fun _ => ?_, fun _ => ⟨w_fails r 5, trivial⟩⟩⟩
        show v_M_copies_132 fu (T_M_copies_100 fu g') (WT_M_copies_100 fu g') _ _ _ _ _ _ _ _ _
        unfold v_M_copies_132
        rw [n6, n7, x3]
        exact ⟨vp_of (by omega) (by omega), vp_of (by omega) (by omega), y5⟩
    · have eC : pB r 26 (sB r 26) = r := by
        have : up1 r.2.2.2.1 26 (r.2.2.2.1 26) = r.2.2.2.1 := by
          funext b
          unfold up1
          by_cases h : b = 26
          · rw [if_pos h, h]
          · rw [if_neg h]
        show (r.1, r.2.1, r.2.2.1, up1 r.2.2.2.1 26 (r.2.2.2.1 26), r.2.2.2.2) = r
        rw [this]
      refine ⟨false, sD c, sB r 26, ?_, ?_, ?_, ?_, ?_⟩
      · rw [hC, df gr, cond_false]
        rfl
      · rw [hM, df gr, cond_false, cond_false, eC]
      · rw [eC]
        exact h
      · show v_Sh_takeFrom_30 fu (T_Sh_takeFrom_30 fu (g + 1)) (WT_Sh_takeFrom_30 fu (g + 1)) _ _ _ _ _ _ _
        unfold v_Sh_takeFrom_30
        rw [ge, p6, q6, p8, q8, ni, nj, x2]
        refine ⟨(fun z => nomatch z), fun _ => ⟨p3, p7, s4, (rf_C h hb kb x1).2, q4, fun z => absurd (Int32.toInt_inj.mp (of_decide_eq_true ((c1_eq _).symm.trans z))) gr, fun z => trivial⟩⟩
      · show v_M_copies_100 fu (T_M_copies_100 fu (g' + 2)) (WT_M_copies_100 fu (g' + 2)) _ _ _ _ _ _ _ _
        unfold v_M_copies_100
        rw [ge]
        refine ⟨(fun z => nomatch z), fun _ => ⟨fun _ => ?_, (fun z => nomatch z)⟩⟩
        show v_M_copies_112 fu (T_M_copies_100 fu (g' + 1)) (WT_M_copies_100 fu (g' + 1)) _ _ _ _ _ _ _ _ _
        unfold v_M_copies_112
        rw [ir1, n6, x3, lN_I, o1, cn1_ne_b2i, df gr]
        exact ⟨ir2, (fun z => nomatch z), fun _ => ⟨vp_of (by omega) (by omega), o2, (fun z => nomatch z), fun _ => ⟨w_fails r 5, trivial⟩⟩⟩
end CP
