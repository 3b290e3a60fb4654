/-! THE SLOTS PUT BACK -/
theorem pQ_self (c : St) : pQ c (sD c) (sN c) (sU c) = c := rfl
section BK
variable {G : AH} {T : Nat} {φ : Nat → Nat} {n u fu d e : Nat} {c r : St}
/-- cells of two things lie apart -/
theorem apart (h : RT φ n u (sD c) (sN c) (sA r 22) (sA r 23) (sA r 24) (sA r 25) (sB r 26)) {v w : Nat} (hv1 : 1 ≤ v) (hv : v ≤ n ∧ LVE φ v) (hw1 : 1 ≤ w) (hw : w ≤ n ∧ LVE φ w) (hvw : w ≠ v) (kv : (sA r 22 v).toInt ≤ 10) (kw : (sA r 22 w).toInt ≤ 10) : ((sA r 23 v).toNatClampNeg + (sA r 24 v).toNatClampNeg ≤ (sA r 23 w).toNatClampNeg ∨ (sA r 23 w).toNatClampNeg + (sA r 24 w).toNatClampNeg ≤ (sA r 23 v).toNatClampNeg) ∧ φ w ≠ φ v ∧ φ w + 1 ≠ φ v ∧ φ v + 1 ≠ φ w := by
  have ev : tsz (sA r 22 v) (sA r 24 v) = (sA r 24 v).toNatClampNeg := tz_row (by omega)
  have ew : tsz (sA r 22 w) (sA r 24 w) = (sA r 24 w).toNatClampNeg := tz_row (by omega)
  have dv : twd (sA r 22 v) = 2 := if_pos kv
  have dw : twd (sA r 22 w) = 2 := if_pos kw
  rcases Nat.lt_or_gt_of_ne hvw with g | g
  · obtain ⟨a, b⟩ := h.2.2.2.2 w v hw1 g hw hv
    rw [ew] at a
    rw [dw] at b
    exact ⟨Or.inr a, by omega, by omega, by omega⟩
  · obtain ⟨a, b⟩ := h.2.2.2.2 v w hv1 g hv hw
    rw [ev] at a
    rw [dv] at b
    exact ⟨Or.inl a, by omega, by omega, by omega⟩
/-- the class puts a thing's members back -/
theorem pbk (hfu : 1000000 ≤ fu) (h : RR G T φ n u c r) {v w : Nat} (hv1 : 1 ≤ v) (hv : v ≤ n ∧ LVE φ v) (hw1 : 1 ≤ w) (hw : w ≤ n ∧ LVE φ w) (hvw : w ≠ v) (k1 : 1 ≤ (sA r 22 v).toInt) (k2 : (sA r 22 v).toInt ≤ 10) (ek : sA r 22 w = sA r 22 v) (em : sA r 24 w = sA r 24 v) (eq : sA r 25 w = sA r 25 v) :
    ∃ D', u_putBack fu c (po φ v) (po φ w) = pQ c D' (sN c) (sU c) ∧ wu_putBack fu c (po φ v) (po φ w) ∧ RR G T φ n u (pQ c D' (sN c) (sU c)) (pB r 26 (va_cpy (sB r 26) (sB r 26) (sA r 23 w).toNatClampNeg (sA r 23 v).toNatClampNeg (sA r 24 v).toNatClampNeg)) := by
  have hb := h.bnd
  obtain ⟨ap, n1, n2, n3⟩ := apart h.rt hv1 hv hw1 hw hvw k2 (by rw [ek]; exact k2)
  have eqd : ∀ x : Int32, cn2 .ne x x = false := fun x => by rw [c2_ne]; exact df (fun z => z rfl)
  have hC : ∀ j, (j < (sA r 23 v).toNatClampNeg ∨ (sA r 23 v).toNatClampNeg + (sA r 24 v).toNatClampNeg ≤ j) → va_cpy (sB r 26) (sB r 26) (sA r 23 w).toNatClampNeg (sA r 23 v).toNatClampNeg (sA r 24 v).toNatClampNeg j = sB r 26 j := fun j hj => by unfold va_cpy; rw [if_neg (by omega)]
  have hCi : ∀ i, i < (sA r 24 v).toNatClampNeg → va_cpy (sB r 26) (sB r 26) (sA r 23 w).toNatClampNeg (sA r 23 v).toNatClampNeg (sA r 24 v).toNatClampNeg ((sA r 23 v).toNatClampNeg + i) = sB r 26 ((sA r 23 w).toNatClampNeg + i) := fun i hi => by unfold va_cpy; rw [if_pos (by omega)]; congr 1; omega
  rw [po_s φ hv1, po_s φ hw1]
  by_cases k8 : (sA r 22 v).toInt ≤ 8
  · obtain ⟨f, d1, d2, d3, d5, d6, d7, d8, d9⟩ := rd_row h.rt hv1 hv k1 k8
    obtain ⟨f', w1, w2, w3, w5, w6, w7, w8, w9⟩ := rd_row h.rt hw1 hw (by rw [ek]; exact k1) (by rw [ek]; exact k8)
    rw [em] at w2 w3
    rw [ek] at w1
    have ec : oC (sD c) (some (φ v)) = some 6 := oC_at d6 d1
    have is1 : isc (sD c) (some (φ w)) 1 = true := isc_at w6 w1
    have en : Int32.ofNat (sA r 24 v).toNatClampNeg = sA r 24 v := (nIof d5).symm
    refine ⟨hup (sD c) (φ v + 1) (.inr (.inr (.inl ((sA r 24 v).toNatClampNeg, va_cpy f' f 0 0 (sA r 24 v).toNatClampNeg)))), ?_, Or.inr (Or.inl ⟨ec, ?_⟩), ?_⟩
    · unfold u_putBack
      rw [ec, if_neg (by decide), if_pos rfl]
      unfold f_Ro_putBack
      rw [is1, show cn1 .eq (b2i true) = false from rfl, cond_false, gR_at d6 d1 rfl, gR_at w6 w1 rfl, aLN_at (by omega) d2, aLN_at (by omega) w2, eqd, cond_false, aLF_at (by omega) d2, aLF_at (by omega) w2, en, show (0 : Int32).toNatClampNeg = 0 from rfl, dL_at (by omega) d2]
    · unfold w_Ro_putBack
      rw [is1, show cn1 .eq (b2i true) = false from rfl, gR_at d6 d1 rfl, gR_at w6 w1 rfl, aLN_at (by omega) d2, aLN_at (by omega) w2, eqd, en]
      refine ⟨tho_at w6 w1 rfl, (fun z => nomatch z), fun _ => ⟨cst_at w6 w1 rfl, ob_at w6 w1 rfl, isL_at (by omega) w2, ob_at d6 d1 rfl, isL_at (by omega) d2, (fun z => nomatch z), fun _ => ⟨ob_at w6 w1 rfl, ob_at d6 d1 rfl, ob_at d6 d1 rfl, isL_at (by omega) d2, isL_at (by omega) w2, isL_at (by omega) d2, ⟨by decide, by decide, ?_, ?_, ?_⟩, trivial⟩⟩⟩
      · rw [Int32.lt_iff_toInt_lt, z0]; omega
      · rw [show (0 : Int32).toNatClampNeg = 0 from rfl]; omega
      · rw [show (0 : Int32).toNatClampNeg = 0 from rfl]; omega
    · refine h.row hv1 hv k1 k8 hC (fun i hi => ?_)
      have e : va_cpy f' f 0 0 (sA r 24 v).toNatClampNeg i = f' i := by unfold va_cpy; rw [if_pos (by omega)]; congr 1; omega
      rw [hCi i hi, e]
      have := w3 i hi
      rw [ek] at this
      exact this
  · have k9 : (sA r 22 v).toInt = 9 ∨ (sA r 22 v).toInt = 10 := by omega
    obtain ⟨b, f, d1, d2, d0, d3, d5, d6, d7, d8, d9⟩ := rd_shl h.rt hv1 hv k9
    obtain ⟨b', f', w1, w2, w0, w3, w5, w6, w7, w8, w9⟩ := rd_shl h.rt hw1 hw (by rw [ek]; exact k9)
    rw [em] at w2 w3
    have ec : oC (sD c) (some (φ v)) = some 7 := oC_at d6 d1
    have is2 : isc (sD c) (some (φ w)) 2 = true := isc_at w6 w1
    have en : Int32.ofNat (sA r 24 v).toNatClampNeg = sA r 24 v := (nIof d5).symm
    have ht : ∀ i, i < (sA r 24 v).toNatClampNeg → tho (sD c) (f' i) := fun i hi => by
      obtain ⟨x, a1, a2, a3, a4⟩ := w3 i hi
      rw [a3]
      exact a_tho h.rt a1
    have e1 : hup (sD c) (φ v + 1) (.inr (.inr (.inr ((sA r 24 v).toNatClampNeg, va_cpy f' f 0 0 0)))) = sD c := by
      rw [cpy_0]
      funext a
      unfold hup
      by_cases g : a = φ v + 1
      · rw [if_pos g, g]; exact d2.symm
      · rw [if_neg g]
    obtain ⟨g1, g2⟩ := pb_go fu (s0 := c) (N := sN c) (U := sU c) (D := sD c) (x := φ v) (y := φ w) (a := φ w + 1) (b := φ v + 1) (m := (sA r 24 v).toNatClampNeg) (f := f') (g0 := f) ⟨d6, w6, by omega, by omega⟩ d1 rfl rfl w1 rfl rfl w2 (by omega) (by omega) (by omega) ⟨_, d2⟩ ht (sA r 24 v).toNatClampNeg 0 0 (by omega) rfl fu (by omega)
    rw [e1, pQ_self] at g1 g2
    refine ⟨hup (sD c) (φ v + 1) (.inr (.inr (.inr ((sA r 24 v).toNatClampNeg, va_cpy f' f 0 0 (sA r 24 v).toNatClampNeg)))), ?_, Or.inr (Or.inr (Or.inl ⟨ec, ?_⟩)), ?_⟩
    · unfold u_putBack
      rw [ec, if_neg (by decide), if_neg (by decide), if_pos rfl]
      unfold f_Sh_putBack
      rw [is2, show cn1 .eq (b2i true) = false from rfl, cond_false, gR_at d6 d1 rfl, gR_at w6 w1 rfl, aRN_at (by omega) d2, aRN_at (by omega) w2, eqd, cond_false, g1]
    · unfold w_Sh_putBack
      rw [is2, show cn1 .eq (b2i true) = false from rfl, gR_at d6 d1 rfl, gR_at w6 w1 rfl, aRN_at (by omega) d2, aRN_at (by omega) w2, eqd]
      exact ⟨tho_at w6 w1 rfl, (fun z => nomatch z), fun _ => ⟨cst_at w6 w1 rfl, ob_at w6 w1 rfl, isR_at (by omega) w2, ob_at d6 d1 rfl, isR_at (by omega) d2, (fun z => nomatch z), fun _ => g2⟩⟩
    · refine h.shl hv1 hv k9 hC (fun i hi => ?_)
      have e : va_cpy f' f 0 0 (sA r 24 v).toNatClampNeg i = f' i := by unfold va_cpy; rw [if_pos (by omega)]; congr 1; omega
      rw [hCi i hi, e]
      obtain ⟨x, a1, a2, a3, a4⟩ := w3 i hi
      refine ⟨x, a1, a2, a3, a4.imp id (fun z => ?_)⟩
      unfold gok at z ⊢
      rw [ek, eq] at z
      exact z
/-- the reference's copy -/
theorem bk_go {C : Nat → Int64} {s t m v w : Nat} (hM : (sA r 24 w).toInt = (m : Int)) (hS : (sA r 23 w).toInt = (s : Int)) (hT : (sA r 23 v).toInt = (t : Int)) (hv : v ≤ 40000) (hw1 : 1 ≤ w) (hw : w ≤ 40000) (hst : s + m ≤ t ∨ t + m ≤ s) (h4 : s + m ≤ 40000 ∧ t + m ≤ 40000) (v1 v2 v3 : Int32) : ∀ (k i : Nat), i + k = m → ∀ g,
    (T_M_back_2 fu (g + (2 * k + 1))).2.1 (pB r 26 (va_cpy C C s t i)) v1 v2 v3 (nI v) (nI w) (nI i) = (T_M_back_2 fu g).2.2.2 (pB r 26 (va_cpy C C s t m)) v1 v2 v3 ∧ ((WT_M_back_2 fu g).2.2.2 (pB r 26 (va_cpy C C s t m)) v1 v2 v3 → (WT_M_back_2 fu (g + (2 * k + 1))).2.1 (pB r 26 (va_cpy C C s t i)) v1 v2 v3 (nI v) (nI w) (nI i))
  | 0, i, hi, g => by
    have ew : (nI w).toNatClampNeg = w := nN (by omega)
    have ei : i = m := by omega
    have e : cn2 .ge (nI i) (sA (pB r 26 (va_cpy C C s t i)) 24 w) = true := by rw [c2_ge, yI_i (by omega)]; exact dt (by show (sA r 24 w).toInt ≤ _; omega)
    constructor
    · show b_M_back_33 fu (T_M_back_2 fu g) _ _ _ _ _ _ _ = _
      unfold b_M_back_33
      rw [ew, e, cond_true, ei]
    · intro x
      show v_M_back_33 fu (T_M_back_2 fu g) (WT_M_back_2 fu g) _ _ _ _ _ _ _
      unfold v_M_back_33
      rw [ew, e, ei]
      exact ⟨n_vp hw, fun _ => x, (fun z => nomatch z)⟩
  | k + 1, i, hi, g => by
    have ew : (nI w).toNatClampNeg = w := nN (by omega)
    have ev : (nI v).toNatClampNeg = v := nN (by omega)
    have e : cn2 .ge (nI i) (sA (pB r 26 (va_cpy C C s t i)) 24 w) = false := by rw [c2_ge, yI_i (by omega)]; exact df (by show ¬ (sA r 24 w).toInt ≤ _; omega)
    have e0 : cn1 .le (nI w) = false := by rw [n_le hw]; exact df (by omega)
    have ii : (nI i).toInt = (i : Int) := yI_i (by omega)
    have a1 := nn_add (x := sA r 23 w) (y := nI i) (by omega) (by omega) (by omega)
    have a2 := nn_add (x := sA r 23 v) (y := nI i) (by omega) (by omega) (by omega)
    have n1 : (sA r 23 w + nI i).toNatClampNeg = s + i := by rw [a1.1, tn_eq, tn_eq]; omega
    have n2 : (sA r 23 v + nI i).toNatClampNeg = t + i := by rw [a2.1, tn_eq, tn_eq]; omega
    obtain ⟨i1, i2⟩ := bk_go hM hS hT hv hw1 hw hst h4 v1 v2 v3 k (i + 1) (by omega) g (C := C)
    have st : pB (pB r 26 (va_cpy C C s t i)) 26 (vp_updL (sB (pB r 26 (va_cpy C C s t i)) 26) (sA (pB r 26 (va_cpy C C s t i)) 23 v + nI i).toNatClampNeg (sB (pB r 26 (va_cpy C C s t i)) 26 (sA (pB r 26 (va_cpy C C s t i)) 23 w + nI i).toNatClampNeg)) = pB r 26 (va_cpy C C s t (i + 1)) := by
      rw [pB_pB]
      show pB r 26 (vp_updL (va_cpy C C s t i) (sA r 23 v + nI i).toNatClampNeg (va_cpy C C s t i (sA r 23 w + nI i).toNatClampNeg)) = _
      rw [n1, n2, cpy_s C (by omega)]
    rw [show g + (2 * (k + 1) + 1) = (g + (2 * k + 1)) + 2 by omega]
    constructor
    · show b_M_back_33 fu (T_M_back_2 fu (g + (2 * k + 1) + 1)) _ _ _ _ _ _ _ = _
      unfold b_M_back_33
      rw [ew, ev, e, cond_false, e0, cond_false, st]
      show b_M_back_59 fu (T_M_back_2 fu (g + (2 * k + 1))) _ _ _ _ _ _ _ = _
      unfold b_M_back_59
      rw [nI_s]
      exact i1
    · intro x
      show v_M_back_33 fu (T_M_back_2 fu (g + (2 * k + 1) + 1)) (WT_M_back_2 fu (g + (2 * k + 1) + 1)) _ _ _ _ _ _ _
      unfold v_M_back_33
      rw [ew, ev, e, e0, st]
      refine ⟨n_vp hw, (fun z => nomatch z), fun _ => ⟨(fun z => nomatch z), fun _ => ⟨n_vp hv, n_vp hw, ?_, ?_, ?_⟩⟩⟩
      · show vp_in (sA r 23 w + nI i) 40001
        exact vp_of (by omega) (by omega)
      · show vp_in (sA r 23 v + nI i) 40001
        exact vp_of (by omega) (by omega)
      · show v_M_back_59 fu (T_M_back_2 fu (g + (2 * k + 1))) (WT_M_back_2 fu (g + (2 * k + 1))) _ _ _ _ _ _ _
        unfold v_M_back_59
        rw [nI_s]
        exact i2 x
def BKc (fu d : Nat) (c : St) (j : Nat) (y : St) : Prop := ∀ g, 2 * (16 - j) + 1 ≤ g → (T_En_putSlotsBack_2 fu g).1 c (nI d) (nI j) = y ∧ (WT_En_putSlotsBack_2 fu g).1 c (nI d) (nI j)
def BKr (fu : Nat) (m v2 : Int32) (r : St) (j : Nat) (y : St) : Prop := ∀ g, 80010 * (16 - j) + 1 ≤ g → (T_M_back_2 fu g).1 r m v2 (nI j) = y ∧ (WT_M_back_2 fu g).1 r m v2 (nI j)
/-- all slots that were kept -/
theorem bs_go (hfu : 1000000 ≤ fu) {m : Int32} {o : Nat} (hd : d ≤ 131) (he : e ≤ 142) (ho3 : o + 3 < 3200) (hmm : m = mskR r o) : ∀ (k j : Nat) (c1 r1 : St), j + k = 16 → RR G T φ n u c1 r1 → (∀ k, sA r1 30 k = sA c1 6 k &&& 255) → sA r1 30 = sA r 30 → (sA c1 14 d).toInt = (o : Int) → SV φ n d e m 16 c1 r1 →
    ∃ c' r', BKc fu d c1 j c' ∧ BKr fu m (nI (16 * e)) r1 j r' ∧ RR G T φ n u c' r' ∧ opC c1 c' ∧ opR r1 r' ∧ (∀ k, sI c' 1 k = sI c1 1 k) ∧ (∀ k, sI r' 21 k = sI r1 21 k)
  | 0, j, c1, r1, hjk, h, hc, h30, ho, hs => by
    have j16 : j = 16 := by omega
    subst j16
    refine ⟨c1, r1, fun g hg => ?_, fun g hg => ?_, h, opC.rf _, opR.rf _, fun _ => rfl, fun _ => rfl⟩
    · obtain ⟨g, rfl⟩ : ∃ g', g = g' + 1 := ⟨g - 1, by omega⟩
      constructor
      · show b_En_putSlotsBack_2 fu (T_En_putSlotsBack_2 fu g) c1 (nI d) (nI 16) = _
        unfold b_En_putSlotsBack_2
        rw [show cn2 .ge (nI 16) 16 = true from rfl, cond_true]
      · show v_En_putSlotsBack_2 fu (T_En_putSlotsBack_2 fu g) (WT_En_putSlotsBack_2 fu g) _ _ _
        unfold v_En_putSlotsBack_2
        rw [show cn2 .ge (nI 16) 16 = true from rfl]
        exact ⟨fun _ => trivial, (fun z => nomatch z)⟩
    · obtain ⟨g, rfl⟩ : ∃ g', g = g' + 1 := ⟨g - 1, by omega⟩
      constructor
      · show b_M_back_2 fu (T_M_back_2 fu g) r1 m (nI (16 * e)) (nI 16) = _
        unfold b_M_back_2
        rw [show cn2 .ge (nI 16) 16 = true from rfl, cond_true]
      · show v_M_back_2 fu (T_M_back_2 fu g) (WT_M_back_2 fu g) _ _ _ _
        unfold v_M_back_2
        rw [show cn2 .ge (nI 16) 16 = true from rfl]
        exact ⟨fun _ => trivial, (fun z => nomatch z)⟩
  | k + 1, j, c1, r1, hjk, h, hc, h30, ho, hs => by
    have hb := h.bnd
    have ej : (nI j).toNatClampNeg = j := nN (by omega)
    have vj : vp_in (nI j) 16 := vp_of (by rw [yI_i (by omega)]; omega) (by rw [yI_i (by omega)]; omega)
    have gj : cn2 .ge (nI j) 16 = false := by rw [c2_ge, yI_i (by omega), show ((16 : Int32).toInt) = 16 from rfl]; exact df (by omega)
    have n6 : (sI r1 21 6).toInt = (n : Int) := by rw [h.2.2.2.1.2.1, yI_i (by omega)]
    have em : mskR r1 o = m := by unfold mskR; rw [h30, hmm]; rfl
    obtain ⟨sv1, sv2⟩ := sv_C hc hd ho ho3 j
    rw [em] at sv1
    have eK : nI d * 16 + nI j = nI (16 * d + j) := by rw [show (16 : Int32) = nI 16 from rfl, show nI d * nI 16 = nI (d * 16) from (Int32.ofNat_mul d 16).symm, show nI (d * 16) + nI j = nI (d * 16 + j) from (Int32.ofNat_add _ _).symm, Nat.mul_comm d 16]
    have eN : (nI (16 * d + j)).toNatClampNeg = 16 * d + j := nN (by omega)
    have vK : vp_in (nI (16 * d + j)) 2112 := vp_of (by rw [yI_i (by omega)]; omega) (by rw [yI_i (by omega)]; omega)
    have eL : nI (16 * e) + nI j = nI (16 * e + j) := (Int32.ofNat_add _ _).symm
    have eM : (nI (16 * e + j)).toNatClampNeg = 16 * e + j := nN (by omega)
    have vL : vp_in (nI (16 * e + j)) 2288 := vp_of (by rw [yI_i (by omega)]; omega) (by rw [yI_i (by omega)]; omega)
    -- going on from a pair of states
    have go : ∀ c2 r2, RR G T φ n u c2 r2 → opC c1 c2 → opR r1 r2 → (∀ k, sI c2 1 k = sI c1 1 k) → (∀ k, sI r2 21 k = sI r1 21 k) → (∀ y, BKc fu d c2 (j + 1) y → BKc fu d c1 j y) → (∀ y, BKr fu m (nI (16 * e)) r2 (j + 1) y → BKr fu m (nI (16 * e)) r1 j y) → ∃ c' r', BKc fu d c1 j c' ∧ BKr fu m (nI (16 * e)) r1 j r' ∧ RR G T φ n u c' r' ∧ opC c1 c' ∧ opR r1 r' ∧ (∀ k, sI c' 1 k = sI c1 1 k) ∧ (∀ k, sI r' 21 k = sI r1 21 k) := fun c2 r2 g1 g2 g3 g4 g5 g6 g7 => by
      have c30 : sA r2 30 = sA r1 30 := g3.2.2.1 30 (by decide) (by decide) (by decide)
      have c6 : sA c2 6 = sA c1 6 := g2.2.2.1 6 (by decide)
      obtain ⟨c', r', i1, i2, i3, i4, i5, i6, i7⟩ := bs_go hfu hd he ho3 hmm k (j + 1) c2 r2 (by omega) g1 (fun k => by rw [c30, c6]; exact hc k) (c30.trans h30) (by rw [g2.2.2.1 14 (by decide)]; exact ho) (hs.mv n6 g3.2.2.2.2.2.2.2.2 (EX.rf φ n) (fun i _ => ⟨by rw [g2.2.2.2.2 19 (by decide)], by rw [g2.2.2.2.2 20 (by decide)]⟩) (fun i _ => ⟨by rw [g3.2.2.1 34 (by decide) (by decide) (by decide)], by rw [g3.2.2.1 35 (by decide) (by decide) (by decide)]⟩))
      exact ⟨c', r', g6 _ i1, g7 _ i2, i3, g2.tr i4, g3.tr i5, fun k => (i6 k).trans (g4 k), fun k => (i7 k).trans (g5 k)⟩
    by_cases b : btk m j = true
    · obtain ⟨v, w, q1, q2, q3, q4, q5, q6, q7, q8⟩ := hs j (by omega) b
      have v40 : v ≤ 40000 := by omega
      have w40 : w ≤ 40000 := by omega
      have ev : (nI v).toNatClampNeg = v := nN (by omega)
      have ew : (nI w).toNatClampNeg = w := nN (by omega)
      obtain ⟨c2, hc2⟩ : ∃ c2, c2 = pT c1 11 (va_up (sT c1 11) j (po φ v)) := ⟨_, rfl⟩
      obtain ⟨r2, hr2⟩ : ∃ r2, r2 = pA r1 27 (upd (sA r1 27) j (nI v)) := ⟨_, rfl⟩
      have h2 : RR G T φ n u c2 r2 := by rw [hc2, hr2]; exact h.slot q1
      have oc2 : opC c1 c2 := by rw [hc2]; exact opC_T _ _
      have or2 : opR r1 r2 := by rw [hr2]; exact opR_A _ (Or.inr (Or.inl rfl)) _
      have ic2 : ∀ k, sI c2 1 k = sI c1 1 k := fun k => by rw [hc2]; rfl
      have ir2 : ∀ k, sI r2 21 k = sI r1 21 k := fun k => by rw [hr2]; rfl
      have A2 : ∀ k, k ≠ 27 → sA r2 k = sA r1 k := fun k a => by rw [hr2, sA_pA, if_neg a]
      have bb := b
      unfold btk at bb
      have th : tho (sD c1) (po φ v) := a_tho h.rt q1
      -- the reference up to the copy
      have rf : ∀ (r3 : St) (kk : Nat), kk ≤ 40000 → (∀ g, (T_M_back_2 fu (g + (2 * kk + 1))).2.1 r2 m (nI (16 * e)) (nI j) (nI v) (nI w) 0 = (T_M_back_2 fu g).2.2.2 r3 m (nI (16 * e)) (nI j) ∧ ((WT_M_back_2 fu g).2.2.2 r3 m (nI (16 * e)) (nI j) → (WT_M_back_2 fu (g + (2 * kk + 1))).2.1 r2 m (nI (16 * e)) (nI j) (nI v) (nI w) 0)) → ∀ y, BKr fu m (nI (16 * e)) r3 (j + 1) y → BKr fu m (nI (16 * e)) r1 j y := fun r3 kk hkk hs y hy g hg => by
        obtain ⟨g, rfl⟩ : ∃ g', g = g' + 1 + (2 * kk + 1) + 1 := ⟨g - (2 * kk + 3), by omega⟩
        obtain ⟨x1, x2⟩ := hy g (by omega)
        obtain ⟨s1, s2⟩ := hs (g + 1)
        have z1 : (T_M_back_2 fu (g + 1)).2.2.2 r3 m (nI (16 * e)) (nI j) = y := by
          show b_M_back_61 fu (T_M_back_2 fu g) _ _ _ _ = _
          unfold b_M_back_61
          rw [nI_s]
          exact x1
        have z2 : (WT_M_back_2 fu (g + 1)).2.2.2 r3 m (nI (16 * e)) (nI j) := by
          show v_M_back_61 fu (T_M_back_2 fu g) (WT_M_back_2 fu g) _ _ _ _
          unfold v_M_back_61
          rw [nI_s]
          exact x2
        constructor
        · show b_M_back_2 fu (T_M_back_2 fu (g + 1 + (2 * kk + 1))) _ _ _ _ = _
          unfold b_M_back_2
          rw [gj, cond_false, bb, cond_true, ej, eL, eM, q5, q6, ← hr2, s1]
          exact z1
        · show v_M_back_2 fu (T_M_back_2 fu (g + 1 + (2 * kk + 1))) (WT_M_back_2 fu (g + 1 + (2 * kk + 1))) _ _ _ _
          unfold v_M_back_2
          rw [gj, bb, ej, eL, eM, q5, q6, ← hr2]
          exact ⟨(fun z => nomatch z), fun _ => ⟨fun _ => ⟨vL, vj, vL, s2 z2⟩, (fun z => nomatch z)⟩⟩
      -- the class up to the copy
      have cf : ∀ c3, (po φ v = none ∧ c3 = c2 ∨ po φ v ≠ none ∧ u_putBack fu c2 (po φ v) (po φ w) = c3 ∧ wu_putBack fu c2 (po φ v) (po φ w)) → ∀ y, BKc fu d c3 (j + 1) y → BKc fu d c1 j y := fun c3 hh y hy g hg => by
        obtain ⟨g, rfl⟩ : ∃ g', g = g' + 2 := ⟨g - 2, by omega⟩
        obtain ⟨x1, x2⟩ := hy g (by omega)
        have z1 : (T_En_putSlotsBack_2 fu (g + 1)).2 c3 (nI d) (nI j) = y := by
          show b_En_putSlotsBack_37 fu (T_En_putSlotsBack_2 fu g) _ _ _ = _
          unfold b_En_putSlotsBack_37
          rw [nI_s]
          exact x1
        have z2 : (WT_En_putSlotsBack_2 fu (g + 1)).2 c3 (nI d) (nI j) := by
          show v_En_putSlotsBack_37 fu (T_En_putSlotsBack_2 fu g) (WT_En_putSlotsBack_2 fu g) _ _ _
          unfold v_En_putSlotsBack_37
          rw [nI_s]
          exact x2
        rcases hh with ⟨e0, ec⟩ | ⟨e0, ec, wc⟩
        · subst ec
          constructor
          · show b_En_putSlotsBack_2 fu (T_En_putSlotsBack_2 fu (g + 1)) _ _ _ = _
            unfold b_En_putSlotsBack_2
            rw [gj, cond_false, sv1, b, show cn1 .eq (b2i true) = false from rfl, cond_false, eK, eN, q3, ej, ← hc2, show Option.isNone (po φ v) = true from by rw [e0]; rfl, cond_true]
            exact z1
          · show v_En_putSlotsBack_2 fu (T_En_putSlotsBack_2 fu (g + 1)) (WT_En_putSlotsBack_2 fu (g + 1)) _ _ _
            unfold v_En_putSlotsBack_2
            rw [gj, sv1, b, show cn1 .eq (b2i true) = false from rfl, eK, eN, q3, ej, ← hc2, show Option.isNone (po φ v) = true from by rw [e0]; rfl]
            exact ⟨(fun z => nomatch z), fun _ => ⟨sv2, (fun z => nomatch z), fun _ => ⟨vK, vj, th, fun _ => z2, (fun z => nomatch z)⟩⟩⟩
        · have en : Option.isNone (po φ v) = false := by
            cases hx : po φ v with
            | none => exact absurd hx e0
            | some _ => rfl
          constructor
          · show b_En_putSlotsBack_2 fu (T_En_putSlotsBack_2 fu (g + 1)) _ _ _ = _
            unfold b_En_putSlotsBack_2
            rw [gj, cond_false, sv1, b, show cn1 .eq (b2i true) = false from rfl, cond_false, eK, eN, q3, q4, ej, ← hc2, en, cond_false, ec]
            exact z1
          · show v_En_putSlotsBack_2 fu (T_En_putSlotsBack_2 fu (g + 1)) (WT_En_putSlotsBack_2 fu (g + 1)) _ _ _
            unfold v_En_putSlotsBack_2
            rw [gj, sv1, b, show cn1 .eq (b2i true) = false from rfl, eK, eN, q3, q4, ej, ← hc2, en, ec]
            exact ⟨(fun z => nomatch z), fun _ => ⟨sv2, (fun z => nomatch z), fun _ => ⟨vK, vj, th, (fun z => nomatch z), fun _ => ⟨vK, wc, z2⟩⟩⟩⟩
      by_cases kk : 1 ≤ (sA r1 22 v).toInt ∧ (sA r1 22 v).toInt ≤ 10
      · obtain ⟨p1, p2, p3, p4, p5⟩ := q7 kk
        have v1 : 1 ≤ v := by have := k_pos h.rt kk.1; omega
        have r22 := A2 22 (by decide)
        have r23 := A2 23 (by decide)
        have r24 := A2 24 (by decide)
        have r25 := A2 25 (by decide)
        obtain ⟨D', u1, u2, u3⟩ := pbk hfu h2 v1 q1 p1 q2 p2 (by rw [r22]; exact kk.1) (by rw [r22]; exact kk.2) (by rw [r22]; exact p3) (by rw [r24]; exact p4) (by rw [r25]; exact p5)
        obtain ⟨ap, -⟩ := apart h2.rt v1 q1 p1 q2 p2 (by rw [r22]; exact kk.2) (by rw [r22, p3]; exact kk.2)
        have sv := h2.rt.2.2.2.1 v v1 q1
        have sw := h2.rt.2.2.2.1 w p1 q2
        have zv : tsz (sA r2 22 v) (sA r2 24 v) = (sA r2 24 v).toNatClampNeg := tz_row (by rw [r22]; omega)
        have zw : tsz (sA r2 22 w) (sA r2 24 w) = (sA r2 24 w).toNatClampNeg := tz_row (by rw [r22, p3]; omega)
        have mw : sA r2 24 w = sA r2 24 v := by rw [r24]; exact p4
        have m0 := (a_size h2.rt v1 q1).2.2.1 (by rw [r22]; exact kk.2)
        rw [mw] at zw ap
        obtain ⟨-, a1, a2, -⟩ := sv
        obtain ⟨-, b1, b2, -⟩ := sw
        rw [zv] at a2
        rw [mw, zw] at b2
        have tm : ((sA r2 24 v).toNatClampNeg : Int) = (sA r2 24 v).toInt := by rw [tn_eq]; omega
        have t1 : ((sA r2 23 v).toNatClampNeg : Int) = (sA r2 23 v).toInt := by rw [tn_eq]; omega
        have t2 : ((sA r2 23 w).toNatClampNeg : Int) = (sA r2 23 w).toInt := by rw [tn_eq]; omega
        have cp := bk_go (fu := fu) (r := r2) (C := sB r2 26) (s := (sA r2 23 w).toNatClampNeg) (t := (sA r2 23 v).toNatClampNeg) (m := (sA r2 24 v).toNatClampNeg) (v := v) (w := w) (by rw [mw]; omega) (by omega) (by omega) v40 p1 w40 (by omega) (by omega) m (nI (16 * e)) (nI j) (sA r2 24 v).toNatClampNeg 0 (by omega)
        have e00 : pB r2 26 (va_cpy (sB r2 26) (sB r2 26) (sA r2 23 w).toNatClampNeg (sA r2 23 v).toNatClampNeg 0) = r2 := by rw [cpy_0]; exact pB_self r2
        rw [e00] at cp
        refine go _ _ u3 (oc2.tr (opC_Q _ _ _ _)) (or2.tr (opR_B _ (Or.inl rfl) _)) ic2 ir2 (cf _ (Or.inr ⟨?_, u1, u2⟩)) (rf _ (sA r2 24 v).toNatClampNeg (by omega) cp)
        rw [po_s φ v1]
        exact (fun z => nomatch z)
      · have w0 := q8 kk
        have m0 : sA r2 24 w = 0 := by rw [w0]; exact h2.rt.2.2.1
        refine go c2 r2 h2 oc2 or2 ic2 ir2 (cf c2 ?_) (rf r2 0 (by omega) (fun g => ?_))
        · by_cases v0 : v = 0
          · exact Or.inl ⟨by rw [v0]; rfl, rfl⟩
          · have ks := (a_size h.rt (show 1 ≤ v by omega) q1).2.2.2
            refine Or.inr ⟨by rw [po_s φ (by omega)]; exact (fun z => nomatch z), ?_⟩
            by_cases k16 : (sA r1 22 v).toInt = 16
            · obtain ⟨x, d1, d2, d3, -⟩ := rd_trb h2.rt (show 1 ≤ v by omega) q1 (by rw [A2 22 (by decide)]; exact k16)
              have ec : oC (sD c2) (po φ v) = some 8 := by rw [po_s φ (by omega)]; exact oC_at d3 d1
              unfold u_putBack wu_putBack
              rw [ec, if_neg (by decide), if_neg (by decide), if_neg (by decide)]
              exact ⟨rfl, Or.inr (Or.inr (Or.inr ⟨rfl, trivial⟩))⟩
            · have ec := (p_prt h2.rt q1 (by rw [A2 22 (by decide)]; omega) (by rw [A2 22 (by decide)]; omega)).2.2.2.1
              unfold u_putBack wu_putBack
              rw [ec, if_pos rfl]
              exact ⟨rfl, Or.inl ⟨rfl, trivial⟩⟩
        · have e : cn2 .ge (0 : Int32) (sA r2 24 w) = true := by rw [m0]; rfl
          constructor
          · show b_M_back_33 fu (T_M_back_2 fu g) _ _ _ _ _ _ _ = _
            unfold b_M_back_33
            rw [ew, e, cond_true]
          · intro x
            show v_M_back_33 fu (T_M_back_2 fu g) (WT_M_back_2 fu g) _ _ _ _ _ _ _
            unfold v_M_back_33
            rw [ew, e]
            exact ⟨n_vp w40, fun _ => x, (fun z => nomatch z)⟩
    · have bf : btk m j = false := by cases hx : btk m j with
        | true => exact absurd hx b
        | false => rfl
      refine go c1 r1 h (opC.rf _) (opR.rf _) (fun _ => rfl) (fun _ => rfl) (fun y hy g hg => ?_) (fun y hy g hg => ?_)
      · obtain ⟨g, rfl⟩ : ∃ g', g = g' + 2 := ⟨g - 2, by omega⟩
        obtain ⟨x1, x2⟩ := hy g (by omega)
        constructor
        · show b_En_putSlotsBack_2 fu (T_En_putSlotsBack_2 fu (g + 1)) _ _ _ = _
          unfold b_En_putSlotsBack_2
          rw [gj, cond_false, sv1, bf, show cn1 .eq (b2i false) = true from rfl, cond_true]
          show b_En_putSlotsBack_37 fu (T_En_putSlotsBack_2 fu g) _ _ _ = _
          unfold b_En_putSlotsBack_37
          rw [nI_s]
          exact x1
        · show v_En_putSlotsBack_2 fu (T_En_putSlotsBack_2 fu (g + 1)) (WT_En_putSlotsBack_2 fu (g + 1)) _ _ _
          unfold v_En_putSlotsBack_2
          rw [gj, sv1, bf, show cn1 .eq (b2i false) = true from rfl]
          refine ⟨(fun z => nomatch z), fun _ => ⟨sv2, fun _ => ?_, (fun z => nomatch z)⟩⟩
          show v_En_putSlotsBack_37 fu (T_En_putSlotsBack_2 fu g) (WT_En_putSlotsBack_2 fu g) _ _ _
          unfold v_En_putSlotsBack_37
          rw [nI_s]
          exact x2
      · obtain ⟨g, rfl⟩ : ∃ g', g = g' + 2 := ⟨g - 2, by omega⟩
        obtain ⟨x1, x2⟩ := hy g (by omega)
        unfold btk at bf
        constructor
        · show b_M_back_2 fu (T_M_back_2 fu (g + 1)) _ _ _ _ = _
          unfold b_M_back_2
          rw [gj, cond_false, bf, cond_false]
          show b_M_back_61 fu (T_M_back_2 fu g) _ _ _ _ = _
          unfold b_M_back_61
          rw [nI_s]
          exact x1
        · show v_M_back_2 fu (T_M_back_2 fu (g + 1)) (WT_M_back_2 fu (g + 1)) _ _ _ _
          unfold v_M_back_2
          rw [gj, bf]
          refine ⟨(fun z => nomatch z), fun _ => ⟨(fun z => nomatch z), fun _ => ?_⟩⟩
          show v_M_back_61 fu (T_M_back_2 fu g) (WT_M_back_2 fu g) _ _ _ _
          unfold v_M_back_61
          rw [nI_s]
          exact x2
end BK
