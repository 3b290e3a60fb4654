/-! TWINS: a clone on either side -/
section TW
variable {G : AH} {T : Nat} {φ : Nat → Nat} {n u t fu : Nat} {c r : St}
theorem gok_new {K Q : Nat → Int32} {n v t : Nat} {k q : Int32} (hv : v ≤ n) (ht : t ≤ n) (hk : K t = k) (hq : Q t = q) (h : gok K Q v t) : gok (upd K (n + 1) k) (upd Q (n + 1) q) v (n + 1) := by
  unfold gok at h ⊢
  rw [upS, upS, show upd K (n + 1) k v = K v from if_neg (by omega), ← hk, ← hq]
  exact h
/-- the reference's clone: its cells -/
theorem cl_M (hfu : 100000 ≤ fu) (h : RR G T φ n u c r) (h1 : 1 ≤ t) (h2 : t ≤ n ∧ LVE φ t) (hk : (sA r 22 t).toInt ≤ 10) (hn : (n : Int) + 1 ≤ (sI r 21 8).toInt) (hu : (u : Int) + (sA r 24 t).toInt ≤ (sI r 21 8).toInt) :
    f_M_cloned fu r (nI t) = (nI (n + 1), pB (thR r n u (sA r 22 t) (sA r 24 t) (sA r 25 t)) 26 (va_cpy (sB r 26) (sB r 26) (sA r 23 t).toNatClampNeg u (sA r 24 t).toNatClampNeg)) ∧ w_M_cloned fu r (nI t) := by
  have hb := h.bnd
  have hb2 := h.2.2.2.1
  have hl1 := h.2.1.2.2.1
  have sz := (a_size h.rt h1 h2).2.2.1 hk
  obtain ⟨hT, s0, s1, -, -⟩ := h.rt.2.2.2.1 t h1 h2
  rw [tz_row hk] at s1
  have em : ((sA r 24 t).toNatClampNeg : Int) = (sA r 24 t).toInt := by rw [tn_eq]; omega
  have es : ((sA r 23 t).toNatClampNeg : Int) = (sA r 23 t).toInt := by rw [tn_eq]; omega
  obtain ⟨t1, t2⟩ := th_M (r := r) (k := sA r 22 t) (m := sA r 24 t) (q := sA r 25 t) hb2.2.1 hb2.2.2.1 (by omega) (fun _ => sz)
  have et : (nI t).toNatClampNeg = t := nN (by omega)
  have vt : vp_in (nI t) 40001 := vp_of (by rw [yI_i (by omega)]; omega) (by rw [yI_i (by omega)]; omega)
  have r24 : sA (thR r n u (sA r 22 t) (sA r 24 t) (sA r 25 t)) 24 t = sA r 24 t := if_neg (by omega)
  have r23 : sA (thR r n u (sA r 22 t) (sA r 24 t) (sA r 25 t)) 23 t = sA r 23 t := if_neg (by omega)
  have r23' : sA (thR r n u (sA r 22 t) (sA r 24 t) (sA r 25 t)) 23 (n + 1) = nI u := if_pos rfl
  obtain ⟨g1, g2⟩ := cl_go fu (r := thR r n u (sA r 22 t) (sA r 24 t) (sA r 25 t)) (C := sB r 26) (s := (sA r 23 t).toNatClampNeg) (d := u) (m := (sA r 24 t).toNatClampNeg) (t := t) (t2 := n + 1) (by rw [r24]; exact em.symm) (by rw [r23]; exact es.symm) (by rw [r23', yI_i (by omega)]) (by omega) (by omega) (by omega) (by omega) (sA r 24 t).toNatClampNeg 0 0 (by omega) rfl fu (by omega)
  rw [cpy_0] at g1 g2
  have e0 : pB (thR r n u (sA r 22 t) (sA r 24 t) (sA r 25 t)) 26 (sB r 26) = thR r n u (sA r 22 t) (sA r 24 t) (sA r 25 t) := by
    have : up1 r.2.2.2.1 26 (r.2.2.2.1 26) = r.2.2.2.1 := by
      funext b
      unfold up1
      by_cases h : b = 26
      · rw [if_pos h, h]
      · rw [if_neg h]
    show (_, _, _, up1 r.2.2.2.1 26 (r.2.2.2.1 26), _) = _
    rw [this]
    rfl
  rw [e0] at g1 g2
  unfold f_M_cloned w_M_cloned t_M_cloned_14 w_M_cloned_14
  rw [et, t1]
  exact ⟨g1, vt, vt, vt, t2, g2⟩
/-- both: the new thing has number n + 1, address sN c -/
theorem tw_pr (hfu : 100000 ≤ fu) (h : RR G T φ n u c r) (h1 : 1 ≤ t) (h2 : t ≤ n ∧ LVE φ t) (hk : (sA r 22 t).toInt ≤ 10) (hn : (n : Int) + 1 ≤ (sI r 21 8).toInt) (hu : (u : Int) + (sA r 24 t).toInt ≤ (sI r 21 8).toInt) :
    ∃ c' r', u_twin fu c (some (φ t)) = (some (sN c), c') ∧ wu_twin fu c (some (φ t)) ∧ f_M_cloned fu r (nI t) = (nI (n + 1), r') ∧ w_M_cloned fu r (nI t) ∧ RR G T (ph1 φ n (sN c)) (n + 1) (u + (sA r 24 t).toNatClampNeg) c' r' ∧ opC c c' ∧ opR r r' ∧ (sI c' 1 3 = sI c 1 3 ∧ sI c' 1 4 = sI c 1 4 ∧ sI c' 1 5 = sI c 1 5) ∧ (sI c' 8 5 = sI c 8 5 ∧ sA c' 6 = sA c 6) ∧ sA r' 24 t = sA r 24 t ∧ sA r' 22 t = sA r 22 t ∧ (∀ a, sT c' a = sT c a) ∧ sA r' 27 = sA r 27 ∧ (∀ k, k ≠ 6 → k ≠ 7 → sI r' 21 k = sI r 21 k) ∧ sA r' 22 (n + 1) = sA r 22 t ∧ sA r' 24 (n + 1) = sA r 24 t ∧ sA r' 25 (n + 1) = sA r 25 t := by
  have hb := h.bnd
  have hb2 := h.2.2.2.1
  have hl1 := h.2.1.2.2.1
  have k16 := (a_size h.rt h1 h2).2.2.2.1
  have sz := (a_size h.rt h1 h2).2.2.1 hk
  have em : ((sA r 24 t).toNatClampNeg : Int) = (sA r 24 t).toInt := by rw [tn_eq]; omega
  obtain ⟨cm1, cm2⟩ := cl_M (fu := fu) hfu h h1 h2 hk hn hu
  have hop : opR r (pB (thR r n u (sA r 22 t) (sA r 24 t) (sA r 25 t)) 26 (va_cpy (sB r 26) (sB r 26) (sA r 23 t).toNatClampNeg u (sA r 24 t).toNatClampNeg)) := (thR_op _ _ _ _ _ _ hb2.2.1 (by omega)).tr (opR_B _ (Or.inl rfl) _)
  have r24 : sA (pB (thR r n u (sA r 22 t) (sA r 24 t) (sA r 25 t)) 26 (va_cpy (sB r 26) (sB r 26) (sA r 23 t).toNatClampNeg u (sA r 24 t).toNatClampNeg)) 24 t = sA r 24 t := if_neg (by omega)
  have r22 : sA (pB (thR r n u (sA r 22 t) (sA r 24 t) (sA r 25 t)) 26 (va_cpy (sB r 26) (sB r 26) (sA r 23 t).toNatClampNeg u (sA r 24 t).toNatClampNeg)) 22 t = sA r 22 t := if_neg (by omega)
  have rI : ∀ k, k ≠ 6 → k ≠ 7 → sI (pB (thR r n u (sA r 22 t) (sA r 24 t) (sA r 25 t)) 26 (va_cpy (sB r 26) (sB r 26) (sA r 23 t).toNatClampNeg u (sA r 24 t).toNatClampNeg)) 21 k = sI r 21 k := fun k g6 g7 => by
    rw [sI_pB]
    unfold thR
    rw [sI_pI, if_pos rfl, if_neg g7, sI_pA, sI_pA, sI_pA, sI_pA, sI_pI, if_pos rfl, if_neg g6]
  have hC : ∀ j, (j < u ∨ u + (sA r 24 t).toNatClampNeg ≤ j) → va_cpy (sB r 26) (sB r 26) (sA r 23 t).toNatClampNeg u (sA r 24 t).toNatClampNeg j = sB r 26 j := fun j hj => by unfold va_cpy; rw [if_neg (by omega)]
  have hCi : ∀ i, i < (sA r 24 t).toNatClampNeg → va_cpy (sB r 26) (sB r 26) (sA r 23 t).toNatClampNeg u (sA r 24 t).toNatClampNeg (u + i) = sB r 26 ((sA r 23 t).toNatClampNeg + i) := fun i hi => by unfold va_cpy; rw [if_pos (by omega), show u + i - u = i by omega]
  by_cases k8 : (sA r 22 t).toInt ≤ 8
  · obtain ⟨f, d1, d2, d3, d5, d6, d7, d8, d9⟩ := rd_row h.rt h1 h2 k16 k8
    have m40 : (sA r 24 t).toNatClampNeg ≤ 40000 := by omega
    obtain ⟨i1, i2, i3⟩ := i_ro (s := c) (k := sA r 22 t) (m := sA r 24 t) hb.2.2.2.2 sz (by omega) (by omega)
    have o0 : nwO (sD c) (sN c) 6 (φ t) = some (.inl (6, [.inl (sA r 22 t), .inr (.inr (some (φ t + 1)))])) := (hupN (by omega)).trans d1
    have o1 : nwO (sD c) (sN c) 6 (φ t + 1) = some (.inr (.inr (.inl ((sA r 24 t).toNatClampNeg, f)))) := (hupN (by omega)).trans d2
    have p0 : rowD (sD c) (sN c) (sA r 22 t) (sA r 24 t) (φ t) = some (.inl (6, [.inl (sA r 22 t), .inr (.inr (some (φ t + 1)))])) := by unfold rowD; rw [if_neg (by omega), if_neg (by omega)]; exact d1
    have p1 : rowD (sD c) (sN c) (sA r 22 t) (sA r 24 t) (φ t + 1) = some (.inr (.inr (.inl ((sA r 24 t).toNatClampNeg, f)))) := by unfold rowD; rw [if_neg (by omega), if_neg (by omega)]; exact d2
    have p2 : rowD (sD c) (sN c) (sA r 22 t) (sA r 24 t) (sN c) = some (.inl (6, [.inl (sA r 22 t), .inr (.inr (some (sN c + 1)))])) := by unfold rowD; rw [if_pos rfl]
    have p3 : rowD (sD c) (sN c) (sA r 22 t) (sA r 24 t) (sN c + 1) = some (.inr (.inr (.inl ((sA r 24 t).toNatClampNeg, fun _ => 0)))) := by unfold rowD; rw [if_neg (by omega), if_pos rfl]
    have en : Int32.ofNat (sA r 24 t).toNatClampNeg = sA r 24 t := (nIof sz).symm
    have ec : oC (sD c) (some (φ t)) = some 6 := oC_at d6 d1
    have dd : dL (rowD (sD c) (sN c) (sA r 22 t) (sA r 24 t)) (some (sN c + 1)) (va_cpy f (fun _ => 0) 0 0 (sA r 24 t).toNatClampNeg) = hup (rowD (sD c) (sN c) (sA r 22 t) (sA r 24 t)) (sN c + 1) (.inr (.inr (.inl ((sA r 24 t).toNatClampNeg, va_cpy f (fun _ => 0) 0 0 (sA r 24 t).toNatClampNeg)))) := dL_at (by omega) p3
    refine ⟨pQ c (hup (rowD (sD c) (sN c) (sA r 22 t) (sA r 24 t)) (sN c + 1) (.inr (.inr (.inl ((sA r 24 t).toNatClampNeg, va_cpy f (fun _ => 0) 0 0 (sA r 24 t).toNatClampNeg))))) (sN c + 2) (sU c + 2 + (sA r 24 t).toNatClampNeg), _, ?_, ?_, cm1, cm2, ?_, opC_Q _ _ _ _, hop, ⟨rfl, rfl, rfl⟩, ⟨rfl, rfl⟩, r24, r22, fun _ => rfl, rfl, rI, upS _ _ _, upS _ _ _, upS _ _ _⟩
    · unfold u_twin
      rw [ec, if_neg (by decide), if_pos rfl]
      unfold f_Ro_twin
      rw [gI_at d6 o0 rfl, gR_at d6 o0 rfl, aLN_at (by omega) o1, en, i1]
      unfold t_Ro_twin_8
      rw [show sD (pQ c (rowD (sD c) (sN c) (sA r 22 t) (sA r 24 t)) (sN c + 2) (sU c + 2 + (sA r 24 t).toNatClampNeg)) = rowD (sD c) (sN c) (sA r 22 t) (sA r 24 t) from rfl, gR_at hb.2.2.2.2 p2 rfl, gR_at d6 p0 rfl, aLF_at (by omega) p1, aLF_at (by omega) p3, aLN_at (by omega) p1, en, show (0 : Int32).toNatClampNeg = 0 from rfl, dd]
      rfl
    · refine Or.inr (Or.inl ⟨ec, ?_⟩)
      unfold w_Ro_twin
      rw [gI_at d6 o0 rfl, gR_at d6 o0 rfl, aLN_at (by omega) o1, en, i1]
      refine ⟨i3, ob_at d6 o0 rfl, ob_at d6 o0 rfl, isL_at (by omega) o1, i2, i2.2.1, ?_⟩
      unfold w_Ro_twin_8
      rw [show sD (pQ c (rowD (sD c) (sN c) (sA r 22 t) (sA r 24 t)) (sN c + 2) (sU c + 2 + (sA r 24 t).toNatClampNeg)) = rowD (sD c) (sN c) (sA r 22 t) (sA r 24 t) from rfl, gR_at hb.2.2.2.2 p2 rfl, gR_at d6 p0 rfl, aLN_at (by omega) p1, aLN_at (by omega) p3, en]
      refine ⟨ob_at d6 p0 rfl, ob_at hb.2.2.2.2 p2 rfl, ob_at d6 p0 rfl, isL_at (by omega) p1, isL_at (by omega) p1, isL_at (by omega) p3, ⟨by decide, by decide, ?_, ?_, ?_⟩, trivial⟩
      · rw [Int32.lt_iff_toInt_lt, z0]; omega
      · rw [show (0 : Int32).toNatClampNeg = 0 from rfl]; omega
      · rw [show (0 : Int32).toNatClampNeg = 0 from rfl]; omega
    · refine nw_row h k16 k8 sz hn hu hC (f := va_cpy f (fun _ => 0) 0 0 (sA r 24 t).toNatClampNeg) (fun i hi => ?_) ?_ ?_ ?_
      · rw [hCi i hi]
        have e : va_cpy f (fun _ => 0) 0 0 (sA r 24 t).toNatClampNeg i = f i := by unfold va_cpy; rw [if_pos (by omega)]; congr 1; omega
        rw [e]
        exact d3 i hi
      · exact (hupN (by omega)).trans p2
      · exact hupS
      · intro a g1 g2
        rw [hupN g2]
        unfold rowD
        rw [if_neg g1, if_neg g2]
  · have k9 : (sA r 22 t).toInt = 9 ∨ (sA r 22 t).toInt = 10 := by omega
    obtain ⟨b, f, d1, d2, d0, d3, d5, d6, d7, d8, d9⟩ := rd_shl h.rt h1 h2 k9
    have m40 : (sA r 24 t).toNatClampNeg ≤ 40000 := by omega
    obtain ⟨i1, i2, i3⟩ := i_sh (s := c) (k := b) (m := sA r 24 t) hb.2.2.2.2 sz (by omega) (by omega)
    have o0 : nwO (sD c) (sN c) 7 (φ t) = some (.inl (7, [.inl b, .inr (.inr (some (φ t + 1)))])) := (hupN (by omega)).trans d1
    have o1 : nwO (sD c) (sN c) 7 (φ t + 1) = some (.inr (.inr (.inr ((sA r 24 t).toNatClampNeg, f)))) := (hupN (by omega)).trans d2
    obtain ⟨D', hD'⟩ : ∃ D', D' = shlD (sD c) (sN c) b (sA r 24 t) := ⟨_, rfl⟩
    have p0 : D' (φ t) = some (.inl (7, [.inl b, .inr (.inr (some (φ t + 1)))])) := by rw [hD']; unfold shlD; rw [if_neg (by omega), if_neg (by omega)]; exact d1
    have p1 : D' (φ t + 1) = some (.inr (.inr (.inr ((sA r 24 t).toNatClampNeg, f)))) := by rw [hD']; unfold shlD; rw [if_neg (by omega), if_neg (by omega)]; exact d2
    have p2 : D' (sN c) = some (.inl (7, [.inl b, .inr (.inr (some (sN c + 1)))])) := by rw [hD']; unfold shlD; rw [if_pos rfl]
    have p3 : D' (sN c + 1) = some (.inr (.inr (.inr ((sA r 24 t).toNatClampNeg, fun _ => none)))) := by rw [hD']; unfold shlD; rw [if_neg (by omega), if_pos rfl]
    have p4 : ∀ a, a ≠ sN c → a ≠ sN c + 1 → D' a = sD c a := fun a g1 g2 => by rw [hD']; unfold shlD; rw [if_neg g1, if_neg g2]
    have en : Int32.ofNat (sA r 24 t).toNatClampNeg = sA r 24 t := (nIof sz).symm
    have ec : oC (sD c) (some (φ t)) = some 7 := oC_at d6 d1
    have ht : ∀ i, i < (sA r 24 t).toNatClampNeg → tho D' (f i) := fun i hi => by
      obtain ⟨v, a1, a2, a3, a4⟩ := d3 i hi
      rw [a3]
      have := a_tho h.rt a1
      rcases this with g | ⟨ci, fs, g1, g2⟩
      · exact Or.inl g
      · obtain ⟨a, e, g3, g4⟩ := dcl_some g1
        have ha : a < sN c := by
          by_cases v0 : v = 0
          · rw [v0] at e; cases e
          · rw [po_s φ (by omega)] at e
            cases e
            have := (h.rt.2.2.2.1 v (by omega) a1).2.2.2.2
            have : 1 ≤ twd (sA r 22 v) := by unfold twd; split <;> omega
            omega
        rw [e]
        exact tho_at g3 ((p4 a (by omega) (by omega)).trans g4) g2
    have e1 : hup D' (sN c + 1) (.inr (.inr (.inr ((sA r 24 t).toNatClampNeg, va_cpy f (fun _ => none) 0 0 0)))) = D' := by
      rw [cpy_0]
      funext a
      unfold hup
      by_cases g : a = sN c + 1
      · rw [if_pos g, g]; exact p3.symm
      · rw [if_neg g]
    obtain ⟨g1, g2⟩ := pb_go fu (s0 := c) (N := sN c + 2) (U := sU c + 2 + (sA r 24 t).toNatClampNeg) (D := D') (x := sN c) (y := φ t) (a := φ t + 1) (b := sN c + 1) (m := (sA r 24 t).toNatClampNeg) (f := f) (g0 := fun _ => none) ⟨hb.2.2.2.2, d6, by omega, by omega⟩ p2 rfl rfl p0 rfl rfl p1 (by omega) (by omega) m40 ⟨_, p3⟩ ht (sA r 24 t).toNatClampNeg 0 0 (by omega) rfl fu (by omega)
    rw [e1] at g1 g2
    have is2 : isc D' (some (φ t)) 2 = true := isc_at d6 p0
    have eq1 : cn2 .ne (sA r 24 t) (sA r 24 t) = false := by rw [c2_ne]; exact df (fun z => z rfl)
    refine ⟨pQ c (hup D' (sN c + 1) (.inr (.inr (.inr ((sA r 24 t).toNatClampNeg, va_cpy f (fun _ => none) 0 0 (sA r 24 t).toNatClampNeg))))) (sN c + 2) (sU c + 2 + (sA r 24 t).toNatClampNeg), _, ?_, ?_, cm1, cm2, ?_, opC_Q _ _ _ _, hop, ⟨rfl, rfl, rfl⟩, ⟨rfl, rfl⟩, r24, r22, fun _ => rfl, rfl, rI, upS _ _ _, upS _ _ _, upS _ _ _⟩
    · unfold u_twin
      rw [ec, if_neg (by decide), if_neg (by decide), if_pos rfl]
      unfold f_Sh_twin
      rw [gI_at d6 o0 rfl, gR_at d6 o0 rfl, aRN_at (by omega) o1, en, i1]
      unfold t_Sh_twin_8 f_Sh_putBack
      rw [← hD', show sD (pQ c D' (sN c + 2) (sU c + 2 + (sA r 24 t).toNatClampNeg)) = D' from rfl, is2, show cn1 .eq (b2i true) = false from rfl, cond_false, gR_at hb.2.2.2.2 p2 rfl, gR_at d6 p0 rfl, aRN_at (by omega) p1, aRN_at (by omega) p3, en, eq1, cond_false, g1]
    · refine Or.inr (Or.inr (Or.inl ⟨ec, ?_⟩))
      unfold w_Sh_twin
      rw [gI_at d6 o0 rfl, gR_at d6 o0 rfl, aRN_at (by omega) o1, en, i1]
      refine ⟨i3, ob_at d6 o0 rfl, ob_at d6 o0 rfl, isR_at (by omega) o1, i2, i2.2.1, ?_⟩
      unfold w_Sh_twin_8 w_Sh_putBack
      rw [← hD', show sD (pQ c D' (sN c + 2) (sU c + 2 + (sA r 24 t).toNatClampNeg)) = D' from rfl, is2, show cn1 .eq (b2i true) = false from rfl, gR_at hb.2.2.2.2 p2 rfl, gR_at d6 p0 rfl, aRN_at (by omega) p1, aRN_at (by omega) p3, en, eq1]
      exact ⟨⟨tho_at d6 p0 rfl, (fun z => nomatch z), fun _ => ⟨cst_at d6 p0 rfl, ob_at d6 p0 rfl, isR_at (by omega) p1, ob_at hb.2.2.2.2 p2 rfl, isR_at (by omega) p3, (fun z => nomatch z), fun _ => g2⟩⟩, oC_at hb.2.2.2.2 p2, trivial⟩
    · refine nw_shl h (b := b) (f := va_cpy f (fun _ => none) 0 0 (sA r 24 t).toNatClampNeg) d0 sz hn hu hC (fun i hi => ?_) ?_ ?_ ?_
      · rw [hCi i hi]
        have e : va_cpy f (fun _ => none) 0 0 (sA r 24 t).toNatClampNeg i = f i := by unfold va_cpy; rw [if_pos (by omega)]; congr 1; omega
        rw [e]
        obtain ⟨v, a1, a2, a3, a4⟩ := d3 i hi
        exact ⟨v, a1, a2, a3, a4.imp id (gok_new a1.1 h2.1 rfl rfl)⟩
      · exact (hupN (by omega)).trans p2
      · exact hupS
      · intro a g1 g2
        rw [hupN g2]
        exact p4 a g1 g2
end TW
