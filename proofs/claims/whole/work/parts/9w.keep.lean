/-! THE SLOTS THAT A SCOPE KEEPS -/
theorem vaS {α : Type} (f : Nat → α) (k : Nat) (v : α) : va_up f k v k = v := if_pos rfl
theorem vaN {α : Type} (f : Nat → α) {k j : Nat} (v : α) (h : j ≠ k) : va_up f k v j = f j := if_neg h
theorem upN (f : Nat → Int32) {k j : Nat} (v : Int32) (h : j ≠ k) : upd f k v j = f j := if_neg h
theorem nI_s (j : Nat) : nI j + Int32.ofInt 1 = nI (j + 1) := (Int32.ofNat_add j 1).symm
theorem tk_n1 (r : St) (z : Int64) : ¬ (f_M_takes r z).1 = 1 := by
  unfold f_M_takes
  generalize cn1 _ _ = x
  cases x
  · exact fun h => absurd (show (2 : Int32) = 1 from h) (by decide)
  · exact fun h => absurd (show (0 : Int32) = 1 from h) (by decide)
section KP1
variable {G : AH} {T : Nat} {φ : Nat → Nat} {n u fu d e : Nat} {c r : St}
/-- how the class goes on from slot j -/
def RK (fu d : Nat) (c : St) (j : Nat) (y : St) : Prop := ∀ g, 2 * (16 - j) + 1 ≤ g → (T_En_keepSlots_2 fu g).1 c (nI d) (nI j) = y ∧ (WT_En_keepSlots_2 fu g).1 c (nI d) (nI j)
/-- how the reference goes on from slot j -/
def RM (rec : G_part) (wrec : GW_part) (fu : Nat) (v1 v2 v3 v4 : Int32) (st : Int32) (r : St) (j : Nat) (y : Int32 × St) : Prop := ∀ g, 5 * (16 - j) + 1 ≤ g → (T_M_scope_31 rec fu g).1 r v1 v2 v3 v4 st (nI j) = y ∧ (WT_M_scope_31 rec wrec fu g).1 r v1 v2 v3 v4 st (nI j)
/-- one slot, on both sides -/
theorem ks_1 (hfu : 100000 ≤ fu) (h : RR G T φ n u c r) (hz : SZ c) {j : Nat} (hj : j < 16) (hd : d ≤ 131) (he : e ≤ 142) :
    ∃ (c' : St) (q : Int32 × St) (φ' : Nat → Nat) (n' u' : Nat), f_En_keepSlot fu c (nI d * 16 + nI j) (sT c 11 j) = c' ∧ w_En_keepSlot fu c (nI d * 16 + nI j) (sT c 11 j) ∧
      (∀ (rec : G_part) (wrec : GW_part) (v1 v2 v3 v4 : Int32) (y : Int32 × St), v4 = nI (16 * e) → btk v3 j = true → RM rec wrec fu v1 v2 v3 v4 q.1 q.2 (j + 1) y → RM rec wrec fu v1 v2 v3 v4 0 r j y) ∧
      RR G T φ' n' u' c' q.2 ∧ EX φ n φ' n' ∧ SR q.1 c' q.2 ∧ enC c c' ∧ enR r q.2 ∧ stC d c c' ∧ stR e r q.2 ∧
      (∀ i, i < j → sT c' 19 (16 * d + i) = sT c 19 (16 * d + i) ∧ sT c' 20 (16 * d + i) = sT c 20 (16 * d + i)) ∧ (∀ i, i < j → sA q.2 34 (16 * e + i) = sA r 34 (16 * e + i) ∧ sA q.2 35 (16 * e + i) = sA r 35 (16 * e + i)) ∧
      (∀ k, 13 ≤ k → k ≤ 18 → sA c' k = sA c k) ∧
      (q.1 = 0 → SV1 φ' n' q.2 (sT c' 19 (16 * d + j)) (sT c' 20 (16 * d + j)) (sA q.2 34 (16 * e + j)) (sA q.2 35 (16 * e + j))) ∧ ¬ q.1 = 1 := by
  have hb := h.bnd
  obtain ⟨v, y0, y1, y2⟩ := h.2.2.2.2.1 j hj
  have v40 : v ≤ 40000 := by omega
  have ev : (nI v).toNatClampNeg = v := nN (by omega)
  have ej : (nI j).toNatClampNeg = j := nN (by omega)
  have vj : vp_in (nI j) 16 := vp_of (by rw [yI_i (by omega)]; omega) (by rw [yI_i (by omega)]; omega)
  have eK : nI d * 16 + nI j = nI (16 * d + j) := by rw [show (16 : Int32) = nI 16 from rfl, show nI d * nI 16 = nI (d * 16) from (Int32.ofNat_mul d 16).symm, show nI (d * 16) + nI j = nI (d * 16 + j) from (Int32.ofNat_add _ _).symm, Nat.mul_comm d 16]
  have eN : (nI (16 * d + j)).toNatClampNeg = 16 * d + j := nN (by omega)
  have vK : vp_in (nI (16 * d + j)) 2112 := vp_of (by rw [yI_i (by omega)]; omega) (by rw [yI_i (by omega)]; omega)
  have eL : nI (16 * e) + nI j = nI (16 * e + j) := (Int32.ofNat_add _ _).symm
  have eM : (nI (16 * e + j)).toNatClampNeg = 16 * e + j := nN (by omega)
  have vL : vp_in (nI (16 * e + j)) 2288 := vp_of (by rw [yI_i (by omega)]; omega) (by rw [yI_i (by omega)]; omega)
  have gj : cn2 .ge (nI j) 16 = false := by rw [c2_ge, yI_i (by omega), show ((16 : Int32).toInt) = 16 from rfl]; exact df (by omega)
  have y1' : sA r 27 j = nI v := y1
  obtain ⟨c0, hc0⟩ : ∃ c0, c0 = pT (pT c 19 (va_up (sT c 19) (16 * d + j) (po φ v))) 20 (va_up (sT c 20) (16 * d + j) none) := ⟨_, rfl⟩
  obtain ⟨r0, hr0⟩ : ∃ r0, r0 = pA (pA r 34 (upd (sA r 34) (16 * e + j) (nI v))) 35 (upd (sA r 35) (16 * e + j) 0) := ⟨_, rfl⟩
  have h0 : RR G T φ n u c0 r0 := by
    rw [hc0, hr0]
    exact (((h.cT (Or.inl rfl) _).cT (Or.inr rfl) _).rA (Or.inl rfl) _).rA (Or.inr rfl) _
  have z0 : SZ c0 := by rw [hc0]; exact hz
  have ec0 : enC c c0 := by rw [hc0]; exact (enC_T _ (Or.inl rfl) _).tr (enC_T _ (Or.inr rfl) _)
  have er0 : enR r r0 := by rw [hr0]; exact (enR_A _ (Or.inl rfl) _).tr (enR_A _ (Or.inr rfl) _)
  have t19 : sT c0 19 = va_up (sT c 19) (16 * d + j) (po φ v) := by rw [hc0]; rfl
  have t20 : sT c0 20 = va_up (sT c 20) (16 * d + j) none := by rw [hc0]; rfl
  have s34 : sA r0 34 = upd (sA r 34) (16 * e + j) (nI v) := by rw [hr0]; rfl
  have s35 : sA r0 35 = upd (sA r 35) (16 * e + j) 0 := by rw [hr0]; rfl
  have sA0 : ∀ k, k ≠ 34 → k ≠ 35 → sA r0 k = sA r k := fun k a b => by rw [hr0, sA_pA, if_neg b, sA_pA, if_neg a]
  have cA0 : ∀ k, sA c0 k = sA c k := fun k => by rw [hc0]; rfl
  have iI0 : ∀ k, sI r0 21 k = sI r 21 k := fun k => by rw [hr0]; rfl
  have ic0 : ∀ k, sI c0 12 k = sI c 12 k := fun k => by rw [hc0]; rfl
  have st0 : stC d c c0 := ⟨ic0 12, ic0 13, fun a k _ _ _ => by rw [cA0], fun k hk => ⟨by rw [t19, vaN _ _ (by omega)], by rw [t20, vaN _ _ (by omega)]⟩⟩
  have sr0 : stR e r r0 := ⟨iI0 25, iI0 26, fun k hk => ⟨by rw [s34, upN _ _ (by omega)], by rw [s35, upN _ _ (by omega)]⟩⟩
  have l0 : ∀ i, i < j → sT c0 19 (16 * d + i) = sT c 19 (16 * d + i) ∧ sT c0 20 (16 * d + i) = sT c 20 (16 * d + i) := fun i hi => ⟨by rw [t19, vaN _ _ (by omega)], by rw [t20, vaN _ _ (by omega)]⟩
  have m0 : ∀ i, i < j → sA r0 34 (16 * e + i) = sA r 34 (16 * e + i) ∧ sA r0 35 (16 * e + i) = sA r 35 (16 * e + i) := fun i hi => ⟨by rw [s34, upN _ _ (by omega)], by rw [s35, upN _ _ (by omega)]⟩
  have th : tho (sD c) (po φ v) := a_tho h.rt y0
  have tn : tho (sD c) none := Or.inl rfl
  obtain ⟨hm1, hm2⟩ := hm_M (r := r0) v40
  rw [sA0 22 (by decide) (by decide)] at hm1
  -- the class
  have hC : f_En_keepSlot fu c (nI d * 16 + nI j) (sT c 11 j) = cond (Option.isNone (po φ v)) c0 (cond (cn1 .lt (u_size c0 (po φ v))) c0 (t_En_keepSlot_23 fu (f_Le_make c0 (1 + Int32.toInt64 (u_size c0 (po φ v)))).2 (nI (16 * d + j)) (po φ v) (b2i (f_Le_make c0 (1 + Int32.toInt64 (u_size c0 (po φ v)))).1))) := by
    unfold f_En_keepSlot
    rw [eK, eN, y2, ← hc0]
  have wC : (Option.isNone (po φ v) = false → wu_size c0 (po φ v) ∧ (cn1 .lt (u_size c0 (po φ v)) = false → w_En_keepSlot_23 fu (f_Le_make c0 (1 + Int32.toInt64 (u_size c0 (po φ v)))).2 (nI (16 * d + j)) (po φ v) (b2i (f_Le_make c0 (1 + Int32.toInt64 (u_size c0 (po φ v)))).1))) → w_En_keepSlot fu c (nI d * 16 + nI j) (sT c 11 j) := fun w => by
    unfold w_En_keepSlot
    rw [eK, eN, y2, ← hc0]
    exact ⟨vK, th, vK, tn, fun _ => trivial, fun z => ⟨(w z).1, fun _ => trivial, fun z2 => ⟨(w z).1, trivial, (w z).2 z2⟩⟩⟩
  -- the reference: no members
  have nM : ¬ (1 ≤ (sA r 22 v).toInt ∧ (sA r 22 v).toInt ≤ 10) → ∀ (rec : G_part) (wrec : GW_part) (v1 v2 v3 v4 : Int32) (y : Int32 × St), v4 = nI (16 * e) → btk v3 j = true → RM rec wrec fu v1 v2 v3 v4 0 r0 (j + 1) y → RM rec wrec fu v1 v2 v3 v4 0 r j y := fun nk rec wrec v1 v2 v3 v4 y e4 hbt hy g hg => by
    obtain ⟨g, rfl⟩ : ∃ g', g = g' + 2 := ⟨g - 2, by omega⟩
    obtain ⟨x1, x2⟩ := hy g (by omega)
    have hx : f_M_hasMembers r0 (nI v) = false := by rw [hm1]; exact df nk
    unfold btk at hbt
    subst e4
    constructor
    · show b_M_scope_31 rec fu (T_M_scope_31 rec fu (g + 1)) _ _ _ _ _ _ _ = _
      unfold b_M_scope_31
      rw [gj, cond_false, show cn1 .ne (0 : Int32) = false from rfl, cond_false, hbt, cond_true, eL, eM, ej, y1', ← hr0, hx, show cn1 .ne (b2i false) = false from rfl, cond_false]
      show b_M_scope_103 rec fu (T_M_scope_31 rec fu g) _ _ _ _ _ _ _ = _
      unfold b_M_scope_103
      rw [nI_s]
      exact x1
    · show v_M_scope_31 rec wrec fu (T_M_scope_31 rec fu (g + 1)) (WT_M_scope_31 rec wrec fu (g + 1)) _ _ _ _ _ _ _
      unfold v_M_scope_31
      rw [gj, show cn1 .ne (0 : Int32) = false from rfl, hbt, eL, eM, ej, y1', ← hr0, hx, show cn1 .ne (b2i false) = false from rfl]
      refine ⟨(fun z => nomatch z), fun _ => ⟨(fun z => nomatch z), fun _ => ⟨fun _ => ⟨vj, vL, vL, vj, hm2, (fun z => nomatch z), fun _ => ?_⟩, (fun z => nomatch z)⟩⟩⟩
      show v_M_scope_103 rec wrec fu (T_M_scope_31 rec fu g) (WT_M_scope_31 rec wrec fu g) _ _ _ _ _ _ _
      unfold v_M_scope_103
      rw [nI_s]
      exact x2
  have en0 : SR (0, r0).1 c0 (0, r0).2 := ⟨z0.1, Or.inl ⟨rfl, z0.2⟩⟩
  by_cases k : 1 ≤ (sA r 22 v).toInt ∧ (sA r 22 v).toInt ≤ 10
  · have v1 : 1 ≤ v := by have := k_pos h.rt k.1; omega
    have epo : po φ v = some (φ v) := po_s φ v1
    obtain ⟨s1, s2, s3, s4, s5⟩ := a_size h0.rt v1 y0
    rw [sA0 22 (by decide) (by decide), sA0 24 (by decide) (by decide), if_pos k.2] at s1
    rw [sA0 22 (by decide) (by decide), sA0 24 (by decide) (by decide)] at s3
    have sz := s3 k.2
    have sx : ((sA r 24 v).toNatClampNeg : Int) = (sA r 24 v).toInt := by rw [tn_eq]; omega
    have gc : cn1 .lt (sA r 24 v) = false := by rw [c1_lt]; exact df (by omega)
    have lm := m31 (sA r 24 v)
    have hx : f_M_hasMembers r0 (nI v) = true := by rw [hm1]; exact dt k
    rw [epo, s1, gc, L_1 sz, show Option.isNone (some (φ v)) = false from rfl, cond_false, cond_false] at hC
    rw [epo, s1, gc, L_1 sz] at wC
    -- the reference: members
    have yM : ∀ (r' : St) (st : Int32) (dd : Nat), dd ≤ 5 → ∀ (rec : G_part) (wrec : GW_part) (v1 v2 v3 v4 : Int32) (y : Int32 × St), v4 = nI (16 * e) → btk v3 j = true → (∀ g, (T_M_scope_31 rec fu (g + 4)).2.1 (f_M_pays r0 (lN (1 + (sA r 24 v).toNatClampNeg))).2 v1 v2 v3 v4 (nI j) (sA r 24 v) (b2i (f_M_pays r0 (lN (1 + (sA r 24 v).toNatClampNeg))).1) = (T_M_scope_31 rec fu (g + (5 - dd))).1 r' v1 v2 v3 v4 st (nI (j + 1)) ∧ ((WT_M_scope_31 rec wrec fu (g + (5 - dd))).1 r' v1 v2 v3 v4 st (nI (j + 1)) → (WT_M_scope_31 rec wrec fu (g + 4)).2.1 (f_M_pays r0 (lN (1 + (sA r 24 v).toNatClampNeg))).2 v1 v2 v3 v4 (nI j) (sA r 24 v) (b2i (f_M_pays r0 (lN (1 + (sA r 24 v).toNatClampNeg))).1))) → RM rec wrec fu v1 v2 v3 v4 st r' (j + 1) y → RM rec wrec fu v1 v2 v3 v4 0 r j y := fun r' st dd hdd rec wrec v1 v2 v3 v4 y e4 hbt hs hy g hg => by
      obtain ⟨g, rfl⟩ : ∃ g', g = g' + 5 := ⟨g - 5, by omega⟩
      obtain ⟨x1, x2⟩ := hy (g + (5 - dd)) (by omega)
      obtain ⟨a1, a2⟩ := hs g
      unfold btk at hbt
      subst e4
      constructor
      · show b_M_scope_31 rec fu (T_M_scope_31 rec fu (g + 4)) _ _ _ _ _ _ _ = _
        unfold b_M_scope_31
        rw [gj, cond_false, show cn1 .ne (0 : Int32) = false from rfl, cond_false, hbt, cond_true, eL, eM, ej, y1', ev, ← hr0, hx, show cn1 .ne (b2i true) = true from rfl, cond_true, L_1 sz, a1]
        exact x1
      · show v_M_scope_31 rec wrec fu (T_M_scope_31 rec fu (g + 4)) (WT_M_scope_31 rec wrec fu (g + 4)) _ _ _ _ _ _ _
        unfold v_M_scope_31
        rw [gj, show cn1 .ne (0 : Int32) = false from rfl, hbt, eL, eM, ej, y1', ev, ← hr0, hx, show cn1 .ne (b2i true) = true from rfl, L_1 sz]
        exact ⟨(fun z => nomatch z), fun _ => ⟨(fun z => nomatch z), fun _ => ⟨fun _ => ⟨vj, vL, vL, vj, hm2, fun _ => ⟨vj, n_vp v40, trivial, a2 x2⟩, (fun z => nomatch z)⟩, (fun z => nomatch z)⟩⟩⟩
    rcases mk_ok h0 z0 (z := 1 + (sA r 24 v).toNatClampNeg) (by omega) with ⟨c1, r1, e1, e2, h1, hz1, hcd, oc1, or1, mn, mu, mz, ⟨ra, rb, rc, rd, re, rf, rg, ri⟩, rD, rN, -⟩ | ⟨e1, e2⟩
    · have rd' : sA r1 22 = sA r 22 := rd.trans (sA0 22 (by decide) (by decide))
      have rf' : sA r1 24 = sA r 24 := rf.trans (sA0 24 (by decide) (by decide))
      have rg' : sA r1 25 = sA r 25 := rg.trans (sA0 25 (by decide) (by decide))
      obtain ⟨c2, r2, t1, t2, t3, t4, t5, t6, t7, t8, t9, t10, t11, t12, t13, t14, t15, t16, t17⟩ := tw_pr (t := v) hfu h1 v1 y0 (by rw [rd']; exact k.2) (by omega) (by rw [rf']; omega)
      rw [rf'] at t5 t10 t16
      rw [rd'] at t11 t15
      rw [rg'] at t17
      have hz2 : SZ c2 := ⟨t8.1.trans hz1.1, t8.2.1.trans hz1.2.1, t8.2.2.trans hz1.2.2⟩
      have eph : po (ph1 φ n (sN c1)) (n + 1) = some (sN c1) := by rw [po_s _ (by omega), ph1_s]
      obtain ⟨c3, hc3⟩ : ∃ c3, c3 = pT c2 20 (va_up (sT c2 20) (16 * d + j) (some (sN c1))) := ⟨_, rfl⟩
      obtain ⟨r3, hr3⟩ : ∃ r3, r3 = pA r2 35 (upd (sA r2 35) (16 * e + j) (nI (n + 1))) := ⟨_, rfl⟩
      have h3 : RR G T (ph1 φ n (sN c1)) (n + 1) (u + (sA r 24 v).toNatClampNeg) c3 r3 := by
        rw [hc3, hr3]
        exact (t5.cT (Or.inr rfl) _).rA (Or.inr rfl) _
      have hz3 : SZ c3 := by rw [hc3]; exact hz2
      have ec3 : enC c2 c3 := by rw [hc3]; exact enC_T _ (Or.inr rfl) _
      have er3 : enR r2 r3 := by rw [hr3]; exact enR_A _ (Or.inr rfl) _
      have A3 : ∀ k, k ≠ 35 → sA r3 k = sA r2 k := fun k a => by rw [hr3, sA_pA, if_neg a]
      have ep2 : ph1 φ n (sN c1) v = φ v := if_neg (by omega)
      have sz2 := a_size h3.rt v1 (LVE.tr y0 (ph1_ex φ n (sN c1)))
      rw [ep2, A3 22 (by decide), A3 24 (by decide), t11, t10, if_pos k.2] at sz2
      have e8 : (Int32.toInt64 (sA r 24 v) + 7) / 8 = lN (((sA r 24 v).toNatClampNeg + 7) / 8) := by rw [L_x sz, L_8 (by omega)]
      obtain ⟨φ', n', u', f1, f2, f3, f4, f5⟩ := bn_out h3 hz3 (z := ((sA r 24 v).toNatClampNeg + 7) / 8) (by omega)
      have tw : tho (sD c2) (some (sN c1)) := eph ▸ a_tho t5.rt (LVE.nw h1.bnd.2.2.2.2)
      have st3 : stC d c2 c3 := by
        rw [hc3]
        exact ⟨rfl, rfl, fun _ _ _ _ _ => rfl, fun k hk => ⟨rfl, vaN _ _ (by omega)⟩⟩
      have sr3 : stR e r2 r3 := by
        rw [hr3]
        exact ⟨rfl, rfl, fun k hk => ⟨rfl, upN _ _ (by omega)⟩⟩
      have x19 : ∀ i, sT (f_Le_burn c3 (lN (((sA r 24 v).toNatClampNeg + 7) / 8))).2 19 i = sT c0 19 i := fun i => by
        rw [f4.2.2.2.2 19 (by decide), hc3]
        show sT c2 19 i = _
        rw [t12, oc1.2.2.2.2 19 (by decide)]
      have x20 : ∀ i, sT (f_Le_burn c3 (lN (((sA r 24 v).toNatClampNeg + 7) / 8))).2 20 i = va_up (sT c0 20) (16 * d + j) (some (sN c1)) i := fun i => by
        rw [f4.2.2.2.2 20 (by decide), hc3]
        show va_up (sT c2 20) (16 * d + j) (some (sN c1)) i = _
        rw [t12, oc1.2.2.2.2 20 (by decide)]
      have x34 : ∀ i, sA (f_M_takes r3 (lN (((sA r 24 v).toNatClampNeg + 7) / 8))).2 34 i = sA r0 34 i := fun i => by
        rw [f5.2.2.1 34 (by decide) (by decide) (by decide), hr3]
        show sA r2 34 i = _
        rw [t7.2.2.1 34 (by decide) (by decide) (by decide), or1.2.2.1 34 (by decide) (by decide) (by decide)]
      have x35 : ∀ i, sA (f_M_takes r3 (lN (((sA r 24 v).toNatClampNeg + 7) / 8))).2 35 i = upd (sA r0 35) (16 * e + j) (nI (n + 1)) i := fun i => by
        rw [f5.2.2.1 35 (by decide) (by decide) (by decide), hr3]
        show upd (sA r2 35) (16 * e + j) (nI (n + 1)) i = _
        rw [t7.2.2.1 35 (by decide) (by decide) (by decide), or1.2.2.1 35 (by decide) (by decide) (by decide)]
      have n6 : (sI r3 21 6).toInt = ((n + 1 : Nat) : Int) := by
        have := h3.bnd
        rw [h3.2.2.2.1.2.1, yI_i (by omega)]
      obtain ⟨b1, b2, b3, b4⟩ := f5.2.2.2.2.2.2.2.2.2.2 v (by omega)
      obtain ⟨d1, d2, d3, d4⟩ := f5.2.2.2.2.2.2.2.2.2.2 (n + 1) (by omega)
      rw [A3 22 (by decide), t11] at b1 b4
      rw [A3 24 (by decide), t10] at b4
      rw [A3 25 (by decide)] at b3 d3
      rw [A3 22 (by decide), t15] at d1 d4
      rw [A3 24 (by decide), t16] at d4
      rw [t17] at d3
      have g25 : sA r2 25 v = sA r 25 v := by
        have n1 : (sI r1 21 6).toInt = (n : Int) := by rw [h1.2.2.2.1.2.1, yI_i (by omega)]
        rw [(t7.2.2.2.2.2.2.2.2.2.2 v (by omega)).2.2.1, rg']
      have r27 : sA r1 27 j = nI v := by rw [ra, sA0 27 (by decide) (by decide)]; exact y1'
      refine ⟨(f_Le_burn c3 (lN (((sA r 24 v).toNatClampNeg + 7) / 8))).2, f_M_takes r3 (lN (((sA r 24 v).toNatClampNeg + 7) / 8)), φ', n', u', ?_, wC (fun _ => ⟨s2, fun _ => ?_⟩), fun rec wrec v1 v2 v3 v4 y e4 hbt => yM _ _ 5 (Nat.le_refl 5) rec wrec v1 v2 v3 v4 y e4 hbt (fun g => ?_), f1, (ph1_ex φ n (sN c1)).tr f2, f3, ec0.tr (oc1.en.tr (t6.en.tr (ec3.tr f4.en))), er0.tr (or1.en.tr (t7.en.tr (er3.tr f5.en))), st0.tr ((oc1.st d).tr ((t6.st d).tr (st3.tr (f4.st d)))), sr0.tr ((or1.st e).tr ((t7.st e).tr (sr3.tr (f5.st e)))), fun i hi => ⟨(x19 _).trans (l0 i hi).1, (x20 _).trans ((vaN _ _ (by omega)).trans (l0 i hi).2)⟩, fun i hi => ⟨(x34 _).trans (m0 i hi).1, (x35 _).trans ((upN _ _ (by omega)).trans (m0 i hi).2)⟩, fun k k1 k2 => ?_, fun _ => ?_, tk_n1 _ _⟩
      · rw [hC, e1]
        dsimp only
        unfold t_En_keepSlot_23
        rw [show cn1 .eq (b2i true) = false from rfl, cond_false, t1]
        dsimp only
        unfold t_En_keepSlot_29 t_En_keepSlot_37 f_Op_eighths
        rw [eN, ← hc3, sz2.1, e8]
      · rw [e1]
        dsimp only
        unfold w_En_keepSlot_23
        rw [show cn1 .eq (b2i true) = false from rfl, t1]
        dsimp only
        unfold w_En_keepSlot_29
        rw [eN, ← hc3]
        exact ⟨(fun z => nomatch z), fun _ => ⟨t2, vK, tw, sz2.2.1, trivial, trivial⟩⟩
      · rw [e2]
        dsimp only
        subst e4
        constructor
        · show b_M_scope_82 rec fu (T_M_scope_31 rec fu (g + 3)) r1 v1 v2 v3 (nI (16 * e)) (nI j) (sA r 24 v) (b2i true) = _
          unfold b_M_scope_82
          rw [show cn1 .ne (b2i true) = true from rfl, cond_true, ej, r27, t3]
          show b_M_scope_97 rec fu (T_M_scope_31 rec fu (g + 2)) _ _ _ _ _ _ _ _ _ = _
          unfold b_M_scope_97 f_M_takesFor
          rw [eL, eM, ← hr3, e8]
          show b_M_scope_103 rec fu (T_M_scope_31 rec fu g) _ _ _ _ _ _ _ = _
          unfold b_M_scope_103
          rw [nI_s]
          rfl
        · intro x2
          show v_M_scope_82 rec wrec fu (T_M_scope_31 rec fu (g + 3)) (WT_M_scope_31 rec wrec fu (g + 3)) r1 v1 v2 v3 (nI (16 * e)) (nI j) (sA r 24 v) (b2i true)
          unfold v_M_scope_82
          rw [show cn1 .ne (b2i true) = true from rfl, ej, r27, t3]
          refine ⟨fun _ => ⟨vj, t4, ?_⟩, (fun z => nomatch z)⟩
          show v_M_scope_97 rec wrec fu (T_M_scope_31 rec fu (g + 2)) (WT_M_scope_31 rec wrec fu (g + 2)) _ _ _ _ _ _ _ _ _
          unfold v_M_scope_97 f_M_takesFor
          rw [eL, eM, ← hr3, e8]
          refine ⟨vL, ⟨trivial, trivial⟩, ?_⟩
          show v_M_scope_103 rec wrec fu (T_M_scope_31 rec fu g) (WT_M_scope_31 rec wrec fu g) _ _ _ _ _ _ _
          unfold v_M_scope_103
          rw [nI_s]
          exact x2
      · rw [f4.2.2.1 k (by omega), hc3]
        show sA c2 k = _
        rw [t6.2.2.1 k (by omega), oc1.2.2.1 k (by omega), cA0]
      · have := f2.1
        refine ⟨v, n + 1, LVE.tr (LVE.tr y0 (ph1_ex φ n (sN c1))) f2, LVE.tr (LVE.nw h1.bnd.2.2.2.2) f2, ?_, ?_, ?_, ?_, fun _ => ⟨by omega, by omega, d1.trans b1.symm, (d4 k.2).trans (b4 k.2).symm, d3.trans (b3.trans g25).symm⟩, fun z => absurd (b1.symm ▸ k) z⟩
        · rw [x19, t19, vaS]
          exact ((po_cg f2.2 (by omega)).trans (po_cg (ph1_ex φ n (sN c1)).2 y0.1)).symm
        · rw [x20, vaS, ← eph]
          exact (po_cg f2.2 (Nat.le_refl _)).symm
        · rw [x34, s34, upS]
        · rw [x35, upS]
    · obtain ⟨φ', n', u', f1, f2, f3, f4, f5⟩ := full_out h0 z0
      refine ⟨pI (pI c0 1 1 1) 1 3 3, (3, pI r0 21 15 1), φ', n', u', ?_, wC (fun _ => ⟨s2, fun _ => ?_⟩), fun rec wrec v1 v2 v3 v4 y e4 hbt => yM _ _ 3 (by decide) rec wrec v1 v2 v3 v4 y e4 hbt (fun g => ?_), f1, f2, f3, ec0.tr f4.en, er0.tr f5.en, st0.tr (f4.st d), sr0.tr (f5.st e), l0, m0, fun k k1 k2 => cA0 k, fun z => absurd (show (3 : Int32) = 0 from z) (by decide), fun z => absurd (show (3 : Int32) = 1 from z) (by decide)⟩
      · rw [hC, e1]
        rfl
      · rw [e1]
        exact ⟨fun _ => trivial, (fun z => nomatch z)⟩
      · rw [e2]
        dsimp only
        constructor
        · show b_M_scope_82 rec fu (T_M_scope_31 rec fu (g + 3)) (pI r0 21 15 1) v1 v2 v3 v4 (nI j) (sA r 24 v) (b2i false) = _
          unfold b_M_scope_82
          rw [show cn1 .ne (b2i false) = false from rfl, cond_false]
          show b_M_scope_103 rec fu (T_M_scope_31 rec fu (g + 2)) _ _ _ _ _ _ _ = _
          unfold b_M_scope_103
          rw [nI_s]
        · intro x2
          show v_M_scope_82 rec wrec fu (T_M_scope_31 rec fu (g + 3)) (WT_M_scope_31 rec wrec fu (g + 3)) (pI r0 21 15 1) v1 v2 v3 v4 (nI j) (sA r 24 v) (b2i false)
          unfold v_M_scope_82
          rw [show cn1 .ne (b2i false) = false from rfl]
          refine ⟨(fun z => nomatch z), fun _ => ?_⟩
          show v_M_scope_103 rec wrec fu (T_M_scope_31 rec fu (g + 2)) (WT_M_scope_31 rec wrec fu (g + 2)) _ _ _ _ _ _ _
          unfold v_M_scope_103
          rw [nI_s]
          exact x2
  · have fin : f_En_keepSlot fu c (nI d * 16 + nI j) (sT c 11 j) = c0 ∧ w_En_keepSlot fu c (nI d * 16 + nI j) (sT c 11 j) := by
      by_cases g : v = 0
      · have en : Option.isNone (po φ v) = true := by rw [g]; rfl
        exact ⟨by rw [hC, en, cond_true], wC (fun z => by rw [en] at z; exact nomatch z)⟩
      · obtain ⟨s1, s2, s3, s4, s5⟩ := a_size h0.rt (show 1 ≤ v by omega) y0
        rw [sA0 22 (by decide) (by decide)] at s1 s4
        rw [if_neg (by omega)] at s1
        have epo : po φ v = some (φ v) := po_s φ (by omega)
        rw [epo, s1] at hC wC
        exact ⟨hC, wC (fun _ => ⟨s2, (fun z => nomatch z)⟩)⟩
    refine ⟨c0, (0, r0), φ, n, u, fin.1, fin.2, nM k, h0, EX.rf _ _, en0, ec0, er0, st0, sr0, l0, m0, fun k k1 k2 => cA0 k, fun _ => ⟨v, 0, y0, ⟨Nat.zero_le _, LVE.z _⟩, ?_, ?_, ?_, ?_, ?_, fun _ => rfl⟩, fun z => absurd (show (0 : Int32) = 1 from z) (by decide)⟩
    · rw [t19, vaS]
    · rw [t20, vaS]; rfl
    · rw [s34, upS]
    · rw [s35, upS]; rfl
    · rw [sA0 22 (by decide) (by decide)]
      exact fun z => absurd z k
/-- all of them -/
theorem ks_go (hfu : 100000 ≤ fu) {m : Int32} {o : Nat} (hd : d ≤ 131) (he : e ≤ 142) (ho3 : o + 3 < 3200) (hmm : m = mskR r o) : ∀ (k j : Nat) (c1 r1 : St) (φ1 : Nat → Nat) (n1 u1 : Nat), j + k = 16 → RR G T φ1 n1 u1 c1 r1 → SZ c1 → (∀ k, sA r1 30 k = sA c1 6 k &&& 255) → sA r1 30 = sA r 30 → (sA c1 14 d).toInt = (o : Int) → SV φ1 n1 d e m j c1 r1 →
    ∃ (c' : St) (q : Int32 × St) (φ' : Nat → Nat) (n' u' : Nat), RK fu d c1 j c' ∧
      (∀ (rec : G_part) (wrec : GW_part) (v1 v2 v3 v4 : Int32), v4 = nI (16 * e) → v3 = m → w_M_scope_105 rec wrec fu q.2 v1 v2 v3 v4 q.1 → RM rec wrec fu v1 v2 v3 v4 0 r1 j (t_M_scope_105 rec fu q.2 v1 v2 v3 v4 q.1)) ∧
      RR G T φ' n' u' c' q.2 ∧ EX φ1 n1 φ' n' ∧ SR q.1 c' q.2 ∧ enC c1 c' ∧ enR r1 q.2 ∧ stC d c1 c' ∧ stR e r1 q.2 ∧ (∀ k, 13 ≤ k → k ≤ 18 → sA c' k = sA c1 k) ∧ (q.1 = 0 → SV φ' n' d e m 16 c' q.2) ∧ ¬ q.1 = 1
  | 0, j, c1, r1, φ1, n1, u1, hjk, h, hz, hc, h30, ho, hs => by
    have j16 : j = 16 := by omega
    subst j16
    refine ⟨c1, (0, r1), φ1, n1, u1, fun g hg => ?_, fun rec wrec v1 v2 v3 v4 _ _ hw g hg => ?_, h, EX.rf _ _, ⟨hz.1, Or.inl ⟨rfl, hz.2⟩⟩, enC.rf _, (opR.rf r1).en, stC.rf _ _, stR.rf _ _, fun _ _ _ => rfl, fun _ => hs, fun z => absurd (show (0 : Int32) = 1 from z) (by decide)⟩
    · obtain ⟨g, rfl⟩ : ∃ g', g = g' + 1 := ⟨g - 1, by omega⟩
      constructor
      · show b_En_keepSlots_2 fu (T_En_keepSlots_2 fu g) c1 (nI d) (nI 16) = _
        unfold b_En_keepSlots_2
        rw [show cn2 .ge (nI 16) 16 = true from rfl, cond_true]
      · show v_En_keepSlots_2 fu (T_En_keepSlots_2 fu g) (WT_En_keepSlots_2 fu g) _ _ _
        unfold v_En_keepSlots_2
        rw [show cn2 .ge (nI 16) 16 = true from rfl]
        exact ⟨fun _ => trivial, (fun z => nomatch z)⟩
    · obtain ⟨g, rfl⟩ : ∃ g', g = g' + 1 := ⟨g - 1, by omega⟩
      constructor
      · show b_M_scope_31 rec fu (T_M_scope_31 rec fu g) r1 v1 v2 v3 v4 0 (nI 16) = _
        unfold b_M_scope_31
        rw [show cn2 .ge (nI 16) 16 = true from rfl, cond_true]
      · show v_M_scope_31 rec wrec fu (T_M_scope_31 rec fu g) (WT_M_scope_31 rec wrec fu g) _ _ _ _ _ _ _
        unfold v_M_scope_31
        rw [show cn2 .ge (nI 16) 16 = true from rfl]
        exact ⟨fun _ => hw, (fun z => nomatch z)⟩
  | k + 1, j, c1, r1, φ1, n1, u1, hjk, h, hz, hc, h30, ho, hs => by
    have ej : (nI j).toNatClampNeg = j := nN (by omega)
    have vj : vp_in (nI j) 16 := vp_of (by rw [yI_i (by omega)]; omega) (by rw [yI_i (by omega)]; omega)
    have gj : cn2 .ge (nI j) 16 = false := by rw [c2_ge, yI_i (by omega), show ((16 : Int32).toInt) = 16 from rfl]; exact df (by omega)
    have n6 : (sI r1 21 6).toInt = (n1 : Int) := by
      have := h.bnd
      rw [h.2.2.2.1.2.1, yI_i (by omega)]
    have em : mskR r1 o = m := by unfold mskR; rw [h30, hmm]; rfl
    obtain ⟨sv1, sv2⟩ := sv_C hc hd ho ho3 j
    rw [em] at sv1
    have sp : f_Le_stopped c1 = false := by unfold f_Le_stopped; rw [hz.1]; rfl
    by_cases b : btk m j = true
    · obtain ⟨c2, q2, φ2, n2, u2, k1, k2, k3, k4, k5, k6, k7, k8, k9, k10, k11, k12, k13, k14, k15⟩ := ks_1 (e := e) hfu h hz (show j < 16 by omega) hd he
      have cK : ∀ y, RK fu d c2 (j + 1) y → RK fu d c1 j y := fun y hy g hg => by
        obtain ⟨g, rfl⟩ : ∃ g', g = g' + 2 := ⟨g - 2, by omega⟩
        obtain ⟨x1, x2⟩ := hy g (by omega)
        constructor
        · show b_En_keepSlots_2 fu (T_En_keepSlots_2 fu (g + 1)) _ _ _ = _
          unfold b_En_keepSlots_2
          rw [gj, cond_false, sp, show cn1 .ne (b2i false) = false from rfl, cond_false, sv1, b, show cn1 .eq (b2i true) = false from rfl, cond_false, ej, k1]
          show b_En_keepSlots_26 fu (T_En_keepSlots_2 fu g) _ _ _ = _
          unfold b_En_keepSlots_26
          rw [nI_s]
          exact x1
        · show v_En_keepSlots_2 fu (T_En_keepSlots_2 fu (g + 1)) (WT_En_keepSlots_2 fu (g + 1)) _ _ _
          unfold v_En_keepSlots_2
          rw [gj, sp, show cn1 .ne (b2i false) = false from rfl, sv1, b, show cn1 .eq (b2i true) = false from rfl, ej, k1]
          refine ⟨(fun z => nomatch z), fun _ => ⟨trivial, (fun z => nomatch z), fun _ => ⟨sv2, (fun z => nomatch z), fun _ => ⟨vj, k2, ?_⟩⟩⟩⟩
          show v_En_keepSlots_26 fu (T_En_keepSlots_2 fu g) (WT_En_keepSlots_2 fu g) _ _ _
          unfold v_En_keepSlots_26
          rw [nI_s]
          exact x2
      by_cases st : q2.1 = 0
      · have hz2 : SZ c2 := by
          obtain ⟨w1, w2⟩ := k6
          rw [st] at w1 w2
          rcases w2 with w | w | w | w
          · exact ⟨w1, w.2⟩
          · exact absurd w.1 (by decide)
          · exact absurd w.1 (by decide)
          · exact absurd w.1 (by decide)
        have hs2 : SV φ2 n2 d e m (j + 1) c2 q2.2 := fun i hi hb => by
          by_cases ei : i = j
          · rw [ei]
            exact k14 st
          · exact (hs.mv n6 k8.2.2.2.2.2.2.2.2 k5 k11 k12) i (by omega) hb
        have c30 : sA q2.2 30 = sA r1 30 := k8.2.2.1 30 (by decide) (by decide) (by decide) (by decide) (by decide)
        have c6 : sA c2 6 = sA c1 6 := k7.2.2.1 6 (by decide) (by decide)
        obtain ⟨c', q, φ', n', u', i1, i2, i3, i4, i5, i6, i7, i8, i9, i10, i11, i12⟩ := ks_go hfu hd he ho3 hmm k (j + 1) c2 q2.2 φ2 n2 u2 (by omega) k4 hz2 (fun k => by rw [c30, c6]; exact hc k) (c30.trans h30) (by rw [k13 14 (by decide) (by decide)]; exact ho) hs2
        refine ⟨c', q, φ', n', u', cK _ i1, fun rec wrec v1 v2 v3 v4 e4 e3 hw => k3 rec wrec v1 v2 v3 v4 _ e4 (by rw [e3]; exact b) (by rw [st]; exact i2 rec wrec v1 v2 v3 v4 e4 e3 hw), i3, k5.tr i4, i5, k7.tr i6, k8.tr i7, k9.tr i8, k10.tr i9, fun k a b => (i10 k a b).trans (k13 k a b), i11, i12⟩
      · refine ⟨c2, q2, φ2, n2, u2, cK _ (fun g hg => ?_), fun rec wrec v1 v2 v3 v4 e4 e3 hw => k3 rec wrec v1 v2 v3 v4 _ e4 (by rw [e3]; exact b) (fun g hg => ?_), k4, k5, k6, k7, k8, k9, k10, k13, fun z => absurd z st, k15⟩
        · obtain ⟨g, rfl⟩ : ∃ g', g = g' + 1 := ⟨g - 1, by omega⟩
          have sp2 : f_Le_stopped c2 = true := by
            unfold f_Le_stopped
            rw [c1_eq, cd_f]
            intro y
            exact st (Int32.toInt_inj.mp (by rw [← k6.1, y]; rfl))
          constructor
          · show b_En_keepSlots_2 fu (T_En_keepSlots_2 fu g) _ _ _ = _
            unfold b_En_keepSlots_2
            rw [sp2, show cn1 .ne (b2i true) = true from rfl, cond_true]
            cases cn2 .ge (nI (j + 1)) 16 <;> rfl
          · show v_En_keepSlots_2 fu (T_En_keepSlots_2 fu g) (WT_En_keepSlots_2 fu g) _ _ _
            unfold v_En_keepSlots_2
            rw [sp2, show cn1 .ne (b2i true) = true from rfl]
            exact ⟨fun _ => trivial, fun _ => ⟨trivial, fun _ => trivial, (fun z => nomatch z)⟩⟩
        · obtain ⟨g, rfl⟩ : ∃ g', g = g' + 1 := ⟨g - 1, by omega⟩
          have ns : cn1 .ne q2.1 = true := by
            rw [c1_ne]
            exact dt (fun y => st (Int32.toInt_inj.mp (by rw [y]; rfl)))
          constructor
          · show b_M_scope_31 rec fu (T_M_scope_31 rec fu g) _ _ _ _ _ _ _ = _
            unfold b_M_scope_31
            rw [ns, cond_true]
            cases cn2 .ge (nI (j + 1)) 16 <;> rfl
          · show v_M_scope_31 rec wrec fu (T_M_scope_31 rec fu g) (WT_M_scope_31 rec wrec fu g) _ _ _ _ _ _ _
            unfold v_M_scope_31
            rw [ns]
            exact ⟨fun _ => hw, fun _ => ⟨fun _ => hw, (fun z => nomatch z)⟩⟩
    · have bf : btk m j = false := by cases hx : btk m j with
        | true => exact absurd hx b
        | false => rfl
      have hs2 : SV φ1 n1 d e m (j + 1) c1 r1 := fun i hi hb => by
        by_cases ei : i = j
        · rw [ei, bf] at hb
          exact nomatch hb
        · exact hs i (by omega) hb
      obtain ⟨c', q, φ', n', u', i1, i2, i3, i4, i5, i6, i7, i8, i9, i10, i11, i12⟩ := ks_go hfu hd he ho3 hmm k (j + 1) c1 r1 φ1 n1 u1 (by omega) h hz hc h30 ho hs2
      refine ⟨c', q, φ', n', u', fun g hg => ?_, fun rec wrec v1 v2 v3 v4 e4 e3 hw g hg => ?_, i3, i4, i5, i6, i7, i8, i9, i10, i11, i12⟩
      · obtain ⟨g, rfl⟩ : ∃ g', g = g' + 2 := ⟨g - 2, by omega⟩
        obtain ⟨x1, x2⟩ := i1 g (by omega)
        constructor
        · show b_En_keepSlots_2 fu (T_En_keepSlots_2 fu (g + 1)) _ _ _ = _
          unfold b_En_keepSlots_2
          rw [gj, cond_false, sp, show cn1 .ne (b2i false) = false from rfl, cond_false, sv1, bf, show cn1 .eq (b2i false) = true from rfl, cond_true]
          show b_En_keepSlots_26 fu (T_En_keepSlots_2 fu g) _ _ _ = _
          unfold b_En_keepSlots_26
          rw [nI_s]
          exact x1
        · show v_En_keepSlots_2 fu (T_En_keepSlots_2 fu (g + 1)) (WT_En_keepSlots_2 fu (g + 1)) _ _ _
          unfold v_En_keepSlots_2
          rw [gj, sp, show cn1 .ne (b2i false) = false from rfl, sv1, bf, show cn1 .eq (b2i false) = true from rfl]
          refine ⟨(fun z => nomatch z), fun _ => ⟨trivial, (fun z => nomatch z), fun _ => ⟨sv2, fun _ => ?_, (fun z => nomatch z)⟩⟩⟩
          show v_En_keepSlots_26 fu (T_En_keepSlots_2 fu g) (WT_En_keepSlots_2 fu g) _ _ _
          unfold v_En_keepSlots_26
          rw [nI_s]
          exact x2
      · obtain ⟨g, rfl⟩ : ∃ g', g = g' + 2 := ⟨g - 2, by omega⟩
        obtain ⟨x1, x2⟩ := i2 rec wrec v1 v2 v3 v4 e4 e3 hw g (by omega)
        unfold btk at bf
        rw [← e3] at bf
        constructor
        · show b_M_scope_31 rec fu (T_M_scope_31 rec fu (g + 1)) _ _ _ _ _ _ _ = _
          unfold b_M_scope_31
          rw [gj, cond_false, show cn1 .ne (0 : Int32) = false from rfl, cond_false, bf, cond_false]
          show b_M_scope_103 rec fu (T_M_scope_31 rec fu g) _ _ _ _ _ _ _ = _
          unfold b_M_scope_103
          rw [nI_s]
          exact x1
        · show v_M_scope_31 rec wrec fu (T_M_scope_31 rec fu (g + 1)) (WT_M_scope_31 rec wrec fu (g + 1)) _ _ _ _ _ _ _
          unfold v_M_scope_31
          rw [gj, show cn1 .ne (0 : Int32) = false from rfl, bf]
          refine ⟨(fun z => nomatch z), fun _ => ⟨(fun z => nomatch z), fun _ => ⟨(fun z => nomatch z), fun _ => ?_⟩⟩⟩
          show v_M_scope_103 rec wrec fu (T_M_scope_31 rec fu g) (WT_M_scope_31 rec wrec fu g) _ _ _ _ _ _ _
          unfold v_M_scope_103
          rw [nI_s]
          exact x2
end KP1
