/-! OP 21, its end -/
section C22
variable {G : AH} {T : Nat} {φ : Nat → Nat} {n u p fu : Nat} {c r : St} {q : Int32}
theorem rs_lt (h : RR G T φ n u c r) {a b : Nat} (ha : 1 ≤ a) (hab : a < b) (hla : a ≤ n ∧ LVE φ a) (hb : b ≤ n ∧ LVE φ b) (ka : (sA r 22 a).toInt ≤ 10) : (sA r 23 a).toNatClampNeg + (sA r 24 a).toNatClampNeg ≤ (sA r 23 b).toNatClampNeg := by
  have := (h.rt.2.2.2.2 a b ha hab hla hb).1
  rw [tz_row ka] at this
  exact this
theorem L_le {x y m : Int32} : cn1 .le (lg_cmp (Int32.toInt64 x + Int32.toInt64 y) (Int32.toInt64 m)) = decide (x.toInt + y.toInt ≤ m.toInt) := by
  have h1 := Int32.toInt_lt x
  have h2 := Int32.le_toInt x
  have h3 := Int32.toInt_lt y
  have h4 := Int32.le_toInt y
  rw [lc_le, Int64.toInt_add, Int32.toInt_toInt64, Int32.toInt_toInt64, Int32.toInt_toInt64, Int.bmod_eq_of_le (by omega) (by omega)]
theorem L_gt {x y m : Int32} : cn1 .gt (lg_cmp (Int32.toInt64 x + Int32.toInt64 y) (Int32.toInt64 m)) = decide (m.toInt < x.toInt + y.toInt) := by
  have h1 := Int32.toInt_lt x
  have h2 := Int32.le_toInt x
  have h3 := Int32.toInt_lt y
  have h4 := Int32.le_toInt y
  rw [lc_gt, Int64.toInt_add, Int32.toInt_toInt64, Int32.toInt_toInt64, Int32.toInt_toInt64, Int.bmod_eq_of_le (by omega) (by omega)]
theorem nI_ne {a b : Nat} (ha : a ≤ 40000) (hb : b ≤ 40000) : cn2 .ne (nI a) (nI b) = decide (¬ a = b) := by
  rw [c2_ne, yI_i (by omega), yI_i (by omega)]
  exact dcg (by omega)
/-- rows -/
theorem cr_out (hfu : 1000000 ≤ fu) (h : RR G T φ n u c r) (hz : SZ c) {a b : Nat} (ha : a ≤ n ∧ LVE φ a) (hb : b ≤ n ∧ LVE φ b) (k1 : 1 ≤ (sA r 22 a).toInt) (k2 : (sA r 22 a).toInt ≤ 8) (ke : (sA r 22 a).toInt = (sA r 22 b).toInt) {i j k : Int32} (hi : 0 ≤ i.toInt) (hj : 0 ≤ j.toInt) (hk : 0 ≤ k.toInt) (hia : i.toInt + k.toInt ≤ (sA r 24 a).toInt) (hjb : j.toInt + k.toInt ≤ (sA r 24 b).toInt) :
    OUT G T φ n c r (t_Op_copyMembers_85 fu c (po φ a) (po φ b) i j k) (cond (cn2 .ne (nI a) (nI b)) (t_M_copies_96 fu r (nI a) (nI b) k (sA r 23 a + i) (sA r 23 b + j)) (cond (cn2 .ge i j) (t_M_copies_96 fu r (nI a) (nI b) k (sA r 23 a + i) (sA r 23 b + j)) (t_M_copies_97 fu r (nI a) (nI b) k (sA r 23 a + i) (sA r 23 b + j) 1))) ∧ w_Op_copyMembers_85 fu c (po φ a) (po φ b) i j k ∧ ((cn2 .ne (nI a) (nI b) = true → w_M_copies_96 fu r (nI a) (nI b) k (sA r 23 a + i) (sA r 23 b + j)) ∧ (cn2 .ne (nI a) (nI b) = false → (cn2 .ge i j = true → w_M_copies_96 fu r (nI a) (nI b) k (sA r 23 a + i) (sA r 23 b + j)) ∧ (cn2 .ge i j = false → w_M_copies_97 fu r (nI a) (nI b) k (sA r 23 a + i) (sA r 23 b + j) 1))) := by
  have hbn := h.bnd
  have a40 : a ≤ 40000 := by omega
  have b40 : b ≤ 40000 := by omega
  have ga := k_pos h.rt k1
  have gb := k_pos h.rt (v := b) (by omega)
  obtain ⟨e1, e2, e3, e4, e5, e6, e7, e8, e9⟩ := p_row h.rt ha k1 k2
  obtain ⟨f1, f2, f3, f4, f5, f6, f7, f8, f9⟩ := p_row h.rt hb (show 1 ≤ (sA r 22 b).toInt by omega) (by omega)
  obtain ⟨fa, da1, da2, da3, da5, da6, da7, da8, da9⟩ := rd_row h.rt (show 1 ≤ a by omega) ha k1 k2
  obtain ⟨fb, db1, db2, db3, db5, db6, db7, db8, db9⟩ := rd_row h.rt (show 1 ≤ b by omega) hb (show 1 ≤ (sA r 22 b).toInt by omega) (by omega)
  have si : (i.toNatClampNeg : Int) = i.toInt := by rw [tn_eq]; omega
  have sj : (j.toNatClampNeg : Int) = j.toInt := by rw [tn_eq]; omega
  have sk : (k.toNatClampNeg : Int) = k.toInt := by rw [tn_eq]; omega
  have ma : ((sA r 24 a).toNatClampNeg : Int) = (sA r 24 a).toInt := by rw [tn_eq]; omega
  have mb : ((sA r 24 b).toNatClampNeg : Int) = (sA r 24 b).toInt := by rw [tn_eq]; omega
  have ssa : ((sA r 23 a).toNatClampNeg : Int) = (sA r 23 a).toInt := by rw [tn_eq]; omega
  have ssb : ((sA r 23 b).toNatClampNeg : Int) = (sA r 23 b).toInt := by rw [tn_eq]; omega
  obtain ⟨n6, n6i⟩ := nn_add (x := sA r 23 a) (y := i) da8 hi (by omega)
  obtain ⟨n7, n7i⟩ := nn_add (x := sA r 23 b) (y := j) db8 hj (by omega)
  have loop : ∀ dn : Bool, ((dn = false ∧ ((sA r 23 a).toNatClampNeg + i.toNatClampNeg + k.toNatClampNeg ≤ (sA r 23 b).toNatClampNeg + j.toNatClampNeg ∨ (sA r 23 b).toNatClampNeg + j.toNatClampNeg ≤ (sA r 23 a).toNatClampNeg + i.toNatClampNeg)) ∨ (dn = true ∧ (sA r 23 a).toNatClampNeg + i.toNatClampNeg < (sA r 23 b).toNatClampNeg + j.toNatClampNeg)) → t_M_copies_97 fu r (nI a) (nI b) k (sA r 23 a + i) (sA r 23 b + j) (b2i dn) = f_M_takesFor (pB r 26 (va_cpy (sB r 26) (sB r 26) ((sA r 23 a).toNatClampNeg + i.toNatClampNeg) ((sA r 23 b).toNatClampNeg + j.toNatClampNeg) k.toNatClampNeg)) (Int32.toInt64 k) ∧ w_M_copies_97 fu r (nI a) (nI b) k (sA r 23 a + i) (sA r 23 b + j) (b2i dn) := fun dn hd => by
    have := rw_go (fu := fu) (r := r) (a := a) (b := b) (s := (sA r 23 a).toNatClampNeg + i.toNatClampNeg) (d := (sA r 23 b).toNatClampNeg + j.toNatClampNeg) (k := k.toNatClampNeg) (dn := dn) (C := sB r 26) (vk := k) (v6 := sA r 23 a + i) (v7 := sA r 23 b + j) (v8 := b2i dn) a40 ⟨k1, k2⟩ sk.symm (by omega) (by omega) rfl (by omega) (by omega) hd k.toNatClampNeg 0 0 (by omega) rfl fu (by omega)
    rw [cpC_0, cpC_k, pB_self] at this
    exact this
  have hR := h.row (t := b) (show 1 ≤ b by omega) hb (by omega) (by omega) (f := va_cpy fa fb i.toNatClampNeg j.toNatClampNeg k.toNatClampNeg) (C := va_cpy (sB r 26) (sB r 26) ((sA r 23 a).toNatClampNeg + i.toNatClampNeg) ((sA r 23 b).toNatClampNeg + j.toNatClampNeg) k.toNatClampNeg) (fun x hx => by unfold va_cpy; rw [if_neg (by omega)]) (fun x hx => by
    unfold va_cpy
    by_cases g : j.toNatClampNeg ≤ x ∧ x < j.toNatClampNeg + k.toNatClampNeg
    · rw [if_pos g, if_pos (by omega)]
      obtain ⟨t1, t2⟩ := da3 (i.toNatClampNeg + (x - j.toNatClampNeg)) (by omega)
      rw [t1] at t2
      rw [t1, show (sA r 23 a).toNatClampNeg + i.toNatClampNeg + ((sA r 23 b).toNatClampNeg + x - ((sA r 23 b).toNatClampNeg + j.toNatClampNeg)) = (sA r 23 a).toNatClampNeg + (i.toNatClampNeg + (x - j.toNatClampNeg)) by omega]
      exact ⟨rfl, fun z => t2 (by omega)⟩
    · rw [if_neg g, if_neg (by omega)]
      exact db3 x hx)
  have e8' : (Int32.toInt64 k + 7) / 8 = lN ((k.toNatClampNeg + 7) / 8) := by rw [L_x hk, L_8 (by have := m31 k; omega)]
  have lk := m31 k
  have fin := OUT.tr (EX.rf φ n) (opC_Q c _ _ _) (opR_B r (Or.inl rfl) _) (bn_out hR hz (z := (k.toNatClampNeg + 7) / 8) (by omega))
  have hC : t_Op_copyMembers_85 fu c (po φ a) (po φ b) i j k = (f_Le_burn (pQ c (hup (sD c) (φ b + 1) (.inr (.inr (.inl ((sA r 24 b).toNatClampNeg, va_cpy fa fb i.toNatClampNeg j.toNatClampNeg k.toNatClampNeg))))) (sN c) (sU c)) (lN ((k.toNatClampNeg + 7) / 8))).2 := by
    obtain ⟨-, ia, -⟩ := a_isc h.rt ha
    obtain ⟨-, ib, -⟩ := a_isc h.rt hb
    unfold t_Op_copyMembers_85 t_Op_copyMembers_105 t_Op_copyMembers_111 f_Op_eighths
    rw [ia, ib, dt ⟨k1, k2⟩, dt (show 1 ≤ (sA r 22 b).toInt ∧ (sA r 22 b).toInt ≤ 8 by omega), show cn1 .eq (b2i true) = false from rfl, cond_false, cond_false, e6, f6, e8', dL_at (by omega) db2, aLF_at (by omega) da2, aLF_at (by omega) db2]
  have hM : ∀ dn : Bool, ((dn = false ∧ ((sA r 23 a).toNatClampNeg + i.toNatClampNeg + k.toNatClampNeg ≤ (sA r 23 b).toNatClampNeg + j.toNatClampNeg ∨ (sA r 23 b).toNatClampNeg + j.toNatClampNeg ≤ (sA r 23 a).toNatClampNeg + i.toNatClampNeg)) ∨ (dn = true ∧ (sA r 23 a).toNatClampNeg + i.toNatClampNeg < (sA r 23 b).toNatClampNeg + j.toNatClampNeg)) → OUT G T φ n c r (t_Op_copyMembers_85 fu c (po φ a) (po φ b) i j k) (t_M_copies_97 fu r (nI a) (nI b) k (sA r 23 a + i) (sA r 23 b + j) (b2i dn)) := fun dn hd => by
    rw [(loop dn hd).1, hC]
    unfold f_M_takesFor
    rw [e8']
    exact fin
  have dis : a ≠ b → ((sA r 23 a).toNatClampNeg + i.toNatClampNeg + k.toNatClampNeg ≤ (sA r 23 b).toNatClampNeg + j.toNatClampNeg ∨ (sA r 23 b).toNatClampNeg + j.toNatClampNeg ≤ (sA r 23 a).toNatClampNeg + i.toNatClampNeg) := fun hne => by
    rcases Nat.lt_or_gt_of_ne hne with g | g
    · have := rs_lt h (show 1 ≤ a by omega) g ha hb (by omega); omega
    · have := rs_lt h (show 1 ≤ b by omega) g hb ha (by omega); omega
  refine ⟨?_, ?_, ?_⟩
  · rw [nI_ne a40 b40, c2_ge]
    unfold t_M_copies_96
    by_cases gab : a = b
    · rw [cd_f (fun z => z gab)]
      by_cases gij : j.toInt ≤ i.toInt
      · rw [cd_t gij]
        exact hM false (Or.inl ⟨rfl, Or.inr (by rw [gab]; omega)⟩)
      · rw [cd_f gij]
        exact hM true (Or.inr ⟨rfl, by rw [gab]; omega⟩)
    · rw [cd_t gab]
      exact hM false (Or.inl ⟨rfl, dis gab⟩)
  · unfold w_Op_copyMembers_85
    rw [e6, f6, e8, f8]
    have z0k : ¬ k < 0 := by rw [Int32.lt_iff_toInt_lt, z0]; omega
    have z0i : ¬ i < 0 := by rw [Int32.lt_iff_toInt_lt, z0]; omega
    have z0j : ¬ j < 0 := by rw [Int32.lt_iff_toInt_lt, z0]; omega
    exact ⟨a_tho h.rt ha, fun _ => ⟨trivial, trivial⟩, fun _ => ⟨e2, a_tho h.rt hb, fun _ => ⟨trivial, trivial⟩, fun _ => ⟨f2, e3, f3, e7, f7, ⟨z0i, z0j, z0k, by omega, by omega⟩, trivial, trivial⟩⟩⟩
  · rw [nI_ne a40 b40, c2_ge]
    unfold w_M_copies_96
    refine ⟨fun z => (loop false (Or.inl ⟨rfl, dis (of_decide_eq_true z)⟩)).2, fun z => ⟨fun y => ?_, fun y => ?_⟩⟩
    · have gab : a = b := Decidable.not_not.mp (of_decide_eq_false z)
      have := of_decide_eq_true y
      exact (loop false (Or.inl ⟨rfl, Or.inr (by rw [gab]; omega)⟩)).2
    · have gab : a = b := Decidable.not_not.mp (of_decide_eq_false z)
      have := of_decide_eq_false y
      exact (loop true (Or.inr ⟨rfl, by rw [gab]; omega⟩)).2
/-- shelves -/
theorem cs_out (hfu : 1000000 ≤ fu) (h : RR G T φ n u c r) (hz : SZ c) {a b : Nat} (ha : a ≤ n ∧ LVE φ a) (hb : b ≤ n ∧ LVE φ b) (ka : (sA r 22 a).toInt = 9 ∨ (sA r 22 a).toInt = 10) (kb : (sA r 22 b).toInt = 9 ∨ (sA r 22 b).toInt = 10) {i j k : Int32} (hi : 0 ≤ i.toInt) (hj : 0 ≤ j.toInt) (hk : 0 ≤ k.toInt) (hia : i.toInt + k.toInt ≤ (sA r 24 a).toInt) (hjb : j.toInt + k.toInt ≤ (sA r 24 b).toInt) :
    OUT G T φ n c r (t_Op_copyMembers_79 fu (f_Sh_takeFrom fu c (po φ b) (po φ a) i j k).2 (po φ a) (po φ b) i j k (b2i (f_Sh_takeFrom fu c (po φ b) (po φ a) i j k).1)) (cond (cn2 .ne (nI a) (nI b)) (t_M_copies_96 fu r (nI a) (nI b) k (sA r 23 a + i) (sA r 23 b + j)) (cond (cn2 .ge i j) (t_M_copies_96 fu r (nI a) (nI b) k (sA r 23 a + i) (sA r 23 b + j)) (t_M_copies_97 fu r (nI a) (nI b) k (sA r 23 a + i) (sA r 23 b + j) 1))) ∧ (w_Sh_takeFrom fu c (po φ b) (po φ a) i j k ∧ w_Op_copyMembers_79 fu (f_Sh_takeFrom fu c (po φ b) (po φ a) i j k).2 (po φ a) (po φ b) i j k (b2i (f_Sh_takeFrom fu c (po φ b) (po φ a) i j k).1)) ∧ ((cn2 .ne (nI a) (nI b) = true → w_M_copies_96 fu r (nI a) (nI b) k (sA r 23 a + i) (sA r 23 b + j)) ∧ (cn2 .ne (nI a) (nI b) = false → (cn2 .ge i j = true → w_M_copies_96 fu r (nI a) (nI b) k (sA r 23 a + i) (sA r 23 b + j)) ∧ (cn2 .ge i j = false → w_M_copies_97 fu r (nI a) (nI b) k (sA r 23 a + i) (sA r 23 b + j) 1))) := by
  have hbn := h.bnd
  have a40 : a ≤ 40000 := by omega
  have b40 : b ≤ 40000 := by omega
  have ga := k_pos h.rt (v := a) (by omega)
  have gb := k_pos h.rt (v := b) (by omega)
  obtain ⟨b9, f9, -, -, -, -, -, -, -, sa0, sa1⟩ := rd_shl h.rt (show 1 ≤ a by omega) ha ka
  obtain ⟨b8, f8, -, -, -, -, -, -, -, sb0, sb1⟩ := rd_shl h.rt (show 1 ≤ b by omega) hb kb
  have si : (i.toNatClampNeg : Int) = i.toInt := by rw [tn_eq]; omega
  have sj : (j.toNatClampNeg : Int) = j.toInt := by rw [tn_eq]; omega
  have sk : (k.toNatClampNeg : Int) = k.toInt := by rw [tn_eq]; omega
  have ma : ((sA r 24 a).toNatClampNeg : Int) = (sA r 24 a).toInt := by rw [tn_eq]; omega
  have mb : ((sA r 24 b).toNatClampNeg : Int) = (sA r 24 b).toInt := by rw [tn_eq]; omega
  have ssa : ((sA r 23 a).toNatClampNeg : Int) = (sA r 23 a).toInt := by rw [tn_eq]; omega
  have ssb : ((sA r 23 b).toNatClampNeg : Int) = (sA r 23 b).toInt := by rw [tn_eq]; omega
  obtain ⟨n6, n6i⟩ := nn_add (x := sA r 23 a) (y := i) sa0 hi (by omega)
  obtain ⟨n7, n7i⟩ := nn_add (x := sA r 23 b) (y := j) sb0 hj (by omega)
  have lk := m31 k
  have e8' : (Int32.toInt64 k + 7) / 8 = lN ((k.toNatClampNeg + 7) / 8) := by rw [L_x hk, L_8 (by omega)]
  have after : ∀ (ok : Bool) (D' : AH) (C' : Nat → Int64), RR G T φ n u (pQ c D' (sN c) (sU c)) (pB r 26 C') → OUT G T φ n c r (t_Op_copyMembers_79 fu (pQ c D' (sN c) (sU c)) (po φ a) (po φ b) i j k (b2i ok)) (cond ok (f_M_takesFor (pB r 26 C') (Int32.toInt64 k)) (f_M_fails (pB r 26 C') 5)) ∧ w_Op_copyMembers_79 fu (pQ c D' (sN c) (sU c)) (po φ a) (po φ b) i j k (b2i ok) := fun ok D' C' hR => by
    obtain ⟨-, ia, -⟩ := a_isc hR.rt ha
    have nr : ¬ (1 ≤ (sA (pB r 26 C') 22 a).toInt ∧ (sA (pB r 26 C') 22 a).toInt ≤ 8) := by show ¬ (1 ≤ (sA r 22 a).toInt ∧ (sA r 22 a).toInt ≤ 8); omega
    constructor
    · unfold t_Op_copyMembers_79
      rw [cn1_ne_b2i]
      cases ok
      · exact OUT.tr (EX.rf φ n) (opC_Q c _ _ _) (opR_B r (Or.inl rfl) _) (fl_out hR hz (by decide) (by decide))
      · rw [cond_true, cond_true]
        unfold t_Op_copyMembers_85 t_Op_copyMembers_105 t_Op_copyMembers_111 f_Op_eighths f_M_takesFor
        rw [ia, df nr, show cn1 .eq (b2i false) = true from rfl, cond_true, e8']
        exact OUT.tr (EX.rf φ n) (opC_Q c _ _ _) (opR_B r (Or.inl rfl) _) (bn_out hR hz (z := (k.toNatClampNeg + 7) / 8) (by omega))
    · unfold w_Op_copyMembers_79 w_Op_copyMembers_85
      rw [ia, df nr]
      exact ⟨fun _ => ⟨a_tho hR.rt ha, fun _ => ⟨trivial, trivial⟩, (fun z => nomatch z)⟩, fun _ => ⟨w_fault _ 5, trivial⟩⟩
  have fwd : (if po φ a = po φ b then cond (cn2 .ge i j) (t_Sh_takeFrom_28 fu c (po φ b) (po φ a) i j k) ((T_Sh_takeFrom_10 fu fu).1 c (po φ b) i j (k - 1)) else t_Sh_takeFrom_28 fu c (po φ b) (po φ a) i j k) = t_Sh_takeFrom_28 fu c (po φ b) (po φ a) i j k → (cond (cn2 .ne (nI a) (nI b)) (t_M_copies_96 fu r (nI a) (nI b) k (sA r 23 a + i) (sA r 23 b + j)) (cond (cn2 .ge i j) (t_M_copies_96 fu r (nI a) (nI b) k (sA r 23 a + i) (sA r 23 b + j)) (t_M_copies_97 fu r (nI a) (nI b) k (sA r 23 a + i) (sA r 23 b + j) 1))) = t_M_copies_97 fu r (nI a) (nI b) k (sA r 23 a + i) (sA r 23 b + j) 0 → OUT G T φ n c r (t_Op_copyMembers_79 fu (f_Sh_takeFrom fu c (po φ b) (po φ a) i j k).2 (po φ a) (po φ b) i j k (b2i (f_Sh_takeFrom fu c (po φ b) (po φ a) i j k).1)) (cond (cn2 .ne (nI a) (nI b)) (t_M_copies_96 fu r (nI a) (nI b) k (sA r 23 a + i) (sA r 23 b + j)) (cond (cn2 .ge i j) (t_M_copies_96 fu r (nI a) (nI b) k (sA r 23 a + i) (sA r 23 b + j)) (t_M_copies_97 fu r (nI a) (nI b) k (sA r 23 a + i) (sA r 23 b + j) 1))) ∧ (w_Sh_takeFrom_28 fu c (po φ b) (po φ a) i j k ∧ w_Op_copyMembers_79 fu (f_Sh_takeFrom fu c (po φ b) (po φ a) i j k).2 (po φ a) (po φ b) i j k (b2i (f_Sh_takeFrom fu c (po φ b) (po φ a) i j k).1)) ∧ w_M_copies_97 fu r (nI a) (nI b) k (sA r 23 a + i) (sA r 23 b + j) 0 := fun hC hM => by
    obtain ⟨ok, D', C', y1, y2, y3, y4, y5⟩ := sf_go (fu := fu) (a := a) (b := b) (i := i.toNatClampNeg) (j := j.toNatClampNeg) (k := k.toNatClampNeg) (vi := i) (vj := j) (vk := k) (v6 := sA r 23 a + i) (v7 := sA r 23 b + j) ha hb si.symm sj.symm sk.symm k.toNatClampNeg 0 c r 0 h ka kb (by omega) (by omega) (by omega) (by omega) (by omega) rfl fu fu (by omega) (by omega)
    have eC : f_Sh_takeFrom fu c (po φ b) (po φ a) i j k = (ok, pQ c D' (sN c) (sU c)) := hC.trans y1
    rw [eC, hM, show t_M_copies_97 fu r (nI a) (nI b) k (sA r 23 a + i) (sA r 23 b + j) 0 = _ from y2]
    obtain ⟨z1, z2⟩ := after ok D' C' y3
    exact ⟨z1, ⟨y4, z2⟩, y5⟩
  by_cases gab : a = b
  · by_cases gij : j.toInt ≤ i.toInt
    · have c1 : cn2 .ge i j = true := by rw [c2_ge]; exact dt gij
      have c2 : cn2 .ne (nI a) (nI b) = false := by rw [nI_ne a40 b40]; exact df (fun z => z gab)
      obtain ⟨x1, ⟨x2, x3⟩, x4⟩ := fwd (by rw [if_pos (by rw [gab]), c1, cond_true]) (by rw [c1, c2]; rfl)
      refine ⟨x1, ⟨⟨lx_po h ha, lx_po h hb, fun _ => ⟨fun _ => x2, fun z => ?_⟩, fun _ => x2⟩, x3⟩, ?_⟩
      · rw [c1] at z; exact nomatch z
      · rw [c1, c2]
        exact ⟨(fun z => nomatch z), fun _ => ⟨fun _ => x4, (fun z => nomatch z)⟩⟩
    · have c1 : cn2 .ge i j = false := by rw [c2_ge]; exact df gij
      have c2 : cn2 .ne (nI a) (nI b) = false := by rw [nI_ne a40 b40]; exact df (fun z => z gab)
      have ek := i_subn (x := k) (y := 1) sk.symm (show ((1 : Int32).toInt) = 1 from rfl) (by omega) (by omega) (by decide) (by decide)
      have v7e : (sA r 23 b + j).toInt = (sA r 23 a).toInt + j.toNatClampNeg := by rw [← gab] at n7i ⊢; omega
      obtain ⟨D', C', y1, y2, y3, y4, y5⟩ := sb_go (fu := fu) (a := a) (i := i.toNatClampNeg) (j := j.toNatClampNeg) (k := k.toNatClampNeg) (vi := i) (vj := j) (vk := k) (v6 := sA r 23 a + i) (v7 := sA r 23 b + j) ha si.symm sj.symm sk.symm k.toNatClampNeg 0 c r 0 (k - 1) h ka (by omega) (by rw [gab]; omega) (by omega) v7e (by omega) rfl (by omega) fu fu (by omega) (by omega)
      have eC : f_Sh_takeFrom fu c (po φ b) (po φ a) i j k = (true, pQ c D' (sN c) (sU c)) := by
        unfold f_Sh_takeFrom
        rw [if_pos (by rw [gab]), c1, cond_false, ← gab]
        exact y1
      obtain ⟨z1, z2⟩ := after true D' C' y3
      have y2' : t_M_copies_97 fu r (nI a) (nI b) k (sA r 23 a + i) (sA r 23 b + j) 1 = f_M_takesFor (pB r 26 C') (Int32.toInt64 k) := by
        have e : nI b = nI a := by rw [gab]
        rw [e]
        exact y2
      have y5' : w_M_copies_97 fu r (nI a) (nI b) k (sA r 23 a + i) (sA r 23 b + j) 1 := by
        have e : nI b = nI a := by rw [gab]
        rw [e]
        exact y5
      rw [eC, c1, c2, cond_false, cond_false, y2']
      refine ⟨z1, ⟨⟨lx_po h ha, lx_po h hb, fun _ => ⟨fun z => ?_, fun _ => ?_⟩, fun z => absurd (by rw [gab]) z⟩, z2⟩, (fun z => nomatch z), fun _ => ⟨(fun z => nomatch z), fun _ => y5'⟩⟩
      · rw [c1] at z; exact nomatch z
      · rw [← gab]; exact y4
  · have c2 : cn2 .ne (nI a) (nI b) = true := by rw [nI_ne a40 b40]; exact dt gab
    have npo : ¬ po φ a = po φ b := fun e => by
      rw [po_s φ (show 1 ≤ a by omega), po_s φ (show 1 ≤ b by omega)] at e
      exact gab (ph_inj h (by omega) ha (by omega) hb (Option.some.inj e))
    obtain ⟨x1, ⟨x2, x3⟩, x4⟩ := fwd (if_neg npo) (by rw [c2]; rfl)
    refine ⟨x1, ⟨⟨lx_po h ha, lx_po h hb, fun z => absurd z npo, fun _ => x2⟩, x3⟩, ?_⟩
    rw [c2]
    exact ⟨fun _ => x4, (fun z => nomatch z)⟩
theorem op_21 (hfu : 1000000 ≤ fu) (h : RR G T φ n u c r) (hz : SZ c) (hc : CDH r p c) (hq : q.toInt = (p : Int) + 1) (hp : p + 6 ≤ 3200) (b1 : (sA r 30 (p + 1)).toInt ≤ 15) (b2 : (sA r 30 (p + 2)).toInt ≤ 7) (b3 : (sA r 30 (p + 3)).toInt ≤ 15) (b4 : (sA r 30 (p + 4)).toInt ≤ 7) (b5 : (sA r 30 (p + 5)).toInt ≤ 7) :
    OUT G T φ n c r (f_Op_copyMembers fu c (f_Op_slotAt c 1) (f_Op_slotAt c 3)) (f_M_members fu r 21 q) ∧ (w_Op_slotAt c 1 ∧ (w_Op_slotAt c 3 ∧ (w_Op_copyMembers fu c (f_Op_slotAt c 1) (f_Op_slotAt c 3) ∧ True))) ∧ w_M_members fu r 21 q := by
  obtain ⟨q0, v0⟩ := o_q0 hq (by omega)
  obtain ⟨q1, v1⟩ := o_q (k := 1) (j := 2) hq rfl (by omega)
  obtain ⟨q2, v2⟩ := o_q (k := 2) (j := 3) hq rfl (by omega)
  obtain ⟨q3, v3⟩ := o_q (k := 3) (j := 4) hq rfl (by omega)
  obtain ⟨q4, v4⟩ := o_q (k := 4) (j := 5) hq rfl (by omega)
  have z1 := (hc.b (p + 1)).1
  have z2 := (hc.b (p + 2)).1
  have z3 := (hc.b (p + 3)).1
  have z4 := (hc.b (p + 4)).1
  have z5 := (hc.b (p + 5)).1
  have hbn := h.bnd
  obtain ⟨a, y0, y1, y2, y3⟩ := o_slt (k := 1) (j := 1) hc h.2.2.2.2.1 rfl (by omega) b1
  obtain ⟨b, x0, x1, x2, x3⟩ := o_slt (k := 3) (j := 3) hc h.2.2.2.2.1 rfl (by omega) b3
  obtain ⟨n1, m1⟩ := o_num (k := 2) (j := 2) hc h.1 rfl (by omega) b2
  obtain ⟨n2, m2⟩ := o_num (k := 4) (j := 4) hc h.1 rfl (by omega) b4
  obtain ⟨n3, m3⟩ := o_num (k := 5) (j := 5) hc h.1 rfl (by omega) b5
  obtain ⟨i, hi⟩ : ∃ i, i = sA r 28 (sA r 30 (p + 2)).toNatClampNeg := ⟨_, rfl⟩
  obtain ⟨j, hj⟩ : ∃ j, j = sA r 28 (sA r 30 (p + 4)).toNatClampNeg := ⟨_, rfl⟩
  obtain ⟨k, hk⟩ : ∃ k, k = sA r 28 (sA r 30 (p + 5)).toNatClampNeg := ⟨_, rfl⟩
  rw [← hi] at n1
  rw [← hj] at n2
  rw [← hk] at n3
  have a40 : a ≤ 40000 := by omega
  have b40 : b ≤ 40000 := by omega
  have ea : (nI a).toNatClampNeg = a := nN (by omega)
  have eb : (nI b).toNatClampNeg = b := nN (by omega)
  have hm : f_M_members fu r 21 q = f_M_copies fu r (nI a) i (nI b) j k := by
    unfold f_M_members
    rw [show cn2 .ne (21 : Int32) 17 = true from rfl, show cn2 .ne (21 : Int32) 18 = true from rfl, show cn2 .ne (21 : Int32) 21 = false from rfl, cond_true, cond_true, cond_false, q0, q1, q2, q3, q4, y1, x1, ← hi, ← hj, ← hk]
  have wm : w_M_copies fu r (nI a) i (nI b) j k → w_M_members fu r 21 q := fun w => by
    unfold w_M_members
    refine ⟨fun _ => ⟨fun _ => ⟨(fun z => nomatch z), fun _ => ?_⟩, (fun z => nomatch z)⟩, (fun z => nomatch z)⟩
    rw [q0, q1, q2, q3, q4, y1, x1, ← hi, ← hj, ← hk]
    exact ⟨v0, vp_of z1 (by omega), v1, vp_of z2 (by omega), v2, vp_of z3 (by omega), v3, vp_of z4 (by omega), v4, vp_of z5 (by omega), w, trivial⟩
  rw [y2, x2, hm]
  unfold f_Op_copyMembers w_Op_copyMembers t_Op_copyMembers_16 w_Op_copyMembers_16
  rw [n1, n2, n3]
  have wf1 : w_M_copies_4 fu r := ⟨w_fails r 1, trivial⟩
  by_cases ga : a = 0
  · rw [show Option.isNone (po φ a) = true from by rw [ga]; rfl, cond_true]
    refine ⟨?_, ⟨y3, x3, ⟨m1, m2, m3, fun _ => ⟨w_fault c 1, trivial⟩, (fun z => nomatch z)⟩, trivial⟩, wm ?_⟩
    · unfold f_M_copies t_M_copies_4
      rw [n_eq a40, cd_t ga]
      exact fl_out h hz (by decide) (by decide)
    · unfold w_M_copies
      rw [n_eq a40, dt ga]
      exact ⟨fun _ => wf1, (fun z => nomatch z)⟩
  have na : Option.isNone (po φ a) = false := by rw [po_s φ (by omega)]; rfl
  rw [na, cond_false]
  by_cases gb : b = 0
  · rw [show Option.isNone (po φ b) = true from by rw [gb]; rfl, cond_true]
    refine ⟨?_, ⟨y3, x3, ⟨m1, m2, m3, (fun z => nomatch z), fun _ => ⟨fun _ => ⟨w_fault c 1, trivial⟩, (fun z => nomatch z)⟩⟩, trivial⟩, wm ?_⟩
    · unfold f_M_copies t_M_copies_4
      rw [n_eq a40, cd_f ga, n_ne b40, cd_f (fun z => z gb)]
      exact fl_out h hz (by decide) (by decide)
    · unfold w_M_copies
      rw [n_eq a40, df ga, n_ne b40, df (p := ¬ b = 0) (fun z => z gb)]
      exact ⟨(fun z => nomatch z), fun _ => ⟨(fun z => nomatch z), fun _ => wf1⟩⟩
  have nb : Option.isNone (po φ b) = false := by rw [po_s φ (by omega)]; rfl
  rw [nb, cond_false]
  obtain ⟨al1, al2⟩ := al_C h y0 x0
  obtain ⟨am1, am2, am3⟩ := al_M (fu := fu) h y0 x0 ga gb i j k
  by_cases gal : alk r a b
  · rw [al1.mpr gal, show cn1 .ne (b2i true) = true from rfl, cond_true, am1 gal]
    obtain ⟨sa1, sa2, sa3, -, -⟩ := a_size h.rt (show 1 ≤ a by omega) y0
    obtain ⟨sb1, sb2, sb3, -, -⟩ := a_size h.rt (show 1 ≤ b by omega) x0
    have ka10 : (sA r 22 a).toInt ≤ 10 := by unfold alk at gal; omega
    have kb10 : (sA r 22 b).toInt ≤ 10 := by unfold alk at gal; omega
    rw [if_pos ka10] at sa1
    rw [if_pos kb10] at sb1
    have ua : u_size c (po φ a) = sA r 24 a := by rw [po_s φ (by omega)]; exact sa1
    have ub : u_size c (po φ b) = sA r 24 b := by rw [po_s φ (by omega)]; exact sb1
    have wa : wu_size c (po φ a) := by rw [po_s φ (by omega)]; exact sa2
    have wb : wu_size c (po φ b) := by rw [po_s φ (by omega)]; exact sb2
    have w2c : w_Op_copyMembers_56 fu c := ⟨w_fault c 2, trivial⟩
    have w2m : w_M_copies_70 fu r := ⟨w_fails r 2, trivial⟩
    unfold t_Op_copyMembers_56 t_M_copies_40 t_M_copies_70
    rw [ua, ub, ea, eb, c1_lt, c1_lt, c1_lt, L_gt, L_le]
    obtain ⟨-, ia1, ia2, -⟩ := a_isc h.rt y0
    obtain ⟨-, ib1, ib2, -⟩ := a_isc h.rt x0
    by_cases bad : i.toInt < 0 ∨ j.toInt < 0 ∨ k.toInt < 0 ∨ (sA r 24 a).toInt < i.toInt + k.toInt ∨ ¬ j.toInt + k.toInt ≤ (sA r 24 b).toInt
    · have e0 : ∀ {α : Type} (x y : α), cond (decide (i.toInt < 0)) x (cond (decide (j.toInt < 0)) x (cond (decide (k.toInt < 0)) x (cond (decide ((sA r 24 a).toInt < i.toInt + k.toInt)) x (cond (decide (j.toInt + k.toInt ≤ (sA r 24 b).toInt)) y x)))) = x := fun x y => by
        by_cases g1 : i.toInt < 0
        · rw [cd_t g1]
        rw [cd_f g1]
        by_cases g2 : j.toInt < 0
        · rw [cd_t g2]
        rw [cd_f g2]
        by_cases g3 : k.toInt < 0
        · rw [cd_t g3]
        rw [cd_f g3]
        by_cases g4 : (sA r 24 a).toInt < i.toInt + k.toInt
        · rw [cd_t g4]
        rw [cd_f g4, cd_f (by omega)]
      rw [e0, e0]
      refine ⟨fl_out h hz (by decide) (by decide), ⟨y3, x3, ⟨m1, m2, m3, (fun z => nomatch z), fun _ => ⟨(fun z => nomatch z), fun _ => ⟨al2, fun _ => ⟨fun _ => w2c, fun g1 => ⟨fun _ => w2c, fun g2 => ⟨fun _ => w2c, fun g3 => ⟨wa, fun _ => w2c, fun g4 => ⟨wb, fun g5 => ?_, fun _ => w2c⟩⟩⟩⟩⟩, (fun z => nomatch z)⟩⟩⟩, trivial⟩, wm (am3 (fun _ => ?_))⟩
      · have g1 := of_decide_eq_false g1
        have g2 := of_decide_eq_false g2
        have g3 := of_decide_eq_false g3
        have g4 := of_decide_eq_false g4
        have g5 := of_decide_eq_true g5
        omega
      · unfold w_M_copies_40
        rw [ea, eb, c1_lt, c1_lt, c1_lt, L_gt, L_le]
        refine ⟨fun _ => w2m, fun g1 => ⟨fun _ => w2m, fun g2 => ⟨fun _ => w2m, fun g3 => ⟨n_vp a40, fun _ => w2m, fun g4 => ⟨n_vp b40, fun g5 => ?_, fun _ => w2m⟩⟩⟩⟩⟩
        have g1 := of_decide_eq_false g1
        have g2 := of_decide_eq_false g2
        have g3 := of_decide_eq_false g3
        have g4 := of_decide_eq_false g4
        have g5 := of_decide_eq_true g5
        omega
    · have g1 : ¬ i.toInt < 0 := by omega
      have g2 : ¬ j.toInt < 0 := by omega
      have g3 : ¬ k.toInt < 0 := by omega
      have g4 : ¬ (sA r 24 a).toInt < i.toInt + k.toInt := by omega
      have g5 : j.toInt + k.toInt ≤ (sA r 24 b).toInt := by omega
      rw [df g1, df g2, df g3, df g4, dt g5, cond_false, cond_false, cond_false, cond_false, cond_true, cond_false, cond_false, cond_false, cond_false, cond_true]
      have wm40 : ((cn2 .ne (nI a) (nI b) = true → w_M_copies_96 fu r (nI a) (nI b) k (sA r 23 a + i) (sA r 23 b + j)) ∧ (cn2 .ne (nI a) (nI b) = false → (cn2 .ge i j = true → w_M_copies_96 fu r (nI a) (nI b) k (sA r 23 a + i) (sA r 23 b + j)) ∧ (cn2 .ge i j = false → w_M_copies_97 fu r (nI a) (nI b) k (sA r 23 a + i) (sA r 23 b + j) 1))) → w_M_copies_40 fu r (nI a) i (nI b) j k := fun w => by
        unfold w_M_copies_40
        rw [ea, eb]
        exact ⟨fun _ => w2m, fun _ => ⟨fun _ => w2m, fun _ => ⟨fun _ => w2m, fun _ => ⟨n_vp a40, fun _ => w2m, fun _ => ⟨n_vp b40, fun _ => ⟨n_vp a40, n_vp b40, w⟩, fun _ => w2m⟩⟩⟩⟩⟩
      rcases id gal with gl | gl
      · obtain ⟨o1, o2, o3⟩ := cr_out (fu := fu) hfu h hz y0 x0 gl.1 gl.2.1 gl.2.2 (i := i) (j := j) (k := k) (by omega) (by omega) (by omega) (by omega) g5
        rw [ia2, df (p := (sA r 22 a).toInt = 9 ∨ (sA r 22 a).toInt = 10) (by omega), show cn1 .eq (b2i false) = true from rfl, cond_true]
        exact ⟨o1, ⟨y3, x3, ⟨m1, m2, m3, (fun z => nomatch z), fun _ => ⟨(fun z => nomatch z), fun _ => ⟨al2, fun _ => ⟨(fun z => nomatch z), fun _ => ⟨(fun z => nomatch z), fun _ => ⟨(fun z => nomatch z), fun _ => ⟨wa, (fun z => nomatch z), fun _ => ⟨wb, fun _ => ⟨a_tho h.rt y0, fun _ => o2, (fun z => nomatch z)⟩, (fun z => nomatch z)⟩⟩⟩⟩⟩, (fun z => nomatch z)⟩⟩⟩, trivial⟩, wm (am3 (fun _ => wm40 o3))⟩
      · obtain ⟨o1, ⟨o2, o4⟩, o3⟩ := cs_out (fu := fu) hfu h hz y0 x0 gl.1 gl.2 (i := i) (j := j) (k := k) (by omega) (by omega) (by omega) (by omega) g5
        rw [ia2, ib2, dt gl.1, dt gl.2, show cn1 .eq (b2i true) = false from rfl, cond_false, cond_false]
        have pa := p_shl h.rt y0 gl.1
        have pb := p_shl h.rt x0 gl.2
        exact ⟨o1, ⟨y3, x3, ⟨m1, m2, m3, (fun z => nomatch z), fun _ => ⟨(fun z => nomatch z), fun _ => ⟨al2, fun _ => ⟨(fun z => nomatch z), fun _ => ⟨(fun z => nomatch z), fun _ => ⟨(fun z => nomatch z), fun _ => ⟨wa, (fun z => nomatch z), fun _ => ⟨wb, fun _ => ⟨a_tho h.rt y0, (fun z => nomatch z), fun _ => ⟨pa.2.1, a_tho h.rt x0, (fun z => nomatch z), fun _ => ⟨pb.2.1, o2, pb.2.2.2.1, o4⟩⟩⟩, (fun z => nomatch z)⟩⟩⟩⟩⟩, (fun z => nomatch z)⟩⟩⟩, trivial⟩, wm (am3 (fun _ => wm40 o3))⟩
  · have nal : f_Op_areAlike c (po φ a) (po φ b) = false := by
      cases hh : f_Op_areAlike c (po φ a) (po φ b)
      · rfl
      · exact absurd (al1.mp hh) gal
    rw [nal, show cn1 .ne (b2i false) = false from rfl, cond_false, am2 gal]
    exact ⟨fl_out h hz (by decide) (by decide), ⟨y3, x3, ⟨m1, m2, m3, (fun z => nomatch z), fun _ => ⟨(fun z => nomatch z), fun _ => ⟨al2, (fun z => nomatch z), fun _ => ⟨w_fault c 5, trivial⟩⟩⟩⟩, trivial⟩, wm (am3 (fun z => absurd z gal))⟩
end C22
