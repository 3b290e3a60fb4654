/-! OPS 19, 20: what a row keeps -/
theorem cut_8 (x : Int32) : x.toInt8.toInt32 = (x <<< ((24 : Int32) &&& 31)) >>> ((24 : Int32) &&& 31) := by
  refine b_ext fun i hi => ?_
  have e : ∀ j, j < 32 → bt (x <<< ((24 : Int32) &&& 31)) j = (decide (24 ≤ j) && bt x (j - 24)) := fun j hj => b_shl24 x hj
  rw [show bt ((x <<< ((24 : Int32) &&& 31)) >>> ((24 : Int32) &&& 31)) i = _ from b_sshr 24 (by decide) _ hi]
  unfold bt
  rw [Int8.toBitVec_toInt32, Int32.toBitVec_toInt8, BitVec.getLsbD_signExtend, decide_eq_true hi, Bool.true_and]
  by_cases g : i < 8
  · rw [if_pos g, if_pos (by omega), BitVec.getLsbD_signExtend, decide_eq_true g, Bool.true_and, if_pos hi]
    have := e (24 + i) (by omega)
    unfold bt at this
    rw [this, decide_eq_true (by omega), Bool.true_and]
    congr 1
    omega
  · rw [if_neg g, if_neg (by omega), BitVec.msb_eq_getLsbD_last, BitVec.getLsbD_signExtend]
    have := e 31 (by omega)
    unfold bt at this
    rw [this]
    rfl
theorem cut_16 (x : Int32) : x.toInt16.toInt32 = (x <<< ((16 : Int32) &&& 31)) >>> ((16 : Int32) &&& 31) := by
  refine b_ext fun i hi => ?_
  have e : ∀ j, j < 32 → bt (x <<< ((16 : Int32) &&& 31)) j = (decide (16 ≤ j) && bt x (j - 16)) := fun j hj => b_shl16 x hj
  rw [show bt ((x <<< ((16 : Int32) &&& 31)) >>> ((16 : Int32) &&& 31)) i = _ from b_sshr 16 (by decide) _ hi]
  unfold bt
  rw [Int16.toBitVec_toInt32, Int32.toBitVec_toInt16, BitVec.getLsbD_signExtend, decide_eq_true hi, Bool.true_and]
  by_cases g : i < 16
  · rw [if_pos g, if_pos (by omega), BitVec.getLsbD_signExtend, decide_eq_true g, Bool.true_and, if_pos hi]
    have := e (16 + i) (by omega)
    unfold bt at this
    rw [this, decide_eq_true (by omega), Bool.true_and]
    congr 1
    omega
  · rw [if_neg g, if_neg (by omega), BitVec.msb_eq_getLsbD_last, BitVec.getLsbD_signExtend]
    have := e 31 (by omega)
    unfold bt at this
    rw [this]
    rfl
theorem cut_ch (x : Int32) : (Int32.toUInt32 x % 65536).toInt32 = x &&& 65535 := by
  obtain ⟨k, hk, rfl⟩ := wb_of32 x
  rw [nx_mod]
  refine Int32.toBitVec_inj.mp (BitVec.eq_of_toNat_eq ?_)
  show (BitVec.ofNat 32 k % BitVec.ofNat 32 65536).toNat = (BitVec.ofNat 32 (k % 65536)).toNat
  rw [BitVec.toNat_umod, BitVec.toNat_ofNat, BitVec.toNat_ofNat, BitVec.toNat_ofNat, Nat.mod_eq_of_lt hk, show 65536 % 2 ^ 32 = 65536 from rfl, Nat.mod_eq_of_lt (Nat.lt_of_le_of_lt (Nat.mod_le _ _) hk)]
theorem pk_l23 (M : Nat) (E : Int) (st : Bool) (h0 : M ≠ 0) : pk 23 127 M E st ≤ 255 * 2 ^ 23 := by
  have hb := nb_1 M
  have hl := nb_lt M
  unfold pk
  obtain ⟨F, hF⟩ : ∃ F : Int, F = E + nb M - 1 + ((127 : Nat) : Int) := ⟨_, rfl⟩
  rw [← hF]
  by_cases h1 : (2 * ((127 : Nat) : Int)) < F
  · rw [if_pos h1]
    exact Nat.le_refl _
  · rw [if_neg h1]
    have hT : (F - 1).toNat ≤ 253 := by clear hl; omega
    have hQ : (F - 1).toNat * 2 ^ 23 ≤ 253 * 2 ^ 23 := Nat.mul_le_mul_right _ hT
    have fin : ∀ x, x ≤ 2 ^ 24 → (F - 1).toNat * 2 ^ 23 + x ≤ 255 * 2 ^ 23 := fun x hx => Nat.le_trans (Nat.add_le_add hQ hx) (by decide)
    obtain ⟨G, hG⟩ : ∃ G : Int, G = (if F < 1 then 1 - F else 0) := ⟨_, rfl⟩
    have hG0 : 0 ≤ G := by rw [hG]; clear hl hQ fin; split <;> omega
    rw [← hG]
    by_cases h2 : (nb M : Int) - (((23 : Nat) : Int) + 1) + G ≤ 0
    · rw [if_pos h2]
      refine fin _ ?_
      have : M * 2 ^ (-((nb M : Int) - (((23 : Nat) : Int) + 1) + G)).toNat ≤ 2 ^ nb M * 2 ^ (-((nb M : Int) - (((23 : Nat) : Int) + 1) + G)).toNat := Nat.mul_le_mul_right _ (Nat.le_of_lt hl)
      refine Nat.le_trans this ?_
      rw [← pw_add]
      exact Nat.pow_le_pow_right (by decide) (by clear hl hQ fin this; omega)
    · rw [if_neg h2]
      refine fin _ (Nat.le_trans (rne_le _ _ _) ?_)
      obtain ⟨b, hb'⟩ : ∃ b, b = ((nb M : Int) - (((23 : Nat) : Int) + 1) + G).toNat := ⟨_, rfl⟩
      rw [← hb']
      refine Nat.succ_le_of_lt ((Nat.div_lt_iff_lt_mul (pw_pos b)).mpr ?_)
      rw [← pw_add]
      exact Nat.lt_of_lt_of_le hl (Nat.pow_le_pow_right (by decide) (by clear hl hQ fin; omega))
theorem pf_or {k : Nat} (hk : k ≤ 255 * 2 ^ 23) (s : Int32) (hs : s = 0 ∨ s = -2147483648) : f_Re_plainFloat (s ||| nI k) = s ||| nI k := by
  have hk31 : k < 2 ^ 31 := Nat.lt_of_le_of_lt hk (by decide)
  have e : (s ||| nI k) &&& (2147483647 : Int32) = nI k := by
    rcases hs with g | g <;> subst g
    · rw [Int32.zero_or, show (2147483647 : Int32) = nI (2 ^ 31 - 1) from by decide, nx_and, Nat.and_two_pow_sub_one_eq_mod, Nat.mod_eq_of_lt hk31]
    · refine b_ext fun i hi => ?_
      rw [b_and, b_or]
      have e1 : ∀ i, i < 32 → (bt (-2147483648) i && bt 2147483647 i) = false := by decide +kernel
      have e2 : ∀ i, i < 31 → bt 2147483647 i = true := by decide +kernel
      by_cases g : i < 31
      · have := e1 i hi
        rw [e2 i g, Bool.and_true] at this
        rw [this, e2 i g, Bool.false_or, Bool.and_true]
      · have i31 : i = 31 := by omega
        subst i31
        rw [show bt 2147483647 31 = false from by decide, Bool.and_false]
        unfold bt
        show false = (BitVec.ofNat 32 k).getLsbD 31
        rw [BitVec.getLsbD_ofNat, Nat.testBit_lt_two_pow hk31, Bool.and_false]
  unfold f_Re_plainFloat
  rw [e, c2_le, yI_i hk31, cd_t (show (k : Int) ≤ (2139095040 : Int32).toInt from Int.ofNat_le.mpr hk)]
theorem pf_can (x : Int64) : f_Re_plainFloat (f_Re_toFloat x) = f_Re_toFloat x := by
  obtain ⟨u, hu, rfl⟩ := d_of x
  have key : ∀ w : Int32, (w = 0 ∨ w = -2147483648) → f_Re_plainFloat (t_Re_toFloat_12 (lN u) w) = t_Re_toFloat_12 (lN u) w := fun w hw => by
    unfold t_Re_toFloat_12
    cases cn1 .ne (lg_cmp (f_Re_size (lN u)) 9218868437227405312)
    · exact pf_or (k := 255 * 2 ^ 23) (Nat.le_refl _) w hw
    · rw [cond_true, d_manR hu]
      by_cases z : zm u = 0
      · rw [z]
        show f_Re_plainFloat (w ||| Int64.toInt32 (f_Re_rounded 0 _ _ _)) = w ||| Int64.toInt32 (f_Re_rounded 0 _ _ _)
        rw [rnd0]
        exact pf_or (k := 0) (Nat.zero_le _) w hw
      · rw [r23 z (Nat.lt_trans (zm_lt u) (by decide)) (zxr u (d_exp hu)), lN_I]
        exact pf_or (pk_l23 _ _ _ z) w hw
  unfold f_Re_toFloat
  cases cn1 .eq (b2i (f_Re_isNan (lN u)))
  · rw [cond_false]
    decide
  · rw [cond_true]
    cases cn1 .ge (lg_cmp (lN u) 0)
    · exact key _ (Or.inr rfl)
    · exact key _ (Or.inl rfl)
theorem nrw_cut {w x : Int32} (h : w = 1 ∨ w = 2 ∨ w = 3 ∨ w = 4 ∨ w = 5 ∨ w = 8) : f_Ro_narrowed w (Int32.toInt64 x) = f_M_cut w x := by
  unfold f_Ro_narrowed f_M_cut
  rw [Int32.toInt32_toInt64]
  rcases h with g | g | g | g | g | g <;> subst g
  · rw [if_pos rfl, if_pos rfl, cut_8]
  · rw [if_neg (by decide), if_pos rfl, if_neg (by decide), if_pos rfl, cut_ch]
  · rw [if_neg (by decide), if_neg (by decide), if_pos rfl, if_neg (by decide), if_neg (by decide), if_pos rfl, cut_16]
  · rw [if_neg (by decide), if_neg (by decide), if_neg (by decide), if_pos rfl, if_neg (by decide), if_neg (by decide), if_neg (by decide), if_pos rfl]
  · rw [if_neg (by decide), if_neg (by decide), if_neg (by decide), if_neg (by decide), if_pos rfl, if_neg (by decide), if_neg (by decide), if_neg (by decide), if_neg (by decide), if_pos rfl]
  · rw [if_neg (by decide), if_neg (by decide), if_neg (by decide), if_neg (by decide), if_neg (by decide), if_neg (by decide), if_neg (by decide), if_pos rfl, if_neg (by decide), if_neg (by decide), if_neg (by decide), if_neg (by decide), if_neg (by decide), if_neg (by decide), if_neg (by decide), if_pos rfl, Int32.toInt64_and]
    rfl
theorem nrw_6 (x : Int64) : f_Ro_narrowed 6 (Int32.toInt64 (f_Re_toFloat x)) = Int32.toInt64 (f_Re_toFloat x) := by
  unfold f_Ro_narrowed
  rw [if_neg (by decide), if_neg (by decide), if_neg (by decide), if_neg (by decide), if_neg (by decide), if_pos rfl, Int32.toInt32_toInt64, pf_can]
theorem nrw_7 {x : Int64} (h : KP x) : f_Ro_narrowed 7 x = x := by
  unfold f_Ro_narrowed
  rw [if_neg (by decide), if_neg (by decide), if_neg (by decide), if_neg (by decide), if_neg (by decide), if_neg (by decide), if_pos rfl]
  exact h
theorem eight {x : Int32} (h1 : 1 ≤ x.toInt) (h2 : x.toInt ≤ 8) (n6 : ¬ x.toInt = 6) (n7 : ¬ x.toInt = 7) : x = 1 ∨ x = 2 ∨ x = 3 ∨ x = 4 ∨ x = 5 ∨ x = 8 := by
  have i : ∀ k : Int32, x.toInt = k.toInt → x = k := fun k => Int32.toInt_inj.mp
  rcases (show x.toInt = 1 ∨ x.toInt = 2 ∨ x.toInt = 3 ∨ x.toInt = 4 ∨ x.toInt = 5 ∨ x.toInt = 8 by omega) with g | g | g | g | g | g
  · exact Or.inl (i 1 g)
  · exact Or.inr (Or.inl (i 2 g))
  · exact Or.inr (Or.inr (Or.inl (i 3 g)))
  · exact Or.inr (Or.inr (Or.inr (Or.inl (i 4 g))))
  · exact Or.inr (Or.inr (Or.inr (Or.inr (Or.inl (i 5 g)))))
  · exact Or.inr (Or.inr (Or.inr (Or.inr (Or.inr (i 8 g)))))
theorem wi_C (c : St) (i m : Int32) : f_Op_isWithin c i m = (if 0 ≤ i.toInt ∧ i.toInt < m.toInt then (true, c) else (false, f_Le_fault c 2)) := by
  unfold f_Op_isWithin t_Op_isWithin_5
  rw [c1_lt, c2_lt]
  by_cases g : i.toInt < 0
  · rw [cd_t g, if_neg (by omega)]
  · rw [cd_f g]
    by_cases g2 : i.toInt < m.toInt
    · rw [cd_t g2, if_pos (by omega)]
    · rw [cd_f g2, if_neg (by omega)]
theorem w_wi (c : St) (i m : Int32) : w_Op_isWithin c i m := ⟨fun _ => ⟨w_fault c 2, trivial⟩, fun _ => ⟨fun _ => trivial, fun _ => ⟨w_fault c 2, trivial⟩⟩⟩
theorem RR.rowput {G : AH} {T : Nat} {φ : Nat → Nat} {n u t i : Nat} {c r : St} (h : RR G T φ n u c r) (h1 : 1 ≤ t) (h2 : t ≤ n ∧ LVE φ t) (k1 : 1 ≤ (sA r 22 t).toInt) (k2 : (sA r 22 t).toInt ≤ 8) (hi : i < (sA r 24 t).toNatClampNeg) {x : Int64} (hx : (sA r 22 t).toInt = 7 → KP x) : RR G T φ n u (pQ c (dL (sD c) (some (φ t + 1)) (vp_updL (aLF (sD c) (some (φ t + 1))) i x)) (sN c) (sU c)) (pB r 26 (vp_updL (sB r 26) ((sA r 23 t).toNatClampNeg + i) x)) := by
  obtain ⟨f, d1, d2, d3, d5, d6, d7, d8, d9⟩ := rd_row h.rt h1 h2 k1 k2
  rw [dL_at (by omega) d2, aLF_at (by omega) d2]
  refine h.row h1 h2 k1 k2 (fun j hj => ?_) (fun j hj => ?_)
  · unfold vp_updL; rw [if_neg (by omega)]
  · unfold vp_updL
    by_cases e : j = i
    · rw [if_pos e, if_pos (by omega)]
      exact ⟨rfl, hx⟩
    · rw [if_neg e, if_neg (by omega)]
      exact d3 j hj
section O6
variable {G : AH} {T : Nat} {φ : Nat → Nat} {n u p fu : Nat} {c r : St} {q : Int32}
theorem op_19 (h : RR G T φ n u c r) (hz : SZ c) (hc : CDH r p c) (hq : q.toInt = (p : Int) + 1) (hp : p + 5 ≤ 3200) (b1 : 1 ≤ (sA r 30 (p + 1)).toInt) (b1' : (sA r 30 (p + 1)).toInt ≤ 8) (b2 : (sA r 30 (p + 2)).toInt ≤ (if (sA r 30 (p + 1)).toInt = 6 ∨ (sA r 30 (p + 1)).toInt = 7 then 3 else 7)) (b3 : (sA r 30 (p + 3)).toInt ≤ 15) (b4 : (sA r 30 (p + 4)).toInt ≤ 7) :
    OUT G T φ n c r (f_Op_takeMember c (f_Op_slotAt c 3) (f_Op_numberAt c 4)) (f_M_members fu r 19 q) ∧ (w_Op_slotAt c 3 ∧ (w_Op_numberAt c 4 ∧ (w_Op_takeMember c (f_Op_slotAt c 3) (f_Op_numberAt c 4) ∧ True))) ∧ w_M_members fu r 19 q := by
  obtain ⟨q0, v0⟩ := o_q0 hq (by omega)
  obtain ⟨q1, v1⟩ := o_q (k := 1) (j := 2) hq rfl (by omega)
  obtain ⟨q2, v2⟩ := o_q (k := 2) (j := 3) hq rfl (by omega)
  obtain ⟨q3, v3⟩ := o_q (k := 3) (j := 4) hq rfl (by omega)
  have z2 := (hc.b (p + 2)).1
  have z3 := (hc.b (p + 3)).1
  have z4 := (hc.b (p + 4)).1
  have hb := h.bnd
  obtain ⟨v, y0, y1, y2, y3⟩ := o_slt (k := 3) (j := 3) hc h.2.2.2.2.1 rfl (by omega) b3
  obtain ⟨x1, x2⟩ := o_num (k := 4) (j := 4) hc h.1 rfl (by omega) b4
  obtain ⟨w1, w2⟩ := o_opn (k := 1) (j := 1) hc rfl (by omega)
  obtain ⟨i, hi⟩ : ∃ i, i = sA r 28 (sA r 30 (p + 4)).toNatClampNeg := ⟨_, rfl⟩
  obtain ⟨w, hw⟩ : ∃ w, w = sA r 30 (p + 1) := ⟨_, rfl⟩
  rw [← hi] at x1
  rw [← hw] at w1 b1 b1' b2
  have v40 : v ≤ 40000 := by omega
  have ev : (nI v).toNatClampNeg = v := nN (by omega)
  have a3 : vp_in (sA r 30 (p + 3)) 16 := vp_of z3 (by omega)
  have a4 : vp_in (sA r 30 (p + 4)) 8 := vp_of z4 (by omega)
  have a27 : ¬ (w.toInt = 6 ∨ w.toInt = 7) → (sA r 30 (p + 2)).toInt ≤ 7 := fun g => by rw [if_neg g] at b2; exact b2
  have a23 : w.toInt = 6 ∨ w.toInt = 7 → (sA r 30 (p + 2)).toInt ≤ 3 := fun g => by rw [if_pos g] at b2; exact b2
  have a28 : vp_in (sA r 30 (p + 2)) 8 := vp_of z2 (by by_cases g : w.toInt = 6 ∨ w.toInt = 7; have := a23 g; omega; have := a27 g; omega)
  have hm : f_M_members fu r 19 q = t_M_members_230 fu r 19 w (nI v) i (q + 1) := by
    unfold f_M_members t_M_members_198 t_M_members_215
    rw [show cn2 .ne (19 : Int32) 17 = true from rfl, show cn2 .ne (19 : Int32) 18 = true from rfl, show cn2 .ne (19 : Int32) 21 = true from rfl, show cn2 .ne (19 : Int32) 22 = true from rfl, show cn2 .ne (19 : Int32) 19 = false from rfl, cond_true, cond_true, cond_true, cond_true, cond_false, cond_false, cond_false, q0, q2, q3, y1, ← hi, ← hw]
  have sI1 : (sA r 22 v).toInt = w.toInt → 0 ≤ i.toInt → i.toInt < (sA r 24 v).toInt → vp_in (sA r 23 v + i) 40001 ∧ (sA r 23 v + i).toNatClampNeg = (sA r 23 v).toNatClampNeg + i.toNatClampNeg := fun g1 g2 g3 => by
    obtain ⟨f, d1, d2, d3, d5, d6, d7, d8, d9⟩ := rd_row h.rt (show 1 ≤ v by have := k_pos h.rt (v := v) (by omega); omega) y0 (by omega) (by omega)
    rw [tn_eq, tn_eq] at d9
    obtain ⟨e1, e2⟩ := nn_add (x := sA r 23 v) (y := i) d8 g2 (by omega)
    exact ⟨vp_of (by omega) (by omega), e1⟩
  have wm : w_M_members fu r 19 q := by
    unfold w_M_members w_M_members_198 w_M_members_215
    rw [show cn2 .ne (19 : Int32) 17 = true from rfl, show cn2 .ne (19 : Int32) 18 = true from rfl, show cn2 .ne (19 : Int32) 21 = true from rfl, show cn2 .ne (19 : Int32) 22 = true from rfl, show cn2 .ne (19 : Int32) 19 = false from rfl, q0, q2, q3, y1, ← hi, ← hw]
    refine ⟨fun _ => ⟨fun _ => ⟨fun _ => ⟨fun _ => ⟨v0, (fun z => nomatch z), fun _ => ⟨v2, a3, (fun z => nomatch z), fun _ => ⟨v3, a4, (fun z => nomatch z), fun _ => ?_⟩⟩⟩, (fun z => nomatch z)⟩, (fun z => nomatch z)⟩, (fun z => nomatch z)⟩, (fun z => nomatch z)⟩
    unfold w_M_members_230
    rw [q1, ev, show cn2 .ne (19 : Int32) 20 = true from rfl, c2_eq, c1_lt, c2_lt, c2_ne w 7, c2_ne w 6, show ((7 : Int32).toInt) = 7 from rfl, show ((6 : Int32).toInt) = 6 from rfl]
    refine ⟨v1, fun _ => ⟨n_vp v40, fun g1 => ⟨fun _ => ⟨w_fails r 2, trivial⟩, fun g2 => ⟨n_vp v40, fun g3 => ⟨n_vp v40, fun _ => ?_, (fun z => nomatch z)⟩, fun _ => ⟨w_fails r 2, trivial⟩⟩⟩, fun _ => ⟨w_fails r 4, trivial⟩⟩, fun _ => ⟨w_fails r 1, trivial⟩⟩
    have g4 := (sI1 (of_decide_eq_true g1) (by have := of_decide_eq_false g2; omega) (of_decide_eq_true g3)).1
    refine ⟨fun g5 => ⟨fun g6 => ⟨g4, a28, trivial⟩, fun g6 => ⟨g4, ?_, trivial⟩⟩, fun g5 => ⟨g4, ?_, trivial⟩⟩
    · have := of_decide_eq_false g6
      have := a23 (by omega)
      exact vp_of z2 (by omega)
    · have := of_decide_eq_false g5
      have := a23 (by omega)
      exact vp_of z2 (by omega)
  obtain ⟨-, i1, -⟩ := a_isc h.rt y0
  rw [y2, x1, hm]
  unfold f_Op_takeMember w_Op_takeMember t_Op_takeMember_14 w_Op_takeMember_14 t_M_members_230 t_M_members_256
  rw [w1, i1, cn1_eq_b2i, n_ne v40, ev, q1, show cn2 .ne (19 : Int32) 20 = true from rfl, cond_true]
  by_cases k : 1 ≤ (sA r 22 v).toInt ∧ (sA r 22 v).toInt ≤ 8
  · have g0 := k_pos h.rt k.1
    obtain ⟨e1, e2, e3, e4, e5, e6, e7, e8, e9⟩ := p_row h.rt y0 k.1 k.2
    have e10 : Int32.ofNat (sA r 24 v).toNatClampNeg = sA r 24 v := (nIof e9).symm
    rw [dt k, Bool.not_true, cond_false, cd_t g0, e5, c2_eq, e6, e8, e10, wi_C]
    by_cases g1 : (sA r 22 v).toInt = w.toInt
    · rw [cd_t g1, dt g1, cond_true]
      by_cases g2 : 0 ≤ i.toInt ∧ i.toInt < (sA r 24 v).toInt
      · rw [if_pos g2, c1_lt, c2_lt, cd_f (by omega), cd_t g2.2]
        dsimp only
        unfold t_Op_takeMember_24 w_Op_takeMember_24
        rw [show cn1 .eq (b2i true) = false from rfl, cond_false, (sI1 g1 g2.1 g2.2).2, c2_ne w 6, c2_ne w 7, show ((6 : Int32).toInt) = 6 from rfl, show ((7 : Int32).toInt) = 7 from rfl, e6, e8]
        obtain ⟨f, d1, d2, d3, d5, d6, d7, d8, d9⟩ := rd_row h.rt (show 1 ≤ v by omega) y0 k.1 k.2
        have hin : i.toNatClampNeg < (sA r 24 v).toNatClampNeg := by rw [tn_eq, tn_eq]; omega
        have vin : vp_in i (sA r 24 v).toNatClampNeg := vp_of g2.1 (by rw [tn_eq]; omega)
        obtain ⟨d31, d32⟩ := d3 _ hin
        rw [aLF_at (by omega) d2, ← d31]
        have wc : ¬ (w.toInt = 6 ∨ w.toInt = 7) → ∀ x, w_Op_setNumber c 2 x := fun g x => (o_setN (k := 2) (j := 2) hc rfl (by omega) (a27 g) x).2
        have wd : (w.toInt = 6 ∨ w.toInt = 7) → ∀ x, w_Op_setReal c 2 x := fun g x => (o_setR (k := 2) (j := 2) hc rfl (by omega) (a23 g) x).2
        refine ⟨?_, ⟨y3, x2, ⟨w2, a_tho h.rt y0, (fun z => nomatch z), fun _ => ⟨e2, e3, fun _ => ⟨e3, e7, w_wi c i _, (fun z => nomatch z), fun _ => ⟨fun g6 => ⟨fun g7 => ⟨e3, e7, vin, wc (by have := of_decide_eq_true g6; have := of_decide_eq_true g7; omega) _, trivial⟩, fun g7 => ⟨e3, e7, vin, wd (by have := of_decide_eq_false g7; omega) _, trivial⟩⟩, fun g6 => ⟨e3, e7, vin, wd (by have := of_decide_eq_false g6; omega) _, trivial⟩⟩⟩, (fun z => nomatch z)⟩⟩, trivial⟩, wm⟩
        by_cases g6 : w.toInt = 6
        · rw [cd_f (p := ¬ w.toInt = 6) (fun z => z g6), cd_t (p := ¬ w.toInt = 7) (by omega), cd_f (p := ¬ w.toInt = 6) (fun z => z g6), (o_setR (k := 2) (j := 2) hc rfl (by omega) (a23 (Or.inl g6)) _).1, (ofFloat_wide _).1]
          exact fin_real h hz _ (by rw [← (ofFloat_wide _).1]; exact (ofFloat_wide _).2)
        · rw [cd_t (p := ¬ w.toInt = 6) g6]
          by_cases g7 : w.toInt = 7
          · rw [cd_f (p := ¬ w.toInt = 7) (fun z => z g7), cd_f (p := ¬ w.toInt = 7) (fun z => z g7), (o_setR (k := 2) (j := 2) hc rfl (by omega) (a23 (Or.inr g7)) _).1]
            exact fin_real h hz _ (d32 (by omega))
          · rw [cd_t (p := ¬ w.toInt = 7) g7, cd_t (p := ¬ w.toInt = 7) g7, cd_t (p := ¬ w.toInt = 6) g6, (o_setN (k := 2) (j := 2) hc rfl (by omega) (a27 (by omega)) _).1]
            exact fin_num h hz _ _
      · rw [if_neg g2]
        dsimp only
        refine ⟨?_, ⟨y3, x2, ⟨w2, a_tho h.rt y0, (fun z => nomatch z), fun _ => ⟨e2, e3, fun _ => ⟨e3, e7, w_wi c i _, fun _ => trivial, (fun z => nomatch z)⟩, (fun z => nomatch z)⟩⟩, trivial⟩, wm⟩
        have e0 : cond (cn1 .lt i) (f_M_fails r 2) (cond (cn2 .lt i (sA r 24 v)) (cond (cn2 .ne w 7) (cond (cn2 .ne w 6) (0, pA r 28 (upd (sA r 28) (sA r 30 (p + 2)).toNatClampNeg (Int64.toInt32 (sB r 26 (sA r 23 v + i).toNatClampNeg)))) (0, pB r 29 (vp_updL (sB r 29) (sA r 30 (p + 2)).toNatClampNeg (f_M_wide (Int64.toInt32 (sB r 26 (sA r 23 v + i).toNatClampNeg)))))) (0, pB r 29 (vp_updL (sB r 29) (sA r 30 (p + 2)).toNatClampNeg (sB r 26 (sA r 23 v + i).toNatClampNeg)))) (f_M_fails r 2)) = f_M_fails r 2 := by
          rw [c1_lt, c2_lt]
          by_cases g3 : i.toInt < 0
          · rw [cd_t g3]
          · rw [cd_f g3, cd_f (by omega)]
        rw [e0]
        exact fl_out h hz (by decide) (by decide)
    · rw [cd_f g1, df g1, cond_false]
      exact ⟨ms_1 h hz g0, ⟨y3, x2, ⟨w2, a_tho h.rt y0, (fun z => nomatch z), fun _ => ⟨e2, e3, (fun z => nomatch z), fun _ => ⟨w_miss _ _, trivial⟩⟩⟩, trivial⟩, wm⟩
  · rw [df k, Bool.not_false, cond_true]
    refine ⟨?_, ⟨y3, x2, ⟨w2, a_tho h.rt y0, fun _ => ⟨w_miss _ _, trivial⟩, (fun z => nomatch z)⟩, trivial⟩, wm⟩
    by_cases g : v = 0
    · rw [cd_f (fun z => z g)]
      exact ms_0 h hz g
    · rw [cd_t g, c2_eq, cd_f (by omega)]
      exact ms_1 h hz g
end O6
