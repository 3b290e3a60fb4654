/-! OPS 1 to 11 -/
section O2
variable {G : AH} {T : Nat} {φ : Nat → Nat} {n u p fu : Nat} {c r : St} {q : Int32}
theorem fin_num (h : RR G T φ n u c r) (hz : SZ c) (k : Nat) (v : Int32) : OUT G T φ n c r (pA c 9 (upd (sA c 9) k v)) (0, pA r 28 (upd (sA r 28) k v)) := OUT.ok (h.num v) (EX.rf _ _) hz (opC_A c _) (opR_A r (Or.inr (Or.inr rfl)) _)
theorem fin_real (h : RR G T φ n u c r) (hz : SZ c) (k : Nat) {v : Int64} (hv : KP v) : OUT G T φ n c r (pB c 10 (vp_updL (sB c 10) k v)) (0, pB r 29 (vp_updL (sB r 29) k v)) := OUT.ok (h.real hv) (EX.rf _ _) hz (opC_B c _) (opR_B r (Or.inr rfl) _)
theorem fin_slot (h : RR G T φ n u c r) (hz : SZ c) (k : Nat) {v : Nat} (hv : v ≤ n ∧ LVE φ v) : OUT G T φ n c r (pT c 11 (va_up (sT c 11) k (po φ v))) (0, pA r 27 (upd (sA r 27) k (nI v))) := OUT.ok (h.slot hv) (EX.rf _ _) hz (opC_T c _) (opR_A r (Or.inr (Or.inl rfl)) _)
theorem op_1 (hfu : 100 ≤ fu) (h : RR G T φ n u c r) (hz : SZ c) (hc : CDH r p c) (hq : q.toInt = (p : Int) + 1) (hp : p + 6 ≤ 3200) (b1 : (sA r 30 (p + 1)).toInt ≤ 7) :
    OUT G T φ n c r (f_Op_setNumber c 1 (Int64.toInt32 (f_Op_bytes fu c 2 4))) (f_M_reckons fu r 1 q) ∧ (w_Op_bytes fu c 2 4 ∧ (w_Op_setNumber c 1 (Int64.toInt32 (f_Op_bytes fu c 2 4)) ∧ True)) ∧ w_M_reckons fu r 1 q := by
  obtain ⟨q0, v0⟩ := o_q0 hq (by omega)
  obtain ⟨q1, v1⟩ := o_q (k := 1) (j := 2) hq rfl (by omega)
  have z1 := (hc.b (p + 1)).1
  obtain ⟨e1, e2⟩ := o_setN (k := 1) (j := 1) hc rfl (by omega) b1 (Int64.toInt32 (f_Op_bytes fu c 2 4))
  obtain ⟨y1, y2⟩ := by_C (v1 := 2) (v2 := 4) (q0 := 2) (K := 4) fu hc rfl rfl (by decide) (by omega) 4 0 0 rfl rfl fu (by omega)
  have hq1 : (q + 1).toInt = ((p + 2 : Nat) : Int) := by
    have := i_addy (x := q) (y := 1) hq rfl (by rw [show ((1 : Int32).toInt) = 1 from rfl]; omega) (by rw [show ((1 : Int32).toInt) = 1 from rfl]; omega)
    rw [show ((1 : Int32).toInt) = 1 from rfl] at this
    omega
  obtain ⟨x1, x2⟩ := by_M (v1 := q + 1) (v2 := 4) (q0 := p + 2) (K := 4) (r := r) fu (fun i => hc.b i) hq1 rfl (by decide) (by omega) 4 0 0 rfl rfl fu (by omega)
  have ec : f_Op_bytes fu c 2 4 = lN (bV (sA r 30) (p + 2) 4) := y1
  have em : f_M_eight fu r (q + 1) 4 = nI (bV (sA r 30) (p + 2) 4) := x1
  refine ⟨?_, ⟨y2, e2, trivial⟩, ?_⟩
  · unfold f_M_reckons
    rw [e1, if_pos rfl, em, ec, lN_I, q0]
    exact fin_num h hz _ _
  · unfold w_M_reckons
    rw [q0]
    exact ⟨v0, v1, fun _ => ⟨x2, vp_of z1 (by omega), trivial⟩, fun z => absurd rfl z⟩
theorem op_2 (h : RR G T φ n u c r) (hz : SZ c) (hc : CDH r p c) (hq : q.toInt = (p : Int) + 1) (hp : p + 3 ≤ 3200) (b1 : (sA r 30 (p + 1)).toInt ≤ 7) (b2 : (sA r 30 (p + 2)).toInt ≤ 7) :
    OUT G T φ n c r (f_Op_setNumber c 1 (f_Op_numberAt c 2)) (f_M_reckons fu r 2 q) ∧ (w_Op_numberAt c 2 ∧ (w_Op_setNumber c 1 (f_Op_numberAt c 2) ∧ True)) ∧ w_M_reckons fu r 2 q := by
  obtain ⟨q0, v0⟩ := o_q0 hq (by omega)
  obtain ⟨q1, v1⟩ := o_q (k := 1) (j := 2) hq rfl (by omega)
  have z1 := (hc.b (p + 1)).1
  have z2 := (hc.b (p + 2)).1
  obtain ⟨e1, e2⟩ := o_setN (k := 1) (j := 1) hc rfl (by omega) b1 (f_Op_numberAt c 2)
  obtain ⟨y1, y2⟩ := o_num (k := 2) (j := 2) hc h.1 rfl (by omega) b2
  refine ⟨?_, ⟨y2, e2, trivial⟩, ?_⟩
  · unfold f_M_reckons
    rw [e1, if_neg (by decide), if_pos rfl, q0, q1, y1]
    exact fin_num h hz _ _
  · unfold w_M_reckons
    rw [q0, q1]
    exact ⟨v0, v1, fun z => absurd z (by decide), fun _ => ⟨fun _ => ⟨vp_of z2 (by omega), vp_of z1 (by omega), trivial⟩, fun z => absurd rfl z⟩⟩
theorem calc_w (x y hh : Int32) : w_Op_calculated c hh x y := by
  unfold w_Op_calculated
  have g : (cn1 .ne y) = true → ¬ y = 0 := fun z => by rw [c1_ne] at z; exact fun e => of_decide_eq_true z (by rw [e]; rfl)
  exact ⟨fun _ => trivial, fun _ => ⟨fun _ => trivial, fun _ => ⟨fun _ => trivial, fun _ => ⟨fun _ => ⟨fun z => ⟨g z, trivial⟩, fun _ => trivial⟩, fun _ => ⟨fun _ => ⟨fun z => ⟨g z, trivial⟩, fun _ => trivial⟩, fun _ => trivial⟩⟩⟩⟩⟩
theorem ints_12 {x y a hh : Int32} (hy : (hh = 3 ∨ hh = 4) → ¬ y = 0) : t_M_ints_12 r a x y hh = (0, pA r 28 (upd (sA r 28) a.toNatClampNeg (f_Op_calculated c hh x y))) := by
  have g : ¬ y = 0 → cn1 .ne y = true := fun z => by rw [c1_ne]; exact dt (fun e => z (Int32.toInt_inj.mp e))
  unfold t_M_ints_12 f_Op_calculated t_M_ints_63 t_M_ints_74
  by_cases e0 : hh = 0
  · rw [if_pos e0, if_pos e0]
  rw [if_neg e0, if_neg e0]
  by_cases e1 : hh = 1
  · rw [if_pos e1, if_pos e1]
  rw [if_neg e1, if_neg e1]
  by_cases e2 : hh = 2
  · rw [if_pos e2, if_pos e2]
  rw [if_neg e2, if_neg e2]
  by_cases e3 : hh = 3
  · rw [if_pos e3, if_pos e3, g (hy (Or.inl e3))]
    rfl
  rw [if_neg e3, if_neg e3]
  by_cases e4 : hh = 4
  · rw [if_pos e4, if_pos e4, g (hy (Or.inr e4))]
    rfl
  rw [if_neg e4, if_neg e4]
  by_cases e5 : hh = 5
  · rw [if_pos e5, if_pos e5]
    cases cn2 .ge x y <;> rfl
  rw [if_neg e5, if_neg e5]
  cases cn2 .ne x y <;> rfl
theorem op_3 (h : RR G T φ n u c r) (hz : SZ c) (hc : CDH r p c) (hq : q.toInt = (p : Int) + 1) (hp : p + 4 ≤ 3200) (b1 : (sA r 30 (p + 1)).toInt ≤ 7) (b2 : (sA r 30 (p + 2)).toInt ≤ 7) (b3 : (sA r 30 (p + 3)).toInt ≤ 6) :
    OUT G T φ n c r (f_Op_calculate c (f_Op_operand c 3) (f_Op_numberAt c 1) (f_Op_numberAt c 2)) (f_M_reckons fu r 3 q) ∧ (w_Op_operand c 3 ∧ (w_Op_numberAt c 1 ∧ (w_Op_numberAt c 2 ∧ (w_Op_calculate c (f_Op_operand c 3) (f_Op_numberAt c 1) (f_Op_numberAt c 2) ∧ True)))) ∧ w_M_reckons fu r 3 q := by
  obtain ⟨q0, v0⟩ := o_q0 hq (by omega)
  obtain ⟨q1, v1⟩ := o_q (k := 1) (j := 2) hq rfl (by omega)
  obtain ⟨q2, v2⟩ := o_q (k := 2) (j := 3) hq rfl (by omega)
  have z1 := (hc.b (p + 1)).1
  have z2 := (hc.b (p + 2)).1
  have z3 := (hc.b (p + 3)).1
  obtain ⟨x1, x2⟩ := o_num (k := 1) (j := 1) hc h.1 rfl (by omega) b1
  obtain ⟨y1, y2⟩ := o_num (k := 2) (j := 2) hc h.1 rfl (by omega) b2
  obtain ⟨w1, w2⟩ := o_opn (k := 3) (j := 3) hc rfl (by omega)
  rw [x1, y1, w1]
  obtain ⟨x, hx⟩ : ∃ x, x = sA r 28 (sA r 30 (p + 1)).toNatClampNeg := ⟨_, rfl⟩
  obtain ⟨y, hy⟩ : ∃ y, y = sA r 28 (sA r 30 (p + 2)).toNatClampNeg := ⟨_, rfl⟩
  obtain ⟨hh, hhh⟩ : ∃ hh, hh = sA r 30 (p + 3) := ⟨_, rfl⟩
  rw [← hx, ← hy, ← hhh]
  rw [← hhh] at z3 b3
  have hset := fun v => o_setN (k := 1) (j := 1) hc rfl (by omega) b1 v
  have a1 : vp_in (sA r 30 (p + 1)) 8 := vp_of z1 (by omega)
  have a2 : vp_in (sA r 30 (p + 2)) 8 := vp_of z2 (by omega)
  have w13 : w_Op_calculate_13 c hh x y := ⟨calc_w x y hh, (hset _).2, trivial⟩
  have w6 : w_Op_calculate_6 c hh x y := ⟨fun _ => w13, fun _ => ⟨w_fault c 6, trivial⟩⟩
  have hm : f_M_reckons fu r 3 q = f_M_ints r (sA r 30 (p + 1)) x y hh := by
    unfold f_M_reckons
    rw [if_neg (by decide), if_neg (by decide), if_pos rfl, q0, q1, q2, ← hx, ← hy, ← hhh]
  have good : (hh = 3 ∨ hh = 4 → ¬ y = 0) → OUT G T φ n c r (t_Op_calculate_13 c hh x y) (t_M_ints_12 r (sA r 30 (p + 1)) x y hh) := fun g => by
    unfold t_Op_calculate_13
    rw [(hset _).1, ints_12 (c := c) g]
    exact fin_num h hz _ _
  have n12 : w_M_ints_12 r (sA r 30 (p + 1)) x y hh ∨ ((hh = 3 ∨ hh = 4) ∧ y = 0) := by
    by_cases g : (hh = 3 ∨ hh = 4) ∧ y = 0
    · exact Or.inr g
    · refine Or.inl ?_
      unfold w_M_ints_12 w_M_ints_63 w_M_ints_74
      exact ⟨fun _ => ⟨a1, trivial⟩, fun _ => ⟨fun _ => ⟨a1, trivial⟩, fun _ => ⟨fun _ => ⟨a1, trivial⟩, fun _ => ⟨fun e => ⟨fun z => g ⟨Or.inl e, z⟩, a1, trivial⟩, fun _ => ⟨fun e => ⟨fun z => g ⟨Or.inr e, z⟩, a1, trivial⟩, fun _ => ⟨fun _ => ⟨fun _ => ⟨a1, trivial⟩, fun _ => ⟨a1, trivial⟩⟩, fun _ => ⟨fun _ => ⟨a1, trivial⟩, fun _ => ⟨a1, trivial⟩⟩⟩⟩⟩⟩⟩⟩
  have i3 : hh = 3 ↔ hh.toInt = 3 := ⟨fun z => by rw [z]; rfl, fun z => Int32.toInt_inj.mp z⟩
  have i4 : hh = 4 ↔ hh.toInt = 4 := ⟨fun z => by rw [z]; rfl, fun z => Int32.toInt_inj.mp z⟩
  have iy : y = 0 ↔ y.toInt = 0 := ⟨fun z => by rw [z]; rfl, fun z => Int32.toInt_inj.mp z⟩
  refine ⟨?_, ⟨w2, x2, y2, ⟨fun _ => w6, fun _ => ⟨fun _ => w13, fun _ => w6⟩⟩, trivial⟩, ?_⟩
  · rw [hm]
    unfold f_Op_calculate f_M_ints t_Op_calculate_6
    rw [c2_eq, c2_ne, c1_ne, c2_le, c2_ge, show ((3 : Int32).toInt) = 3 from rfl, show ((4 : Int32).toInt) = 4 from rfl, show ((2 : Int32).toInt) = 2 from rfl, show ((5 : Int32).toInt) = 5 from rfl]
    by_cases g3 : hh.toInt = 3 ∨ hh.toInt = 4
    · have e2 : cond (decide (hh.toInt ≤ 2)) (t_M_ints_12 r (sA r 30 (p + 1)) x y hh) (cond (decide (5 ≤ hh.toInt)) (t_M_ints_12 r (sA r 30 (p + 1)) x y hh) (cond (decide (¬ y.toInt = 0)) (t_M_ints_12 r (sA r 30 (p + 1)) x y hh) (f_M_fails r 6))) = cond (decide (¬ y.toInt = 0)) (t_M_ints_12 r (sA r 30 (p + 1)) x y hh) (f_M_fails r 6) := by
        rw [cd_f (by omega), cd_f (by omega)]
      have e1 : cond (decide (hh.toInt = 3)) (cond (decide (¬ y.toInt = 0)) (t_Op_calculate_13 c hh x y) (f_Le_fault c 6)) (cond (decide (¬ hh.toInt = 4)) (t_Op_calculate_13 c hh x y) (cond (decide (¬ y.toInt = 0)) (t_Op_calculate_13 c hh x y) (f_Le_fault c 6))) = cond (decide (¬ y.toInt = 0)) (t_Op_calculate_13 c hh x y) (f_Le_fault c 6) := by
        by_cases g4 : hh.toInt = 3
        · rw [cd_t g4]
        · rw [cd_f g4, cd_f (by omega)]
      rw [e1, e2]
      by_cases gy : y.toInt = 0
      · rw [cd_f (fun z => z gy), cd_f (fun z => z gy)]
        exact fl_out h hz (by decide) (by decide)
      · rw [cd_t gy, cd_t gy]
        exact good (fun _ => fun z => gy (iy.mp z))
    · have e1 : cond (decide (hh.toInt = 3)) (cond (decide (¬ y.toInt = 0)) (t_Op_calculate_13 c hh x y) (f_Le_fault c 6)) (cond (decide (¬ hh.toInt = 4)) (t_Op_calculate_13 c hh x y) (cond (decide (¬ y.toInt = 0)) (t_Op_calculate_13 c hh x y) (f_Le_fault c 6))) = t_Op_calculate_13 c hh x y := by
        rw [cd_f (by omega), cd_t (by omega)]
      have e2 : cond (decide (hh.toInt ≤ 2)) (t_M_ints_12 r (sA r 30 (p + 1)) x y hh) (cond (decide (5 ≤ hh.toInt)) (t_M_ints_12 r (sA r 30 (p + 1)) x y hh) (cond (decide (¬ y.toInt = 0)) (t_M_ints_12 r (sA r 30 (p + 1)) x y hh) (f_M_fails r 6))) = t_M_ints_12 r (sA r 30 (p + 1)) x y hh := by
        by_cases g5 : hh.toInt ≤ 2
        · rw [cd_t g5]
        · rw [cd_f g5, cd_t (by omega)]
      rw [e1, e2]
      exact good (fun z => absurd (z.imp i3.mp i4.mp) g3)
  · unfold w_M_reckons
    rw [q0, q1, q2, ← hx, ← hy, ← hhh]
    refine ⟨v0, v1, fun z => absurd z (by decide), fun _ => ⟨fun z => absurd z (by decide), fun _ => ⟨fun _ => ⟨a1, a2, v2, ?_, trivial⟩, fun z => absurd rfl z⟩⟩⟩
    rcases n12 with g | ⟨g1, g2⟩
    · exact ⟨fun _ => g, fun _ => ⟨fun _ => g, fun _ => ⟨fun _ => g, fun _ => ⟨w_fails r 6, trivial⟩⟩⟩⟩
    · have g3 := g1.imp i3.mp i4.mp
      refine ⟨fun z => ?_, fun _ => ⟨fun z => ?_, fun _ => ⟨fun z => ?_, fun _ => ⟨w_fails r 6, trivial⟩⟩⟩⟩
      · rw [c2_le] at z; have := of_decide_eq_true z; rw [show ((2 : Int32).toInt) = 2 from rfl] at this; omega
      · rw [c2_ge] at z; have := of_decide_eq_true z; rw [show ((5 : Int32).toInt) = 5 from rfl] at this; omega
      · rw [c1_ne] at z; exact absurd (iy.mp g2) (of_decide_eq_true z)
theorem op_4 (hfu : 100 ≤ fu) (h : RR G T φ n u c r) (hz : SZ c) (hc : CDH r p c) (hq : q.toInt = (p : Int) + 1) (hp : p + 10 ≤ 3200) (b1 : (sA r 30 (p + 1)).toInt ≤ 3) :
    OUT G T φ n c r (f_Op_setReal c 1 (f_Re_plain (f_Op_bytes fu c 2 8))) (f_M_reckons fu r 4 q) ∧ (w_Op_bytes fu c 2 8 ∧ (w_Op_setReal c 1 (f_Re_plain (f_Op_bytes fu c 2 8)) ∧ True)) ∧ w_M_reckons fu r 4 q := by
  obtain ⟨q0, v0⟩ := o_q0 hq (by omega)
  obtain ⟨q1, v1⟩ := o_q (k := 1) (j := 2) hq rfl (by omega)
  have z1 := (hc.b (p + 1)).1
  obtain ⟨e1, e2⟩ := o_setR (k := 1) (j := 1) hc rfl (by omega) b1 (f_Re_plain (f_Op_bytes fu c 2 8))
  obtain ⟨y1, y2⟩ := by_C (v1 := 2) (v2 := 8) (q0 := 2) (K := 8) fu hc rfl rfl (by decide) (by omega) 8 0 0 rfl rfl fu (by omega)
  have hqi : ∀ (k : Int32) (j : Nat), k.toInt = (j : Int) → j ≤ 8 → (q + k).toInt = ((p + 1 + j : Nat) : Int) := fun k j hk hj => by
    rw [i_addy (x := q) (y := k) hq hk (by omega) (by omega)]
    omega
  obtain ⟨x1, x2⟩ := by_M (v1 := q + 1) (v2 := 4) (q0 := p + 1 + 1) (K := 4) (r := r) fu (fun i => hc.b i) (hqi 1 1 rfl (by decide)) rfl (by decide) (by omega) 4 0 0 rfl rfl fu (by omega)
  obtain ⟨w1, w2⟩ := by_M (v1 := q + 5) (v2 := 4) (q0 := p + 1 + 5) (K := 4) (r := r) fu (fun i => hc.b i) (hqi 5 5 rfl (by decide)) rfl (by decide) (by omega) 4 0 0 rfl rfl fu (by omega)
  have ec : f_Op_bytes fu c 2 8 = lN (bV (sA r 30) (p + 2) 8) := y1
  have em : f_M_eight fu r (q + 1) 4 = nI (bV (sA r 30) (p + 2) 4) := x1
  have em2 : f_M_eight fu r (q + 5) 4 = nI (bV (sA r 30) (p + 6) 4) := w1
  have l1 : bV (sA r 30) (p + 2) 4 < 2 ^ 32 := bV_lt (fun i => hc.b i) (p + 2) 4
  have l2 : bV (sA r 30) (p + 6) 4 < 2 ^ 32 := bV_lt (fun i => hc.b i) (p + 6) 4
  refine ⟨?_, ⟨y2, e2, trivial⟩, ?_⟩
  · unfold f_M_reckons
    rw [e1, if_neg (by decide), if_neg (by decide), if_neg (by decide), if_pos rfl, em, em2, ec, q0, hi_32 l1, lo_32 l2]
    rw [g_or (k := 32) rfl l2 (Nat.lt_of_lt_of_le (Nat.add_lt_add_left l2 _) (Nat.le_trans (Nat.add_le_add_right (Nat.mul_le_mul_right _ (Nat.le_sub_one_of_lt l1)) _) (by decide)))]
    rw [show bV (sA r 30) (p + 2) 4 * 2 ^ 32 + bV (sA r 30) (p + 6) 4 = bV (sA r 30) (p + 2) 8 from (bV_8 _ _).symm]
    have kk : KP (f_M_kept (lN (bV (sA r 30) (p + 2) 8))) := by
      unfold KP f_M_kept
      cases hb : f_M_isNo (lN (bV (sA r 30) (p + 2) 8))
      · show cond (cn1 .eq (b2i (f_M_isNo (lN (bV (sA r 30) (p + 2) 8))))) _ _ = lN (bV (sA r 30) (p + 2) 8)
        rw [hb]
        rfl
      · exact kp_nan
    exact fin_real h hz _ kk
  · unfold w_M_reckons
    rw [q0]
    exact ⟨v0, v1, fun z => absurd z (by decide), fun _ => ⟨fun z => absurd z (by decide), fun _ => ⟨fun z => absurd z (by decide), fun _ => ⟨fun _ => ⟨x2, w2, vp_of z1 (by omega), trivial⟩, fun z => absurd rfl z⟩⟩⟩⟩
theorem op_5 (h : RR G T φ n u c r) (hz : SZ c) (hc : CDH r p c) (hq : q.toInt = (p : Int) + 1) (hp : p + 3 ≤ 3200) (b1 : (sA r 30 (p + 1)).toInt ≤ 3) (b2 : (sA r 30 (p + 2)).toInt ≤ 7) :
    OUT G T φ n c r (f_Op_setReal c 1 (f_Re_ofInt (f_Op_numberAt c 2))) (f_M_reckons fu r 5 q) ∧ (w_Op_numberAt c 2 ∧ (w_Op_setReal c 1 (f_Re_ofInt (f_Op_numberAt c 2)) ∧ True)) ∧ w_M_reckons fu r 5 q := by
  obtain ⟨q0, v0⟩ := o_q0 hq (by omega)
  obtain ⟨q1, v1⟩ := o_q (k := 1) (j := 2) hq rfl (by omega)
  have z1 := (hc.b (p + 1)).1
  have z2 := (hc.b (p + 2)).1
  obtain ⟨e1, e2⟩ := o_setR (k := 1) (j := 1) hc rfl (by omega) b1 (f_Re_ofInt (f_Op_numberAt c 2))
  obtain ⟨y1, y2⟩ := o_num (k := 2) (j := 2) hc h.1 rfl (by omega) b2
  refine ⟨?_, ⟨y2, e2, trivial⟩, ?_⟩
  · unfold f_M_reckons
    rw [e1, if_neg (by decide), if_neg (by decide), if_neg (by decide), if_neg (by decide), if_pos rfl, q0, q1, y1, ofInt_realOf]
    exact fin_real h hz _ (by rw [← ofInt_realOf]; exact kp_ofInt _)
  · unfold w_M_reckons
    rw [q0, q1]
    exact ⟨v0, v1, fun z => absurd z (by decide), fun _ => ⟨fun z => absurd z (by decide), fun _ => ⟨fun z => absurd z (by decide), fun _ => ⟨fun z => absurd z (by decide), fun _ => ⟨fun _ => ⟨vp_of z2 (by omega), vp_of z1 (by omega), trivial⟩, fun z => absurd rfl z⟩⟩⟩⟩⟩
theorem op_6 (h : RR G T φ n u c r) (hz : SZ c) (hc : CDH r p c) (hq : q.toInt = (p : Int) + 1) (hp : p + 3 ≤ 3200) (b1 : (sA r 30 (p + 1)).toInt ≤ 7) (b2 : (sA r 30 (p + 2)).toInt ≤ 3) :
    OUT G T φ n c r (f_Op_setNumber c 1 (f_Re_toInt (f_Op_realAt c 2))) (f_M_reckons fu r 6 q) ∧ (w_Op_realAt c 2 ∧ (w_Op_setNumber c 1 (f_Re_toInt (f_Op_realAt c 2)) ∧ True)) ∧ w_M_reckons fu r 6 q := by
  obtain ⟨q0, v0⟩ := o_q0 hq (by omega)
  obtain ⟨q1, v1⟩ := o_q (k := 1) (j := 2) hq rfl (by omega)
  have z1 := (hc.b (p + 1)).1
  have z2 := (hc.b (p + 2)).1
  obtain ⟨e1, e2⟩ := o_setN (k := 1) (j := 1) hc rfl (by omega) b1 (f_Re_toInt (f_Op_realAt c 2))
  obtain ⟨y1, y2, y3⟩ := o_rea (k := 2) (j := 2) hc h.1 rfl (by omega) b2
  refine ⟨?_, ⟨y2, e2, trivial⟩, ?_⟩
  · unfold f_M_reckons
    rw [e1, if_neg (by decide), if_neg (by decide), if_neg (by decide), if_neg (by decide), if_neg (by decide), if_pos rfl, q0, q1, y1, toInt_whole]
    exact fin_num h hz _ _
  · unfold w_M_reckons
    rw [q0, q1]
    exact ⟨v0, v1, fun z => absurd z (by decide), fun _ => ⟨fun z => absurd z (by decide), fun _ => ⟨fun z => absurd z (by decide), fun _ => ⟨fun z => absurd z (by decide), fun _ => ⟨fun z => absurd z (by decide), fun _ => ⟨fun _ => ⟨vp_of z2 (by omega), vp_of z1 (by omega), trivial⟩, fun z => absurd rfl z⟩⟩⟩⟩⟩⟩
theorem op_7 (h : RR G T φ n u c r) (hz : SZ c) (hc : CDH r p c) (hq : q.toInt = (p : Int) + 1) (hp : p + 4 ≤ 3200) (b1 : (sA r 30 (p + 1)).toInt ≤ 3) (b2 : (sA r 30 (p + 2)).toInt ≤ 3) :
    OUT G T φ n c r (f_Op_setReal c 1 (f_Re_paired (f_Op_operand c 3) (f_Op_realAt c 1) (f_Op_realAt c 2))) (f_M_reckons fu r 7 q) ∧ (w_Op_operand c 3 ∧ (w_Op_realAt c 1 ∧ (w_Op_realAt c 2 ∧ (w_Op_setReal c 1 (f_Re_paired (f_Op_operand c 3) (f_Op_realAt c 1) (f_Op_realAt c 2)) ∧ True)))) ∧ w_M_reckons fu r 7 q := by
  obtain ⟨q0, v0⟩ := o_q0 hq (by omega)
  obtain ⟨q1, v1⟩ := o_q (k := 1) (j := 2) hq rfl (by omega)
  obtain ⟨q2, v2⟩ := o_q (k := 2) (j := 3) hq rfl (by omega)
  have z1 := (hc.b (p + 1)).1
  have z2 := (hc.b (p + 2)).1
  obtain ⟨e1, e2⟩ := o_setR (k := 1) (j := 1) hc rfl (by omega) b1 (f_Re_paired (f_Op_operand c 3) (f_Op_realAt c 1) (f_Op_realAt c 2))
  obtain ⟨x1, x2, x3⟩ := o_rea (k := 1) (j := 1) hc h.1 rfl (by omega) b1
  obtain ⟨y1, y2, y3⟩ := o_rea (k := 2) (j := 2) hc h.1 rfl (by omega) b2
  obtain ⟨w1, w2⟩ := o_opn (k := 3) (j := 3) hc rfl (by omega)
  refine ⟨?_, ⟨w2, x2, y2, e2, trivial⟩, ?_⟩
  · unfold f_M_reckons
    rw [e1, if_neg (by decide), if_neg (by decide), if_neg (by decide), if_neg (by decide), if_neg (by decide), if_neg (by decide), if_pos rfl, q0, q1, q2, x1, y1, w1, ← paired_two _ _ _ x3]
    exact fin_real h hz _ (kp_paired _ _ _ x3)
  · unfold w_M_reckons
    rw [q0, q1]
    exact ⟨v0, v1, fun z => absurd z (by decide), fun _ => ⟨fun z => absurd z (by decide), fun _ => ⟨fun z => absurd z (by decide), fun _ => ⟨fun z => absurd z (by decide), fun _ => ⟨fun z => absurd z (by decide), fun _ => ⟨fun z => absurd z (by decide), fun _ => ⟨fun _ => ⟨vp_of z1 (by omega), vp_of z2 (by omega), v2, vp_of z1 (by omega), trivial⟩, fun z => absurd rfl z⟩⟩⟩⟩⟩⟩⟩
theorem op_8 (h : RR G T φ n u c r) (hz : SZ c) (hc : CDH r p c) (hq : q.toInt = (p : Int) + 1) (hp : p + 3 ≤ 3200) (b1 : (sA r 30 (p + 1)).toInt ≤ 3) :
    OUT G T φ n c r (f_Op_setReal c 1 (f_Re_changed (f_Op_operand c 2) (f_Op_realAt c 1))) (f_M_reckons fu r 8 q) ∧ (w_Op_operand c 2 ∧ (w_Op_realAt c 1 ∧ (w_Op_setReal c 1 (f_Re_changed (f_Op_operand c 2) (f_Op_realAt c 1)) ∧ True))) ∧ w_M_reckons fu r 8 q := by
  obtain ⟨q0, v0⟩ := o_q0 hq (by omega)
  obtain ⟨q1, v1⟩ := o_q (k := 1) (j := 2) hq rfl (by omega)
  have z1 := (hc.b (p + 1)).1
  obtain ⟨e1, e2⟩ := o_setR (k := 1) (j := 1) hc rfl (by omega) b1 (f_Re_changed (f_Op_operand c 2) (f_Op_realAt c 1))
  obtain ⟨x1, x2, x3⟩ := o_rea (k := 1) (j := 1) hc h.1 rfl (by omega) b1
  obtain ⟨w1, w2⟩ := o_opn (k := 2) (j := 2) hc rfl (by omega)
  refine ⟨?_, ⟨w2, x2, e2, trivial⟩, ?_⟩
  · unfold f_M_reckons
    rw [e1, if_neg (by decide), if_neg (by decide), if_neg (by decide), if_neg (by decide), if_neg (by decide), if_neg (by decide), if_neg (by decide), if_pos rfl, q0, q1, x1, w1, ← (changed_one _ x3).1]
    exact fin_real h hz _ (changed_one _ x3).2
  · unfold w_M_reckons
    rw [q0, q1]
    exact ⟨v0, v1, fun z => absurd z (by decide), fun _ => ⟨fun z => absurd z (by decide), fun _ => ⟨fun z => absurd z (by decide), fun _ => ⟨fun z => absurd z (by decide), fun _ => ⟨fun z => absurd z (by decide), fun _ => ⟨fun z => absurd z (by decide), fun _ => ⟨fun z => absurd z (by decide), fun _ => ⟨fun _ => ⟨vp_of z1 (by omega), vp_of z1 (by omega), trivial⟩, fun z => absurd rfl z⟩⟩⟩⟩⟩⟩⟩⟩
theorem six {x : Int32} (h1 : 0 ≤ x.toInt) (h2 : x.toInt ≤ 5) : x = 0 ∨ x = 1 ∨ x = 2 ∨ x = 3 ∨ x = 4 ∨ x = 5 := by
  have i : ∀ k : Int32, x.toInt = k.toInt → x = k := fun k => Int32.toInt_inj.mp
  rcases (show x.toInt = 0 ∨ x.toInt = 1 ∨ x.toInt = 2 ∨ x.toInt = 3 ∨ x.toInt = 4 ∨ x.toInt = 5 by omega) with g | g | g | g | g | g
  · exact Or.inl (i 0 g)
  · exact Or.inr (Or.inl (i 1 g))
  · exact Or.inr (Or.inr (Or.inl (i 2 g)))
  · exact Or.inr (Or.inr (Or.inr (Or.inl (i 3 g))))
  · exact Or.inr (Or.inr (Or.inr (Or.inr (Or.inl (i 4 g)))))
  · exact Or.inr (Or.inr (Or.inr (Or.inr (Or.inr (i 5 g)))))
/-- OP 9 by how two reals stand: 2 not a number -/
def hv9 (hh o : Int32) : Int32 := if hh = 5 then (if o = 0 then 0 else 1) else if o = 2 then 0 else if hh = 0 then (if o = -1 then 1 else 0) else if hh = 1 then (if o = 1 then 0 else 1) else if hh = 2 then (if o = 1 then 1 else 0) else if hh = 3 then (if o = -1 then 0 else 1) else (if o = 0 then 1 else 0)
theorem hv_C {x y : Int64} {hh : Int32} (h1 : 0 ≤ hh.toInt) (h2 : hh.toInt ≤ 5) : cond (f_Re_holds hh x y) 1 0 = hv9 hh (f_M_order x y) ∧ (f_M_order x y = 2 ∨ f_M_order x y = -1 ∨ f_M_order x y = 1 ∨ f_M_order x y = 0) := by
  obtain ⟨a, ha, rfl⟩ := d_of x
  obtain ⟨b, hb, rfl⟩ := d_of y
  rw [d_holds ha hb, d_order ha hb]
  by_cases nn : 2047 * 2 ^ 52 < zs a ∨ 2047 * 2 ^ 52 < zs b
  · rw [if_pos nn, if_pos nn]
    refine ⟨?_, Or.inl rfl⟩
    rcases six h1 h2 with g | g | g | g | g | g <;> subst g <;> rfl
  rw [if_neg nn, if_neg nn]
  rcases Int.lt_trichotomy (rk a) (rk b) with g | g | g
  · rw [if_pos g, dt g, dt (Int.le_of_lt g), df (Int.not_lt.mpr (Int.le_of_lt g)), df (Int.not_le.mpr g), df (p := rk a = rk b) (by omega), dt (p := ¬ rk a = rk b) (by omega)]
    refine ⟨?_, Or.inr (Or.inl rfl)⟩
    rcases six h1 h2 with g | g | g | g | g | g <;> subst g <;> rfl
  · rw [if_neg (show ¬ rk a < rk b by omega), if_neg (show ¬ rk b < rk a by omega), df (p := rk a < rk b) (by omega), dt (p := rk a ≤ rk b) (by omega), df (p := rk b < rk a) (by omega), dt (p := rk b ≤ rk a) (by omega), dt g, df (p := ¬ rk a = rk b) (by omega)]
    refine ⟨?_, Or.inr (Or.inr (Or.inr rfl))⟩
    rcases six h1 h2 with g | g | g | g | g | g <;> subst g <;> rfl
  · rw [if_neg (show ¬ rk a < rk b by omega), if_pos g, df (p := rk a < rk b) (by omega), df (p := rk a ≤ rk b) (by omega), dt g, dt (Int.le_of_lt g), df (p := rk a = rk b) (by omega), dt (p := ¬ rk a = rk b) (by omega)]
    refine ⟨?_, Or.inr (Or.inr (Or.inl rfl))⟩
    rcases six h1 h2 with g | g | g | g | g | g <;> subst g <;> rfl
theorem hv_M {hh o v2 v3 : Int32} (he : sA r 30 (v2 + 3).toNatClampNeg = hh) (h1 : 0 ≤ hh.toInt) (h2 : hh.toInt ≤ 5) (ho : o = 2 ∨ o = -1 ∨ o = 1 ∨ o = 0) : t_M_reckons_144 fu r v2 v3 o = (0, pA r 28 (upd (sA r 28) v3.toNatClampNeg (hv9 hh o))) := by
  unfold t_M_reckons_144
  rw [he]
  rcases ho with g | g | g | g <;> subst g <;> rcases six h1 h2 with g | g | g | g | g | g <;> subst g <;> rfl
theorem op_9 (h : RR G T φ n u c r) (hz : SZ c) (hc : CDH r p c) (hq : q.toInt = (p : Int) + 1) (hp : p + 5 ≤ 3200) (b1 : (sA r 30 (p + 1)).toInt ≤ 7) (b2 : (sA r 30 (p + 2)).toInt ≤ 3) (b3 : (sA r 30 (p + 3)).toInt ≤ 3) (b4 : (sA r 30 (p + 4)).toInt ≤ 5) :
    OUT G T φ n c r (cond (cn1 .eq (b2i (f_Re_holds (f_Op_operand c 4) (f_Op_realAt c 2) (f_Op_realAt c 3)))) (t_Op_perform_103 fu c 0 1) (t_Op_perform_103 fu c 1 1)) (f_M_reckons fu r 9 q) ∧ (w_Op_operand c 4 ∧ w_Op_realAt c 2 ∧ w_Op_realAt c 3 ∧ ∀ v, w_Op_perform_103 fu c v 1) ∧ w_M_reckons fu r 9 q := by
  obtain ⟨q0, v0⟩ := o_q0 hq (by omega)
  obtain ⟨q1, v1⟩ := o_q (k := 1) (j := 2) hq rfl (by omega)
  obtain ⟨q2, v2⟩ := o_q (k := 2) (j := 3) hq rfl (by omega)
  obtain ⟨q3, v3⟩ := o_q (k := 3) (j := 4) hq rfl (by omega)
  have z1 := (hc.b (p + 1)).1
  have z2 := (hc.b (p + 2)).1
  have z3 := (hc.b (p + 3)).1
  have z4 := (hc.b (p + 4)).1
  have hset := fun v => o_setN (k := 1) (j := 1) hc rfl (by omega) b1 v
  obtain ⟨x1, x2, x3⟩ := o_rea (k := 2) (j := 2) hc h.1 rfl (by omega) b2
  obtain ⟨y1, y2, y3⟩ := o_rea (k := 3) (j := 3) hc h.1 rfl (by omega) b3
  obtain ⟨w1, w2⟩ := o_opn (k := 4) (j := 4) hc rfl (by omega)
  have hv := hv_C (x := sB r 29 (sA r 30 (p + 2)).toNatClampNeg) (y := sB r 29 (sA r 30 (p + 3)).toNatClampNeg) z4 b4
  have a1 : vp_in (sA r 30 (p + 1)) 8 := vp_of z1 (by omega)
  have wk : ∀ (v : Nat) (k : Int32), w_M_reckons_191 fu r (sA r 30 (p + 1)) k := fun v k => ⟨fun _ => ⟨a1, trivial⟩, fun _ => ⟨a1, trivial⟩⟩
  refine ⟨?_, ⟨w2, x2, y2, fun v => ⟨(hset v).2, trivial⟩⟩, ?_⟩
  · have hm : f_M_reckons fu r 9 q = (0, pA r 28 (upd (sA r 28) (sA r 30 (p + 1)).toNatClampNeg (cond (f_Re_holds (sA r 30 (p + 4)) (sB r 29 (sA r 30 (p + 2)).toNatClampNeg) (sB r 29 (sA r 30 (p + 3)).toNatClampNeg)) 1 0))) := by
      unfold f_M_reckons
      rw [if_neg (by decide), if_neg (by decide), if_neg (by decide), if_neg (by decide), if_neg (by decide), if_neg (by decide), if_neg (by decide), if_neg (by decide), q0, q1, q2, hv_M (by rw [q3]) z4 b4 hv.2, hv.1]
    rw [hm, w1, x1, y1, cn1_eq_b2i]
    unfold t_Op_perform_103
    rw [(hset 0).1, (hset 1).1]
    cases f_Re_holds (sA r 30 (p + 4)) (sB r 29 (sA r 30 (p + 2)).toNatClampNeg) (sB r 29 (sA r 30 (p + 3)).toNatClampNeg)
    · exact fin_num h hz _ _
    · exact fin_num h hz _ _
  · unfold w_M_reckons
    rw [q0, q1, q2]
    refine ⟨v0, v1, fun z => absurd z (by decide), fun _ => ⟨fun z => absurd z (by decide), fun _ => ⟨fun z => absurd z (by decide), fun _ => ⟨fun z => absurd z (by decide), fun _ => ⟨fun z => absurd z (by decide), fun _ => ⟨fun z => absurd z (by decide), fun _ => ⟨fun z => absurd z (by decide), fun _ => ⟨fun z => absurd z (by decide), fun _ => ⟨vp_of z2 (by omega), v2, vp_of z3 (by omega), ?_⟩⟩⟩⟩⟩⟩⟩⟩⟩
    unfold w_M_reckons_144
    exact ⟨v3, fun _ => ⟨fun _ => wk 0 0, fun _ => ⟨fun _ => ⟨fun _ => ⟨fun _ => ⟨fun _ => ⟨fun _ => wk 0 0, fun _ => wk 0 1⟩, fun _ => ⟨fun _ => wk 0 0, fun _ => wk 0 1⟩⟩, fun _ => ⟨fun _ => wk 0 0, fun _ => wk 0 1⟩⟩, fun _ => ⟨fun _ => wk 0 0, fun _ => wk 0 1⟩⟩, fun _ => ⟨fun _ => wk 0 0, fun _ => wk 0 1⟩⟩⟩, fun _ => ⟨fun _ => wk 0 0, fun _ => wk 0 1⟩⟩
theorem op_10 (h : RR G T φ n u c r) (hz : SZ c) (hc : CDH r p c) (hq : q.toInt = (p : Int) + 1) (hp : p + 3 ≤ 3200) (b1 : (sA r 30 (p + 1)).toInt ≤ 15) (b2 : (sA r 30 (p + 2)).toInt ≤ 15) :
    OUT G T φ n c r (f_Op_setSlot c 1 (f_Op_slotAt c 2)) (f_M_makes fu r 10 q) ∧ (w_Op_slotAt c 2 ∧ (w_Op_setSlot c 1 (f_Op_slotAt c 2) ∧ True)) ∧ w_M_makes fu r 10 q := by
  obtain ⟨q0, v0⟩ := o_q0 hq (by omega)
  obtain ⟨q1, v1⟩ := o_q (k := 1) (j := 2) hq rfl (by omega)
  have z1 := (hc.b (p + 1)).1
  have z2 := (hc.b (p + 2)).1
  obtain ⟨v, y0, y1, y2, y3⟩ := o_slt (k := 2) (j := 2) hc h.2.2.2.2.1 rfl (by omega) b2
  obtain ⟨e1, e2⟩ := o_setS (k := 1) (j := 1) hc rfl (by omega) b1 (f_Op_slotAt c 2) (by rw [y2]; exact a_tho h.rt y0)
  refine ⟨?_, ⟨y3, e2, trivial⟩, ?_⟩
  · have hm : f_M_makes fu r 10 q = (0, pA r 27 (upd (sA r 27) (sA r 30 (p + 1)).toNatClampNeg (nI v))) := by
      unfold f_M_makes t_M_makes_25
      rw [show cn2 .ge (10 : Int32) 12 = false from rfl, show cn2 .ne (10 : Int32) 10 = false from rfl, cond_false, cond_false, q0, q1, y1]
    rw [hm, e1, y2]
    exact fin_slot h hz _ y0
  · unfold w_M_makes w_M_makes_25
    rw [show cn2 .ge (10 : Int32) 12 = false from rfl, show cn2 .ne (10 : Int32) 10 = false from rfl, q0, q1]
    exact ⟨v0, (fun z => nomatch z), fun _ => ⟨(fun z => nomatch z), fun _ => ⟨v1, vp_of z2 (by omega), vp_of z1 (by omega), trivial⟩⟩⟩
theorem op_11 (h : RR G T φ n u c r) (hz : SZ c) (hc : CDH r p c) (hq : q.toInt = (p : Int) + 1) (hp : p + 2 ≤ 3200) (b1 : (sA r 30 (p + 1)).toInt ≤ 15) :
    OUT G T φ n c r (f_Op_setSlot c 1 none) (f_M_makes fu r 11 q) ∧ (w_Op_setSlot c 1 none ∧ True) ∧ w_M_makes fu r 11 q := by
  obtain ⟨q0, v0⟩ := o_q0 hq (by omega)
  have z1 := (hc.b (p + 1)).1
  obtain ⟨e1, e2⟩ := o_setS (k := 1) (j := 1) hc rfl (by omega) b1 none (Or.inl rfl)
  refine ⟨?_, ⟨e2, trivial⟩, ?_⟩
  · have hm : f_M_makes fu r 11 q = (0, pA r 27 (upd (sA r 27) (sA r 30 (p + 1)).toNatClampNeg (nI 0))) := by
      unfold f_M_makes t_M_makes_25
      rw [show cn2 .ge (11 : Int32) 12 = false from rfl, show cn2 .ne (11 : Int32) 10 = true from rfl, cond_false, cond_true, q0]
      rfl
    rw [hm, e1]
    exact fin_slot h hz _ ⟨Nat.zero_le _, LVE.z _⟩
  · unfold w_M_makes w_M_makes_25
    rw [show cn2 .ge (11 : Int32) 12 = false from rfl, show cn2 .ne (11 : Int32) 10 = true from rfl, q0]
    exact ⟨v0, (fun z => nomatch z), fun _ => ⟨fun _ => ⟨vp_of z1 (by omega), trivial⟩, (fun z => nomatch z)⟩⟩
end O2
