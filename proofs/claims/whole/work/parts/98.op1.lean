/-! OPERANDS: code of either side from p on; the class's place is p, the reference's p + 1 -/
def CDH (r : St) (p : Nat) (s : St) : Prop := (sI s 8 5).toInt = (p : Int) ∧ ∀ k, sA r 30 k = sA s 6 k &&& 255
theorem b255 (x : Int32) : 0 ≤ (x &&& 255).toInt ∧ (x &&& 255).toInt ≤ 255 := by
  obtain ⟨k, hk, rfl⟩ := wb_of32 x
  rw [show (255 : Int32) = nI (2 ^ 8 - 1) from by decide, nx_and, Nat.and_two_pow_sub_one_eq_mod]
  have : k % 2 ^ 8 < 256 := Nat.mod_lt _ (by decide)
  rw [yI_i (by omega)]
  omega
theorem m7 : ∀ k, k < 8 → nI k &&& 7 = nI k := by decide
theorem m3 : ∀ k, k < 4 → nI k &&& 3 = nI k := by decide
theorem m15 : ∀ k, k < 16 → nI k &&& 15 = nI k := by decide
theorem am7 {x : Int32} (h1 : 0 ≤ x.toInt) (h2 : x.toInt ≤ 7) : x &&& 7 = x := by rw [nIof h1]; exact m7 _ (by rw [tn_eq]; omega)
theorem am3 {x : Int32} (h1 : 0 ≤ x.toInt) (h2 : x.toInt ≤ 3) : x &&& 3 = x := by rw [nIof h1]; exact m3 _ (by rw [tn_eq]; omega)
theorem am15 {x : Int32} (h1 : 0 ≤ x.toInt) (h2 : x.toInt ≤ 15) : x &&& 15 = x := by rw [nIof h1]; exact m15 _ (by rw [tn_eq]; omega)
theorem nlt {x : Int32} {b : Nat} (h1 : 0 ≤ x.toInt) (h2 : x.toInt < (b : Int)) : x.toNatClampNeg < b := by rw [tn_eq]; omega
section OP
variable {G : AH} {T : Nat} {φ : Nat → Nat} {n u p j : Nat} {s r : St} {k : Int32}
theorem CDH.b (h : CDH r p s) (i : Nat) : 0 ≤ (sA r 30 i).toInt ∧ (sA r 30 i).toInt ≤ 255 := by rw [h.2 i]; exact b255 _
theorem o_opn (h : CDH r p s) (hk : k.toInt = (j : Int)) (hp : p + j < 3200) : f_Op_operand s k = sA r 30 (p + j) ∧ w_Op_operand s k := by
  obtain ⟨h1, h2⟩ := h
  have e := i_addy (x := sI s 8 5) (y := k) h1 hk (by omega) (by omega)
  have e2 : (sI s 8 5 + k).toNatClampNeg = p + j := by rw [tn_eq, e]; omega
  constructor
  · unfold f_Op_operand
    rw [c1_lt, c2_ge, e, cd_f (by omega), show ((3200 : Int32).toInt) = 3200 from rfl, cd_f (by omega), e2, h2]
  · unfold w_Op_operand
    exact ⟨fun _ => trivial, fun _ => ⟨fun _ => trivial, fun _ => ⟨vp_of (by omega) (by omega), trivial⟩⟩⟩
theorem o_num (h : CDH r p s) (hn : R_num s r) (hk : k.toInt = (j : Int)) (hp : p + j < 3200) (hb : (sA r 30 (p + j)).toInt ≤ 7) : f_Op_numberAt s k = sA r 28 (sA r 30 (p + j)).toNatClampNeg ∧ w_Op_numberAt s k := by
  obtain ⟨e1, e2⟩ := o_opn h hk hp
  have b0 := (h.b (p + j)).1
  unfold f_Op_numberAt w_Op_numberAt
  rw [e1, am7 b0 hb]
  exact ⟨hn.1 _ (nlt b0 (by omega)), e2, vp_of b0 (by omega), trivial⟩
theorem o_rea (h : CDH r p s) (hn : R_num s r) (hk : k.toInt = (j : Int)) (hp : p + j < 3200) (hb : (sA r 30 (p + j)).toInt ≤ 3) : f_Op_realAt s k = sB r 29 (sA r 30 (p + j)).toNatClampNeg ∧ w_Op_realAt s k ∧ KP (sB r 29 (sA r 30 (p + j)).toNatClampNeg) := by
  obtain ⟨e1, e2⟩ := o_opn h hk hp
  have b0 := (h.b (p + j)).1
  unfold f_Op_realAt w_Op_realAt
  rw [e1, am3 b0 hb]
  obtain ⟨a1, a2⟩ := hn.2 _ (nlt (b := 4) b0 (by omega))
  exact ⟨a1, ⟨e2, vp_of b0 (by omega), trivial⟩, a2⟩
theorem o_slt (h : CDH r p s) (hn : R_sv φ n s r) (hk : k.toInt = (j : Int)) (hp : p + j < 3200) (hb : (sA r 30 (p + j)).toInt ≤ 15) : ∃ v, (v ≤ n ∧ LVE φ v) ∧ sA r 27 (sA r 30 (p + j)).toNatClampNeg = nI v ∧ f_Op_slotAt s k = po φ v ∧ w_Op_slotAt s k := by
  obtain ⟨e1, e2⟩ := o_opn h hk hp
  have b0 := (h.b (p + j)).1
  unfold f_Op_slotAt w_Op_slotAt
  rw [e1, am15 b0 hb]
  obtain ⟨v, a1, a2, a3⟩ := hn _ (nlt (b := 16) b0 (by omega))
  exact ⟨v, a1, a2, a3, e2, vp_of b0 (by omega), trivial⟩
theorem o_setN (h : CDH r p s) (hk : k.toInt = (j : Int)) (hp : p + j < 3200) (hb : (sA r 30 (p + j)).toInt ≤ 7) (v : Int32) : f_Op_setNumber s k v = pA s 9 (upd (sA s 9) (sA r 30 (p + j)).toNatClampNeg v) ∧ w_Op_setNumber s k v := by
  obtain ⟨e1, e2⟩ := o_opn h hk hp
  have b0 := (h.b (p + j)).1
  unfold f_Op_setNumber w_Op_setNumber
  rw [e1, am7 b0 hb]
  exact ⟨rfl, e2, vp_of b0 (by omega), trivial⟩
theorem o_setR (h : CDH r p s) (hk : k.toInt = (j : Int)) (hp : p + j < 3200) (hb : (sA r 30 (p + j)).toInt ≤ 3) (v : Int64) : f_Op_setReal s k v = pB s 10 (vp_updL (sB s 10) (sA r 30 (p + j)).toNatClampNeg v) ∧ w_Op_setReal s k v := by
  obtain ⟨e1, e2⟩ := o_opn h hk hp
  have b0 := (h.b (p + j)).1
  unfold f_Op_setReal w_Op_setReal
  rw [e1, am3 b0 hb]
  exact ⟨rfl, e2, vp_of b0 (by omega), trivial⟩
theorem o_setS (h : CDH r p s) (hk : k.toInt = (j : Int)) (hp : p + j < 3200) (hb : (sA r 30 (p + j)).toInt ≤ 15) (v : Option Nat) (hv : tho (sD s) v) : f_Op_setSlot s k v = pT s 11 (va_up (sT s 11) (sA r 30 (p + j)).toNatClampNeg v) ∧ w_Op_setSlot s k v := by
  obtain ⟨e1, e2⟩ := o_opn h hk hp
  have b0 := (h.b (p + j)).1
  unfold f_Op_setSlot w_Op_setSlot
  rw [e1, am15 b0 hb]
  exact ⟨rfl, e2, vp_of b0 (by omega), hv, trivial⟩
theorem o_q0 {q : Int32} (hq : q.toInt = (p : Int) + 1) (hp : p + 1 < 3200) : q.toNatClampNeg = p + 1 ∧ vp_in q 3200 := ⟨by rw [tn_eq, hq]; omega, vp_of (by omega) (by omega)⟩
theorem o_q {q : Int32} (hq : q.toInt = (p : Int) + 1) (hk : k.toInt + 1 = (j : Int)) (hp : p + j < 3200) : (q + k).toNatClampNeg = p + j ∧ vp_in (q + k) 3200 := by
  have e := i_addy (x := q) (y := k) hq (b := (j : Int) - 1) (by omega) (by omega) (by omega)
  exact ⟨by rw [tn_eq, e]; omega, vp_of (by omega) (by omega)⟩
end OP
/-! numbers of some bytes -/
def bV (f : Nat → Int32) (q : Nat) : Nat → Nat
  | 0 => 0
  | k + 1 => bV f q k * 256 + (f (q + k)).toNatClampNeg
theorem bV_lt {f : Nat → Int32} (hf : ∀ i, 0 ≤ (f i).toInt ∧ (f i).toInt ≤ 255) (q : Nat) : ∀ k, bV f q k < 256 ^ k
  | 0 => Nat.one_pos
  | k + 1 => by
    have h := bV_lt hf q k
    have g := hf (q + k)
    show bV f q k * 256 + (f (q + k)).toNatClampNeg < 256 ^ k * 256
    rw [tn_eq]
    omega
theorem or_8 {V b : Nat} (hb : b < 256) (hV : V * 256 + b < 2 ^ 64) : lN V <<< (Int32.toInt64 (8 : Int32) &&& 63) ||| lN b = lN (V * 256 + b) := by
  rw [yL_shl (k := 8) rfl (by decide)]
  exact g_or (k := 8) rfl hb hV
theorem ior_8 {V b : Nat} (hb : b < 256) : nI V <<< ((8 : Int32) &&& 31) ||| nI b = nI (V * 256 + b) := by
  refine b_ext fun i hi => ?_
  rw [b_or, b_shl8 _ hi]
  unfold bt
  show (decide (8 ≤ i) && (BitVec.ofNat 32 V).getLsbD (i - 8) || (BitVec.ofNat 32 b).getLsbD i) = (BitVec.ofNat 32 (V * 256 + b)).getLsbD i
  rw [BitVec.getLsbD_ofNat, BitVec.getLsbD_ofNat, BitVec.getLsbD_ofNat, decide_eq_true hi, decide_eq_true (show i - 8 < 32 by omega), Bool.true_and, Bool.true_and, Bool.true_and]
  have e : V * 256 + b = 2 ^ 8 * V + b := by omega
  rw [e, Nat.testBit_two_pow_mul_add _ (show b < 2 ^ 8 from hb)]
  by_cases h : i < 8
  · rw [if_pos h, decide_eq_false (by omega), Bool.false_and, Bool.false_or]
  · rw [if_neg h, decide_eq_true (by omega), Bool.true_and, Nat.testBit_lt_two_pow (x := b) (i := i) (Nat.lt_of_lt_of_le hb (Nat.le_trans (show 256 ≤ 2 ^ 8 by decide) (Nat.pow_le_pow_right (by decide) (by omega)))), Bool.or_false]
theorem by_C {r s : St} {p q0 K : Nat} {v1 v2 : Int32} (fu : Nat) (h : CDH r p s) (h1 : v1.toInt = (q0 : Int)) (h2 : v2.toInt = (K : Int)) (hK : K ≤ 8) (hp : p + q0 + K ≤ 3200) : ∀ (m i : Nat) (v5 : Int32), m + i = K → v5.toInt = (i : Int) → ∀ g, m < g → t_Op_bytes_4 fu g s v1 v2 (lN (bV (sA r 30) (p + q0) i)) v5 = lN (bV (sA r 30) (p + q0) K) ∧ w_Op_bytes_4 fu g s v1 v2 (lN (bV (sA r 30) (p + q0) i)) v5
  | 0, i, v5, hm, h5, g + 1, _ => by
    have e : cn2 .ge v5 v2 = true := by rw [c2_ge]; exact dt (by omega)
    have ei : i = K := by omega
    constructor
    · show cond (cn2 .ge v5 v2) _ _ = _
      rw [e, ei]
      rfl
    · show (_ → _) ∧ (_ → _)
      rw [e]
      exact ⟨fun _ => trivial, (fun z => nomatch z)⟩
  | m + 1, i, v5, hm, h5, g + 1, hg => by
    have e : cn2 .ge v5 v2 = false := by rw [c2_ge]; exact df (by omega)
    have ea := i_addy (x := v1) (y := v5) h1 h5 (by omega) (by omega)
    obtain ⟨o1, o2⟩ := o_opn (j := q0 + i) (k := v1 + v5) h (by rw [ea]; omega) (by omega)
    have b1 := h.b (p + (q0 + i))
    have e5 := i_add (x := v5) 1 (by omega) (by omega) (by decide) (by decide)
    have hl := bV_lt (fun i => h.b i) (p + q0) (i + 1)
    have hl2 : bV (sA r 30) (p + q0) (i + 1) < 2 ^ 64 := Nat.lt_of_lt_of_le hl (Nat.le_trans (Nat.pow_le_pow_right (by decide) (show i + 1 ≤ 8 by omega)) (by decide))
    have es : (lN (bV (sA r 30) (p + q0) i) <<< (Int32.toInt64 (8 : Int32) &&& 63)) ||| Int32.toInt64 (f_Op_operand s (v1 + v5)) = lN (bV (sA r 30) (p + q0) (i + 1)) := by
      rw [o1, nIof b1.1, nI_L (by rw [tn_eq]; omega), or_8 (nlt (b := 256) b1.1 (by omega)) (by rw [← Nat.add_assoc]; exact hl2)]
      show _ = lN (bV (sA r 30) (p + q0) i * 256 + (sA r 30 (p + q0 + i)).toNatClampNeg)
      rw [Nat.add_assoc p]
    obtain ⟨i1, i2⟩ := by_C fu h h1 h2 hK hp m (i + 1) (v5 + Int32.ofInt 1) (by omega) (by omega) g (by omega)
    constructor
    · show cond (cn2 .ge v5 v2) _ (t_Op_bytes_4 fu g s v1 v2 ((lN (bV (sA r 30) (p + q0) i) <<< (Int32.toInt64 (8 : Int32) &&& 63)) ||| Int32.toInt64 (f_Op_operand s (v1 + v5))) (v5 + Int32.ofInt 1)) = _
      rw [e, es]
      exact i1
    · show (_ → _) ∧ (_ → _ ∧ w_Op_bytes_4 fu g s v1 v2 ((lN (bV (sA r 30) (p + q0) i) <<< (Int32.toInt64 (8 : Int32) &&& 63)) ||| Int32.toInt64 (f_Op_operand s (v1 + v5))) (v5 + Int32.ofInt 1))
      rw [e, es]
      exact ⟨(fun z => nomatch z), fun _ => ⟨o2, i2⟩⟩
theorem by_M {r : St} {q0 K : Nat} {v1 v2 : Int32} (fu : Nat) (hb : ∀ i, 0 ≤ (sA r 30 i).toInt ∧ (sA r 30 i).toInt ≤ 255) (h1 : v1.toInt = (q0 : Int)) (h2 : v2.toInt = (K : Int)) (hK : K ≤ 8) (hp : q0 + K ≤ 3200) : ∀ (m i : Nat) (v5 : Int32), m + i = K → v5.toInt = (i : Int) → ∀ g, m < g → t_M_eight_4 fu g r v1 v2 (nI (bV (sA r 30) q0 i)) v5 = nI (bV (sA r 30) q0 K) ∧ w_M_eight_4 fu g r v1 v2 (nI (bV (sA r 30) q0 i)) v5
  | 0, i, v5, hm, h5, g + 1, _ => by
    have e : cn2 .ge v5 v2 = true := by rw [c2_ge]; exact dt (by omega)
    have ei : i = K := by omega
    constructor
    · show cond (cn2 .ge v5 v2) _ _ = _
      rw [e, ei]
      rfl
    · show (_ → _) ∧ (_ → _)
      rw [e]
      exact ⟨fun _ => trivial, (fun z => nomatch z)⟩
  | m + 1, i, v5, hm, h5, g + 1, hg => by
    have e : cn2 .ge v5 v2 = false := by rw [c2_ge]; exact df (by omega)
    have ea := i_addy (x := v1) (y := v5) h1 h5 (by omega) (by omega)
    have en : (v1 + v5).toNatClampNeg = q0 + i := by rw [tn_eq, ea]; omega
    have b1 := hb (q0 + i)
    have e5 := i_add (x := v5) 1 (by omega) (by omega) (by decide) (by decide)
    have es : (nI (bV (sA r 30) q0 i) <<< ((8 : Int32) &&& 31)) ||| (sA r 30 (v1 + v5).toNatClampNeg) = nI (bV (sA r 30) q0 (i + 1)) := by
      rw [en]
      conv => lhs; rw [nIof b1.1]
      rw [ior_8 (nlt (b := 256) b1.1 (by omega))]
      rfl
    obtain ⟨i1, i2⟩ := by_M fu hb h1 h2 hK hp m (i + 1) (v5 + Int32.ofInt 1) (by omega) (by omega) g (by omega)
    constructor
    · show cond (cn2 .ge v5 v2) _ (t_M_eight_4 fu g r v1 v2 ((nI (bV (sA r 30) q0 i) <<< ((8 : Int32) &&& 31)) ||| (sA r 30 (v1 + v5).toNatClampNeg)) (v5 + Int32.ofInt 1)) = _
      rw [e, es]
      exact i1
    · show (_ → _) ∧ (_ → _ ∧ w_M_eight_4 fu g r v1 v2 ((nI (bV (sA r 30) q0 i) <<< ((8 : Int32) &&& 31)) ||| (sA r 30 (v1 + v5).toNatClampNeg)) (v5 + Int32.ofInt 1))
      rw [e, es]
      exact ⟨(fun z => nomatch z), fun _ => ⟨vp_of (by omega) (by omega), i2⟩⟩
theorem sx_mod {V : Nat} (h : V < 2 ^ 32) : ((BitVec.ofNat 32 V).signExtend 64).toNat % 2 ^ 32 = V := by
  rw [BitVec.toNat_signExtend, BitVec.toNat_setWidth, BitVec.toNat_ofNat, Nat.mod_eq_of_lt h, Nat.mod_eq_of_lt (Nat.lt_trans h (by decide))]
  split
  · rw [show (2 : Nat) ^ 64 - 2 ^ 32 = (2 ^ 32 - 1) * 2 ^ 32 from by decide, Nat.add_mul_mod_self_right]
    exact Nat.mod_eq_of_lt h
  · rw [Nat.add_zero]
    exact Nat.mod_eq_of_lt h
theorem hi_32 {V : Nat} (h : V < 2 ^ 32) : Int32.toInt64 (nI V) <<< (Int32.toInt64 (32 : Int32) &&& 63) = lN (V * 2 ^ 32) := by
  refine wb_inj (BitVec.eq_of_toNat_eq ?_)
  rw [un_shl (Int32.toInt64 (nI V)) 32 32 (by decide) (by decide), wb_tb, BitVec.toNat_ofNat]
  have e : (Int32.toInt64 (nI V)).toBitVec.toNat % 2 ^ 32 = V := by
    exact sx_mod h
  obtain ⟨a, ha⟩ : ∃ a, a = (Int32.toInt64 (nI V)).toBitVec.toNat := ⟨_, rfl⟩
  rw [← ha] at e ⊢
  have := Nat.div_add_mod a (2 ^ 32)
  rw [e] at this
  rw [← this, Nat.add_mul, Nat.mul_right_comm, show (2 : Nat) ^ 32 * 2 ^ 32 = 2 ^ 64 from by decide, Nat.mul_add_mod]
theorem lo_32 {V : Nat} (h : V < 2 ^ 32) : Int32.toInt64 (nI V) &&& (4294967295 : Int64) = lN V := by
  refine uN_inj ?_
  rw [uN_lo]
  show (Int32.toInt64 (nI V)).toBitVec.toNat % 2 ^ 32 = (BitVec.ofNat 64 V).toNat
  rw [BitVec.toNat_ofNat, Nat.mod_eq_of_lt (Nat.lt_trans h (by decide))]
  exact sx_mod h
theorem bV_8 (f : Nat → Int32) (q : Nat) : bV f q 8 = bV f q 4 * 2 ^ 32 + bV f (q + 4) 4 := by
  show (((((((0 * 256 + (f (q + 0)).toNatClampNeg) * 256 + (f (q + 1)).toNatClampNeg) * 256 + (f (q + 2)).toNatClampNeg) * 256 + (f (q + 3)).toNatClampNeg) * 256 + (f (q + 4)).toNatClampNeg) * 256 + (f (q + 5)).toNatClampNeg) * 256 + (f (q + 6)).toNatClampNeg) * 256 + (f (q + 7)).toNatClampNeg = ((((0 * 256 + (f (q + 0)).toNatClampNeg) * 256 + (f (q + 1)).toNatClampNeg) * 256 + (f (q + 2)).toNatClampNeg) * 256 + (f (q + 3)).toNatClampNeg) * 2 ^ 32 + ((((0 * 256 + (f (q + 4)).toNatClampNeg) * 256 + (f (q + 5)).toNatClampNeg) * 256 + (f (q + 6)).toNatClampNeg) * 256 + (f (q + 7)).toNatClampNeg)
  omega
