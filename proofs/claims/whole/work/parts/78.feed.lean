/-! FEED -/
/-- all but these ints and int arrays is as it was -/
def frm (eI : Nat → Nat → Prop) (eA : Nat → Prop) (s s' : St) : Prop := (∀ a k, ¬ eI a k → sI s' a k = sI s a k) ∧ (∀ a k, sG s' a k = sG s a k) ∧ (∀ a, ¬ eA a → sA s' a = sA s a) ∧ (∀ a, sB s' a = sB s a) ∧ (∀ a, sT s' a = sT s a) ∧ sD s' = sD s ∧ sN s' = sN s ∧ sU s' = sU s
theorem frm.rf {eI : Nat → Nat → Prop} {eA : Nat → Prop} (s : St) : frm eI eA s s := ⟨fun _ _ _ => rfl, fun _ _ => rfl, fun _ _ => rfl, fun _ => rfl, fun _ => rfl, rfl, rfl, rfl⟩
theorem frm.tr {eI : Nat → Nat → Prop} {eA : Nat → Prop} {s t u : St} (h1 : frm eI eA s t) (h2 : frm eI eA t u) : frm eI eA s u := by
  obtain ⟨a1, a2, a3, a4, a5, a6, a7, a8⟩ := h1
  obtain ⟨b1, b2, b3, b4, b5, b6, b7, b8⟩ := h2
  exact ⟨fun a k h => (b1 a k h).trans (a1 a k h), fun a k => (b2 a k).trans (a2 a k), fun a h => (b3 a h).trans (a3 a h), fun a => (b4 a).trans (a4 a), fun a => (b5 a).trans (a5 a), b6.trans a6, b7.trans a7, b8.trans a8⟩
def eTc (a k : Nat) : Prop := a = 2 ∧ k = 2
def eTr (a k : Nat) : Prop := a = 21 ∧ (k = 23 ∨ k = 0)
theorem frm_tc (c : St) (f : Nat → Int32) (v : Int32) : frm eTc (· = 3) c (pI (pA c 3 f) 2 2 v) := by
  refine ⟨fun a k h => ?_, fun _ _ => rfl, fun a h => if_neg h, fun _ => rfl, fun _ => rfl, rfl, rfl, rfl⟩
  rw [sI_pI]
  by_cases h1 : a = 2
  · rw [if_pos h1, if_neg (fun z => h ⟨h1, z⟩)]
    rfl
  · rw [if_neg h1]
    rfl
theorem frm_tr (r : St) (f : Nat → Int32) (v : Int32) : frm eTr (· = 32) r (pI (pA r 32 f) 21 23 v) := by
  refine ⟨fun a k h => ?_, fun _ _ => rfl, fun a h => if_neg h, fun _ => rfl, fun _ => rfl, rfl, rfl, rfl⟩
  rw [sI_pI]
  by_cases h1 : a = 21
  · rw [if_pos h1, if_neg (fun z => h ⟨h1, Or.inl z⟩)]
    rfl
  · rw [if_neg h1]
    rfl
theorem upd_s {f : Nat → Int32} {k : Nat} {v : Int32} : upd f k v k = v := by unfold upd; rw [if_pos rfl]
theorem upd_n {f : Nat → Int32} {k j : Nat} {v : Int32} (h : j ≠ k) : upd f k v j = f j := by unfold upd; rw [if_neg h]
/-- four bytes on either tape -/
theorem four_go (fu : Nat) (v : Int32) : ∀ (j n m : Nat) (c r : St) (v2 : Int32), v2.toInt = 8 * (j : Int) - 8 → 2 * j < n → j < m → R_tape c r → (sI r 21 23).toInt + j ≤ 2000 →
    R_tape ((T_Fo_append_2 fu n).1 c v v2) (t_M_four_2 fu m r v v2) ∧ (sI (t_M_four_2 fu m r v v2) 21 23).toInt = (sI r 21 23).toInt + j ∧ (WT_Fo_append_2 fu n).1 c v v2 ∧ w_M_four_2 fu m r v v2 ∧ frm eTc (· = 3) c ((T_Fo_append_2 fu n).1 c v v2) ∧ frm eTr (· = 32) r (t_M_four_2 fu m r v v2)
  | 0, n + 1, m + 1, c, r, v2, hv, _, _, hR, hl => by
    have k : cn1 .lt v2 = true := by rw [c1_lt]; exact decide_eq_true (by omega)
    unfold T_Fo_append_2 WT_Fo_append_2 t_M_four_2 w_M_four_2
    dsimp only
    unfold b_Fo_append_2 v_Fo_append_2
    rw [k]
    exact ⟨hR, by show (sI r 21 23).toInt = (sI r 21 23).toInt + ((0 : Nat) : Int); omega, ⟨fun _ => trivial, (fun z => nomatch z)⟩, ⟨fun _ => trivial, (fun z => nomatch z)⟩, frm.rf c, frm.rf r⟩
  | j + 1, n + 2, m + 1, c, r, v2, hv, hn, hm, hR, hl => by
    obtain ⟨h1, h2, h3, h4⟩ := hR
    have k : cn1 .lt v2 = false := by rw [c1_lt]; exact decide_eq_false (by omega)
    have k2 : cn2 .ge (sI c 2 2) (2000 : Int32) = false := by rw [c2_ge, h1, n2000]; exact decide_eq_false (by omega)
    have e1 := i_add (x := sI r 21 23) 1 (by omega) (by omega) (by decide) (by decide)
    have e8 := i_add (x := v2) (-8) (by omega) (by omega) (by decide) (by decide)
    have hin : vp_in (sI r 21 23) 2000 := vp_of h2 (by omega)
    have hb : (v >>> (v2 &&& 31)) &&& (255 : Int32) = ((Int32.toInt8 ((Int32.toInt8 (v >>> (v2 &&& 31))).toInt32)).toInt32) &&& 255 := by
      rw [bp_b, bp_b]
    have hR2 : R_tape (pI (pA c 3 (upd (sA c 3) (Int32.toNatClampNeg (sI c 2 2)) ((Int32.toInt8 ((Int32.toInt8 (v >>> (v2 &&& 31))).toInt32)).toInt32))) 2 2 ((sI c 2 2) + (1 : Int32))) (pI (pA r 32 (upd (sA r 32) (Int32.toNatClampNeg (sI r 21 23)) ((v >>> (v2 &&& 31)) &&& (255 : Int32)))) 21 23 ((sI r 21 23) + (1 : Int32))) := by
      refine ⟨?_, ?_, ?_, fun q hq => ?_⟩
      · show sI c 2 2 + 1 = sI r 21 23 + 1
        rw [h1]
      · show 0 ≤ (sI r 21 23 + Int32.ofInt 1).toInt
        omega
      · show (sI r 21 23 + Int32.ofInt 1).toInt ≤ 2000
        omega
      · have hq : (q : Int) < (sI r 21 23 + Int32.ofInt 1).toInt := hq
        show upd (sA r 32) (Int32.toNatClampNeg (sI r 21 23)) _ q = upd (sA c 3) (Int32.toNatClampNeg (sI c 2 2)) _ q &&& 255
        rw [h1]
        by_cases hz : q = Int32.toNatClampNeg (sI r 21 23)
        · rw [hz, upd_s, upd_s]
          exact hb
        · rw [upd_n hz, upd_n hz]
          rw [tn_eq] at hz
          exact h4 q (by omega)
    obtain ⟨i1, i2, i3, i4, i5, i6⟩ := four_go fu v j n m _ _ (v2 + Int32.ofInt (-8)) (by omega) (by omega) (by omega) hR2 (by show (sI r 21 23 + Int32.ofInt 1).toInt + j ≤ 2000; omega)
    have eT : (T_Fo_append_2 fu (n + 2)).1 c v v2 = (T_Fo_append_2 fu n).1 (pI (pA c 3 (upd (sA c 3) (Int32.toNatClampNeg (sI c 2 2)) ((Int32.toInt8 ((Int32.toInt8 (v >>> (v2 &&& 31))).toInt32)).toInt32))) 2 2 ((sI c 2 2) + (1 : Int32))) v (v2 + Int32.ofInt (-8)) := by
      show b_Fo_append_2 fu (T_Fo_append_2 fu (n + 1)) c v v2 = _
      unfold b_Fo_append_2
      rw [k, k2]
      rfl
    have eM : t_M_four_2 fu (m + 1) r v v2 = t_M_four_2 fu m (pI (pA r 32 (upd (sA r 32) (Int32.toNatClampNeg (sI r 21 23)) ((v >>> (v2 &&& 31)) &&& (255 : Int32)))) 21 23 ((sI r 21 23) + (1 : Int32))) v (v2 + Int32.ofInt (-8)) := by
      show cond (cn1 .lt v2) _ _ = _
      rw [k]
      rfl
    rw [eT, eM]
    refine ⟨i1, ?_, ?_, ?_, (frm_tc c _ _).tr i5, (frm_tr r _ _).tr i6⟩
    · rw [i2]
      show (sI r 21 23 + Int32.ofInt 1).toInt + j = _
      omega
    · show v_Fo_append_2 fu (T_Fo_append_2 fu (n + 1)) (WT_Fo_append_2 fu (n + 1)) c v v2
      unfold v_Fo_append_2
      rw [k, k2]
      refine ⟨(fun z => nomatch z), fun _ => ⟨(fun z => nomatch z), fun _ => ⟨by rw [h1]; exact hin, ?_⟩⟩⟩
      exact i3
    · show (_ → _) ∧ (_ → _)
      rw [k]
      exact ⟨(fun z => nomatch z), fun _ => ⟨hin, i4⟩⟩
theorem four_pr (fu : Nat) (hfu : 10 ≤ fu) {c r : St} (v : Int32) (h : R_tape c r) (hl : (sI r 21 23).toInt + 4 ≤ 2000) : R_tape (f_Fo_append fu c v) (f_M_four fu r v) ∧ (sI (f_M_four fu r v) 21 23).toInt = (sI r 21 23).toInt + 4 ∧ w_Fo_append fu c v ∧ w_M_four fu r v ∧ frm eTc (· = 3) c (f_Fo_append fu c v) ∧ frm eTr (· = 32) r (f_M_four fu r v) :=
  four_go fu v 4 fu fu c r 24 rfl (by omega) (by omega) h hl
theorem p_feed (fu : Nat) (hfu : 10 ≤ fu) {c r : St} (h : R_tape c r) (a b d e g : Int32) : (f_H_feed fu c a b d e g).1 = (f_M_feed fu r a b d e g).1 ∧ R_tape (f_H_feed fu c a b d e g).2 (f_M_feed fu r a b d e g).2 ∧ w_H_feed fu c a b d e g ∧ w_M_feed fu r a b d e g ∧ frm eTc (· = 3) c (f_H_feed fu c a b d e g).2 ∧ frm eTr (· = 32) r (f_M_feed fu r a b d e g).2 := by
  have hR0 : R_tape c (pI r 21 0 0) := h
  have fr0 : frm eTr (· = 32) r (pI r 21 0 0) := by
    refine ⟨fun a k hh => ?_, fun _ _ => rfl, fun _ _ => rfl, fun _ => rfl, fun _ => rfl, rfl, rfl, rfl⟩
    rw [sI_pI]
    by_cases h1 : a = 21
    · rw [if_pos h1, if_neg (fun z => hh ⟨h1, Or.inr z⟩)]
    · rw [if_neg h1]
  obtain ⟨h1, h2, h3, h4⟩ := id h
  have e20 := i_add (x := sI r 21 23) 20 (by omega) (by omega) (by decide) (by decide)
  by_cases k : (sI r 21 23).toInt + 20 ≤ 2000
  · have kc : cn2 .le ((sI c 2 2) + (20 : Int32)) (2000 : Int32) = true := by rw [c2_le, h1, n2000]; exact decide_eq_true (by show (sI r 21 23 + Int32.ofInt 20).toInt ≤ 2000; omega)
    have kr : cn2 .le ((sI r 21 23) + (20 : Int32)) (2000 : Int32) = true := by rw [c2_le, n2000]; exact decide_eq_true (by show (sI r 21 23 + Int32.ofInt 20).toInt ≤ 2000; omega)
    have l0 : (sI (pI r 21 0 0) 21 23).toInt = (sI r 21 23).toInt := rfl
    obtain ⟨a1, a2, a3, a4, a5, a6⟩ := four_pr fu hfu a hR0 (by omega)
    obtain ⟨b1, b2, b3, b4, b5, b6⟩ := four_pr fu hfu b a1 (by omega)
    obtain ⟨d1, d2, d3, d4, d5, d6⟩ := four_pr fu hfu d b1 (by omega)
    obtain ⟨e1, e2, e3, e4, e5, e6⟩ := four_pr fu hfu e d1 (by omega)
    obtain ⟨g1, g2, g3, g4, g5, g6⟩ := four_pr fu hfu g e1 (by omega)
    unfold f_H_feed f_M_feed w_H_feed w_M_feed t_H_feed_13 t_H_feed_17 t_H_feed_21 t_H_feed_25 t_H_feed_29 t_M_feed_14 t_M_feed_17 t_M_feed_20 t_M_feed_23 t_M_feed_26 w_H_feed_13 w_H_feed_17 w_H_feed_21 w_H_feed_25 w_H_feed_29 w_M_feed_14 w_M_feed_17 w_M_feed_20 w_M_feed_23 w_M_feed_26
    rw [kc, kr]
    refine ⟨g1.1, g1, ⟨fun _ => ⟨a3, b3, d3, e3, g3, trivial⟩, (fun z => nomatch z)⟩, ⟨fun _ => ⟨a4, b4, d4, e4, g4, trivial⟩, (fun z => nomatch z)⟩, a5.tr (b5.tr (d5.tr (e5.tr g5))), fr0.tr (a6.tr (b6.tr (d6.tr (e6.tr g6))))⟩
  · have kc : cn2 .le ((sI c 2 2) + (20 : Int32)) (2000 : Int32) = false := by rw [c2_le, h1, n2000]; exact decide_eq_false (by show ¬ (sI r 21 23 + Int32.ofInt 20).toInt ≤ 2000; omega)
    have kr : cn2 .le ((sI r 21 23) + (20 : Int32)) (2000 : Int32) = false := by rw [c2_le, n2000]; exact decide_eq_false (by show ¬ (sI r 21 23 + Int32.ofInt 20).toInt ≤ 2000; omega)
    unfold f_H_feed f_M_feed w_H_feed w_M_feed
    rw [kc, kr]
    exact ⟨rfl, hR0, ⟨(fun z => nomatch z), fun _ => trivial⟩, ⟨(fun z => nomatch z), fun _ => trivial⟩, frm.rf c, fr0⟩
