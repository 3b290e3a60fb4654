/-! SAVE: bytes that go out -/
def fwC (c c' : St) : Prop := (∀ a k, ¬ (a = 2 ∧ (k = 3 ∨ k = 7)) → sI c' a k = sI c a k) ∧ (∀ a k, sG c' a k = sG c a k) ∧ (∀ a, a ≠ 4 → sA c' a = sA c a) ∧ (∀ a, sB c' a = sB c a) ∧ (∀ a, sT c' a = sT c a) ∧ sD c' = sD c ∧ sN c' = sN c ∧ sU c' = sU c
def fwR (r r' : St) : Prop := (∀ a k, ¬ (a = 21 ∧ k = 24) → sI r' a k = sI r a k) ∧ (∀ a k, sG r' a k = sG r a k) ∧ (∀ a, a ≠ 33 → sA r' a = sA r a) ∧ (∀ a, sB r' a = sB r a) ∧ (∀ a, sT r' a = sT r a) ∧ sD r' = sD r ∧ sN r' = sN r ∧ sU r' = sU r
theorem fwC.rf (c : St) : fwC c c := ⟨fun _ _ _ => rfl, fun _ _ => rfl, fun _ _ => rfl, fun _ => rfl, fun _ => rfl, rfl, rfl, rfl⟩
theorem fwR.rf (c : St) : fwR c c := ⟨fun _ _ _ => rfl, fun _ _ => rfl, fun _ _ => rfl, fun _ => rfl, fun _ => rfl, rfl, rfl, rfl⟩
theorem fwC.tr {x y z : St} (h : fwC x y) (g : fwC y z) : fwC x z := ⟨fun a k w => (g.1 a k w).trans (h.1 a k w), fun a k => (g.2.1 a k).trans (h.2.1 a k), fun a w => (g.2.2.1 a w).trans (h.2.2.1 a w), fun a => (g.2.2.2.1 a).trans (h.2.2.2.1 a), fun a => (g.2.2.2.2.1 a).trans (h.2.2.2.2.1 a), g.2.2.2.2.2.1.trans h.2.2.2.2.2.1, g.2.2.2.2.2.2.1.trans h.2.2.2.2.2.2.1, g.2.2.2.2.2.2.2.trans h.2.2.2.2.2.2.2⟩
theorem fwR.tr {x y z : St} (h : fwR x y) (g : fwR y z) : fwR x z := ⟨fun a k w => (g.1 a k w).trans (h.1 a k w), fun a k => (g.2.1 a k).trans (h.2.1 a k), fun a w => (g.2.2.1 a w).trans (h.2.2.1 a w), fun a => (g.2.2.2.1 a).trans (h.2.2.2.1 a), fun a => (g.2.2.2.2.1 a).trans (h.2.2.2.2.1 a), g.2.2.2.2.2.1.trans h.2.2.2.2.2.1, g.2.2.2.2.2.2.1.trans h.2.2.2.2.2.2.1, g.2.2.2.2.2.2.2.trans h.2.2.2.2.2.2.2⟩
theorem fwC_I (c : St) {k : Nat} (h : k = 3 ∨ k = 7) (v : Int32) : fwC c (pI c 2 k v) := ⟨fun a j z => by
  rw [sI_pI]
  by_cases g : a = 2
  · rw [if_pos g, if_neg (by omega)]
  · rw [if_neg g], fun _ _ => rfl, fun _ _ => rfl, fun _ => rfl, fun _ => rfl, rfl, rfl, rfl⟩
theorem fwC_A (c : St) (f : Nat → Int32) : fwC c (pA c 4 f) := ⟨fun _ _ _ => rfl, fun _ _ => rfl, fun _ z => if_neg z, fun _ => rfl, fun _ => rfl, rfl, rfl, rfl⟩
theorem fwR_I (r : St) (v : Int32) : fwR r (pI r 21 24 v) := ⟨fun a j z => by
  rw [sI_pI]
  by_cases g : a = 21
  · rw [if_pos g, if_neg (by omega)]
  · rw [if_neg g], fun _ _ => rfl, fun _ _ => rfl, fun _ => rfl, fun _ => rfl, rfl, rfl, rfl⟩
theorem fwR_A (r : St) (f : Nat → Int32) : fwR r (pA r 33 f) := ⟨fun _ _ _ => rfl, fun _ _ => rfl, fun _ z => if_neg z, fun _ => rfl, fun _ => rfl, rfl, rfl, rfl⟩
section SV1
variable {fu : Nat} {v : Int64}
theorem wb_go {cnt o : Nat} (hc8 : cnt ≤ 8) (ho : o + cnt ≤ 2000) : ∀ (k i : Nat) (c r : St), i + k = cnt → sI c 2 3 = nI o → sI r 21 24 = nI (o + i) → (∀ j, j < o + i → sA r 33 j = sA c 4 j &&& 255) → ∃ c' r', (∀ g, 2 * k + 1 ≤ g → (T_Fo_writeBytes_16 fu g).1 c v (nI cnt) (nI i) = c' ∧ (WT_Fo_writeBytes_16 fu g).1 c v (nI cnt) (nI i)) ∧ (∀ g, 2 * k + 1 ≤ g → (T_M_tell_4 fu g).1 r v (nI k - 1) = (0, r') ∧ (WT_M_tell_4 fu g).1 r v (nI k - 1)) ∧ fwC c c' ∧ sI c' 2 7 = sI c 2 7 ∧ fwR r r' ∧ sI c' 2 3 = nI (o + cnt) ∧ sI r' 21 24 = nI (o + cnt) ∧ ∀ j, j < o + cnt → sA r' 33 j = sA c' 4 j &&& 255 := by
  intro k
  induction k with
  | zero =>
    intro i c r hi h3 h24 hA
    have ei : i = cnt := by omega
    subst ei
    refine ⟨pI c 2 3 (nI (o + i)), r, fun g hg => ?_, fun g hg => ?_, fwC_I c (Or.inl rfl) _, rfl, fwR.rf r, rfl, h24, hA⟩
    · obtain ⟨g, rfl⟩ : ∃ g', g = g' + 1 := ⟨g - 1, by omega⟩
      have ge : cn2 .ge (nI i) (nI i) = true := by rw [kge (by omega) (by omega)]; exact dt (Nat.le_refl _)
      show b_Fo_writeBytes_16 fu (T_Fo_writeBytes_16 fu g) c v (nI i) (nI i) = _ ∧ v_Fo_writeBytes_16 fu (T_Fo_writeBytes_16 fu g) (WT_Fo_writeBytes_16 fu g) c v (nI i) (nI i)
      unfold b_Fo_writeBytes_16 v_Fo_writeBytes_16
      rw [ge, cond_true, h3, nAd]
      exact ⟨rfl, fun _ => trivial, (fun z => nomatch z)⟩
    · obtain ⟨g, rfl⟩ : ∃ g', g = g' + 1 := ⟨g - 1, by omega⟩
      exact ⟨rfl, fun _ => trivial, (fun z => nomatch z)⟩
  | succ k ih =>
    intro i c r hi h3 h24 hA
    have ge : cn2 .ge (nI i) (nI cnt) = false := by rw [kge (by omega) (by omega)]; exact df (by omega)
    have ek : nI cnt - 1 - nI i = nI k := by
      rw [← hi, show i + (k + 1) = (k + i) + 1 from by omega, show (1 : Int32) = nI 1 from rfl, nSb, nSb]
    have ek2 : nI (k + 1) - 1 = nI k := nSb k 1
    have lt : cn1 .lt (nI k) = false := by rw [c1_lt, yI_i (by omega)]; exact df (by omega)
    have ne : cn2 .ne (nI (o + i)) 2000 = true := by rw [c2_ne, yI_i (by omega)]; exact dt (show ¬ ((o + i : Nat) : Int) = 2000 by omega)
    obtain ⟨x, hx⟩ : ∃ x, x = Int64.toInt32 (v >>> (Int32.toInt64 (8 * nI k) &&& 63)) := ⟨_, rfl⟩
    obtain ⟨c1, hc1⟩ : ∃ c1, c1 = pA c 4 (upd (sA c 4) (o + i) (Int32.toInt8 (Int32.toInt8 x).toInt32).toInt32) := ⟨_, rfl⟩
    obtain ⟨r1, hr1⟩ : ∃ r1, r1 = pI (pA r 33 (upd (sA r 33) (o + i) (x &&& 255))) 21 24 (nI (o + (i + 1))) := ⟨_, rfl⟩
    have a4 : sA c1 4 = upd (sA c 4) (o + i) (Int32.toInt8 (Int32.toInt8 x).toInt32).toInt32 := by rw [hc1]; rfl
    have a33 : sA r1 33 = upd (sA r 33) (o + i) (x &&& 255) := by rw [hr1]; rfl
    obtain ⟨c', r', y1, y2, y3, y4, y5, y6, y7, y8⟩ := ih (i + 1) c1 r1 (by omega) (by rw [hc1]; exact h3) (by rw [hr1]; rfl) (fun j hj => by
      rw [a4, a33]
      by_cases e : j = o + i
      · rw [e, upS, upS, bp_b, bp_b]
      · rw [upN _ _ e, upN _ _ e]
        exact hA j (by omega))
    refine ⟨c', r', fun g hg => ?_, fun g hg => ?_, (show fwC c c1 by rw [hc1]; exact fwC_A _ _).tr y3, y4.trans (by rw [hc1]; rfl), (show fwR r r1 by rw [hr1]; exact (fwR_A _ _).tr (fwR_I _ _)).tr y5, y6, y7, y8⟩
    · obtain ⟨g, rfl⟩ : ∃ g', g = g' + 2 := ⟨g - 2, by omega⟩
      obtain ⟨z1, z2⟩ := y1 g (by omega)
      show b_Fo_writeBytes_16 fu (T_Fo_writeBytes_16 fu (g + 1)) c v (nI cnt) (nI i) = _ ∧ v_Fo_writeBytes_16 fu (T_Fo_writeBytes_16 fu (g + 1)) (WT_Fo_writeBytes_16 fu (g + 1)) c v (nI cnt) (nI i)
      unfold b_Fo_writeBytes_16 v_Fo_writeBytes_16
      rw [ge, cond_false, h3, nAd, nN (by omega), ek, ← hx, ← hc1]
      rw [← nI_s] at z1 z2
      exact ⟨z1, (fun z => nomatch z), fun _ => ⟨vp_n (by omega) (by omega), z2⟩⟩
    · obtain ⟨g, rfl⟩ : ∃ g', g = g' + 2 := ⟨g - 2, by omega⟩
      obtain ⟨z1, z2⟩ := y2 g (by omega)
      rw [ek2]
      show b_M_tell_4 fu (T_M_tell_4 fu (g + 1)) r v (nI k) = _ ∧ v_M_tell_4 fu (T_M_tell_4 fu (g + 1)) (WT_M_tell_4 fu (g + 1)) r v (nI k)
      unfold b_M_tell_4 v_M_tell_4
      rw [lt, cond_false, h24, ne, cond_true, nN (by omega), show nI (o + i) + 1 = nI (o + (i + 1)) from nAd (o + i) 1, ← hx, ← hr1]
      rw [show nI k - 1 = nI k + Int32.ofInt (-1) from Int32.sub_eq_add_neg _ _] at z1 z2
      exact ⟨z1, (fun z => nomatch z), fun _ => ⟨fun _ => ⟨vp_n (by omega) (by omega), z2⟩, (fun z => nomatch z)⟩⟩
/-- no room -/
theorem wf_go : ∀ (k o : Nat) (r : St), k ≤ 8 → o ≤ 2000 → 2000 < o + k → sI r 21 24 = nI o → ∃ r', (∀ g, 2 * k + 1 ≤ g → (T_M_tell_4 fu g).1 r v (nI k - 1) = (2, r') ∧ (WT_M_tell_4 fu g).1 r v (nI k - 1)) ∧ fwR r r' := by
  intro k
  induction k with
  | zero => intro o r h1 h2 h3 h4; omega
  | succ k ih =>
    intro o r h1 h2 h3 h4
    have ek2 : nI (k + 1) - 1 = nI k := nSb k 1
    have lt : cn1 .lt (nI k) = false := by rw [c1_lt, yI_i (by omega)]; exact df (by omega)
    have ne : cn2 .ne (nI o) 2000 = decide (¬ o = 2000) := by rw [c2_ne, yI_i (by omega)]; exact decide_eq_decide.mpr (show (¬ (o : Int) = 2000) ↔ ¬ o = 2000 by omega)
    rw [ek2]
    by_cases e : o = 2000
    · refine ⟨r, fun g hg => ?_, fwR.rf r⟩
      obtain ⟨g, rfl⟩ : ∃ g', g = g' + 1 := ⟨g - 1, by omega⟩
      show b_M_tell_4 fu (T_M_tell_4 fu g) r v (nI k) = _ ∧ v_M_tell_4 fu (T_M_tell_4 fu g) (WT_M_tell_4 fu g) r v (nI k)
      unfold b_M_tell_4 v_M_tell_4
      rw [lt, cond_false, h4, ne, df (fun z => z e : ¬ ¬ o = 2000), cond_false]
      exact ⟨rfl, (fun z => nomatch z), fun _ => ⟨(fun z => nomatch z), fun _ => trivial⟩⟩
    · obtain ⟨r1, hr1⟩ : ∃ r1, r1 = pI (pA r 33 (upd (sA r 33) o (Int64.toInt32 (v >>> (Int32.toInt64 (8 * nI k) &&& 63)) &&& 255))) 21 24 (nI (o + 1)) := ⟨_, rfl⟩
      obtain ⟨r', y1, y2⟩ := ih (o + 1) r1 (by omega) (by omega) (by omega) (by rw [hr1]; rfl)
      refine ⟨r', fun g hg => ?_, (show fwR r r1 by rw [hr1]; exact (fwR_A _ _).tr (fwR_I _ _)).tr y2⟩
      obtain ⟨g, rfl⟩ : ∃ g', g = g' + 2 := ⟨g - 2, by omega⟩
      obtain ⟨z1, z2⟩ := y1 g (by omega)
      show b_M_tell_4 fu (T_M_tell_4 fu (g + 1)) r v (nI k) = _ ∧ v_M_tell_4 fu (T_M_tell_4 fu (g + 1)) (WT_M_tell_4 fu (g + 1)) r v (nI k)
      unfold b_M_tell_4 v_M_tell_4
      rw [lt, cond_false, h4, ne, dt e, cond_true, nN (by omega), show nI o + 1 = nI (o + 1) from nAd o 1, ← hr1]
      rw [show nI k - 1 = nI k + Int32.ofInt (-1) from Int32.sub_eq_add_neg _ _] at z1 z2
      exact ⟨z1, (fun z => nomatch z), fun _ => ⟨fun _ => ⟨vp_n (by omega) (by omega), z2⟩, (fun z => nomatch z)⟩⟩
end SV1
/-- how far the writing has come, on both sides -/
def WO (c r c' r' : St) (st : Int32) : Prop := fwC c c' ∧ fwR r r' ∧ sI c' 2 7 = st ∧ (st = 0 ∨ st = 2 ∨ st = 8) ∧ (st = 0 → R_out c' r')
theorem WO.tr {c r c1 r1 c2 r2 : St} {a b : Int32} (h : WO c r c1 r1 a) (g : WO c1 r1 c2 r2 b) : WO c r c2 r2 b := ⟨h.1.tr g.1, h.2.1.tr g.2.1, g.2.2⟩
theorem WO.rf {c r : St} (h : R_out c r) (h7 : sI c 2 7 = 0) : WO c r c r 0 := ⟨fwC.rf c, fwR.rf r, h7, Or.inl rfl, fun _ => h⟩
section SV2
variable {fu : Nat} {c r : St} {x : Int32}
theorem wb (hfu : 100 ≤ fu) (hO : R_out c r) (h7 : sI c 2 7 = 0) {cnt : Nat} (hx : x = nI cnt) (hc8 : cnt ≤ 8) (v : Int64) : WO c r (f_Fo_writeBytes fu c v x) (f_M_tell fu r v x).2 (f_M_tell fu r v x).1 ∧ w_Fo_writeBytes fu c v x ∧ w_M_tell fu r v x := by
  subst hx
  obtain ⟨o1, o2, o3, o4⟩ := hO
  obtain ⟨o, ho, ho2⟩ : ∃ o : Nat, sI r 21 24 = nI o ∧ o ≤ 2000 := ⟨(sI r 21 24).toNatClampNeg, nIof o2, by rw [tn_eq]; omega⟩
  have io : (sI r 21 24).toInt = (o : Int) := by rw [ho]; exact yI_i (by omega)
  have z : cn1 .eq (sI c 2 7) = true := by rw [h7]; rfl
  have k : cn2 .le (sI c 2 3 + nI cnt) 2000 = decide (o + cnt ≤ 2000) := by rw [o1, ho, nAd, show (2000 : Int32) = nI 2000 from rfl, kle (by omega) (by decide)]
  unfold f_Fo_writeBytes w_Fo_writeBytes
  rw [z, cond_true, k]
  by_cases g : o + cnt ≤ 2000
  · obtain ⟨c', r', y1, y2, y3, y4, y5, y6, y7, y8⟩ := wb_go (fu := fu) (v := v) hc8 g cnt 0 c r (by omega) (o1.trans ho) ho (fun j hj => o4 j (by omega))
    obtain ⟨a1, a2⟩ := y1 fu (by omega)
    obtain ⟨b1, b2⟩ := y2 fu (by omega)
    have eT : f_M_tell fu r v (nI cnt) = (0, r') := b1
    rw [dt g, cond_true, eT]
    have i2 : (sI r' 21 24).toInt = ((o + cnt : Nat) : Int) := by rw [y7]; exact yI_i (by omega)
    have hO' : R_out c' r' := ⟨y6.trans y7.symm, by omega, by omega, fun j hj => y8 j (by omega)⟩
    replace a1 : (T_Fo_writeBytes_16 fu fu).1 c v (nI cnt) 0 = c' := a1
    rw [a1]
    exact ⟨⟨y3, y5, y4.trans h7, Or.inl rfl, fun _ => hO'⟩, ⟨fun _ => ⟨fun _ => a2, (fun z => nomatch z)⟩, (fun z => nomatch z)⟩, b2⟩
  · obtain ⟨r', y1, y2⟩ := wf_go (fu := fu) (v := v) cnt o r hc8 ho2 (by omega) ho
    obtain ⟨b1, b2⟩ := y1 fu (by omega)
    have eT : f_M_tell fu r v (nI cnt) = (2, r') := b1
    rw [df g, cond_false, eT]
    exact ⟨⟨fwC_I c (Or.inr rfl) 2, y2, rfl, Or.inr (Or.inl rfl), fun z => absurd (show (2 : Int32) = 0 from z) (by decide)⟩, ⟨fun _ => ⟨(fun z => nomatch z), fun _ => trivial⟩, (fun z => nomatch z)⟩, b2⟩
/-- once something went wrong nothing more goes out -/
theorem wb_no (h7 : ¬ sI c 2 7 = 0) (v : Int64) (x : Int32) : f_Fo_writeBytes fu c v x = c ∧ w_Fo_writeBytes fu c v x := by
  have z : cn1 .eq (sI c 2 7) = false := by rw [c1_eq]; exact df (fun y => h7 (Int32.toInt_inj.mp (by rw [y]; rfl)))
  unfold f_Fo_writeBytes w_Fo_writeBytes
  rw [z, cond_false]
  exact ⟨rfl, (fun z => nomatch z), fun _ => trivial⟩
/-- both sides, going on or stopped -/
theorem wbs {c1 r1 : St} {st : Int32} (hfu : 100 ≤ fu) (hW : WO c r c1 r1 st) {cnt : Nat} (hx : x = nI cnt) (hc8 : cnt ≤ 8) (v : Int64) : ∃ c2 r2 st2, f_Fo_writeBytes fu c1 v x = c2 ∧ w_Fo_writeBytes fu c1 v x ∧ (st = 0 → f_M_tell fu r1 v x = (st2, r2) ∧ w_M_tell fu r1 v x) ∧ (¬ st = 0 → st2 = st ∧ r2 = r1) ∧ WO c r c2 r2 st2 := by
  by_cases g : st = 0
  · subst g
    obtain ⟨a1, a2, a3⟩ := wb hfu (hW.2.2.2.2 rfl) hW.2.2.1 hx hc8 v
    exact ⟨_, _, _, rfl, a2, fun _ => ⟨rfl, a3⟩, fun z => absurd rfl z, hW.tr a1⟩
  · have h7 : ¬ sI c1 2 7 = 0 := by rw [hW.2.2.1]; exact g
    obtain ⟨a1, a2⟩ := wb_no (fu := fu) h7 v x
    exact ⟨c1, r1, st, a1, a2, fun z => absurd z g, fun _ => ⟨rfl, rfl⟩, hW⟩
end SV2
theorem RR.fw {G : AH} {T : Nat} {φ : Nat → Nat} {n u : Nat} {c r c' r' : St} (h : RR G T φ n u c r) (a : fwC c c') (b : fwR r r') : RR G T φ n u c' r' :=
  h.mv3 (fun k _ => a.1 1 k (by omega)) (a.2.2.1 9 (by decide)) (a.2.2.2.1 10) (a.2.2.2.2.1 11) a.2.2.2.2.2.1 a.2.2.2.2.2.2.1 a.2.2.2.2.2.2.2 (fun k hk => b.1 21 k (by omega)) (fun a _ _ => b.2.2.1 a (by omega)) (fun a _ _ => b.2.2.2.1 a)
