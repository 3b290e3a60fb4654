/-! FRAMES PUSHED AND POPPED; A PATCH CALLED -/
section PSH
variable {G : AH} {T : Nat} {φ : Nat → Nat} {n u fu d : Nat} {c r : St}
theorem psh (hd : d + 1 ≤ 131) (h : sI c 12 12 = nI (d + 1)) (x o v l : Int32) : w_En_push c x o v l ∧ ∃ c', f_En_push c x o v l = c' ∧ (∀ {φ : Nat → Nat} {n u : Nat} {r : St}, RR G T φ n u c r → RR G T φ n u c' r) ∧ enC c c' ∧ sI c' 12 12 = nI (d + 2) ∧ sI c' 12 13 = sI c 12 13 ∧ (∀ k, sI c' 1 k = sI c 1 k) ∧ (sA c' 13 (d + 1) = x ∧ sA c' 14 (d + 1) = o ∧ sA c' 15 (d + 1) = v ∧ sA c' 16 (d + 1) = v + l) ∧ (∀ a k, k ≤ d → sA c' a k = sA c a k) ∧ (∀ a, sT c' a = sT c a) ∧ sA c' 9 = sA c 9 := by
  have ed : (nI (d + 1)).toNatClampNeg = d + 1 := nN (by omega)
  have vd : vp_in (nI (d + 1)) 132 := vp_of (by rw [yI_i (by omega)]; omega) (by rw [yI_i (by omega)]; omega)
  have g : cn2 .ge (nI (d + 1)) 132 = false := by rw [c2_ge, yI_i (by omega), show ((132 : Int32).toInt) = 132 from rfl]; exact df (by omega)
  have en : nI (d + 1) + 1 = nI (d + 2) := (Int32.ofNat_add (d + 1) 1).symm
  constructor
  · unfold w_En_push
    rw [h, g]
    refine ⟨(fun z => nomatch z), fun _ => ⟨vd, vd, vd, ?_⟩⟩
    unfold w_En_push_22
    show vp_in (sI c 12 12) 132 ∧ True
    rw [h]
    exact ⟨vd, trivial⟩
  · refine ⟨pI (pA (pA (pA (pA c 13 (upd (sA c 13) (d + 1) x)) 14 (upd (sA c 14) (d + 1) o)) 15 (upd (sA c 15) (d + 1) v)) 16 (upd (sA c 16) (d + 1) (v + l))) 12 12 (nI (d + 2)), ?_, fun hh => ?_, ?_, rfl, rfl, fun _ => rfl, ⟨upS _ _ _, upS _ _ _, upS _ _ _, upS _ _ _⟩, fun a k hk => ?_, fun _ => rfl, rfl⟩
    · unfold f_En_push
      rw [h, g, cond_false, ed]
      unfold t_En_push_22
      show pI (pA (pA (pA (pA c 13 (upd (sA c 13) (d + 1) x)) 14 (upd (sA c 14) (d + 1) o)) 15 (upd (sA c 15) (d + 1) v)) 16 (upd (sA c 16) (sI c 12 12).toNatClampNeg (v + l))) 12 12 (sI c 12 12 + 1) = _
      rw [h, ed, en]
    · exact ((((hh.cA (a := 13) (by decide) _).cA (a := 14) (by decide) _).cA (a := 15) (by decide) _).cA (a := 16) (by decide) _).cI (a := 12) (k := 12) _ (Or.inl (by decide))
    · exact ((((enC_A _ (by decide) _).tr (enC_A _ (by decide) _)).tr (enC_A _ (by decide) _)).tr (enC_A _ (by decide) _)).tr (enC_I _ _ _)
    · rw [sA_pI, sA_pA]
      by_cases e1 : a = 16
      · rw [if_pos e1, upN _ _ (by omega), e1]
      · rw [if_neg e1, sA_pA]
        by_cases e2 : a = 15
        · rw [if_pos e2, upN _ _ (by omega), e2]
        · rw [if_neg e2, sA_pA]
          by_cases e3 : a = 14
          · rw [if_pos e3, upN _ _ (by omega), e3]
          · rw [if_neg e3, sA_pA]
            by_cases e4 : a = 13
            · rw [if_pos e4, upN _ _ (by omega), e4]
            · rw [if_neg e4]
/-- popped -/
theorem pop (hd : d ≤ 131) : w_En_pop c (nI d) ∧ ∃ c', f_En_pop c (nI d) = c' ∧ (∀ {φ : Nat → Nat} {n u : Nat} {r : St}, RR G T φ n u c r → RR G T φ n u c' r) ∧ enC c c' ∧ sI c' 12 12 = nI d ∧ sI c' 12 13 = (if sA c 13 d = 0 then sI c 12 13 - 1 else sI c 12 13) ∧ (∀ k, sI c' 1 k = sI c 1 k) ∧ (∀ a, sA c' a = sA c a) ∧ (∀ a, sT c' a = sT c a) := by
  have ed : (nI d).toNatClampNeg = d := nN (by omega)
  have vd : vp_in (nI d) 132 := vp_of (by rw [yI_i (by omega)]; omega) (by rw [yI_i (by omega)]; omega)
  refine ⟨⟨vd, fun _ => trivial, fun _ => trivial⟩, ?_⟩
  unfold f_En_pop t_En_pop_11
  rw [ed, c1_ne]
  by_cases e : sA c 13 d = 0
  · rw [cd_f (fun z => z (by rw [e]; rfl)), if_pos e]
    exact ⟨_, rfl, fun hh => (hh.cI (a := 12) (k := 13) _ (Or.inl (by decide))).cI (a := 12) (k := 12) _ (Or.inl (by decide)), (enC_I _ _ _).tr (enC_I _ _ _), rfl, rfl, fun _ => rfl, fun _ => rfl, fun _ => rfl⟩
  · have ne0 : ¬ (sA c 13 d).toInt = 0 := fun z => e (Int32.toInt_inj.mp (by rw [z]; rfl))
    rw [cd_t ne0, if_neg e]
    exact ⟨_, rfl, fun hh => hh.cI (a := 12) (k := 12) _ (Or.inl (by decide)), enC_I _ _ _, rfl, rfl, fun _ => rfl, fun _ => rfl, fun _ => rfl⟩
theorem SR.mv {st : Int32} {c c' r r' : St} (h : SR st c r) (hc : ∀ k, sI c' 1 k = sI c 1 k) (h9 : sI r' 21 9 = sI r 21 9) (h10 : sI r' 21 10 = sI r 21 10) : SR st c' r' := by
  unfold SR
  rw [hc 3, hc 4, hc 5, h9, h10]
  exact h
theorem SR.s0 {c r : St} (h : SR 0 c r) : SZ c := by
  obtain ⟨w1, w2⟩ := h
  rcases w2 with w | w | w | w
  · exact ⟨w1, w.2⟩
  · exact absurd w.1 (by decide)
  · exact absurd w.1 (by decide)
  · exact absurd w.1 (by decide)
theorem SR.four {st : Int32} {c r : St} (h : SR st c r) : st = 0 ∨ st = 1 ∨ st = 2 ∨ st = 3 := by
  rcases h.2 with w | w | w | w
  · exact Or.inl w.1
  · exact Or.inr (Or.inl w.1)
  · exact Or.inr (Or.inr (Or.inl w.1))
  · exact Or.inr (Or.inr (Or.inr w.1))
end PSH
/-- a frame that is left as it came: roles 0 and 1 -/
theorem lv_01 {G : AH} {T fu d t : Nat} {c : St} (hd : d ≤ 131) (h : sI c 12 12 = nI (d + 1)) (hr : sA c 13 d = 0 ∨ sA c 13 d = 1) (ht : t ≤ 999990) (hs : (sI c 1 3 = 0 ∧ sA c 15 d = sA c 16 d) ∨ sI c 1 3 = 1) {y : Int32 × St} (hy : RES fu (f_En_pop c (nI d)) (t + 1) y) : RES fu c t y := by
  have ed : (nI d).toNatClampNeg = d := nN (by omega)
  have vd : vp_in (nI d) 132 := vp_of (by rw [yI_i (by omega)]; omega) (by rw [yI_i (by omega)]; omega)
  have ne : ∀ k : Int32, k ≠ 0 → k ≠ 1 → ¬ sA c 13 d = k := fun k h0 h1 z => by
    rcases hr with w | w
    · exact h0 (z.symm.trans w)
    · exact h1 (z.symm.trans w)
  have wp := (pop (G := G) (T := T) (c := c) hd).1
  rcases hs with ⟨hs, hn⟩ | hs
  · refine en_l hd h hs ht (by rw [hn]; exact Int.le_refl _) ?_ ?_
    · unfold w_En_leave
      rw [ed]
      exact ⟨vd, fun z => absurd z (ne 2 (by decide) (by decide)), fun _ => ⟨fun z => absurd z (ne 3 (by decide) (by decide)), fun _ => ⟨fun z => absurd z (ne 4 (by decide) (by decide)), fun _ => ⟨fun z => absurd z (ne 5 (by decide) (by decide)), fun _ => ⟨wp, trivial⟩⟩⟩⟩⟩
    · unfold f_En_leave
      rw [ed, if_neg (ne 2 (by decide) (by decide)), if_neg (ne 3 (by decide) (by decide)), if_neg (ne 4 (by decide) (by decide)), if_neg (ne 5 (by decide) (by decide))]
      exact hy
  · have e3 : cn2 .eq (sA c 13 d) 3 = false := by rw [c2_eq]; exact df (fun z => ne 3 (by decide) (by decide) (Int32.toInt_inj.mp z))
    have e4 : cn2 .eq (sA c 13 d) 4 = false := by rw [c2_eq]; exact df (fun z => ne 4 (by decide) (by decide) (Int32.toInt_inj.mp z))
    refine en_f hd h hs ht ?_ ?_
    · unfold w_En_leaveByFault
      rw [ed, e3, e4]
      exact ⟨vd, (fun z => nomatch z), fun _ => ⟨vd, (fun z => nomatch z), fun _ => ⟨wp, trivial⟩⟩⟩
    · unfold f_En_leaveByFault
      rw [ed, e3, cond_false, e4, cond_false]
      exact hy
