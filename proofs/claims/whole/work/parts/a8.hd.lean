/-! A SCOPE: the part for a fault -/
theorem PX.tr2 {G : AH} {T : Nat} {φ φ1 : Nat → Nat} {n n1 d e t t1 t2 : Nat} {c r c1 r1 c2 : St} {q : Int32 × St} (he : EX φ n φ1 n1) (hc : enC c c1) (hr : enR r r1) (hf : q.1 = 0 ∨ q.1 = 1 → sI c1 12 13 = sI c 12 13 ∧ (∀ a k, 13 ≤ a → a ≤ 18 → k ≤ d → sA c1 a k = sA c a k) ∧ (∀ k, k < 16 * (d + 1) → sT c1 19 k = sT c 19 k ∧ sT c1 20 k = sT c 20 k) ∧ sI r1 21 25 = sI r 21 25 ∧ (∀ k, k < 16 * e → sA r1 34 k = sA r 34 k ∧ sA r1 35 k = sA r 35 k) ∧ (t1 : Int) + 5 * (sI r1 21 11).toInt ≤ t + 5 * (sI r 21 11).toInt) (h : PX G T φ1 n1 d e t1 c1 r1 q c2 t2) : PX G T φ n d e t c r q c2 t2 := by
  obtain ⟨φ', n', u', g1, g2, g3, g4, g5, g6, g7⟩ := h
  refine ⟨φ', n', u', g1, he.tr g2, g3, hc.tr g4, hr.tr g5, g6, fun z => ?_⟩
  obtain ⟨h13, hA, hT, h25, h34, h3⟩ := hf z
  obtain ⟨a1, a2, a3, a4, a5, a6⟩ := g7 z
  exact ⟨a1, a2.trans h13, fun a k x1 x2 hk => (a3 a k x1 x2 hk).trans (hA a k x1 x2 hk), fun k hk => ⟨(a4 k hk).1.trans (hT k hk).1, (a4 k hk).2.trans (hT k hk).2⟩, ⟨a5.1.trans h25, a5.2.1, fun k hk => ⟨(a5.2.2 k hk).1.trans (h34 k hk).1, (a5.2.2 k hk).2.trans (h34 k hk).2⟩⟩, by omega⟩
theorem s177 {rec : G_part} {fu : Nat} {s c r : St} {va v7 st : Int32} (h : SR st c r) (hn : ¬ (st = 0 ∨ st = 1)) : ¬ ((t_M_scope_177 rec fu s va st v7).1 = 0 ∨ (t_M_scope_177 rec fu s va st v7).1 = 1) := by
  have g2 : cn2 .ge st 2 = true := by
    rcases h.four with w | w | w | w
    · exact absurd (Or.inl w) hn
    · exact absurd (Or.inr w) hn
    · rw [w]; rfl
    · rw [w]; rfl
  unfold t_M_scope_177 t_M_scope_209
  rw [g2, cond_true]
  exact hn
section HD
variable {G : AH} {T : Nat} {φ : Nat → Nat} {n u fu deep dd d e a b k t m : Nat} {c r : St} {va vb : Int32}
/-- a part in frame d + 1 of a scope, then what follows it -/
theorem sp_ta (hS : SP G T fu m) {v6 : Int32} {x5 l5 xa l6 : Nat} (hH : HYP G T φ n u deep dd (d + 1) (e + 1) x5 (x5 + l5) t v6 vb c r) (hP5 : PV (sA r 30) k dd x5 (x5 + l5)) (i5 : sA c 14 (d + 1) = va) (hro : sA c 13 (d + 1) = 4) (ht : (t : Int) + 5 * (sI r 21 11).toInt ≤ 100098)
    (hx : (va + 7 + sA r 30 (a + 4) + sA r 30 (a + 5)).toInt = (xa : Int)) (L6 : (sA r 30 (a + 6)).toInt = (l6 : Int)) (hxl : xa + l6 ≤ 3200) (hPV : PV (sA r 30) k dd xa (xa + l6)) (hed : e ≤ d) (hm : 22 * (12 - deep) + 2 * dd + 2 ≤ m) (hva : va.toInt = (a : Int)) (ha : a + 6 < 3200) (h7 : vb = va + 7 + sA r 30 (a + 4) + sA r 30 (a + 5)) :
    w_M_scope_172 (F_part fu m) (W_part fu m) fu r va v6 vb ∧ ∃ c' t', PX G T φ n d e (t + 2) c r (t_M_scope_172 (F_part fu m) fu r va v6 vb) c' t' ∧ ∀ y, RES fu c' t' y → RES fu c t y := by
  obtain ⟨w1, c3, t3, P, hy3⟩ := hS φ n u deep dd (d + 1) (e + 1) x5 (x5 + l5) k t v6 vb c r hH hP5 hm
  obtain ⟨h, hz, hV, ⟨i1, i2, i3, i4⟩, ⟨j1, j2, j3, j4, j5⟩, ⟨d1, d2, d3, d4, d5⟩, -⟩ := hH
  obtain ⟨Q, hQ⟩ : ∃ Q, Q = (F_part fu m).1 r v6 vb := ⟨_, rfl⟩
  rw [← hQ] at P
  obtain ⟨φ3, n3, u3, g1, g2, g3, g4, g5, g6, g7, g8⟩ := P
  have A3 : sA Q.2 30 = sA r 30 := g5.2.2.1 30 (by decide) (by decide) (by decide) (by decide) (by decide)
  obtain ⟨w2, c', t', W, hy⟩ := ta_go (Q := Q) (fu := fu) (t := t3) (c := c3) (deep := deep) (d := d) (e := e) (va := va) (a := a) (k := k) (dd := dd) (xa := xa) (l6 := l6) hS g1 g3 (hV.mv g4 g5) (fun st => by
    obtain ⟨a1, a2, a3, a4, a5⟩ := g7 st
    exact ⟨a1.1.trans i1, a1.2.1.trans i2, a2.1.trans i3, a2.2.1.trans i4, a4.2.1.trans i5, Or.inr (a4.1.trans hro), by omega⟩) (fun z => by
    obtain ⟨a1, a2, a3, a4, a5⟩ := g7 (Or.inl z)
    exact (g8 z).trans (j4.symm.trans (a4.2.2 16 (Or.inl rfl)).symm)) (fun z => by
    obtain ⟨a1, a2, a3, a4, a5⟩ := g7 (Or.inr z)
    exact Or.inl (a4.1.trans hro)) g6 (by rw [A3]; exact hx) (by rw [A3]; exact L6) hxl (by rw [A3]; exact hPV) d1 d2 d3 d4 hed hm hva ha
  rw [A3, ← h7] at w2 W
  have eT : t_M_scope_172 (F_part fu m) fu r va v6 vb = t_M_scope_177 (F_part fu m) fu Q.2 va Q.1 vb := by
    unfold t_M_scope_172 t_M_scope_176
    rw [← hQ]
  refine ⟨?_, c', t', ?_, fun y hh => hy3 y (hy y hh)⟩
  · unfold w_M_scope_172 w_M_scope_176
    rw [← hQ]
    exact ⟨w1, w2⟩
  · rw [eT]
    refine PX.tr2 g2 g4 g5 (fun z => ?_) W
    have st : Q.1 = 0 ∨ Q.1 = 1 := Decidable.byContradiction fun y => s177 g3 y z
    obtain ⟨a1, a2, a3, a4, a5⟩ := g7 st
    exact ⟨a1.2.1, fun a k x1 x2 hk => a1.2.2.1 a k x1 x2 (by omega), fun k hk => a1.2.2.2 k hk, a2.1, fun k hk => a2.2.2 k (by omega), by omega⟩
/-- the part for a fault is begun: where to go on -/
theorem bh {c r : St} (hd : d ≤ 131) (hc : ∀ k, sA r 30 k = sA c 6 k &&& 255) (hva : va.toInt = (a : Int)) (ha : a + 6 < 3200) : w_En_beginHandler_20 fu c (nI d) va ∧ ∃ c', t_En_beginHandler_20 fu c (nI d) va = c' ∧ (∀ {φ : Nat → Nat} {n u : Nat} {r : St}, RR G T φ n u c r → RR G T φ n u c' r) ∧ enC c c' ∧ (∀ k, sI c' 12 k = sI c 12 k) ∧ (∀ k, sI c' 1 k = sI c 1 k) ∧ (sA c' 13 d = 4 ∧ sA c' 14 d = sA c 14 d ∧ sA c' 15 d = va + 7 + sA r 30 (a + 4) ∧ sA c' 16 d = va + 7 + sA r 30 (a + 4) + sA r 30 (a + 5)) ∧ (∀ a k, k ≠ d → sA c' a k = sA c a k) ∧ (∀ a, sT c' a = sT c a) := by
  have ed : (nI d).toNatClampNeg = d := nN (by omega)
  have vd : vp_in (nI d) 132 := vp_of (by rw [yI_i (by omega)]; omega) (by rw [yI_i (by omega)]; omega)
  have x4 : (va + 4).toInt = ((a + 4 : Nat) : Int) := (i_addy (y := 4) hva (show ((4 : Int32).toInt) = 4 from rfl) (by omega) (by omega)).trans (by omega)
  have x5 : (va + 5).toInt = ((a + 5 : Nat) : Int) := (i_addy (y := 5) hva (show ((5 : Int32).toInt) = 5 from rfl) (by omega) (by omega)).trans (by omega)
  obtain ⟨c1, hc1⟩ : ∃ c1, c1 = pA c 13 (upd (sA c 13) d 4) := ⟨_, rfl⟩
  have h1 : ∀ k, sA r 30 k = sA c1 6 k &&& 255 := fun k => by rw [hc1]; exact hc k
  obtain ⟨y4, z4⟩ := be_C h1 x4 (by omega)
  obtain ⟨c2, hc2⟩ : ∃ c2, c2 = pA c1 15 (upd (sA c 15) d (va + 7 + sA r 30 (a + 4))) := ⟨_, rfl⟩
  have h2 : ∀ k, sA r 30 k = sA c2 6 k &&& 255 := fun k => by rw [hc2]; exact h1 k
  obtain ⟨y5, z5⟩ := be_C h2 x5 (by omega)
  have s15 : sA c2 15 d = va + 7 + sA r 30 (a + 4) := by rw [hc2]; exact upS _ _ _
  have s16 : sA c2 16 = sA c 16 := by rw [hc2, hc1]; rfl
  constructor
  · unfold w_En_beginHandler_20
    rw [ed, ← hc1, y4, ← hc2]
    refine ⟨vd, z4, vd, ?_⟩
    unfold w_En_beginHandler_38
    exact ⟨vd, z5, vd, trivial⟩
  · refine ⟨pA c2 16 (upd (sA c 16) d (va + 7 + sA r 30 (a + 4) + sA r 30 (a + 5))), ?_, fun hh => ?_, ?_, fun k => ?_, fun k => ?_, ⟨?_, ?_, ?_, ?_⟩, fun a' k hk => ?_, fun a' => ?_⟩
    · unfold t_En_beginHandler_20
      rw [ed, ← hc1, y4, ← hc2]
      unfold t_En_beginHandler_38
      rw [ed, s15, y5, s16]
    · rw [hc2, hc1]
      exact ((hh.cA (a := 13) (by decide) _).cA (a := 15) (by decide) _).cA (a := 16) (by decide) _
    · rw [hc2, hc1]
      exact ((enC_A _ (by decide) _).tr (enC_A _ (by decide) _)).tr (enC_A _ (by decide) _)
    · rw [hc2, hc1]; rfl
    · rw [hc2, hc1]; rfl
    · show sA c2 13 d = 4
      rw [hc2, hc1]
      exact upS _ _ _
    · show sA c2 14 d = _
      rw [hc2, hc1]
      rfl
    · exact s15
    · exact upS _ _ _
    · rw [sA_pA]
      by_cases e3 : a' = 16
      · rw [if_pos e3, upN _ _ hk, e3]
      · rw [if_neg e3, hc2, sA_pA]
        by_cases e4 : a' = 15
        · rw [if_pos e4, upN _ _ hk, e4]
        · rw [if_neg e4, hc1, sA_pA]
          by_cases e5 : a' = 13
          · rw [if_pos e5, upN _ _ hk, e5]
          · rw [if_neg e5]
    · rw [hc2, hc1]; rfl
end HD
