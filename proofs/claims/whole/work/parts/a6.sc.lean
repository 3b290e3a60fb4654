/-! A SCOPE: its last part -/
def PX (G : AH) (T : Nat) (φ : Nat → Nat) (n d e t : Nat) (c r : St) (q : Int32 × St) (c' : St) (t' : Nat) : Prop := ∃ φ' n' u', RR G T φ' n' u' c' q.2 ∧ EX φ n φ' n' ∧ SR q.1 c' q.2 ∧ enC c c' ∧ enR r q.2 ∧ t' ≤ 150000 ∧ (q.1 = 0 ∨ q.1 = 1 → sI c' 12 12 = nI (d + 1) ∧ sI c' 12 13 = sI c 12 13 ∧ (∀ a k, 13 ≤ a → a ≤ 18 → k ≤ d → sA c' a k = sA c a k) ∧ (∀ k, k < 16 * (d + 1) → sT c' 19 k = sT c 19 k ∧ sT c' 20 k = sT c 20 k) ∧ (sI q.2 21 25 = sI r 21 25 ∧ sI q.2 21 26 = nI e ∧ ∀ k, k < 16 * e → sA q.2 34 k = sA r 34 k ∧ sA q.2 35 k = sA r 35 k) ∧ (t' : Int) + 5 * (sI q.2 21 11).toInt ≤ t + 5 * (sI r 21 11).toInt)
theorem PX.tr {G : AH} {T : Nat} {φ φ1 : Nat → Nat} {n n1 d e t t1 t2 : Nat} {c r c1 r1 c2 : St} {q : Int32 × St} (he : EX φ n φ1 n1) (hc : enC c c1) (hr : enR r r1) (h13 : sI c1 12 13 = sI c 12 13) (hA : ∀ a k, 13 ≤ a → a ≤ 18 → k ≤ d → sA c1 a k = sA c a k) (hT : ∀ k, k < 16 * (d + 1) → sT c1 19 k = sT c 19 k ∧ sT c1 20 k = sT c 20 k) (h25 : sI r1 21 25 = sI r 21 25) (h34 : ∀ k, k < 16 * e → sA r1 34 k = sA r 34 k ∧ sA r1 35 k = sA r 35 k) (h3 : (t1 : Int) + 5 * (sI r1 21 11).toInt ≤ t + 5 * (sI r 21 11).toInt) (h : PX G T φ1 n1 d e t1 c1 r1 q c2 t2) : PX G T φ n d e t c r q c2 t2 := by
  obtain ⟨φ', n', u', g1, g2, g3, g4, g5, g6, g7⟩ := h
  refine ⟨φ', n', u', g1, he.tr g2, g3, hc.tr g4, hr.tr g5, g6, fun z => ?_⟩
  obtain ⟨a1, a2, a3, a4, a5, a6⟩ := g7 z
  exact ⟨a1, a2.trans h13, fun a k x1 x2 hk => (a3 a k x1 x2 hk).trans (hA a k x1 x2 hk), fun k hk => ⟨(a4 k hk).1.trans (hT k hk).1, (a4 k hk).2.trans (hT k hk).2⟩, ⟨a5.1.trans h25, a5.2.1, fun k hk => ⟨(a5.2.2 k hk).1.trans (h34 k hk).1, (a5.2.2 k hk).2.trans (h34 k hk).2⟩⟩, by omega⟩
section SC
variable {G : AH} {T : Nat} {φ : Nat → Nat} {n u fu deep dd d e a b k t m : Nat} {c r : St} {va vb : Int32}
/-- the last part is begun -/
theorem ba (hd : d ≤ 131) (hc : ∀ k, sA r 30 k = sA c 6 k &&& 255) (hop : sA c 14 d = va) (hva : va.toInt = (a : Int)) (ha : a + 6 < 3200) (hk hn : Int32) : w_En_beginAlways c (nI d) hk hn ∧ ∃ c', f_En_beginAlways c (nI d) hk hn = c' ∧ (∀ {φ : Nat → Nat} {n u : Nat} {r : St}, RR G T φ n u c r → RR G T φ n u c' r) ∧ enC c c' ∧ (∀ k, sI c' 12 k = sI c 12 k) ∧ (∀ k, sI c' 1 k = sI c 1 k) ∧ (sA c' 13 d = 5 ∧ sA c' 14 d = va ∧ sA c' 15 d = va + 7 + sA r 30 (a + 4) + sA r 30 (a + 5) ∧ sA c' 16 d = va + 7 + sA r 30 (a + 4) + sA r 30 (a + 5) + sA r 30 (a + 6) ∧ sA c' 17 d = hk ∧ sA c' 18 d = hn) ∧ (∀ a k, k ≠ d → sA c' a k = sA c a k) ∧ (∀ a, sT c' a = sT c a) := by
  have ed : (nI d).toNatClampNeg = d := nN (by omega)
  have vd : vp_in (nI d) 132 := vp_of (by rw [yI_i (by omega)]; omega) (by rw [yI_i (by omega)]; omega)
  have x4 : (va + 4).toInt = ((a + 4 : Nat) : Int) := (i_addy (y := 4) hva (show ((4 : Int32).toInt) = 4 from rfl) (by omega) (by omega)).trans (by omega)
  have x5 : (va + 5).toInt = ((a + 5 : Nat) : Int) := (i_addy (y := 5) hva (show ((5 : Int32).toInt) = 5 from rfl) (by omega) (by omega)).trans (by omega)
  have x6 : (va + 6).toInt = ((a + 6 : Nat) : Int) := (i_addy (y := 6) hva (show ((6 : Int32).toInt) = 6 from rfl) (by omega) (by omega)).trans (by omega)
  obtain ⟨c1, hc1⟩ : ∃ c1, c1 = pA c 13 (upd (sA c 13) d 5) := ⟨_, rfl⟩
  have h1 : ∀ k, sA r 30 k = sA c1 6 k &&& 255 := fun k => by rw [hc1]; exact hc k
  obtain ⟨y4, z4⟩ := be_C h1 x4 (by omega)
  obtain ⟨y5, z5⟩ := be_C h1 x5 (by omega)
  obtain ⟨c2, hc2⟩ : ∃ c2, c2 = pA c1 15 (upd (sA c 15) d (va + 7 + sA r 30 (a + 4) + sA r 30 (a + 5))) := ⟨_, rfl⟩
  have h2 : ∀ k, sA r 30 k = sA c2 6 k &&& 255 := fun k => by rw [hc2]; exact h1 k
  obtain ⟨y6, z6⟩ := be_C h2 x6 ha
  have s15 : sA c2 15 d = va + 7 + sA r 30 (a + 4) + sA r 30 (a + 5) := by rw [hc2]; exact upS _ _ _
  have s16 : sA c2 16 = sA c 16 := by rw [hc2, hc1]; rfl
  have s17 : sA c2 17 = sA c 17 := by rw [hc2, hc1]; rfl
  have s18 : sA c2 18 = sA c 18 := by rw [hc2, hc1]; rfl
  constructor
  · unfold w_En_beginAlways
    rw [ed, hop, ← hc1, y4, y5, ← hc2]
    refine ⟨vd, vd, z4, z5, vd, ?_⟩
    unfold w_En_beginAlways_29
    exact ⟨vd, z6, vd, vd, vd, trivial⟩
  · refine ⟨pA (pA (pA c2 16 (upd (sA c 16) d (va + 7 + sA r 30 (a + 4) + sA r 30 (a + 5) + sA r 30 (a + 6)))) 17 (upd (sA c 17) d hk)) 18 (upd (sA c 18) d hn), ?_, fun hh => ?_, ?_, fun k => ?_, fun k => ?_, ⟨?_, ?_, ?_, ?_, ?_, ?_⟩, fun a' k hk => ?_, fun a' => ?_⟩
    · unfold f_En_beginAlways
      rw [ed, hop, ← hc1, y4, y5, ← hc2]
      unfold t_En_beginAlways_29
      rw [ed, s15, y6, s16, s17]
      unfold t_En_beginAlways_48
      rw [ed]
      show pA _ 18 (upd (sA c2 18) d hn) = _
      rw [s18]
    · rw [hc2, hc1]
      exact ((((hh.cA (a := 13) (by decide) _).cA (a := 15) (by decide) _).cA (a := 16) (by decide) _).cA (a := 17) (by decide) _).cA (a := 18) (by decide) _
    · rw [hc2, hc1]
      exact ((((enC_A _ (by decide) _).tr (enC_A _ (by decide) _)).tr (enC_A _ (by decide) _)).tr (enC_A _ (by decide) _)).tr (enC_A _ (by decide) _)
    · rw [hc2, hc1]; rfl
    · rw [hc2, hc1]; rfl
    · show sA c2 13 d = 5
      rw [hc2, hc1]
      exact upS _ _ _
    · show sA c2 14 d = va
      rw [hc2, hc1]
      exact hop
    · exact s15
    · exact upS _ _ _
    · exact upS _ _ _
    · exact upS _ _ _
    · rw [sA_pA]
      by_cases e1 : a' = 18
      · rw [if_pos e1, upN _ _ hk, e1]
      · rw [if_neg e1, sA_pA]
        by_cases e2 : a' = 17
        · rw [if_pos e2, upN _ _ hk, e2]
        · rw [if_neg e2, sA_pA]
          by_cases e3 : a' = 16
          · rw [if_pos e3, upN _ _ hk, e3]
          · rw [if_neg e3, hc2, sA_pA]
            by_cases e4 : a' = 15
            · rw [if_pos e4, upN _ _ hk, e4]
            · rw [if_neg e4, hc1, sA_pA]
              by_cases e5 : a' = 13
              · rw [if_pos e5, upN _ _ hk, e5]
              · rw [if_neg e5]
    · rw [hc2, hc1]; rfl
/-- the last part, and what was held -/
theorem al_go (hS : SP G T fu m) {st v7 : Int32} {xa l6 : Nat} (h : RR G T φ n u c r) (hz : SZ c) (hV : CDV c r) (i1 : sI c 12 12 = nI (d + 2)) (i2 : sI c 12 13 = nI deep) (i3 : sI r 21 25 = nI deep) (i4 : sI r 21 26 = nI (e + 1)) (hx : v7.toInt = (xa : Int)) (L6 : (sA r 30 (a + 6)).toInt = (l6 : Int)) (hxl : xa + l6 ≤ 3200) (hPV : PV (sA r 30) k dd xa (xa + l6)) (j3 : sA c 15 (d + 1) = v7) (j4 : sA c 16 (d + 1) = v7 + sA r 30 (a + 6)) (hro : sA c 13 (d + 1) = 5) (held : (st = 0 ∧ sA c 17 (d + 1) = 0) ∨ (st = 1 ∧ sA c 17 (d + 1) = sI r 21 9 ∧ sA c 18 (d + 1) = sI r 21 10 ∧ 1 ≤ (sI r 21 9).toInt ∧ (sI r 21 9).toInt ≤ 8)) (d1 : 1 ≤ deep) (d2 : deep ≤ 12) (d3 : dd ≤ 10) (d4 : d + 1 + dd + 1 ≤ 11 * deep) (d5 : e ≤ d) (ht : (t : Int) + 5 * (sI r 21 11).toInt ≤ 100099) (hm : 22 * (12 - deep) + 2 * dd + 2 ≤ m) (hva : va.toInt = (a : Int)) (ha : a + 6 < 3200) :
    w_M_scope_177 (F_part fu m) (W_part fu m) fu r va st v7 ∧ ∃ c' t', PX G T φ n d e (t + 1) c r (t_M_scope_177 (F_part fu m) fu r va st v7) c' t' ∧ ∀ y, RES fu c' t' y → RES fu c t y := by
  have f0 := h.2.2.1.2
  have j2 : (v7 + sA r 30 (a + 6)).toInt = ((xa + l6 : Nat) : Int) := (i_addy hx L6 (by omega) (by omega)).trans (by omega)
  obtain ⟨w1, c3, t3, P, hy3⟩ := hS φ n u deep dd (d + 1) (e + 1) xa (xa + l6) k t v7 (v7 + sA r 30 (a + 6)) c r ⟨h, hz, hV, ⟨i1, i2, i3, i4⟩, ⟨hx, j2, j3, j4, hxl⟩, ⟨d1, d2, d3, d4, by omega⟩, by omega⟩ hPV hm
  obtain ⟨Q, hQ⟩ : ∃ Q, Q = (F_part fu m).1 r v7 (v7 + sA r 30 (a + 6)) := ⟨_, rfl⟩
  rw [← hQ] at P
  obtain ⟨φ3, n3, u3, g1, g2, g3, g4, g5, g6, g7, g8⟩ := P
  have fq := g1.2.2.1.2
  have x6 : (va + 6).toInt = ((a + 6 : Nat) : Int) := (i_addy (y := 6) hva (show ((6 : Int32).toInt) = 6 from rfl) (by omega) (by omega)).trans (by omega)
  have n6 : (va + 6).toNatClampNeg = a + 6 := by rw [tn_eq, x6]; omega
  have v6 : vp_in (va + 6) 3200 := vp_of (by omega) (by omega)
  have s2 : cn2 .ge st 2 = false := by
    rcases held with z | z
    · rw [z.1]; rfl
    · rw [z.1]; rfl
  have eR : t_M_scope_177 (F_part fu m) fu r va st v7 = t_M_scope_197 (F_part fu m) fu Q.2 st (sI r 21 9) (sI r 21 10) Q.1 := by
    unfold t_M_scope_177
    rw [s2, cond_false, n6, ← hQ]
  refine ⟨?_, ?_⟩
  · unfold w_M_scope_177
    rw [s2, n6, ← hQ]
    exact ⟨(fun z => nomatch z), fun _ => ⟨v6, w1, fun _ => trivial, fun _ => trivial⟩⟩
  rw [eR]
  have ed : (nI (d + 1)).toNatClampNeg = d + 1 := nN (by omega)
  have vd : vp_in (nI (d + 1)) 132 := vp_of (by rw [yI_i (by omega)]; omega) (by rw [yI_i (by omega)]; omega)
  have s13 : sI c3 1 3 = Q.1 := g3.1
  have pI26 : ∀ s : St, enR s (pI s 21 26 (sI s 21 26 - 1)) := fun s => enR_I _ (Or.inr rfl) _
  by_cases st0 : Q.1 = 0
  · obtain ⟨a1, a2, a3, a4, a5⟩ := g7 (Or.inl st0)
    have rl : sA c3 13 (d + 1) = 5 := a4.1.trans hro
    have h17 : sA c3 17 (d + 1) = sA c 17 (d + 1) := a4.2.2 17 (Or.inr (Or.inl rfl))
    have h18 : sA c3 18 (d + 1) = sA c 18 (d + 1) := a4.2.2 18 (Or.inr (Or.inr rfl))
    have b12 : sI c3 12 12 = nI (d + 1 + 1) := a1.1.trans i1
    have hz3 : SZ c3 := SR.s0 (st0 ▸ g3)
    have nx3 : sA c3 15 (d + 1) = v7 + sA r 30 (a + 6) := g8 st0
    have en3 : sA c3 16 (d + 1) = v7 + sA r 30 (a + 6) := (a4.2.2 16 (Or.inl rfl)).trans j4
    obtain ⟨pw, c4, p1, p2, p3, p4, p5, p6, p7, p8⟩ := pop (G := G) (T := T) (c := c3) (d := d + 1) (by omega)
    rw [if_neg (by rw [rl]; decide)] at p5
    obtain ⟨rF, hrF⟩ : ∃ rF, rF = pI (pI (pI Q.2 21 9 (sI r 21 9)) 21 10 (sI r 21 10)) 21 26 (sI Q.2 21 26 - 1) := ⟨_, rfl⟩
    have eT : t_M_scope_197 (F_part fu m) fu Q.2 st (sI r 21 9) (sI r 21 10) Q.1 = (st, rF) := by
      unfold t_M_scope_197 t_M_scope_209
      rw [st0, show cn1 .eq (0 : Int32) = true from rfl, cond_true, hrF]
      rfl
    rw [eT]
    have IF : ∀ k, k ≠ 9 → k ≠ 10 → k ≠ 26 → sI rF 21 k = sI Q.2 21 k := fun k k1 k2 k3 => by rw [hrF, sI_pI, if_pos rfl, if_neg k3, sI_pI, if_pos rfl, if_neg k2, sI_pI, if_pos rfl, if_neg k1]
    have AF : ∀ k, sA rF k = sA Q.2 k := fun k => by rw [hrF]; rfl
    have F9 : sI rF 21 9 = sI r 21 9 := by rw [hrF]; rfl
    have F10 : sI rF 21 10 = sI r 21 10 := by rw [hrF]; rfl
    have F26 : sI rF 21 26 = nI e := by
      rw [hrF]
      show sI Q.2 21 26 - 1 = _
      rw [a2.2.1, i4]
      exact nI_p e
    have erF : enR Q.2 rF := by
      rw [hrF]
      exact ((opR_I _ (Or.inl (by decide)) _).en.tr (opR_I _ (Or.inl (by decide)) _).en).tr (enR_I _ (Or.inr rfl) _)
    have hR4 : ∀ {s : St}, RR G T φ3 n3 u3 s Q.2 → RR G T φ3 n3 u3 s rF := fun hh => by
      rw [hrF]
      exact ((hh.rI (k := 9) _ (Or.inl rfl)).rI (k := 10) _ (Or.inr (Or.inl rfl))).rI (k := 26) _ (Or.inr (Or.inr (by decide)))
    have lo : ∀ a k, 13 ≤ a → a ≤ 18 → k ≤ d → sA c4 a k = sA c a k := fun a k x1 x2 hk => by rw [p7, a1.2.2.1 a k x1 x2 (by omega)]
    have tl : ∀ k, k < 16 * (d + 1) → sT c4 19 k = sT c 19 k ∧ sT c4 20 k = sT c 20 k := fun k hk => by
      rw [p8, p8]
      exact a1.2.2.2 k hk
    have rr : sI rF 21 25 = sI r 21 25 ∧ sI rF 21 26 = nI e ∧ ∀ k, k < 16 * e → sA rF 34 k = sA r 34 k ∧ sA rF 35 k = sA r 35 k := ⟨(IF 25 (by decide) (by decide) (by decide)).trans a2.1, F26, fun k hk => by
      rw [AF, AF]
      exact a2.2.2 k (by omega)⟩
    have fF : (sI rF 21 11).toInt = (sI Q.2 21 11).toInt := by rw [IF 11 (by decide) (by decide) (by decide)]
    have lv : ∀ c5, t_En_leave_18 c4 (nI (d + 1)) = c5 → w_En_leave_18 c4 (nI (d + 1)) → ∀ y, RES fu c5 (t3 + 1) y → RES fu c t y := fun c5 e5 w5 y hy => by
      refine hy3 y (en_l (d := d + 1) (by omega) b12 (s13.trans st0) (by omega) (by rw [nx3, en3]; exact Int.le_refl _) ?_ ?_)
      · unfold w_En_leave
        rw [ed, p1]
        exact ⟨vd, fun z => absurd (rl.symm.trans z) (by decide), fun _ => ⟨fun z => absurd (rl.symm.trans z) (by decide), fun _ => ⟨fun z => absurd (rl.symm.trans z) (by decide), fun _ => ⟨fun _ => ⟨pw, w5⟩, fun z => absurd rl z⟩⟩⟩⟩
      · unfold f_En_leave
        rw [ed, if_neg (by rw [rl]; decide), if_neg (by rw [rl]; decide), if_neg (by rw [rl]; decide), if_pos rl, p1, e5]
        exact hy
    rcases held with ⟨s0, k17⟩ | ⟨s1, k17, k18, k1, k8⟩
    · have e17 : sA c4 17 (d + 1) = 0 := by rw [p7, h17]; exact k17
      refine ⟨c4, t3 + 1, ⟨φ3, n3, u3, hR4 (p2 g1), g2, ?_, g4.tr p3, g5.tr erF, by omega, fun _ => ⟨p4, p5.trans a1.2.1, lo, tl, rr, (by show ((t3 + 1 : Nat) : Int) + 5 * (sI rF 21 11).toInt ≤ _; omega)⟩⟩, lv c4 ?_ ?_⟩
      · rw [s0]
        exact ⟨(p6 3).trans hz3.1, Or.inl ⟨rfl, (p6 4).trans hz3.2.1, (p6 5).trans hz3.2.2⟩⟩
      · unfold t_En_leave_18
        rw [ed, e17]
        rfl
      · unfold w_En_leave_18
        rw [ed, e17]
        exact ⟨vd, fun _ => trivial, (fun z => nomatch z)⟩
    · have e17 : sA c4 17 (d + 1) = sI r 21 9 := by rw [p7, h17]; exact k17
      have e18 : sA c4 18 (d + 1) = sI r 21 10 := by rw [p7, h18]; exact k18
      have nz : cn1 .eq (sI r 21 9) = false := by rw [c1_eq]; exact df (by omega)
      obtain ⟨c5, hc5⟩ : ∃ c5, c5 = f_Le_handOn c4 (sI r 21 9) (sI r 21 10) := ⟨_, rfl⟩
      have oc : opC c4 c5 := by rw [hc5]; exact ((opC_1 _ _ _).tr (opC_1 _ _ _)).tr (opC_1 _ _ _)
      have hR5 : RR G T φ3 n3 u3 c5 Q.2 := by
        rw [hc5]
        exact (((p2 g1).cI (a := 1) (k := 3) _ (Or.inr (by decide))).cI (a := 1) (k := 4) _ (Or.inr (by decide))).cI (a := 1) (k := 5) _ (Or.inr (by decide))
      refine ⟨c5, t3 + 1, ⟨φ3, n3, u3, hR4 hR5, g2, ?_, g4.tr (p3.tr oc.en), g5.tr erF, by omega, fun _ => ⟨(oc.st 0).1.trans p4, (oc.st 0).2.1.trans (p5.trans a1.2.1), fun a k x1 x2 hk => ?_, fun k hk => ?_, rr, (by show ((t3 + 1 : Nat) : Int) + 5 * (sI rF 21 11).toInt ≤ _; omega)⟩⟩, lv c5 ?_ ?_⟩
      · rw [s1, hc5]
        refine ⟨rfl, Or.inr (Or.inl ⟨rfl, ?_, ?_, ?_, ?_⟩)⟩
        · rw [F9]; rfl
        · rw [F10]; rfl
        · show 1 ≤ (sI rF 21 9).toInt
          rw [F9]; exact k1
        · show (sI rF 21 9).toInt ≤ 8
          rw [F9]; exact k8
      · rw [oc.2.2.1 a (by omega)]
        exact lo a k x1 x2 hk
      · rw [oc.2.2.2.2 19 (by decide), oc.2.2.2.2 20 (by decide)]
        exact tl k hk
      · unfold t_En_leave_18
        rw [ed, e17, e18, nz, cond_false, hc5]
      · unfold w_En_leave_18
        rw [ed, e17, nz]
        exact ⟨vd, (fun z => nomatch z), fun _ => ⟨vd, vd, trivial, trivial⟩⟩
  · have nq : cn1 .eq Q.1 = false := by rw [c1_eq]; exact df (fun y => st0 (Int32.toInt_inj.mp (by rw [y]; rfl)))
    obtain ⟨rF, hrF⟩ : ∃ rF, rF = pI Q.2 21 26 (sI Q.2 21 26 - 1) := ⟨_, rfl⟩
    have eT : t_M_scope_197 (F_part fu m) fu Q.2 st (sI r 21 9) (sI r 21 10) Q.1 = (Q.1, rF) := by
      unfold t_M_scope_197 t_M_scope_209
      rw [nq, cond_false, hrF]
    rw [eT]
    have IF : ∀ k, k ≠ 26 → sI rF 21 k = sI Q.2 21 k := fun k k3 => by rw [hrF, sI_pI, if_pos rfl, if_neg k3]
    have AF : ∀ k, sA rF k = sA Q.2 k := fun k => by rw [hrF]; rfl
    have erF : enR Q.2 rF := by rw [hrF]; exact pI26 _
    have hR4 : ∀ {s : St}, RR G T φ3 n3 u3 s Q.2 → RR G T φ3 n3 u3 s rF := fun hh => by
      rw [hrF]
      exact hh.rI (k := 26) _ (Or.inr (Or.inr (by decide)))
    by_cases st1 : Q.1 = 1
    · obtain ⟨a1, a2, a3, a4, a5⟩ := g7 (Or.inr st1)
      have rl : sA c3 13 (d + 1) = 5 := a4.1.trans hro
      have b12 : sI c3 12 12 = nI (d + 1 + 1) := a1.1.trans i1
      obtain ⟨pw, c4, p1, p2, p3, p4, p5, p6, p7, p8⟩ := pop (G := G) (T := T) (c := c3) (d := d + 1) (by omega)
      rw [if_neg (by rw [rl]; decide)] at p5
      refine ⟨c4, t3 + 1, ⟨φ3, n3, u3, hR4 (p2 g1), g2, g3.mv p6 (IF 9 (by decide)) (IF 10 (by decide)), g4.tr p3, g5.tr erF, by omega, fun _ => ⟨p4, p5.trans a1.2.1, fun a k x1 x2 hk => by rw [p7, a1.2.2.1 a k x1 x2 (by omega)], fun k hk => ?_, ⟨(IF 25 (by decide)).trans a2.1, ?_, fun k hk => ?_⟩, ?_⟩⟩, fun y hy => hy3 y (en_f (d := d + 1) (by omega) b12 (s13.trans st1) (by omega) ?_ ?_)⟩
      · rw [p8, p8]
        exact a1.2.2.2 k hk
      · rw [hrF]
        show sI Q.2 21 26 - 1 = _
        rw [a2.2.1, i4]
        exact nI_p e
      · show sA rF 34 k = _ ∧ sA rF 35 k = _
        rw [AF, AF]
        exact a2.2.2 k (by omega)
      · show ((t3 + 1 : Nat) : Int) + 5 * (sI rF 21 11).toInt ≤ _
        rw [IF 11 (by decide)]
        omega
      · unfold w_En_leaveByFault
        rw [ed, rl, show cn2 .eq (5 : Int32) 3 = false from rfl, show cn2 .eq (5 : Int32) 4 = false from rfl]
        exact ⟨vd, (fun z => nomatch z), fun _ => ⟨vd, (fun z => nomatch z), fun _ => ⟨pw, trivial⟩⟩⟩
      · unfold f_En_leaveByFault
        rw [ed, rl, show cn2 .eq (5 : Int32) 3 = false from rfl, show cn2 .eq (5 : Int32) 4 = false from rfl, cond_false, cond_false, p1]
        exact hy
    · exact ⟨c3, t3, ⟨φ3, n3, u3, hR4 g1, g2, g3.mv (fun _ => rfl) (IF 9 (by decide)) (IF 10 (by decide)), g4, g5.tr erF, g6, fun z => absurd z (fun y => y.elim st0 st1)⟩, hy3⟩
end SC
