/-! LOAD: what goes on when a thing is read -/
def RC (G : AH) (T n u : Nat) (c r : St) : Prop := R_num c r ∧ R_led c r ∧ R_fu c r ∧ (sI r 21 6 = nI n ∧ sI r 21 7 = nI u ∧ (n : Int) ≤ (sI r 21 8).toInt ∧ (u : Int) ≤ (sI r 21 8).toInt) ∧ R_rm n u T c ∧ R_gv G c ∧ ∀ j, u ≤ j → sB r 26 j = 0
theorem RR.rc {G : AH} {T : Nat} {φ : Nat → Nat} {n u : Nat} {c r : St} (h : RR G T φ n u c r) : RC G T n u c r := ⟨h.1, h.2.1, h.2.2.1, h.2.2.2.1.2, h.2.2.2.2.2.1, h.2.2.2.2.2.2, h.rt.1⟩
/-- what lay there before is as it was -/
def GF (n u : Nat) (c r c' r' : St) (n' u' : Nat) : Prop := (∀ a, a < sN c → sD c' a = sD c a) ∧ sN c ≤ sN c' ∧ n ≤ n' ∧ u ≤ u' ∧ (∀ v, v ≤ n → sA r' 22 v = sA r 22 v ∧ sA r' 23 v = sA r 23 v ∧ sA r' 24 v = sA r 24 v ∧ sA r' 25 v = sA r 25 v) ∧ (∀ j, j < u → sB r' 26 j = sB r 26 j) ∧ sT c' 11 = sT c 11 ∧ sA r' 27 = sA r 27 ∧ sI r' 21 11 = sI r 21 11
theorem GF.rf (n u : Nat) (c r : St) : GF n u c r c r n u := ⟨fun _ _ => rfl, Nat.le_refl _, Nat.le_refl _, Nat.le_refl _, fun _ _ => ⟨rfl, rfl, rfl, rfl⟩, fun _ _ => rfl, rfl, rfl, rfl⟩
theorem GF.tr {n u n1 u1 n2 u2 : Nat} {c r c1 r1 c2 r2 : St} (h : GF n u c r c1 r1 n1 u1) (g : GF n1 u1 c1 r1 c2 r2 n2 u2) : GF n u c r c2 r2 n2 u2 := by
  obtain ⟨a1, a2, a3, a4, a5, a6, a7, a8, a9⟩ := h
  obtain ⟨b1, b2, b3, b4, b5, b6, b7, b8, b9⟩ := g
  refine ⟨fun a ha => (b1 a (by omega)).trans (a1 a ha), by omega, by omega, by omega, fun v hv => ?_, fun j hj => (b6 j (by omega)).trans (a6 j hj), b7.trans a7, b8.trans a8, b9.trans a9⟩
  obtain ⟨x1, x2, x3, x4⟩ := a5 v hv
  obtain ⟨y1, y2, y3, y4⟩ := b5 v (by omega)
  exact ⟨y1.trans x1, y2.trans x2, y3.trans x3, y4.trans x4⟩
/-- only counters and the like have changed -/
theorem GF.w {n u : Nat} {c r c' r' : St} (hD : sD c' = sD c) (hN : sN c' = sN c) (hT : sT c' 11 = sT c 11) (h22 : sA r' 22 = sA r 22) (h23 : sA r' 23 = sA r 23) (h24 : sA r' 24 = sA r 24) (h25 : sA r' 25 = sA r 25) (h27 : sA r' 27 = sA r 27) (hB : sB r' 26 = sB r 26) (h11 : sI r' 21 11 = sI r 21 11) : GF n u c r c' r' n u := ⟨fun a _ => by rw [hD], by omega, Nat.le_refl _, Nat.le_refl _, fun v _ => by rw [h22, h23, h24, h25]; exact ⟨rfl, rfl, rfl, rfl⟩, fun j _ => by rw [hB], hT, h27, h11⟩
theorem GF.led {n u : Nat} {c r c' r' : St} (h1 : wC c c') (h2 : wR r r') (h11 : sI r' 21 11 = sI r 21 11) : GF n u c r c' r' n u := GF.w h1.2.2.2.2.2.1 h1.2.2.2.2.2.2.1 (by rw [h1.2.2.2.2.1]) (by rw [h2.2.2.1]) (by rw [h2.2.2.1]) (by rw [h2.2.2.1]) (by rw [h2.2.2.1]) (by rw [h2.2.2.1]) (by rw [h2.2.2.2.1]) h11
/-- nobody can reach what was made: it is forgotten -/
theorem RR.die {G : AH} {T : Nat} {φ : Nat → Nat} {n u n' u' : Nat} {c r c' r' : St} (h : RR G T φ n u c r) (g : GF n u c r c' r' n' u') (hc : RC G T n' u' c' r') : RR G T (fun v => if v ≤ n then φ v else 0) n' u' c' r' := by
  obtain ⟨g1, g2, g3, g4, g5, g6, g7, g8, -⟩ := g
  obtain ⟨c1, c2, c3, c4, c5, c6, c7⟩ := hc
  obtain ⟨a1, a2, a3, a4, a5, a6, a7⟩ := h
  obtain ⟨t1, t2, t3, t4, t5⟩ := a4.1
  have hφ : ∀ v, v ≤ n → (fun v => if v ≤ n then φ v else 0) v = φ v := fun v hv => if_pos hv
  have lv : ∀ t, 1 ≤ t → LVE (fun v => if v ≤ n then φ v else 0) t → t ≤ n ∧ LVE φ t := fun t h1 h2 => by
    have hn : t ≤ n := by
      refine Decidable.byContradiction fun z => ?_
      rcases h2 with y | y
      · omega
      · replace y : 37 ≤ (if t ≤ n then φ t else 0) := y
        rw [if_neg z] at y
        omega
    exact ⟨hn, h2.imp id (fun z => by rw [← hφ t hn]; exact z)⟩
  have w1 : ∀ k : Int32, 1 ≤ twd k := fun k => by unfold twd; split <;> omega
  refine ⟨c1, c2, c3, ⟨⟨c7, by rw [(g5 0 (Nat.zero_le _)).1]; exact t2, by rw [(g5 0 (Nat.zero_le _)).2.2.1]; exact t3, fun t h1 h2 => ?_, fun t t' h1 h2 h3 h4 => ?_⟩, c4⟩, fun k hk => ?_, c5, c6⟩
  · have l := lv t h1 h2.2
    obtain ⟨x1, x2, x3, x4, x5⟩ := t4 t h1 l
    obtain ⟨y1, y2, y3, y4⟩ := g5 t l.1
    rw [y1, y2, y3, hφ t l.1]
    refine ⟨?_, x2, by omega, x4, by omega⟩
    have := w1 (sA r 22 t)
    exact x1.cg l.1 g3 hφ (fun v hv => (g5 v hv).1) y2 y3 y4 (g1 _ (by omega)) (fun k10 => g1 _ (by unfold twd at x5; rw [if_pos k10] at x5; omega)) (fun i hi => g6 _ (by omega))
  · have l := lv t h1 h3.2
    have l' := lv t' (by omega) h4.2
    obtain ⟨y1, y2, y3, y4⟩ := g5 t l.1
    obtain ⟨z1, z2, z3, z4⟩ := g5 t' l'.1
    rw [y1, y2, y3, z2, hφ t l.1, hφ t' l'.1]
    exact t5 t t' h1 h2 l l'
  · obtain ⟨v, v1, v2, v3⟩ := a5 k hk
    exact ⟨v, LVE.ex v1 g3 hφ, by rw [g8]; exact v2, by rw [g7, po_cg hφ v1.1]; exact v3⟩
/-- where the tape is read -/
def PL (L p : Nat) (c r : St) : Prop := sI c 2 5 = nI p ∧ sI r 21 30 = nI p ∧ sI c 2 6 = nI L ∧ sI r 21 23 = nI L ∧ p ≤ L ∧ L ≤ 2000 ∧ ∀ k, k < L → sA r 32 k = sA c 3 k &&& 255
theorem PL.mv {L p : Nat} {c r c' r' : St} (h : PL L p c r) (h1 : sI c' 2 5 = sI c 2 5) (h2 : sI c' 2 6 = sI c 2 6) (h3 : sA c' 3 = sA c 3) (h4 : sI r' 21 30 = sI r 21 30) (h5 : sI r' 21 23 = sI r 21 23) (h6 : sA r' 32 = sA r 32) : PL L p c' r' := by
  unfold PL
  rw [h1, h2, h3, h4, h5, h6]
  exact h
section RB
variable {fu L p : Nat} {c r : St}
theorem rb_go (hP : PL L p c r) {cnt : Nat} (hc8 : cnt ≤ 8) (hin : p + cnt ≤ L) : ∀ (k i : Nat) (acc : Int64), i + k = cnt → ∃ val, (∀ g, k + 1 ≤ g → t_Fo_readBytes_17 fu g c (nI cnt) acc (nI i) = (val, pI c 2 5 (nI (p + cnt))) ∧ w_Fo_readBytes_17 fu g c (nI cnt) acc (nI i)) ∧ (∀ g, k + 1 ≤ g → t_M_next_4 fu g r (nI cnt) acc (nI i) = (val, pI r 21 30 (nI (p + cnt))) ∧ w_M_next_4 fu g r (nI cnt) acc (nI i)) ∧ (k = 0 → val = acc) ∧ (k = 1 → val = (acc <<< (Int32.toInt64 8 &&& 63)) ||| Int32.toInt64 (sA r 32 (p + i))) := by
  obtain ⟨p1, p2, p3, p4, p5, p6, p7⟩ := hP
  intro k
  induction k with
  | zero =>
    intro i acc hi
    have ge : cn2 .ge (nI i) (nI cnt) = true := by rw [kge (by omega) (by omega)]; exact dt (by omega)
    refine ⟨acc, fun g hg => ?_, fun g hg => ?_, fun _ => rfl, fun z => absurd z (by omega)⟩
    · obtain ⟨g, rfl⟩ : ∃ g', g = g' + 1 := ⟨g - 1, by omega⟩
      unfold t_Fo_readBytes_17 w_Fo_readBytes_17
      rw [ge, cond_true, p1, nAd]
      exact ⟨rfl, fun _ => trivial, (fun z => nomatch z)⟩
    · obtain ⟨g, rfl⟩ : ∃ g', g = g' + 1 := ⟨g - 1, by omega⟩
      unfold t_M_next_4 w_M_next_4
      rw [ge, cond_true, p2, nAd]
      exact ⟨rfl, fun _ => trivial, (fun z => nomatch z)⟩
  | succ k ih =>
    intro i acc hi
    have ge : cn2 .ge (nI i) (nI cnt) = false := by rw [kge (by omega) (by omega)]; exact df (by omega)
    have sj : nI i + Int32.ofInt 1 = nI (i + 1) := nI_s i
    have n1 : (nI (p + i)).toNatClampNeg = p + i := nN (by omega)
    have v1 : vp_in (nI (p + i)) 2000 := vp_n (by omega) (by omega)
    have hb : sA c 3 (p + i) &&& 255 = sA r 32 (p + i) := (p7 _ (by omega)).symm
    obtain ⟨val, x1, x2, x3, x4⟩ := ih (i + 1) ((acc <<< (Int32.toInt64 8 &&& 63)) ||| Int32.toInt64 (sA r 32 (p + i))) (by omega)
    refine ⟨val, fun g hg => ?_, fun g hg => ?_, fun z => absurd z (by omega), fun z => x3 (by omega)⟩
    · obtain ⟨g, rfl⟩ : ∃ g', g = g' + 1 := ⟨g - 1, by omega⟩
      obtain ⟨y1, y2⟩ := x1 g (by omega)
      unfold t_Fo_readBytes_17 w_Fo_readBytes_17
      rw [ge, cond_false, p1, nAd, n1, hb, sj]
      exact ⟨y1, (fun z => nomatch z), fun _ => ⟨v1, y2⟩⟩
    · obtain ⟨g, rfl⟩ : ∃ g', g = g' + 1 := ⟨g - 1, by omega⟩
      obtain ⟨y1, y2⟩ := x2 g (by omega)
      unfold t_M_next_4 w_M_next_4
      rw [ge, cond_false, p2, nAd, n1, sj]
      exact ⟨y1, (fun z => nomatch z), fun _ => ⟨v1, y2⟩⟩
/-- some bytes of the tape -/
theorem rb (hfu : 100 ≤ fu) (hP : PL L p c r) {cnt : Nat} {x : Int32} (hx : x = nI cnt) (hc8 : cnt ≤ 8) : (p + cnt ≤ L ∧ ∃ val, f_Fo_readBytes fu c x = (val, pI c 2 5 (nI (p + cnt))) ∧ w_Fo_readBytes fu c x ∧ f_M_has r x = true ∧ f_M_next fu r x = (val, pI r 21 30 (nI (p + cnt))) ∧ w_M_next fu r x ∧ PL L (p + cnt) (pI c 2 5 (nI (p + cnt))) (pI r 21 30 (nI (p + cnt))) ∧ (cnt = 1 → val = Int32.toInt64 (sA r 32 p) ∧ p < L)) ∨ (¬ p + cnt ≤ L ∧ f_Fo_readBytes fu c x = (0, f_Le_fault c 2) ∧ w_Fo_readBytes fu c x ∧ f_M_has r x = false) := by
  subst hx
  have hP0 := hP
  obtain ⟨p1, p2, p3, p4, p5, p6, p7⟩ := hP
  have k1 : cn2 .le (sI c 2 5 + nI cnt) (sI c 2 6) = decide (p + cnt ≤ L) := by rw [p1, p3, nAd, kle (by omega) (by omega)]
  have k2 : cn2 .gt (sI r 21 30 + nI cnt) (sI r 21 23) = decide (L < p + cnt) := by rw [p2, p4, nAd, kgt (by omega) (by omega)]
  by_cases g : p + cnt ≤ L
  · obtain ⟨val, x1, x2, x3, x4⟩ := rb_go (fu := fu) hP0 hc8 g cnt 0 0 (by omega)
    obtain ⟨a1, a2⟩ := x1 fu (by omega)
    obtain ⟨b1, b2⟩ := x2 fu (by omega)
    refine Or.inl ⟨g, val, ?_, ?_, ?_, b1, b2, ⟨rfl, rfl, p3, p4, g, p6, p7⟩, fun z => ⟨?_, by omega⟩⟩
    · unfold f_Fo_readBytes
      rw [k1, dt g, cond_true]
      exact a1
    · unfold w_Fo_readBytes
      rw [k1, dt g]
      exact ⟨fun _ => a2, (fun z => nomatch z)⟩
    · unfold f_M_has
      rw [k2, df (by omega), cond_false]
    · rw [x4 z, show ((0 : Int64) <<< (Int32.toInt64 8 &&& 63)) = 0 from by decide, Nat.add_zero]
      exact Int64.zero_or
  · refine Or.inr ⟨g, ?_, ?_, ?_⟩
    · unfold f_Fo_readBytes t_Fo_readBytes_11
      rw [k1, df g, cond_false]
    · unfold w_Fo_readBytes
      rw [k1, df g]
      exact ⟨(fun z => nomatch z), fun _ => ⟨w_fault c 2, trivial⟩⟩
    · unfold f_M_has
      rw [k2, dt (by omega), cond_true]
end RB
/-- what comes of reading a thing -/
def PRd (G : AH) (T : Nat) (φ : Nat → Nat) (n u L : Nat) (c r : St) (x : Option Nat × St) (q : Int32 × St) : Prop := ∃ n' u', GF n u c r x.2 q.2 n' u' ∧ RC G T n' u' x.2 q.2 ∧ SR q.1 x.2 q.2 ∧ opC c x.2 ∧ opR r q.2 ∧ tho (sD x.2) x.1 ∧ ¬ q.1 = 2 ∧ (q.1 = 0 → ∃ (φ' : Nat → Nat) (v p' : Nat), RR G T φ' n' u' x.2 q.2 ∧ EX φ n φ' n' ∧ (v ≤ n' ∧ LVE φ' v) ∧ x.1 = po φ' v ∧ sI q.2 21 31 = nI v ∧ PL L p' x.2 q.2)
theorem fl_11 (r : St) (k : Int32) : sI (f_M_fails r k).2 21 11 = sI r 21 11 := by
  unfold f_M_fails f_M_fault t_M_fault_3 f_M_pays
  cases cn1 .le (lg_cmp (Int32.toInt64 (sI r 21 8) + 8) 40000)
  · rfl
  · rfl
section PRD
variable {G : AH} {T : Nat} {φ φ1 : Nat → Nat} {n u n1 u1 L : Nat} {c r c1 r1 : St} {x : Option Nat × St} {q : Int32 × St}
theorem PRd.tr (g : GF n u c r c1 r1 n1 u1) (hc : opC c c1) (hr : opR r r1) (he : EX φ n φ1 n1) (h : PRd G T φ1 n1 u1 L c1 r1 x q) : PRd G T φ n u L c r x q := by
  obtain ⟨n', u', a1, a2, a3, a4, a5, a6, a7, a8⟩ := h
  refine ⟨n', u', g.tr a1, a2, a3, hc.tr a4, hr.tr a5, a6, a7, fun z => ?_⟩
  obtain ⟨φ', v, p', b1, b2, b3⟩ := a8 z
  exact ⟨φ', v, p', b1, he.tr b2, b3⟩
/-- a fault -/
theorem PRd.fl (h : RR G T φ n u c r) (hz : SZ c) {k : Int32} (k1 : 1 ≤ k.toInt) (k2 : k.toInt ≤ 8) {o : Option Nat} (ho : tho (sD c) o) : PRd G T φ n u L c r (o, f_Le_fault c k) (f_M_fails r k) := by
  obtain ⟨l1, l2, l3, l4⟩ := fl_led h hz k1 k2
  have ne : (f_M_fails r k).1 = 1 ∨ (f_M_fails r k).1 = 3 := by
    unfold f_M_fails f_M_fault t_M_fault_3
    cases cn1 .ne (b2i (f_M_pays r 8).1)
    · exact Or.inr rfl
    · exact Or.inl rfl
  refine ⟨n, u, GF.led l3 l4 (fl_11 r k), l1.rc, l2, l3.op, l4.op, by rw [l3.2.2.2.2.2.1]; exact ho, fun z => ?_, fun z => ?_⟩
  · rw [z] at ne; exact absurd ne (by decide)
  · rw [z] at ne; exact absurd ne (by decide)
theorem tho_n (D : AH) : tho D none := Or.inl rfl
theorem st_f {c r : St} {st : Int32} (h : SR st c r) : f_Le_stopped c = decide (¬ st = 0) := by
  unfold f_Le_stopped
  rw [h.1, c1_eq]
  by_cases z : st = 0
  · rw [z]; rfl
  · rw [df (fun y => z (Int32.toInt_inj.mp (by rw [y]; rfl))), dt z]; rfl
theorem st_0 {c : St} (h : SZ c) : f_Le_stopped c = false := by
  unfold f_Le_stopped
  rw [h.1]; rfl
theorem fl_st (h : RR G T φ n u c r) (hz : SZ c) {k : Int32} (k1 : 1 ≤ k.toInt) (k2 : k.toInt ≤ 8) : f_Le_stopped (f_Le_fault c k) = true ∧ wC c (f_Le_fault c k) := by
  obtain ⟨l1, l2, l3, l4⟩ := fl_led h hz k1 k2
  refine ⟨?_, l3⟩
  rw [st_f l2]
  refine dt (fun z => ?_)
  have ne : (f_M_fails r k).1 = 1 ∨ (f_M_fails r k).1 = 3 := by
    unfold f_M_fails f_M_fault t_M_fault_3
    cases cn1 .ne (b2i (f_M_pays r 8).1)
    · exact Or.inr rfl
    · exact Or.inl rfl
  rw [z] at ne
  exact absurd ne (by decide)
end PRD
