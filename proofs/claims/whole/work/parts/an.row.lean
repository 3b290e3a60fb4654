/-! LOAD: troubles and rows -/
section PRX
variable {G : AH} {T : Nat} {φ φ1 : Nat → Nat} {n u n1 u1 L p fu : Nat} {c r c1 r1 : St} {x : Option Nat × St} {q : Int32 × St}
/-- it has stopped; what is new may look otherwise -/
theorem PRd.st (g : GF n u c r c1 r1 n1 u1) (hc : opC c c1) (hr : opR r r1) (h : PRd G T φ1 n1 u1 L c1 r1 x q) (hq : ¬ q.1 = 0) {D' : AH} (hD : ∀ a, a < sN c ∨ 601024 ≤ a → D' a = sD x.2 a) {o : Option Nat} (ho : tho D' o) {y : Option Nat × St} (hy : y = (o, pQ x.2 D' (sN x.2) (sU x.2))) : PRd G T φ n u L c r y q := by
  obtain ⟨n', u', a1, a2, a3, a4, a5, a6, a7, a8⟩ := h
  obtain ⟨b1, b2, b3, b4, b5, b6, b7, b8, b9⟩ := g.tr a1
  obtain ⟨d1, d2, d3, d4, d5, d6, d7⟩ := a2
  subst hy
  exact ⟨n', u', ⟨fun a ha => (hD a (Or.inl ha)).trans (b1 a ha), b2, b3, b4, b5, b6, b7, b8, b9⟩, ⟨d1, d2, d3, d4, d5, fun a ha => (hD a (Or.inr ha)).trans (d6 a ha), d7⟩, a3, (hc.tr a4).tr (opC_Q _ _ _ _), hr.tr a5, ho, a7, fun z => absurd z hq⟩
theorem fl_ne (r : St) (k : Int32) : ¬ (f_M_fails r k).1 = 0 := fun z => by
  have ne : (f_M_fails r k).1 = 1 ∨ (f_M_fails r k).1 = 3 := by
    unfold f_M_fails f_M_fault t_M_fault_3
    cases cn1 .ne (b2i (f_M_pays r 8).1)
    · exact Or.inr rfl
    · exact Or.inl rfl
  rw [z] at ne
  exact absurd ne (by decide)
/-- full -/
theorem PRd.ful (h : RR G T φ n u c r) (hz : SZ c) : PRd G T φ n u L c r (none, pI (pI c 1 1 1) 1 3 3) (3, pI r 21 15 1) :=
  ⟨n, u, GF.w rfl rfl rfl rfl rfl rfl rfl rfl rfl rfl, h.full.rc, ⟨rfl, Or.inr (Or.inr (Or.inr ⟨rfl, hz.2.1, hz.2.2⟩))⟩, (opC_1 c 1 1).tr (opC_1 _ 3 3), opR_I r (Or.inr (Or.inl rfl)) 1, tho_n _, (show ¬ (3 : Int32) = 2 by decide), fun z => absurd (show (3 : Int32) = 0 from z) (by decide)⟩
/-- a new thing -/
theorem GF.nw {D' : AH} {N' U' z : Nat} {k m q : Int32} (hD : ∀ a, a < sN c → D' a = sD c a) (hN : sN c ≤ N') : GF n u c r (pQ c D' N' U') (thR r n u k m q) (n + 1) (u + z) :=
  ⟨hD, hN, Nat.le_succ _, Nat.le_add_right _ _, fun v hv => ⟨if_neg (by omega), if_neg (by omega), if_neg (by omega), if_neg (by omega)⟩, fun _ _ => rfl, rfl, rfl, rfl⟩
theorem PL.qq (h : PL L p c r) (D : AH) (N U : Nat) (n u : Nat) (k m q : Int32) : PL L p (pQ c D N U) (thR r n u k m q) := h.mv rfl rfl rfl rfl rfl rfl
theorem nw_trb0 (h : RR G T φ n u c r) {m q : Int32} (hn : (n : Int) + 1 ≤ (sI r 21 8).toInt) (hu : (u : Int) + 1 ≤ (sI r 21 8).toInt) : RR G T (ph1 φ n (sN c)) (n + 1) (u + 1) (pQ c (nwO (sD c) (sN c) 8) (sN c + 1) (sU c + 1)) (thR r n u 16 m q) := by
  have hb := h.bnd
  have ez : tsz 16 m = 1 := rfl
  have ew : twd 16 = 1 := rfl
  have := h.new (k := 16) (m := m) (q := q) (D := nwO (sD c) (sN c) 8) (C := sB r 26) (U := sU c + 1) hn (by rw [ez]; omega) (fun a ha => hupN (by omega)) (fun _ _ => rfl) (by rw [ez]; omega) (by
    refine Or.inr (Or.inr (Or.inr ?_))
    unfold Td
    rw [upS, upS, ph1_s, nN (by omega)]
    exact ⟨rfl, 0, hupS, h.rt.1 u (Nat.le_refl _)⟩)
  rw [ez, ew] at this
  exact this
theorem mk2 (h : RR G T φ n u c r) {z : Nat} (hl : z < 9000000000000000000) : (∃ v : Int32, f_Le_make c (lN z) = (true, pI c 1 0 v) ∧ f_M_pays r (lN z) = (true, pI r 21 8 v) ∧ RR G T φ n u (pI c 1 0 v) (pI r 21 8 v) ∧ (n : Int) + z ≤ v.toInt ∧ (u : Int) + z ≤ v.toInt ∧ v.toInt ≤ 40000 ∧ z ≤ 40000) ∨ (f_Le_make c (lN z) = (false, pI (pI c 1 1 1) 1 3 3) ∧ f_M_pays r (lN z) = (false, pI r 21 15 1)) := by
  rcases mk_pr h hl with ⟨gm, v, hv, e1, e2⟩ | ⟨gm, e1, e2⟩
  · have hl2 := h.2.1
    have hn := h.2.2.2.1.2.2.2.1
    have hu := h.2.2.2.1.2.2.2.2
    have h0 := hl2.2.1
    exact Or.inl ⟨v, e1, e2, h.made (by omega) (by omega), by omega, by omega, by omega, by omega⟩
  · exact Or.inr ⟨e1, e2⟩
theorem GF.mk (v : Int32) : GF n u c r (pI c 1 0 v) (pI r 21 8 v) n u := GF.w rfl rfl rfl rfl rfl rfl rfl rfl rfl rfl
theorem opR_31 (v : Int32) : opR r (pI r 21 31 v) := opR_I r (Or.inr (Or.inr (Or.inr rfl))) v
theorem opR_30 (v : Int32) : opR r (pI r 21 30 v) := opR_I r (Or.inr (Or.inr (Or.inl rfl))) v
/-- a thing that is being made: its number n + 1, its address N, its cells from u on -/
def WK (G : AH) (T : Nat) (φ : Nat → Nat) (n u L z N : Nat) (k m : Int32) (c0 r0 c r : St) (p : Nat) : Prop := RR G T (ph1 φ n N) (n + 1) (u + z) c r ∧ SZ c ∧ PL L p c r ∧ GF n u c0 r0 c r (n + 1) (u + z) ∧ opC c0 c ∧ opR r0 r ∧ (sA r 22 (n + 1) = k ∧ sA r 23 (n + 1) = nI u ∧ sA r 24 (n + 1) = m) ∧ sN c0 ≤ N ∧ 37 ≤ N ∧ N + 1 < 601024
section WKS
variable {z N : Nat} {k m : Int32} {c0 r0 : St}
theorem WK.lv (h : WK G T φ n u L z N k m c0 r0 c r p) : n + 1 ≤ n + 1 ∧ LVE (ph1 φ n N) (n + 1) := LVE.nw h.2.2.2.2.2.2.2.2.1
theorem WK.po (h : WK G T φ n u L z N k m c0 r0 c r p) : po (ph1 φ n N) (n + 1) = some N := by rw [po_s _ (by omega), ph1_s]
/-- bytes were read -/
theorem WK.rd (h : WK G T φ n u L z N k m c0 r0 c r p) {p' : Nat} (hP : PL L p' (pI c 2 5 (nI p')) (pI r 21 30 (nI p'))) : WK G T φ n u L z N k m c0 r0 (pI c 2 5 (nI p')) (pI r 21 30 (nI p')) p' := by
  obtain ⟨a1, a2, a3, a4, a5, a6, a7, a8⟩ := h
  exact ⟨(a1.cI (a := 2) _ (Or.inl (by decide))).rI (k := 30) _ (Or.inr (Or.inr (by decide))), a2, hP, a4.tr (GF.w rfl rfl rfl rfl rfl rfl rfl rfl rfl rfl), a5.tr (opC_2 c (by decide) _), a6.tr (opR_30 _), a7, a8⟩
/-- something of it was put -/
theorem WK.pt (h : WK G T φ n u L z N k m c0 r0 c r p) {D' : AH} {j : Nat} {y : Int64} (hR : RR G T (ph1 φ n N) (n + 1) (u + z) (pQ c D' (sN c) (sU c)) (pB r 26 (vp_updL (sB r 26) (u + j) y))) (hD : ∀ a, a ≠ N → a ≠ N + 1 → D' a = sD c a) : WK G T φ n u L z N k m c0 r0 (pQ c D' (sN c) (sU c)) (pB r 26 (vp_updL (sB r 26) (u + j) y)) p := by
  obtain ⟨a1, a2, a3, a4, a5, a6, a7, a8⟩ := h
  obtain ⟨g1, g2, g3, g4, g5, g6, g7, g8, g9⟩ := a4
  exact ⟨hR, a2, a3, ⟨fun a ha => (hD a (by omega) (by omega)).trans (g1 a ha), g2, g3, g4, g5, fun i hi => (show vp_updL (sB r 26) (u + j) y i = sB r 26 i from if_neg (by omega)).trans (g6 i hi), g7, g8, g9⟩, a5.tr (opC_Q _ _ _ _), a6.tr (opR_B _ (Or.inl rfl) _), a7, a8⟩
theorem WK.tho' (h : WK G T φ n u L z N k m c0 r0 c r p) : tho (sD c) (some N) := by
  have := a_tho h.1.rt h.lv
  rw [h.po] at this
  exact this
/-- it is made -/
theorem WK.fin (h : WK G T φ n u L z N k m c0 r0 c r p) : PRd G T φ n u L c0 r0 (some N, c) (0, pI r 21 31 (nI (n + 1))) := by
  have hp := h.po
  have ht := h.tho'
  have hl := h.lv
  obtain ⟨a1, a2, a3, a4, a5, a6, a7, a8⟩ := h
  have hR : RR G T (ph1 φ n N) (n + 1) (u + z) c (pI r 21 31 (nI (n + 1))) := a1.rI (k := 31) _ (Or.inr (Or.inr (by decide)))
  exact ⟨n + 1, u + z, a4.tr (GF.w rfl rfl rfl rfl rfl rfl rfl rfl rfl rfl), hR.rc, ⟨a2.1, Or.inl ⟨rfl, a2.2⟩⟩, a5, a6.tr (opR_31 _), ht, (show ¬ (0 : Int32) = 2 by decide), fun _ => ⟨ph1 φ n N, n + 1, p, hR, ph1_ex φ n N, hl, hp.symm, rfl, a3⟩⟩
/-- a fault came in between -/
theorem WK.fl (h : WK G T φ n u L z N k m c0 r0 c r p) {kk : Int32} (k1 : 1 ≤ kk.toInt) (k2 : kk.toInt ≤ 8) {D' : AH} (hD : ∀ a, a ≠ N → a ≠ N + 1 → D' a = sD c a) {o : Option Nat} (ho : tho D' o) {y : Option Nat × St} (hy : y = (o, pQ (f_Le_fault c kk) D' (sN (f_Le_fault c kk)) (sU (f_Le_fault c kk)))) : PRd G T φ n u L c0 r0 y (f_M_fails r kk) := by
  obtain ⟨a1, a2, a3, a4, a5, a6, a7, a8⟩ := h
  have w := (fl_st a1 a2 k1 k2).2
  refine PRd.st a4 a5 a6 (PRd.fl (L := L) a1 a2 k1 k2 (tho_n _)) (fl_ne r kk) (D' := D') (fun a ha => ?_) ho hy
  show D' a = sD (f_Le_fault c kk) a
  rw [w.2.2.2.2.2.1]
  exact hD a (by omega) (by omega)
end WKS
theorem RR.trb {t : Nat} (h : RR G T φ n u c r) (h1 : 1 ≤ t) (h2 : t ≤ n ∧ LVE φ t) (k : (sA r 22 t).toInt = 16) (q : Int32) : RR G T φ n u (pQ c (hup (sD c) (φ t) (.inl (8, [.inl q]))) (sN c) (sU c)) (pB r 26 (vp_updL (sB r 26) ((sA r 23 t).toNatClampNeg) q.toInt64)) := by
  obtain ⟨q', d1, d2, d3, d4, d5, d6⟩ := rd_trb h.rt h1 h2 k
  have hb := h.bnd
  have ez : tsz (sA r 22 t) (sA r 24 t) = 1 := by unfold tsz; rw [if_pos k]
  refine h.put (h.rt.put h1 h2 (fun a g1 g2 => hupN g1) (fun g => hupN (by omega)) (by rw [ez]; exact fun j hj => up_n _ _ (by omega)) ?_) (fun a ha => hupN (by omega))
  exact Or.inr (Or.inr (Or.inr ⟨k, q, hupS, up_s _ _ _⟩))
theorem ld_trb (hfu : 100 ≤ fu) {rec : G_read} {wrec : GW_read} (h : RR G T φ n u c r) (hz : SZ c) (hP : PL L p c r) : PRd G T φ n u L c r (t_Fo_readThing_56 rec fu (f_Le_make c 4).2 (b2i (f_Le_make c 4).1)) (f_M_parseTrouble fu r) ∧ w_Fo_readThing_56 rec wrec fu (f_Le_make c 4).2 (b2i (f_Le_make c 4).1) ∧ w_M_parseTrouble fu r := by
  unfold f_M_parseTrouble w_M_parseTrouble
  rw [show (4 : Int64) = lN 4 from rfl]
  rcases mk2 h (z := 4) (by decide) with ⟨v, e1, e2, h1, mn, mu, mv, -⟩ | ⟨e1, e2⟩
  · rw [e1, e2]
    dsimp only
    have hb := h1.bnd
    have hb2 := h1.2.2.2.1
    have h2 := nw_trb0 h1 (m := 0) (q := 0) (show (n : Int) + 1 ≤ v.toInt by omega) (show (u : Int) + 1 ≤ v.toInt by omega)
    obtain ⟨t1, t2⟩ := th_M (r := pI r 21 8 v) (k := 16) (m := 0) (q := 0) hb2.2.1 hb2.2.2.1 (by omega) (fun z => absurd z (by decide))
    obtain ⟨N, hN⟩ : ∃ N, N = sN (pI c 1 0 v) := ⟨_, rfl⟩
    have hN0 : N = sN c := hN
    have h37 : 37 ≤ N := by rw [hN]; exact hb.2.2.2.2
    have hNb : N + 1 < 601024 := by rw [hN]; omega
    obtain ⟨c2, hc2⟩ : ∃ c2, c2 = pQ (pI c 1 0 v) (nwO (sD (pI c 1 0 v)) (sN (pI c 1 0 v)) 8) (sN (pI c 1 0 v) + 1) (sU (pI c 1 0 v) + 1) := ⟨_, rfl⟩
    obtain ⟨r2, hr2⟩ : ∃ r2, r2 = thR (pI r 21 8 v) n u 16 0 0 := ⟨_, rfl⟩
    rw [← hr2] at t1 h2
    rw [← hc2, ← hN] at h2
    have hW : WK G T φ n u L 1 N 16 0 c r c2 r2 p := by
      refine ⟨h2, by rw [hc2]; exact hz, by rw [hc2, hr2]; exact PL.qq (c := pI c 1 0 v) (r := pI r 21 8 v) hP _ _ _ _ _ _ _ _, ?_, by rw [hc2]; exact (opC_1 c 0 v).tr (opC_Q _ _ _ _), by rw [hr2]; exact (opR_I r (Or.inl (by decide)) v).tr (thR_op _ _ _ _ _ _ hb2.2.1 (by omega)), ?_, by omega, h37, hNb⟩
      · rw [hc2, hr2]
        exact (GF.mk v).tr (GF.nw (fun a ha => hupN (by omega)) (Nat.le_succ _))
      · rw [hr2]
        exact ⟨if_pos rfl, if_pos rfl, if_pos rfl⟩
    have D2 : sD c2 N = some (.inl (8, [.inl 0])) := by rw [hc2, hN]; exact hupS
    have nn : (nI (n + 1)).toNatClampNeg = n + 1 := nN (by omega)
    have vn : vp_in (nI (n + 1)) 40001 := n_vp (by omega)
    have nu : (nI u).toNatClampNeg = u := nN (by omega)
    have vu : vp_in (nI u) 40001 := n_vp (by omega)
    have rmm : rm (sN (pI c 1 0 v)) (sU (pI c 1 0 v)) 1 := ⟨by omega, by omega, by have := hb.2.2.2.1; omega⟩
    unfold t_Fo_readThing_56 w_Fo_readThing_56 t_M_parseTrouble_3 w_M_parseTrouble_3
    rw [show cn1 .eq (b2i true) = false from rfl, cond_false, show cn1 .ne (b2i true) = true from rfl, cond_true, t1]
    dsimp only
    rw [← hc2, ← hN]
    unfold t_M_parseTrouble_11 w_M_parseTrouble_11
    rcases rb hfu hW.2.2.1 (cnt := 4) (x := 4) rfl (by decide) with ⟨g, val, y1, y2, y3, y4, y5, y6, -⟩ | ⟨g, y1, y2, y3⟩
    · rw [y1, y3, y4, show cn1 .ne (b2i true) = true from rfl, cond_true, nn, hW.2.2.2.2.2.2.1.2.1]
      dsimp only
      unfold t_Fo_readThing_62 w_Fo_readThing_62 t_M_parseTrouble_29 w_M_parseTrouble_29
      have W3 := hW.rd y6
      obtain ⟨c3, hc3⟩ : ∃ c3, c3 = pI c2 2 5 (nI (p + 4)) := ⟨_, rfl⟩
      obtain ⟨r3, hr3⟩ : ∃ r3, r3 = pI r2 21 30 (nI (p + 4)) := ⟨_, rfl⟩
      rw [← hc3, ← hr3] at W3
      rw [← hc3, ← hr3]
      have D3 : sD c3 N = some (.inl (8, [.inl 0])) := by rw [hc3]; exact D2
      have eI : f_Tr_init c3 (some N) (Int64.toInt32 val) = pQ c3 (hup (sD c3) N (.inl (8, [.inl (Int64.toInt32 val)]))) (sN c3) (sU c3) := by
        show pQ c3 (dF (sD c3) (some N) 0 (.inl (Int64.toInt32 val))) (sN c3) (sU c3) = _
        rw [dF_at h37 D3]
        rfl
      have k16 : (sA r3 22 (n + 1)).toInt = 16 := by rw [W3.2.2.2.2.2.2.1.1]; rfl
      have hR := W3.1.trb (by omega) W3.lv k16 (Int64.toInt32 val)
      rw [ph1_s, W3.2.2.2.2.2.2.1.2.1, nu] at hR
      have W4 := W3.pt (j := 0) hR (fun a g1 g2 => hupN g1)
      have ob3 : ob (sD c3) (some N) 8 := ob_at h37 D3 rfl
      have oc3 : (oC (sD c3) (some N)).isSome = true := by rw [oC_at h37 D3]; rfl
      rw [eI, nu]
      exact ⟨W4.fin, ⟨(fun z => nomatch z), fun _ => ⟨by rw [← hN] at rmm; exact rmm, y2, ⟨⟨oc3, trivial⟩, oc3, ob3, trivial⟩, oc3, trivial⟩⟩, ⟨trivial, fun _ => ⟨t2, trivial, fun _ => ⟨vn, y5, vu, trivial⟩, (fun z => nomatch z)⟩, (fun z => nomatch z)⟩⟩
    · rw [y1, y3, show cn1 .ne (b2i false) = false from rfl, cond_false]
      dsimp only
      unfold t_Fo_readThing_62 w_Fo_readThing_62
      have w := (fl_st hW.1 hW.2.1 (k := 2) (by decide) (by decide)).2
      have D3 : sD (f_Le_fault c2 2) N = some (.inl (8, [.inl 0])) := by rw [w.2.2.2.2.2.1]; exact D2
      have eI : f_Tr_init (f_Le_fault c2 2) (some N) (Int64.toInt32 0) = pQ (f_Le_fault c2 2) (hup (sD c2) N (.inl (8, [.inl (Int64.toInt32 0)]))) (sN (f_Le_fault c2 2)) (sU (f_Le_fault c2 2)) := by
        show pQ (f_Le_fault c2 2) (dF (sD (f_Le_fault c2 2)) (some N) 0 (.inl (Int64.toInt32 0))) (sN (f_Le_fault c2 2)) (sU (f_Le_fault c2 2)) = _
        rw [dF_at h37 D3, w.2.2.2.2.2.1]
        rfl
      have ob3 : ob (sD (f_Le_fault c2 2)) (some N) 8 := ob_at h37 D3 rfl
      have oc3 : (oC (sD (f_Le_fault c2 2)) (some N)).isSome = true := by rw [oC_at h37 D3]; rfl
      refine ⟨hW.fl (by decide) (by decide) (fun a g1 g2 => hupN g1) (tho_at h37 hupS rfl) (by rw [eI]), ⟨(fun z => nomatch z), fun _ => ⟨by rw [← hN] at rmm; exact rmm, y2, ⟨⟨oc3, trivial⟩, oc3, ob3, trivial⟩, oc3, trivial⟩⟩, ⟨trivial, fun _ => ⟨t2, trivial, (fun z => nomatch z), fun _ => ⟨w_fails r2 2, trivial⟩⟩, (fun z => nomatch z)⟩⟩
  · rw [e1, e2]
    dsimp only
    unfold t_Fo_readThing_56 w_Fo_readThing_56 t_M_parseTrouble_3 w_M_parseTrouble_3
    rw [show cn1 .eq (b2i false) = true from rfl, cond_true, show cn1 .ne (b2i false) = false from rfl, cond_false]
    exact ⟨PRd.ful h hz, ⟨fun _ => trivial, (fun z => nomatch z)⟩, ⟨trivial, (fun z => nomatch z), fun _ => trivial⟩⟩
end PRX
