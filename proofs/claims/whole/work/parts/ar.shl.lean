/-! LOAD: grids and boxes -/
/-- a shelf that is being filled -/
def WS (G : AH) (T : Nat) (φ : Nat → Nat) (n u L m N : Nat) (k : Int32) (c0 r0 c r : St) (p : Nat) (φ1 : Nat → Nat) (n1 u1 : Nat) : Prop := RR G T φ1 n1 u1 c r ∧ EX (ph1 φ n N) (n + 1) φ1 n1 ∧ SZ c ∧ PL L p c r ∧ GF n u c0 r0 c r n1 u1 ∧ opC c0 c ∧ opR r0 r ∧ (sA r 22 (n + 1) = k ∧ sA r 23 (n + 1) = nI u ∧ sA r 24 (n + 1) = nI m) ∧ sN c0 ≤ N ∧ 37 ≤ N ∧ N + 1 < 601024 ∧ m ≤ 40000 ∧ u + m ≤ u1
section SHG
variable {G : AH} {T : Nat} {φ φ1 : Nat → Nat} {n u n1 u1 L p fu N m : Nat} {c r c0 r0 s : St} {k d : Int32} {rec : G_read} {wrec : GW_read} {recM : G_parse} {wrecM : GW_parse}
theorem WS.lv (h : WS G T φ n u L m N k c0 r0 c r p φ1 n1 u1) : (n + 1 ≤ n1 ∧ LVE φ1 (n + 1)) ∧ φ1 (n + 1) = N ∧ po φ1 (n + 1) = some N := by
  obtain ⟨a1, a2, -, -, -, -, -, -, -, a10, -⟩ := h
  have e : φ1 (n + 1) = N := (a2.2 (n + 1) (Nat.le_refl _)).trans (ph1_s _ _ _)
  exact ⟨LVE.tr (LVE.nw a10) a2, e, by rw [po_s _ (by omega), e]⟩
theorem WS.fin (h : WS G T φ n u L m N k c0 r0 c r p φ1 n1 u1) : PRd G T φ n u L c0 r0 (some N, c) (0, pI r 21 31 (nI (n + 1))) := by
  obtain ⟨l1, l2, l3⟩ := h.lv
  obtain ⟨a1, a2, a3, a4, a5, a6, a7, -⟩ := h
  have ht := a_tho a1.rt l1
  rw [l3] at ht
  have hR : RR G T φ1 n1 u1 c (pI r 21 31 (nI (n + 1))) := a1.rI (k := 31) _ (Or.inr (Or.inr (by decide)))
  exact ⟨n1, u1, a5.tr (GF.w rfl rfl rfl rfl rfl rfl rfl rfl rfl rfl), hR.rc, ⟨a3.1, Or.inl ⟨rfl, a3.2⟩⟩, a6, a7.tr (opR_31 _), ht, fun z => absurd (show (0 : Int32) = 2 from z) (by decide), fun _ => ⟨φ1, n + 1, p, hR, (ph1_ex φ n N).tr a2, l1, l3.symm, rfl, a4⟩⟩
/-- it has stopped: what was read is put, and that is all -/
theorem sl_stop {b : Int32} {f : Nat → Option Nat} {j : Nat} {y : Option Nat} (h37 : 37 ≤ N) (hj : j < m) (hm : m ≤ 40000) (hs : f_Le_stopped s = true) (d1 : sD s N = some (.inl (7, [.inl b, .inr (.inr (some (N + 1)))]))) (d2 : sD s (N + 1) = some (.inr (.inr (.inr (m, f))))) (hy : tho (sD s) y) (g : Nat) : (T_Fo_readShelf_40 rec fu (g + 2)).2.2.2 s d (nI m) (some N) (nI j) y = (some N, pQ s (hup (sD s) (N + 1) (.inr (.inr (.inr (m, va_up f j y))))) (sN s) (sU s)) ∧ (WT_Fo_readShelf_40 rec wrec fu (g + 2)).2.2.2 s d (nI m) (some N) (nI j) y := by
  have nj : (nI j).toNatClampNeg = j := nN (by omega)
  have sj : nI j + Int32.ofInt 1 = nI (j + 1) := nI_s j
  obtain ⟨s', hs'⟩ : ∃ s', s' = pQ s (hup (sD s) (N + 1) (.inr (.inr (.inr (m, va_up f j y))))) (sN s) (sU s) := ⟨_, rfl⟩
  have st' : f_Le_stopped s' = true := by rw [hs']; exact hs
  have a40 : (T_Fo_readShelf_40 rec fu (g + 1)).1 s' d (nI m) (some N) (nI (j + 1)) = (some N, s') := by
    show b_Fo_readShelf_40 rec fu (T_Fo_readShelf_40 rec fu g) s' d (nI m) (some N) (nI (j + 1)) = _
    unfold b_Fo_readShelf_40
    rw [st', show cn1 .ne (b2i true) = true from rfl, cond_true]
    cases cn2 .ge (nI (j + 1)) (nI m) <;> rfl
  have b40 : (WT_Fo_readShelf_40 rec wrec fu (g + 1)).1 s' d (nI m) (some N) (nI (j + 1)) := by
    show v_Fo_readShelf_40 rec wrec fu (T_Fo_readShelf_40 rec fu g) (WT_Fo_readShelf_40 rec wrec fu g) s' d (nI m) (some N) (nI (j + 1))
    unfold v_Fo_readShelf_40
    rw [st']
    exact ⟨fun _ => trivial, fun _ => ⟨trivial, fun _ => trivial, (fun z => nomatch z)⟩⟩
  have eg : gR (sD s) (some N) 1 = some (N + 1) := gR_at h37 d1 rfl
  have eD : dR (sD s) (some (N + 1)) (va_up (aRF (sD s) (some (N + 1))) j y) = hup (sD s) (N + 1) (.inr (.inr (.inr (m, va_up f j y)))) := by rw [dR_at (by omega) d2, aRF_at (by omega) d2]
  constructor
  · show b_Fo_readShelf_69 rec fu (T_Fo_readShelf_40 rec fu (g + 1)) s d (nI m) (some N) (nI j) y = _
    unfold b_Fo_readShelf_69
    rw [eg, nj, eD, sj, ← hs']
    exact a40
  · show v_Fo_readShelf_69 rec wrec fu (T_Fo_readShelf_40 rec fu (g + 1)) (WT_Fo_readShelf_40 rec wrec fu (g + 1)) s d (nI m) (some N) (nI j) y
    unfold v_Fo_readShelf_69
    rw [eg, nj, eD, sj, ← hs', aRN_at (by omega) d2]
    exact ⟨ob_at h37 d1 rfl, isR_at (by omega) d2, vp_n hj (by omega), hy, b40⟩
theorem sl_go (hI : RDI G T fu rec wrec recM wrecM (d + 1)) (hk : k.toInt = 9 ∨ k.toInt = 10) (wide : Int32) : ∀ (kk j p : Nat) (c r : St) (φ1 : Nat → Nat) (n1 u1 : Nat), j + kk = m → WS G T φ n u L m N k c0 r0 c r p φ1 n1 u1 → ∃ x q, (∀ g, 4 * kk + 2 ≤ g → (T_Fo_readShelf_40 rec fu g).1 c d (nI m) (some N) (nI j) = x ∧ (WT_Fo_readShelf_40 rec wrec fu g).1 c d (nI m) (some N) (nI j)) ∧ (∀ g, 4 * kk + 1 ≤ g → (T_M_parseMany_64 recM fu g).1 r k d (nI m) (nI (n + 1)) wide (nI j) = q ∧ (WT_M_parseMany_64 recM wrecM fu g).1 r k d (nI m) (nI (n + 1)) wide (nI j)) ∧ PRd G T φ n u L c0 r0 x q := by
  intro kk
  induction kk with
  | zero =>
    intro j p c r φ1 n1 u1 hj hW
    have hm : m ≤ 40000 := hW.2.2.2.2.2.2.2.2.2.2.2.1
    have ge : cn2 .ge (nI j) (nI m) = true := by rw [kge (by omega) (by omega)]; exact dt (by omega)
    refine ⟨(some N, c), (0, pI r 21 31 (nI (n + 1))), fun g hg => ?_, fun g hg => ?_, hW.fin⟩
    · obtain ⟨g, rfl⟩ : ∃ g', g = g' + 1 := ⟨g - 1, by omega⟩
      constructor
      · show b_Fo_readShelf_40 rec fu (T_Fo_readShelf_40 rec fu g) c d (nI m) (some N) (nI j) = _
        unfold b_Fo_readShelf_40
        rw [ge, cond_true]
      · show v_Fo_readShelf_40 rec wrec fu (T_Fo_readShelf_40 rec fu g) (WT_Fo_readShelf_40 rec wrec fu g) c d (nI m) (some N) (nI j)
        unfold v_Fo_readShelf_40
        rw [ge]
        exact ⟨fun _ => trivial, (fun z => nomatch z)⟩
    · obtain ⟨g, rfl⟩ : ∃ g', g = g' + 1 := ⟨g - 1, by omega⟩
      constructor
      · show b_M_parseMany_64 recM fu (T_M_parseMany_64 recM fu g) r k d (nI m) (nI (n + 1)) wide (nI j) = _
        unfold b_M_parseMany_64
        rw [ge, cond_true]
      · show v_M_parseMany_64 recM wrecM fu (T_M_parseMany_64 recM fu g) (WT_M_parseMany_64 recM wrecM fu g) r k d (nI m) (nI (n + 1)) wide (nI j)
        unfold v_M_parseMany_64
        rw [ge]
        exact ⟨fun _ => trivial, (fun z => nomatch z)⟩
  | succ kk ih =>
    intro j p c r φ1 n1 u1 hj hW
    obtain ⟨l1, l2, l3⟩ := hW.lv
    obtain ⟨a1, a2, a3, a4, a5, a6, a7, ⟨a8, a8', a8''⟩, a9, a10, a11, a12, a13⟩ := hW
    have hb := a1.bnd
    have ge : cn2 .ge (nI j) (nI m) = false := by rw [kge (by omega) (by omega)]; exact df (by omega)
    have ge9 : cn2 .ge k 9 = true := by rw [c2_ge, show ((9 : Int32).toInt) = 9 from rfl]; exact dt (by omega)
    have sj : nI j + Int32.ofInt 1 = nI (j + 1) := nI_s j
    have s0 : f_Le_stopped c = false := st_0 a3
    have ij : (nI j).toInt = (j : Int) := yI_i (by omega)
    have im : (nI m).toInt = (m : Int) := yI_i (by omega)
    have nj : (nI j).toNatClampNeg = j := nN (by omega)
    have nm : (nI m).toNatClampNeg = m := nN (by omega)
    have nu : (nI u).toNatClampNeg = u := nN (by omega)
    have nn : (nI (n + 1)).toNatClampNeg = n + 1 := nN (by omega)
    have vn : vp_in (nI (n + 1)) 40001 := n_vp (by omega)
    obtain ⟨b, f, d1, d2, d0, d3, d5, d6, d7, d8, d9⟩ := rd_shl a1.rt (show 1 ≤ n + 1 by omega) l1 (by rw [a8]; exact hk)
    rw [l2] at d1 d2 d6 d7
    rw [a8'', nm] at d2
    obtain ⟨P, wc, wr⟩ := hI φ1 n1 u1 L p c r a1 a3 a4
    obtain ⟨x, hx⟩ : ∃ x, x = rec.1 c (d + 1) := ⟨_, rfl⟩
    obtain ⟨q, hq⟩ : ∃ q, q = recM.1 r (d + 1) := ⟨_, rfl⟩
    rw [← hx, ← hq] at P
    have P0 := P
    obtain ⟨n', u', g, rc, sr, oc, or, th, ne2, suc⟩ := P
    have e1 : sD x.2 N = some (.inl (7, [.inl b, .inr (.inr (some (N + 1)))])) := (g.1 N (by omega)).trans d1
    have e2 : sD x.2 (N + 1) = some (.inr (.inr (.inr (m, f)))) := (g.1 (N + 1) (by omega)).trans d2
    -- the steps of the class up to the next one
    have C40 : ∀ g y, ((T_Fo_readShelf_40 rec fu g).2.1 x.2 d (nI m) (some N) (nI j) x.1 = y ∧ (WT_Fo_readShelf_40 rec wrec fu g).2.1 x.2 d (nI m) (some N) (nI j) x.1) → (T_Fo_readShelf_40 rec fu (g + 1)).1 c d (nI m) (some N) (nI j) = y ∧ (WT_Fo_readShelf_40 rec wrec fu (g + 1)).1 c d (nI m) (some N) (nI j) := fun g y hy => by
      constructor
      · show b_Fo_readShelf_40 rec fu (T_Fo_readShelf_40 rec fu g) c d (nI m) (some N) (nI j) = _
        unfold b_Fo_readShelf_40
        rw [ge, cond_false, s0, show cn1 .ne (b2i false) = false from rfl, cond_false, ← hx]
        exact hy.1
      · show v_Fo_readShelf_40 rec wrec fu (T_Fo_readShelf_40 rec fu g) (WT_Fo_readShelf_40 rec wrec fu g) c d (nI m) (some N) (nI j)
        unfold v_Fo_readShelf_40
        rw [ge, s0, ← hx]
        exact ⟨(fun z => nomatch z), fun _ => ⟨trivial, (fun z => nomatch z), fun _ => ⟨wc, hy.2⟩⟩⟩
    have M64 : ∀ g y, ((T_M_parseMany_64 recM fu g).2.2.2.1 q.2 k d (nI m) (nI (n + 1)) wide (nI j) q.1 = y ∧ (WT_M_parseMany_64 recM wrecM fu g).2.2.2.1 q.2 k d (nI m) (nI (n + 1)) wide (nI j) q.1) → (T_M_parseMany_64 recM fu (g + 1)).1 r k d (nI m) (nI (n + 1)) wide (nI j) = y ∧ (WT_M_parseMany_64 recM wrecM fu (g + 1)).1 r k d (nI m) (nI (n + 1)) wide (nI j) := fun g y hy => by
      constructor
      · show b_M_parseMany_64 recM fu (T_M_parseMany_64 recM fu g) r k d (nI m) (nI (n + 1)) wide (nI j) = _
        unfold b_M_parseMany_64
        rw [ge, cond_false, ge9, cond_true, ← hq]
        exact hy.1
      · show v_M_parseMany_64 recM wrecM fu (T_M_parseMany_64 recM fu g) (WT_M_parseMany_64 recM wrecM fu g) r k d (nI m) (nI (n + 1)) wide (nI j)
        unfold v_M_parseMany_64
        rw [ge, ge9, ← hq]
        exact ⟨(fun z => nomatch z), fun _ => ⟨fun _ => ⟨wr, hy.2⟩, (fun z => nomatch z)⟩⟩
    have thD : ∀ (s : St), sD s = sD x.2 → tho (hup (sD s) (N + 1) (.inr (.inr (.inr (m, va_up f j x.1))))) (some N) := fun s hs => by
      rw [hs]
      exact tho_at a10 ((hupN (by omega)).trans e1) rfl
    by_cases q0 : ¬ q.1 = 0
    · have sf : f_Le_stopped x.2 = true := by rw [st_f sr]; exact dt q0
      have eq0 : cn1 .eq q.1 = false := by rw [c1_eq]; exact df (fun y => q0 (Int32.toInt_inj.mp (by rw [y]; rfl)))
      refine ⟨(some N, pQ x.2 (hup (sD x.2) (N + 1) (.inr (.inr (.inr (m, va_up f j x.1))))) (sN x.2) (sU x.2)), q, fun g hg => ?_, fun g hg => ?_, PRd.st a5 a6 a7 P0 q0 (fun a ha => hupN (by omega)) (thD x.2 rfl) rfl⟩
      · obtain ⟨g, rfl⟩ : ∃ g', g = g' + 4 + 1 := ⟨g - 5, by omega⟩
        obtain ⟨z1, z2⟩ := sl_stop (rec := rec) (wrec := wrec) (fu := fu) (d := d) a10 (show j < m by omega) a12 sf e1 e2 th g
        refine C40 (g + 4) _ ?_
        constructor
        · show b_Fo_readShelf_52 rec fu (T_Fo_readShelf_40 rec fu (g + 3)) x.2 d (nI m) (some N) (nI j) x.1 = _
          unfold b_Fo_readShelf_52
          rw [sf, show cn1 .eq (b2i true) = false from rfl, cond_false]
          show b_Fo_readShelf_62 rec fu (T_Fo_readShelf_40 rec fu (g + 2)) x.2 d (nI m) (some N) (nI j) x.1 0 = _
          unfold b_Fo_readShelf_62
          rw [show cn1 .eq (0 : Int32) = true from rfl, cond_true]
          exact z1
        · show v_Fo_readShelf_52 rec wrec fu (T_Fo_readShelf_40 rec fu (g + 3)) (WT_Fo_readShelf_40 rec wrec fu (g + 3)) x.2 d (nI m) (some N) (nI j) x.1
          unfold v_Fo_readShelf_52
          rw [sf]
          refine ⟨trivial, (fun z => nomatch z), fun _ => ?_⟩
          show v_Fo_readShelf_62 rec wrec fu (T_Fo_readShelf_40 rec fu (g + 2)) (WT_Fo_readShelf_40 rec wrec fu (g + 2)) x.2 d (nI m) (some N) (nI j) x.1 0
          unfold v_Fo_readShelf_62
          exact ⟨fun _ => z2, (fun z => nomatch z)⟩
      · obtain ⟨g, rfl⟩ : ∃ g', g = g' + 1 + 1 := ⟨g - 2, by omega⟩
        refine M64 (g + 1) _ ?_
        constructor
        · show b_M_parseMany_120 recM fu (T_M_parseMany_64 recM fu g) q.2 k d (nI m) (nI (n + 1)) wide (nI j) q.1 = _
          unfold b_M_parseMany_120
          rw [eq0, cond_false]
        · show v_M_parseMany_120 recM wrecM fu (T_M_parseMany_64 recM fu g) (WT_M_parseMany_64 recM wrecM fu g) q.2 k d (nI m) (nI (n + 1)) wide (nI j) q.1
          unfold v_M_parseMany_120
          rw [eq0]
          exact ⟨(fun z => nomatch z), fun _ => trivial⟩
    have q0 : q.1 = 0 := Decidable.not_not.mp q0
    have sf : f_Le_stopped x.2 = false := by rw [st_f sr]; exact df (fun z => z q0)
    have eq0 : cn1 .eq q.1 = true := by rw [q0]; rfl
    obtain ⟨φ', v, p', b1, b2, b3, b4, b5, b6⟩ := suc q0
    have hb' := b1.bnd
    have zx : SZ x.2 := SR.s0 (q0 ▸ sr)
    have hl' : n + 1 ≤ n' ∧ LVE φ' (n + 1) := LVE.tr l1 b2
    have eN : φ' (n + 1) = N := (b2.2 (n + 1) l1.1).trans l2
    have pN : po φ' (n + 1) = some N := by rw [po_s _ (by omega), eN]
    obtain ⟨K', S', M', Q'⟩ := g.2.2.2.2.1 (n + 1) l1.1
    rw [a8] at K'
    rw [a8'] at S'
    rw [a8''] at M'
    have hk' : (sA q.2 22 (n + 1)).toInt = 9 ∨ (sA q.2 22 (n + 1)).toInt = 10 := by rw [K']; exact hk
    have kl : cn1 .le (nI v) = decide (v = 0) := by rw [c1_le, yI_i (by omega)]; exact decide_eq_decide.mpr (by omega)
    have nv : (nI v).toNatClampNeg = v := nN (by omega)
    have vv : vp_in (nI v) 40001 := n_vp (by omega)
    obtain ⟨rf1, rf2⟩ := rf_C b1 hl' hk' b3
    obtain ⟨go1, go2, go3⟩ := go_M b1 hl' hk' b3
    rw [pN, ← b4] at rf1 rf2 go1 go3
    obtain ⟨R, hR⟩ : ∃ R, R = f_Sh_refusal x.2 (some N) x.1 := ⟨_, rfl⟩
    rw [← hR] at rf1 go1 go3
    have o7 : oC (sD x.2) (some N) = some 7 := oC_at a10 e1
    have gg : GF n u c0 r0 x.2 q.2 n' u' := a5.tr g
    have ip := ip_M (r := q.2) (v := v) (by omega)
    -- the reference, when it is put
    have M120 : ∀ gn y, (v = 0 ∨ (k.toInt = 9 → (sA q.2 22 v).toInt = 4) ∧ (k.toInt = 10 → 11 ≤ (sA q.2 22 v).toInt ∧ (sA q.2 22 v).toInt ≤ 15)) → ((T_M_parseMany_64 recM fu gn).2.2.2.2.1 q.2 k d (nI m) (nI (n + 1)) wide (nI j) = y ∧ (WT_M_parseMany_64 recM wrecM fu gn).2.2.2.2.1 q.2 k d (nI m) (nI (n + 1)) wide (nI j)) → (T_M_parseMany_64 recM fu (gn + 1)).2.2.2.1 q.2 k d (nI m) (nI (n + 1)) wide (nI j) q.1 = y ∧ (WT_M_parseMany_64 recM wrecM fu (gn + 1)).2.2.2.1 q.2 k d (nI m) (nI (n + 1)) wide (nI j) q.1 := fun gn y hv hy => by
      have e9 : cn2 .ne k 9 = decide (¬ k.toInt = 9) := c2_ne k 9
      have e4 : cn2 .eq (sA q.2 22 v) 4 = decide ((sA q.2 22 v).toInt = 4) := c2_eq _ 4
      have fin : (T_M_parseMany_64 recM fu (gn + 1)).2.2.2.1 q.2 k d (nI m) (nI (n + 1)) wide (nI j) q.1 = b_M_parseMany_120 recM fu (T_M_parseMany_64 recM fu gn) q.2 k d (nI m) (nI (n + 1)) wide (nI j) q.1 := rfl
      have finw : (WT_M_parseMany_64 recM wrecM fu (gn + 1)).2.2.2.1 q.2 k d (nI m) (nI (n + 1)) wide (nI j) q.1 = v_M_parseMany_120 recM wrecM fu (T_M_parseMany_64 recM fu gn) (WT_M_parseMany_64 recM wrecM fu gn) q.2 k d (nI m) (nI (n + 1)) wide (nI j) q.1 := rfl
      rw [fin, finw]
      unfold b_M_parseMany_120 v_M_parseMany_120
      rw [eq0, cond_true, b5, kl, nv, e9, e4, ip.1]
      by_cases v0 : v = 0
      · rw [dt v0, cond_true]
        exact ⟨hy.1, fun _ => ⟨fun _ => hy.2, (fun z => nomatch z)⟩, (fun z => nomatch z)⟩
      · obtain ⟨h9, h10⟩ := hv.resolve_left v0
        rw [df v0, cond_false]
        by_cases k9 : k.toInt = 9
        · rw [df (fun z => z k9 : ¬ ¬ k.toInt = 9), cond_false, dt (h9 k9), cond_true]
          exact ⟨hy.1, fun _ => ⟨(fun z => nomatch z), fun _ => ⟨(fun z => nomatch z), fun _ => ⟨vv, fun _ => hy.2, (fun z => nomatch z)⟩⟩⟩, (fun z => nomatch z)⟩
        · rw [dt k9, cond_true, dt (h10 (by omega)), show cn1 .ne (b2i true) = true from rfl, cond_true]
          exact ⟨hy.1, fun _ => ⟨(fun z => nomatch z), fun _ => ⟨fun _ => ⟨ip.2, fun _ => hy.2, (fun z => nomatch z)⟩, (fun z => nomatch z)⟩⟩, (fun z => nomatch z)⟩
    -- the class, when it is refused
    have Cno : ∀ kf : Int32, R = kf → 1 ≤ kf.toInt → kf.toInt ≤ 8 → (∀ gn, 4 * (kk + 1) + 2 ≤ gn → (T_Fo_readShelf_40 rec fu gn).1 c d (nI m) (some N) (nI j) = (some N, pQ (f_Le_fault x.2 kf) (hup (sD (f_Le_fault x.2 kf)) (N + 1) (.inr (.inr (.inr (m, va_up f j x.1))))) (sN (f_Le_fault x.2 kf)) (sU (f_Le_fault x.2 kf))) ∧ (WT_Fo_readShelf_40 rec wrec fu gn).1 c d (nI m) (some N) (nI j)) ∧ PRd G T φ n u L c0 r0 (some N, pQ (f_Le_fault x.2 kf) (hup (sD (f_Le_fault x.2 kf)) (N + 1) (.inr (.inr (.inr (m, va_up f j x.1))))) (sN (f_Le_fault x.2 kf)) (sU (f_Le_fault x.2 kf))) (f_M_fails q.2 kf) := fun kf eR kf1 kf2 => by
      obtain ⟨sff, wff⟩ := fl_st b1 zx kf1 kf2
      have eD := wff.2.2.2.2.2.1
      refine ⟨fun gn hg => ?_, PRd.st gg (a6.tr oc) (a7.tr or) (PRd.fl (L := L) b1 zx kf1 kf2 (tho_n _)) (fl_ne _ _) (fun a ha => hupN (by omega)) (thD _ eD) rfl⟩
      obtain ⟨gn, rfl⟩ : ∃ g', gn = g' + 4 + 1 := ⟨gn - 5, by omega⟩
      obtain ⟨z1, z2⟩ := sl_stop (s := f_Le_fault x.2 kf) (rec := rec) (wrec := wrec) (fu := fu) (d := d) a10 (show j < m by omega) a12 sff (by rw [eD]; exact e1) (by rw [eD]; exact e2) (by rw [eD]; exact th) gn
      have ne0 : cn1 .eq kf = false := by rw [c1_eq]; exact df (by omega)
      refine C40 (gn + 4) _ ?_
      constructor
      · show b_Fo_readShelf_52 rec fu (T_Fo_readShelf_40 rec fu (gn + 3)) x.2 d (nI m) (some N) (nI j) x.1 = _
        unfold b_Fo_readShelf_52
        rw [sf, show cn1 .eq (b2i false) = true from rfl, cond_true, ← hR, eR]
        show b_Fo_readShelf_62 rec fu (T_Fo_readShelf_40 rec fu (gn + 2)) x.2 d (nI m) (some N) (nI j) x.1 kf = _
        unfold b_Fo_readShelf_62
        rw [ne0, cond_false]
        exact z1
      · show v_Fo_readShelf_52 rec wrec fu (T_Fo_readShelf_40 rec fu (gn + 3)) (WT_Fo_readShelf_40 rec wrec fu (gn + 3)) x.2 d (nI m) (some N) (nI j) x.1
        unfold v_Fo_readShelf_52
        rw [sf, ← hR, eR]
        refine ⟨trivial, fun _ => ⟨rf2, o7, ?_⟩, (fun z => nomatch z)⟩
        show v_Fo_readShelf_62 rec wrec fu (T_Fo_readShelf_40 rec fu (gn + 2)) (WT_Fo_readShelf_40 rec wrec fu (gn + 2)) x.2 d (nI m) (some N) (nI j) x.1 kf
        unfold v_Fo_readShelf_62
        rw [ne0]
        exact ⟨(fun z => nomatch z), fun _ => ⟨w_fault x.2 kf, z2⟩⟩
    by_cases R0 : R = 0
    · have hg := go3.mp R0
      have hput := b1.shlput hl' hk' (i := j) (x := v) (by rw [M', nm]; omega) b3 hg
      rw [eN, S', nu, ← b4] at hput
      have eD : dR (sD x.2) (some (N + 1)) (va_up (aRF (sD x.2) (some (N + 1))) j x.1) = hup (sD x.2) (N + 1) (.inr (.inr (.inr (m, va_up f j x.1)))) := by rw [dR_at (by omega) e2, aRF_at (by omega) e2]
      have eg : gR (sD x.2) (some N) 1 = some (N + 1) := gR_at a10 e1 rfl
      obtain ⟨c3, hc3⟩ : ∃ c3, c3 = pQ x.2 (dR (sD x.2) (some (N + 1)) (va_up (aRF (sD x.2) (some (N + 1))) j x.1)) (sN x.2) (sU x.2) := ⟨_, rfl⟩
      obtain ⟨r3, hr3⟩ : ∃ r3, r3 = pB q.2 26 (vp_updL (sB q.2 26) (u + j) (lN v)) := ⟨_, rfl⟩
      rw [← hc3, ← hr3] at hput
      have W3 : WS G T φ n u L m N k c0 r0 c3 r3 p' φ' n' u' := by
        obtain ⟨h1, h2, h3, h4, h5, h6, h7, h8, h9⟩ := gg
        refine ⟨hput, a2.tr b2, by rw [hc3]; exact zx, by rw [hc3, hr3]; exact b6, ⟨fun a ha => ?_, by rw [hc3]; exact h2, h3, h4, by rw [hr3]; exact h5, fun i hi => ?_, by rw [hc3]; exact h7, by rw [hr3]; exact h8, by rw [hr3]; exact h9⟩, by rw [hc3]; exact (a6.tr oc).tr (opC_Q _ _ _ _), by rw [hr3]; exact (a7.tr or).tr (opR_B _ (Or.inl rfl) _), by rw [hr3]; exact ⟨K', S', M'⟩, a9, a10, a11, a12, by have := g.2.2.2.1; omega⟩
        · rw [hc3, eD]
          exact (hupN (by omega)).trans (h1 a ha)
        · rw [hr3]
          exact (show vp_updL (sB q.2 26) (u + j) (lN v) i = sB q.2 26 i from if_neg (by omega)).trans (h6 i hi)
      obtain ⟨y, w, y1, y2, y3⟩ := ih (j + 1) p' c3 r3 φ' n' u' (by omega) W3
      refine ⟨y, w, fun gn hg' => ?_, fun gn hg' => ?_, y3⟩
      · obtain ⟨gn, rfl⟩ : ∃ g', gn = g' + 3 + 1 := ⟨gn - 4, by omega⟩
        obtain ⟨z1, z2⟩ := y1 gn (by omega)
        refine C40 (gn + 3) _ ?_
        constructor
        · show b_Fo_readShelf_52 rec fu (T_Fo_readShelf_40 rec fu (gn + 2)) x.2 d (nI m) (some N) (nI j) x.1 = _
          unfold b_Fo_readShelf_52
          rw [sf, show cn1 .eq (b2i false) = true from rfl, cond_true, ← hR, R0]
          show b_Fo_readShelf_62 rec fu (T_Fo_readShelf_40 rec fu (gn + 1)) x.2 d (nI m) (some N) (nI j) x.1 0 = _
          unfold b_Fo_readShelf_62
          rw [show cn1 .eq (0 : Int32) = true from rfl, cond_true]
          show b_Fo_readShelf_69 rec fu (T_Fo_readShelf_40 rec fu gn) x.2 d (nI m) (some N) (nI j) x.1 = _
          unfold b_Fo_readShelf_69
          rw [eg, nj, sj, ← hc3]
          exact z1
        · show v_Fo_readShelf_52 rec wrec fu (T_Fo_readShelf_40 rec fu (gn + 2)) (WT_Fo_readShelf_40 rec wrec fu (gn + 2)) x.2 d (nI m) (some N) (nI j) x.1
          unfold v_Fo_readShelf_52
          rw [sf, ← hR, R0]
          refine ⟨trivial, fun _ => ⟨rf2, o7, ?_⟩, (fun z => nomatch z)⟩
          show v_Fo_readShelf_62 rec wrec fu (T_Fo_readShelf_40 rec fu (gn + 1)) (WT_Fo_readShelf_40 rec wrec fu (gn + 1)) x.2 d (nI m) (some N) (nI j) x.1 0
          unfold v_Fo_readShelf_62
          refine ⟨fun _ => ?_, (fun z => nomatch z)⟩
          show v_Fo_readShelf_69 rec wrec fu (T_Fo_readShelf_40 rec fu gn) (WT_Fo_readShelf_40 rec wrec fu gn) x.2 d (nI m) (some N) (nI j) x.1
          unfold v_Fo_readShelf_69
          rw [eg, nj, sj, ← hc3, aRN_at (by omega) e2]
          exact ⟨ob_at a10 e1 rfl, isR_at (by omega) e2, vp_n (by omega) (by omega), th, z2⟩
      · obtain ⟨gn, rfl⟩ : ∃ g', gn = g' + 3 + 1 := ⟨gn - 4, by omega⟩
        obtain ⟨z1, z2⟩ := y2 gn (by omega)
        refine M64 (gn + 3) _ (M120 (gn + 2) _ ?_ ?_)
        · refine hg.imp id (fun z => ⟨fun k9 => ?_, fun k10 => ?_⟩)
          · rcases z with z | z
            · exact z.2
            · rw [K'] at z; exact absurd z.1 (by omega)
          · rcases z with z | z
            · rw [K'] at z; exact absurd z.1 (by omega)
            · exact ⟨z.2.1, z.2.2.1⟩
        · have gt : f_M_goes q.2 (nI v) (nI (n + 1)) = true := by rw [go1]; exact dt R0
          have sx : (nI u + nI j).toNatClampNeg = u + j := by rw [nAd]; exact nN (by omega)
          have vx : vp_in (nI u + nI j) 40001 := by rw [nAd]; exact vp_n (by have := g.2.2.2.1; omega) (by omega)
          constructor
          · show b_M_parseMany_148 recM fu (T_M_parseMany_64 recM fu (gn + 1)) q.2 k d (nI m) (nI (n + 1)) wide (nI j) = _
            unfold b_M_parseMany_148
            rw [b5, gt, show cn1 .ne (b2i true) = true from rfl, cond_true, nn, S', sx, nI_L (by omega), ← hr3]
            show b_M_parseMany_170 recM fu (T_M_parseMany_64 recM fu gn) r3 k d (nI m) (nI (n + 1)) wide (nI j) = _
            unfold b_M_parseMany_170
            rw [sj]
            exact z1
          · show v_M_parseMany_148 recM wrecM fu (T_M_parseMany_64 recM fu (gn + 1)) (WT_M_parseMany_64 recM wrecM fu (gn + 1)) q.2 k d (nI m) (nI (n + 1)) wide (nI j)
            unfold v_M_parseMany_148
            rw [b5, gt, nn, S', sx, nI_L (by omega), ← hr3]
            refine ⟨go2, fun _ => ⟨vn, vx, ?_⟩, (fun z => nomatch z)⟩
            show v_M_parseMany_170 recM wrecM fu (T_M_parseMany_64 recM fu gn) (WT_M_parseMany_64 recM wrecM fu gn) r3 k d (nI m) (nI (n + 1)) wide (nI j)
            unfold v_M_parseMany_170
            rw [sj]
            exact z2
    · have v0 : ¬ v = 0 := fun z => R0 (go3.mpr (Or.inl z))
      rw [if_neg v0, K'] at rf1
      have e9 : cn2 .ne k 9 = decide (¬ k.toInt = 9) := c2_ne k 9
      have e4 : cn2 .eq (sA q.2 22 v) 4 = decide ((sA q.2 22 v).toInt = 4) := c2_eq _ 4
      -- the reference, when it is refused at once
      have M4 : ((k.toInt = 9 ∧ ¬ (sA q.2 22 v).toInt = 4) ∨ (¬ k.toInt = 9 ∧ ¬ (11 ≤ (sA q.2 22 v).toInt ∧ (sA q.2 22 v).toInt ≤ 15))) → ∀ gn, 4 * (kk + 1) + 1 ≤ gn → (T_M_parseMany_64 recM fu gn).1 r k d (nI m) (nI (n + 1)) wide (nI j) = f_M_fails q.2 4 ∧ (WT_M_parseMany_64 recM wrecM fu gn).1 r k d (nI m) (nI (n + 1)) wide (nI j) := fun hv gn hg' => by
        obtain ⟨gn, rfl⟩ : ∃ g', gn = g' + 1 + 1 := ⟨gn - 2, by omega⟩
        refine M64 (gn + 1) _ ?_
        have fin : (T_M_parseMany_64 recM fu (gn + 1)).2.2.2.1 q.2 k d (nI m) (nI (n + 1)) wide (nI j) q.1 = b_M_parseMany_120 recM fu (T_M_parseMany_64 recM fu gn) q.2 k d (nI m) (nI (n + 1)) wide (nI j) q.1 := rfl
        have finw : (WT_M_parseMany_64 recM wrecM fu (gn + 1)).2.2.2.1 q.2 k d (nI m) (nI (n + 1)) wide (nI j) q.1 = v_M_parseMany_120 recM wrecM fu (T_M_parseMany_64 recM fu gn) (WT_M_parseMany_64 recM wrecM fu gn) q.2 k d (nI m) (nI (n + 1)) wide (nI j) q.1 := rfl
        rw [fin, finw]
        unfold b_M_parseMany_120 v_M_parseMany_120 t_M_parseMany_144 w_M_parseMany_144
        rw [eq0, cond_true, b5, kl, nv, e9, e4, ip.1, df v0, cond_false]
        rcases hv with ⟨h1, h2⟩ | ⟨h1, h2⟩
        · rw [df (fun z => z h1 : ¬ ¬ k.toInt = 9), cond_false, df h2, cond_false]
          exact ⟨rfl, fun _ => ⟨(fun z => nomatch z), fun _ => ⟨(fun z => nomatch z), fun _ => ⟨vv, (fun z => nomatch z), fun _ => ⟨w_fails q.2 4, trivial⟩⟩⟩⟩, (fun z => nomatch z)⟩
        · rw [dt h1, cond_true, df h2, show cn1 .ne (b2i false) = false from rfl, cond_false]
          exact ⟨rfl, fun _ => ⟨(fun z => nomatch z), fun _ => ⟨fun _ => ⟨ip.2, (fun z => nomatch z), fun _ => ⟨w_fails q.2 4, trivial⟩⟩, (fun z => nomatch z)⟩⟩, (fun z => nomatch z)⟩
      by_cases k9 : k.toInt = 9
      · rw [if_pos k9] at rf1
        by_cases k4 : (sA q.2 22 v).toInt = 4
        · rw [if_pos k4] at rf1; exact absurd rf1 R0
        · rw [if_neg k4] at rf1
          obtain ⟨z1, z2⟩ := Cno 4 rf1 (by decide) (by decide)
          exact ⟨_, _, z1, M4 (Or.inl ⟨k9, k4⟩), z2⟩
      · rw [if_neg k9] at rf1
        by_cases kp : 11 ≤ (sA q.2 22 v).toInt ∧ (sA q.2 22 v).toInt ≤ 15
        · rw [if_pos kp] at rf1
          by_cases kb : f_M_isBelow (sA q.2 22 v - 11) (sA q.2 25 (n + 1)) = true
          · rw [if_pos kb] at rf1; exact absurd rf1 R0
          · rw [if_neg kb] at rf1
            obtain ⟨z1, z2⟩ := Cno 5 rf1 (by decide) (by decide)
            refine ⟨_, _, z1, fun gn hg' => ?_, z2⟩
            obtain ⟨gn, rfl⟩ : ∃ g', gn = g' + 2 + 1 := ⟨gn - 3, by omega⟩
            refine M64 (gn + 2) _ (M120 (gn + 1) _ (Or.inr ⟨fun z => absurd z k9, fun _ => kp⟩) ?_)
            have gt : f_M_goes q.2 (nI v) (nI (n + 1)) = false := by rw [go1]; exact df R0
            constructor
            · show b_M_parseMany_148 recM fu (T_M_parseMany_64 recM fu gn) q.2 k d (nI m) (nI (n + 1)) wide (nI j) = _
              unfold b_M_parseMany_148
              rw [b5, gt, show cn1 .ne (b2i false) = false from rfl, cond_false]
            · show v_M_parseMany_148 recM wrecM fu (T_M_parseMany_64 recM fu gn) (WT_M_parseMany_64 recM wrecM fu gn) q.2 k d (nI m) (nI (n + 1)) wide (nI j)
              unfold v_M_parseMany_148
              rw [b5, gt]
              exact ⟨go2, (fun z => nomatch z), fun _ => ⟨w_fails q.2 5, trivial⟩⟩
        · rw [if_neg kp] at rf1
          obtain ⟨z1, z2⟩ := Cno 4 rf1 (by decide) (by decide)
          exact ⟨_, _, z1, M4 (Or.inr ⟨k9, kp⟩), z2⟩
end SHG
