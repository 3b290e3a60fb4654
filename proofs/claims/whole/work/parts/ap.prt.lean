/-! LOAD: parts -/
/-- what is known of reading at the next depth -/
def RDI (G : AH) (T fu : Nat) (rec : G_read) (wrec : GW_read) (recM : G_parse) (wrecM : GW_parse) (d : Int32) : Prop := ∀ (φ : Nat → Nat) (n u L p : Nat) (c r : St), RR G T φ n u c r → SZ c → PL L p c r → PRd G T φ n u L c r (rec.1 c d) (recM.1 r d) ∧ wrec.1 c d ∧ wrecM.1 r d
section PRT
variable {G : AH} {T : Nat} {φ : Nat → Nat} {n u L p fu N t : Nat} {c r c0 r0 : St} {k m d : Int32} {rec recI : G_read} {wrec wrecI : GW_read} {recM : G_parse} {wrecM : GW_parse}
theorem fd_rr (h : RR G T φ n u c r) (y0 : t ≤ n ∧ LVE φ t) (k1 : 11 ≤ (sA r 22 t).toInt) (k2 : (sA r 22 t).toInt ≤ 15) :
    (∀ x : Int32, RR G T φ n u (pQ c (dF (sD c) (po φ t) 1 (.inl x)) (sN c) (sU c)) (pB r 26 (vp_updL (sB r 26) ((sA r 23 t).toNatClampNeg) x.toInt64))) ∧
    (∀ x : Int64, KP x → RR G T φ n u (pQ c (dF (sD c) (po φ t) 2 (.inr (.inl x))) (sN c) (sU c)) (pB r 26 (vp_updL (sB r 26) ((sA r 23 t).toNatClampNeg + 1) x))) ∧
    (∀ x : Int32, RR G T φ n u (pQ c (dF (sD c) (po φ t) 3 (.inl x)) (sN c) (sU c)) (pB r 26 (vp_updL (sB r 26) ((sA r 23 t).toNatClampNeg + 2) x.toInt64))) ∧
    (∀ x : Nat, (x ≤ n ∧ LVE φ x) → (x = 0 ∨ (sA r 22 x).toInt = 10) → RR G T φ n u (pQ c (dF (sD c) (po φ t) 4 (.inr (.inr (po φ x)))) (sN c) (sU c)) (pB r 26 (vp_updL (sB r 26) ((sA r 23 t).toNatClampNeg + 3) (lN x)))) ∧
    (∀ (j : Nat) (y : AV) (a : Nat), a ≠ φ t → dF (sD c) (po φ t) j y a = sD c a) ∧ (∀ (j : Nat) (y : AV), kv y = kv (([.inl 0, .inl 0, .inr (.inl 0), .inl 0, .inr (.inr none)] : List AV).getD j (.inl 0)) → j < 5 → tho (dF (sD c) (po φ t) j y) (po φ t) ∧ ob (dF (sD c) (po φ t) j y) (po φ t) 4) := by
  have g0 := k_pos h.rt (v := t) (by omega)
  obtain ⟨q', p', w', x', d1, d2, d3, d4, d5, d6, d7, d8, d9, d10, d11, d12⟩ := rd_prt h.rt (show 1 ≤ t by omega) y0 k1 k2
  rw [po_s φ (show 1 ≤ t by omega)]
  refine ⟨fun x => ?_, fun x hx => ?_, fun x => ?_, fun x hx hk => ?_, fun j y a ha => ?_, fun j y hy hj => ?_⟩
  · rw [dF_at d9 d1]
    exact h.prt y0 k1 k2 (q := x) (p := p') (w := w') (x := x') (fun j hj => up_n _ _ (by omega)) (up_s _ _ _) ((up_n _ _ (by omega)).trans d3) d4 ((up_n _ _ (by omega)).trans d5) ((up_n _ _ (by omega)).trans d6) d7 d8
  · rw [dF_at d9 d1]
    exact h.prt y0 k1 k2 (q := q') (p := p') (w := x) (x := x') (fun j hj => up_n _ _ (by omega)) ((up_n _ _ (by omega)).trans d2) (up_s _ _ _) hx ((up_n _ _ (by omega)).trans d5) ((up_n _ _ (by omega)).trans d6) d7 d8
  · rw [dF_at d9 d1]
    exact h.prt y0 k1 k2 (q := q') (p := x) (w := w') (x := x') (fun j hj => up_n _ _ (by omega)) ((up_n _ _ (by omega)).trans d2) ((up_n _ _ (by omega)).trans d3) d4 (up_s _ _ _) ((up_n _ _ (by omega)).trans d6) d7 d8
  · rw [dF_at d9 d1]
    exact h.prt y0 k1 k2 (q := q') (p := p') (w := w') (x := x) (fun j hj => up_n _ _ (by omega)) ((up_n _ _ (by omega)).trans d2) ((up_n _ _ (by omega)).trans d3) d4 ((up_n _ _ (by omega)).trans d5) (up_s _ _ _) hx hk
  · rw [dF_at d9 d1]
    exact hupN ha
  · rw [dF_at d9 d1]
    refine ⟨tho_at d9 hupS rfl, ob_at d9 hupS ?_⟩
    match j, hj with
    | 0, _ => exact congrArg (fun z => [z, 0, 1, 0, 2]) hy
    | 1, _ => exact congrArg (fun z => [0, z, 1, 0, 2]) hy
    | 2, _ => exact congrArg (fun z => [0, 0, z, 0, 2]) hy
    | 3, _ => exact congrArg (fun z => [0, 0, 1, z, 2]) hy
    | 4, _ => exact congrArg (fun z => [0, 0, 1, 0, z]) hy
/-- it has stopped -/
theorem p41_s (hs : f_Le_stopped c = true) (v1 v2 : Int32) (o : Option Nat) : t_Fo_readPart_41 rec fu c v1 v2 o = (o, c) ∧ w_Fo_readPart_41 rec wrec fu c v1 v2 o ∧ t_Fo_readPart_28 rec fu c v1 v2 o = (o, c) ∧ w_Fo_readPart_28 rec wrec fu c v1 v2 o := by
  have a : t_Fo_readPart_41 rec fu c v1 v2 o = (o, c) := by
    unfold t_Fo_readPart_41
    rw [hs, show cn1 .ne (b2i true) = true from rfl, cond_true]
  have b : w_Fo_readPart_41 rec wrec fu c v1 v2 o := by
    unfold w_Fo_readPart_41
    rw [hs]
    exact ⟨trivial, fun _ => trivial, (fun z => nomatch z)⟩
  refine ⟨a, b, ?_, ?_⟩
  · unfold t_Fo_readPart_28
    rw [hs, show cn1 .ne (b2i true) = true from rfl, cond_true]
    exact a
  · unfold w_Fo_readPart_28
    rw [hs]
    exact ⟨trivial, fun _ => b, (fun z => nomatch z)⟩
theorem up_id (f : Nat → Int64) (k : Nat) (x : Int64) (h : f k = x) : vp_updL f k x = f := by
  funext j
  unfold vp_updL
  by_cases e : j = k
  · rw [if_pos e, e, h]
  · rw [if_neg e]
/-- a fault behind what was made -/
theorem PRd.f4 {φ1 : Nat → Nat} {n1 u1 : Nat} {c1 r1 : St} (g : GF n u c r c1 r1 n1 u1) (hc : opC c c1) (hr : opR r r1) (h : RR G T φ1 n1 u1 c1 r1) (hz : SZ c1) {kk : Int32} (k1 : 1 ≤ kk.toInt) (k2 : kk.toInt ≤ 8) {o : Option Nat} (ho : tho (sD c1) o) : PRd G T φ n u L c r (o, f_Le_fault c1 kk) (f_M_fails r1 kk) := by
  have w := (fl_st h hz k1 k2).2.2.2.2.2.2.1
  have P := PRd.fl (L := L) h hz k1 k2 (tho_n (sD c1))
  obtain ⟨cF, hcF⟩ : ∃ cF, cF = f_Le_fault c1 kk := ⟨_, rfl⟩
  rw [← hcF] at w P
  rw [← hcF]
  exact PRd.st g hc hr P (fl_ne _ _) (D' := sD cF) (fun _ _ => rfl) (by rw [w]; exact ho) rfl
/-- the last of a part: what is in it -/
theorem p_41 (hI : RDI G T fu recI wrecI recM wrecM (d + 1)) (hr2 : ∀ s o a, rec.2.2.2 s o a = f_Fo_readInner recI fu s o a) (hw2 : ∀ s o a, wrec.2.2.2 s o a = w_Fo_readInner recI wrecI fu s o a) (hW : WK G T φ n u L 4 N k 0 c0 r0 c r p) (k1 : 11 ≤ k.toInt) (k2 : k.toInt ≤ 15) (hC3 : sB r 26 (u + 3) = 0) : PRd G T φ n u L c0 r0 (t_Fo_readPart_41 rec fu c (k - 11) d (some N)) (t_M_parsePart_74 recM fu r k d (nI (n + 1)) (nI u)) ∧ w_Fo_readPart_41 rec wrec fu c (k - 11) d (some N) ∧ w_M_parsePart_74 recM wrecM fu r k d (nI (n + 1)) (nI u) := by
  have hb := hW.1.bnd
  have s0 : f_Le_stopped c = false := st_0 hW.2.1
  have i11 : (k - 11).toInt = k.toInt - 11 := sub11 k1 k2
  have n4 : cn2 .ne (k - 11) 4 = decide (¬ k.toInt = 15) := by rw [c2_ne, i11, show ((4 : Int32).toInt) = 4 from rfl]; exact decide_eq_decide.mpr (by omega)
  have n15 : cn2 .ne k 15 = decide (¬ k.toInt = 15) := c2_ne k 15
  unfold t_Fo_readPart_41 w_Fo_readPart_41 t_M_parsePart_74 w_M_parsePart_74
  rw [s0, show cn1 .ne (b2i false) = false from rfl, cond_false, n4, n15]
  by_cases k15 : ¬ k.toInt = 15
  · rw [dt k15, cond_true, cond_true]
    exact ⟨hW.fin, ⟨trivial, (fun z => nomatch z), fun _ => ⟨fun _ => trivial, (fun z => nomatch z)⟩⟩, fun _ => trivial, (fun z => nomatch z)⟩
  have k15 : k.toInt = 15 := Decidable.not_not.mp k15
  rw [df (fun z => z k15 : ¬ ¬ k.toInt = 15), cond_false, cond_false, hr2, hw2]
  unfold f_Fo_readInner w_Fo_readInner
  obtain ⟨a1, a2, a3, a4, a5, a6, ⟨a7, a7', a7''⟩, a8, a9, a10⟩ := hW
  have hl : n + 1 ≤ n + 1 ∧ LVE (ph1 φ n N) (n + 1) := LVE.nw a9
  obtain ⟨P, wc, wr⟩ := hI (ph1 φ n N) (n + 1) (u + 4) L p c r a1 a2 a3
  obtain ⟨x, hx⟩ : ∃ x, x = recI.1 c (d + 1) := ⟨_, rfl⟩
  obtain ⟨q, hq⟩ : ∃ q, q = recM.1 r (d + 1) := ⟨_, rfl⟩
  rw [← hx, ← hq] at P
  rw [← hx, ← hq]
  have P0 := P
  obtain ⟨n', u', g, rc, sr, oc, or, th, ne2, suc⟩ := P
  have NN : N < sN c := by
    have := (a1.rt.2.2.2.1 (n + 1) (by omega) hl).2.2.2.2
    rw [ph1_s] at this
    have w1 : 1 ≤ twd (sA r 22 (n + 1)) := by unfold twd; split <;> omega
    omega
  have DN : sD x.2 N = sD c N := g.1 N NN
  have tN : tho (sD x.2) (some N) := by
    rcases (show tho (sD c) (some N) by have := a_tho a1.rt hl; rw [po_s _ (by omega), ph1_s] at this; exact this) with z | ⟨ci, fs, z1, z2⟩
    · exact absurd z (by simp)
    · refine Or.inr ⟨ci, fs, ?_, z2⟩
      rw [← z1]
      show (if N < 37 then none else sD x.2 N) = (if N < 37 then none else sD c N)
      rw [DN]
  unfold t_Fo_readInner_5 w_Fo_readInner_5 t_M_parsePart_82 w_M_parsePart_82
  by_cases q0 : ¬ q.1 = 0
  · have sf : f_Le_stopped x.2 = true := by rw [st_f sr]; exact dt q0
    have e0 : cn1 .eq q.1 = false := by rw [c1_eq]; exact df (fun y => q0 (Int32.toInt_inj.mp (by rw [y]; rfl)))
    rw [sf, show cn1 .ne (b2i true) = true from rfl, cond_true, e0, cond_false]
    exact ⟨PRd.st a4 a5 a6 P0 q0 (D' := sD x.2) (fun _ _ => rfl) tN rfl, ⟨trivial, (fun z => nomatch z), fun _ => ⟨(fun z => nomatch z), fun _ => ⟨⟨wc, trivial, fun _ => trivial, (fun z => nomatch z)⟩, trivial⟩⟩⟩, (fun z => nomatch z), fun _ => ⟨wr, (fun z => nomatch z), fun _ => trivial⟩⟩
  have q0 : q.1 = 0 := Decidable.not_not.mp q0
  have sf : f_Le_stopped x.2 = false := by rw [st_f sr]; exact df (fun z => z q0)
  obtain ⟨φ', v, p', b1, b2, b3, b4, b5, b6⟩ := suc q0
  have hb' := b1.bnd
  have zx : SZ x.2 := SR.s0 (q0 ▸ sr)
  have hl' : n + 1 ≤ n' ∧ LVE φ' (n + 1) := LVE.tr hl b2
  have eN : φ' (n + 1) = N := (b2.2 (n + 1) (Nat.le_refl _)).trans (ph1_s _ _ _)
  have pN : po φ' (n + 1) = some N := by rw [po_s _ (by omega), eN]
  have K' : sA q.2 22 (n + 1) = k := (g.2.2.2.2.1 (n + 1) (Nat.le_refl _)).1.trans a7
  have S' : sA q.2 23 (n + 1) = nI u := (g.2.2.2.2.1 (n + 1) (Nat.le_refl _)).2.1.trans a7'
  have nu : (nI u).toNatClampNeg = u := nN (by omega)
  have n3 : (nI u + 3).toNatClampNeg = u + 3 := by rw [show nI u + 3 = nI (u + 3) from nAd u 3]; exact nN (by omega)
  have v3 : vp_in (nI u + 3) 40001 := by rw [show nI u + 3 = nI (u + 3) from nAd u 3]; exact vp_n (by omega) (by omega)
  have kl : cn1 .le (nI v) = decide (v = 0) := by rw [c1_le, yI_i (by omega)]; exact decide_eq_decide.mpr (by omega)
  have nv : (nI v).toNatClampNeg = v := nN (by omega)
  have vv : vp_in (nI v) 40001 := n_vp (by omega)
  obtain ⟨-, -, -, f4, f5, f6⟩ := fd_rr b1 hl' (by rw [K']; exact k1) (by rw [K']; exact k2)
  rw [pN] at f4 f5 f6
  rw [eN] at f5
  rw [S', nu] at f4
  rw [sf, show cn1 .ne (b2i false) = false from rfl, cond_false, q0, show cn1 .eq (0 : Int32) = true from rfl, cond_true, b5, kl, nv, b4]
  have ox : ob (sD x.2) (some N) 4 := by
    have := (p_prt b1.rt hl' (by rw [K']; exact k1) (by rw [K']; exact k2)).2.2.1
    rw [pN] at this
    exact this
  have gg : GF n u c0 r0 x.2 q.2 n' u' := a4.tr g
  -- how it ends
  have don : ∀ (D' : AH) (y : Int64), (∀ a, a ≠ N → D' a = sD x.2 a) → RR G T φ' n' u' (pQ x.2 D' (sN x.2) (sU x.2)) (pB q.2 26 (vp_updL (sB q.2 26) (u + 3) y)) → PRd G T φ n u L c0 r0 (some N, pQ x.2 D' (sN x.2) (sU x.2)) (0, pI (pB q.2 26 (vp_updL (sB q.2 26) (u + 3) y)) 21 31 (nI (n + 1))) := fun D' y hD hR => by
    have hR2 : RR G T φ' n' u' (pQ x.2 D' (sN x.2) (sU x.2)) (pI (pB q.2 26 (vp_updL (sB q.2 26) (u + 3) y)) 21 31 (nI (n + 1))) := hR.rI (k := 31) _ (Or.inr (Or.inr (by decide)))
    have th' := a_tho hR.rt hl'
    rw [pN] at th'
    obtain ⟨h1, h2, h3, h4, h5, h6, h7, h8, h9⟩ := gg
    refine ⟨n', u', ⟨fun a ha => (hD a (by omega)).trans (h1 a ha), h2, h3, h4, h5, fun j hj => (show vp_updL (sB q.2 26) (u + 3) y j = sB q.2 26 j from if_neg (by omega)).trans (h6 j hj), h7, h8, h9⟩, hR2.rc, ⟨zx.1, Or.inl ⟨rfl, zx.2⟩⟩, (a5.tr oc).tr (opC_Q _ _ _ _), ((a6.tr or).tr (opR_B _ (Or.inl rfl) _)).tr (opR_31 _), th', fun z => absurd (show (0 : Int32) = 2 from z) (by decide), fun _ => ⟨φ', n + 1, p', hR2, (ph1_ex φ n N).tr b2, hl', pN.symm, rfl, b6⟩⟩
  unfold t_M_parsePart_101 w_M_parsePart_101 t_M_parsePart_110
  rw [n3, b5]
  by_cases v0 : v = 0
  · subst v0
    rw [po_0, show Option.isNone (none : Option Nat) = true from rfl, cond_true, dt (rfl : (0 : Nat) = 0), cond_true]
    have c3 : sB q.2 26 (u + 3) = 0 := (g.2.2.2.2.2.1 (u + 3) (by omega)).trans hC3
    have hR : RR G T φ' n' u' (pQ x.2 (sD x.2) (sN x.2) (sU x.2)) (pB q.2 26 (vp_updL (sB q.2 26) (u + 3) (Int32.toInt64 (nI 0)))) := by
      rw [up_id _ _ _ (show sB q.2 26 (u + 3) = Int32.toInt64 (nI 0) from c3)]
      exact b1.mv3 (fun _ _ => rfl) rfl rfl rfl rfl rfl rfl (fun _ _ => rfl) (fun _ _ _ => rfl) (fun a _ _ => by
        rw [sB_pB]
        by_cases e : a = 26
        · rw [if_pos e, e]
        · rw [if_neg e])
    exact ⟨don (sD x.2) _ (fun _ _ => rfl) hR, ⟨trivial, (fun z => nomatch z), fun _ => ⟨(fun z => nomatch z), fun _ => ⟨⟨wc, trivial, (fun z => nomatch z), fun _ => ⟨fun _ => trivial, (fun z => nomatch z)⟩⟩, trivial⟩⟩⟩, (fun z => nomatch z), fun _ => ⟨wr, fun _ => ⟨fun _ => ⟨v3, trivial⟩, (fun z => nomatch z)⟩, (fun z => nomatch z)⟩⟩
  · have pv := po_s φ' (show 1 ≤ v by omega)
    have ic := (a_isc b1.rt b3).2.2.1
    have tv := a_tho b1.rt b3
    have e10 : cn2 .eq (sA q.2 22 v) 10 = decide ((sA q.2 22 v).toInt = 10) := c2_eq _ 10
    rw [show Option.isNone (po φ' v) = false from by rw [pv]; rfl, cond_false, df v0, cond_false, ic, e10]
    by_cases k9 : (sA q.2 22 v).toInt = 9 ∨ (sA q.2 22 v).toInt = 10
    · obtain ⟨-, z2, z3, z4, -⟩ := p_shl b1.rt b3 k9
      rw [dt k9, show cn1 .eq (b2i true) = false from rfl, cond_false, sh_kind b1.rt b3 k9, show cn2 .ne (sA q.2 22 v) 10 = decide (¬ (sA q.2 22 v).toInt = 10) from c2_ne _ 10]
      have wsk : w_Sh_kind x.2 (po φ' v) := ⟨z3, trivial⟩
      by_cases k10 : (sA q.2 22 v).toInt = 10
      · rw [df (fun z => z k10 : ¬ ¬ (sA q.2 22 v).toInt = 10), cond_false, dt k10, cond_true, nI_L (by omega)]
        exact ⟨don _ _ (fun a ha => f5 4 _ a ha) (f4 v b3 (Or.inr k10)), ⟨trivial, (fun z => nomatch z), fun _ => ⟨(fun z => nomatch z), fun _ => ⟨⟨wc, trivial, (fun z => nomatch z), fun _ => ⟨(fun z => nomatch z), fun _ => ⟨tv, (fun z => nomatch z), fun _ => ⟨z2, wsk, z4, (fun z => nomatch z), fun _ => ⟨ox, trivial⟩⟩⟩⟩⟩, trivial⟩⟩⟩, (fun z => nomatch z), fun _ => ⟨wr, fun _ => ⟨(fun z => nomatch z), fun _ => ⟨vv, fun _ => ⟨v3, trivial⟩, (fun z => nomatch z)⟩⟩, (fun z => nomatch z)⟩⟩
      · rw [dt k10, cond_true, df k10, cond_false]
        unfold t_Fo_readInner_27 w_Fo_readInner_27
        exact ⟨PRd.f4 gg (a5.tr oc) (a6.tr or) b1 zx (by decide) (by decide) tN, ⟨trivial, (fun z => nomatch z), fun _ => ⟨(fun z => nomatch z), fun _ => ⟨⟨wc, trivial, (fun z => nomatch z), fun _ => ⟨(fun z => nomatch z), fun _ => ⟨tv, (fun z => nomatch z), fun _ => ⟨z2, wsk, z4, fun _ => ⟨w_fault x.2 4, trivial⟩, (fun z => nomatch z)⟩⟩⟩⟩, trivial⟩⟩⟩, (fun z => nomatch z), fun _ => ⟨wr, fun _ => ⟨(fun z => nomatch z), fun _ => ⟨vv, (fun z => nomatch z), fun _ => ⟨w_fails q.2 4, trivial⟩⟩⟩, (fun z => nomatch z)⟩⟩
    · rw [df k9, show cn1 .eq (b2i false) = true from rfl, cond_true, df (show ¬ (sA q.2 22 v).toInt = 10 by omega), cond_false]
      unfold t_Fo_readInner_27 w_Fo_readInner_27
      exact ⟨PRd.f4 gg (a5.tr oc) (a6.tr or) b1 zx (by decide) (by decide) tN, ⟨trivial, (fun z => nomatch z), fun _ => ⟨(fun z => nomatch z), fun _ => ⟨⟨wc, trivial, (fun z => nomatch z), fun _ => ⟨(fun z => nomatch z), fun _ => ⟨tv, fun _ => ⟨w_fault x.2 4, trivial⟩, (fun z => nomatch z)⟩⟩⟩, trivial⟩⟩⟩, (fun z => nomatch z), fun _ => ⟨wr, fun _ => ⟨(fun z => nomatch z), fun _ => ⟨vv, (fun z => nomatch z), fun _ => ⟨w_fails q.2 4, trivial⟩⟩⟩, (fun z => nomatch z)⟩⟩
end PRT
