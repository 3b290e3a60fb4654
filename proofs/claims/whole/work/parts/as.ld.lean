/-! LOAD: things at every depth -/
section LDT
variable {G : AH} {T : Nat} {φ : Nat → Nat} {n u L p fu : Nat} {c r : St} {k d bb v3 : Int32} {rec : G_read} {wrec : GW_read} {recM : G_parse} {wrecM : GW_parse}
theorem ld_27 (hfu : 1000000 ≤ fu) (hI : RDI G T fu rec wrec recM wrecM (d + 1)) (hk : (k.toInt = 9 ∧ bb = -1) ∨ (k.toInt = 10 ∧ 0 ≤ v3.toInt ∧ v3.toInt ≤ 4 ∧ bb = v3)) (h : RR G T φ n u c r) (hz : SZ c) (hP : PL L p c r) : PRd G T φ n u L c r (t_Fo_readShelf_27 rec fu (f_Fo_readSize fu c).2 d bb (f_Fo_readSize fu c).1) (t_M_parseMany_25 recM fu r k d v3) ∧ (w_Fo_readSize fu c ∧ w_Fo_readShelf_27 rec wrec fu (f_Fo_readSize fu c).2 d bb (f_Fo_readSize fu c).1) ∧ w_M_parseMany_25 recM wrecM fu r k d v3 := by
  have hk' : k.toInt = 9 ∨ k.toInt = 10 := by omega
  rcases ld_sz (show 100 ≤ fu by omega) k d v3 recM wrecM h hz hP with ⟨cF, q, y1, y2, y3, y4, y5⟩ | ⟨m, c1, r1, p', gm, y1, y2, y3, y4, hR, hz1, hP1, g1, o1, o2, mn, mu, mz⟩
  · rw [y1, y3]
    dsimp only
    unfold t_Fo_readShelf_27 w_Fo_readShelf_27
    rw [show cn1 .ge (-1 : Int32) = false from rfl, cond_false]
    exact ⟨y5, ⟨y2, (fun z => nomatch z), fun _ => trivial⟩, y4⟩
  · have hb := hR.bnd
    have hb2 := hR.2.2.2.1
    obtain ⟨mm, hmm, hm4⟩ : ∃ mm : Nat, m = nI mm ∧ mm ≤ 40000 := ⟨m.toNatClampNeg, nIof gm, by rw [tn_eq]; omega⟩
    subst hmm
    have im : (nI mm).toInt = (mm : Int) := yI_i (by omega)
    have nm : (nI mm).toNatClampNeg = mm := nN (by omega)
    obtain ⟨i1, i2, i3⟩ := i_sh (s := c1) (k := bb) (m := nI mm) hb.2.2.2.2 gm (by omega) (by rw [nm]; omega)
    have hN := nw_shl0 hR (k := k) (m := nI mm) (q := v3) (b := bb) hk gm (by omega) (by omega)
    obtain ⟨a1, a2⟩ := th_M (r := r1) (k := k) (m := nI mm) (q := v3) hb2.2.1 hb2.2.2.1 (by omega) (fun _ => gm)
    rw [nm] at hN i1
    obtain ⟨c2, hc2⟩ : ∃ c2, c2 = pQ c1 (shlD (sD c1) (sN c1) bb (nI mm)) (sN c1 + 2) (sU c1 + 2 + mm) := ⟨_, rfl⟩
    obtain ⟨r2, hr2⟩ : ∃ r2, r2 = thR r1 n u k (nI mm) v3 := ⟨_, rfl⟩
    rw [← hc2] at i1 hN
    rw [← hr2] at a1 hN
    have hW : WS G T φ n u L mm (sN c1) k c1 r1 c2 r2 p' (ph1 φ n (sN c1)) (n + 1) (u + mm) := by
      refine ⟨hN, EX.rf _ _, by rw [hc2]; exact hz1, by rw [hc2, hr2]; exact hP1.qq _ _ _ _ _ _ _ _, ?_, by rw [hc2]; exact opC_Q _ _ _ _, by rw [hr2]; exact thR_op _ _ _ _ _ _ hb2.2.1 (by omega), ?_, Nat.le_refl _, hb.2.2.2.2, by omega, hm4, Nat.le_refl _⟩
      · rw [hc2, hr2]
        refine GF.nw (fun a ha => ?_) (by omega)
        unfold shlD
        rw [if_neg (by omega), if_neg (by omega)]
      · rw [hr2]
        exact ⟨if_pos rfl, if_pos rfl, if_pos rfl⟩
    obtain ⟨x, q, x1, x2, x3⟩ := sl_go hI hk' (f_M_wideOf k) mm 0 p' c2 r2 (ph1 φ n (sN c1)) (n + 1) (u + mm) (by omega) hW
    obtain ⟨b1, b2⟩ := x1 fu (by omega)
    obtain ⟨d1, d2⟩ := x2 fu (by omega)
    rw [y1, y3, a1]
    rw [a1] at y4
    dsimp only at y4 ⊢
    unfold t_Fo_readShelf_27 w_Fo_readShelf_27 t_Fo_readShelf_37 w_Fo_readShelf_37
    rw [show cn1 .ge (nI mm) = true from by rw [c1_ge]; exact dt gm, cond_true, i1]
    have e58 : t_M_parseMany_58 recM fu r2 k d (nI mm) (nI (n + 1)) = q := d1
    have e37 : (T_Fo_readShelf_40 rec fu fu).1 c2 d (nI mm) (some (sN c1)) 0 = x := b1
    have oC1 : (oC (nwO (sD c1) (sN c1) 7) (some (sN c1))).isSome = true := by
      rw [oC_at hb.2.2.2.2 (show nwO (sD c1) (sN c1) 7 (sN c1) = some (.inl (7, [.inl 0, .inr (.inr none)])) from hupS)]
      rfl
    rw [e58, e37]
    exact ⟨PRd.tr g1 o1 o2 (EX.rf _ _) x3, ⟨y2, fun _ => ⟨i3, i2, oC1, b2⟩, (fun z => nomatch z)⟩, y4 a2 d2⟩
theorem ld_shl (hfu : 1000000 ≤ fu) (hI : RDI G T fu rec wrec recM wrecM (d + 1)) (hk : k.toInt = 9 ∨ k.toInt = 10) (h : RR G T φ n u c r) (hz : SZ c) (hP : PL L p c r) : PRd G T φ n u L c r (f_Fo_readShelf rec fu c k d) (f_M_parseMany recM fu r k d) ∧ w_Fo_readShelf rec wrec fu c k d ∧ w_M_parseMany recM wrecM fu r k d := by
  have n10 : cn2 .ne k 10 = decide (¬ k.toInt = 10) := c2_ne k 10
  unfold f_Fo_readShelf w_Fo_readShelf f_M_parseMany w_M_parseMany
  rw [n10]
  by_cases k10 : ¬ k.toInt = 10
  · rw [dt k10, cond_true, cond_true]
    unfold t_Fo_readShelf_9 w_Fo_readShelf_9
    rw [st_0 hz, show cn1 .eq (b2i false) = true from rfl, cond_true, show cn2 .lt (-1 : Int32) 5 = true from rfl, cond_true]
    obtain ⟨P, w1, w2⟩ := ld_27 (k := k) (bb := -1) (v3 := 0) hfu hI (Or.inl ⟨by omega, rfl⟩) h hz hP
    exact ⟨P, ⟨fun _ => ⟨trivial, fun _ => ⟨fun _ => w1, (fun z => nomatch z)⟩, (fun z => nomatch z)⟩, (fun z => nomatch z)⟩, ⟨fun _ => w2, (fun z => nomatch z)⟩⟩
  have k10 : k.toInt = 10 := Decidable.not_not.mp k10
  rw [df (fun z => z k10 : ¬ ¬ k.toInt = 10), cond_false, cond_false]
  rcases rb (show 100 ≤ fu by omega) hP (cnt := 1) (x := 1) rfl (by decide) with ⟨g0, val, y1, y2, y3, y4, y5, y6, y7⟩ | ⟨g0, y1, y2, y3⟩
  · obtain ⟨ev, pl⟩ := y7 rfl
    have h1 : RR G T φ n u (pI c 2 5 (nI (p + 1))) (pI r 21 30 (nI (p + 1))) := (h.cI (a := 2) _ (Or.inl (by decide))).rI (k := 30) _ (Or.inr (Or.inr (by decide)))
    have g1 : GF n u c r (pI c 2 5 (nI (p + 1))) (pI r 21 30 (nI (p + 1))) n u := GF.w rfl rfl rfl rfl rfl rfl rfl rfl rfl rfl
    have o1 : opC c (pI c 2 5 (nI (p + 1))) := opC_2 c (by decide) _
    have o2 : opR r (pI r 21 30 (nI (p + 1))) := opR_30 _
    have hz1 : SZ (pI c 2 5 (nI (p + 1))) := hz
    have bv := b255 (sA c 3 p)
    rw [← hP.2.2.2.2.2.2 p pl] at bv
    obtain ⟨b, hb⟩ : ∃ b, b = sA r 32 p := ⟨_, rfl⟩
    rw [← hb] at ev bv
    have eI : Int64.toInt32 val = b := by rw [ev, Int32.toInt32_toInt64]
    rw [y1, y3, y4, show cn1 .ne (b2i true) = true from rfl, cond_true]
    dsimp only
    unfold t_Fo_readShelf_6 w_Fo_readShelf_6 t_Fo_readShelf_9 w_Fo_readShelf_9 t_M_parseMany_16 w_M_parseMany_16
    rw [eI, st_0 hz1, show cn1 .eq (b2i false) = true from rfl, cond_true, show cn2 .lt b 5 = decide (b.toInt < 5) from c2_lt b 5, show cn2 .le b 4 = decide (b.toInt < 5) from by rw [c2_le, show ((4 : Int32).toInt) = 4 from rfl]; exact decide_eq_decide.mpr (by omega)]
    by_cases b5 : b.toInt < 5
    · obtain ⟨P, w1, w2⟩ := ld_27 (k := k) (bb := b) (v3 := b) hfu hI (Or.inr ⟨k10, bv.1, by omega, rfl⟩) h1 hz1 y6
      rw [dt b5, cond_true, cond_true]
      exact ⟨PRd.tr g1 o1 o2 (EX.rf _ _) P, ⟨(fun z => nomatch z), fun _ => ⟨y2, trivial, fun _ => ⟨fun _ => w1, (fun z => nomatch z)⟩, (fun z => nomatch z)⟩⟩, ⟨(fun z => nomatch z), fun _ => ⟨trivial, fun _ => ⟨y5, fun _ => w2, (fun z => nomatch z)⟩, (fun z => nomatch z)⟩⟩⟩
    · rw [df b5, cond_false, cond_false]
      exact ⟨PRd.tr g1 o1 o2 (EX.rf _ _) (PRd.fl h1 hz1 (by decide) (by decide) (tho_n _)), ⟨(fun z => nomatch z), fun _ => ⟨y2, trivial, fun _ => ⟨(fun z => nomatch z), fun _ => ⟨w_fault _ 4, trivial⟩⟩, (fun z => nomatch z)⟩⟩, ⟨(fun z => nomatch z), fun _ => ⟨trivial, fun _ => ⟨y5, (fun z => nomatch z), fun _ => ⟨w_fails _ 4, trivial⟩⟩, (fun z => nomatch z)⟩⟩⟩
  · have sf := (fl_st h hz (k := 2) (by decide) (by decide)).1
    rw [y1, y3, show cn1 .ne (b2i false) = false from rfl, cond_false]
    dsimp only
    unfold t_Fo_readShelf_6 w_Fo_readShelf_6 t_Fo_readShelf_9 w_Fo_readShelf_9
    rw [sf, show cn1 .eq (b2i true) = false from rfl, cond_false]
    exact ⟨PRd.fl h hz (by decide) (by decide) (tho_n _), ⟨(fun z => nomatch z), fun _ => ⟨y2, trivial, (fun z => nomatch z), fun _ => trivial⟩⟩, ⟨(fun z => nomatch z), fun _ => ⟨trivial, (fun z => nomatch z), fun _ => ⟨w_fails r 2, trivial⟩⟩⟩⟩
/-- a thing, where the next depth is known -/
theorem ld_thing (hfu : 1000000 ≤ fu) {a b : Nat} (hI1 : RDI G T fu (F_read fu (a + 1)) (W_read fu (a + 1)) (F_parse fu b) (W_parse fu b) (d + 1)) (hI2 : RDI G T fu (F_read fu a) (W_read fu a) (F_parse fu b) (W_parse fu b) (d + 1)) (hd : d.toInt ≤ 30) (h : RR G T φ n u c r) (hz : SZ c) (hP : PL L p c r) : PRd G T φ n u L c r ((F_read fu (a + 3)).1 c d) ((F_parse fu (b + 2)).1 r d) ∧ (W_read fu (a + 3)).1 c d ∧ (W_parse fu (b + 2)).1 r d := by
  show PRd G T φ n u L c r (f_Fo_readThing (F_read fu (a + 2)) fu c d) (f_M_parse (F_parse fu (b + 1)) fu r d) ∧ w_Fo_readThing (F_read fu (a + 2)) (W_read fu (a + 2)) fu c d ∧ w_M_parse (F_parse fu (b + 1)) (W_parse fu (b + 1)) fu r d
  have le30 : cn2 .le d 30 = true := by rw [c2_le]; exact dt hd
  unfold f_Fo_readThing w_Fo_readThing f_M_parse w_M_parse
  rw [le30, cond_true, cond_true]
  rcases rb (show 100 ≤ fu by omega) hP (cnt := 1) (x := 1) rfl (by decide) with ⟨g0, val, y1, y2, y3, y4, y5, y6, y7⟩ | ⟨g0, y1, y2, y3⟩
  · obtain ⟨ev, pl⟩ := y7 rfl
    have h1 : RR G T φ n u (pI c 2 5 (nI (p + 1))) (pI r 21 30 (nI (p + 1))) := (h.cI (a := 2) _ (Or.inl (by decide))).rI (k := 30) _ (Or.inr (Or.inr (by decide)))
    have g1 : GF n u c r (pI c 2 5 (nI (p + 1))) (pI r 21 30 (nI (p + 1))) n u := GF.w rfl rfl rfl rfl rfl rfl rfl rfl rfl rfl
    have o1 : opC c (pI c 2 5 (nI (p + 1))) := opC_2 c (by decide) _
    have o2 : opR r (pI r 21 30 (nI (p + 1))) := opR_30 _
    have hz1 : SZ (pI c 2 5 (nI (p + 1))) := hz
    have bv := b255 (sA c 3 p)
    have eb : sA c 3 p &&& 255 = sA r 32 p := (hP.2.2.2.2.2.2 p pl).symm
    rw [eb] at bv
    have e255 : sA r 32 p &&& 255 = sA r 32 p := by rw [← eb, Int32.and_assoc]; rfl
    obtain ⟨kb, hkb⟩ : ∃ kb, kb = sA r 32 p := ⟨_, rfl⟩
    rw [← hkb] at ev bv e255
    have eI : Int64.toInt32 val = kb := by rw [ev, Int32.toInt32_toInt64]
    obtain ⟨c1, hc1⟩ : ∃ c1, c1 = pI c 2 5 (nI (p + 1)) := ⟨_, rfl⟩
    obtain ⟨r1, hr1⟩ : ∃ r1, r1 = pI r 21 30 (nI (p + 1)) := ⟨_, rfl⟩
    rw [← hc1] at y1 o1 hz1
    rw [← hr1] at y4 o2
    rw [← hc1, ← hr1] at h1 g1 y6
    rw [y1, y3, y4, show cn1 .ne (b2i true) = true from rfl, cond_true]
    dsimp only
    unfold t_Fo_readThing_12 w_Fo_readThing_12 t_M_parse_18 w_M_parse_18
    rw [st_0 hz1, show cn1 .ne (b2i false) = false from rfl, cond_false, eI, e255, c1_ne, show cn2 .gt kb 8 = decide (8 < kb.toInt) from c2_gt kb 8, show cn2 .gt kb 10 = decide (10 < kb.toInt) from c2_gt kb 10, show cn2 .ge kb 16 = decide (16 ≤ kb.toInt) from c2_ge kb 16, show cn2 .ne kb 16 = decide (¬ kb.toInt = 16) from c2_ne kb 16, show cn2 .le kb 16 = decide (kb.toInt ≤ 16) from c2_le kb 16, show cn2 .ge kb 11 = decide (11 ≤ kb.toInt) from c2_ge kb 11]
    have fin : ∀ {x q}, PRd G T φ n u L c1 r1 x q → PRd G T φ n u L c r x q := fun P => PRd.tr g1 o1 o2 (EX.rf _ _) P
    by_cases k0 : kb.toInt = 0
    · rw [df (fun z => z k0 : ¬ ¬ kb.toInt = 0), cond_false, cond_false, dt (show kb.toInt ≤ 16 by omega), cond_true]
      refine ⟨fin ⟨n, u, GF.w rfl rfl rfl rfl rfl rfl rfl rfl rfl rfl, (h1.rI (k := 31) 0 (Or.inr (Or.inr (by decide)))).rc, ⟨hz1.1, Or.inl ⟨rfl, hz1.2⟩⟩, opC.rf _, opR_31 _, tho_n _, fun z => absurd (show (0 : Int32) = 2 from z) (by decide), fun _ => ⟨φ, 0, p + 1, h1.rI (k := 31) 0 (Or.inr (Or.inr (by decide))), EX.rf _ _, ⟨Nat.zero_le _, LVE.z _⟩, rfl, rfl, y6⟩⟩, ⟨fun _ => ⟨y2, trivial, (fun z => nomatch z), fun _ => ⟨(fun z => nomatch z), fun _ => trivial⟩⟩, (fun z => nomatch z)⟩, ⟨fun _ => ⟨trivial, fun _ => ⟨y5, fun _ => ⟨(fun z => nomatch z), fun _ => trivial⟩, (fun z => nomatch z)⟩, (fun z => nomatch z)⟩, (fun z => nomatch z)⟩⟩
    rw [dt k0, cond_true, cond_true]
    by_cases k8 : ¬ 8 < kb.toInt
    · have ek : nI kb.toNatClampNeg = kb := (nIof bv.1).symm
      obtain ⟨P, w1, w2⟩ := ld_row (w := kb.toNatClampNeg) hfu (by rw [tn_eq]; omega) (by rw [tn_eq]; omega) d (F_parse fu b) (W_parse fu b) h1 hz1 y6
      rw [ek] at P w1 w2
      rw [df k8, cond_false, dt (show kb.toInt ≤ 16 by omega), cond_true, df (show ¬ 11 ≤ kb.toInt by omega), cond_false]
      exact ⟨fin P, ⟨fun _ => ⟨y2, trivial, (fun z => nomatch z), fun _ => ⟨fun _ => ⟨(fun z => nomatch z), fun _ => ⟨w1, trivial⟩⟩, (fun z => nomatch z)⟩⟩, (fun z => nomatch z)⟩, ⟨fun _ => ⟨trivial, fun _ => ⟨y5, fun _ => ⟨fun _ => ⟨(fun z => nomatch z), fun _ => ⟨w2, trivial⟩⟩, (fun z => nomatch z)⟩, (fun z => nomatch z)⟩, (fun z => nomatch z)⟩, (fun z => nomatch z)⟩⟩
    have k8 : 8 < kb.toInt := Decidable.not_not.mp k8
    rw [dt k8, cond_true]
    by_cases k10 : ¬ 10 < kb.toInt
    · obtain ⟨P, w1, w2⟩ := ld_shl (k := kb) hfu hI1 (by omega) h1 hz1 y6
      rw [df k10, cond_false, dt (show kb.toInt ≤ 16 by omega), cond_true, df (show ¬ 11 ≤ kb.toInt by omega), cond_false]
      exact ⟨fin P, ⟨fun _ => ⟨y2, trivial, (fun z => nomatch z), fun _ => ⟨fun _ => ⟨fun _ => ⟨(fun z => nomatch z), fun _ => ⟨w1, trivial⟩⟩, (fun z => nomatch z)⟩, (fun z => nomatch z)⟩⟩, (fun z => nomatch z)⟩, ⟨fun _ => ⟨trivial, fun _ => ⟨y5, fun _ => ⟨fun _ => ⟨(fun z => nomatch z), fun _ => ⟨w2, trivial⟩⟩, (fun z => nomatch z)⟩, (fun z => nomatch z)⟩, (fun z => nomatch z)⟩, (fun z => nomatch z)⟩⟩
    have k10 : 10 < kb.toInt := Decidable.not_not.mp k10
    rw [dt k10, cond_true, dt (show 11 ≤ kb.toInt by omega), cond_true]
    by_cases k16 : ¬ 16 ≤ kb.toInt
    · obtain ⟨P, w1, w2⟩ := ld_prt (k := kb) (rec := F_read fu (a + 1)) (wrec := W_read fu (a + 1)) (show 100 ≤ fu by omega) hI2 (fun _ _ _ => rfl) (fun _ _ _ => rfl) h1 hz1 y6 (by omega) (by omega)
      rw [df k16, cond_false, dt (show kb.toInt ≤ 16 by omega), cond_true, dt (show ¬ kb.toInt = 16 by omega), cond_true]
      exact ⟨fin P, ⟨fun _ => ⟨y2, trivial, (fun z => nomatch z), fun _ => ⟨fun _ => ⟨fun _ => ⟨fun _ => ⟨(fun z => nomatch z), fun _ => ⟨w1, trivial⟩⟩, (fun z => nomatch z)⟩, (fun z => nomatch z)⟩, (fun z => nomatch z)⟩⟩, (fun z => nomatch z)⟩, ⟨fun _ => ⟨trivial, fun _ => ⟨y5, fun _ => ⟨fun _ => ⟨fun _ => ⟨fun _ => ⟨w2, trivial⟩, (fun z => nomatch z)⟩, (fun z => nomatch z)⟩, (fun z => nomatch z)⟩, (fun z => nomatch z)⟩, (fun z => nomatch z)⟩, (fun z => nomatch z)⟩⟩
    have k16 : 16 ≤ kb.toInt := Decidable.not_not.mp k16
    rw [dt k16, cond_true]
    by_cases kt : kb.toInt = 16
    · obtain ⟨P, w1, w2⟩ := ld_trb (rec := F_read fu (a + 2)) (wrec := W_read fu (a + 2)) (show 100 ≤ fu by omega) h1 hz1 y6
      rw [df (fun z => z kt : ¬ ¬ kb.toInt = 16), cond_false, cond_false, dt (show kb.toInt ≤ 16 by omega), cond_true]
      exact ⟨fin P, ⟨fun _ => ⟨y2, trivial, (fun z => nomatch z), fun _ => ⟨fun _ => ⟨fun _ => ⟨fun _ => ⟨fun _ => ⟨(fun z => nomatch z), fun _ => ⟨trivial, w1⟩⟩, (fun z => nomatch z)⟩, (fun z => nomatch z)⟩, (fun z => nomatch z)⟩, (fun z => nomatch z)⟩⟩, (fun z => nomatch z)⟩, ⟨fun _ => ⟨trivial, fun _ => ⟨y5, fun _ => ⟨fun _ => ⟨fun _ => ⟨(fun z => nomatch z), fun _ => ⟨w2, trivial⟩⟩, (fun z => nomatch z)⟩, (fun z => nomatch z)⟩, (fun z => nomatch z)⟩, (fun z => nomatch z)⟩, (fun z => nomatch z)⟩⟩
    · rw [dt kt, cond_true, cond_true, df (show ¬ kb.toInt ≤ 16 by omega), cond_false]
      exact ⟨fin (PRd.fl h1 hz1 (by decide) (by decide) (tho_n _)), ⟨fun _ => ⟨y2, trivial, (fun z => nomatch z), fun _ => ⟨fun _ => ⟨fun _ => ⟨fun _ => ⟨fun _ => ⟨fun _ => ⟨w_fault c1 4, trivial⟩, (fun z => nomatch z)⟩, (fun z => nomatch z)⟩, (fun z => nomatch z)⟩, (fun z => nomatch z)⟩, (fun z => nomatch z)⟩⟩, (fun z => nomatch z)⟩, ⟨fun _ => ⟨trivial, fun _ => ⟨y5, (fun z => nomatch z), fun _ => ⟨w_fails r1 4, trivial⟩⟩, (fun z => nomatch z)⟩, (fun z => nomatch z)⟩⟩
  · have sf := (fl_st h hz (k := 2) (by decide) (by decide)).1
    rw [y1, y3, show cn1 .ne (b2i false) = false from rfl, cond_false]
    dsimp only
    unfold t_Fo_readThing_12 w_Fo_readThing_12
    rw [sf, show cn1 .ne (b2i true) = true from rfl, cond_true]
    exact ⟨PRd.fl h hz (by decide) (by decide) (tho_n _), ⟨fun _ => ⟨y2, trivial, fun _ => trivial, (fun z => nomatch z)⟩, (fun z => nomatch z)⟩, ⟨fun _ => ⟨trivial, (fun z => nomatch z), fun _ => ⟨w_fails r 2, trivial⟩⟩, (fun z => nomatch z)⟩⟩
theorem ld_all (hfu : 1000000 ≤ fu) : ∀ dd, dd ≤ 30 → ∀ m m', 3 * dd + 1 ≤ m → 2 * dd + 1 ≤ m' → RDI G T fu (F_read fu m) (W_read fu m) (F_parse fu m') (W_parse fu m') (nI (31 - dd)) := by
  intro dd
  induction dd with
  | zero =>
    intro _ m m' hm hm' φ n u L p c r h hz hP
    obtain ⟨m, rfl⟩ : ∃ a, m = a + 1 := ⟨m - 1, by omega⟩
    obtain ⟨m', rfl⟩ : ∃ a, m' = a + 1 := ⟨m' - 1, by omega⟩
    show PRd G T φ n u L c r (f_Fo_readThing (F_read fu m) fu c (nI 31)) (f_M_parse (F_parse fu m') fu r (nI 31)) ∧ w_Fo_readThing (F_read fu m) (W_read fu m) fu c (nI 31) ∧ w_M_parse (F_parse fu m') (W_parse fu m') fu r (nI 31)
    unfold f_Fo_readThing w_Fo_readThing f_M_parse w_M_parse
    rw [show cn2 .le (nI 31) 30 = false from rfl, cond_false, cond_false]
    exact ⟨PRd.fl h hz (by decide) (by decide) (tho_n _), ⟨(fun z => nomatch z), fun _ => ⟨w_fault c 8, trivial⟩⟩, ⟨(fun z => nomatch z), fun _ => ⟨w_fails r 8, trivial⟩⟩⟩
  | succ dd ih =>
    intro hdd m m' hm hm' φ n u L p c r h hz hP
    obtain ⟨a, rfl⟩ : ∃ a, m = a + 3 := ⟨m - 3, by omega⟩
    obtain ⟨b, rfl⟩ : ∃ b, m' = b + 2 := ⟨m' - 2, by omega⟩
    have e : nI (31 - (dd + 1)) + 1 = nI (31 - dd) := by
      rw [show (1 : Int32) = nI 1 from rfl, nAd]
      congr 1
      omega
    have I1 := ih (by omega) (a + 1) b (by omega) (by omega)
    have I2 := ih (by omega) a b (by omega) (by omega)
    rw [← e] at I1 I2
    exact ld_thing hfu I1 I2 (by rw [yI_i (by omega)]; omega) h hz hP
end LDT
