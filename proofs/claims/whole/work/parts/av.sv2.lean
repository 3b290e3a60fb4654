/-! SAVE: rows, shelves, parts -/
/-- a thing goes out, on both sides -/
def WRI (G : AH) (T fu : Nat) (rec : G_wr) (wrec : GW_wr) (recM : G_write) (wrecM : GW_write) (d : Int32) : Prop := ∀ (φ : Nat → Nat) (n u v : Nat) (c r : St), RR G T φ n u c r → R_out c r → sI c 2 7 = 0 → (v ≤ n ∧ LVE φ v) → WO c r (rec.1 c (po φ v) d) (recM r (nI v) d).2 (recM r (nI v) d).1 ∧ wrec.1 c (po φ v) d ∧ wrecM r (nI v) d
section SV3
variable {G : AH} {T : Nat} {φ : Nat → Nat} {n u t fu m S a : Nat} {c r c1 r1 : St} {K d st : Int32} {rec : G_wr} {wrec : GW_wr} {recM : G_write} {wrecM : GW_write}
theorem WO.ne (h : WO c r c1 r1 st) : cn1 .ne (sI c1 2 7) = decide (¬ st = 0) ∧ cn1 .ne st = decide (¬ st = 0) ∧ cn1 .gt st = decide (¬ st = 0) := by
  rw [h.2.2.1]
  rcases h.2.2.2.1 with e | e | e <;> rw [e] <;> exact ⟨rfl, rfl, rfl⟩
theorem rl_go (hfu : 100 ≤ fu) (h37 : 37 ≤ a) {f : Nat → Int64} (hD : sD c a = some (.inl (6, [.inl K, .inr (.inr (some (a + 1)))]))) (hE : sD c (a + 1) = some (.inr (.inr (.inl (m, f))))) (hM : sA r 24 t = nI m) (k1 : 1 ≤ K.toInt) (k2 : K.toInt ≤ 8) (hf : ∀ i, i < m → f i = sB r 26 (S + i)) (hS : S + m ≤ 40000) (ht : t ≤ 40000) (recM : G_write) (wrecM : GW_write) (d : Int32) : ∀ (k i : Nat) (c1 r1 : St) (st : Int32), i + k = m → WO c r c1 r1 st → ∃ c2 q, (∀ g, 2 * k + 1 ≤ g → (T_Fo_writeRow_9 fu g).1 c1 (some a) (nI i) = c2 ∧ (WT_Fo_writeRow_9 fu g).1 c1 (some a) (nI i)) ∧ (∀ g, 3 * k + 1 ≤ g → (T_M_write_120 recM fu g).1 r1 (nI t) d K st (nI S) (nI i) = q ∧ (WT_M_write_120 recM wrecM fu g).1 r1 (nI t) d K st (nI S) (nI i)) ∧ WO c r c2 q.2 q.1 := by
  obtain ⟨w, hw, hw1, hw9⟩ : ∃ w : Nat, K = nI w ∧ 1 ≤ w ∧ w < 9 := ⟨K.toNatClampNeg, nIof (by omega), by rw [tn_eq]; omega, by rw [tn_eq]; omega⟩
  obtain ⟨b1, b2, b3, -⟩ := bw_tab w hw9 hw1
  rw [← hw] at b1 b2
  have k9 : cn2 .ge K 9 = false := by rw [c2_ge]; exact df (show ¬ (9 : Int) ≤ K.toInt by omega)
  have nt : (nI t).toNatClampNeg = t := nN (by omega)
  intro k
  induction k with
  | zero =>
    intro i c1 r1 st hi hW
    have ei : i = m := by omega
    subst ei
    have ge : cn2 .ge (nI i) (nI i) = true := by rw [kge (by omega) (by omega)]; exact dt (Nat.le_refl _)
    have dD : sD c1 = sD c := hW.1.2.2.2.2.2.1
    have e24 : sA r1 24 = sA r 24 := hW.2.1.2.2.1 24 (by decide)
    refine ⟨c1, (st, r1), fun g hg => ?_, fun g hg => ?_, hW⟩
    · obtain ⟨g, rfl⟩ : ∃ g', g = g' + 1 := ⟨g - 1, by omega⟩
      show b_Fo_writeRow_9 fu (T_Fo_writeRow_9 fu g) c1 (some a) (nI i) = _ ∧ v_Fo_writeRow_9 fu (T_Fo_writeRow_9 fu g) (WT_Fo_writeRow_9 fu g) c1 (some a) (nI i)
      unfold b_Fo_writeRow_9 v_Fo_writeRow_9
      rw [dD, gR_at h37 hD rfl, aLN_at (by omega) hE, show Int32.ofNat i = nI i from rfl, ge, cond_true]
      exact ⟨rfl, ob_at h37 hD rfl, isL_at (by omega) hE, fun _ => trivial, (fun z => nomatch z)⟩
    · obtain ⟨g, rfl⟩ : ∃ g', g = g' + 1 := ⟨g - 1, by omega⟩
      show b_M_write_120 recM fu (T_M_write_120 recM fu g) r1 (nI t) d K st (nI S) (nI i) = _ ∧ v_M_write_120 recM wrecM fu (T_M_write_120 recM fu g) (WT_M_write_120 recM wrecM fu g) r1 (nI t) d K st (nI S) (nI i)
      unfold b_M_write_120 v_M_write_120
      rw [nt, e24, hM, ge, cond_true]
      exact ⟨rfl, n_vp ht, fun _ => trivial, (fun z => nomatch z)⟩
  | succ k ih =>
    intro i c1 r1 st hi hW
    have ge : cn2 .ge (nI i) (nI m) = false := by rw [kge (by omega) (by omega)]; exact df (by omega)
    have dD : sD c1 = sD c := hW.1.2.2.2.2.2.1
    have e24 : sA r1 24 = sA r 24 := hW.2.1.2.2.1 24 (by decide)
    have e26 : sB r1 26 = sB r 26 := hW.2.1.2.2.2.1 26
    obtain ⟨n1, n2, -⟩ := hW.ne
    have nSi : (nI S + nI i).toNatClampNeg = S + i := by rw [nAd]; exact nN (by omega)
    have vSi : vp_in (nI S + nI i) 40001 := by rw [nAd]; exact n_vp (by omega)
    have ni : (nI i).toNatClampNeg = i := nN (by omega)
    by_cases g0 : st = 0
    · subst g0
      rw [df (fun z => z rfl : ¬ ¬ (0 : Int32) = 0)] at n1 n2
      obtain ⟨wA, wB, wC⟩ := wb hfu (hW.2.2.2.2 rfl) hW.2.2.1 (rfl : nI (bw w) = nI (bw w)) b3 (sB r 26 (S + i))
      obtain ⟨Q, hQ⟩ : ∃ Q, Q = f_M_tell fu r1 (sB r 26 (S + i)) (nI (bw w)) := ⟨_, rfl⟩
      rw [← hQ] at wA
      obtain ⟨c2, q, y1, y2, y3⟩ := ih (i + 1) _ _ _ (by omega) (hW.tr wA)
      refine ⟨c2, q, fun g hg => ?_, fun g hg => ?_, y3⟩
      · obtain ⟨g, rfl⟩ : ∃ g', g = g' + 2 := ⟨g - 2, by omega⟩
        obtain ⟨z1, z2⟩ := y1 g (by omega)
        show b_Fo_writeRow_9 fu (T_Fo_writeRow_9 fu (g + 1)) c1 (some a) (nI i) = _ ∧ v_Fo_writeRow_9 fu (T_Fo_writeRow_9 fu (g + 1)) (WT_Fo_writeRow_9 fu (g + 1)) c1 (some a) (nI i)
        unfold b_Fo_writeRow_9 v_Fo_writeRow_9
        rw [dD, gR_at h37 hD rfl, aLN_at (by omega) hE, show Int32.ofNat m = nI m from rfl, ge, cond_false, n1, cond_false, aLF_at (by omega) hE, gI_at h37 hD rfl, ni, hf i (by omega), b1]
        rw [← nI_s] at z1 z2
        have o := ob_at h37 hD rfl
        have l := isL_at (show 37 ≤ a + 1 by omega) hE
        exact ⟨z1, o, l, (fun z => nomatch z), fun _ => ⟨(fun z => nomatch z), fun _ => ⟨o, l, vp_n (by omega) (by omega), o, wB, z2⟩⟩⟩
      · obtain ⟨g, rfl⟩ : ∃ g', g = g' + 3 := ⟨g - 3, by omega⟩
        obtain ⟨z1, z2⟩ := y2 g (by omega)
        show b_M_write_120 recM fu (T_M_write_120 recM fu (g + 2)) r1 (nI t) d K 0 (nI S) (nI i) = _ ∧ v_M_write_120 recM wrecM fu (T_M_write_120 recM fu (g + 2)) (WT_M_write_120 recM wrecM fu (g + 2)) r1 (nI t) d K 0 (nI S) (nI i)
        unfold b_M_write_120 v_M_write_120
        rw [nt, e24, hM, ge, cond_false, n2, cond_false, k9, cond_false, nSi, e26, b2, ← hQ]
        rw [← nI_s] at z1 z2
        exact ⟨z1, n_vp ht, (fun z => nomatch z), fun _ => ⟨(fun z => nomatch z), fun _ => ⟨(fun z => nomatch z), fun _ => ⟨vSi, wC, z2⟩⟩⟩⟩
    · rw [dt g0] at n1 n2
      refine ⟨c1, (st, r1), fun g hg => ?_, fun g hg => ?_, hW⟩
      · obtain ⟨g, rfl⟩ : ∃ g', g = g' + 1 := ⟨g - 1, by omega⟩
        show b_Fo_writeRow_9 fu (T_Fo_writeRow_9 fu g) c1 (some a) (nI i) = _ ∧ v_Fo_writeRow_9 fu (T_Fo_writeRow_9 fu g) (WT_Fo_writeRow_9 fu g) c1 (some a) (nI i)
        unfold b_Fo_writeRow_9 v_Fo_writeRow_9
        rw [dD, gR_at h37 hD rfl, aLN_at (by omega) hE, show Int32.ofNat m = nI m from rfl, ge, cond_false, n1, cond_true]
        exact ⟨rfl, ob_at h37 hD rfl, isL_at (by omega) hE, (fun z => nomatch z), fun _ => ⟨fun _ => trivial, (fun z => nomatch z)⟩⟩
      · obtain ⟨g, rfl⟩ : ∃ g', g = g' + 1 := ⟨g - 1, by omega⟩
        show b_M_write_120 recM fu (T_M_write_120 recM fu g) r1 (nI t) d K st (nI S) (nI i) = _ ∧ v_M_write_120 recM wrecM fu (T_M_write_120 recM fu g) (WT_M_write_120 recM wrecM fu g) r1 (nI t) d K st (nI S) (nI i)
        unfold b_M_write_120 v_M_write_120
        rw [nt, e24, hM, ge, cond_false, n2, cond_true]
        exact ⟨rfl, n_vp ht, (fun z => nomatch z), fun _ => ⟨fun _ => trivial, (fun z => nomatch z)⟩⟩
theorem sh_lp (hI : WRI G T fu rec wrec recM wrecM (d + 1)) (hR : RR G T φ n u c r) (h37 : 37 ≤ a) {b : Int32} {f : Nat → Option Nat} (hD : sD c a = some (.inl (7, [.inl b, .inr (.inr (some (a + 1)))]))) (hE : sD c (a + 1) = some (.inr (.inr (.inr (m, f))))) (hM : sA r 24 t = nI m) (k1 : 9 ≤ K.toInt) (hf : ∀ i, i < m → ∃ v, (v ≤ n ∧ LVE φ v) ∧ sB r 26 (S + i) = lN v ∧ f i = po φ v) (hS : S + m ≤ 40000) (ht : t ≤ 40000) : ∀ (k i : Nat) (c1 r1 : St) (st : Int32), i + k = m → WO c r c1 r1 st → ∃ c2 q, (∀ g, 2 * k + 1 ≤ g → (T_Fo_writeShelf_19 rec fu g).1 c1 (some a) d (nI i) = c2 ∧ (WT_Fo_writeShelf_19 rec wrec fu g).1 c1 (some a) d (nI i)) ∧ (∀ g, 3 * k + 1 ≤ g → (T_M_write_120 recM fu g).1 r1 (nI t) d K st (nI S) (nI i) = q ∧ (WT_M_write_120 recM wrecM fu g).1 r1 (nI t) d K st (nI S) (nI i)) ∧ WO c r c2 q.2 q.1 := by
  have k9 : cn2 .ge K 9 = true := by rw [c2_ge]; exact dt (show (9 : Int) ≤ K.toInt by omega)
  have nt : (nI t).toNatClampNeg = t := nN (by omega)
  intro k
  induction k with
  | zero =>
    intro i c1 r1 st hi hW
    have ei : i = m := by omega
    subst ei
    have ge : cn2 .ge (nI i) (nI i) = true := by rw [kge (by omega) (by omega)]; exact dt (Nat.le_refl _)
    have dD : sD c1 = sD c := hW.1.2.2.2.2.2.1
    have e24 : sA r1 24 = sA r 24 := hW.2.1.2.2.1 24 (by decide)
    refine ⟨c1, (st, r1), fun g hg => ?_, fun g hg => ?_, hW⟩
    · obtain ⟨g, rfl⟩ : ∃ g', g = g' + 1 := ⟨g - 1, by omega⟩
      show b_Fo_writeShelf_19 rec fu (T_Fo_writeShelf_19 rec fu g) c1 (some a) d (nI i) = _ ∧ v_Fo_writeShelf_19 rec wrec fu (T_Fo_writeShelf_19 rec fu g) (WT_Fo_writeShelf_19 rec wrec fu g) c1 (some a) d (nI i)
      unfold b_Fo_writeShelf_19 v_Fo_writeShelf_19
      rw [dD, gR_at h37 hD rfl, aRN_at (by omega) hE, show Int32.ofNat i = nI i from rfl, ge, cond_true]
      exact ⟨rfl, ob_at h37 hD rfl, isR_at (by omega) hE, fun _ => trivial, (fun z => nomatch z)⟩
    · obtain ⟨g, rfl⟩ : ∃ g', g = g' + 1 := ⟨g - 1, by omega⟩
      show b_M_write_120 recM fu (T_M_write_120 recM fu g) r1 (nI t) d K st (nI S) (nI i) = _ ∧ v_M_write_120 recM wrecM fu (T_M_write_120 recM fu g) (WT_M_write_120 recM wrecM fu g) r1 (nI t) d K st (nI S) (nI i)
      unfold b_M_write_120 v_M_write_120
      rw [nt, e24, hM, ge, cond_true]
      exact ⟨rfl, n_vp ht, fun _ => trivial, (fun z => nomatch z)⟩
  | succ k ih =>
    intro i c1 r1 st hi hW
    have ge : cn2 .ge (nI i) (nI m) = false := by rw [kge (by omega) (by omega)]; exact df (by omega)
    have dD : sD c1 = sD c := hW.1.2.2.2.2.2.1
    have e24 : sA r1 24 = sA r 24 := hW.2.1.2.2.1 24 (by decide)
    have e26 : sB r1 26 = sB r 26 := hW.2.1.2.2.2.1 26
    obtain ⟨n1, n2, -⟩ := hW.ne
    have nSi : (nI S + nI i).toNatClampNeg = S + i := by rw [nAd]; exact nN (by omega)
    have vSi : vp_in (nI S + nI i) 40001 := by rw [nAd]; exact n_vp (by omega)
    have ni : (nI i).toNatClampNeg = i := nN (by omega)
    by_cases g0 : st = 0
    · subst g0
      rw [df (fun z => z rfl : ¬ ¬ (0 : Int32) = 0)] at n1 n2
      obtain ⟨v, hv, v1, v2⟩ := hf i (by omega)
      obtain ⟨wA, wB, wC⟩ := hI φ n u v c1 r1 (hR.fw hW.1 hW.2.1) (hW.2.2.2.2 rfl) hW.2.2.1 hv
      obtain ⟨Q, hQ⟩ : ∃ Q, Q = recM r1 (nI v) (d + 1) := ⟨_, rfl⟩
      rw [← hQ] at wA
      obtain ⟨c2, q, y1, y2, y3⟩ := ih (i + 1) _ _ _ (by omega) (hW.tr wA)
      refine ⟨c2, q, fun g hg => ?_, fun g hg => ?_, y3⟩
      · obtain ⟨g, rfl⟩ : ∃ g', g = g' + 2 := ⟨g - 2, by omega⟩
        obtain ⟨z1, z2⟩ := y1 g (by omega)
        show b_Fo_writeShelf_19 rec fu (T_Fo_writeShelf_19 rec fu (g + 1)) c1 (some a) d (nI i) = _ ∧ v_Fo_writeShelf_19 rec wrec fu (T_Fo_writeShelf_19 rec fu (g + 1)) (WT_Fo_writeShelf_19 rec wrec fu (g + 1)) c1 (some a) d (nI i)
        unfold b_Fo_writeShelf_19 v_Fo_writeShelf_19
        rw [dD, gR_at h37 hD rfl, aRN_at (by omega) hE, show Int32.ofNat m = nI m from rfl, ge, cond_false, n1, cond_false, aRF_at (by omega) hE, ni, v2]
        rw [← nI_s] at z1 z2
        have o := ob_at h37 hD rfl
        have l := isR_at (show 37 ≤ a + 1 by omega) hE
        exact ⟨z1, o, l, (fun z => nomatch z), fun _ => ⟨(fun z => nomatch z), fun _ => ⟨o, l, vp_n (by omega) (by omega), wB, z2⟩⟩⟩
      · obtain ⟨g, rfl⟩ : ∃ g', g = g' + 2 := ⟨g - 2, by omega⟩
        obtain ⟨z1, z2⟩ := y2 g (by omega)
        show b_M_write_120 recM fu (T_M_write_120 recM fu (g + 1)) r1 (nI t) d K 0 (nI S) (nI i) = _ ∧ v_M_write_120 recM wrecM fu (T_M_write_120 recM fu (g + 1)) (WT_M_write_120 recM wrecM fu (g + 1)) r1 (nI t) d K 0 (nI S) (nI i)
        unfold b_M_write_120 v_M_write_120
        rw [nt, e24, hM, ge, cond_false, n2, cond_false, k9, cond_true, nSi, e26, v1, lN_I, ← hQ]
        rw [← nI_s] at z1 z2
        exact ⟨z1, n_vp ht, (fun z => nomatch z), fun _ => ⟨(fun z => nomatch z), fun _ => ⟨fun _ => ⟨vSi, wC, z2⟩, (fun z => nomatch z)⟩⟩⟩
    · rw [dt g0] at n1 n2
      refine ⟨c1, (st, r1), fun g hg => ?_, fun g hg => ?_, hW⟩
      · obtain ⟨g, rfl⟩ : ∃ g', g = g' + 1 := ⟨g - 1, by omega⟩
        show b_Fo_writeShelf_19 rec fu (T_Fo_writeShelf_19 rec fu g) c1 (some a) d (nI i) = _ ∧ v_Fo_writeShelf_19 rec wrec fu (T_Fo_writeShelf_19 rec fu g) (WT_Fo_writeShelf_19 rec wrec fu g) c1 (some a) d (nI i)
        unfold b_Fo_writeShelf_19 v_Fo_writeShelf_19
        rw [dD, gR_at h37 hD rfl, aRN_at (by omega) hE, show Int32.ofNat m = nI m from rfl, ge, cond_false, n1, cond_true]
        exact ⟨rfl, ob_at h37 hD rfl, isR_at (by omega) hE, (fun z => nomatch z), fun _ => ⟨fun _ => trivial, (fun z => nomatch z)⟩⟩
      · obtain ⟨g, rfl⟩ : ∃ g', g = g' + 1 := ⟨g - 1, by omega⟩
        show b_M_write_120 recM fu (T_M_write_120 recM fu g) r1 (nI t) d K st (nI S) (nI i) = _ ∧ v_M_write_120 recM wrecM fu (T_M_write_120 recM fu g) (WT_M_write_120 recM wrecM fu g) r1 (nI t) d K st (nI S) (nI i)
        unfold b_M_write_120 v_M_write_120
        rw [nt, e24, hM, ge, cond_false, n2, cond_true]
        exact ⟨rfl, n_vp ht, (fun z => nomatch z), fun _ => ⟨fun _ => trivial, (fun z => nomatch z)⟩⟩
/-- a row: its size and what is in it -/
theorem sv_row (hfu : 1000000 ≤ fu) (h37 : 37 ≤ a) {f : Nat → Int64} (hD : sD c a = some (.inl (6, [.inl K, .inr (.inr (some (a + 1)))]))) (hE : sD c (a + 1) = some (.inr (.inr (.inl (m, f))))) (hM : sA r 24 t = nI m) (k1 : 1 ≤ K.toInt) (k2 : K.toInt ≤ 8) (hf : ∀ i, i < m → f i = sB r 26 (S + i)) (hS : S + m ≤ 40000) (ht : t ≤ 40000) (recM : G_write) (wrecM : GW_write) (d : Int32) (hW : WO c r c1 r1 st) : WO c r (f_Fo_writeRow fu c1 (some a)) (t_M_write_107 recM fu r1 (nI t) d K st (nI S)).2 (t_M_write_107 recM fu r1 (nI t) d K st (nI S)).1 ∧ w_Fo_writeRow fu c1 (some a) ∧ w_M_write_107 recM wrecM fu r1 (nI t) d K st (nI S) := by
  have nt : (nI t).toNatClampNeg = t := nN (by omega)
  have dD : sD c1 = sD c := hW.1.2.2.2.2.2.1
  have e24 : sA r1 24 = sA r 24 := hW.2.1.2.2.1 24 (by decide)
  obtain ⟨-, n2, -⟩ := hW.ne
  obtain ⟨c2, r2, st2, x1, x2, x3, x4, x5⟩ := wbs (show 100 ≤ fu by omega) hW (x := 4) (cnt := 4) rfl (by decide) (Int32.toInt64 (nI m))
  obtain ⟨c3, q, y1, y2, y3⟩ := rl_go (show 100 ≤ fu by omega) h37 hD hE hM k1 k2 hf hS ht recM wrecM d m 0 c2 r2 st2 (by omega) x5
  obtain ⟨a1, a2⟩ := y1 fu (by omega)
  obtain ⟨b1, b2⟩ := y2 fu (by omega)
  have eC : f_Fo_writeRow fu c1 (some a) = c3 := by
    unfold f_Fo_writeRow
    rw [dD, gR_at h37 hD rfl, aLN_at (by omega) hE, show Int32.ofNat m = nI m from rfl, x1]
    exact a1
  have eR : t_M_write_107 recM fu r1 (nI t) d K st (nI S) = q ∧ w_M_write_107 recM wrecM fu r1 (nI t) d K st (nI S) := by
    unfold t_M_write_107 w_M_write_107
    rw [n2]
    by_cases g : st = 0
    · obtain ⟨z1, z2⟩ := x3 g
      rw [df (fun z => z g : ¬ ¬ st = 0), cond_false, nt, e24, hM, z1]
      exact ⟨b1, (fun z => nomatch z), fun _ => ⟨n_vp ht, z2, b2⟩⟩
    · obtain ⟨z1, z2⟩ := x4 g
      rw [z1, z2] at b1 b2
      rw [dt g, cond_true]
      exact ⟨b1, fun _ => b2, (fun z => nomatch z)⟩
  rw [eC, eR.1]
  refine ⟨y3, ?_, eR.2⟩
  unfold w_Fo_writeRow
  rw [dD, gR_at h37 hD rfl, aLN_at (by omega) hE, show Int32.ofNat m = nI m from rfl, x1]
  exact ⟨ob_at h37 hD rfl, isL_at (by omega) hE, x2, a2⟩
/-- a shelf: its size and what is in it -/
theorem sv_s10 (hfu : 1000000 ≤ fu) (hI : WRI G T fu rec wrec recM wrecM (d + 1)) (hR : RR G T φ n u c r) (h37 : 37 ≤ a) {b : Int32} {f : Nat → Option Nat} (hD : sD c a = some (.inl (7, [.inl b, .inr (.inr (some (a + 1)))]))) (hE : sD c (a + 1) = some (.inr (.inr (.inr (m, f))))) (hM : sA r 24 t = nI m) (k1 : 9 ≤ K.toInt) (hf : ∀ i, i < m → ∃ v, (v ≤ n ∧ LVE φ v) ∧ sB r 26 (S + i) = lN v ∧ f i = po φ v) (hS : S + m ≤ 40000) (ht : t ≤ 40000) (hW : WO c r c1 r1 st) : WO c r (t_Fo_writeShelf_10 rec fu c1 (some a) d) (t_M_write_107 recM fu r1 (nI t) d K st (nI S)).2 (t_M_write_107 recM fu r1 (nI t) d K st (nI S)).1 ∧ w_Fo_writeShelf_10 rec wrec fu c1 (some a) d ∧ w_M_write_107 recM wrecM fu r1 (nI t) d K st (nI S) := by
  have nt : (nI t).toNatClampNeg = t := nN (by omega)
  have dD : sD c1 = sD c := hW.1.2.2.2.2.2.1
  have e24 : sA r1 24 = sA r 24 := hW.2.1.2.2.1 24 (by decide)
  obtain ⟨-, n2, -⟩ := hW.ne
  obtain ⟨c2, r2, st2, x1, x2, x3, x4, x5⟩ := wbs (show 100 ≤ fu by omega) hW (x := 4) (cnt := 4) rfl (by decide) (Int32.toInt64 (nI m))
  obtain ⟨c3, q, y1, y2, y3⟩ := sh_lp hI hR h37 hD hE hM k1 hf hS ht m 0 c2 r2 st2 (by omega) x5
  obtain ⟨a1, a2⟩ := y1 fu (by omega)
  obtain ⟨b1, b2⟩ := y2 fu (by omega)
  have eC : t_Fo_writeShelf_10 rec fu c1 (some a) d = c3 := by
    unfold t_Fo_writeShelf_10
    rw [dD, gR_at h37 hD rfl, aRN_at (by omega) hE, show Int32.ofNat m = nI m from rfl, x1]
    exact a1
  have eR : t_M_write_107 recM fu r1 (nI t) d K st (nI S) = q ∧ w_M_write_107 recM wrecM fu r1 (nI t) d K st (nI S) := by
    unfold t_M_write_107 w_M_write_107
    rw [n2]
    by_cases g : st = 0
    · obtain ⟨z1, z2⟩ := x3 g
      rw [df (fun z => z g : ¬ ¬ st = 0), cond_false, nt, e24, hM, z1]
      exact ⟨b1, (fun z => nomatch z), fun _ => ⟨n_vp ht, z2, b2⟩⟩
    · obtain ⟨z1, z2⟩ := x4 g
      rw [z1, z2] at b1 b2
      rw [dt g, cond_true]
      exact ⟨b1, fun _ => b2, (fun z => nomatch z)⟩
  rw [eC, eR.1]
  refine ⟨y3, ?_, eR.2⟩
  unfold w_Fo_writeShelf_10
  rw [dD, gR_at h37 hD rfl, aRN_at (by omega) hE, show Int32.ofNat m = nI m from rfl, x1]
  exact ⟨ob_at h37 hD rfl, isR_at (by omega) hE, x2, a2⟩
/-- a part, from its end -/
def PFc (φ : Nat → Nat) (n S a : Nat) (K q p : Int32) (w : Int64) (v : Nat) (c r : St) : Prop := sD c a = some (.inl (4, [.inl (K - 11), .inl q, .inr (.inl w), .inl p, .inr (.inr (po φ v))])) ∧ sB r 26 S = q.toInt64 ∧ sB r 26 (S + 1) = w ∧ sB r 26 (S + 2) = p.toInt64 ∧ sB r 26 (S + 3) = lN v ∧ (v ≤ n ∧ LVE φ v) ∧ 37 ≤ a ∧ S + 4 ≤ 40000 ∧ 11 ≤ K.toInt ∧ K.toInt ≤ 15
variable {q p : Int32} {w : Int64} {v : Nat}
theorem PFc.i11 (h : PFc φ n S a K q p w v c r) : (K - 11).toInt = K.toInt - 11 := by
  obtain ⟨-, -, -, -, -, -, -, -, k1, k2⟩ := h
  rw [show K - 11 = K + (-11) from Int32.sub_eq_add_neg _ _]
  exact i_addy rfl (show ((-11 : Int32).toInt) = -11 from rfl) (by omega) (by omega)
theorem sv_p75 (hI : WRI G T fu rec wrec recM wrecM (d + 1)) (hR : RR G T φ n u c r) (hF : PFc φ n S a K q p w v c r) (hW : WO c r c1 r1 st) : WO c r (t_Fo_writePart_20 rec fu c1 (some a) d) (t_M_write_75 recM fu r1 d K st (nI S)).2 (t_M_write_75 recM fu r1 d K st (nI S)).1 ∧ w_Fo_writePart_20 rec wrec fu c1 (some a) d ∧ w_M_write_75 recM wrecM fu r1 d K st (nI S) := by
  have i11 := hF.i11
  obtain ⟨hD, -, -, -, cv, hv, h37, hS, k1, k2⟩ := hF
  have dD : sD c1 = sD c := hW.1.2.2.2.2.2.1
  have e26 : sB r1 26 = sB r 26 := hW.2.1.2.2.2.1 26
  have o := ob_at (D := sD c) h37 hD rfl
  obtain ⟨n1, n2, -⟩ := hW.ne
  have kc : cn2 .ne (K - 11) 4 = decide (¬ K.toInt = 15) := by rw [c2_ne, i11]; exact decide_eq_decide.mpr (show (¬ K.toInt - 11 = 4) ↔ _ by omega)
  have kr : cn2 .ne K 15 = decide (¬ K.toInt = 15) := c2_ne K 15
  have nS3 : (nI S + 3).toNatClampNeg = S + 3 := by rw [show nI S + 3 = nI (S + 3) from nAd S 3]; exact nN (by omega)
  have vS3 : vp_in (nI S + 3) 40001 := by rw [show nI S + 3 = nI (S + 3) from nAd S 3]; exact n_vp (by omega)
  unfold t_Fo_writePart_20 w_Fo_writePart_20 t_M_write_75 w_M_write_75
  rw [dD, gI_at h37 hD rfl, gR_at h37 hD rfl, kc, kr, n1, n2, nS3, e26, cv, lN_I]
  by_cases g : st = 0
  · rw [df (fun z => z g : ¬ ¬ st = 0), cond_false, cond_false]
    by_cases e : K.toInt = 15
    · rw [df (fun z => z e : ¬ ¬ K.toInt = 15), cond_false, cond_false]
      obtain ⟨x1, x2, x3⟩ := hI φ n u v c1 r1 (hR.fw hW.1 hW.2.1) (hW.2.2.2.2 g) (hW.2.2.1.trans g) hv
      exact ⟨hW.tr x1, ⟨o, (fun z => nomatch z), fun _ => ⟨(fun z => nomatch z), fun _ => ⟨o, x2, trivial⟩⟩⟩, (fun z => nomatch z), fun _ => ⟨(fun z => nomatch z), fun _ => ⟨vS3, x3, trivial⟩⟩⟩
    · rw [dt e, cond_true, cond_true]
      exact ⟨hW, ⟨o, fun _ => trivial, (fun z => nomatch z)⟩, (fun z => nomatch z), fun _ => ⟨fun _ => trivial, (fun z => nomatch z)⟩⟩
  · rw [dt g, cond_true, cond_true]
    by_cases e : K.toInt = 15
    · rw [df (fun z => z e : ¬ ¬ K.toInt = 15), cond_false]
      exact ⟨hW, ⟨o, (fun z => nomatch z), fun _ => ⟨fun _ => trivial, (fun z => nomatch z)⟩⟩, fun _ => trivial, (fun z => nomatch z)⟩
    · rw [dt e, cond_true]
      exact ⟨hW, ⟨o, fun _ => trivial, (fun z => nomatch z)⟩, fun _ => trivial, (fun z => nomatch z)⟩
theorem sv_p57 (hfu : 100 ≤ fu) (hI : WRI G T fu rec wrec recM wrecM (d + 1)) (hR : RR G T φ n u c r) (hF : PFc φ n S a K q p w v c r) (hW : WO c r c1 r1 st) : WO c r (t_Fo_writePart_11 rec fu c1 (some a) d) (t_M_write_57 recM fu r1 d K st (nI S)).2 (t_M_write_57 recM fu r1 d K st (nI S)).1 ∧ w_Fo_writePart_11 rec wrec fu c1 (some a) d ∧ w_M_write_57 recM wrecM fu r1 d K st (nI S) := by
  have i11 := hF.i11
  have hF0 := hF
  obtain ⟨hD, -, -, cp, -, hv, h37, hS, k1, k2⟩ := hF
  have dD : sD c1 = sD c := hW.1.2.2.2.2.2.1
  have e26 : sB r1 26 = sB r 26 := hW.2.1.2.2.2.1 26
  have o := ob_at (D := sD c) h37 hD rfl
  obtain ⟨-, n2, -⟩ := hW.ne
  have ip : f_Pa_isPriced c1 (some a) = decide (2 < (K - 11).toInt) := by
    unfold f_Pa_isPriced
    rw [dD, gI_at h37 hD rfl, bl_same]
    exact bl_3 (by omega) (by omega)
  have k16 : cn2 .ge K 16 = false := by rw [c2_ge]; exact df (show ¬ (16 : Int) ≤ K.toInt by omega)
  have k13 : cn2 .le K 13 = decide (K.toInt ≤ 13) := c2_le K 13
  have nS2 : (nI S + 2).toNatClampNeg = S + 2 := by rw [show nI S + 2 = nI (S + 2) from nAd S 2]; exact nN (by omega)
  have vS2 : vp_in (nI S + 2) 40001 := by rw [show nI S + 2 = nI (S + 2) from nAd S 2]; exact n_vp (by omega)
  unfold t_Fo_writePart_11 w_Fo_writePart_11 t_M_write_57 w_M_write_57 w_Pa_isPriced
  rw [ip, dD, oC_at h37 hD, gI_at h37 hD rfl, n2, k16, k13, nS2, e26, cp]
  by_cases e : K.toInt ≤ 13
  · obtain ⟨x1, x2, x3⟩ := sv_p75 hI hR hF0 hW
    rw [df (p := 2 < (K - 11).toInt) (by omega), show cn1 .eq (b2i false) = true from rfl, cond_true, dt e, cond_true, cond_false]
    by_cases g : st = 0
    · rw [df (fun z => z g : ¬ ¬ st = 0), cond_false]
      exact ⟨x1, ⟨⟨o, trivial⟩, rfl, fun _ => x2, (fun z => nomatch z)⟩, (fun z => nomatch z), fun _ => ⟨(fun z => nomatch z), fun _ => ⟨fun _ => x3, (fun z => nomatch z)⟩⟩⟩
    · rw [dt g, cond_true]
      exact ⟨x1, ⟨⟨o, trivial⟩, rfl, fun _ => x2, (fun z => nomatch z)⟩, fun _ => x3, (fun z => nomatch z)⟩
  · obtain ⟨c2, r2, st2, y1, y2, y3, y4, y5⟩ := wbs hfu hW (x := 4) (cnt := 4) rfl (by decide) (Int32.toInt64 p)
    obtain ⟨x1, x2, x3⟩ := sv_p75 hI hR hF0 y5
    rw [dt (p := 2 < (K - 11).toInt) (by omega), show cn1 .eq (b2i true) = false from rfl, cond_false, df e, cond_false, cond_false, y1]
    by_cases g : st = 0
    · obtain ⟨z1, z2⟩ := y3 g
      rw [df (fun z => z g : ¬ ¬ st = 0), cond_false, z1]
      exact ⟨x1, ⟨⟨o, trivial⟩, rfl, (fun z => nomatch z), fun _ => ⟨o, y2, x2⟩⟩, (fun z => nomatch z), fun _ => ⟨(fun z => nomatch z), fun _ => ⟨(fun z => nomatch z), fun _ => ⟨vS2, z2, x3⟩⟩⟩⟩
    · obtain ⟨z1, z2⟩ := y4 g
      rw [z1, z2] at x1 x3
      rw [dt g, cond_true]
      exact ⟨x1, ⟨⟨o, trivial⟩, rfl, (fun z => nomatch z), fun _ => ⟨o, y2, x2⟩⟩, fun _ => x3, (fun z => nomatch z)⟩
theorem sv_p41 (hfu : 100 ≤ fu) (hI : WRI G T fu rec wrec recM wrecM (d + 1)) (hR : RR G T φ n u c r) (hF : PFc φ n S a K q p w v c r) (hW : WO c r c1 r1 st) : WO c r (t_Fo_writePart_6 rec fu c1 (some a) d) (t_M_write_41 recM fu r1 d K (nI S) st).2 (t_M_write_41 recM fu r1 d K (nI S) st).1 ∧ w_Fo_writePart_6 rec wrec fu c1 (some a) d ∧ w_M_write_41 recM wrecM fu r1 d K (nI S) st := by
  have hF0 := hF
  obtain ⟨hD, -, cw, -, -, hv, h37, hS, k1, k2⟩ := hF
  have dD : sD c1 = sD c := hW.1.2.2.2.2.2.1
  have e26 : sB r1 26 = sB r 26 := hW.2.1.2.2.2.1 26
  have o := ob_at (D := sD c) h37 hD rfl
  obtain ⟨-, n2, -⟩ := hW.ne
  have k16 : cn2 .ge K 16 = false := by rw [c2_ge]; exact df (show ¬ (16 : Int) ≤ K.toInt by omega)
  have nS1 : (nI S + 1).toNatClampNeg = S + 1 := by rw [show nI S + 1 = nI (S + 1) from nAd S 1]; exact nN (by omega)
  have vS1 : vp_in (nI S + 1) 40001 := by rw [show nI S + 1 = nI (S + 1) from nAd S 1]; exact n_vp (by omega)
  obtain ⟨c2, r2, st2, y1, y2, y3, y4, y5⟩ := wbs hfu hW (x := 8) (cnt := 8) rfl (by decide) w
  obtain ⟨x1, x2, x3⟩ := sv_p57 hfu hI hR hF0 y5
  unfold t_Fo_writePart_6 w_Fo_writePart_6 t_M_write_41 w_M_write_41
  rw [dD, gL_at h37 hD rfl, n2, k16, nS1, e26, cw, y1]
  by_cases g : st = 0
  · obtain ⟨z1, z2⟩ := y3 g
    rw [df (fun z => z g : ¬ ¬ st = 0), cond_false, cond_false, z1]
    exact ⟨x1, ⟨o, y2, x2⟩, (fun z => nomatch z), fun _ => ⟨(fun z => nomatch z), fun _ => ⟨vS1, z2, x3⟩⟩⟩
  · obtain ⟨z1, z2⟩ := y4 g
    rw [z1, z2] at x1 x3
    rw [dt g, cond_true]
    exact ⟨x1, ⟨o, y2, x2⟩, fun _ => x3, (fun z => nomatch z)⟩
end SV3
