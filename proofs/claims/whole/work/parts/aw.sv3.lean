/-! SAVE: things at every depth -/
section SV4
variable {G : AH} {T : Nat} {φ : Nat → Nat} {n u t fu A b : Nat} {c r c1 r1 s : St} {K d st S x : Int32} {recM : G_write} {wrecM : GW_write}
theorem l_107 (hfu : 1 ≤ fu) (n2 : cn1 .ne st = true) : t_M_write_107 recM fu s x d K st S = (st, s) := by
  obtain ⟨f, rfl⟩ : ∃ f, fu = f + 1 := ⟨fu - 1, by omega⟩
  unfold t_M_write_107
  rw [n2, cond_true]
  show b_M_write_120 recM (f + 1) (T_M_write_120 recM (f + 1) f) s x d K st S 0 = _
  unfold b_M_write_120
  rw [n2, cond_true]
  cases cn2 .ge 0 (sA s 24 x.toNatClampNeg) <;> rfl
theorem l_41 (h : cn1 .ne st = true ∨ (cn1 .ne st = false ∧ K.toInt = 16)) : t_M_write_41 recM fu s d K S st = (st, s) ∧ w_M_write_41 recM wrecM fu s d K S st := by
  have k16 : cn2 .ge K 16 = decide (16 ≤ K.toInt) := c2_ge K 16
  have k15 : cn2 .ne K 15 = decide (¬ K.toInt = 15) := c2_ne K 15
  unfold t_M_write_41 w_M_write_41 t_M_write_57 w_M_write_57 t_M_write_75 w_M_write_75
  rcases h with h | ⟨h, k⟩
  · rw [h, cond_true, cond_true, cond_true]
    exact ⟨rfl, fun _ => ⟨fun _ => ⟨fun _ => trivial, (fun z => nomatch z)⟩, (fun z => nomatch z)⟩, (fun z => nomatch z)⟩
  · rw [h, k16, k15, dt (show 16 ≤ K.toInt by omega), dt (show ¬ K.toInt = 15 by omega), cond_false, cond_true, cond_false, cond_true, cond_false, cond_true]
    exact ⟨rfl, (fun z => nomatch z), fun _ => ⟨fun _ => ⟨(fun z => nomatch z), fun _ => ⟨fun _ => ⟨(fun z => nomatch z), fun _ => ⟨fun _ => trivial, (fun z => nomatch z)⟩⟩, (fun z => nomatch z)⟩⟩, (fun z => nomatch z)⟩⟩
theorem sv_19 (hfu : 1000000 ≤ fu) (hI : WRI G T fu (F_wr fu A) (W_wr fu A) recM wrecM (d + 1)) (hR : RR G T φ n u c r) (h1 : 1 ≤ t) (h2 : t ≤ n ∧ LVE φ t) (hW : WO c r c1 r1 st) : WO c r (t_Fo_writeThing_17 (F_wr fu (A + 1)) fu c1 (some (φ t)) d) (t_M_write_19 recM fu r1 (nI t) d (sA r 22 t) st).2 (t_M_write_19 recM fu r1 (nI t) d (sA r 22 t) st).1 ∧ w_Fo_writeThing_17 (F_wr fu (A + 1)) (W_wr fu (A + 1)) fu c1 (some (φ t)) d ∧ w_M_write_19 recM wrecM fu r1 (nI t) d (sA r 22 t) st := by
  have hb := hR.bnd
  have ht := hR.rt
  have ht4 : t ≤ 40000 := by omega
  have tho' := a_tho ht h2
  rw [po_s φ h1] at tho'
  obtain ⟨hT, s0, su, h37, -⟩ := ht.2.2.2.1 t h1 h2
  obtain ⟨S, hS⟩ : ∃ S : Nat, S = (sA r 23 t).toNatClampNeg := ⟨_, rfl⟩
  have eS : sA r 23 t = nI S := by rw [hS]; exact nIof s0
  rw [← hS] at su
  have nS : (nI S).toNatClampNeg = S := by rw [← eS]; exact hS.symm
  have dD : sD c1 = sD c := hW.1.2.2.2.2.2.1
  have e23 : sA r1 23 = sA r 23 := hW.2.1.2.2.1 23 (by decide)
  have e25 : sA r1 25 = sA r 25 := hW.2.1.2.2.1 25 (by decide)
  have e26 : sB r1 26 = sB r 26 := hW.2.1.2.2.2.1 26
  obtain ⟨-, n2, n3⟩ := hW.ne
  have nt : (nI t).toNatClampNeg = t := nN (by omega)
  have vt : vp_in (nI t) 40001 := n_vp ht4
  have net : cn1 .ne (nI t) = true := by rw [c1_ne, yI_i (by omega)]; exact dt (by omega)
  have k11 : cn2 .lt (sA r 22 t) 11 = decide ((sA r 22 t).toInt < 11) := c2_lt _ 11
  have k10 : cn2 .ne (sA r 22 t) 10 = decide (¬ (sA r 22 t).toInt = 10) := c2_ne _ 10
  have bt : cn1 .eq (b2i true) = false := rfl
  have bf : cn1 .eq (b2i false) = true := rfl
  unfold t_Fo_writeThing_17 w_Fo_writeThing_17 t_M_write_19 w_M_write_19
  rw [dD, n3, net, cond_true, k11, k10, nt, e23, e25, e26, eS, nS]
  rcases hT with hh | hh | hh | hh
  · have sz := hh.sz
    obtain ⟨a1, a2, a3, a4, f, a5, a6⟩ := hh
    rw [sz] at su
    have i1 : isc (sD c) (some (φ t)) 1 = true := by rw [isc_at h37 a4]; rfl
    obtain ⟨x1, x2, x3⟩ := sv_row (t := t) (S := S) hfu h37 a4 a5 (nIof a3) a1 a2 (fun i hi => by rw [hS]; exact (a6 i hi).1) (by omega) ht4 recM wrecM d hW
    rw [i1, bt, cond_false, dt (show (sA r 22 t).toInt < 11 by omega), cond_true, dt (show ¬ (sA r 22 t).toInt = 10 by omega), cond_true]
    refine ⟨?_, ⟨tho', (fun z => nomatch z), fun _ => ⟨cst_at h37 a4 rfl, x2, trivial⟩⟩, ?_⟩
    · by_cases g : st = 0
      · rw [df (fun z => z g : ¬ ¬ st = 0), cond_false]; exact x1
      · rw [l_107 (by omega) (n2.trans (dt g))] at x1
        rw [dt g, cond_true]; exact x1
    · exact ⟨fun _ => trivial, fun _ => ⟨fun _ => ⟨vt, fun _ => ⟨fun _ => x3, (fun z => nomatch z)⟩, (fun z => nomatch z)⟩, (fun z => nomatch z)⟩⟩
  · have sz := hh.sz
    have hk := hh.kk
    obtain ⟨a3, ⟨bb, a4, a7⟩, f, a5, a6⟩ := hh
    rw [sz] at su
    have i1 : isc (sD c) (some (φ t)) 1 = false := by rw [isc_at h37 a4]; rfl
    have i2 : isc (sD c) (some (φ t)) 2 = true := by rw [isc_at h37 a4]; rfl
    have cell : ∀ i, i < (sA r 24 t).toNatClampNeg → ∃ v, (v ≤ n ∧ LVE φ v) ∧ sB r 26 (S + i) = lN v ∧ f i = po φ v := fun i hi => by
      obtain ⟨v, v1, v2, v3, -⟩ := a6 i hi
      exact ⟨v, v1, by rw [hS]; exact v2, v3⟩
    rw [i1, i2, bt, bf, cond_true, cond_false, dt (show (sA r 22 t).toInt < 11 by omega), cond_true]
    show WO c r (f_Fo_writeShelf (F_wr fu A) fu c1 (some (φ t)) d) _ _ ∧ (tho (sD c) (some (φ t)) ∧ (_ → (tho (sD c) (some (φ t)) ∧ (_ → _) ∧ (_ → (cst (sD c) (some (φ t)) 2 ∧ (w_Fo_writeShelf (F_wr fu A) (W_wr fu A) fu c1 (some (φ t)) d ∧ True))))) ∧ _) ∧ _
    unfold f_Fo_writeShelf w_Fo_writeShelf
    rw [dD, gI_at h37 a4 rfl]
    have o := ob_at (D := sD c) h37 a4 rfl
    rcases a7 with ⟨k9, rfl⟩ | ⟨kk, q0, q4, rfl⟩
    · obtain ⟨x1, x2, x3⟩ := sv_s10 (t := t) hfu hI hR h37 a4 a5 (nIof a3) (show 9 ≤ (sA r 22 t).toInt by omega) cell (by omega) ht4 hW
      rw [show cn2 .eq (-1 : Int32) (-1) = true from rfl, cond_true, dt (show ¬ (sA r 22 t).toInt = 10 by omega), cond_true]
      refine ⟨?_, ⟨tho', fun _ => ⟨tho', (fun z => nomatch z), fun _ => ⟨cst_at h37 a4 rfl, ⟨o, fun _ => x2, (fun z => nomatch z)⟩, trivial⟩⟩, (fun z => nomatch z)⟩, ?_⟩
      · by_cases g : st = 0
        · rw [df (fun z => z g : ¬ ¬ st = 0), cond_false]; exact x1
        · rw [l_107 (by omega) (n2.trans (dt g))] at x1
          rw [dt g, cond_true]; exact x1
      · exact ⟨fun _ => trivial, fun _ => ⟨fun _ => ⟨vt, fun _ => ⟨fun _ => x3, (fun z => nomatch z)⟩, (fun z => nomatch z)⟩, (fun z => nomatch z)⟩⟩
    · obtain ⟨c2, r2, st2, y1, y2, y3, y4, y5⟩ := wbs (show 100 ≤ fu by omega) hW (x := 1) (cnt := 1) rfl (by decide) (Int32.toInt64 (sA r 25 t))
      obtain ⟨x1, x2, x3⟩ := sv_s10 (t := t) hfu hI hR h37 a4 a5 (nIof a3) (show 9 ≤ (sA r 22 t).toInt by omega) cell (by omega) ht4 y5
      have em : cn2 .eq (sA r 25 t) (-1) = false := by rw [c2_eq]; exact df (show ¬ (sA r 25 t).toInt = -1 by omega)
      rw [em, cond_false, df (fun z => z kk : ¬ ¬ (sA r 22 t).toInt = 10), cond_false, y1]
      by_cases g : st = 0
      · obtain ⟨z1, z2⟩ := y3 g
        rw [df (fun z => z g : ¬ ¬ st = 0), cond_false, z1]
        exact ⟨x1, ⟨tho', fun _ => ⟨tho', (fun z => nomatch z), fun _ => ⟨cst_at h37 a4 rfl, ⟨o, (fun z => nomatch z), fun _ => ⟨o, y2, x2⟩⟩, trivial⟩⟩, (fun z => nomatch z)⟩, (fun z => nomatch z), fun _ => ⟨fun _ => ⟨vt, fun _ => ⟨(fun z => nomatch z), fun _ => ⟨vt, z2, x3⟩⟩, (fun z => nomatch z)⟩, (fun z => nomatch z)⟩⟩
      · obtain ⟨z1, z2⟩ := y4 g
        rw [z1, z2, l_107 (by omega) (n2.trans (dt g))] at x1
        rw [dt g, cond_true]
        exact ⟨x1, ⟨tho', fun _ => ⟨tho', (fun z => nomatch z), fun _ => ⟨cst_at h37 a4 rfl, ⟨o, (fun z => nomatch z), fun _ => ⟨o, y2, x2⟩⟩, trivial⟩⟩, (fun z => nomatch z)⟩, fun _ => trivial, (fun z => nomatch z)⟩
  · have sz := hh.sz (M := sA r 24)
    obtain ⟨a1, a2, q, p, w, v, a4, c0, c2', c3, c4, c5, c6, -⟩ := hh
    rw [sz] at su
    rw [← hS] at c0 c2' c4 c5
    have i1 : isc (sD c) (some (φ t)) 1 = false := by rw [isc_at h37 a4]; rfl
    have i2 : isc (sD c) (some (φ t)) 2 = false := by rw [isc_at h37 a4]; rfl
    have i0 : isc (sD c) (some (φ t)) 0 = true := by rw [isc_at h37 a4]; rfl
    have hF : PFc φ n S (φ t) (sA r 22 t) q p w v c r := ⟨a4, c0, c2', c4, c5, c6, h37, by omega, a1, a2⟩
    obtain ⟨c2, r2, st2, y1, y2, y3, y4, y5⟩ := wbs (show 100 ≤ fu by omega) hW (x := 4) (cnt := 4) rfl (by decide) (Int32.toInt64 q)
    obtain ⟨x1, x2, x3⟩ := sv_p41 (show 100 ≤ fu by omega) hI hR hF y5
    have o := ob_at (D := sD c) h37 a4 rfl
    rw [i1, i2, i0, bt, bf, cond_true, cond_true, cond_false, df (show ¬ (sA r 22 t).toInt < 11 by omega), cond_false]
    show WO c r (f_Fo_writePart (F_wr fu A) fu c1 (some (φ t)) d) _ _ ∧ (tho (sD c) (some (φ t)) ∧ (_ → (tho (sD c) (some (φ t)) ∧ (_ → (tho (sD c) (some (φ t)) ∧ (_ → _) ∧ (_ → (cst (sD c) (some (φ t)) 0 ∧ (w_Fo_writePart (F_wr fu A) (W_wr fu A) fu c1 (some (φ t)) d ∧ True))))) ∧ _)) ∧ _) ∧ _
    unfold f_Fo_writePart w_Fo_writePart
    rw [dD, gI_at h37 a4 rfl, y1, c0]
    by_cases g : st = 0
    · obtain ⟨z1, z2⟩ := y3 g
      rw [df (fun z => z g : ¬ ¬ st = 0), cond_false, z1]
      exact ⟨x1, ⟨tho', fun _ => ⟨tho', fun _ => ⟨tho', (fun z => nomatch z), fun _ => ⟨cst_at h37 a4 rfl, ⟨o, y2, x2⟩, trivial⟩⟩, (fun z => nomatch z)⟩, (fun z => nomatch z)⟩, (fun z => nomatch z), fun _ => ⟨fun _ => ⟨vt, (fun z => nomatch z), fun _ => ⟨n_vp (by omega), z2, x3⟩⟩, (fun z => nomatch z)⟩⟩
    · obtain ⟨z1, z2⟩ := y4 g
      rw [z1, z2, (l_41 (wrecM := wrecM) (Or.inl (n2.trans (dt g)))).1] at x1
      rw [dt g, cond_true]
      exact ⟨x1, ⟨tho', fun _ => ⟨tho', fun _ => ⟨tho', (fun z => nomatch z), fun _ => ⟨cst_at h37 a4 rfl, ⟨o, y2, x2⟩, trivial⟩⟩, (fun z => nomatch z)⟩, (fun z => nomatch z)⟩, fun _ => trivial, (fun z => nomatch z)⟩
  · have sz := hh.sz (M := sA r 24)
    obtain ⟨a1, q, a4, c0⟩ := hh
    rw [sz] at su
    rw [← hS] at c0
    have i1 : isc (sD c) (some (φ t)) 1 = false := by rw [isc_at h37 a4]; rfl
    have i2 : isc (sD c) (some (φ t)) 2 = false := by rw [isc_at h37 a4]; rfl
    have i0 : isc (sD c) (some (φ t)) 0 = false := by rw [isc_at h37 a4]; rfl
    have i3 : isc (sD c) (some (φ t)) 3 = true := by rw [isc_at h37 a4]; rfl
    obtain ⟨c2, r2, st2, y1, y2, y3, y4, y5⟩ := wbs (show 100 ≤ fu by omega) hW (x := 4) (cnt := 4) rfl (by decide) (Int32.toInt64 q)
    have o := ob_at (D := sD c) h37 a4 rfl
    rw [i1, i2, i0, i3, bt, bf, cond_true, cond_true, cond_true, cond_false, df (show ¬ (sA r 22 t).toInt < 11 by omega), cond_false, gI_at h37 a4 rfl, y1, c0]
    obtain ⟨j1, j2⟩ := l_41 (fu := fu) (s := r2) (d := d) (K := sA r 22 t) (S := nI S) (st := st2) (recM := recM) (wrecM := wrecM) (by
      rcases hq : cn1 .ne st2 with _ | _
      · exact Or.inr ⟨rfl, a1⟩
      · exact Or.inl rfl)
    by_cases g : st = 0
    · obtain ⟨z1, z2⟩ := y3 g
      rw [df (fun z => z g : ¬ ¬ st = 0), cond_false, z1, j1]
      exact ⟨y5, ⟨tho', fun _ => ⟨tho', fun _ => ⟨tho', fun _ => ⟨tho', (fun z => nomatch z), fun _ => ⟨cst_at h37 a4 rfl, o, y2, trivial⟩⟩, (fun z => nomatch z)⟩, (fun z => nomatch z)⟩, (fun z => nomatch z)⟩, (fun z => nomatch z), fun _ => ⟨fun _ => ⟨vt, (fun z => nomatch z), fun _ => ⟨n_vp (by omega), z2, j2⟩⟩, (fun z => nomatch z)⟩⟩
    · obtain ⟨z1, z2⟩ := y4 g
      rw [z1, z2] at y5
      rw [dt g, cond_true]
      exact ⟨y5, ⟨tho', fun _ => ⟨tho', fun _ => ⟨tho', fun _ => ⟨tho', (fun z => nomatch z), fun _ => ⟨cst_at h37 a4 rfl, o, y2, trivial⟩⟩, (fun z => nomatch z)⟩, (fun z => nomatch z)⟩, (fun z => nomatch z)⟩, fun _ => trivial, (fun z => nomatch z)⟩
theorem sv_thing (hfu : 1000000 ≤ fu) (hI : WRI G T fu (F_wr fu A) (W_wr fu A) (F_write fu b) (W_write fu b) (d + 1)) (hd : d.toInt ≤ 30) : WRI G T fu (F_wr fu (A + 2)) (W_wr fu (A + 2)) (F_write fu (b + 1)) (W_write fu (b + 1)) d := by
  intro φ n u v c r hR hO h7 hv
  show WO c r (f_Fo_writeThing (F_wr fu (A + 1)) fu c (po φ v) d) (f_M_write (F_write fu b) fu r (nI v) d).2 (f_M_write (F_write fu b) fu r (nI v) d).1 ∧ w_Fo_writeThing (F_wr fu (A + 1)) (W_wr fu (A + 1)) fu c (po φ v) d ∧ w_M_write (F_write fu b) (W_write fu b) fu r (nI v) d
  have hb := hR.bnd
  have le30 : cn2 .le d 30 = true := by rw [c2_le]; exact dt hd
  unfold f_Fo_writeThing w_Fo_writeThing f_M_write w_M_write t_Fo_writeThing_15 w_Fo_writeThing_15 t_M_write_13 w_M_write_13
  rw [le30, cond_true, cond_true]
  by_cases v0 : v = 0
  · subst v0
    obtain ⟨x1, x2, x3⟩ := wb (fu := fu) (show 100 ≤ fu by omega) hO h7 (x := 1) (cnt := 1) rfl (by decide) 0
    obtain ⟨c1, hc1⟩ : ∃ c1, c1 = f_Fo_writeBytes fu c 0 1 := ⟨_, rfl⟩
    obtain ⟨Q, hQ⟩ : ∃ Q, Q = f_M_tell fu r 0 1 := ⟨_, rfl⟩
    have e0 : Int32.toInt64 0 = 0 := rfl
    have n0 : cn1 .ne (nI 0) = false := rfl
    have bf : cn1 .eq (b2i false) = true := rfl
    rw [← hc1, ← hQ] at x1
    rw [po_0, show Option.isNone (none : Option Nat) = true from rfl, cond_true, n0, cond_false, e0, ← hc1, ← hQ]
    unfold t_Fo_writeThing_17 w_Fo_writeThing_17 t_M_write_19 w_M_write_19
    rw [isc_no, isc_no, isc_no, isc_no, bf, cond_true, cond_true, cond_true, cond_true, n0, cond_false]
    have no : tho (sD c1) none := Or.inl rfl
    refine ⟨?_, ⟨fun _ => ⟨fun _ => ⟨x2, no, fun _ => ⟨no, fun _ => ⟨no, fun _ => ⟨no, fun _ => trivial, (fun z => nomatch z)⟩, (fun z => nomatch z)⟩, (fun z => nomatch z)⟩, (fun z => nomatch z)⟩, (fun z => nomatch z)⟩, (fun z => nomatch z)⟩, ⟨fun _ => ⟨(fun z => nomatch z), fun _ => ⟨x3, fun _ => trivial, fun _ => ⟨(fun z => nomatch z), fun _ => trivial⟩⟩⟩, (fun z => nomatch z)⟩⟩
    cases cn1 .gt Q.1 <;> exact x1
  · have h1 : 1 ≤ v := by omega
    obtain ⟨k1, k2⟩ := a_kind hR.rt h1 hv
    obtain ⟨x1, x2, x3⟩ := wb (fu := fu) (show 100 ≤ fu by omega) hO h7 (x := 1) (cnt := 1) rfl (by decide) (Int32.toInt64 (sA r 22 v))
    obtain ⟨y1, y2, y3⟩ := sv_19 hfu hI hR h1 hv x1
    have nv : (nI v).toNatClampNeg = v := nN (by omega)
    have nev : cn1 .ne (nI v) = true := by rw [c1_ne, yI_i (by omega)]; exact dt (by omega)
    rw [po_s φ h1, show Option.isNone (some (φ v)) = false from rfl, cond_false, nev, cond_true, nv, k1]
    exact ⟨y1, ⟨fun _ => ⟨(fun z => nomatch z), fun _ => ⟨k2, x2, y2⟩⟩, (fun z => nomatch z)⟩, ⟨fun _ => ⟨fun _ => ⟨n_vp (by omega), x3, y3⟩, (fun z => nomatch z)⟩, (fun z => nomatch z)⟩⟩
theorem sv_all (hfu : 1000000 ≤ fu) : ∀ dd, dd ≤ 30 → ∀ m m', 2 * dd + 1 ≤ m → dd + 1 ≤ m' → WRI G T fu (F_wr fu m) (W_wr fu m) (F_write fu m') (W_write fu m') (nI (31 - dd)) := by
  intro dd
  induction dd with
  | zero =>
    intro _ m m' hm hm' φ n u v c r hR hO h7 hv
    obtain ⟨m, rfl⟩ : ∃ a, m = a + 1 := ⟨m - 1, by omega⟩
    obtain ⟨m', rfl⟩ : ∃ a, m' = a + 1 := ⟨m' - 1, by omega⟩
    show WO c r (f_Fo_writeThing (F_wr fu m) fu c (po φ v) (nI 31)) (f_M_write (F_write fu m') fu r (nI v) (nI 31)).2 (f_M_write (F_write fu m') fu r (nI v) (nI 31)).1 ∧ w_Fo_writeThing (F_wr fu m) (W_wr fu m) fu c (po φ v) (nI 31) ∧ w_M_write (F_write fu m') (W_write fu m') fu r (nI v) (nI 31)
    unfold f_Fo_writeThing w_Fo_writeThing f_M_write w_M_write
    rw [show cn2 .le (nI 31) 30 = false from rfl, cond_false, cond_false]
    exact ⟨⟨fwC_I c (Or.inr rfl) 8, fwR.rf r, rfl, Or.inr (Or.inr rfl), fun z => absurd (show (8 : Int32) = 0 from z) (by decide)⟩, ⟨(fun z => nomatch z), fun _ => trivial⟩, ⟨(fun z => nomatch z), fun _ => trivial⟩⟩
  | succ dd ih =>
    intro hdd m m' hm hm'
    obtain ⟨A, rfl⟩ : ∃ a, m = a + 2 := ⟨m - 2, by omega⟩
    obtain ⟨B, rfl⟩ : ∃ b, m' = b + 1 := ⟨m' - 1, by omega⟩
    have e : nI (31 - (dd + 1)) + 1 = nI (31 - dd) := by
      rw [show (1 : Int32) = nI 1 from rfl, nAd]
      congr 1
      omega
    have I1 := ih (by omega) A B (by omega) (by omega)
    rw [← e] at I1
    exact sv_thing hfu I1 (by rw [yI_i (by omega)]; omega)
end SV4
