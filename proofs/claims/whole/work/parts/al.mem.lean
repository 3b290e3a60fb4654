/-! SLOT AND MEMBER -/
theorem lN_n0 {v : Nat} (h : v < 2 ^ 63) : (¬ lN v = 0) ↔ v ≠ 0 := by
  refine ⟨fun z y => z (by rw [y]; rfl), fun z y => z ?_⟩
  have := yL_i h
  rw [y] at this
  have e : ((0 : Int64).toInt) = 0 := rfl
  omega
theorem mb_M {s : St} {t j : Nat} {b w0 : Int32} (lt : cn2 .lt b w0 = true) (ht : t ≤ 40000) (e1 : (sA s 23 t + b).toNatClampNeg = j) (e2 : vp_in (sA s 23 t + b) 40001) :
    (¬ (sA s 22 t).toInt = 9 → ¬ (sA s 22 t).toInt = 10 → w_M_member_46 s b (nI t) (sA s 22 t) w0 ∧ t_M_member_46 s b (nI t) (sA s 22 t) w0 = (sB s 26 j, pI s 21 0 0)) ∧
    (∀ v, v ≤ 40000 → sB s 26 j = lN v → (sA s 22 t).toInt = 10 → w_M_member_46 s b (nI t) (sA s 22 t) w0 ∧ t_M_member_46 s b (nI t) (sA s 22 t) w0 = (if v = 0 then -1 else (sA s 22 v - 11).toInt64, pI s 21 0 0)) ∧
    (∀ v, v ≤ 40000 → sB s 26 j = lN v → (sA s 22 t).toInt = 9 → w_M_member_46 s b (nI t) (sA s 22 t) w0 ∧ t_M_member_46 s b (nI t) (sA s 22 t) w0 = (if v = 0 then -1 else (sA s 24 v).toInt64, pI s 21 0 0)) := by
  have nt : (nI t).toNatClampNeg = t := nN (by omega)
  have vt : vp_in (nI t) 40001 := n_vp ht
  have k9 : cn2 .ne (sA s 22 t) 9 = decide (¬ (sA s 22 t).toInt = 9) := c2_ne _ 9
  have k10 : cn2 .ne (sA s 22 t) 10 = decide (¬ (sA s 22 t).toInt = 10) := c2_ne _ 10
  unfold w_M_member_46 t_M_member_46
  rw [lt, nt, e1, k9, k10, cond_true]
  refine ⟨fun z1 z2 => ?_, fun v hv ev z => ?_, fun v hv ev z => ?_⟩
  · rw [dt z1, dt z2, cond_true, cond_true]
    exact ⟨⟨fun _ => ⟨vt, e2, fun _ => ⟨fun _ => trivial, (fun z => nomatch z)⟩, (fun z => nomatch z)⟩, (fun z => nomatch z)⟩, rfl⟩
  · have kv : cn1 .ne (lg_cmp (lN v) 0) = decide (¬ v = 0) := by rw [lc_ne]; exact decide_eq_decide.mpr (lN_n0 (by omega))
    have nv : (nI v).toNatClampNeg = v := nN (by omega)
    rw [dt (show ¬ (sA s 22 t).toInt = 9 by omega), df (fun y => y z : ¬ ¬ (sA s 22 t).toInt = 10), cond_true, cond_false, ev, kv, lN_I, nv]
    refine ⟨⟨fun _ => ⟨vt, e2, fun _ => ⟨(fun z => nomatch z), fun _ => ⟨fun _ => ⟨n_vp hv, trivial⟩, fun _ => trivial⟩⟩, (fun z => nomatch z)⟩, (fun z => nomatch z)⟩, ?_⟩
    by_cases e : v = 0
    · rw [df (fun y => y e : ¬ ¬ v = 0), cond_false, if_pos e]
    · rw [dt e, cond_true, if_neg e]
  · have kv : cn1 .ne (lg_cmp (lN v) 0) = decide (¬ v = 0) := by rw [lc_ne]; exact decide_eq_decide.mpr (lN_n0 (by omega))
    have nv : (nI v).toNatClampNeg = v := nN (by omega)
    rw [df (fun y => y z : ¬ ¬ (sA s 22 t).toInt = 9), cond_false, ev, kv, lN_I, nv]
    refine ⟨⟨fun _ => ⟨vt, e2, (fun z => nomatch z), fun _ => ⟨fun _ => ⟨n_vp hv, trivial⟩, fun _ => trivial⟩⟩, (fun z => nomatch z)⟩, ?_⟩
    by_cases e : v = 0
    · rw [df (fun y => y e : ¬ ¬ v = 0), cond_false, if_pos e]
    · rw [dt e, cond_true, if_neg e]
section MEM
variable {G : AH} {T : Nat} {φ : Nat → Nat} {n u t fu : Nat} {c r s : St} {b : Int32}
/-- a thing tells -/
theorem a_told (h : RR G T φ n u c r) (h1 : 1 ≤ t) (h2 : t ≤ n ∧ LVE φ t) : wu_tellable c (some (φ t)) ∧ u_tellable c (some (φ t)) = cond (cn2 .ge (sA r 22 t) 11) (cond (cn2 .ne (sA r 22 t) 16) (cond (cn2 .le (sA r 22 t) 13) 2 3) 1) (sA r 24 t) ∧ ∀ b w0 : Int32, w0 = u_tellable c (some (φ t)) → 0 ≤ b.toInt → b.toInt < w0.toInt → wu_told c (some (φ t)) b ∧ w_M_member_46 (pI r 21 0 1) b (nI t) (sA r 22 t) w0 ∧ t_M_member_46 (pI r 21 0 1) b (nI t) (sA r 22 t) w0 = (u_told c (some (φ t)) b, pI (pI r 21 0 1) 21 0 0) := by
  have hb := h.bnd
  have ht := h.rt
  obtain ⟨hT, s0, su, h37, -⟩ := ht.2.2.2.1 t h1 h2
  have cell : ∀ {b : Int32} {i : Nat}, b.toInt = (i : Int) → (sA r 23 t).toNatClampNeg + i < 40001 → ((sA r 23 t) + b).toNatClampNeg = (sA r 23 t).toNatClampNeg + i ∧ vp_in ((sA r 23 t) + b) 40001 := fun {b i} hi hl => by
    have e := nn_add (x := sA r 23 t) (y := b) s0 (by omega) (by rw [tn_eq] at hl; omega)
    rw [tn_eq b, hi] at e
    exact ⟨e.1.trans (by omega), vp_of (by rw [e.2]; omega) (by rw [e.2]; rw [tn_eq] at hl; omega)⟩
  have k11 : cn2 .ge (sA r 22 t) 11 = decide (11 ≤ (sA r 22 t).toInt) := c2_ge _ 11
  have k16 : cn2 .ne (sA r 22 t) 16 = decide (¬ (sA r 22 t).toInt = 16) := c2_ne _ 16
  have k13 : cn2 .le (sA r 22 t) 13 = decide ((sA r 22 t).toInt ≤ 13) := c2_le _ 13
  rw [k11, k16, k13]
  rcases hT with hh | hh | hh | hh
  · have sz := hh.sz
    obtain ⟨a1, a2, a3, a4, f, a5, a6⟩ := hh
    have eu : u_tellable c (some (φ t)) = sA r 24 t := by
      unfold u_tellable f_Ro_tellable
      rw [oC_at h37 a4, if_neg (by decide), if_pos rfl, gR_at h37 a4 rfl, aLN_at (by omega) a5]
      exact (nIof a3).symm
    have o := ob_at (D := sD c) h37 a4 rfl
    have l := isL_at (D := sD c) (a := φ t + 1) (by omega) a5
    refine ⟨?_, ?_, fun b w0 hw b0 b1 => ?_⟩
    · unfold wu_tellable w_Ro_tellable
      rw [oC_at h37 a4, gR_at h37 a4 rfl]
      exact Or.inr (Or.inl ⟨rfl, o, l, trivial⟩)
    · rw [eu, df (p := 11 ≤ (sA r 22 t).toInt) (by omega), cond_false]
    · rw [eu] at hw
      subst hw
      obtain ⟨i, hi⟩ : ∃ i : Nat, b.toInt = (i : Int) := ⟨b.toInt.toNat, by omega⟩
      have im : i < (sA r 24 t).toNatClampNeg := by rw [tn_eq]; omega
      have nb : b.toNatClampNeg = i := by rw [tn_eq, hi]; omega
      obtain ⟨e1, e2⟩ := cell hi (by rw [sz] at su; omega)
      have lt : cn2 .lt b (sA r 24 t) = true := by rw [c2_lt]; exact dt b1
      have ll : cn1 .lt b = false := by rw [c1_lt]; exact df (by omega)
      have gg : cn2 .ge b (Int32.ofNat (sA r 24 t).toNatClampNeg) = false := by rw [show Int32.ofNat (sA r 24 t).toNatClampNeg = sA r 24 t from (nIof a3).symm, c2_ge]; exact df (by omega)
      obtain ⟨m1, -, -⟩ := mb_M (s := pI r 21 0 1) (t := t) (w0 := sA r 24 t) lt (by omega) e1 e2
      obtain ⟨m2, m3⟩ := m1 (show ¬ (sA r 22 t).toInt = 9 by omega) (show ¬ (sA r 22 t).toInt = 10 by omega)
      have ev : u_told c (some (φ t)) b = sB r 26 ((sA r 23 t).toNatClampNeg + i) := by
        unfold u_told f_Ro_told
        rw [oC_at h37 a4, if_neg (by decide), if_pos rfl, gR_at h37 a4 rfl, aLN_at (by omega) a5, ll, gg, cond_false, cond_false, aLF_at (by omega) a5, nb]
        exact (a6 i im).1
      refine ⟨?_, m2, ?_⟩
      · unfold wu_told w_Ro_told
        rw [oC_at h37 a4, gR_at h37 a4 rfl, aLN_at (by omega) a5, ll, gg]
        exact Or.inr (Or.inl ⟨rfl, (fun z => nomatch z), fun _ => ⟨o, l, (fun z => nomatch z), fun _ => ⟨o, l, vp_of b0 (by omega), trivial⟩⟩⟩)
      · rw [ev]
        exact m3
  · have sz := hh.sz
    have hk := hh.kk
    obtain ⟨a3, ⟨bb, a4, a7⟩, f, a5, a6⟩ := hh
    have eu : u_tellable c (some (φ t)) = sA r 24 t := by
      unfold u_tellable f_Sh_tellable
      rw [oC_at h37 a4, if_neg (by decide), if_neg (by decide), if_pos rfl, gR_at h37 a4 rfl, aRN_at (by omega) a5]
      exact (nIof a3).symm
    have o := ob_at (D := sD c) h37 a4 rfl
    have l := isR_at (D := sD c) (a := φ t + 1) (by omega) a5
    refine ⟨?_, ?_, fun b w0 hw b0 b1 => ?_⟩
    · unfold wu_tellable w_Sh_tellable
      rw [oC_at h37 a4, gR_at h37 a4 rfl]
      exact Or.inr (Or.inr (Or.inl ⟨rfl, o, l, trivial⟩))
    · rw [eu, df (p := 11 ≤ (sA r 22 t).toInt) (by omega), cond_false]
    · rw [eu] at hw
      subst hw
      obtain ⟨i, hi⟩ : ∃ i : Nat, b.toInt = (i : Int) := ⟨b.toInt.toNat, by omega⟩
      have im : i < (sA r 24 t).toNatClampNeg := by rw [tn_eq]; omega
      have nb : b.toNatClampNeg = i := by rw [tn_eq, hi]; omega
      obtain ⟨e1, e2⟩ := cell hi (by rw [sz] at su; omega)
      have lt : cn2 .lt b (sA r 24 t) = true := by rw [c2_lt]; exact dt b1
      have ll : cn1 .lt b = false := by rw [c1_lt]; exact df (by omega)
      have gg : cn2 .ge b (Int32.ofNat (sA r 24 t).toNatClampNeg) = false := by rw [show Int32.ofNat (sA r 24 t).toNatClampNeg = sA r 24 t from (nIof a3).symm, c2_ge]; exact df (by omega)
      obtain ⟨v, v1, v2, v3, v4⟩ := a6 i im
      obtain ⟨-, m10, m9⟩ := mb_M (s := pI r 21 0 1) (t := t) (w0 := sA r 24 t) lt (by omega) e1 e2
      have tho' := a_tho ht v1
      have ic := (a_isc ht v1).1
      have w13 : w_Sh_told_13 c (po φ v) ∧ t_Sh_told_13 c (po φ v) = (if v = 0 then -1 else if (sA r 22 t).toInt = 10 then (sA r 22 v - 11).toInt64 else (sA r 24 v).toInt64) := by
        unfold w_Sh_told_13 t_Sh_told_13
        rw [ic]
        by_cases v0 : v = 0
        · subst v0
          rw [ht.2.1, df (p := 11 ≤ ((0 : Int32)).toInt ∧ ((0 : Int32)).toInt ≤ 15) (by decide), show cn1 .eq (b2i false) = true from rfl, cond_true, po_0, show Option.isNone (none : Option Nat) = true from rfl, cond_true, if_pos rfl]
          rw [po_0] at tho'
          exact ⟨⟨tho', fun _ => ⟨fun _ => trivial, (fun z => nomatch z)⟩, (fun z => nomatch z)⟩, rfl⟩
        · have gk := v4.resolve_left v0
          rw [po_s φ (by omega)] at tho' ⊢
          rw [if_neg v0]
          obtain ⟨z1, z2, z3, z4, z5⟩ := a_size ht (show 1 ≤ v by omega) v1
          rcases gk with ⟨g1, g2⟩ | ⟨g1, g2, g3, -⟩
          · rw [df (p := 11 ≤ (sA r 22 v).toInt ∧ (sA r 22 v).toInt ≤ 15) (by omega), show cn1 .eq (b2i false) = true from rfl, cond_true, show Option.isNone (some (φ v)) = false from rfl, cond_false, if_neg (by omega), z1, if_pos (by omega)]
            exact ⟨⟨tho', fun _ => ⟨(fun z => nomatch z), fun _ => ⟨z2, trivial⟩⟩, (fun z => nomatch z)⟩, rfl⟩
          · obtain ⟨hV, -, -, w37, -⟩ := ht.2.2.2.1 v (by omega) v1
            rcases hV with y | y | y | y
            · exact absurd y.2.1 (by omega)
            · have := y.kk; exact absurd this (by omega)
            · obtain ⟨-, -, q, p, w, x, y4, -⟩ := y
              rw [dt (p := 11 ≤ (sA r 22 v).toInt ∧ (sA r 22 v).toInt ≤ 15) (by omega), show cn1 .eq (b2i true) = false from rfl, cond_false, if_pos g1, gI_at w37 y4 rfl]
              exact ⟨⟨tho', (fun z => nomatch z), fun _ => ⟨cst_at w37 y4 rfl, ob_at w37 y4 rfl, trivial⟩⟩, rfl⟩
            · exact absurd y.1 (by omega)
      have ev : u_told c (some (φ t)) b = t_Sh_told_13 c (po φ v) := by
        unfold u_told f_Sh_told
        rw [oC_at h37 a4, if_neg (by decide), if_neg (by decide), if_pos rfl, gR_at h37 a4 rfl, aRN_at (by omega) a5, ll, gg, cond_false, cond_false, aRF_at (by omega) a5, nb, v3]
      have wt : wu_told c (some (φ t)) b := by
        unfold wu_told w_Sh_told
        rw [oC_at h37 a4, gR_at h37 a4 rfl, aRN_at (by omega) a5, ll, gg, aRF_at (by omega) a5, nb, v3]
        exact Or.inr (Or.inr (Or.inl ⟨rfl, (fun z => nomatch z), fun _ => ⟨o, l, (fun z => nomatch z), fun _ => ⟨o, l, vp_of b0 (by omega), w13.1⟩⟩⟩))
      rcases hk with hk | hk
      · obtain ⟨q1, q2⟩ := m9 v (by omega) v2 hk
        refine ⟨wt, q1, ?_⟩
        rw [ev, w13.2, show (if (sA r 22 t).toInt = 10 then (sA r 22 v - 11).toInt64 else (sA r 24 v).toInt64) = (sA r 24 v).toInt64 from if_neg (by omega)]
        exact q2
      · obtain ⟨q1, q2⟩ := m10 v (by omega) v2 hk
        refine ⟨wt, q1, ?_⟩
        rw [ev, w13.2, show (if (sA r 22 t).toInt = 10 then (sA r 22 v - 11).toInt64 else (sA r 24 v).toInt64) = (sA r 22 v - 11).toInt64 from if_pos hk]
        exact q2
  · have sz := hh.sz (M := sA r 24)
    obtain ⟨a1, a2, q, p, w, v, a4, c0, c1, c2, c3, c4, -⟩ := hh
    have o := ob_at (D := sD c) h37 a4 rfl
    have i11 : (sA r 22 t - 11).toInt = (sA r 22 t).toInt - 11 := by
      rw [show sA r 22 t - 11 = sA r 22 t + (-11) from Int32.sub_eq_add_neg _ _]
      exact i_addy rfl (show ((-11 : Int32).toInt) = -11 from rfl) (by omega) (by omega)
    have ip : f_Pa_isPriced c (some (φ t)) = decide (2 < (sA r 22 t - 11).toInt) := by
      unfold f_Pa_isPriced
      rw [gI_at h37 a4 rfl, bl_same]
      exact bl_3 (by omega) (by omega)
    have eu : u_tellable c (some (φ t)) = if (sA r 22 t).toInt ≤ 13 then 2 else 3 := by
      unfold u_tellable f_Pa_tellable
      rw [oC_at h37 a4, if_pos rfl, ip]
      by_cases g : (sA r 22 t).toInt ≤ 13
      · rw [if_pos g, df (by omega)]; rfl
      · rw [if_neg g, dt (by omega)]; rfl
    refine ⟨?_, ?_, fun b w0 hw b0 b1 => ?_⟩
    · unfold wu_tellable w_Pa_tellable w_Pa_isPriced
      rw [oC_at h37 a4]
      exact Or.inl ⟨rfl, ⟨o, trivial⟩, rfl, trivial⟩
    · rw [eu, dt (p := 11 ≤ (sA r 22 t).toInt) (by omega), cond_true, dt (p := ¬ (sA r 22 t).toInt = 16) (by omega), cond_true]
      by_cases g : (sA r 22 t).toInt ≤ 13
      · rw [if_pos g, dt g]; rfl
      · rw [if_neg g, df g]; rfl
    · have w3 : w0.toInt ≤ 3 := by
        rw [hw, eu]
        by_cases g : (sA r 22 t).toInt ≤ 13
        · rw [if_pos g]; decide
        · rw [if_neg g]; decide
      obtain ⟨i, hi⟩ : ∃ i : Nat, b.toInt = (i : Int) := ⟨b.toInt.toNat, by omega⟩
      obtain ⟨e1, e2⟩ := cell hi (by rw [sz] at su; omega)
      have lt : cn2 .lt b w0 = true := by rw [c2_lt]; exact dt b1
      obtain ⟨m1, -, -⟩ := mb_M (s := pI r 21 0 1) (t := t) (w0 := w0) lt (by omega) e1 e2
      obtain ⟨m2, m3⟩ := m1 (show ¬ (sA r 22 t).toInt = 9 by omega) (show ¬ (sA r 22 t).toInt = 10 by omega)
      have ev : u_told c (some (φ t)) b = sB r 26 ((sA r 23 t).toNatClampNeg + i) := by
        unfold u_told f_Pa_told
        rw [oC_at h37 a4, if_pos rfl, gI_at h37 a4 rfl, gI_at h37 a4 rfl, gL_at h37 a4 rfl]
        have kb : cn1 .ne b = decide (¬ b.toInt = 0) := c1_ne b
        have kb1 : cn2 .ne b 1 = decide (¬ b.toInt = 1) := c2_ne b 1
        rw [kb, kb1]
        by_cases g0 : b.toInt = 0
        · rw [df (fun z => z g0 : ¬ ¬ b.toInt = 0), cond_false, show i = 0 by omega, Nat.add_zero]
          exact c0.symm
        · rw [dt g0, cond_true]
          by_cases g1 : b.toInt = 1
          · rw [df (fun z => z g1 : ¬ ¬ b.toInt = 1), cond_false, show i = 1 by omega]
            exact c1.symm
          · rw [dt g1, cond_true, show i = 2 by omega]
            exact c3.symm
      refine ⟨?_, m2, ?_⟩
      · unfold wu_told w_Pa_told
        rw [oC_at h37 a4]
        exact Or.inl ⟨rfl, fun _ => ⟨fun _ => ⟨o, trivial⟩, fun _ => ⟨o, trivial⟩⟩, fun _ => ⟨o, trivial⟩⟩
      · rw [ev]
        exact m3
  · have sz := hh.sz (M := sA r 24)
    obtain ⟨a1, q, a4, c0⟩ := hh
    have o := ob_at (D := sD c) h37 a4 rfl
    have eu : u_tellable c (some (φ t)) = 1 := by
      unfold u_tellable f_Tr_tellable
      rw [oC_at h37 a4, if_neg (by decide), if_neg (by decide), if_neg (by decide)]
    refine ⟨?_, ?_, fun b w0 hw b0 b1 => ?_⟩
    · unfold wu_tellable
      rw [oC_at h37 a4]
      exact Or.inr (Or.inr (Or.inr ⟨rfl, trivial⟩))
    · rw [eu, dt (p := 11 ≤ (sA r 22 t).toInt) (by omega), cond_true, df (fun z => z a1 : ¬ ¬ (sA r 22 t).toInt = 16), cond_false]
    · have w1 : w0.toInt = 1 := by rw [hw, eu]; rfl
      obtain ⟨e1, e2⟩ := cell (b := b) (i := 0) (by omega) (by rw [sz] at su; omega)
      have lt : cn2 .lt b w0 = true := by rw [c2_lt]; exact dt b1
      obtain ⟨m1, -, -⟩ := mb_M (s := pI r 21 0 1) (t := t) (w0 := w0) lt (by omega) e1 e2
      obtain ⟨m2, m3⟩ := m1 (show ¬ (sA r 22 t).toInt = 9 by omega) (show ¬ (sA r 22 t).toInt = 10 by omega)
      have ev : u_told c (some (φ t)) b = sB r 26 ((sA r 23 t).toNatClampNeg + 0) := by
        unfold u_told f_Tr_told
        rw [oC_at h37 a4, if_neg (by decide), if_neg (by decide), if_neg (by decide), gI_at h37 a4 rfl, Nat.add_zero]
        exact c0.symm
      refine ⟨?_, m2, ?_⟩
      · unfold wu_told w_Tr_told
        rw [oC_at h37 a4]
        exact Or.inr (Or.inr (Or.inr ⟨rfl, o, trivial⟩))
      · rw [ev]
        exact m3
/-- member -/
theorem P_member (h : RL G T c r) (a b : Int32) : (th_sl c a ≠ none → wu_tellable c (th_sl c a)) ∧ (th_mem c a b = false → wu_told c (th_sl c a) b ∧ w_M_member r a b ∧ f_M_member r a b = (u_told c (th_sl c a) b, pI (pI r 21 0 1) 21 0 0)) ∧ (th_mem c a b = true → w_M_member r a b ∧ (f_M_member r a b).2 = pI r 21 0 1) := by
  obtain ⟨φ, n, u, h1, -⟩ := h
  have hb := h1.bnd
  by_cases g1 : a.toInt < 0
  · have e1 : cn1 .lt a = true := by rw [c1_lt]; exact dt g1
    have es : th_sl c a = none := by unfold th_sl; rw [e1, cond_true]
    have em : th_mem c a b = true := by unfold th_mem; rw [es]; rfl
    refine ⟨fun z => absurd es z, fun z => absurd (em.symm.trans z) (by decide), fun _ => ?_⟩
    unfold w_M_member f_M_member
    rw [e1, cond_true]
    exact ⟨⟨fun _ => trivial, (fun z => nomatch z)⟩, rfl⟩
  have e1 : cn1 .lt a = false := by rw [c1_lt]; exact df g1
  have e3 : cn2 .gt a 15 = decide (16 ≤ a.toInt) := by rw [c2_gt, n15]; exact decide_eq_decide.mpr (by omega)
  have e2 : cn2 .lt a 16 = decide (a.toInt < 16) := c2_lt a 16
  by_cases g2 : 16 ≤ a.toInt
  · have es : th_sl c a = none := by unfold th_sl; rw [e1, cond_false, e2, df (by omega), cond_false]
    have em : th_mem c a b = true := by unfold th_mem; rw [es]; rfl
    refine ⟨fun z => absurd es z, fun z => absurd (em.symm.trans z) (by decide), fun _ => ?_⟩
    unfold w_M_member f_M_member
    rw [e1, cond_false, e3, dt g2, cond_true]
    exact ⟨⟨(fun z => nomatch z), fun _ => ⟨fun _ => trivial, (fun z => nomatch z)⟩⟩, rfl⟩
  obtain ⟨v, v1, v2, v3⟩ := h1.2.2.2.2.1 a.toNatClampNeg (by rw [tn_eq]; omega)
  replace v2 : sA r 27 a.toNatClampNeg = nI v := v2
  have es : th_sl c a = po φ v := by unfold th_sl; rw [e1, cond_false, e2, dt (by omega), cond_true]; exact v3
  have va : vp_in a 16 := vp_of (by omega) (by omega)
  have k0 : cn1 .eq (nI v) = decide (v = 0) := by rw [c1_eq, yI_i (by omega)]; exact decide_eq_decide.mpr (by omega)
  have nv : (nI v).toNatClampNeg = v := nN (by omega)
  by_cases v0 : v = 0
  · have es' : th_sl c a = none := by rw [es, v0]; rfl
    have em : th_mem c a b = true := by unfold th_mem; rw [es']; rfl
    refine ⟨fun z => absurd es' z, fun z => absurd (em.symm.trans z) (by decide), fun _ => ?_⟩
    unfold w_M_member f_M_member
    rw [e1, cond_false, e3, df g2, cond_false, v2, k0, dt v0, cond_true]
    exact ⟨⟨(fun z => nomatch z), fun _ => ⟨(fun z => nomatch z), fun _ => ⟨va, fun _ => trivial, (fun z => nomatch z)⟩⟩⟩, rfl⟩
  · rw [po_s φ (by omega)] at es
    obtain ⟨t1, t2, t3⟩ := a_told h1 (show 1 ≤ v by omega) v1
    have vv : vp_in (nI v) 40001 := n_vp (by omega)
    obtain ⟨w0, hw0⟩ : ∃ w0, w0 = u_tellable c (some (φ v)) := ⟨_, rfl⟩
    rw [← hw0] at t2
    have eM : ∀ x, t_M_member_46 (pI r 21 0 1) b (nI v) (sA r 22 v) w0 = x → ¬ b.toInt < 0 → f_M_member r a b = x := fun x hx b0 => by
      unfold f_M_member
      rw [e1, cond_false, e3, df g2, cond_false, v2, k0, df v0, cond_false, show cn1 .ge b = true from by rw [c1_ge]; exact dt (by omega), cond_true, nv]
      rw [t2] at hx
      cases h11 : cn2 .ge (sA r 22 v) 11 with
      | false => rw [h11] at hx; exact hx
      | true =>
        rw [h11] at hx
        cases h16 : cn2 .ne (sA r 22 v) 16 with
        | false => rw [h16] at hx; exact hx
        | true =>
          rw [h16] at hx
          cases h13 : cn2 .le (sA r 22 v) 13 with
          | false => rw [h13] at hx; exact hx
          | true => rw [h13] at hx; exact hx
    have wM : (¬ b.toInt < 0 → w_M_member_46 (pI r 21 0 1) b (nI v) (sA r 22 v) w0) → w_M_member r a b := fun hw => by
      unfold w_M_member
      rw [e1, e3, df g2, v2, k0, df v0, nv]
      refine ⟨(fun z => nomatch z), fun _ => ⟨(fun z => nomatch z), fun _ => ⟨va, (fun z => nomatch z), fun _ => ⟨fun z => ?_, fun _ => trivial⟩⟩⟩⟩
      have hw := hw (by rw [c1_ge] at z; have := of_decide_eq_true z; omega)
      rw [t2] at hw
      refine ⟨va, vv, fun h11 => ?_, fun h11 => ?_⟩
      · rw [h11] at hw
        refine ⟨fun h16 => ?_, fun h16 => ?_⟩
        · rw [h16] at hw
          refine ⟨fun h13 => ?_, fun h13 => ?_⟩
          · rw [h13] at hw; exact hw
          · rw [h13] at hw; exact hw
        · rw [h16] at hw; exact hw
      · rw [h11] at hw
        exact ⟨vv, hw⟩
    have em : th_mem c a b = (decide (b.toInt < 0) || !decide (b.toInt < w0.toInt)) := by
      unfold th_mem
      rw [es, c1_lt, ← hw0, c2_lt]
      rfl
    refine ⟨fun _ => by rw [es]; exact t1, fun z => ?_, fun z => ?_⟩
    · rw [em] at z
      have z1 := Bool.or_eq_false_iff.mp z
      have b0 : ¬ b.toInt < 0 := of_decide_eq_false z1.1
      have b1 : b.toInt < w0.toInt := by
        have := z1.2
        by_cases q : b.toInt < w0.toInt
        · exact q
        · rw [df q] at this
          exact absurd this (by decide)
      obtain ⟨x1, x2, x3⟩ := t3 b w0 hw0 (by omega) b1
      rw [es]
      exact ⟨x1, wM (fun _ => x2), eM _ x3 b0⟩
    · by_cases b0 : b.toInt < 0
      · refine ⟨wM (fun q => absurd b0 q), ?_⟩
        unfold f_M_member
        rw [e1, cond_false, e3, df g2, cond_false, v2, k0, df v0, cond_false, show cn1 .ge b = false from by rw [c1_ge]; exact df (by omega), cond_false]
      · have b1 : ¬ b.toInt < w0.toInt := fun q => by
          rw [em, df b0, dt q] at z
          exact absurd z (by decide)
        have lt : cn2 .lt b w0 = false := by rw [c2_lt]; exact df b1
        have x3 : t_M_member_46 (pI r 21 0 1) b (nI v) (sA r 22 v) w0 = (0, pI r 21 0 1) := by
          unfold t_M_member_46
          rw [lt, cond_false]
        refine ⟨wM (fun _ => ?_), by rw [eM _ x3 b0]⟩
        unfold w_M_member_46
        rw [lt]
        exact ⟨(fun z => nomatch z), fun _ => trivial⟩
/-- slot -/
theorem P_slot (h : RL G T c r) (a b : Int32) : w_H_slot c a b ∧ w_M_slot r a b ∧ f_H_slot c a b = (f_M_slot r a b).1 ∧ (f_M_slot r a b).2 = pI r 21 0 0 := by
  obtain ⟨φ, n, u, h1, -⟩ := h
  have hb := h1.bnd
  have ht := h1.rt
  unfold f_H_slot f_M_slot w_H_slot w_M_slot
  by_cases g1 : a.toInt < 0
  · have e1 : cn1 .lt a = true := by rw [c1_lt]; exact dt g1
    rw [e1, cond_true, cond_true]
    exact ⟨⟨fun _ => trivial, (fun z => nomatch z)⟩, ⟨fun _ => trivial, (fun z => nomatch z)⟩, rfl, rfl⟩
  have e1 : cn1 .lt a = false := by rw [c1_lt]; exact df g1
  have e2 : cn2 .lt a 16 = decide (a.toInt < 16) := c2_lt a 16
  have e3 : cn2 .le a 15 = decide (a.toInt < 16) := by rw [c2_le, n15]; exact decide_eq_decide.mpr (by omega)
  rw [e1, cond_false, cond_false, e2, e3]
  by_cases g2 : ¬ a.toInt < 16
  · rw [df g2, cond_false, cond_false]
    exact ⟨⟨(fun z => nomatch z), fun _ => ⟨(fun z => nomatch z), fun _ => trivial⟩⟩, ⟨(fun z => nomatch z), fun _ => ⟨(fun z => nomatch z), fun _ => trivial⟩⟩, rfl, rfl⟩
  have g2 : a.toInt < 16 := Decidable.not_not.mp g2
  obtain ⟨v, v1, v2, v3⟩ := h1.2.2.2.2.1 a.toNatClampNeg (by rw [tn_eq]; omega)
  replace v2 : sA r 27 a.toNatClampNeg = nI v := v2
  have va : vp_in a 16 := vp_of (by omega) (by omega)
  have vv : vp_in (nI v) 40001 := n_vp (by omega)
  have nv : (nI v).toNatClampNeg = v := nN (by omega)
  have k0 : cn1 .ne (nI v) = decide (¬ v = 0) := by rw [c1_ne, yI_i (by omega)]; exact decide_eq_decide.mpr (by omega)
  have kl : cn1 .le (nI v) = decide (v = 0) := by rw [c1_le, yI_i (by omega)]; exact decide_eq_decide.mpr (by omega)
  obtain ⟨hm1, hm2⟩ := hm_M (r := pI r 21 0 0) (v := v) (by omega)
  replace hm1 : f_M_hasMembers (pI r 21 0 0) (nI v) = decide (1 ≤ (sA r 22 v).toInt ∧ (sA r 22 v).toInt ≤ 10) := hm1
  have tho' := a_tho ht v1
  have ic := (a_isc ht v1).2.2.1
  have k10 : cn2 .ne (sA r 22 v) 10 = decide (¬ (sA r 22 v).toInt = 10) := c2_ne _ 10
  rw [dt g2, cond_true, cond_true, v2, v3, nv, k0, kl, hm1, ic, k10]
  by_cases v0 : v = 0
  · subst v0
    rw [po_0] at tho' ⊢
    rw [show Option.isNone (none : Option Nat) = true from rfl, cond_true, cond_true, dt (rfl : (0 : Nat) = 0), df (fun z => z rfl : ¬ ¬ (0 : Nat) = 0), cond_true, cond_true, cond_false, ht.2.1, df (p := (0 : Int32).toInt = 9 ∨ (0 : Int32).toInt = 10) (by decide), show cn1 .eq (b2i false) = true from rfl, cond_true]
    refine ⟨⟨(fun z => nomatch z), fun _ => ⟨fun _ => ⟨va, fun _ => ⟨fun _ => ⟨fun _ => trivial, fun _ => ⟨tho', fun _ => trivial, (fun z => nomatch z)⟩⟩, fun _ => ⟨fun _ => trivial, (fun z => nomatch z)⟩⟩, fun _ => ⟨fun _ => trivial, (fun z => nomatch z)⟩⟩, (fun z => nomatch z)⟩⟩, ⟨(fun z => nomatch z), fun _ => ⟨fun _ => ⟨va, fun _ => ⟨fun _ => ⟨fun _ => trivial, fun _ => ⟨fun _ => trivial, (fun z => nomatch z)⟩⟩, fun _ => ⟨fun _ => trivial, (fun z => nomatch z)⟩⟩, fun _ => ⟨(fun z => nomatch z), fun _ => trivial⟩⟩, (fun z => nomatch z)⟩⟩, ?_, ?_⟩
    · cases cn1 .ne b <;> cases cn2 .ne b 1 <;> cases cn2 .ne b 2 <;> rfl
    · cases cn1 .ne b <;> cases cn2 .ne b 1 <;> cases cn2 .ne b 2 <;> rfl
  · rw [po_s φ (by omega)] at tho' ⊢
    obtain ⟨q1, q2⟩ := a_kind ht (show 1 ≤ v by omega) v1
    obtain ⟨z1, z2, z3, z4, z5⟩ := a_size ht (show 1 ≤ v by omega) v1
    rw [show Option.isNone (some (φ v)) = false from rfl, cond_false, cond_false, df v0, dt v0, cond_false, cond_false, cond_true, q1, z1]
    -- what stands in a box
    have bx : ((sA r 22 v).toInt = 9 ∨ (sA r 22 v).toInt = 10) → cst (sD c) (some (φ v)) 2 ∧ ob (sD c) (some (φ v)) 7 ∧ gI (sD c) (some (φ v)) 0 = if (sA r 22 v).toInt = 10 then sA r 25 v else -1 := fun hk => by
      obtain ⟨hV, -, -, w37, -⟩ := ht.2.2.2.1 v (by omega) v1
      rcases hV with y | y | y | y
      · exact absurd y.2.1 (by omega)
      · obtain ⟨-, ⟨bb, y4, y5⟩, -⟩ := y
        refine ⟨cst_at w37 y4 rfl, ob_at w37 y4 rfl, ?_⟩
        rw [gI_at w37 y4 rfl]
        rcases y5 with ⟨q, w⟩ | ⟨q, -, -, w⟩
        · rw [if_neg (by omega), w]
        · rw [if_pos q, w]
      · obtain ⟨q, -⟩ := y; exact absurd q (by omega)
      · exact absurd y.1 (by omega)
    by_cases hk : (sA r 22 v).toInt = 9 ∨ (sA r 22 v).toInt = 10
    · obtain ⟨b1, b2, b3⟩ := bx hk
      rw [dt hk, show cn1 .eq (b2i true) = false from rfl, cond_false, dt (p := 1 ≤ (sA r 22 v).toInt ∧ (sA r 22 v).toInt ≤ 10) (by omega), show cn1 .eq (b2i true) = false from rfl, cond_false, if_pos (show (sA r 22 v).toInt ≤ 10 by omega), b3]
      refine ⟨⟨(fun z => nomatch z), fun _ => ⟨fun _ => ⟨va, fun _ => ⟨fun _ => ⟨fun _ => trivial, fun _ => ⟨tho', (fun z => nomatch z), fun _ => ⟨b1, b2, trivial⟩⟩⟩, fun _ => ⟨(fun z => nomatch z), fun _ => ⟨z2, trivial⟩⟩⟩, fun _ => ⟨(fun z => nomatch z), fun _ => ⟨q2, trivial⟩⟩⟩, (fun z => nomatch z)⟩⟩, ⟨(fun z => nomatch z), fun _ => ⟨fun _ => ⟨va, fun _ => ⟨fun _ => ⟨fun _ => trivial, fun _ => ⟨(fun z => nomatch z), fun _ => ⟨vv, fun _ => trivial, fun _ => ⟨vv, trivial⟩⟩⟩⟩, fun _ => ⟨(fun z => nomatch z), fun _ => ⟨hm2, (fun z => nomatch z), fun _ => ⟨vv, trivial⟩⟩⟩⟩, fun _ => ⟨fun _ => ⟨vv, trivial⟩, (fun z => nomatch z)⟩⟩, (fun z => nomatch z)⟩⟩, ?_, ?_⟩
      · by_cases g : (sA r 22 v).toInt = 10
        · rw [if_pos g, df (fun z => z g : ¬ ¬ (sA r 22 v).toInt = 10)]
          cases cn1 .ne b <;> cases cn2 .ne b 1 <;> cases cn2 .ne b 2 <;> rfl
        · rw [if_neg g, dt g]
          cases cn1 .ne b <;> cases cn2 .ne b 1 <;> cases cn2 .ne b 2 <;> rfl
      · cases decide (¬ (sA r 22 v).toInt = 10) <;> cases cn1 .ne b <;> cases cn2 .ne b 1 <;> cases cn2 .ne b 2 <;> rfl
    · rw [df hk, show cn1 .eq (b2i false) = true from rfl, cond_true, dt (p := ¬ (sA r 22 v).toInt = 10) (by omega), cond_true]
      by_cases hl : (sA r 22 v).toInt ≤ 10
      · rw [dt (p := 1 ≤ (sA r 22 v).toInt ∧ (sA r 22 v).toInt ≤ 10) (by omega), if_pos hl, show cn1 .eq (b2i true) = false from rfl, cond_false]
        refine ⟨⟨(fun z => nomatch z), fun _ => ⟨fun _ => ⟨va, fun _ => ⟨fun _ => ⟨fun _ => trivial, fun _ => ⟨tho', fun _ => trivial, (fun z => nomatch z)⟩⟩, fun _ => ⟨(fun z => nomatch z), fun _ => ⟨z2, trivial⟩⟩⟩, fun _ => ⟨(fun z => nomatch z), fun _ => ⟨q2, trivial⟩⟩⟩, (fun z => nomatch z)⟩⟩, ⟨(fun z => nomatch z), fun _ => ⟨fun _ => ⟨va, fun _ => ⟨fun _ => ⟨fun _ => trivial, fun _ => ⟨(fun z => nomatch z), fun _ => ⟨vv, fun _ => trivial, (fun z => nomatch z)⟩⟩⟩, fun _ => ⟨(fun z => nomatch z), fun _ => ⟨hm2, (fun z => nomatch z), fun _ => ⟨vv, trivial⟩⟩⟩⟩, fun _ => ⟨fun _ => ⟨vv, trivial⟩, (fun z => nomatch z)⟩⟩, (fun z => nomatch z)⟩⟩, ?_, ?_⟩
        · cases cn1 .ne b <;> cases cn2 .ne b 1 <;> cases cn2 .ne b 2 <;> rfl
        · cases cn1 .ne b <;> cases cn2 .ne b 1 <;> cases cn2 .ne b 2 <;> rfl
      · rw [df (p := 1 ≤ (sA r 22 v).toInt ∧ (sA r 22 v).toInt ≤ 10) (by omega), if_neg hl, show cn1 .eq (b2i false) = true from rfl, cond_true]
        refine ⟨⟨(fun z => nomatch z), fun _ => ⟨fun _ => ⟨va, fun _ => ⟨fun _ => ⟨fun _ => trivial, fun _ => ⟨tho', fun _ => trivial, (fun z => nomatch z)⟩⟩, fun _ => ⟨(fun z => nomatch z), fun _ => ⟨z2, trivial⟩⟩⟩, fun _ => ⟨(fun z => nomatch z), fun _ => ⟨q2, trivial⟩⟩⟩, (fun z => nomatch z)⟩⟩, ⟨(fun z => nomatch z), fun _ => ⟨fun _ => ⟨va, fun _ => ⟨fun _ => ⟨fun _ => trivial, fun _ => ⟨(fun z => nomatch z), fun _ => ⟨vv, fun _ => trivial, (fun z => nomatch z)⟩⟩⟩, fun _ => ⟨(fun z => nomatch z), fun _ => ⟨hm2, fun _ => trivial, (fun z => nomatch z)⟩⟩⟩, fun _ => ⟨fun _ => ⟨vv, trivial⟩, (fun z => nomatch z)⟩⟩, (fun z => nomatch z)⟩⟩, ?_, ?_⟩
        · cases cn1 .ne b <;> cases cn2 .ne b 1 <;> cases cn2 .ne b 2 <;> rfl
        · cases cn1 .ne b <;> cases cn2 .ne b 1 <;> cases cn2 .ne b 2 <;> rfl
end MEM
