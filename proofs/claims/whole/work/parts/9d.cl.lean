/-! ROWS AND SHELVES: read, put, copied -/
theorem pB_pB (s : St) (a : Nat) (f g : Nat → Int64) : pB (pB s a f) a g = pB s a g := by
  have e : up1 (up1 s.2.2.2.1 a f) a g = up1 s.2.2.2.1 a g := by
    funext b
    unfold up1
    by_cases h : b = a
    · rw [if_pos h, if_pos h]
    · rw [if_neg h, if_neg h, if_neg h]
  show (s.1, s.2.1, s.2.2.1, up1 (up1 s.2.2.2.1 a f) a g, s.2.2.2.2) = (s.1, s.2.1, s.2.2.1, up1 s.2.2.2.1 a g, s.2.2.2.2)
  rw [e]
theorem hup_hup (D : AH) (a : Nat) (e f : AE) : hup (hup D a e) a f = hup D a f := by
  funext b
  unfold hup
  by_cases h : b = a
  · rw [if_pos h, if_pos h]
  · rw [if_neg h, if_neg h, if_neg h]
theorem tho_up {D : AH} {b : Nat} {o : Option Nat} (h : tho D o) (hb : ∃ e, D b = some (.inr e)) (e0 : AE) : tho (hup D b e0) o := by
  obtain ⟨e', hb⟩ := hb
  rcases h with h | ⟨ci, fs, h1, h2⟩
  · exact Or.inl h
  · obtain ⟨a, rfl, h3, h4⟩ := dcl_some h1
    have : a ≠ b := fun z => by rw [z, hb] at h4; cases h4
    exact tho_at h3 ((hupN this).trans h4) h2
section RS
variable {φ : Nat → Nat} {n u N t : Nat} {D : AH} {K S M Q : Nat → Int32} {C : Nat → Int64}
theorem rd_shl (h : RT φ n u D N K S M Q C) (h1 : 1 ≤ t) (h2 : t ≤ n ∧ LVE φ t) (hk : (K t).toInt = 9 ∨ (K t).toInt = 10) : ∃ b f, D (φ t) = some (.inl (7, [.inl b, .inr (.inr (some (φ t + 1)))])) ∧ D (φ t + 1) = some (.inr (.inr (.inr ((M t).toNatClampNeg, f)))) ∧ (((K t).toInt = 9 ∧ b = -1) ∨ ((K t).toInt = 10 ∧ 0 ≤ (Q t).toInt ∧ (Q t).toInt ≤ 4 ∧ b = Q t)) ∧ (∀ i, i < (M t).toNatClampNeg → ∃ v, (v ≤ n ∧ LVE φ v) ∧ C ((S t).toNatClampNeg + i) = lN v ∧ f i = po φ v ∧ (v = 0 ∨ gok K Q v t)) ∧ 0 ≤ (M t).toInt ∧ 37 ≤ φ t ∧ φ t + 2 ≤ N ∧ 0 ≤ (S t).toInt ∧ (S t).toNatClampNeg + (M t).toNatClampNeg ≤ u := by
  obtain ⟨hT, b1, b2, b3, b4⟩ := h.2.2.2.1 t h1 h2
  rcases hT with g | g | g | g
  · exact absurd g.2.1 (by omega)
  · have hz := g.sz
    obtain ⟨g1, ⟨b, g2, g3⟩, f, g4, g5⟩ := g
    have hw : twd (K t) = 2 := if_pos (by omega)
    exact ⟨b, f, g2, g4, g3, g5, g1, b3, by omega, b1, by omega⟩
  · exact absurd g.1 (by omega)
  · exact absurd g.1 (by omega)
theorem rd_row (h : RT φ n u D N K S M Q C) (h1 : 1 ≤ t) (h2 : t ≤ n ∧ LVE φ t) (k1 : 1 ≤ (K t).toInt) (k2 : (K t).toInt ≤ 8) : ∃ f, D (φ t) = some (.inl (6, [.inl (K t), .inr (.inr (some (φ t + 1)))])) ∧ D (φ t + 1) = some (.inr (.inr (.inl ((M t).toNatClampNeg, f)))) ∧ (∀ i, i < (M t).toNatClampNeg → f i = C ((S t).toNatClampNeg + i) ∧ ((K t).toInt = 7 → KP (f i))) ∧ 0 ≤ (M t).toInt ∧ 37 ≤ φ t ∧ φ t + 2 ≤ N ∧ 0 ≤ (S t).toInt ∧ (S t).toNatClampNeg + (M t).toNatClampNeg ≤ u := by
  obtain ⟨hT, b1, b2, b3, b4⟩ := h.2.2.2.1 t h1 h2
  rcases hT with g | g | g | g
  · have hz := g.sz
    obtain ⟨g1, g2, g3, g4, f, g5, g6⟩ := g
    have hw : twd (K t) = 2 := if_pos (by omega)
    exact ⟨f, g4, g5, g6, g3, b3, by omega, b1, by omega⟩
  · exact absurd g.kk (by omega)
  · exact absurd g.1 (by omega)
  · exact absurd g.1 (by omega)
theorem rd_prt (h : RT φ n u D N K S M Q C) (h1 : 1 ≤ t) (h2 : t ≤ n ∧ LVE φ t) (k1 : 11 ≤ (K t).toInt) (k2 : (K t).toInt ≤ 15) : ∃ (q p : Int32) (w : Int64) (v : Nat), D (φ t) = some (.inl (4, [.inl (K t - 11), .inl q, .inr (.inl w), .inl p, .inr (.inr (po φ v))])) ∧ C ((S t).toNatClampNeg) = q.toInt64 ∧ C ((S t).toNatClampNeg + 1) = w ∧ KP w ∧ C ((S t).toNatClampNeg + 2) = p.toInt64 ∧ C ((S t).toNatClampNeg + 3) = lN v ∧ (v ≤ n ∧ LVE φ v) ∧ (v = 0 ∨ (K v).toInt = 10) ∧ 37 ≤ φ t ∧ φ t + 1 ≤ N ∧ 0 ≤ (S t).toInt ∧ (S t).toNatClampNeg + 4 ≤ u := by
  obtain ⟨hT, b1, b2, b3, b4⟩ := h.2.2.2.1 t h1 h2
  rcases hT with g | g | g | g
  · exact absurd g.2.1 (by omega)
  · exact absurd g.kk (by omega)
  · have hz := g.sz (M := M)
    obtain ⟨g1, g2, q, p, w, v, g3, g4, g5, g6, g7, g8, g9, g10⟩ := g
    have hw : twd (K t) = 1 := if_neg (by omega)
    exact ⟨q, p, w, v, g3, g4, g5, g6, g7, g8, g9, g10, b3, by omega, b1, by omega⟩
  · exact absurd g.1 (by omega)
theorem rd_trb (h : RT φ n u D N K S M Q C) (h1 : 1 ≤ t) (h2 : t ≤ n ∧ LVE φ t) (k1 : (K t).toInt = 16) : ∃ (q : Int32), D (φ t) = some (.inl (8, [.inl q])) ∧ C ((S t).toNatClampNeg) = q.toInt64 ∧ 37 ≤ φ t ∧ φ t + 1 ≤ N ∧ 0 ≤ (S t).toInt ∧ (S t).toNatClampNeg + 1 ≤ u := by
  obtain ⟨hT, b1, b2, b3, b4⟩ := h.2.2.2.1 t h1 h2
  rcases hT with g | g | g | g
  · exact absurd g.2.1 (by omega)
  · exact absurd g.kk (by omega)
  · exact absurd g.2.1 (by omega)
  · have hz := g.sz (M := M)
    obtain ⟨g1, q, g2, g3⟩ := g
    have hw : twd (K t) = 1 := if_neg (by omega)
    exact ⟨q, g2, g3, b3, by omega, b1, by omega⟩
end RS
section PT
variable {G : AH} {T : Nat} {φ : Nat → Nat} {n u t : Nat} {c r : St}
/-- a shelf's members otherwise -/
theorem RR.shl (h : RR G T φ n u c r) (h1 : 1 ≤ t) (h2 : t ≤ n ∧ LVE φ t) (hk : (sA r 22 t).toInt = 9 ∨ (sA r 22 t).toInt = 10) {f : Nat → Option Nat} {C : Nat → Int64} (hC : ∀ j, (j < (sA r 23 t).toNatClampNeg ∨ (sA r 23 t).toNatClampNeg + (sA r 24 t).toNatClampNeg ≤ j) → C j = sB r 26 j) (hf : ∀ i, i < (sA r 24 t).toNatClampNeg → ∃ v, (v ≤ n ∧ LVE φ v) ∧ C ((sA r 23 t).toNatClampNeg + i) = lN v ∧ f i = po φ v ∧ (v = 0 ∨ gok (sA r 22) (sA r 25) v t)) :
    RR G T φ n u (pQ c (hup (sD c) (φ t + 1) (.inr (.inr (.inr ((sA r 24 t).toNatClampNeg, f))))) (sN c) (sU c)) (pB r 26 C) := by
  obtain ⟨b, f0, d1, d2, d3, d4, d5, d6, d7, d8, d9⟩ := rd_shl h.rt h1 h2 hk
  have hb := h.bnd
  have ez : tsz (sA r 22 t) (sA r 24 t) = (sA r 24 t).toNatClampNeg := tz_row (by omega)
  refine h.put (h.rt.put h1 h2 (fun a g1 g2 => hupN g2) (fun g => absurd hk (by omega)) (by rw [ez]; exact hC) ?_) (fun a ha => hupN (by omega))
  refine Or.inr (Or.inl ⟨d5, ⟨b, (hupN (by omega)).trans d1, d3⟩, f, hupS, hf⟩)
/-- a row's members otherwise -/
theorem RR.row (h : RR G T φ n u c r) (h1 : 1 ≤ t) (h2 : t ≤ n ∧ LVE φ t) (k1 : 1 ≤ (sA r 22 t).toInt) (k2 : (sA r 22 t).toInt ≤ 8) {f : Nat → Int64} {C : Nat → Int64} (hC : ∀ j, (j < (sA r 23 t).toNatClampNeg ∨ (sA r 23 t).toNatClampNeg + (sA r 24 t).toNatClampNeg ≤ j) → C j = sB r 26 j) (hf : ∀ i, i < (sA r 24 t).toNatClampNeg → f i = C ((sA r 23 t).toNatClampNeg + i) ∧ ((sA r 22 t).toInt = 7 → KP (f i))) :
    RR G T φ n u (pQ c (hup (sD c) (φ t + 1) (.inr (.inr (.inl ((sA r 24 t).toNatClampNeg, f))))) (sN c) (sU c)) (pB r 26 C) := by
  obtain ⟨f0, d1, d2, d3, d5, d6, d7, d8, d9⟩ := rd_row h.rt h1 h2 k1 k2
  have hb := h.bnd
  have ez : tsz (sA r 22 t) (sA r 24 t) = (sA r 24 t).toNatClampNeg := tz_row (by omega)
  refine h.put (h.rt.put h1 h2 (fun a g1 g2 => hupN g2) (fun g => absurd k2 (by omega)) (by rw [ez]; exact hC) ?_) (fun a ha => hupN (by omega))
  exact Or.inl ⟨k1, k2, d5, (hupN (by omega)).trans d1, f, hupS, hf⟩
end PT
/-! copies of cells -/
theorem cpy_0 {α : Type} (f g : Nat → α) (a b : Nat) : va_cpy f g a b 0 = g := by
  funext k
  unfold va_cpy
  rw [if_neg (by omega)]
theorem cpy_s (C : Nat → Int64) {s d i : Nat} (h : s + i < d ∨ d + i ≤ s) : vp_updL (va_cpy C C s d i) (d + i) (va_cpy C C s d i (s + i)) = va_cpy C C s d (i + 1) := by
  funext k
  have e : va_cpy C C s d i (s + i) = C (s + i) := by unfold va_cpy; rw [if_neg (by omega)]
  rw [e]
  unfold vp_updL va_cpy
  by_cases g : k = d + i
  · rw [if_pos g, if_pos (by omega), g]
    congr 1
    omega
  · rw [if_neg g]
    by_cases g2 : d ≤ k ∧ k < d + i
    · rw [if_pos g2, if_pos (by omega)]
    · rw [if_neg g2, if_neg (by omega)]
theorem cpy_u {f g : Nat → Option Nat} {i : Nat} : va_up (va_cpy f g 0 0 i) i (f i) = va_cpy f g 0 0 (i + 1) := by
  funext k
  unfold va_up va_cpy
  by_cases h : k = i
  · rw [if_pos h, if_pos (by omega), h]
    congr 1
    omega
  · rw [if_neg h]
    by_cases g2 : 0 ≤ k ∧ k < 0 + i
    · rw [if_pos g2, if_pos (by omega)]
    · rw [if_neg g2, if_neg (by omega)]
/-- the reference's loop: m cells from s on go to d on -/
theorem cl_go (fu : Nat) {r : St} {C : Nat → Int64} {s d m t t2 : Nat} (hM : (sA r 24 t).toInt = (m : Int)) (hS : (sA r 23 t).toInt = (s : Int)) (hS2 : (sA r 23 t2).toInt = (d : Int)) (ht : t ≤ 40000) (ht2 : t2 ≤ 40000) (hs : s + m ≤ d) (hd : d + m ≤ 40000) : ∀ (k i : Nat) (v : Int32), i + k = m → v.toInt = (i : Int) → ∀ g, 2 * k < g →
    (T_M_cloned_17 fu g).1 (pB r 26 (va_cpy C C s d i)) (nI t) (nI t2) v = (nI t2, pB r 26 (va_cpy C C s d m)) ∧ (WT_M_cloned_17 fu g).1 (pB r 26 (va_cpy C C s d i)) (nI t) (nI t2) v
  | 0, i, v, hi, hv, g + 1, _ => by
    have et : (nI t).toNatClampNeg = t := nN (by omega)
    have e : cn2 .ge v (sA (pB r 26 (va_cpy C C s d i)) 24 (nI t).toNatClampNeg) = true := by rw [c2_ge, et]; exact dt (by show (sA r 24 t).toInt ≤ v.toInt; omega)
    have ei : i = m := by omega
    constructor
    · show b_M_cloned_17 fu (T_M_cloned_17 fu g) _ _ _ _ = _
      unfold b_M_cloned_17
      rw [e, cond_true, ei]
    · show v_M_cloned_17 fu (T_M_cloned_17 fu g) (WT_M_cloned_17 fu g) _ _ _ _
      unfold v_M_cloned_17
      rw [e]
      exact ⟨vp_of (by rw [yI_i (by omega)]; omega) (by rw [yI_i (by omega)]; omega), fun _ => trivial, (fun z => nomatch z)⟩
  | k + 1, i, v, hi, hv, g + 2, hg => by
    have et : (nI t).toNatClampNeg = t := nN (by omega)
    have et2 : (nI t2).toNatClampNeg = t2 := nN (by omega)
    have e : cn2 .ge v (sA (pB r 26 (va_cpy C C s d i)) 24 (nI t).toNatClampNeg) = false := by rw [c2_ge, et]; exact df (by show ¬ (sA r 24 t).toInt ≤ v.toInt; omega)
    have a1 := nn_add (x := sA r 23 t) (y := v) (by omega) (by omega) (by omega)
    have a2 := nn_add (x := sA r 23 t2) (y := v) (by omega) (by omega) (by omega)
    have n1 : (sA r 23 t + v).toNatClampNeg = s + i := by rw [a1.1, tn_eq, tn_eq]; omega
    have n2 : (sA r 23 t2 + v).toNatClampNeg = d + i := by rw [a2.1, tn_eq, tn_eq]; omega
    have e5 := i_add (x := v) 1 (by omega) (by omega) (by decide) (by decide)
    obtain ⟨i1, i2⟩ := cl_go fu hM hS hS2 ht ht2 hs hd k (i + 1) (v + Int32.ofInt 1) (by omega) (by omega) g (by omega)
    have st : pB (pB r 26 (va_cpy C C s d i)) 26 (vp_updL (sB (pB r 26 (va_cpy C C s d i)) 26) (sA (pB r 26 (va_cpy C C s d i)) 23 (nI t2).toNatClampNeg + v).toNatClampNeg (sB (pB r 26 (va_cpy C C s d i)) 26 (sA (pB r 26 (va_cpy C C s d i)) 23 (nI t).toNatClampNeg + v).toNatClampNeg)) = pB r 26 (va_cpy C C s d (i + 1)) := by
      rw [pB_pB, et, et2]
      show pB r 26 (vp_updL (va_cpy C C s d i) (sA r 23 t2 + v).toNatClampNeg (va_cpy C C s d i (sA r 23 t + v).toNatClampNeg)) = _
      rw [n1, n2, cpy_s C (Or.inl (by omega))]
    constructor
    · show b_M_cloned_17 fu (T_M_cloned_17 fu (g + 1)) _ _ _ _ = _
      unfold b_M_cloned_17
      rw [e, cond_false, st]
      exact i1
    · show v_M_cloned_17 fu (T_M_cloned_17 fu (g + 1)) (WT_M_cloned_17 fu (g + 1)) _ _ _ _
      unfold v_M_cloned_17
      rw [e, st]
      refine ⟨vp_of (by rw [yI_i (by omega)]; omega) (by rw [yI_i (by omega)]; omega), (fun z => nomatch z), fun _ => ⟨vp_of (by rw [yI_i (by omega)]; omega) (by rw [yI_i (by omega)]; omega), vp_of (by rw [yI_i (by omega)]; omega) (by rw [yI_i (by omega)]; omega), ?_, ?_, i2⟩⟩
      · rw [et]; show vp_in (sA r 23 t + v) 40001; exact vp_of (by omega) (by omega)
      · rw [et2]; show vp_in (sA r 23 t2 + v) 40001; exact vp_of (by omega) (by omega)
/-- the class's loop: all members of one shelf go to another -/
theorem pb_go (fu : Nat) {s0 : St} {D : AH} {N U x y a b m : Nat} {fx fy : List AV} {f g0 : Nat → Option Nat} (h37 : 37 ≤ x ∧ 37 ≤ y ∧ 37 ≤ a ∧ 37 ≤ b) (hx : D x = some (.inl (7, fx))) (kx : fx.map kv = kd 7) (gx : fx[1]? = some (.inr (.inr (some b)))) (hy : D y = some (.inl (7, fy))) (ky : fy.map kv = kd 7) (gy : fy[1]? = some (.inr (.inr (some a)))) (ha : D a = some (.inr (.inr (.inr (m, f))))) (hab : a ≠ b) (hbx : b ≠ x ∧ b ≠ y) (hm : m ≤ 40000) (hb : ∃ e, D b = some (.inr e)) (hf : ∀ i, i < m → tho D (f i)) : ∀ (k i : Nat) (v : Int32), i + k = m → v.toInt = (i : Int) → ∀ g, 2 * k < g →
    (T_Sh_putBack_15 fu g).1 (pQ s0 (hup D b (.inr (.inr (.inr (m, va_cpy f g0 0 0 i))))) N U) (some x) (some y) v = pQ s0 (hup D b (.inr (.inr (.inr (m, va_cpy f g0 0 0 m))))) N U ∧ (WT_Sh_putBack_15 fu g).1 (pQ s0 (hup D b (.inr (.inr (.inr (m, va_cpy f g0 0 0 i))))) N U) (some x) (some y) v
  | k, i, v, hi, hv, g, hg => by
    obtain ⟨x1, x2, x3, x4⟩ := h37
    obtain ⟨e', hb'⟩ := hb
    obtain ⟨D', hD'⟩ : ∃ D', D' = hup D b (.inr (.inr (.inr (m, va_cpy f g0 0 0 i)))) := ⟨_, rfl⟩
    have dx : D' x = some (.inl (7, fx)) := by rw [hD']; exact (hupN hbx.1.symm).trans hx
    have dy : D' y = some (.inl (7, fy)) := by rw [hD']; exact (hupN hbx.2.symm).trans hy
    have da : D' a = some (.inr (.inr (.inr (m, f)))) := by rw [hD']; exact (hupN hab).trans ha
    have db : D' b = some (.inr (.inr (.inr (m, va_cpy f g0 0 0 i)))) := by rw [hD']; exact hupS
    have rx := gR_at (k := 1) x1 dx gx
    have ry := gR_at (k := 1) x2 dy gy
    have nb := aRN_at x4 db
    have nbi : (Int32.ofNat m).toInt = (m : Int) := nt_sm (by omega)
    rw [← hD']
    match k, g, hi, hg with
    | 0, g + 1, hi, hg =>
      have e : cn2 .ge v (Int32.ofNat m) = true := by rw [c2_ge, nbi]; exact dt (by omega)
      have ei : i = m := by omega
      constructor
      · show b_Sh_putBack_15 fu (T_Sh_putBack_15 fu g) (pQ s0 D' N U) _ _ _ = _
        unfold b_Sh_putBack_15
        rw [show sD (pQ s0 D' N U) = D' from rfl, rx, nb, e, cond_true, hD', ei]
      · show v_Sh_putBack_15 fu (T_Sh_putBack_15 fu g) (WT_Sh_putBack_15 fu g) (pQ s0 D' N U) _ _ _
        unfold v_Sh_putBack_15
        rw [show sD (pQ s0 D' N U) = D' from rfl, rx, nb, e]
        exact ⟨ob_at x1 dx kx, isR_at x4 db, fun _ => trivial, (fun z => nomatch z)⟩
    | k + 1, g + 2, hi, hg =>
      have e : cn2 .ge v (Int32.ofNat m) = false := by rw [c2_ge, nbi]; exact df (by omega)
      have vn : v.toNatClampNeg = i := by rw [tn_eq]; omega
      have e5 := i_add (x := v) 1 (by omega) (by omega) (by decide) (by decide)
      obtain ⟨i1, i2⟩ := pb_go fu (s0 := s0) (N := N) (U := U) (g0 := g0) ⟨x1, x2, x3, x4⟩ hx kx gx hy ky gy ha hab hbx hm ⟨e', hb'⟩ hf k (i + 1) (v + Int32.ofInt 1) (by omega) (by omega) g (by omega)
      have st : dR D' (some b) (va_up (aRF D' (some b)) v.toNatClampNeg (aRF D' (some a) v.toNatClampNeg)) = hup D b (.inr (.inr (.inr (m, va_cpy f g0 0 0 (i + 1))))) := by
        rw [dR_at x4 db, aRF_at x4 db, aRF_at x3 da, vn, cpy_u, hD', hup_hup]
      constructor
      · show b_Sh_putBack_15 fu (T_Sh_putBack_15 fu (g + 1)) (pQ s0 D' N U) _ _ _ = _
        unfold b_Sh_putBack_15
        rw [show sD (pQ s0 D' N U) = D' from rfl, rx, ry, nb, e, cond_false, st]
        exact i1
      · show v_Sh_putBack_15 fu (T_Sh_putBack_15 fu (g + 1)) (WT_Sh_putBack_15 fu (g + 1)) (pQ s0 D' N U) _ _ _
        unfold v_Sh_putBack_15
        rw [show sD (pQ s0 D' N U) = D' from rfl, rx, ry, nb, e, st, aRN_at x3 da, aRF_at x3 da, vn]
        have vi : vp_in v m := vp_of (by omega) (by omega)
        refine ⟨ob_at x1 dx kx, isR_at x4 db, (fun z => nomatch z), fun _ => ⟨ob_at x1 dx kx, ob_at x2 dy ky, isR_at x3 da, vi, isR_at x4 db, vi, ?_, i2⟩⟩
        rw [hD']
        exact tho_up (hf i (by omega)) ⟨e', hb'⟩ _
