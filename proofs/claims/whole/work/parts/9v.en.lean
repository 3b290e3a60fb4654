/-! THE ENGINE: what it may change -/
def enC (c c' : St) : Prop := (∀ a k, a ≠ 1 → ¬ (a = 8 ∧ k = 5) → ¬ (a = 2 ∧ 5 ≤ k) → a ≠ 12 → sI c' a k = sI c a k) ∧ (∀ a k, sG c' a k = sG c a k) ∧ (∀ a, a ≠ 9 → ¬ (13 ≤ a ∧ a ≤ 18) → sA c' a = sA c a) ∧ (∀ a, a ≠ 10 → sB c' a = sB c a) ∧ (∀ a, a ≠ 11 → a ≠ 19 → a ≠ 20 → sT c' a = sT c a)
def enR (r r' : St) : Prop := (∀ a k, (a = 21 → ¬ (6 ≤ k ∧ k ≤ 11) ∧ k ≠ 15 ∧ k ≠ 25 ∧ k ≠ 26 ∧ k ≠ 30 ∧ k ≠ 31) → sI r' a k = sI r a k) ∧ (∀ a k, ¬ (a = 21 ∧ k = 29) → sG r' a k = sG r a k) ∧ (∀ a, ¬ (22 ≤ a ∧ a ≤ 25) → a ≠ 27 → a ≠ 28 → a ≠ 34 → a ≠ 35 → sA r' a = sA r a) ∧ (∀ a, a ≠ 26 → a ≠ 29 → sB r' a = sB r a) ∧ (∀ a, sT r' a = sT r a) ∧ sD r' = sD r ∧ sN r' = sN r ∧ sU r' = sU r ∧ KEPT r r'
/-- the stack below frame d; the scopes below e -/
def stC (d : Nat) (c c' : St) : Prop := sI c' 12 12 = sI c 12 12 ∧ sI c' 12 13 = sI c 12 13 ∧ (∀ a k, 13 ≤ a → a ≤ 18 → k < d → sA c' a k = sA c a k) ∧ ∀ k, k < 16 * d → sT c' 19 k = sT c 19 k ∧ sT c' 20 k = sT c 20 k
def stR (e : Nat) (r r' : St) : Prop := sI r' 21 25 = sI r 21 25 ∧ sI r' 21 26 = sI r 21 26 ∧ ∀ k, k < 16 * e → sA r' 34 k = sA r 34 k ∧ sA r' 35 k = sA r 35 k
theorem enC.rf (c : St) : enC c c := ⟨fun _ _ _ _ _ _ => rfl, fun _ _ => rfl, fun _ _ _ => rfl, fun _ _ => rfl, fun _ _ _ _ => rfl⟩
theorem enC.tr {a b c : St} (h : enC a b) (g : enC b c) : enC a c := ⟨fun x k z1 z2 z3 z4 => (g.1 x k z1 z2 z3 z4).trans (h.1 x k z1 z2 z3 z4), fun x k => (g.2.1 x k).trans (h.2.1 x k), fun x z1 z2 => (g.2.2.1 x z1 z2).trans (h.2.2.1 x z1 z2), fun x z => (g.2.2.2.1 x z).trans (h.2.2.2.1 x z), fun x z1 z2 z3 => (g.2.2.2.2 x z1 z2 z3).trans (h.2.2.2.2 x z1 z2 z3)⟩
theorem enR.tr {a b c : St} (h : enR a b) (g : enR b c) : enR a c := by
  obtain ⟨h1, h2, h3, h4, h5, h6, h7, h8, h9⟩ := h
  obtain ⟨g1, g2, g3, g4, g5, g6, g7, g8, g9⟩ := g
  exact ⟨fun x k z => (g1 x k z).trans (h1 x k z), fun x k z => (g2 x k z).trans (h2 x k z), fun x z1 z2 z3 z4 z5 => (g3 x z1 z2 z3 z4 z5).trans (h3 x z1 z2 z3 z4 z5), fun x z1 z2 => (g4 x z1 z2).trans (h4 x z1 z2), fun x => (g5 x).trans (h5 x), g6.trans h6, g7.trans h7, g8.trans h8, h9.tr g9⟩
theorem stC.rf (d : Nat) (c : St) : stC d c c := ⟨rfl, rfl, fun _ _ _ _ _ => rfl, fun _ _ => ⟨rfl, rfl⟩⟩
theorem stC.tr {d : Nat} {a b c : St} (h : stC d a b) (g : stC d b c) : stC d a c := ⟨g.1.trans h.1, g.2.1.trans h.2.1, fun x k z1 z2 z3 => (g.2.2.1 x k z1 z2 z3).trans (h.2.2.1 x k z1 z2 z3), fun k z => ⟨(g.2.2.2 k z).1.trans (h.2.2.2 k z).1, (g.2.2.2 k z).2.trans (h.2.2.2 k z).2⟩⟩
theorem stR.rf (e : Nat) (r : St) : stR e r r := ⟨rfl, rfl, fun _ _ => ⟨rfl, rfl⟩⟩
theorem stR.tr {e : Nat} {a b c : St} (h : stR e a b) (g : stR e b c) : stR e a c := ⟨g.1.trans h.1, g.2.1.trans h.2.1, fun k z => ⟨(g.2.2 k z).1.trans (h.2.2 k z).1, (g.2.2 k z).2.trans (h.2.2 k z).2⟩⟩
theorem stC.le {d d' : Nat} {a b : St} (h : stC d a b) (hd : d' ≤ d) : stC d' a b := ⟨h.1, h.2.1, fun x k z1 z2 z3 => h.2.2.1 x k z1 z2 (by omega), fun k z => h.2.2.2 k (by omega)⟩
theorem stR.le {d d' : Nat} {a b : St} (h : stR d a b) (hd : d' ≤ d) : stR d' a b := ⟨h.1, h.2.1, fun k z => h.2.2 k (by omega)⟩
theorem opC.en {c c' : St} (h : opC c c') : enC c c' := ⟨fun a k z1 z2 z3 _ => h.1 a k z1 z2 z3, h.2.1, fun a z _ => h.2.2.1 a z, h.2.2.2.1, fun a z _ _ => h.2.2.2.2 a z⟩
theorem opR.en {r r' : St} (h : opR r r') : enR r r' := ⟨fun a k z => h.1 a k (fun y => ⟨(z y).1, (z y).2.1, (z y).2.2.2.2.1, (z y).2.2.2.2.2⟩), h.2.1, fun a z1 z2 z3 _ _ => h.2.2.1 a z1 z2 z3, h.2.2.2.1, h.2.2.2.2.1, h.2.2.2.2.2.1, h.2.2.2.2.2.2.1, h.2.2.2.2.2.2.2.1, h.2.2.2.2.2.2.2.2⟩
theorem opC.st {c c' : St} (h : opC c c') (d : Nat) : stC d c c' := ⟨h.1 12 12 (by decide) (by decide) (by decide), h.1 12 13 (by decide) (by decide) (by decide), fun a k z1 z2 _ => by rw [h.2.2.1 a (by omega)], fun k _ => ⟨by rw [h.2.2.2.2 19 (by decide)], by rw [h.2.2.2.2 20 (by decide)]⟩⟩
theorem opR.st {r r' : St} (h : opR r r') (e : Nat) : stR e r r' := ⟨h.1 21 25 (fun _ => by decide), h.1 21 26 (fun _ => by decide), fun k _ => ⟨by rw [h.2.2.1 34 (by decide) (by decide) (by decide)], by rw [h.2.2.1 35 (by decide) (by decide) (by decide)]⟩⟩
section EF
variable (c : St)
theorem enC_A {a : Nat} (ha : 13 ≤ a ∧ a ≤ 18) (f : Nat → Int32) : enC c (pA c a f) := ⟨fun _ _ _ _ _ _ => rfl, fun _ _ => rfl, fun b z1 z2 => if_neg (by omega), fun _ _ => rfl, fun _ _ _ _ => rfl⟩
theorem enC_T {a : Nat} (ha : a = 19 ∨ a = 20) (f : Nat → Option Nat) : enC c (pT c a f) := ⟨fun _ _ _ _ _ _ => rfl, fun _ _ => rfl, fun _ _ _ => rfl, fun _ _ => rfl, fun b z1 z2 z3 => if_neg (by omega)⟩
theorem enC_I (k : Nat) (v : Int32) : enC c (pI c 12 k v) := ⟨fun a j _ _ _ z => if_neg z, fun _ _ => rfl, fun _ _ _ => rfl, fun _ _ => rfl, fun _ _ _ _ => rfl⟩
theorem enR_A {a : Nat} (ha : a = 34 ∨ a = 35) (f : Nat → Int32) : enR c (pA c a f) := by
  rcases ha with e | e
  · subst e
    exact ⟨fun _ _ _ => rfl, fun _ _ _ => rfl, fun b z1 z2 z3 z4 z5 => if_neg (by omega), fun _ _ _ => rfl, fun _ => rfl, rfl, rfl, rfl, KEPT.of rfl rfl rfl rfl rfl rfl⟩
  · subst e
    exact ⟨fun _ _ _ => rfl, fun _ _ _ => rfl, fun b z1 z2 z3 z4 z5 => if_neg (by omega), fun _ _ _ => rfl, fun _ => rfl, rfl, rfl, rfl, KEPT.of rfl rfl rfl rfl rfl rfl⟩
theorem enR_I {k : Nat} (hk : k = 25 ∨ k = 26) (v : Int32) : enR c (pI c 21 k v) := ⟨fun a j z => by
  rw [sI_pI]
  by_cases h : a = 21
  · have := z h
    rw [if_pos h, if_neg (by omega)]
  · rw [if_neg h], fun _ _ _ => rfl, fun _ _ _ _ _ _ => rfl, fun _ _ _ => rfl, fun _ => rfl, rfl, rfl, rfl, KEPT.of (by rw [sI_pI, if_pos rfl, if_neg (by omega)]) (by rw [sI_pI, if_pos rfl, if_neg (by omega)]) rfl rfl rfl rfl⟩
end EF
section EU
variable {G : AH} {T : Nat} {φ : Nat → Nat} {n u : Nat} {c r : St}
theorem RR.cA (h : RR G T φ n u c r) {a : Nat} (ha : 13 ≤ a ∧ a ≤ 18) (f : Nat → Int32) : RR G T φ n u (pA c a f) r := by
  obtain ⟨a1, a2, a3, a4, a5, a6, a7⟩ := h
  refine ⟨⟨fun k hk => ?_, a1.2⟩, a2, a3, a4, a5, a6, a7⟩
  rw [sA_pA, if_neg (by omega)]
  exact a1.1 k hk
theorem RR.cT (h : RR G T φ n u c r) {a : Nat} (ha : a = 19 ∨ a = 20) (f : Nat → Option Nat) : RR G T φ n u (pT c a f) r := by
  obtain ⟨a1, a2, a3, a4, a5, a6, a7⟩ := h
  refine ⟨a1, a2, a3, a4, fun k hk => ?_, a6, a7⟩
  obtain ⟨v, b1, b2, b3⟩ := a5 k hk
  refine ⟨v, b1, b2, ?_⟩
  rw [← b3]
  show (if 11 = a then f else sT c 11) k = sT c 11 k
  rw [if_neg (by omega)]
theorem RR.rA (h : RR G T φ n u c r) {a : Nat} (ha : a = 34 ∨ a = 35) (f : Nat → Int32) : RR G T φ n u c (pA r a f) := by
  rcases ha with e | e
  · subst e
    obtain ⟨a1, a2, a3, a4, a5, a6, a7⟩ := h
    exact ⟨a1, a2, a3, a4, a5, a6, a7⟩
  · subst e
    obtain ⟨a1, a2, a3, a4, a5, a6, a7⟩ := h
    exact ⟨a1, a2, a3, a4, a5, a6, a7⟩
end EU
/-- what a pair of the engine's steps leaves -/
def EO (G : AH) (T : Nat) (φ : Nat → Nat) (n d e : Nat) (c r c' : St) (q : Int32 × St) : Prop := ∃ φ' n' u', RR G T φ' n' u' c' q.2 ∧ EX φ n φ' n' ∧ SR q.1 c' q.2 ∧ enC c c' ∧ enR r q.2 ∧ (q.1 = 0 ∨ q.1 = 1 → stC d c c' ∧ stR e r q.2)
/-! bytes -/
theorem and1 (x : Int32) : (x &&& 1).toInt = 0 ∨ (x &&& 1).toInt = 1 := by
  obtain ⟨k, hk, rfl⟩ := wb_of32 x
  rw [show (1 : Int32) = nI (2 ^ 1 - 1) from by decide, nx_and, Nat.and_two_pow_sub_one_eq_mod]
  have : k % 2 ^ 1 < 2 := Nat.mod_lt _ (by decide)
  rw [yI_i (by omega)]
  omega
section BY
variable {c r : St}
theorem be_C (hc : ∀ k, sA r 30 k = sA c 6 k &&& 255) {x : Int32} {k : Nat} (hx : x.toInt = (k : Int)) (hk : k < 3200) : f_En_byteAt c x = sA r 30 k ∧ w_En_byteAt c x := by
  have e : x.toNatClampNeg = k := by rw [tn_eq, hx]; omega
  have d1 : cn1 .lt x = false := by rw [c1_lt]; exact df (by omega)
  have d2 : cn2 .ge x 3200 = false := by rw [c2_ge, show ((3200 : Int32).toInt) = 3200 from rfl]; exact df (by omega)
  unfold f_En_byteAt w_En_byteAt
  rw [d1, d2, cond_false, cond_false, e, ← hc k]
  exact ⟨rfl, (fun z => nomatch z), fun _ => ⟨(fun z => nomatch z), fun _ => ⟨vp_of (by omega) (by omega), trivial⟩⟩⟩
/-- what a scope saves -/
def mskR (r : St) (o : Nat) : Int32 := sA r 30 (o + 2) ||| (sA r 30 (o + 3) <<< (8 &&& 31))
def btk (m : Int32) (j : Nat) : Bool := cn1 .ne ((m >>> (nI j &&& 31)) &&& 1)
theorem sv_C (hc : ∀ k, sA r 30 k = sA c 6 k &&& 255) {d o : Nat} (hd : d ≤ 131) (ho : (sA c 14 d).toInt = (o : Int)) (h3 : o + 3 < 3200) (j : Nat) : f_En_saves c (nI d) (nI j) = btk (mskR r o) j ∧ w_En_saves c (nI d) (nI j) := by
  have e : (nI d).toNatClampNeg = d := nN (by omega)
  have vd : vp_in (nI d) 132 := vp_of (by rw [yI_i (by omega)]; omega) (by rw [yI_i (by omega)]; omega)
  have e2 : (sA c 14 d + 2).toInt = ((o + 2 : Nat) : Int) := (i_addy (y := 2) ho (show ((2 : Int32).toInt) = 2 from rfl) (by omega) (by omega)).trans (by omega)
  have e3 : (sA c 14 d + 3).toInt = ((o + 3 : Nat) : Int) := (i_addy (y := 3) ho (show ((3 : Int32).toInt) = 3 from rfl) (by omega) (by omega)).trans (by omega)
  obtain ⟨x1, x2⟩ := be_C hc e2 (by omega)
  obtain ⟨y1, y2⟩ := be_C hc e3 h3
  unfold f_En_saves t_En_saves_19 w_En_saves btk mskR
  rw [e, x1, y1, c2_ne, c1_ne, show ((1 : Int32).toInt) = 1 from rfl]
  refine ⟨?_, vd, x2, y2, trivial⟩
  rcases and1 ((sA r 30 (o + 2) ||| sA r 30 (o + 3) <<< (8 &&& 31)) >>> (nI j &&& 31)) with z | z
  · rw [z]; rfl
  · rw [z]; rfl
end BY
/-! a slot kept by a scope -/
def SV1 (φ : Nat → Nat) (n : Nat) (r : St) (x y : Option Nat) (a b : Int32) : Prop := ∃ v w, (v ≤ n ∧ LVE φ v) ∧ (w ≤ n ∧ LVE φ w) ∧ x = po φ v ∧ y = po φ w ∧ a = nI v ∧ b = nI w ∧ ((1 ≤ (sA r 22 v).toInt ∧ (sA r 22 v).toInt ≤ 10) → 1 ≤ w ∧ w ≠ v ∧ sA r 22 w = sA r 22 v ∧ sA r 24 w = sA r 24 v ∧ sA r 25 w = sA r 25 v) ∧ (¬ (1 ≤ (sA r 22 v).toInt ∧ (sA r 22 v).toInt ≤ 10) → w = 0)
theorem SV1.mv {φ φ' : Nat → Nat} {n n' : Nat} {r r' : St} {x y : Option Nat} {a b : Int32} (h : SV1 φ n r x y a b) (hn : (sI r 21 6).toInt = (n : Int)) (hk : KEPT r r') (he : EX φ n φ' n') : SV1 φ' n' r' x y a b := by
  obtain ⟨v, w, h1, h2, h3, h4, h5, h6, h7, h8⟩ := h
  obtain ⟨a1, a2, a3, a4⟩ := hk.2.2 v (by omega)
  obtain ⟨b1, b2, b3, b4⟩ := hk.2.2 w (by omega)
  have := he.1
  refine ⟨v, w, LVE.tr h1 he, LVE.tr h2 he, h3.trans (po_cg he.2 h1.1).symm, h4.trans (po_cg he.2 h2.1).symm, h5, h6, ?_, ?_⟩
  · rw [a1]
    intro z
    obtain ⟨g1, g2, g3, g4, g5⟩ := h7 z
    exact ⟨g1, g2, by rw [b1, g3], by rw [b4 (by rw [g3]; exact z.2), a4 z.2, g4], by rw [b3, a3, g5]⟩
  · rw [a1]
    exact h8
/-- the slots below j -/
def SV (φ : Nat → Nat) (n d e : Nat) (m : Int32) (j : Nat) (c r : St) : Prop := ∀ i, i < j → btk m i = true → SV1 φ n r (sT c 19 (16 * d + i)) (sT c 20 (16 * d + i)) (sA r 34 (16 * e + i)) (sA r 35 (16 * e + i))
theorem SV.mv {φ φ' : Nat → Nat} {n n' d e j : Nat} {m : Int32} {c c' r r' : St} (h : SV φ n d e m j c r) (hn : (sI r 21 6).toInt = (n : Int)) (hk : KEPT r r') (he : EX φ n φ' n') (h1 : ∀ i, i < j → sT c' 19 (16 * d + i) = sT c 19 (16 * d + i) ∧ sT c' 20 (16 * d + i) = sT c 20 (16 * d + i)) (h2 : ∀ i, i < j → sA r' 34 (16 * e + i) = sA r 34 (16 * e + i) ∧ sA r' 35 (16 * e + i) = sA r 35 (16 * e + i)) : SV φ' n' d e m j c' r' := by
  intro i hi hb
  rw [(h1 i hi).1, (h1 i hi).2, (h2 i hi).1, (h2 i hi).2]
  exact (h i hi hb).mv hn hk he
