/-! THE RELATION of a run -/
def R_fu (c r : St) : Prop := sI c 1 2 = sI r 21 11 ∧ 0 ≤ (sI r 21 11).toInt ∧ (sI r 21 11).toInt ≤ 20000
def R_tg (φ : Nat → Nat) (n u : Nat) (c r : St) : Prop := RT φ n u (sD c) (sN c) (sA r 22) (sA r 23) (sA r 24) (sA r 25) (sB r 26) ∧ sI r 21 6 = nI n ∧ sI r 21 7 = nI u ∧ (n : Int) ≤ (sI r 21 8).toInt ∧ (u : Int) ≤ (sI r 21 8).toInt
/-- T things were thrown so far -/
def R_rm (n u T : Nat) (c : St) : Prop := T ≤ 512 ∧ 37 ≤ sN c ∧ sN c ≤ 37 + 2 * n + T ∧ sU c ≤ 224162 + 2 * n + u + 6 * T
def R_gv (G : AH) (c : St) : Prop := ∀ a, 601024 ≤ a → sD c a = G a
/-- what the slots hold -/
def R_sv (φ : Nat → Nat) (n : Nat) (c r : St) : Prop := ∀ k, k < 16 → ∃ v, (v ≤ n ∧ LVE φ v) ∧ sA r 27 k = Int32.ofNat v ∧ sT c 11 k = po φ v
def RR (G : AH) (T : Nat) (φ : Nat → Nat) (n u : Nat) (c r : St) : Prop := R_num c r ∧ R_led c r ∧ R_fu c r ∧ R_tg φ n u c r ∧ R_sv φ n c r ∧ R_rm n u T c ∧ R_gv G c
/-- going on; how it stands -/
def SZ (c : St) : Prop := sI c 1 3 = 0 ∧ sI c 1 4 = 0 ∧ sI c 1 5 = 0
def SR (st : Int32) (c r : St) : Prop := sI c 1 3 = st ∧ ((st = 0 ∧ sI c 1 4 = 0 ∧ sI c 1 5 = 0) ∨ (st = 1 ∧ sI c 1 4 = sI r 21 9 ∧ sI c 1 5 = sI r 21 10 ∧ 1 ≤ (sI r 21 9).toInt ∧ (sI r 21 9).toInt ≤ 8) ∨ (st = 2 ∧ sI c 1 4 = 0 ∧ sI c 1 5 = 0) ∨ (st = 3 ∧ sI c 1 4 = 0 ∧ sI c 1 5 = 0))
/-- what ops and reading may change -/
def opC (c c' : St) : Prop := (∀ a k, a ≠ 1 → ¬ (a = 8 ∧ k = 5) → ¬ (a = 2 ∧ 5 ≤ k) → sI c' a k = sI c a k) ∧ (∀ a k, sG c' a k = sG c a k) ∧ (∀ a, a ≠ 9 → sA c' a = sA c a) ∧ (∀ a, a ≠ 10 → sB c' a = sB c a) ∧ (∀ a, a ≠ 11 → sT c' a = sT c a)
/-- what stays of things and of fuel -/
def KEPT (r r' : St) : Prop := (sI r' 21 11).toInt ≤ (sI r 21 11).toInt ∧ (sI r 21 6).toInt ≤ (sI r' 21 6).toInt ∧ ∀ v : Nat, (v : Int) ≤ (sI r 21 6).toInt → sA r' 22 v = sA r 22 v ∧ sA r' 23 v = sA r 23 v ∧ sA r' 25 v = sA r 25 v ∧ ((sA r 22 v).toInt ≤ 10 → sA r' 24 v = sA r 24 v)
theorem KEPT.rf (r : St) : KEPT r r := ⟨Int.le_refl _, Int.le_refl _, fun _ _ => ⟨rfl, rfl, rfl, fun _ => rfl⟩⟩
theorem KEPT.tr {a b c : St} (h : KEPT a b) (g : KEPT b c) : KEPT a c := ⟨Int.le_trans g.1 h.1, Int.le_trans h.2.1 g.2.1, fun v hv => by
  obtain ⟨x1, x2, x3, x4⟩ := h.2.2 v hv
  obtain ⟨y1, y2, y3, y4⟩ := g.2.2 v (Int.le_trans hv h.2.1)
  exact ⟨y1.trans x1, y2.trans x2, y3.trans x3, fun z => (y4 (by rw [x1]; exact z)).trans (x4 z)⟩⟩
theorem KEPT.of {r r' : St} (h1 : sI r' 21 11 = sI r 21 11) (h2 : sI r' 21 6 = sI r 21 6) (h3 : sA r' 22 = sA r 22) (h4 : sA r' 23 = sA r 23) (h5 : sA r' 24 = sA r 24) (h6 : sA r' 25 = sA r 25) : KEPT r r' := by
  unfold KEPT
  rw [h1, h2, h3, h4, h5, h6]
  exact KEPT.rf r
def opR (r r' : St) : Prop := (∀ a k, (a = 21 → ¬ (6 ≤ k ∧ k ≤ 11) ∧ k ≠ 15 ∧ k ≠ 30 ∧ k ≠ 31) → sI r' a k = sI r a k) ∧ (∀ a k, ¬ (a = 21 ∧ k = 29) → sG r' a k = sG r a k) ∧ (∀ a, ¬ (22 ≤ a ∧ a ≤ 25) → a ≠ 27 → a ≠ 28 → sA r' a = sA r a) ∧ (∀ a, a ≠ 26 → a ≠ 29 → sB r' a = sB r a) ∧ (∀ a, sT r' a = sT r a) ∧ sD r' = sD r ∧ sN r' = sN r ∧ sU r' = sU r ∧ KEPT r r'
theorem opC.rf (c : St) : opC c c := ⟨fun _ _ _ _ _ => rfl, fun _ _ => rfl, fun _ _ => rfl, fun _ _ => rfl, fun _ _ => rfl⟩
theorem opC.tr {a b c : St} (h : opC a b) (g : opC b c) : opC a c := ⟨fun x k z1 z2 z3 => (g.1 x k z1 z2 z3).trans (h.1 x k z1 z2 z3), fun x k => (g.2.1 x k).trans (h.2.1 x k), fun x z => (g.2.2.1 x z).trans (h.2.2.1 x z), fun x z => (g.2.2.2.1 x z).trans (h.2.2.2.1 x z), fun x z => (g.2.2.2.2 x z).trans (h.2.2.2.2 x z)⟩
theorem opR.rf (c : St) : opR c c := ⟨fun _ _ _ => rfl, fun _ _ _ => rfl, fun _ _ _ _ => rfl, fun _ _ _ => rfl, fun _ => rfl, rfl, rfl, rfl, KEPT.rf c⟩
theorem opR.tr {a b c : St} (h : opR a b) (g : opR b c) : opR a c := by
  obtain ⟨h1, h2, h3, h4, h5, h6, h7, h8, h9⟩ := h
  obtain ⟨g1, g2, g3, g4, g5, g6, g7, g8, g9⟩ := g
  exact ⟨fun x k z => (g1 x k z).trans (h1 x k z), fun x k z => (g2 x k z).trans (h2 x k z), fun x z1 z2 z3 => (g3 x z1 z2 z3).trans (h3 x z1 z2 z3), fun x z1 z2 => (g4 x z1 z2).trans (h4 x z1 z2), fun x => (g5 x).trans (h5 x), g6.trans h6, g7.trans h7, g8.trans h8, h9.tr g9⟩
section FR
variable (c : St)
theorem opC_1 (k : Nat) (v : Int32) : opC c (pI c 1 k v) := ⟨fun a j z _ _ => if_neg z, fun _ _ => rfl, fun _ _ => rfl, fun _ _ => rfl, fun _ _ => rfl⟩
theorem opC_8 (v : Int32) : opC c (pI c 8 5 v) := ⟨fun a j _ z _ => by
  rw [sI_pI]
  by_cases h : a = 8
  · rw [if_pos h, if_neg (fun y => z ⟨h, y⟩)]
  · rw [if_neg h], fun _ _ => rfl, fun _ _ => rfl, fun _ _ => rfl, fun _ _ => rfl⟩
theorem opC_2 {k : Nat} (hk : 5 ≤ k) (v : Int32) : opC c (pI c 2 k v) := ⟨fun a j _ _ z => by
  rw [sI_pI]
  by_cases h : a = 2
  · rw [if_pos h, if_neg (fun y => z ⟨h, by omega⟩)]
  · rw [if_neg h], fun _ _ => rfl, fun _ _ => rfl, fun _ _ => rfl, fun _ _ => rfl⟩
theorem opC_A (f : Nat → Int32) : opC c (pA c 9 f) := ⟨fun _ _ _ _ _ => rfl, fun _ _ => rfl, fun _ z => if_neg z, fun _ _ => rfl, fun _ _ => rfl⟩
theorem opC_B (f : Nat → Int64) : opC c (pB c 10 f) := ⟨fun _ _ _ _ _ => rfl, fun _ _ => rfl, fun _ _ => rfl, fun _ z => if_neg z, fun _ _ => rfl⟩
theorem opC_T (f : Nat → Option Nat) : opC c (pT c 11 f) := ⟨fun _ _ _ _ _ => rfl, fun _ _ => rfl, fun _ _ => rfl, fun _ _ => rfl, fun _ z => if_neg z⟩
theorem opC_Q (D : AH) (n u : Nat) : opC c (pQ c D n u) := ⟨fun _ _ _ _ _ => rfl, fun _ _ => rfl, fun _ _ => rfl, fun _ _ => rfl, fun _ _ => rfl⟩
theorem opR_I {k : Nat} (hk : (7 ≤ k ∧ k ≤ 10) ∨ k = 15 ∨ k = 30 ∨ k = 31) (v : Int32) : opR c (pI c 21 k v) := ⟨fun a j z => by
  rw [sI_pI]
  by_cases h : a = 21
  · have := z h
    rw [if_pos h, if_neg (by omega)]
  · rw [if_neg h], fun _ _ _ => rfl, fun _ _ _ _ => rfl, fun _ _ _ => rfl, fun _ => rfl, rfl, rfl, rfl, KEPT.of (by rw [sI_pI, if_pos rfl, if_neg (by omega)]) (by rw [sI_pI, if_pos rfl, if_neg (by omega)]) rfl rfl rfl rfl⟩
theorem opR_F (v : Int32) (hv : v.toInt ≤ (sI c 21 11).toInt) : opR c (pI c 21 11 v) := ⟨fun a j z => by
  rw [sI_pI]
  by_cases h : a = 21
  · have := z h
    rw [if_pos h, if_neg (by omega)]
  · rw [if_neg h], fun _ _ _ => rfl, fun _ _ _ _ => rfl, fun _ _ _ => rfl, fun _ => rfl, rfl, rfl, rfl, ⟨hv, Int.le_refl _, fun _ _ => ⟨rfl, rfl, rfl, fun _ => rfl⟩⟩⟩
theorem opR_24 {t : Nat} (h : 10 < (sA c 22 t).toInt) (v : Int32) : opR c (pA c 24 (upd (sA c 24) t v)) := ⟨fun _ _ _ => rfl, fun _ _ _ => rfl, fun b z1 z2 z3 => if_neg (by omega), fun _ _ _ => rfl, fun _ => rfl, rfl, rfl, rfl, Int.le_refl _, Int.le_refl _, fun w _ => ⟨rfl, rfl, rfl, fun z => if_neg (fun e => by rw [e] at z; omega)⟩⟩
theorem opR_G (v : Int64) : opR c (pG c 21 29 v) := ⟨fun _ _ _ => rfl, fun a j z => by
  rw [sG_pG]
  by_cases h : a = 21
  · rw [if_pos h, if_neg (fun y => z ⟨h, y⟩)]
  · rw [if_neg h], fun _ _ _ _ => rfl, fun _ _ _ => rfl, fun _ => rfl, rfl, rfl, rfl, KEPT.of rfl rfl rfl rfl rfl rfl⟩
theorem opR_A {a : Nat} (ha : False ∨ a = 27 ∨ a = 28) (f : Nat → Int32) : opR c (pA c a f) := by
  rcases ha with z | e | e
  · exact z.elim
  · subst e
    exact ⟨fun _ _ _ => rfl, fun _ _ _ => rfl, fun b z1 z2 z3 => if_neg (by omega), fun _ _ _ => rfl, fun _ => rfl, rfl, rfl, rfl, KEPT.of rfl rfl rfl rfl rfl rfl⟩
  · subst e
    exact ⟨fun _ _ _ => rfl, fun _ _ _ => rfl, fun b z1 z2 z3 => if_neg (by omega), fun _ _ _ => rfl, fun _ => rfl, rfl, rfl, rfl, KEPT.of rfl rfl rfl rfl rfl rfl⟩
theorem opR_B {a : Nat} (ha : a = 26 ∨ a = 29) (f : Nat → Int64) : opR c (pB c a f) := ⟨fun _ _ _ => rfl, fun _ _ _ => rfl, fun _ _ _ _ => rfl, fun b z1 z2 => if_neg (by omega), fun _ => rfl, rfl, rfl, rfl, KEPT.of rfl rfl rfl rfl rfl rfl⟩
end FR
/-- phi goes on -/
def EX (φ : Nat → Nat) (n : Nat) (φ' : Nat → Nat) (n' : Nat) : Prop := n ≤ n' ∧ ∀ v, v ≤ n → φ' v = φ v
theorem EX.rf (φ : Nat → Nat) (n : Nat) : EX φ n φ n := ⟨Nat.le_refl _, fun _ _ => rfl⟩
theorem EX.tr {φ φ1 φ2 : Nat → Nat} {n n1 n2 : Nat} (h : EX φ n φ1 n1) (g : EX φ1 n1 φ2 n2) : EX φ n φ2 n2 := ⟨Nat.le_trans h.1 g.1, fun v hv => (g.2 v (Nat.le_trans hv h.1)).trans (h.2 v hv)⟩
/-- what a pair of steps leaves -/
def OUT (G : AH) (T : Nat) (φ : Nat → Nat) (n : Nat) (c r c' : St) (q : Int32 × St) : Prop := ∃ φ' n' u', RR G T φ' n' u' c' q.2 ∧ EX φ n φ' n' ∧ SR q.1 c' q.2 ∧ opC c c' ∧ opR r q.2
theorem OUT.tr {G : AH} {T : Nat} {φ φ1 : Nat → Nat} {n n1 : Nat} {c c1 r r1 c' : St} {q : Int32 × St} (he : EX φ n φ1 n1) (hc : opC c c1) (hr : opR r r1) (h : OUT G T φ1 n1 c1 r1 c' q) : OUT G T φ n c r c' q := by
  obtain ⟨φ', n', u', h1, h2, h3, h4, h5⟩ := h
  exact ⟨φ', n', u', h1, he.tr h2, h3, hc.tr h4, hr.tr h5⟩
/-- nothing was in the way -/
theorem OUT.ok {G : AH} {T : Nat} {φ φ' : Nat → Nat} {n n' u' : Nat} {c r c' r' : St} (h : RR G T φ' n' u' c' r') (he : EX φ n φ' n') (hz : SZ c') (hc : opC c c') (hr : opR r r') : OUT G T φ n c r c' (0, r') := ⟨φ', n', u', h, he, ⟨hz.1, Or.inl ⟨rfl, hz.2⟩⟩, hc, hr⟩
section RU
variable {G : AH} {T : Nat} {φ : Nat → Nat} {n u : Nat} {c r : St}
theorem RR.num (h : RR G T φ n u c r) {k : Nat} (v : Int32) : RR G T φ n u (pA c 9 (upd (sA c 9) k v)) (pA r 28 (upd (sA r 28) k v)) := by
  obtain ⟨h1, h2, h3, h4, h5, h6, h7⟩ := h
  refine ⟨⟨fun j hj => ?_, h1.2⟩, h2, h3, h4, h5, h6, h7⟩
  show upd (sA c 9) k v j = upd (sA r 28) k v j
  unfold upd
  split
  · rfl
  · exact h1.1 j hj
theorem RR.real (h : RR G T φ n u c r) {k : Nat} {v : Int64} (hv : KP v) : RR G T φ n u (pB c 10 (vp_updL (sB c 10) k v)) (pB r 29 (vp_updL (sB r 29) k v)) := by
  obtain ⟨h1, h2, h3, h4, h5, h6, h7⟩ := h
  refine ⟨⟨h1.1, fun j hj => ?_⟩, h2, h3, h4, h5, h6, h7⟩
  show vp_updL (sB c 10) k v j = vp_updL (sB r 29) k v j ∧ f_M_kept (vp_updL (sB r 29) k v j) = vp_updL (sB r 29) k v j
  unfold vp_updL
  split
  · exact ⟨rfl, hv⟩
  · exact h1.2 j hj
theorem RR.slot (h : RR G T φ n u c r) {k v : Nat} (hv : v ≤ n ∧ LVE φ v) : RR G T φ n u (pT c 11 (va_up (sT c 11) k (po φ v))) (pA r 27 (upd (sA r 27) k (nI v))) := by
  obtain ⟨h1, h2, h3, h4, h5, h6, h7⟩ := h
  refine ⟨h1, h2, h3, h4, fun j hj => ?_, h6, h7⟩
  by_cases e : j = k
  · refine ⟨v, hv, ?_, ?_⟩
    · show upd (sA r 27) k (nI v) j = _
      unfold upd; rw [if_pos e]; rfl
    · show va_up (sT c 11) k (po φ v) j = _
      unfold va_up; rw [if_pos e]
  · obtain ⟨w, a1, a2, a3⟩ := h5 j hj
    refine ⟨w, a1, ?_, ?_⟩
    · show upd (sA r 27) k (nI v) j = _
      unfold upd; rw [if_neg e]; exact a2
    · show va_up (sT c 11) k (po φ v) j = _
      unfold va_up; rw [if_neg e]; exact a3
theorem RR.made (h : RR G T φ n u c r) {v : Int32} (h1 : (sI r 21 8).toInt ≤ v.toInt) (h2 : v.toInt ≤ 40000) : RR G T φ n u (pI c 1 0 v) (pI r 21 8 v) := by
  obtain ⟨a1, a2, a3, a4, a5, a6, a7⟩ := h
  obtain ⟨b1, b2, b3, b4, b5⟩ := a2
  obtain ⟨d1, d2, d3, d4, d5⟩ := a4
  refine ⟨a1, ⟨rfl, ?_, ?_, b4, b5⟩, a3, ⟨d1, d2, d3, ?_, ?_⟩, a5, a6, a7⟩
  · show 0 ≤ v.toInt; omega
  · show v.toInt ≤ 40000; omega
  · show (n : Int) ≤ v.toInt; omega
  · show (u : Int) ≤ v.toInt; omega
theorem RR.full (h : RR G T φ n u c r) : RR G T φ n u (pI (pI c 1 1 1) 1 3 3) (pI r 21 15 1) := by
  obtain ⟨a1, a2, a3, a4, a5, a6, a7⟩ := h
  obtain ⟨b1, b2, b3, b4, b5⟩ := a2
  exact ⟨a1, ⟨b1, b2, b3, rfl, Or.inr rfl⟩, a3, a4, a5, a6, a7⟩
theorem RR.fuel (h : RR G T φ n u c r) {v : Int32} (h1 : 0 ≤ v.toInt) (h2 : v.toInt ≤ 20000) : RR G T φ n u (pI c 1 2 v) (pI r 21 11 v) := by
  obtain ⟨a1, a2, a3, a4, a5, a6, a7⟩ := h
  exact ⟨a1, a2, ⟨rfl, h1, h2⟩, a4, a5, a6, a7⟩
/-- fields of the class that the relation doesn't read -/
theorem RR.cI (h : RR G T φ n u c r) {a k : Nat} (v : Int32) (hk : a ≠ 1 ∨ 3 ≤ k) : RR G T φ n u (pI c a k v) r := by
  obtain ⟨a1, a2, a3, a4, a5, a6, a7⟩ := h
  have e : ∀ j, j < 3 → sI (pI c a k v) 1 j = sI c 1 j := fun j hj => by
    rw [sI_pI]
    by_cases g : 1 = a
    · rw [if_pos g, if_neg (by omega)]
    · rw [if_neg g]
  refine ⟨a1, ?_, ?_, a4, a5, a6, a7⟩
  · unfold R_led
    rw [e 0 (by decide), e 1 (by decide)]
    exact a2
  · unfold R_fu
    rw [e 2 (by decide)]
    exact a3
theorem RR.rI (h : RR G T φ n u c r) {k : Nat} (v : Int32) (hk : k = 9 ∨ k = 10 ∨ 16 ≤ k) : RR G T φ n u c (pI r 21 k v) := by
  obtain ⟨a1, a2, a3, a4, a5, a6, a7⟩ := h
  have e : ∀ j, j = 6 ∨ j = 7 ∨ j = 8 ∨ j = 11 ∨ j = 15 → sI (pI r 21 k v) 21 j = sI r 21 j := fun j hj => by
    rw [sI_pI, if_pos rfl, if_neg (by omega)]
  refine ⟨a1, ?_, ?_, ?_, a5, a6, a7⟩
  · unfold R_led
    rw [e 8 (by decide), e 15 (by decide)]
    exact a2
  · unfold R_fu
    rw [e 11 (by decide)]
    exact a3
  · unfold R_tg
    rw [e 6 (by decide), e 7 (by decide), e 8 (by decide)]
    exact a4
theorem RR.rG (h : RR G T φ n u c r) {k : Nat} (v : Int64) : RR G T φ n u c (pG r 21 k v) := h
/-- a thing put otherwise -/
theorem RR.put (h : RR G T φ n u c r) {D : AH} {C : Nat → Int64} (hT : RT φ n u D (sN c) (sA r 22) (sA r 23) (sA r 24) (sA r 25) C) (hG : ∀ a, 601024 ≤ a → D a = sD c a) : RR G T φ n u (pQ c D (sN c) (sU c)) (pB r 26 C) := by
  obtain ⟨a1, a2, a3, a4, a5, a6, a7⟩ := h
  exact ⟨a1, a2, a3, ⟨hT, a4.2⟩, a5, a6, fun a ha => (hG a ha).trans (a7 a ha)⟩
theorem RR.bnd (h : RR G T φ n u c r) : n ≤ 40000 ∧ u ≤ 40000 ∧ sN c ≤ 80549 ∧ sU c ≤ 347234 ∧ 37 ≤ sN c := by
  obtain ⟨a1, a2, a3, a4, a5, a6, a7⟩ := h
  obtain ⟨b1, b2, b3, b4, b5⟩ := a2
  obtain ⟨d1, d2, d3, d4, d5⟩ := a4
  obtain ⟨e1, e2, e3, e4⟩ := a6
  omega
theorem RR.rt (h : RR G T φ n u c r) : RT φ n u (sD c) (sN c) (sA r 22) (sA r 23) (sA r 24) (sA r 25) (sB r 26) := h.2.2.2.1.1
end RU
/-! to pay -/
theorem i_of_le {a : Nat} {v : Int32} {b : Int} (h : v.toInt = b) (hb : b = (a : Int)) (ha : a < 2147483648) : v = nI a := yI_of (h.trans hb) ha
theorem mk_pr {G : AH} {T : Nat} {φ : Nat → Nat} {n u : Nat} {c r : St} (h : RR G T φ n u c r) {z : Nat} (hz : z < 9000000000000000000) :
    ((sI r 21 8).toInt + z ≤ 40000 ∧ ∃ v : Int32, v.toInt = (sI r 21 8).toInt + z ∧ f_Le_make c (lN z) = (true, pI c 1 0 v) ∧ f_M_pays r (lN z) = (true, pI r 21 8 v)) ∨
    (¬ (sI r 21 8).toInt + z ≤ 40000 ∧ f_Le_make c (lN z) = (false, pI (pI c 1 1 1) 1 3 3) ∧ f_M_pays r (lN z) = (false, pI r 21 15 1)) := by
  obtain ⟨-, ⟨b1, b2, b3, b4, b5⟩, -⟩ := h
  unfold f_Le_make f_M_pays
  rw [b1]
  obtain ⟨m, hm⟩ : ∃ m : Nat, (sI r 21 8).toInt = (m : Int) := ⟨(sI r 21 8).toInt.toNat, by omega⟩
  have em : sI r 21 8 = nI m := yI_of hm (by omega)
  have e1 : (Int32.toInt64 (sI r 21 8) + lN z) = lN (m + z) := by rw [em, nI_L (by omega), yL_add]
  have e2 : (lN (m + z)).toInt = ((m + z : Nat) : Int) := yL_i (Nat.lt_of_le_of_lt (Nat.add_le_add (show m ≤ 40000 by omega) (Nat.le_of_lt hz)) (by decide))
  rw [e1, lc_le, e2, show ((40000 : Int64).toInt) = 40000 from rfl, hm]
  by_cases g : m + z ≤ 40000
  · refine Or.inl ⟨by omega, sI r 21 8 + Int64.toInt32 (lN z), ?_, ?_, ?_⟩
    · rw [lN_I, em, show nI m + nI z = nI (m + z) from (Int32.ofNat_add m z).symm, yI_i (by omega)]
      omega
    · rw [cd_t (by omega)]
    · rw [cd_t (by omega)]
  · refine Or.inr ⟨by omega, ?_, ?_⟩
    · rw [cd_f (by omega)]
    · rw [cd_f (by omega)]
theorem bn_pr {G : AH} {T : Nat} {φ : Nat → Nat} {n u : Nat} {c r : St} (h : RR G T φ n u c r) {z : Nat} (hz : z < 9000000000000000000) :
    ((z : Int) ≤ (sI r 21 11).toInt ∧ ∃ v : Int32, v.toInt = (sI r 21 11).toInt - z ∧ f_Le_burn c (lN z) = (true, pI c 1 2 v) ∧ f_M_takes r (lN z) = (0, pI r 21 11 v)) ∨
    (¬ (z : Int) ≤ (sI r 21 11).toInt ∧ f_Le_burn c (lN z) = (false, pI (pI c 1 2 0) 1 3 2) ∧ f_M_takes r (lN z) = (2, pI r 21 11 0)) := by
  obtain ⟨-, -, ⟨b1, b2, b3⟩, -⟩ := h
  unfold f_Le_burn f_M_takes
  rw [b1]
  obtain ⟨m, hm⟩ : ∃ m : Nat, (sI r 21 11).toInt = (m : Int) := ⟨(sI r 21 11).toInt.toNat, by omega⟩
  have em : sI r 21 11 = nI m := yI_of hm (by omega)
  have e2 : (lN z).toInt = (z : Int) := yL_i (Nat.lt_trans hz (by decide))
  rw [lc_le, lc_ge, e2, Int32.toInt_toInt64, hm]
  by_cases g : z ≤ m
  · refine Or.inl ⟨by omega, sI r 21 11 - Int64.toInt32 (lN z), ?_, ?_, ?_⟩
    · rw [lN_I, i_subn hm (yI_i (k := z) (by omega)) (by omega) (by omega) (by omega) (by omega)]
    · rw [cd_t (by omega)]
    · rw [cd_t (by omega)]
  · refine Or.inr ⟨by omega, ?_, ?_⟩
    · rw [cd_f (by omega)]
    · rw [cd_f (by omega)]
section PR
variable {G : AH} {T : Nat} {φ : Nat → Nat} {n u : Nat} {c r : St}
/-- fuel at the end of an op -/
theorem bn_out (h : RR G T φ n u c r) (hz : SZ c) {z : Nat} (hl : z < 9000000000000000000) : OUT G T φ n c r (f_Le_burn c (lN z)).2 (f_M_takes r (lN z)) := by
  obtain ⟨z1, z2, z3⟩ := hz
  have fb := h.2.2.1
  rcases bn_pr h hl with ⟨g, v, hv, e1, e2⟩ | ⟨g, e1, e2⟩
  · rw [e1, e2]
    have hb := fb.2
    exact OUT.ok (h.fuel (v := v) (by omega) (by omega)) (EX.rf _ _) ⟨z1, z2, z3⟩ (opC_1 c 2 v) (opR_F r v (by omega))
  · rw [e1, e2]
    refine ⟨φ, n, u, (h.fuel (v := 0) (by decide) (by decide)).cI 2 (Or.inr (Nat.le_refl 3)), EX.rf _ _, ⟨rfl, Or.inr (Or.inr (Or.inl ⟨rfl, z2, z3⟩))⟩, (opC_1 c 2 0).tr (opC_1 _ 3 2), opR_F r 0 (by rw [show (0 : Int32).toInt = 0 from rfl]; exact fb.2.1)⟩
/-- a fault -/
theorem ft_out (h : RR G T φ n u c r) (hz : SZ c) {k m : Int32} (k1 : 1 ≤ k.toInt) (k2 : k.toInt ≤ 8) : ∃ c', (m = 0 → f_Le_fault c k = c') ∧ (k = 7 → f_Le_faultTold c m = c') ∧ OUT G T φ n c r c' (f_M_fault r k m) := by
  obtain ⟨z1, z2, z3⟩ := hz
  rcases mk_pr h (z := 8) (by decide) with ⟨g, v, hv, e1, e2⟩ | ⟨g, e1, e2⟩
  · have hR := h.made (v := v) (by omega) (by omega)
    refine ⟨pI (pI (pI (pI c 1 0 v) 1 3 1) 1 4 k) 1 5 m, fun hm => ?_, fun hk => ?_, ?_⟩
    · unfold f_Le_fault t_Le_fault_3
      rw [show (8 : Int64) = lN 8 from rfl, e1, hm]
      rfl
    · unfold f_Le_faultTold t_Le_faultTold_3
      rw [show (8 : Int64) = lN 8 from rfl, e1, hk]
      rfl
    · have ef : f_M_fault r k m = (1, pI (pI (pI r 21 8 v) 21 9 k) 21 10 m) := by
        unfold f_M_fault t_M_fault_3
        rw [show (8 : Int64) = lN 8 from rfl, e2]
        rfl
      rw [ef]
      exact ⟨φ, n, u, ((((((hR.cI 1 (Or.inr (Nat.le_refl 3))).cI k (Or.inr (by decide))).cI m (Or.inr (by decide))).rI k (Or.inl rfl))).rI m (Or.inr (Or.inl rfl))), EX.rf _ _, ⟨rfl, Or.inr (Or.inl ⟨rfl, rfl, rfl, k1, k2⟩)⟩, (((opC_1 c 0 v).tr (opC_1 _ 3 1)).tr (opC_1 _ 4 k)).tr (opC_1 _ 5 m), ((opR_I r (Or.inl (by decide)) v).tr (opR_I _ (Or.inl (by decide)) k)).tr (opR_I _ (Or.inl (by decide)) m)⟩
  · refine ⟨pI (pI c 1 1 1) 1 3 3, fun hm => ?_, fun hk => ?_, ?_⟩
    · unfold f_Le_fault t_Le_fault_3
      rw [show (8 : Int64) = lN 8 from rfl, e1]
      rfl
    · unfold f_Le_faultTold t_Le_faultTold_3
      rw [show (8 : Int64) = lN 8 from rfl, e1]
      rfl
    · have ef : f_M_fault r k m = (3, pI r 21 15 1) := by
        unfold f_M_fault t_M_fault_3
        rw [show (8 : Int64) = lN 8 from rfl, e2]
        rfl
      rw [ef]
      exact ⟨φ, n, u, h.full, EX.rf _ _, ⟨rfl, Or.inr (Or.inr (Or.inr ⟨rfl, z2, z3⟩))⟩, (opC_1 c 1 1).tr (opC_1 _ 3 3), opR_I r (Or.inr (Or.inl rfl)) 1⟩
theorem fl_out (h : RR G T φ n u c r) (hz : SZ c) {k : Int32} (k1 : 1 ≤ k.toInt) (k2 : k.toInt ≤ 8) : OUT G T φ n c r (f_Le_fault c k) (f_M_fails r k) := by
  obtain ⟨c', e1, -, e2⟩ := ft_out h hz (k := k) (m := 0) k1 k2
  rw [e1 rfl]
  exact e2
theorem full_out (h : RR G T φ n u c r) (hz : SZ c) : OUT G T φ n c r (pI (pI c 1 1 1) 1 3 3) (3, pI r 21 15 1) := ⟨φ, n, u, h.full, EX.rf _ _, ⟨rfl, Or.inr (Or.inr (Or.inr ⟨rfl, hz.2.1, hz.2.2⟩))⟩, (opC_1 c 1 1).tr (opC_1 _ 3 3), opR_I r (Or.inr (Or.inl rfl)) 1⟩
theorem w_fault (c : St) (k : Int32) : w_Le_fault c k := ⟨trivial, fun _ => trivial, fun _ => ⟨trivial, trivial⟩⟩
theorem w_faultT (c : St) (k : Int32) : w_Le_faultTold c k := ⟨trivial, fun _ => trivial, fun _ => ⟨trivial, trivial⟩⟩
theorem w_fails (r : St) (k : Int32) : w_M_fails r k := ⟨⟨trivial, trivial⟩, trivial⟩
end PR
/-! a new thing of the reference -/
def thR (r : St) (n u : Nat) (k m q : Int32) : St := pI (pA (pA (pA (pA (pI r 21 6 (nI (n + 1))) 22 (upd (sA r 22) (n + 1) k)) 23 (upd (sA r 23) (n + 1) (nI u))) 24 (upd (sA r 24) (n + 1) m)) 25 (upd (sA r 25) (n + 1) q)) 21 7 (nI (u + tsz k m))
theorem th_M {r : St} {n u : Nat} {k m q : Int32} (h1 : sI r 21 6 = nI n) (h2 : sI r 21 7 = nI u) (hn : n < 40000) (hm : k.toInt < 11 → 0 ≤ m.toInt) : f_M_thing r k m q = (nI (n + 1), thR r n u k m q) ∧ w_M_thing r k m q := by
  have en : nI n + (1 : Int32) = nI (n + 1) := (Int32.ofNat_add n 1).symm
  have e3 : (nI (n + 1)).toNatClampNeg = n + 1 := nN (by omega)
  have hin : vp_in (nI (n + 1)) 40001 := vp_of (by rw [yI_i (by omega)]; omega) (by rw [yI_i (by omega)]; omega)
  constructor
  · unfold f_M_thing t_M_thing_19 t_M_thing_45 thR tsz
    rw [h1, en, e3]
    show cond (cn2 .lt k 11) _ (cond (cn2 .ne k 16) _ _) = _
    have r6 : ∀ f g, sI (pA (pA (pI r 21 6 (nI (n + 1))) 22 f) 23 g) 21 6 = nI (n + 1) := fun _ _ => rfl
    have r7 : ∀ f g, sI (pA (pA (pI r 21 6 (nI (n + 1))) 22 f) 23 g) 21 7 = sI r 21 7 := fun _ _ => rfl
    rw [r6, r7, e3, h2, c2_lt, c2_ne, show ((11 : Int32).toInt) = 11 from rfl, show ((16 : Int32).toInt) = 16 from rfl]
    by_cases g1 : k.toInt < 11
    · rw [cd_t g1, if_neg (by omega), if_neg (by omega)]
      have em := nIof (hm g1)
      conv => lhs; arg 2; arg 4; rw [em]
      rw [show nI u + nI m.toNatClampNeg = nI (u + m.toNatClampNeg) from (Int32.ofNat_add _ _).symm]
      rfl
    · rw [cd_f g1]
      by_cases g2 : k.toInt = 16
      · rw [cd_f (fun z => z g2), if_pos g2]
        rw [show nI u + (1 : Int32) = nI (u + 1) from (Int32.ofNat_add _ _).symm]
        rfl
      · rw [cd_t g2, if_neg g2, if_pos (by omega)]
        rw [show nI u + (4 : Int32) = nI (u + 4) from (Int32.ofNat_add _ _).symm]
        rfl
  · unfold w_M_thing w_M_thing_19 w_M_thing_45
    rw [h1, en]
    exact ⟨hin, hin, hin, hin, fun _ => trivial, fun _ => ⟨fun _ => trivial, fun _ => trivial⟩⟩
theorem thR_op (r : St) (n u : Nat) (k m q : Int32) (h6 : sI r 21 6 = nI n) (hn : n < 40000) : opR r (thR r n u k m q) := by
  have e6 : (sI r 21 6).toInt = (n : Int) := by rw [h6, yI_i (by omega)]
  have up : ∀ (f : Nat → Int32) (x : Int32) (v : Nat), (v : Int) ≤ (sI r 21 6).toInt → upd f (n + 1) x v = f v := fun f x v hv => if_neg (by omega)
  refine ⟨fun a j z => ?_, fun _ _ _ => rfl, fun b z1 z2 z3 => ?_, fun _ _ _ => rfl, fun _ => rfl, rfl, rfl, rfl, Int.le_refl _, ?_, fun v hv => ⟨up _ _ v hv, up _ _ v hv, up _ _ v hv, fun _ => up _ _ v hv⟩⟩
  · unfold thR
    rw [sI_pI]
    by_cases h : a = 21
    · have := z h
      rw [if_pos h, if_neg (by omega), sI_pA, sI_pA, sI_pA, sI_pA, sI_pI, if_pos h, if_neg (by omega)]
    · rw [if_neg h, sI_pA, sI_pA, sI_pA, sI_pA, sI_pI, if_neg h]
  · unfold thR
    rw [sA_pI, sA_pA, if_neg (by omega), sA_pA, if_neg (by omega), sA_pA, if_neg (by omega), sA_pA, if_neg (by omega), sA_pI]
  · show (sI r 21 6).toInt ≤ (nI (n + 1)).toInt
    rw [e6, yI_i (by omega)]
    omega
def ph1 (φ : Nat → Nat) (n N : Nat) : Nat → Nat := fun t => if t = n + 1 then N else φ t
theorem ph1_ex (φ : Nat → Nat) (n N : Nat) : EX φ n (ph1 φ n N) (n + 1) := ⟨Nat.le_succ _, fun v hv => if_neg (by omega)⟩
theorem ph1_s (φ : Nat → Nat) (n N : Nat) : ph1 φ n N (n + 1) = N := if_pos rfl
theorem LVE.nw {φ : Nat → Nat} {n N : Nat} (h : 37 ≤ N) : n + 1 ≤ n + 1 ∧ LVE (ph1 φ n N) (n + 1) := ⟨Nat.le_refl _, Or.inr (by rw [ph1_s]; exact h)⟩
theorem LVE.tr {φ φ' : Nat → Nat} {n n' v : Nat} (h : v ≤ n ∧ LVE φ v) (e : EX φ n φ' n') : v ≤ n' ∧ LVE φ' v := LVE.ex h e.1 e.2
theorem RR.new {G : AH} {T : Nat} {φ : Nat → Nat} {n u : Nat} {c r : St} (h : RR G T φ n u c r) {k m q : Int32} {D : AH} {C : Nat → Int64} {U : Nat} (hn : (n : Int) + 1 ≤ (sI r 21 8).toInt) (hu : ((u + tsz k m : Nat) : Int) ≤ (sI r 21 8).toInt) (hD : ∀ a, a < sN c ∨ 601024 ≤ a → D a = sD c a) (hC : ∀ j, (j < u ∨ u + tsz k m ≤ j) → C j = sB r 26 j) (hU : U ≤ sU c + 2 + tsz k m)
    (hT : TT (ph1 φ n (sN c)) (n + 1) D (upd (sA r 22) (n + 1) k) (upd (sA r 23) (n + 1) (nI u)) (upd (sA r 24) (n + 1) m) (upd (sA r 25) (n + 1) q) C (n + 1)) :
    RR G T (ph1 φ n (sN c)) (n + 1) (u + tsz k m) (pQ c D (sN c + twd k) U) (pB (thR r n u k m q) 26 C) := by
  have hb := h.bnd
  obtain ⟨a1, a2, a3, a4, a5, a6, a7⟩ := h
  obtain ⟨d1, d2, d3, d4, d5⟩ := a4
  obtain ⟨e1, e2, e3, e4⟩ := a6
  have hw : twd k ≤ 2 := by unfold twd; split <;> omega
  refine ⟨a1, a2, a3, ⟨d1.new hb.2.2.2.2 (by omega) (fun a ha => hD a (Or.inl ha)) hC hT, rfl, rfl, ?_, hu⟩, fun j hj => ?_, ⟨e1, ?_, ?_, ?_⟩, fun a ha => (hD a (Or.inr ha)).trans (a7 a ha)⟩
  · show ((n + 1 : Nat) : Int) ≤ (sI r 21 8).toInt
    omega
  · obtain ⟨v, b1, b2, b3⟩ := a5 j hj
    exact ⟨v, LVE.ex b1 (Nat.le_succ _) (ph1_ex φ n (sN c)).2, b2, b3.trans (po_cg (ph1_ex φ n (sN c)).2 b1.1).symm⟩
  · show 37 ≤ sN c + twd k
    omega
  · show sN c + twd k ≤ 37 + 2 * (n + 1) + T
    omega
  · show U ≤ 224162 + 2 * (n + 1) + (u + tsz k m) + 6 * T
    omega
