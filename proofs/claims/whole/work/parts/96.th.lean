/-! THINGS: n of them, by phi; D what lies in the class up to N; K S M Q C the reference's kind, start, many, sort, cells -/
def tsz (k m : Int32) : Nat := if k.toInt = 16 then 1 else if 11 ≤ k.toInt then 4 else m.toNatClampNeg
def twd (k : Int32) : Nat := if k.toInt ≤ 10 then 2 else 1
def gok (K Q : Nat → Int32) (v t : Nat) : Prop := ((K t).toInt = 9 ∧ (K v).toInt = 4) ∨ ((K t).toInt = 10 ∧ 11 ≤ (K v).toInt ∧ (K v).toInt ≤ 15 ∧ f_M_isBelow (K v - 11) (Q t) = true)
/-- v is told of: a thing that nobody can reach any more has no address -/
def LVE (φ : Nat → Nat) (v : Nat) : Prop := v = 0 ∨ 37 ≤ φ v
theorem LVE.z (φ : Nat → Nat) : LVE φ 0 := Or.inl rfl
theorem LVE.ex {φ φ' : Nat → Nat} {n n' v : Nat} (h : v ≤ n ∧ LVE φ v) (hn : n ≤ n') (hφ : ∀ v, v ≤ n → φ' v = φ v) : v ≤ n' ∧ LVE φ' v := ⟨Nat.le_trans h.1 hn, h.2.imp id (fun z => by rw [hφ v h.1]; exact z)⟩
def Ta (φ : Nat → Nat) (D : AH) (K S M : Nat → Int32) (C : Nat → Int64) (t : Nat) : Prop :=
  1 ≤ (K t).toInt ∧ (K t).toInt ≤ 8 ∧ 0 ≤ (M t).toInt ∧ D (φ t) = some (.inl (6, [.inl (K t), .inr (.inr (some (φ t + 1)))])) ∧
  ∃ f, D (φ t + 1) = some (.inr (.inr (.inl ((M t).toNatClampNeg, f)))) ∧ ∀ i, i < (M t).toNatClampNeg → f i = C ((S t).toNatClampNeg + i) ∧ ((K t).toInt = 7 → KP (f i))
def Tb (φ : Nat → Nat) (n : Nat) (D : AH) (K S M Q : Nat → Int32) (C : Nat → Int64) (t : Nat) : Prop :=
  0 ≤ (M t).toInt ∧ (∃ b, D (φ t) = some (.inl (7, [.inl b, .inr (.inr (some (φ t + 1)))])) ∧ (((K t).toInt = 9 ∧ b = -1) ∨ ((K t).toInt = 10 ∧ 0 ≤ (Q t).toInt ∧ (Q t).toInt ≤ 4 ∧ b = Q t))) ∧
  ∃ f, D (φ t + 1) = some (.inr (.inr (.inr ((M t).toNatClampNeg, f)))) ∧ ∀ i, i < (M t).toNatClampNeg → ∃ v, (v ≤ n ∧ LVE φ v) ∧ C ((S t).toNatClampNeg + i) = lN v ∧ f i = po φ v ∧ (v = 0 ∨ gok K Q v t)
def Tc (φ : Nat → Nat) (n : Nat) (D : AH) (K S : Nat → Int32) (C : Nat → Int64) (t : Nat) : Prop :=
  11 ≤ (K t).toInt ∧ (K t).toInt ≤ 15 ∧ ∃ (q p : Int32) (w : Int64) (v : Nat), D (φ t) = some (.inl (4, [.inl (K t - 11), .inl q, .inr (.inl w), .inl p, .inr (.inr (po φ v))])) ∧
  C ((S t).toNatClampNeg) = q.toInt64 ∧ C ((S t).toNatClampNeg + 1) = w ∧ KP w ∧ C ((S t).toNatClampNeg + 2) = p.toInt64 ∧ C ((S t).toNatClampNeg + 3) = lN v ∧ (v ≤ n ∧ LVE φ v) ∧ (v = 0 ∨ (K v).toInt = 10)
def Td (φ : Nat → Nat) (D : AH) (K S : Nat → Int32) (C : Nat → Int64) (t : Nat) : Prop :=
  (K t).toInt = 16 ∧ ∃ q : Int32, D (φ t) = some (.inl (8, [.inl q])) ∧ C ((S t).toNatClampNeg) = q.toInt64
def TT (φ : Nat → Nat) (n : Nat) (D : AH) (K S M Q : Nat → Int32) (C : Nat → Int64) (t : Nat) : Prop := Ta φ D K S M C t ∨ Tb φ n D K S M Q C t ∨ Tc φ n D K S C t ∨ Td φ D K S C t
def RT (φ : Nat → Nat) (n u : Nat) (D : AH) (N : Nat) (K S M Q : Nat → Int32) (C : Nat → Int64) : Prop :=
  (∀ j, u ≤ j → C j = 0) ∧ K 0 = 0 ∧ M 0 = 0 ∧
  (∀ t, 1 ≤ t → (t ≤ n ∧ LVE φ t) → TT φ n D K S M Q C t ∧ 0 ≤ (S t).toInt ∧ (S t).toNatClampNeg + tsz (K t) (M t) ≤ u ∧ 37 ≤ φ t ∧ φ t + twd (K t) ≤ N) ∧
  (∀ t t', 1 ≤ t → t < t' → (t ≤ n ∧ LVE φ t) → (t' ≤ n ∧ LVE φ t') → (S t).toNatClampNeg + tsz (K t) (M t) ≤ (S t').toNatClampNeg ∧ φ t + twd (K t) ≤ φ t')
theorem po_cg {φ φ' : Nat → Nat} {n v : Nat} (hφ : ∀ v, v ≤ n → φ' v = φ v) (h : v ≤ n) : po φ' v = po φ v := by unfold po; rw [hφ v h]
theorem Ta.sz {φ : Nat → Nat} {D : AH} {K S M : Nat → Int32} {C : Nat → Int64} {t : Nat} (h : Ta φ D K S M C t) : tsz (K t) (M t) = (M t).toNatClampNeg := by
  obtain ⟨h1, h2, -⟩ := h
  unfold tsz
  rw [if_neg (by omega), if_neg (by omega)]
theorem Tb.kk {φ : Nat → Nat} {n : Nat} {D : AH} {K S M Q : Nat → Int32} {C : Nat → Int64} {t : Nat} (h : Tb φ n D K S M Q C t) : (K t).toInt = 9 ∨ (K t).toInt = 10 := by
  obtain ⟨-, ⟨b, -, h | h⟩, -⟩ := h
  · exact Or.inl h.1
  · exact Or.inr h.1
theorem Tb.sz {φ : Nat → Nat} {n : Nat} {D : AH} {K S M Q : Nat → Int32} {C : Nat → Int64} {t : Nat} (h : Tb φ n D K S M Q C t) : tsz (K t) (M t) = (M t).toNatClampNeg := by
  have := h.kk
  unfold tsz
  rw [if_neg (by omega), if_neg (by omega)]
theorem Tc.sz {φ : Nat → Nat} {n : Nat} {D : AH} {K S M : Nat → Int32} {C : Nat → Int64} {t : Nat} (h : Tc φ n D K S C t) : tsz (K t) (M t) = 4 := by
  obtain ⟨h1, h2, -⟩ := h
  unfold tsz
  rw [if_neg (by omega), if_pos (by omega)]
theorem Td.sz {φ : Nat → Nat} {D : AH} {K S M : Nat → Int32} {C : Nat → Int64} {t : Nat} (h : Td φ D K S C t) : tsz (K t) (M t) = 1 := by
  unfold tsz
  rw [if_pos h.1]
theorem TT.cg {φ φ' : Nat → Nat} {n n' : Nat} {D D' : AH} {K K' S S' M M' Q Q' : Nat → Int32} {C C' : Nat → Int64} {t : Nat} (h : TT φ n D K S M Q C t) (ht : t ≤ n) (hn : n ≤ n') (hφ : ∀ v, v ≤ n → φ' v = φ v) (hK : ∀ v, v ≤ n → K' v = K v) (hS : S' t = S t) (hM : M' t = M t) (hQ : Q' t = Q t) (hD : D' (φ t) = D (φ t)) (hD1 : (K t).toInt ≤ 10 → D' (φ t + 1) = D (φ t + 1)) (hC : ∀ i, i < tsz (K t) (M t) → C' ((S t).toNatClampNeg + i) = C ((S t).toNatClampNeg + i)) : TT φ' n' D' K' S' M' Q' C' t := by
  have gg : ∀ v, v ≤ n → gok K Q v t → gok K' Q' v t := fun v hv hg => by
    unfold gok at hg ⊢
    rw [hK t ht, hK v hv, hQ]
    exact hg
  rcases h with h | h | h | h
  · have hz := h.sz
    obtain ⟨h1, h2, h3, h4, f, h5, h6⟩ := h
    refine Or.inl ?_
    unfold Ta
    rw [hφ t ht, hK t ht, hS, hM, hD, hD1 (by omega)]
    exact ⟨h1, h2, h3, h4, f, h5, fun i hi => ⟨by rw [hC i (by rw [hz]; exact hi)]; exact (h6 i hi).1, (h6 i hi).2⟩⟩
  · have hz := h.sz
    have hk := h.kk
    obtain ⟨h3, h4, f, h5, h6⟩ := h
    refine Or.inr (Or.inl ?_)
    unfold Tb
    rw [hφ t ht, hK t ht, hS, hM, hQ, hD, hD1 (by omega)]
    refine ⟨h3, h4, f, h5, fun i hi => ?_⟩
    obtain ⟨v, a1, a2, a3, a4⟩ := h6 i hi
    exact ⟨v, LVE.ex a1 hn hφ, by rw [hC i (by rw [hz]; exact hi)]; exact a2, by rw [po_cg hφ a1.1]; exact a3, a4.imp id (gg v a1.1)⟩
  · have hz := h.sz (M := M)
    obtain ⟨h1, h2, q, p, w, v, h3, h4, h5, h6, h7, h8, h9, h10⟩ := h
    refine Or.inr (Or.inr (Or.inl ?_))
    unfold Tc
    rw [hφ t ht, hK t ht, hS, hD]
    have c0 := hC 0 (by rw [hz]; decide)
    rw [Nat.add_zero] at c0
    refine ⟨h1, h2, q, p, w, v, by rw [po_cg hφ h9.1]; exact h3, c0.trans h4, (hC 1 (by rw [hz]; decide)).trans h5, h6, (hC 2 (by rw [hz]; decide)).trans h7, (hC 3 (by rw [hz]; decide)).trans h8, LVE.ex h9 hn hφ, ?_⟩
    rw [hK v h9.1]
    exact h10
  · have hz := h.sz (M := M)
    obtain ⟨h1, q, h3, h4⟩ := h
    refine Or.inr (Or.inr (Or.inr ?_))
    unfold Td
    rw [hφ t ht, hK t ht, hS, hD]
    have c0 := hC 0 (by rw [hz]; decide)
    rw [Nat.add_zero] at c0
    exact ⟨h1, q, h3, c0.trans h4⟩
/-- all but one thing is as it was -/
theorem RT.put {φ : Nat → Nat} {n u N : Nat} {D D' : AH} {K S M Q : Nat → Int32} {C C' : Nat → Int64} {t : Nat} (h : RT φ n u D N K S M Q C) (h1 : 1 ≤ t) (h2 : t ≤ n ∧ LVE φ t) (hD : ∀ a, a ≠ φ t → a ≠ φ t + 1 → D' a = D a) (hD1 : 10 < (K t).toInt → D' (φ t + 1) = D (φ t + 1)) (hC : ∀ j, (j < (S t).toNatClampNeg ∨ (S t).toNatClampNeg + tsz (K t) (M t) ≤ j) → C' j = C j) (hT : TT φ n D' K S M Q C' t) : RT φ n u D' N K S M Q C' := by
  obtain ⟨a1, a2, a3, a4, a5⟩ := h
  obtain ⟨b1, b2, b3, b4, b5⟩ := a4 t h1 h2
  refine ⟨fun j hj => (hC j (Or.inr (by omega))).trans (a1 j hj), a2, a3, fun t' h1' h2' => ?_, a5⟩
  obtain ⟨c1, c2, c3, c4, c5⟩ := a4 t' h1' h2'
  refine ⟨?_, c2, c3, c4, c5⟩
  by_cases e : t' = t
  · rw [e]; exact hT
  have dis : (φ t' + twd (K t') ≤ φ t ∧ (S t').toNatClampNeg + tsz (K t') (M t') ≤ (S t).toNatClampNeg) ∨ (φ t + twd (K t) ≤ φ t' ∧ (S t).toNatClampNeg + tsz (K t) (M t) ≤ (S t').toNatClampNeg) := by
    rcases Nat.lt_or_gt_of_ne e with g | g
    · exact Or.inl ⟨(a5 t' t h1' g h2' h2).2, (a5 t' t h1' g h2' h2).1⟩
    · exact Or.inr ⟨(a5 t t' h1 g h2 h2').2, (a5 t t' h1 g h2 h2').1⟩
  have w1 : ∀ k : Int32, 1 ≤ twd k := fun k => by unfold twd; split <;> omega
  have hD' : ∀ a, φ t' ≤ a → a < φ t' + twd (K t') → D' a = D a := fun a g1 g2 => by
    by_cases g : a = φ t + 1 ∧ 10 < (K t).toInt
    · rw [g.1]; exact hD1 g.2
    · refine hD a ?_ ?_
      · have := w1 (K t); omega
      · intro z
        have h10 : (K t).toInt ≤ 10 := by have : ¬ 10 < (K t).toInt := fun y => g ⟨z, y⟩; omega
        have : twd (K t) = 2 := by unfold twd; rw [if_pos h10]
        omega
  refine c1.cg h2'.1 (Nat.le_refl _) (fun _ _ => rfl) (fun _ _ => rfl) rfl rfl rfl (hD' _ (Nat.le_refl _) (by have := w1 (K t'); omega)) (fun g => hD' _ (by omega) (by unfold twd; rw [if_pos g]; omega)) (fun i hi => hC _ (by omega))
/-- a new thing -/
theorem RT.new {φ : Nat → Nat} {n u N : Nat} {D D' : AH} {K S M Q : Nat → Int32} {C C' : Nat → Int64} {k m q : Int32} (h : RT φ n u D N K S M Q C) (hN : 37 ≤ N) (hu : u < 2147483648) (hD : ∀ a, a < N → D' a = D a) (hC : ∀ j, (j < u ∨ u + tsz k m ≤ j) → C' j = C j)
    (hT : TT (fun t => if t = n + 1 then N else φ t) (n + 1) D' (upd K (n + 1) k) (upd S (n + 1) (nI u)) (upd M (n + 1) m) (upd Q (n + 1) q) C' (n + 1)) :
    RT (fun t => if t = n + 1 then N else φ t) (n + 1) (u + tsz k m) D' (N + twd k) (upd K (n + 1) k) (upd S (n + 1) (nI u)) (upd M (n + 1) m) (upd Q (n + 1) q) C' := by
  obtain ⟨a1, a2, a3, a4, a5⟩ := h
  have w1 : ∀ k : Int32, 1 ≤ twd k := fun k => by unfold twd; split <;> omega
  have un : ∀ (f : Nat → Int32) (v : Int32) (t : Nat), t ≤ n → upd f (n + 1) v t = f t := fun f v t ht => by unfold upd; rw [if_neg (by omega)]
  have us : ∀ (f : Nat → Int32) (v : Int32), upd f (n + 1) v (n + 1) = v := fun f v => by unfold upd; rw [if_pos rfl]
  have su : (nI u).toNatClampNeg = u := by rw [tn_eq, yI_i hu]; rfl
  refine ⟨fun j hj => (hC j (Or.inr hj)).trans (a1 j (by omega)), by rw [un _ _ _ (Nat.zero_le _)]; exact a2, by rw [un _ _ _ (Nat.zero_le _)]; exact a3, fun t h1 h2 => ?_, fun t t' h1 h2 h3 h4 => ?_⟩
  · by_cases e : t = n + 1
    · subst e
      refine ⟨hT, ?_, ?_, ?_, ?_⟩
      · rw [us, yI_i hu]; omega
      · rw [us, us, us, su]; exact Nat.le_refl _
      · show 37 ≤ (if n + 1 = n + 1 then N else φ (n + 1)); rw [if_pos rfl]; exact hN
      · show (if n + 1 = n + 1 then N else φ (n + 1)) + twd (upd K (n + 1) k (n + 1)) ≤ N + twd k; rw [if_pos rfl, us]; exact Nat.le_refl _
    · have ht : t ≤ n := by omega
      have ep : (fun t => if t = n + 1 then N else φ t) t = φ t := if_neg e
      obtain ⟨c1, c2, c3, c4, c5⟩ := a4 t h1 ⟨ht, h2.2.imp id (fun z => by rw [← ep]; exact z)⟩
      have := w1 (K t)
      refine ⟨?_, by rw [un _ _ _ ht]; exact c2, by rw [un _ _ _ ht, un _ _ _ ht, un _ _ _ ht]; omega, by rw [ep]; exact c4, by rw [ep, un _ _ _ ht]; have := w1 k; omega⟩
      refine c1.cg ht (Nat.le_succ _) (fun v hv => if_neg (by omega)) (fun v hv => un _ _ _ hv) (un _ _ _ ht) (un _ _ _ ht) (un _ _ _ ht) (hD _ (by omega)) (fun g => hD _ (by unfold twd at c5; rw [if_pos g] at c5; omega)) (fun i hi => hC _ (Or.inl (by omega)))
  · have ht : t ≤ n := by omega
    have ep : (fun t => if t = n + 1 then N else φ t) t = φ t := if_neg (by omega)
    have lt : t ≤ n ∧ LVE φ t := ⟨ht, h3.2.imp id (fun z => by rw [← ep]; exact z)⟩
    obtain ⟨c1, c2, c3, c4, c5⟩ := a4 t h1 lt
    rw [ep, un _ _ _ ht, un _ _ _ ht, un _ _ _ ht]
    by_cases e : t' = n + 1
    · subst e
      rw [us, su]
      exact ⟨c3, by show _ ≤ (if n + 1 = n + 1 then N else φ (n + 1)); rw [if_pos rfl]; exact c5⟩
    · have ep' : (fun t => if t = n + 1 then N else φ t) t' = φ t' := if_neg e
      rw [ep', un _ _ _ (by omega)]
      exact a5 t t' h1 h2 lt ⟨by omega, h4.2.imp id (fun z => by rw [← ep']; exact z)⟩
/-! reads -/
section RD
variable {D : AH} {a : Nat}
theorem dcl_at (h : 37 ≤ a) : dcl D (some a) = D a := if_neg (by omega)
theorem oC_at {ci : Nat} {fs : List AV} (h : 37 ≤ a) (hD : D a = some (.inl (ci, fs))) : oC D (some a) = some ci := by unfold oC; rw [dcl_at h, hD]
theorem oF_at {ci : Nat} {fs : List AV} (h : 37 ≤ a) (hD : D a = some (.inl (ci, fs))) : oF D (some a) = fs := by unfold oF; rw [dcl_at h, hD]
theorem gI_at {ci k : Nat} {fs : List AV} {x : Int32} (h : 37 ≤ a) (hD : D a = some (.inl (ci, fs))) (hk : fs[k]? = some (.inl x)) : gI D (some a) k = x := by unfold gI; rw [oF_at h hD, hk]
theorem gL_at {ci k : Nat} {fs : List AV} {x : Int64} (h : 37 ≤ a) (hD : D a = some (.inl (ci, fs))) (hk : fs[k]? = some (.inr (.inl x))) : gL D (some a) k = x := by unfold gL; rw [oF_at h hD, hk]
theorem gR_at {ci k : Nat} {fs : List AV} {x : Option Nat} (h : 37 ≤ a) (hD : D a = some (.inl (ci, fs))) (hk : fs[k]? = some (.inr (.inr x))) : gR D (some a) k = x := by unfold gR; rw [oF_at h hD, hk]
theorem ob_at {ci : Nat} {fs : List AV} (h : 37 ≤ a) (hD : D a = some (.inl (ci, fs))) (hk : fs.map kv = kd ci) : ob D (some a) ci := ⟨fs, by rw [dcl_at h, hD], hk⟩
theorem aLN_at {n : Nat} {f : Nat → Int64} (h : 37 ≤ a) (hD : D a = some (.inr (.inr (.inl (n, f))))) : aLN D (some a) = n := by unfold aLN; rw [dcl_at h, hD]
theorem aLF_at {n : Nat} {f : Nat → Int64} (h : 37 ≤ a) (hD : D a = some (.inr (.inr (.inl (n, f))))) : aLF D (some a) = f := by unfold aLF; rw [dcl_at h, hD]
theorem isL_at {n : Nat} {f : Nat → Int64} (h : 37 ≤ a) (hD : D a = some (.inr (.inr (.inl (n, f))))) : isL D (some a) := ⟨n, f, by rw [dcl_at h, hD]⟩
theorem aRN_at {n : Nat} {f : Nat → Option Nat} (h : 37 ≤ a) (hD : D a = some (.inr (.inr (.inr (n, f))))) : aRN D (some a) = n := by unfold aRN; rw [dcl_at h, hD]
theorem aRF_at {n : Nat} {f : Nat → Option Nat} (h : 37 ≤ a) (hD : D a = some (.inr (.inr (.inr (n, f))))) : aRF D (some a) = f := by unfold aRF; rw [dcl_at h, hD]
theorem isR_at {n : Nat} {f : Nat → Option Nat} (h : 37 ≤ a) (hD : D a = some (.inr (.inr (.inr (n, f))))) : isR D (some a) := ⟨n, f, by rw [dcl_at h, hD]⟩
theorem tho_at {ci : Nat} {fs : List AV} (h : 37 ≤ a) (hD : D a = some (.inl (ci, fs))) (hc : thq ci = true) : tho D (some a) := Or.inr ⟨ci, fs, by rw [dcl_at h, hD], hc⟩
theorem cst_at {ci n : Nat} {fs : List AV} (h : 37 ≤ a) (hD : D a = some (.inl (ci, fs))) (hc : cix ci = some n) : cst D (some a) n := Or.inr ⟨ci, fs, by rw [dcl_at h, hD], hc⟩
theorem isc_at {ci n : Nat} {fs : List AV} (h : 37 ≤ a) (hD : D a = some (.inl (ci, fs))) : isc D (some a) n = decide (cix ci = some n) := by unfold isc; rw [oC_at h hD]; rfl
theorem isc_no {n : Nat} : isc D none n = false := rfl
theorem hupS {e : AE} : hup D a e a = some e := if_pos rfl
theorem hupN {b : Nat} {e : AE} (h : b ≠ a) : hup D a e b = D b := if_neg h
theorem dF_at {ci k : Nat} {fs : List AV} {v : AV} (h : 37 ≤ a) (hD : D a = some (.inl (ci, fs))) : dF D (some a) k v = hup D a (.inl (ci, fs.set k v)) := by unfold dF dset; rw [oC_at h hD, oF_at h hD]; rfl
theorem dL_at {n : Nat} {f g : Nat → Int64} (h : 37 ≤ a) (hD : D a = some (.inr (.inr (.inl (n, f))))) : dL D (some a) g = hup D a (.inr (.inr (.inl (n, g)))) := by unfold dL dset; rw [aLN_at h hD]
theorem dR_at {n : Nat} {f g : Nat → Option Nat} (h : 37 ≤ a) (hD : D a = some (.inr (.inr (.inr (n, f))))) : dR D (some a) g = hup D a (.inr (.inr (.inr (n, g)))) := by unfold dR dset; rw [aRN_at h hD]
end RD
theorem po_0 (φ : Nat → Nat) : po φ 0 = none := rfl
theorem po_s (φ : Nat → Nat) {v : Nat} (h : 1 ≤ v) : po φ v = some (φ v) := if_neg (by omega)
theorem nN {t : Nat} (h : t < 2147483648) : (nI t).toNatClampNeg = t := by rw [tn_eq, yI_i h]; rfl
theorem lN_I (v : Nat) : Int64.toInt32 (lN v) = nI v := Int64.toInt32_ofNat'
theorem nI_L {v : Nat} (h : v < 2147483648) : Int32.toInt64 (nI v) = lN v := fl_64 h
theorem nn_add {x y : Int32} (h1 : 0 ≤ x.toInt) (h2 : 0 ≤ y.toInt) (h3 : x.toInt + y.toInt ≤ 2147483647) : (x + y).toNatClampNeg = x.toNatClampNeg + y.toNatClampNeg ∧ (x + y).toInt = x.toInt + y.toInt := by
  have e := i_addy (x := x) (y := y) rfl rfl (by omega) h3
  rw [tn_eq, tn_eq, tn_eq, e]
  exact ⟨by omega, rfl⟩
theorem nIof {x : Int32} (h : 0 ≤ x.toInt) : x = nI x.toNatClampNeg := yI_of (by rw [tn_eq]; omega) (by have := Int32.toInt_lt x; rw [tn_eq]; omega)
/-! a thing as the class asks it -/
section AS
variable {φ : Nat → Nat} {n u N : Nat} {K S M Q : Nat → Int32} {C : Nat → Int64} {c : St} {t : Nat}
theorem a_kind (h : RT φ n u (sD c) N K S M Q C) (h1 : 1 ≤ t) (h2 : t ≤ n ∧ LVE φ t) : u_kind c (some (φ t)) = K t ∧ wu_kind c (some (φ t)) := by
  obtain ⟨hT, -, -, h37, -⟩ := h.2.2.2.1 t h1 h2
  unfold u_kind wu_kind
  rcases hT with h | h | h | h
  · obtain ⟨a1, a2, a3, a4, -⟩ := h
    rw [oC_at h37 a4, if_neg (by decide), if_pos rfl]
    exact ⟨gI_at h37 a4 rfl, Or.inr (Or.inl ⟨rfl, ob_at h37 a4 rfl, trivial⟩)⟩
  · obtain ⟨-, ⟨b, a4, a5⟩, -⟩ := h
    rw [oC_at h37 a4, if_neg (by decide), if_neg (by decide), if_pos rfl]
    refine ⟨?_, Or.inr (Or.inr (Or.inl ⟨rfl, ob_at h37 a4 rfl, trivial⟩))⟩
    unfold f_Sh_kind
    rw [gI_at h37 a4 rfl, c2_ne]
    rcases a5 with ⟨b1, rfl⟩ | ⟨b1, b2, b3, rfl⟩
    · exact Int32.toInt_inj.mp b1.symm
    · rw [cd_t (by rw [show ((-1 : Int32).toInt) = -1 from rfl]; omega)]
      exact Int32.toInt_inj.mp b1.symm
  · obtain ⟨-, -, q, p, w, v, a4, -⟩ := h
    rw [oC_at h37 a4, if_pos rfl]
    refine ⟨?_, Or.inl ⟨rfl, ob_at h37 a4 rfl, trivial⟩⟩
    unfold f_Pa_kind
    rw [gI_at h37 a4 rfl, Int32.add_comm, Int32.sub_add_cancel]
  · obtain ⟨a1, q, a4, -⟩ := h
    rw [oC_at h37 a4, if_neg (by decide), if_neg (by decide), if_neg (by decide)]
    exact ⟨Int32.toInt_inj.mp a1.symm, Or.inr (Or.inr (Or.inr ⟨rfl, trivial⟩))⟩
theorem a_tho (h : RT φ n u (sD c) N K S M Q C) (h2 : t ≤ n ∧ LVE φ t) : tho (sD c) (po φ t) := by
  by_cases h1 : t = 0
  · exact Or.inl (by rw [h1]; rfl)
  rw [po_s φ (by omega)]
  obtain ⟨hT, -, -, h37, -⟩ := h.2.2.2.1 t (by omega) h2
  rcases hT with h | h | h | h
  · exact tho_at h37 h.2.2.2.1 rfl
  · obtain ⟨-, ⟨b, a4, a5⟩, -⟩ := h
    exact tho_at h37 a4 rfl
  · obtain ⟨-, -, q, p, w, v, a4, -⟩ := h
    exact tho_at h37 a4 rfl
  · obtain ⟨a1, q, a4, -⟩ := h
    exact tho_at h37 a4 rfl
/-- instanceof: 0 Part, 1 Row, 2 Shelf, 3 Trouble -/
theorem a_isc (h : RT φ n u (sD c) N K S M Q C) (h2 : t ≤ n ∧ LVE φ t) : isc (sD c) (po φ t) 0 = decide (11 ≤ (K t).toInt ∧ (K t).toInt ≤ 15) ∧ isc (sD c) (po φ t) 1 = decide (1 ≤ (K t).toInt ∧ (K t).toInt ≤ 8) ∧ isc (sD c) (po φ t) 2 = decide ((K t).toInt = 9 ∨ (K t).toInt = 10) ∧ isc (sD c) (po φ t) 3 = decide ((K t).toInt = 16) := by
  by_cases h1 : t = 0
  · rw [h1, h.2.1]
    exact ⟨rfl, rfl, rfl, rfl⟩
  rw [po_s φ (by omega)]
  obtain ⟨hT, -, -, h37, -⟩ := h.2.2.2.1 t (by omega) h2
  rcases hT with h | h | h | h
  · obtain ⟨a1, a2, a3, a4, -⟩ := h
    rw [isc_at h37 a4, isc_at h37 a4, isc_at h37 a4, isc_at h37 a4, df (p := 11 ≤ (K t).toInt ∧ (K t).toInt ≤ 15) (by omega), dt (p := 1 ≤ (K t).toInt ∧ (K t).toInt ≤ 8) (by omega), df (p := (K t).toInt = 9 ∨ (K t).toInt = 10) (by omega), df (p := (K t).toInt = 16) (by omega)]
    exact ⟨rfl, rfl, rfl, rfl⟩
  · have hk := h.kk
    obtain ⟨-, ⟨b, a4, a5⟩, -⟩ := h
    rw [isc_at h37 a4, isc_at h37 a4, isc_at h37 a4, isc_at h37 a4, df (p := 11 ≤ (K t).toInt ∧ (K t).toInt ≤ 15) (by omega), df (p := 1 ≤ (K t).toInt ∧ (K t).toInt ≤ 8) (by omega), dt (p := (K t).toInt = 9 ∨ (K t).toInt = 10) (by omega), df (p := (K t).toInt = 16) (by omega)]
    exact ⟨rfl, rfl, rfl, rfl⟩
  · obtain ⟨a1, a2, q, p, w, v, a4, -⟩ := h
    rw [isc_at h37 a4, isc_at h37 a4, isc_at h37 a4, isc_at h37 a4, dt (p := 11 ≤ (K t).toInt ∧ (K t).toInt ≤ 15) (by omega), df (p := 1 ≤ (K t).toInt ∧ (K t).toInt ≤ 8) (by omega), df (p := (K t).toInt = 9 ∨ (K t).toInt = 10) (by omega), df (p := (K t).toInt = 16) (by omega)]
    exact ⟨rfl, rfl, rfl, rfl⟩
  · obtain ⟨a1, q, a4, -⟩ := h
    rw [isc_at h37 a4, isc_at h37 a4, isc_at h37 a4, isc_at h37 a4, df (p := 11 ≤ (K t).toInt ∧ (K t).toInt ≤ 15) (by omega), df (p := 1 ≤ (K t).toInt ∧ (K t).toInt ≤ 8) (by omega), df (p := (K t).toInt = 9 ∨ (K t).toInt = 10) (by omega), dt (p := (K t).toInt = 16) (by omega)]
    exact ⟨rfl, rfl, rfl, rfl⟩
theorem a_size (h : RT φ n u (sD c) N K S M Q C) (h1 : 1 ≤ t) (h2 : t ≤ n ∧ LVE φ t) : u_size c (some (φ t)) = (if (K t).toInt ≤ 10 then M t else -1) ∧ wu_size c (some (φ t)) ∧ ((K t).toInt ≤ 10 → 0 ≤ (M t).toInt) ∧ 1 ≤ (K t).toInt ∧ (K t).toInt ≤ 16 := by
  obtain ⟨hT, -, -, h37, -⟩ := h.2.2.2.1 t h1 h2
  unfold u_size wu_size
  rcases hT with h | h | h | h
  · obtain ⟨a1, a2, a3, a4, f, a5, -⟩ := h
    rw [oC_at h37 a4, if_neg (by decide), if_pos rfl, if_pos (by omega)]
    unfold f_Ro_size w_Ro_size
    rw [gR_at h37 a4 rfl, aLN_at (by omega) a5]
    exact ⟨(nIof a3).symm, Or.inr (Or.inl ⟨rfl, ob_at h37 a4 rfl, isL_at (by omega) a5, trivial⟩), fun _ => a3, a1, by omega⟩
  · have hk := h.kk
    obtain ⟨a3, ⟨b, a4, -⟩, f, a5, -⟩ := h
    rw [oC_at h37 a4, if_neg (by decide), if_neg (by decide), if_pos rfl, if_pos (by omega)]
    unfold f_Sh_size w_Sh_size
    rw [gR_at h37 a4 rfl, aRN_at (by omega) a5]
    exact ⟨(nIof a3).symm, Or.inr (Or.inr (Or.inl ⟨rfl, ob_at h37 a4 rfl, isR_at (by omega) a5, trivial⟩)), fun _ => a3, by omega, by omega⟩
  · obtain ⟨a1, a2, q, p, w, v, a4, -⟩ := h
    rw [oC_at h37 a4, if_pos rfl, if_neg (by omega)]
    exact ⟨rfl, Or.inl ⟨rfl, trivial⟩, fun z => by omega, by omega, by omega⟩
  · obtain ⟨a1, q, a4, -⟩ := h
    rw [oC_at h37 a4, if_neg (by decide), if_neg (by decide), if_neg (by decide), if_neg (by omega)]
    exact ⟨rfl, Or.inr (Or.inr (Or.inr ⟨rfl, trivial⟩)), fun z => by omega, by omega, by omega⟩
end AS
