/-! NEW THINGS -/
def rowD (D : AH) (N : Nat) (k m : Int32) : AH := fun a => if a = N then some (.inl (6, [.inl k, .inr (.inr (some (N + 1)))])) else if a = N + 1 then some (.inr (.inr (.inl (m.toNatClampNeg, fun _ => 0)))) else D a
def shlD (D : AH) (N : Nat) (b m : Int32) : AH := fun a => if a = N then some (.inl (7, [.inl b, .inr (.inr (some (N + 1)))])) else if a = N + 1 then some (.inr (.inr (.inr (m.toNatClampNeg, fun _ => none)))) else D a
def prtD (D : AH) (N : Nat) (b : Int32) : AH := hup D N (.inl (4, [.inl b, .inl 0, .inr (.inl 0), .inl 0, .inr (.inr none)]))
def trbD (D : AH) (N : Nat) (q : Int32) : AH := hup D N (.inl (8, [.inl q]))
theorem i_ro {s : St} {k m : Int32} (hN : 37 ≤ sN s) (hm : 0 ≤ m.toInt) (hr1 : sN s + 2 ≤ 601024) (hr2 : sU s + 2 + m.toNatClampNeg ≤ 7293034) :
    f_Ro_init (pQ s (nwO (sD s) (sN s) 6) (sN s + 1) (sU s + 2)) (some (sN s)) k m = pQ s (rowD (sD s) (sN s) k m) (sN s + 2) (sU s + 2 + m.toNatClampNeg) ∧ w_Ro_init (pQ s (nwO (sD s) (sN s) 6) (sN s + 1) (sU s + 2)) (some (sN s)) k m ∧ rm (sN s) (sU s) 2 := by
  have e0 : nwO (sD s) (sN s) 6 (sN s) = some (.inl (6, [.inl 0, .inr (.inr none)])) := hupS
  have e1 : dF (nwO (sD s) (sN s) 6) (some (sN s)) 0 (.inl k) = hup (nwO (sD s) (sN s) 6) (sN s) (.inl (6, [.inl k, .inr (.inr none)])) := dF_at hN e0
  have e2 : nwL (hup (nwO (sD s) (sN s) 6) (sN s) (.inl (6, [.inl k, .inr (.inr none)]))) (sN s + 1) m (sN s) = some (.inl (6, [.inl k, .inr (.inr none)])) := (hupN (by omega)).trans hupS
  have e3 : dF (nwL (hup (nwO (sD s) (sN s) 6) (sN s) (.inl (6, [.inl k, .inr (.inr none)]))) (sN s + 1) m) (some (sN s)) 1 (.inr (.inr (some (sN s + 1)))) = rowD (sD s) (sN s) k m := by
    rw [dF_at hN e2]
    funext a
    unfold rowD nwL nwO hup
    by_cases g1 : a = sN s
    · rw [if_pos g1, if_pos g1]; rfl
    · rw [if_neg g1, if_neg g1]
      by_cases g2 : a = sN s + 1
      · rw [if_pos g2, if_pos g2, if_neg g1]
      · rw [if_neg g2, if_neg g2, if_neg g1, if_neg g1]
  have hz : ¬ m < 0 := by rw [Int32.lt_iff_toInt_lt, z0]; omega
  refine ⟨?_, ⟨⟨?_, trivial⟩, ?_, ?_, hz, ⟨?_, ?_, ?_⟩, ?_, trivial⟩, hN, by omega, by omega⟩
  · show pQ s (dF (nwL (dF (nwO (sD s) (sN s) 6) (some (sN s)) 0 (.inl k)) (sN s + 1) m) (some (sN s)) 1 (.inr (.inr (some (sN s + 1))))) (sN s + 1 + 1) (sU s + 2 + m.toNatClampNeg) = _
    rw [e1, e3]
  · show (oC (nwO (sD s) (sN s) 6) (some (sN s))).isSome = true
    rw [oC_at hN e0]; rfl
  · show (oC (nwO (sD s) (sN s) 6) (some (sN s))).isSome = true
    rw [oC_at hN e0]; rfl
  · exact ob_at hN e0 rfl
  · show 37 ≤ sN s + 1; omega
  · show sN s + 1 + 1 ≤ 601024; omega
  · show sU s + 2 + m.toNatClampNeg ≤ 7293034; exact hr2
  · show ob (nwL (dF (nwO (sD s) (sN s) 6) (some (sN s)) 0 (.inl k)) (sN s + 1) m) (some (sN s)) 6
    rw [e1]
    exact ob_at hN e2 rfl
theorem i_sh {s : St} {k m : Int32} (hN : 37 ≤ sN s) (hm : 0 ≤ m.toInt) (hr1 : sN s + 2 ≤ 601024) (hr2 : sU s + 2 + m.toNatClampNeg ≤ 7293034) :
    f_Sh_init (pQ s (nwO (sD s) (sN s) 7) (sN s + 1) (sU s + 2)) (some (sN s)) k m = pQ s (shlD (sD s) (sN s) k m) (sN s + 2) (sU s + 2 + m.toNatClampNeg) ∧ w_Sh_init (pQ s (nwO (sD s) (sN s) 7) (sN s + 1) (sU s + 2)) (some (sN s)) k m ∧ rm (sN s) (sU s) 2 := by
  have e0 : nwO (sD s) (sN s) 7 (sN s) = some (.inl (7, [.inl 0, .inr (.inr none)])) := hupS
  have e1 : dF (nwO (sD s) (sN s) 7) (some (sN s)) 0 (.inl k) = hup (nwO (sD s) (sN s) 7) (sN s) (.inl (7, [.inl k, .inr (.inr none)])) := dF_at hN e0
  have e2 : nwR (hup (nwO (sD s) (sN s) 7) (sN s) (.inl (7, [.inl k, .inr (.inr none)]))) (sN s + 1) m (sN s) = some (.inl (7, [.inl k, .inr (.inr none)])) := (hupN (by omega)).trans hupS
  have e3 : dF (nwR (hup (nwO (sD s) (sN s) 7) (sN s) (.inl (7, [.inl k, .inr (.inr none)]))) (sN s + 1) m) (some (sN s)) 1 (.inr (.inr (some (sN s + 1)))) = shlD (sD s) (sN s) k m := by
    rw [dF_at hN e2]
    funext a
    unfold shlD nwR nwO hup
    by_cases g1 : a = sN s
    · rw [if_pos g1, if_pos g1]; rfl
    · rw [if_neg g1, if_neg g1]
      by_cases g2 : a = sN s + 1
      · rw [if_pos g2, if_pos g2, if_neg g1]
      · rw [if_neg g2, if_neg g2, if_neg g1, if_neg g1]
  have hz : ¬ m < 0 := by rw [Int32.lt_iff_toInt_lt, z0]; omega
  refine ⟨?_, ⟨⟨?_, trivial⟩, ?_, ?_, hz, ⟨?_, ?_, ?_⟩, ?_, trivial⟩, hN, by omega, by omega⟩
  · show pQ s (dF (nwR (dF (nwO (sD s) (sN s) 7) (some (sN s)) 0 (.inl k)) (sN s + 1) m) (some (sN s)) 1 (.inr (.inr (some (sN s + 1))))) (sN s + 1 + 1) (sU s + 2 + m.toNatClampNeg) = _
    rw [e1, e3]
  · show (oC (nwO (sD s) (sN s) 7) (some (sN s))).isSome = true
    rw [oC_at hN e0]; rfl
  · show (oC (nwO (sD s) (sN s) 7) (some (sN s))).isSome = true
    rw [oC_at hN e0]; rfl
  · exact ob_at hN e0 rfl
  · show 37 ≤ sN s + 1; omega
  · show sN s + 1 + 1 ≤ 601024; omega
  · show sU s + 2 + m.toNatClampNeg ≤ 7293034; exact hr2
  · show ob (nwR (dF (nwO (sD s) (sN s) 7) (some (sN s)) 0 (.inl k)) (sN s + 1) m) (some (sN s)) 7
    rw [e1]
    exact ob_at hN e2 rfl
theorem i_pa {s : St} {k : Int32} (hN : 37 ≤ sN s) (hr1 : sN s + 1 ≤ 601024) (hr2 : sU s + 5 ≤ 7293034) :
    f_Pa_init (pQ s (nwO (sD s) (sN s) 4) (sN s + 1) (sU s + 5)) (some (sN s)) k = pQ s (prtD (sD s) (sN s) k) (sN s + 1) (sU s + 5) ∧ w_Pa_init (pQ s (nwO (sD s) (sN s) 4) (sN s + 1) (sU s + 5)) (some (sN s)) k ∧ rm (sN s) (sU s) 5 := by
  have e0 : nwO (sD s) (sN s) 4 (sN s) = some (.inl (4, [.inl 0, .inl 0, .inr (.inl 0), .inl 0, .inr (.inr none)])) := hupS
  have e1 : dF (nwO (sD s) (sN s) 4) (some (sN s)) 0 (.inl k) = prtD (sD s) (sN s) k := by
    rw [dF_at hN e0]
    funext a
    unfold prtD nwO hup
    by_cases g1 : a = sN s
    · rw [if_pos g1, if_pos g1]; rfl
    · rw [if_neg g1, if_neg g1, if_neg g1]
  refine ⟨?_, ⟨⟨?_, trivial⟩, ?_, ob_at hN e0 rfl, trivial⟩, hN, hr1, hr2⟩
  · show pQ s (dF (nwO (sD s) (sN s) 4) (some (sN s)) 0 (.inl k)) (sN s + 1) (sU s + 5) = _
    rw [e1]
  · show (oC (nwO (sD s) (sN s) 4) (some (sN s))).isSome = true
    rw [oC_at hN e0]; rfl
  · show (oC (nwO (sD s) (sN s) 4) (some (sN s))).isSome = true
    rw [oC_at hN e0]; rfl
theorem i_tr {s : St} {k : Int32} (hN : 37 ≤ sN s) (hr1 : sN s + 1 ≤ 601024) (hr2 : sU s + 1 ≤ 7293034) :
    f_Tr_init (pQ s (nwO (sD s) (sN s) 8) (sN s + 1) (sU s + 1)) (some (sN s)) k = pQ s (trbD (sD s) (sN s) k) (sN s + 1) (sU s + 1) ∧ w_Tr_init (pQ s (nwO (sD s) (sN s) 8) (sN s + 1) (sU s + 1)) (some (sN s)) k ∧ rm (sN s) (sU s) 1 := by
  have e0 : nwO (sD s) (sN s) 8 (sN s) = some (.inl (8, [.inl 0])) := hupS
  have e1 : dF (nwO (sD s) (sN s) 8) (some (sN s)) 0 (.inl k) = trbD (sD s) (sN s) k := by
    rw [dF_at hN e0]
    funext a
    unfold trbD nwO hup
    by_cases g1 : a = sN s
    · rw [if_pos g1, if_pos g1]; rfl
    · rw [if_neg g1, if_neg g1, if_neg g1]
  refine ⟨?_, ⟨⟨?_, trivial⟩, ?_, ob_at hN e0 rfl, trivial⟩, hN, hr1, hr2⟩
  · show pQ s (dF (nwO (sD s) (sN s) 8) (some (sN s)) 0 (.inl k)) (sN s + 1) (sU s + 1) = _
    rw [e1]
  · show (oC (nwO (sD s) (sN s) 8) (some (sN s))).isSome = true
    rw [oC_at hN e0]; rfl
  · show (oC (nwO (sD s) (sN s) 8) (some (sN s))).isSome = true
    rw [oC_at hN e0]; rfl
section NW
variable {G : AH} {T : Nat} {φ : Nat → Nat} {n u : Nat} {c r : St}
theorem upS (f : Nat → Int32) (k : Nat) (v : Int32) : upd f k v k = v := if_pos rfl
theorem tz_row {k m : Int32} (h : k.toInt ≤ 10) : tsz k m = m.toNatClampNeg := by unfold tsz; rw [if_neg (by omega), if_neg (by omega)]
theorem tw_row {k : Int32} (h : k.toInt ≤ 10) : twd k = 2 := if_pos h
theorem kp0 : KP 0 := by unfold KP; decide
/-- a row, its cells C -/
theorem nw_row (h : RR G T φ n u c r) {k m q : Int32} {f C : Nat → Int64} (k1 : 1 ≤ k.toInt) (k2 : k.toInt ≤ 8) (hm : 0 ≤ m.toInt) (hn : (n : Int) + 1 ≤ (sI r 21 8).toInt) (hu : (u : Int) + m.toInt ≤ (sI r 21 8).toInt) (hC : ∀ j, (j < u ∨ u + m.toNatClampNeg ≤ j) → C j = sB r 26 j) (hf : ∀ i, i < m.toNatClampNeg → f i = C (u + i) ∧ (k.toInt = 7 → KP (f i))) {D : AH} (d1 : D (sN c) = some (.inl (6, [.inl k, .inr (.inr (some (sN c + 1)))]))) (d2 : D (sN c + 1) = some (.inr (.inr (.inl (m.toNatClampNeg, f))))) (d3 : ∀ a, a ≠ sN c → a ≠ sN c + 1 → D a = sD c a) :
    RR G T (ph1 φ n (sN c)) (n + 1) (u + m.toNatClampNeg) (pQ c D (sN c + 2) (sU c + 2 + m.toNatClampNeg)) (pB (thR r n u k m q) 26 C) := by
  have hb := h.bnd
  have ez := tz_row (k := k) (m := m) (by omega)
  have ew := tw_row (k := k) (by omega)
  have := h.new (k := k) (m := m) (q := q) (D := D) (C := C) (U := sU c + 2 + m.toNatClampNeg) hn (by rw [ez, tn_eq]; omega) (fun a ha => d3 a (by omega) (by omega)) (by rw [ez]; exact hC) (by rw [ez]; exact Nat.le_refl _) (by
    refine Or.inl ?_
    unfold Ta
    rw [upS, upS, upS, ph1_s, nN (by omega)]
    exact ⟨k1, k2, hm, d1, f, d2, hf⟩)
  rw [ez, ew] at this
  exact this
theorem nw_row0 (h : RR G T φ n u c r) {k m q : Int32} (k1 : 1 ≤ k.toInt) (k2 : k.toInt ≤ 8) (hm : 0 ≤ m.toInt) (hn : (n : Int) + 1 ≤ (sI r 21 8).toInt) (hu : (u : Int) + m.toInt ≤ (sI r 21 8).toInt) :
    RR G T (ph1 φ n (sN c)) (n + 1) (u + m.toNatClampNeg) (pQ c (rowD (sD c) (sN c) k m) (sN c + 2) (sU c + 2 + m.toNatClampNeg)) (thR r n u k m q) := by
  refine nw_row h (f := fun _ => 0) (C := sB r 26) (q := q) k1 k2 hm hn hu (fun _ _ => rfl) (fun i _ => ⟨(h.rt.1 (u + i) (Nat.le_add_right _ _)).symm, fun _ => kp0⟩) ?_ ?_ ?_
  · unfold rowD; rw [if_pos rfl]
  · unfold rowD; rw [if_neg (by omega), if_pos rfl]
  · intro a g1 g2; unfold rowD; rw [if_neg g1, if_neg g2]
theorem nw_shl (h : RR G T φ n u c r) {k m q b : Int32} {f : Nat → Option Nat} {C : Nat → Int64} (hk : (k.toInt = 9 ∧ b = -1) ∨ (k.toInt = 10 ∧ 0 ≤ q.toInt ∧ q.toInt ≤ 4 ∧ b = q)) (hm : 0 ≤ m.toInt) (hn : (n : Int) + 1 ≤ (sI r 21 8).toInt) (hu : (u : Int) + m.toInt ≤ (sI r 21 8).toInt) (hC : ∀ j, (j < u ∨ u + m.toNatClampNeg ≤ j) → C j = sB r 26 j) (hf : ∀ i, i < m.toNatClampNeg → ∃ v, (v ≤ n ∧ LVE φ v) ∧ C (u + i) = lN v ∧ f i = po φ v ∧ (v = 0 ∨ gok (upd (sA r 22) (n + 1) k) (upd (sA r 25) (n + 1) q) v (n + 1))) {D : AH} (d1 : D (sN c) = some (.inl (7, [.inl b, .inr (.inr (some (sN c + 1)))]))) (d2 : D (sN c + 1) = some (.inr (.inr (.inr (m.toNatClampNeg, f))))) (d3 : ∀ a, a ≠ sN c → a ≠ sN c + 1 → D a = sD c a) :
    RR G T (ph1 φ n (sN c)) (n + 1) (u + m.toNatClampNeg) (pQ c D (sN c + 2) (sU c + 2 + m.toNatClampNeg)) (pB (thR r n u k m q) 26 C) := by
  have hb := h.bnd
  have ez := tz_row (k := k) (m := m) (by omega)
  have ew := tw_row (k := k) (by omega)
  have := h.new (k := k) (m := m) (q := q) (D := D) (C := C) (U := sU c + 2 + m.toNatClampNeg) hn (by rw [ez, tn_eq]; omega) (fun a ha => d3 a (by omega) (by omega)) (by rw [ez]; exact hC) (by rw [ez]; exact Nat.le_refl _) (by
    refine Or.inr (Or.inl ?_)
    unfold Tb
    rw [upS, upS, upS, upS, ph1_s, nN (by omega)]
    refine ⟨hm, ⟨b, d1, hk⟩, f, d2, fun i hi => ?_⟩
    obtain ⟨v, a1, a2, a3, a4⟩ := hf i hi
    exact ⟨v, LVE.tr a1 (ph1_ex φ n (sN c)), a2, a3.trans (po_cg (ph1_ex φ n (sN c)).2 a1.1).symm, a4⟩)
  rw [ez, ew] at this
  exact this
theorem nw_shl0 (h : RR G T φ n u c r) {k m q b : Int32} (hk : (k.toInt = 9 ∧ b = -1) ∨ (k.toInt = 10 ∧ 0 ≤ q.toInt ∧ q.toInt ≤ 4 ∧ b = q)) (hm : 0 ≤ m.toInt) (hn : (n : Int) + 1 ≤ (sI r 21 8).toInt) (hu : (u : Int) + m.toInt ≤ (sI r 21 8).toInt) :
    RR G T (ph1 φ n (sN c)) (n + 1) (u + m.toNatClampNeg) (pQ c (shlD (sD c) (sN c) b m) (sN c + 2) (sU c + 2 + m.toNatClampNeg)) (thR r n u k m q) := by
  refine nw_shl h (f := fun _ => none) (C := sB r 26) (q := q) hk hm hn hu (fun _ _ => rfl) (fun i _ => ⟨0, ⟨Nat.zero_le _, LVE.z _⟩, h.rt.1 (u + i) (Nat.le_add_right _ _), rfl, Or.inl rfl⟩) ?_ ?_ ?_
  · unfold shlD; rw [if_pos rfl]
  · unfold shlD; rw [if_neg (by omega), if_pos rfl]
  · intro a g1 g2; unfold shlD; rw [if_neg g1, if_neg g2]
theorem nw_prt (h : RR G T φ n u c r) {k m q b : Int32} (k1 : 11 ≤ k.toInt) (k2 : k.toInt ≤ 15) (hk : k - 11 = b) (hn : (n : Int) + 1 ≤ (sI r 21 8).toInt) (hu : (u : Int) + 4 ≤ (sI r 21 8).toInt) :
    RR G T (ph1 φ n (sN c)) (n + 1) (u + 4) (pQ c (prtD (sD c) (sN c) b) (sN c + 1) (sU c + 5)) (thR r n u k m q) := by
  have hb := h.bnd
  have ez : tsz k m = 4 := by unfold tsz; rw [if_neg (by omega), if_pos k1]
  have ew : twd k = 1 := if_neg (by omega)
  have z : ∀ i, sB r 26 (u + i) = 0 := fun i => h.rt.1 (u + i) (Nat.le_add_right _ _)
  have := h.new (k := k) (m := m) (q := q) (D := prtD (sD c) (sN c) b) (C := sB r 26) (U := sU c + 5) hn (by rw [ez]; omega) (fun a ha => hupN (by omega)) (fun _ _ => rfl) (by rw [ez]; omega) (by
    refine Or.inr (Or.inr (Or.inl ?_))
    unfold Tc
    rw [upS, upS, ph1_s, nN (by omega), hk]
    exact ⟨k1, k2, 0, 0, 0, 0, hupS, z 0, z 1, kp0, z 2, z 3, ⟨Nat.zero_le _, LVE.z _⟩, Or.inl rfl⟩)
  rw [ez, ew] at this
  exact this
theorem nw_trb (h : RR G T φ n u c r) {m q v : Int32} (hn : (n : Int) + 1 ≤ (sI r 21 8).toInt) (hu : (u : Int) + 1 ≤ (sI r 21 8).toInt) :
    RR G T (ph1 φ n (sN c)) (n + 1) (u + 1) (pQ c (trbD (sD c) (sN c) v) (sN c + 1) (sU c + 1)) (pB (thR r n u 16 m q) 26 (vp_updL (sB r 26) u v.toInt64)) := by
  have hb := h.bnd
  have ez : tsz 16 m = 1 := rfl
  have ew : twd 16 = 1 := rfl
  have := h.new (k := 16) (m := m) (q := q) (D := trbD (sD c) (sN c) v) (C := vp_updL (sB r 26) u v.toInt64) (U := sU c + 1) hn (by rw [ez]; omega) (fun a ha => hupN (by omega)) (fun j hj => by rw [ez] at hj; unfold vp_updL; rw [if_neg (by omega)]) (by rw [ez]; omega) (by
    refine Or.inr (Or.inr (Or.inr ?_))
    unfold Td
    rw [upS, upS, ph1_s, nN (by omega)]
    exact ⟨rfl, v, hupS, by unfold vp_updL; rw [if_pos rfl]⟩)
  rw [ez, ew] at this
  exact this
end NW
