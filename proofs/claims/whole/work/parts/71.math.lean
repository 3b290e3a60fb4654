/-! what is left: the mathematics of one call -/
def MATH : Prop := ∀ (N : Nat) (xs : Nat → Int32), N ≤ 3072 → ∃ (R : Nat → St → Prop) (fu : Nat), LawOK R N xs fu ∧ R 512 (st0 (hgv0 N xs))
theorem law_X (hM : MATH) {L : Nat} {xs : Nat → Int32} (hL : L ≤ 3072) : X m_L_law 1000 0 (entL 8 [.inr (.inr (some am_sc))]) [] (hgv0 L xs, 0, 0) QT := by
  obtain ⟨R, fu, hR, h0⟩ := hM L xs hL
  have e0 : ((0 : Int32).toInt) = 0 := rfl
  exact l_start (l_loop hR hL 512 _ 0 h0 (by omega) (by omega) (by omega))
/-! reads of states that were written -/
section SW
variable (s : St) (a b k j n u : Nat) (v : Int32) (w : Int64) (f : Nat → Int32) (g : Nat → Int64) (h : Nat → Option Nat) (D : AH)
theorem sI_pI : sI (pI s a k v) b j = if b = a then (if j = k then v else sI s b j) else sI s b j := rfl
theorem sI_pG : sI (pG s a k w) b j = sI s b j := rfl
theorem sI_pA : sI (pA s a f) b j = sI s b j := rfl
theorem sI_pB : sI (pB s a g) b j = sI s b j := rfl
theorem sI_pT : sI (pT s a h) b j = sI s b j := rfl
theorem sI_pQ : sI (pQ s D n u) b j = sI s b j := rfl
theorem sG_pI : sG (pI s a k v) b j = sG s b j := rfl
theorem sG_pG : sG (pG s a k w) b j = if b = a then (if j = k then w else sG s b j) else sG s b j := rfl
theorem sG_pA : sG (pA s a f) b j = sG s b j := rfl
theorem sG_pB : sG (pB s a g) b j = sG s b j := rfl
theorem sG_pT : sG (pT s a h) b j = sG s b j := rfl
theorem sG_pQ : sG (pQ s D n u) b j = sG s b j := rfl
theorem sA_pI : sA (pI s a k v) b = sA s b := rfl
theorem sA_pG : sA (pG s a k w) b = sA s b := rfl
theorem sA_pA : sA (pA s a f) b = if b = a then f else sA s b := rfl
theorem sA_pB : sA (pB s a g) b = sA s b := rfl
theorem sA_pT : sA (pT s a h) b = sA s b := rfl
theorem sA_pQ : sA (pQ s D n u) b = sA s b := rfl
theorem sB_pI : sB (pI s a k v) b = sB s b := rfl
theorem sB_pG : sB (pG s a k w) b = sB s b := rfl
theorem sB_pA : sB (pA s a f) b = sB s b := rfl
theorem sB_pB : sB (pB s a g) b = if b = a then g else sB s b := rfl
theorem sB_pT : sB (pT s a h) b = sB s b := rfl
theorem sB_pQ : sB (pQ s D n u) b = sB s b := rfl
theorem sT_pI : sT (pI s a k v) b = sT s b := rfl
theorem sT_pG : sT (pG s a k w) b = sT s b := rfl
theorem sT_pA : sT (pA s a f) b = sT s b := rfl
theorem sT_pB : sT (pB s a g) b = sT s b := rfl
theorem sT_pT : sT (pT s a h) b = if b = a then h else sT s b := rfl
theorem sT_pQ : sT (pQ s D n u) b = sT s b := rfl
theorem sD_pI : sD (pI s a k v) = sD s := rfl
theorem sD_pG : sD (pG s a k w) = sD s := rfl
theorem sD_pA : sD (pA s a f) = sD s := rfl
theorem sD_pB : sD (pB s a g) = sD s := rfl
theorem sD_pT : sD (pT s a h) = sD s := rfl
theorem sD_pQ : sD (pQ s D n u) = D := rfl
theorem sN_pI : sN (pI s a k v) = sN s := rfl
theorem sN_pG : sN (pG s a k w) = sN s := rfl
theorem sN_pA : sN (pA s a f) = sN s := rfl
theorem sN_pB : sN (pB s a g) = sN s := rfl
theorem sN_pT : sN (pT s a h) = sN s := rfl
theorem sN_pQ : sN (pQ s D n u) = n := rfl
theorem sU_pI : sU (pI s a k v) = sU s := rfl
theorem sU_pG : sU (pG s a k w) = sU s := rfl
theorem sU_pA : sU (pA s a f) = sU s := rfl
theorem sU_pB : sU (pB s a g) = sU s := rfl
theorem sU_pT : sU (pT s a h) = sU s := rfl
theorem sU_pQ : sU (pQ s D n u) = u := rfl
end SW
/-! integers -/
theorem z0 : ((0 : Int32).toInt) = 0 := rfl
theorem tn_eq (x : Int32) : x.toNatClampNeg = x.toInt.toNat := rfl
theorem i_addn {x : Int32} (k : Nat) (h1 : 0 ≤ x.toInt) (h2 : x.toInt + k ≤ 2147483647) (hk : k ≤ 2147483647) : (x + Int32.ofNat k).toInt = x.toInt + k := by
  have := i_add (x := x) (k : Int) (by omega) (by omega) (by omega) (by omega)
  exact this
theorem vp_of {x : Int32} {n : Nat} (h1 : 0 ≤ x.toInt) (h2 : x.toInt < n) : vp_in x n := by
  rintro (h | h)
  · rw [Int32.lt_iff_toInt_lt, z0] at h
    omega
  · rw [tn_eq] at h
    omega
theorem c1_lt (x : Int32) : cn1 .lt x = decide (x.toInt < 0) := by unfold cn1; simp only [Int32.lt_iff_toInt_lt]; rfl
theorem c1_ge (x : Int32) : cn1 .ge x = decide (0 ≤ x.toInt) := by unfold cn1; simp only [Int32.le_iff_toInt_le]; rfl
theorem c1_gt (x : Int32) : cn1 .gt x = decide (0 < x.toInt) := by unfold cn1; simp only [Int32.lt_iff_toInt_lt]; rfl
theorem c1_le (x : Int32) : cn1 .le x = decide (x.toInt ≤ 0) := by unfold cn1; simp only [Int32.le_iff_toInt_le]; rfl
theorem c1_eq (x : Int32) : cn1 .eq x = decide (x.toInt = 0) := by unfold cn1; simp only [← Int32.toInt_inj]; rfl
theorem c1_ne (x : Int32) : cn1 .ne x = decide (¬ x.toInt = 0) := by unfold cn1; simp only [← Int32.toInt_inj]; rfl
theorem c2_lt (x y : Int32) : cn2 .lt x y = decide (x.toInt < y.toInt) := by unfold cn2; simp only [Int32.lt_iff_toInt_lt]
theorem c2_ge (x y : Int32) : cn2 .ge x y = decide (y.toInt ≤ x.toInt) := by unfold cn2; simp only [Int32.le_iff_toInt_le]
theorem c2_gt (x y : Int32) : cn2 .gt x y = decide (y.toInt < x.toInt) := by unfold cn2; simp only [Int32.lt_iff_toInt_lt]
theorem c2_le (x y : Int32) : cn2 .le x y = decide (x.toInt ≤ y.toInt) := by unfold cn2; simp only [Int32.le_iff_toInt_le]
theorem c2_eq (x y : Int32) : cn2 .eq x y = decide (x.toInt = y.toInt) := by unfold cn2; simp only [← Int32.toInt_inj]
theorem c2_ne (x y : Int32) : cn2 .ne x y = decide (¬ x.toInt = y.toInt) := by unfold cn2; simp only [← Int32.toInt_inj]
theorem cd_t {α : Type} {p : Prop} [Decidable p] (h : p) (x y : α) : cond (decide p) x y = x := by rw [decide_eq_true h]; rfl
theorem cd_f {α : Type} {p : Prop} [Decidable p] (h : ¬ p) (x y : α) : cond (decide p) x y = y := by rw [decide_eq_false h]; rfl
/-! frames: what a call of the class leaves of the reference, and the other way -/
def mE (s s' : St) : Prop := ∀ a, 21 ≤ a → (∀ k, sI s' a k = sI s a k) ∧ (∀ k, sG s' a k = sG s a k) ∧ sA s' a = sA s a ∧ sB s' a = sB s a ∧ sT s' a = sT s a
def cE (s s' : St) : Prop := (∀ a, a < 21 ∨ a = 36 → (∀ k, sI s' a k = sI s a k) ∧ (∀ k, sG s' a k = sG s a k) ∧ sA s' a = sA s a ∧ sB s' a = sB s a ∧ sT s' a = sT s a) ∧ sD s' = sD s ∧ sN s' = sN s ∧ sU s' = sU s
theorem mE.rf (s : St) : mE s s := fun _ _ => ⟨fun _ => rfl, fun _ => rfl, rfl, rfl, rfl⟩
theorem cE.rf (s : St) : cE s s := ⟨fun _ _ => ⟨fun _ => rfl, fun _ => rfl, rfl, rfl, rfl⟩, rfl, rfl, rfl⟩
theorem mE.tr {s t u : St} (h1 : mE s t) (h2 : mE t u) : mE s u := fun a ha => by
  obtain ⟨a1, a2, a3, a4, a5⟩ := h1 a ha
  obtain ⟨b1, b2, b3, b4, b5⟩ := h2 a ha
  exact ⟨fun k => (b1 k).trans (a1 k), fun k => (b2 k).trans (a2 k), b3.trans a3, b4.trans a4, b5.trans a5⟩
theorem cE.tr {s t u : St} (h1 : cE s t) (h2 : cE t u) : cE s u := ⟨fun a ha => by
  obtain ⟨a1, a2, a3, a4, a5⟩ := h1.1 a ha
  obtain ⟨b1, b2, b3, b4, b5⟩ := h2.1 a ha
  exact ⟨fun k => (b1 k).trans (a1 k), fun k => (b2 k).trans (a2 k), b3.trans a3, b4.trans a4, b5.trans a5⟩, h2.2.1.trans h1.2.1, h2.2.2.1.trans h1.2.2.1, h2.2.2.2.trans h1.2.2.2⟩
theorem mE_pI (s : St) {a : Nat} (k : Nat) (v : Int32) (h : a < 21) : mE s (pI s a k v) := fun b hb => ⟨fun j => if_neg (by omega), fun _ => rfl, rfl, rfl, rfl⟩
theorem mE_pA (s : St) {a : Nat} (f : Nat → Int32) (h : a < 21) : mE s (pA s a f) := fun b hb => ⟨fun _ => rfl, fun _ => rfl, if_neg (by omega), rfl, rfl⟩
theorem mE_pB (s : St) {a : Nat} (f : Nat → Int64) (h : a < 21) : mE s (pB s a f) := fun b hb => ⟨fun _ => rfl, fun _ => rfl, rfl, if_neg (by omega), rfl⟩
theorem mE_pT (s : St) {a : Nat} (f : Nat → Option Nat) (h : a < 21) : mE s (pT s a f) := fun b hb => ⟨fun _ => rfl, fun _ => rfl, rfl, rfl, if_neg (by omega)⟩
theorem mE_pQ (s : St) (D : AH) (n u : Nat) : mE s (pQ s D n u) := fun b hb => ⟨fun _ => rfl, fun _ => rfl, rfl, rfl, rfl⟩
theorem cE_pI (s : St) {a : Nat} (k : Nat) (v : Int32) (h : 21 ≤ a ∧ a < 36) : cE s (pI s a k v) := ⟨fun b hb => ⟨fun j => if_neg (by omega), fun _ => rfl, rfl, rfl, rfl⟩, rfl, rfl, rfl⟩
theorem cE_pG (s : St) {a : Nat} (k : Nat) (v : Int64) (h : 21 ≤ a ∧ a < 36) : cE s (pG s a k v) := ⟨fun b hb => ⟨fun _ => rfl, fun j => if_neg (by omega), rfl, rfl, rfl⟩, rfl, rfl, rfl⟩
theorem cE_pA (s : St) {a : Nat} (f : Nat → Int32) (h : 21 ≤ a ∧ a < 36) : cE s (pA s a f) := ⟨fun b hb => ⟨fun _ => rfl, fun _ => rfl, if_neg (by omega), rfl, rfl⟩, rfl, rfl, rfl⟩
theorem cE_pB (s : St) {a : Nat} (f : Nat → Int64) (h : 21 ≤ a ∧ a < 36) : cE s (pB s a f) := ⟨fun b hb => ⟨fun _ => rfl, fun _ => rfl, rfl, if_neg (by omega), rfl⟩, rfl, rfl, rfl⟩
