/-! THE RELATION between the class (state c) and the reference (state r); things by phi: number of the reference, address of the class -/
def R_tape (c r : St) : Prop := sI c 2 2 = sI r 21 23 ∧ 0 ≤ (sI r 21 23).toInt ∧ (sI r 21 23).toInt ≤ 2000 ∧ ∀ k : Nat, (k : Int) < (sI r 21 23).toInt → sA r 32 k = sA c 3 k &&& 255
def R_out (c r : St) : Prop := sI c 2 3 = sI r 21 24 ∧ 0 ≤ (sI r 21 24).toInt ∧ (sI r 21 24).toInt ≤ 2000 ∧ ∀ k : Nat, (k : Int) < (sI r 21 24).toInt → sA r 33 k = sA c 4 k &&& 255
def R_num (c r : St) : Prop := (∀ k, k < 8 → sA c 9 k = sA r 28 k) ∧ ∀ k, k < 4 → sB c 10 k = sB r 29 k ∧ f_M_kept (sB r 29 k) = sB r 29 k
def R_led (c r : St) : Prop := sI c 1 0 = sI r 21 8 ∧ 0 ≤ (sI r 21 8).toInt ∧ (sI r 21 8).toInt ≤ 40000 ∧ sI c 1 1 = sI r 21 15 ∧ (sI r 21 15 = 0 ∨ sI r 21 15 = 1)
def R_last (c r : St) : Prop := sI c 0 5 = sI r 21 13 ∧ sI c 0 6 = sI r 21 14 ∧ sI c 0 7 = sI r 21 11
def rkind (r : St) (t : Nat) : Int := (sA r 22 t).toInt
def rstart (r : St) (t : Nat) : Nat := (sA r 23 t).toInt.toNat
def rmany (r : St) (t : Nat) : Nat := (sA r 24 t).toInt.toNat
def po (φ : Nat → Nat) (v : Nat) : Option Nat := if v = 0 then none else some (φ v)
def rsz (r : St) (t : Nat) : Nat := if rkind r t = 16 then 1 else if 11 ≤ rkind r t then 4 else rmany r t
def rwd (r : St) (t : Nat) : Nat := if rkind r t ≤ 10 then 2 else 1
def TH1 (φ : Nat → Nat) (D : AH) (r : St) (t : Nat) : Prop := 1 ≤ rkind r t ∧ rkind r t ≤ 8 ∧ D (φ t) = some (.inl (6, [.inl (sA r 22 t), .inr (.inr (some (φ t + 1)))])) ∧ ∃ f, D (φ t + 1) = some (.inr (.inr (.inl (rmany r t, f)))) ∧ ∀ i, i < rmany r t → f i = sB r 26 (rstart r t + i) ∧ f_Ro_narrowed (sA r 22 t) (f i) = f i
def goesOK (r : St) (v t : Nat) : Prop := (rkind r t = 9 ∧ rkind r v = 4) ∨ (rkind r t = 10 ∧ 11 ≤ rkind r v ∧ rkind r v ≤ 15 ∧ f_M_isBelow (sA r 22 v - 11) (sA r 25 t) = true)
def TH2 (φ : Nat → Nat) (n : Nat) (D : AH) (r : St) (t : Nat) : Prop := ((rkind r t = 9 ∧ D (φ t) = some (.inl (7, [.inl (-1), .inr (.inr (some (φ t + 1)))]))) ∨ (rkind r t = 10 ∧ 0 ≤ (sA r 25 t).toInt ∧ (sA r 25 t).toInt ≤ 4 ∧ D (φ t) = some (.inl (7, [.inl (sA r 25 t), .inr (.inr (some (φ t + 1)))])))) ∧ ∃ f, D (φ t + 1) = some (.inr (.inr (.inr (rmany r t, f)))) ∧ ∀ i, i < rmany r t → ∃ v, v ≤ n ∧ sB r 26 (rstart r t + i) = Int64.ofNat v ∧ f i = po φ v ∧ (v = 0 ∨ goesOK r v t)
def TH3 (φ : Nat → Nat) (n : Nat) (D : AH) (r : St) (t : Nat) : Prop := 11 ≤ rkind r t ∧ rkind r t ≤ 15 ∧ ∃ (q p : Int32) (w : Int64) (v : Nat), D (φ t) = some (.inl (4, [.inl (sA r 22 t - 11), .inl q, .inr (.inl w), .inl p, .inr (.inr (po φ v))])) ∧ sB r 26 (rstart r t) = q.toInt64 ∧ sB r 26 (rstart r t + 1) = w ∧ f_M_kept w = w ∧ sB r 26 (rstart r t + 2) = p.toInt64 ∧ sB r 26 (rstart r t + 3) = Int64.ofNat v ∧ v ≤ n ∧ (v = 0 ∨ rkind r v = 10)
def TH4 (φ : Nat → Nat) (D : AH) (r : St) (t : Nat) : Prop := rkind r t = 16 ∧ ∃ q : Int32, D (φ t) = some (.inl (8, [.inl q])) ∧ sB r 26 (rstart r t) = q.toInt64
def TH (φ : Nat → Nat) (n : Nat) (D : AH) (r : St) (t : Nat) : Prop := TH1 φ D r t ∨ TH2 φ n D r t ∨ TH3 φ n D r t ∨ TH4 φ D r t
/-- n things, u cells used -/
def R_th (φ : Nat → Nat) (n u : Nat) (c r : St) : Prop :=
  (sI r 21 6).toInt = n ∧ (sI r 21 7).toInt = u ∧ (n : Int) ≤ (sI r 21 8).toInt ∧ (u : Int) ≤ (sI r 21 8).toInt ∧ sA r 22 0 = 0 ∧ sA r 24 0 = 0 ∧
  (∀ t, 1 ≤ t → t ≤ n → TH φ n (sD c) r t ∧ 0 ≤ (sA r 23 t).toInt ∧ 0 ≤ (sA r 24 t).toInt ∧ rstart r t + rsz r t ≤ u ∧ 37 ≤ φ t ∧ φ t + rwd r t ≤ sN c) ∧
  (∀ t t', 1 ≤ t → t < t' → t' ≤ n → rstart r t + rsz r t ≤ rstart r t' ∧ φ t + rwd r t ≤ φ t')
def R_sl (φ : Nat → Nat) (n : Nat) (c r : St) : Prop := ∀ k, k < 16 → ∃ v, v ≤ n ∧ sA r 27 k = Int32.ofNat v ∧ sT c 11 k = po φ v
def R_giv (N : Nat) (xs : Nat → Int32) (c : St) : Prop := isS N xs c ∧ isG (sD c)
/-- t things thrown so far -/
def R_room (n t : Nat) (c r : St) : Prop := t ≤ 512 ∧ sN c ≤ 37 + 2 * n + t ∧ (sU c : Int) ≤ 224162 + 8 * (sI r 21 8).toInt + 6 * t ∧ 37 ≤ sN c
/-! the simple calls -/
theorem p_end {c r : St} (h : R_tape c r) (a : Int32) : (f_H_end c a).1 = (f_M_end r a).1 ∧ R_tape (f_H_end c a).2 (f_M_end r a).2 := by
  obtain ⟨h1, h2, h3, h4⟩ := h
  unfold f_H_end f_M_end
  rw [h1, c1_lt, c2_le]
  by_cases g1 : a.toInt < 0
  · rw [cd_t g1, cd_t g1]
    exact ⟨rfl, h1, h2, h3, h4⟩
  · rw [cd_f g1, cd_f g1]
    by_cases g2 : a.toInt ≤ (sI r 21 23).toInt
    · rw [cd_t g2, cd_t g2]
      refine ⟨rfl, rfl, ?_, ?_, ?_⟩
      · show 0 ≤ a.toInt
        omega
      · show a.toInt ≤ 2000
        omega
      · intro k hk
        have hk : (k : Int) < a.toInt := hk
        exact h4 k (by omega)
    · rw [cd_f g2, cd_f g2]
      exact ⟨rfl, h1, h2, h3, h4⟩
