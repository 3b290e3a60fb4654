/-! results of methods that leave the heap as it is -/
def b2i (b : Bool) : Int32 := cond b 1 0
theorem b2i_01 (b : Bool) : b2i b = 0 ∨ b2i b = 1 := by cases b <;> simp [b2i]
def qI (P : AP) (v : Int32) : Option AV → AP → Prop := fun r P1 => r = some (.inl v) ∧ P1 = P
def qL (P : AP) (v : Int64) : Option AV → AP → Prop := fun r P1 => r = some (.inr (.inl v)) ∧ P1 = P
def qB (P : AP) (v : Bool) : Option AV → AP → Prop := fun r P1 => r = some (.inl (b2i v)) ∧ P1 = P
theorem X_brq {α : Type} {m : MI} {d : Nat} {P : AP} {q : α → Option AV → AP → Prop} {b : Bool} {t f : Nat} {L : AL} {st : List AV} {v w : α} (kt : b = true → X m d t L st P (q v)) (kf : b = false → X m d f L st P (q w)) : X m d (cond b t f) L st P (q (cond b v w)) := by
  cases b with
  | true => exact kt rfl
  | false => exact kf rfl
theorem X_mono {m : MI} {d i : Nat} {L : AL} {st : List AV} {P : AP} {Q Q1 : Option AV → AP → Prop} (h : X m d i L st P Q) (hQ : ∀ r P1, Q r P1 → Q1 r P1) : X m d i L st P Q1 := by
  intro hok p l e R s mid args below meth c D rt B n0 u0 hC hL ls H locs hH hl hS
  intro T hT X0
  obtain ⟨t, a1, o, b1, b2, ⟨r, P1, c1, c2⟩, b4⟩ := h hok p l e R s mid args below meth c D rt B n0 u0 hC hL ls H locs hH hl hS T hT X0
  exact ⟨t, a1, o, b1, b2, ⟨r, P1, hQ r P1 c1, c2⟩, b4⟩
theorem X_itq {α : Type} {m : MI} {d i : Nat} {P : AP} {q : α → Option AV → AP → Prop} {c : Prop} [Decidable c] {L : AL} {st : List AV} {v w : α} (kt : c → X m d i L st P (q v)) (kf : ¬ c → X m d i L st P (q w)) : X m d i L st P (q (if c then v else w)) := by
  by_cases h : c
  · rw [if_pos h]; exact kt h
  · rw [if_neg h]; exact kf h
section XS
variable {m : MI} {d i : Nat} {L : AL} {st : List AV} {P : AP} {Q : Option AV → AP → Prop} {pc : Nat} {ps : List Nat}
theorem X_tsk {x k : Int32} {dd lo hi : Int} {ts : Array Int} {t : Nat} (hq : (mi_cd m)[i]? = some (pc, .tableswitch dd lo hi ts, ps)) (hx : x = k) (ht : sw_t dd lo hi ts k = some t) (kk : X m d t L st P Q) : X m d i L (.inl x :: st) P Q := by
  subst hx
  exact X_pure hq (show (sw_t dd lo hi ts x).map (fun t => (t, L, st)) = some (t, L, st) by rw [ht]; rfl) kk
theorem X_tsd {x : Int32} {dd lo hi : Int} {ts : Array Int} (hq : (mi_cd m)[i]? = some (pc, .tableswitch dd lo hi ts, ps)) (hx : x.toInt < lo ∨ hi < x.toInt) (kk : X m d dd.toNat L st P Q) : X m d i L (.inl x :: st) P Q :=
  X_pure hq (show (sw_t dd lo hi ts x).map (fun t => (t, L, st)) = some (dd.toNat, L, st) by unfold sw_t; rw [if_pos hx]; rfl) kk
theorem X_lsk {x : Int32} {dd : Int} {qs : Array (Int × Int)} {t : Nat} (hq : (mi_cd m)[i]? = some (pc, .lookupswitch dd qs, ps)) (ht : sw_l dd qs.toList x = t) (kk : X m d t L st P Q) : X m d i L (.inl x :: st) P Q :=
  X_pure hq (show some (sw_l dd qs.toList x, L, st) = some (t, L, st) by rw [ht]) kk
theorem sw_out {x : Int32} (lo : Int) (n : Nat) (h1 : -2147483648 ≤ lo) (h2 : lo + n ≤ 2147483648) (h : ∀ j : Nat, j < n → ¬ x = Int32.ofInt (lo + j)) : x.toInt < lo ∨ lo + n ≤ x.toInt := by
  by_cases a : x.toInt < lo
  · exact Or.inl a
  · by_cases b : lo + n ≤ x.toInt
    · exact Or.inr b
    · exfalso
      refine h (x.toInt - lo).toNat (by omega) ?_
      rw [show lo + ((x.toInt - lo).toNat : Int) = x.toInt by omega]
      exact (Int32.ofInt_toInt x).symm
theorem sw_ne {x k : Int32} {a t dd : Int} {r : List (Int × Int)} (h : ¬ x = k) (hk : k.toInt = a) : sw_l dd ((a, t) :: r) x = sw_l dd r x := by
  show (if x.toInt = a then t.toNat else sw_l dd r x) = _
  rw [if_neg (fun q => h (Int32.toInt_inj.mp (by rw [hk]; exact q)))]
theorem sw_eq {x k : Int32} {a t dd : Int} {r : List (Int × Int)} (h : x = k) (hk : k.toInt = a) : sw_l dd ((a, t) :: r) x = t.toNat := by
  show (if x.toInt = a then t.toNat else sw_l dd r x) = _
  rw [if_pos (by rw [h]; exact hk)]
theorem X_ldiv {x y : Int64} (hq : (mi_cd m)[i]? = some (pc, .ldiv, ps)) (hy : ¬ y = 0) (kk : X m d (i + 1) L (.inr (.inl (x / y)) :: st) P Q) : X m d i L (.inr (.inl y) :: .inr (.inl x) :: st) P Q :=
  X_pure hq (show (o_lld (fun x y => x / y) (.inr (.inl y) :: .inr (.inl x) :: st)).map (fun s => (i + 1, L, s)) = some (i + 1, L, .inr (.inl (x / y)) :: st) by unfold o_lld; dsimp only; rw [if_neg hy]; rfl) kk
theorem X_lrem {x y : Int64} (hq : (mi_cd m)[i]? = some (pc, .lrem, ps)) (hy : ¬ y = 0) (kk : X m d (i + 1) L (.inr (.inl (x - x / y * y)) :: st) P Q) : X m d i L (.inr (.inl y) :: .inr (.inl x) :: st) P Q :=
  X_pure hq (show (o_lld (fun x y => x - x / y * y) (.inr (.inl y) :: .inr (.inl x) :: st)).map (fun s => (i + 1, L, s)) = some (i + 1, L, .inr (.inl (x - x / y * y)) :: st) by unfold o_lld; dsimp only; rw [if_neg hy]; rfl) kk
theorem X_idiv {x y : Int32} (hq : (mi_cd m)[i]? = some (pc, .idiv, ps)) (hy : ¬ y = 0) (kk : X m d (i + 1) L (.inl (x / y) :: st) P Q) : X m d i L (.inl y :: .inl x :: st) P Q :=
  X_pure hq (show (o_iid (fun x y => x / y) (.inl y :: .inl x :: st)).map (fun s => (i + 1, L, s)) = some (i + 1, L, .inl (x / y) :: st) by unfold o_iid; dsimp only; rw [if_neg hy]; rfl) kk
theorem X_irem {x y : Int32} (hq : (mi_cd m)[i]? = some (pc, .irem, ps)) (hy : ¬ y = 0) (kk : X m d (i + 1) L (.inl (x - x / y * y) :: st) P Q) : X m d i L (.inl y :: .inl x :: st) P Q :=
  X_pure hq (show (o_iid (fun x y => x - x / y * y) (.inl y :: .inl x :: st)).map (fun s => (i + 1, L, s)) = some (i + 1, L, .inl (x - x / y * y) :: st) by unfold o_iid; dsimp only; rw [if_neg hy]; rfl) kk
theorem cn1_eq_b2i (b : Bool) : cn1 .eq (b2i b) = !b := by cases b <;> decide
theorem cn1_ne_b2i (b : Bool) : cn1 .ne (b2i b) = b := by cases b <;> decide
end XS
/-! locals that are no longer known -/
def lmk : List Bool → AL → AL
  | true :: ks, v :: r => v :: lmk ks r
  | false :: ks, _ :: r => none :: lmk ks r
  | _, r => r
theorem lmk_len : ∀ (ks : List Bool) (L : AL), (lmk ks L).length = L.length
  | [], L => by cases L <;> rfl
  | true :: ks, [] => rfl
  | false :: ks, [] => rfl
  | true :: ks, v :: r => congrArg Nat.succ (lmk_len ks r)
  | false :: ks, v :: r => congrArg Nat.succ (lmk_len ks r)
theorem lmk_sub : ∀ (ks : List Bool) (L : AL) (i : Nat) (v : AV), (lmk ks L)[i]? = some (some v) → L[i]? = some (some v)
  | [], L, i, v, h => by cases L <;> exact h
  | true :: ks, [], i, v, h => h
  | false :: ks, [], i, v, h => h
  | true :: ks, w :: r, 0, v, h => h
  | true :: ks, w :: r, i + 1, v, h => lmk_sub ks r i v h
  | false :: ks, w :: r, 0, v, h => by cases h
  | false :: ks, w :: r, i + 1, v, h => lmk_sub ks r i v h
theorem X_mask (ks : List Bool) {m : MI} {d i : Nat} {L : AL} {st : List AV} {P : AP} {Q : Option AV → AP → Prop} (h : X m d i (lmk ks L) st P Q) : X m d i L st P Q := by
  intro hok p l e R s mid args below meth c D rt B n0 u0 hC hL ls H locs hH hl hS
  refine h hok p l e R s mid args below meth c D rt B n0 u0 hC (by rw [lmk_len]; exact hL) ls H locs hH (hl.mem ?_) hS
  rintro ⟨j, w⟩ hq
  obtain ⟨v, h1, h2⟩ := lps_mem.mp hq
  exact lps_mem.mpr ⟨v, lmk_sub ks L j v h1, h2⟩
