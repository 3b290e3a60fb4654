/-! THE FIXED OBJECTS: house, ledger, form .. reference, the law's long[1], by their addresses; state s, heap hp s -/
abbrev St : Type := (Nat → Nat → Int32) × (Nat → Nat → Int64) × (Nat → Nat → Int32) × (Nat → Nat → Int64) × (Nat → Nat → Option Nat) × AH × Nat × Nat
def sI (s : St) : Nat → Nat → Int32 := s.1
def sG (s : St) : Nat → Nat → Int64 := s.2.1
def sA (s : St) : Nat → Nat → Int32 := s.2.2.1
def sB (s : St) : Nat → Nat → Int64 := s.2.2.2.1
def sT (s : St) : Nat → Nat → Option Nat := s.2.2.2.2.1
def sD (s : St) : AH := s.2.2.2.2.2.1
def sN (s : St) : Nat := s.2.2.2.2.2.2.1
def sU (s : St) : Nat := s.2.2.2.2.2.2.2
def up2 {α : Type} (f : Nat → Nat → α) (a k : Nat) (v : α) : Nat → Nat → α := fun b j => if b = a then (if j = k then v else f b j) else f b j
def up1 {α : Type} (f : Nat → α) (a : Nat) (v : α) : Nat → α := fun b => if b = a then v else f b
def pI (s : St) (a k : Nat) (v : Int32) : St := (up2 s.1 a k v, s.2)
def pG (s : St) (a k : Nat) (v : Int64) : St := (s.1, up2 s.2.1 a k v, s.2.2)
def pA (s : St) (a : Nat) (f : Nat → Int32) : St := (s.1, s.2.1, up1 s.2.2.1 a f, s.2.2.2)
def pB (s : St) (a : Nat) (f : Nat → Int64) : St := (s.1, s.2.1, s.2.2.1, up1 s.2.2.2.1 a f, s.2.2.2.2)
def pT (s : St) (a : Nat) (f : Nat → Option Nat) : St := (s.1, s.2.1, s.2.2.1, s.2.2.2.1, up1 s.2.2.2.2.1 a f, s.2.2.2.2.2)
/-- what lies at an address: an object (class, kinds of its fields: 0 int, 1 long, r + 2 the reference r), an array -/
abbrev Ly : Type := (Nat × List Nat) ⊕ ((Nat × Nat) ⊕ (Nat ⊕ Nat))
def lay : List Ly := [
  .inl (9, [3, 4, 7, 10, 14, 0, 0, 0]), .inl (2, [0, 0, 0, 0, 0, 0]), .inl (1, [5, 6, 0, 0, 3, 0, 0, 0]), .inr (.inl (1, 2000)), .inr (.inl (1, 2000)),
  .inl (5, [8, 9]), .inr (.inl (1, 3200)), .inr (.inl (0, 16)),
  .inl (3, [11, 12, 13, 8, 3, 0]), .inr (.inl (0, 8)), .inr (.inr (.inl 4)), .inr (.inr (.inr 16)),
  .inl (0, [7, 8, 10, 3, 15, 16, 17, 18, 19, 20, 21, 22, 0, 0]), .inr (.inl (0, 132)), .inr (.inl (0, 132)), .inr (.inl (0, 132)), .inr (.inl (0, 132)), .inr (.inl (0, 132)), .inr (.inl (0, 132)), .inr (.inr (.inr 2112)), .inr (.inr (.inr 2112)),
  .inl (10, [0, 24, 25, 26, 27, 28, 0, 0, 0, 0, 0, 0, 0, 0, 0, 0, 29, 30, 31, 32, 33, 34, 35, 0, 0, 0, 0, 36, 37, 1, 0, 0]),
  .inr (.inl (0, 40001)), .inr (.inl (0, 40001)), .inr (.inl (0, 40001)), .inr (.inl (0, 40001)), .inr (.inr (.inl 40001)), .inr (.inl (0, 16)), .inr (.inl (0, 8)), .inr (.inr (.inl 4)), .inr (.inl (0, 3200)), .inr (.inl (0, 16)), .inr (.inl (0, 2000)), .inr (.inl (0, 2000)), .inr (.inl (0, 2288)), .inr (.inl (0, 2288)),
  .inr (.inr (.inl 1))]
def vk (s : St) (a k c : Nat) : AV := match c with
  | 0 => .inl (sI s a k)
  | 1 => .inr (.inl (sG s a k))
  | r + 2 => .inr (.inr (some r))
def vl (s : St) (a : Nat) : Nat → List Nat → List AV
  | _, [] => []
  | k, c :: cs => vk s a k c :: vl s a (k + 1) cs
def fx (s : St) (a : Nat) : Option AE := match lay[a]? with
  | some (.inl (ci, ks)) => some (.inl (ci, vl s a 0 ks))
  | some (.inr (.inl (t, n))) => some (.inr (.inl (t, n, sA s a)))
  | some (.inr (.inr (.inl n))) => some (.inr (.inr (.inl (n, sB s a))))
  | some (.inr (.inr (.inr n))) => some (.inr (.inr (.inr (n, sT s a))))
  | none => none
def hp (s : St) : AP := (fun q => if q < 37 then fx s q else sD s q, sN s, sU s)
theorem lay_len : lay.length = 37 := by decide
theorem hp_fx {s : St} {a : Nat} {y : Ly} (h : lay[a]? = some y) : (hp s).1 a = fx s a := if_pos (by have := (List.getElem?_eq_some_iff.mp h).1; rw [lay_len] at this; exact this)
theorem vl_get (s : St) (a : Nat) : ∀ (ks : List Nat) (k0 k : Nat), (vl s a k0 ks)[k]? = (ks[k]?).map (vk s a (k0 + k))
  | [], _, k => by cases k <;> rfl
  | c :: cs, k0, 0 => rfl
  | c :: cs, k0, k + 1 => by
    show (vl s a (k0 + 1) cs)[k]? = (cs[k]?).map (vk s a (k0 + (k + 1)))
    rw [vl_get s a cs (k0 + 1) k, show k0 + 1 + k = k0 + (k + 1) by omega]
theorem hp_obj {s : St} {a ci : Nat} {ks : List Nat} (h : lay[a]? = some (.inl (ci, ks))) : (hp s).1 a = some (.inl (ci, vl s a 0 ks)) := by rw [hp_fx h]; unfold fx; rw [h]
theorem fx_other {s s' : St} {a : Nat} (hI : ∀ k, sI s' a k = sI s a k) (hG : ∀ k, sG s' a k = sG s a k) (hA : sA s' a = sA s a) (hB : sB s' a = sB s a) (hT : sT s' a = sT s a) : fx s' a = fx s a := by
  have hv : ∀ k c, vk s' a k c = vk s a k c := by
    intro k c
    unfold vk
    split
    · rw [hI]
    · rw [hG]
    · rfl
  have hl : ∀ ks k0, vl s' a k0 ks = vl s a k0 ks := by
    intro ks
    induction ks with
    | nil => intro k0; rfl
    | cons c cs ih => intro k0; show vk s' a k0 c :: vl s' a (k0 + 1) cs = _; rw [hv, ih]; rfl
  unfold fx
  rw [hA, hB, hT]
  simp only [hl]
theorem up2_ne {α : Type} {f : Nat → Nat → α} {a k b : Nat} {v : α} (h : b ≠ a) (j : Nat) : up2 f a k v b j = f b j := if_neg h
theorem up1_ne {α : Type} {f : Nat → α} {a b : Nat} {v : α} (h : b ≠ a) : up1 f a v b = f b := if_neg h
theorem hp_set {s s' : St} {a : Nat} {e : AE} {y : Ly} (hy : lay[a]? = some y) (he : fx s' a = some e) (hN : sN s' = sN s) (hU : sU s' = sU s) (hD : sD s' = sD s) (ho : ∀ b, b ≠ a → fx s' b = fx s b) : (hup (hp s).1 a e, (hp s).2) = hp s' := by
  have hlt : a < 37 := by have := (List.getElem?_eq_some_iff.mp hy).1; rw [lay_len] at this; exact this
  unfold hp
  rw [hN, hU, hD]
  refine Prod.ext ?_ rfl
  funext q
  show (if q = a then some e else if q < 37 then fx s q else sD s q) = if q < 37 then fx s' q else sD s q
  by_cases h : q = a
  · rw [if_pos h, h, if_pos hlt, he]
  · rw [if_neg h]
    split
    · rw [ho q h]
    · rfl
theorem vl_set_I (s : St) (a k : Nat) (v : Int32) : ∀ (ks : List Nat) (k0 : Nat), ks[k]? = some 0 → vl (pI s a (k0 + k) v) a k0 ks = (vl s a k0 ks).set k (.inl v) := by
  intro ks k0 h
  refine List.ext_getElem? fun j => ?_
  rw [vl_get]
  by_cases hj : j = k
  · subst hj
    have hl : j < (vl s a k0 ks).length := by
      have : (vl s a k0 ks)[j]? = some (vk s a (k0 + j) 0) := by rw [vl_get, h]; rfl
      exact (List.getElem?_eq_some_iff.mp this).1
    rw [List.getElem?_set_self hl, h]
    simp [sI, pI, up2, vk]
  · rw [List.getElem?_set_ne (Ne.symm hj), vl_get]
    congr 1
    funext c
    unfold vk
    split
    · congr 1
      show up2 s.1 a (k0 + k) v a (k0 + j) = s.1 a (k0 + j)
      unfold up2
      rw [if_pos rfl, if_neg (by omega)]
    · rfl
    · rfl
theorem vl_set_G (s : St) (a k : Nat) (v : Int64) : ∀ (ks : List Nat) (k0 : Nat), ks[k]? = some 1 → vl (pG s a (k0 + k) v) a k0 ks = (vl s a k0 ks).set k (.inr (.inl v)) := by
  intro ks k0 h
  refine List.ext_getElem? fun j => ?_
  rw [vl_get]
  by_cases hj : j = k
  · subst hj
    have hl : j < (vl s a k0 ks).length := by
      have : (vl s a k0 ks)[j]? = some (vk s a (k0 + j) 1) := by rw [vl_get, h]; rfl
      exact (List.getElem?_eq_some_iff.mp this).1
    rw [List.getElem?_set_self hl, h]
    simp [sG, pG, up2, vk]
  · rw [List.getElem?_set_ne (Ne.symm hj), vl_get]
    congr 1
    funext c
    unfold vk
    split
    · rfl
    · congr 2
      show up2 s.2.1 a (k0 + k) v a (k0 + j) = s.2.1 a (k0 + j)
      unfold up2
      rw [if_pos rfl, if_neg (by omega)]
    · rfl
section XF
variable {m : MI} {d i : Nat} {L : AL} {st : List AV} {Q : Option AV → AP → Prop} {pc n : Nat} {ps : List Nat} {s : St}
/-- a field of a fixed object -/
theorem X_gF {a : Nat} {ks : List Nat} {c : Nat} {v : AV} (hq : (mi_cd m)[i]? = some (pc, .getfield n, ps)) (hl : lay[a]? = some (.inl (n / 64, ks))) (hk : ks[n % 64]? = some c) (hv : vk s a (n % 64) c = v) (k : X m d (i + 1) L (v :: st) (hp s) Q) : X m d i L (.inr (.inr (some a)) :: st) (hp s) Q :=
  X_getf hq (hp_obj hl) (by rw [vl_get, hk, Nat.zero_add, ← hv]; rfl) k
theorem X_pI {a : Nat} {ks : List Nat} {v : Int32} (hq : (mi_cd m)[i]? = some (pc, .putfield n, ps)) (hl : lay[a]? = some (.inl (n / 64, ks))) (hk : ks[n % 64]? = some 0) (hv : vfit (am_ty (n / 64) (n % 64)) (.inl v) = true) (k : X m d (i + 1) L st (hp (pI s a (n % 64) v)) Q) : X m d i L (.inl v :: .inr (.inr (some a)) :: st) (hp s) Q := by
  refine X_putf hq (hp_obj hl) hv ?_
  rw [hp_set (s := s) (s' := pI s a (n % 64) v) hl ?_ rfl rfl rfl ?_]
  · exact k
  · unfold fx
    rw [hl]
    have := vl_set_I s a (n % 64) v ks 0 hk
    rw [Nat.zero_add] at this
    show some (Sum.inl (n / 64, vl (pI s a (n % 64) v) a 0 ks)) = _
    rw [this]
  · intro b hb
    exact fx_other (fun k => up2_ne hb k) (fun _ => rfl) rfl rfl rfl
theorem X_pG {a : Nat} {ks : List Nat} {v : Int64} (hq : (mi_cd m)[i]? = some (pc, .putfield n, ps)) (hl : lay[a]? = some (.inl (n / 64, ks))) (hk : ks[n % 64]? = some 1) (hv : vfit (am_ty (n / 64) (n % 64)) (.inr (.inl v)) = true) (k : X m d (i + 1) L st (hp (pG s a (n % 64) v)) Q) : X m d i L (.inr (.inl v) :: .inr (.inr (some a)) :: st) (hp s) Q := by
  refine X_putf hq (hp_obj hl) hv ?_
  rw [hp_set (s := s) (s' := pG s a (n % 64) v) hl ?_ rfl rfl rfl ?_]
  · exact k
  · unfold fx
    rw [hl]
    have := vl_set_G s a (n % 64) v ks 0 hk
    rw [Nat.zero_add] at this
    show some (Sum.inl (n / 64, vl (pG s a (n % 64) v) a 0 ks)) = _
    rw [this]
  · intro b hb
    exact fx_other (fun _ => rfl) (fun k => up2_ne hb k) rfl rfl rfl
theorem hp_iarr {a t z : Nat} (h : lay[a]? = some (.inr (.inl (t, z)))) : (hp s).1 a = some (.inr (.inl (t, z, sA s a))) := by rw [hp_fx h]; unfold fx; rw [h]
theorem hp_larr {a z : Nat} (h : lay[a]? = some (.inr (.inr (.inl z)))) : (hp s).1 a = some (.inr (.inr (.inl (z, sB s a)))) := by rw [hp_fx h]; unfold fx; rw [h]
theorem hp_rarr {a z : Nat} (h : lay[a]? = some (.inr (.inr (.inr z)))) : (hp s).1 a = some (.inr (.inr (.inr (z, sT s a)))) := by rw [hp_fx h]; unfold fx; rw [h]
theorem X_aI {a z : Nat} {j : Int32} (hq : (mi_cd m)[i]? = some (pc, .iaload, ps)) (hl : lay[a]? = some (.inr (.inl (0, z)))) (hin : vp_in j z) (k : X m d (i + 1) L (.inl (sA s a j.toNatClampNeg) :: st) (hp s) Q) : X m d i L (.inl j :: .inr (.inr (some a)) :: st) (hp s) Q := X_ild hq (hp_iarr hl) (by decide) hin k
theorem X_aY {a z : Nat} {j : Int32} (hq : (mi_cd m)[i]? = some (pc, .baload, ps)) (hl : lay[a]? = some (.inr (.inl (1, z)))) (hin : vp_in j z) (k : X m d (i + 1) L (.inl (sA s a j.toNatClampNeg) :: st) (hp s) Q) : X m d i L (.inl j :: .inr (.inr (some a)) :: st) (hp s) Q := X_bld hq (hp_iarr hl) hin k
theorem X_aL {a z : Nat} {j : Int32} (hq : (mi_cd m)[i]? = some (pc, .laload, ps)) (hl : lay[a]? = some (.inr (.inr (.inl z)))) (hin : vp_in j z) (k : X m d (i + 1) L (.inr (.inl (sB s a j.toNatClampNeg)) :: st) (hp s) Q) : X m d i L (.inl j :: .inr (.inr (some a)) :: st) (hp s) Q := X_lld hq (hp_larr hl) hin k
theorem X_aR {a z : Nat} {j : Int32} (hq : (mi_cd m)[i]? = some (pc, .aaload, ps)) (hl : lay[a]? = some (.inr (.inr (.inr z)))) (hin : vp_in j z) (k : X m d (i + 1) L (.inr (.inr (sT s a j.toNatClampNeg)) :: st) (hp s) Q) : X m d i L (.inl j :: .inr (.inr (some a)) :: st) (hp s) Q := X_ald hq (hp_rarr hl) hin k
theorem hp_pA {a t z : Nat} {f : Nat → Int32} (h : lay[a]? = some (.inr (.inl (t, z)))) : (hup (hp s).1 a (.inr (.inl (t, z, f))), (hp s).2) = hp (pA s a f) :=
  hp_set h (by unfold fx; rw [h]; show some (Sum.inr (Sum.inl (t, z, up1 s.2.2.1 a f a))) = _; unfold up1; rw [if_pos rfl]) rfl rfl rfl (fun b hb => fx_other (fun _ => rfl) (fun _ => rfl) (up1_ne hb) rfl rfl)
theorem hp_pB {a z : Nat} {f : Nat → Int64} (h : lay[a]? = some (.inr (.inr (.inl z)))) : (hup (hp s).1 a (.inr (.inr (.inl (z, f)))), (hp s).2) = hp (pB s a f) :=
  hp_set h (by unfold fx; rw [h]; show some (Sum.inr (Sum.inr (Sum.inl (z, up1 s.2.2.2.1 a f a)))) = _; unfold up1; rw [if_pos rfl]) rfl rfl rfl (fun b hb => fx_other (fun _ => rfl) (fun _ => rfl) rfl (up1_ne hb) rfl)
theorem hp_pT {a z : Nat} {f : Nat → Option Nat} (h : lay[a]? = some (.inr (.inr (.inr z)))) : (hup (hp s).1 a (.inr (.inr (.inr (z, f)))), (hp s).2) = hp (pT s a f) :=
  hp_set h (by unfold fx; rw [h]; show some (Sum.inr (Sum.inr (Sum.inr (z, up1 s.2.2.2.2.1 a f a)))) = _; unfold up1; rw [if_pos rfl]) rfl rfl rfl (fun b hb => fx_other (fun _ => rfl) (fun _ => rfl) rfl rfl (up1_ne hb))
theorem X_sI {a z : Nat} {j x : Int32} (hq : (mi_cd m)[i]? = some (pc, .iastore, ps)) (hl : lay[a]? = some (.inr (.inl (0, z)))) (hin : vp_in j z) (k : X m d (i + 1) L st (hp (pA s a (upd (sA s a) j.toNatClampNeg x))) Q) : X m d i L (.inl x :: .inl j :: .inr (.inr (some a)) :: st) (hp s) Q := X_ist hq (hp_iarr hl) hin (by rw [hp_pA hl]; exact k)
theorem X_sY {a z : Nat} {j x : Int32} (hq : (mi_cd m)[i]? = some (pc, .bastore, ps)) (hl : lay[a]? = some (.inr (.inl (1, z)))) (hin : vp_in j z) (k : X m d (i + 1) L st (hp (pA s a (upd (sA s a) j.toNatClampNeg x.toInt8.toInt32))) Q) : X m d i L (.inl x :: .inl j :: .inr (.inr (some a)) :: st) (hp s) Q := X_bst hq (hp_iarr hl) hin (by rw [hp_pA hl]; exact k)
theorem X_sL {a z : Nat} {j : Int32} {x : Int64} (hq : (mi_cd m)[i]? = some (pc, .lastore, ps)) (hl : lay[a]? = some (.inr (.inr (.inl z)))) (hin : vp_in j z) (k : X m d (i + 1) L st (hp (pB s a (vp_updL (sB s a) j.toNatClampNeg x))) Q) : X m d i L (.inr (.inl x) :: .inl j :: .inr (.inr (some a)) :: st) (hp s) Q := X_lst hq (hp_larr hl) hin (by rw [hp_pB hl]; exact k)
theorem X_sR {a z : Nat} {j : Int32} {o : Option Nat} (hq : (mi_cd m)[i]? = some (pc, .aastore, ps)) (hl : lay[a]? = some (.inr (.inr (.inr z)))) (hin : vp_in j z) (ho : ∀ v, o = some v → ∃ ci fs, (hp s).1 v = some (.inl (ci, fs)) ∧ thq ci = true) (k : X m d (i + 1) L st (hp (pT s a (va_up (sT s a) j.toNatClampNeg o))) Q) : X m d i L (.inr (.inr o) :: .inl j :: .inr (.inr (some a)) :: st) (hp s) Q := X_ast hq (hp_rarr hl) hin ho (by rw [hp_pT hl]; exact k)
theorem X_lenI {a t z : Nat} (hq : (mi_cd m)[i]? = some (pc, .arraylength, ps)) (hl : lay[a]? = some (.inr (.inl (t, z)))) (k : X m d (i + 1) L (.inl (Int32.ofNat z) :: st) (hp s) Q) : X m d i L (.inr (.inr (some a)) :: st) (hp s) Q := X_alen hq (hp_iarr hl) rfl k
end XF
/-! results with a state -/
def qIs (v : Int32 × St) : Option AV → AP → Prop := fun r P1 => r = some (.inl v.1) ∧ P1 = hp v.2
def qLs (v : Int64 × St) : Option AV → AP → Prop := fun r P1 => r = some (.inr (.inl v.1)) ∧ P1 = hp v.2
def qBs (v : Bool × St) : Option AV → AP → Prop := fun r P1 => r = some (.inl (b2i v.1)) ∧ P1 = hp v.2
def qRs (v : Option Nat × St) : Option AV → AP → Prop := fun r P1 => r = some (.inr (.inr v.1)) ∧ P1 = hp v.2
def qVs (v : St) : Option AV → AP → Prop := fun r P1 => r = none ∧ P1 = hp v
