/-! THINGS: what lies from 37 on, by symbolic references -/
def qR (P : AP) (v : Option Nat) : Option AV → AP → Prop := fun r P1 => r = some (.inr (.inr v)) ∧ P1 = P
/-- the given row GREATEST -/
def am_gt (k : Nat) : Int32 := match k with
  | 0 => 7
  | 1 => 3
  | 2 => 15
  | 3 => 8
  | 4 => 4
  | _ => 200
def isG (D : AH) : Prop := D am_ga = some (.inr (.inl (2, 6, am_gt)))
def dcl (D : AH) (o : Option Nat) : Option AE := match o with
  | none => none
  | some a => if a < 37 then none else D a
def oC (D : AH) (o : Option Nat) : Option Nat := match dcl D o with
  | some (.inl q) => some q.1
  | _ => none
def oF (D : AH) (o : Option Nat) : List AV := match dcl D o with
  | some (.inl q) => q.2
  | _ => []
def gI (D : AH) (o : Option Nat) (k : Nat) : Int32 := match (oF D o)[k]? with
  | some (.inl x) => x
  | _ => 0
def gL (D : AH) (o : Option Nat) (k : Nat) : Int64 := match (oF D o)[k]? with
  | some (.inr (.inl x)) => x
  | _ => 0
def gR (D : AH) (o : Option Nat) (k : Nat) : Option Nat := match (oF D o)[k]? with
  | some (.inr (.inr x)) => x
  | _ => none
def kv (v : AV) : Nat := match v with
  | .inl _ => 0
  | .inr (.inl _) => 1
  | .inr (.inr _) => 2
def kd (ci : Nat) : List Nat := match ci with
  | 4 => [0, 0, 1, 0, 2]
  | 6 => [0, 2]
  | 7 => [0, 2]
  | 8 => [0]
  | _ => []
/-- an object of class ci -/
def ob (D : AH) (o : Option Nat) (ci : Nat) : Prop := ∃ fs, dcl D o = some (.inl (ci, fs)) ∧ fs.map kv = kd ci
/-- nothing, or a thing -/
def tho (D : AH) (o : Option Nat) : Prop := o = none ∨ ∃ ci fs, dcl D o = some (.inl (ci, fs)) ∧ thq ci = true
/-- nothing, or a thing of class number n among am_cn -/
def cst (D : AH) (o : Option Nat) (n : Nat) : Prop := o = none ∨ ∃ ci fs, dcl D o = some (.inl (ci, fs)) ∧ cix ci = some n
def isc (D : AH) (o : Option Nat) (n : Nat) : Bool := decide ((oC D o).bind cix = some n)
def lx (o : Option Nat) : Prop := ∀ a, o = some a → a < ax
def dset (D : AH) (o : Option Nat) (e : AE) : AH := match o with
  | none => D
  | some a => hup D a e
def dF (D : AH) (o : Option Nat) (k : Nat) (v : AV) : AH := dset D o (.inl ((oC D o).getD 0, (oF D o).set k v))
/-- arrays -/
def aLN (D : AH) (o : Option Nat) : Nat := match dcl D o with
  | some (.inr (.inr (.inl q))) => q.1
  | _ => 0
def aLF (D : AH) (o : Option Nat) : Nat → Int64 := match dcl D o with
  | some (.inr (.inr (.inl q))) => q.2
  | _ => fun _ => 0
def aRN (D : AH) (o : Option Nat) : Nat := match dcl D o with
  | some (.inr (.inr (.inr q))) => q.1
  | _ => 0
def aRF (D : AH) (o : Option Nat) : Nat → Option Nat := match dcl D o with
  | some (.inr (.inr (.inr q))) => q.2
  | _ => fun _ => none
def isL (D : AH) (o : Option Nat) : Prop := ∃ n f, dcl D o = some (.inr (.inr (.inl (n, f))))
def isR (D : AH) (o : Option Nat) : Prop := ∃ n f, dcl D o = some (.inr (.inr (.inr (n, f))))
def dL (D : AH) (o : Option Nat) (f : Nat → Int64) : AH := dset D o (.inr (.inr (.inl (aLN D o, f))))
def dR (D : AH) (o : Option Nat) (f : Nat → Option Nat) : AH := dset D o (.inr (.inr (.inr (aRN D o, f))))
/-- the state with other things, so many cells and slots made -/
def pQ (s : St) (D : AH) (n u : Nat) : St := (s.1, s.2.1, s.2.2.1, s.2.2.2.1, s.2.2.2.2.1, D, n, u)
def nwO (D : AH) (n ci : Nat) : AH := hup D n (.inl (ci, dfs ci (kd ci).length))
def nwL (D : AH) (n : Nat) (z : Int32) : AH := hup D n (.inr (.inr (.inl (z.toNatClampNeg, fun _ => 0))))
def nwR (D : AH) (n : Nat) (z : Int32) : AH := hup D n (.inr (.inr (.inr (z.toNatClampNeg, fun _ => none))))
def rm (n u w : Nat) : Prop := 37 ≤ n ∧ n + 1 ≤ 601024 ∧ u + w ≤ 7293034
theorem dcl_some {D : AH} {o : Option Nat} {e : AE} (h : dcl D o = some e) : ∃ a, o = some a ∧ 37 ≤ a ∧ D a = some e := by
  cases o with
  | none => cases h
  | some a =>
    unfold dcl at h
    dsimp only at h
    split at h
    · cases h
    · next hl => exact ⟨a, rfl, by omega, h⟩
theorem hp_ge {s : St} {a : Nat} (h : 37 ≤ a) : (hp s).1 a = sD s a := if_neg (by omega)
theorem hp_hup {s : St} {a : Nat} {e : AE} (h : 37 ≤ a) (n u : Nat) : (hup (hp s).1 a e, n, u) = hp (pQ s (hup (sD s) a e) n u) := by
  unfold hp
  refine Prod.ext ?_ rfl
  funext q
  show (if q = a then some e else if q < 37 then fx s q else sD s q) = if q < 37 then fx (pQ s _ n u) q else hup (sD s) a e q
  by_cases hq : q < 37
  · rw [if_neg (by omega), if_pos hq, if_pos hq]
    exact (fx_other (s := s) (s' := pQ s (hup (sD s) a e) n u) (fun _ => rfl) (fun _ => rfl) rfl rfl rfl).symm
  · rw [if_neg hq, if_neg hq]
    rfl
theorem kd_get {fs : List AV} {ci k c : Nat} (h : fs.map kv = kd ci) (hk : (kd ci)[k]? = some c) : ∃ v, fs[k]? = some v ∧ kv v = c := by
  rw [← h, List.getElem?_map] at hk
  exact Option.map_eq_some_iff.mp hk
section XD
variable {m : MI} {d i : Nat} {L : AL} {st : List AV} {Q : Option AV → AP → Prop} {pc n : Nat} {ps : List Nat} {s : St} {o : Option Nat}
theorem X_dI (hq : (mi_cd m)[i]? = some (pc, .getfield n, ps)) (h : ob (sD s) o (n / 64)) (hk : (kd (n / 64))[n % 64]? = some 0) (k : X m d (i + 1) L (.inl (gI (sD s) o (n % 64)) :: st) (hp s) Q) : X m d i L (.inr (.inr o) :: st) (hp s) Q := by
  obtain ⟨fs, h1, h2⟩ := h
  obtain ⟨a, rfl, h3, h4⟩ := dcl_some h1
  obtain ⟨v, h5, h6⟩ := kd_get h2 hk
  rcases v with x | x | x
  · refine X_getf hq ((hp_ge h3).trans h4) h5 ?_
    have e : gI (sD s) (some a) (n % 64) = x := by unfold gI oF; rw [h1]; dsimp only; rw [h5]
    rw [← e]
    exact k
  · cases h6
  · cases h6
theorem X_dG (hq : (mi_cd m)[i]? = some (pc, .getfield n, ps)) (h : ob (sD s) o (n / 64)) (hk : (kd (n / 64))[n % 64]? = some 1) (k : X m d (i + 1) L (.inr (.inl (gL (sD s) o (n % 64))) :: st) (hp s) Q) : X m d i L (.inr (.inr o) :: st) (hp s) Q := by
  obtain ⟨fs, h1, h2⟩ := h
  obtain ⟨a, rfl, h3, h4⟩ := dcl_some h1
  obtain ⟨v, h5, h6⟩ := kd_get h2 hk
  rcases v with x | x | x
  · cases h6
  · refine X_getf hq ((hp_ge h3).trans h4) h5 ?_
    have e : gL (sD s) (some a) (n % 64) = x := by unfold gL oF; rw [h1]; dsimp only; rw [h5]
    rw [← e]
    exact k
  · cases h6
theorem X_dR (hq : (mi_cd m)[i]? = some (pc, .getfield n, ps)) (h : ob (sD s) o (n / 64)) (hk : (kd (n / 64))[n % 64]? = some 2) (k : X m d (i + 1) L (.inr (.inr (gR (sD s) o (n % 64))) :: st) (hp s) Q) : X m d i L (.inr (.inr o) :: st) (hp s) Q := by
  obtain ⟨fs, h1, h2⟩ := h
  obtain ⟨a, rfl, h3, h4⟩ := dcl_some h1
  obtain ⟨v, h5, h6⟩ := kd_get h2 hk
  rcases v with x | x | x
  · cases h6
  · cases h6
  · refine X_getf hq ((hp_ge h3).trans h4) h5 ?_
    have e : gR (sD s) (some a) (n % 64) = x := by unfold gR oF; rw [h1]; dsimp only; rw [h5]
    rw [← e]
    exact k
theorem X_dP {v : AV} (hq : (mi_cd m)[i]? = some (pc, .putfield n, ps)) (h : ob (sD s) o (n / 64)) (hv : vfit (am_ty (n / 64) (n % 64)) v = true) (k : X m d (i + 1) L st (hp (pQ s (dF (sD s) o (n % 64) v) (sN s) (sU s))) Q) : X m d i L (v :: .inr (.inr o) :: st) (hp s) Q := by
  obtain ⟨fs, h1, h2⟩ := h
  obtain ⟨a, rfl, h3, h4⟩ := dcl_some h1
  refine X_putf hq ((hp_ge h3).trans h4) hv ?_
  show X m d (i + 1) L st (hup (hp s).1 a (.inl (n / 64, fs.set (n % 64) v)), sN s, sU s) Q
  rw [hp_hup h3]
  have e : dF (sD s) (some a) (n % 64) v = hup (sD s) a (.inl (n / 64, fs.set (n % 64) v)) := by unfold dF dset oC oF; rw [h1]; rfl
  rw [← e]
  exact k
theorem X_dnew {N : Nat} {C : String} {T : u_T} (hq : (mi_cd m)[i]? = some (pc, .new n, ps)) (hc : am_cl[n]? = some (C, T, N)) (hN : (kd n).length = N) (hr : rm (sN s) (sU s) N) (k : X m d (i + 1) L (.inr (.inr (some (sN s))) :: st) (hp (pQ s (nwO (sD s) (sN s) n) (sN s + 1) (sU s + N))) Q) : X m d i L st (hp s) Q := by
  refine X_new hq hc hr.2.1 hr.2.2 ?_
  show X m d (i + 1) L (.inr (.inr (some (sN s))) :: st) (hup (hp s).1 (sN s) (.inl (n, dfs n N)), sN s + 1, sU s + N) Q
  rw [hp_hup hr.1]
  subst hN
  exact k
theorem X_dnl {z : Int32} (hq : (mi_cd m)[i]? = some (pc, .newarray .long, ps)) (hz : ¬ z < 0) (hr : rm (sN s) (sU s) z.toNatClampNeg) (k : X m d (i + 1) L (.inr (.inr (some (sN s))) :: st) (hp (pQ s (nwL (sD s) (sN s) z) (sN s + 1) (sU s + z.toNatClampNeg))) Q) : X m d i L (.inl z :: st) (hp s) Q := by
  refine X_newa hq hz rfl rfl hr.2.1 hr.2.2 ?_
  show X m d (i + 1) L (.inr (.inr (some (sN s))) :: st) (hup (hp s).1 (sN s) (.inr (.inr (.inl (z.toNatClampNeg, fun _ => 0)))), sN s + 1, sU s + z.toNatClampNeg) Q
  rw [hp_hup hr.1]
  exact k
theorem X_dnr {z : Int32} (hq : (mi_cd m)[i]? = some (pc, .anewarray n, ps)) (hz : ¬ z < 0) (hr : rm (sN s) (sU s) z.toNatClampNeg) (k : X m d (i + 1) L (.inr (.inr (some (sN s))) :: st) (hp (pQ s (nwR (sD s) (sN s) z) (sN s + 1) (sU s + z.toNatClampNeg))) Q) : X m d i L (.inl z :: st) (hp s) Q := by
  refine X_anew hq hz rfl hr.2.1 hr.2.2 ?_
  show X m d (i + 1) L (.inr (.inr (some (sN s))) :: st) (hup (hp s).1 (sN s) (.inr (.inr (.inr (z.toNatClampNeg, fun _ => none)))), sN s + 1, sU s + z.toNatClampNeg) Q
  rw [hp_hup hr.1]
  exact k
theorem X_dlen (hq : (mi_cd m)[i]? = some (pc, .arraylength, ps)) (h : isL (sD s) o) (k : X m d (i + 1) L (.inl (Int32.ofNat (aLN (sD s) o)) :: st) (hp s) Q) : X m d i L (.inr (.inr o) :: st) (hp s) Q := by
  obtain ⟨z, f, h1⟩ := h
  obtain ⟨a, rfl, h3, h4⟩ := dcl_some h1
  refine X_alen hq ((hp_ge h3).trans h4) rfl ?_
  have e : aLN (sD s) (some a) = z := by unfold aLN; rw [h1]
  rw [e] at k
  exact k
theorem X_drlen (hq : (mi_cd m)[i]? = some (pc, .arraylength, ps)) (h : isR (sD s) o) (k : X m d (i + 1) L (.inl (Int32.ofNat (aRN (sD s) o)) :: st) (hp s) Q) : X m d i L (.inr (.inr o) :: st) (hp s) Q := by
  obtain ⟨z, f, h1⟩ := h
  obtain ⟨a, rfl, h3, h4⟩ := dcl_some h1
  refine X_alen hq ((hp_ge h3).trans h4) rfl ?_
  have e : aRN (sD s) (some a) = z := by unfold aRN; rw [h1]
  rw [e] at k
  exact k
theorem X_daL {j : Int32} (hq : (mi_cd m)[i]? = some (pc, .laload, ps)) (h : isL (sD s) o) (hin : vp_in j (aLN (sD s) o)) (k : X m d (i + 1) L (.inr (.inl (aLF (sD s) o j.toNatClampNeg)) :: st) (hp s) Q) : X m d i L (.inl j :: .inr (.inr o) :: st) (hp s) Q := by
  obtain ⟨z, f, h1⟩ := h
  obtain ⟨a, rfl, h3, h4⟩ := dcl_some h1
  have e : aLN (sD s) (some a) = z := by unfold aLN; rw [h1]
  have e2 : aLF (sD s) (some a) = f := by unfold aLF; rw [h1]
  rw [e] at hin
  rw [e2] at k
  exact X_lld hq ((hp_ge h3).trans h4) hin k
theorem X_daR {j : Int32} (hq : (mi_cd m)[i]? = some (pc, .aaload, ps)) (h : isR (sD s) o) (hin : vp_in j (aRN (sD s) o)) (k : X m d (i + 1) L (.inr (.inr (aRF (sD s) o j.toNatClampNeg)) :: st) (hp s) Q) : X m d i L (.inl j :: .inr (.inr o) :: st) (hp s) Q := by
  obtain ⟨z, f, h1⟩ := h
  obtain ⟨a, rfl, h3, h4⟩ := dcl_some h1
  have e : aRN (sD s) (some a) = z := by unfold aRN; rw [h1]
  have e2 : aRF (sD s) (some a) = f := by unfold aRF; rw [h1]
  rw [e] at hin
  rw [e2] at k
  exact X_ald hq ((hp_ge h3).trans h4) hin k
theorem X_dsL {j : Int32} {x : Int64} (hq : (mi_cd m)[i]? = some (pc, .lastore, ps)) (h : isL (sD s) o) (hin : vp_in j (aLN (sD s) o)) (k : X m d (i + 1) L st (hp (pQ s (dL (sD s) o (vp_updL (aLF (sD s) o) j.toNatClampNeg x)) (sN s) (sU s))) Q) : X m d i L (.inr (.inl x) :: .inl j :: .inr (.inr o) :: st) (hp s) Q := by
  obtain ⟨z, f, h1⟩ := h
  obtain ⟨a, rfl, h3, h4⟩ := dcl_some h1
  have e : aLN (sD s) (some a) = z := by unfold aLN; rw [h1]
  have e2 : aLF (sD s) (some a) = f := by unfold aLF; rw [h1]
  rw [e] at hin
  rw [e2] at k
  refine X_lst hq ((hp_ge h3).trans h4) hin ?_
  show X m d (i + 1) L st (hup (hp s).1 a (.inr (.inr (.inl (z, vp_updL f j.toNatClampNeg x)))), sN s, sU s) Q
  rw [hp_hup h3]
  have e3 : dL (sD s) (some a) (vp_updL f j.toNatClampNeg x) = hup (sD s) a (.inr (.inr (.inl (z, vp_updL f j.toNatClampNeg x)))) := by unfold dL dset; rw [e]
  rw [← e3]
  exact k
theorem tho_hp {v : Option Nat} (h : tho (sD s) v) : ∀ u, v = some u → ∃ ci fs, (hp s).1 u = some (.inl (ci, fs)) ∧ thq ci = true := by
  rintro u rfl
  rcases h with h | ⟨ci, fs, h1, h2⟩
  · cases h
  · obtain ⟨a, e, h3, h4⟩ := dcl_some h1
    cases e
    exact ⟨ci, fs, (hp_ge h3).trans h4, h2⟩
theorem X_dsR {j : Int32} {v : Option Nat} (hq : (mi_cd m)[i]? = some (pc, .aastore, ps)) (h : isR (sD s) o) (hin : vp_in j (aRN (sD s) o)) (hv : tho (sD s) v) (k : X m d (i + 1) L st (hp (pQ s (dR (sD s) o (va_up (aRF (sD s) o) j.toNatClampNeg v)) (sN s) (sU s))) Q) : X m d i L (.inr (.inr v) :: .inl j :: .inr (.inr o) :: st) (hp s) Q := by
  obtain ⟨z, f, h1⟩ := h
  obtain ⟨a, rfl, h3, h4⟩ := dcl_some h1
  have e : aRN (sD s) (some a) = z := by unfold aRN; rw [h1]
  have e2 : aRF (sD s) (some a) = f := by unfold aRF; rw [h1]
  rw [e] at hin
  rw [e2] at k
  refine X_ast hq ((hp_ge h3).trans h4) hin (tho_hp hv) ?_
  show X m d (i + 1) L st (hup (hp s).1 a (.inr (.inr (.inr (z, va_up f j.toNatClampNeg v)))), sN s, sU s) Q
  rw [hp_hup h3]
  have e3 : dR (sD s) (some a) (va_up f j.toNatClampNeg v) = hup (sD s) a (.inr (.inr (.inr (z, va_up f j.toNatClampNeg v)))) := by unfold dR dset; rw [e]
  rw [← e3]
  exact k
theorem X_sRt {a z : Nat} {j : Int32} {v : Option Nat} (hq : (mi_cd m)[i]? = some (pc, .aastore, ps)) (hl : lay[a]? = some (.inr (.inr (.inr z)))) (hin : vp_in j z) (hv : tho (sD s) v) (k : X m d (i + 1) L st (hp (pT s a (va_up (sT s a) j.toNatClampNeg v))) Q) : X m d i L (.inr (.inr v) :: .inl j :: .inr (.inr (some a)) :: st) (hp s) Q := X_sR hq hl hin (tho_hp hv) k
theorem X_dinst (hq : (mi_cd m)[i]? = some (pc, .instanceof n, ps)) (hn : n < 4) (h : tho (sD s) o) (k : X m d (i + 1) L (.inl (b2i (isc (sD s) o n)) :: st) (hp s) Q) : X m d i L (.inr (.inr o) :: st) (hp s) Q := by
  rcases h with rfl | ⟨ci, fs, h1, h2⟩
  · refine X_inst0 hq ?_
    exact k
  · obtain ⟨a, rfl, h3, h4⟩ := dcl_some h1
    have hc : ∃ j, cix ci = some j := by
      unfold thq at h2
      simp only [Bool.or_eq_true, beq_iff_eq] at h2
      rcases h2 with ((h2 | h2) | h2) | h2 <;> subst h2
      · exact ⟨0, rfl⟩
      · exact ⟨1, rfl⟩
      · exact ⟨2, rfl⟩
      · exact ⟨3, rfl⟩
    obtain ⟨j, hj⟩ := hc
    refine X_inst hq ((hp_ge h3).trans h4) hj hn ?_
    have e : b2i (isc (sD s) (some a) n) = if n = j then 1 else 0 := by
      unfold isc oC
      rw [h1]
      show b2i (decide (cix ci = some n)) = _
      rw [hj]
      by_cases hnj : n = j
      · rw [if_pos hnj, hnj]; simp [b2i]
      · rw [if_neg hnj]; have : ¬ j = n := fun e => hnj e.symm; simp [b2i, this]
    rw [e] at k
    exact k
theorem X_dcast (hq : (mi_cd m)[i]? = some (pc, .checkcast n, ps)) (h : cst (sD s) o n) (k : X m d (i + 1) L (.inr (.inr o) :: st) (hp s) Q) : X m d i L (.inr (.inr o) :: st) (hp s) Q := by
  rcases h with rfl | ⟨ci, fs, h1, h2⟩
  · exact X_cast0 hq k
  · obtain ⟨a, rfl, h3, h4⟩ := dcl_some h1
    exact X_cast hq ((hp_ge h3).trans h4) h2 k
theorem X_acq {α : Type} {q : α → Option AV → AP → Prop} {P : AP} {o1 o2 : Option Nat} {t : Int} {v w : α} (hq : (mi_cd m)[i]? = some (pc, .if_acmp .ne t, ps)) (h1 : lx o1) (h2 : lx o2) (kt : o1 = o2 → X m d (i + 1) L st P (q v)) (kf : ¬ o1 = o2 → X m d t.toNat L st P (q w)) : X m d i L (.inr (.inr o2) :: .inr (.inr o1) :: st) P (q (if o1 = o2 then v else w)) := by
  by_cases h : o1 = o2
  · rw [if_pos h]; exact X_acmpne hq h1 h2 (fun z => absurd h z) kt
  · rw [if_neg h]; exact X_acmpne hq h1 h2 kf (fun z => absurd z h)
theorem va_ic {D : AH} {c : Nat} (h : oC D o = some c) : ∃ a fs, o = some a ∧ 37 ≤ a ∧ D a = some (.inl (c, fs)) := by
  unfold oC at h
  split at h
  · next q h1 =>
    obtain ⟨a, rfl, h3, h4⟩ := dcl_some h1
    cases h
    exact ⟨a, q.2, rfl, h3, h4⟩
  · cases h
/-- a method of an object of its own class -/
theorem X_dcallv (mc : MI) {As : List AV} {ci : Nat} {Qc : Option AV → AP → Prop} (hok : okM mc) (hq : (mi_cd m)[i]? = some (pc, .invokevirtual n, ps)) (hid : mi_id mc = n) (hn : (am_sg[n]?).map (fun g => g.2.2.2.2.1) = some As.length) (ho : oC (sD s) o = some ci) (hcl : (am_cl[ci]?).map (fun r => r.1) = some (mi_y mc).cls) (hlen : (entA (.inr (.inr (none)) :: As)).length ≤ mi_mx mc) (hst : (st.map av_c).sum ≤ 8) (hX : X mc d 0 (entL (mi_mx mc) (.inr (.inr o) :: As)) [] (hp s) Qc) (k : ∀ r P1, Qc r P1 → X m (d + 1) (i + 1) L (r.toList ++ st) P1 Q) : X m (d + 1) i L (As.reverse ++ .inr (.inr o) :: st) (hp s) Q := by
  obtain ⟨a, fs, rfl, h3, h4⟩ := va_ic ho
  exact X_callv mc hok hq hid hn ((hp_ge h3).trans h4) hcl hlen hst hX k
/-- a method of Thing, of an object of class ci -/
theorem X_dcallu (mc : MI) {v c9 : Nat} {As : List AV} {ci : Nat} {Qc : Option AV → AP → Prop} {e5 : Nat × Nat} (hok : okM mc) (hq : (mi_cd m)[i]? = some (pc, .invokeinterface v c9, ps)) (hvt : (v, ci, mi_id mc, e5) ∈ am_vt) (hn : (am_sg[mi_id mc]?).map (fun g => g.2.2.2.2.1) = some As.length) (ho : oC (sD s) o = some ci) (hlen : (entA (.inr (.inr (none)) :: As)).length ≤ mi_mx mc) (hst : (st.map av_c).sum ≤ 8) (hX : X mc d 0 (entL (mi_mx mc) (.inr (.inr o) :: As)) [] (hp s) Qc) (k : ∀ r P1, Qc r P1 → X m (d + 1) (i + 1) L (r.toList ++ st) P1 Q) : X m (d + 1) i L (As.reverse ++ .inr (.inr o) :: st) (hp s) Q := by
  obtain ⟨a, fs, rfl, h3, h4⟩ := va_ic ho
  exact X_callu mc hok hq hvt hn ((hp_ge h3).trans h4) hlen hst hX k
/-- a constructor -/
theorem X_dcalln (mc : MI) {As : List AV} {Qc : Option AV → AP → Prop} (hok : okM mc) (hq : (mi_cd m)[i]? = some (pc, .invokespecial n, ps)) (hid : mi_id mc = n) (hn : (am_sg[n]?).map (fun g => g.2.2.2.2.1) = some As.length) (hrt : mi_rt mc = none) (ho : (oC (sD s) o).isSome = true) (hlen : (entA (.inr (.inr (none)) :: As)).length ≤ mi_mx mc) (hst : (st.map av_c).sum ≤ 8) (hX : X mc d 0 (entL (mi_mx mc) (.inr (.inr o) :: As)) [] (hp s) Qc) (k : ∀ r P1, Qc r P1 → X m (d + 1) (i + 1) L (r.toList ++ st) P1 Q) : X m (d + 1) i L (As.reverse ++ .inr (.inr o) :: st) (hp s) Q := by
  obtain ⟨ci, hc⟩ := Option.isSome_iff_exists.mp ho
  obtain ⟨a, fs, rfl, h3, h4⟩ := va_ic hc
  exact X_calln mc hok hq hid hn hrt hlen hst hX k
theorem X_dobj (hq : (mi_cd m)[i]? = some (pc, .monitorenter, ps)) (hd1 : 0 < d) (hst : ((st.map av_c).sum) ≤ 8) (ho : (oC (sD s) o).isSome = true) (k : X m d (i + 1) L st (hp s) Q) : X m d i L (.inr (.inr o) :: st) (hp s) Q := by
  obtain ⟨ci, hc⟩ := Option.isSome_iff_exists.mp ho
  obtain ⟨a, fs, rfl, h3, h4⟩ := va_ic hc
  exact X_obj hq hd1 hst rfl k
/-- arraycopy between members of rows; of bytes between two fixed rows -/
def cpok (sp dp z : Int32) (n0 n1 : Nat) : Prop := ¬ sp < 0 ∧ ¬ dp < 0 ∧ ¬ z < 0 ∧ sp.toNatClampNeg + z.toNatClampNeg ≤ n0 ∧ dp.toNatClampNeg + z.toNatClampNeg ≤ n1
theorem X_dcopy {o1 : Option Nat} {sp dp z : Int32} (hq : (mi_cd m)[i]? = some (pc, .invokedynamic 0, ps)) (hst : (st.map av_c).sum ≤ 8) (h0 : isL (sD s) o) (h1 : isL (sD s) o1) (hc : cpok sp dp z (aLN (sD s) o) (aLN (sD s) o1))
    (k : X m (d + 1) (i + 1) L st (hp (pQ s (dL (sD s) o1 (va_cpy (aLF (sD s) o) (aLF (sD s) o1) sp.toNatClampNeg dp.toNatClampNeg z.toNatClampNeg)) (sN s) (sU s))) Q) : X m (d + 1) i L (.inl z :: .inl dp :: .inr (.inr o1) :: .inl sp :: .inr (.inr o) :: st) (hp s) Q := by
  obtain ⟨z0, f, a1⟩ := h0
  obtain ⟨a, rfl, a3, a4⟩ := dcl_some a1
  obtain ⟨z1, g, b1⟩ := h1
  obtain ⟨b, rfl, b3, b4⟩ := dcl_some b1
  have e : aLN (sD s) (some a) = z0 := by unfold aLN; rw [a1]
  have e2 : aLF (sD s) (some a) = f := by unfold aLF; rw [a1]
  have e3 : aLN (sD s) (some b) = z1 := by unfold aLN; rw [b1]
  have e4 : aLF (sD s) (some b) = g := by unfold aLF; rw [b1]
  rw [e, e3] at hc
  rw [e2, e4] at k
  refine X_copyl hq hst ((hp_ge a3).trans a4) ((hp_ge b3).trans b4) hc.1 hc.2.1 hc.2.2.1 hc.2.2.2.1 hc.2.2.2.2 ?_
  show X m (d + 1) (i + 1) L st (hup (hp s).1 b (.inr (.inr (.inl (z1, va_cpy f g sp.toNatClampNeg dp.toNatClampNeg z.toNatClampNeg)))), sN s, sU s) Q
  rw [hp_hup b3]
  have e5 : dL (sD s) (some b) (va_cpy f g sp.toNatClampNeg dp.toNatClampNeg z.toNatClampNeg) = hup (sD s) b (.inr (.inr (.inl (z1, va_cpy f g sp.toNatClampNeg dp.toNatClampNeg z.toNatClampNeg)))) := by unfold dL dset; rw [e3]
  rw [← e5]
  exact k
theorem X_fcopy {a b n0 n1 : Nat} {sp dp z : Int32} (hq : (mi_cd m)[i]? = some (pc, .invokedynamic 0, ps)) (hst : (st.map av_c).sum ≤ 8) (h0 : lay[a]? = some (.inr (.inl (1, n0)))) (h1 : lay[b]? = some (.inr (.inl (1, n1)))) (hc : cpok sp dp z n0 n1)
    (k : X m (d + 1) (i + 1) L st (hp (pA s b (va_cpy (sA s a) (sA s b) sp.toNatClampNeg dp.toNatClampNeg z.toNatClampNeg))) Q) : X m (d + 1) i L (.inl z :: .inl dp :: .inr (.inr (some b)) :: .inl sp :: .inr (.inr (some a)) :: st) (hp s) Q := by
  refine X_copyb hq hst (hp_iarr h0) (hp_iarr h1) hc.1 hc.2.1 hc.2.2.1 hc.2.2.2.1 hc.2.2.2.2 ?_
  rw [hp_pA h1]
  exact k
theorem X_gG {j : Int32} (hq : (mi_cd m)[i]? = some (pc, .iaload, ps)) (h : isG (sD s)) (hin : vp_in j 6) (k : X m d (i + 1) L (.inl (am_gt j.toNatClampNeg) :: st) (hp s) Q) : X m d i L (.inl j :: .inr (.inr (some am_ga)) :: st) (hp s) Q := X_ild hq ((hp_ge (by decide)).trans h) (by decide) hin k
theorem X_gN (hq : (mi_cd m)[i]? = some (pc, .arraylength, ps)) (h : isG (sD s)) (k : X m d (i + 1) L (.inl 6 :: st) (hp s) Q) : X m d i L (.inr (.inr (some am_ga)) :: st) (hp s) Q := X_alen hq ((hp_ge (by decide)).trans h) rfl k
end XD
/-! what a method ends with -/
theorem qI_i {P : AP} {a : Int32} : qI P a (some (.inl a)) P := ⟨rfl, rfl⟩
theorem qL_i {P : AP} {a : Int64} : qL P a (some (.inr (.inl a))) P := ⟨rfl, rfl⟩
theorem qB_i {P : AP} {a : Bool} : qB P a (some (.inl (b2i a))) P := ⟨rfl, rfl⟩
theorem qR_i {P : AP} {a : Option Nat} : qR P a (some (.inr (.inr a))) P := ⟨rfl, rfl⟩
theorem qIs_i {a : Int32} {b : St} : qIs (a, b) (some (.inl a)) (hp b) := ⟨rfl, rfl⟩
theorem qLs_i {a : Int64} {b : St} : qLs (a, b) (some (.inr (.inl a))) (hp b) := ⟨rfl, rfl⟩
theorem qBs_i {a : Bool} {b : St} : qBs (a, b) (some (.inl (b2i a))) (hp b) := ⟨rfl, rfl⟩
theorem qRs_i {a : Option Nat} {b : St} : qRs (a, b) (some (.inr (.inr a))) (hp b) := ⟨rfl, rfl⟩
theorem qIs_p {v : Int32 × St} : qIs v (some (.inl v.1)) (hp v.2) := ⟨rfl, rfl⟩
theorem qLs_p {v : Int64 × St} : qLs v (some (.inr (.inl v.1))) (hp v.2) := ⟨rfl, rfl⟩
theorem qBs_p {v : Bool × St} : qBs v (some (.inl (b2i v.1))) (hp v.2) := ⟨rfl, rfl⟩
theorem qRs_p {v : Option Nat × St} : qRs v (some (.inr (.inr v.1))) (hp v.2) := ⟨rfl, rfl⟩
theorem qVs_i {b : St} : qVs b none (hp b) := ⟨rfl, rfl⟩
