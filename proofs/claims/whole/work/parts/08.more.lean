section XM
variable {m : MI} {d i : Nat} {L : AL} {st : List AV} {P : AP} {Q : Option AV → AP → Prop} {pc n : Nat} {ps : List Nat}
def nae (t : ArrayType) (z : Nat) : Option AE := match t with
  | .int => some (.inr (.inl (0, z, fun _ => 0)))
  | .byte => some (.inr (.inl (1, z, fun _ => 0)))
  | .long => some (.inr (.inr (.inl (z, fun _ => 0))))
  | _ => none
/-- newarray -/
theorem X_newa {t : ArrayType} {e : AE} {z : Int32} {N : Nat} (hq : (mi_cd m)[i]? = some (pc, .newarray t, ps)) (hz : ¬ z < 0) (hN : z.toNatClampNeg = N) (he : nae t N = some e) (h1 : P.2.1 + 1 ≤ 601024) (h2 : P.2.2 + N ≤ 7293034) (k : X m d (i + 1) L (.inr (.inr (some P.2.1)) :: st) (hup P.1 P.2.1 e, P.2.1 + 1, P.2.2 + N) Q) : X m d i L (.inl z :: st) P Q := by
  intro hok p l e1 R s mid args below meth c D rt B n0 u0 hC hL ls H locs hH hl hS
  obtain ⟨ri, len, hd, ho⟩ := okM_at hok hq
  have K := k hok p l e1 R s mid args below meth c D rt B n0 u0 hC hL ls
  obtain ⟨hx, hb, -, -, -, -, hown, hts, hK, -, -, hRT, -, hcap, hsz⟩ := id hC
  rw [pcO_at hq]
  have ho2 : (decide (pcq m (i + 1) = some (pc + len)) && decide (ri = .newarray t) && decide (len = 2) && decide (wq (ps.getD 0 0) = some (.arrayClass (Op.newarray.typeOf t)))) = true := ho
  simp only [Bool.and_eq_true, decide_eq_true_eq] at ho2
  obtain ⟨⟨⟨g1, rfl⟩, rfl⟩, g4⟩ := ho2
  have hs0 : s.heap.size ≤ H.size := hS.1
  have hHz := hH.2.1
  have hxx : P.2.1 < ax := by unfold ax; omega
  have hrt : rt P.2.1 = H.size := by rw [hRT.1 _ hxx, hHz]
  subst hN
  refine W_tight hHz hH.2.2.1 hsz.1 hsz.2 (fun hg1 hg2 => W.newa hx hb (hts _ (wq_in g4 rfl)) rfl hd rfl hz (by
    have hle : componentBytes (Op.newarray.typeOf t) ≤ 8 := by cases t <;> decide
    calc z.toNatClampNeg * componentBytes (Op.newarray.typeOf t) ≤ 7293034 * 8 := Nat.mul_le_mul (by omega) hle
      _ ≤ 536870912 := by decide) (by omega) (by omega) fun cA kA comp f1 f2 f3 => ?_)
  have hAr : ∀ ty, Op.newarray.typeOf t = ty → ArrOfT s cA ty := fun ty hty N z => ⟨(fun k h => by cases h), kA, f2, comp, by rw [← hty]; exact f3⟩
  have hcell : (H.push { cls := cA, slots := Array.replicate z.toNatClampNeg (defaultValue (Op.newarray.typeOf t)), vm := .none })[rt P.2.1]? = some (arrV cA z.toNatClampNeg (fun _ => defaultValue (Op.newarray.typeOf t))) := by rw [hrt, Array.getElem?_push_size, ← arrV_new]
  have hsl : ({ cls := cA, slots := Array.replicate z.toNatClampNeg (defaultValue (Op.newarray.typeOf t)), vm := .none } : Cell).slots.size = z.toNatClampNeg := by simp
  have hnew := hH.new hRT (c := { cls := cA, slots := Array.replicate z.toNatClampNeg (defaultValue (Op.newarray.typeOf t)), vm := .none }) (e := e) (by
      cases t <;> first | (cases he; done) | skip
      · cases he; exact ⟨⟨cA, hAr _ rfl, hcell⟩, fun _ => (by decide : fits .byte (.int 0) = true)⟩
      · cases he; exact ⟨cA, hAr _ rfl, hcell⟩
      · cases he; exact ⟨cA, hAr _ rfl, hcell⟩) (by
      cases t <;> first | (cases he; done) | skip
      · cases he; exact Or.inl (by omega)
      · cases he; exact Or.inl (by omega)
      · cases he; show P.2.1 < P.2.1 + 1; omega) h1 (by rw [hsl]; exact h2)
  rw [hsl] at hnew
  refine W_tight hnew.2.1 hnew.2.2.1 hsz.1 hsz.2 (fun _ _ => ?_)
  show W p l e1 R s mid args below meth c _ locs _ _ _ (F0 mid (pc + 2) ls (.ref H.size :: st.map (tv rt)))
  rw [← pcO_of g1, ← hrt]
  exact K _ _ hnew hl ⟨by rw [Array.size_push]; omega, fun q g5 g6 => by rw [Array.getElem?_push, if_neg (by omega)]; exact hS.2.1 q g5 g6, hS.2.2⟩
/-- anewarray -/
theorem X_anew {z : Int32} {N : Nat} (hq : (mi_cd m)[i]? = some (pc, .anewarray n, ps)) (hz : ¬ z < 0) (hN : z.toNatClampNeg = N) (h1 : P.2.1 + 1 ≤ 601024) (h2 : P.2.2 + N ≤ 7293034) (k : X m d (i + 1) L (.inr (.inr (some P.2.1)) :: st) (hup P.1 P.2.1 (.inr (.inr (.inr (N, fun _ => none)))), P.2.1 + 1, P.2.2 + N) Q) : X m d i L (.inl z :: st) P Q := by
  intro hok p l e1 R s mid args below meth c D rt B n0 u0 hC hL ls H locs hH hl hS
  obtain ⟨ri, len, hd, ho⟩ := okM_at hok hq
  have K := k hok p l e1 R s mid args below meth c D rt B n0 u0 hC hL ls
  obtain ⟨hx, hb, -, -, -, -, hown, hts, hK, -, hKS, hRT, -, hcap, hsz⟩ := id hC
  rw [pcO_at hq]
  obtain ⟨g1, g2⟩ := ok_h ho
  split at g2
  · next x =>
    obtain ⟨g3, g4, g5⟩ := ok_3 g2
    subst g3
    have hs0 : s.heap.size ≤ H.size := hS.1
    have hHz := hH.2.1
    have hxx : P.2.1 < ax := by unfold ax; omega
    have hrt : rt P.2.1 = H.size := by rw [hRT.1 _ hxx, hHz]
    subst hN
    refine W_tight hHz hH.2.2.1 hsz.1 hsz.2 (fun hg1 hg2 => W.anew hx hb hown (hts _ (wq_in g4 rfl)) (va_AO.use (hKS.2.2.2 _ (wq_nt g5 rfl))) rfl hd rfl hz (by omega) (by omega) (by omega) fun cA kA comp f1 f2 f3 f4 => ?_)
    have hcell : (H.push { cls := cA, slots := Array.replicate z.toNatClampNeg .null, vm := .none })[rt P.2.1]? = some (arrV cA z.toNatClampNeg (fun _ => .null)) := by rw [hrt, Array.getElem?_push_size, ← arrV_new]
    have hsl : ({ cls := cA, slots := Array.replicate z.toNatClampNeg .null, vm := .none } : Cell).slots.size = z.toNatClampNeg := by simp
    have hnew := hH.new hRT (c := { cls := cA, slots := Array.replicate z.toNatClampNeg .null, vm := .none }) (e := .inr (.inr (.inr (z.toNatClampNeg, fun _ => none)))) ⟨cA, fun N z => ⟨(fun k h => by cases h), kA, f2, comp, f3⟩, ⟨kA, comp, f2, f3, f4, f1⟩, hcell⟩ (by show P.2.1 < P.2.1 + 1; omega) h1 (by rw [hsl]; exact h2)
    rw [hsl] at hnew
    refine W_tight hnew.2.1 hnew.2.2.1 hsz.1 hsz.2 (fun _ _ => ?_)
    show W p l e1 R s mid args below meth c _ locs _ _ _ (F0 mid (pc + 3) ls (.ref H.size :: st.map (tv rt)))
    rw [← pcO_of g1, ← hrt]
    exact K _ _ hnew hl ⟨by rw [Array.size_push]; omega, fun q g5 g6 => by rw [Array.getElem?_push, if_neg (by omega)]; exact hS.2.1 q g5 g6, hS.2.2⟩
  · cases g2
/-- Part, Row, Shelf, Trouble among the names of am_cn -/
def cix (ci : Nat) : Option Nat := match ci with
  | 4 => some 0
  | 6 => some 1
  | 7 => some 2
  | 8 => some 3
  | _ => none
theorem cix_ok {ci k : Nat} (h : cix ci = some k) : ∃ r, am_cl[ci]? = some r ∧ r.1 = am_cn.getD k "" ∧ ∀ n, n < 4 → n ≠ k → (r.1, am_cn.getD n "") ∈ am_nc := by
  unfold cix at h
  split at h
  · cases h; exact ⟨_, rfl, rfl, by decide⟩
  · cases h; exact ⟨_, rfl, rfl, by decide⟩
  · cases h; exact ⟨_, rfl, rfl, by decide⟩
  · cases h; exact ⟨_, rfl, rfl, by decide⟩
  · cases h
/-- instanceof -/
theorem X_inst {a ci j : Nat} {fs : List AV} (hq : (mi_cd m)[i]? = some (pc, .instanceof n, ps)) (ha : P.1 a = some (.inl (ci, fs))) (hc : cix ci = some j) (hn : n < 4) (k : X m d (i + 1) L (.inl (if n = j then 1 else 0) :: st) P Q) : X m d i L (.inr (.inr (some a)) :: st) P Q := by
  intro hok p l e1 R s mid args below meth c D rt B n0 u0 hC hL ls H locs hH hl hS
  obtain ⟨ri, len, hd, ho⟩ := okM_at hok hq
  have K := k hok p l e1 R s mid args below meth c D rt B n0 u0 hC hL ls H locs hH hl hS
  obtain ⟨hx, hb, -, -, -, -, hown, hts, hK, hNc, -, hRT, -, hcap, hsz⟩ := id hC
  rw [pcO_at hq]
  obtain ⟨g1, g2⟩ := ok_h ho
  split at g2
  · next x =>
    obtain ⟨g3, g4⟩ := ok_2 g2
    subst g3
    obtain ⟨r, hr, hr1, hr2⟩ := cix_ok hc
    obtain ⟨r', hr', -, cell, q1, q2, q3, -⟩ := (hH.1 a _ ha).1
    cases hr.symm.trans hr'
    have hat := (hK.1 ci r hr).2
    have hrc : ∃ cell : Cell, H[rt a]? = some cell ∧ cell.vm.isStatics = false ∧ s.vm.findClass r.1 = some cell.cls := ⟨cell, q1, by rw [q3]; rfl, by rw [q2]; exact hat.1⟩
    by_cases hnj : n = j
    · subst hnj
      rw [if_pos rfl] at K
      rw [hr1] at hat hrc
      exact va_instS hx hb hown (hts _ (wq_in g4 rfl)) hat hrc hd (by rw [← pcO_of g1]; exact K)
    · rw [if_neg hnj] at K
      exact va_instNo hx hb hown (hts _ (wq_in g4 rfl)) (hNc _ (hr2 n hn hnj)) hrc hd (by rw [← pcO_of g1]; exact K)
  · cases g2
theorem X_inst0 (hq : (mi_cd m)[i]? = some (pc, .instanceof n, ps)) (k : X m d (i + 1) L (.inl 0 :: st) P Q) : X m d i L (.inr (.inr none) :: st) P Q := by
  intro hok p l e1 R s mid args below meth c D rt B n0 u0 hC hL ls H locs hH hl hS
  obtain ⟨ri, len, hd, ho⟩ := okM_at hok hq
  have K := k hok p l e1 R s mid args below meth c D rt B n0 u0 hC hL ls H locs hH hl hS
  have hx := hC.1
  have hb := hC.2.1
  rw [pcO_at hq]
  obtain ⟨g1, g2⟩ := ok_h ho
  split at g2
  · next x =>
    obtain ⟨g3, g4⟩ := ok_2 g2
    subst g3
    exact lv_instN hx hb hd (by rw [← pcO_of g1]; exact K)
  · cases g2
/-- checkcast -/
theorem X_cast {a ci : Nat} {fs : List AV} (hq : (mi_cd m)[i]? = some (pc, .checkcast n, ps)) (ha : P.1 a = some (.inl (ci, fs))) (hc : cix ci = some n) (k : X m d (i + 1) L (.inr (.inr (some a)) :: st) P Q) : X m d i L (.inr (.inr (some a)) :: st) P Q := by
  intro hok p l e1 R s mid args below meth c D rt B n0 u0 hC hL ls H locs hH hl hS
  obtain ⟨ri, len, hd, ho⟩ := okM_at hok hq
  have K := k hok p l e1 R s mid args below meth c D rt B n0 u0 hC hL ls H locs hH hl hS
  obtain ⟨hx, hb, -, -, -, -, hown, hts, hK, hNc, -, hRT, -, hcap, hsz⟩ := id hC
  rw [pcO_at hq]
  obtain ⟨g1, g2⟩ := ok_h ho
  split at g2
  · next x =>
    obtain ⟨g3, g4⟩ := ok_2 g2
    subst g3
    obtain ⟨r, hr, hr1, hr2⟩ := cix_ok hc
    obtain ⟨r', hr', -, cell, q1, q2, q3, -⟩ := (hH.1 a _ ha).1
    cases hr.symm.trans hr'
    have hat := (hK.1 ci r hr).2
    have hrc : ∃ cell : Cell, H[rt a]? = some cell ∧ cell.vm.isStatics = false ∧ s.vm.findClass r.1 = some cell.cls := ⟨cell, q1, by rw [q3]; rfl, by rw [q2]; exact hat.1⟩
    rw [hr1] at hat hrc
    exact va_castS hx hb hown (hts _ (wq_in g4 rfl)) hat hrc hd (by rw [← pcO_of g1]; exact K)
  · cases g2
theorem X_cast0 (hq : (mi_cd m)[i]? = some (pc, .checkcast n, ps)) (k : X m d (i + 1) L (.inr (.inr none) :: st) P Q) : X m d i L (.inr (.inr none) :: st) P Q := by
  intro hok p l e1 R s mid args below meth c D rt B n0 u0 hC hL ls H locs hH hl hS
  obtain ⟨ri, len, hd, ho⟩ := okM_at hok hq
  have K := k hok p l e1 R s mid args below meth c D rt B n0 u0 hC hL ls H locs hH hl hS
  have hx := hC.1
  have hb := hC.2.1
  rw [pcO_at hq]
  obtain ⟨g1, g2⟩ := ok_h ho
  split at g2
  · next x =>
    obtain ⟨g3, g4⟩ := ok_2 g2
    subst g3
    exact lv_castN hx hb hd (by rw [← pcO_of g1]; exact K)
  · cases g2
/-! returns -/
theorem XR_of {D : va_G} {rt : Nat → Nat} {B : Nat} {s t : State} {H : Heap} {locs : List Loc} {args : Array Value} {r : Option AV} (hQ : Q r P) (hH : HR D rt B s P H) (hS : va_S (fun q => B ≤ q) s.heap H locs) (ht : t.heap = H) (hW : s.WarmedH t.vm) : XR D rt B Q args s (.returned (r.map (tv rt))) t := ⟨r, P, hQ, rfl, by rw [ht]; exact hH.moved hW.alike, hS.F ht⟩
theorem X_iret {x : Int32} (hq : (mi_cd m)[i]? = some (pc, .ireturn, ps)) (hr : mi_rt m = some .int) (hQ : Q (some (.inl x)) P) : X m d i L [.inl x] P Q := by
  intro hok p l e1 R s mid args below meth c D rt B n0 u0 hC hL ls H locs hH hl hS
  obtain ⟨ri, len, hd, ho⟩ := okM_at hok hq
  obtain ⟨hx, hb, -, hret, hlk, -, hown, hts, hK, hNc, -, hRT, -, hcap, hsz⟩ := id hC
  rw [pcO_at hq]
  obtain ⟨g1, g2⟩ := ok_2 ho
  subst g1; subst g2
  have h4 := hH.2.2.2
  exact W.widen (by omega) (by omega) (W.iret hx hb (hret.trans hr) (fun t ht hW => XR_of hQ hH hS ht hW) hS.2.2 hd hlk)
theorem X_zret {x : Int32} (hq : (mi_cd m)[i]? = some (pc, .ireturn, ps)) (hr : mi_rt m = some .boolean) (hx1 : x = 0 ∨ x = 1) (hQ : Q (some (.inl x)) P) : X m d i L [.inl x] P Q := by
  intro hok p l e1 R s mid args below meth c D rt B n0 u0 hC hL ls H locs hH hl hS
  obtain ⟨ri, len, hd, ho⟩ := okM_at hok hq
  obtain ⟨hx, hb, -, hret, hlk, -, hown, hts, hK, hNc, -, hRT, -, hcap, hsz⟩ := id hC
  rw [pcO_at hq]
  obtain ⟨g1, g2⟩ := ok_2 ho
  subst g1; subst g2
  have h4 := hH.2.2.2
  exact W.widen (by omega) (by omega) (W.zret hx hb (hret.trans hr) (by rcases hx1 with rfl | rfl <;> rfl) (fun t ht hW => XR_of hQ hH hS ht hW) hS.2.2 hd hlk)
theorem X_lret {x : Int64} (hq : (mi_cd m)[i]? = some (pc, .lreturn, ps)) (hr : mi_rt m = some .long) (hQ : Q (some (.inr (.inl x))) P) : X m d i L [.inr (.inl x)] P Q := by
  intro hok p l e1 R s mid args below meth c D rt B n0 u0 hC hL ls H locs hH hl hS
  obtain ⟨ri, len, hd, ho⟩ := okM_at hok hq
  obtain ⟨hx, hb, -, hret, hlk, -, hown, hts, hK, hNc, -, hRT, -, hcap, hsz⟩ := id hC
  rw [pcO_at hq]
  obtain ⟨g1, g2⟩ := ok_2 ho
  subst g1; subst g2
  have h4 := hH.2.2.2
  exact W.widen (by omega) (by omega) (W.lret hx hb (hret.trans hr) (fun t ht hW => XR_of hQ hH hS ht hW) hS.2.2 hd hlk)
theorem X_aret {o : Option Nat} {C : String} (hq : (mi_cd m)[i]? = some (pc, .areturn, ps)) (hr : mi_rt m = some (.object C)) (hQ : Q (some (.inr (.inr o))) P) : X m d i L [.inr (.inr o)] P Q := by
  intro hok p l e1 R s mid args below meth c D rt B n0 u0 hC hL ls H locs hH hl hS
  obtain ⟨ri, len, hd, ho⟩ := okM_at hok hq
  obtain ⟨hx, hb, -, hret, hlk, -, hown, hts, hK, hNc, -, hRT, -, hcap, hsz⟩ := id hC
  rw [pcO_at hq]
  obtain ⟨g1, g2⟩ := ok_2 ho
  subst g1; subst g2
  have h4 := hH.2.2.2
  exact W.widen (by omega) (by omega) (W.aret hx hb (hret.trans hr) (Or.inl ⟨_, rfl⟩) (by cases o with | none => exact Or.inl rfl | some a => exact Or.inr ⟨_, rfl⟩) (fun t ht hW => XR_of hQ hH hS ht hW) hS.2.2 hd hlk)
theorem X_ret (hq : (mi_cd m)[i]? = some (pc, .return_, ps)) (hr : mi_rt m = none) (hQ : Q none P) : X m d i L [] P Q := by
  intro hok p l e1 R s mid args below meth c D rt B n0 u0 hC hL ls H locs hH hl hS
  obtain ⟨ri, len, hd, ho⟩ := okM_at hok hq
  obtain ⟨hx, hb, -, hret, hlk, -, hown, hts, hK, hNc, -, hRT, -, hcap, hsz⟩ := id hC
  rw [pcO_at hq]
  obtain ⟨g1, g2⟩ := ok_2 ho
  subst g1; subst g2
  have h4 := hH.2.2.2
  exact W.widen (by omega) (by omega) (W.vret hx hb (hret.trans hr) (fun t ht hW => XR_of (r := none) hQ hH hS ht hW) hS.2.2 hd hlk)
/-! references compared -/
theorem tv_rf (rt : Nat → Nat) (o : Option Nat) : tv rt (.inr (.inr o)) = va_rf (o.map rt) := by cases o <;> rfl
theorem rt_inj {B : Nat} {rt : Nat → Nat} (h : RTp B rt) {o1 o2 : Option Nat} (h1 : ∀ a, o1 = some a → a < ax) (h2 : ∀ a, o2 = some a → a < ax) (e : o1.map rt = o2.map rt) : o1 = o2 := by
  cases o1 with
  | none => cases o2 with
    | none => rfl
    | some b => cases e
  | some a => cases o2 with
    | none => cases e
    | some b =>
      have e1 : rt a = rt b := Option.some.inj e
      rw [h.1 a (h1 a rfl), h.1 b (h2 b rfl)] at e1
      rw [show a = b by omega]
theorem X_acmpne {o1 o2 : Option Nat} {t : Int} (hq : (mi_cd m)[i]? = some (pc, .if_acmp .ne t, ps)) (h1 : ∀ a, o1 = some a → a < ax) (h2 : ∀ a, o2 = some a → a < ax) (kt : ¬ o1 = o2 → X m d t.toNat L st P Q) (kf : o1 = o2 → X m d (i + 1) L st P Q) : X m d i L (.inr (.inr o2) :: .inr (.inr o1) :: st) P Q := by
  intro hok p l e1 R s mid args below meth c D rt B n0 u0 hC hL ls H locs hH hl hS
  obtain ⟨ri, len, hd, ho⟩ := okM_at hok hq
  obtain ⟨hx, hb, -, hret, hlk, -, hown, hts, hK, hNc, -, hRT, -, hcap, hsz⟩ := id hC
  rw [pcO_at hq]
  obtain ⟨g1, g2⟩ := ok_h ho
  split at g2
  · obtain ⟨g3, g4, g5⟩ := ok_hh g2
    subst g3; subst g4
    show W p l e1 R s mid args below meth c H locs _ _ _ (F0 mid pc ls (tv rt (.inr (.inr o2)) :: tv rt (.inr (.inr o1)) :: st.map (tv rt)))
    rw [tv_rf, tv_rf]
    exact lv_acmp_ne hx hb hd (tgO_of g5) (fun h => kt (fun z => h (by rw [z])) hok p l e1 R s mid args below meth c D rt B n0 u0 hC hL ls H locs hH hl hS) (fun h => by rw [← pcO_of g1]; exact kf (rt_inj hRT h1 h2 h) hok p l e1 R s mid args below meth c D rt B n0 u0 hC hL ls H locs hH hl hS)
  · cases g2
/-- a String constant -/
theorem X_str (hq : (mi_cd m)[i]? = some (pc, .fload n, ps)) (k : X m d (i + 1) L (.inr (.inr (some (am_sa + n))) :: st) P Q) : X m d i L st P Q := by
  intro hok p l e1 R s mid args below meth c D rt B n0 u0 hC hL ls H locs hH hl hS
  obtain ⟨ri, len, hd, ho⟩ := okM_at hok hq
  have K := k hok p l e1 R s mid args below meth c D rt B n0 u0 hC hL ls H locs hH hl hS
  obtain ⟨hx, hb, -, hret, hlk, -, hown, hts, hK, hNc, hKS, hRT, -, hcap, hsz⟩ := id hC
  rw [pcO_at hq]
  obtain ⟨g1, g2⟩ := ok_h ho
  split at g2
  · next x =>
    obtain ⟨g3, g4⟩ := ok_h g2
    subst g3
    split at g4
    · next q hqs =>
      obtain ⟨g5, g6⟩ := ok_2 g4
      have hz := hKS.2.1 n q hqs
      rw [g5, g6] at hz
      exact va_ldcS hx hb hown hz hd (by rw [← pcO_of g1]; exact K)
    · cases g4
  · cases g2
/-- the static array -/
theorem X_gst (hq : (mi_cd m)[i]? = some (pc, .getstatic n, ps)) (k : X m d (i + 1) L (.inr (.inr (some am_ga)) :: st) P Q) : X m d i L st P Q := by
  intro hok p l e1 R s mid args below meth c D rt B n0 u0 hC hL ls H locs hH hl hS
  obtain ⟨ri, len, hd, ho⟩ := okM_at hok hq
  have K := k hok p l e1 R s mid args below meth c D rt B n0 u0 hC hL ls H locs hH hl hS
  obtain ⟨hx, hb, -, hret, hlk, -, hown, hts, hK, hNc, hKS, hRT, -, hcap, hsz⟩ := id hC
  rw [pcO_at hq]
  obtain ⟨g1, g2⟩ := ok_h ho
  split at g2
  · next x =>
    obtain ⟨g3, g4⟩ := ok_2 g2
    subst g3
    exact va_gets hx hb hKS.1 hS hown (hts _ (wq_in g4 rfl)) (fun _ h => h) hd (by rw [← pcO_of g1]; exact K)
  · cases g2
theorem oi_in : Cond.instanceMethod Lib.objectInit ∈ gtb ∧ Cond.code Lib.objectInit ⟨#[0xb1]⟩ 1 none ∈ gtb := by decide +kernel
/-- Object.<init> -/
theorem X_obj {o : Option Nat} {a : Nat} (hq : (mi_cd m)[i]? = some (pc, .monitorenter, ps)) (hd1 : 0 < d) (hst : ((st.map av_c).sum) ≤ 8) (ho1 : o = some a) (k : X m d (i + 1) L st P Q) : X m d i L (.inr (.inr o) :: st) P Q := by
  intro hok p l e1 R s mid args below meth c D rt B n0 u0 hC hL ls H locs hH hl hS
  obtain ⟨ri, len, hd, ho⟩ := okM_at hok hq
  have K := k hok p l e1 R s mid args below meth c D rt B n0 u0 hC hL ls H locs hH hl hS
  obtain ⟨hx, hb, hml, hret, hlk, -, hown, hts, hK, hNc, hKS, hRT, hrm, hcap, hsz⟩ := id hC
  rw [pcO_at hq]
  subst ho1
  obtain ⟨g1, g2⟩ := ok_h ho
  split at g2
  · next x =>
    obtain ⟨g3, g4⟩ := ok_2 g2
    subst g3
    have hsum : ((st.map (tv rt)).map fun v => v.category).sum ≤ 8 := by
      rw [List.map_map, show ((fun v : Value => v.category) ∘ tv rt) = av_c from funext (fun v => tv_c rt v)]
      exact hst
    have hroom := lv_room (m := mid) (pc := pc) (ls := ls) (rest := st.map (tv rt)) hsum
    exact W.objInit hx hb hown (hts _ (wq_in g4 rfl)) (hts _ oi_in.1) (hts _ oi_in.2) rfl (hl.1.trans hml.symm) rfl hd (by omega) (Nat.le_trans (Nat.add_le_add_right hroom 12) (by omega)) (by rw [← pcO_of g1]; exact K)
  · cases g2
end XM
