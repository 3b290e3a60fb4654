section XA
variable {m : MI} {d i : Nat} {L : AL} {st : List AV} {P : AP} {Q : Option AV → AP → Prop} {pc n : Nat} {ps : List Nat}
theorem ok_s {m : MI} {i pc len : Nat} {ri a : Instr} (h : (decide (pcq m (i + 1) = some (pc + len)) && decide (ri = a) && decide (len = 1)) = true) : pcq m (i + 1) = some (pc + 1) ∧ ri = a ∧ len = 1 := by
  obtain ⟨g1, g2, g3⟩ := ok_3 h
  subst g3
  exact ⟨g1, g2, rfl⟩
/-- arraylength -/
theorem X_alen {a : Nat} {e : AE} {z : Nat} (hq : (mi_cd m)[i]? = some (pc, .arraylength, ps)) (ha : P.1 a = some e) (hz : (match e with | .inl _ => none | .inr (.inl q) => some q.2.1 | .inr (.inr (.inl q)) => some q.1 | .inr (.inr (.inr q)) => some q.1) = some z) (k : X m d (i + 1) L (.inl (Int32.ofNat z) :: st) P Q) : X m d i L (.inr (.inr (some a)) :: st) P Q := by
  intro hok p l e1 R s mid args below meth c D rt B n0 u0 hC hL ls H locs hH hl hS
  obtain ⟨ri, len, hd, ho⟩ := okM_at hok hq
  have K := k hok p l e1 R s mid args below meth c D rt B n0 u0 hC hL ls H locs hH hl hS
  have hx := hC.1
  have hb := hC.2.1
  rw [pcO_at hq]
  obtain ⟨g1, rfl, rfl⟩ := ok_s ho
  have hat := (hH.1 a _ ha).1
  have K2 : W p l e1 R s mid args below meth c H locs (P.2.1 - n0) (P.2.2 - u0) (MQ below (XR D rt B Q) args s R.cells R.slots (fun q => B ≤ q)) (F0 mid (pc + 1) ls (.int (Int32.ofNat z) :: st.map (tv rt))) := by rw [← pcO_of g1]; exact K
  unfold AT at hat
  split at hat
  · cases hz
  · cases hz
    obtain ⟨cA, h1, h2⟩ := hat
    exact W.alen hx hb h2 (h1 _ _) (by rw [arrV_size]) rfl rfl hd K2
  · cases hz
    obtain ⟨⟨cA, h1, h2⟩, -⟩ := hat
    exact W.alen hx hb h2 (h1 _ _) (by rw [arrV_size]) rfl rfl hd K2
  · cases hz
    obtain ⟨cell, h1, h2, h3, h4, h5, h6⟩ := hat
    exact W.alen hx hb h1 h2 h5 rfl rfl hd K2
  · cases hz
    obtain ⟨cA, h1, h2⟩ := hat
    exact W.alen hx hb h2 (h1 _ _) (by rw [arrV_size]) rfl rfl hd K2
  · cases hz
    obtain ⟨cA, h1, -, h2⟩ := hat
    exact W.alen hx hb h2 (h1 _ _) (by rw [arrV_size]) rfl rfl hd K2
theorem inlt {j : Int32} {z : Nat} (hin : vp_in j z) : j.toNatClampNeg < z := Nat.not_le.mp fun q => hin (Or.inr q)
/-- iaload -/
theorem X_ild {a t z : Nat} {f : Nat → Int32} {j : Int32} (hq : (mi_cd m)[i]? = some (pc, .iaload, ps)) (ha : P.1 a = some (.inr (.inl (t, z, f)))) (ht : t ≠ 1) (hin : vp_in j z) (k : X m d (i + 1) L (.inl (f j.toNatClampNeg) :: st) P Q) : X m d i L (.inl j :: .inr (.inr (some a)) :: st) P Q := by
  intro hok p l e1 R s mid args below meth c D rt B n0 u0 hC hL ls H locs hH hl hS
  obtain ⟨ri, len, hd, ho⟩ := okM_at hok hq
  have K := k hok p l e1 R s mid args below meth c D rt B n0 u0 hC hL ls H locs hH hl hS
  have hx := hC.1
  have hb := hC.2.1
  rw [pcO_at hq]
  obtain ⟨g1, rfl, rfl⟩ := ok_s ho
  have hat := (hH.1 a _ ha).1
  have K2 : W p l e1 R s mid args below meth c H locs (P.2.1 - n0) (P.2.2 - u0) (MQ below (XR D rt B Q) args s R.cells R.slots (fun q => B ≤ q)) (F0 mid (pc + 1) ls (.int (f j.toNatClampNeg) :: st.map (tv rt))) := by rw [← pcO_of g1]; exact K
  have hlt := inlt hin
  match t, ht with
  | 0, _ =>
    obtain ⟨cA, h1, h2⟩ := hat
    exact W.iald (v := .int (f j.toNatClampNeg)) hx hb h2 (h1 _ _) (fun q => by cases q) (by rw [arrV_size]; exact hin) (arrV_read _ _ hlt) rfl rfl hd K2
  | 1, ht => exact absurd rfl ht
  | t + 2, _ =>
    obtain ⟨cell, h1, h2, h3, h4, h5, h6⟩ := hat
    exact W.iald (v := .int (f j.toNatClampNeg)) hx hb h1 h2 h3 (fun q => q.elim (fun z => hin (Or.inl z)) (fun z => by omega)) (h6 _ hlt) rfl rfl hd K2
/-- baload -/
theorem X_bld {a z : Nat} {f : Nat → Int32} {j : Int32} (hq : (mi_cd m)[i]? = some (pc, .baload, ps)) (ha : P.1 a = some (.inr (.inl (1, z, f)))) (hin : vp_in j z) (k : X m d (i + 1) L (.inl (f j.toNatClampNeg) :: st) P Q) : X m d i L (.inl j :: .inr (.inr (some a)) :: st) P Q := by
  intro hok p l e1 R s mid args below meth c D rt B n0 u0 hC hL ls H locs hH hl hS
  obtain ⟨ri, len, hd, ho⟩ := okM_at hok hq
  have K := k hok p l e1 R s mid args below meth c D rt B n0 u0 hC hL ls H locs hH hl hS
  have hx := hC.1
  have hb := hC.2.1
  rw [pcO_at hq]
  obtain ⟨g1, rfl, rfl⟩ := ok_s ho
  obtain ⟨⟨cA, h1, h2⟩, -⟩ := (hH.1 a _ ha).1
  exact W.bald (v := .int (f j.toNatClampNeg)) hx hb h2 (h1 _ _) (fun q => by cases q) (by rw [arrV_size]; exact hin) (arrV_read _ _ (inlt hin)) rfl rfl hd (by rw [← pcO_of g1]; exact K)
/-- laload -/
theorem X_lld {a z : Nat} {f : Nat → Int64} {j : Int32} (hq : (mi_cd m)[i]? = some (pc, .laload, ps)) (ha : P.1 a = some (.inr (.inr (.inl (z, f))))) (hin : vp_in j z) (k : X m d (i + 1) L (.inr (.inl (f j.toNatClampNeg)) :: st) P Q) : X m d i L (.inl j :: .inr (.inr (some a)) :: st) P Q := by
  intro hok p l e1 R s mid args below meth c D rt B n0 u0 hC hL ls H locs hH hl hS
  obtain ⟨ri, len, hd, ho⟩ := okM_at hok hq
  have K := k hok p l e1 R s mid args below meth c D rt B n0 u0 hC hL ls H locs hH hl hS
  have hx := hC.1
  have hb := hC.2.1
  rw [pcO_at hq]
  obtain ⟨g1, rfl, rfl⟩ := ok_s ho
  obtain ⟨cA, h1, h2⟩ := (hH.1 a _ ha).1
  exact W.lald (v := .long (f j.toNatClampNeg)) hx hb h2 (h1 _ _) (fun q => by cases q) (by rw [arrV_size]; exact hin) (arrV_read _ _ (inlt hin)) rfl rfl hd (by rw [← pcO_of g1]; exact K)
/-- aaload -/
theorem XF_ald {F : PostT} {a z : Nat} {f : Nat → Option Nat} {j : Int32} (hq : (mi_cd m)[i]? = some (pc, .aaload, ps)) (ha : P.1 a = some (.inr (.inr (.inr (z, f))))) (hin : vp_in j z) (k : XF m d (i + 1) L (.inr (.inr (f j.toNatClampNeg)) :: st) P F) : XF m d i L (.inl j :: .inr (.inr (some a)) :: st) P F := by
  intro hok p l e1 R s mid args below meth c D rt B n0 u0 hC hL ls H locs hH hl hS
  obtain ⟨ri, len, hd, ho⟩ := okM_at hok hq
  have K := k hok p l e1 R s mid args below meth c D rt B n0 u0 hC hL ls H locs hH hl hS
  have hx := hC.1
  have hb := hC.2.1
  rw [pcO_at hq]
  obtain ⟨g1, rfl, rfl⟩ := ok_s ho
  obtain ⟨cA, h1, -, h2⟩ := (hH.1 a _ ha).1
  exact W.aald (v := tv rt (.inr (.inr (f j.toNatClampNeg)))) hx hb h2 (h1 _ _) rfl (fun q => by cases q) (by rw [arrV_size]; exact hin) (arrV_read _ _ (inlt hin)) rfl rfl hd (by rw [← pcO_of g1]; exact K)
theorem X_ald {a z : Nat} {f : Nat → Option Nat} {j : Int32} (hq : (mi_cd m)[i]? = some (pc, .aaload, ps)) (ha : P.1 a = some (.inr (.inr (.inr (z, f))))) (hin : vp_in j z) (k : X m d (i + 1) L (.inr (.inr (f j.toNatClampNeg)) :: st) P Q) : X m d i L (.inl j :: .inr (.inr (some a)) :: st) P Q := XF_ald hq ha hin k
theorem arr_fin {D : va_G} {rt : Nat → Nat} {B : Nat} {U : State} {P : AP} {H H1 : Heap} {a z : Nat} {cA : ClassId} {F : Nat → Value} {e : AE} {k : Nat} {v : Value} {F1 : Nat → Value} (hR : RTp B rt) (h : HR D rt B U P H) (ha : a < P.2.1) (h2 : H[rt a]? = some (arrV cA z F)) (e1 : H1[rt a]? = some ((arrV cA z F).setSlot k v)) (hF : ∀ j, updV F k v j = F1 j) (hat : H1[rt a]? = some (arrV cA z F1) → AT D rt U a e H1) (hok : aok P.2.1 a e) (hz : H1.size = H.size) (oq : ∀ q : Nat, q ≠ rt a → H1[q]? = H[q]?) : HR D rt B U (hup P.1 a e, P.2) H1 := by
  refine h.set hR ha (hat ?_) hok hz oq ?_
  · rw [e1, arrV_store]
    congr 2
    funext j
    exact hF j
  · rw [e1, h2]
    simp [k2_slotsz]
/-- iastore -/
theorem X_ist {a z : Nat} {f : Nat → Int32} {j x : Int32} (hq : (mi_cd m)[i]? = some (pc, .iastore, ps)) (ha : P.1 a = some (.inr (.inl (0, z, f)))) (hin : vp_in j z) (k : X m d (i + 1) L st (hup P.1 a (.inr (.inl (0, z, upd f j.toNatClampNeg x))), P.2) Q) : X m d i L (.inl x :: .inl j :: .inr (.inr (some a)) :: st) P Q := by
  intro hok p l e1 R s mid args below meth c D rt B n0 u0 hC hL ls H locs hH hl hS
  obtain ⟨ri, len, hd, ho⟩ := okM_at hok hq
  have K := k hok p l e1 R s mid args below meth c D rt B n0 u0 hC hL ls
  obtain ⟨hx, hb, -, -, -, -, hown, hts, hK, -, -, hRT, -, hcap, hsz⟩ := id hC
  rw [pcO_at hq]
  obtain ⟨g1, rfl, rfl⟩ := ok_s ho
  have hown1 := hH.own ha (fun _ _ h => by cases h)
  obtain ⟨cA, h1, h2⟩ := (hH.1 a _ ha).1
  have hBa : B ≤ rt a := by rw [hRT.1 a (by unfold ax; have := hH.2.2.2.1; omega)]; omega
  refine W.iast hx hb h2 (h1 _ _) (fun q => by cases q) (by rw [arrV_size]; exact hin) rfl rfl hd fun H1 e z1 oq => ?_
  rw [show (F0 mid pc ls (List.map (tv rt) (.inl x :: .inl j :: .inr (.inr (some a)) :: st))).pc + 1 = pcO m (i + 1) from (pcO_of g1).symm]
  exact K H1 _ (arr_fin hRT hH hown1 h2 e (F1 := fun q => .int (upd f j.toNatClampNeg x q)) (fun q => by by_cases h : q = j.toNatClampNeg <;> simp [updV, upd, h]) (fun h => ⟨cA, h1, h⟩) (Or.inl hown1) z1 oq) hl (hS.put z1 oq hBa)
/-- bastore -/
theorem X_bst {a z : Nat} {f : Nat → Int32} {j x : Int32} (hq : (mi_cd m)[i]? = some (pc, .bastore, ps)) (ha : P.1 a = some (.inr (.inl (1, z, f)))) (hin : vp_in j z) (k : X m d (i + 1) L st (hup P.1 a (.inr (.inl (1, z, upd f j.toNatClampNeg x.toInt8.toInt32))), P.2) Q) : X m d i L (.inl x :: .inl j :: .inr (.inr (some a)) :: st) P Q := by
  intro hok p l e1 R s mid args below meth c D rt B n0 u0 hC hL ls H locs hH hl hS
  obtain ⟨ri, len, hd, ho⟩ := okM_at hok hq
  have K := k hok p l e1 R s mid args below meth c D rt B n0 u0 hC hL ls
  obtain ⟨hx, hb, -, -, -, -, hown, hts, hK, -, -, hRT, -, hcap, hsz⟩ := id hC
  rw [pcO_at hq]
  obtain ⟨g1, rfl, rfl⟩ := ok_s ho
  have hown1 := hH.own ha (fun _ _ h => by cases h)
  obtain ⟨⟨cA, h1, h2⟩, hft⟩ := (hH.1 a _ ha).1
  have hBa : B ≤ rt a := by rw [hRT.1 a (by unfold ax; have := hH.2.2.2.1; omega)]; omega
  refine W.bast hx hb h2 (h1 _ _) (fun q => by cases q) (by rw [arrV_size]; exact hin) rfl rfl hd fun H1 e z1 oq => ?_
  rw [show (F0 mid pc ls (List.map (tv rt) (.inl x :: .inl j :: .inr (.inr (some a)) :: st))).pc + 1 = pcO m (i + 1) from (pcO_of g1).symm]
  refine K H1 _ (arr_fin hRT hH hown1 h2 e (F1 := fun q => .int (upd f j.toNatClampNeg x.toInt8.toInt32 q)) (fun q => by rw [narrow_byte]; by_cases h : q = j.toNatClampNeg <;> simp [updV, upd, h]) (fun h => ⟨⟨cA, h1, h⟩, fun q => ?_⟩) (Or.inl hown1) z1 oq) hl (hS.put z1 oq hBa)
  by_cases h : q = j.toNatClampNeg
  · simp only [upd, h, if_true]; exact pk_fb x
  · simp only [upd, h, if_false]; exact hft q
/-- lastore -/
theorem X_lst {a z : Nat} {f : Nat → Int64} {j : Int32} {x : Int64} (hq : (mi_cd m)[i]? = some (pc, .lastore, ps)) (ha : P.1 a = some (.inr (.inr (.inl (z, f))))) (hin : vp_in j z) (k : X m d (i + 1) L st (hup P.1 a (.inr (.inr (.inl (z, vp_updL f j.toNatClampNeg x)))), P.2) Q) : X m d i L (.inr (.inl x) :: .inl j :: .inr (.inr (some a)) :: st) P Q := by
  intro hok p l e1 R s mid args below meth c D rt B n0 u0 hC hL ls H locs hH hl hS
  obtain ⟨ri, len, hd, ho⟩ := okM_at hok hq
  have K := k hok p l e1 R s mid args below meth c D rt B n0 u0 hC hL ls
  obtain ⟨hx, hb, -, -, -, -, hown, hts, hK, -, -, hRT, -, hcap, hsz⟩ := id hC
  rw [pcO_at hq]
  obtain ⟨g1, rfl, rfl⟩ := ok_s ho
  have hown1 := hH.own ha (fun _ _ h => by cases h)
  obtain ⟨cA, h1, h2⟩ := (hH.1 a _ ha).1
  have hBa : B ≤ rt a := by rw [hRT.1 a (by unfold ax; have := hH.2.2.2.1; omega)]; omega
  refine W.last hx hb h2 (h1 _ _) (fun q => by cases q) (by rw [arrV_size]; exact hin) rfl rfl hd fun H1 e z1 oq => ?_
  rw [show (F0 mid pc ls (List.map (tv rt) (.inr (.inl x) :: .inl j :: .inr (.inr (some a)) :: st))).pc + 1 = pcO m (i + 1) from (pcO_of g1).symm]
  exact K H1 _ (arr_fin hRT hH hown1 h2 e (F1 := fun q => .long (vp_updL f j.toNatClampNeg x q)) (fun q => by by_cases h : q = j.toNatClampNeg <;> simp [updV, vp_updL, h]) (fun h => ⟨cA, h1, h⟩) hown1 z1 oq) hl (hS.put z1 oq hBa)
/-- classes whose objects go into arrays of Thing -/
def thq (ci : Nat) : Bool := ci == 4 || ci == 6 || ci == 7 || ci == 8
theorem th_in : ∀ (ci : Nat) (r : vw_C), thq ci = true → am_cl[ci]? = some r → Cond.castable r.1 am_th ∈ ntb := by
  intro ci r h hr
  have h2 : ci = 4 ∨ ci = 6 ∨ ci = 7 ∨ ci = 8 := by simpa [thq, or_assoc] using h
  rcases h2 with rfl | rfl | rfl | rfl
  · cases hr; decide +kernel
  · cases hr; decide +kernel
  · cases hr; decide +kernel
  · cases hr; decide +kernel
/-- aastore -/
theorem X_ast {a z : Nat} {f : Nat → Option Nat} {j : Int32} {o : Option Nat} (hq : (mi_cd m)[i]? = some (pc, .aastore, ps)) (ha : P.1 a = some (.inr (.inr (.inr (z, f))))) (hin : vp_in j z) (ho : ∀ v, o = some v → ∃ ci fs, P.1 v = some (.inl (ci, fs)) ∧ thq ci = true) (k : X m d (i + 1) L st (hup P.1 a (.inr (.inr (.inr (z, va_up f j.toNatClampNeg o)))), P.2) Q) : X m d i L (.inr (.inr o) :: .inl j :: .inr (.inr (some a)) :: st) P Q := by
  intro hok p l e1 R s mid args below meth c D rt B n0 u0 hC hL ls H locs hH hl hS
  obtain ⟨ri, len, hd, ho2⟩ := okM_at hok hq
  have K := k hok p l e1 R s mid args below meth c D rt B n0 u0 hC hL ls
  obtain ⟨hx, hb, -, -, -, -, hown, hts, hK, -, hKS, hRT, -, hcap, hsz⟩ := id hC
  rw [pcO_at hq]
  obtain ⟨g1, rfl, rfl⟩ := ok_s ho2
  have hown1 := hH.own ha (fun _ _ h => by cases h)
  obtain ⟨cA, h1, hra, h2⟩ := (hH.1 a _ ha).1
  have hBa : B ≤ rt a := by rw [hRT.1 a (by unfold ax; have := hH.2.2.2.1; omega)]; omega
  have hlt := inlt hin
  have h0 : ¬ j < 0 := fun q => hin (Or.inl q)
  have fin : ∀ H1 : Heap, H1[rt a]? = some ((arrV cA z (fun j => tv rt (.inr (.inr (f j))))).setSlot j.toNatClampNeg (tv rt (.inr (.inr o)))) → H1.size = H.size → (∀ q, q ≠ rt a → H1[q]? = H[q]?) → W p l e1 R s mid args below meth c H1 (locs ++ [⟨rt a, j.toNatClampNeg⟩]) (P.2.1 - n0) (P.2.2 - u0) (MQ below (XR D rt B Q) args s R.cells R.slots (fun q => B ≤ q)) (F0 mid (pc + 1) ls (st.map (tv rt))) := by
    intro H1 e z1 oq
    rw [← pcO_of g1]
    exact K H1 _ (arr_fin hRT hH hown1 h2 e (F1 := fun q => tv rt (.inr (.inr (va_up f j.toNatClampNeg o q)))) (fun q => by by_cases h : q = j.toNatClampNeg <;> simp [updV, va_up, h]) (fun h => ⟨cA, h1, hra, h⟩) hown1 z1 oq) hl (hS.put z1 oq hBa)
  cases o with
  | none => exact va_WaastN hx hb h2 (h1 _ _) (fun q => by cases q) (by rw [arrV_size]; exact hin) rfl rfl hd fun H1 e z1 oq => fin H1 e z1 oq
  | some v =>
    obtain ⟨ci, fs, hv, hth⟩ := ho v rfl
    obtain ⟨r, hr, -, cellV, q1, q2, q3, -⟩ := (hH.1 v _ hv).1
    have hcls := (hK.1 ci r hr).2
    obtain ⟨kA, comp, k1, k2, k3, -⟩ := hra
    obtain ⟨kE, hkE, -⟩ := Vm.findClass_spec k3
    obtain ⟨c0, t1, f1, f2, f3⟩ := Cond.castable_spec (va_Nw.use (A := args) rfl (hKS.2.2.2 _ (th_in ci r hth hr)))
    cases hcls.1.symm.trans f1
    cases k3.symm.trans f2
    obtain ⟨kC, hkC, -⟩ := hcls.2
    exact W.aast hx hb h2 (fun q h => by cases h) (fun h => by cases h) k1 k2 rfl hkE ⟨h0, by rw [arrV_size]; exact hlt⟩ q1 (fun q h => by rw [q3] at h; cases h) (by rw [q2]; exact hkC) (by rw [q2]; exact f3) rfl rfl hd fun H1 e z1 oq => fin H1 e z1 oq
end XA
