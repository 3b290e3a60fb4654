/-! sums of slots -/
theorem usm_eq {B : Nat} {H H1 : Heap} (h : ∀ q : Nat, (H1[q]?).map (·.slots.size) = (H[q]?).map (·.slots.size)) : usm B H1 = usm B H := by
  unfold usm
  congr 1
  rw [List.map_drop, List.map_drop]
  congr 1
  refine List.ext_getElem? fun q => ?_
  rw [List.getElem?_map, List.getElem?_map, Array.getElem?_toList, Array.getElem?_toList]
  exact h q
theorem usm_push {B : Nat} {H : Heap} {c : Cell} (hB : B ≤ H.size) : usm B (H.push c) = usm B H + c.slots.size := by
  unfold usm
  rw [Array.toList_push, List.drop_append_of_le_length (by rw [Array.length_toList]; exact hB)]
  simp
theorem W_tight {p : Program} {l : Launch} {e : Env} {R : Room} {s : State} {m : MethodId} {args : Array Value} {below : List Frame} {meth : Method} {c : Code} {H : Heap} {locs : List Loc} {cells slots : Nat} {Q : State → Prop} {g : JFrame} {B nx us n0 u0 : Nat}
    (hn : H.size = B + nx) (hu : usm B H = us) (h0 : s.heap.size = B + n0) (hu0 : usm B s.heap = u0) (kk : n0 ≤ nx → u0 ≤ us → W p l e R s m args below meth c H locs (nx - n0) (us - u0) Q g) : W p l e R s m args below meth c H locs cells slots Q g := by
  intro T hT X
  obtain ⟨e1, h1, h2, h3, h4, h5⟩ := X.same
  have hTh : (T.setVm s.vm).heap = H := hT
  rw [hTh] at h1 h2 h3 h4 h5
  have hl : H.toList.map (·.slots.size) = s.heap.toList.map (·.slots.size) ++ (H.toList.drop s.heap.size).map (·.slots.size) := by
    rw [List.map_drop]
    have ht : (H.toList.map (·.slots.size)).take s.heap.size = s.heap.toList.map (·.slots.size) := by
      refine List.ext_getElem? fun q => ?_
      rw [List.getElem?_take]
      by_cases hq : q < s.heap.size
      · rw [if_pos hq, List.getElem?_map, List.getElem?_map, Array.getElem?_toList, Array.getElem?_toList]
        obtain ⟨c', h6, -, h7, -⟩ := h5 q (s.heap[q]) (Array.getElem?_eq_getElem hq)
        rw [h6, Array.getElem?_eq_getElem hq]
        simp [h7]
      · rw [if_neg hq, List.getElem?_map, Array.getElem?_toList, Array.getElem?_eq_none (by omega)]
        rfl
    rw [← ht]
    exact (List.take_append_drop _ _).symm
  have h8 : usm B H = usm B s.heap + ((H.toList.drop s.heap.size).map (·.slots.size)).sum := by
    unfold usm
    rw [List.map_drop, hl, List.drop_append_of_le_length (by rw [List.length_map, Array.length_toList]; omega), List.sum_append, List.map_drop]
    congr 1
    simp
  refine kk (by omega) (by omega) T hT { X with same := ?_ }
  refine ⟨e1, by rw [hTh]; exact h1, by rw [hTh]; omega, by rw [hTh]; exact h3, ?_, by rw [hTh]; exact h5⟩
  rw [hTh]
  omega
/-! reads and writes of the layer's heap -/
def hup (h : AH) (a : Nat) (e : AE) : AH := fun q => if q = a then some e else h q
theorem hup_s (h : AH) (a : Nat) (e : AE) : hup h a e a = some e := if_pos rfl
theorem hup_n {h : AH} {a q : Nat} {e : AE} (n : q ≠ a) : hup h a e q = h q := if_neg n
theorem RTp.ne {B : Nat} {rt : Nat → Nat} (h : RTp B rt) {a b : Nat} (ha : a < ax) (hf : b ≠ am_fm) (hn : b ≠ a) : rt b ≠ rt a := by
  rw [h.1 a ha]
  by_cases hb : b < ax
  · rw [h.1 b hb]; omega
  · have := h.2 b (by omega) hf; omega
theorem aok_fm {nx a : Nat} {e : AE} (hx : nx ≤ 601024) (h : aok nx a e) : a ≠ am_fm := by
  unfold aok at h
  split at h
  · rcases h with h | h
    · unfold am_fm; omega
    · exact h.2.2
  · unfold am_fm; omega
theorem HR.set {D : va_G} {rt : Nat → Nat} {B : Nat} {U : State} {P : AP} {H H1 : Heap} {a : Nat} {e : AE} (hR : RTp B rt) (h : HR D rt B U P H) (ha : a < P.2.1) (hat : AT D rt U a e H1) (hok : aok P.2.1 a e) (hz : H1.size = H.size) (oq : ∀ q : Nat, q ≠ rt a → H1[q]? = H[q]?) (hu : (H1[rt a]?).map (·.slots.size) = (H[rt a]?).map (·.slots.size)) : HR D rt B U (hup P.1 a e, P.2) H1 := by
  obtain ⟨h1, h2, h3, h4, h5⟩ := h
  have hx : a < ax := by unfold ax; omega
  refine ⟨fun b e' hb => ?_, by rw [hz]; exact h2, ?_, h4, h5⟩
  · by_cases hn : b = a
    · subst hn
      have hb2 : some e = some e' := by rw [← hb]; exact (hup_s _ _ _).symm
      cases hb2
      exact ⟨hat, hok⟩
    · have hb2 : P.1 b = some e' := by rw [← hb]; exact (hup_n hn).symm
      exact ⟨(h1 b e' hb2).1.kept (oq _ (hR.ne hx (aok_fm h4 (h1 b e' hb2).2) hn)), (h1 b e' hb2).2⟩
  · refine (usm_eq fun q => ?_).trans h3
    by_cases hq : q = rt a
    · subst hq; exact hu
    · rw [oq q hq]
theorem HR.new {D : va_G} {rt : Nat → Nat} {B : Nat} {U : State} {P : AP} {H : Heap} {c : Cell} {e : AE} (hR : RTp B rt) (h : HR D rt B U P H) (hat : AT D rt U P.2.1 e (H.push c)) (hok : aok (P.2.1 + 1) P.2.1 e) (hn : P.2.1 + 1 ≤ 601024) (hu : P.2.2 + c.slots.size ≤ 7293034) : HR D rt B U (hup P.1 P.2.1 e, P.2.1 + 1, P.2.2 + c.slots.size) (H.push c) := by
  obtain ⟨h1, h2, h3, h4, h5⟩ := h
  have hx : P.2.1 < ax := by unfold ax; omega
  refine ⟨fun b e' hb => ?_, by rw [Array.size_push, h2]; rfl, ?_, hn, hu⟩
  · by_cases hb1 : b = P.2.1
    · subst hb1
      have hb2 : some e = some e' := by rw [← hb]; exact (hup_s _ _ _).symm
      cases hb2
      exact ⟨hat, hok⟩
    · have hb2 : P.1 b = some e' := by rw [← hb]; exact (hup_n hb1).symm
      obtain ⟨g1, g2⟩ := h1 b e' hb2
      refine ⟨g1.kept ?_, ?_⟩
      · rw [Array.getElem?_push, if_neg]
        have := hR.ne hx (aok_fm h4 g2) hb1
        rw [hR.1 _ hx] at this
        rw [h2]
        exact this
      · revert g2
        unfold aok
        split
        · intro g
          rcases g with g | g
          · exact Or.inl (by dsimp only; omega)
          · exact Or.inr g
        · intro g; dsimp only at g ⊢; omega
  · show usm B (H.push c) = P.2.2 + c.slots.size
    rw [usm_push (by omega), h3]
theorem HR.own {D : va_G} {rt : Nat → Nat} {B : Nat} {U : State} {P : AP} {H : Heap} {a : Nat} {e : AE} (h : HR D rt B U P H) (ha : P.1 a = some e) (ho : ∀ n f, e ≠ .inr (.inl (2, n, f))) : a < P.2.1 := by
  have h1 := (h.1 a e ha).2
  unfold aok at h1
  split at h1
  · next t n f =>
    rcases h1 with h1 | ⟨rfl, -⟩
    · exact h1
    · exact absurd rfl (ho _ _)
  · exact h1
/-! values fit -/
def vfit (ty : FieldType) (v : AV) : Bool := match ty, v with
  | .int, .inl _ => true
  | .boolean, .inl x => decide (x = 0) || decide (x = 1)
  | .long, .inr (.inl _) => true
  | .object _, .inr (.inr _) => true
  | .array _, .inr (.inr _) => true
  | _, _ => false
theorem vfit_ok {ty : FieldType} {v : AV} (rt : Nat → Nat) (h : vfit ty v = true) : narrow ty (tv rt v) = tv rt v ∧ fits ty (tv rt v) = true := by
  unfold vfit at h
  split at h
  · exact ⟨rfl, rfl⟩
  · next x =>
    rcases (by simpa using h : x = 0 ∨ x = 1) with rfl | rfl
    · exact ⟨rfl, rfl⟩
    · exact ⟨rfl, rfl⟩
  · exact ⟨rfl, rfl⟩
  · next o => cases o <;> exact ⟨rfl, rfl⟩
  · next o => cases o <;> exact ⟨rfl, rfl⟩
  · cases h
def dfv (ty : FieldType) : AV := match ty with
  | .long => .inr (.inl 0)
  | .object _ => .inr (.inr none)
  | .array _ => .inr (.inr none)
  | _ => .inl 0
def dfs (ci n : Nat) : List AV := (List.range n).map fun k => dfv (am_ty ci k)
def tyq (ty : FieldType) : Bool := match ty with
  | .float => false
  | .double => false
  | _ => true
theorem dfv_ok {ty : FieldType} (rt : Nat → Nat) (h : tyq ty = true) : defaultValue ty = tv rt (dfv ty) := by
  cases ty <;> first | rfl | cases h
theorem ty_all : ((List.range 11).all fun ci => (List.range 40).all fun k => tyq (am_ty ci k)) = true := by decide +kernel
theorem cl_len {ci : Nat} {r : vw_C} (h : am_cl[ci]? = some r) : ci < 11 ∧ r.2.2 < 40 := by
  match ci, h with
  | 0, h => cases h; decide
  | 1, h => cases h; decide
  | 2, h => cases h; decide
  | 3, h => cases h; decide
  | 4, h => cases h; decide
  | 5, h => cases h; decide
  | 6, h => cases h; decide
  | 7, h => cases h; decide
  | 8, h => cases h; decide
  | 9, h => cases h; decide
  | 10, h => cases h; decide
  | k + 11, h => simp [am_cl] at h
theorem ty_at {ci k : Nat} {r : vw_C} (h : am_cl[ci]? = some r) (hk : k < r.2.2) : tyq (am_ty ci k) = true := by
  obtain ⟨h1, h2⟩ := cl_len h
  have := List.all_eq_true.mp ty_all ci (List.mem_range.mpr h1)
  exact List.all_eq_true.mp this k (List.mem_range.mpr (by omega))
section XH
variable {m : MI} {d i : Nat} {L : AL} {st : List AV} {P : AP} {Q : Option AV → AP → Prop} {pc n : Nat} {ps : List Nat}
theorem okF {m : MI} {i pc n : Nat} {ps : List Nat} {ri : Instr} {len : Nat} (h : okR m i pc (.getfield n) ps ri len = true) : pcq m (i + 1) = some (pc + 3) ∧ ∃ x r, ri = .getfield x ∧ len = 3 ∧ am_cl[n / 64]? = some r ∧ n % 64 < r.2.2 ∧ Cond.fieldLink (mi_y m).cls x (r.2.1 (n % 64)).1 (r.2.1 (n % 64)).2.1 (r.2.1 (n % 64)).2.2.1 ∈ gtb := by
  obtain ⟨g1, g2⟩ := ok_h h
  split at g2
  · next x =>
    obtain ⟨g3, g4⟩ := ok_h g2
    subst g3
    split at g4
    · next r hr =>
      obtain ⟨g5, g6⟩ := ok_2 g4
      exact ⟨g1, x, r, rfl, rfl, hr, g5, wq_in g6 rfl⟩
    · cases g4
  · cases g2
/-- getfield -/
theorem XF_getf {F : PostT} {a : Nat} {fs : List AV} {v : AV} (hq : (mi_cd m)[i]? = some (pc, .getfield n, ps)) (ha : P.1 a = some (.inl (n / 64, fs))) (hv : fs[n % 64]? = some v) (k : XF m d (i + 1) L (v :: st) P F) : XF m d i L (.inr (.inr (some a)) :: st) P F := by
  intro hok p l e R s mid args below meth c D rt B n0 u0 hC hL ls H locs hH hl hS
  obtain ⟨ri, len, hd, ho⟩ := okM_at hok hq
  have K := k hok p l e R s mid args below meth c D rt B n0 u0 hC hL ls H locs hH hl hS
  obtain ⟨hx, hb, -, -, -, -, hown, hts, hK, -⟩ := id hC
  rw [pcO_at hq]
  obtain ⟨g1, x, r, rfl, rfl, hr, hk, hw⟩ := okF ho
  obtain ⟨r', hr', hfl, cell, q1, q2, q3, q4⟩ := (hH.1 a _ ha).1
  cases hr.symm.trans hr'
  obtain ⟨hSl, hfc, kC, hkC, hkind⟩ := hK.1 (n / 64) _ hr
  obtain ⟨cf, kf, fi, f, hi, hsl⟩ := hSl (n % 64) hk
  refine W.getf hx hb hown (hts _ hw) hi (u_facts hfc hkC (u_lays hts (cl_in _ _ hr) hk) hi).1 q1 (by rw [q3]; exact fun h => by cases h) (v := tv rt v) ?_ rfl rfl hd (by rw [← pcO_of g1]; exact K)
  rw [hsl, q4 _ hk]
  simp [List.getD_eq_getElem?_getD, hv]
theorem X_getf {a : Nat} {fs : List AV} {v : AV} (hq : (mi_cd m)[i]? = some (pc, .getfield n, ps)) (ha : P.1 a = some (.inl (n / 64, fs))) (hv : fs[n % 64]? = some v) (k : X m d (i + 1) L (v :: st) P Q) : X m d i L (.inr (.inr (some a)) :: st) P Q := XF_getf hq ha hv k
theorem getD_set {fs : List AV} {k : Nat} {v : AV} (rt : Nat → Nat) (hk : k < fs.length) (j : Nat) : updV (fun k => tv rt (fs.getD k (.inl 0))) k (tv rt v) j = tv rt ((fs.set k v).getD j (.inl 0)) := by
  by_cases h : j = k
  · subst h
    simp [updV, List.getD_eq_getElem?_getD, List.getElem?_set_self hk]
  · simp [updV, h, List.getD_eq_getElem?_getD, List.getElem?_set_ne (Ne.symm h)]
theorem okP {m : MI} {i pc n : Nat} {ps : List Nat} {ri : Instr} {len : Nat} (h : okR m i pc (.putfield n) ps ri len = true) : pcq m (i + 1) = some (pc + 3) ∧ ∃ x r, ri = .putfield x ∧ len = 3 ∧ am_cl[n / 64]? = some r ∧ n % 64 < r.2.2 ∧ Cond.fieldLink (mi_y m).cls x (r.2.1 (n % 64)).1 (r.2.1 (n % 64)).2.1 (r.2.1 (n % 64)).2.2.1 ∈ gtb ∧ ((r.2.1 (n % 64)).2.2.2 = false ∨ ((r.2.1 (n % 64)).2.2.2 = true ∧ (mi_y m).name = "<init>" ∧ (r.2.1 (n % 64)).1 = (mi_y m).cls)) := by
  obtain ⟨g1, g2⟩ := ok_h h
  split at g2
  · next x =>
    obtain ⟨g3, g4⟩ := ok_h g2
    subst g3
    split at g4
    · next r hr =>
      simp only [Bool.and_eq_true, Bool.or_eq_true, decide_eq_true_eq] at g4
      obtain ⟨⟨g5, g6⟩, g7⟩ := g4
      exact ⟨g1, x, r, rfl, rfl, hr, g5, wq_in g6 rfl, g7.imp id (fun z => ⟨z.1.1, z.1.2, z.2⟩)⟩
    · cases g4
  · cases g2
/-- putfield -/
theorem X_putf {a : Nat} {fs : List AV} {v : AV} (hq : (mi_cd m)[i]? = some (pc, .putfield n, ps)) (ha : P.1 a = some (.inl (n / 64, fs))) (hv : vfit (am_ty (n / 64) (n % 64)) v = true) (k : X m d (i + 1) L st (hup P.1 a (.inl (n / 64, fs.set (n % 64) v)), P.2) Q) : X m d i L (v :: .inr (.inr (some a)) :: st) P Q := by
  intro hok p l e R s mid args below meth c D rt B n0 u0 hC hL ls H locs hH hl hS
  obtain ⟨ri, len, hd, ho⟩ := okM_at hok hq
  have K := k hok p l e R s mid args below meth c D rt B n0 u0 hC hL ls
  obtain ⟨hx, hb, -, -, -, hnm, hown, hts, hK, -, -, hRT, -, -, -⟩ := id hC
  rw [pcO_at hq]
  obtain ⟨g1, x, r, rfl, rfl, hr, hk, hw, hfin⟩ := okP ho
  have hown1 := hH.own ha (fun _ _ h => by cases h)
  obtain ⟨r', hr', hfl, cell, q1, q2, q3, q4⟩ := (hH.1 a _ ha).1
  cases hr.symm.trans hr'
  have hin := cl_in _ _ hr
  have hap := va_apart (own := (mi_y m).cls) hts hin (am_ty (n / 64)) (cl_ty _ _ hr) (cl_nm _ _ hr) hK hr
  obtain ⟨hSl, hfc, kC, hkC, hkind⟩ := hK.1 (n / 64) _ hr
  obtain ⟨cf, kf, fi, f, hi, hsl⟩ := hSl (n % 64) hk
  have hlay := hts _ (hin _ (u_in_lay hk))
  have hst := (u_facts hfc hkC (u_lays hts hin hk) hi).1
  obtain ⟨hn1, hn2⟩ := vfit_ok rt hv
  have hBa : B ≤ rt a := by rw [hRT.1 a (by unfold ax; have := hH.2.2.2.1; omega)]; omega
  have fin : ∀ H' : Heap, H'[rt a]? = some (cell.setSlot (D.2 (n / 64) (n % 64)) (tv rt v)) → H'.size = H.size → (∀ q, q ≠ rt a → H'[q]? = H[q]?) → W p l e R s mid args below meth c H' (locs ++ [⟨rt a, D.2 (n / 64) (n % 64)⟩]) (P.2.1 - n0) (P.2.2 - u0) (MQ below (XR D rt B Q) args s R.cells R.slots (fun q => B ≤ q)) (F0 mid (pc + 3) ls (st.map (tv rt))) := by
    intro H' e1 e2 e3
    rw [← pcO_of g1]
    refine K H' _ (hH.set hRT hown1 ⟨r, hr, by rw [List.length_set]; exact hfl, ?_⟩ (by show a < P.2.1; exact hown1) e2 e3 ?_) hl (hS.put e2 e3 hBa)
    · exact t_OB.to (V := updV (fun k => tv rt (fs.getD k (.inl 0))) (n % 64) (tv rt v)) ⟨_, e1, q2, q3, t_set q4 hap hk _⟩ (fun j _ => getD_set rt (by rw [hfl]; exact hk) j)
    · rw [e1, q1]
      simp [k2_slotsz]
  unfold u_lay at hlay
  rcases hfin with hfin | ⟨hfin, hini, hdecl⟩
  · rw [if_neg (by rw [hfin]; decide)] at hlay
    have h6 := u_store hfc hkC hkind hlay hi (cl_ty _ _ hr _ hk) hn1 hn2
    refine W.putK hx hb (f := f) ⟨hown, hts _ hw, ⟨_, _, _, hi⟩, hst⟩ (by rw [q2]; exact h6) q1 q3 (by rw [hsl]; exact k2_hasslot (q4 _ hk)) rfl rfl hd fun H' e1 e2 e3 => ?_
    rw [hsl] at e1 ⊢
    exact fin H' e1 e2 e3
  · rw [if_pos hfin] at hlay
    have hcf : mid.cls = cf := by
      obtain ⟨_, _, c', _, _, _, -, -, hf', -, -, -, hown2, -⟩ := Cond.laysFinal_spec hlay
      have e1 : c' = cf := by have := hi.symm.trans hf'; simp at this; exact this.1.symm
      rw [hdecl] at hown2
      rw [← e1]; exact Option.some.inj (hown.symm.trans hown2)
    have h6 := u_fits hfc hkC hkind (Or.inr hlay) hi (cl_ty _ _ hr _ hk) hn1 hn2
    refine W.putFinK hx hb hown (hts _ hw) hi hst hcf (hnm.trans hini) (by rw [q2]; exact h6) q1 q3 (by rw [hsl]; exact k2_hasslot (q4 _ hk)) rfl rfl hd fun H' e1 e2 e3 => ?_
    rw [hsl] at e1 ⊢
    exact fin H' e1 e2 e3
/-- new -/
theorem X_new {N : Nat} {C : String} {T : u_T} (hq : (mi_cd m)[i]? = some (pc, .new n, ps)) (hc : am_cl[n]? = some (C, T, N)) (h1 : P.2.1 + 1 ≤ 601024) (h2 : P.2.2 + N ≤ 7293034) (k : X m d (i + 1) L (.inr (.inr (some P.2.1)) :: st) (hup P.1 P.2.1 (.inl (n, dfs n N)), P.2.1 + 1, P.2.2 + N) Q) : X m d i L st P Q := by
  intro hok p l e R s mid args below meth c D rt B n0 u0 hC hL ls H locs hH hl hS
  obtain ⟨ri, len, hd, ho⟩ := okM_at hok hq
  have K := k hok p l e R s mid args below meth c D rt B n0 u0 hC hL ls
  obtain ⟨hx, hb, -, -, -, -, hown, hts, hK, -, -, hRT, -, hcap, hsz⟩ := id hC
  rw [pcO_at hq]
  obtain ⟨g1, g2⟩ := ok_h ho
  split at g2
  · next x =>
    obtain ⟨g3, g4⟩ := ok_h g2
    subst g3
    split at g4
    · next r hr =>
      cases hr.symm.trans hc
      have hw : Cond.classLink (mi_y m).cls x C ∈ gtb := wq_in (of_decide_eq_true g4) rfl
      obtain ⟨i1, i2⟩ := cl_is _ _ hc
      obtain ⟨hSl, hfc, kC, hkC, hkind⟩ := hK.1 n _ hc
      have hs0 : s.heap.size ≤ H.size := hS.1
      have hHz := hH.2.1
      have hxx : P.2.1 < ax := by unfold ax; omega
      refine W_tight hHz hH.2.2.1 hsz.1 hsz.2 (fun hg1 hg2 => W.newc hx hb hown (hts _ hw) (hts _ i1) (hts _ i2) rfl hd (by omega) (by show P.2.2 - u0 + N ≤ R.slots; omega) fun cC kC' f1 f2 f3 f4 => ?_)
      cases f1.symm.trans hfc
      cases f2.symm.trans hkC
      have hsz2 : ({ cls := D.1 n, slots := kC.instanceTypes.map defaultValue, vm := .none } : Cell).slots.size = N := by simp [f4]
      have hrt : rt P.2.1 = H.size := by rw [hRT.1 _ hxx, hHz]
      have hnew := hH.new hRT (c := { cls := D.1 n, slots := kC.instanceTypes.map defaultValue, vm := .none }) (e := .inl (n, dfs n N)) ⟨(C, T, N), hc, by simp [dfs], ?_⟩ (by show P.2.1 < P.2.1 + 1; omega) h1 (by rw [hsz2]; exact h2)
      · rw [hsz2] at hnew
        refine W_tight hnew.2.1 hnew.2.2.1 hsz.1 hsz.2 (fun _ _ => ?_)
        show W p l e R s mid args below meth c _ locs _ _ _ (F0 mid (pc + 3) ls (.ref H.size :: st.map (tv rt)))
        rw [← pcO_of g1, ← hrt]
        exact K _ _ hnew hl ⟨by rw [Array.size_push]; omega, fun q g5 g6 => by rw [Array.getElem?_push, if_neg (by omega)]; exact hS.2.1 q g5 g6, hS.2.2⟩
      · have hb0 := u_born (o := rt P.2.1) (H := H.push { cls := D.1 n, slots := kC.instanceTypes.map defaultValue, vm := .none }) (am_ty n) hts (cl_in _ _ hc) (hK.1 n _ hc) hkC (by rw [hrt, Array.getElem?_push_size]; rfl) (cl_ty _ _ hc)
        refine t_OB.to hb0 (fun j hj => ?_)
        have hj : j < N := hj
        rw [dfv_ok rt (ty_at hc hj)]
        simp [dfs, List.getD_eq_getElem?_getD, hj]
    · cases g4
  · cases g2
end XH
