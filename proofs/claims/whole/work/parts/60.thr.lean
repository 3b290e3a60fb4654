/-! THROWERS: the four methods of the house that may throw, the law's helpers that catch -/
def nsE : String := "java/util/NoSuchElementException"
def XT (D : va_G) (rt : Nat → Nat) (B : Nat) (Qx : AP → Prop) : String → State → State → Prop := fun E st t => E = nsE ∧ ∃ P : AP, Qx P ∧ HR D rt B t P t.heap ∧ va_F (fun q => B ≤ q) st t
def FT (Q : Option AV → AP → Prop) (Qx : AP → Prop) : PostT := fun R s args below D rt B => vx_MQ below (XR D rt B Q) (XT D rt B Qx) args s R.cells R.slots (fun q => B ≤ q)
theorem XF_ofX {m : MI} {d i : Nat} {L : AL} {st : List AV} {P : AP} {Q : Option AV → AP → Prop} {Qx : AP → Prop} (h : X m d i L st P Q) : XF m d i L st P (FT Q Qx) := fun hok p l e R s mid args below meth c D rt B n0 u0 hC hL ls H locs hH hl hS => vx_ret (h hok p l e R s mid args below meth c D rt B n0 u0 hC hL ls H locs hH hl hS)
theorem AT.ex {D : va_G} {rt : Nat → Nat} {U : State} {a : Nat} {e : AE} {H : Heap} (h : AT D rt U a e H) : ∃ c : Cell, H[rt a]? = some c := by
  unfold AT at h
  split at h
  · obtain ⟨r, h1, h2, cell, q1, -⟩ := h
    exact ⟨cell, q1⟩
  · obtain ⟨cA, h1, h2⟩ := h
    exact ⟨_, h2⟩
  · obtain ⟨⟨cA, h1, h2⟩, -⟩ := h
    exact ⟨_, h2⟩
  · obtain ⟨cell, h1, -⟩ := h
    exact ⟨cell, h1⟩
  · obtain ⟨cA, h1, h2⟩ := h
    exact ⟨_, h2⟩
  · obtain ⟨cA, h1, -, h2⟩ := h
    exact ⟨_, h2⟩
theorem usm_ext {B : Nat} {H H1 : Heap} (hB : B ≤ H.size) (h1 : H.size ≤ H1.size) (h2 : ∀ q : Nat, q < H.size → H1[q]? = H[q]?) : usm B H1 = usm B H + ((H1.toList.drop H.size).map (·.slots.size)).sum := by
  have ht : H1.toList.take H.size = H.toList := by
    refine List.ext_getElem? fun q => ?_
    rw [List.getElem?_take]
    split
    · next h => rw [Array.getElem?_toList, Array.getElem?_toList]; exact h2 q h
    · next h => rw [Array.getElem?_toList, Array.getElem?_eq_none (by omega)]
  have hl : H1.toList.drop B = H.toList.drop B ++ H1.toList.drop H.size := by
    rw [← ht, List.drop_take]
    have := List.take_append_drop (H.size - B) (H1.toList.drop B)
    rw [List.drop_drop, show B + (H.size - B) = H.size by omega] at this
    exact this.symm
  unfold usm
  rw [hl, List.map_append, List.sum_append]
theorem HR.ext {D : va_G} {rt : Nat → Nat} {B : Nat} {s t : State} {P : AP} {H : Heap} (h : HR D rt B s P H) (hvm : s.vm.Alike t.vm) (h1 : H.size ≤ t.heap.size) (h2 : ∀ q : Nat, q < H.size → t.heap[q]? = H[q]?) (h3 : t.heap.size ≤ H.size + 1) (h4 : ((t.heap.toList.drop H.size).map (·.slots.size)).sum ≤ 6) (c1 : P.2.1 + 1 ≤ 601024) (c2 : P.2.2 + 6 ≤ 7293034) : ∃ n u, P.2.1 ≤ n ∧ n ≤ P.2.1 + 1 ∧ P.2.2 ≤ u ∧ u ≤ P.2.2 + 6 ∧ HR D rt B t (P.1, n, u) t.heap := by
  obtain ⟨g1, g2, g3, g4, g5⟩ := h
  have hu := usm_ext (B := B) (by omega) h1 h2
  refine ⟨t.heap.size - B, usm B t.heap, by omega, by omega, by omega, by omega, ?_⟩
  refine ⟨fun a e ha => ?_, by show t.heap.size = B + (t.heap.size - B); omega, rfl, by show t.heap.size - B ≤ _; omega, by show usm B t.heap ≤ _; omega⟩
  obtain ⟨k1, k2⟩ := g1 a e ha
  obtain ⟨cc, hc⟩ := k1.ex
  have hlt := (Array.getElem?_eq_some_iff.mp hc).1
  refine ⟨(k1.moved hvm).kept (h2 _ hlt), ?_⟩
  revert k2
  unfold aok
  split
  · intro g
    rcases g with g | g
    · exact Or.inl (by dsimp only; omega)
    · exact Or.inr g
  · intro g
    dsimp only at g ⊢
    omega
theorem stand_tight {p : Program} {l : Launch} {e : Env} {R : Room} {s : State} {m : MethodId} {args : Array Value} {below : List Frame} {meth : Method} {c : Code} {T : State} {locs : List Loc} {cells slots : Nat} {B nx us n0 u0 : Nat}
    (X : Stand p l e R s m args below meth c T locs cells slots) (hn : T.heap.size = B + nx) (hu : usm B T.heap = us) (h0 : s.heap.size = B + n0) (hu0 : usm B s.heap = u0) : n0 ≤ nx ∧ u0 ≤ us ∧ Stand p l e R s m args below meth c T locs (nx - n0) (us - u0) := by
  obtain ⟨e1, h1, h2, h3, h4, h5⟩ := X.same
  have hTh : (T.setVm s.vm).heap = T.heap := rfl
  rw [hTh] at h1 h2 h3 h4 h5
  have hl : T.heap.toList.map (·.slots.size) = s.heap.toList.map (·.slots.size) ++ (T.heap.toList.drop s.heap.size).map (·.slots.size) := by
    rw [List.map_drop]
    have ht : (T.heap.toList.map (·.slots.size)).take s.heap.size = s.heap.toList.map (·.slots.size) := by
      refine List.ext_getElem? fun q => ?_
      rw [List.getElem?_take]
      by_cases hq : q < s.heap.size
      · rw [if_pos hq, List.getElem?_map, List.getElem?_map, Array.getElem?_toList, Array.getElem?_toList]
        obtain ⟨c', h6, -, h7, -⟩ := h5 q (s.heap[q]) (Array.getElem?_eq_getElem hq)
        rw [h6, Array.getElem?_eq_getElem hq]
        simp [h7]
      · rw [if_neg hq, List.getElem?_map, Array.getElem?_toList, Array.getElem?_eq_none (by omega)]
        rfl
    rw [← ht]
    exact (List.take_append_drop _ _).symm
  have h8 : usm B T.heap = usm B s.heap + ((T.heap.toList.drop s.heap.size).map (·.slots.size)).sum := by
    unfold usm
    rw [List.map_drop, hl, List.drop_append_of_le_length (by rw [List.length_map, Array.length_toList]; omega), List.sum_append, List.map_drop]
    congr 1
    simp
  refine ⟨by omega, by omega, { X with same := ?_ }⟩
  refine ⟨e1, by rw [hTh]; exact h1, by rw [hTh]; omega, by rw [hTh]; exact h3, ?_, by rw [hTh]; exact h5⟩
  rw [hTh]
  omega
section XX
variable {m : MI} {d i : Nat} {L : AL} {st : List AV} {P : AP} {Q : Option AV → AP → Prop} {pc n : Nat} {ps : List Nat}
/-- behind a call that may throw -/
theorem X_afterX {F : State → Prop} {Qc : Option AV → AP → Prop} {Qx : AP → Prop} {p : Program} {l : Launch} {e : Env} {R : Room} {s : State} {mid : MethodId} {args : Array Value} {below : List Frame} {meth : Method} {c : Code} {D : va_G} {rt : Nat → Nat} {B n0 u0 : Nat} {H : Heap} {ls : Array Slot} {locs : List Loc} {cells slots k1 k2 : Nat} {st0 : List Value} {av : Array Value}
    (hC : XK m d p R s mid args meth c D rt B n0 u0) (hS : va_S (fun q => B ≤ q) s.heap H locs)
    (hr : vx_Run p l e R s mid args below meth c H locs cells slots k1 k2 (F0 mid pc ls st0) (st.map (tv rt)) (XR D rt B Qc av) (XT D rt B Qx) (fun q => B ≤ q))
    (K : ∀ (r : Option AV) (P1 : AP), Qc r P1 → ∀ (H1 : Heap) (locs1 : List Loc), HR D rt B s P1 H1 → va_S (fun q => B ≤ q) s.heap H1 locs1 → W p l e R s mid args below meth c H1 locs1 (P1.2.1 - n0) (P1.2.2 - u0) F (F0 mid (pc + 3) ls ((r.toList ++ st).map (tv rt))))
    (KX : ∀ (P1 : AP), Qx P1 → ∀ (H1 : Heap) (locs1 : List Loc) (q : Addr) (ce : Cell), HR D rt B s P1 H1 → va_S (fun q => B ≤ q) s.heap H1 locs1 → H1[q]? = some ce → ce.vm = .none → s.vm.findClass nsE = some ce.cls → vx_W p l e R s mid args below meth c H1 locs1 (P1.2.1 - n0) (P1.2.2 - u0) F (F0 mid pc ls (st.map (tv rt))) q) :
    W p l e R s mid args below meth c H locs cells slots F (F0 mid pc ls st0) := by
  intro T hT X0
  have hsz := hC.2.2.2.2.2.2.2.2.2.2.2.2.2.2
  rcases hr T hT X0 with ⟨v, st₀, t, T1, L1, h0, X1, hL1, e1, e2, ⟨r, P1, hQ, hv, hH1, hF⟩, go⟩ | ⟨q, st₀, t, T1, L1, E, ce, h0, X1, hL1, e1, e2, ⟨rfl, P1, hQ, hH1, hF⟩, hce, hcv, hcl, go⟩
  · have hv2 : v = r.map (tv rt) := Outcome.returned.inj hv
    have hal : t.vm.Alike s.vm := by rw [← e2]; exact X1.warmed.alike.symm
    have hH2 : HR D rt B s P1 T1.heap := by rw [e1]; exact hH1.moved hal
    have hS2 : va_S (fun q => B ≤ q) s.heap T1.heap (locs ++ L1) := by
      rw [e1]
      rw [va_F, h0] at hF
      refine ⟨Nat.le_trans hS.1 hF.1, fun q g1 g2 => (hF.2 q (Nat.lt_of_lt_of_le g1 hS.1) g2).trans (hS.2.1 q g1 g2), fun q hq => ?_⟩
      rcases List.mem_append.mp hq with h | h
      · exact hS.2.2 q h
      · exact hL1 q h
    obtain ⟨-, -, X2⟩ := stand_tight X1 hH2.2.1 hH2.2.2.1 hsz.1 hsz.2
    obtain ⟨t2, a1, b1⟩ := K r P1 hQ T1.heap (locs ++ L1) hH2 hS2 T1 rfl X2
    refine ⟨t2, go t2 ?_, b1⟩
    have hst : ((r.toList ++ st).map (tv rt)) = v.toList ++ st.map (tv rt) := by
      rw [hv2]
      cases r <;> rfl
    rw [hst] at a1
    exact a1
  · have hal : t.vm.Alike s.vm := by rw [← e2]; exact X1.warmed.alike.symm
    have hH2 : HR D rt B s P1 T1.heap := by rw [e1]; exact hH1.moved hal
    have hS2 : va_S (fun q => B ≤ q) s.heap T1.heap (locs ++ L1) := by
      rw [e1]
      rw [va_F, h0] at hF
      refine ⟨Nat.le_trans hS.1 hF.1, fun q g1 g2 => (hF.2 q (Nat.lt_of_lt_of_le g1 hS.1) g2).trans (hS.2.1 q g1 g2), fun q hq => ?_⟩
      rcases List.mem_append.mp hq with h | h
      · exact hS.2.2 q h
      · exact hL1 q h
    obtain ⟨-, -, X2⟩ := stand_tight X1 hH2.2.1 hH2.2.2.1 hsz.1 hsz.2
    obtain ⟨t2, a1, b1⟩ := KX P1 hQ T1.heap (locs ++ L1) q ce hH2 hS2 (by rw [e1]; exact hce) hcv hcl T1 rfl X2
    exact ⟨t2, go.trans a1, b1⟩
theorem XF_met {d : Nat} {As : List AV} {P : AP} {Q : Option AV → AP → Prop} {Qx : AP → Prop} {l : Launch} {D : va_G} {rt : Nat → Nat} {B : Nat} (hlt : l.stackTraces = false) (hok : okM m) (hRT : RTp B rt) (hlen : (entA As).length ≤ mi_mx m) (hX : XF m d 0 (entL (mi_mx m) As) [] P (FT Q Qx)) :
    vx_Met l (mi_y m) (Cond.code (mi_y m) (mi_cc m) (mi_mx m) (mi_rt m) :: gtb) (xrm d P) (xPc D rt B As P) (XR D rt B Q) (XT D rt B Qx) (601024 - P.2.1) (7293034 - P.2.2) (fun q => B ≤ q) := by
  obtain ⟨g, hg, e1, e2, e3, e4⟩ := okM_sg hok
  have hS := sg_at hg
  refine vx_ofW (cc := mi_cc m) (maxL := mi_mx m) (ret := mi_rt m) (by rw [← e1]; exact hS.2.2.1) rfl ?_
  intro p e s mid args below meth c s₁ Bd hml hex hv
  obtain ⟨rfl, hH, hK, hNc, hKS⟩ := hv
  have hts : ∀ w ∈ (Cond.code (mi_y m) (mi_cc m) (mi_mx m) (mi_rt m) :: gtb), w.before _ s = true := atoms_spec (ws := Cond.code (mi_y m) (mi_cc m) (mi_mx m) (mi_rt m) :: gtb) Bd.pre
  have hl0 := lv_entry (As.map (tv rt)) (n := mi_mx m) (by rw [ent_len]; exact hlen)
  have hpc : pcO m 0 = 0 := pcO_of (of_decide_eq_true (Bool.and_eq_true_iff.mp hok.1).1)
  have h4 := hH.2.2.2
  have het : c.exceptionTable.toList = etb (mi_id m) := by
    rw [sg_lt hg]
    exact List.eq_nil_iff_forall_not_mem.mpr hex
  have hW := hX hok.1 p ⟨l, hlt⟩ e (xrm d P) s mid _ below meth c D rt B P.2.1 P.2.2 ⟨Bd.exec, Bd.bytes, hml, Bd.returns, Bd.notSynchronized, (name_of_methodNamed Bd.named Bd.method).1, findClass_of_methodNamed Bd.named, fun w hw => hts w (List.mem_cons_of_mem _ hw), hK, hNc, hKS, hRT, ⟨Nat.le_refl _, Nat.le_refl _⟩, ⟨by show P.2.1 + (601024 - P.2.1) = 601024; omega, by show P.2.2 + (7293034 - P.2.2) = 7293034; omega, het⟩, hH.2.1, hH.2.2.1⟩
    (by unfold entL; rw [List.length_append, List.length_replicate]; omega) _ _ [] hH (hl0.mem (ent_sub rt _ As)) va_S.rf
  rw [hpc, Nat.sub_self, Nat.sub_self] at hW
  rw [lg_entry_eq]
  exact hW
theorem lps_none (rt : Nat → Nat) (n : Nat) : ∀ q ∈ lps rt (List.replicate n none), q ∈ ([] : List (Nat × Value)) := by
  rintro ⟨j, w⟩ hq
  obtain ⟨v, h1, rfl⟩ := lps_mem.mp hq
  rw [List.getElem?_replicate] at h1
  split at h1 <;> cases h1
/-- the beginning of a handler -/
theorem W_hand {j : Nat} (hq : (mi_cd m)[i]? = some (pc, .astore j, ps)) (hj : j < mi_mx m) (k : X m d (i + 1) (List.replicate (mi_mx m) none) [] P Q) (hok : okB m = true) {p : Program} {l : { l : Launch // l.stackTraces = false }} {e : Env} {R : Room} {s : State} {mid : MethodId} {args : Array Value} {below : List Frame} {meth : Method} {c : Code} {D : va_G} {rt : Nat → Nat} {B n0 u0 : Nat}
    (hC : XK m d p R s mid args meth c D rt B n0 u0) {ls : Array Slot} {lv : List (Nat × Value)} {H : Heap} {locs : List Loc} {q : Addr} (hH : HR D rt B s P H) (hl : lv_has ls (mi_mx m) lv) (hS : va_S (fun q => B ≤ q) s.heap H locs) :
    W p l.1 e R s mid args below meth c H locs (P.2.1 - n0) (P.2.2 - u0) (FX Q R s args below D rt B) (F0 mid pc ls [.ref q]) := by
  obtain ⟨ri, len, hd, ho⟩ := okM_at hok hq
  have K := fun ls1 hl1 => k hok p l e R s mid args below meth c D rt B n0 u0 hC (List.length_replicate ..) ls1 H locs hH hl1 hS
  have hx := hC.1
  have hb := hC.2.1
  obtain ⟨g1, g2⟩ := ok_h ho
  split at g2
  · obtain ⟨g3, g4⟩ := ok_2 g2
    subst g3; subst g4
    exact lv_astore hx hb hd hl hj rfl (fun ls1 hl1 => by
      have := K ls1 (hl1.mem (fun q hq => nomatch lps_none rt _ q hq))
      rw [pcO_of g1] at this
      exact this)
  · obtain ⟨g3, g4⟩ := ok_2 g2
    subst g3
    exact lv_astore_n hx hb hd g4 hl hj rfl (fun ls1 hl1 => by
      have := K ls1 (hl1.mem (fun q hq => nomatch lps_none rt _ q hq))
      rw [pcO_of g1] at this
      exact this)
  · cases g2
end XX
