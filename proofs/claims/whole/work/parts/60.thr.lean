/-! THROWERS: the four methods of the house that may throw, the law's helpers that catch -/
def nsE : String := "java/util/NoSuchElementException"
def XT (D : va_G) (rt : Nat → Nat) (B : Nat) (Qx : AP → Prop) : String → State → State → Prop := fun E st t => E = nsE ∧ ∃ P : AP, Qx P ∧ HR D rt B t P t.heap ∧ va_F (fun q => B ≤ q) st t
def FT (Q : Option AV → AP → Prop) (Qx : AP → Prop) : PostT := fun R s args below D rt B => vx_MQ below (XR D rt B Q) (XT D rt B Qx) args s R.cells R.slots (fun q => B ≤ q)
theorem XF_ofX {m : MI} {d i : Nat} {L : AL} {st : List AV} {P : AP} {Q : Option AV → AP → Prop} {Qx : AP → Prop} (h : X m d i L st P Q) : XF m d i L st P (FT Q Qx) := fun hok p l e R s mid args below meth c D rt B n0 u0 hC hL ls H locs hH hl hS => vx_ret (h hok p l e R s mid args below meth c D rt B n0 u0 hC hL ls H locs hH hl hS)
theorem AT.ex {D : va_G} {rt : Nat → Nat} {U : State} {a : Nat} {e : AE} {H : Heap} (h : AT D rt U a e H) : ∃ c : Cell, H[rt a]? = some c := by
  unfold AT at h
  split at h
  · obtain ⟨r, h1, h2, cell, q1, -⟩ := h
    exact ⟨cell, q1⟩
  · obtain ⟨cA, h1, h2⟩ := h
    exact ⟨_, h2⟩
  · obtain ⟨⟨cA, h1, h2⟩, -⟩ := h
    exact ⟨_, h2⟩
  · obtain ⟨cell, h1, -⟩ := h
    exact ⟨cell, h1⟩
  · obtain ⟨cA, h1, h2⟩ := h
    exact ⟨_, h2⟩
  · obtain ⟨cA, h1, -, h2⟩ := h
    exact ⟨_, h2⟩
theorem usm_ext {B : Nat} {H H1 : Heap} (hB : B ≤ H.size) (h1 : H.size ≤ H1.size) (h2 : ∀ q : Nat, q < H.size → H1[q]? = H[q]?) : usm B H1 = usm B H + ((H1.toList.drop H.size).map (·.slots.size)).sum := by
  have ht : H1.toList.take H.size = H.toList := by
    refine List.ext_getElem? fun q => ?_
    rw [List.getElem?_take]
    split
    · next h => rw [Array.getElem?_toList, Array.getElem?_toList]; exact h2 q h
    · next h => rw [Array.getElem?_toList, Array.getElem?_eq_none (by omega)]
  have hl : H1.toList.drop B = H.toList.drop B ++ H1.toList.drop H.size := by
    rw [← ht, List.drop_take]
    have := List.take_append_drop (H.size - B) (H1.toList.drop B)
    rw [List.drop_drop, show B + (H.size - B) = H.size by omega] at this
    exact this.symm
  unfold usm
  rw [hl, List.map_append, List.sum_append]
theorem HR.ext {D : va_G} {rt : Nat → Nat} {B : Nat} {s t : State} {P : AP} {H : Heap} (h : HR D rt B s P H) (hvm : s.vm.Alike t.vm) (h1 : H.size ≤ t.heap.size) (h2 : ∀ q : Nat, q < H.size → t.heap[q]? = H[q]?) (h3 : t.heap.size ≤ H.size + 1) (h4 : ((t.heap.toList.drop H.size).map (·.slots.size)).sum ≤ 6) (c1 : P.2.1 + 1 ≤ 601024) (c2 : P.2.2 + 6 ≤ 7293034) : ∃ n u, P.2.1 ≤ n ∧ n ≤ P.2.1 + 1 ∧ P.2.2 ≤ u ∧ u ≤ P.2.2 + 6 ∧ HR D rt B t (P.1, n, u) t.heap := by
  obtain ⟨g1, g2, g3, g4, g5⟩ := h
  have hu := usm_ext (B := B) (by omega) h1 h2
  refine ⟨t.heap.size - B, usm B t.heap, by omega, by omega, by omega, by omega, ?_⟩
  refine ⟨fun a e ha => ?_, by show t.heap.size = B + (t.heap.size - B); omega, rfl, by show t.heap.size - B ≤ _; omega, by show usm B t.heap ≤ _; omega⟩
  obtain ⟨k1, k2⟩ := g1 a e ha
  obtain ⟨cc, hc⟩ := k1.ex
  have hlt := (Array.getElem?_eq_some_iff.mp hc).1
  refine ⟨(k1.moved hvm).kept (h2 _ hlt), ?_⟩
  revert k2
  unfold aok
  split
  · intro g
    rcases g with g | g
    · exact Or.inl (by dsimp only; omega)
    · exact Or.inr g
  · intro g
    dsimp only at g ⊢
    omega
theorem stand_tight {p : Program} {l : Launch} {e : Env} {R : Room} {s : State} {m : MethodId} {args : Array Value} {below : List Frame} {meth : Method} {c : Code} {T : State} {locs : List Loc} {cells slots : Nat} {B nx us n0 u0 : Nat}
    (X : Stand p l e R s m args below meth c T locs cells slots) (hn : T.heap.size = B + nx) (hu : usm B T.heap = us) (h0 : s.heap.size = B + n0) (hu0 : usm B s.heap = u0) : n0 ≤ nx ∧ u0 ≤ us ∧ Stand p l e R s m args below meth c T locs (nx - n0) (us - u0) := by
  obtain ⟨e1, h1, h2, h3, h4, h5⟩ := X.same
  have hTh : (T.setVm s.vm).heap = T.heap := rfl
  rw [hTh] at h1 h2 h3 h4 h5
  have hl : T.heap.toList.map (·.slots.size) = s.heap.toList.map (·.slots.size) ++ (T.heap.toList.drop s.heap.size).map (·.slots.size) := by
    rw [List.map_drop]
    have ht : (T.heap.toList.map (·.slots.size)).take s.heap.size = s.heap.toList.map (·.slots.size) := by
      refine List.ext_getElem? fun q => ?_
      rw [List.getElem?_take]
      by_cases hq : q < s.heap.size
      · rw [if_pos hq, List.getElem?_map, List.getElem?_map, Array.getElem?_toList, Array.getElem?_toList]
        obtain ⟨c', h6, -, h7, -⟩ := h5 q (s.heap[q]) (Array.getElem?_eq_getElem hq)
        rw [h6, Array.getElem?_eq_getElem hq]
        simp [h7]
      · rw [if_neg hq, List.getElem?_map, Array.getElem?_toList, Array.getElem?_eq_none (by omega)]
        rfl
    rw [← ht]
    exact (List.take_append_drop _ _).symm
  have h8 : usm B T.heap = usm B s.heap + ((T.heap.toList.drop s.heap.size).map (·.slots.size)).sum := by
    unfold usm
    rw [List.map_drop, hl, List.drop_append_of_le_length (by rw [List.length_map, Array.length_toList]; omega), List.sum_append, List.map_drop]
    congr 1
    simp
  refine ⟨by omega, by omega, { X with same := ?_ }⟩
  refine ⟨e1, by rw [hTh]; exact h1, by rw [hTh]; omega, by rw [hTh]; exact h3, ?_, by rw [hTh]; exact h5⟩
  rw [hTh]
  omega
section XX
variable {m : MI} {d i : Nat} {L : AL} {st : List AV} {P : AP} {Q : Option AV → AP → Prop} {pc n : Nat} {ps : List Nat}
/-- behind a call that may throw -/
theorem X_afterX {F : State → Prop} {Qc : Option AV → AP → Prop} {Qx : AP → Prop} {p : Program} {l : Launch} {e : Env} {R : Room} {s : State} {mid : MethodId} {args : Array Value} {below : List Frame} {meth : Method} {c : Code} {D : va_G} {rt : Nat → Nat} {B n0 u0 : Nat} {H : Heap} {ls : Array Slot} {locs : List Loc} {cells slots k1 k2 : Nat} {st0 : List Value} {av : Array Value}
    (hC : XK m d p R s mid args meth c D rt B n0 u0) (hS : va_S (fun q => B ≤ q) s.heap H locs)
    (hr : vx_Run p l e R s mid args below meth c H locs cells slots k1 k2 (F0 mid pc ls st0) (st.map (tv rt)) (XR D rt B Qc av) (XT D rt B Qx) (fun q => B ≤ q))
    (K : ∀ (r : Option AV) (P1 : AP), Qc r P1 → ∀ (H1 : Heap) (locs1 : List Loc), HR D rt B s P1 H1 → va_S (fun q => B ≤ q) s.heap H1 locs1 → W p l e R s mid args below meth c H1 locs1 (P1.2.1 - n0) (P1.2.2 - u0) F (F0 mid (pc + 3) ls ((r.toList ++ st).map (tv rt))))
    (KX : ∀ (P1 : AP), Qx P1 → ∀ (H1 : Heap) (locs1 : List Loc) (q : Addr) (ce : Cell), HR D rt B s P1 H1 → va_S (fun q => B ≤ q) s.heap H1 locs1 → H1[q]? = some ce → ce.vm = .none → s.vm.findClass nsE = some ce.cls → vx_W p l e R s mid args below meth c H1 locs1 (P1.2.1 - n0) (P1.2.2 - u0) F (F0 mid pc ls (st.map (tv rt))) q) :
    W p l e R s mid args below meth c H locs cells slots F (F0 mid pc ls st0) := by
  intro T hT X0
  have hsz := hC.2.2.2.2.2.2.2.2.2.2.2.2.2.2
  rcases hr T hT X0 with ⟨v, st₀, t, T1, L1, h0, X1, hL1, e1, e2, ⟨r, P1, hQ, hv, hH1, hF⟩, go⟩ | ⟨q, st₀, t, T1, L1, E, ce, h0, X1, hL1, e1, e2, ⟨rfl, P1, hQ, hH1, hF⟩, hce, hcv, hcl, go⟩
  · have hv2 : v = r.map (tv rt) := Outcome.returned.inj hv
    have hal : t.vm.Alike s.vm := by rw [← e2]; exact X1.warmed.alike.symm
    have hH2 : HR D rt B s P1 T1.heap := by rw [e1]; exact hH1.moved hal
    have hS2 : va_S (fun q => B ≤ q) s.heap T1.heap (locs ++ L1) := by
      rw [e1]
      rw [va_F, h0] at hF
      refine ⟨Nat.le_trans hS.1 hF.1, fun q g1 g2 => (hF.2 q (Nat.lt_of_lt_of_le g1 hS.1) g2).trans (hS.2.1 q g1 g2), fun q hq => ?_⟩
      rcases List.mem_append.mp hq with h | h
      · exact hS.2.2 q h
      · exact hL1 q h
    obtain ⟨-, -, X2⟩ := stand_tight X1 hH2.2.1 hH2.2.2.1 hsz.1 hsz.2
    obtain ⟨t2, a1, b1⟩ := K r P1 hQ T1.heap (locs ++ L1) hH2 hS2 T1 rfl X2
    refine ⟨t2, go t2 ?_, b1⟩
    have hst : ((r.toList ++ st).map (tv rt)) = v.toList ++ st.map (tv rt) := by
      rw [hv2]
      cases r <;> rfl
    rw [hst] at a1
    exact a1
  · have hal : t.vm.Alike s.vm := by rw [← e2]; exact X1.warmed.alike.symm
    have hH2 : HR D rt B s P1 T1.heap := by rw [e1]; exact hH1.moved hal
    have hS2 : va_S (fun q => B ≤ q) s.heap T1.heap (locs ++ L1) := by
      rw [e1]
      rw [va_F, h0] at hF
      refine ⟨Nat.le_trans hS.1 hF.1, fun q g1 g2 => (hF.2 q (Nat.lt_of_lt_of_le g1 hS.1) g2).trans (hS.2.1 q g1 g2), fun q hq => ?_⟩
      rcases List.mem_append.mp hq with h | h
      · exact hS.2.2 q h
      · exact hL1 q h
    obtain ⟨-, -, X2⟩ := stand_tight X1 hH2.2.1 hH2.2.2.1 hsz.1 hsz.2
    obtain ⟨t2, a1, b1⟩ := KX P1 hQ T1.heap (locs ++ L1) q ce hH2 hS2 (by rw [e1]; exact hce) hcv hcl T1 rfl X2
    exact ⟨t2, go.trans a1, b1⟩
theorem XF_met {d : Nat} {As : List AV} {P : AP} {Q : Option AV → AP → Prop} {Qx : AP → Prop} {l : Launch} {D : va_G} {rt : Nat → Nat} {B : Nat} (hlt : l.stackTraces = false) (hok : okM m) (hRT : RTp B rt) (hlen : (entA As).length ≤ mi_mx m) (hX : XF m d 0 (entL (mi_mx m) As) [] P (FT Q Qx)) :
    vx_Met l (mi_y m) (Cond.code (mi_y m) (mi_cc m) (mi_mx m) (mi_rt m) :: gtb) (xrm d P) (xPc D rt B As P) (XR D rt B Q) (XT D rt B Qx) (601024 - P.2.1) (7293034 - P.2.2) (fun q => B ≤ q) := by
  obtain ⟨g, hg, e1, e2, e3, e4⟩ := okM_sg hok
  have hS := sg_at hg
  refine vx_ofW (cc := mi_cc m) (maxL := mi_mx m) (ret := mi_rt m) (by rw [← e1]; exact hS.2.2.1) rfl ?_
  intro p e s mid args below meth c s₁ Bd hml hex hv
  obtain ⟨rfl, hH, hK, hNc, hKS⟩ := hv
  have hts : ∀ w ∈ (Cond.code (mi_y m) (mi_cc m) (mi_mx m) (mi_rt m) :: gtb), w.before _ s = true := atoms_spec (ws := Cond.code (mi_y m) (mi_cc m) (mi_mx m) (mi_rt m) :: gtb) Bd.pre
  have hl0 := lv_entry (As.map (tv rt)) (n := mi_mx m) (by rw [ent_len]; exact hlen)
  have hpc : pcO m 0 = 0 := pcO_of (of_decide_eq_true (Bool.and_eq_true_iff.mp hok.1).1)
  have h4 := hH.2.2.2
  have het : c.exceptionTable.toList = etb (mi_id m) := by
    rw [sg_lt hg]
    exact List.eq_nil_iff_forall_not_mem.mpr hex
  have hW := hX hok.1 p ⟨l, hlt⟩ e (xrm d P) s mid _ below meth c D rt B P.2.1 P.2.2 ⟨Bd.exec, Bd.bytes, hml, Bd.returns, Bd.notSynchronized, (name_of_methodNamed Bd.named Bd.method).1, findClass_of_methodNamed Bd.named, fun w hw => hts w (List.mem_cons_of_mem _ hw), hK, hNc, hKS, hRT, ⟨Nat.le_refl _, Nat.le_refl _⟩, ⟨by show P.2.1 + (601024 - P.2.1) = 601024; omega, by show P.2.2 + (7293034 - P.2.2) = 7293034; omega, het⟩, hH.2.1, hH.2.2.1⟩
    (by unfold entL; rw [List.length_append, List.length_replicate]; omega) _ _ [] hH (hl0.mem (ent_sub rt _ As)) va_S.rf
  rw [hpc, Nat.sub_self, Nat.sub_self] at hW
  rw [lg_entry_eq]
  exact hW
theorem lps_none (rt : Nat → Nat) (n : Nat) : ∀ q ∈ lps rt (List.replicate n none), q ∈ ([] : List (Nat × Value)) := by
  rintro ⟨j, w⟩ hq
  obtain ⟨v, h1, rfl⟩ := lps_mem.mp hq
  rw [List.getElem?_replicate] at h1
  split at h1 <;> cases h1
/-- the beginning of a handler -/
theorem W_hand {j : Nat} (hq : (mi_cd m)[i]? = some (pc, .astore j, ps)) (hj : j < mi_mx m) (k : X m d (i + 1) (List.replicate (mi_mx m) none) [] P Q) (hok : okB m = true) {p : Program} {l : { l : Launch // l.stackTraces = false }} {e : Env} {R : Room} {s : State} {mid : MethodId} {args : Array Value} {below : List Frame} {meth : Method} {c : Code} {D : va_G} {rt : Nat → Nat} {B n0 u0 : Nat}
    (hC : XK m d p R s mid args meth c D rt B n0 u0) {ls : Array Slot} {lv : List (Nat × Value)} {H : Heap} {locs : List Loc} {q : Addr} (hH : HR D rt B s P H) (hl : lv_has ls (mi_mx m) lv) (hS : va_S (fun q => B ≤ q) s.heap H locs) :
    W p l.1 e R s mid args below meth c H locs (P.2.1 - n0) (P.2.2 - u0) (FX Q R s args below D rt B) (F0 mid pc ls [.ref q]) := by
  obtain ⟨ri, len, hd, ho⟩ := okM_at hok hq
  have K := fun ls1 hl1 => k hok p l e R s mid args below meth c D rt B n0 u0 hC (List.length_replicate ..) ls1 H locs hH hl1 hS
  have hx := hC.1
  have hb := hC.2.1
  obtain ⟨g1, g2⟩ := ok_h ho
  split at g2
  · obtain ⟨g3, g4⟩ := ok_2 g2
    subst g3; subst g4
    exact lv_astore hx hb hd hl hj rfl (fun ls1 hl1 => by
      have := K ls1 (hl1.mem (fun q hq => nomatch lps_none rt _ q hq))
      rw [pcO_of g1] at this
      exact this)
  · obtain ⟨g3, g4⟩ := ok_2 g2
    subst g3
    exact lv_astore_n hx hb hd g4 hl hj rfl (fun ls1 hl1 => by
      have := K ls1 (hl1.mem (fun q hq => nomatch lps_none rt _ q hq))
      rw [pcO_of g1] at this
      exact this)
  · cases g2
end XX
def nsN : List String := ["java/lang/RuntimeException", "java/lang/Exception"]
theorem ns_fit : Bundle.fit nsE = true ∧ ∀ n ∈ nsN, Bundle.fit n = true := by decide +kernel
def nsR : ByteArray := ⟨#[0x2a, 0x2b, 0xb7, 0x00, 0x0d, 0xb1]⟩
theorem ns_0 : decode nsR 0 = .ok (.aload_n 0, 1) ∧ decode nsR 1 = .ok (.aload_n 1, 1) ∧ decode nsR 2 = .ok (.invokespecial 13, 3) ∧ decode nsR 5 = .ok (.return_, 1) := by decide +kernel
theorem ns_good : ∀ w ∈ (vx_atX "PatchHouse" 101 nsE 13 nsR nsN).filter goodWord, w ∈ gtb := by decide +kernel
def nsB : List Cond := [.castable nsE nsE, .declares (Bundle.initS "java/lang/RuntimeException"), .declares (Bundle.initS "java/lang/Exception"), .declares (Bundle.initS Bundle.tN)]
theorem ns_rest : ∀ w ∈ (vx_atX "PatchHouse" 101 nsE 13 nsR nsN).filter (fun w => !goodWord w), w ∈ nsB := by decide +kernel
theorem ns_nt : ∀ w ∈ nsB, w ∈ ntb := by decide +kernel
theorem ns_in : Cond.classLink "PatchHouse" 97 nsE ∈ gtb ∧ Cond.initialized nsE ∈ gtb ∧ Cond.castable nsE nsE ∈ ntb ∧ Cond.classLink "PatchHouseLaw" 13 nsE ∈ gtb := by decide +kernel
theorem ns_ot : ∀ w ∈ Cond.classLink "PatchHouse" 97 nsE :: Cond.initialized nsE :: vx_atX "PatchHouse" 101 nsE 13 nsR nsN, vx_ot w = true := by decide +kernel
section XY
variable {m : MI} {d i : Nat} {L : AL} {st : List AV} {P : AP} {Q : Option AV → AP → Prop} {pc n : Nat} {ps : List Nat}
/-- new, dup, ldc, invokespecial, athrow -/
theorem XF_thr {Qx : AP → Prop} {k ix : Nat} {tx : String} (hq : (mi_cd m)[i]? = some (pc, .athrow, ps)) (hcl : (mi_y m).cls = "PatchHouse") (hid : mi_id m < 100000) (hs : am_str[k]? = some ("PatchHouse", ix, tx))
    (d0 : decode (mi_cc m) pc = .ok (.new 97, 3)) (d3 : decode (mi_cc m) (pc + 3) = .ok (.dup, 1)) (d4 : decode (mi_cc m) (pc + 4) = .ok (.ldc ix, 2)) (d6 : decode (mi_cc m) (pc + 6) = .ok (.invokespecial 101, 3)) (d9 : decode (mi_cc m) (pc + 9) = .ok (.athrow, 1))
    (hst : (st.map av_c).sum ≤ 8) (c1 : P.2.1 + 1 ≤ 601024) (c2 : P.2.2 + 6 ≤ 7293034) (hQ : ∀ n u, P.2.1 ≤ n → n ≤ P.2.1 + 1 → P.2.2 ≤ u → u ≤ P.2.2 + 6 → Qx (P.1, n, u)) : XF m (d + 6) i L st P (FT Q Qx) := by
  intro hok p l e1 R s mid args below meth c D rt B n0 u0 hC hL ls H locs hH hl hS
  obtain ⟨hx, hb, hml, hret, hlk, -, hown, hts, hK, hNc, hKS, hRT, hrm, hcap, hsz⟩ := id hC
  rw [pcO_at hq]
  rw [hcl] at hown
  have het : c.exceptionTable.toList = [] := by
    rw [hcap.2.2]
    unfold etb
    rw [if_pos hid]
  have hrf : R.frames ≥ d + 6 ∧ R.locals ≥ 44 * (d + 6) + 12 := ⟨hrm.1, hrm.2⟩
  have hsum : ((st.map (tv rt)).map fun v => v.category).sum ≤ 8 := by rw [sum_c]; exact hst
  refine W_tight hH.2.1 hH.2.2.1 hsz.1 hsz.2 (fun hg1 hg2 => ?_)
  refine vx_throwX (own := "PatchHouse") (cls := nsE) (text := tx) (names := nsN) (A := fun q => B ≤ q) hx hb l.2 ns_0.1 ns_0.2.1 ns_0.2.2.1 ns_0.2.2.2 hown ns_fit.1 ns_fit.2 (hts _ ns_in.1) (hts _ ns_in.2.1) (hKS.2.1 k _ hs) (vx_hat (fun w hw => hts _ (ns_good w hw)) ns_rest (fun w hw => va_Nw.use (by revert hw; revert w; decide) (hKS.2.2.2 _ (ns_nt w hw)))) ns_ot hKS.2.2.1.2.1 hKS.2.2.1.2.2.1 hS (hl.1.trans hml.symm) d0 d3 d4 d6 d9 (fun x hx => by rw [het] at hx; cases hx)
    (by show 2 + 3 < R.frames; omega) (by show _ + (13 * (2 + 1) + 43) ≤ R.locals; omega) (by omega) (by omega) hlk ?_ hS.2.2 (by omega) (by omega)
  intro t hvm t1 t2 t3 t4
  obtain ⟨n, u, q1, q2, q3, q4, q5⟩ := hH.ext hvm t1 t2 t3 t4 c1 c2
  refine ⟨rfl, (P.1, n, u), hQ n u q1 q2 q3 q4, q5, ?_⟩
  refine ⟨Nat.le_trans hS.1 t1, fun q g1 g2 => ?_⟩
  rw [t2 q (Nat.lt_of_lt_of_le g1 hS.1)]
  exact hS.2.1 q g1 g2
theorem XF_brx {F : PostT} {b : Bool} {t f : Nat} (kt : b = true → XF m d t L st P F) (kf : b = false → XF m d f L st P F) : XF m d (cond b t f) L st P F := by
  cases b with
  | true => exact kt rfl
  | false => exact kf rfl
end XY
/-! the house's throwers -/
def th_out (s : St) (a : Int32) : Bool := cn1 .lt a || !(cn2 .lt a (sI s 2 3))
def th_num (a : Int32) : Bool := cn1 .lt a || !(cn2 .lt a 8)
def th_rea (a : Int32) : Bool := cn1 .lt a || !(cn2 .lt a 4)
def th_sl (s : St) (a : Int32) : Option Nat := cond (cn1 .lt a) none (cond (cn2 .lt a 16) (sT s 11 a.toNatClampNeg) none)
def th_mem (s : St) (a b : Int32) : Bool := (th_sl s a).isNone || cn1 .lt b || !(cn2 .lt b (u_tellable s (th_sl s a)))
def thq1 (s : St) : AP → Prop := fun P => ∃ n u, sN s ≤ n ∧ n ≤ sN s + 1 ∧ sU s ≤ u ∧ u ≤ sU s + 6 ∧ P = hp (pQ s (sD s) n u)
def thr (s : St) : Prop := sN s + 1 ≤ 601024 ∧ sU s + 6 ≤ 7293034
theorem hp_pQ (s : St) (n u : Nat) : hp (pQ s (sD s) n u) = ((hp s).1, n, u) := by
  unfold hp
  refine Prod.ext ?_ rfl
  funext q
  show (if q < 37 then fx (pQ s (sD s) n u) q else sD s q) = if q < 37 then fx s q else sD s q
  rw [fx_other (s := s) (s' := pQ s (sD s) n u) (fun _ => rfl) (fun _ => rfl) rfl rfl rfl]
theorem thq_i {s : St} : ∀ n u, (hp s).2.1 ≤ n → n ≤ (hp s).2.1 + 1 → (hp s).2.2 ≤ u → u ≤ (hp s).2.2 + 6 → thq1 s ((hp s).1, n, u) := fun n u h1 h2 h3 h4 => ⟨n, u, h1, h2, h3, h4, (hp_pQ s n u).symm⟩
theorem XF_gF {F : PostT} {m : MI} {d i : Nat} {L : AL} {st : List AV} {pc n : Nat} {ps : List Nat} {s : St} {a : Nat} {ks : List Nat} {c : Nat} {v : AV} (hq : (mi_cd m)[i]? = some (pc, .getfield n, ps)) (hl : lay[a]? = some (.inl (n / 64, ks))) (hk : ks[n % 64]? = some c) (hv : vk s a (n % 64) c = v) (k : XF m d (i + 1) L (v :: st) (hp s) F) : XF m d i L (.inr (.inr (some a)) :: st) (hp s) F :=
  XF_getf hq (hp_obj hl) (by rw [vl_get, hk, ← hv, Nat.zero_add]; rfl) k
theorem XF_aR {F : PostT} {m : MI} {d i : Nat} {L : AL} {st : List AV} {pc : Nat} {ps : List Nat} {s : St} {a z : Nat} {j : Int32} (hq : (mi_cd m)[i]? = some (pc, .aaload, ps)) (hl : lay[a]? = some (.inr (.inr (.inr z)))) (hin : vp_in j z) (k : XF m d (i + 1) L (.inr (.inr (sT s a j.toNatClampNeg)) :: st) (hp s) F) : XF m d i L (.inl j :: .inr (.inr (some a)) :: st) (hp s) F := XF_ald hq (hp_rarr hl) hin k
theorem in_of {x : Int32} (n : Nat) (h1 : cn1 .lt x = false) (h2 : cn2 .lt x (Int32.ofNat n) = true) (hn : n < 2147483648) : vp_in x n := by
  have h3 := j_lt_f h1
  have h4 := i_lt_t h2
  rw [nt_sm hn] at h4
  rintro (h | h)
  · rw [Int32.lt_iff_toInt_lt] at h
    have : ((0 : Int32).toInt) = 0 := rfl
    omega
  · have : x.toNatClampNeg = x.toInt.toNat := rfl
    omega
theorem x_H_out {d : Nat} (s : St) (a : Int32) (hr : thr s) (hw : th_out s a = false → vp_in a 2000) : XF m_H_out (d + 6) 0 (entL 2 [.inr (.inr (some 0)), .inl a]) [] (hp s) (FT (fun r P1 => th_out s a = false ∧ r = some (.inl (sA s 4 a.toNatClampNeg &&& 255)) ∧ P1 = hp s) (fun P1 => th_out s a = true ∧ thq1 s P1)) := by
  have hthr : th_out s a = true → XF m_H_out (d + 6) 7 [some (.inr (.inr (some 0))), some (.inl a)] [] (hp s) (FT (fun r P1 => th_out s a = false ∧ r = some (.inl (sA s 4 a.toNatClampNeg &&& 255)) ∧ P1 = hp s) (fun P1 => th_out s a = true ∧ thq1 s P1)) := fun h =>
    XF_thr (k := 32) (ix := 99) rfl rfl (by decide) rfl (by decide +kernel) (by decide +kernel) (by decide +kernel) (by decide +kernel) (by decide +kernel) (Nat.le_of_ble_eq_true rfl) hr.1 hr.2 (fun n u h1 h2 h3 h4 => ⟨h, thq_i n u h1 h2 h3 h4⟩)
  refine XF_run 2 (i1 := cond (cn1 .lt a) 7 2) (L1 := [some (.inr (.inr (some 0))), some (.inl a)]) (st1 := []) rfl ?_
  refine XF_brx (fun hb => hthr (by unfold th_out; rw [hb]; rfl)) (fun hb => ?_)
  refine XF_run 2 (i1 := 4) (L1 := [some (.inr (.inr (some 0))), some (.inl a)]) (st1 := [.inr (.inr (some 0)), .inl a]) rfl ?_
  refine XF_gF (v := .inr (.inr (some 2))) rfl rfl rfl rfl ?_
  refine XF_gF (v := .inl (sI s 2 3)) rfl rfl rfl rfl ?_
  refine XF_run 1 (i1 := cond (cn2 .lt a (sI s 2 3)) 12 7) (L1 := [some (.inr (.inr (some 0))), some (.inl a)]) (st1 := []) rfl ?_
  refine XF_brx (fun hc => ?_) (fun hc => hthr (by unfold th_out; rw [hb, hc]; rfl))
  have ht : th_out s a = false := by unfold th_out; rw [hb, hc]; rfl
  refine XF_ofX ?_
  refine X_run 1 (i1 := 13) (L1 := [some (.inr (.inr (some 0))), some (.inl a)]) (st1 := [.inr (.inr (some 0))]) rfl ?_
  refine X_gF (v := .inr (.inr (some 2))) rfl rfl rfl rfl ?_
  refine X_gF (v := .inr (.inr (some 4))) rfl rfl rfl rfl ?_
  refine X_run 1 (i1 := 16) (L1 := [some (.inr (.inr (some 0))), some (.inl a)]) (st1 := [.inl a, .inr (.inr (some 4))]) rfl ?_
  refine X_aY rfl rfl (hw ht) ?_
  refine X_run 2 (i1 := 19) (L1 := [some (.inr (.inr (some 0))), some (.inl a)]) (st1 := [.inl (sA s 4 a.toNatClampNeg &&& 255)]) rfl ?_
  exact X_iret rfl rfl ⟨ht, rfl, rfl⟩
theorem x_H_number {d : Nat} (s : St) (a : Int32) (hr : thr s) : XF m_H_number (d + 6) 0 (entL 2 [.inr (.inr (some 0)), .inl a]) [] (hp s) (FT (fun r P1 => th_num a = false ∧ r = some (.inl (sA s 9 a.toNatClampNeg)) ∧ P1 = hp s) (fun P1 => th_num a = true ∧ thq1 s P1)) := by
  have hthr : th_num a = true → XF m_H_number (d + 6) 5 [some (.inr (.inr (some 0))), some (.inl a)] [] (hp s) (FT (fun r P1 => th_num a = false ∧ r = some (.inl (sA s 9 a.toNatClampNeg)) ∧ P1 = hp s) (fun P1 => th_num a = true ∧ thq1 s P1)) := fun h =>
    XF_thr (k := 33) (ix := 133) rfl rfl (by decide) rfl (by decide +kernel) (by decide +kernel) (by decide +kernel) (by decide +kernel) (by decide +kernel) (Nat.le_of_ble_eq_true rfl) hr.1 hr.2 (fun n u h1 h2 h3 h4 => ⟨h, thq_i n u h1 h2 h3 h4⟩)
  refine XF_run 2 (i1 := cond (cn1 .lt a) 5 2) (L1 := [some (.inr (.inr (some 0))), some (.inl a)]) (st1 := []) rfl ?_
  refine XF_brx (fun hb => hthr (by unfold th_num; rw [hb]; rfl)) (fun hb => ?_)
  refine XF_run 3 (i1 := cond (cn2 .lt a 8) 10 5) (L1 := [some (.inr (.inr (some 0))), some (.inl a)]) (st1 := []) rfl ?_
  refine XF_brx (fun hc => ?_) (fun hc => hthr (by unfold th_num; rw [hb, hc]; rfl))
  have ht : th_num a = false := by unfold th_num; rw [hb, hc]; rfl
  refine XF_ofX ?_
  refine X_run 1 (i1 := 11) (L1 := [some (.inr (.inr (some 0))), some (.inl a)]) (st1 := [.inr (.inr (some 0))]) rfl ?_
  refine X_gF (v := .inr (.inr (some 8))) rfl rfl rfl rfl ?_
  refine X_gF (v := .inr (.inr (some 9))) rfl rfl rfl rfl ?_
  refine X_run 1 (i1 := 14) (L1 := [some (.inr (.inr (some 0))), some (.inl a)]) (st1 := [.inl a, .inr (.inr (some 9))]) rfl ?_
  refine X_aI rfl rfl (in_of 8 hb hc (by decide)) ?_
  exact X_iret rfl rfl ⟨ht, rfl, rfl⟩
theorem x_H_real {d : Nat} (s : St) (a : Int32) (hr : thr s) : XF m_H_real (d + 6) 0 (entL 2 [.inr (.inr (some 0)), .inl a]) [] (hp s) (FT (fun r P1 => th_rea a = false ∧ r = some (.inr (.inl (sB s 10 a.toNatClampNeg))) ∧ P1 = hp s) (fun P1 => th_rea a = true ∧ thq1 s P1)) := by
  have hthr : th_rea a = true → XF m_H_real (d + 6) 5 [some (.inr (.inr (some 0))), some (.inl a)] [] (hp s) (FT (fun r P1 => th_rea a = false ∧ r = some (.inr (.inl (sB s 10 a.toNatClampNeg))) ∧ P1 = hp s) (fun P1 => th_rea a = true ∧ thq1 s P1)) := fun h =>
    XF_thr (k := 34) (ix := 138) rfl rfl (by decide) rfl (by decide +kernel) (by decide +kernel) (by decide +kernel) (by decide +kernel) (by decide +kernel) (Nat.le_of_ble_eq_true rfl) hr.1 hr.2 (fun n u h1 h2 h3 h4 => ⟨h, thq_i n u h1 h2 h3 h4⟩)
  refine XF_run 2 (i1 := cond (cn1 .lt a) 5 2) (L1 := [some (.inr (.inr (some 0))), some (.inl a)]) (st1 := []) rfl ?_
  refine XF_brx (fun hb => hthr (by unfold th_rea; rw [hb]; rfl)) (fun hb => ?_)
  refine XF_run 3 (i1 := cond (cn2 .lt a 4) 10 5) (L1 := [some (.inr (.inr (some 0))), some (.inl a)]) (st1 := []) rfl ?_
  refine XF_brx (fun hc => ?_) (fun hc => hthr (by unfold th_rea; rw [hb, hc]; rfl))
  have ht : th_rea a = false := by unfold th_rea; rw [hb, hc]; rfl
  refine XF_ofX ?_
  refine X_run 1 (i1 := 11) (L1 := [some (.inr (.inr (some 0))), some (.inl a)]) (st1 := [.inr (.inr (some 0))]) rfl ?_
  refine X_gF (v := .inr (.inr (some 8))) rfl rfl rfl rfl ?_
  refine X_gF (v := .inr (.inr (some 10))) rfl rfl rfl rfl ?_
  refine X_run 1 (i1 := 14) (L1 := [some (.inr (.inr (some 0))), some (.inl a)]) (st1 := [.inl a, .inr (.inr (some 10))]) rfl ?_
  refine X_aL rfl rfl (in_of 4 hb hc (by decide)) ?_
  exact X_lret rfl rfl ⟨ht, rfl, rfl⟩
theorem XF_dcallu {F : PostT} {m : MI} {d i : Nat} {L : AL} {st : List AV} {pc : Nat} {ps : List Nat} {s : St} {o : Option Nat} (mc : MI) {v c9 : Nat} {As : List AV} {ci : Nat} {Qc : Option AV → AP → Prop} {e5 : Nat × Nat} (hok : okM mc) (hq : (mi_cd m)[i]? = some (pc, .invokeinterface v c9, ps)) (hvt : (v, ci, mi_id mc, e5) ∈ am_vt) (hn : (am_sg[mi_id mc]?).map (fun g => g.2.2.2.2.1) = some As.length) (ho : oC (sD s) o = some ci) (hlen : (entA (.inr (.inr (none)) :: As)).length ≤ mi_mx mc) (hst : (st.map av_c).sum ≤ 8) (hX : X mc d 0 (entL (mi_mx mc) (.inr (.inr o) :: As)) [] (hp s) Qc) (k : ∀ r P1, Qc r P1 → XF m (d + 1) (i + 1) L (r.toList ++ st) P1 F) : XF m (d + 1) i L (As.reverse ++ .inr (.inr o) :: st) (hp s) F := by
  obtain ⟨a, fs, rfl, h3, h4⟩ := va_ic ho
  exact XF_callu mc hok hq hvt hn ((hp_ge h3).trans h4) hlen hst hX k
theorem XF_utellable {F : PostT} {m : MI} {d i : Nat} {L : AL} {st : List AV} {pc : Nat} {ps : List Nat} {s : St} {o : Option Nat} (hq : (mi_cd m)[i]? = some (pc, .invokeinterface 1 0, ps)) (hst : (st.map av_c).sum ≤ 8) (hw : wu_tellable s o) (k : XF m (d + 3) (i + 1) L (.inl (u_tellable s o) :: st) (hp s) F) : XF m (d + 3) i L (.inr (.inr o) :: st) (hp s) F := by
  rcases hw with ⟨h, hw⟩ | ⟨h, hw⟩ | ⟨h, hw⟩ | ⟨h, hw⟩
  · have e : u_tellable s o = f_Pa_tellable s o := by unfold u_tellable; rw [if_pos h]
    rw [e] at k
    refine XF_dcallu m_Pa_tellable (As := []) (st := st) (e5 := (1291, 1292)) ok_Pa_tellable hq (by decide) rfl h (Nat.le_of_ble_eq_true rfl) hst (c_Pa_tellable (d := d) s o hw) ?_
    rintro _ _ ⟨rfl, rfl⟩
    exact k
  · have e : u_tellable s o = f_Ro_tellable s o := by unfold u_tellable; rw [if_neg (by rw [h]; decide), if_pos h]
    rw [e] at k
    refine XF_dcallu m_Ro_tellable (As := []) (st := st) (e5 := (1294, 1295)) ok_Ro_tellable hq (by decide) rfl h (Nat.le_of_ble_eq_true rfl) hst (c_Ro_tellable (d := d + 2) s o hw) ?_
    rintro _ _ ⟨rfl, rfl⟩
    exact k
  · have e : u_tellable s o = f_Sh_tellable s o := by unfold u_tellable; rw [if_neg (by rw [h]; decide), if_neg (by rw [h]; decide), if_pos h]
    rw [e] at k
    refine XF_dcallu m_Sh_tellable (As := []) (st := st) (e5 := (1297, 1298)) ok_Sh_tellable hq (by decide) rfl h (Nat.le_of_ble_eq_true rfl) hst (c_Sh_tellable (d := d + 2) s o hw) ?_
    rintro _ _ ⟨rfl, rfl⟩
    exact k
  · have e : u_tellable s o = f_Tr_tellable s o := by unfold u_tellable; rw [if_neg (by rw [h]; decide), if_neg (by rw [h]; decide), if_neg (by rw [h]; decide)]
    rw [e] at k
    refine XF_dcallu m_Tr_tellable (As := []) (st := st) (e5 := (1300, 1301)) ok_Tr_tellable hq (by decide) rfl h (Nat.le_of_ble_eq_true rfl) hst (c_Tr_tellable (d := d + 2) s o hw) ?_
    rintro _ _ ⟨rfl, rfl⟩
    exact k
theorem x_H_member {d : Nat} (s : St) (a b : Int32) (hr : thr s) (hw1 : th_sl s a ≠ none → wu_tellable s (th_sl s a)) (hw2 : th_mem s a b = false → wu_told s (th_sl s a) b) : XF m_H_member (d + 6) 0 (entL 4 [.inr (.inr (some 0)), .inl a, .inl b]) [] (hp s) (FT (fun r P1 => th_mem s a b = false ∧ r = some (.inr (.inl (u_told s (th_sl s a) b))) ∧ P1 = hp s) (fun P1 => th_mem s a b = true ∧ thq1 s P1)) := by
  have hthr : ∀ L, th_mem s a b = true → XF m_H_member (d + 6) 21 L [] (hp s) (FT (fun r P1 => th_mem s a b = false ∧ r = some (.inr (.inl (u_told s (th_sl s a) b))) ∧ P1 = hp s) (fun P1 => th_mem s a b = true ∧ thq1 s P1)) := fun L h =>
    XF_thr (k := 35) (ix := 160) rfl rfl (by decide) rfl (by decide +kernel) (by decide +kernel) (by decide +kernel) (by decide +kernel) (by decide +kernel) (Nat.le_of_ble_eq_true rfl) hr.1 hr.2 (fun n u h1 h2 h3 h4 => ⟨h, thq_i n u h1 h2 h3 h4⟩)
  have h12 : ∀ o, th_sl s a = o → XF m_H_member (d + 6) 12 [some (.inr (.inr (some 0))), some (.inl a), some (.inl b), none] [.inr (.inr o)] (hp s) (FT (fun r P1 => th_mem s a b = false ∧ r = some (.inr (.inl (u_told s (th_sl s a) b))) ∧ P1 = hp s) (fun P1 => th_mem s a b = true ∧ thq1 s P1)) := by
    intro o ho
    cases o with
    | none =>
      have ht : th_mem s a b = true := by unfold th_mem; rw [ho]; rfl
      refine XF_run 3 (i1 := 21) (L1 := [some (.inr (.inr (some 0))), some (.inl a), some (.inl b), some (.inr (.inr none))]) (st1 := []) rfl ?_
      exact hthr _ ht
    | some q =>
      rw [ho] at hw1 hw2
      refine XF_run 3 (i1 := 15) (L1 := [some (.inr (.inr (some 0))), some (.inl a), some (.inl b), some (.inr (.inr (some q)))]) (st1 := []) rfl ?_
      refine XF_run 2 (i1 := cond (cn1 .lt b) 21 17) (L1 := [some (.inr (.inr (some 0))), some (.inl a), some (.inl b), some (.inr (.inr (some q)))]) (st1 := []) rfl ?_
      refine XF_brx (fun hb => hthr _ (by unfold th_mem; rw [ho, hb]; rfl)) (fun hb => ?_)
      refine XF_run 2 (i1 := 19) (L1 := [some (.inr (.inr (some 0))), some (.inl a), some (.inl b), some (.inr (.inr (some q)))]) (st1 := [.inr (.inr (some q)), .inl b]) rfl ?_
      refine XF_utellable (d := d + 3) (o := some q) rfl (Nat.le_of_ble_eq_true rfl) (hw1 (fun h => by cases h)) ?_
      refine XF_run 1 (i1 := cond (cn2 .lt b (u_tellable s (some q))) 26 21) (L1 := [some (.inr (.inr (some 0))), some (.inl a), some (.inl b), some (.inr (.inr (some q)))]) (st1 := []) rfl ?_
      refine XF_brx (fun hc => ?_) (fun hc => hthr _ (by unfold th_mem; rw [ho, hb, hc]; rfl))
      have ht : th_mem s a b = false := by unfold th_mem; rw [ho, hb, hc]; rfl
      refine XF_ofX ?_
      refine X_run 2 (i1 := 28) (L1 := [some (.inr (.inr (some 0))), some (.inl a), some (.inl b), some (.inr (.inr (some q)))]) (st1 := [.inl b, .inr (.inr (some q))]) rfl ?_
      refine X_utold (d := d + 4) (st := []) (o := some q) rfl (Nat.le_of_ble_eq_true rfl) (hw2 ht) ?_
      exact X_lret rfl rfl ⟨ht, by rw [ho], rfl⟩
  refine XF_run 2 (i1 := cond (cn1 .lt a) 5 2) (L1 := [some (.inr (.inr (some 0))), some (.inl a), some (.inl b), none]) (st1 := []) rfl ?_
  refine XF_brx (fun hb => ?_) (fun hb => ?_)
  · have e : th_sl s a = none := by unfold th_sl; rw [hb]; rfl
    refine XF_run 2 (i1 := 12) (L1 := [some (.inr (.inr (some 0))), some (.inl a), some (.inl b), none]) (st1 := [.inr (.inr none)]) rfl ?_
    exact h12 _ e
  · refine XF_run 3 (i1 := cond (cn2 .lt a 16) 7 5) (L1 := [some (.inr (.inr (some 0))), some (.inl a), some (.inl b), none]) (st1 := []) rfl ?_
    refine XF_brx (fun hc => ?_) (fun hc => ?_)
    · have e : th_sl s a = sT s 11 a.toNatClampNeg := by unfold th_sl; rw [hb, hc]; rfl
      refine XF_run 1 (i1 := 8) (L1 := [some (.inr (.inr (some 0))), some (.inl a), some (.inl b), none]) (st1 := [.inr (.inr (some 0))]) rfl ?_
      refine XF_gF (v := .inr (.inr (some 8))) rfl rfl rfl rfl ?_
      refine XF_gF (v := .inr (.inr (some 11))) rfl rfl rfl rfl ?_
      refine XF_run 1 (i1 := 11) (L1 := [some (.inr (.inr (some 0))), some (.inl a), some (.inl b), none]) (st1 := [.inl a, .inr (.inr (some 11))]) rfl ?_
      refine XF_aR rfl rfl (in_of 16 hb hc (by decide)) ?_
      exact h12 _ e
    · have e : th_sl s a = none := by unfold th_sl; rw [hb, hc]; rfl
      refine XF_run 2 (i1 := 12) (L1 := [some (.inr (.inr (some 0))), some (.inl a), some (.inl b), none]) (st1 := [.inr (.inr none)]) rfl ?_
      exact h12 _ e
section XZ
variable {m : MI} {d i : Nat} {L : AL} {st : List AV} {P : AP} {Q : Option AV → AP → Prop} {pc n : Nat} {ps : List Nat}
/-- a call that may throw, in a method that catches -/
theorem X_callX (mc : MI) {As : List AV} {a ci : Nat} {fs : List AV} {Qc : Option AV → AP → Prop} {Qx : AP → Prop} {ih pch j : Nat} {x0 : ExceptionTableEntry} {ps2 : List Nat} (hok : okM mc) (hq : (mi_cd m)[i]? = some (pc, .invokevirtual n, ps)) (hid : mi_id mc = n) (hn : (am_sg[n]?).map (fun g => g.2.2.2.2.1) = some As.length) (ha : P.1 a = some (.inl (ci, fs))) (hcl : (am_cl[ci]?).map (fun r => r.1) = some (mi_y mc).cls) (hlen : (entA (.inr (.inr (some a)) :: As)).length ≤ mi_mx mc) (hst : (st.map av_c).sum ≤ 8) (hX : XF mc d 0 (entL (mi_mx mc) (.inr (.inr (some a)) :: As)) [] P (FT Qc Qx))
    (hlaw : (mi_y m).cls = "PatchHouseLaw") (het : etb (mi_id m) = [x0]) (hcov : covers x0 pc = true) (hct : x0.catchType = 13) (hhp : x0.handlerPc = pch) (hqh : (mi_cd m)[ih]? = some (pch, .astore j, ps2)) (hj : j < mi_mx m)
    (k : ∀ r P1, Qc r P1 → X m (d + 1) (i + 1) L (r.toList ++ st) P1 Q) (kx : ∀ P1, Qx P1 → X m (d + 1) (ih + 1) (List.replicate (mi_mx m) none) [] P1 Q) : X m (d + 1) i L (As.reverse ++ .inr (.inr (some a)) :: st) P Q := by
  intro hokm p l e1 R s mid args below meth c D rt B n0 u0 hC hL ls H locs hH hl hS
  obtain ⟨ri, len, hd, ho⟩ := okM_at hokm hq
  have K := fun r P1 hQ => k r P1 hQ hokm p l e1 R s mid args below meth c D rt B n0 u0 hC hL ls
  obtain ⟨hx, hb, hml, hret, hlk, -, hown, hts, hK, hNc, hKS, hRT, hrm, hcap, hsz⟩ := id hC
  rw [pcO_at hq]
  subst hid
  obtain ⟨g, hg, e2, hB, hcd, hin, hmh, hsg⟩ := cb_of (P := P) hC hok
  obtain ⟨r, hr, hr1⟩ := Option.map_eq_some_iff.mp hcl
  have hrec := recv_at hK hH ha hr
  rw [hr1] at hrec
  obtain ⟨g1, g2⟩ := ok_h ho
  split at g2
  · next x =>
    obtain ⟨g3, g4⟩ := ok_h g2
    subst g3
    dsimp only at g4
    rw [hg] at g4 hn
    obtain ⟨g5, g6, g7⟩ := ok_3 g4
    have hn2 : g.2.2.2.2.1 = As.length := Option.some.inj hn
    rw [e2] at g5 g6 g7
    have hM := XF_met (l := l.1) (D := D) l.2 hok hRT hlen hX
    have h4 := hH.2.2.2
    have hstk : List.map (tv rt) (As.reverse ++ .inr (.inr (some a)) :: st) = (As.map (tv rt)).reverse ++ .ref (rt a) :: st.map (tv rt) := by rw [List.map_append, List.map_reverse]; rfl
    rw [hstk]
    refine W_tight hH.2.1 hH.2.2.1 hsz.1 hsz.2 (fun hg1 hg2 => ?_)
    refine X_afterX hC hS (vx_runV (nL := mi_mx m) (n := As.length) (As := As.map (tv rt)) (b := rt a) (rest := st.map (tv rt)) ⟨hx, hb, hml, hown, hts⟩ hM ⟨⟨hB.1, hB.2.1, hB.2.2.1, hB.2.2.2.1, hB.2.2.2.2.1, hB.2.2.2.2.2, hcd, hin, hmh, by rw [← hn2]; exact hsg, hts _ (wq_in g5 rfl)⟩, hts _ (wq_in g6 rfl), hts _ (wq_in g7 rfl)⟩ ⟨xPc_blind, hrec, fun U hU hW => xPc_at hC hH hS (.inr (.inr (some a)) :: As) U hU hW⟩ rfl (by rw [List.length_map]) hl.1 rfl (lv_room (by rw [sum_c]; exact hst)) hd ⟨by omega, by omega⟩) (fun r P1 hQ H1 locs1 hH1 hS1 => ?_) (fun P1 hQ H1 locs1 q ce hH1 hS1 hce hcv hcl1 => ?_)
    · show W p l e1 R s mid args below meth c H1 locs1 _ _ _ (F0 mid (pc + 3) ls _)
      rw [← pcO_of g1]
      exact K r P1 hQ H1 locs1 hH1 hl hS1
    · refine vx_catch1 (own := "PatchHouseLaw") (name := nsE) (E := nsE) (ce := ce) (x := x0) (by rw [← hlaw]; exact hown) (by rw [hcap.2.2, het]) hcov (by rw [hct]; decide) (by rw [hct]; exact hts _ ns_in.2.2.2) (va_Nw.use rfl (hKS.2.2.2 _ ns_in.2.2.1)) hce hcv hcl1 ?_
      rw [hhp]
      exact W_hand hqh hj (kx P1 hQ) hokm hC hH1 hl hS1
  · cases g2
theorem X_metH {As : List AV} {l : Launch} {D : va_G} {rt : Nat → Nat} {B : Nat} (hlt : l.stackTraces = false) (hok : okB m = true) (hpl : plainName (mi_y m).cls = true) (hid : ¬ mi_id m < 100000) (hRT : RTp B rt) (hlen : (entA As).length ≤ mi_mx m) (hX : X m d 0 (entL (mi_mx m) As) [] P Q) :
    Met l (mi_y m) (Cond.codeWith (mi_y m) (mi_cc m) (mi_mx m) (mi_rt m) (am_hh (mi_id m)) :: gtb) (xrm d P) (xPc D rt B As P) (XR D rt B Q) (601024 - P.2.1) (7293034 - P.2.2) (fun q => B ≤ q) := by
  refine va_MetW (cc := mi_cc m) (maxL := mi_mx m) (ret := mi_rt m) (hh := am_hh (mi_id m)) hpl rfl ?_
  intro p e s mid args below meth c s₁ Bd hml hv
  obtain ⟨rfl, hH, hK, hNc, hKS⟩ := hv
  have hts : ∀ w ∈ (Cond.codeWith (mi_y m) (mi_cc m) (mi_mx m) (mi_rt m) (am_hh (mi_id m)) :: gtb), w.before _ s = true := atoms_spec (ws := Cond.codeWith (mi_y m) (mi_cc m) (mi_mx m) (mi_rt m) (am_hh (mi_id m)) :: gtb) Bd.pre
  have hl0 := lv_entry (As.map (tv rt)) (n := mi_mx m) (by rw [ent_len]; exact hlen)
  have hpc : pcO m 0 = 0 := pcO_of (of_decide_eq_true (Bool.and_eq_true_iff.mp hok).1)
  have h4 := hH.2.2.2
  have het : c.exceptionTable.toList = etb (mi_id m) := by
    unfold etb
    rw [if_neg hid]
    exact vx_table (x := mi_y m) Bd (hts _ List.mem_cons_self)
  have hW := hX hok p ⟨l, hlt⟩ e (xrm d P) s mid _ below meth c D rt B P.2.1 P.2.2 ⟨Bd.exec, Bd.bytes, hml, Bd.returns, Bd.notSynchronized, (name_of_methodNamed Bd.named Bd.method).1, findClass_of_methodNamed Bd.named, fun w hw => hts w (List.mem_cons_of_mem _ hw), hK, hNc, hKS, hRT, ⟨Nat.le_refl _, Nat.le_refl _⟩, ⟨by show P.2.1 + (601024 - P.2.1) = 601024; omega, by show P.2.2 + (7293034 - P.2.2) = 7293034; omega, het⟩, hH.2.1, hH.2.2.1⟩
    (by unfold entL; rw [List.length_append, List.length_replicate]; omega) _ _ [] hH (hl0.mem (ent_sub rt _ As)) va_S.rf
  rw [hpc, Nat.sub_self, Nat.sub_self] at hW
  rw [lg_entry_eq]
  exact hW
/-- the law's call of a helper -/
theorem X_callH (mc : MI) {As : List AV} {Qc : Option AV → AP → Prop} (hok : okB mc = true) (hq : (mi_cd m)[i]? = some (pc, .dstore n, ps)) (hy : am_hl[n]? = some (mi_y mc)) (hid : ¬ mi_id mc < 100000) (hpl : plainName (mi_y mc).cls = true) (hcls : (mi_y mc).cls = "PatchHouseLaw") (hpd : (parseMethodDescriptor (mi_y mc).desc).map (fun d => d.parameters.length) = some As.length) (hmx : mi_mx mc ≤ 8) (hcw : Cond.codeWith (mi_y mc) (mi_cc mc) (mi_mx mc) (mi_rt mc) (am_hh (mi_id mc)) ∈ gtb) (hini : Cond.initialized "PatchHouseLaw" ∈ gtb)
    (hlen : (entA As).length ≤ mi_mx mc) (hst : (st.map av_c).sum ≤ 8) (hX : X mc d 0 (entL (mi_mx mc) As) [] P Qc) (k : ∀ r P1, Qc r P1 → X m (d + 1) (i + 1) L (r.toList ++ st) P1 Q) : X m (d + 1) i L (As.reverse ++ st) P Q := by
  intro hokm p l e1 R s mid args below meth c D rt B n0 u0 hC hL ls H locs hH hl hS
  obtain ⟨ri, len, hd, ho⟩ := okM_at hokm hq
  have K := fun r P1 hQ => k r P1 hQ hokm p l e1 R s mid args below meth c D rt B n0 u0 hC hL ls
  obtain ⟨hx, hb, hml, hret, hlk, -, hown, hts, hK, hNc, hKS, hRT, hrm, hcap, hsz⟩ := id hC
  rw [pcO_at hq]
  obtain ⟨g1, g2⟩ := ok_h ho
  split at g2
  · next x =>
    obtain ⟨g3, g4⟩ := ok_h g2
    subst g3
    dsimp only at g4
    rw [hy] at g4
    obtain ⟨g5, g6⟩ := ok_2 g4
    have hM := X_metH (l := l.1) (D := D) l.2 hok hpl hid hRT hlen hX
    have h4 := hH.2.2.2
    have hstk : List.map (tv rt) (As.reverse ++ st) = (As.map (tv rt)).reverse ++ st.map (tv rt) := by rw [List.map_append, List.map_reverse]
    rw [hstk]
    refine W_tight hH.2.1 hH.2.2.1 hsz.1 hsz.2 (fun hg1 hg2 => ?_)
    refine X_after hC hH hS (vx_runSW (nL := mi_mx m) (n := As.length) (bytes := mi_cc mc) (maxL := mi_mx mc) (ret := mi_rt mc) (hh := am_hh (mi_id mc)) (As := As.map (tv rt)) (rest := st.map (tv rt)) ⟨hx, hb, hml, hown, hts⟩ hM ⟨⟨rfl, rfl, by show d + 1 ≤ _; exact hrm.1, ?_, ?_, List.mem_cons_self⟩, hts _ hcw, by rw [hcls]; exact hts _ hini, by rw [hcls]; exact ⟨by decide, by decide⟩, ?_, hts _ (wq_in g5 rfl), hts _ (wq_in g6 rfl)⟩ ⟨xPc_blind, fun U hU hW => xPc_at hC hH hS As U hU hW⟩ rfl (by rw [List.length_map]) hl.1 rfl (lv_room (by rw [sum_c]; exact hst)) hd ⟨by omega, by omega⟩) (fun r P1 hQ H1 locs1 hH1 hS1 => ?_)
    · show 8 + (mi_mx mc + 11) + (44 * d + 12) ≤ R.locals
      have := hrm.2
      omega
    · intro w hw a' U hU
      have hw2 : w ∈ gtb := by
        rcases List.mem_cons.mp hw with rfl | h
        · exact hcw
        · exact h
      exact word_at hU (good_of_word (List.mem_filter.mp hw2).2) (hts w hw2)
    · intro sig hsig
      rw [hsig] at hpd
      exact (Option.some.inj hpd).symm
    · show W p l e1 R s mid args below meth c H1 locs1 _ _ _ (F0 mid (pc + 3) ls _)
      rw [← pcO_of g1]
      exact K r P1 hQ H1 locs1 hH1 hl hS1
  · cases g2
end XZ
