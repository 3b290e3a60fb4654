/-! calls -/
def entA : List AV → AL
  | [] => []
  | .inr (.inl x) :: r => some (.inr (.inl x)) :: none :: entA r
  | v :: r => some v :: entA r
def entL (n : Nat) (As : List AV) : AL := entA As ++ List.replicate (n - (entA As).length) none
theorem ent_len (rt : Nat → Nat) : ∀ As : List AV, (lg_sl (As.map (tv rt))).length = (entA As).length
  | [] => rfl
  | .inr (.inl x) :: r => by
    have ih := ent_len rt r
    simp only [List.map_cons, lg_sl, List.flatMap_cons, List.length_append, entA, List.length_cons]
    rw [show (List.flatMap (fun v => if v.category = 2 then [Slot.val v, Slot.second] else [Slot.val v]) (List.map (tv rt) r)).length = (entA r).length from ih]
    show 2 + _ = _
    omega
  | .inl x :: r => by
    have ih := ent_len rt r
    simp only [List.map_cons, lg_sl, List.flatMap_cons, List.length_append, entA, List.length_cons]
    rw [show (List.flatMap (fun v => if v.category = 2 then [Slot.val v, Slot.second] else [Slot.val v]) (List.map (tv rt) r)).length = (entA r).length from ih]
    show 1 + _ = _
    omega
  | .inr (.inr o) :: r => by
    have ih := ent_len rt r
    simp only [List.map_cons, lg_sl, List.flatMap_cons, List.length_append, entA, List.length_cons]
    rw [show (List.flatMap (fun v => if v.category = 2 then [Slot.val v, Slot.second] else [Slot.val v]) (List.map (tv rt) r)).length = (entA r).length from ih, if_neg (by cases o <;> simp [tv, Value.category])]
    show 1 + _ = _
    omega
theorem ent_args (rt : Nat → Nat) : ∀ (As : List AV) (i j : Nat) (v : AV), (entA As)[j]? = some (some v) → (i + j, tv rt v) ∈ lv_args i (As.map (tv rt))
  | [], _, _, _, h => by cases h
  | .inr (.inl x) :: r, i, j, v, h => by
    have e : lv_args i ((.inr (.inl x) :: r : List AV).map (tv rt)) = (i, .long x) :: lv_args (i + 2) (r.map (tv rt)) := rfl
    rw [e]
    match j, h with
    | 0, h => cases h; exact List.mem_cons_self
    | 1, h => cases h
    | j + 2, h =>
      have := ent_args rt r (i + 2) j v h
      rw [show i + (j + 2) = i + 2 + j by omega]
      exact List.mem_cons_of_mem _ this
  | .inl x :: r, i, j, v, h => by
    have e : lv_args i ((.inl x :: r : List AV).map (tv rt)) = (i, .int x) :: lv_args (i + 1) (r.map (tv rt)) := rfl
    rw [e]
    match j, h with
    | 0, h => cases h; exact List.mem_cons_self
    | j + 1, h =>
      have := ent_args rt r (i + 1) j v h
      rw [show i + (j + 1) = i + 1 + j by omega]
      exact List.mem_cons_of_mem _ this
  | .inr (.inr o) :: r, i, j, v, h => by
    have e : lv_args i ((.inr (.inr o) :: r : List AV).map (tv rt)) = (i, tv rt (.inr (.inr o))) :: lv_args (i + 1) (r.map (tv rt)) := by
      cases o <;> rfl
    rw [e]
    match j, h with
    | 0, h => cases h; exact List.mem_cons_self
    | j + 1, h =>
      have := ent_args rt r (i + 1) j v h
      rw [show i + (j + 1) = i + 1 + j by omega]
      exact List.mem_cons_of_mem _ this
theorem ent_sub (rt : Nat → Nat) (n : Nat) (As : List AV) : ∀ q ∈ lps rt (entL n As), q ∈ lv_args 0 (As.map (tv rt)) := by
  rintro ⟨j, w⟩ hq
  obtain ⟨v, h1, rfl⟩ := lps_mem.mp hq
  unfold entL at h1
  by_cases hj : j < (entA As).length
  · rw [List.getElem?_append_left hj] at h1
    have := ent_args rt As 0 j v h1
    rw [Nat.zero_add] at this
    exact this
  · rw [List.getElem?_append_right (by omega), List.getElem?_replicate] at h1
    split at h1 <;> cases h1
/-- what a callee is given -/
def xPc (D : va_G) (rt : Nat → Nat) (B : Nat) (As : List AV) (P : AP) : Array Value → State → Prop := fun v U =>
  v = (As.map (tv rt)).toArray ∧ HR D rt B U P U.heap ∧ va_K D am_cl [] U ∧ (∀ q ∈ am_nc, va_Nc q.1 q.2 U) ∧ KS rt (fun q => B ≤ q) U
theorem xPc_blind {D : va_G} {rt : Nat → Nat} {B : Nat} {As : List AV} {P : AP} : FrameBlind (xPc D rt B As P) := by
  rintro a U g mk ⟨h1, h2, h3, h4, h5⟩
  exact ⟨h1, h2.moved (Vm.Alike.refl U.vm), va_K.moved (u := U) (U := U.calling g mk a) (Vm.Alike.refl U.vm) h3, fun q hq => va_Nc.moved (u := U) (U := U.calling g mk a) (Vm.Alike.refl U.vm) (h4 q hq), KS.moved (s := U) (U := U.calling g mk a) h5 (State.WarmedH.refl U) (fun _ _ _ => rfl)⟩
def xrm (d : Nat) (P : AP) : Room := { frames := d, cells := 601024 - P.2.1, slots := 7293034 - P.2.2, locals := 44 * d + 12 }
theorem sg_at {k : Nat} {g : SGt} (h : am_sg[k]? = some g) : okSP g := sg_all g (List.mem_of_getElem? h)
theorem okM_sg {m : MI} (h : okM m) : ∃ g : SGt, am_sg[mi_id m]? = some g ∧ g.1 = mi_y m ∧ g.2.1 = mi_cc m ∧ g.2.2.1 = mi_mx m ∧ g.2.2.2.1 = mi_rt m := by
  obtain ⟨g, h1, h2⟩ := Option.map_eq_some_iff.mp h.2
  simp only [Prod.mk.injEq] at h2
  exact ⟨g, h1, h2.1, h2.2.1, h2.2.2.1, h2.2.2.2⟩
theorem sg_len : am_sg.length < 100000 := by decide +kernel
theorem sg_lt {k : Nat} {g : SGt} (h : am_sg[k]? = some g) : etb k = [] := by
  have h1 := (List.getElem?_eq_some_iff.mp h).1
  have h2 := sg_len
  unfold etb
  rw [if_pos (by omega)]
theorem X_met {m : MI} {d : Nat} {As : List AV} {P : AP} {Q : Option AV → AP → Prop} {l : Launch} {D : va_G} {rt : Nat → Nat} {B : Nat} (hlt : l.stackTraces = false) (hok : okM m) (hRT : RTp B rt) (hlen : (entA As).length ≤ mi_mx m) (hX : X m d 0 (entL (mi_mx m) As) [] P Q) :
    Met l (mi_y m) (Cond.code (mi_y m) (mi_cc m) (mi_mx m) (mi_rt m) :: gtb) (xrm d P) (xPc D rt B As P) (XR D rt B Q) (601024 - P.2.1) (7293034 - P.2.2) (fun q => B ≤ q) := by
  obtain ⟨g, hg, e1, e2, e3, e4⟩ := okM_sg hok
  have hS := sg_at hg
  refine Met.ofW (cc := mi_cc m) (maxL := mi_mx m) (ret := mi_rt m) (by rw [← e1]; exact hS.2.2.1) rfl ?_
  intro p e s mid args below meth c s₁ Bd hml hv
  obtain ⟨rfl, hH, hK, hNc, hKS⟩ := hv
  have hts : ∀ w ∈ (Cond.code (mi_y m) (mi_cc m) (mi_mx m) (mi_rt m) :: gtb), w.before _ s = true := atoms_spec (ws := Cond.code (mi_y m) (mi_cc m) (mi_mx m) (mi_rt m) :: gtb) Bd.pre
  have hl0 := lv_entry (As.map (tv rt)) (n := mi_mx m) (by rw [ent_len]; exact hlen)
  have hpc : pcO m 0 = 0 := pcO_of (of_decide_eq_true (Bool.and_eq_true_iff.mp hok.1).1)
  have h4 := hH.2.2.2
  have het : c.exceptionTable.toList = etb (mi_id m) := by
    obtain ⟨meth9, c9, h1, h2, -, -, -, -, h7, -⟩ := Cond.code_spec Bd.named (hts _ List.mem_cons_self)
    cases Option.some.inj (h1.symm.trans Bd.method)
    cases Option.some.inj (h2.symm.trans (Stand.of_body Bd).code)
    rw [Array.isEmpty_iff.mp h7, sg_lt hg]
  have hW := hX hok.1 p ⟨l, hlt⟩ e (xrm d P) s mid _ below meth c D rt B P.2.1 P.2.2 ⟨Bd.exec, Bd.bytes, hml, Bd.returns, Bd.notSynchronized, (name_of_methodNamed Bd.named Bd.method).1, findClass_of_methodNamed Bd.named, fun w hw => hts w (List.mem_cons_of_mem _ hw), hK, hNc, hKS, hRT, ⟨Nat.le_refl _, Nat.le_refl _⟩, ⟨by show P.2.1 + (601024 - P.2.1) = 601024; omega, by show P.2.2 + (7293034 - P.2.2) = 7293034; omega, het⟩, hH.2.1, hH.2.2.1⟩
    (by unfold entL; rw [List.length_append, List.length_replicate]; omega) _ _ [] hH (hl0.mem (ent_sub rt _ As)) va_S.rf
  rw [hpc, Nat.sub_self, Nat.sub_self] at hW
  rw [lg_entry_eq]
  exact hW
section XCALL
variable {m : MI} {d i : Nat} {L : AL} {st : List AV} {P : AP} {Q : Option AV → AP → Prop} {pc n : Nat} {ps : List Nat}
theorem sum_c (rt : Nat → Nat) (st : List AV) : ((st.map (tv rt)).map fun v => v.category).sum = (st.map av_c).sum := by
  rw [List.map_map, show ((fun v : Value => v.category) ∘ tv rt) = av_c from funext (fun v => tv_c rt v)]
theorem xPc_at {p : Program} {R : Room} {s : State} {mid : MethodId} {args : Array Value} {meth : Method} {c : Code} {D : va_G} {rt : Nat → Nat} {B n0 u0 : Nat} {H : Heap} {locs : List Loc} (hC : XK m d p R s mid args meth c D rt B n0 u0) (hH : HR D rt B s P H) (hS : va_S (fun q => B ≤ q) s.heap H locs) (As : List AV) (U : State) (hU : U.heap = H) (hW : s.WarmedH U.vm) : xPc D rt B As P (As.map (tv rt)).toArray U := by
  obtain ⟨-, -, -, -, -, -, -, hts, hK, hNc, hKS, -⟩ := hC
  exact ⟨rfl, by rw [hU]; exact hH.moved hW.alike, va_K.moved hW.alike hK, fun q hq => va_Nc.moved hW.alike (hNc q hq), hKS.moved hW (fun a h1 h2 => by rw [hU]; exact hS.2.1 a h1 h2)⟩
/-- behind a call -/
theorem X_after {F : State → Prop} {Qc : Option AV → AP → Prop} {p : Program} {l : Launch} {e : Env} {R : Room} {s : State} {mid : MethodId} {args : Array Value} {below : List Frame} {meth : Method} {c : Code} {D : va_G} {rt : Nat → Nat} {B n0 u0 : Nat} {H : Heap} {ls : Array Slot} {locs : List Loc} {cells slots k1 k2 : Nat} {st0 : List Value} {av : Array Value}
    (hC : XK m d p R s mid args meth c D rt B n0 u0) (hH : HR D rt B s P H) (hS : va_S (fun q => B ≤ q) s.heap H locs)
    (hr : va_Run p l e R s mid args below meth c H locs cells slots k1 k2 (F0 mid pc ls st0) (st.map (tv rt)) (XR D rt B Qc av) (fun q => B ≤ q))
    (K : ∀ (r : Option AV) (P1 : AP), Qc r P1 → ∀ (H1 : Heap) (locs1 : List Loc), HR D rt B s P1 H1 → va_S (fun q => B ≤ q) s.heap H1 locs1 → W p l e R s mid args below meth c H1 locs1 (P1.2.1 - n0) (P1.2.2 - u0) F (F0 mid (pc + 3) ls ((r.toList ++ st).map (tv rt)))) :
    W p l e R s mid args below meth c H locs cells slots F (F0 mid pc ls st0) := by
  intro T hT X0
  obtain ⟨v, st₀, t, T1, L1, h0, X1, hL1, e1, e2, ⟨r, P1, hQ, hv, hH1, hF⟩, go⟩ := hr T hT X0
  have hsz := hC.2.2.2.2.2.2.2.2.2.2.2.2.2.2
  have hv2 : v = r.map (tv rt) := Outcome.returned.inj hv
  have hal : t.vm.Alike s.vm := by rw [← e2]; exact X1.warmed.alike.symm
  have hH2 : HR D rt B s P1 T1.heap := by rw [e1]; exact hH1.moved hal
  have hS2 : va_S (fun q => B ≤ q) s.heap T1.heap (locs ++ L1) := by
    rw [e1]
    rw [va_F, h0] at hF
    refine ⟨Nat.le_trans hS.1 hF.1, fun q g1 g2 => (hF.2 q (Nat.lt_of_lt_of_le g1 hS.1) g2).trans (hS.2.1 q g1 g2), fun q hq => ?_⟩
    rcases List.mem_append.mp hq with h | h
    · exact hS.2.2 q h
    · exact hL1 q h
  have W1 := W_tight (cells := cells + k1) (slots := slots + k2) hH2.2.1 hH2.2.2.1 hsz.1 hsz.2 (fun _ _ => K r P1 hQ T1.heap (locs ++ L1) hH2 hS2)
  obtain ⟨t2, a1, b1⟩ := W1 T1 rfl X1
  refine ⟨t2, go t2 ?_, b1⟩
  have hst : ((r.toList ++ st).map (tv rt)) = v.toList ++ st.map (tv rt) := by
    rw [hv2]
    cases r <;> rfl
  rw [hst] at a1
  exact a1
/-- the words of a callee -/
theorem cb_of {mc : MI} {p : Program} {R : Room} {s : State} {mid : MethodId} {args : Array Value} {meth : Method} {c : Code} {D : va_G} {rt : Nat → Nat} {B n0 u0 : Nat} (hC : XK m (d + 1) p R s mid args meth c D rt B n0 u0) (hok : okM mc) : ∃ g : SGt, am_sg[mi_id mc]? = some g ∧ g.1 = mi_y mc ∧
    ((xrm d P).cells = 601024 - P.2.1 ∧ (xrm d P).slots = 7293034 - P.2.2 ∧ (xrm d P).frames + 1 ≤ R.frames ∧ 8 + (mi_mx mc + 11) + (xrm d P).locals ≤ R.locals ∧ (∀ w ∈ (Cond.code (mi_y mc) (mi_cc mc) (mi_mx mc) (mi_rt mc) :: gtb), ∀ (a' : Array Value) (U : State), s.WarmedH U.vm → w.before a' U = true) ∧ Cond.code (mi_y mc) (mi_cc mc) (mi_mx mc) (mi_rt mc) ∈ (Cond.code (mi_y mc) (mi_cc mc) (mi_mx mc) (mi_rt mc) :: gtb)) ∧
    (Cond.code (mi_y mc) (mi_cc mc) (mi_mx mc) (mi_rt mc)).before args s = true ∧ (Cond.initialized (mi_y mc).cls).before args s = true ∧ ((mi_y mc).cls ≠ "java/lang/invoke/MethodHandle" ∧ (mi_y mc).cls ≠ "java/lang/invoke/VarHandle") ∧ (∀ sig, parseMethodDescriptor (mi_y mc).desc = some sig → g.2.2.2.2.1 = sig.parameters.length) := by
  obtain ⟨g, hg, e1, e2, e3, e4⟩ := okM_sg hok
  have hS := sg_at hg
  obtain ⟨-, -, -, -, -, -, -, hts, -, -, -, -, hrm, -⟩ := hC
  refine ⟨g, hg, e1, ⟨rfl, rfl, by show d + 1 ≤ _; exact hrm.1, ?_, ?_, List.mem_cons_self⟩, ?_, ?_, ?_, ?_⟩
  · have h6 := hS.2.2.2.2.2
    rw [e3] at h6
    show 8 + (mi_mx mc + 11) + (44 * d + 12) ≤ R.locals
    have := hrm.2
    omega
  · intro w hw a' U hU
    have hw2 : w ∈ gtb := by
      rcases List.mem_cons.mp hw with rfl | h
      · rw [← e1, ← e2, ← e3, ← e4]; exact hS.1
      · exact h
    exact word_at hU (good_of_word (List.mem_filter.mp hw2).2) (hts w hw2)
  · rw [← e1, ← e2, ← e3, ← e4]; exact hts _ hS.1
  · rw [← e1]; exact hts _ hS.2.1
  · rw [← e1]; exact hS.2.2.2.1
  · intro sig hsig
    rw [← e1] at hsig
    have h5 := hS.2.2.2.2.1
    rw [hsig] at h5
    exact (Option.some.inj h5).symm
/-- invokestatic -/
theorem X_calls (mc : MI) {As : List AV} {Qc : Option AV → AP → Prop} (hok : okM mc) (hq : (mi_cd m)[i]? = some (pc, .invokestatic n, ps)) (hid : mi_id mc = n) (hn : (am_sg[n]?).map (fun g => g.2.2.2.2.1) = some As.length) (hlen : (entA As).length ≤ mi_mx mc) (hst : (st.map av_c).sum ≤ 8) (hX : X mc d 0 (entL (mi_mx mc) As) [] P Qc) (k : ∀ r P1, Qc r P1 → X m (d + 1) (i + 1) L (r.toList ++ st) P1 Q) : X m (d + 1) i L (As.reverse ++ st) P Q := by
  intro hokm p l e1 R s mid args below meth c D rt B n0 u0 hC hL ls H locs hH hl hS
  obtain ⟨ri, len, hd, ho⟩ := okM_at hokm hq
  have K := fun r P1 hQ => k r P1 hQ hokm p l e1 R s mid args below meth c D rt B n0 u0 hC hL ls
  obtain ⟨hx, hb, hml, hret, hlk, -, hown, hts, hK, hNc, hKS, hRT, hrm, hcap, hsz⟩ := id hC
  rw [pcO_at hq]
  subst hid
  obtain ⟨g, hg, e2, hB, hcd, hin, hmh, hsg⟩ := cb_of (P := P) hC hok
  obtain ⟨g1, g2⟩ := ok_h ho
  split at g2
  · next x =>
    obtain ⟨g3, g4⟩ := ok_h g2
    subst g3
    dsimp only at g4
    rw [hg] at g4 hn
    obtain ⟨g5, g6⟩ := ok_2 g4
    have hn2 : g.2.2.2.2.1 = As.length := Option.some.inj hn
    rw [e2] at g5 g6
    have hM := X_met (l := l.1) (D := D) l.2 hok hRT hlen hX
    have h4 := hH.2.2.2
    have hstk : List.map (tv rt) (As.reverse ++ st) = (As.map (tv rt)).reverse ++ st.map (tv rt) := by rw [List.map_append, List.map_reverse]
    rw [hstk]
    refine W_tight hH.2.1 hH.2.2.1 hsz.1 hsz.2 (fun hg1 hg2 => ?_)
    refine X_after hC hH hS (va_runS (nL := mi_mx m) (n := As.length) (As := As.map (tv rt)) (rest := st.map (tv rt)) ⟨hx, hb, hml, hown, hts⟩ hM ⟨⟨hB.1, hB.2.1, hB.2.2.1, hB.2.2.2.1, hB.2.2.2.2.1, hB.2.2.2.2.2, hcd, hin, hmh, by rw [← hn2]; exact hsg, hts _ (wq_in g5 rfl)⟩, hts _ (wq_in g6 rfl)⟩ ⟨xPc_blind, fun U hU hW => xPc_at hC hH hS As U hU hW⟩ rfl (by rw [List.length_map]) hl.1 rfl (lv_room (by rw [sum_c]; exact hst)) hd ⟨by omega, by omega⟩) (fun r P1 hQ H1 locs1 hH1 hS1 => ?_)
    show W p l e1 R s mid args below meth c H1 locs1 _ _ _ (F0 mid (pc + 3) ls _)
    rw [← pcO_of g1]
    exact K r P1 hQ H1 locs1 hH1 hl hS1
  · cases g2
/-- invokespecial of a constructor -/
theorem X_calln (mc : MI) {As : List AV} {a : Nat} {Qc : Option AV → AP → Prop} (hok : okM mc) (hq : (mi_cd m)[i]? = some (pc, .invokespecial n, ps)) (hid : mi_id mc = n) (hn : (am_sg[n]?).map (fun g => g.2.2.2.2.1) = some As.length) (hrt : mi_rt mc = none) (hlen : (entA (.inr (.inr (some a)) :: As)).length ≤ mi_mx mc) (hst : (st.map av_c).sum ≤ 8) (hX : X mc d 0 (entL (mi_mx mc) (.inr (.inr (some a)) :: As)) [] P Qc) (k : ∀ r P1, Qc r P1 → X m (d + 1) (i + 1) L (r.toList ++ st) P1 Q) : X m (d + 1) i L (As.reverse ++ .inr (.inr (some a)) :: st) P Q := by
  intro hokm p l e1 R s mid args below meth c D rt B n0 u0 hC hL ls H locs hH hl hS
  obtain ⟨ri, len, hd, ho⟩ := okM_at hokm hq
  have K := fun r P1 hQ => k r P1 hQ hokm p l e1 R s mid args below meth c D rt B n0 u0 hC hL ls
  obtain ⟨hx, hb, hml, hret, hlk, -, hown, hts, hK, hNc, hKS, hRT, hrm, hcap, hsz⟩ := id hC
  rw [pcO_at hq]
  subst hid
  obtain ⟨g, hg, e2, hB, hcd, hin, hmh, hsg⟩ := cb_of (P := P) hC hok
  rw [hrt] at hB hcd
  obtain ⟨g1, g2⟩ := ok_h ho
  split at g2
  · next x =>
    obtain ⟨g3, g4⟩ := ok_h g2
    subst g3
    dsimp only at g4
    rw [hg] at g4 hn
    simp only [Bool.and_eq_true, Bool.or_eq_true, decide_eq_true_eq] at g4
    obtain ⟨⟨g5, g6⟩, g7⟩ := g4
    have hn2 : g.2.2.2.2.1 = As.length := Option.some.inj hn
    rw [e2] at g5 g6 g7
    have hM := X_met (l := l.1) (D := D) l.2 hok hRT hlen hX
    rw [hrt] at hM
    have h4 := hH.2.2.2
    have hstk : List.map (tv rt) (As.reverse ++ .inr (.inr (some a)) :: st) = (As.map (tv rt)).reverse ++ .ref (rt a) :: st.map (tv rt) := by rw [List.map_append, List.map_reverse]; rfl
    rw [hstk]
    refine W_tight hH.2.1 hH.2.2.1 hsz.1 hsz.2 (fun hg1 hg2 => ?_)
    have fin : ∀ (r : Option AV) (P1 : AP), Qc r P1 → ∀ (H1 : Heap) (locs1 : List Loc), HR D rt B s P1 H1 → va_S (fun q => B ≤ q) s.heap H1 locs1 → W p l e1 R s mid args below meth c H1 locs1 (P1.2.1 - n0) (P1.2.2 - u0) (MQ below (XR D rt B Q) args s R.cells R.slots (fun q => B ≤ q)) (F0 mid (pc + 3) ls ((r.toList ++ st).map (tv rt))) := by
      intro r P1 hQ H1 locs1 hH1 hS1
      rw [← pcO_of g1]
      exact K r P1 hQ H1 locs1 hH1 hl hS1
    rcases g7 with g7 | g7
    · exact X_after hC hH hS (va_runI (nL := mi_mx m) (n := As.length) (As := As.map (tv rt)) (b := rt a) (rest := st.map (tv rt)) ⟨hx, hb, hml, hown, hts⟩ hM ⟨⟨hB.1, hB.2.1, hB.2.2.1, hB.2.2.2.1, hB.2.2.2.2.1, hB.2.2.2.2.2, hcd, hin, hmh, by rw [← hn2]; exact hsg, hts _ (wq_in g7 rfl)⟩, g5, hts _ (wq_in g6 rfl)⟩ ⟨xPc_blind, fun U hU hW => xPc_at hC hH hS (.inr (.inr (some a)) :: As) U hU hW⟩ rfl (by rw [List.length_map]) hl.1 rfl (lv_room (by rw [sum_c]; exact hst)) hd ⟨by omega, by omega⟩) fin
    · exact X_after hC hH hS (va_runIN (nL := mi_mx m) (n := As.length) (As := As.map (tv rt)) (b := rt a) (rest := st.map (tv rt)) ⟨hx, hb, hml, hown, hts⟩ hM ⟨⟨⟨hB.1, hB.2.1, hB.2.2.1, hB.2.2.2.1, hB.2.2.2.2.1, hB.2.2.2.2.2⟩, hcd, hin, hmh, by rw [← hn2]; exact hsg, va_Nw.use rfl (hKS.2.2.2 _ (wq_nt g7 rfl))⟩, g5, hts _ (wq_in g6 rfl)⟩ ⟨xPc_blind, fun U hU hW => xPc_at hC hH hS (.inr (.inr (some a)) :: As) U hU hW⟩ rfl (by rw [List.length_map]) hl.1 rfl (lv_room (by rw [sum_c]; exact hst)) hd ⟨by omega, by omega⟩) fin
  · cases g2
theorem recv_at {ci a : Nat} {fs : List AV} {r : vw_C} {D : va_G} {rt : Nat → Nat} {B : Nat} {s : State} {H : Heap} (hK : va_K D am_cl [] s) (hH : HR D rt B s P H) (ha : P.1 a = some (.inl (ci, fs))) (hr : am_cl[ci]? = some r) : ∃ cell : Cell, H[rt a]? = some cell ∧ cell.vm.isStatics = false ∧ s.vm.findClass r.1 = some cell.cls := by
  obtain ⟨r', hr', -, cell, q1, q2, q3, -⟩ := (hH.1 a _ ha).1
  cases hr.symm.trans hr'
  have hat := (hK.1 ci r hr).2
  exact ⟨cell, q1, by rw [q3]; rfl, by rw [q2]; exact hat.1⟩
/-- invokevirtual of one method -/
theorem X_callv (mc : MI) {As : List AV} {a ci : Nat} {fs : List AV} {Qc : Option AV → AP → Prop} (hok : okM mc) (hq : (mi_cd m)[i]? = some (pc, .invokevirtual n, ps)) (hid : mi_id mc = n) (hn : (am_sg[n]?).map (fun g => g.2.2.2.2.1) = some As.length) (ha : P.1 a = some (.inl (ci, fs))) (hcl : (am_cl[ci]?).map (fun r => r.1) = some (mi_y mc).cls) (hlen : (entA (.inr (.inr (some a)) :: As)).length ≤ mi_mx mc) (hst : (st.map av_c).sum ≤ 8) (hX : X mc d 0 (entL (mi_mx mc) (.inr (.inr (some a)) :: As)) [] P Qc) (k : ∀ r P1, Qc r P1 → X m (d + 1) (i + 1) L (r.toList ++ st) P1 Q) : X m (d + 1) i L (As.reverse ++ .inr (.inr (some a)) :: st) P Q := by
  intro hokm p l e1 R s mid args below meth c D rt B n0 u0 hC hL ls H locs hH hl hS
  obtain ⟨ri, len, hd, ho⟩ := okM_at hokm hq
  have K := fun r P1 hQ => k r P1 hQ hokm p l e1 R s mid args below meth c D rt B n0 u0 hC hL ls
  obtain ⟨hx, hb, hml, hret, hlk, -, hown, hts, hK, hNc, hKS, hRT, hrm, hcap, hsz⟩ := id hC
  rw [pcO_at hq]
  subst hid
  obtain ⟨g, hg, e2, hB, hcd, hin, hmh, hsg⟩ := cb_of (P := P) hC hok
  obtain ⟨r, hr, hr1⟩ := Option.map_eq_some_iff.mp hcl
  have hrec := recv_at hK hH ha hr
  rw [hr1] at hrec
  obtain ⟨g1, g2⟩ := ok_h ho
  split at g2
  · next x =>
    obtain ⟨g3, g4⟩ := ok_h g2
    subst g3
    dsimp only at g4
    rw [hg] at g4 hn
    obtain ⟨g5, g6, g7⟩ := ok_3 g4
    have hn2 : g.2.2.2.2.1 = As.length := Option.some.inj hn
    rw [e2] at g5 g6 g7
    have hM := X_met (l := l.1) (D := D) l.2 hok hRT hlen hX
    have h4 := hH.2.2.2
    have hstk : List.map (tv rt) (As.reverse ++ .inr (.inr (some a)) :: st) = (As.map (tv rt)).reverse ++ .ref (rt a) :: st.map (tv rt) := by rw [List.map_append, List.map_reverse]; rfl
    rw [hstk]
    refine W_tight hH.2.1 hH.2.2.1 hsz.1 hsz.2 (fun hg1 hg2 => ?_)
    refine X_after hC hH hS (va_runV (nL := mi_mx m) (n := As.length) (As := As.map (tv rt)) (b := rt a) (rest := st.map (tv rt)) ⟨hx, hb, hml, hown, hts⟩ hM ⟨⟨hB.1, hB.2.1, hB.2.2.1, hB.2.2.2.1, hB.2.2.2.2.1, hB.2.2.2.2.2, hcd, hin, hmh, by rw [← hn2]; exact hsg, hts _ (wq_in g5 rfl)⟩, hts _ (wq_in g6 rfl), hts _ (wq_in g7 rfl)⟩ ⟨xPc_blind, hrec, fun U hU hW => xPc_at hC hH hS (.inr (.inr (some a)) :: As) U hU hW⟩ rfl (by rw [List.length_map]) hl.1 rfl (lv_room (by rw [sum_c]; exact hst)) hd ⟨by omega, by omega⟩) (fun r P1 hQ H1 locs1 hH1 hS1 => ?_)
    show W p l e1 R s mid args below meth c H1 locs1 _ _ _ (F0 mid (pc + 3) ls _)
    rw [← pcO_of g1]
    exact K r P1 hQ H1 locs1 hH1 hl hS1
  · cases g2
end XCALL
