section XJ
variable {m : MI} {d i : Nat} {L : AL} {st : List AV} {P : AP} {Q : Option AV → AP → Prop} {pc n : Nat} {ps : List Nat}
theorem ac_in : Cond.native arraycopyName ∈ gtb ∧ Cond.static arraycopyName ∈ gtb ∧ Cond.initialized "java/lang/System" ∈ gtb := by decide +kernel
theorem mx_in : Cond.static Lib.Math.max.name ∈ gtb ∧ Cond.initialized "java/lang/Math" ∈ gtb ∧ Cond.code Lib.Math.max.name Lib.Math.max.code 2 (some .int) ∈ gtb := by decide +kernel
theorem mn_in : Cond.static Lib.Math.min.name ∈ gtb ∧ Cond.initialized "java/lang/Math" ∈ gtb ∧ Cond.code Lib.Math.min.name Lib.Math.min.code 2 (some .int) ∈ gtb := by decide +kernel
theorem ab_in : Cond.static Lib.MathLoose.abs_long.x ∈ gtb ∧ Cond.initialized "java/lang/Math" ∈ gtb ∧ Cond.code Lib.MathLoose.abs_long.x Lib.MathLoose.abs_long.code 2 (some .long) ∈ gtb := by decide +kernel
theorem okJ {m : MI} {i pc n : Nat} {ps : List Nat} {ri : Instr} {len : Nat} {y : MethodName} (h : okR m i pc (.invokedynamic n) ps ri len = true) (hn : n = 0 ∨ 4 < n) (hy : am_sy[n]? = some y) : pcq m (i + 1) = some (pc + 3) ∧ ∃ x, ri = .invokestatic x ∧ len = 3 ∧ Cond.methodLink (mi_y m).cls x y ∈ gtb := by
  obtain ⟨g1, g2⟩ := ok_h h
  split at g2
  · next x =>
    obtain ⟨g3, g4⟩ := ok_h g2
    subst g3
    rw [hy] at g4
    dsimp only at g4
    obtain ⟨g5, g6⟩ := ok_2 g4
    exact ⟨g1, x, rfl, rfl, wq_in g6 rfl⟩
  · next x =>
    obtain ⟨g3, g4, -⟩ := ok_hh g2
    omega
  · cases g2
theorem X_mmax {x y : Int32} (hq : (mi_cd m)[i]? = some (pc, .invokedynamic 5, ps)) (hst : (st.map av_c).sum ≤ 8) (k : X m (d + 1) (i + 1) L (.inl (if x < y then y else x) :: st) P Q) : X m (d + 1) i L (.inl y :: .inl x :: st) P Q := by
  intro hok p l e1 R s mid args below meth c D rt B n0 u0 hC hL ls H locs hH hl hS
  obtain ⟨ri, len, hd, ho⟩ := okM_at hok hq
  have K := k hok p l e1 R s mid args below meth c D rt B n0 u0 hC hL ls H locs hH hl hS
  obtain ⟨hx, hb, hml, -, -, -, hown, hts, -, -, -, -, hrm, hcap, hsz⟩ := id hC
  rw [pcO_at hq]
  obtain ⟨g1, z, rfl, rfl, hw⟩ := okJ ho (by omega) rfl
  have h4 := hH.2.2.2
  refine W_tight hH.2.1 hH.2.2.1 hsz.1 hsz.2 (fun hg1 hg2 => ?_)
  exact va_mmax hx hb (hml.trans hl.1.symm) hown (hts _ hw) (hts _ mx_in.1) (hts _ mx_in.2.1) (hts _ mx_in.2.2) (by omega) (by rw [sum_c]; omega) (by omega) (by omega) hd (by rw [← pcO_of g1]; exact K)
theorem X_mmin {x y : Int32} (hq : (mi_cd m)[i]? = some (pc, .invokedynamic 6, ps)) (hst : (st.map av_c).sum ≤ 8) (k : X m (d + 1) (i + 1) L (.inl (if y < x then y else x) :: st) P Q) : X m (d + 1) i L (.inl y :: .inl x :: st) P Q := by
  intro hok p l e1 R s mid args below meth c D rt B n0 u0 hC hL ls H locs hH hl hS
  obtain ⟨ri, len, hd, ho⟩ := okM_at hok hq
  have K := k hok p l e1 R s mid args below meth c D rt B n0 u0 hC hL ls H locs hH hl hS
  obtain ⟨hx, hb, hml, -, -, -, hown, hts, -, -, -, -, hrm, hcap, hsz⟩ := id hC
  rw [pcO_at hq]
  obtain ⟨g1, z, rfl, rfl, hw⟩ := okJ ho (by omega) rfl
  have h4 := hH.2.2.2
  refine W_tight hH.2.1 hH.2.2.1 hsz.1 hsz.2 (fun hg1 hg2 => ?_)
  exact va_mmin hx hb (hml.trans hl.1.symm) hown (hts _ hw) (hts _ mn_in.1) (hts _ mn_in.2.1) (hts _ mn_in.2.2) (by omega) (by rw [sum_c]; omega) (by omega) (by omega) hd (by rw [← pcO_of g1]; exact K)
theorem X_mabs {x : Int64} (hq : (mi_cd m)[i]? = some (pc, .invokedynamic 7, ps)) (hst : (st.map av_c).sum ≤ 8) (k : X m (d + 1) (i + 1) L (.inr (.inl (if 0 < x then x else -x)) :: st) P Q) : X m (d + 1) i L (.inr (.inl x) :: st) P Q := by
  intro hok p l e1 R s mid args below meth c D rt B n0 u0 hC hL ls H locs hH hl hS
  obtain ⟨ri, len, hd, ho⟩ := okM_at hok hq
  have K := k hok p l e1 R s mid args below meth c D rt B n0 u0 hC hL ls H locs hH hl hS
  obtain ⟨hx, hb, hml, -, -, -, hown, hts, -, -, -, -, hrm, hcap, hsz⟩ := id hC
  rw [pcO_at hq]
  obtain ⟨g1, z, rfl, rfl, hw⟩ := okJ ho (by omega) rfl
  have h4 := hH.2.2.2
  refine W_tight hH.2.1 hH.2.2.1 hsz.1 hsz.2 (fun hg1 hg2 => ?_)
  exact va_mabs_long hx hb (hml.trans hl.1.symm) hown (hts _ hw) (hts _ ab_in.1) (hts _ ab_in.2.1) (hts _ ab_in.2.2) (by omega) (by rw [sum_c]; omega) (by omega) (by omega) hd (by rw [← pcO_of g1]; exact K)
theorem nn32 {z : Int32} (hz : ¬ z < 0) : z.toInt = (z.toNatClampNeg : Int) := by
  have hz0 : (0 : Int) ≤ z.toInt := by
    have := Int32.not_lt.mp hz
    simpa using Int32.le_iff_toInt_le.mp this
  show z.toInt = ((z.toInt.toNat : Nat) : Int)
  omega
/-- System.arraycopy, in the machine's heap -/
theorem W_copy {p : Program} {l : Launch} {e : Env} {R : Room} {s : State} {mid : MethodId} {args : Array Value} {below : List Frame} {meth : Method} {c : Code} {H : Heap} {locs : List Loc} {cells slots : Nat} {Qf : State → Prop} {cc : ByteArray} {own : String} {index pc : Nat} {ls : Array Slot} {rest : List Value} {α : Type} {mk : α → Value} {a0 a1 n0 n1 : Nat} {c0 c1 : ClassId} {f g : Nat → α} {ty : FieldType} {sp dp z : Int32}
    (hexec : p.tables.exec = Jvm.exec) (hb : c.code = cc) (hml : c.maxLocals = ls.size) (hown : s.vm.findClass own = some mid.cls) (hlink : (Cond.methodLink own index arraycopyName).before args s = true) (hnat : (Cond.native arraycopyName).before args s = true) (hstat : (Cond.static arraycopyName).before args s = true) (hini : (Cond.initialized "java/lang/System").before args s = true)
    (hc0 : H[a0]? = some (arrV c0 n0 (fun j => mk (f j)))) (hc1 : H[a1]? = some (arrV c1 n1 (fun j => mk (g j)))) (ht0 : ArrOfT s c0 ty) (ht1 : ArrOfT s c1 ty) (hprim : refKind ty = false)
    (h1 : ¬ sp < 0) (h2 : ¬ dp < 0) (h3 : ¬ z < 0) (h4 : sp.toNatClampNeg + z.toNatClampNeg ≤ n0) (h5 : dp.toNatClampNeg + z.toNatClampNeg ≤ n1) (hfit : ∀ i, i < z.toNatClampNeg → fits ty (mk (f (sp.toNatClampNeg + i))) = true) (hnr : ∀ x, ∀ a, mk x ≠ .ref a)
    (hframes : 1 ≤ R.frames) (hlocals : (rest.map fun v => v.category).sum + (nativeFrameWords "java/lang/System" "arraycopy" 5 + 11) ≤ R.locals) (hdg : decode cc pc = .ok (.invokestatic index, 3))
    (kk : ∀ (H1 : Heap) (locs1 : List Loc), H1[a1]? = some (arrV c1 n1 (fun j => mk (va_cpy f g sp.toNatClampNeg dp.toNatClampNeg z.toNatClampNeg j))) → H1.size = H.size → (∀ q : Nat, q ≠ a1 → H1[q]? = H[q]?) → (∀ q ∈ locs1, q ∈ locs ∨ q.base = a1) → W p l e R s mid args below meth c H1 locs1 cells slots Qf (F0 mid (pc + 3) ls rest)) : W p l e R s mid args below meth c H locs cells slots Qf (F0 mid pc ls (.int z :: .int dp :: .ref a1 :: .int sp :: .ref a0 :: rest)) := by
  intro T hT X
  obtain ⟨-, k0, hk0, cm0, hkk0⟩ := ht0 n0 (fun j => mk (f j))
  obtain ⟨-, k1, hk1, cm1, hkk1⟩ := ht1 n1 (fun j => mk (g j))
  obtain ⟨vm', X', step⟩ := X.arraycopy hexec hown hlink hnat hstat hini (src := a0) (dst := a1) (cs := arrV c0 n0 (fun j => mk (f j))) (cd := arrV c1 n1 (fun j => mk (g j))) (srcPos := sp) (destPos := dp) (n := z) (by rw [hT]; exact hc0) (by rw [hT]; exact hc1)
    (fun _ h => by cases h) (fun _ h => by cases h) (fun h => by cases h) (fun h => by cases h) hk0 hk1 hkk0 hkk1 (by simp [hprim]) h1 h2 h3
    (by rw [nn32 h1, nn32 h3, arrV_size]; omega)
    (by rw [nn32 h2, nn32 h3, arrV_size]; omega)
    (fun vm₁ _ i hi => by
      have e : (arrV c0 n0 (fun j => mk (f j))).slots.getD (sp.toNatClampNeg + i) .null = mk (f (sp.toNatClampNeg + i)) := by
        rw [Array.getD_eq_getD_getElem?, arrV_read _ _ (by omega)]
        rfl
      refine ⟨?_, ?_⟩
      · rw [e]
        exact hfit i hi
      · rw [e]
        have := hnr (f (sp.toNatClampNeg + i))
        cases hm : mk (f (sp.toNatClampNeg + i)) <;> first | exact trivial | exact absurd hm (this _))
    (g := F0 mid pc ls (.int z :: .int dp :: .ref a1 :: .int sp :: .ref a0 :: rest)) rfl (by rw [hml]) (rest := rest) rfl (by rw [hb]; exact hdg) hframes (by show 2 * 0 + _ + _ ≤ _; omega)
  have e1 : copied (arrV c0 n0 (fun j => mk (f j))) (arrV c1 n1 (fun j => mk (g j))) sp dp z = arrV c1 n1 (fun j => mk (va_cpy f g sp.toNatClampNeg dp.toNatClampNeg z.toNatClampNeg j)) := va_copied mk c0 c1 f g h4
  rw [e1] at X' step
  have hl : a1 < H.size := (Array.getElem?_eq_some_iff.mp hc1).1
  have hheap : ((T.setVm vm').setCell a1 (arrV c1 n1 (fun j => mk (va_cpy f g sp.toNatClampNeg dp.toNatClampNeg z.toNatClampNeg j)))).heap = H.setIfInBounds a1 (arrV c1 n1 (fun j => mk (va_cpy f g sp.toNatClampNeg dp.toNatClampNeg z.toNatClampNeg j))) := by rw [← hT]; rfl
  obtain ⟨t, a2, b1⟩ := kk _ _ (show (H.setIfInBounds a1 _)[a1]? = some _ by simp [Array.getElem?_setIfInBounds, hl]) (by simp) (fun q hq => by simp [Array.getElem?_setIfInBounds, Ne.symm hq]) (fun q hq => by
      rcases List.mem_append.mp hq with h | h
      · exact Or.inl h
      · obtain ⟨z, -, hz⟩ := List.mem_map.mp h
        rw [← hz]
        exact Or.inr rfl) _ hheap X'
  exact ⟨t, step t a2, b1⟩
theorem nfw : nativeFrameWords "java/lang/System" "arraycopy" 5 + 11 ≤ 18 := by decide +kernel
theorem X_copyl {a0 a1 n0 n1 : Nat} {f g : Nat → Int64} {sp dp z : Int32} (hq : (mi_cd m)[i]? = some (pc, .invokedynamic 0, ps)) (hst : (st.map av_c).sum ≤ 8) (ha0 : P.1 a0 = some (.inr (.inr (.inl (n0, f))))) (ha1 : P.1 a1 = some (.inr (.inr (.inl (n1, g))))) (h1 : ¬ sp < 0) (h2 : ¬ dp < 0) (h3 : ¬ z < 0) (h4 : sp.toNatClampNeg + z.toNatClampNeg ≤ n0) (h5 : dp.toNatClampNeg + z.toNatClampNeg ≤ n1)
    (k : X m (d + 1) (i + 1) L st (hup P.1 a1 (.inr (.inr (.inl (n1, va_cpy f g sp.toNatClampNeg dp.toNatClampNeg z.toNatClampNeg)))), P.2) Q) : X m (d + 1) i L (.inl z :: .inl dp :: .inr (.inr (some a1)) :: .inl sp :: .inr (.inr (some a0)) :: st) P Q := by
  intro hok p l e1 R s mid args below meth c D rt B m0 u0 hC hL ls H locs hH hl hS
  obtain ⟨ri, len, hd, ho⟩ := okM_at hok hq
  have K := k hok p l e1 R s mid args below meth c D rt B m0 u0 hC hL ls
  obtain ⟨hx, hb, hml, -, -, -, hown, hts, -, -, -, hRT, hrm, hcap, hsz⟩ := id hC
  rw [pcO_at hq]
  obtain ⟨g1, zz, rfl, rfl, hw⟩ := okJ ho (by omega) rfl
  obtain ⟨c0, t0, q0⟩ := (hH.1 a0 _ ha0).1
  obtain ⟨c1, t1, q1⟩ := (hH.1 a1 _ ha1).1
  have hown1 := hH.own ha1 (fun _ _ h => by cases h)
  have hBa : B ≤ rt a1 := by rw [hRT.1 a1 (by unfold ax; have := hH.2.2.2.1; omega)]; omega
  have hnf := nfw
  refine W_copy (mk := fun z => .long z) hx hb (hml.trans hl.1.symm) hown (hts _ hw) (hts _ ac_in.1) (hts _ ac_in.2.1) (hts _ ac_in.2.2) q0 q1 t0 t1 rfl h1 h2 h3 h4 h5 (fun _ _ => rfl) (fun _ _ h => by cases h) (by omega) (by rw [sum_c]; omega) hd (fun H1 locs1 e z1 oq hlo => ?_)
  show W p l e1 R s mid args below meth c H1 locs1 _ _ _ (F0 mid (pc + 3) ls _)
  rw [← pcO_of g1]
  refine K H1 locs1 (hH.set hRT hown1 ⟨c1, t1, e⟩ hown1 z1 oq ?_) hl ⟨by rw [z1]; exact hS.1, fun q g5 g6 => by rw [oq q (fun e => g6 (by rw [e]; exact hBa))]; exact hS.2.1 q g5 g6, fun q hq => (hlo q hq).elim (fun h => hS.2.2 q h) (fun h => by rw [h]; exact hBa)⟩
  rw [e, q1]
  simp [arrV_size]
theorem X_copyb {a0 a1 n0 n1 : Nat} {f g : Nat → Int32} {sp dp z : Int32} (hq : (mi_cd m)[i]? = some (pc, .invokedynamic 0, ps)) (hst : (st.map av_c).sum ≤ 8) (ha0 : P.1 a0 = some (.inr (.inl (1, n0, f)))) (ha1 : P.1 a1 = some (.inr (.inl (1, n1, g)))) (h1 : ¬ sp < 0) (h2 : ¬ dp < 0) (h3 : ¬ z < 0) (h4 : sp.toNatClampNeg + z.toNatClampNeg ≤ n0) (h5 : dp.toNatClampNeg + z.toNatClampNeg ≤ n1)
    (k : X m (d + 1) (i + 1) L st (hup P.1 a1 (.inr (.inl (1, n1, va_cpy f g sp.toNatClampNeg dp.toNatClampNeg z.toNatClampNeg))), P.2) Q) : X m (d + 1) i L (.inl z :: .inl dp :: .inr (.inr (some a1)) :: .inl sp :: .inr (.inr (some a0)) :: st) P Q := by
  intro hok p l e1 R s mid args below meth c D rt B m0 u0 hC hL ls H locs hH hl hS
  obtain ⟨ri, len, hd, ho⟩ := okM_at hok hq
  have K := k hok p l e1 R s mid args below meth c D rt B m0 u0 hC hL ls
  obtain ⟨hx, hb, hml, -, -, -, hown, hts, -, -, -, hRT, hrm, hcap, hsz⟩ := id hC
  rw [pcO_at hq]
  obtain ⟨g1, zz, rfl, rfl, hw⟩ := okJ ho (by omega) rfl
  obtain ⟨⟨c0, t0, q0⟩, ff⟩ := (hH.1 a0 _ ha0).1
  obtain ⟨⟨c1, t1, q1⟩, fg⟩ := (hH.1 a1 _ ha1).1
  have hown1 := hH.own ha1 (fun _ _ h => by cases h)
  have hBa : B ≤ rt a1 := by rw [hRT.1 a1 (by unfold ax; have := hH.2.2.2.1; omega)]; omega
  have hnf := nfw
  refine W_copy (mk := fun z => .int z) hx hb (hml.trans hl.1.symm) hown (hts _ hw) (hts _ ac_in.1) (hts _ ac_in.2.1) (hts _ ac_in.2.2) q0 q1 t0 t1 rfl h1 h2 h3 h4 h5 (fun _ _ => ff _) (fun _ _ h => by cases h) (by omega) (by rw [sum_c]; omega) hd (fun H1 locs1 e z1 oq hlo => ?_)
  show W p l e1 R s mid args below meth c H1 locs1 _ _ _ (F0 mid (pc + 3) ls _)
  rw [← pcO_of g1]
  refine K H1 locs1 (hH.set hRT hown1 ⟨⟨c1, t1, e⟩, fun j => ?_⟩ (Or.inl hown1) z1 oq ?_) hl ⟨by rw [z1]; exact hS.1, fun q g5 g6 => by rw [oq q (fun e => g6 (by rw [e]; exact hBa))]; exact hS.2.1 q g5 g6, fun q hq => (hlo q hq).elim (fun h => hS.2.2 q h) (fun h => by rw [h]; exact hBa)⟩
  · unfold va_cpy
    split
    · exact ff _
    · exact fg _
  · rw [e, q1]
    simp [arrV_size]
/-! virtual calls of Thing's methods -/
theorem vx_ok : ∀ (v : Nat) (y : MethodName), am_vx[v]? = some y → y.cls = am_th ∧ (Cond.declares y ∈ ntb ∨ (Cond.instanceMethod y ∈ gtb ∧ ∃ b n r, Cond.code y b n r ∈ gtb)) ∧ (y.cls ≠ "java/lang/invoke/MethodHandle" ∧ y.cls ≠ "java/lang/invoke/VarHandle")
  | 0, _, h => by cases h; exact ⟨rfl, Or.inl (by decide +kernel), by decide⟩
  | 1, _, h => by cases h; exact ⟨rfl, Or.inl (by decide +kernel), by decide⟩
  | 2, _, h => by cases h; exact ⟨rfl, Or.inl (by decide +kernel), by decide⟩
  | 3, _, h => by cases h; exact ⟨rfl, Or.inr ⟨by decide +kernel, _, _, _, sg_Th_size.1⟩, by decide⟩
  | 4, _, h => by cases h; exact ⟨rfl, Or.inr ⟨by decide +kernel, _, _, _, sg_Th_twin.1⟩, by decide⟩
  | 5, _, h => by cases h; exact ⟨rfl, Or.inr ⟨by decide +kernel, _, _, _, sg_Th_putBack.1⟩, by decide⟩
  | k + 6, _, h => by simp [am_vx] at h
def okV (q : Nat × Nat × Nat × Nat × Nat) : Bool := match am_vx[q.1]?, am_cl[q.2.1]?, am_sg[q.2.2.1]? with
  | some x, some r, some g => decide (wq q.2.2.2.1 = some (.selects r.1 x g.1)) && decide (wq q.2.2.2.2 = some (.instanceMethod g.1)) && decide (x.desc = g.1.desc)
  | _, _, _ => false
theorem vt_ok : am_vt.all okV = true := by decide +kernel
/-- invokevirtual of a method of Thing, on an object of class ci -/
theorem XF_callu {F : PostT} (mc : MI) {v c9 : Nat} {As : List AV} {a ci : Nat} {fs : List AV} {Qc : Option AV → AP → Prop} {e5 : Nat × Nat} (hok : okM mc) (hq : (mi_cd m)[i]? = some (pc, .invokeinterface v c9, ps)) (hvt : (v, ci, mi_id mc, e5) ∈ am_vt) (hn : (am_sg[mi_id mc]?).map (fun g => g.2.2.2.2.1) = some As.length) (ha : P.1 a = some (.inl (ci, fs))) (hlen : (entA (.inr (.inr (some a)) :: As)).length ≤ mi_mx mc) (hst : (st.map av_c).sum ≤ 8) (hX : X mc d 0 (entL (mi_mx mc) (.inr (.inr (some a)) :: As)) [] P Qc) (k : ∀ r P1, Qc r P1 → XF m (d + 1) (i + 1) L (r.toList ++ st) P1 F) : XF m (d + 1) i L (As.reverse ++ .inr (.inr (some a)) :: st) P F := by
  intro hokm p l e1 R s mid args below meth c D rt B n0 u0 hC hL ls H locs hH hl hS
  obtain ⟨ri, len, hd, ho⟩ := okM_at hokm hq
  have K := fun r P1 hQ => k r P1 hQ hokm p l e1 R s mid args below meth c D rt B n0 u0 hC hL ls
  obtain ⟨hx, hb, hml, hret, hlk, -, hown, hts, hK, hNc, hKS, hRT, hrm, hcap, hsz⟩ := id hC
  rw [pcO_at hq]
  obtain ⟨g, hg, e2, hB, hcd, hin, hmh, hsg⟩ := cb_of (P := P) hC hok
  have hv := List.all_eq_true.mp vt_ok _ hvt
  obtain ⟨e3, e4⟩ := e5
  unfold okV at hv
  dsimp only at hv
  split at hv
  · next x r g' hxv hr hg' =>
    cases hg.symm.trans hg'
    obtain ⟨v1, v2, v3⟩ := ok_3 hv
    have hrec := recv_at hK hH ha hr
    obtain ⟨o1, o2, o3⟩ := vx_ok v x hxv
    obtain ⟨g1, g2⟩ := ok_h ho
    split at g2
    · next z =>
      obtain ⟨g3, g4⟩ := ok_h g2
      subst g3
      dsimp only at g4
      rw [hxv] at g4
      rw [hg] at hn
      obtain ⟨g5, g6⟩ := ok_2 g4
      have hn2 : g.2.2.2.2.1 = As.length := Option.some.inj hn
      rw [e2] at v1 v2 v3
      have hM := X_met (l := l.1) (D := D) l.2 hok hRT hlen hX
      have h4 := hH.2.2.2
      have hstk : List.map (tv rt) (As.reverse ++ .inr (.inr (some a)) :: st) = (As.map (tv rt)).reverse ++ .ref (rt a) :: st.map (tv rt) := by rw [List.map_append, List.map_reverse]; rfl
      rw [hstk]
      have hdecl : va_Decl s ⟨x.cls, x.name, x.desc⟩ := by
        rcases o2 with o2 | ⟨o2, b9, n9, r9, o4⟩
        · exact va_Decl.abs (hKS.2.2.2 _ o2)
        · exact va_Decl.of (hts _ o2) (hts _ o4)
      refine W_tight hH.2.1 hH.2.2.1 hsz.1 hsz.2 (fun hg1 hg2 => ?_)
      refine X_after hC hH hS (va_runU (nL := mi_mx m) (n := As.length) (x := x) (owner := x.cls) (C := r.1) (As := As.map (tv rt)) (b := rt a) (rest := st.map (tv rt)) ⟨hx, hb, hml, hown, hts⟩ hM ⟨hB, hcd, hin, o3, by rw [← hn2, v3]; exact hsg, hts _ (wq_in g5 rfl), hts _ (wq_in g6 rfl), hdecl, hts _ (wq_in v1 rfl), hts _ (wq_in v2 rfl)⟩ ⟨xPc_blind, hrec, fun U hU hW => xPc_at hC hH hS (.inr (.inr (some a)) :: As) U hU hW⟩ rfl (by rw [List.length_map]) hl.1 rfl (lv_room (by rw [sum_c]; exact hst)) hd ⟨by omega, by omega⟩) (fun r P1 hQ H1 locs1 hH1 hS1 => ?_)
      show W p l e1 R s mid args below meth c H1 locs1 _ _ _ (F0 mid (pc + 3) ls _)
      rw [← pcO_of g1]
      exact K r P1 hQ H1 locs1 hH1 hl hS1
    · cases g2
  · cases hv
theorem X_callu (mc : MI) {v c9 : Nat} {As : List AV} {a ci : Nat} {fs : List AV} {Qc : Option AV → AP → Prop} {e5 : Nat × Nat} (hok : okM mc) (hq : (mi_cd m)[i]? = some (pc, .invokeinterface v c9, ps)) (hvt : (v, ci, mi_id mc, e5) ∈ am_vt) (hn : (am_sg[mi_id mc]?).map (fun g => g.2.2.2.2.1) = some As.length) (ha : P.1 a = some (.inl (ci, fs))) (hlen : (entA (.inr (.inr (some a)) :: As)).length ≤ mi_mx mc) (hst : (st.map av_c).sum ≤ 8) (hX : X mc d 0 (entL (mi_mx mc) (.inr (.inr (some a)) :: As)) [] P Qc) (k : ∀ r P1, Qc r P1 → X m (d + 1) (i + 1) L (r.toList ++ st) P1 Q) : X m (d + 1) i L (As.reverse ++ .inr (.inr (some a)) :: st) P Q := XF_callu mc hok hq hvt hn ha hlen hst hX k
end XJ
