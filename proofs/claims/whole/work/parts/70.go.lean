/-! THE START: what the premises give -/
abbrev tmG : Term := .static "PatchHouse$Patches" "GREATEST" "[I"
theorem g_ex : ∀ i, i < 36 → Cond.exactly (tms i) "java/lang/String" ∈ gvn := by decide +kernel
theorem g_co : ∀ i, i < 36 → Cond.eq (.field (tms i) "java/lang/String" "coder" "B") (.int 0) ∈ gvn := by decide +kernel
theorem g_ar : ∀ i, i < 36 → Cond.arrayOf (tmv i) .byte ∈ gvn := by decide +kernel
theorem g_le : ∀ i, i < 36 → Cond.eq (.length (tmv i)) (.int (Int32.ofNat (am_len.getD i 0))) ∈ gvn := by decide +kernel
theorem g_nc : ∀ q ∈ am_nc, Cond.not (.castable q.1 q.2) ∈ gvn := by decide +kernel
theorem g_st : ∀ q ∈ am_str, Cond.stringRef q.1 q.2.1 q.2.2 ∈ lw_tbl := by decide +kernel
theorem g_di : ∀ i, i < 36 → ∀ j, j < 36 → am_byt.getD i [] = am_byt.getD j [] → i = j := by decide +kernel
theorem g_ge : ∀ j, j < 6 → Cond.eq (.elem tmG (.int (Int32.ofNat j))) (.int (am_gt j)) ∈ gvn := by decide +kernel
theorem g_on : Cond.isRef (.static Bundle.tN "UNASSIGNED_STACK" Bundle.steD) ∈ gvn ∧ Cond.isRef (.static Bundle.tN "SUPPRESSED_SENTINEL" Bundle.listD) ∈ gvn ∧ Cond.eq (.static "java/lang/String" "COMPACT_STRINGS" "Z") (.int 1) ∈ gvn ∧ Cond.isRef (.static "jdk/internal/util/Preconditions" "SIOOBE_FORMATTER" "Ljava/util/function/BiFunction;") ∈ gvn ∧ Cond.arrayOf tmG .int ∈ gvn ∧ Cond.eq (.length tmG) (.int 6) ∈ gvn := by decide +kernel
theorem g_ly : Cond.laysStatic Bundle.tN "UNASSIGNED_STACK" Bundle.steD ∈ lw_tbl ∧ Cond.laysStatic Bundle.tN "SUPPRESSED_SENTINEL" Bundle.listD ∈ lw_tbl ∧ Cond.laysStatic "java/lang/String" "COMPACT_STRINGS" "Z" ∈ lw_tbl ∧ Cond.laysStatic "jdk/internal/util/Preconditions" "SIOOBE_FORMATTER" "Ljava/util/function/BiFunction;" ∈ lw_tbl ∧ Cond.laysStatic "PatchHouse$Patches" "GREATEST" "[I" ∈ lw_tbl := by decide +kernel
theorem g_in : Cond.initialized Bundle.tN ∈ lw_tbl ∧ Cond.initialized "java/lang/String" ∈ lw_tbl ∧ Cond.initialized "jdk/internal/util/Preconditions" ∈ lw_tbl ∧ Cond.initialized "PatchHouse$Patches" ∈ lw_tbl := by decide +kernel
theorem g_nt : ∀ w ∈ ntb, w.onTables = true ∨ ∃ C, w = .arrayOver (.object C) := by
  intro w hw
  have h2 := (List.mem_filter.mp hw).2
  unfold nwd at h2
  split at h2
  · exact Or.inl rfl
  · exact Or.inl rfl
  · exact Or.inl rfl
  · exact Or.inr ⟨_, rfl⟩
  · cases h2
section GO
variable {s : State} {args : Array Value}
theorem k_D (hts : ∀ w ∈ gtb, w.before args s = true) : ∃ D : va_G, va_K D am_cl [] s := by
  have h : ∀ k : Nat, ∃ q : ClassId × (Nat → Nat), ∀ r, am_cl[k]? = some r → u_Kn s r.1 r.2.1 r.2.2 q.1 q.2 := by
    intro k
    cases hk : am_cl[k]? with
    | none => exact ⟨(0, fun _ => 0), fun r h => by cases h⟩
    | some r =>
      obtain ⟨c, iS, h⟩ := u_known (C := r.1) (T := r.2.1) (N := r.2.2) hts (cl_in k r hk) (hts _ (cl_is k r hk).1)
      exact ⟨(c, iS), fun r' h' => by cases h'; exact h⟩
  obtain ⟨D, hD⟩ := Classical.axiomOfChoice h
  exact ⟨(fun k => (D k).1, fun k => (D k).2), fun k r hr => hD k r hr, fun k q h => by simp at h⟩
theorem k_S (hg : ∀ w ∈ gvn, w.before args s = true) : ∃ adK adV : Nat → Nat, vk_S 36 am_len am_byt adK adV (fun q => s.heap.size ≤ q) s s.heap ∧ ∀ i : Nat, i < 36 → (tms i).eval args s none [] s = some (.ref (adK i)) := by
  have hA : ∀ a : Nat, a < s.heap.size → ¬ (fun q => s.heap.size ≤ q) a := fun a h => Nat.not_le.mpr h
  have h0 : ∀ i : Nat, ∃ q : Nat × Nat, i < 36 → (tms i).eval args s none [] s = some (.ref q.1) ∧ va_O "java/lang/String" q.1 (fun q => s.heap.size ≤ q) s s.heap ∧ va_OF "java/lang/String" "coder" "B" (.int 0) q.1 (fun q => s.heap.size ≤ q) s s.heap ∧ va_OF "java/lang/String" "value" "[B" (.ref q.2) q.1 (fun q => s.heap.size ≤ q) s s.heap ∧ va_T .byte q.2 (am_len.getD i 0) (fun j => .int ((am_byt.getD i []).getD j 0)) (fun q => s.heap.size ≤ q) s s.heap := by
    intro i
    by_cases hi : i < 36
    · obtain ⟨a, c, cA, kA, q1, q2, q3, q4, q5, q6, -⟩ := Cond.exactly_spec (args := args) (first := s) (o := none) (s := s) (idx := []) (t := tms i) (cls := "java/lang/String") (hg _ (g_ex i hi))
      have hlen : am_len.getD i 0 < 2 ^ 31 := by
        rw [sn_at]
        have := sn_le i
        omega
      obtain ⟨t, ht, hT⟩ := va_Tof (f := fun j => .int ((am_byt.getD i []).getD j 0)) (A := fun q => s.heap.size ≤ q) hlen (hg _ (g_ar i hi)) (va_eqt (hg _ (g_le i hi))) (fun j hj => va_eqt (hg _ (g_el i hi j hj))) hA
      exact ⟨(a, t), fun _ => ⟨q1, ⟨cA, q3, q5, by rw [q6]; exact q2, hA a (Array.getElem?_eq_some_iff.mp q3).1⟩, vk_OFof q1 (va_eqt (hg _ (g_co i hi))) hA, vk_OFof q1 ht hA, hT⟩⟩
    · exact ⟨(0, 0), fun h => absurd h hi⟩
  obtain ⟨ad, had⟩ := Classical.axiomOfChoice h0
  refine ⟨fun i => (ad i).1, fun i => (ad i).2, ⟨fun i hi => (had i hi).2, fun i j hi hj e => ?_⟩, fun i hi => (had i hi).1⟩
  obtain ⟨-, -, -, ⟨c1, k1, i1, f1, x1, a1, a2, a3, a4, a5, a6⟩, ⟨y1, b1, b2, b3, b4, b5, b6, b7⟩⟩ := had i hi
  obtain ⟨-, -, -, ⟨c2, k2, i2, f2, x2, d1, d2, d3, d4, d5, d6⟩, ⟨y2, e1, e2, e3, e4, e5, e6, e7⟩⟩ := had j hj
  have hx : x1 = x2 := by
    have h9 : (ad i).1 = (ad j).1 := e
    rw [h9] at a3
    exact Option.some.inj (a3.symm.trans d3)
  have hf := Option.some.inj (a1.symm.trans d1)
  cases hf
  subst hx
  have hv := Option.some.inj (a5.symm.trans d5)
  have hv2 : (ad i).2 = (ad j).2 := Value.ref.inj hv
  rw [hv2] at b1
  have hy : y1 = y2 := Option.some.inj (b1.symm.trans e1)
  subst hy
  have hl1 : am_len.getD i 0 = (am_byt.getD i []).length := by rw [sn_at]; unfold stn; rw [sx_at]
  have hl2 : am_len.getD j 0 = (am_byt.getD j []).length := by rw [sn_at]; unfold stn; rw [sx_at]
  have h20i := (sby_at (j := i)).1
  have h20j := (sby_at (j := j)).1
  have hl : (am_byt.getD i []).length = (am_byt.getD j []).length := by
    have h9 := b5.symm.trans e5
    rw [hl1, hl2] at h9
    have := congrArg Int32.toInt h9
    rw [nt_sm (by omega), nt_sm (by omega)] at this
    omega
  refine g_di i hi j hj (List.ext_getElem hl fun k h1 h2 => ?_)
  have z1 := b6 k (by rw [hl1]; exact h1)
  have z2 := e6 k (by rw [hl2]; exact h2)
  have z3 := Value.int.inj (Option.some.inj (z1.symm.trans z2))
  have zz : ∀ (A : List Int32) (h : k < A.length), A.getD k 0 = A[k] := fun A h => by
    rw [List.getD_eq_getElem?_getD, List.getElem?_eq_getElem h]
    rfl
  have z3 : (am_byt.getD i []).getD k 0 = (am_byt.getD j []).getD k 0 := z3
  rw [zz _ h1, zz _ h2] at z3
  exact z3
end GO
/-- the machine's addresses of the layer's references -/
def mrt (B tG b tF : Nat) (adK adV : Nat → Nat) (a : Nat) : Nat :=
  if a < ax then B + a else if a = am_ga then tG else if a = am_fm then tF else if am_sa ≤ a ∧ a < am_sa + 36 then adK (a - am_sa) else if am_va ≤ a ∧ a < am_va + 36 then adV (a - am_va) else b
theorem mrt_ga (B tG b tF : Nat) (adK adV : Nat → Nat) : mrt B tG b tF adK adV am_ga = tG := by unfold mrt; rw [if_neg (by decide), if_pos rfl]
theorem mrt_fm (B tG b tF : Nat) (adK adV : Nat → Nat) : mrt B tG b tF adK adV am_fm = tF := by unfold mrt; rw [if_neg (by decide), if_neg (by decide), if_pos rfl]
theorem mrt_sc (B tG b tF : Nat) (adK adV : Nat → Nat) : mrt B tG b tF adK adV am_sc = b := by unfold mrt; rw [if_neg (by decide), if_neg (by decide), if_neg (by decide), if_neg (by decide), if_neg (by decide)]
theorem mrt_sa (B tG b tF : Nat) (adK adV : Nat → Nat) {k : Nat} (h : k < 36) : mrt B tG b tF adK adV (am_sa + k) = adK k := by
  unfold mrt
  rw [if_neg (by unfold ax am_sa; omega), if_neg (by unfold am_ga am_sa; omega), if_neg (by unfold am_fm am_sa; omega), if_pos ⟨Nat.le_add_right _ _, by omega⟩, Nat.add_sub_cancel_left]
theorem mrt_va (B tG b tF : Nat) (adK adV : Nat → Nat) {k : Nat} (h : k < 36) : mrt B tG b tF adK adV (am_va + k) = adV k := by
  unfold mrt
  rw [if_neg (by unfold ax am_va; omega), if_neg (by unfold am_ga am_va; omega), if_neg (by unfold am_fm am_va; omega), if_neg (by unfold am_sa am_va; omega), if_pos ⟨Nat.le_add_right _ _, by omega⟩, Nat.add_sub_cancel_left]
theorem mrt_ok {B tG b tF : Nat} {adK adV : Nat → Nat} (h1 : tG < B) (h2 : b < B) (h4 : ∀ k, k < 36 → adK k < B) (h5 : ∀ k, k < 36 → adV k < B) : RTp B (mrt B tG b tF adK adV) := by
  refine ⟨fun a h => ?_, fun a h hf => ?_⟩
  · unfold mrt
    rw [if_pos h]
  · unfold mrt
    rw [if_neg (by omega)]
    by_cases g1 : a = am_ga
    · rw [if_pos g1]
      exact h1
    · rw [if_neg g1, if_neg hf]
      by_cases g2 : am_sa ≤ a ∧ a < am_sa + 36
      · rw [if_pos g2]
        exact h4 _ (by omega)
      · rw [if_neg g2]
        by_cases g3 : am_va ≤ a ∧ a < am_va + 36
        · rw [if_pos g3]
          exact h5 _ (by omega)
        · rw [if_neg g3]
          exact h2
def hgv0 (L : Nat) (xs : Nat → Int32) : AH := fun a => if a = am_ga then some (.inr (.inl (2, 6, am_gt))) else if a = am_sc then some (.inr (.inl (2, L, xs))) else none
theorem usm_0 (H : Heap) : usm H.size H = 0 := by
  unfold usm
  rw [List.drop_eq_nil_of_le (by rw [Array.length_toList]; exact Nat.le_refl _)]
  rfl
/-- the law's frame: what lw_At says and a little more -/
theorem k_W {p : Program} {e : Env} {s : State} {m : MethodId} {below : List Frame} {meth : Method} {c : Code} (l : Launch) (hlt : l.stackTraces = false) {b L : Nat} {xs : Nat → Int32} (hL : L ≤ 3072) (hx : p.tables.exec = Jvm.exec) (hb : c.code = code) (hr : meth.sig.returnType = ret) (hml : c.maxLocals = 8) (hown : s.vm.findClass "PatchHouseLaw" = some m.cls) (hts : ∀ w ∈ lw_tbl, w.before #[Value.ref b] s = true) (hX : va_X b L xs s s.heap) (hbl : b < s.heap.size) (hlk : meth.locks = false) (hgv : (Jvm.Cond.and given_1 narrow_1).before #[Value.ref b] s = true) (hnm : meth.name = "law") (het : c.exceptionTable.toList = [])
    (hXl : X m_L_law 1000 0 (entL 8 [.inr (.inr (some am_sc))]) [] (hgv0 L xs, 0, 0) QT) :
    W p l e room_1 s m #[Value.ref b] below meth c s.heap [] 0 0 (fun t => ∃ o, t.status = .running ∧ Ended t below o ∧ (o = .returned (some (.int 1)) ∧ Framed s o t [] 601024 7293034)) (entryFrame m ([Value.ref b] : List Value).toArray 8) := by
  have hg : ∀ w ∈ gvn, w.before #[Value.ref b] s = true := flat_of_before _ hgv
  have hgt : ∀ w ∈ gtb, w.before #[Value.ref b] s = true := fun w hw => hts w (List.mem_filter.mp hw).1
  have hA : ∀ a : Nat, a < s.heap.size → ¬ (fun q => s.heap.size ≤ q) a := fun a h => Nat.not_le.mpr h
  obtain ⟨D, hK⟩ := k_D hgt
  obtain ⟨adK, adV, hE, hev⟩ := k_S hg
  obtain ⟨tG, htG, hTG⟩ := va_Tof (N := 6) (f := fun j => .int (am_gt j)) (A := fun q => s.heap.size ≤ q) (by decide) (hg _ g_on.2.2.2.2.1) (va_eqt (hg _ g_on.2.2.2.2.2)) (fun j hj => va_eqt (hg _ (g_ge j hj))) hA
  have hZG := va_Zof (A := fun q => s.heap.size ≤ q) (hts _ g_ly.2.2.2.2) (hts _ g_in.2.2.2) htG hA
  have hZC := va_Zof (A := fun q => s.heap.size ≤ q) (hts _ g_ly.2.2.1) (hts _ g_in.2.1) (va_eqt (hg _ g_on.2.2.1)) hA
  have hZF := va_Zqof (A := fun q => s.heap.size ≤ q) (hts _ g_ly.2.2.2.1) (hts _ g_in.2.2.1) (hg _ g_on.2.2.2.1) hA
  have hZU := vx_Zqof (A := fun q => s.heap.size ≤ q) (hts _ g_ly.1) (hts _ g_in.1) (hg _ g_on.1) hA
  have hZN := vx_Zqof (A := fun q => s.heap.size ≤ q) (hts _ g_ly.2.1) (hts _ g_in.1) (hg _ g_on.2.1) hA
  obtain ⟨tF, hF⟩ : ∃ tF : Nat, va_Z "jdk/internal/util/Preconditions" "SIOOBE_FORMATTER" "Ljava/util/function/BiFunction;" .null (fun q => s.heap.size ≤ q) s s.heap ∨ va_Z "jdk/internal/util/Preconditions" "SIOOBE_FORMATTER" "Ljava/util/function/BiFunction;" (.ref tF) (fun q => s.heap.size ≤ q) s s.heap := by
    rcases hZF with h | ⟨t, h⟩
    · exact ⟨0, Or.inl h⟩
    · exact ⟨t, Or.inr h⟩
  obtain ⟨cG, hG1, hG2, hG3, hG4, hG5, hG6, hG7⟩ := hTG
  obtain ⟨cS, hS1, hS2, hS3, hS4, hS5⟩ := hX
  have hRT : RTp s.heap.size (mrt s.heap.size tG b tF adK adV) := mrt_ok (Array.getElem?_eq_some_iff.mp hG1).1 hbl (fun k hk => by
      obtain ⟨z, z1, -⟩ := (hE.1 k hk).1
      exact (Array.getElem?_eq_some_iff.mp z1).1) (fun k hk => by
      obtain ⟨z, z1, -⟩ := (hE.1 k hk).2.2.2
      exact (Array.getElem?_eq_some_iff.mp z1).1)
  have hKS : KS (mrt s.heap.size tG b tF adK adV) (fun q => s.heap.size ≤ q) s := by
    refine ⟨?_, ?_, ⟨⟨?_, ?_⟩, hZU, hZN, hZC, ?_⟩, ?_⟩
    · rw [mrt_ga]; exact hZG
    · intro k q hq
      have hk : k < 36 := (List.getElem?_eq_some_iff.mp hq).1
      rw [mrt_sa _ _ _ _ _ _ hk]
      have he := hev k hk
      have eq : am_str.getD k ("", 0, "") = q := by rw [List.getD_eq_getElem?_getD, hq]; rfl
      unfold tms at he
      rw [eq] at he
      exact vk_R.of (hts _ (g_st q (List.mem_of_getElem? hq))) he
    · intro i hi
      show va_O _ (mrt s.heap.size tG b tF adK adV (am_sa + i)) _ _ _ ∧ va_OF _ _ _ _ (mrt s.heap.size tG b tF adK adV (am_sa + i)) _ _ _ ∧ va_OF _ _ _ (.ref (mrt s.heap.size tG b tF adK adV (am_va + i))) (mrt s.heap.size tG b tF adK adV (am_sa + i)) _ _ _ ∧ va_T _ (mrt s.heap.size tG b tF adK adV (am_va + i)) _ _ _ _ _
      rw [mrt_sa _ _ _ _ _ _ hi, mrt_va _ _ _ _ _ _ hi]
      exact hE.1 i hi
    · intro i j hi hj h
      have h : mrt s.heap.size tG b tF adK adV (am_sa + i) = mrt s.heap.size tG b tF adK adV (am_sa + j) := h
      rw [mrt_sa _ _ _ _ _ _ hi, mrt_sa _ _ _ _ _ _ hj] at h
      exact hE.2 i j hi hj h
    · rw [mrt_fm]; exact hF
    · intro w hw
      have hb := hts w (List.mem_filter.mp hw).1
      rcases g_nt w hw with h | ⟨C, rfl⟩
      · exact va_Nw.of h hb
      · exact va_AO.of hb
  have hXK : XK m_L_law 1000 p room_1 s m #[Value.ref b] meth c D (mrt s.heap.size tG b tF adK adV) s.heap.size 0 0 := ⟨hx, hb, hml, hr, hlk, hnm, hown, hgt, hK, fun q hq => va_Nc.of (hg _ (g_nc q hq)), hKS, hRT, ⟨by decide, by decide⟩, ⟨rfl, rfl, het⟩, rfl, usm_0 _⟩
  have hHR : HR D (mrt s.heap.size tG b tF adK adV) s.heap.size s (hgv0 L xs, 0, 0) s.heap := by
    refine ⟨fun a e ha => ?_, rfl, usm_0 _, Nat.zero_le _, Nat.zero_le _⟩
    have ha : (if a = am_ga then some (.inr (.inl (2, 6, am_gt))) else if a = am_sc then some (.inr (.inl (2, L, xs))) else none) = some e := ha
    by_cases h1 : a = am_ga
    · rw [if_pos h1] at ha
      cases ha
      subst h1
      refine ⟨⟨cG, by rw [mrt_ga]; exact hG1, hG2, hG3, hG4, hG5, hG6⟩, Or.inr ⟨rfl, by decide, by decide⟩⟩
    · rw [if_neg h1] at ha
      by_cases h2 : a = am_sc
      · rw [if_pos h2] at ha
        cases ha
        subst h2
        refine ⟨⟨cS, by rw [mrt_sc]; exact hS1, hS2, hS3, by omega, by rw [hS4], hS5⟩, Or.inr ⟨rfl, by decide, by decide⟩⟩
      · rw [if_neg h2] at ha
        cases ha
  have hl0 := lv_entry ([Value.ref b]) (n := 8) (Nat.le_of_ble_eq_true rfl)
  have hW := hXl ok_L_law p ⟨l, hlt⟩ e room_1 s m #[Value.ref b] below meth c D (mrt s.heap.size tG b tF adK adV) s.heap.size 0 0 hXK rfl _ _ [] hHR (hl0.mem (fun q hq => by
    have := ent_sub (mrt s.heap.size tG b tF adK adV) 8 [.inr (.inr (some am_sc))] q hq
    have e : [(.inr (.inr (some am_sc)) : AV)].map (tv (mrt s.heap.size tG b tF adK adV)) = [Value.ref b] := by
      show [Value.ref (mrt s.heap.size tG b tF adK adV am_sc)] = _
      rw [mrt_sc]
    rw [e] at this
    exact this)) va_S.rf
  intro T hT X0
  have hpc : pcO m_L_law 0 = 0 := rfl
  rw [hpc] at hW
  rw [lg_entry_eq]
  obtain ⟨t, a1, o, b1, b2, ⟨r, P1, c1, c2, c3, c4⟩, Lo, ⟨d1, d2, d3⟩, d4⟩ := hW T hT X0
  have c1 : r = some (.inl 1) := c1
  subst c1
  refine ⟨t, a1, o, b1, b2, c2, d1, d2, d3.weaken (fun y hy hlt' => ?_) (Nat.le_refl _) (Nat.le_refl _)⟩
  exact absurd (d4 y hy) (Nat.not_le.mpr hlt')
