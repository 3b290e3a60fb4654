theorem ok_3 {a b c : Prop} [Decidable a] [Decidable b] [Decidable c] (h : (decide a && decide b && decide c) = true) : a ∧ b ∧ c := by
  simp only [Bool.and_eq_true, decide_eq_true_eq] at h
  exact ⟨h.1.1, h.1.2, h.2⟩
theorem ok_2 {a b : Prop} [Decidable a] [Decidable b] (h : (decide a && decide b) = true) : a ∧ b := by
  simp only [Bool.and_eq_true, decide_eq_true_eq] at h
  exact h
theorem ok_h {a : Prop} [Decidable a] {b : Bool} (h : (decide a && b) = true) : a ∧ b = true := by
  simp only [Bool.and_eq_true, decide_eq_true_eq] at h
  exact h
theorem ok_hh {a b : Prop} [Decidable a] [Decidable b] {c : Bool} (h : (decide a && decide b && c) = true) : a ∧ b ∧ c = true := by
  simp only [Bool.and_eq_true, decide_eq_true_eq] at h
  exact ⟨h.1.1, h.1.2, h.2⟩
theorem sw_l_ok {m : MI} {pc : Nat} {d d' : Int} (hd : tgO m pc d d' = true) (x : Int32) : ∀ (qs os : List (Int × Int)), qs.length = os.length → (qs.zip os).all (fun q => decide (q.1.1 = q.2.1) && tgO m pc q.1.2 q.2.2) = true → (pc : Int) + Op.lookupswitch.offset os d' x.toInt = (pcO m (sw_l d qs x) : Nat)
  | [], [], _, _ => tgO_of hd
  | [], _ :: _, h, _ => by cases h
  | _ :: _, [], h, _ => by cases h
  | (k, t) :: qs, (k', o) :: os, h, ha => by
    rw [List.zip_cons_cons, List.all_cons, Bool.and_eq_true] at ha
    obtain ⟨h1, h2⟩ := ok_h ha.1
    dsimp only at h1 h2
    subst h1
    have ih := sw_l_ok hd x qs os (Nat.succ.inj h) ha.2
    by_cases e : x.toInt = k
    · rw [show sw_l d ((k, t) :: qs) x = t.toNat from if_pos e, show Op.lookupswitch.offset ((k, o) :: os) d' x.toInt = o by simp [Op.lookupswitch.offset, e]]
      exact tgO_of h2
    · rw [show sw_l d ((k, t) :: qs) x = sw_l d qs x from if_neg e, show Op.lookupswitch.offset ((k, o) :: os) d' x.toInt = Op.lookupswitch.offset os d' x.toInt by simp [Op.lookupswitch.offset, e, Ne.symm e]]
      exact ih
theorem sw_t_ok {m : MI} {pc : Nat} {ts os : Array Int} {j t : Nat} (h : ts.toList.length = os.toList.length) (ha : (ts.toList.zip os.toList).all (fun q => tgO m pc q.1 q.2) = true) (ht : (ts[j]?).map Int.toNat = some t) : ∃ off, os[j]? = some off ∧ (pc : Int) + off = (pcO m t : Nat) := by
  obtain ⟨u, h1, h2⟩ := Option.map_eq_some_iff.mp ht
  rw [← Array.getElem?_toList] at h1
  have hl : j < os.toList.length := by rw [← h]; exact (List.getElem?_eq_some_iff.mp h1).1
  refine ⟨os.toList[j], by rw [← Array.getElem?_toList]; exact List.getElem?_eq_getElem hl, ?_⟩
  have h3 : (u, os.toList[j]) ∈ ts.toList.zip os.toList := by
    refine List.mem_of_getElem? (i := j) ?_
    rw [List.getElem?_zip_eq_some]
    exact ⟨h1, List.getElem?_eq_getElem hl⟩
  have h4 := List.all_eq_true.mp ha _ h3
  rw [← h2]
  exact tgO_of h4

set_option maxHeartbeats 4000000 in
/-- an instruction that touches no heap -/
theorem XF_pure {m : MI} {d i : Nat} {L : AL} {st : List AV} {P : AP} {F : PostT} {q : Nat × Instr × List Nat} {i1 : Nat} {L1 : AL} {st1 : List AV} (hq : (mi_cd m)[i]? = some q) (ha : act q.2.1 i L st = some (i1, L1, st1)) (k : XF m d i1 L1 st1 P F) : XF m d i L st P F := by
  intro hok p l e R s mid args below meth c D rt B n0 u0 hC hL ls H locs hH hl hS
  obtain ⟨ri, len, hd, ho⟩ := okM_at hok hq
  have K := k hok p l e R s mid args below meth c D rt B n0 u0 hC
  have hx : p.tables.exec = Jvm.exec := hC.1
  have hb : c.code = mi_cc m := hC.2.1
  have hown : s.vm.findClass (mi_y m).cls = some mid.cls := hC.2.2.2.2.2.2.1
  have hts : ∀ w ∈ gtb, w.before args s = true := hC.2.2.2.2.2.2.2.1
  rw [pcO_at hq]
  obtain ⟨pc, am, ps⟩ := q
  dsimp only at ha ho hd ⊢
  cases am with
  | iadd =>
    obtain ⟨s1, h1, h2⟩ := Option.map_eq_some_iff.mp ha
    cases h2
    obtain ⟨y, x, r, rfl, rfl⟩ := o_ii_inv h1
    obtain ⟨g1, g2, g3⟩ := ok_3 ho
    subst g2; subst g3
    exact lv_iadd hx hb hd (by rw [← pcO_of g1]; exact K hL ls H locs hH hl hS)
  | isub =>
    obtain ⟨s1, h1, h2⟩ := Option.map_eq_some_iff.mp ha
    cases h2
    obtain ⟨y, x, r, rfl, rfl⟩ := o_ii_inv h1
    obtain ⟨g1, g2, g3⟩ := ok_3 ho
    subst g2; subst g3
    exact lv_isub hx hb hd (by rw [← pcO_of g1]; exact K hL ls H locs hH hl hS)
  | imul =>
    obtain ⟨s1, h1, h2⟩ := Option.map_eq_some_iff.mp ha
    cases h2
    obtain ⟨y, x, r, rfl, rfl⟩ := o_ii_inv h1
    obtain ⟨g1, g2, g3⟩ := ok_3 ho
    subst g2; subst g3
    exact lv_imul hx hb hd (by rw [← pcO_of g1]; exact K hL ls H locs hH hl hS)
  | iand =>
    obtain ⟨s1, h1, h2⟩ := Option.map_eq_some_iff.mp ha
    cases h2
    obtain ⟨y, x, r, rfl, rfl⟩ := o_ii_inv h1
    obtain ⟨g1, g2, g3⟩ := ok_3 ho
    subst g2; subst g3
    exact lv_iand hx hb hd (by rw [← pcO_of g1]; exact K hL ls H locs hH hl hS)
  | ior =>
    obtain ⟨s1, h1, h2⟩ := Option.map_eq_some_iff.mp ha
    cases h2
    obtain ⟨y, x, r, rfl, rfl⟩ := o_ii_inv h1
    obtain ⟨g1, g2, g3⟩ := ok_3 ho
    subst g2; subst g3
    exact lv_ior hx hb hd (by rw [← pcO_of g1]; exact K hL ls H locs hH hl hS)
  | ixor =>
    obtain ⟨s1, h1, h2⟩ := Option.map_eq_some_iff.mp ha
    cases h2
    obtain ⟨y, x, r, rfl, rfl⟩ := o_ii_inv h1
    obtain ⟨g1, g2, g3⟩ := ok_3 ho
    subst g2; subst g3
    exact lv_ixor hx hb hd (by rw [← pcO_of g1]; exact K hL ls H locs hH hl hS)
  | ishl =>
    obtain ⟨s1, h1, h2⟩ := Option.map_eq_some_iff.mp ha
    cases h2
    obtain ⟨y, x, r, rfl, rfl⟩ := o_ii_inv h1
    obtain ⟨g1, g2, g3⟩ := ok_3 ho
    subst g2; subst g3
    exact lv_ishl hx hb hd (by rw [← pcO_of g1]; exact K hL ls H locs hH hl hS)
  | ishr =>
    obtain ⟨s1, h1, h2⟩ := Option.map_eq_some_iff.mp ha
    cases h2
    obtain ⟨y, x, r, rfl, rfl⟩ := o_ii_inv h1
    obtain ⟨g1, g2, g3⟩ := ok_3 ho
    subst g2; subst g3
    exact lv_ishr hx hb hd (by rw [← pcO_of g1]; exact K hL ls H locs hH hl hS)
  | iushr =>
    obtain ⟨s1, h1, h2⟩ := Option.map_eq_some_iff.mp ha
    cases h2
    obtain ⟨y, x, r, rfl, rfl⟩ := o_ii_inv h1
    obtain ⟨g1, g2, g3⟩ := ok_3 ho
    subst g2; subst g3
    exact lv_iushr hx hb hd rfl (by rw [← pcO_of g1]; exact K hL ls H locs hH hl hS)
  | idiv =>
    obtain ⟨s1, h1, h2⟩ := Option.map_eq_some_iff.mp ha
    cases h2
    obtain ⟨y, x, r, rfl, rfl, hy⟩ := o_iid_inv h1
    obtain ⟨g1, g2, g3⟩ := ok_3 ho
    subst g2; subst g3
    exact lv_idiv hx hb hd hy (by rw [← pcO_of g1]; exact K hL ls H locs hH hl hS)
  | irem =>
    obtain ⟨s1, h1, h2⟩ := Option.map_eq_some_iff.mp ha
    cases h2
    obtain ⟨y, x, r, rfl, rfl, hy⟩ := o_iid_inv h1
    obtain ⟨g1, g2, g3⟩ := ok_3 ho
    subst g2; subst g3
    exact lv_irem hx hb hd hy (by rw [← pcO_of g1]; exact K hL ls H locs hH hl hS)
  | ineg =>
    obtain ⟨s1, h1, h2⟩ := Option.map_eq_some_iff.mp ha
    cases h2
    obtain ⟨x, r, rfl, rfl⟩ := o_i_inv h1
    obtain ⟨g1, g2, g3⟩ := ok_3 ho
    subst g2; subst g3
    exact lv_ineg hx hb hd (by rw [← pcO_of g1]; exact K hL ls H locs hH hl hS)
  | i2b =>
    obtain ⟨s1, h1, h2⟩ := Option.map_eq_some_iff.mp ha
    cases h2
    obtain ⟨x, r, rfl, rfl⟩ := o_i_inv h1
    obtain ⟨g1, g2, g3⟩ := ok_3 ho
    subst g2; subst g3
    exact lv_i2b hx hb hd rfl (by rw [← pcO_of g1]; exact K hL ls H locs hH hl hS)
  | i2s =>
    obtain ⟨s1, h1, h2⟩ := Option.map_eq_some_iff.mp ha
    cases h2
    obtain ⟨x, r, rfl, rfl⟩ := o_i_inv h1
    obtain ⟨g1, g2, g3⟩ := ok_3 ho
    subst g2; subst g3
    exact lv_i2s hx hb hd rfl (by rw [← pcO_of g1]; exact K hL ls H locs hH hl hS)
  | i2c =>
    obtain ⟨s1, h1, h2⟩ := Option.map_eq_some_iff.mp ha
    cases h2
    obtain ⟨x, r, rfl, rfl⟩ := o_i_inv h1
    obtain ⟨g1, g2, g3⟩ := ok_3 ho
    subst g2; subst g3
    exact lv_i2c hx hb hd rfl (by rw [← pcO_of g1]; exact K hL ls H locs hH hl hS)
  | i2l =>
    obtain ⟨s1, h1, h2⟩ := Option.map_eq_some_iff.mp ha
    cases h2
    obtain ⟨x, r, rfl, rfl⟩ := o_i2l_inv h1
    obtain ⟨g1, g2, g3⟩ := ok_3 ho
    subst g2; subst g3
    exact lv_i2l hx hb hd rfl (by rw [← pcO_of g1]; exact K hL ls H locs hH hl hS)
  | l2i =>
    obtain ⟨s1, h1, h2⟩ := Option.map_eq_some_iff.mp ha
    cases h2
    obtain ⟨x, r, rfl, rfl⟩ := o_l2i_inv h1
    obtain ⟨g1, g2, g3⟩ := ok_3 ho
    subst g2; subst g3
    exact lv_l2i hx hb hd rfl (by rw [← pcO_of g1]; exact K hL ls H locs hH hl hS)
  | ladd =>
    obtain ⟨s1, h1, h2⟩ := Option.map_eq_some_iff.mp ha
    cases h2
    obtain ⟨y, x, r, rfl, rfl⟩ := o_ll_inv h1
    obtain ⟨g1, g2, g3⟩ := ok_3 ho
    subst g2; subst g3
    exact lv_ladd hx hb hd (by rw [← pcO_of g1]; exact K hL ls H locs hH hl hS)
  | lsub =>
    obtain ⟨s1, h1, h2⟩ := Option.map_eq_some_iff.mp ha
    cases h2
    obtain ⟨y, x, r, rfl, rfl⟩ := o_ll_inv h1
    obtain ⟨g1, g2, g3⟩ := ok_3 ho
    subst g2; subst g3
    exact lv_lsub hx hb hd (by rw [← pcO_of g1]; exact K hL ls H locs hH hl hS)
  | lmul =>
    obtain ⟨s1, h1, h2⟩ := Option.map_eq_some_iff.mp ha
    cases h2
    obtain ⟨y, x, r, rfl, rfl⟩ := o_ll_inv h1
    obtain ⟨g1, g2, g3⟩ := ok_3 ho
    subst g2; subst g3
    exact lv_lmul hx hb hd (by rw [← pcO_of g1]; exact K hL ls H locs hH hl hS)
  | land =>
    obtain ⟨s1, h1, h2⟩ := Option.map_eq_some_iff.mp ha
    cases h2
    obtain ⟨y, x, r, rfl, rfl⟩ := o_ll_inv h1
    obtain ⟨g1, g2, g3⟩ := ok_3 ho
    subst g2; subst g3
    exact lv_land hx hb hd (by rw [← pcO_of g1]; exact K hL ls H locs hH hl hS)
  | lor =>
    obtain ⟨s1, h1, h2⟩ := Option.map_eq_some_iff.mp ha
    cases h2
    obtain ⟨y, x, r, rfl, rfl⟩ := o_ll_inv h1
    obtain ⟨g1, g2, g3⟩ := ok_3 ho
    subst g2; subst g3
    exact lv_lor hx hb hd (by rw [← pcO_of g1]; exact K hL ls H locs hH hl hS)
  | lxor =>
    obtain ⟨s1, h1, h2⟩ := Option.map_eq_some_iff.mp ha
    cases h2
    obtain ⟨y, x, r, rfl, rfl⟩ := o_ll_inv h1
    obtain ⟨g1, g2, g3⟩ := ok_3 ho
    subst g2; subst g3
    exact lv_lxor hx hb hd (by rw [← pcO_of g1]; exact K hL ls H locs hH hl hS)
  | ldiv =>
    obtain ⟨s1, h1, h2⟩ := Option.map_eq_some_iff.mp ha
    cases h2
    obtain ⟨y, x, r, rfl, rfl, hy⟩ := o_lld_inv h1
    obtain ⟨g1, g2, g3⟩ := ok_3 ho
    subst g2; subst g3
    exact lv_ldiv hx hb hd hy (by rw [← pcO_of g1]; exact K hL ls H locs hH hl hS)
  | lrem =>
    obtain ⟨s1, h1, h2⟩ := Option.map_eq_some_iff.mp ha
    cases h2
    obtain ⟨y, x, r, rfl, rfl, hy⟩ := o_lld_inv h1
    obtain ⟨g1, g2, g3⟩ := ok_3 ho
    subst g2; subst g3
    exact lv_lrem hx hb hd hy (by rw [← pcO_of g1]; exact K hL ls H locs hH hl hS)
  | lneg =>
    obtain ⟨s1, h1, h2⟩ := Option.map_eq_some_iff.mp ha
    cases h2
    obtain ⟨x, r, rfl, rfl⟩ := o_l_inv h1
    obtain ⟨g1, g2, g3⟩ := ok_3 ho
    subst g2; subst g3
    exact lv_lneg hx hb hd (by rw [← pcO_of g1]; exact K hL ls H locs hH hl hS)
  | lshl =>
    obtain ⟨s1, h1, h2⟩ := Option.map_eq_some_iff.mp ha
    cases h2
    obtain ⟨y, x, r, rfl, rfl⟩ := o_li_inv h1
    obtain ⟨g1, g2, g3⟩ := ok_3 ho
    subst g2; subst g3
    exact lv_lshl hx hb hd rfl (by rw [← pcO_of g1]; exact K hL ls H locs hH hl hS)
  | lshr =>
    obtain ⟨s1, h1, h2⟩ := Option.map_eq_some_iff.mp ha
    cases h2
    obtain ⟨y, x, r, rfl, rfl⟩ := o_li_inv h1
    obtain ⟨g1, g2, g3⟩ := ok_3 ho
    subst g2; subst g3
    exact lv_lshr hx hb hd rfl (by rw [← pcO_of g1]; exact K hL ls H locs hH hl hS)
  | lushr =>
    obtain ⟨s1, h1, h2⟩ := Option.map_eq_some_iff.mp ha
    cases h2
    obtain ⟨y, x, r, rfl, rfl⟩ := o_li_inv h1
    obtain ⟨g1, g2, g3⟩ := ok_3 ho
    subst g2; subst g3
    exact lv_lushr hx hb hd rfl (by rw [← pcO_of g1]; exact K hL ls H locs hH hl hS)
  | lcmp =>
    obtain ⟨s1, h1, h2⟩ := Option.map_eq_some_iff.mp ha
    cases h2
    obtain ⟨y, x, r, rfl, rfl⟩ := o_lcmp_inv h1
    obtain ⟨g1, g2, g3⟩ := ok_3 ho
    subst g2; subst g3
    exact W.lcmp hx hb hd (by rw [← pcO_of g1]; exact K hL ls H locs hH hl hS)
  | sipush n =>
    cases ha
    obtain ⟨g1, g2⟩ := ok_h ho
    split at g2
    · obtain ⟨g3, g4⟩ := ok_2 g2; subst g3; exact lv_iconst hx hb hd g4 (by rw [← pcO_of g1]; exact K hL ls H locs hH hl hS)
    · obtain ⟨g3, g4⟩ := ok_2 g2; subst g3; exact lv_bipush hx hb hd g4 (by rw [← pcO_of g1]; exact K hL ls H locs hH hl hS)
    · obtain ⟨g3, g4⟩ := ok_2 g2; subst g3; exact lv_sipush hx hb hd g4 (by rw [← pcO_of g1]; exact K hL ls H locs hH hl hS)
    · obtain ⟨g3, g4⟩ := ok_2 g2; subst g3; exact lv_ldc hx hb hown (hts _ (wq_in g4 rfl)) hd (by rw [← pcO_of g1]; exact K hL ls H locs hH hl hS)
    · obtain ⟨g3, g4⟩ := ok_2 g2; subst g3; exact lv_ldcw hx hb hown (hts _ (wq_in g4 rfl)) hd (by rw [← pcO_of g1]; exact K hL ls H locs hH hl hS)
    · cases g2
  | bipush n =>
    cases ha
    obtain ⟨g1, g2⟩ := ok_h ho
    split at g2
    · obtain ⟨g3, g4⟩ := ok_2 g2; subst g3; exact lv_lconst hx hb hd g4 (by rw [← pcO_of g1]; exact K hL ls H locs hH hl hS)
    · obtain ⟨g3, g4⟩ := ok_2 g2; subst g3; exact lv_ldc2 hx hb hown (hts _ (wq_in g4 rfl)) hd (by rw [← pcO_of g1]; exact K hL ls H locs hH hl hS)
    · cases g2
  | aconst_null =>
    cases ha
    obtain ⟨g1, g2, g3⟩ := ok_3 ho
    subst g2; subst g3
    exact lv_null hx hb hd (by rw [← pcO_of g1]; exact K hL ls H locs hH hl hS)
  | iload j =>
    obtain ⟨x, e1, e2⟩ : ∃ x, lgt L j = some (.inl x) ∧ some (i + 1, L, .inl x :: st) = some (i1, L1, st1) := by
      unfold act at ha
      dsimp only at ha
      split at ha
      · next x hx => exact ⟨x, hx, ha⟩
      · cases ha
    cases e2
    have hv := lps_at hl e1
    obtain ⟨g1, g2⟩ := ok_h ho
    split at g2
    · obtain ⟨g3, g4⟩ := ok_2 g2; subst g3; subst g4; exact lv_iload hx hb hd hv (by rw [← pcO_of g1]; exact K hL ls H locs hH hl hS)
    · obtain ⟨g3, g4⟩ := ok_2 g2; subst g3; exact lv_iload_n hx hb hd g4 hv (by rw [← pcO_of g1]; exact K hL ls H locs hH hl hS)
    · cases g2
  | lload j =>
    obtain ⟨x, e1, e2⟩ : ∃ x, lgt L j = some (.inr (.inl x)) ∧ some (i + 1, L, .inr (.inl x) :: st) = some (i1, L1, st1) := by
      unfold act at ha
      dsimp only at ha
      split at ha
      · next x hx => exact ⟨x, hx, ha⟩
      · cases ha
    cases e2
    have hv := lps_at hl e1
    obtain ⟨g1, g2⟩ := ok_h ho
    split at g2
    · obtain ⟨g3, g4⟩ := ok_2 g2; subst g3; subst g4; exact lv_lload hx hb hd hv (by rw [← pcO_of g1]; exact K hL ls H locs hH hl hS)
    · obtain ⟨g3, g4⟩ := ok_2 g2; subst g3; exact lv_lload_n hx hb hd g4 hv (by rw [← pcO_of g1]; exact K hL ls H locs hH hl hS)
    · cases g2
  | aload j =>
    obtain ⟨x, e1, e2⟩ : ∃ x, lgt L j = some (.inr (.inr x)) ∧ some (i + 1, L, .inr (.inr x) :: st) = some (i1, L1, st1) := by
      unfold act at ha
      dsimp only at ha
      split at ha
      · next x hx => exact ⟨x, hx, ha⟩
      · cases ha
    cases e2
    have hv := lps_at hl e1
    cases x with
    | none =>
      obtain ⟨g1, g2⟩ := ok_h ho
      split at g2
      · obtain ⟨g3, g4⟩ := ok_2 g2; subst g3; subst g4; exact lv_aloadN hx hb hd hv (by rw [← pcO_of g1]; exact K hL ls H locs hH hl hS)
      · obtain ⟨g3, g4⟩ := ok_2 g2; subst g3; exact lv_aload_nN hx hb hd g4 hv (by rw [← pcO_of g1]; exact K hL ls H locs hH hl hS)
      · cases g2
    | some x =>
      obtain ⟨g1, g2⟩ := ok_h ho
      split at g2
      · obtain ⟨g3, g4⟩ := ok_2 g2; subst g3; subst g4; exact lv_aload hx hb hd hv (by rw [← pcO_of g1]; exact K hL ls H locs hH hl hS)
      · obtain ⟨g3, g4⟩ := ok_2 g2; subst g3; exact lv_aload_n hx hb hd g4 hv (by rw [← pcO_of g1]; exact K hL ls H locs hH hl hS)
      · cases g2
  | istore j =>
    obtain ⟨x, r, e0, e1, e2⟩ : ∃ x r, st = .inl x :: r ∧ j < L.length ∧ some (i + 1, ls1 L j (.inl x), r) = some (i1, L1, st1) := by
      unfold act at ha
      dsimp only at ha
      split at ha
      · next x r =>
        split at ha
        · next hj => exact ⟨x, r, rfl, hj, ha⟩
        · cases ha
      · cases ha
    cases e2
    subst e0
    have hL2 : (ls1 L j (.inl x)).length = mi_mx m := by simp only [ls1, List.length_set, lkl_len]; exact hL
    have hn : j < mi_mx m := by rw [← hL]; exact e1
    obtain ⟨g1, g2⟩ := ok_h ho
    split at g2
    · obtain ⟨g3, g4⟩ := ok_2 g2; subst g3; subst g4; exact lv_istore hx hb hd hl hn rfl (fun ls1 hl1 => by rw [← pcO_of g1]; exact K hL2 ls1 H locs hH (hl1.mem (ls1_sub e1)) hS)
    · obtain ⟨g3, g4⟩ := ok_2 g2; subst g3; exact lv_istore_n hx hb hd g4 hl hn rfl (fun ls1 hl1 => by rw [← pcO_of g1]; exact K hL2 ls1 H locs hH (hl1.mem (ls1_sub e1)) hS)
    · cases g2
  | lstore j =>
    obtain ⟨x, r, e0, e1, e2⟩ : ∃ x r, st = .inr (.inl x) :: r ∧ j + 1 < L.length ∧ some (i + 1, ls2 L j (.inr (.inl x)), r) = some (i1, L1, st1) := by
      unfold act at ha
      dsimp only at ha
      split at ha
      · next x r =>
        split at ha
        · next hj => exact ⟨x, r, rfl, hj, ha⟩
        · cases ha
      · cases ha
    cases e2
    subst e0
    have hL2 : (ls2 L j (.inr (.inl x))).length = mi_mx m := by simp only [ls2, List.length_set, lkl_len]; exact hL
    have hn : j + 1 < mi_mx m := by rw [← hL]; exact e1
    obtain ⟨g1, g2⟩ := ok_h ho
    split at g2
    · obtain ⟨g3, g4⟩ := ok_2 g2; subst g3; subst g4; exact lv_lstore hx hb hd hl hn rfl (fun ls1 hl1 => by rw [← pcO_of g1]; exact K hL2 ls1 H locs hH (hl1.mem (ls2_sub e1)) hS)
    · obtain ⟨g3, g4⟩ := ok_2 g2; subst g3; exact lv_lstore_n hx hb hd g4 hl hn rfl (fun ls1 hl1 => by rw [← pcO_of g1]; exact K hL2 ls1 H locs hH (hl1.mem (ls2_sub e1)) hS)
    · cases g2
  | astore j =>
    obtain ⟨x, r, e0, e1, e2⟩ : ∃ x r, st = .inr (.inr x) :: r ∧ j < L.length ∧ some (i + 1, ls1 L j (.inr (.inr x)), r) = some (i1, L1, st1) := by
      unfold act at ha
      dsimp only at ha
      split at ha
      · next x r =>
        split at ha
        · next hj => exact ⟨x, r, rfl, hj, ha⟩
        · cases ha
      · cases ha
    cases e2
    subst e0
    have hL2 : (ls1 L j (.inr (.inr x))).length = mi_mx m := by simp only [ls1, List.length_set, lkl_len]; exact hL
    have hn : j < mi_mx m := by rw [← hL]; exact e1
    cases x with
    | none =>
      obtain ⟨g1, g2⟩ := ok_h ho
      split at g2
      · obtain ⟨g3, g4⟩ := ok_2 g2; subst g3; subst g4; exact lv_astoreN hx hb hd hl hn rfl (fun ls1 hl1 => by rw [← pcO_of g1]; exact K hL2 ls1 H locs hH (hl1.mem (ls1_sub e1)) hS)
      · obtain ⟨g3, g4⟩ := ok_2 g2; subst g3; exact lv_astore_nN hx hb hd g4 hl hn rfl (fun ls1 hl1 => by rw [← pcO_of g1]; exact K hL2 ls1 H locs hH (hl1.mem (ls1_sub e1)) hS)
      · cases g2
    | some x =>
      obtain ⟨g1, g2⟩ := ok_h ho
      split at g2
      · obtain ⟨g3, g4⟩ := ok_2 g2; subst g3; subst g4; exact lv_astore hx hb hd hl hn rfl (fun ls1 hl1 => by rw [← pcO_of g1]; exact K hL2 ls1 H locs hH (hl1.mem (ls1_sub e1)) hS)
      · obtain ⟨g3, g4⟩ := ok_2 g2; subst g3; exact lv_astore_n hx hb hd g4 hl hn rfl (fun ls1 hl1 => by rw [← pcO_of g1]; exact K hL2 ls1 H locs hH (hl1.mem (ls1_sub e1)) hS)
      · cases g2
  | iinc j n =>
    obtain ⟨x, e0, e1, e2⟩ : ∃ x, lgt L j = some (.inl x) ∧ j < L.length ∧ some (i + 1, ls1 L j (.inl (x + Int32.ofInt n)), st) = some (i1, L1, st1) := by
      unfold act at ha
      dsimp only at ha
      split at ha
      · next x hx =>
        split at ha
        · next hj => exact ⟨x, hx, hj, ha⟩
        · cases ha
      · cases ha
    cases e2
    have hL2 : (ls1 L j (.inl (x + Int32.ofInt n))).length = mi_mx m := by simp only [ls1, List.length_set, lkl_len]; exact hL
    have hn : j < mi_mx m := by rw [← hL]; exact e1
    obtain ⟨g1, g2, g3⟩ := ok_3 ho
    subst g2; subst g3
    obtain ⟨kk, hk⟩ := List.getElem?_of_mem (lps_mem.mpr ⟨_, lgt_iff.mp e0, rfl⟩ : (j, tv rt (.inl x)) ∈ lps rt L)
    exact lv_iinc hx hb hd hl hk rfl hn rfl (fun ls1 hl1 => by rw [← pcO_of g1]; exact K hL2 ls1 H locs hH (hl1.mem (ls1_sub e1)) hS)
  | dup =>
    obtain ⟨v, r, e0, e1, e2⟩ : ∃ v r, st = v :: r ∧ av_c v = 1 ∧ some (i + 1, L, v :: v :: r) = some (i1, L1, st1) := by
      unfold act at ha
      dsimp only at ha
      split at ha
      · next v r =>
        split at ha
        · next hj => exact ⟨v, r, rfl, hj, ha⟩
        · cases ha
      · cases ha
    cases e2
    subst e0
    obtain ⟨g1, g2, g3⟩ := ok_3 ho
    subst g2; subst g3
    exact lv_dup hx hb hd (by rw [tv_c]; exact e1) (by rw [← pcO_of g1]; exact K hL ls H locs hH hl hS)
  | pop =>
    obtain ⟨v, r, e0, e1, e2⟩ : ∃ v r, st = v :: r ∧ av_c v = 1 ∧ some (i + 1, L, r) = some (i1, L1, st1) := by
      unfold act at ha
      dsimp only at ha
      split at ha
      · next v r =>
        split at ha
        · next hj => exact ⟨v, r, rfl, hj, ha⟩
        · cases ha
      · cases ha
    cases e2
    subst e0
    obtain ⟨g1, g2, g3⟩ := ok_3 ho
    subst g2; subst g3
    exact lv_pop hx hb hd (by rw [tv_c]; exact e1) (by rw [← pcO_of g1]; exact K hL ls H locs hH hl hS)
  | dup2 =>
    obtain ⟨v, w, r, e0, e1, e2⟩ : ∃ v w r, st = v :: w :: r ∧ (av_c v = 1 ∧ av_c w = 1) ∧ some (i + 1, L, v :: w :: v :: w :: r) = some (i1, L1, st1) := by
      unfold act at ha
      dsimp only at ha
      split at ha
      · next v w r =>
        split at ha
        · next hj => exact ⟨v, w, r, rfl, hj, ha⟩
        · cases ha
      · cases ha
    cases e2
    subst e0
    obtain ⟨g1, g2, g3⟩ := ok_3 ho
    subst g2; subst g3
    exact lv_dup2_11 hx hb hd (by rw [tv_c]; exact e1.1) (by rw [tv_c]; exact e1.2) (by rw [← pcO_of g1]; exact K hL ls H locs hH hl hS)
  | dup_x1 =>
    obtain ⟨v, w, r, e0, e1, e2⟩ : ∃ v w r, st = v :: w :: r ∧ (av_c v = 1 ∧ av_c w = 1) ∧ some (i + 1, L, v :: w :: v :: r) = some (i1, L1, st1) := by
      unfold act at ha
      dsimp only at ha
      split at ha
      · next v w r =>
        split at ha
        · next hj => exact ⟨v, w, r, rfl, hj, ha⟩
        · cases ha
      · cases ha
    cases e2
    subst e0
    obtain ⟨g1, g2, g3⟩ := ok_3 ho
    subst g2; subst g3
    exact lv_dup_x1 hx hb hd (by rw [tv_c]; exact e1.1) (by rw [tv_c]; exact e1.2) (by rw [← pcO_of g1]; exact K hL ls H locs hH hl hS)
  | goto t =>
    cases ha
    have ho2 := ho
    unfold okR at ho2
    dsimp only at ho2
    split at ho2
    · obtain ⟨g1, g2⟩ := ok_h ho2
      subst g1
      exact lv_goto hx hb hd (tgO_of g2) (K hL ls H locs hH hl hS)
    · cases ho2
  | ifCond cc t =>
    obtain ⟨x, r, e0, e2⟩ : ∃ x r, st = .inl x :: r ∧ some (cond (cn1 cc x) t.toNat (i + 1), L, r) = some (i1, L1, st1) := by
      unfold act at ha
      dsimp only at ha
      split at ha
      · next x r => exact ⟨x, r, rfl, ha⟩
      · cases ha
    cases e2
    subst e0
    have K := K hL ls H locs hH hl hS
    obtain ⟨g1, g2⟩ := ok_h ho
    split at g2
    · obtain ⟨g3, g4, g5⟩ := ok_hh g2
      subst g3; subst g4
      cases cc with
      | eq => exact lv_if_eq hx hb hd (tgO_of g5) (fun h => by rw [show cn1 .eq x = true from decide_eq_true h] at K; exact K) (fun h => by rw [show cn1 .eq x = false from decide_eq_false h] at K; rw [← pcO_of g1]; exact K)
      | ne => exact lv_if_ne hx hb hd (tgO_of g5) (fun h => by rw [show cn1 .ne x = true from decide_eq_true h] at K; exact K) (fun h => by rw [show cn1 .ne x = false from decide_eq_false (fun z => z h)] at K; rw [← pcO_of g1]; exact K)
      | lt => exact lv_if_lt hx hb hd (tgO_of g5) (fun h => by rw [show cn1 .lt x = true from decide_eq_true h] at K; exact K) (fun h => by rw [show cn1 .lt x = false from decide_eq_false h] at K; rw [← pcO_of g1]; exact K)
      | ge => exact lv_if_ge hx hb hd (tgO_of g5) (fun h => by rw [show cn1 .ge x = true from decide_eq_true h] at K; exact K) (fun h => by rw [show cn1 .ge x = false from decide_eq_false h] at K; rw [← pcO_of g1]; exact K)
      | gt => exact lv_if_gt hx hb hd (tgO_of g5) (fun h => by rw [show cn1 .gt x = true from decide_eq_true h] at K; exact K) (fun h => by rw [show cn1 .gt x = false from decide_eq_false h] at K; rw [← pcO_of g1]; exact K)
      | le => exact lv_if_le hx hb hd (tgO_of g5) (fun h => by rw [show cn1 .le x = true from decide_eq_true h] at K; exact K) (fun h => by rw [show cn1 .le x = false from decide_eq_false h] at K; rw [← pcO_of g1]; exact K)
    · cases g2
  | if_icmp cc t =>
    obtain ⟨y, x, r, e0, e2⟩ : ∃ y x r, st = .inl y :: .inl x :: r ∧ some (cond (cn2 cc x y) t.toNat (i + 1), L, r) = some (i1, L1, st1) := by
      unfold act at ha
      dsimp only at ha
      split at ha
      · next y x r => exact ⟨y, x, r, rfl, ha⟩
      · cases ha
    cases e2
    subst e0
    have K := K hL ls H locs hH hl hS
    obtain ⟨g1, g2⟩ := ok_h ho
    split at g2
    · obtain ⟨g3, g4, g5⟩ := ok_hh g2
      subst g3; subst g4
      cases cc with
      | eq => exact lv_icmp_eq hx hb hd (tgO_of g5) (fun h => by rw [show cn2 .eq x y = true from decide_eq_true h] at K; exact K) (fun h => by rw [show cn2 .eq x y = false from decide_eq_false h] at K; rw [← pcO_of g1]; exact K)
      | ne => exact lv_icmp_ne hx hb hd (tgO_of g5) (fun h => by rw [show cn2 .ne x y = true from decide_eq_true h] at K; exact K) (fun h => by rw [show cn2 .ne x y = false from decide_eq_false (fun z => z h)] at K; rw [← pcO_of g1]; exact K)
      | lt => exact lv_icmp_lt hx hb hd (tgO_of g5) (fun h => by rw [show cn2 .lt x y = true from decide_eq_true h] at K; exact K) (fun h => by rw [show cn2 .lt x y = false from decide_eq_false h] at K; rw [← pcO_of g1]; exact K)
      | ge => exact lv_icmp_ge hx hb hd (tgO_of g5) (fun h => by rw [show cn2 .ge x y = true from decide_eq_true h] at K; exact K) (fun h => by rw [show cn2 .ge x y = false from decide_eq_false h] at K; rw [← pcO_of g1]; exact K)
      | gt => exact lv_icmp_gt hx hb hd (tgO_of g5) (fun h => by rw [show cn2 .gt x y = true from decide_eq_true h] at K; exact K) (fun h => by rw [show cn2 .gt x y = false from decide_eq_false h] at K; rw [← pcO_of g1]; exact K)
      | le => exact lv_icmp_le hx hb hd (tgO_of g5) (fun h => by rw [show cn2 .le x y = true from decide_eq_true h] at K; exact K) (fun h => by rw [show cn2 .le x y = false from decide_eq_false h] at K; rw [← pcO_of g1]; exact K)
    · cases g2
  | ifnull t =>
    obtain ⟨x, r, e0, e2⟩ : ∃ x r, st = .inr (.inr x) :: r ∧ some (cond x.isNone t.toNat (i + 1), L, r) = some (i1, L1, st1) := by
      unfold act at ha
      dsimp only at ha
      split at ha
      · next x r => exact ⟨x, r, rfl, ha⟩
      · cases ha
    cases e2
    subst e0
    have K := K hL ls H locs hH hl hS
    obtain ⟨g1, g2⟩ := ok_h ho
    split at g2
    · obtain ⟨g3, g5⟩ := ok_h g2
      subst g3
      cases x with
      | none => exact lv_ifnullN hx hb hd (tgO_of g5) K
      | some x => exact lv_ifnull hx hb hd (by rw [← pcO_of g1]; exact K)
    · cases g2
  | ifnonnull t =>
    obtain ⟨x, r, e0, e2⟩ : ∃ x r, st = .inr (.inr x) :: r ∧ some (cond x.isNone (i + 1) t.toNat, L, r) = some (i1, L1, st1) := by
      unfold act at ha
      dsimp only at ha
      split at ha
      · next x r => exact ⟨x, r, rfl, ha⟩
      · cases ha
    cases e2
    subst e0
    have K := K hL ls H locs hH hl hS
    obtain ⟨g1, g2⟩ := ok_h ho
    split at g2
    · obtain ⟨g3, g5⟩ := ok_h g2
      subst g3
      cases x with
      | none => exact lv_ifnonnullN hx hb hd (by rw [← pcO_of g1]; exact K)
      | some x => exact lv_ifnonnull hx hb hd (tgO_of g5) K
    · cases g2
  | tableswitch dd lo hi ts =>
    obtain ⟨x, r, t, e0, e1, e2⟩ : ∃ x r t, st = .inl x :: r ∧ sw_t dd lo hi ts x = some t ∧ (t, L, r) = (i1, L1, st1) := by
      unfold act at ha
      dsimp only at ha
      split at ha
      · next x r =>
        obtain ⟨t, h1, h2⟩ := Option.map_eq_some_iff.mp ha
        exact ⟨x, r, t, rfl, h1, h2⟩
      · cases ha
    cases e2
    subst e0
    have K := K hL ls H locs hH hl hS
    have ho2 := ho
    unfold okR at ho2
    dsimp only at ho2
    split at ho2
    · simp only [Bool.and_eq_true, decide_eq_true_eq] at ho2
      obtain ⟨⟨⟨⟨g1, g2⟩, g3⟩, g4⟩, g5⟩ := ho2
      subst g1; subst g2
      unfold sw_t at e1
      split at e1
      · next hlo =>
        cases e1
        exact lv_tableOut hx hb hd hlo (tgO_of g3) K
      · next hlo =>
        obtain ⟨off, h1, h2⟩ := sw_t_ok g4 g5 e1
        exact lv_tableIn hx hb hd (fun z => hlo (Or.inl z)) (fun z => hlo (Or.inr z)) h1 h2 K
    · cases ho2
  | lookupswitch dd qs =>
    obtain ⟨x, r, e0, e2⟩ : ∃ x r, st = .inl x :: r ∧ some (sw_l dd qs.toList x, L, r) = some (i1, L1, st1) := by
      unfold act at ha
      dsimp only at ha
      split at ha
      · next x r => exact ⟨x, r, rfl, ha⟩
      · cases ha
    cases e2
    subst e0
    have K := K hL ls H locs hH hl hS
    have ho2 := ho
    unfold okR at ho2
    dsimp only at ho2
    split at ho2
    · rw [Bool.and_eq_true, Bool.and_eq_true, Bool.and_eq_true] at ho2
      obtain ⟨⟨⟨g1, g2⟩, g3⟩, g4⟩ := ho2
      exact lv_lookup hx hb hd g4 rfl (sw_l_ok g1 x _ _ (of_decide_eq_true g2) g3) K
    · cases ho2
  | _ => have ha : (none : Option (Nat × AL × List AV)) = some (i1, L1, st1) := ha; cases ha
/-- a stretch of such instructions -/
theorem XF_run {m : MI} {d : Nat} {P : AP} {F : PostT} : ∀ (n : Nat) {i : Nat} {L : AL} {st : List AV} {i1 : Nat} {L1 : AL} {st1 : List AV}, acts (mi_cd m) n i L st = some (i1, L1, st1) → XF m d i1 L1 st1 P F → XF m d i L st P F
  | 0, _, _, _, _, _, _, h, k => by cases h; exact k
  | n + 1, i, L, st, i1, L1, st1, h, k => by
    unfold acts at h
    split at h
    · next q hq =>
      split at h
      · next i' L' st' ha => exact XF_pure hq ha (XF_run n h k)
      · cases h
    · cases h
/-- a branch -/
theorem X_pure {m : MI} {d i : Nat} {L : AL} {st : List AV} {P : AP} {Q : Option AV → AP → Prop} {q : Nat × Instr × List Nat} {i1 : Nat} {L1 : AL} {st1 : List AV} (hq : (mi_cd m)[i]? = some q) (ha : act q.2.1 i L st = some (i1, L1, st1)) (k : X m d i1 L1 st1 P Q) : X m d i L st P Q := XF_pure hq ha k
theorem X_run {m : MI} {d : Nat} {P : AP} {Q : Option AV → AP → Prop} (n : Nat) {i : Nat} {L : AL} {st : List AV} {i1 : Nat} {L1 : AL} {st1 : List AV} (h : acts (mi_cd m) n i L st = some (i1, L1, st1)) (k : X m d i1 L1 st1 P Q) : X m d i L st P Q := XF_run n h k
theorem X_br {m : MI} {d : Nat} {P : AP} {Q : Option AV → AP → Prop} {b : Bool} {t f : Nat} {L : AL} {st : List AV} (kt : b = true → X m d t L st P Q) (kf : b = false → X m d f L st P Q) : X m d (cond b t f) L st P Q := by
  cases b with
  | true => exact kt rfl
  | false => exact kf rfl
