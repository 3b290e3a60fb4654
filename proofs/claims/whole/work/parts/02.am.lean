/-! THE LAYER: abstract values, cells, heap; a reference is an offset from the law's start (rt gives the machine's address) -/
abbrev AV : Type := Int32 ⊕ (Int64 ⊕ Option Nat)
abbrev AE : Type := (Nat × List AV) ⊕ ((Nat × Nat × (Nat → Int32)) ⊕ ((Nat × (Nat → Int64)) ⊕ (Nat × (Nat → Option Nat))))
abbrev AH : Type := Nat → Option AE
abbrev AL : Type := List (Option AV)
abbrev AP : Type := AH × Nat × Nat
/-- a method: number, name, bytes, locals, return type, instructions (pc, instruction with the layer's operands, places of its words) -/
abbrev MI : Type := Nat × MethodName × ByteArray × Nat × Option FieldType × List (Nat × Instr × List Nat)
def mi_id (m : MI) : Nat := m.1
def mi_y (m : MI) : MethodName := m.2.1
def mi_cc (m : MI) : ByteArray := m.2.2.1
def mi_mx (m : MI) : Nat := m.2.2.2.1
def mi_rt (m : MI) : Option FieldType := m.2.2.2.2.1
def mi_cd (m : MI) : List (Nat × Instr × List Nat) := m.2.2.2.2.2
def pcq (m : MI) (j : Nat) : Option Nat := ((mi_cd m)[j]?).map (·.1)
def pcO (m : MI) (j : Nat) : Nat := (pcq m j).getD 0
def tv (rt : Nat → Nat) (v : AV) : Value := match v with
  | .inl x => .int x
  | .inr (.inl x) => .long x
  | .inr (.inr none) => .null
  | .inr (.inr (some a)) => .ref (rt a)
def av_c (v : AV) : Nat := match v with
  | .inr (.inl _) => 2
  | _ => 1
theorem tv_c (rt : Nat → Nat) (v : AV) : (tv rt v).category = av_c v := by
  rcases v with x | x | x
  · rfl
  · rfl
  · cases x <;> rfl
/-! locals -/
def lk1 (L : AL) (i : Nat) : AL := match L[i]? with
  | some (some (.inr (.inl _))) => L.set i none
  | _ => L
def lkl (L : AL) : Nat → AL
  | 0 => L
  | i + 1 => lk1 L i
def lgt (L : AL) (i : Nat) : Option AV := match L[i]? with
  | some (some v) => some v
  | _ => none
def ls1 (L : AL) (i : Nat) (v : AV) : AL := (lkl L i).set i (some v)
def ls2 (L : AL) (i : Nat) (v : AV) : AL := ((lkl L i).set i (some v)).set (i + 1) none
def lps (rt : Nat → Nat) (L : AL) : List (Nat × Value) := (List.range L.length).filterMap fun i => (lgt L i).map fun v => (i, tv rt v)
theorem lkl_len (L : AL) (i : Nat) : (lkl L i).length = L.length := by
  cases i with
  | zero => rfl
  | succ i =>
    show (lk1 L i).length = L.length
    unfold lk1
    split
    · rw [List.length_set]
    · rfl
theorem lgt_iff {L : AL} {i : Nat} {v : AV} : lgt L i = some v ↔ L[i]? = some (some v) := by
  unfold lgt
  constructor
  · intro h
    split at h
    · next h2 => rw [h2]; exact congrArg some h
    · exact absurd h (by simp)
  · intro h
    rw [h]
theorem lps_mem {rt : Nat → Nat} {L : AL} {i : Nat} {w : Value} : (i, w) ∈ lps rt L ↔ ∃ v, L[i]? = some (some v) ∧ w = tv rt v := by
  unfold lps
  rw [List.mem_filterMap]
  constructor
  · rintro ⟨j, -, h⟩
    obtain ⟨v, h1, h2⟩ := Option.map_eq_some_iff.mp h
    cases h2
    exact ⟨v, lgt_iff.mp h1, rfl⟩
  · rintro ⟨v, h, rfl⟩
    have hl : i < L.length := (List.getElem?_eq_some_iff.mp h).1
    exact ⟨i, List.mem_range.mpr hl, by rw [lgt_iff.mpr h]; rfl⟩
theorem lv_has.mem {ls : Array Slot} {nL : Nat} {l l' : List (Nat × Value)} (h : lv_has ls nL l) (hl : ∀ q ∈ l', q ∈ l) : lv_has ls nL l' := ⟨h.1, h.2.1, fun q hq => h.2.2 q (hl q hq)⟩
theorem lps_at {rt : Nat → Nat} {L : AL} {ls : Array Slot} {nL i : Nat} {v : AV} (h : lv_has ls nL (lps rt L)) (hv : lgt L i = some v) : ls[i]? = some (.val (tv rt v)) := h.2.2 (i, tv rt v) (lps_mem.mpr ⟨v, lgt_iff.mp hv, rfl⟩)
theorem lkl_sub {L : AL} {i j : Nat} {v : AV} (h : (lkl L i)[j]? = some (some v)) : L[j]? = some (some v) ∧ (j + 1 = i → av_c v ≠ 2) := by
  cases i with
  | zero => exact ⟨h, fun e => by omega⟩
  | succ i =>
    replace h : (lk1 L i)[j]? = some (some v) := h
    unfold lk1 at h
    split at h
    · next x hx =>
      by_cases e : i = j
      · subst e
        have hl : i < L.length := (List.getElem?_eq_some_iff.mp hx).1
        rw [List.getElem?_set_self hl] at h
        cases h
      · rw [List.getElem?_set_ne e] at h
        exact ⟨h, fun q => absurd (Nat.succ.inj q).symm e⟩
    · next hx =>
      refine ⟨h, fun q => ?_⟩
      have e : j = i := Nat.succ.inj q
      subst e
      intro hc
      rcases v with x | x | x
      · cases hc
      · exact hx x h
      · cases hc
theorem ls1_sub {rt : Nat → Nat} {L : AL} {i : Nat} {v : AV} (hi : i < L.length) : ∀ q ∈ lps rt (ls1 L i v), q ∈ (i, tv rt v) :: (lps rt L).filter (fun q => !(q.1 == i) && !(q.1 + 1 == i && q.2.category == 2)) := by
  rintro ⟨j, w⟩ hq
  obtain ⟨u, h1, rfl⟩ := lps_mem.mp hq
  unfold ls1 at h1
  by_cases e : i = j
  · subst e
    rw [List.getElem?_set_self (by rw [lkl_len]; exact hi)] at h1
    cases h1
    exact List.mem_cons_self
  · rw [List.getElem?_set_ne e] at h1
    obtain ⟨h2, h3⟩ := lkl_sub h1
    refine List.mem_cons_of_mem _ (List.mem_filter.mpr ⟨lps_mem.mpr ⟨u, h2, rfl⟩, ?_⟩)
    have e1 : (j == i) = false := by simp; exact fun z => e z.symm
    by_cases e2 : j + 1 = i
    · have e3 := h3 e2
      have e4 : ((tv rt u).category == 2) = false := by rw [tv_c]; simp; exact e3
      simp only [e1, e4, Bool.and_false, Bool.not_false, Bool.and_self]
    · have e5 : (j + 1 == i) = false := by simp; exact e2
      simp only [e1, e5, Bool.false_and, Bool.not_false, Bool.and_self]
theorem ls2_sub {rt : Nat → Nat} {L : AL} {i : Nat} {v : AV} (hi : i + 1 < L.length) : ∀ q ∈ lps rt (ls2 L i v), q ∈ (i, tv rt v) :: (lps rt L).filter (fun q => !(q.1 == i) && (!(q.1 == i + 1) && !(q.1 + 1 == i && q.2.category == 2))) := by
  rintro ⟨j, w⟩ hq
  obtain ⟨u, h1, rfl⟩ := lps_mem.mp hq
  unfold ls2 at h1
  by_cases e : i + 1 = j
  · subst e
    rw [List.getElem?_set_self (by rw [List.length_set, lkl_len]; exact hi)] at h1
    cases h1
  · rw [List.getElem?_set_ne e] at h1
    have h2 : (ls1 L i v)[j]? = some (some u) := h1
    have h3 := ls1_sub (rt := rt) (L := L) (v := v) (show i < L.length by omega) (j, tv rt u) (lps_mem.mpr ⟨u, h2, rfl⟩)
    rcases List.mem_cons.mp h3 with h4 | h4
    · rw [h4]; exact List.mem_cons_self
    · refine List.mem_cons_of_mem _ ?_
      obtain ⟨h5, h6⟩ := List.mem_filter.mp h4
      refine List.mem_filter.mpr ⟨h5, ?_⟩
      have e1 : (j == i + 1) = false := by simp; exact fun z => e z.symm
      simp only [Bool.and_eq_true] at h6 ⊢
      exact ⟨h6.1, by rw [e1]; rfl, h6.2⟩
/-! pure stack instructions -/
def o_ii (f : Int32 → Int32 → Int32) : List AV → Option (List AV)
  | .inl y :: .inl x :: r => some (.inl (f x y) :: r)
  | _ => none
def o_iid (f : Int32 → Int32 → Int32) : List AV → Option (List AV)
  | .inl y :: .inl x :: r => if y = 0 then none else some (.inl (f x y) :: r)
  | _ => none
def o_ll (f : Int64 → Int64 → Int64) : List AV → Option (List AV)
  | .inr (.inl y) :: .inr (.inl x) :: r => some (.inr (.inl (f x y)) :: r)
  | _ => none
def o_lld (f : Int64 → Int64 → Int64) : List AV → Option (List AV)
  | .inr (.inl y) :: .inr (.inl x) :: r => if y = 0 then none else some (.inr (.inl (f x y)) :: r)
  | _ => none
def o_li (f : Int64 → Int32 → Int64) : List AV → Option (List AV)
  | .inl y :: .inr (.inl x) :: r => some (.inr (.inl (f x y)) :: r)
  | _ => none
def o_i (f : Int32 → Int32) : List AV → Option (List AV)
  | .inl x :: r => some (.inl (f x) :: r)
  | _ => none
def o_l (f : Int64 → Int64) : List AV → Option (List AV)
  | .inr (.inl x) :: r => some (.inr (.inl (f x)) :: r)
  | _ => none
def o_i2l : List AV → Option (List AV)
  | .inl x :: r => some (.inr (.inl x.toInt64) :: r)
  | _ => none
def o_l2i : List AV → Option (List AV)
  | .inr (.inl x) :: r => some (.inl x.toInt32 :: r)
  | _ => none
def o_lcmp : List AV → Option (List AV)
  | .inr (.inl y) :: .inr (.inl x) :: r => some (.inl (lg_cmp x y) :: r)
  | _ => none
theorem o_ii_inv {f : Int32 → Int32 → Int32} {st st' : List AV} (h : o_ii f st = some st') : ∃ y x r, st = .inl y :: .inl x :: r ∧ st' = .inl (f x y) :: r := by
  unfold o_ii at h
  split at h
  · exact ⟨_, _, _, rfl, (Option.some.inj h).symm⟩
  · cases h
theorem o_iid_inv {f : Int32 → Int32 → Int32} {st st' : List AV} (h : o_iid f st = some st') : ∃ y x r, st = .inl y :: .inl x :: r ∧ st' = .inl (f x y) :: r ∧ ¬ y = 0 := by
  unfold o_iid at h
  split at h
  · split at h
    · cases h
    · next hy => exact ⟨_, _, _, rfl, (Option.some.inj h).symm, hy⟩
  · cases h
theorem o_ll_inv {f : Int64 → Int64 → Int64} {st st' : List AV} (h : o_ll f st = some st') : ∃ y x r, st = .inr (.inl y) :: .inr (.inl x) :: r ∧ st' = .inr (.inl (f x y)) :: r := by
  unfold o_ll at h
  split at h
  · exact ⟨_, _, _, rfl, (Option.some.inj h).symm⟩
  · cases h
theorem o_lld_inv {f : Int64 → Int64 → Int64} {st st' : List AV} (h : o_lld f st = some st') : ∃ y x r, st = .inr (.inl y) :: .inr (.inl x) :: r ∧ st' = .inr (.inl (f x y)) :: r ∧ ¬ y = 0 := by
  unfold o_lld at h
  split at h
  · split at h
    · cases h
    · next hy => exact ⟨_, _, _, rfl, (Option.some.inj h).symm, hy⟩
  · cases h
theorem o_li_inv {f : Int64 → Int32 → Int64} {st st' : List AV} (h : o_li f st = some st') : ∃ y x r, st = .inl y :: .inr (.inl x) :: r ∧ st' = .inr (.inl (f x y)) :: r := by
  unfold o_li at h
  split at h
  · exact ⟨_, _, _, rfl, (Option.some.inj h).symm⟩
  · cases h
theorem o_i_inv {f : Int32 → Int32} {st st' : List AV} (h : o_i f st = some st') : ∃ x r, st = .inl x :: r ∧ st' = .inl (f x) :: r := by
  unfold o_i at h
  split at h
  · exact ⟨_, _, rfl, (Option.some.inj h).symm⟩
  · cases h
theorem o_l_inv {f : Int64 → Int64} {st st' : List AV} (h : o_l f st = some st') : ∃ x r, st = .inr (.inl x) :: r ∧ st' = .inr (.inl (f x)) :: r := by
  unfold o_l at h
  split at h
  · exact ⟨_, _, rfl, (Option.some.inj h).symm⟩
  · cases h
theorem o_i2l_inv {st st' : List AV} (h : o_i2l st = some st') : ∃ x r, st = .inl x :: r ∧ st' = .inr (.inl x.toInt64) :: r := by
  unfold o_i2l at h
  split at h
  · exact ⟨_, _, rfl, (Option.some.inj h).symm⟩
  · cases h
theorem o_l2i_inv {st st' : List AV} (h : o_l2i st = some st') : ∃ x r, st = .inr (.inl x) :: r ∧ st' = .inl x.toInt32 :: r := by
  unfold o_l2i at h
  split at h
  · exact ⟨_, _, rfl, (Option.some.inj h).symm⟩
  · cases h
theorem o_lcmp_inv {st st' : List AV} (h : o_lcmp st = some st') : ∃ y x r, st = .inr (.inl y) :: .inr (.inl x) :: r ∧ st' = .inl (lg_cmp x y) :: r := by
  unfold o_lcmp at h
  split at h
  · exact ⟨_, _, _, rfl, (Option.some.inj h).symm⟩
  · cases h
/-- if<cond> -/
def cn1 (c : ClassFile.Cond) (x : Int32) : Bool := match c with
  | .eq => decide (x = 0)
  | .ne => decide (¬ x = 0)
  | .lt => decide (x < 0)
  | .ge => decide (0 ≤ x)
  | .gt => decide (0 < x)
  | .le => decide (x ≤ 0)
/-- if_icmp<cond> -/
def cn2 (c : ClassFile.Cond) (x y : Int32) : Bool := match c with
  | .eq => decide (x = y)
  | .ne => decide (¬ x = y)
  | .lt => decide (x < y)
  | .ge => decide (y ≤ x)
  | .gt => decide (y < x)
  | .le => decide (x ≤ y)
/-- the target of a tableswitch, a lookupswitch (targets are places) -/
def sw_t (d lo hi : Int) (ts : Array Int) (x : Int32) : Option Nat :=
  if x.toInt < lo ∨ hi < x.toInt then some d.toNat else (ts[(x.toInt - lo).toNat]?).map Int.toNat
def sw_l (d : Int) : List (Int × Int) → Int32 → Nat
  | [], _ => d.toNat
  | (k, t) :: r, x => if x.toInt = k then t.toNat else sw_l d r x
/-- the instructions that touch no heap: place, locals, stack -/
def act (ins : Instr) (i : Nat) (L : AL) (st : List AV) : Option (Nat × AL × List AV) := match ins with
  | .sipush n => some (i + 1, L, .inl (Int32.ofInt n) :: st)
  | .bipush n => some (i + 1, L, .inr (.inl (Int64.ofInt n)) :: st)
  | .aconst_null => some (i + 1, L, .inr (.inr none) :: st)
  | .iload k => match lgt L k with
    | some (.inl x) => some (i + 1, L, .inl x :: st)
    | _ => none
  | .lload k => match lgt L k with
    | some (.inr (.inl x)) => some (i + 1, L, .inr (.inl x) :: st)
    | _ => none
  | .aload k => match lgt L k with
    | some (.inr (.inr x)) => some (i + 1, L, .inr (.inr x) :: st)
    | _ => none
  | .istore k => match st with
    | .inl x :: r => if k < L.length then some (i + 1, ls1 L k (.inl x), r) else none
    | _ => none
  | .astore k => match st with
    | .inr (.inr x) :: r => if k < L.length then some (i + 1, ls1 L k (.inr (.inr x)), r) else none
    | _ => none
  | .lstore k => match st with
    | .inr (.inl x) :: r => if k + 1 < L.length then some (i + 1, ls2 L k (.inr (.inl x)), r) else none
    | _ => none
  | .iinc k n => match lgt L k with
    | some (.inl x) => if k < L.length then some (i + 1, ls1 L k (.inl (x + Int32.ofInt n)), st) else none
    | _ => none
  | .iadd => (o_ii (fun x y => x + y) st).map fun s => (i + 1, L, s)
  | .isub => (o_ii (fun x y => x - y) st).map fun s => (i + 1, L, s)
  | .imul => (o_ii (fun x y => x * y) st).map fun s => (i + 1, L, s)
  | .iand => (o_ii (fun x y => x &&& y) st).map fun s => (i + 1, L, s)
  | .ior => (o_ii (fun x y => x ||| y) st).map fun s => (i + 1, L, s)
  | .ixor => (o_ii (fun x y => x ^^^ y) st).map fun s => (i + 1, L, s)
  | .ishl => (o_ii (fun x y => x <<< (y &&& 31)) st).map fun s => (i + 1, L, s)
  | .ishr => (o_ii (fun x y => x >>> (y &&& 31)) st).map fun s => (i + 1, L, s)
  | .iushr => (o_ii (fun x y => (x.toUInt32 >>> (y.toUInt32 &&& Int32.toUInt32 31)).toInt32) st).map fun s => (i + 1, L, s)
  | .idiv => (o_iid (fun x y => x / y) st).map fun s => (i + 1, L, s)
  | .irem => (o_iid (fun x y => x - x / y * y) st).map fun s => (i + 1, L, s)
  | .ineg => (o_i (fun x => -x) st).map fun s => (i + 1, L, s)
  | .i2b => (o_i (fun x => x.toInt8.toInt32) st).map fun s => (i + 1, L, s)
  | .i2s => (o_i (fun x => x.toInt16.toInt32) st).map fun s => (i + 1, L, s)
  | .i2c => (o_i (fun x => (x.toUInt32 % 65536).toInt32) st).map fun s => (i + 1, L, s)
  | .i2l => (o_i2l st).map fun s => (i + 1, L, s)
  | .l2i => (o_l2i st).map fun s => (i + 1, L, s)
  | .ladd => (o_ll (fun x y => x + y) st).map fun s => (i + 1, L, s)
  | .lsub => (o_ll (fun x y => x - y) st).map fun s => (i + 1, L, s)
  | .lmul => (o_ll (fun x y => x * y) st).map fun s => (i + 1, L, s)
  | .land => (o_ll (fun x y => x &&& y) st).map fun s => (i + 1, L, s)
  | .lor => (o_ll (fun x y => x ||| y) st).map fun s => (i + 1, L, s)
  | .lxor => (o_ll (fun x y => x ^^^ y) st).map fun s => (i + 1, L, s)
  | .ldiv => (o_lld (fun x y => x / y) st).map fun s => (i + 1, L, s)
  | .lrem => (o_lld (fun x y => x - x / y * y) st).map fun s => (i + 1, L, s)
  | .lneg => (o_l (fun x => -x) st).map fun s => (i + 1, L, s)
  | .lshl => (o_li (fun x y => x <<< (y.toInt64 &&& 63)) st).map fun s => (i + 1, L, s)
  | .lshr => (o_li (fun x y => x >>> (y.toInt64 &&& 63)) st).map fun s => (i + 1, L, s)
  | .lushr => (o_li (fun x y => (x.toUInt64 >>> (y.toInt64.toUInt64 &&& Int64.toUInt64 63)).toInt64) st).map fun s => (i + 1, L, s)
  | .lcmp => (o_lcmp st).map fun s => (i + 1, L, s)
  | .dup => match st with
    | v :: r => if av_c v = 1 then some (i + 1, L, v :: v :: r) else none
    | _ => none
  | .pop => match st with
    | v :: r => if av_c v = 1 then some (i + 1, L, r) else none
    | _ => none
  | .dup2 => match st with
    | v :: w :: r => if av_c v = 1 ∧ av_c w = 1 then some (i + 1, L, v :: w :: v :: w :: r) else none
    | _ => none
  | .dup_x1 => match st with
    | v :: w :: r => if av_c v = 1 ∧ av_c w = 1 then some (i + 1, L, v :: w :: v :: r) else none
    | _ => none
  | .goto t => some (t.toNat, L, st)
  | .ifCond c t => match st with
    | .inl x :: r => some (cond (cn1 c x) t.toNat (i + 1), L, r)
    | _ => none
  | .if_icmp c t => match st with
    | .inl y :: .inl x :: r => some (cond (cn2 c x y) t.toNat (i + 1), L, r)
    | _ => none
  | .ifnull t => match st with
    | .inr (.inr o) :: r => some (cond o.isNone t.toNat (i + 1), L, r)
    | _ => none
  | .ifnonnull t => match st with
    | .inr (.inr o) :: r => some (cond o.isNone (i + 1) t.toNat, L, r)
    | _ => none
  | .tableswitch d lo hi ts => match st with
    | .inl x :: r => (sw_t d lo hi ts x).map fun t => (t, L, r)
    | _ => none
  | .lookupswitch d ps => match st with
    | .inl x :: r => some (sw_l d ps.toList x, L, r)
    | _ => none
  | _ => none
def acts (cd : List (Nat × Instr × List Nat)) : Nat → Nat → AL → List AV → Option (Nat × AL × List AV)
  | 0, i, L, st => some (i, L, st)
  | n + 1, i, L, st => match cd[i]? with
    | some q => match act q.2.1 i L st with
      | some (i', L', st') => acts cd n i' L' st'
      | none => none
    | none => none
/-- the words that every state of the walk keeps -/
def gtb : List Cond := lw_tbl.filter goodWord
