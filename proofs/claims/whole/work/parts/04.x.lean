/-! the words of an instruction, checked in the kernel once a method -/
def ax : Nat := 1099511627776
def am_th : String := "PatchHouse$Thing"
/-- names of the classes that instanceof and checkcast ask for -/
def am_cn : List String := ["PatchHouse$Part", "PatchHouse$Row", "PatchHouse$Shelf", "PatchHouse$Trouble", "PatchHouse$Thing"]
def am_ga : Nat := 1099511627777
def am_sa : Nat := 1099511627800
/-- the formatter of the JDK's index check, the law's script, the byte arrays of the String constants -/
def am_fm : Nat := 1099511627778
def am_sc : Nat := 1099511627779
def am_va : Nat := 1099511627900
/-- the law's helpers that catch -/
def am_hl : List MethodName := [⟨"PatchHouseLaw", "out", "(LPatchHouse;I[J)I"⟩, ⟨"PatchHouseLaw", "number", "(LPatchHouse;I[J)I"⟩, ⟨"PatchHouseLaw", "real", "(LPatchHouse;I[J)I"⟩, ⟨"PatchHouseLaw", "member", "(LPatchHouse;II[J)I"⟩]
def am_str : List (String × Nat × String) := [("PatchHouse$Patches", 33, "n...."), ("PatchHouse$Patches", 35, "nn"), ("PatchHouse$Patches", 37, "nnh"), ("PatchHouse$Patches", 39, "r........"), ("PatchHouse$Patches", 41, "rn"), ("PatchHouse$Patches", 43, "nr"), ("PatchHouse$Patches", 45, "rrh"), ("PatchHouse$Patches", 47, "rh"), ("PatchHouse$Patches", 49, "nrrh"), ("PatchHouse$Patches", 51, "ss"), ("PatchHouse$Patches", 53, "s"), ("PatchHouse$Patches", 55, "swn"), ("PatchHouse$Patches", 57, "snn"), ("PatchHouse$Patches", 59, "scn"), ("PatchHouse$Patches", 61, "sc"), ("PatchHouse$Patches", 63, "sn"), ("PatchHouse$Patches", 65, "ns"), ("PatchHouse$Patches", 67, "nsh"), ("PatchHouse$Patches", 69, "wvsn"), ("PatchHouse$Patches", 71, "wsnv"), ("PatchHouse$Patches", 73, "snsnn"), ("PatchHouse$Patches", 75, "ssn"), ("PatchHouse$Patches", 77, "sns"), ("PatchHouse$Patches", 79, "hfs"), ("PatchHouse$Patches", 81, "hsf"), ("PatchHouse$Patches", 83, "hrsn"), ("PatchHouse$Patches", 85, "npp"), ("PatchHouse$Patches", 87, "np"), ("PatchHouse$Patches", 89, "...ppp"), ("PatchHouse$Patches", 91, "h"), ("PatchHouse$Patches", 93, ""), ("PatchHouse$Patches", 101, "nrswcp"), ("PatchHouse", 99, "no such byte of OUT"), ("PatchHouse", 133, "no such NUMBER"), ("PatchHouse", 138, "no such REAL"), ("PatchHouse", 160, "no such member")]
/-- the String methods that are called on constants -/
def am_sy : List MethodName := [arraycopyName, ⟨"java/lang/String", "length", "()I"⟩, ⟨"java/lang/String", "isEmpty", "()Z"⟩, ⟨"java/lang/String", "charAt", "(I)C"⟩, ⟨"java/lang/String", "indexOf", "(I)I"⟩, ⟨"java/lang/Math", "max", "(II)I"⟩, ⟨"java/lang/Math", "min", "(II)I"⟩, ⟨"java/lang/Math", "abs", "(J)J"⟩]
def tgO (m : MI) (pc : Nat) (t : Int) (off : Int) : Bool := decide ((pcq m t.toNat).map Int.ofNat = some ((pc : Int) + off))
def okR (m : MI) (i pc : Nat) (am : Instr) (ps : List Nat) (ri : Instr) (len : Nat) : Bool :=
  match am with
  | .sipush n => decide (pcq m (i + 1) = some (pc + len)) && (match ri with
    | .iconst k => decide (len = 1) && decide (Int32.ofInt k = Int32.ofInt n)
    | .bipush k => decide (len = 2) && decide ((Int8.ofInt k).toInt32 = Int32.ofInt n)
    | .sipush k => decide (len = 3) && decide ((Int16.ofInt k).toInt32 = Int32.ofInt n)
    | .ldc x => decide (len = 2) && decide (wq (ps.getD 0 0) = some (.constant (mi_y m).cls x (Int32.ofInt n)))
    | .ldc_w x => decide (len = 3) && decide (wq (ps.getD 0 0) = some (.constant (mi_y m).cls x (Int32.ofInt n)))
    | _ => false)
  | .bipush n => decide (pcq m (i + 1) = some (pc + len)) && (match ri with
    | .lconst k => decide (len = 1) && decide (Int64.ofNat (k : Nat) = Int64.ofInt n)
    | .ldc2_w x => decide (len = 3) && decide (wq (ps.getD 0 0) = some (.constantLong (mi_y m).cls x (Int64.ofInt n)))
    | _ => false)
  | .iload k => decide (pcq m (i + 1) = some (pc + len)) && (match ri with
    | .iload j => decide (len = 2) && decide (j = k)
    | .iload_n j => decide (len = 1) && decide ((j : Nat) = k)
    | _ => false)
  | .lload k => decide (pcq m (i + 1) = some (pc + len)) && (match ri with
    | .lload j => decide (len = 2) && decide (j = k)
    | .lload_n j => decide (len = 1) && decide ((j : Nat) = k)
    | _ => false)
  | .aload k => decide (pcq m (i + 1) = some (pc + len)) && (match ri with
    | .aload j => decide (len = 2) && decide (j = k)
    | .aload_n j => decide (len = 1) && decide ((j : Nat) = k)
    | _ => false)
  | .istore k => decide (pcq m (i + 1) = some (pc + len)) && (match ri with
    | .istore j => decide (len = 2) && decide (j = k)
    | .istore_n j => decide (len = 1) && decide ((j : Nat) = k)
    | _ => false)
  | .lstore k => decide (pcq m (i + 1) = some (pc + len)) && (match ri with
    | .lstore j => decide (len = 2) && decide (j = k)
    | .lstore_n j => decide (len = 1) && decide ((j : Nat) = k)
    | _ => false)
  | .astore k => decide (pcq m (i + 1) = some (pc + len)) && (match ri with
    | .astore j => decide (len = 2) && decide (j = k)
    | .astore_n j => decide (len = 1) && decide ((j : Nat) = k)
    | _ => false)
  | .iinc k n => decide (pcq m (i + 1) = some (pc + len)) && decide (ri = .iinc k n) && decide (len = 3)
  | .goto t => match ri with
    | .goto o => decide (len = 3) && tgO m pc t o
    | _ => false
  | .ifCond c t => decide (pcq m (i + 1) = some (pc + len)) && (match ri with
    | .ifCond c' o => decide (c = c') && decide (len = 3) && tgO m pc t o
    | _ => false)
  | .if_icmp c t => decide (pcq m (i + 1) = some (pc + len)) && (match ri with
    | .if_icmp c' o => decide (c = c') && decide (len = 3) && tgO m pc t o
    | _ => false)
  | .if_acmp c t => decide (pcq m (i + 1) = some (pc + len)) && (match ri with
    | .if_acmp c' o => decide (c = c') && decide (len = 3) && tgO m pc t o
    | _ => false)
  | .ifnull t => decide (pcq m (i + 1) = some (pc + len)) && (match ri with
    | .ifnull o => decide (len = 3) && tgO m pc t o
    | _ => false)
  | .ifnonnull t => decide (pcq m (i + 1) = some (pc + len)) && (match ri with
    | .ifnonnull o => decide (len = 3) && tgO m pc t o
    | _ => false)
  | .tableswitch d lo hi ts => match ri with
    | .tableswitch d' lo' hi' os => decide (lo = lo') && decide (hi = hi') && tgO m pc d d' && decide (ts.toList.length = os.toList.length) && (ts.toList.zip os.toList).all (fun q => tgO m pc q.1 q.2)
    | _ => false
  | .lookupswitch d qs => match ri with
    | .lookupswitch d' os => tgO m pc d d' && decide (qs.toList.length = os.toList.length) && (qs.toList.zip os.toList).all (fun q => decide (q.1.1 = q.2.1) && tgO m pc q.1.2 q.2.2) && (os.toList.zip (os.toList.drop 1)).all (fun (a, next) => a.1 < next.1)
    | _ => false
  | .getfield n => decide (pcq m (i + 1) = some (pc + len)) && (match ri with
    | .getfield x => decide (len = 3) && (match am_cl[n / 64]? with
      | some r => decide (n % 64 < r.2.2) && decide (wq (ps.getD 0 0) = some (.fieldLink (mi_y m).cls x (r.2.1 (n % 64)).1 (r.2.1 (n % 64)).2.1 (r.2.1 (n % 64)).2.2.1))
      | none => false)
    | _ => false)
  | .putfield n => decide (pcq m (i + 1) = some (pc + len)) && (match ri with
    | .putfield x => decide (len = 3) && (match am_cl[n / 64]? with
      | some r => decide (n % 64 < r.2.2) && decide (wq (ps.getD 0 0) = some (.fieldLink (mi_y m).cls x (r.2.1 (n % 64)).1 (r.2.1 (n % 64)).2.1 (r.2.1 (n % 64)).2.2.1)) && (decide ((r.2.1 (n % 64)).2.2.2 = false) || (decide ((r.2.1 (n % 64)).2.2.2 = true) && decide ((mi_y m).name = "<init>") && decide ((r.2.1 (n % 64)).1 = (mi_y m).cls)))
      | none => false)
    | _ => false)
  | .new n => decide (pcq m (i + 1) = some (pc + len)) && (match ri with
    | .new x => decide (len = 3) && (match am_cl[n]? with
      | some r => decide (wq (ps.getD 0 0) = some (.classLink (mi_y m).cls x r.1))
      | none => false)
    | _ => false)
  | .newarray t => decide (pcq m (i + 1) = some (pc + len)) && decide (ri = .newarray t) && decide (len = 2) && decide (wq (ps.getD 0 0) = some (.arrayClass (Op.newarray.typeOf t)))
  | .anewarray _ => decide (pcq m (i + 1) = some (pc + len)) && (match ri with
    | .anewarray x => decide (len = 3) && decide (wq (ps.getD 0 0) = some (.classLink (mi_y m).cls x am_th)) && decide (wq (ps.getD 1 0) = some (.arrayOver (.object am_th)))
    | _ => false)
  | .instanceof n => decide (pcq m (i + 1) = some (pc + len)) && (match ri with
    | .instanceof x => decide (len = 3) && decide (wq (ps.getD 0 0) = some (.classLink (mi_y m).cls x (am_cn.getD n "")))
    | _ => false)
  | .checkcast n => decide (pcq m (i + 1) = some (pc + len)) && (match ri with
    | .checkcast x => decide (len = 3) && decide (wq (ps.getD 0 0) = some (.classLink (mi_y m).cls x (am_cn.getD n "")))
    | _ => false)
  | .ireturn => decide (ri = .ireturn) && decide (len = 1)
  | .lreturn => decide (ri = .lreturn) && decide (len = 1)
  | .areturn => decide (ri = .areturn) && decide (len = 1)
  | .return_ => decide (ri = .return_) && decide (len = 1)
  | .invokestatic n => decide (pcq m (i + 1) = some (pc + len)) && (match ri with
    | .invokestatic x => decide (len = 3) && (match am_sg[n]? with
      | some g => decide (wq (ps.getD 0 0) = some (.methodLink (mi_y m).cls x g.1)) && decide (wq (ps.getD 1 0) = some (.static g.1))
      | none => false)
    | _ => false)
  | .invokespecial n => decide (pcq m (i + 1) = some (pc + len)) && (match ri with
    | .invokespecial x => decide (len = 3) && (match am_sg[n]? with
      | some g => decide (g.1.name = "<init>") && decide (wq (ps.getD 1 0) = some (.instanceMethod g.1)) && (decide (wq (ps.getD 0 0) = some (.methodLink (mi_y m).cls x g.1)) || decide (wq (ps.getD 0 0) = some (.methodLinkNest (mi_y m).cls x g.1 "PatchHouse")))
      | none => false)
    | _ => false)
  | .invokevirtual n => decide (pcq m (i + 1) = some (pc + len)) && (match ri with
    | .invokevirtual x => decide (len = 3) && (match am_sg[n]? with
      | some g => decide (wq (ps.getD 0 0) = some (.methodLink (mi_y m).cls x g.1)) && decide (wq (ps.getD 1 0) = some (.instanceMethod g.1)) && decide (wq (ps.getD 2 0) = some (.selects g.1.cls g.1 g.1))
      | none => false)
    | _ => false)
  | .invokeinterface v _ => decide (pcq m (i + 1) = some (pc + len)) && (match ri with
    | .invokevirtual x => decide (len = 3) && (match am_vx[v]? with
      | some y => decide (wq (ps.getD 0 0) = some (.methodLink (mi_y m).cls x y)) && decide (wq (ps.getD 1 0) = some (.sameMethod y.cls y.cls y.name y.desc))
      | none => false)
    | _ => false)
  | .monitorenter => decide (pcq m (i + 1) = some (pc + len)) && (match ri with
    | .invokespecial x => decide (len = 3) && decide (wq (ps.getD 0 0) = some (.methodLink (mi_y m).cls x Lib.objectInit))
    | _ => false)
  | .fload n => decide (pcq m (i + 1) = some (pc + len)) && (match ri with
    | .ldc x => decide (len = 2) && (match am_str[n]? with
      | some q => decide (q.1 = (mi_y m).cls) && decide (q.2.1 = x)
      | none => false)
    | _ => false)
  | .getstatic _ => decide (pcq m (i + 1) = some (pc + len)) && (match ri with
    | .getstatic x => decide (len = 3) && decide (wq (ps.getD 0 0) = some (.fieldLink (mi_y m).cls x "PatchHouse$Patches" "GREATEST" "[I"))
    | _ => false)
  | .invokedynamic n => decide (pcq m (i + 1) = some (pc + len)) && (match ri with
    | .invokestatic x => decide (len = 3) && (match am_sy[n]? with
      | some y => decide (n = 0 ∨ 4 < n) && decide (wq (ps.getD 0 0) = some (.methodLink (mi_y m).cls x y))
      | none => false)
    | .invokevirtual x => decide (len = 3) && decide (0 < n ∧ n < 5) && (match am_sy[n]? with
      | some y => decide (wq (ps.getD 0 0) = some (.methodLink (mi_y m).cls x y))
      | none => false)
    | _ => false)
  | .fstore n => decide (pcq m (i + 1) = some (pc + len)) && (match ri with
    | .getfield x => decide (len = 3) && decide (wq (ps.getD 0 0) = some (.fieldLink (mi_y m).cls x "java/lang/String" (if n = 0 then "value" else "coder") (if n = 0 then "[B" else "B")))
    | _ => false)
  | .dload n => decide (pcq m (i + 1) = some (pc + len)) && (match ri with
    | .getstatic x => decide (len = 3) && decide (wq (ps.getD 0 0) = some (if n = 0 then .fieldLink (mi_y m).cls x "java/lang/String" "COMPACT_STRINGS" "Z" else .fieldLink (mi_y m).cls x "jdk/internal/util/Preconditions" "SIOOBE_FORMATTER" "Ljava/util/function/BiFunction;"))
    | _ => false)
  | .dstore n => decide (pcq m (i + 1) = some (pc + len)) && (match ri with
    | .invokestatic x => decide (len = 3) && (match am_hl[n]? with
      | some y => decide (wq (ps.getD 0 0) = some (.methodLink (mi_y m).cls x y)) && decide (wq (ps.getD 1 0) = some (.static y))
      | none => false)
    | _ => false)
  | .athrow => true
  | a => decide (pcq m (i + 1) = some (pc + len)) && decide (ri = a) && decide (len = 1)
def okI (m : MI) (i : Nat) : Bool := match (mi_cd m)[i]? with
  | some q => match decode (mi_cc m) q.1 with
    | .ok (ri, len) => okR m i q.1 q.2.1 q.2.2 ri len
    | .error _ => false
  | none => true
def okB (m : MI) : Bool := decide (pcq m 0 = some 0) && (List.range (mi_cd m).length).all (okI m)
def okM (m : MI) : Prop := okB m = true ∧ (am_sg[mi_id m]?).map (fun q => (q.1, q.2.1, q.2.2.1, q.2.2.2.1)) = some (mi_y m, mi_cc m, mi_mx m, mi_rt m)
theorem okM_at {m : MI} (h : okB m = true) {i : Nat} {q : Nat × Instr × List Nat} (hq : (mi_cd m)[i]? = some q) : ∃ ri len, decode (mi_cc m) q.1 = .ok (ri, len) ∧ okR m i q.1 q.2.1 q.2.2 ri len = true := by
  have h1 := (Bool.and_eq_true_iff.mp h).2
  have h2 := List.all_eq_true.mp h1 i (List.mem_range.mpr (List.getElem?_eq_some_iff.mp hq).1)
  unfold okI at h2
  rw [hq] at h2
  dsimp only at h2
  split at h2
  · next ri len hd => exact ⟨ri, len, hd, h2⟩
  · cases h2
theorem pcO_of {m : MI} {j n : Nat} (h : pcq m j = some n) : pcO m j = n := by unfold pcO; rw [h]; rfl
theorem pcO_at {m : MI} {i : Nat} {q : Nat × Instr × List Nat} (hq : (mi_cd m)[i]? = some q) : pcO m i = q.1 := pcO_of (by unfold pcq; rw [hq]; rfl)
theorem tgO_of {m : MI} {pc : Nat} {t off : Int} (h : tgO m pc t off = true) : (pc : Int) + off = (pcO m t.toNat : Nat) := by
  unfold tgO at h
  have h := of_decide_eq_true h
  obtain ⟨q, h1, h2⟩ := Option.map_eq_some_iff.mp h
  rw [pcO_of h1]
  exact h2.symm
/-! the heap of the layer in the machine's -/
def usm (B : Nat) (H : Heap) : Nat := ((H.toList.drop B).map (·.slots.size)).sum
def AT (D : va_G) (rt : Nat → Nat) (U : State) (a : Nat) (e : AE) (H : Heap) : Prop := match e with
  | .inl o => ∃ r, am_cl[o.1]? = some r ∧ o.2.length = r.2.2 ∧ t_OB (rt a) (D.1 o.1) r.2.2 (D.2 o.1) H (fun k => tv rt (o.2.getD k (.inl 0)))
  | .inr (.inl (0, n, f)) => ∃ cA, ArrOfT U cA .int ∧ H[rt a]? = some (arrV cA n (fun j => .int (f j)))
  | .inr (.inl (1, n, f)) => (∃ cA, ArrOfT U cA .byte ∧ H[rt a]? = some (arrV cA n (fun j => .int (f j)))) ∧ ∀ j, fits .byte (.int (f j)) = true
  | .inr (.inl (_, n, f)) => ∃ cell : Cell, H[rt a]? = some cell ∧ U.isArrayOf cell .int ∧ cell.vm ≠ .unknown ∧ n ≤ cell.slots.size ∧ cell.slots.size.toInt32 = Int32.ofNat n ∧ ∀ j, j < n → cell.slots[j]? = some (.int (f j))
  | .inr (.inr (.inl (n, f))) => ∃ cA, ArrOfT U cA .long ∧ H[rt a]? = some (arrV cA n (fun j => .long (f j)))
  | .inr (.inr (.inr (n, f))) => ∃ cA, ArrOfT U cA (.object am_th) ∧ va_RA U cA (.object am_th) ∧ H[rt a]? = some (arrV cA n (fun j => tv rt (.inr (.inr (f j)))))
def aok (nx a : Nat) (e : AE) : Prop := match e with
  | .inr (.inl (t, _, _)) => a < nx ∨ (t = 2 ∧ ax ≤ a)
  | _ => a < nx
def RTp (B : Nat) (rt : Nat → Nat) : Prop := (∀ a, a < ax → rt a = B + a) ∧ ∀ a, ax ≤ a → rt a < B
def HR (D : va_G) (rt : Nat → Nat) (B : Nat) (U : State) (P : AP) (H : Heap) : Prop :=
  (∀ a e, P.1 a = some e → AT D rt U a e H ∧ aok P.2.1 a e) ∧ H.size = B + P.2.1 ∧ usm B H = P.2.2 ∧ P.2.1 ≤ 601024 ∧ P.2.2 ≤ 7293034
theorem AT.kept {D : va_G} {rt : Nat → Nat} {U : State} {a : Nat} {e : AE} {H H1 : Heap} (h : AT D rt U a e H) (hq : H1[rt a]? = H[rt a]?) : AT D rt U a e H1 := by
  unfold AT at h ⊢
  split at h
  · obtain ⟨r, h1, h2, h3⟩ := h
    exact ⟨r, h1, h2, h3.kept hq⟩
  · obtain ⟨cA, h1, h2⟩ := h
    exact ⟨cA, h1, hq.trans h2⟩
  · obtain ⟨⟨cA, h1, h2⟩, h3⟩ := h
    exact ⟨⟨cA, h1, hq.trans h2⟩, h3⟩
  · obtain ⟨cell, h1, h2⟩ := h
    exact ⟨cell, hq.trans h1, h2⟩
  · obtain ⟨cA, h1, h2⟩ := h
    exact ⟨cA, h1, hq.trans h2⟩
  · obtain ⟨cA, h1, h2, h3⟩ := h
    exact ⟨cA, h1, h2, hq.trans h3⟩
theorem AT.moved {D : va_G} {rt : Nat → Nat} {u U : State} {a : Nat} {e : AE} {H : Heap} (hvm : u.vm.Alike U.vm) (h : AT D rt u a e H) : AT D rt U a e H := by
  unfold AT at h ⊢
  split at h
  · exact h
  · obtain ⟨cA, h1, h2⟩ := h
    exact ⟨cA, arrOfT_moved hvm h1, h2⟩
  · obtain ⟨⟨cA, h1, h2⟩, h3⟩ := h
    exact ⟨⟨cA, arrOfT_moved hvm h1, h2⟩, h3⟩
  · obtain ⟨cell, h1, h2, h3⟩ := h
    exact ⟨cell, h1, State.isArrayOf_alike hvm h2, h3⟩
  · obtain ⟨cA, h1, h2⟩ := h
    exact ⟨cA, arrOfT_moved hvm h1, h2⟩
  · obtain ⟨cA, h1, h2, h3⟩ := h
    exact ⟨cA, arrOfT_moved hvm h1, h2.moved hvm, h3⟩
theorem HR.moved {D : va_G} {rt : Nat → Nat} {B : Nat} {u U : State} {P : AP} {H : Heap} (hvm : u.vm.Alike U.vm) (h : HR D rt B u P H) : HR D rt B U P H := ⟨fun a e ha => ⟨(h.1 a e ha).1.moved hvm, (h.1 a e ha).2⟩, h.2⟩
/-- the statics and String constants that the methods read, where the words don't say them -/
def am_byt : List (List Int32) := am_str.map fun q => q.2.2.toList.map fun ch => Int32.ofNat ch.toNat
def am_len : List Nat := am_byt.map List.length
def am_nc : List (String × String) := [("PatchHouse$Part", "PatchHouse$Row"), ("PatchHouse$Part", "PatchHouse$Shelf"), ("PatchHouse$Part", "PatchHouse$Trouble"), ("PatchHouse$Row", "PatchHouse$Part"), ("PatchHouse$Row", "PatchHouse$Shelf"), ("PatchHouse$Row", "PatchHouse$Trouble"), ("PatchHouse$Shelf", "PatchHouse$Part"), ("PatchHouse$Shelf", "PatchHouse$Row"), ("PatchHouse$Shelf", "PatchHouse$Trouble"), ("PatchHouse$Trouble", "PatchHouse$Part"), ("PatchHouse$Trouble", "PatchHouse$Row"), ("PatchHouse$Trouble", "PatchHouse$Shelf")]
/-- words that are kept by laws of their own -/
def nwd : Cond → Bool
  | .castable _ _ => true
  | .declares _ => true
  | .methodLinkNest _ _ _ _ => true
  | .arrayOver (.object _) => true
  | _ => false
def ntb : List Cond := lw_tbl.filter nwd
theorem wq_nt {n : Nat} {w : Cond} (h : wq n = some w) (hg : nwd w = true) : w ∈ ntb := List.mem_filter.mpr ⟨List.mem_of_getElem? h, hg⟩
theorem ntb_moved {s U : State} (hW : s.WarmedH U.vm) (h : ∀ w ∈ ntb, va_Nw w s) : ∀ w ∈ ntb, va_Nw w U := by
  intro w hw
  have h1 := h w hw
  have h2 := (List.mem_filter.mp hw).2
  unfold nwd at h2
  split at h2
  · exact va_Nw.warmC hW h1
  · exact va_Nw.warmD hW h1
  · exact va_Nw.warmM hW h1
  · exact va_AO.moved hW.alike h1
  · cases h2
def KS (rt : Nat → Nat) (A : Nat → Prop) (s : State) : Prop :=
  va_Z "PatchHouse$Patches" "GREATEST" "[I" (.ref (rt am_ga)) A s s.heap ∧ (∀ (k : Nat) (q : String × Nat × String), am_str[k]? = some q → vk_R q.1 q.2.1 q.2.2 (rt (am_sa + k)) s) ∧ (vk_S 36 am_len am_byt (fun k => rt (am_sa + k)) (fun k => rt (am_va + k)) A s s.heap ∧ vx_Zq Bundle.tN "UNASSIGNED_STACK" Bundle.steD A s s.heap ∧ vx_Zq Bundle.tN "SUPPRESSED_SENTINEL" Bundle.listD A s s.heap ∧ va_Z "java/lang/String" "COMPACT_STRINGS" "Z" (.int 1) A s s.heap ∧ (va_Z "jdk/internal/util/Preconditions" "SIOOBE_FORMATTER" "Ljava/util/function/BiFunction;" .null A s s.heap ∨ va_Z "jdk/internal/util/Preconditions" "SIOOBE_FORMATTER" "Ljava/util/function/BiFunction;" (.ref (rt am_fm)) A s s.heap)) ∧ ∀ w ∈ ntb, va_Nw w s
theorem KS.moved {rt : Nat → Nat} {A : Nat → Prop} {s U : State} (h : KS rt A s) (hW : s.WarmedH U.vm) (hq : ∀ a : Nat, a < s.heap.size → ¬ A a → U.heap[a]? = s.heap[a]?) : KS rt A U := by
  obtain ⟨h1, h2, ⟨h3, h5, h6, h7, h8⟩, h4⟩ := h
  exact ⟨va_Z.moved hW.alike (h1.kept hq), fun k q hk => vk_R.warm hW (h2 k q hk), ⟨vk_S.moved hW.alike (h3.kept hq), vx_Zq.moved hW.alike (h5.kept hq), vx_Zq.moved hW.alike (h6.kept hq), va_Z.moved hW.alike (h7.kept hq), h8.imp (fun h => va_Z.moved hW.alike (h.kept hq)) (fun h => va_Z.moved hW.alike (h.kept hq))⟩, ntb_moved hW h4⟩
/-! the walk's predicate -/
/-- the tables of the law's helpers -/
def am_hh (k : Nat) : List (Nat × Nat × Nat × Nat) := if k = 100000 then [] else if k = 100003 then [(0, 8, 11, 13)] else [(0, 9, 12, 13)]
def etb (k : Nat) : List ExceptionTableEntry := if k < 100000 then [] else tableOf (am_hh k)
def XK (m : MI) (d : Nat) (p : Program) (R : Room) (s : State) (mid : MethodId) (args : Array Value) (meth : Method) (c : Code) (D : va_G) (rt : Nat → Nat) (B n0 u0 : Nat) : Prop :=
  p.tables.exec = Jvm.exec ∧ c.code = mi_cc m ∧ c.maxLocals = mi_mx m ∧ meth.sig.returnType = mi_rt m ∧ meth.locks = false ∧ meth.name = (mi_y m).name ∧ s.vm.findClass (mi_y m).cls = some mid.cls ∧ (∀ w ∈ gtb, w.before args s = true) ∧ va_K D am_cl [] s ∧ (∀ q ∈ am_nc, va_Nc q.1 q.2 s) ∧ KS rt (fun q => B ≤ q) s ∧ RTp B rt ∧ (d ≤ R.frames ∧ 44 * d + 12 ≤ R.locals) ∧ (n0 + R.cells = 601024 ∧ u0 + R.slots = 7293034 ∧ c.exceptionTable.toList = etb (mi_id m)) ∧ (s.heap.size = B + n0 ∧ usm B s.heap = u0)
def XR (D : va_G) (rt : Nat → Nat) (B : Nat) (Q : Option AV → AP → Prop) : Array Value → State → Outcome → State → Prop := fun _ st o t =>
  ∃ (r : Option AV) (P : AP), Q r P ∧ o = .returned (r.map (tv rt)) ∧ HR D rt B t P t.heap ∧ va_F (fun q => B ≤ q) st t
abbrev PostT : Type := Room → State → Array Value → List Frame → va_G → (Nat → Nat) → Nat → State → Prop
/-- method m, at most d calls deep, at place i with locals L, stack st, heap P: it comes to a state with F -/
def XF (m : MI) (d i : Nat) (L : AL) (st : List AV) (P : AP) (F : PostT) : Prop :=
  okB m = true → ∀ (p : Program) (l : { l : Launch // l.stackTraces = false }) (e : Env) (R : Room) (s : State) (mid : MethodId) (args : Array Value) (below : List Frame) (meth : Method) (c : Code) (D : va_G) (rt : Nat → Nat) (B n0 u0 : Nat),
    XK m d p R s mid args meth c D rt B n0 u0 → L.length = mi_mx m → ∀ (ls : Array Slot) (H : Heap) (locs : List Loc), HR D rt B s P H → lv_has ls (mi_mx m) (lps rt L) → va_S (fun q => B ≤ q) s.heap H locs →
    W p l.1 e R s mid args below meth c H locs (P.2.1 - n0) (P.2.2 - u0) (F R s args below D rt B) (F0 mid (pcO m i) ls (st.map (tv rt)))
def FX (Q : Option AV → AP → Prop) : PostT := fun R s args below D rt B => MQ below (XR D rt B Q) args s R.cells R.slots (fun q => B ≤ q)
/-- the same: it returns, and Q of what it answers and the heap then -/
def X (m : MI) (d i : Nat) (L : AL) (st : List AV) (P : AP) (Q : Option AV → AP → Prop) : Prop := XF m d i L st P (FX Q)
