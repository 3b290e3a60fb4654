/-! the words of an instruction, checked in the kernel once a method -/
def ax : Nat := 1099511627776
def am_th : String := "PatchHouse$Thing"
/-- names of the classes that instanceof and checkcast ask for -/
def am_cn : List String := ["PatchHouse$Part", "PatchHouse$Row", "PatchHouse$Shelf", "PatchHouse$Trouble", "PatchHouse$Thing"]
def am_ga : Nat := 1099511627777
def am_sa : Nat := 1099511627800
/-- the formatter of the JDK's index check, the law's script, the byte arrays of the String constants -/
def am_fm : Nat := 1099511627778
def am_sc : Nat := 1099511627779
def am_va : Nat := 1099511627900
/-- the law's helpers that catch -/
def am_hl : List MethodName := [⟨"PatchHouseLaw", "out", "(LPatchHouse;I[J)I"⟩, ⟨"PatchHouseLaw", "number", "(LPatchHouse;I[J)I"⟩, ⟨"PatchHouseLaw", "real", "(LPatchHouse;I[J)I"⟩, ⟨"PatchHouseLaw", "member", "(LPatchHouse;II[J)I"⟩]
def am_str : List (String × Nat × String) := [("PatchHouse$Patches", 33, "n...."), ("PatchHouse$Patches", 35, "nn"), ("PatchHouse$Patches", 37, "nnh"), ("PatchHouse$Patches", 39, "r........"), ("PatchHouse$Patches", 41, "rn"), ("PatchHouse$Patches", 43, "nr"), ("PatchHouse$Patches", 45, "rrh"), ("PatchHouse$Patches", 47, "rh"), ("PatchHouse$Patches", 49, "nrrh"), ("PatchHouse$Patches", 51, "ss"), ("PatchHouse$Patches", 53, "s"), ("PatchHouse$Patches", 55, "swn"), ("PatchHouse$Patches", 57, "snn"), ("PatchHouse$Patches", 59, "scn"), ("PatchHouse$Patches", 61, "sc"), ("PatchHouse$Patches", 63, "sn"), ("PatchHouse$Patches", 65, "ns"), ("PatchHouse$Patches", 67, "nsh"), ("PatchHouse$Patches", 69, "wvsn"), ("PatchHouse$Patches", 71, "wsnv"), ("PatchHouse$Patches", 73, "snsnn"), ("PatchHouse$Patches", 75, "ssn"), ("PatchHouse$Patches", 77, "sns"), ("PatchHouse$Patches", 79, "hfs"), ("PatchHouse$Patches", 81, "hsf"), ("PatchHouse$Patches", 83, "hrsn"), ("PatchHouse$Patches", 85, "npp"), ("PatchHouse$Patches", 87, "np"), ("PatchHouse$Patches", 89, "...ppp"), ("PatchHouse$Patches", 91, "h"), ("PatchHouse$Patches", 93, ""), ("PatchHouse$Patches", 101, "nrswcp"), ("PatchHouse", 99, "no such byte of OUT"), ("PatchHouse", 133, "no such NUMBER"), ("PatchHouse", 138, "no such REAL"), ("PatchHouse", 160, "no such member")]
/-- the String methods that are called on constants -/
def am_sy : List MethodName := [arraycopyName, ⟨"java/lang/String", "length", "()I"⟩, ⟨"java/lang/String", "isEmpty", "()Z"⟩, ⟨"java/lang/String", "charAt", "(I)C"⟩, ⟨"java/lang/String", "indexOf", "(I)I"⟩, ⟨"java/lang/Math", "max", "(II)I"⟩, ⟨"java/lang/Math", "min", "(II)I"⟩, ⟨"java/lang/Math", "abs", "(J)J"⟩]
def tgO (m : MI) (pc : Nat) (t : Int) (off : Int) : Bool := decide ((pcq m t.toNat).map Int.ofNat = some ((pc : Int) + off))
def okR (m : MI) (i pc : Nat) (am : Instr) (ps : List Nat) (ri : Instr) (len : Nat) : Bool :=
  match am with
  | .sipush n => decide (pcq m (i + 1) = some (pc + len)) && (match ri with
    | .iconst k => decide (len = 1) && decide (Int32.ofInt k = Int32.ofInt n)
    | .bipush k => decide (len = 2) && decide ((Int8.ofInt k).toInt32 = Int32.ofInt n)
    | .sipush k => decide (len = 3) && decide ((Int16.ofInt k).toInt32 = Int32.ofInt n)
    | .ldc x => decide (len = 2) && decide (wq (ps.getD 0 0) = some (.constant (mi_y m).cls x (Int32.ofInt n)))
    | .ldc_w x => decide (len = 3) && decide (wq (ps.getD 0 0) = some (.constant (mi_y m).cls x (Int32.ofInt n)))
    | _ => false)
  | .bipush n => decide (pcq m (i + 1) = some (pc + len)) && (match ri with
    | .lconst k => decide (len = 1) && decide (Int64.ofNat (k : Nat) = Int64.ofInt n)
    | .ldc2_w x => decide (len = 3) && decide (wq (ps.getD 0 0) = some (.constantLong (mi_y m).cls x (Int64.ofInt n)))
    | _ => false)
  | .iload k => decide (pcq m (i + 1) = some (pc + len)) && (match ri with
    | .iload j => decide (len = 2) && decide (j = k)
    | .iload_n j => decide (len = 1) && decide ((j : Nat) = k)
    | _ => false)
  | .lload k => decide (pcq m (i + 1) = some (pc + len)) && (match ri with
    | .lload j => decide (len = 2) && decide (j = k)
    | .lload_n j => decide (len = 1) && decide ((j : Nat) = k)
    | _ => false)
  | .aload k => decide (pcq m (i + 1) = some (pc + len)) && (match ri with
    | .aload j => decide (len = 2) && decide (j = k)
    | .aload_n j => decide (len = 1) && decide ((j : Nat) = k)
    | _ => false)
  | .istore k => decide (pcq m (i + 1) = some (pc + len)) && (match ri with
    | .istore j => decide (len = 2) && decide (j = k)
    | .istore_n j => decide (len = 1) && decide ((j : Nat) = k)
    | _ => false)
  | .lstore k => decide (pcq m (i + 1) = some (pc + len)) && (match ri with
    | .lstore j => decide (len = 2) && decide (j = k)
    | .lstore_n j => decide (len = 1) && decide ((j : Nat) = k)
    | _ => false)
  | .astore k => decide (pcq m (i + 1) = some (pc + len)) && (match ri with
    | .astore j => decide (len = 2) && decide (j = k)
    | .astore_n j => decide (len = 1) && decide ((j : Nat) = k)
    | _ => false)
  | .iinc k n => decide (pcq m (i + 1) = some (pc + len)) && decide (ri = .iinc k n) && decide (len = 3)
  | .goto t => match ri with
    | .goto o => decide (len = 3) && tgO m pc t o
    | _ => false
  | .ifCond c t => decide (pcq m (i + 1) = some (pc + len)) && (match ri with
    | .ifCond c' o => decide (c = c') && decide (len = 3) && tgO m pc t o
    | _ => false)
  | .if_icmp c t => decide (pcq m (i + 1) = some (pc + len)) && (match ri with
    | .if_icmp c' o => decide (c = c') && decide (len = 3) && tgO m pc t o
    | _ => false)
  | .if_acmp c t => decide (pcq m (i + 1) = some (pc + len)) && (match ri with
    | .if_acmp c' o => decide (c = c') && decide (len = 3) && tgO m pc t o
    | _ => false)
  | .ifnull t => decide (pcq m (i + 1) = some (pc + len)) && (match ri with
    | .ifnull o => decide (len = 3) && tgO m pc t o
    | _ => false)
  | .ifnonnull t => decide (pcq m (i + 1) = some (pc + len)) && (match ri with
    | .ifnonnull o => decide (len = 3) && tgO m pc t o
    | _ => false)
  | .tableswitch d lo hi ts => match ri with
    | .tableswitch d' lo' hi' os => decide (lo = lo') && decide (hi = hi') && tgO m pc d d' && decide (ts.toList.length = os.toList.length) && (ts.toList.zip os.toList).all (fun q => tgO m pc q.1 q.2)
    | _ => false
  | .lookupswitch d qs => match ri with
    | .lookupswitch d' os => tgO m pc d d' && decide (qs.toList.length = os.toList.length) && (qs.toList.zip os.toList).all (fun q => decide (q.1.1 = q.2.1) && tgO m pc q.1.2 q.2.2) && (os.toList.zip (os.toList.drop 1)).all (fun (a, next) => a.1 < next.1)
    | _ => false
  | .getfield n => decide (pcq m (i + 1) = some (pc + len)) && (match ri with
    | .getfield x => decide (len = 3) && (match am_cl[n / 64]? with
      | some r => decide (n % 64 < r.2.2) && decide (wq (ps.getD 0 0) = some (.fieldLink (mi_y m).cls x (r.2.1 (n % 64)).1 (r.2.1 (n % 64)).2.1 (r.2.1 (n % 64)).2.2.1))
      | none => false)
    | _ => false)
  | .putfield n => decide (pcq m (i + 1) = some (pc + len)) && (match ri with
    | .putfield x => decide (len = 3) && (match am_cl[n / 64]? with
      | some r => decide (n % 64 < r.2.2) && decide (wq (ps.getD 0 0) = some (.fieldLink (mi_y m).cls x (r.2.1 (n % 64)).1 (r.2.1 (n % 64)).2.1 (r.2.1 (n % 64)).2.2.1)) && (decide ((r.2.1 (n % 64)).2.2.2 = false) || (decide ((r.2.1 (n % 64)).2.2.2 = true) && decide ((mi_y m).name = "<init>") && decide ((r.2.1 (n % 64)).1 = (mi_y m).cls)))
      | none => false)
    | _ => false)
  | .new n => decide (pcq m (i + 1) = some (pc + len)) && (match ri with
    | .new x => decide (len = 3) && (match am_cl[n]? with
      | some r => decide (wq (ps.getD 0 0) = some (.classLink (mi_y m).cls x r.1))
      | none => false)
    | _ => false)
  | .newarray t => decide (pcq m (i + 1) = some (pc + len)) && decide (ri = .newarray t) && decide (len = 2) && decide (wq (ps.getD 0 0) = some (.arrayClass (Op.newarray.typeOf t)))
  | .anewarray _ => decide (pcq m (i + 1) = some (pc + len)) && (match ri with
    | .anewarray x => decide (len = 3) && decide (wq (ps.getD 0 0) = some (.classLink (mi_y m).cls x am_th)) && decide (wq (ps.getD 1 0) = some (.arrayOver (.object am_th)))
    | _ => false)
  | .instanceof n => decide (pcq m (i + 1) = some (pc + len)) && (match ri with
    | .instanceof x => decide (len = 3) && decide (wq (ps.getD 0 0) = some (.classLink (mi_y m).cls x (am_cn.getD n "")))
    | _ => false)
  | .checkcast n => decide (pcq m (i + 1) = some (pc + len)) && (match ri with
    | .checkcast x => decide (len = 3) && decide (wq (ps.getD 0 0) = some (.classLink (mi_y m).cls x (am_cn.getD n "")))
    | _ => false)
  | .ireturn => decide (ri = .ireturn) && decide (len = 1)
  | .lreturn => decide (ri = .lreturn) && decide (len = 1)
  | .areturn => decide (ri = .areturn) && decide (len = 1)
  | .return_ => decide (ri = .return_) && decide (len = 1)
  | .invokestatic n => decide (pcq m (i + 1) = some (pc + len)) && (match ri with
    | .invokestatic x => decide (len = 3) && (match am_sg[n]? with
      | some g => decide (wq (ps.getD 0 0) = some (.methodLink (mi_y m).cls x g.1)) && decide (wq (ps.getD 1 0) = some (.static g.1))
      | none => false)
    | _ => false)
  | .invokespecial n => decide (pcq m (i + 1) = some (pc + len)) && (match ri with
    | .invokespecial x => decide (len = 3) && (match am_sg[n]? with
      | some g => decide (g.1.name = "<init>") && decide (wq (ps.getD 1 0) = some (.instanceMethod g.1)) && (decide (wq (ps.getD 0 0) = some (.methodLink (mi_y m).cls x g.1)) || decide (wq (ps.getD 0 0) = some (.methodLinkNest (mi_y m).cls x g.1 "PatchHouse")))
      | none => false)
    | _ => false)
  | .invokevirtual n => decide (pcq m (i + 1) = some (pc + len)) && (match ri with
    | .invokevirtual x => decide (len = 3) && (match am_sg[n]? with
      | some g => decide (wq (ps.getD 0 0) = some (.methodLink (mi_y m).cls x g.1)) && decide (wq (ps.getD 1 0) = some (.instanceMethod g.1)) && decide (wq (ps.getD 2 0) = some (.selects g.1.cls g.1 g.1))
      | none => false)
    | _ => false)
  | .invokeinterface v _ => decide (pcq m (i + 1) = some (pc + len)) && (match ri with
    | .invokevirtual x => decide (len = 3) && (match am_vx[v]? with
      | some y => decide (wq (ps.getD 0 0) = some (.methodLink (mi_y m).cls x y)) && decide (wq (ps.getD 1 0) = some (.sameMethod y.cls y.cls y.name y.desc))
      | none => false)
    | _ => false)
  | .monitorenter => decide (pcq m (i + 1) = some (pc + len)) && (match ri with
    | .invokespecial x => decide (len = 3) && decide (wq (ps.getD 0 0) = some (.methodLink (mi_y m).cls x Lib.objectInit))
    | _ => false)
  | .fload n => decide (pcq m (i + 1) = some (pc + len)) && (match ri with
    | .ldc x => decide (len = 2) && (match am_str[n]? with
      | some q => decide (q.1 = (mi_y m).cls) && decide (q.2.1 = x)
      | none => false)
    | _ => false)
  | .getstatic _ => decide (pcq m (i + 1) = some (pc + len)) && (match ri with
    | .getstatic x => decide (len = 3) && decide (wq (ps.getD 0 0) = some (.fieldLink (mi_y m).cls x "PatchHouse$Patches" "GREATEST" "[I"))
    | _ => false)
  | .invokedynamic n => decide (pcq m (i + 1) = some (pc + len)) && (match ri with
    | .invokestatic x => decide (len = 3) && (match am_sy[n]? with
      | some y => decide (n = 0 ∨ 4 < n) && decide (wq (ps.getD 0 0) = some (.methodLink (mi_y m).cls x y))
      | none => false)
    | .invokevirtual x => decide (len = 3) && decide (0 < n ∧ n < 5) && (match am_sy[n]? with
      | some y => decide (wq (ps.getD 0 0) = some (.methodLink (mi_y m).cls x y))
      | none => false)
    | _ => false)
  | .fstore n => decide (pcq m (i + 1) = some (pc + len)) && (match ri with
    | .getfield x => decide (len = 3) && decide (wq (ps.getD 0 0) = some (.fieldLink (mi_y m).cls x "java/lang/String" (if n = 0 then "value" else "coder") (if n = 0 then "[B" else "B")))
    | _ => false)
  | .dload n => decide (pcq m (i + 1) = some (pc + len)) && (match ri with
    | .getstatic x => decide (len = 3) && decide (wq (ps.getD 0 0) = some (if n = 0 then .fieldLink (mi_y m).cls x "java/lang/String" "COMPACT_STRINGS" "Z" else .fieldLink (mi_y m).cls x "jdk/internal/util/Preconditions" "SIOOBE_FORMATTER" "Ljava/util/function/BiFunction;"))
    | _ => false)
  | .dstore n => decide (pcq m (i + 1) = some (pc + len)) && (match ri with
    | .invokestatic x => decide (len = 3) && (match am_hl[n]? with
      | some y => decide (wq (ps.getD 0 0) = some (.methodLink (mi_y m).cls x y)) && decide (wq (ps.getD 1 0) = some (.static y))
      | none => false)
    | _ => false)
  | .athrow => true
  | a => decide (pcq m (i + 1) = some (pc + len)) && decide (ri = a) && decide (len = 1)
def okI (m : MI) (i : Nat) : Bool := match (mi_cd m)[i]? with
  | some q => match decode (mi_cc m) q.1 with
    | .ok (ri, len) => okR m i q.1 q.2.1 q.2.2 ri len
    | .error _ => false
  | none => true
def okB (m : MI) : Bool := decide (pcq m 0 = some 0) && (List.range (mi_cd m).length).all (okI m)
def okM (m : MI) : Prop := okB m = true ∧ (am_sg[mi_id m]?).map (fun q => (q.1, q.2.1, q.2.2.1, q.2.2.2.1)) = some (mi_y m, mi_cc m, mi_mx m, mi_rt m)
theorem okM_at {m : MI} (h : okB m = true) {i : Nat} {q : Nat × Instr × List Nat} (hq : (mi_cd m)[i]? = some q) : ∃ ri len, decode (mi_cc m) q.1 = .ok (ri, len) ∧ okR m i q.1 q.2.1 q.2.2 ri len = true := by
  have h1 := (Bool.and_eq_true_iff.mp h).2
  have h2 := List.all_eq_true.mp h1 i (List.mem_range.mpr (List.getElem?_eq_some_iff.mp hq).1)
  unfold okI at h2
  rw [hq] at h2
  dsimp only at h2
  split at h2
  · next ri len hd => exact ⟨ri, len, hd, h2⟩
  · cases h2
theorem pcO_of {m : MI} {j n : Nat} (h : pcq m j = some n) : pcO m j = n := by unfold pcO; rw [h]; rfl
theorem pcO_at {m : MI} {i : Nat} {q : Nat × Instr × List Nat} (hq : (mi_cd m)[i]? = some q) : pcO m i = q.1 := pcO_of (by unfold pcq; rw [hq]; rfl)
theorem tgO_of {m : MI} {pc : Nat} {t off : Int} (h : tgO m pc t off = true) : (pc : Int) + off = (pcO m t.toNat : Nat) := by
  unfold tgO at h
  have h := of_decide_eq_true h
  obtain ⟨q, h1, h2⟩ := Option.map_eq_some_iff.mp h
  rw [pcO_of h1]
  exact h2.symm
