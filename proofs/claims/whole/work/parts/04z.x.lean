/-! the heap of the layer in the machine's -/
def usm (B : Nat) (H : Heap) : Nat := ((H.toList.drop B).map (·.slots.size)).sum
def AT (D : va_G) (rt : Nat → Nat) (U : State) (a : Nat) (e : AE) (H : Heap) : Prop := match e with
  | .inl o => ∃ r, am_cl[o.1]? = some r ∧ o.2.length = r.2.2 ∧ t_OB (rt a) (D.1 o.1) r.2.2 (D.2 o.1) H (fun k => tv rt (o.2.getD k (.inl 0)))
  | .inr (.inl (0, n, f)) => ∃ cA, ArrOfT U cA .int ∧ H[rt a]? = some (arrV cA n (fun j => .int (f j)))
  | .inr (.inl (1, n, f)) => (∃ cA, ArrOfT U cA .byte ∧ H[rt a]? = some (arrV cA n (fun j => .int (f j)))) ∧ ∀ j, fits .byte (.int (f j)) = true
  | .inr (.inl (_, n, f)) => ∃ cell : Cell, H[rt a]? = some cell ∧ U.isArrayOf cell .int ∧ cell.vm ≠ .unknown ∧ n ≤ cell.slots.size ∧ cell.slots.size.toInt32 = Int32.ofNat n ∧ ∀ j, j < n → cell.slots[j]? = some (.int (f j))
  | .inr (.inr (.inl (n, f))) => ∃ cA, ArrOfT U cA .long ∧ H[rt a]? = some (arrV cA n (fun j => .long (f j)))
  | .inr (.inr (.inr (n, f))) => ∃ cA, ArrOfT U cA (.object am_th) ∧ va_RA U cA (.object am_th) ∧ H[rt a]? = some (arrV cA n (fun j => tv rt (.inr (.inr (f j)))))
def aok (nx a : Nat) (e : AE) : Prop := match e with
  | .inr (.inl (t, _, _)) => a < nx ∨ (t = 2 ∧ ax ≤ a ∧ a ≠ am_fm)
  | _ => a < nx
def RTp (B : Nat) (rt : Nat → Nat) : Prop := (∀ a, a < ax → rt a = B + a) ∧ ∀ a, ax ≤ a → a ≠ am_fm → rt a < B
def HR (D : va_G) (rt : Nat → Nat) (B : Nat) (U : State) (P : AP) (H : Heap) : Prop :=
  (∀ a e, P.1 a = some e → AT D rt U a e H ∧ aok P.2.1 a e) ∧ H.size = B + P.2.1 ∧ usm B H = P.2.2 ∧ P.2.1 ≤ 601024 ∧ P.2.2 ≤ 7293034
theorem AT.kept {D : va_G} {rt : Nat → Nat} {U : State} {a : Nat} {e : AE} {H H1 : Heap} (h : AT D rt U a e H) (hq : H1[rt a]? = H[rt a]?) : AT D rt U a e H1 := by
  unfold AT at h ⊢
  split at h
  · obtain ⟨r, h1, h2, h3⟩ := h
    exact ⟨r, h1, h2, h3.kept hq⟩
  · obtain ⟨cA, h1, h2⟩ := h
    exact ⟨cA, h1, hq.trans h2⟩
  · obtain ⟨⟨cA, h1, h2⟩, h3⟩ := h
    exact ⟨⟨cA, h1, hq.trans h2⟩, h3⟩
  · obtain ⟨cell, h1, h2⟩ := h
    exact ⟨cell, hq.trans h1, h2⟩
  · obtain ⟨cA, h1, h2⟩ := h
    exact ⟨cA, h1, hq.trans h2⟩
  · obtain ⟨cA, h1, h2, h3⟩ := h
    exact ⟨cA, h1, h2, hq.trans h3⟩
theorem AT.moved {D : va_G} {rt : Nat → Nat} {u U : State} {a : Nat} {e : AE} {H : Heap} (hvm : u.vm.Alike U.vm) (h : AT D rt u a e H) : AT D rt U a e H := by
  unfold AT at h ⊢
  split at h
  · exact h
  · obtain ⟨cA, h1, h2⟩ := h
    exact ⟨cA, arrOfT_moved hvm h1, h2⟩
  · obtain ⟨⟨cA, h1, h2⟩, h3⟩ := h
    exact ⟨⟨cA, arrOfT_moved hvm h1, h2⟩, h3⟩
  · obtain ⟨cell, h1, h2, h3⟩ := h
    exact ⟨cell, h1, State.isArrayOf_alike hvm h2, h3⟩
  · obtain ⟨cA, h1, h2⟩ := h
    exact ⟨cA, arrOfT_moved hvm h1, h2⟩
  · obtain ⟨cA, h1, h2, h3⟩ := h
    exact ⟨cA, arrOfT_moved hvm h1, h2.moved hvm, h3⟩
theorem HR.moved {D : va_G} {rt : Nat → Nat} {B : Nat} {u U : State} {P : AP} {H : Heap} (hvm : u.vm.Alike U.vm) (h : HR D rt B u P H) : HR D rt B U P H := ⟨fun a e ha => ⟨(h.1 a e ha).1.moved hvm, (h.1 a e ha).2⟩, h.2⟩
/-- the statics and String constants that the methods read, where the words don't say them -/
def am_byt : List (List Int32) := am_str.map fun q => q.2.2.toList.map fun ch => Int32.ofNat ch.toNat
def am_len : List Nat := am_byt.map List.length
def am_nc : List (String × String) := [("PatchHouse$Part", "PatchHouse$Row"), ("PatchHouse$Part", "PatchHouse$Shelf"), ("PatchHouse$Part", "PatchHouse$Trouble"), ("PatchHouse$Row", "PatchHouse$Part"), ("PatchHouse$Row", "PatchHouse$Shelf"), ("PatchHouse$Row", "PatchHouse$Trouble"), ("PatchHouse$Shelf", "PatchHouse$Part"), ("PatchHouse$Shelf", "PatchHouse$Row"), ("PatchHouse$Shelf", "PatchHouse$Trouble"), ("PatchHouse$Trouble", "PatchHouse$Part"), ("PatchHouse$Trouble", "PatchHouse$Row"), ("PatchHouse$Trouble", "PatchHouse$Shelf")]
/-- words that are kept by laws of their own -/
def nwd : Cond → Bool
  | .castable _ _ => true
  | .declares _ => true
  | .methodLinkNest _ _ _ _ => true
  | .arrayOver (.object _) => true
  | _ => false
def ntb : List Cond := lw_tbl.filter nwd
theorem wq_nt {n : Nat} {w : Cond} (h : wq n = some w) (hg : nwd w = true) : w ∈ ntb := List.mem_filter.mpr ⟨List.mem_of_getElem? h, hg⟩
theorem ntb_moved {s U : State} (hW : s.WarmedH U.vm) (h : ∀ w ∈ ntb, va_Nw w s) : ∀ w ∈ ntb, va_Nw w U := by
  intro w hw
  have h1 := h w hw
  have h2 := (List.mem_filter.mp hw).2
  unfold nwd at h2
  split at h2
  · exact va_Nw.warmC hW h1
  · exact va_Nw.warmD hW h1
  · exact va_Nw.warmM hW h1
  · exact va_AO.moved hW.alike h1
  · cases h2
def KS (rt : Nat → Nat) (A : Nat → Prop) (s : State) : Prop :=
  va_Z "PatchHouse$Patches" "GREATEST" "[I" (.ref (rt am_ga)) A s s.heap ∧ (∀ (k : Nat) (q : String × Nat × String), am_str[k]? = some q → vk_R q.1 q.2.1 q.2.2 (rt (am_sa + k)) s) ∧ (vk_S 36 am_len am_byt (fun k => rt (am_sa + k)) (fun k => rt (am_va + k)) A s s.heap ∧ vx_Zq Bundle.tN "UNASSIGNED_STACK" Bundle.steD A s s.heap ∧ vx_Zq Bundle.tN "SUPPRESSED_SENTINEL" Bundle.listD A s s.heap ∧ va_Z "java/lang/String" "COMPACT_STRINGS" "Z" (.int 1) A s s.heap ∧ (va_Z "jdk/internal/util/Preconditions" "SIOOBE_FORMATTER" "Ljava/util/function/BiFunction;" .null A s s.heap ∨ va_Z "jdk/internal/util/Preconditions" "SIOOBE_FORMATTER" "Ljava/util/function/BiFunction;" (.ref (rt am_fm)) A s s.heap)) ∧ ∀ w ∈ ntb, va_Nw w s
theorem KS.moved {rt : Nat → Nat} {A : Nat → Prop} {s U : State} (h : KS rt A s) (hW : s.WarmedH U.vm) (hq : ∀ a : Nat, a < s.heap.size → ¬ A a → U.heap[a]? = s.heap[a]?) : KS rt A U := by
  obtain ⟨h1, h2, ⟨h3, h5, h6, h7, h8⟩, h4⟩ := h
  exact ⟨va_Z.moved hW.alike (h1.kept hq), fun k q hk => vk_R.warm hW (h2 k q hk), ⟨vk_S.moved hW.alike (h3.kept hq), vx_Zq.moved hW.alike (h5.kept hq), vx_Zq.moved hW.alike (h6.kept hq), va_Z.moved hW.alike (h7.kept hq), h8.imp (fun h => va_Z.moved hW.alike (h.kept hq)) (fun h => va_Z.moved hW.alike (h.kept hq))⟩, ntb_moved hW h4⟩
/-! the walk's predicate -/
/-- the tables of the law's helpers -/
def am_hh (k : Nat) : List (Nat × Nat × Nat × Nat) := if k = 100000 then [] else if k = 100003 then [(0, 8, 11, 13)] else [(0, 9, 12, 13)]
def etb (k : Nat) : List ExceptionTableEntry := if k < 100000 then [] else tableOf (am_hh k)
def XK (m : MI) (d : Nat) (p : Program) (R : Room) (s : State) (mid : MethodId) (args : Array Value) (meth : Method) (c : Code) (D : va_G) (rt : Nat → Nat) (B n0 u0 : Nat) : Prop :=
  p.tables.exec = Jvm.exec ∧ c.code = mi_cc m ∧ c.maxLocals = mi_mx m ∧ meth.sig.returnType = mi_rt m ∧ meth.locks = false ∧ meth.name = (mi_y m).name ∧ s.vm.findClass (mi_y m).cls = some mid.cls ∧ (∀ w ∈ gtb, w.before args s = true) ∧ va_K D am_cl [] s ∧ (∀ q ∈ am_nc, va_Nc q.1 q.2 s) ∧ KS rt (fun q => B ≤ q) s ∧ RTp B rt ∧ (d ≤ R.frames ∧ 44 * d + 12 ≤ R.locals) ∧ (n0 + R.cells = 601024 ∧ u0 + R.slots = 7293034 ∧ c.exceptionTable.toList = etb (mi_id m)) ∧ (s.heap.size = B + n0 ∧ usm B s.heap = u0)
def XR (D : va_G) (rt : Nat → Nat) (B : Nat) (Q : Option AV → AP → Prop) : Array Value → State → Outcome → State → Prop := fun _ st o t =>
  ∃ (r : Option AV) (P : AP), Q r P ∧ o = .returned (r.map (tv rt)) ∧ HR D rt B t P t.heap ∧ va_F (fun q => B ≤ q) st t
abbrev PostT : Type := Room → State → Array Value → List Frame → va_G → (Nat → Nat) → Nat → State → Prop
/-- method m, at most d calls deep, at place i with locals L, stack st, heap P: it comes to a state with F -/
def XF (m : MI) (d i : Nat) (L : AL) (st : List AV) (P : AP) (F : PostT) : Prop :=
  okB m = true → ∀ (p : Program) (l : { l : Launch // l.stackTraces = false }) (e : Env) (R : Room) (s : State) (mid : MethodId) (args : Array Value) (below : List Frame) (meth : Method) (c : Code) (D : va_G) (rt : Nat → Nat) (B n0 u0 : Nat),
    XK m d p R s mid args meth c D rt B n0 u0 → L.length = mi_mx m → ∀ (ls : Array Slot) (H : Heap) (locs : List Loc), HR D rt B s P H → lv_has ls (mi_mx m) (lps rt L) → va_S (fun q => B ≤ q) s.heap H locs →
    W p l.1 e R s mid args below meth c H locs (P.2.1 - n0) (P.2.2 - u0) (F R s args below D rt B) (F0 mid (pcO m i) ls (st.map (tv rt)))
def FX (Q : Option AV → AP → Prop) : PostT := fun R s args below D rt B => MQ below (XR D rt B Q) args s R.cells R.slots (fun q => B ≤ q)
/-- the same: it returns, and Q of what it answers and the heap then -/
def X (m : MI) (d i : Nat) (L : AL) (st : List AV) (P : AP) (Q : Option AV → AP → Prop) : Prop := XF m d i L st P (FX Q)
