/-! String constants -/
def stx (o : Option Nat) : List Int32 := match o with
  | some a => am_byt.getD (a - am_sa) []
  | none => []
def sk (o : Option Nat) : Prop := ∃ k, k < 36 ∧ o = some (am_sa + k)
def stn (o : Option Nat) : Nat := (stx o).length
def stl (o : Option Nat) : Int32 := Int32.ofNat (stn o)
def ste (o : Option Nat) : Bool := decide (stn o = 0)
def stc (o : Option Nat) (j : Int32) : Int32 := (stx o).getD j.toNatClampNeg 0
def stf (c : Int32) : List Int32 → Nat → Int32
  | [], _ => -1
  | b :: l, k => if b = c then Int32.ofNat k else stf c l (k + 1)
def sti (o : Option Nat) (c : Int32) : Int32 := stf c (stx o) 0
/-- what every byte of a constant is -/
def sbq (b : Int32) : Bool := decide (((b &&& 255).toUInt32 % 65536).toInt32 = b) && decide (0 ≤ b) && decide (b < 128) && decide ((b.toUInt32 % 65536).toInt32 = b)
theorem sby_all : (am_byt.all fun l => l.all sbq && decide (l.length ≤ 20)) = true := by decide +kernel
theorem sx_at (j : Nat) : stx (some (am_sa + j)) = am_byt.getD j [] := by
  show am_byt.getD (am_sa + j - am_sa) [] = _
  rw [Nat.add_sub_cancel_left]
theorem sby_at {j : Nat} : (am_byt.getD j []).length ≤ 20 ∧ ∀ b ∈ am_byt.getD j [], sbq b = true := by
  rw [List.getD_eq_getElem?_getD]
  cases h : am_byt[j]? with
  | none => exact ⟨by simp, fun b hb => by simp at hb⟩
  | some l =>
    have h1 := List.all_eq_true.mp sby_all l (List.mem_of_getElem? h)
    obtain ⟨h2, h3⟩ := Bool.and_eq_true_iff.mp h1
    exact ⟨of_decide_eq_true h3, fun b hb => List.all_eq_true.mp h2 b hb⟩
theorem sn_at (j : Nat) : am_len.getD j 0 = stn (some (am_sa + j)) := by
  unfold stn
  rw [sx_at]
  unfold am_len
  rw [List.getD_eq_getElem?_getD, List.getElem?_map, List.getD_eq_getElem?_getD]
  cases am_byt[j]? <;> rfl
theorem sn_le (j : Nat) : stn (some (am_sa + j)) ≤ 20 := by unfold stn; rw [sx_at]; exact sby_at.1
theorem nt_sm {a : Nat} (h : a < 2147483648) : (Int32.ofNat a).toInt = (a : Int) := Int32.toInt_ofNat_of_lt (by omega)
theorem nar_c {x : Int32} (h : (x.toUInt32 % 65536).toInt32 = x) : narrow .char (.int x) = .int x := congrArg Value.int h
section XT
variable {m : MI} {d i : Nat} {L : AL} {st : List AV} {Q : Option AV → AP → Prop} {pc n : Nat} {ps : List Nat} {P : AP}
theorem X_sval {j : Nat} (hq : (mi_cd m)[i]? = some (pc, .fstore 0, ps)) (hj : j < 36) (k : X m d (i + 1) L (.inr (.inr (some (am_va + j))) :: st) P Q) : X m d i L (.inr (.inr (some (am_sa + j))) :: st) P Q := by
  intro hok p l e1 R s mid args below meth c D rt B n0 u0 hC hL ls H locs hH hl hS
  obtain ⟨ri, len, hd, ho⟩ := okM_at hok hq
  have K := k hok p l e1 R s mid args below meth c D rt B n0 u0 hC hL ls H locs hH hl hS
  obtain ⟨hx, hb, -, hret, hlk, -, hown, hts, hK, hNc, hKS, hRT, -, hcap, hsz⟩ := id hC
  rw [pcO_at hq]
  obtain ⟨g1, g2⟩ := ok_h ho
  split at g2
  · next x =>
    obtain ⟨g3, g4⟩ := ok_2 g2
    subst g3
    exact vk_getf (ref := "java/lang/String") hx hb (hKS.2.2.1.1.1 j hj).2.2.1 hS hown (hts _ (wq_in g4 rfl)) (fun _ h => h) hd (by rw [← pcO_of g1]; exact K)
  · cases g2
theorem X_scod {j : Nat} (hq : (mi_cd m)[i]? = some (pc, .fstore 1, ps)) (hj : j < 36) (k : X m d (i + 1) L (.inl 0 :: st) P Q) : X m d i L (.inr (.inr (some (am_sa + j))) :: st) P Q := by
  intro hok p l e1 R s mid args below meth c D rt B n0 u0 hC hL ls H locs hH hl hS
  obtain ⟨ri, len, hd, ho⟩ := okM_at hok hq
  have K := k hok p l e1 R s mid args below meth c D rt B n0 u0 hC hL ls H locs hH hl hS
  obtain ⟨hx, hb, -, hret, hlk, -, hown, hts, hK, hNc, hKS, hRT, -, hcap, hsz⟩ := id hC
  rw [pcO_at hq]
  obtain ⟨g1, g2⟩ := ok_h ho
  split at g2
  · next x =>
    obtain ⟨g3, g4⟩ := ok_2 g2
    subst g3
    exact vk_getf (ref := "java/lang/String") hx hb (hKS.2.2.1.1.1 j hj).2.1 hS hown (hts _ (wq_in g4 rfl)) (fun _ h => h) hd (by rw [← pcO_of g1]; exact K)
  · cases g2
theorem X_cst (hq : (mi_cd m)[i]? = some (pc, .dload 0, ps)) (k : X m d (i + 1) L (.inl 1 :: st) P Q) : X m d i L st P Q := by
  intro hok p l e1 R s mid args below meth c D rt B n0 u0 hC hL ls H locs hH hl hS
  obtain ⟨ri, len, hd, ho⟩ := okM_at hok hq
  have K := k hok p l e1 R s mid args below meth c D rt B n0 u0 hC hL ls H locs hH hl hS
  obtain ⟨hx, hb, -, hret, hlk, -, hown, hts, hK, hNc, hKS, hRT, -, hcap, hsz⟩ := id hC
  rw [pcO_at hq]
  obtain ⟨g1, g2⟩ := ok_h ho
  split at g2
  · next x =>
    obtain ⟨g3, g4⟩ := ok_2 g2
    subst g3
    exact va_gets (ref := "java/lang/String") hx hb hKS.2.2.1.2.2.2.1 hS hown (hts _ (wq_in g4 rfl)) (fun _ h => h) hd (by rw [← pcO_of g1]; exact K)
  · cases g2
theorem X_sfm (hq : (mi_cd m)[i]? = some (pc, .dload 1, ps)) (k : ∀ o : Option Nat, X m d (i + 1) L (.inr (.inr o) :: st) P Q) : X m d i L st P Q := by
  intro hok p l e1 R s mid args below meth c D rt B n0 u0 hC hL ls H locs hH hl hS
  obtain ⟨ri, len, hd, ho⟩ := okM_at hok hq
  have K := fun o => k o hok p l e1 R s mid args below meth c D rt B n0 u0 hC hL ls H locs hH hl hS
  obtain ⟨hx, hb, -, hret, hlk, -, hown, hts, hK, hNc, hKS, hRT, -, hcap, hsz⟩ := id hC
  rw [pcO_at hq]
  obtain ⟨g1, g2⟩ := ok_h ho
  split at g2
  · next x =>
    obtain ⟨g3, g4⟩ := ok_2 g2
    subst g3
    rcases hKS.2.2.1.2.2.2.2 with h | h
    · exact va_gets (ref := "jdk/internal/util/Preconditions") hx hb h hS hown (hts _ (wq_in g4 rfl)) (fun _ h => h) hd (by rw [← pcO_of g1]; exact K none)
    · exact va_gets (ref := "jdk/internal/util/Preconditions") hx hb h hS hown (hts _ (wq_in g4 rfl)) (fun _ h => h) hd (by rw [← pcO_of g1]; exact K (some am_fm))
  · cases g2
theorem X_vlen {j : Nat} (hq : (mi_cd m)[i]? = some (pc, .arraylength, ps)) (hj : j < 36) (k : X m d (i + 1) L (.inl (stl (some (am_sa + j))) :: st) P Q) : X m d i L (.inr (.inr (some (am_va + j))) :: st) P Q := by
  intro hok p l e1 R s mid args below meth c D rt B n0 u0 hC hL ls H locs hH hl hS
  obtain ⟨ri, len, hd, ho⟩ := okM_at hok hq
  have K := k hok p l e1 R s mid args below meth c D rt B n0 u0 hC hL ls H locs hH hl hS
  obtain ⟨hx, hb, -, hret, hlk, -, hown, hts, hK, hNc, hKS, hRT, -, hcap, hsz⟩ := id hC
  rw [pcO_at hq]
  obtain ⟨g1, rfl, rfl⟩ := ok_s ho
  exact va_tlen (v := stl (some (am_sa + j))) hx hb (hKS.2.2.1.1.1 j hj).2.2.2 hS (by rw [sn_at]; rfl) hd (by rw [← pcO_of g1]; exact K)
theorem X_vbld {j : Nat} {x : Int32} (hq : (mi_cd m)[i]? = some (pc, .baload, ps)) (hj : j < 36) (hin : vp_in x (stn (some (am_sa + j)))) (k : X m d (i + 1) L (.inl (stc (some (am_sa + j)) x) :: st) P Q) : X m d i L (.inl x :: .inr (.inr (some (am_va + j))) :: st) P Q := by
  intro hok p l e1 R s mid args below meth c D rt B n0 u0 hC hL ls H locs hH hl hS
  obtain ⟨ri, len, hd, ho⟩ := okM_at hok hq
  have K := k hok p l e1 R s mid args below meth c D rt B n0 u0 hC hL ls H locs hH hl hS
  obtain ⟨hx, hb, -, hret, hlk, -, hown, hts, hK, hNc, hKS, hRT, -, hcap, hsz⟩ := id hC
  rw [pcO_at hq]
  obtain ⟨g1, rfl, rfl⟩ := ok_s ho
  exact va_tb (v := .int (stc (some (am_sa + j)) x)) hx hb (hKS.2.2.1.1.1 j hj).2.2.2 hS (by rw [sn_at]; exact hin) (by unfold stc; rw [sx_at]) hd (by rw [← pcO_of g1]; exact K)
theorem X_tret {x : Int32} {ty : FieldType} (hq : (mi_cd m)[i]? = some (pc, .ireturn, ps)) (hr : mi_rt m = some ty) (hn : narrow ty (.int x) = .int x) (hQ : Q (some (.inl x)) P) : X m d i L [.inl x] P Q := by
  intro hok p l e1 R s mid args below meth c D rt B n0 u0 hC hL ls H locs hH hl hS
  obtain ⟨ri, len, hd, ho⟩ := okM_at hok hq
  obtain ⟨hx, hb, -, hret, hlk, -, hown, hts, hK, hNc, -, hRT, -, hcap, hsz⟩ := id hC
  rw [pcO_at hq]
  obtain ⟨g1, g2⟩ := ok_2 ho
  subst g1; subst g2
  have h4 := hH.2.2.2
  exact W.widen (by omega) (by omega) (W.zret hx hb (hret.trans hr) hn (fun t ht hW => XR_of hQ hH hS ht hW) hS.2.2 hd hlk)
/-- a call of a method of a String constant -/
theorem X_callS (mc : MI) {As : List AV} {j : Nat} {Qc : Option AV → AP → Prop} {am : Instr} (hok : okM mc) (hq : (mi_cd m)[i]? = some (pc, am, ps)) (hid : mi_id mc = n) (hn : (am_sg[n]?).map (fun g => g.2.2.2.2.1) = some As.length) (hj : j < 36) (hcl : (mi_y mc).cls = "java/lang/String") (hlen : (entA (.inr (.inr (some (am_sa + j))) :: As)).length ≤ mi_mx mc) (hst : (st.map av_c).sum ≤ 8)
    (hw : ∀ (ri : Instr) (len : Nat), okR m i pc am ps ri len = true → pcq m (i + 1) = some (pc + 3) ∧ ∃ x, ri = .invokevirtual x ∧ len = 3 ∧ Cond.methodLink (mi_y m).cls x (mi_y mc) ∈ gtb) (hw2 : Cond.instanceMethod (mi_y mc) ∈ gtb ∧ Cond.selects (mi_y mc).cls (mi_y mc) (mi_y mc) ∈ gtb)
    (hX : X mc d 0 (entL (mi_mx mc) (.inr (.inr (some (am_sa + j))) :: As)) [] P Qc) (k : ∀ r P1, Qc r P1 → X m (d + 1) (i + 1) L (r.toList ++ st) P1 Q) : X m (d + 1) i L (As.reverse ++ .inr (.inr (some (am_sa + j))) :: st) P Q := by
  intro hokm p l e1 R s mid args below meth c D rt B n0 u0 hC hL ls H locs hH hl hS
  obtain ⟨ri, len, hd, ho⟩ := okM_at hokm hq
  have K := fun r P1 hQ => k r P1 hQ hokm p l e1 R s mid args below meth c D rt B n0 u0 hC hL ls
  obtain ⟨hx, hb, hml, hret, hlk, -, hown, hts, hK, hNc, hKS, hRT, hrm, hcap, hsz⟩ := id hC
  rw [pcO_at hq]
  subst hid
  obtain ⟨g, hg, e2, hB, hcd, hin, hmh, hsg⟩ := cb_of (P := P) hC hok
  have hrec := vk_recv (A := fun q => B ≤ q) hKS.2.2.1.1 hj hS
  rw [← hcl] at hrec
  obtain ⟨g1, x, rfl, rfl, g5⟩ := hw ri len ho
  rw [hg] at hn
  have hn2 : g.2.2.2.2.1 = As.length := Option.some.inj hn
  have hM := X_met (l := l.1) (D := D) l.2 hok hRT hlen hX
  have h4 := hH.2.2.2
  have hstk : List.map (tv rt) (As.reverse ++ .inr (.inr (some (am_sa + j))) :: st) = (As.map (tv rt)).reverse ++ .ref (rt (am_sa + j)) :: st.map (tv rt) := by rw [List.map_append, List.map_reverse]; rfl
  rw [hstk]
  refine W_tight hH.2.1 hH.2.2.1 hsz.1 hsz.2 (fun hg1 hg2 => ?_)
  refine X_after hC hH hS (va_runV (nL := mi_mx m) (n := As.length) (As := As.map (tv rt)) (b := rt (am_sa + j)) (rest := st.map (tv rt)) ⟨hx, hb, hml, hown, hts⟩ hM ⟨⟨hB.1, hB.2.1, hB.2.2.1, hB.2.2.2.1, hB.2.2.2.2.1, hB.2.2.2.2.2, hcd, hin, hmh, by rw [← hn2]; exact hsg, hts _ g5⟩, hts _ hw2.1, hts _ hw2.2⟩ ⟨xPc_blind, hrec, fun U hU hW => xPc_at hC hH hS (.inr (.inr (some (am_sa + j))) :: As) U hU hW⟩ rfl (by rw [List.length_map]) hl.1 rfl (lv_room (by rw [sum_c]; exact hst)) hd ⟨by omega, by omega⟩) (fun r P1 hQ H1 locs1 hH1 hS1 => ?_)
  show W p l e1 R s mid args below meth c H1 locs1 _ _ _ (F0 mid (pc + 3) ls _)
  rw [← pcO_of g1]
  exact K r P1 hQ H1 locs1 hH1 hl hS1
theorem okVS {mc : MI} {ri : Instr} {len : Nat} (hid : mi_id mc = n) (hg : (am_sg[n]?).map (fun g => g.1) = some (mi_y mc)) (h : okR m i pc (.invokevirtual n) ps ri len = true) : pcq m (i + 1) = some (pc + 3) ∧ ∃ x, ri = .invokevirtual x ∧ len = 3 ∧ Cond.methodLink (mi_y m).cls x (mi_y mc) ∈ gtb := by
  obtain ⟨g1, g2⟩ := ok_h h
  split at g2
  · next x =>
    obtain ⟨g3, g4⟩ := ok_h g2
    subst g3
    obtain ⟨g, hg1, hg2⟩ := Option.map_eq_some_iff.mp hg
    rw [hg1] at g4
    dsimp only at g4
    obtain ⟨g5, g6, g7⟩ := ok_3 g4
    rw [hg2] at g5
    exact ⟨g1, x, rfl, rfl, wq_in g5 rfl⟩
  · cases g2
theorem okK {y : MethodName} {ri : Instr} {len : Nat} (hn : 0 < n ∧ n < 5) (hy : am_sy[n]? = some y) (h : okR m i pc (.invokedynamic n) ps ri len = true) : pcq m (i + 1) = some (pc + 3) ∧ ∃ x, ri = .invokevirtual x ∧ len = 3 ∧ Cond.methodLink (mi_y m).cls x y ∈ gtb := by
  obtain ⟨g1, g2⟩ := ok_h h
  split at g2
  · next x =>
    obtain ⟨g3, g4⟩ := ok_h g2
    subst g3
    rw [hy] at g4
    dsimp only at g4
    obtain ⟨g5, g6⟩ := ok_2 g4
    omega
  · next x =>
    obtain ⟨g3, g4, g5⟩ := ok_hh g2
    subst g3
    rw [hy] at g5
    dsimp only at g5
    exact ⟨g1, x, rfl, rfl, wq_in (of_decide_eq_true g5) rfl⟩
  · cases g2
end XT
theorem sw_len : Cond.instanceMethod (mi_y m_S_length) ∈ gtb ∧ Cond.selects (mi_y m_S_length).cls (mi_y m_S_length) (mi_y m_S_length) ∈ gtb := by decide +kernel
theorem sw_cod : Cond.instanceMethod (mi_y m_S_coder) ∈ gtb ∧ Cond.selects (mi_y m_S_coder).cls (mi_y m_S_coder) (mi_y m_S_coder) ∈ gtb := by decide +kernel
theorem sw_emp : Cond.instanceMethod (mi_y m_S_isEmpty) ∈ gtb ∧ Cond.selects (mi_y m_S_isEmpty).cls (mi_y m_S_isEmpty) (mi_y m_S_isEmpty) ∈ gtb := by decide +kernel
theorem sw_chr : Cond.instanceMethod (mi_y m_S_charAt) ∈ gtb ∧ Cond.selects (mi_y m_S_charAt).cls (mi_y m_S_charAt) (mi_y m_S_charAt) ∈ gtb := by decide +kernel
theorem sw_lat : Cond.instanceMethod (mi_y m_S_isLatin1) ∈ gtb ∧ Cond.selects (mi_y m_S_isLatin1).cls (mi_y m_S_isLatin1) (mi_y m_S_isLatin1) ∈ gtb := by decide +kernel
theorem sw_ind : Cond.instanceMethod (mi_y m_S_indexOf) ∈ gtb ∧ Cond.selects (mi_y m_S_indexOf).cls (mi_y m_S_indexOf) (mi_y m_S_indexOf) ∈ gtb := by decide +kernel
theorem sw_in2 : Cond.instanceMethod (mi_y m_S_indexOf2) ∈ gtb ∧ Cond.selects (mi_y m_S_indexOf2).cls (mi_y m_S_indexOf2) (mi_y m_S_indexOf2) ∈ gtb := by decide +kernel
/-! the JDK's methods -/
theorem c_S_coder {d j : Nat} {P : AP} (hj : j < 36) : X m_S_coder d 0 (entL 1 [.inr (.inr (some (am_sa + j)))]) [] P (qI P 0) := by
  refine X_cst rfl ?_
  refine X_run 2 (i1 := 3) (L1 := [some (.inr (.inr (some (am_sa + j))))]) (st1 := [.inr (.inr (some (am_sa + j)))]) rfl ?_
  refine X_scod rfl hj ?_
  refine X_run 1 (i1 := 6) (L1 := [some (.inr (.inr (some (am_sa + j))))]) (st1 := [.inl 0]) rfl ?_
  exact X_tret rfl rfl rfl ⟨rfl, rfl⟩
theorem c_S_isLatin1 {d j : Nat} {P : AP} (hj : j < 36) : X m_S_isLatin1 d 0 (entL 1 [.inr (.inr (some (am_sa + j)))]) [] P (qI P 1) := by
  refine X_cst rfl ?_
  refine X_run 2 (i1 := 3) (L1 := [some (.inr (.inr (some (am_sa + j))))]) (st1 := [.inr (.inr (some (am_sa + j)))]) rfl ?_
  refine X_scod rfl hj ?_
  refine X_run 3 (i1 := 8) (L1 := [some (.inr (.inr (some (am_sa + j))))]) (st1 := [.inl 1]) rfl ?_
  exact X_zret rfl rfl (Or.inr rfl) ⟨rfl, rfl⟩
theorem sh0 (x : Int32) : x >>> ((0 : Int32) &&& 31) = x := by
  rw [show ((0 : Int32) &&& 31) = 0 from by decide]
  exact Int32.shiftRight_zero
theorem c_S_length {d j : Nat} {P : AP} (hj : j < 36) : X m_S_length (d + 1) 0 (entL 1 [.inr (.inr (some (am_sa + j)))]) [] P (qI P (stl (some (am_sa + j)))) := by
  refine X_run 1 (i1 := 1) (L1 := [some (.inr (.inr (some (am_sa + j))))]) (st1 := [.inr (.inr (some (am_sa + j)))]) rfl ?_
  refine X_sval rfl hj ?_
  refine X_vlen rfl hj ?_
  refine X_run 1 (i1 := 4) (L1 := [some (.inr (.inr (some (am_sa + j))))]) (st1 := [.inr (.inr (some (am_sa + j))), .inl (stl (some (am_sa + j)))]) rfl ?_
  refine X_callS m_S_coder (n := 255) (As := []) (st := [.inl (stl (some (am_sa + j)))]) ok_S_coder rfl rfl rfl hj rfl (Nat.le_of_ble_eq_true rfl) (Nat.le_of_ble_eq_true rfl) (fun ri len h => okVS (mc := m_S_coder) rfl rfl h) sw_cod (c_S_coder (d := d) hj) ?_
  rintro _ _ ⟨rfl, rfl⟩
  show X _ _ 5 [some (.inr (.inr (some (am_sa + j))))] [.inl 0, .inl (stl (some (am_sa + j)))] _ _
  refine X_run 1 (i1 := 6) (L1 := [some (.inr (.inr (some (am_sa + j))))]) (st1 := [.inl (stl (some (am_sa + j)) >>> ((0 : Int32) &&& 31))]) rfl ?_
  rw [sh0]
  exact X_iret rfl rfl ⟨rfl, rfl⟩
theorem ste_at (j : Nat) : cn1 .ne (stl (some (am_sa + j))) = !(ste (some (am_sa + j))) := by
  have h := sn_le j
  unfold ste stl cn1
  have e : (Int32.ofNat (stn (some (am_sa + j))) = 0) ↔ stn (some (am_sa + j)) = 0 := by
    rw [← Int32.toInt_inj, nt_sm (by omega)]
    show _ = ((0 : Int32).toInt) ↔ _
    rw [show ((0 : Int32).toInt) = 0 from rfl]
    omega
  simp only [e]
  by_cases g : stn (some (am_sa + j)) = 0 <;> simp [g]
theorem c_S_isEmpty {d j : Nat} {P : AP} (hj : j < 36) : X m_S_isEmpty d 0 (entL 1 [.inr (.inr (some (am_sa + j)))]) [] P (qI P (b2i (ste (some (am_sa + j))))) := by
  refine X_run 1 (i1 := 1) (L1 := [some (.inr (.inr (some (am_sa + j))))]) (st1 := [.inr (.inr (some (am_sa + j)))]) rfl ?_
  refine X_sval rfl hj ?_
  refine X_vlen rfl hj ?_
  refine X_run 1 (i1 := cond (cn1 .ne (stl (some (am_sa + j)))) 6 4) (L1 := [some (.inr (.inr (some (am_sa + j))))]) (st1 := []) rfl ?_
  rw [ste_at]
  cases ste (some (am_sa + j)) with
  | true =>
    refine X_run 2 (i1 := 7) (L1 := [some (.inr (.inr (some (am_sa + j))))]) (st1 := [.inl 1]) rfl ?_
    exact X_zret rfl rfl (Or.inr rfl) ⟨rfl, rfl⟩
  | false =>
    refine X_run 1 (i1 := 7) (L1 := [some (.inr (.inr (some (am_sa + j))))]) (st1 := [.inl 0]) rfl ?_
    exact X_zret rfl rfl (Or.inl rfl) ⟨rfl, rfl⟩
theorem c_PC_checkIndex {d : Nat} {P : AP} {x y : Int32} {o : Option Nat} (h1 : cn1 .lt x = false) (h2 : cn2 .lt x y = true) : X m_PC_checkIndex d 0 (entL 3 [.inl x, .inl y, .inr (.inr o)]) [] P (qI P x) := by
  refine X_run 2 (i1 := cond (cn1 .lt x) 5 2) (L1 := [some (.inl x), some (.inl y), some (.inr (.inr o))]) (st1 := []) rfl ?_
  rw [h1]
  refine X_run 3 (i1 := cond (cn2 .lt x y) 10 5) (L1 := [some (.inl x), some (.inl y), some (.inr (.inr o))]) (st1 := []) rfl ?_
  rw [h2]
  refine X_run 1 (i1 := 11) (L1 := [some (.inl x), some (.inl y), some (.inr (.inr o))]) (st1 := [.inl x]) rfl ?_
  exact X_iret rfl rfl ⟨rfl, rfl⟩
theorem c_S_checkIndex {d : Nat} {P : AP} {x y : Int32} (h1 : cn1 .lt x = false) (h2 : cn2 .lt x y = true) : X m_S_checkIndex (d + 1) 0 (entL 2 [.inl x, .inl y]) [] P (fun r P1 => r = none ∧ P1 = P) := by
  refine X_run 2 (i1 := 2) (L1 := [some (.inl x), some (.inl y)]) (st1 := [.inl y, .inl x]) rfl ?_
  refine X_sfm rfl (fun o => ?_)
  refine X_calls m_PC_checkIndex (As := [.inl x, .inl y, .inr (.inr o)]) (st := []) ok_PC_checkIndex rfl rfl rfl (Nat.le_of_ble_eq_true rfl) (Nat.le_of_ble_eq_true rfl) (c_PC_checkIndex (d := d) (o := o) h1 h2) ?_
  rintro _ _ ⟨rfl, rfl⟩
  show X _ _ 4 [some (.inl x), some (.inl y)] [.inl x] _ _
  refine X_run 1 (i1 := 5) (L1 := [some (.inl x), some (.inl y)]) (st1 := []) rfl ?_
  exact X_ret rfl rfl ⟨rfl, rfl⟩
theorem in_cn {x : Int32} {n : Nat} (hn : n ≤ 20) (h : vp_in x n) : cn1 .lt x = false ∧ cn2 .lt x (Int32.ofNat n) = true := by
  have h1 : ¬ x < 0 := fun z => h (Or.inl z)
  have h2 : x.toNatClampNeg < n := Nat.not_le.mp fun q => h (Or.inr q)
  refine ⟨decide_eq_false h1, decide_eq_true ?_⟩
  rw [Int32.lt_iff_toInt_lt, nt_sm (by omega), nn32 h1]
  omega
theorem stc_q {j : Nat} {x : Int32} (h : vp_in x (stn (some (am_sa + j)))) : sbq (stc (some (am_sa + j)) x) = true := by
  have h2 : x.toNatClampNeg < stn (some (am_sa + j)) := Nat.not_le.mp fun q => h (Or.inr q)
  unfold stn at h2
  unfold stc
  rw [sx_at] at h2 ⊢
  rw [List.getD_eq_getElem?_getD, List.getElem?_eq_getElem h2]
  exact sby_at.2 _ (List.getElem_mem h2)
theorem sbq_4 {b : Int32} (h : sbq b = true) : ((b &&& 255).toUInt32 % 65536).toInt32 = b ∧ 0 ≤ b ∧ b < 128 ∧ (b.toUInt32 % 65536).toInt32 = b := by
  unfold sbq at h
  simp only [Bool.and_eq_true, decide_eq_true_eq] at h
  exact ⟨h.1.1.1, h.1.1.2, h.1.2, h.2⟩
theorem c_SL_charAt {d j : Nat} {P : AP} {x : Int32} (hj : j < 36) (h : vp_in x (stn (some (am_sa + j)))) : X m_SL_charAt (d + 2) 0 (entL 2 [.inr (.inr (some (am_va + j))), .inl x]) [] P (qI P (stc (some (am_sa + j)) x)) := by
  obtain ⟨h1, h2⟩ := in_cn (sn_le j) h
  refine X_run 2 (i1 := 2) (L1 := [some (.inr (.inr (some (am_va + j)))), some (.inl x)]) (st1 := [.inr (.inr (some (am_va + j))), .inl x]) rfl ?_
  refine X_vlen rfl hj ?_
  refine X_calls m_S_checkIndex (As := [.inl x, .inl (stl (some (am_sa + j)))]) (st := []) ok_S_checkIndex rfl rfl rfl (Nat.le_of_ble_eq_true rfl) (Nat.le_of_ble_eq_true rfl) (c_S_checkIndex (d := d) h1 h2) ?_
  rintro _ _ ⟨rfl, rfl⟩
  show X _ _ 4 [some (.inr (.inr (some (am_va + j)))), some (.inl x)] [] _ _
  refine X_run 2 (i1 := 6) (L1 := [some (.inr (.inr (some (am_va + j)))), some (.inl x)]) (st1 := [.inl x, .inr (.inr (some (am_va + j)))]) rfl ?_
  refine X_vbld rfl hj h ?_
  refine X_run 3 (i1 := 10) (L1 := [some (.inr (.inr (some (am_va + j)))), some (.inl x)]) (st1 := [.inl (((stc (some (am_sa + j)) x &&& 255).toUInt32 % 65536).toInt32)]) rfl ?_
  obtain ⟨q1, q2, q3, q4⟩ := sbq_4 (stc_q h)
  rw [q1]
  exact X_tret rfl rfl (nar_c q4) ⟨rfl, rfl⟩
theorem c_S_charAt {d j : Nat} {P : AP} {x : Int32} (hj : j < 36) (h : vp_in x (stn (some (am_sa + j)))) : X m_S_charAt (d + 3) 0 (entL 2 [.inr (.inr (some (am_sa + j))), .inl x]) [] P (qI P (stc (some (am_sa + j)) x)) := by
  refine X_run 1 (i1 := 1) (L1 := [some (.inr (.inr (some (am_sa + j)))), some (.inl x)]) (st1 := [.inr (.inr (some (am_sa + j)))]) rfl ?_
  refine X_callS m_S_isLatin1 (n := 258) (As := []) (st := []) ok_S_isLatin1 rfl rfl rfl hj rfl (Nat.le_of_ble_eq_true rfl) (Nat.le_of_ble_eq_true rfl) (fun ri len h => okVS (mc := m_S_isLatin1) rfl rfl h) sw_lat (c_S_isLatin1 (d := d + 2) hj) ?_
  rintro _ _ ⟨rfl, rfl⟩
  show X _ _ 2 [some (.inr (.inr (some (am_sa + j)))), some (.inl x)] [.inl 1] _ _
  refine X_run 2 (i1 := 4) (L1 := [some (.inr (.inr (some (am_sa + j)))), some (.inl x)]) (st1 := [.inr (.inr (some (am_sa + j)))]) rfl ?_
  refine X_sval rfl hj ?_
  refine X_run 1 (i1 := 6) (L1 := [some (.inr (.inr (some (am_sa + j)))), some (.inl x)]) (st1 := [.inl x, .inr (.inr (some (am_va + j)))]) rfl ?_
  refine X_calls m_SL_charAt (As := [.inr (.inr (some (am_va + j))), .inl x]) (st := []) ok_SL_charAt rfl rfl rfl (Nat.le_of_ble_eq_true rfl) (Nat.le_of_ble_eq_true rfl) (c_SL_charAt (d := d) hj h) ?_
  rintro _ _ ⟨rfl, rfl⟩
  show X _ _ 7 [some (.inr (.inr (some (am_sa + j)))), some (.inl x)] [.inl (stc (some (am_sa + j)) x)] _ _
  obtain ⟨q1, q2, q3, q4⟩ := sbq_4 (stc_q h)
  exact X_tret rfl rfl (nar_c q4) ⟨rfl, rfl⟩
theorem c_SL_canEncode {d : Nat} {P : AP} (x : Int32) : X m_SL_canEncode d 0 (entL 1 [.inl x]) [] P (qI P (b2i (!(cn1 .lt x) && !(cn2 .gt x 255)))) := by
  refine X_run 2 (i1 := cond (cn1 .lt x) 7 2) (L1 := [some (.inl x)]) (st1 := []) rfl ?_
  cases cn1 .lt x with
  | true =>
    refine X_run 1 (i1 := 8) (L1 := [some (.inl x)]) (st1 := [.inl 0]) rfl ?_
    exact X_zret rfl rfl (Or.inl rfl) ⟨rfl, rfl⟩
  | false =>
    refine X_run 3 (i1 := cond (cn2 .gt x 255) 7 5) (L1 := [some (.inl x)]) (st1 := []) rfl ?_
    cases cn2 .gt x 255 with
    | true =>
      refine X_run 1 (i1 := 8) (L1 := [some (.inl x)]) (st1 := [.inl 0]) rfl ?_
      exact X_zret rfl rfl (Or.inl rfl) ⟨rfl, rfl⟩
    | false =>
      refine X_run 2 (i1 := 8) (L1 := [some (.inl x)]) (st1 := [.inl 1]) rfl ?_
      exact X_zret rfl rfl (Or.inr rfl) ⟨rfl, rfl⟩
theorem io_lp {d j : Nat} {P : AP} {x y : Int32} (hj : j < 36) : ∀ (l pre : List Int32), am_byt.getD j [] = pre ++ l → (∀ b ∈ l, b = y ↔ b = x) → X m_SL_indexOfChar d 5 [some (.inr (.inr (some (am_va + j)))), some (.inl x), some (.inl 0), some (.inl (stl (some (am_sa + j)))), some (.inl y), some (.inl (Int32.ofNat pre.length))] [] P (qI P (stf x l pre.length))
  | [], pre, hp, _ => by
    have hn : stl (some (am_sa + j)) = Int32.ofNat pre.length := by unfold stl stn; rw [sx_at, hp, List.append_nil]
    rw [hn]
    refine X_run 3 (i1 := cond (cn2 .ge (Int32.ofNat pre.length) (Int32.ofNat pre.length)) 17 8) (L1 := [some (.inr (.inr (some (am_va + j)))), some (.inl x), some (.inl 0), some (.inl (Int32.ofNat pre.length)), some (.inl y), some (.inl (Int32.ofNat pre.length))]) (st1 := []) rfl ?_
    rw [show cn2 .ge (Int32.ofNat pre.length) (Int32.ofNat pre.length) = true from decide_eq_true (Int32.le_refl _)]
    refine X_run 1 (i1 := 18) (L1 := [some (.inr (.inr (some (am_va + j)))), some (.inl x), some (.inl 0), some (.inl (Int32.ofNat pre.length)), some (.inl y), some (.inl (Int32.ofNat pre.length))]) (st1 := [.inl (-1)]) rfl ?_
    exact X_iret rfl rfl ⟨rfl, rfl⟩
  | b :: l, pre, hp, hb => by
    have hn : stn (some (am_sa + j)) = pre.length + (l.length + 1) := by unfold stn; rw [sx_at, hp]; simp
    have hle := sn_le j
    refine X_run 3 (i1 := cond (cn2 .ge (Int32.ofNat pre.length) (stl (some (am_sa + j)))) 17 8) (L1 := [some (.inr (.inr (some (am_va + j)))), some (.inl x), some (.inl 0), some (.inl (stl (some (am_sa + j)))), some (.inl y), some (.inl (Int32.ofNat pre.length))]) (st1 := []) rfl ?_
    rw [show cn2 .ge (Int32.ofNat pre.length) (stl (some (am_sa + j))) = false from decide_eq_false (by
      unfold stl
      rw [Int32.le_iff_toInt_le, nt_sm (by omega), nt_sm (by omega)]
      omega)]
    have hc : (Int32.ofNat pre.length).toNatClampNeg = pre.length := by
      show ((Int32.ofNat pre.length).toInt).toNat = _
      rw [nt_sm (by omega)]
      omega
    have hin : vp_in (Int32.ofNat pre.length) (stn (some (am_sa + j))) := by
      rintro (h | h)
      · rw [Int32.lt_iff_toInt_lt, nt_sm (by omega)] at h
        have : ((0 : Int32).toInt) = 0 := rfl
        omega
      · rw [hc] at h
        omega
    have hs : stc (some (am_sa + j)) (Int32.ofNat pre.length) = b := by
      unfold stc
      rw [sx_at, hc, hp, List.getD_eq_getElem?_getD, List.getElem?_append_right (Nat.le_refl _), Nat.sub_self]
      rfl
    refine X_run 2 (i1 := 10) (L1 := [some (.inr (.inr (some (am_va + j)))), some (.inl x), some (.inl 0), some (.inl (stl (some (am_sa + j)))), some (.inl y), some (.inl (Int32.ofNat pre.length))]) (st1 := [.inl (Int32.ofNat pre.length), .inr (.inr (some (am_va + j)))]) rfl ?_
    refine X_vbld rfl hj hin ?_
    rw [hs]
    refine X_run 2 (i1 := cond (cn2 .ne b y) 15 13) (L1 := [some (.inr (.inr (some (am_va + j)))), some (.inl x), some (.inl 0), some (.inl (stl (some (am_sa + j)))), some (.inl y), some (.inl (Int32.ofNat pre.length))]) (st1 := []) rfl ?_
    by_cases e : b = x
    · rw [show cn2 .ne b y = false from decide_eq_false (fun z => z ((hb b List.mem_cons_self).mpr e))]
      refine X_run 1 (i1 := 14) (L1 := [some (.inr (.inr (some (am_va + j)))), some (.inl x), some (.inl 0), some (.inl (stl (some (am_sa + j)))), some (.inl y), some (.inl (Int32.ofNat pre.length))]) (st1 := [.inl (Int32.ofNat pre.length)]) rfl ?_
      refine X_iret rfl rfl ⟨?_, rfl⟩
      unfold stf
      rw [if_pos e]
    · rw [show cn2 .ne b y = true from decide_eq_true (fun z => e ((hb b List.mem_cons_self).mp z))]
      refine X_run 2 (i1 := 5) (L1 := [some (.inr (.inr (some (am_va + j)))), some (.inl x), some (.inl 0), some (.inl (stl (some (am_sa + j)))), some (.inl y), some (.inl (Int32.ofNat pre.length + Int32.ofInt 1))]) (st1 := []) rfl ?_
      have ih := io_lp (d := d) (P := P) (x := x) (y := y) hj l (pre ++ [b]) (by rw [hp, List.append_assoc]; rfl) (fun c hc => hb c (List.mem_cons_of_mem _ hc))
      rw [List.length_append] at ih
      have e2 : Int32.ofNat (pre.length + [b].length) = Int32.ofNat pre.length + Int32.ofInt 1 := Int32.ofNat_add _ _
      rw [e2] at ih
      have e3 : stf x (b :: l) pre.length = stf x l (pre.length + [b].length) := by
        show (if b = x then _ else _) = _
        rw [if_neg e]
        rfl
      rw [e3]
      exact ih
theorem c_SL_indexOfChar {d j : Nat} {P : AP} {x : Int32} (hj : j < 36) (h1 : cn1 .lt x = false) (h2 : cn2 .gt x 255 = false) : X m_SL_indexOfChar d 0 (entL 6 [.inr (.inr (some (am_va + j))), .inl x, .inl 0, .inl (stl (some (am_sa + j)))]) [] P (qI P (sti (some (am_sa + j)) x)) := by
  refine X_run 5 (i1 := 5) (L1 := [some (.inr (.inr (some (am_va + j)))), some (.inl x), some (.inl 0), some (.inl (stl (some (am_sa + j)))), some (.inl x.toInt8.toInt32), some (.inl 0)]) (st1 := []) rfl ?_
  have hx1 := j_lt_f h1
  have hx2 := i_gt_f h2
  have hx3 : ((255 : Int32).toInt) = 255 := rfl
  have := io_lp (d := d) (P := P) (x := x) (y := x.toInt8.toInt32) hj (am_byt.getD j []) [] rfl (fun b hb => by
    obtain ⟨-, q2, q3, -⟩ := sbq_4 (sby_at.2 b hb)
    rw [Int32.le_iff_toInt_le] at q2
    rw [Int32.lt_iff_toInt_lt] at q3
    have e0 : ((0 : Int32).toInt) = 0 := rfl
    have e1 : ((128 : Int32).toInt) = 128 := rfl
    rw [← Int32.toInt_inj, ← Int32.toInt_inj, Int8.toInt_toInt32, Int32.toInt_toInt8]
    have hbm : Int.bmod x.toInt (2 ^ 8) = if x.toInt < 128 then x.toInt else x.toInt - 256 := by
      unfold Int.bmod
      have : x.toInt % ((2 ^ 8 : Nat) : Int) = x.toInt := Int.emod_eq_of_lt hx1 (by omega)
      rw [this]
      by_cases g : x.toInt < 128
      · rw [if_pos (by omega), if_pos g]
      · rw [if_neg (by omega), if_neg g]; rfl
    rw [hbm]
    split <;> omega)
  unfold sti
  rw [sx_at]
  exact this
theorem stf_no {x : Int32} : ∀ (l : List Int32) (k : Nat), (∀ b ∈ l, ¬ b = x) → stf x l k = -1
  | [], _, _ => rfl
  | b :: l, k, h => by
    show (if b = x then _ else _) = _
    rw [if_neg (h b List.mem_cons_self)]
    exact stf_no l (k + 1) (fun c hc => h c (List.mem_cons_of_mem _ hc))
theorem c_SL_indexOf {d j : Nat} {P : AP} (x : Int32) (hj : j < 36) : X m_SL_indexOf (d + 1) 0 (entL 4 [.inr (.inr (some (am_va + j))), .inl x, .inl 0, .inl (stl (some (am_sa + j)))]) [] P (qI P (sti (some (am_sa + j)) x)) := by
  refine X_run 1 (i1 := 1) (L1 := [some (.inr (.inr (some (am_va + j)))), some (.inl x), some (.inl 0), some (.inl (stl (some (am_sa + j))))]) (st1 := [.inl x]) rfl ?_
  refine X_calls m_SL_canEncode (As := [.inl x]) (st := []) ok_SL_canEncode rfl rfl rfl (Nat.le_of_ble_eq_true rfl) (Nat.le_of_ble_eq_true rfl) (c_SL_canEncode (d := d) x) ?_
  rintro _ _ ⟨rfl, rfl⟩
  show X _ _ 2 [some (.inr (.inr (some (am_va + j)))), some (.inl x), some (.inl 0), some (.inl (stl (some (am_sa + j))))] [.inl (b2i (!(cn1 .lt x) && !(cn2 .gt x 255)))] _ _
  cases hc : (!(cn1 .lt x) && !(cn2 .gt x 255)) with
  | false =>
    refine X_run 2 (i1 := 4) (L1 := [some (.inr (.inr (some (am_va + j)))), some (.inl x), some (.inl 0), some (.inl (stl (some (am_sa + j))))]) (st1 := [.inl (-1)]) rfl ?_
    refine X_iret rfl rfl ⟨?_, rfl⟩
    unfold sti
    rw [sx_at, stf_no _ _ (fun b hb e => ?_)]
    obtain ⟨-, q2, q3, -⟩ := sbq_4 (sby_at.2 b hb)
    subst e
    have g1 : cn1 .lt b = false := decide_eq_false (Int32.not_lt.mpr q2)
    have g2 : cn2 .gt b 255 = false := decide_eq_false (by
      rw [Int32.lt_iff_toInt_lt] at q3 ⊢
      have e1 : ((128 : Int32).toInt) = 128 := rfl
      have e2 : ((255 : Int32).toInt) = 255 := rfl
      omega)
    rw [g1, g2] at hc
    cases hc
  | true =>
    obtain ⟨h1, h2⟩ := Bool.and_eq_true_iff.mp hc
    have h1 : cn1 .lt x = false := by simpa using h1
    have h2 : cn2 .gt x 255 = false := by simpa using h2
    refine X_run 3 (i1 := 7) (L1 := [some (.inr (.inr (some (am_va + j)))), some (.inl x), some (.inl 0), some (.inl (stl (some (am_sa + j))))]) (st1 := [.inl 0, .inl 0]) rfl ?_
    refine X_mmax rfl (Nat.le_of_ble_eq_true rfl) ?_
    refine X_run 3 (i1 := 11) (L1 := [some (.inr (.inr (some (am_va + j)))), some (.inl x), some (.inl 0), some (.inl (stl (some (am_sa + j))))]) (st1 := [.inr (.inr (some (am_va + j))), .inl (stl (some (am_sa + j)))]) rfl ?_
    refine X_vlen rfl hj ?_
    refine X_mmin rfl (Nat.le_of_ble_eq_true rfl) ?_
    rw [if_neg (fun h => Int32.lt_irrefl h)]
    refine X_run 4 (i1 := cond (cn2 .lt 0 (stl (some (am_sa + j)))) 19 17) (L1 := [some (.inr (.inr (some (am_va + j)))), some (.inl x), some (.inl 0), some (.inl (stl (some (am_sa + j))))]) (st1 := []) rfl ?_
    cases hl : cn2 .lt 0 (stl (some (am_sa + j))) with
    | false =>
      refine X_run 1 (i1 := 18) (L1 := [some (.inr (.inr (some (am_va + j)))), some (.inl x), some (.inl 0), some (.inl (stl (some (am_sa + j))))]) (st1 := [.inl (-1)]) rfl ?_
      refine X_iret rfl rfl ⟨?_, rfl⟩
      have h3 := i_lt_f hl
      have h4 := sn_le j
      unfold stl at h3
      rw [nt_sm (by omega)] at h3
      have e1 : ((0 : Int32).toInt) = 0 := rfl
      unfold sti
      have h5 : stx (some (am_sa + j)) = [] := List.eq_nil_of_length_eq_zero (by unfold stn at h3; omega)
      rw [h5]
      rfl
    | true =>
      refine X_run 4 (i1 := 23) (L1 := [some (.inr (.inr (some (am_va + j)))), some (.inl x), some (.inl 0), some (.inl (stl (some (am_sa + j))))]) (st1 := [.inl (stl (some (am_sa + j))), .inl 0, .inl x, .inr (.inr (some (am_va + j)))]) rfl ?_
      refine X_calls m_SL_indexOfChar (As := [.inr (.inr (some (am_va + j))), .inl x, .inl 0, .inl (stl (some (am_sa + j)))]) (st := []) ok_SL_indexOfChar rfl rfl rfl (Nat.le_of_ble_eq_true rfl) (Nat.le_of_ble_eq_true rfl) (c_SL_indexOfChar (d := d) hj h1 h2) ?_
      rintro _ _ ⟨rfl, rfl⟩
      exact X_iret rfl rfl ⟨rfl, rfl⟩
theorem c_S_indexOf2 {d j : Nat} {P : AP} (x : Int32) (hj : j < 36) : X m_S_indexOf2 (d + 2) 0 (entL 3 [.inr (.inr (some (am_sa + j))), .inl x, .inl 0]) [] P (qI P (sti (some (am_sa + j)) x)) := by
  refine X_run 1 (i1 := 1) (L1 := [some (.inr (.inr (some (am_sa + j)))), some (.inl x), some (.inl 0)]) (st1 := [.inr (.inr (some (am_sa + j)))]) rfl ?_
  refine X_callS m_S_isLatin1 (n := 258) (As := []) (st := []) ok_S_isLatin1 rfl rfl rfl hj rfl (Nat.le_of_ble_eq_true rfl) (Nat.le_of_ble_eq_true rfl) (fun ri len h => okVS (mc := m_S_isLatin1) rfl rfl h) sw_lat (c_S_isLatin1 (d := d + 1) hj) ?_
  rintro _ _ ⟨rfl, rfl⟩
  show X _ _ 2 [some (.inr (.inr (some (am_sa + j)))), some (.inl x), some (.inl 0)] [.inl 1] _ _
  refine X_run 2 (i1 := 4) (L1 := [some (.inr (.inr (some (am_sa + j)))), some (.inl x), some (.inl 0)]) (st1 := [.inr (.inr (some (am_sa + j)))]) rfl ?_
  refine X_sval rfl hj ?_
  refine X_run 3 (i1 := 8) (L1 := [some (.inr (.inr (some (am_sa + j)))), some (.inl x), some (.inl 0)]) (st1 := [.inr (.inr (some (am_sa + j))), .inl 0, .inl x, .inr (.inr (some (am_va + j)))]) rfl ?_
  refine X_callS m_S_length (n := 254) (As := []) (st := [.inl 0, .inl x, .inr (.inr (some (am_va + j)))]) ok_S_length rfl rfl rfl hj rfl (Nat.le_of_ble_eq_true rfl) (Nat.le_of_ble_eq_true rfl) (fun ri len h => okVS (mc := m_S_length) rfl rfl h) sw_len (c_S_length (d := d) hj) ?_
  rintro _ _ ⟨rfl, rfl⟩
  refine X_calls m_SL_indexOf (As := [.inr (.inr (some (am_va + j))), .inl x, .inl 0, .inl (stl (some (am_sa + j)))]) (st := []) ok_SL_indexOf rfl rfl rfl (Nat.le_of_ble_eq_true rfl) (Nat.le_of_ble_eq_true rfl) (c_SL_indexOf (d := d) x hj) ?_
  rintro _ _ ⟨rfl, rfl⟩
  show X _ _ 10 [some (.inr (.inr (some (am_sa + j)))), some (.inl x), some (.inl 0)] [.inl (sti (some (am_sa + j)) x)] _ _
  refine X_run 1 (i1 := 18) (L1 := [some (.inr (.inr (some (am_sa + j)))), some (.inl x), some (.inl 0)]) (st1 := [.inl (sti (some (am_sa + j)) x)]) rfl ?_
  exact X_iret rfl rfl ⟨rfl, rfl⟩
theorem c_S_indexOf {d j : Nat} {P : AP} (x : Int32) (hj : j < 36) : X m_S_indexOf (d + 3) 0 (entL 2 [.inr (.inr (some (am_sa + j))), .inl x]) [] P (qI P (sti (some (am_sa + j)) x)) := by
  refine X_run 3 (i1 := 3) (L1 := [some (.inr (.inr (some (am_sa + j)))), some (.inl x)]) (st1 := [.inl 0, .inl x, .inr (.inr (some (am_sa + j)))]) rfl ?_
  refine X_callS m_S_indexOf2 (n := 263) (As := [.inl x, .inl 0]) (st := []) ok_S_indexOf2 rfl rfl rfl hj rfl (Nat.le_of_ble_eq_true rfl) (Nat.le_of_ble_eq_true rfl) (fun ri len h => okVS (mc := m_S_indexOf2) rfl rfl h) sw_in2 (c_S_indexOf2 (d := d) x hj) ?_
  rintro _ _ ⟨rfl, rfl⟩
  exact X_iret rfl rfl ⟨rfl, rfl⟩
section XT
variable {m : MI} {d i : Nat} {L : AL} {st : List AV} {Q : Option AV → AP → Prop} {pc : Nat} {ps : List Nat} {P : AP} {o : Option Nat}
theorem X_slen (hq : (mi_cd m)[i]? = some (pc, .invokedynamic 1, ps)) (hst : (st.map av_c).sum ≤ 8) (h : sk o) (k : X m (d + 4) (i + 1) L (.inl (stl o) :: st) P Q) : X m (d + 4) i L (.inr (.inr o) :: st) P Q := by
  obtain ⟨j, hj, rfl⟩ := h
  refine X_callS m_S_length (n := 254) (As := []) ok_S_length hq rfl rfl hj rfl (Nat.le_of_ble_eq_true rfl) hst (fun ri len h => okK (y := mi_y m_S_length) ⟨Nat.le_of_ble_eq_true rfl, Nat.le_of_ble_eq_true rfl⟩ rfl h) sw_len (c_S_length (d := d + 2) hj) ?_
  rintro _ _ ⟨rfl, rfl⟩
  exact k
theorem X_sempty (hq : (mi_cd m)[i]? = some (pc, .invokedynamic 2, ps)) (hst : (st.map av_c).sum ≤ 8) (h : sk o) (k : X m (d + 4) (i + 1) L (.inl (b2i (ste o)) :: st) P Q) : X m (d + 4) i L (.inr (.inr o) :: st) P Q := by
  obtain ⟨j, hj, rfl⟩ := h
  refine X_callS m_S_isEmpty (n := 256) (As := []) ok_S_isEmpty hq rfl rfl hj rfl (Nat.le_of_ble_eq_true rfl) hst (fun ri len h => okK (y := mi_y m_S_isEmpty) ⟨Nat.le_of_ble_eq_true rfl, Nat.le_of_ble_eq_true rfl⟩ rfl h) sw_emp (c_S_isEmpty (d := d + 3) hj) ?_
  rintro _ _ ⟨rfl, rfl⟩
  exact k
theorem X_schar {j : Int32} (hq : (mi_cd m)[i]? = some (pc, .invokedynamic 3, ps)) (hst : (st.map av_c).sum ≤ 8) (h : sk o) (hin : vp_in j (stn o)) (k : X m (d + 4) (i + 1) L (.inl (stc o j) :: st) P Q) : X m (d + 4) i L (.inl j :: .inr (.inr o) :: st) P Q := by
  obtain ⟨q, hq1, rfl⟩ := h
  refine X_callS m_S_charAt (n := 257) (As := [.inl j]) ok_S_charAt hq rfl rfl hq1 rfl (Nat.le_of_ble_eq_true rfl) hst (fun ri len h => okK (y := mi_y m_S_charAt) ⟨Nat.le_of_ble_eq_true rfl, Nat.le_of_ble_eq_true rfl⟩ rfl h) sw_chr (c_S_charAt (d := d) hq1 hin) ?_
  rintro _ _ ⟨rfl, rfl⟩
  exact k
theorem X_sindex {j : Int32} (hq : (mi_cd m)[i]? = some (pc, .invokedynamic 4, ps)) (hst : (st.map av_c).sum ≤ 8) (h : sk o) (k : X m (d + 4) (i + 1) L (.inl (sti o j) :: st) P Q) : X m (d + 4) i L (.inl j :: .inr (.inr o) :: st) P Q := by
  obtain ⟨q, hq1, rfl⟩ := h
  refine X_callS m_S_indexOf (n := 262) (As := [.inl j]) ok_S_indexOf hq rfl rfl hq1 rfl (Nat.le_of_ble_eq_true rfl) hst (fun ri len h => okK (y := mi_y m_S_indexOf) ⟨Nat.le_of_ble_eq_true rfl, Nat.le_of_ble_eq_true rfl⟩ rfl h) sw_ind (c_S_indexOf (d := d) j hq1) ?_
  rintro _ _ ⟨rfl, rfl⟩
  exact k
end XT
