/-! String constants -/
def stx (o : Option Nat) : List Int32 := match o with
  | some a => am_byt.getD (a - am_sa) []
  | none => []
def sk (o : Option Nat) : Prop := ∃ k, k < 36 ∧ o = some (am_sa + k)
def stn (o : Option Nat) : Nat := (stx o).length
def stl (o : Option Nat) : Int32 := Int32.ofNat (stn o)
def ste (o : Option Nat) : Bool := decide (stn o = 0)
def stc (o : Option Nat) (j : Int32) : Int32 := (stx o).getD j.toNatClampNeg 0
def stf (c : Int32) : List Int32 → Nat → Int32
  | [], _ => -1
  | b :: l, k => if b = c then Int32.ofNat k else stf c l (k + 1)
def sti (o : Option Nat) (c : Int32) : Int32 := stf c (stx o) 0
section XT
variable {m : MI} {d i : Nat} {L : AL} {st : List AV} {Q : Option AV → AP → Prop} {pc : Nat} {ps : List Nat} {P : AP} {o : Option Nat}
theorem X_slen (hq : (mi_cd m)[i]? = some (pc, .invokedynamic 1, ps)) (hst : (st.map av_c).sum ≤ 8) (h : sk o) (k : X m (d + 4) (i + 1) L (.inl (stl o) :: st) P Q) : X m (d + 4) i L (.inr (.inr o) :: st) P Q := by sorry
theorem X_sempty (hq : (mi_cd m)[i]? = some (pc, .invokedynamic 2, ps)) (hst : (st.map av_c).sum ≤ 8) (h : sk o) (k : X m (d + 4) (i + 1) L (.inl (b2i (ste o)) :: st) P Q) : X m (d + 4) i L (.inr (.inr o) :: st) P Q := by sorry
theorem X_schar {j : Int32} (hq : (mi_cd m)[i]? = some (pc, .invokedynamic 3, ps)) (hst : (st.map av_c).sum ≤ 8) (h : sk o) (hin : vp_in j (stn o)) (k : X m (d + 4) (i + 1) L (.inl (stc o j) :: st) P Q) : X m (d + 4) i L (.inl j :: .inr (.inr o) :: st) P Q := by sorry
theorem X_sindex {j : Int32} (hq : (mi_cd m)[i]? = some (pc, .invokedynamic 4, ps)) (hst : (st.map av_c).sum ≤ 8) (h : sk o) (k : X m (d + 4) (i + 1) L (.inl (sti o j) :: st) P Q) : X m (d + 4) i L (.inl j :: .inr (.inr o) :: st) P Q := by sorry
end XT
