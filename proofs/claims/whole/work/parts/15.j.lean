/-! locals handed on at the head of a loop within a loop -/
def jI : List (Nat × Int32) → Nat → Int32
  | [], _ => 0
  | (k, v) :: r, j => if j = k then v else jI r j
def jL : List (Nat × Int64) → Nat → Int64
  | [], _ => 0
  | (k, v) :: r, j => if j = k then v else jL r j
def jR : List (Nat × Option Nat) → Nat → Option Nat
  | [], _ => none
  | (k, v) :: r, j => if j = k then v else jR r j
