/-! class tables, out of the printed names -/
def RX0 : String := "PatchHouse$Engine"
def TX0 : u_T := fun k => match k with
  | 0 => ("PatchHouse$Engine", "patches", "LPatchHouse$Patches;", true)
  | 1 => ("PatchHouse$Engine", "code", "[B", true)
  | 2 => ("PatchHouse$Engine", "ops", "LPatchHouse$Ops;", true)
  | 3 => ("PatchHouse$Engine", "ledger", "LPatchHouse$Ledger;", true)
  | 4 => ("PatchHouse$Engine", "role", "[I", true)
  | 5 => ("PatchHouse$Engine", "opening", "[I", true)
  | 6 => ("PatchHouse$Engine", "next", "[I", true)
  | 7 => ("PatchHouse$Engine", "end", "[I", true)
  | 8 => ("PatchHouse$Engine", "heldKind", "[I", true)
  | 9 => ("PatchHouse$Engine", "heldNumber", "[I", true)
  | 10 => ("PatchHouse$Engine", "saved", "[LPatchHouse$Thing;", true)
  | 11 => ("PatchHouse$Engine", "twins", "[LPatchHouse$Thing;", true)
  | 12 => ("PatchHouse$Engine", "depth", "I", false)
  | _ => ("PatchHouse$Engine", "openPatches", "I", false)
def tyX0 : Nat → FieldType := fun k => match k with
  | 0 => .object "PatchHouse$Patches"
  | 1 => .array .byte
  | 2 => .object "PatchHouse$Ops"
  | 3 => .object "PatchHouse$Ledger"
  | 4 => .array .int
  | 5 => .array .int
  | 6 => .array .int
  | 7 => .array .int
  | 8 => .array .int
  | 9 => .array .int
  | 10 => .array (.object "PatchHouse$Thing")
  | 11 => .array (.object "PatchHouse$Thing")
  | 12 => .int
  | _ => .int
theorem nmX0 : ∀ a, a < 14 → ∀ b, b < 14 → a ≠ b → (TX0 a).2.1 ≠ (TX0 b).2.1 := by decide +kernel
theorem tyX0_ok : ∀ k, k < 14 → parseFieldDescriptor (TX0 k).2.2.1 = some (tyX0 k) := by decide +kernel
def RX1 : String := "PatchHouse$Form"
def TX1 : u_T := fun k => match k with
  | 0 => ("PatchHouse$Form", "tape", "[B", true)
  | 1 => ("PatchHouse$Form", "out", "[B", true)
  | 2 => ("PatchHouse$Form", "tapeLength", "I", false)
  | 3 => ("PatchHouse$Form", "outLength", "I", false)
  | 4 => ("PatchHouse$Form", "ledger", "LPatchHouse$Ledger;", true)
  | 5 => ("PatchHouse$Form", "place", "I", false)
  | 6 => ("PatchHouse$Form", "end", "I", false)
  | _ => ("PatchHouse$Form", "outFault", "I", false)
def tyX1 : Nat → FieldType := fun k => match k with
  | 0 => .array .byte
  | 1 => .array .byte
  | 2 => .int
  | 3 => .int
  | 4 => .object "PatchHouse$Ledger"
  | 5 => .int
  | 6 => .int
  | _ => .int
theorem nmX1 : ∀ a, a < 8 → ∀ b, b < 8 → a ≠ b → (TX1 a).2.1 ≠ (TX1 b).2.1 := by decide +kernel
theorem tyX1_ok : ∀ k, k < 8 → parseFieldDescriptor (TX1 k).2.2.1 = some (tyX1 k) := by decide +kernel
def RX2 : String := "PatchHouse$Ledger"
def TX2 : u_T := fun k => match k with
  | 0 => ("PatchHouse$Ledger", "made", "I", false)
  | 1 => ("PatchHouse$Ledger", "full", "Z", false)
  | 2 => ("PatchHouse$Ledger", "fuel", "I", false)
  | 3 => ("PatchHouse$Ledger", "stop", "I", false)
  | 4 => ("PatchHouse$Ledger", "kind", "I", false)
  | _ => ("PatchHouse$Ledger", "number", "I", false)
def tyX2 : Nat → FieldType := fun k => match k with
  | 0 => .int
  | 1 => .boolean
  | 2 => .int
  | 3 => .int
  | 4 => .int
  | _ => .int
theorem nmX2 : ∀ a, a < 6 → ∀ b, b < 6 → a ≠ b → (TX2 a).2.1 ≠ (TX2 b).2.1 := by decide +kernel
theorem tyX2_ok : ∀ k, k < 6 → parseFieldDescriptor (TX2 k).2.2.1 = some (tyX2 k) := by decide +kernel
def RX3 : String := "PatchHouse$Ops"
def TX3 : u_T := fun k => match k with
  | 0 => ("PatchHouse$Ops", "numbers", "[I", true)
  | 1 => ("PatchHouse$Ops", "reals", "[J", true)
  | 2 => ("PatchHouse$Ops", "slots", "[LPatchHouse$Thing;", true)
  | 3 => ("PatchHouse$Ops", "code", "[B", true)
  | 4 => ("PatchHouse$Ops", "ledger", "LPatchHouse$Ledger;", true)
  | _ => ("PatchHouse$Ops", "place", "I", false)
def tyX3 : Nat → FieldType := fun k => match k with
  | 0 => .array .int
  | 1 => .array .long
  | 2 => .array (.object "PatchHouse$Thing")
  | 3 => .array .byte
  | 4 => .object "PatchHouse$Ledger"
  | _ => .int
theorem nmX3 : ∀ a, a < 6 → ∀ b, b < 6 → a ≠ b → (TX3 a).2.1 ≠ (TX3 b).2.1 := by decide +kernel
theorem tyX3_ok : ∀ k, k < 6 → parseFieldDescriptor (TX3 k).2.2.1 = some (tyX3 k) := by decide +kernel
def RX4 : String := "PatchHouse$Part"
def TX4 : u_T := fun k => match k with
  | 0 => ("PatchHouse$Part", "partClass", "I", true)
  | 1 => ("PatchHouse$Part", "count", "I", false)
  | 2 => ("PatchHouse$Part", "weight", "J", false)
  | 3 => ("PatchHouse$Part", "price", "I", false)
  | _ => ("PatchHouse$Part", "inner", "LPatchHouse$Shelf;", false)
def tyX4 : Nat → FieldType := fun k => match k with
  | 0 => .int
  | 1 => .int
  | 2 => .long
  | 3 => .int
  | _ => .object "PatchHouse$Shelf"
theorem nmX4 : ∀ a, a < 5 → ∀ b, b < 5 → a ≠ b → (TX4 a).2.1 ≠ (TX4 b).2.1 := by decide +kernel
theorem tyX4_ok : ∀ k, k < 5 → parseFieldDescriptor (TX4 k).2.2.1 = some (tyX4 k) := by decide +kernel
def RX5 : String := "PatchHouse$Patches"
def TX5 : u_T := fun k => match k with
  | 0 => ("PatchHouse$Patches", "code", "[B", true)
  | _ => ("PatchHouse$Patches", "lengths", "[I", true)
def tyX5 : Nat → FieldType := fun k => match k with
  | 0 => .array .byte
  | _ => .array .int
theorem nmX5 : ∀ a, a < 2 → ∀ b, b < 2 → a ≠ b → (TX5 a).2.1 ≠ (TX5 b).2.1 := by decide +kernel
theorem tyX5_ok : ∀ k, k < 2 → parseFieldDescriptor (TX5 k).2.2.1 = some (tyX5 k) := by decide +kernel
def RX7 : String := "PatchHouse$Row"
def TX7 : u_T := fun k => match k with
  | 0 => ("PatchHouse$Row", "width", "I", true)
  | _ => ("PatchHouse$Row", "members", "[J", true)
def tyX7 : Nat → FieldType := fun k => match k with
  | 0 => .int
  | _ => .array .long
theorem nmX7 : ∀ a, a < 2 → ∀ b, b < 2 → a ≠ b → (TX7 a).2.1 ≠ (TX7 b).2.1 := by decide +kernel
theorem tyX7_ok : ∀ k, k < 2 → parseFieldDescriptor (TX7 k).2.2.1 = some (tyX7 k) := by decide +kernel
def RX8 : String := "PatchHouse$Shelf"
def TX8 : u_T := fun k => match k with
  | 0 => ("PatchHouse$Shelf", "boxClass", "I", true)
  | _ => ("PatchHouse$Shelf", "members", "[LPatchHouse$Thing;", true)
def tyX8 : Nat → FieldType := fun k => match k with
  | 0 => .int
  | _ => .array (.object "PatchHouse$Thing")
theorem nmX8 : ∀ a, a < 2 → ∀ b, b < 2 → a ≠ b → (TX8 a).2.1 ≠ (TX8 b).2.1 := by decide +kernel
theorem tyX8_ok : ∀ k, k < 2 → parseFieldDescriptor (TX8 k).2.2.1 = some (tyX8 k) := by decide +kernel
def RX9 : String := "PatchHouse$Thing"
def RX10 : String := "PatchHouse$Trouble"
def TX10 : u_T := fun k => match k with
  | _ => ("PatchHouse$Trouble", "number", "I", true)
def tyX10 : Nat → FieldType := fun k => match k with
  | _ => .int
theorem nmX10 : ∀ a, a < 1 → ∀ b, b < 1 → a ≠ b → (TX10 a).2.1 ≠ (TX10 b).2.1 := by decide +kernel
theorem tyX10_ok : ∀ k, k < 1 → parseFieldDescriptor (TX10 k).2.2.1 = some (tyX10 k) := by decide +kernel
def RX11 : String := "PatchHouse"
def TX11 : u_T := fun k => match k with
  | 0 => ("PatchHouse", "ledger", "LPatchHouse$Ledger;", true)
  | 1 => ("PatchHouse", "form", "LPatchHouse$Form;", true)
  | 2 => ("PatchHouse", "patches", "LPatchHouse$Patches;", true)
  | 3 => ("PatchHouse", "ops", "LPatchHouse$Ops;", true)
  | 4 => ("PatchHouse", "engine", "LPatchHouse$Engine;", true)
  | 5 => ("PatchHouse", "lastKind", "I", false)
  | 6 => ("PatchHouse", "lastNumber", "I", false)
  | _ => ("PatchHouse", "lastFuel", "I", false)
def tyX11 : Nat → FieldType := fun k => match k with
  | 0 => .object "PatchHouse$Ledger"
  | 1 => .object "PatchHouse$Form"
  | 2 => .object "PatchHouse$Patches"
  | 3 => .object "PatchHouse$Ops"
  | 4 => .object "PatchHouse$Engine"
  | 5 => .int
  | 6 => .int
  | _ => .int
theorem nmX11 : ∀ a, a < 8 → ∀ b, b < 8 → a ≠ b → (TX11 a).2.1 ≠ (TX11 b).2.1 := by decide +kernel
theorem tyX11_ok : ∀ k, k < 8 → parseFieldDescriptor (TX11 k).2.2.1 = some (tyX11 k) := by decide +kernel
def RX12 : String := "PatchHouseModel"
def TX12 : u_T := fun k => match k with
  | 0 => ("PatchHouseModel", "thrown", "I", false)
  | 1 => ("PatchHouseModel", "kind", "[I", true)
  | 2 => ("PatchHouseModel", "start", "[I", true)
  | 3 => ("PatchHouseModel", "many", "[I", true)
  | 4 => ("PatchHouseModel", "sort", "[I", true)
  | 5 => ("PatchHouseModel", "cells", "[J", true)
  | 6 => ("PatchHouseModel", "things", "I", false)
  | 7 => ("PatchHouseModel", "used", "I", false)
  | 8 => ("PatchHouseModel", "made", "I", false)
  | 9 => ("PatchHouseModel", "faultKind", "I", false)
  | 10 => ("PatchHouseModel", "faultNumber", "I", false)
  | 11 => ("PatchHouseModel", "fuel", "I", false)
  | 12 => ("PatchHouseModel", "given", "I", false)
  | 13 => ("PatchHouseModel", "endKind", "I", false)
  | 14 => ("PatchHouseModel", "endNumber", "I", false)
  | 15 => ("PatchHouseModel", "isFull", "Z", false)
  | 16 => ("PatchHouseModel", "slot", "[I", true)
  | 17 => ("PatchHouseModel", "number", "[I", true)
  | 18 => ("PatchHouseModel", "real", "[J", true)
  | 19 => ("PatchHouseModel", "code", "[I", true)
  | 20 => ("PatchHouseModel", "size", "[I", true)
  | 21 => ("PatchHouseModel", "tape", "[I", true)
  | 22 => ("PatchHouseModel", "out", "[I", true)
  | 23 => ("PatchHouseModel", "taped", "I", false)
  | 24 => ("PatchHouseModel", "outs", "I", false)
  | 25 => ("PatchHouseModel", "deep", "I", false)
  | 26 => ("PatchHouseModel", "scopes", "I", false)
  | 27 => ("PatchHouseModel", "had", "[I", true)
  | 28 => ("PatchHouseModel", "clone", "[I", true)
  | 29 => ("PatchHouseModel", "weighed", "J", false)
  | 30 => ("PatchHouseModel", "reads", "I", false)
  | _ => ("PatchHouseModel", "parsed", "I", false)
def tyX12 : Nat → FieldType := fun k => match k with
  | 0 => .int
  | 1 => .array .int
  | 2 => .array .int
  | 3 => .array .int
  | 4 => .array .int
  | 5 => .array .long
  | 6 => .int
  | 7 => .int
  | 8 => .int
  | 9 => .int
  | 10 => .int
  | 11 => .int
  | 12 => .int
  | 13 => .int
  | 14 => .int
  | 15 => .boolean
  | 16 => .array .int
  | 17 => .array .int
  | 18 => .array .long
  | 19 => .array .int
  | 20 => .array .int
  | 21 => .array .int
  | 22 => .array .int
  | 23 => .int
  | 24 => .int
  | 25 => .int
  | 26 => .int
  | 27 => .array .int
  | 28 => .array .int
  | 29 => .long
  | 30 => .int
  | _ => .int
theorem nmX12 : ∀ a, a < 32 → ∀ b, b < 32 → a ≠ b → (TX12 a).2.1 ≠ (TX12 b).2.1 := by decide +kernel
theorem tyX12_ok : ∀ k, k < 32 → parseFieldDescriptor (TX12 k).2.2.1 = some (tyX12 k) := by decide +kernel
abbrev am_cl : List vw_C := [(RX0, TX0, 14), (RX1, TX1, 8), (RX2, TX2, 6), (RX3, TX3, 6), (RX4, TX4, 5), (RX5, TX5, 2), (RX7, TX7, 2), (RX8, TX8, 2), (RX10, TX10, 1), (RX11, TX11, 8), (RX12, TX12, 32)]
def am_ty : Nat → Nat → FieldType := fun c => match c with
  | 0 => tyX0
  | 1 => tyX1
  | 2 => tyX2
  | 3 => tyX3
  | 4 => tyX4
  | 5 => tyX5
  | 6 => tyX7
  | 7 => tyX8
  | 8 => tyX10
  | 9 => tyX11
  | _ => tyX12
theorem cl_in0 : ∀ w ∈ u_ws RX0 TX0 14, w ∈ gtb := by decide +kernel
theorem cl_is0 : Cond.instantiable RX0 14 ∈ gtb ∧ Cond.initialized RX0 ∈ gtb := by decide +kernel
theorem cl_in1 : ∀ w ∈ u_ws RX1 TX1 8, w ∈ gtb := by decide +kernel
theorem cl_is1 : Cond.instantiable RX1 8 ∈ gtb ∧ Cond.initialized RX1 ∈ gtb := by decide +kernel
theorem cl_in2 : ∀ w ∈ u_ws RX2 TX2 6, w ∈ gtb := by decide +kernel
theorem cl_is2 : Cond.instantiable RX2 6 ∈ gtb ∧ Cond.initialized RX2 ∈ gtb := by decide +kernel
theorem cl_in3 : ∀ w ∈ u_ws RX3 TX3 6, w ∈ gtb := by decide +kernel
theorem cl_is3 : Cond.instantiable RX3 6 ∈ gtb ∧ Cond.initialized RX3 ∈ gtb := by decide +kernel
theorem cl_in4 : ∀ w ∈ u_ws RX4 TX4 5, w ∈ gtb := by decide +kernel
theorem cl_is4 : Cond.instantiable RX4 5 ∈ gtb ∧ Cond.initialized RX4 ∈ gtb := by decide +kernel
theorem cl_in5 : ∀ w ∈ u_ws RX5 TX5 2, w ∈ gtb := by decide +kernel
theorem cl_is5 : Cond.instantiable RX5 2 ∈ gtb ∧ Cond.initialized RX5 ∈ gtb := by decide +kernel
theorem cl_in6 : ∀ w ∈ u_ws RX7 TX7 2, w ∈ gtb := by decide +kernel
theorem cl_is6 : Cond.instantiable RX7 2 ∈ gtb ∧ Cond.initialized RX7 ∈ gtb := by decide +kernel
theorem cl_in7 : ∀ w ∈ u_ws RX8 TX8 2, w ∈ gtb := by decide +kernel
theorem cl_is7 : Cond.instantiable RX8 2 ∈ gtb ∧ Cond.initialized RX8 ∈ gtb := by decide +kernel
theorem cl_in8 : ∀ w ∈ u_ws RX10 TX10 1, w ∈ gtb := by decide +kernel
theorem cl_is8 : Cond.instantiable RX10 1 ∈ gtb ∧ Cond.initialized RX10 ∈ gtb := by decide +kernel
theorem cl_in9 : ∀ w ∈ u_ws RX11 TX11 8, w ∈ gtb := by decide +kernel
theorem cl_is9 : Cond.instantiable RX11 8 ∈ gtb ∧ Cond.initialized RX11 ∈ gtb := by decide +kernel
theorem cl_in10 : ∀ w ∈ u_ws RX12 TX12 32, w ∈ gtb := by decide +kernel
theorem cl_is10 : Cond.instantiable RX12 32 ∈ gtb ∧ Cond.initialized RX12 ∈ gtb := by decide +kernel
theorem cl_in : ∀ (ci : Nat) (r : vw_C), am_cl[ci]? = some r → ∀ w ∈ u_ws r.1 r.2.1 r.2.2, w ∈ gtb
  | 0, _, h => by cases h; exact cl_in0
  | 1, _, h => by cases h; exact cl_in1
  | 2, _, h => by cases h; exact cl_in2
  | 3, _, h => by cases h; exact cl_in3
  | 4, _, h => by cases h; exact cl_in4
  | 5, _, h => by cases h; exact cl_in5
  | 6, _, h => by cases h; exact cl_in6
  | 7, _, h => by cases h; exact cl_in7
  | 8, _, h => by cases h; exact cl_in8
  | 9, _, h => by cases h; exact cl_in9
  | 10, _, h => by cases h; exact cl_in10
  | k + 11, _, h => by simp [am_cl] at h
theorem cl_is : ∀ (ci : Nat) (r : vw_C), am_cl[ci]? = some r → Cond.instantiable r.1 r.2.2 ∈ gtb ∧ Cond.initialized r.1 ∈ gtb
  | 0, _, h => by cases h; exact cl_is0
  | 1, _, h => by cases h; exact cl_is1
  | 2, _, h => by cases h; exact cl_is2
  | 3, _, h => by cases h; exact cl_is3
  | 4, _, h => by cases h; exact cl_is4
  | 5, _, h => by cases h; exact cl_is5
  | 6, _, h => by cases h; exact cl_is6
  | 7, _, h => by cases h; exact cl_is7
  | 8, _, h => by cases h; exact cl_is8
  | 9, _, h => by cases h; exact cl_is9
  | 10, _, h => by cases h; exact cl_is10
  | k + 11, _, h => by simp [am_cl] at h
theorem cl_nm : ∀ (ci : Nat) (r : vw_C), am_cl[ci]? = some r → ∀ a, a < r.2.2 → ∀ b, b < r.2.2 → a ≠ b → (r.2.1 a).2.1 ≠ (r.2.1 b).2.1
  | 0, _, h => by cases h; exact nmX0
  | 1, _, h => by cases h; exact nmX1
  | 2, _, h => by cases h; exact nmX2
  | 3, _, h => by cases h; exact nmX3
  | 4, _, h => by cases h; exact nmX4
  | 5, _, h => by cases h; exact nmX5
  | 6, _, h => by cases h; exact nmX7
  | 7, _, h => by cases h; exact nmX8
  | 8, _, h => by cases h; exact nmX10
  | 9, _, h => by cases h; exact nmX11
  | 10, _, h => by cases h; exact nmX12
  | k + 11, _, h => by simp [am_cl] at h
theorem cl_ty : ∀ (ci : Nat) (r : vw_C), am_cl[ci]? = some r → ∀ k, k < r.2.2 → parseFieldDescriptor (r.2.1 k).2.2.1 = some (am_ty ci k)
  | 0, _, h => by cases h; exact tyX0_ok
  | 1, _, h => by cases h; exact tyX1_ok
  | 2, _, h => by cases h; exact tyX2_ok
  | 3, _, h => by cases h; exact tyX3_ok
  | 4, _, h => by cases h; exact tyX4_ok
  | 5, _, h => by cases h; exact tyX5_ok
  | 6, _, h => by cases h; exact tyX7_ok
  | 7, _, h => by cases h; exact tyX8_ok
  | 8, _, h => by cases h; exact tyX10_ok
  | 9, _, h => by cases h; exact tyX11_ok
  | 10, _, h => by cases h; exact tyX12_ok
  | k + 11, _, h => by simp [am_cl] at h
