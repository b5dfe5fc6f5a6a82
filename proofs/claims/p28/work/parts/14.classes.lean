/-! the classes (printed by the claim, NAMES): names, fields, types -/
def RX0 : String := "HexTemplates$Bytes"
def TX0 : u_T := fun k => match k with
  | 0 => ("HexTemplates$Bytes", "cells", "[I", true)
  | _ => ("HexTemplates$Bytes", "length", "I", false)
def tyX0 : Nat → FieldType := fun k => match k with
  | 0 => .array .int
  | _ => .int
abbrev wsX00 : List Cond := u_ws RX0 TX0 2
theorem nmX0 : ∀ a, a < 2 → ∀ b, b < 2 → a ≠ b → (TX0 a).2.1 ≠ (TX0 b).2.1 := by decide +kernel
theorem tyX0_ok : ∀ k, k < 2 → parseFieldDescriptor (TX0 k).2.2.1 = some (tyX0 k) := by decide +kernel
def RX1 : String := "HexTemplates$Editor"
def TX1 : u_T := fun k => match k with
  | 0 => ("HexTemplates$Editor", "work", "LHexTemplates$Bytes;", true)
  | _ => ("HexTemplates$Editor", "isLeft", "[Z", true)
def tyX1 : Nat → FieldType := fun k => match k with
  | 0 => .object "HexTemplates$Bytes"
  | _ => .array .boolean
abbrev wsX10 : List Cond := u_ws RX1 TX1 2
theorem nmX1 : ∀ a, a < 2 → ∀ b, b < 2 → a ≠ b → (TX1 a).2.1 ≠ (TX1 b).2.1 := by decide +kernel
theorem tyX1_ok : ∀ k, k < 2 → parseFieldDescriptor (TX1 k).2.2.1 = some (tyX1 k) := by decide +kernel
def RX2 : String := "HexTemplates$Hunk"
def TX2 : u_T := fun k => match k with
  | 0 => ("HexTemplates$Hunk", "offset", "I", false)
  | 1 => ("HexTemplates$Hunk", "taken", "I", false)
  | _ => ("HexTemplates$Hunk", "put", "I", false)
def tyX2 : Nat → FieldType := fun k => match k with
  | 0 => .int
  | 1 => .int
  | _ => .int
abbrev wsX20 : List Cond := u_ws RX2 TX2 3
theorem nmX2 : ∀ a, a < 3 → ∀ b, b < 3 → a ≠ b → (TX2 a).2.1 ≠ (TX2 b).2.1 := by decide +kernel
theorem tyX2_ok : ∀ k, k < 3 → parseFieldDescriptor (TX2 k).2.2.1 = some (tyX2 k) := by decide +kernel
def RX3 : String := "HexTemplates$Nodes"
def TX3 : u_T := fun k => match k with
  | 0 => ("HexTemplates$Nodes", "kind", "[I", true)
  | 1 => ("HexTemplates$Nodes", "name", "[I", true)
  | 2 => ("HexTemplates$Nodes", "offset", "[I", true)
  | 3 => ("HexTemplates$Nodes", "length", "[I", true)
  | 4 => ("HexTemplates$Nodes", "value", "[I", true)
  | 5 => ("HexTemplates$Nodes", "parent", "[I", true)
  | 6 => ("HexTemplates$Nodes", "field", "[I", true)
  | _ => ("HexTemplates$Nodes", "count", "I", false)
def tyX3 : Nat → FieldType := fun k => match k with
  | 0 => .array .int
  | 1 => .array .int
  | 2 => .array .int
  | 3 => .array .int
  | 4 => .array .int
  | 5 => .array .int
  | 6 => .array .int
  | _ => .int
abbrev wsX30 : List Cond := u_ws RX3 TX3 8
theorem nmX3 : ∀ a, a < 8 → ∀ b, b < 8 → a ≠ b → (TX3 a).2.1 ≠ (TX3 b).2.1 := by decide +kernel
theorem tyX3_ok : ∀ k, k < 8 → parseFieldDescriptor (TX3 k).2.2.1 = some (tyX3 k) := by decide +kernel
def RX4 : String := "HexTemplates$Parser"
def TX4 : u_T := fun k => match k with
  | 0 => ("HexTemplates$Parser", "text", "LHexTemplates$Bytes;", false)
  | 1 => ("HexTemplates$Parser", "into", "LHexTemplates$Template;", false)
  | 2 => ("HexTemplates$Parser", "at", "I", false)
  | 3 => ("HexTemplates$Parser", "sign", "I", false)
  | 4 => ("HexTemplates$Parser", "structure", "I", false)
  | _ => ("HexTemplates$Parser", "bitsTaken", "I", false)
def tyX4 : Nat → FieldType := fun k => match k with
  | 0 => .object "HexTemplates$Bytes"
  | 1 => .object "HexTemplates$Template"
  | 2 => .int
  | 3 => .int
  | 4 => .int
  | _ => .int
abbrev wsX40 : List Cond := u_ws RX4 TX4 6
theorem nmX4 : ∀ a, a < 6 → ∀ b, b < 6 → a ≠ b → (TX4 a).2.1 ≠ (TX4 b).2.1 := by decide +kernel
theorem tyX4_ok : ∀ k, k < 6 → parseFieldDescriptor (TX4 k).2.2.1 = some (tyX4 k) := by decide +kernel
def RX5 : String := "HexTemplates$Reader"
def TX5 : u_T := fun k => match k with
  | 0 => ("HexTemplates$Reader", "table", "LHexTemplates$Nodes;", true)
  | 1 => ("HexTemplates$Reader", "template", "LHexTemplates$Template;", false)
  | 2 => ("HexTemplates$Reader", "file", "LHexTemplates$Bytes;", false)
  | 3 => ("HexTemplates$Reader", "at", "I", false)
  | 4 => ("HexTemplates$Reader", "made", "I", false)
  | 5 => ("HexTemplates$Reader", "fault", "I", false)
  | 6 => ("HexTemplates$Reader", "faultAt", "I", false)
  | 7 => ("HexTemplates$Reader", "wrongs", "I", false)
  | 8 => ("HexTemplates$Reader", "starts", "[I", true)
  | 9 => ("HexTemplates$Reader", "lengths", "[I", true)
  | _ => ("HexTemplates$Reader", "values", "[I", true)
def tyX5 : Nat → FieldType := fun k => match k with
  | 0 => .object "HexTemplates$Nodes"
  | 1 => .object "HexTemplates$Template"
  | 2 => .object "HexTemplates$Bytes"
  | 3 => .int
  | 4 => .int
  | 5 => .int
  | 6 => .int
  | 7 => .int
  | 8 => .array .int
  | 9 => .array .int
  | _ => .array .int
abbrev wsX50 : List Cond := u_ws RX5 TX5 11
theorem nmX5 : ∀ a, a < 11 → ∀ b, b < 11 → a ≠ b → (TX5 a).2.1 ≠ (TX5 b).2.1 := by decide +kernel
theorem tyX5_ok : ∀ k, k < 11 → parseFieldDescriptor (TX5 k).2.2.1 = some (tyX5 k) := by decide +kernel
def RX6 : String := "HexTemplates$States"
def TX6 : u_T := fun k => match k with
  | 0 => ("HexTemplates$States", "cells", "[I", true)
  | 1 => ("HexTemplates$States", "sizes", "[I", true)
  | 2 => ("HexTemplates$States", "parents", "[I", true)
  | 3 => ("HexTemplates$States", "count", "I", false)
  | _ => ("HexTemplates$States", "present", "I", false)
def tyX6 : Nat → FieldType := fun k => match k with
  | 0 => .array .int
  | 1 => .array .int
  | 2 => .array .int
  | 3 => .int
  | _ => .int
abbrev wsX60 : List Cond := u_ws RX6 TX6 5
theorem nmX6 : ∀ a, a < 5 → ∀ b, b < 5 → a ≠ b → (TX6 a).2.1 ≠ (TX6 b).2.1 := by decide +kernel
theorem tyX6_ok : ∀ k, k < 5 → parseFieldDescriptor (TX6 k).2.2.1 = some (tyX6 k) := by decide +kernel
def RX7 : String := "HexTemplates$Template"
def TX7 : u_T := fun k => match k with
  | 0 => ("HexTemplates$Template", "rank", "I", false)
  | 1 => ("HexTemplates$Template", "structureCount", "I", false)
  | 2 => ("HexTemplates$Template", "termCount", "I", false)
  | 3 => ("HexTemplates$Template", "choiceCount", "I", false)
  | 4 => ("HexTemplates$Template", "structureName", "[I", true)
  | 5 => ("HexTemplates$Template", "fieldCount", "[I", true)
  | 6 => ("HexTemplates$Template", "terms", "[I", true)
  | 7 => ("HexTemplates$Template", "termSign", "[I", true)
  | 8 => ("HexTemplates$Template", "choices", "[I", true)
  | 9 => ("HexTemplates$Template", "name", "[I", true)
  | 10 => ("HexTemplates$Template", "type", "[I", true)
  | 11 => ("HexTemplates$Template", "bits", "[I", true)
  | 12 => ("HexTemplates$Template", "shift", "[I", true)
  | 13 => ("HexTemplates$Template", "sumFrom", "[I", true)
  | 14 => ("HexTemplates$Template", "sumTo", "[I", true)
  | 15 => ("HexTemplates$Template", "choiceFrom", "[I", true)
  | 16 => ("HexTemplates$Template", "choiceTo", "[I", true)
  | 17 => ("HexTemplates$Template", "way", "[I", true)
  | 18 => ("HexTemplates$Template", "end", "[I", true)
  | 19 => ("HexTemplates$Template", "relation", "[I", true)
  | _ => ("HexTemplates$Template", "argument", "[I", true)
def tyX7 : Nat → FieldType := fun k => match k with
  | 0 => .int
  | 1 => .int
  | 2 => .int
  | 3 => .int
  | 4 => .array .int
  | 5 => .array .int
  | 6 => .array .int
  | 7 => .array .int
  | 8 => .array .int
  | 9 => .array .int
  | 10 => .array .int
  | 11 => .array .int
  | 12 => .array .int
  | 13 => .array .int
  | 14 => .array .int
  | 15 => .array .int
  | 16 => .array .int
  | 17 => .array .int
  | 18 => .array .int
  | 19 => .array .int
  | _ => .array .int
abbrev wsX70 : List Cond := u_ws RX7 TX7 21
theorem nmX7 : ∀ a, a < 21 → ∀ b, b < 21 → a ≠ b → (TX7 a).2.1 ≠ (TX7 b).2.1 := by decide +kernel
theorem tyX7_ok : ∀ k, k < 21 → parseFieldDescriptor (TX7 k).2.2.1 = some (tyX7 k) := by decide +kernel
def RX8 : String := "HexTemplates"
def TX8 : u_T := fun k => match k with
  | 0 => ("HexTemplates", "tape", "LHexTemplates$Bytes;", true)
  | 1 => ("HexTemplates", "file", "LHexTemplates$Bytes;", true)
  | 2 => ("HexTemplates", "parser", "LHexTemplates$Parser;", true)
  | 3 => ("HexTemplates", "templates", "[LHexTemplates$Template;", true)
  | 4 => ("HexTemplates", "states", "LHexTemplates$States;", true)
  | 5 => ("HexTemplates", "reader", "LHexTemplates$Reader;", true)
  | 6 => ("HexTemplates", "trial", "LHexTemplates$Reader;", true)
  | 7 => ("HexTemplates", "editor", "LHexTemplates$Editor;", true)
  | 8 => ("HexTemplates", "change", "LHexTemplates$Hunk;", true)
  | 9 => ("HexTemplates", "visited", "[Z", true)
  | 10 => ("HexTemplates", "templateCount", "I", false)
  | _ => ("HexTemplates", "chosenNumber", "I", false)
def tyX8 : Nat → FieldType := fun k => match k with
  | 0 => .object "HexTemplates$Bytes"
  | 1 => .object "HexTemplates$Bytes"
  | 2 => .object "HexTemplates$Parser"
  | 3 => .array (.object "HexTemplates$Template")
  | 4 => .object "HexTemplates$States"
  | 5 => .object "HexTemplates$Reader"
  | 6 => .object "HexTemplates$Reader"
  | 7 => .object "HexTemplates$Editor"
  | 8 => .object "HexTemplates$Hunk"
  | 9 => .array .boolean
  | 10 => .int
  | _ => .int
abbrev wsX80 : List Cond := u_ws RX8 TX8 12
theorem nmX8 : ∀ a, a < 12 → ∀ b, b < 12 → a ≠ b → (TX8 a).2.1 ≠ (TX8 b).2.1 := by decide +kernel
theorem tyX8_ok : ∀ k, k < 12 → parseFieldDescriptor (TX8 k).2.2.1 = some (tyX8 k) := by decide +kernel
def xt_cl : List vw_C := [(RX0, TX0, 2), (RX1, TX1, 2), (RX2, TX2, 3), (RX3, TX3, 8), (RX4, TX4, 6), (RX5, TX5, 11), (RX6, TX6, 5), (RX7, TX7, 21), (RX8, TX8, 12)]
def xt_dX0 : List Value := [.null, .int 0]
def xt_dX1 : List Value := [.null, .null]
def xt_dX2 : List Value := [.int 0, .int 0, .int 0]
def xt_dX3 : List Value := [.null, .null, .null, .null, .null, .null, .null, .int 0]
def xt_dX4 : List Value := [.null, .null, .int 0, .int 0, .int 0, .int 0]
def xt_dX5 : List Value := [.null, .null, .null, .int 0, .int 0, .int 0, .int 0, .int 0, .null, .null, .null]
def xt_dX6 : List Value := [.null, .null, .null, .int 0, .int 0]
def xt_dX7 : List Value := [.int 0, .int 0, .int 0, .int 0, .null, .null, .null, .null, .null, .null, .null, .null, .null, .null, .null, .null, .null, .null, .null, .null, .null]
def xt_dX8 : List Value := [.null, .null, .null, .null, .null, .null, .null, .null, .null, .null, .int 0, .int 0]
def xt_df (c : Nat) : List Value := match c with
  | 0 => xt_dX0
  | 1 => xt_dX1
  | 2 => xt_dX2
  | 3 => xt_dX3
  | 4 => xt_dX4
  | 5 => xt_dX5
  | 6 => xt_dX6
  | 7 => xt_dX7
  | 8 => xt_dX8
  | _ => []
