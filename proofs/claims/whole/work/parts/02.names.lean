def RX0 : String := "ErrorSlices$Checker"
def TX0 : u_T := fun k => match k with
  | 0 => ("ErrorSlices$Checker", "tree", "LErrorSlices$Tree;", true)
  | 1 => ("ErrorSlices$Checker", "nodes", "LErrorSlices$Nodes;", true)
  | 2 => ("ErrorSlices$Checker", "copies", "LErrorSlices$Copies;", true)
  | 3 => ("ErrorSlices$Checker", "types", "LErrorSlices$Types;", true)
  | _ => ("ErrorSlices$Checker", "chosen", "[Z", true)
def tyX0 : Nat → FieldType := fun k => match k with
  | 0 => .object "ErrorSlices$Tree"
  | 1 => .object "ErrorSlices$Nodes"
  | 2 => .object "ErrorSlices$Copies"
  | 3 => .object "ErrorSlices$Types"
  | _ => .array .boolean
theorem nmX0 : ∀ a, a < 5 → ∀ b, b < 5 → a ≠ b → (TX0 a).2.1 ≠ (TX0 b).2.1 := by decide +kernel
theorem tyX0_ok : ∀ k, k < 5 → parseFieldDescriptor (TX0 k).2.2.1 = some (tyX0 k) := by decide +kernel
def RX1 : String := "ErrorSlices$Copies"
def TX1 : u_T := fun k => match k with
  | 0 => ("ErrorSlices$Copies", "tree", "LErrorSlices$Tree;", true)
  | 1 => ("ErrorSlices$Copies", "nodes", "LErrorSlices$Nodes;", true)
  | 2 => ("ErrorSlices$Copies", "lets", "[I", true)
  | 3 => ("ErrorSlices$Copies", "bases", "[I", true)
  | 4 => ("ErrorSlices$Copies", "homes", "[I", true)
  | 5 => ("ErrorSlices$Copies", "targets", "[I", true)
  | 6 => ("ErrorSlices$Copies", "size", "I", false)
  | _ => ("ErrorSlices$Copies", "variables", "I", false)
def tyX1 : Nat → FieldType := fun k => match k with
  | 0 => .object "ErrorSlices$Tree"
  | 1 => .object "ErrorSlices$Nodes"
  | 2 => .array .int
  | 3 => .array .int
  | 4 => .array .int
  | 5 => .array .int
  | 6 => .int
  | _ => .int
theorem nmX1 : ∀ a, a < 8 → ∀ b, b < 8 → a ≠ b → (TX1 a).2.1 ≠ (TX1 b).2.1 := by decide +kernel
theorem tyX1_ok : ∀ k, k < 8 → parseFieldDescriptor (TX1 k).2.2.1 = some (tyX1 k) := by decide +kernel
def RX2 : String := "ErrorSlices$Nodes"
def TX2 : u_T := fun k => match k with
  | 0 => ("ErrorSlices$Nodes", "kinds", "[I", true)
  | 1 => ("ErrorSlices$Nodes", "firsts", "[I", true)
  | 2 => ("ErrorSlices$Nodes", "seconds", "[I", true)
  | 3 => ("ErrorSlices$Nodes", "thirds", "[I", true)
  | _ => ("ErrorSlices$Nodes", "meanings", "[I", true)
def tyX2 : Nat → FieldType := fun k => match k with
  | 0 => .array .int
  | 1 => .array .int
  | 2 => .array .int
  | 3 => .array .int
  | _ => .array .int
theorem nmX2 : ∀ a, a < 5 → ∀ b, b < 5 → a ≠ b → (TX2 a).2.1 ≠ (TX2 b).2.1 := by decide +kernel
theorem tyX2_ok : ∀ k, k < 5 → parseFieldDescriptor (TX2 k).2.2.1 = some (tyX2 k) := by decide +kernel
def RX3 : String := "ErrorSlices$Output"
def TX3 : u_T := fun k => match k with
  | 0 => ("ErrorSlices$Output", "bytes", "[B", true)
  | 1 => ("ErrorSlices$Output", "size", "I", false)
  | _ => ("ErrorSlices$Output", "taken", "I", false)
def tyX3 : Nat → FieldType := fun k => match k with
  | 0 => .array .byte
  | 1 => .int
  | _ => .int
theorem nmX3 : ∀ a, a < 3 → ∀ b, b < 3 → a ≠ b → (TX3 a).2.1 ≠ (TX3 b).2.1 := by decide +kernel
theorem tyX3_ok : ∀ k, k < 3 → parseFieldDescriptor (TX3 k).2.2.1 = some (tyX3 k) := by decide +kernel
def RX4 : String := "ErrorSlices$Parser"
def TX4 : u_T := fun k => match k with
  | 0 => ("ErrorSlices$Parser", "tokens", "LErrorSlices$Tokens;", true)
  | 1 => ("ErrorSlices$Parser", "drafts", "LErrorSlices$Nodes;", true)
  | 2 => ("ErrorSlices$Parser", "owners", "[I", true)
  | 3 => ("ErrorSlices$Parser", "scope", "[I", true)
  | 4 => ("ErrorSlices$Parser", "scopeSize", "I", false)
  | 5 => ("ErrorSlices$Parser", "cursor", "I", false)
  | 6 => ("ErrorSlices$Parser", "nodes", "I", false)
  | 7 => ("ErrorSlices$Parser", "refused", "I", false)
  | 8 => ("ErrorSlices$Parser", "unknown", "I", false)
  | _ => ("ErrorSlices$Parser", "root", "I", false)
def tyX4 : Nat → FieldType := fun k => match k with
  | 0 => .object "ErrorSlices$Tokens"
  | 1 => .object "ErrorSlices$Nodes"
  | 2 => .array .int
  | 3 => .array .int
  | 4 => .int
  | 5 => .int
  | 6 => .int
  | 7 => .int
  | 8 => .int
  | _ => .int
theorem nmX4 : ∀ a, a < 10 → ∀ b, b < 10 → a ≠ b → (TX4 a).2.1 ≠ (TX4 b).2.1 := by decide +kernel
theorem tyX4_ok : ∀ k, k < 10 → parseFieldDescriptor (TX4 k).2.2.1 = some (tyX4 k) := by decide +kernel
def RX5 : String := "ErrorSlices$Text"
def TX5 : u_T := fun k => match k with
  | 0 => ("ErrorSlices$Text", "bytes", "[B", true)
  | _ => ("ErrorSlices$Text", "length", "I", false)
def tyX5 : Nat → FieldType := fun k => match k with
  | 0 => .array .byte
  | _ => .int
theorem nmX5 : ∀ a, a < 2 → ∀ b, b < 2 → a ≠ b → (TX5 a).2.1 ≠ (TX5 b).2.1 := by decide +kernel
theorem tyX5_ok : ∀ k, k < 2 → parseFieldDescriptor (TX5 k).2.2.1 = some (tyX5 k) := by decide +kernel
def RX6 : String := "ErrorSlices$Tokens"
def TX6 : u_T := fun k => match k with
  | 0 => ("ErrorSlices$Tokens", "text", "LErrorSlices$Text;", true)
  | 1 => ("ErrorSlices$Tokens", "kinds", "[I", true)
  | 2 => ("ErrorSlices$Tokens", "starts", "[I", true)
  | 3 => ("ErrorSlices$Tokens", "ends", "[I", true)
  | _ => ("ErrorSlices$Tokens", "size", "I", false)
def tyX6 : Nat → FieldType := fun k => match k with
  | 0 => .object "ErrorSlices$Text"
  | 1 => .array .int
  | 2 => .array .int
  | 3 => .array .int
  | _ => .int
theorem nmX6 : ∀ a, a < 5 → ∀ b, b < 5 → a ≠ b → (TX6 a).2.1 ≠ (TX6 b).2.1 := by decide +kernel
theorem tyX6_ok : ∀ k, k < 5 → parseFieldDescriptor (TX6 k).2.2.1 = some (tyX6 k) := by decide +kernel
def RX7 : String := "ErrorSlices$Tree"
def TX7 : u_T := fun k => match k with
  | 0 => ("ErrorSlices$Tree", "nodes", "LErrorSlices$Nodes;", true)
  | 1 => ("ErrorSlices$Tree", "boundEnds", "[I", true)
  | 2 => ("ErrorSlices$Tree", "slots", "[I", true)
  | 3 => ("ErrorSlices$Tree", "owners", "[I", true)
  | 4 => ("ErrorSlices$Tree", "size", "I", false)
  | _ => ("ErrorSlices$Tree", "root", "I", false)
def tyX7 : Nat → FieldType := fun k => match k with
  | 0 => .object "ErrorSlices$Nodes"
  | 1 => .array .int
  | 2 => .array .int
  | 3 => .array .int
  | 4 => .int
  | _ => .int
theorem nmX7 : ∀ a, a < 6 → ∀ b, b < 6 → a ≠ b → (TX7 a).2.1 ≠ (TX7 b).2.1 := by decide +kernel
theorem tyX7_ok : ∀ k, k < 6 → parseFieldDescriptor (TX7 k).2.2.1 = some (tyX7 k) := by decide +kernel
def RX8 : String := "ErrorSlices$TypeWriter"
def TX8 : u_T := fun k => match k with
  | 0 => ("ErrorSlices$TypeWriter", "types", "LErrorSlices$Types;", true)
  | 1 => ("ErrorSlices$TypeWriter", "output", "LErrorSlices$Output;", true)
  | 2 => ("ErrorSlices$TypeWriter", "way", "[I", true)
  | 3 => ("ErrorSlices$TypeWriter", "depth", "I", false)
  | _ => ("ErrorSlices$TypeWriter", "letters", "I", false)
def tyX8 : Nat → FieldType := fun k => match k with
  | 0 => .object "ErrorSlices$Types"
  | 1 => .object "ErrorSlices$Output"
  | 2 => .array .int
  | 3 => .int
  | _ => .int
theorem nmX8 : ∀ a, a < 5 → ∀ b, b < 5 → a ≠ b → (TX8 a).2.1 ≠ (TX8 b).2.1 := by decide +kernel
theorem tyX8_ok : ∀ k, k < 5 → parseFieldDescriptor (TX8 k).2.2.1 = some (tyX8 k) := by decide +kernel
def RX9 : String := "ErrorSlices$Types"
def TX9 : u_T := fun k => match k with
  | 0 => ("ErrorSlices$Types", "kinds", "[I", true)
  | 1 => ("ErrorSlices$Types", "lefts", "[I", true)
  | 2 => ("ErrorSlices$Types", "rights", "[I", true)
  | 3 => ("ErrorSlices$Types", "marks", "[I", true)
  | 4 => ("ErrorSlices$Types", "todo", "[I", true)
  | 5 => ("ErrorSlices$Types", "size", "I", false)
  | 6 => ("ErrorSlices$Types", "intCell", "I", false)
  | _ => ("ErrorSlices$Types", "boolCell", "I", false)
def tyX9 : Nat → FieldType := fun k => match k with
  | 0 => .array .int
  | 1 => .array .int
  | 2 => .array .int
  | 3 => .array .int
  | 4 => .array .int
  | 5 => .int
  | 6 => .int
  | _ => .int
theorem nmX9 : ∀ a, a < 8 → ∀ b, b < 8 → a ≠ b → (TX9 a).2.1 ≠ (TX9 b).2.1 := by decide +kernel
theorem tyX9_ok : ∀ k, k < 8 → parseFieldDescriptor (TX9 k).2.2.1 = some (tyX9 k) := by decide +kernel
def RX10 : String := "ErrorSlices"
def TX10 : u_T := fun k => match k with
  | 0 => ("ErrorSlices", "text", "LErrorSlices$Text;", true)
  | 1 => ("ErrorSlices", "tokens", "LErrorSlices$Tokens;", true)
  | 2 => ("ErrorSlices", "parser", "LErrorSlices$Parser;", true)
  | 3 => ("ErrorSlices", "tree", "LErrorSlices$Tree;", true)
  | 4 => ("ErrorSlices", "copies", "LErrorSlices$Copies;", true)
  | 5 => ("ErrorSlices", "types", "LErrorSlices$Types;", true)
  | 6 => ("ErrorSlices", "checker", "LErrorSlices$Checker;", true)
  | 7 => ("ErrorSlices", "output", "LErrorSlices$Output;", true)
  | 8 => ("ErrorSlices", "typeWriter", "LErrorSlices$TypeWriter;", true)
  | 9 => ("ErrorSlices", "slice", "[Z", true)
  | 10 => ("ErrorSlices", "faultPlace", "I", false)
  | 11 => ("ErrorSlices", "nodes", "I", false)
  | 12 => ("ErrorSlices", "sliceSize", "I", false)
  | _ => ("ErrorSlices", "variables", "I", false)
def tyX10 : Nat → FieldType := fun k => match k with
  | 0 => .object "ErrorSlices$Text"
  | 1 => .object "ErrorSlices$Tokens"
  | 2 => .object "ErrorSlices$Parser"
  | 3 => .object "ErrorSlices$Tree"
  | 4 => .object "ErrorSlices$Copies"
  | 5 => .object "ErrorSlices$Types"
  | 6 => .object "ErrorSlices$Checker"
  | 7 => .object "ErrorSlices$Output"
  | 8 => .object "ErrorSlices$TypeWriter"
  | 9 => .array .boolean
  | 10 => .int
  | 11 => .int
  | 12 => .int
  | _ => .int
theorem nmX10 : ∀ a, a < 14 → ∀ b, b < 14 → a ≠ b → (TX10 a).2.1 ≠ (TX10 b).2.1 := by decide +kernel
theorem tyX10_ok : ∀ k, k < 14 → parseFieldDescriptor (TX10 k).2.2.1 = some (tyX10 k) := by decide +kernel
def RX11 : String := "ErrorSlicesModel"
def TX11 : u_T := fun k => match k with
  | 0 => ("ErrorSlicesModel", "fed", "[B", true)
  | 1 => ("ErrorSlicesModel", "fedSize", "I", false)
  | 2 => ("ErrorSlicesModel", "text", "[B", true)
  | 3 => ("ErrorSlicesModel", "length", "I", false)
  | 4 => ("ErrorSlicesModel", "place", "I", false)
  | 5 => ("ErrorSlicesModel", "at", "I", false)
  | 6 => ("ErrorSlicesModel", "kind", "I", false)
  | 7 => ("ErrorSlicesModel", "begin", "I", false)
  | 8 => ("ErrorSlicesModel", "begins", "[I", true)
  | 9 => ("ErrorSlicesModel", "ends", "[I", true)
  | 10 => ("ErrorSlicesModel", "owners", "[I", true)
  | 11 => ("ErrorSlicesModel", "passed", "I", false)
  | 12 => ("ErrorSlicesModel", "made", "I", false)
  | 13 => ("ErrorSlicesModel", "kinds", "[I", true)
  | 14 => ("ErrorSlicesModel", "as", "[I", true)
  | 15 => ("ErrorSlicesModel", "bs", "[I", true)
  | 16 => ("ErrorSlicesModel", "cs", "[I", true)
  | 17 => ("ErrorSlicesModel", "firsts", "[I", true)
  | 18 => ("ErrorSlicesModel", "names", "[I", true)
  | 19 => ("ErrorSlicesModel", "scopeFrom", "[I", true)
  | 20 => ("ErrorSlicesModel", "scopeTo", "[I", true)
  | 21 => ("ErrorSlicesModel", "ownFrom", "[I", true)
  | 22 => ("ErrorSlicesModel", "ownTo", "[I", true)
  | 23 => ("ErrorSlicesModel", "deep", "I", false)
  | 24 => ("ErrorSlicesModel", "number", "[I", true)
  | 25 => ("ErrorSlicesModel", "node", "[I", true)
  | 26 => ("ErrorSlicesModel", "fnsBelow", "[I", true)
  | 27 => ("ErrorSlicesModel", "means", "[I", true)
  | 28 => ("ErrorSlicesModel", "copies", "I", false)
  | 29 => ("ErrorSlicesModel", "copyOf", "[I", true)
  | 30 => ("ErrorSlicesModel", "around", "[I", true)
  | 31 => ("ErrorSlicesModel", "bases", "[I", true)
  | 32 => ("ErrorSlicesModel", "variables", "I", false)
  | 33 => ("ErrorSlicesModel", "link", "[I", true)
  | 34 => ("ErrorSlicesModel", "shape", "[I", true)
  | 35 => ("ErrorSlicesModel", "left", "[I", true)
  | 36 => ("ErrorSlicesModel", "right", "[I", true)
  | 37 => ("ErrorSlicesModel", "places", "I", false)
  | 38 => ("ErrorSlicesModel", "pileA", "[I", true)
  | 39 => ("ErrorSlicesModel", "pileB", "[I", true)
  | 40 => ("ErrorSlicesModel", "pile", "I", false)
  | 41 => ("ErrorSlicesModel", "odd", "Z", false)
  | 42 => ("ErrorSlicesModel", "active", "[Z", true)
  | 43 => ("ErrorSlicesModel", "slice", "[Z", true)
  | 44 => ("ErrorSlicesModel", "colour", "[I", true)
  | 45 => ("ErrorSlicesModel", "out", "[B", true)
  | 46 => ("ErrorSlicesModel", "outSize", "I", false)
  | 47 => ("ErrorSlicesModel", "letters", "[I", true)
  | 48 => ("ErrorSlicesModel", "letterCount", "I", false)
  | 49 => ("ErrorSlicesModel", "sliced", "Z", false)
  | 50 => ("ErrorSlicesModel", "bad", "Z", false)
  | 51 => ("ErrorSlicesModel", "whys", "[I", true)
  | 52 => ("ErrorSlicesModel", "nodes", "[I", true)
  | 53 => ("ErrorSlicesModel", "lesses", "[I", true)
  | 54 => ("ErrorSlicesModel", "pluses", "[I", true)
  | 55 => ("ErrorSlicesModel", "mode", "I", false)
  | 56 => ("ErrorSlicesModel", "value", "I", false)
  | 57 => ("ErrorSlicesModel", "integer", "I", false)
  | _ => ("ErrorSlicesModel", "truth", "I", false)
def tyX11 : Nat → FieldType := fun k => match k with
  | 0 => .array .byte
  | 1 => .int
  | 2 => .array .byte
  | 3 => .int
  | 4 => .int
  | 5 => .int
  | 6 => .int
  | 7 => .int
  | 8 => .array .int
  | 9 => .array .int
  | 10 => .array .int
  | 11 => .int
  | 12 => .int
  | 13 => .array .int
  | 14 => .array .int
  | 15 => .array .int
  | 16 => .array .int
  | 17 => .array .int
  | 18 => .array .int
  | 19 => .array .int
  | 20 => .array .int
  | 21 => .array .int
  | 22 => .array .int
  | 23 => .int
  | 24 => .array .int
  | 25 => .array .int
  | 26 => .array .int
  | 27 => .array .int
  | 28 => .int
  | 29 => .array .int
  | 30 => .array .int
  | 31 => .array .int
  | 32 => .int
  | 33 => .array .int
  | 34 => .array .int
  | 35 => .array .int
  | 36 => .array .int
  | 37 => .int
  | 38 => .array .int
  | 39 => .array .int
  | 40 => .int
  | 41 => .boolean
  | 42 => .array .boolean
  | 43 => .array .boolean
  | 44 => .array .int
  | 45 => .array .byte
  | 46 => .int
  | 47 => .array .int
  | 48 => .int
  | 49 => .boolean
  | 50 => .boolean
  | 51 => .array .int
  | 52 => .array .int
  | 53 => .array .int
  | 54 => .array .int
  | 55 => .int
  | 56 => .int
  | 57 => .int
  | _ => .int
theorem nmX11 : ∀ a, a < 59 → ∀ b, b < 59 → a ≠ b → (TX11 a).2.1 ≠ (TX11 b).2.1 := by decide +kernel
theorem tyX11_ok : ∀ k, k < 59 → parseFieldDescriptor (TX11 k).2.2.1 = some (tyX11 k) := by decide +kernel
def RL : String := "ErrorSlicesLaw"
abbrev vwCl : List vw_C := [(RX0, TX0, 5), (RX1, TX1, 8), (RX2, TX2, 5), (RX3, TX3, 3), (RX4, TX4, 10), (RX5, TX5, 2), (RX6, TX6, 5), (RX7, TX7, 6), (RX8, TX8, 5), (RX9, TX9, 8), (RX10, TX10, 14), (RX11, TX11, 59)]
