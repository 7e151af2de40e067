/-! names and fields, as the claim prints them -/
def RX0 : String := "LeapLane$Game"
def TX0 : u_T := fun k => match k with
  | 0 => ("LeapLane$Game", "turn", "I", false)
  | 1 => ("LeapLane$Game", "order", "[I", true)
  | 2 => ("LeapLane$Game", "back", "[I", true)
  | 3 => ("LeapLane$Game", "breath", "[I", true)
  | _ => ("LeapLane$Game", "leapt", "[I", true)
def tyX0 : Nat → FieldType := fun k => match k with
  | 0 => .int
  | 1 => .array .int
  | 2 => .array .int
  | 3 => .array .int
  | _ => .array .int
abbrev wsX00 : List Cond := u_ws RX0 TX0 5
theorem nmX0 : ∀ a, a < 5 → ∀ b, b < 5 → a ≠ b → (TX0 a).2.1 ≠ (TX0 b).2.1 := by decide +kernel
theorem tyX0_ok : ∀ k, k < 5 → parseFieldDescriptor (TX0 k).2.2.1 = some (tyX0 k) := by decide +kernel
def RX1 : String := "LeapLane$Lane"
def TX1 : u_T := fun k => match k with
  | 0 => ("LeapLane$Lane", "told", "Z", false)
  | 1 => ("LeapLane$Lane", "spring", "I", false)
  | 2 => ("LeapLane$Lane", "many", "I", false)
  | 3 => ("LeapLane$Lane", "back", "[I", true)
  | 4 => ("LeapLane$Lane", "leap", "[I", true)
  | _ => ("LeapLane$Lane", "breath", "[I", true)
def tyX1 : Nat → FieldType := fun k => match k with
  | 0 => .boolean
  | 1 => .int
  | 2 => .int
  | 3 => .array .int
  | 4 => .array .int
  | _ => .array .int
abbrev wsX10 : List Cond := u_ws RX1 TX1 6
theorem nmX1 : ∀ a, a < 6 → ∀ b, b < 6 → a ≠ b → (TX1 a).2.1 ≠ (TX1 b).2.1 := by decide +kernel
theorem tyX1_ok : ∀ k, k < 6 → parseFieldDescriptor (TX1 k).2.2.1 = some (tyX1 k) := by decide +kernel
def RX2 : String := "LeapLane$LaneReader"
def TX2 : u_T := fun k => match k with
  | 0 => ("LeapLane$LaneReader", "tape", "LLeapLane$Tape;", false)
  | _ => ("LeapLane$LaneReader", "lane", "LLeapLane$Lane;", false)
def tyX2 : Nat → FieldType := fun k => match k with
  | 0 => .object "LeapLane$Tape"
  | _ => .object "LeapLane$Lane"
abbrev wsX20 : List Cond := u_ws RX2 TX2 2
theorem nmX2 : ∀ a, a < 2 → ∀ b, b < 2 → a ≠ b → (TX2 a).2.1 ≠ (TX2 b).2.1 := by decide +kernel
theorem tyX2_ok : ∀ k, k < 2 → parseFieldDescriptor (TX2 k).2.2.1 = some (tyX2 k) := by decide +kernel
def RX3 : String := "LeapLane$Notes"
def TX3 : u_T := fun k => match k with
  | 0 => ("LeapLane$Notes", "many", "I", false)
  | 1 => ("LeapLane$Notes", "turns", "[I", true)
  | _ => ("LeapLane$Notes", "children", "[I", true)
def tyX3 : Nat → FieldType := fun k => match k with
  | 0 => .int
  | 1 => .array .int
  | _ => .array .int
abbrev wsX30 : List Cond := u_ws RX3 TX3 3
theorem nmX3 : ∀ a, a < 3 → ∀ b, b < 3 → a ≠ b → (TX3 a).2.1 ≠ (TX3 b).2.1 := by decide +kernel
theorem tyX3_ok : ∀ k, k < 3 → parseFieldDescriptor (TX3 k).2.2.1 = some (tyX3 k) := by decide +kernel
def RX4 : String := "LeapLane$Past"
def TX4 : u_T := fun k => match k with
  | 0 => ("LeapLane$Past", "games", "[LLeapLane$Game;", true)
  | 1 => ("LeapLane$Past", "next", "I", false)
  | _ => ("LeapLane$Past", "many", "I", false)
def tyX4 : Nat → FieldType := fun k => match k with
  | 0 => .array (.object "LeapLane$Game")
  | 1 => .int
  | _ => .int
abbrev wsX40 : List Cond := u_ws RX4 TX4 3
theorem nmX4 : ∀ a, a < 3 → ∀ b, b < 3 → a ≠ b → (TX4 a).2.1 ≠ (TX4 b).2.1 := by decide +kernel
theorem tyX4_ok : ∀ k, k < 3 → parseFieldDescriptor (TX4 k).2.2.1 = some (tyX4 k) := by decide +kernel
def RX5 : String := "LeapLane$Reach"
def TX5 : u_T := fun k => match k with
  | 0 => ("LeapLane$Reach", "many", "I", false)
  | 1 => ("LeapLane$Reach", "spring", "I", false)
  | 2 => ("LeapLane$Reach", "leapable", "[I", true)
  | 3 => ("LeapLane$Reach", "found", "I", false)
  | 4 => ("LeapLane$Reach", "whereOf", "[I", true)
  | 5 => ("LeapLane$Reach", "rows", "[I", true)
  | 6 => ("LeapLane$Reach", "from", "[I", true)
  | 7 => ("LeapLane$Reach", "depth", "[I", true)
  | 8 => ("LeapLane$Reach", "order", "[I", true)
  | 9 => ("LeapLane$Reach", "places", "[I", true)
  | _ => ("LeapLane$Reach", "lesser", "[I", true)
def tyX5 : Nat → FieldType := fun k => match k with
  | 0 => .int
  | 1 => .int
  | 2 => .array .int
  | 3 => .int
  | 4 => .array .int
  | 5 => .array .int
  | 6 => .array .int
  | 7 => .array .int
  | 8 => .array .int
  | 9 => .array .int
  | _ => .array .int
abbrev wsX50 : List Cond := u_ws RX5 TX5 11
theorem nmX5 : ∀ a, a < 11 → ∀ b, b < 11 → a ≠ b → (TX5 a).2.1 ≠ (TX5 b).2.1 := by decide +kernel
theorem tyX5_ok : ∀ k, k < 11 → parseFieldDescriptor (TX5 k).2.2.1 = some (tyX5 k) := by decide +kernel
def RX6 : String := "LeapLane$Rule"
def TX6 : u_T := fun k => match k with
  | _ => ("LeapLane$Rule", "code", "[I", true)
def tyX6 : Nat → FieldType := fun k => match k with
  | _ => .array .int
abbrev wsX60 : List Cond := u_ws RX6 TX6 1
theorem nmX6 : ∀ a, a < 1 → ∀ b, b < 1 → a ≠ b → (TX6 a).2.1 ≠ (TX6 b).2.1 := by decide +kernel
theorem tyX6_ok : ∀ k, k < 1 → parseFieldDescriptor (TX6 k).2.2.1 = some (tyX6 k) := by decide +kernel
def RX7 : String := "LeapLane$RuleReader"
def TX7 : u_T := fun k => match k with
  | 0 => ("LeapLane$RuleReader", "tape", "LLeapLane$Tape;", false)
  | 1 => ("LeapLane$RuleReader", "state", "I", false)
  | 2 => ("LeapLane$RuleReader", "sum", "I", false)
  | 3 => ("LeapLane$RuleReader", "clauses", "I", false)
  | 4 => ("LeapLane$RuleReader", "values", "I", false)
  | 5 => ("LeapLane$RuleReader", "tested", "Z", false)
  | 6 => ("LeapLane$RuleReader", "code", "[I", true)
  | 7 => ("LeapLane$RuleReader", "length", "I", false)
  | 8 => ("LeapLane$RuleReader", "pile", "[I", true)
  | 9 => ("LeapLane$RuleReader", "top", "I", false)
  | 10 => ("LeapLane$RuleReader", "depth", "I", false)
  | _ => ("LeapLane$RuleReader", "open", "I", false)
def tyX7 : Nat → FieldType := fun k => match k with
  | 0 => .object "LeapLane$Tape"
  | 1 => .int
  | 2 => .int
  | 3 => .int
  | 4 => .int
  | 5 => .boolean
  | 6 => .array .int
  | 7 => .int
  | 8 => .array .int
  | 9 => .int
  | 10 => .int
  | _ => .int
abbrev wsX70 : List Cond := u_ws RX7 TX7 12
theorem nmX7 : ∀ a, a < 12 → ∀ b, b < 12 → a ≠ b → (TX7 a).2.1 ≠ (TX7 b).2.1 := by decide +kernel
theorem tyX7_ok : ∀ k, k < 12 → parseFieldDescriptor (TX7 k).2.2.1 = some (tyX7 k) := by decide +kernel
def RX8 : String := "LeapLane$State"
def TX8 : u_T := fun k => match k with
  | 0 => ("LeapLane$State", "lane", "LLeapLane$Lane;", true)
  | 1 => ("LeapLane$State", "game", "LLeapLane$Game;", true)
  | 2 => ("LeapLane$State", "notes", "LLeapLane$Notes;", true)
  | 3 => ("LeapLane$State", "inForce", "I", false)
  | _ => ("LeapLane$State", "x", "I", false)
def tyX8 : Nat → FieldType := fun k => match k with
  | 0 => .object "LeapLane$Lane"
  | 1 => .object "LeapLane$Game"
  | 2 => .object "LeapLane$Notes"
  | 3 => .int
  | _ => .int
abbrev wsX80 : List Cond := u_ws RX8 TX8 5
theorem nmX8 : ∀ a, a < 5 → ∀ b, b < 5 → a ≠ b → (TX8 a).2.1 ≠ (TX8 b).2.1 := by decide +kernel
theorem tyX8_ok : ∀ k, k < 5 → parseFieldDescriptor (TX8 k).2.2.1 = some (tyX8 k) := by decide +kernel
def RX9 : String := "LeapLane$Tape"
def TX9 : u_T := fun k => match k with
  | 0 => ("LeapLane$Tape", "bytes", "[B", true)
  | 1 => ("LeapLane$Tape", "length", "I", false)
  | 2 => ("LeapLane$Tape", "at", "I", false)
  | 3 => ("LeapLane$Tape", "sign", "I", false)
  | 4 => ("LeapLane$Tape", "place", "I", false)
  | 5 => ("LeapLane$Tape", "number", "I", false)
  | _ => ("LeapLane$Tape", "fault", "I", false)
def tyX9 : Nat → FieldType := fun k => match k with
  | 0 => .array .byte
  | 1 => .int
  | 2 => .int
  | 3 => .int
  | 4 => .int
  | 5 => .int
  | _ => .int
abbrev wsX90 : List Cond := u_ws RX9 TX9 7
theorem nmX9 : ∀ a, a < 7 → ∀ b, b < 7 → a ≠ b → (TX9 a).2.1 ≠ (TX9 b).2.1 := by decide +kernel
theorem tyX9_ok : ∀ k, k < 7 → parseFieldDescriptor (TX9 k).2.2.1 = some (tyX9 k) := by decide +kernel
def RX10 : String := "LeapLane$Umpire"
def TX10 : u_T := fun k => match k with
  | 0 => ("LeapLane$Umpire", "words", "[J", true)
  | _ => ("LeapLane$Umpire", "pile", "[J", true)
def tyX10 : Nat → FieldType := fun k => match k with
  | 0 => .array .long
  | _ => .array .long
abbrev wsX100 : List Cond := u_ws RX10 TX10 2
theorem nmX10 : ∀ a, a < 2 → ∀ b, b < 2 → a ≠ b → (TX10 a).2.1 ≠ (TX10 b).2.1 := by decide +kernel
theorem tyX10_ok : ∀ k, k < 2 → parseFieldDescriptor (TX10 k).2.2.1 = some (tyX10 k) := by decide +kernel
def RX11 : String := "LeapLane"
def TX11 : u_T := fun k => match k with
  | 0 => ("LeapLane", "tape", "LLeapLane$Tape;", true)
  | 1 => ("LeapLane", "laneReader", "LLeapLane$LaneReader;", true)
  | 2 => ("LeapLane", "ruleReader", "LLeapLane$RuleReader;", true)
  | 3 => ("LeapLane", "rules", "[LLeapLane$Rule;", true)
  | 4 => ("LeapLane", "rulesMany", "I", false)
  | 5 => ("LeapLane", "now", "LLeapLane$State;", true)
  | 6 => ("LeapLane", "images", "[LLeapLane$State;", true)
  | 7 => ("LeapLane", "past", "LLeapLane$Past;", true)
  | 8 => ("LeapLane", "umpire", "LLeapLane$Umpire;", true)
  | 9 => ("LeapLane", "trial", "LLeapLane$Game;", true)
  | 10 => ("LeapLane", "trialLane", "LLeapLane$Lane;", true)
  | 11 => ("LeapLane", "marks", "[J", true)
  | 12 => ("LeapLane", "firsts", "[I", true)
  | 13 => ("LeapLane", "gains", "[I", true)
  | _ => ("LeapLane", "reach", "LLeapLane$Reach;", false)
def tyX11 : Nat → FieldType := fun k => match k with
  | 0 => .object "LeapLane$Tape"
  | 1 => .object "LeapLane$LaneReader"
  | 2 => .object "LeapLane$RuleReader"
  | 3 => .array (.object "LeapLane$Rule")
  | 4 => .int
  | 5 => .object "LeapLane$State"
  | 6 => .array (.object "LeapLane$State")
  | 7 => .object "LeapLane$Past"
  | 8 => .object "LeapLane$Umpire"
  | 9 => .object "LeapLane$Game"
  | 10 => .object "LeapLane$Lane"
  | 11 => .array .long
  | 12 => .array .int
  | 13 => .array .int
  | _ => .object "LeapLane$Reach"
abbrev wsX110 : List Cond := u_ws RX11 TX11 15
theorem nmX11 : ∀ a, a < 15 → ∀ b, b < 15 → a ≠ b → (TX11 a).2.1 ≠ (TX11 b).2.1 := by decide +kernel
theorem tyX11_ok : ∀ k, k < 15 → parseFieldDescriptor (TX11 k).2.2.1 = some (tyX11 k) := by decide +kernel
def RX12 : String := "LeapLaneModel"
def TX12 : u_T := fun k => match k with
  | 0 => ("LeapLaneModel", "tape", "[B", true)
  | 1 => ("LeapLaneModel", "taped", "I", false)
  | 2 => ("LeapLaneModel", "rules", "I", false)
  | 3 => ("LeapLaneModel", "sign", "[I", true)
  | 4 => ("LeapLaneModel", "length", "[I", true)
  | 5 => ("LeapLaneModel", "clause", "[I", true)
  | 6 => ("LeapLaneModel", "clauses", "[I", true)
  | 7 => ("LeapLaneModel", "read", "[I", true)
  | 8 => ("LeapLaneModel", "next", "I", false)
  | 9 => ("LeapLaneModel", "wrong", "I", false)
  | 10 => ("LeapLaneModel", "number", "I", false)
  | 11 => ("LeapLaneModel", "text", "I", false)
  | 12 => ("LeapLaneModel", "made", "I", false)
  | 13 => ("LeapLaneModel", "deep", "I", false)
  | 14 => ("LeapLaneModel", "lines", "I", false)
  | 15 => ("LeapLaneModel", "open", "[I", true)
  | 16 => ("LeapLaneModel", "opened", "I", false)
  | 17 => ("LeapLaneModel", "stack", "[J", true)
  | 18 => ("LeapLaneModel", "top", "I", false)
  | 19 => ("LeapLaneModel", "word", "[J", true)
  | 20 => ("LeapLaneModel", "said", "[I", true)
  | 21 => ("LeapLaneModel", "force", "I", false)
  | 22 => ("LeapLaneModel", "x", "I", false)
  | 23 => ("LeapLaneModel", "wasSaid", "[I", true)
  | 24 => ("LeapLaneModel", "undone", "I", false)
  | 25 => ("LeapLaneModel", "row", "[I", true)
  | 26 => ("LeapLaneModel", "rowThen", "[I", true)
  | 27 => ("LeapLaneModel", "far", "[I", true)
  | 28 => ("LeapLaneModel", "queue", "[I", true)
  | 29 => ("LeapLaneModel", "reached", "I", false)
  | 30 => ("LeapLaneModel", "stepWho", "I", false)
  | 31 => ("LeapLaneModel", "stepBacks", "I", false)
  | 32 => ("LeapLaneModel", "kept", "[I", true)
  | 33 => ("LeapLaneModel", "hasBy", "[I", true)
  | 34 => ("LeapLaneModel", "standsThen", "[I", true)
  | 35 => ("LeapLaneModel", "isFit", "[Z", true)
  | 36 => ("LeapLaneModel", "firstThen", "[I", true)
  | 37 => ("LeapLaneModel", "drawX", "J", false)
  | 38 => ("LeapLaneModel", "images", "[I", true)
  | 39 => ("LeapLaneModel", "imageForce", "[I", true)
  | 40 => ("LeapLaneModel", "imageX", "[I", true)
  | _ => ("LeapLaneModel", "isMade", "[Z", true)
def tyX12 : Nat → FieldType := fun k => match k with
  | 0 => .array .byte
  | 1 => .int
  | 2 => .int
  | 3 => .array .int
  | 4 => .array .int
  | 5 => .array .int
  | 6 => .array .int
  | 7 => .array .int
  | 8 => .int
  | 9 => .int
  | 10 => .int
  | 11 => .int
  | 12 => .int
  | 13 => .int
  | 14 => .int
  | 15 => .array .int
  | 16 => .int
  | 17 => .array .long
  | 18 => .int
  | 19 => .array .long
  | 20 => .array .int
  | 21 => .int
  | 22 => .int
  | 23 => .array .int
  | 24 => .int
  | 25 => .array .int
  | 26 => .array .int
  | 27 => .array .int
  | 28 => .array .int
  | 29 => .int
  | 30 => .int
  | 31 => .int
  | 32 => .array .int
  | 33 => .array .int
  | 34 => .array .int
  | 35 => .array .boolean
  | 36 => .array .int
  | 37 => .long
  | 38 => .array .int
  | 39 => .array .int
  | 40 => .array .int
  | _ => .array .boolean
abbrev wsX120 : List Cond := u_ws RX12 TX12 42
theorem nmX12 : ∀ a, a < 42 → ∀ b, b < 42 → a ≠ b → (TX12 a).2.1 ≠ (TX12 b).2.1 := by decide +kernel
theorem tyX12_ok : ∀ k, k < 42 → parseFieldDescriptor (TX12 k).2.2.1 = some (tyX12 k) := by decide +kernel
def RL : String := "LeapLaneLaw"
abbrev vwCl : List vw_C := [(RX0, TX0, 5), (RX1, TX1, 6), (RX2, TX2, 2), (RX3, TX3, 3), (RX4, TX4, 3), (RX5, TX5, 11), (RX6, TX6, 1), (RX7, TX7, 12), (RX8, TX8, 5), (RX9, TX9, 7), (RX10, TX10, 2), (RX11, TX11, 15), (RX12, TX12, 42)]
