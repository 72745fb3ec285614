/-! THE CLASSES: names, fields in the order of the slots, types (begun from the printed names) -/
def RX0 : String := "CardUnsigned$Bodies"
def TX0 : u_T := fun k => match k with
  | 0 => ("CardUnsigned$Bodies", "kinds", "[I", true)
  | 1 => ("CardUnsigned$Bodies", "size", "I", false)
  | 2 => ("CardUnsigned$Bodies", "trace", "[I", true)
  | 3 => ("CardUnsigned$Bodies", "ran", "I", false)
  | _ => ("CardUnsigned$Bodies", "number", "I", false)
def tyX0 : Nat → FieldType := fun k => match k with
  | 0 => .array .int
  | 1 => .int
  | 2 => .array .int
  | 3 => .int
  | _ => .int
abbrev wsX00 : List Cond := u_ws RX0 TX0 5
theorem nmX0 : ∀ a, a < 5 → ∀ b, b < 5 → a ≠ b → (TX0 a).2.1 ≠ (TX0 b).2.1 := by decide +kernel
theorem tyX0_ok : ∀ k, k < 5 → parseFieldDescriptor (TX0 k).2.2.1 = some (tyX0 k) := by decide +kernel
def RX1 : String := "CardUnsigned$Changes"
def TX1 : u_T := fun k => match k with
  | 0 => ("CardUnsigned$Changes", "office", "LCardUnsigned$Office;", true)
  | 1 => ("CardUnsigned$Changes", "number", "[I", true)
  | 2 => ("CardUnsigned$Changes", "what", "[I", true)
  | 3 => ("CardUnsigned$Changes", "before", "[I", true)
  | 4 => ("CardUnsigned$Changes", "behind", "[I", true)
  | 5 => ("CardUnsigned$Changes", "done", "I", false)
  | _ => ("CardUnsigned$Changes", "undone", "I", false)
def tyX1 : Nat → FieldType := fun k => match k with
  | 0 => .object "CardUnsigned$Office"
  | 1 => .array .int
  | 2 => .array .int
  | 3 => .array .int
  | 4 => .array .int
  | 5 => .int
  | _ => .int
abbrev wsX10 : List Cond := u_ws RX1 TX1 7
theorem nmX1 : ∀ a, a < 7 → ∀ b, b < 7 → a ≠ b → (TX1 a).2.1 ≠ (TX1 b).2.1 := by decide +kernel
theorem tyX1_ok : ∀ k, k < 7 → parseFieldDescriptor (TX1 k).2.2.1 = some (tyX1 k) := by decide +kernel
def RX2 : String := "CardUnsigned$Deeds"
def TX2 : u_T := fun k => match k with
  | 0 => ("CardUnsigned$Deeds", "office", "LCardUnsigned$Office;", true)
  | 1 => ("CardUnsigned$Deeds", "now", "I", false)
  | 2 => ("CardUnsigned$Deeds", "sent", "I", false)
  | 3 => ("CardUnsigned$Deeds", "right", "I", false)
  | 4 => ("CardUnsigned$Deeds", "wrong", "I", false)
  | 5 => ("CardUnsigned$Deeds", "imageKept", "Z", false)
  | 6 => ("CardUnsigned$Deeds", "nowThen", "I", false)
  | 7 => ("CardUnsigned$Deeds", "sentThen", "I", false)
  | 8 => ("CardUnsigned$Deeds", "rightThen", "I", false)
  | 9 => ("CardUnsigned$Deeds", "wrongThen", "I", false)
  | _ => ("CardUnsigned$Deeds", "thankedThen", "[I", true)
def tyX2 : Nat → FieldType := fun k => match k with
  | 0 => .object "CardUnsigned$Office"
  | 1 => .int
  | 2 => .int
  | 3 => .int
  | 4 => .int
  | 5 => .boolean
  | 6 => .int
  | 7 => .int
  | 8 => .int
  | 9 => .int
  | _ => .array .int
abbrev wsX20 : List Cond := u_ws RX2 TX2 11
theorem nmX2 : ∀ a, a < 11 → ∀ b, b < 11 → a ≠ b → (TX2 a).2.1 ≠ (TX2 b).2.1 := by decide +kernel
theorem tyX2_ok : ∀ k, k < 11 → parseFieldDescriptor (TX2 k).2.2.1 = some (tyX2 k) := by decide +kernel
def RX3 : String := "CardUnsigned$Law"
def TX3 : u_T := fun k => match k with
  | 0 => ("CardUnsigned$Law", "steps", "[I", true)
  | 1 => ("CardUnsigned$Law", "size", "I", false)
  | _ => ("CardUnsigned$Law", "stack", "[I", true)
def tyX3 : Nat → FieldType := fun k => match k with
  | 0 => .array .int
  | 1 => .int
  | _ => .array .int
abbrev wsX30 : List Cond := u_ws RX3 TX3 3
theorem nmX3 : ∀ a, a < 3 → ∀ b, b < 3 → a ≠ b → (TX3 a).2.1 ≠ (TX3 b).2.1 := by decide +kernel
theorem tyX3_ok : ∀ k, k < 3 → parseFieldDescriptor (TX3 k).2.2.1 = some (tyX3 k) := by decide +kernel
def RX4 : String := "CardUnsigned$Office"
def TX4 : u_T := fun k => match k with
  | 0 => ("CardUnsigned$Office", "numbers", "[[I", true)
  | 1 => ("CardUnsigned$Office", "people", "I", false)
  | _ => ("CardUnsigned$Office", "cards", "I", false)
def tyX4 : Nat → FieldType := fun k => match k with
  | 0 => .array (.array .int)
  | 1 => .int
  | _ => .int
abbrev wsX40 : List Cond := u_ws RX4 TX4 3
theorem nmX4 : ∀ a, a < 3 → ∀ b, b < 3 → a ≠ b → (TX4 a).2.1 ≠ (TX4 b).2.1 := by decide +kernel
theorem tyX4_ok : ∀ k, k < 3 → parseFieldDescriptor (TX4 k).2.2.1 = some (tyX4 k) := by decide +kernel
def RX5 : String := "CardUnsigned$Parser"
def TX5 : u_T := fun k => match k with
  | 0 => ("CardUnsigned$Parser", "tape", "[I", true)
  | 1 => ("CardUnsigned$Parser", "tapeSize", "I", false)
  | 2 => ("CardUnsigned$Parser", "steps", "[I", true)
  | 3 => ("CardUnsigned$Parser", "size", "I", false)
  | 4 => ("CardUnsigned$Parser", "waiting", "[I", true)
  | 5 => ("CardUnsigned$Parser", "waits", "I", false)
  | 6 => ("CardUnsigned$Parser", "open", "I", false)
  | 7 => ("CardUnsigned$Parser", "brackets", "I", false)
  | 8 => ("CardUnsigned$Parser", "wantsOperand", "Z", false)
  | 9 => ("CardUnsigned$Parser", "guarded", "Z", false)
  | 10 => ("CardUnsigned$Parser", "digits", "I", false)
  | _ => ("CardUnsigned$Parser", "numberStep", "I", false)
def tyX5 : Nat → FieldType := fun k => match k with
  | 0 => .array .int
  | 1 => .int
  | 2 => .array .int
  | 3 => .int
  | 4 => .array .int
  | 5 => .int
  | 6 => .int
  | 7 => .int
  | 8 => .boolean
  | 9 => .boolean
  | 10 => .int
  | _ => .int
abbrev wsX50 : List Cond := u_ws RX5 TX5 12
theorem nmX5 : ∀ a, a < 12 → ∀ b, b < 12 → a ≠ b → (TX5 a).2.1 ≠ (TX5 b).2.1 := by decide +kernel
theorem tyX5_ok : ∀ k, k < 12 → parseFieldDescriptor (TX5 k).2.2.1 = some (tyX5 k) := by decide +kernel
def RX6 : String := "CardUnsigned$Plans"
def TX6 : u_T := fun k => match k with
  | 0 => ("CardUnsigned$Plans", "office", "LCardUnsigned$Office;", true)
  | 1 => ("CardUnsigned$Plans", "thought", "LCardUnsigned$Thought;", true)
  | 2 => ("CardUnsigned$Plans", "times", "[I", true)
  | 3 => ("CardUnsigned$Plans", "way", "I", false)
  | 4 => ("CardUnsigned$Plans", "wayTop", "I", false)
  | _ => ("CardUnsigned$Plans", "wayBelow", "I", false)
def tyX6 : Nat → FieldType := fun k => match k with
  | 0 => .object "CardUnsigned$Office"
  | 1 => .object "CardUnsigned$Thought"
  | 2 => .array .int
  | 3 => .int
  | 4 => .int
  | _ => .int
abbrev wsX60 : List Cond := u_ws RX6 TX6 6
theorem nmX6 : ∀ a, a < 6 → ∀ b, b < 6 → a ≠ b → (TX6 a).2.1 ≠ (TX6 b).2.1 := by decide +kernel
theorem tyX6_ok : ∀ k, k < 6 → parseFieldDescriptor (TX6 k).2.2.1 = some (tyX6 k) := by decide +kernel
def RX7 : String := "CardUnsigned$Rows"
def TX7 : u_T := fun k => match k with
  | 0 => ("CardUnsigned$Rows", "office", "LCardUnsigned$Office;", true)
  | 1 => ("CardUnsigned$Rows", "thought", "LCardUnsigned$Thought;", true)
  | _ => ("CardUnsigned$Rows", "tally", "[I", true)
def tyX7 : Nat → FieldType := fun k => match k with
  | 0 => .object "CardUnsigned$Office"
  | 1 => .object "CardUnsigned$Thought"
  | _ => .array .int
abbrev wsX70 : List Cond := u_ws RX7 TX7 3
theorem nmX7 : ∀ a, a < 3 → ∀ b, b < 3 → a ≠ b → (TX7 a).2.1 ≠ (TX7 b).2.1 := by decide +kernel
theorem tyX7_ok : ∀ k, k < 3 → parseFieldDescriptor (TX7 k).2.2.1 = some (tyX7 k) := by decide +kernel
def RX8 : String := "CardUnsigned$Shelf"
def TX8 : u_T := fun k => match k with
  | 0 => ("CardUnsigned$Shelf", "holds", "I", false)
  | 1 => ("CardUnsigned$Shelf", "body", "I", false)
  | 2 => ("CardUnsigned$Shelf", "sort", "I", false)
  | 3 => ("CardUnsigned$Shelf", "size", "I", false)
  | _ => ("CardUnsigned$Shelf", "row", "[J", true)
def tyX8 : Nat → FieldType := fun k => match k with
  | 0 => .int
  | 1 => .int
  | 2 => .int
  | 3 => .int
  | _ => .array .long
abbrev wsX80 : List Cond := u_ws RX8 TX8 5
theorem nmX8 : ∀ a, a < 5 → ∀ b, b < 5 → a ≠ b → (TX8 a).2.1 ≠ (TX8 b).2.1 := by decide +kernel
theorem tyX8_ok : ∀ k, k < 5 → parseFieldDescriptor (TX8 k).2.2.1 = some (tyX8 k) := by decide +kernel
def RX9 : String := "CardUnsigned$Steps"
def TX9 : u_T := fun k => match k with
  | _ => ("", "", "", false)
def tyX9 : Nat → FieldType := fun k => match k with
  | _ => .int
abbrev wsX90 : List Cond := u_ws RX9 TX9 0
theorem nmX9 : ∀ a, a < 0 → ∀ b, b < 0 → a ≠ b → (TX9 a).2.1 ≠ (TX9 b).2.1 := by decide +kernel
theorem tyX9_ok : ∀ k, k < 0 → parseFieldDescriptor (TX9 k).2.2.1 = some (tyX9 k) := by decide +kernel
def RX10 : String := "CardUnsigned$Thought"
def TX10 : u_T := fun k => match k with
  | 0 => ("CardUnsigned$Thought", "office", "LCardUnsigned$Office;", true)
  | 1 => ("CardUnsigned$Thought", "law", "LCardUnsigned$Law;", true)
  | 2 => ("CardUnsigned$Thought", "names", "[I", true)
  | 3 => ("CardUnsigned$Thought", "weights", "[I", true)
  | 4 => ("CardUnsigned$Thought", "could", "[I", true)
  | _ => ("CardUnsigned$Thought", "ways", "[I", true)
def tyX10 : Nat → FieldType := fun k => match k with
  | 0 => .object "CardUnsigned$Office"
  | 1 => .object "CardUnsigned$Law"
  | 2 => .array .int
  | 3 => .array .int
  | 4 => .array .int
  | _ => .array .int
abbrev wsX100 : List Cond := u_ws RX10 TX10 6
theorem nmX10 : ∀ a, a < 6 → ∀ b, b < 6 → a ≠ b → (TX10 a).2.1 ≠ (TX10 b).2.1 := by decide +kernel
theorem tyX10_ok : ∀ k, k < 6 → parseFieldDescriptor (TX10 k).2.2.1 = some (tyX10 k) := by decide +kernel
def RX11 : String := "CardUnsigned"
def TX11 : u_T := fun k => match k with
  | 0 => ("CardUnsigned", "office", "LCardUnsigned$Office;", true)
  | 1 => ("CardUnsigned", "changes", "LCardUnsigned$Changes;", true)
  | 2 => ("CardUnsigned", "parser", "LCardUnsigned$Parser;", true)
  | 3 => ("CardUnsigned", "law", "LCardUnsigned$Law;", true)
  | 4 => ("CardUnsigned", "thought", "LCardUnsigned$Thought;", true)
  | 5 => ("CardUnsigned", "plans", "LCardUnsigned$Plans;", true)
  | 6 => ("CardUnsigned", "rows", "LCardUnsigned$Rows;", true)
  | 7 => ("CardUnsigned", "deeds", "LCardUnsigned$Deeds;", true)
  | 8 => ("CardUnsigned", "bodies", "LCardUnsigned$Bodies;", true)
  | _ => ("CardUnsigned", "shelves", "[LCardUnsigned$Shelf;", true)
def tyX11 : Nat → FieldType := fun k => match k with
  | 0 => .object "CardUnsigned$Office"
  | 1 => .object "CardUnsigned$Changes"
  | 2 => .object "CardUnsigned$Parser"
  | 3 => .object "CardUnsigned$Law"
  | 4 => .object "CardUnsigned$Thought"
  | 5 => .object "CardUnsigned$Plans"
  | 6 => .object "CardUnsigned$Rows"
  | 7 => .object "CardUnsigned$Deeds"
  | 8 => .object "CardUnsigned$Bodies"
  | _ => .array (.object "CardUnsigned$Shelf")
abbrev wsX110 : List Cond := u_ws RX11 TX11 10
theorem nmX11 : ∀ a, a < 10 → ∀ b, b < 10 → a ≠ b → (TX11 a).2.1 ≠ (TX11 b).2.1 := by decide +kernel
theorem tyX11_ok : ∀ k, k < 10 → parseFieldDescriptor (TX11 k).2.2.1 = some (tyX11 k) := by decide +kernel
def RX12 : String := "CardUnsignedModel"
def TX12 : u_T := fun k => match k with
  | 0 => ("CardUnsignedModel", "many", "I", false)
  | 1 => ("CardUnsignedModel", "from", "[I", true)
  | 2 => ("CardUnsignedModel", "till", "[I", true)
  | 3 => ("CardUnsignedModel", "hand", "[I", true)
  | 4 => ("CardUnsignedModel", "shy", "[I", true)
  | 5 => ("CardUnsignedModel", "liked", "[I", true)
  | 6 => ("CardUnsignedModel", "knows", "[I", true)
  | 7 => ("CardUnsignedModel", "cards", "I", false)
  | 8 => ("CardUnsignedModel", "whom", "[I", true)
  | 9 => ("CardUnsignedModel", "minute", "[I", true)
  | 10 => ("CardUnsignedModel", "shown", "[I", true)
  | 11 => ("CardUnsignedModel", "secret", "[I", true)
  | 12 => ("CardUnsignedModel", "stamp", "[I", true)
  | 13 => ("CardUnsignedModel", "sender", "[I", true)
  | 14 => ("CardUnsignedModel", "thanks", "[I", true)
  | 15 => ("CardUnsignedModel", "ways", "[I", true)
  | 16 => ("CardUnsignedModel", "now", "I", false)
  | 17 => ("CardUnsignedModel", "taped", "I", false)
  | 18 => ("CardUnsignedModel", "tape", "[I", true)
  | 19 => ("CardUnsignedModel", "isTold", "Z", false)
  | 20 => ("CardUnsignedModel", "lines", "I", false)
  | 21 => ("CardUnsignedModel", "asks", "[I", true)
  | 22 => ("CardUnsignedModel", "says", "[I", true)
  | 23 => ("CardUnsignedModel", "ends", "[I", true)
  | 24 => ("CardUnsignedModel", "code", "[I", true)
  | 25 => ("CardUnsignedModel", "at", "I", false)
  | 26 => ("CardUnsignedModel", "open", "I", false)
  | 27 => ("CardUnsignedModel", "coded", "I", false)
  | 28 => ("CardUnsignedModel", "newLines", "I", false)
  | 29 => ("CardUnsignedModel", "newAsks", "[I", true)
  | 30 => ("CardUnsignedModel", "newSays", "[I", true)
  | 31 => ("CardUnsignedModel", "newEnds", "[I", true)
  | 32 => ("CardUnsignedModel", "newCode", "[I", true)
  | 33 => ("CardUnsignedModel", "stack", "[I", true)
  | 34 => ("CardUnsignedModel", "names", "[I", true)
  | 35 => ("CardUnsignedModel", "led", "[I", true)
  | 36 => ("CardUnsignedModel", "imaged", "Z", false)
  | 37 => ("CardUnsignedModel", "oldCards", "I", false)
  | 38 => ("CardUnsignedModel", "oldNow", "I", false)
  | 39 => ("CardUnsignedModel", "oldThanks", "[I", true)
  | 40 => ("CardUnsignedModel", "oldLed", "[I", true)
  | 41 => ("CardUnsignedModel", "changes", "I", false)
  | 42 => ("CardUnsignedModel", "done", "I", false)
  | 43 => ("CardUnsignedModel", "changed", "[I", true)
  | 44 => ("CardUnsignedModel", "bodies", "I", false)
  | 45 => ("CardUnsignedModel", "kind", "[I", true)
  | 46 => ("CardUnsignedModel", "traced", "I", false)
  | 47 => ("CardUnsignedModel", "traces", "[I", true)
  | 48 => ("CardUnsignedModel", "holding", "[I", true)
  | 49 => ("CardUnsignedModel", "rowLength", "[I", true)
  | 50 => ("CardUnsignedModel", "rowOf", "[J", true)
  | 51 => ("CardUnsignedModel", "told", "[I", true)
  | 52 => ("CardUnsignedModel", "often", "[I", true)
  | 53 => ("CardUnsignedModel", "bestWay", "I", false)
  | 54 => ("CardUnsignedModel", "bestAbove", "I", false)
  | _ => ("CardUnsignedModel", "bestBelow", "I", false)
def tyX12 : Nat → FieldType := fun k => match k with
  | 0 => .int
  | 1 => .array .int
  | 2 => .array .int
  | 3 => .array .int
  | 4 => .array .int
  | 5 => .array .int
  | 6 => .array .int
  | 7 => .int
  | 8 => .array .int
  | 9 => .array .int
  | 10 => .array .int
  | 11 => .array .int
  | 12 => .array .int
  | 13 => .array .int
  | 14 => .array .int
  | 15 => .array .int
  | 16 => .int
  | 17 => .int
  | 18 => .array .int
  | 19 => .boolean
  | 20 => .int
  | 21 => .array .int
  | 22 => .array .int
  | 23 => .array .int
  | 24 => .array .int
  | 25 => .int
  | 26 => .int
  | 27 => .int
  | 28 => .int
  | 29 => .array .int
  | 30 => .array .int
  | 31 => .array .int
  | 32 => .array .int
  | 33 => .array .int
  | 34 => .array .int
  | 35 => .array .int
  | 36 => .boolean
  | 37 => .int
  | 38 => .int
  | 39 => .array .int
  | 40 => .array .int
  | 41 => .int
  | 42 => .int
  | 43 => .array .int
  | 44 => .int
  | 45 => .array .int
  | 46 => .int
  | 47 => .array .int
  | 48 => .array .int
  | 49 => .array .int
  | 50 => .array .long
  | 51 => .array .int
  | 52 => .array .int
  | 53 => .int
  | 54 => .int
  | _ => .int
abbrev wsX120 : List Cond := u_ws RX12 TX12 56
theorem nmX12 : ∀ a, a < 56 → ∀ b, b < 56 → a ≠ b → (TX12 a).2.1 ≠ (TX12 b).2.1 := by decide +kernel
theorem tyX12_ok : ∀ k, k < 56 → parseFieldDescriptor (TX12 k).2.2.1 = some (tyX12 k) := by decide +kernel
def zk_uw : List Cond := lw_tbl.filter goodWord
theorem zk_uw_in {w : Cond} (h : w ∈ lw_tbl) (hg : goodWord w = true) : w ∈ zk_uw := List.mem_filter.mpr ⟨h, hg⟩
abbrev zk_cl : List vw_C := [(RX0, TX0, 5), (RX1, TX1, 7), (RX2, TX2, 11), (RX3, TX3, 3), (RX4, TX4, 3), (RX5, TX5, 12), (RX6, TX6, 6), (RX7, TX7, 3), (RX8, TX8, 5), (RX8, TX9, 0), (RX10, TX10, 6), (RX11, TX11, 10), (RX12, TX12, 56)]
def zk_ty (c : Nat) : Nat → FieldType := match c with
  | 0 => tyX0
  | 1 => tyX1
  | 2 => tyX2
  | 3 => tyX3
  | 4 => tyX4
  | 5 => tyX5
  | 6 => tyX6
  | 7 => tyX7
  | 8 => tyX8
  | 9 => tyX9
  | 10 => tyX10
  | 11 => tyX11
  | _ => tyX12
def zk_N (c : Nat) : Nat := match c with
  | 0 => 5
  | 1 => 7
  | 2 => 11
  | 3 => 3
  | 4 => 3
  | 5 => 12
  | 6 => 6
  | 7 => 3
  | 8 => 5
  | 9 => 0
  | 10 => 6
  | 11 => 10
  | _ => 56
