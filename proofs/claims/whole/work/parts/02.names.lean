def RX0 : String := "DotScreens$Beat"
def TX0 : u_T := fun k => match k with
  | 0 => ("DotScreens$Beat", "x", "I", false)
  | 1 => ("DotScreens$Beat", "y", "I", false)
  | 2 => ("DotScreens$Beat", "wave", "I", false)
  | 3 => ("DotScreens$Beat", "otherWave", "I", false)
  | 4 => ("DotScreens$Beat", "isAlike", "Z", false)
  | 5 => ("DotScreens$Beat", "upper", "J", false)
  | _ => ("DotScreens$Beat", "lower", "J", false)
def tyX0 : Nat → FieldType := fun k => match k with
  | 0 => .int
  | 1 => .int
  | 2 => .int
  | 3 => .int
  | 4 => .boolean
  | 5 => .long
  | _ => .long
theorem nmX0 : ∀ a, a < 7 → ∀ b, b < 7 → a ≠ b → (TX0 a).2.1 ≠ (TX0 b).2.1 := by decide +kernel
theorem tyX0_ok : ∀ k, k < 7 → parseFieldDescriptor (TX0 k).2.2.1 = some (tyX0 k) := by decide +kernel
def RX1 : String := "DotScreens$Chooser"
def TX1 : u_T := fun k => match k with
  | 0 => ("DotScreens$Chooser", "squareA", "[I", true)
  | 1 => ("DotScreens$Chooser", "squareB", "[I", true)
  | 2 => ("DotScreens$Chooser", "squares", "I", false)
  | 3 => ("DotScreens$Chooser", "uppers", "[J", true)
  | 4 => ("DotScreens$Chooser", "lowers", "[J", true)
  | 5 => ("DotScreens$Chooser", "one", "LDotScreens$Screen;", true)
  | 6 => ("DotScreens$Chooser", "other", "LDotScreens$Screen;", true)
  | 7 => ("DotScreens$Chooser", "beat", "LDotScreens$Beat;", true)
  | 8 => ("DotScreens$Chooser", "chosen", "[I", true)
  | 9 => ("DotScreens$Chooser", "bestCouple", "I", false)
  | 10 => ("DotScreens$Chooser", "lastN", "I", false)
  | 11 => ("DotScreens$Chooser", "lastLow", "I", false)
  | 12 => ("DotScreens$Chooser", "lastHigh", "I", false)
  | _ => ("DotScreens$Chooser", "lastFar", "Z", false)
def tyX1 : Nat → FieldType := fun k => match k with
  | 0 => .array .int
  | 1 => .array .int
  | 2 => .int
  | 3 => .array .long
  | 4 => .array .long
  | 5 => .object "DotScreens$Screen"
  | 6 => .object "DotScreens$Screen"
  | 7 => .object "DotScreens$Beat"
  | 8 => .array .int
  | 9 => .int
  | 10 => .int
  | 11 => .int
  | 12 => .int
  | _ => .boolean
theorem nmX1 : ∀ a, a < 14 → ∀ b, b < 14 → a ≠ b → (TX1 a).2.1 ≠ (TX1 b).2.1 := by decide +kernel
theorem tyX1_ok : ∀ k, k < 14 → parseFieldDescriptor (TX1 k).2.2.1 = some (tyX1 k) := by decide +kernel
def RX2 : String := "DotScreens$Grid"
def TX2 : u_T := fun k => match k with
  | 0 => ("DotScreens$Grid", "wide", "J", false)
  | 1 => ("DotScreens$Grid", "high", "J", false)
  | _ => ("DotScreens$Grid", "slant", "J", false)
def tyX2 : Nat → FieldType := fun k => match k with
  | 0 => .long
  | 1 => .long
  | _ => .long
theorem nmX2 : ∀ a, a < 3 → ∀ b, b < 3 → a ≠ b → (TX2 a).2.1 ≠ (TX2 b).2.1 := by decide +kernel
theorem tyX2_ok : ∀ k, k < 3 → parseFieldDescriptor (TX2 k).2.2.1 = some (tyX2 k) := by decide +kernel
def RX3 : String := "DotScreens$Growth"
def TX3 : u_T := fun k => match k with
  | 0 => ("DotScreens$Growth", "roots", "[I", true)
  | 1 => ("DotScreens$Growth", "wayX", "[I", true)
  | 2 => ("DotScreens$Growth", "wayY", "[I", true)
  | 3 => ("DotScreens$Growth", "sizes", "[I", true)
  | 4 => ("DotScreens$Growth", "foundX", "I", false)
  | 5 => ("DotScreens$Growth", "foundY", "I", false)
  | 6 => ("DotScreens$Growth", "lots", "I", false)
  | 7 => ("DotScreens$Growth", "touch", "I", false)
  | 8 => ("DotScreens$Growth", "solid", "I", false)
  | 9 => ("DotScreens$Growth", "roundX", "I", false)
  | _ => ("DotScreens$Growth", "roundY", "I", false)
def tyX3 : Nat → FieldType := fun k => match k with
  | 0 => .array .int
  | 1 => .array .int
  | 2 => .array .int
  | 3 => .array .int
  | 4 => .int
  | 5 => .int
  | 6 => .int
  | 7 => .int
  | 8 => .int
  | 9 => .int
  | _ => .int
theorem nmX3 : ∀ a, a < 11 → ∀ b, b < 11 → a ≠ b → (TX3 a).2.1 ≠ (TX3 b).2.1 := by decide +kernel
theorem tyX3_ok : ∀ k, k < 11 → parseFieldDescriptor (TX3 k).2.2.1 = some (tyX3 k) := by decide +kernel
def RX4 : String := "DotScreens$Ink"
def TX4 : u_T := fun k => match k with
  | 0 => ("DotScreens$Ink", "screen", "LDotScreens$Screen;", true)
  | 1 => ("DotScreens$Ink", "grid", "LDotScreens$Grid;", true)
  | 2 => ("DotScreens$Ink", "cell", "I", false)
  | 3 => ("DotScreens$Ink", "kind", "I", false)
  | 4 => ("DotScreens$Ink", "tone", "I", false)
  | 5 => ("DotScreens$Ink", "offsetX", "I", false)
  | 6 => ("DotScreens$Ink", "offsetY", "I", false)
  | 7 => ("DotScreens$Ink", "spots", "[I", true)
  | 8 => ("DotScreens$Ink", "ranks", "[I", true)
  | 9 => ("DotScreens$Ink", "order", "[I", true)
  | 10 => ("DotScreens$Ink", "lots", "[I", true)
  | 11 => ("DotScreens$Ink", "touch", "I", false)
  | 12 => ("DotScreens$Ink", "solid", "I", false)
  | 13 => ("DotScreens$Ink", "isSorted", "Z", false)
  | 14 => ("DotScreens$Ink", "isGrown", "Z", false)
  | 15 => ("DotScreens$Ink", "rowStart", "I", false)
  | 16 => ("DotScreens$Ink", "column", "I", false)
  | _ => ("DotScreens$Ink", "rowLevel", "I", false)
def tyX4 : Nat → FieldType := fun k => match k with
  | 0 => .object "DotScreens$Screen"
  | 1 => .object "DotScreens$Grid"
  | 2 => .int
  | 3 => .int
  | 4 => .int
  | 5 => .int
  | 6 => .int
  | 7 => .array .int
  | 8 => .array .int
  | 9 => .array .int
  | 10 => .array .int
  | 11 => .int
  | 12 => .int
  | 13 => .boolean
  | 14 => .boolean
  | 15 => .int
  | 16 => .int
  | _ => .int
theorem nmX4 : ∀ a, a < 18 → ∀ b, b < 18 → a ≠ b → (TX4 a).2.1 ≠ (TX4 b).2.1 := by decide +kernel
theorem tyX4_ok : ∀ k, k < 18 → parseFieldDescriptor (TX4 k).2.2.1 = some (tyX4 k) := by decide +kernel
def RX5 : String := "DotScreens$Reader"
def TX5 : u_T := fun k => match k with
  | 0 => ("DotScreens$Reader", "parts", "[I", true)
  | 1 => ("DotScreens$Reader", "tape", "LDotScreens$Tape;", true)
  | 2 => ("DotScreens$Reader", "place", "I", false)
  | 3 => ("DotScreens$Reader", "sign", "I", false)
  | 4 => ("DotScreens$Reader", "clauses", "I", false)
  | 5 => ("DotScreens$Reader", "wrong", "I", false)
  | _ => ("DotScreens$Reader", "had", "I", false)
def tyX5 : Nat → FieldType := fun k => match k with
  | 0 => .array .int
  | 1 => .object "DotScreens$Tape"
  | 2 => .int
  | 3 => .int
  | 4 => .int
  | 5 => .int
  | _ => .int
theorem nmX5 : ∀ a, a < 7 → ∀ b, b < 7 → a ≠ b → (TX5 a).2.1 ≠ (TX5 b).2.1 := by decide +kernel
theorem tyX5_ok : ∀ k, k < 7 → parseFieldDescriptor (TX5 k).2.2.1 = some (tyX5 k) := by decide +kernel
def RX6 : String := "DotScreens$Reduction"
def TX6 : u_T := fun k => match k with
  | 0 => ("DotScreens$Reduction", "shortX", "J", false)
  | 1 => ("DotScreens$Reduction", "shortY", "J", false)
  | 2 => ("DotScreens$Reduction", "longX", "J", false)
  | 3 => ("DotScreens$Reduction", "longY", "J", false)
  | 4 => ("DotScreens$Reduction", "firstX", "J", false)
  | 5 => ("DotScreens$Reduction", "firstY", "J", false)
  | 6 => ("DotScreens$Reduction", "secondX", "J", false)
  | _ => ("DotScreens$Reduction", "secondY", "J", false)
def tyX6 : Nat → FieldType := fun k => match k with
  | 0 => .long
  | 1 => .long
  | 2 => .long
  | 3 => .long
  | 4 => .long
  | 5 => .long
  | 6 => .long
  | _ => .long
theorem nmX6 : ∀ a, a < 8 → ∀ b, b < 8 → a ≠ b → (TX6 a).2.1 ≠ (TX6 b).2.1 := by decide +kernel
theorem tyX6_ok : ∀ k, k < 8 → parseFieldDescriptor (TX6 k).2.2.1 = some (tyX6 k) := by decide +kernel
def RX7 : String := "DotScreens$Screen"
def TX7 : u_T := fun k => match k with
  | 0 => ("DotScreens$Screen", "a", "I", false)
  | 1 => ("DotScreens$Screen", "b", "I", false)
  | 2 => ("DotScreens$Screen", "c", "I", false)
  | _ => ("DotScreens$Screen", "d", "I", false)
def tyX7 : Nat → FieldType := fun k => match k with
  | 0 => .int
  | 1 => .int
  | 2 => .int
  | _ => .int
theorem nmX7 : ∀ a, a < 4 → ∀ b, b < 4 → a ≠ b → (TX7 a).2.1 ≠ (TX7 b).2.1 := by decide +kernel
theorem tyX7_ok : ∀ k, k < 4 → parseFieldDescriptor (TX7 k).2.2.1 = some (tyX7 k) := by decide +kernel
def RX8 : String := "DotScreens$Tape"
def TX8 : u_T := fun k => match k with
  | 0 => ("DotScreens$Tape", "bytes", "[I", true)
  | _ => ("DotScreens$Tape", "length", "I", false)
def tyX8 : Nat → FieldType := fun k => match k with
  | 0 => .array .int
  | _ => .int
theorem nmX8 : ∀ a, a < 2 → ∀ b, b < 2 → a ≠ b → (TX8 a).2.1 ≠ (TX8 b).2.1 := by decide +kernel
theorem tyX8_ok : ∀ k, k < 2 → parseFieldDescriptor (TX8 k).2.2.1 = some (tyX8 k) := by decide +kernel
def RX9 : String := "DotScreens"
def TX9 : u_T := fun k => match k with
  | 0 => ("DotScreens", "tape", "LDotScreens$Tape;", true)
  | 1 => ("DotScreens", "reader", "LDotScreens$Reader;", true)
  | 2 => ("DotScreens", "inks", "[LDotScreens$Ink;", true)
  | 3 => ("DotScreens", "held", "I", false)
  | 4 => ("DotScreens", "refused", "[I", true)
  | 5 => ("DotScreens", "growth", "LDotScreens$Growth;", true)
  | 6 => ("DotScreens", "meeting", "LDotScreens$Grid;", true)
  | 7 => ("DotScreens", "reduction", "LDotScreens$Reduction;", true)
  | 8 => ("DotScreens", "beating", "LDotScreens$Beat;", true)
  | 9 => ("DotScreens", "chooser", "LDotScreens$Chooser;", true)
  | 10 => ("DotScreens", "square", "LDotScreens$Screen;", true)
  | 11 => ("DotScreens", "leastUpper", "J", false)
  | _ => ("DotScreens", "leastLower", "J", false)
def tyX9 : Nat → FieldType := fun k => match k with
  | 0 => .object "DotScreens$Tape"
  | 1 => .object "DotScreens$Reader"
  | 2 => .array (.object "DotScreens$Ink")
  | 3 => .int
  | 4 => .array .int
  | 5 => .object "DotScreens$Growth"
  | 6 => .object "DotScreens$Grid"
  | 7 => .object "DotScreens$Reduction"
  | 8 => .object "DotScreens$Beat"
  | 9 => .object "DotScreens$Chooser"
  | 10 => .object "DotScreens$Screen"
  | 11 => .long
  | _ => .long
theorem nmX9 : ∀ a, a < 13 → ∀ b, b < 13 → a ≠ b → (TX9 a).2.1 ≠ (TX9 b).2.1 := by decide +kernel
theorem tyX9_ok : ∀ k, k < 13 → parseFieldDescriptor (TX9 k).2.2.1 = some (tyX9 k) := by decide +kernel
def RX10 : String := "DotScreensModel"
def TX10 : u_T := fun k => match k with
  | 0 => ("DotScreensModel", "thrown", "I", false)
  | 1 => ("DotScreensModel", "tape", "[I", true)
  | 2 => ("DotScreensModel", "taped", "I", false)
  | 3 => ("DotScreensModel", "at", "I", false)
  | 4 => ("DotScreensModel", "wrong", "I", false)
  | 5 => ("DotScreensModel", "readInk", "[I", true)
  | 6 => ("DotScreensModel", "ink", "[I", true)
  | 7 => ("DotScreensModel", "refused", "[I", true)
  | 8 => ("DotScreensModel", "readClauses", "I", false)
  | 9 => ("DotScreensModel", "readInks", "I", false)
  | 10 => ("DotScreensModel", "inks", "I", false)
  | 11 => ("DotScreensModel", "wide", "J", false)
  | 12 => ("DotScreensModel", "high", "J", false)
  | 13 => ("DotScreensModel", "slant", "J", false)
  | 14 => ("DotScreensModel", "firstX", "J", false)
  | 15 => ("DotScreensModel", "firstY", "J", false)
  | 16 => ("DotScreensModel", "secondX", "J", false)
  | 17 => ("DotScreensModel", "secondY", "J", false)
  | 18 => ("DotScreensModel", "homeX", "I", false)
  | 19 => ("DotScreensModel", "homeY", "I", false)
  | 20 => ("DotScreensModel", "rankX", "[I", true)
  | 21 => ("DotScreensModel", "rankY", "[I", true)
  | 22 => ("DotScreensModel", "rankSpot", "[I", true)
  | 23 => ("DotScreensModel", "rankOf", "[I", true)
  | 24 => ("DotScreensModel", "foundX", "[I", true)
  | 25 => ("DotScreensModel", "foundY", "[I", true)
  | 26 => ("DotScreensModel", "isFound", "[Z", true)
  | 27 => ("DotScreensModel", "queue", "[I", true)
  | 28 => ("DotScreensModel", "lots", "I", false)
  | 29 => ("DotScreensModel", "touches", "Z", false)
  | 30 => ("DotScreensModel", "isSolid", "Z", false)
  | 31 => ("DotScreensModel", "moveX", "J", false)
  | 32 => ("DotScreensModel", "moveY", "J", false)
  | 33 => ("DotScreensModel", "pairX", "J", false)
  | 34 => ("DotScreensModel", "pairY", "J", false)
  | 35 => ("DotScreensModel", "beatX", "J", false)
  | 36 => ("DotScreensModel", "beatY", "J", false)
  | 37 => ("DotScreensModel", "beatWave", "I", false)
  | 38 => ("DotScreensModel", "beatOther", "I", false)
  | 39 => ("DotScreensModel", "areAlike", "Z", false)
  | 40 => ("DotScreensModel", "window", "[I", true)
  | 41 => ("DotScreensModel", "counted", "[I", true)
  | 42 => ("DotScreensModel", "squareA", "[I", true)
  | 43 => ("DotScreensModel", "squareB", "[I", true)
  | 44 => ("DotScreensModel", "squares", "I", false)
  | 45 => ("DotScreensModel", "farUpper", "J", false)
  | 46 => ("DotScreensModel", "farLower", "J", false)
  | 47 => ("DotScreensModel", "bestUpper", "J", false)
  | 48 => ("DotScreensModel", "bestLower", "J", false)
  | 49 => ("DotScreensModel", "best", "[I", true)
  | 50 => ("DotScreensModel", "hasBest", "Z", false)
  | _ => ("DotScreensModel", "chosen", "[I", true)
def tyX10 : Nat → FieldType := fun k => match k with
  | 0 => .int
  | 1 => .array .int
  | 2 => .int
  | 3 => .int
  | 4 => .int
  | 5 => .array .int
  | 6 => .array .int
  | 7 => .array .int
  | 8 => .int
  | 9 => .int
  | 10 => .int
  | 11 => .long
  | 12 => .long
  | 13 => .long
  | 14 => .long
  | 15 => .long
  | 16 => .long
  | 17 => .long
  | 18 => .int
  | 19 => .int
  | 20 => .array .int
  | 21 => .array .int
  | 22 => .array .int
  | 23 => .array .int
  | 24 => .array .int
  | 25 => .array .int
  | 26 => .array .boolean
  | 27 => .array .int
  | 28 => .int
  | 29 => .boolean
  | 30 => .boolean
  | 31 => .long
  | 32 => .long
  | 33 => .long
  | 34 => .long
  | 35 => .long
  | 36 => .long
  | 37 => .int
  | 38 => .int
  | 39 => .boolean
  | 40 => .array .int
  | 41 => .array .int
  | 42 => .array .int
  | 43 => .array .int
  | 44 => .int
  | 45 => .long
  | 46 => .long
  | 47 => .long
  | 48 => .long
  | 49 => .array .int
  | 50 => .boolean
  | _ => .array .int
theorem nmX10 : ∀ a, a < 52 → ∀ b, b < 52 → a ≠ b → (TX10 a).2.1 ≠ (TX10 b).2.1 := by decide +kernel
theorem tyX10_ok : ∀ k, k < 52 → parseFieldDescriptor (TX10 k).2.2.1 = some (tyX10 k) := by decide +kernel
abbrev vwCl : List vw_C := [(RX0, TX0, 7), (RX1, TX1, 14), (RX2, TX2, 3), (RX3, TX3, 11), (RX4, TX4, 18), (RX5, TX5, 7), (RX6, TX6, 8), (RX7, TX7, 4), (RX8, TX8, 2), (RX9, TX9, 13), (RX10, TX10, 52)]
