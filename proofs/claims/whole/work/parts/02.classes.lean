/-! ===== the classes of own objects: their fields ===== -/
def RX0 : String := "WetInk$Book"
def TX0 : u_T := fun k => match k with
  | 0 => ("WetInk$Book", "inks", "LWetInk$Spells;", true)
  | 1 => ("WetInk$Book", "leaves", "LWetInk$Spells;", true)
  | 2 => ("WetInk$Book", "readers", "LWetInk$Spells;", true)
  | 3 => ("WetInk$Book", "words", "LWetInk$Spells;", true)
  | 4 => ("WetInk$Book", "rules", "LWetInk$Rules;", true)
  | 5 => ("WetInk$Book", "inkEyes", "[I", true)
  | 6 => ("WetInk$Book", "leafInks", "[I", true)
  | 7 => ("WetInk$Book", "paces", "[I", true)
  | 8 => ("WetInk$Book", "skips", "[I", true)
  | 9 => ("WetInk$Book", "pays", "[I", true)
  | 10 => ("WetInk$Book", "guardEvery", "I", false)
  | _ => ("WetInk$Book", "guardFrom", "I", false)
def tyX0 : Nat → FieldType := fun k => match k with
  | 0 => .object "WetInk$Spells"
  | 1 => .object "WetInk$Spells"
  | 2 => .object "WetInk$Spells"
  | 3 => .object "WetInk$Spells"
  | 4 => .object "WetInk$Rules"
  | 5 => .array .int
  | 6 => .array .int
  | 7 => .array .int
  | 8 => .array .int
  | 9 => .array .int
  | 10 => .int
  | _ => .int
theorem nmX0 : ∀ a, a < 12 → ∀ b, b < 12 → a ≠ b → (TX0 a).2.1 ≠ (TX0 b).2.1 := by decide +kernel
theorem tyX0_ok : ∀ k, k < 12 → parseFieldDescriptor (TX0 k).2.2.1 = some (tyX0 k) := by decide +kernel
theorem inX0 : ∀ w ∈ u_ws RX0 TX0 12, w ∈ lw_tbl := by decide +kernel
def RX1 : String := "WetInk$Changes"
def TX1 : u_T := fun k => match k with
  | 0 => ("WetInk$Changes", "parts", "[I", true)
  | 1 => ("WetInk$Changes", "oldest", "I", false)
  | _ => ("WetInk$Changes", "count", "I", false)
def tyX1 : Nat → FieldType := fun k => match k with
  | 0 => .array .int
  | 1 => .int
  | _ => .int
theorem nmX1 : ∀ a, a < 3 → ∀ b, b < 3 → a ≠ b → (TX1 a).2.1 ≠ (TX1 b).2.1 := by decide +kernel
theorem tyX1_ok : ∀ k, k < 3 → parseFieldDescriptor (TX1 k).2.2.1 = some (tyX1 k) := by decide +kernel
theorem inX1 : ∀ w ∈ u_ws RX1 TX1 3, w ∈ lw_tbl := by decide +kernel
def RX2 : String := "WetInk$Hiring"
def TX2 : u_T := fun k => match k with
  | 0 => ("WetInk$Hiring", "world", "LWetInk$World;", true)
  | 1 => ("WetInk$Hiring", "asked", "[I", true)
  | 2 => ("WetInk$Hiring", "solved", "[I", true)
  | 3 => ("WetInk$Hiring", "rest", "[I", true)
  | 4 => ("WetInk$Hiring", "counts", "[I", true)
  | 5 => ("WetInk$Hiring", "total", "I", false)
  | _ => ("WetInk$Hiring", "pay", "I", false)
def tyX2 : Nat → FieldType := fun k => match k with
  | 0 => .object "WetInk$World"
  | 1 => .array .int
  | 2 => .array .int
  | 3 => .array .int
  | 4 => .array .int
  | 5 => .int
  | _ => .int
theorem nmX2 : ∀ a, a < 7 → ∀ b, b < 7 → a ≠ b → (TX2 a).2.1 ≠ (TX2 b).2.1 := by decide +kernel
theorem tyX2_ok : ∀ k, k < 7 → parseFieldDescriptor (TX2 k).2.2.1 = some (tyX2 k) := by decide +kernel
theorem inX2 : ∀ w ∈ u_ws RX2 TX2 7, w ∈ lw_tbl := by decide +kernel
def RX3 : String := "WetInk$Images"
def TX3 : u_T := fun k => match k with
  | _ => ("", "", "", false)
def tyX3 : Nat → FieldType := fun k => match k with
  | _ => .int
theorem nmX3 : ∀ a, a < 0 → ∀ b, b < 0 → a ≠ b → (TX3 a).2.1 ≠ (TX3 b).2.1 := by decide +kernel
theorem tyX3_ok : ∀ k, k < 0 → parseFieldDescriptor (TX3 k).2.2.1 = some (tyX3 k) := by decide +kernel
theorem inX3 : ∀ w ∈ u_ws RX3 TX3 0, w ∈ lw_tbl := by decide +kernel
def RX4 : String := "WetInk$Parser"
def TX4 : u_T := fun k => match k with
  | 0 => ("WetInk$Parser", "tape", "LWetInk$Tape;", true)
  | 1 => ("WetInk$Parser", "draft", "LWetInk$Book;", false)
  | 2 => ("WetInk$Parser", "at", "I", false)
  | 3 => ("WetInk$Parser", "past", "I", false)
  | 4 => ("WetInk$Parser", "kind", "I", false)
  | 5 => ("WetInk$Parser", "own", "I", false)
  | 6 => ("WetInk$Parser", "fault", "I", false)
  | 7 => ("WetInk$Parser", "faultAt", "I", false)
  | _ => ("WetInk$Parser", "statementCount", "I", false)
def tyX4 : Nat → FieldType := fun k => match k with
  | 0 => .object "WetInk$Tape"
  | 1 => .object "WetInk$Book"
  | 2 => .int
  | 3 => .int
  | 4 => .int
  | 5 => .int
  | 6 => .int
  | 7 => .int
  | _ => .int
theorem nmX4 : ∀ a, a < 9 → ∀ b, b < 9 → a ≠ b → (TX4 a).2.1 ≠ (TX4 b).2.1 := by decide +kernel
theorem tyX4_ok : ∀ k, k < 9 → parseFieldDescriptor (TX4 k).2.2.1 = some (tyX4 k) := by decide +kernel
theorem inX4 : ∀ w ∈ u_ws RX4 TX4 9, w ∈ lw_tbl := by decide +kernel
def RX5 : String := "WetInk$Plans"
def TX5 : u_T := fun k => match k with
  | _ => ("WetInk$Plans", "world", "LWetInk$World;", true)
def tyX5 : Nat → FieldType := fun k => match k with
  | _ => .object "WetInk$World"
theorem nmX5 : ∀ a, a < 1 → ∀ b, b < 1 → a ≠ b → (TX5 a).2.1 ≠ (TX5 b).2.1 := by decide +kernel
theorem tyX5_ok : ∀ k, k < 1 → parseFieldDescriptor (TX5 k).2.2.1 = some (tyX5 k) := by decide +kernel
theorem inX5 : ∀ w ∈ u_ws RX5 TX5 1, w ∈ lw_tbl := by decide +kernel
def RX6 : String := "WetInk$Rules"
def TX6 : u_T := fun k => match k with
  | 0 => ("WetInk$Rules", "steps", "[I", true)
  | 1 => ("WetInk$Rules", "bounds", "[I", true)
  | 2 => ("WetInk$Rules", "stack", "[I", true)
  | 3 => ("WetInk$Rules", "stepCount", "I", false)
  | 4 => ("WetInk$Rules", "partCount", "I", false)
  | 5 => ("WetInk$Rules", "depth", "I", false)
  | 6 => ("WetInk$Rules", "place", "I", false)
  | 7 => ("WetInk$Rules", "leaf", "I", false)
  | 8 => ("WetInk$Rules", "letter", "I", false)
  | _ => ("WetInk$Rules", "needs", "I", false)
def tyX6 : Nat → FieldType := fun k => match k with
  | 0 => .array .int
  | 1 => .array .int
  | 2 => .array .int
  | 3 => .int
  | 4 => .int
  | 5 => .int
  | 6 => .int
  | 7 => .int
  | 8 => .int
  | _ => .int
theorem nmX6 : ∀ a, a < 10 → ∀ b, b < 10 → a ≠ b → (TX6 a).2.1 ≠ (TX6 b).2.1 := by decide +kernel
theorem tyX6_ok : ∀ k, k < 10 → parseFieldDescriptor (TX6 k).2.2.1 = some (tyX6 k) := by decide +kernel
theorem inX6 : ∀ w ∈ u_ws RX6 TX6 10, w ∈ lw_tbl := by decide +kernel
def RX7 : String := "WetInk$Spells"
def TX7 : u_T := fun k => match k with
  | 0 => ("WetInk$Spells", "width", "I", true)
  | 1 => ("WetInk$Spells", "letters", "[I", true)
  | 2 => ("WetInk$Spells", "lengths", "[I", true)
  | _ => ("WetInk$Spells", "count", "I", false)
def tyX7 : Nat → FieldType := fun k => match k with
  | 0 => .int
  | 1 => .array .int
  | 2 => .array .int
  | _ => .int
theorem nmX7 : ∀ a, a < 4 → ∀ b, b < 4 → a ≠ b → (TX7 a).2.1 ≠ (TX7 b).2.1 := by decide +kernel
theorem tyX7_ok : ∀ k, k < 4 → parseFieldDescriptor (TX7 k).2.2.1 = some (tyX7 k) := by decide +kernel
theorem inX7 : ∀ w ∈ u_ws RX7 TX7 4, w ∈ lw_tbl := by decide +kernel
def RX8 : String := "WetInk$Tape"
def TX8 : u_T := fun k => match k with
  | 0 => ("WetInk$Tape", "bytes", "[I", true)
  | _ => ("WetInk$Tape", "count", "I", false)
def tyX8 : Nat → FieldType := fun k => match k with
  | 0 => .array .int
  | _ => .int
theorem nmX8 : ∀ a, a < 2 → ∀ b, b < 2 → a ≠ b → (TX8 a).2.1 ≠ (TX8 b).2.1 := by decide +kernel
theorem tyX8_ok : ∀ k, k < 2 → parseFieldDescriptor (TX8 k).2.2.1 = some (tyX8 k) := by decide +kernel
theorem inX8 : ∀ w ∈ u_ws RX8 TX8 2, w ∈ lw_tbl := by decide +kernel
def RX9 : String := "WetInk$Texts"
def TX9 : u_T := fun k => match k with
  | 0 => ("WetInk$Texts", "world", "LWetInk$World;", true)
  | 1 => ("WetInk$Texts", "onward", "[J", true)
  | _ => ("WetInk$Texts", "upTo", "[J", true)
def tyX9 : Nat → FieldType := fun k => match k with
  | 0 => .object "WetInk$World"
  | 1 => .array .long
  | _ => .array .long
theorem nmX9 : ∀ a, a < 3 → ∀ b, b < 3 → a ≠ b → (TX9 a).2.1 ≠ (TX9 b).2.1 := by decide +kernel
theorem tyX9_ok : ∀ k, k < 3 → parseFieldDescriptor (TX9 k).2.2.1 = some (tyX9 k) := by decide +kernel
theorem inX9 : ∀ w ∈ u_ws RX9 TX9 3, w ∈ lw_tbl := by decide +kernel
def RX10 : String := "WetInk$World"
def TX10 : u_T := fun k => match k with
  | 0 => ("WetInk$World", "changes", "LWetInk$Changes;", true)
  | 1 => ("WetInk$World", "letters", "[I", true)
  | 2 => ("WetInk$World", "eyes", "[I", true)
  | 3 => ("WetInk$World", "since", "[I", true)
  | 4 => ("WetInk$World", "ghosts", "[I", true)
  | 5 => ("WetInk$World", "past", "[I", true)
  | 6 => ("WetInk$World", "seatLeaves", "[I", true)
  | 7 => ("WetInk$World", "seatPlaces", "[I", true)
  | 8 => ("WetInk$World", "told", "LWetInk$Book;", false)
  | _ => ("WetInk$World", "hour", "I", false)
def tyX10 : Nat → FieldType := fun k => match k with
  | 0 => .object "WetInk$Changes"
  | 1 => .array .int
  | 2 => .array .int
  | 3 => .array .int
  | 4 => .array .int
  | 5 => .array .int
  | 6 => .array .int
  | 7 => .array .int
  | 8 => .object "WetInk$Book"
  | _ => .int
theorem nmX10 : ∀ a, a < 10 → ∀ b, b < 10 → a ≠ b → (TX10 a).2.1 ≠ (TX10 b).2.1 := by decide +kernel
theorem tyX10_ok : ∀ k, k < 10 → parseFieldDescriptor (TX10 k).2.2.1 = some (tyX10 k) := by decide +kernel
theorem inX10 : ∀ w ∈ u_ws RX10 TX10 10, w ∈ lw_tbl := by decide +kernel
def RX11 : String := "WetInk"
def TX11 : u_T := fun k => match k with
  | 0 => ("WetInk", "tape", "LWetInk$Tape;", true)
  | 1 => ("WetInk", "picture", "LWetInk$Tape;", true)
  | 2 => ("WetInk", "parser", "LWetInk$Parser;", true)
  | 3 => ("WetInk", "world", "LWetInk$World;", true)
  | 4 => ("WetInk", "hiring", "LWetInk$Hiring;", true)
  | 5 => ("WetInk", "plans", "LWetInk$Plans;", true)
  | 6 => ("WetInk", "writings", "LWetInk$Texts;", true)
  | _ => ("WetInk", "drawn", "J", false)
def tyX11 : Nat → FieldType := fun k => match k with
  | 0 => .object "WetInk$Tape"
  | 1 => .object "WetInk$Tape"
  | 2 => .object "WetInk$Parser"
  | 3 => .object "WetInk$World"
  | 4 => .object "WetInk$Hiring"
  | 5 => .object "WetInk$Plans"
  | 6 => .object "WetInk$Texts"
  | _ => .long
theorem nmX11 : ∀ a, a < 8 → ∀ b, b < 8 → a ≠ b → (TX11 a).2.1 ≠ (TX11 b).2.1 := by decide +kernel
theorem tyX11_ok : ∀ k, k < 8 → parseFieldDescriptor (TX11 k).2.2.1 = some (tyX11 k) := by decide +kernel
theorem inX11 : ∀ w ∈ u_ws RX11 TX11 8, w ∈ lw_tbl := by decide +kernel
def RX12 : String := "WetInkModel"
def TX12 : u_T := fun k => match k with
  | 0 => ("WetInkModel", "tape", "[I", true)
  | 1 => ("WetInkModel", "taped", "I", false)
  | 2 => ("WetInkModel", "at", "I", false)
  | 3 => ("WetInkModel", "end", "I", false)
  | 4 => ("WetInkModel", "ended", "I", false)
  | 5 => ("WetInkModel", "bad", "I", false)
  | 6 => ("WetInkModel", "badPlace", "I", false)
  | 7 => ("WetInkModel", "fault", "I", false)
  | 8 => ("WetInkModel", "faultPlace", "I", false)
  | 9 => ("WetInkModel", "numberPlace", "I", false)
  | 10 => ("WetInkModel", "inkWord", "[C", true)
  | 11 => ("WetInkModel", "eyesWord", "[C", true)
  | 12 => ("WetInkModel", "leafWord", "[C", true)
  | 13 => ("WetInkModel", "readerWord", "[C", true)
  | 14 => ("WetInkModel", "paceWord", "[C", true)
  | 15 => ("WetInkModel", "skipsWord", "[C", true)
  | 16 => ("WetInkModel", "payWord", "[C", true)
  | 17 => ("WetInkModel", "whenWord", "[C", true)
  | 18 => ("WetInkModel", "wordWord", "[C", true)
  | 19 => ("WetInkModel", "guardWord", "[C", true)
  | 20 => ("WetInkModel", "orWord", "[C", true)
  | 21 => ("WetInkModel", "andWord", "[C", true)
  | 22 => ("WetInkModel", "notWord", "[C", true)
  | 23 => ("WetInkModel", "allWord", "[C", true)
  | 24 => ("WetInkModel", "placeWord", "[C", true)
  | 25 => ("WetInkModel", "letterWord", "[C", true)
  | 26 => ("WetInkModel", "needsWord", "[C", true)
  | 27 => ("WetInkModel", "minWord", "[C", true)
  | 28 => ("WetInkModel", "maxWord", "[C", true)
  | 29 => ("WetInkModel", "namePlace", "I", false)
  | 30 => ("WetInkModel", "spelling", "[I", true)
  | 31 => ("WetInkModel", "spelt", "I", false)
  | 32 => ("WetInkModel", "many", "[I", true)
  | 33 => ("WetInkModel", "names", "[J", true)
  | 34 => ("WetInkModel", "inkEyes", "[I", true)
  | 35 => ("WetInkModel", "leafLong", "[I", true)
  | 36 => ("WetInkModel", "leafInk", "[I", true)
  | 37 => ("WetInkModel", "leafSpelt", "[I", true)
  | 38 => ("WetInkModel", "readers", "[I", true)
  | 39 => ("WetInkModel", "wordLong", "[I", true)
  | 40 => ("WetInkModel", "wordSpelt", "[I", true)
  | 41 => ("WetInkModel", "guard", "[I", true)
  | 42 => ("WetInkModel", "statements", "I", false)
  | 43 => ("WetInkModel", "codes", "[I", true)
  | 44 => ("WetInkModel", "coded", "I", false)
  | 45 => ("WetInkModel", "wait", "[I", true)
  | 46 => ("WetInkModel", "waits", "I", false)
  | 47 => ("WetInkModel", "open", "I", false)
  | 48 => ("WetInkModel", "sumFrom", "[I", true)
  | 49 => ("WetInkModel", "sumEnd", "[I", true)
  | 50 => ("WetInkModel", "testEnd", "[I", true)
  | 51 => ("WetInkModel", "base", "I", false)
  | 52 => ("WetInkModel", "pile", "[J", true)
  | 53 => ("WetInkModel", "piled", "I", false)
  | 54 => ("WetInkModel", "ask", "[I", true)
  | 55 => ("WetInkModel", "hour", "I", false)
  | 56 => ("WetInkModel", "letter", "[I", true)
  | 57 => ("WetInkModel", "needs", "[I", true)
  | 58 => ("WetInkModel", "dryAt", "[I", true)
  | 59 => ("WetInkModel", "ghost", "[I", true)
  | 60 => ("WetInkModel", "atLeaf", "[I", true)
  | 61 => ("WetInkModel", "goesAt", "[I", true)
  | 62 => ("WetInkModel", "changeHour", "[I", true)
  | 63 => ("WetInkModel", "changeSign", "[I", true)
  | 64 => ("WetInkModel", "changeWas", "[I", true)
  | 65 => ("WetInkModel", "changes", "I", false)
  | 66 => ("WetInkModel", "oldest", "I", false)
  | 67 => ("WetInkModel", "seeded", "J", false)
  | 68 => ("WetInkModel", "needBy", "[I", true)
  | 69 => ("WetInkModel", "hired", "[I", true)
  | 70 => ("WetInkModel", "bestHired", "[I", true)
  | 71 => ("WetInkModel", "bestPay", "I", false)
  | 72 => ("WetInkModel", "needsAside", "[I", true)
  | 73 => ("WetInkModel", "dryAside", "[I", true)
  | 74 => ("WetInkModel", "leafAside", "[I", true)
  | 75 => ("WetInkModel", "goesAside", "[I", true)
  | 76 => ("WetInkModel", "hourAside", "I", false)
  | 77 => ("WetInkModel", "canBegin", "[Z", true)
  | 78 => ("WetInkModel", "wetTill", "[I", true)
  | 79 => ("WetInkModel", "rowsTo", "[J", true)
  | 80 => ("WetInkModel", "rowsFrom", "[J", true)
  | 81 => ("WetInkModel", "octet", "[I", true)
  | _ => ("WetInkModel", "octets", "I", false)
def tyX12 : Nat → FieldType := fun k => match k with
  | 0 => .array .int
  | 1 => .int
  | 2 => .int
  | 3 => .int
  | 4 => .int
  | 5 => .int
  | 6 => .int
  | 7 => .int
  | 8 => .int
  | 9 => .int
  | 10 => .array .char
  | 11 => .array .char
  | 12 => .array .char
  | 13 => .array .char
  | 14 => .array .char
  | 15 => .array .char
  | 16 => .array .char
  | 17 => .array .char
  | 18 => .array .char
  | 19 => .array .char
  | 20 => .array .char
  | 21 => .array .char
  | 22 => .array .char
  | 23 => .array .char
  | 24 => .array .char
  | 25 => .array .char
  | 26 => .array .char
  | 27 => .array .char
  | 28 => .array .char
  | 29 => .int
  | 30 => .array .int
  | 31 => .int
  | 32 => .array .int
  | 33 => .array .long
  | 34 => .array .int
  | 35 => .array .int
  | 36 => .array .int
  | 37 => .array .int
  | 38 => .array .int
  | 39 => .array .int
  | 40 => .array .int
  | 41 => .array .int
  | 42 => .int
  | 43 => .array .int
  | 44 => .int
  | 45 => .array .int
  | 46 => .int
  | 47 => .int
  | 48 => .array .int
  | 49 => .array .int
  | 50 => .array .int
  | 51 => .int
  | 52 => .array .long
  | 53 => .int
  | 54 => .array .int
  | 55 => .int
  | 56 => .array .int
  | 57 => .array .int
  | 58 => .array .int
  | 59 => .array .int
  | 60 => .array .int
  | 61 => .array .int
  | 62 => .array .int
  | 63 => .array .int
  | 64 => .array .int
  | 65 => .int
  | 66 => .int
  | 67 => .long
  | 68 => .array .int
  | 69 => .array .int
  | 70 => .array .int
  | 71 => .int
  | 72 => .array .int
  | 73 => .array .int
  | 74 => .array .int
  | 75 => .array .int
  | 76 => .int
  | 77 => .array .boolean
  | 78 => .array .int
  | 79 => .array .long
  | 80 => .array .long
  | 81 => .array .int
  | _ => .int
theorem nmX12 : ∀ a, a < 83 → ∀ b, b < 83 → a ≠ b → (TX12 a).2.1 ≠ (TX12 b).2.1 := by decide +kernel
theorem tyX12_ok : ∀ k, k < 83 → parseFieldDescriptor (TX12 k).2.2.1 = some (tyX12 k) := by decide +kernel
theorem inX12 : ∀ w ∈ u_ws RX12 TX12 83, w ∈ lw_tbl := by decide +kernel
def xCL : List vw_C := [(RX0, TX0, 12), (RX1, TX1, 3), (RX2, TX2, 7), (RX5, TX5, 1), (RX4, TX4, 9), (RX5, TX5, 1), (RX6, TX6, 10), (RX7, TX7, 4), (RX8, TX8, 2), (RX9, TX9, 3), (RX10, TX10, 10), (RX11, TX11, 8), (RX12, TX12, 83)]
def xDC : Nat → List Nat := fun i => match i with
  | 0 => [2, 2, 2, 2, 2, 2, 2, 2, 2, 2, 0, 0]
  | 1 => [2, 0, 0]
  | 2 => [2, 2, 2, 2, 2, 0, 0]
  | 3 => [2]
  | 4 => [2, 2, 0, 0, 0, 0, 0, 0, 0]
  | 5 => [2]
  | 6 => [2, 2, 2, 0, 0, 0, 0, 0, 0, 0]
  | 7 => [0, 2, 2, 0]
  | 8 => [2, 0]
  | 9 => [2, 2, 2]
  | 10 => [2, 2, 2, 2, 2, 2, 2, 2, 2, 0]
  | 11 => [2, 2, 2, 2, 2, 2, 2, 1]
  | 12 => [2, 0, 0, 0, 0, 0, 0, 0, 0, 0, 2, 2, 2, 2, 2, 2, 2, 2, 2, 2, 2, 2, 2, 2, 2, 2, 2, 2, 2, 0, 2, 0, 2, 2, 2, 2, 2, 2, 2, 2, 2, 2, 0, 2, 0, 2, 0, 0, 2, 2, 2, 0, 2, 0, 2, 0, 2, 2, 2, 2, 2, 2, 2, 2, 2, 0, 0, 1, 2, 2, 2, 0, 2, 2, 2, 2, 0, 2, 2, 2, 2, 2, 0]
  | _ => []
