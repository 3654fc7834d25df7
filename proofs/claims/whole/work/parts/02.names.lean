def RX0 : String := "WristPort$Clues"
def TX0 : u_T := fun k => match k with
  | 0 => ("WristPort$Clues", "persons", "[I", true)
  | 1 => ("WristPort$Clues", "quarters", "[I", true)
  | 2 => ("WristPort$Clues", "outs", "[I", true)
  | _ => ("WristPort$Clues", "size", "I", false)
def tyX0 : Nat → FieldType := fun k => match k with
  | 0 => .array .int
  | 1 => .array .int
  | 2 => .array .int
  | _ => .int
abbrev wsX00 : List Cond := u_ws RX0 TX0 4
theorem nmX0 : ∀ a, a < 4 → ∀ b, b < 4 → a ≠ b → (TX0 a).2.1 ≠ (TX0 b).2.1 := by decide +kernel
theorem tyX0_ok : ∀ k, k < 4 → parseFieldDescriptor (TX0 k).2.2.1 = some (tyX0 k) := by decide +kernel
def RX1 : String := "WristPort$Day"
def TX1 : u_T := fun k => match k with
  | 0 => ("WristPort$Day", "kinds", "[I", true)
  | 1 => ("WristPort$Day", "persons", "[I", true)
  | 2 => ("WristPort$Day", "seconds", "[I", true)
  | _ => ("WristPort$Day", "size", "I", false)
def tyX1 : Nat → FieldType := fun k => match k with
  | 0 => .array .int
  | 1 => .array .int
  | 2 => .array .int
  | _ => .int
abbrev wsX10 : List Cond := u_ws RX1 TX1 4
theorem nmX1 : ∀ a, a < 4 → ∀ b, b < 4 → a ≠ b → (TX1 a).2.1 ≠ (TX1 b).2.1 := by decide +kernel
theorem tyX1_ok : ∀ k, k < 4 → parseFieldDescriptor (TX1 k).2.2.1 = some (tyX1 k) := by decide +kernel
def RX2 : String := "WristPort$Draws"
def TX2 : u_T := fun k => match k with
  | _ => ("WristPort$Draws", "state", "J", false)
def tyX2 : Nat → FieldType := fun k => match k with
  | _ => .long
abbrev wsX20 : List Cond := u_ws RX2 TX2 1
theorem nmX2 : ∀ a, a < 1 → ∀ b, b < 1 → a ≠ b → (TX2 a).2.1 ≠ (TX2 b).2.1 := by decide +kernel
theorem tyX2_ok : ∀ k, k < 1 → parseFieldDescriptor (TX2 k).2.2.1 = some (tyX2 k) := by decide +kernel
def RX3 : String := "WristPort$History"
def TX3 : u_T := fun k => match k with
  | 0 => ("WristPort$History", "kept", "[LWristPort$State;", true)
  | 1 => ("WristPort$History", "next", "I", false)
  | _ => ("WristPort$History", "size", "I", false)
def tyX3 : Nat → FieldType := fun k => match k with
  | 0 => .array (.object "WristPort$State")
  | 1 => .int
  | _ => .int
abbrev wsX30 : List Cond := u_ws RX3 TX3 3
theorem nmX3 : ∀ a, a < 3 → ∀ b, b < 3 → a ≠ b → (TX3 a).2.1 ≠ (TX3 b).2.1 := by decide +kernel
theorem tyX3_ok : ∀ k, k < 3 → parseFieldDescriptor (TX3 k).2.2.1 = some (tyX3 k) := by decide +kernel
def RX4 : String := "WristPort$Mark"
def TX4 : u_T := fun k => match k with
  | 0 => ("WristPort$Mark", "state", "LWristPort$State;", true)
  | 1 => ("WristPort$Mark", "seenThen", "LWristPort$Clues;", true)
  | 2 => ("WristPort$Mark", "toldThen", "LWristPort$Clues;", true)
  | _ => ("WristPort$Mark", "laid", "Z", false)
def tyX4 : Nat → FieldType := fun k => match k with
  | 0 => .object "WristPort$State"
  | 1 => .object "WristPort$Clues"
  | 2 => .object "WristPort$Clues"
  | _ => .boolean
abbrev wsX40 : List Cond := u_ws RX4 TX4 4
theorem nmX4 : ∀ a, a < 4 → ∀ b, b < 4 → a ≠ b → (TX4 a).2.1 ≠ (TX4 b).2.1 := by decide +kernel
theorem tyX4_ok : ∀ k, k < 4 → parseFieldDescriptor (TX4 k).2.2.1 = some (tyX4 k) := by decide +kernel
def RX5 : String := "WristPort$Moods"
def TX5 : u_T := fun k => match k with
  | 0 => ("WristPort$Moods", "steps", "[I", true)
  | 1 => ("WristPort$Moods", "waiting", "[I", true)
  | 2 => ("WristPort$Moods", "size", "I", false)
  | _ => ("WristPort$Moods", "areTold", "Z", false)
def tyX5 : Nat → FieldType := fun k => match k with
  | 0 => .array .int
  | 1 => .array .int
  | 2 => .int
  | _ => .boolean
abbrev wsX50 : List Cond := u_ws RX5 TX5 4
theorem nmX5 : ∀ a, a < 4 → ∀ b, b < 4 → a ≠ b → (TX5 a).2.1 ≠ (TX5 b).2.1 := by decide +kernel
theorem tyX5_ok : ∀ k, k < 4 → parseFieldDescriptor (TX5 k).2.2.1 = some (tyX5 k) := by decide +kernel
def RX6 : String := "WristPort$Port"
def TX6 : u_T := fun k => match k with
  | 0 => ("WristPort$Port", "names", "[J", true)
  | 1 => ("WristPort$Port", "timeIsTold", "[Z", true)
  | 2 => ("WristPort$Port", "moods", "LWristPort$Moods;", true)
  | 3 => ("WristPort$Port", "kinds", "[I", true)
  | 4 => ("WristPort$Port", "asks", "[I", true)
  | 5 => ("WristPort$Port", "begin", "LWristPort$State;", true)
  | _ => ("WristPort$Port", "size", "I", false)
def tyX6 : Nat → FieldType := fun k => match k with
  | 0 => .array .long
  | 1 => .array .boolean
  | 2 => .object "WristPort$Moods"
  | 3 => .array .int
  | 4 => .array .int
  | 5 => .object "WristPort$State"
  | _ => .int
abbrev wsX60 : List Cond := u_ws RX6 TX6 7
theorem nmX6 : ∀ a, a < 7 → ∀ b, b < 7 → a ≠ b → (TX6 a).2.1 ≠ (TX6 b).2.1 := by decide +kernel
theorem tyX6_ok : ∀ k, k < 7 → parseFieldDescriptor (TX6 k).2.2.1 = some (tyX6 k) := by decide +kernel
def RX7 : String := "WristPort$State"
def TX7 : u_T := fun k => match k with
  | 0 => ("WristPort$State", "times", "[I", true)
  | 1 => ("WristPort$State", "beats", "[I", true)
  | 2 => ("WristPort$State", "asked", "[I", true)
  | _ => ("WristPort$State", "quarters", "I", false)
def tyX7 : Nat → FieldType := fun k => match k with
  | 0 => .array .int
  | 1 => .array .int
  | 2 => .array .int
  | _ => .int
abbrev wsX70 : List Cond := u_ws RX7 TX7 4
theorem nmX7 : ∀ a, a < 4 → ∀ b, b < 4 → a ≠ b → (TX7 a).2.1 ≠ (TX7 b).2.1 := by decide +kernel
theorem tyX7_ok : ∀ k, k < 4 → parseFieldDescriptor (TX7 k).2.2.1 = some (tyX7 k) := by decide +kernel
def RX8 : String := "WristPort$Tally"
def TX8 : u_T := fun k => match k with
  | 0 => ("WristPort$Tally", "many", "[I", true)
  | _ => ("WristPort$Tally", "greatest", "I", false)
def tyX8 : Nat → FieldType := fun k => match k with
  | 0 => .array .int
  | _ => .int
abbrev wsX80 : List Cond := u_ws RX8 TX8 2
theorem nmX8 : ∀ a, a < 2 → ∀ b, b < 2 → a ≠ b → (TX8 a).2.1 ≠ (TX8 b).2.1 := by decide +kernel
theorem tyX8_ok : ∀ k, k < 2 → parseFieldDescriptor (TX8 k).2.2.1 = some (tyX8 k) := by decide +kernel
def RX9 : String := "WristPort$Tape"
def TX9 : u_T := fun k => match k with
  | 0 => ("WristPort$Tape", "signs", "[C", true)
  | 1 => ("WristPort$Tape", "length", "I", false)
  | 2 => ("WristPort$Tape", "word", "J", false)
  | 3 => ("WristPort$Tape", "number", "I", false)
  | 4 => ("WristPort$Tape", "fault", "I", false)
  | 5 => ("WristPort$Tape", "kind", "I", false)
  | 6 => ("WristPort$Tape", "place", "I", false)
  | _ => ("WristPort$Tape", "behind", "I", false)
def tyX9 : Nat → FieldType := fun k => match k with
  | 0 => .array .char
  | 1 => .int
  | 2 => .long
  | 3 => .int
  | 4 => .int
  | 5 => .int
  | 6 => .int
  | _ => .int
abbrev wsX90 : List Cond := u_ws RX9 TX9 8
theorem nmX9 : ∀ a, a < 8 → ∀ b, b < 8 → a ≠ b → (TX9 a).2.1 ≠ (TX9 b).2.1 := by decide +kernel
theorem tyX9_ok : ∀ k, k < 8 → parseFieldDescriptor (TX9 k).2.2.1 = some (tyX9 k) := by decide +kernel
def RX10 : String := "WristPort"
def TX10 : u_T := fun k => match k with
  | 0 => ("WristPort", "tape", "LWristPort$Tape;", true)
  | 1 => ("WristPort", "currentPort", "LWristPort$Port;", false)
  | 2 => ("WristPort", "sparePort", "LWristPort$Port;", false)
  | 3 => ("WristPort", "currentDay", "LWristPort$Day;", false)
  | 4 => ("WristPort", "spareDay", "LWristPort$Day;", false)
  | 5 => ("WristPort", "now", "LWristPort$State;", true)
  | 6 => ("WristPort", "trial", "LWristPort$State;", true)
  | 7 => ("WristPort", "history", "LWristPort$History;", true)
  | 8 => ("WristPort", "seenOuts", "LWristPort$Clues;", true)
  | 9 => ("WristPort", "toldOuts", "LWristPort$Clues;", true)
  | 10 => ("WristPort", "marks", "[LWristPort$Mark;", true)
  | 11 => ("WristPort", "tally", "LWristPort$Tally;", true)
  | 12 => ("WristPort", "draws", "LWristPort$Draws;", true)
  | 13 => ("WristPort", "row", "[I", true)
  | _ => ("WristPort", "pairOuts", "[I", true)
def tyX10 : Nat → FieldType := fun k => match k with
  | 0 => .object "WristPort$Tape"
  | 1 => .object "WristPort$Port"
  | 2 => .object "WristPort$Port"
  | 3 => .object "WristPort$Day"
  | 4 => .object "WristPort$Day"
  | 5 => .object "WristPort$State"
  | 6 => .object "WristPort$State"
  | 7 => .object "WristPort$History"
  | 8 => .object "WristPort$Clues"
  | 9 => .object "WristPort$Clues"
  | 10 => .array (.object "WristPort$Mark")
  | 11 => .object "WristPort$Tally"
  | 12 => .object "WristPort$Draws"
  | 13 => .array .int
  | _ => .array .int
abbrev wsX100 : List Cond := u_ws RX10 TX10 15
theorem nmX10 : ∀ a, a < 15 → ∀ b, b < 15 → a ≠ b → (TX10 a).2.1 ≠ (TX10 b).2.1 := by decide +kernel
theorem tyX10_ok : ∀ k, k < 15 → parseFieldDescriptor (TX10 k).2.2.1 = some (tyX10 k) := by decide +kernel
def RX11 : String := "WristPortModel"
def TX11 : u_T := fun k => match k with
  | 0 => ("WristPortModel", "thrown", "I", false)
  | 1 => ("WristPortModel", "tape", "[I", true)
  | 2 => ("WristPortModel", "taped", "I", false)
  | 3 => ("WristPortModel", "size", "I", false)
  | 4 => ("WristPortModel", "sort", "[I", true)
  | 5 => ("WristPortModel", "place", "[I", true)
  | 6 => ("WristPortModel", "value", "[J", true)
  | 7 => ("WristPortModel", "at", "I", false)
  | 8 => ("WristPortModel", "fault", "I", false)
  | 9 => ("WristPortModel", "words", "[J", true)
  | 10 => ("WristPortModel", "ports", "[I", true)
  | 11 => ("WristPortModel", "op", "[I", true)
  | 12 => ("WristPortModel", "arg", "[I", true)
  | 13 => ("WristPortModel", "codes", "I", false)
  | 14 => ("WristPortModel", "names", "[J", true)
  | 15 => ("WristPortModel", "readNames", "[J", true)
  | 16 => ("WristPortModel", "namesMany", "I", false)
  | 17 => ("WristPortModel", "readMany", "I", false)
  | 18 => ("WristPortModel", "lines", "[I", true)
  | 19 => ("WristPortModel", "facts", "[I", true)
  | 20 => ("WristPortModel", "pile", "[I", true)
  | 21 => ("WristPortModel", "state", "[I", true)
  | 22 => ("WristPortModel", "undos", "I", false)
  | 23 => ("WristPortModel", "isMarked", "[Z", true)
  | 24 => ("WristPortModel", "more", "[I", true)
  | 25 => ("WristPortModel", "row", "[I", true)
  | 26 => ("WristPortModel", "bestRow", "[I", true)
  | 27 => ("WristPortModel", "leastOut", "I", false)
  | 28 => ("WristPortModel", "outs", "[I", true)
  | _ => ("WristPortModel", "g", "J", false)
def tyX11 : Nat → FieldType := fun k => match k with
  | 0 => .int
  | 1 => .array .int
  | 2 => .int
  | 3 => .int
  | 4 => .array .int
  | 5 => .array .int
  | 6 => .array .long
  | 7 => .int
  | 8 => .int
  | 9 => .array .long
  | 10 => .array .int
  | 11 => .array .int
  | 12 => .array .int
  | 13 => .int
  | 14 => .array .long
  | 15 => .array .long
  | 16 => .int
  | 17 => .int
  | 18 => .array .int
  | 19 => .array .int
  | 20 => .array .int
  | 21 => .array .int
  | 22 => .int
  | 23 => .array .boolean
  | 24 => .array .int
  | 25 => .array .int
  | 26 => .array .int
  | 27 => .int
  | 28 => .array .int
  | _ => .long
abbrev wsX110 : List Cond := u_ws RX11 TX11 30
theorem nmX11 : ∀ a, a < 30 → ∀ b, b < 30 → a ≠ b → (TX11 a).2.1 ≠ (TX11 b).2.1 := by decide +kernel
theorem tyX11_ok : ∀ k, k < 30 → parseFieldDescriptor (TX11 k).2.2.1 = some (tyX11 k) := by decide +kernel
def RJ11 : String := "java/lang/Character"
def RJ6 : String := "java/lang/Integer"
def RJ9 : String := "java/lang/Math"
def RJ0 : String := "java/lang/String"
def RJ1 : String := "java/lang/StringLatin1"
def RJ2 : String := "java/lang/StringUTF16"
def RJ10 : String := "java/lang/System"
def RJ7 : String := "java/util/Arrays"
def RJ3 : String := "jdk/internal/util/Preconditions"
def RL : String := "WristPortLaw"
abbrev vwCl : List vw_C := [(RX0, TX0, 4), (RX1, TX1, 4), (RX2, TX2, 1), (RX3, TX3, 3), (RX4, TX4, 4), (RX5, TX5, 4), (RX6, TX6, 7), (RX7, TX7, 4), (RX8, TX8, 2), (RX9, TX9, 8), (RX10, TX10, 15), (RX11, TX11, 30), ("java/util/NoSuchElementException", (fun _ => ("", "", "", false)), 0)]
