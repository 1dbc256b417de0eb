/-! TABLES (printed by a program of ours out of the claim's NAMES and Statement): classes, fields, names, codes, links, and that their words stand in the tables -/
def RX1 : String := "EvenOars$Changes"
def TX1 : u_T := fun k => match k with
  | 0 => ("EvenOars$Changes", "force", "[I", true)
  | 1 => ("EvenOars$Changes", "lever", "[J", true)
  | 2 => ("EvenOars$Changes", "gap", "[J", true)
  | 3 => ("EvenOars$Changes", "lanes", "I", false)
  | _ => ("EvenOars$Changes", "bits", "I", false)
def tyX1 : Nat → FieldType := fun k => match k with
  | 0 => .array .int
  | 1 => .array .long
  | 2 => .array .long
  | 3 => .int
  | _ => .int
abbrev wsX10 : List Cond := u_ws RX1 TX1 5
theorem nmX1 : ∀ a, a < 5 → ∀ b, b < 5 → a ≠ b → (TX1 a).2.1 ≠ (TX1 b).2.1 := by decide +kernel
theorem tyX1_ok : ∀ k, k < 5 → parseFieldDescriptor (TX1 k).2.2.1 = some (tyX1 k) := by decide +kernel
def RX2 : String := "EvenOars$Crew"
def TX2 : u_T := fun k => match k with
  | 0 => ("EvenOars$Crew", "plan", "LEvenOars$Plan;", false)
  | 1 => ("EvenOars$Crew", "rowerOf", "[I", true)
  | 2 => ("EvenOars$Crew", "toRight", "[I", true)
  | 3 => ("EvenOars$Crew", "stroke", "I", false)
  | 4 => ("EvenOars$Crew", "heading", "J", false)
  | 5 => ("EvenOars$Crew", "drawn", "J", false)
  | 6 => ("EvenOars$Crew", "actKind", "[I", true)
  | 7 => ("EvenOars$Crew", "actFirst", "[I", true)
  | 8 => ("EvenOars$Crew", "actSecond", "[I", true)
  | 9 => ("EvenOars$Crew", "actHeading", "[J", true)
  | 10 => ("EvenOars$Crew", "actNext", "I", false)
  | 11 => ("EvenOars$Crew", "actsKept", "I", false)
  | 12 => ("EvenOars$Crew", "image", "[B", true)
  | _ => ("EvenOars$Crew", "imageSize", "I", false)
def tyX2 : Nat → FieldType := fun k => match k with
  | 0 => .object "EvenOars$Plan"
  | 1 => .array .int
  | 2 => .array .int
  | 3 => .int
  | 4 => .long
  | 5 => .long
  | 6 => .array .int
  | 7 => .array .int
  | 8 => .array .int
  | 9 => .array .long
  | 10 => .int
  | 11 => .int
  | 12 => .array .byte
  | _ => .int
abbrev wsX20 : List Cond := u_ws RX2 TX2 14
theorem nmX2 : ∀ a, a < 14 → ∀ b, b < 14 → a ≠ b → (TX2 a).2.1 ≠ (TX2 b).2.1 := by decide +kernel
theorem tyX2_ok : ∀ k, k < 14 → parseFieldDescriptor (TX2 k).2.2.1 = some (tyX2 k) := by decide +kernel
def RX3 : String := "EvenOars$Halves"
def TX3 : u_T := fun k => match k with
  | 0 => ("EvenOars$Halves", "sets", "[J", true)
  | 1 => ("EvenOars$Halves", "waysBySeats", "[J", true)
  | 2 => ("EvenOars$Halves", "counted", "Z", false)
  | 3 => ("EvenOars$Halves", "toSkip", "I", false)
  | 4 => ("EvenOars$Halves", "load", "[J", true)
  | 5 => ("EvenOars$Halves", "partings", "I", false)
  | _ => ("EvenOars$Halves", "leastParting", "I", false)
def tyX3 : Nat → FieldType := fun k => match k with
  | 0 => .array .long
  | 1 => .array .long
  | 2 => .boolean
  | 3 => .int
  | 4 => .array .long
  | 5 => .int
  | _ => .int
abbrev wsX30 : List Cond := u_ws RX3 TX3 7
theorem nmX3 : ∀ a, a < 7 → ∀ b, b < 7 → a ≠ b → (TX3 a).2.1 ≠ (TX3 b).2.1 := by decide +kernel
theorem tyX3_ok : ∀ k, k < 7 → parseFieldDescriptor (TX3 k).2.2.1 = some (tyX3 k) := by decide +kernel
def RX4 : String := "EvenOars$Lanes"
def TX4 : u_T := fun k => match k with
  | 0 => ("EvenOars$Lanes", "sum", "[J", true)
  | 1 => ("EvenOars$Lanes", "jump", "[J", true)
  | _ => ("EvenOars$Lanes", "used", "I", false)
def tyX4 : Nat → FieldType := fun k => match k with
  | 0 => .array .long
  | 1 => .array .long
  | _ => .int
abbrev wsX40 : List Cond := u_ws RX4 TX4 3
theorem nmX4 : ∀ a, a < 3 → ∀ b, b < 3 → a ≠ b → (TX4 a).2.1 ≠ (TX4 b).2.1 := by decide +kernel
theorem tyX4_ok : ∀ k, k < 3 → parseFieldDescriptor (TX4 k).2.2.1 = some (tyX4 k) := by decide +kernel
def RX5 : String := "EvenOars$Nearest"
def TX5 : u_T := fun k => match k with
  | 0 => ("EvenOars$Nearest", "load", "[J", true)
  | 1 => ("EvenOars$Nearest", "force", "[I", true)
  | 2 => ("EvenOars$Nearest", "found", "Z", false)
  | 3 => ("EvenOars$Nearest", "off", "J", false)
  | 4 => ("EvenOars$Nearest", "bits", "I", false)
  | 5 => ("EvenOars$Nearest", "goods", "I", false)
  | 6 => ("EvenOars$Nearest", "order", "[I", true)
  | 7 => ("EvenOars$Nearest", "bestOrder", "[I", true)
  | 8 => ("EvenOars$Nearest", "anyOrder", "Z", false)
  | 9 => ("EvenOars$Nearest", "bestOff", "J", false)
  | _ => ("EvenOars$Nearest", "bestBits", "I", false)
def tyX5 : Nat → FieldType := fun k => match k with
  | 0 => .array .long
  | 1 => .array .int
  | 2 => .boolean
  | 3 => .long
  | 4 => .int
  | 5 => .int
  | 6 => .array .int
  | 7 => .array .int
  | 8 => .boolean
  | 9 => .long
  | _ => .int
abbrev wsX50 : List Cond := u_ws RX5 TX5 11
theorem nmX5 : ∀ a, a < 11 → ∀ b, b < 11 → a ≠ b → (TX5 a).2.1 ≠ (TX5 b).2.1 := by decide +kernel
theorem tyX5_ok : ∀ k, k < 11 → parseFieldDescriptor (TX5 k).2.2.1 = some (tyX5 k) := by decide +kernel
def RX6 : String := "EvenOars$Plan"
def TX6 : u_T := fun k => match k with
  | 0 => ("EvenOars$Plan", "seats", "I", false)
  | 1 => ("EvenOars$Plan", "place", "[I", true)
  | 2 => ("EvenOars$Plan", "arm", "[I", true)
  | 3 => ("EvenOars$Plan", "lever", "[J", true)
  | 4 => ("EvenOars$Plan", "fixedLeft", "I", false)
  | 5 => ("EvenOars$Plan", "fixedRight", "I", false)
  | 6 => ("EvenOars$Plan", "rowers", "I", false)
  | 7 => ("EvenOars$Plan", "letters", "[I", true)
  | 8 => ("EvenOars$Plan", "strength", "[I", true)
  | 9 => ("EvenOars$Plan", "tires", "[I", true)
  | 10 => ("EvenOars$Plan", "toLeft", "I", false)
  | 11 => ("EvenOars$Plan", "wanted", "[J", true)
  | 12 => ("EvenOars$Plan", "near", "I", false)
  | 13 => ("EvenOars$Plan", "runs", "I", false)
  | 14 => ("EvenOars$Plan", "runSide", "[I", true)
  | 15 => ("EvenOars$Plan", "runPower", "[I", true)
  | 16 => ("EvenOars$Plan", "runSwung", "[I", true)
  | 17 => ("EvenOars$Plan", "payments", "I", false)
  | 18 => ("EvenOars$Plan", "paid", "[I", true)
  | _ => ("EvenOars$Plan", "paidOn", "[I", true)
def tyX6 : Nat → FieldType := fun k => match k with
  | 0 => .int
  | 1 => .array .int
  | 2 => .array .int
  | 3 => .array .long
  | 4 => .int
  | 5 => .int
  | 6 => .int
  | 7 => .array .int
  | 8 => .array .int
  | 9 => .array .int
  | 10 => .int
  | 11 => .array .long
  | 12 => .int
  | 13 => .int
  | 14 => .array .int
  | 15 => .array .int
  | 16 => .array .int
  | 17 => .int
  | 18 => .array .int
  | _ => .array .int
abbrev wsX60 : List Cond := u_ws RX6 TX6 20
theorem nmX6 : ∀ a, a < 20 → ∀ b, b < 20 → a ≠ b → (TX6 a).2.1 ≠ (TX6 b).2.1 := by decide +kernel
theorem tyX6_ok : ∀ k, k < 20 → parseFieldDescriptor (TX6 k).2.2.1 = some (tyX6 k) := by decide +kernel
def RX7 : String := "EvenOars$Question"
def TX7 : u_T := fun k => match k with
  | 0 => ("EvenOars$Question", "asked", "I", false)
  | 1 => ("EvenOars$Question", "codes", "[I", true)
  | 2 => ("EvenOars$Question", "used", "I", false)
  | 3 => ("EvenOars$Question", "stack", "[J", true)
  | 4 => ("EvenOars$Question", "top", "I", false)
  | 5 => ("EvenOars$Question", "keptTen", "I", false)
  | 6 => ("EvenOars$Question", "keptSwing", "[J", true)
  | 7 => ("EvenOars$Question", "keptOff", "J", false)
  | _ => ("EvenOars$Question", "keptGood", "J", false)
def tyX7 : Nat → FieldType := fun k => match k with
  | 0 => .int
  | 1 => .array .int
  | 2 => .int
  | 3 => .array .long
  | 4 => .int
  | 5 => .int
  | 6 => .array .long
  | 7 => .long
  | _ => .long
abbrev wsX70 : List Cond := u_ws RX7 TX7 9
theorem nmX7 : ∀ a, a < 9 → ∀ b, b < 9 → a ≠ b → (TX7 a).2.1 ≠ (TX7 b).2.1 := by decide +kernel
theorem tyX7_ok : ∀ k, k < 9 → parseFieldDescriptor (TX7 k).2.2.1 = some (tyX7 k) := by decide +kernel
def RX8 : String := "EvenOars$Race"
def TX8 : u_T := fun k => match k with
  | 0 => ("EvenOars$Race", "load", "[J", true)
  | 1 => ("EvenOars$Race", "swings", "[J", true)
  | 2 => ("EvenOars$Race", "ahead", "[J", true)
  | 3 => ("EvenOars$Race", "least", "J", false)
  | 4 => ("EvenOars$Race", "bits", "I", false)
  | 5 => ("EvenOars$Race", "changeAt", "I", false)
  | 6 => ("EvenOars$Race", "oneSeat", "I", false)
  | _ => ("EvenOars$Race", "otherSeat", "I", false)
def tyX8 : Nat → FieldType := fun k => match k with
  | 0 => .array .long
  | 1 => .array .long
  | 2 => .array .long
  | 3 => .long
  | 4 => .int
  | 5 => .int
  | 6 => .int
  | _ => .int
abbrev wsX80 : List Cond := u_ws RX8 TX8 8
theorem nmX8 : ∀ a, a < 8 → ∀ b, b < 8 → a ≠ b → (TX8 a).2.1 ≠ (TX8 b).2.1 := by decide +kernel
theorem tyX8_ok : ∀ k, k < 8 → parseFieldDescriptor (TX8 k).2.2.1 = some (tyX8 k) := by decide +kernel
def RX9 : String := "EvenOars$Tape"
def TX9 : u_T := fun k => match k with
  | 0 => ("EvenOars$Tape", "octets", "[B", true)
  | 1 => ("EvenOars$Tape", "length", "I", false)
  | 2 => ("EvenOars$Tape", "at", "I", false)
  | 3 => ("EvenOars$Tape", "joint", "I", false)
  | 4 => ("EvenOars$Tape", "value", "I", false)
  | 5 => ("EvenOars$Tape", "valueAt", "I", false)
  | 6 => ("EvenOars$Tape", "fault", "I", false)
  | _ => ("EvenOars$Tape", "faultAt", "I", false)
def tyX9 : Nat → FieldType := fun k => match k with
  | 0 => .array .byte
  | 1 => .int
  | 2 => .int
  | 3 => .int
  | 4 => .int
  | 5 => .int
  | 6 => .int
  | _ => .int
abbrev wsX90 : List Cond := u_ws RX9 TX9 8
theorem nmX9 : ∀ a, a < 8 → ∀ b, b < 8 → a ≠ b → (TX9 a).2.1 ≠ (TX9 b).2.1 := by decide +kernel
theorem tyX9_ok : ∀ k, k < 8 → parseFieldDescriptor (TX9 k).2.2.1 = some (tyX9 k) := by decide +kernel
def RX10 : String := "EvenOars$Trials"
def TX10 : u_T := fun k => match k with
  | 0 => ("EvenOars$Trials", "gap", "[J", true)
  | 1 => ("EvenOars$Trials", "perArm", "[J", true)
  | 2 => ("EvenOars$Trials", "lever", "[J", true)
  | 3 => ("EvenOars$Trials", "lowest", "[J", true)
  | 4 => ("EvenOars$Trials", "highest", "[J", true)
  | 5 => ("EvenOars$Trials", "least", "[I", true)
  | 6 => ("EvenOars$Trials", "greatest", "[I", true)
  | 7 => ("EvenOars$Trials", "counted", "Z", false)
  | _ => ("EvenOars$Trials", "rows", "I", false)
def tyX10 : Nat → FieldType := fun k => match k with
  | 0 => .array .long
  | 1 => .array .long
  | 2 => .array .long
  | 3 => .array .long
  | 4 => .array .long
  | 5 => .array .int
  | 6 => .array .int
  | 7 => .boolean
  | _ => .int
abbrev wsX100 : List Cond := u_ws RX10 TX10 9
theorem nmX10 : ∀ a, a < 9 → ∀ b, b < 9 → a ≠ b → (TX10 a).2.1 ≠ (TX10 b).2.1 := by decide +kernel
theorem tyX10_ok : ∀ k, k < 9 → parseFieldDescriptor (TX10 k).2.2.1 = some (tyX10 k) := by decide +kernel
def RX11 : String := "EvenOars"
def TX11 : u_T := fun k => match k with
  | 0 => ("EvenOars", "tape", "LEvenOars$Tape;", true)
  | 1 => ("EvenOars", "crew", "LEvenOars$Crew;", true)
  | 2 => ("EvenOars", "spare", "LEvenOars$Plan;", false)
  | 3 => ("EvenOars", "question", "LEvenOars$Question;", true)
  | 4 => ("EvenOars", "lanes", "LEvenOars$Lanes;", true)
  | 5 => ("EvenOars", "nearestSides", "LEvenOars$Nearest;", true)
  | 6 => ("EvenOars", "fewestChanges", "LEvenOars$Changes;", true)
  | 7 => ("EvenOars", "raceAhead", "LEvenOars$Race;", true)
  | 8 => ("EvenOars", "trials", "LEvenOars$Trials;", true)
  | 9 => ("EvenOars", "halves", "LEvenOars$Halves;", true)
  | 10 => ("EvenOars", "refused", "[I", true)
  | 11 => ("EvenOars", "faultKind", "I", false)
  | _ => ("EvenOars", "faultPlace", "I", false)
def tyX11 : Nat → FieldType := fun k => match k with
  | 0 => .object "EvenOars$Tape"
  | 1 => .object "EvenOars$Crew"
  | 2 => .object "EvenOars$Plan"
  | 3 => .object "EvenOars$Question"
  | 4 => .object "EvenOars$Lanes"
  | 5 => .object "EvenOars$Nearest"
  | 6 => .object "EvenOars$Changes"
  | 7 => .object "EvenOars$Race"
  | 8 => .object "EvenOars$Trials"
  | 9 => .object "EvenOars$Halves"
  | 10 => .array .int
  | 11 => .int
  | _ => .int
abbrev wsX110 : List Cond := u_ws RX11 TX11 13
theorem nmX11 : ∀ a, a < 13 → ∀ b, b < 13 → a ≠ b → (TX11 a).2.1 ≠ (TX11 b).2.1 := by decide +kernel
theorem tyX11_ok : ∀ k, k < 13 → parseFieldDescriptor (TX11 k).2.2.1 = some (tyX11 k) := by decide +kernel
def RX12 : String := "EvenOarsModel"
def TX12 : u_T := fun k => match k with
  | 0 => ("EvenOarsModel", "tape", "[I", true)
  | 1 => ("EvenOarsModel", "taped", "I", false)
  | 2 => ("EvenOarsModel", "at", "I", false)
  | 3 => ("EvenOarsModel", "end", "I", false)
  | 4 => ("EvenOarsModel", "ended", "I", false)
  | 5 => ("EvenOarsModel", "bad", "I", false)
  | 6 => ("EvenOarsModel", "badPlace", "I", false)
  | 7 => ("EvenOarsModel", "fault", "I", false)
  | 8 => ("EvenOarsModel", "faultPlace", "I", false)
  | 9 => ("EvenOarsModel", "refused", "[I", true)
  | 10 => ("EvenOarsModel", "numberPlace", "I", false)
  | 11 => ("EvenOarsModel", "seatWord", "[C", true)
  | 12 => ("EvenOarsModel", "armWord", "[C", true)
  | 13 => ("EvenOarsModel", "rowerWord", "[C", true)
  | 14 => ("EvenOarsModel", "strengthWord", "[C", true)
  | 15 => ("EvenOarsModel", "tiresWord", "[C", true)
  | 16 => ("EvenOarsModel", "eachWord", "[C", true)
  | 17 => ("EvenOarsModel", "fixWord", "[C", true)
  | 18 => ("EvenOarsModel", "leftWord", "[C", true)
  | 19 => ("EvenOarsModel", "rightWord", "[C", true)
  | 20 => ("EvenOarsModel", "wantWord", "[C", true)
  | 21 => ("EvenOarsModel", "isWord", "[C", true)
  | 22 => ("EvenOarsModel", "nearWord", "[C", true)
  | 23 => ("EvenOarsModel", "runWord", "[C", true)
  | 24 => ("EvenOarsModel", "powerWord", "[C", true)
  | 25 => ("EvenOarsModel", "swungWord", "[C", true)
  | 26 => ("EvenOarsModel", "payWord", "[C", true)
  | 27 => ("EvenOarsModel", "onWord", "[C", true)
  | 28 => ("EvenOarsModel", "namePlace", "I", false)
  | 29 => ("EvenOarsModel", "many", "[I", true)
  | 30 => ("EvenOarsModel", "places", "[I", true)
  | 31 => ("EvenOarsModel", "arms", "[I", true)
  | 32 => ("EvenOarsModel", "fixed", "[I", true)
  | 33 => ("EvenOarsModel", "names", "[J", true)
  | 34 => ("EvenOarsModel", "strengthOf", "[I", true)
  | 35 => ("EvenOarsModel", "tiresOf", "[I", true)
  | 36 => ("EvenOarsModel", "eachOf", "[I", true)
  | 37 => ("EvenOarsModel", "nearOf", "[I", true)
  | 38 => ("EvenOarsModel", "isWanted", "[I", true)
  | 39 => ("EvenOarsModel", "wanted", "[I", true)
  | 40 => ("EvenOarsModel", "runSides", "[I", true)
  | 41 => ("EvenOarsModel", "runPower", "[I", true)
  | 42 => ("EvenOarsModel", "runSwing", "[I", true)
  | 43 => ("EvenOarsModel", "paid", "[I", true)
  | 44 => ("EvenOarsModel", "paidOn", "[I", true)
  | 45 => ("EvenOarsModel", "statements", "I", false)
  | 46 => ("EvenOarsModel", "isTold", "Z", false)
  | 47 => ("EvenOarsModel", "stroke", "I", false)
  | 48 => ("EvenOarsModel", "heading", "J", false)
  | 49 => ("EvenOarsModel", "sides", "I", false)
  | 50 => ("EvenOarsModel", "sits", "[I", true)
  | 51 => ("EvenOarsModel", "keptStroke", "[I", true)
  | 52 => ("EvenOarsModel", "keptHeading", "[J", true)
  | 53 => ("EvenOarsModel", "keptSides", "[I", true)
  | 54 => ("EvenOarsModel", "keptSits", "[I", true)
  | 55 => ("EvenOarsModel", "undoable", "I", false)
  | 56 => ("EvenOarsModel", "newest", "I", false)
  | 57 => ("EvenOarsModel", "seeded", "J", false)
  | 58 => ("EvenOarsModel", "waysOf", "[J", true)
  | 59 => ("EvenOarsModel", "bestSides", "I", false)
  | 60 => ("EvenOarsModel", "bestOff", "J", false)
  | 61 => ("EvenOarsModel", "aside", "[I", true)
  | 62 => ("EvenOarsModel", "order", "[I", true)
  | 63 => ("EvenOarsModel", "underLeast", "J", false)
  | 64 => ("EvenOarsModel", "underStroke", "I", false)
  | 65 => ("EvenOarsModel", "underSeats", "I", false)
  | 66 => ("EvenOarsModel", "triedStrength", "[I", true)
  | 67 => ("EvenOarsModel", "triedArm", "[I", true)
  | 68 => ("EvenOarsModel", "leastOf", "[I", true)
  | 69 => ("EvenOarsModel", "mostOf", "[I", true)
  | 70 => ("EvenOarsModel", "firstAsked", "[C", true)
  | 71 => ("EvenOarsModel", "lastAsked", "[C", true)
  | 72 => ("EvenOarsModel", "oftenAsked", "[C", true)
  | 73 => ("EvenOarsModel", "totalAsked", "[C", true)
  | 74 => ("EvenOarsModel", "mostAsked", "[C", true)
  | 75 => ("EvenOarsModel", "leastAsked", "[C", true)
  | 76 => ("EvenOarsModel", "notAsked", "[C", true)
  | 77 => ("EvenOarsModel", "andAsked", "[C", true)
  | 78 => ("EvenOarsModel", "orAsked", "[C", true)
  | 79 => ("EvenOarsModel", "allAsked", "[C", true)
  | 80 => ("EvenOarsModel", "minAsked", "[C", true)
  | 81 => ("EvenOarsModel", "maxAsked", "[C", true)
  | 82 => ("EvenOarsModel", "strokeAsked", "[C", true)
  | 83 => ("EvenOarsModel", "offAsked", "[C", true)
  | 84 => ("EvenOarsModel", "goodAsked", "[C", true)
  | 85 => ("EvenOarsModel", "swingAsked", "[C", true)
  | 86 => ("EvenOarsModel", "forceAsked", "[C", true)
  | 87 => ("EvenOarsModel", "qCodes", "[I", true)
  | 88 => ("EvenOarsModel", "qCoded", "I", false)
  | 89 => ("EvenOarsModel", "qWait", "[I", true)
  | 90 => ("EvenOarsModel", "qWaits", "I", false)
  | 91 => ("EvenOarsModel", "qOpened", "I", false)
  | 92 => ("EvenOarsModel", "qBase", "I", false)
  | 93 => ("EvenOarsModel", "qPile", "[J", true)
  | 94 => ("EvenOarsModel", "qPiled", "I", false)
  | 95 => ("EvenOarsModel", "qAnswer", "J", false)
  | 96 => ("EvenOarsModel", "qIsNew", "Z", false)
  | 97 => ("EvenOarsModel", "octet", "[I", true)
  | _ => ("EvenOarsModel", "octets", "I", false)
def tyX12 : Nat → FieldType := fun k => match k with
  | 0 => .array .int
  | 1 => .int
  | 2 => .int
  | 3 => .int
  | 4 => .int
  | 5 => .int
  | 6 => .int
  | 7 => .int
  | 8 => .int
  | 9 => .array .int
  | 10 => .int
  | 11 => .array .char
  | 12 => .array .char
  | 13 => .array .char
  | 14 => .array .char
  | 15 => .array .char
  | 16 => .array .char
  | 17 => .array .char
  | 18 => .array .char
  | 19 => .array .char
  | 20 => .array .char
  | 21 => .array .char
  | 22 => .array .char
  | 23 => .array .char
  | 24 => .array .char
  | 25 => .array .char
  | 26 => .array .char
  | 27 => .array .char
  | 28 => .int
  | 29 => .array .int
  | 30 => .array .int
  | 31 => .array .int
  | 32 => .array .int
  | 33 => .array .long
  | 34 => .array .int
  | 35 => .array .int
  | 36 => .array .int
  | 37 => .array .int
  | 38 => .array .int
  | 39 => .array .int
  | 40 => .array .int
  | 41 => .array .int
  | 42 => .array .int
  | 43 => .array .int
  | 44 => .array .int
  | 45 => .int
  | 46 => .boolean
  | 47 => .int
  | 48 => .long
  | 49 => .int
  | 50 => .array .int
  | 51 => .array .int
  | 52 => .array .long
  | 53 => .array .int
  | 54 => .array .int
  | 55 => .int
  | 56 => .int
  | 57 => .long
  | 58 => .array .long
  | 59 => .int
  | 60 => .long
  | 61 => .array .int
  | 62 => .array .int
  | 63 => .long
  | 64 => .int
  | 65 => .int
  | 66 => .array .int
  | 67 => .array .int
  | 68 => .array .int
  | 69 => .array .int
  | 70 => .array .char
  | 71 => .array .char
  | 72 => .array .char
  | 73 => .array .char
  | 74 => .array .char
  | 75 => .array .char
  | 76 => .array .char
  | 77 => .array .char
  | 78 => .array .char
  | 79 => .array .char
  | 80 => .array .char
  | 81 => .array .char
  | 82 => .array .char
  | 83 => .array .char
  | 84 => .array .char
  | 85 => .array .char
  | 86 => .array .char
  | 87 => .array .int
  | 88 => .int
  | 89 => .array .int
  | 90 => .int
  | 91 => .int
  | 92 => .int
  | 93 => .array .long
  | 94 => .int
  | 95 => .long
  | 96 => .boolean
  | 97 => .array .int
  | _ => .int
abbrev wsX120 : List Cond := u_ws RX12 TX12 99
theorem nmX12 : ∀ a, a < 99 → ∀ b, b < 99 → a ≠ b → (TX12 a).2.1 ≠ (TX12 b).2.1 := by decide +kernel
theorem tyX12_ok : ∀ k, k < 99 → parseFieldDescriptor (TX12 k).2.2.1 = some (tyX12 k) := by decide +kernel
abbrev vwCl : List vw_C := [(RX1, TX1, 5), (RX2, TX2, 14), (RX3, TX3, 7), (RX4, TX4, 3), (RX5, TX5, 11), (RX6, TX6, 20), (RX7, TX7, 9), (RX8, TX8, 8), (RX9, TX9, 8), (RX10, TX10, 9), (RX11, TX11, 13), (RX12, TX12, 99)]
theorem sub_at {ws : List Cond} (ps : List Nat) (h : ws = ps.filterMap (fun i => lw_tbl[i]?)) : ∀ w ∈ ws, w ∈ lw_tbl := by
  intro w hw
  rw [h] at hw
  obtain ⟨i, -, hi⟩ := List.mem_filterMap.mp hw
  exact List.mem_of_getElem? hi
theorem sub_map {α : Type} {l : List α} {f : α → Cond} (ps : List Nat) (h : l.map f = ps.filterMap (fun i => lw_tbl[i]?)) : ∀ q ∈ l, f q ∈ lw_tbl := fun q hq => sub_at ps h _ (List.mem_map_of_mem hq)
set_option maxRecDepth 20000 in
theorem inX1 : ∀ w ∈ wsX10, w ∈ lw_tbl := sub_at [521, 523, 525, 527, 529] (by decide +kernel)
set_option maxRecDepth 20000 in
theorem inX2 : ∀ w ∈ wsX20, w ∈ lw_tbl := sub_at [379, 381, 383, 385, 387, 389, 391, 393, 395, 397, 399, 401, 403, 405] (by decide +kernel)
set_option maxRecDepth 20000 in
theorem inX3 : ∀ w ∈ wsX30, w ∈ lw_tbl := sub_at [617, 619, 621, 623, 625, 627, 629] (by decide +kernel)
set_option maxRecDepth 20000 in
theorem inX4 : ∀ w ∈ wsX40, w ∈ lw_tbl := sub_at [458, 460, 462] (by decide +kernel)
set_option maxRecDepth 20000 in
theorem inX5 : ∀ w ∈ wsX50, w ∈ lw_tbl := sub_at [487, 489, 491, 493, 495, 497, 499, 501, 503, 505, 507] (by decide +kernel)
set_option maxRecDepth 20000 in
theorem inX6 : ∀ w ∈ wsX60, w ∈ lw_tbl := sub_at [303, 305, 307, 309, 311, 313, 315, 317, 319, 321, 323, 325, 327, 329, 331, 333, 335, 337, 339, 341] (by decide +kernel)
set_option maxRecDepth 20000 in
theorem inX7 : ∀ w ∈ wsX70, w ∈ lw_tbl := sub_at [425, 427, 429, 431, 433, 435, 437, 439, 441] (by decide +kernel)
set_option maxRecDepth 20000 in
theorem inX8 : ∀ w ∈ wsX80, w ∈ lw_tbl := sub_at [551, 553, 555, 557, 559, 561, 563, 565] (by decide +kernel)
set_option maxRecDepth 20000 in
theorem inX9 : ∀ w ∈ wsX90, w ∈ lw_tbl := sub_at [207, 209, 211, 213, 215, 217, 219, 221] (by decide +kernel)
set_option maxRecDepth 20000 in
theorem inX10 : ∀ w ∈ wsX100, w ∈ lw_tbl := sub_at [583, 585, 587, 589, 591, 593, 595, 597, 599] (by decide +kernel)
set_option maxRecDepth 20000 in
theorem inX11 : ∀ w ∈ wsX110, w ∈ lw_tbl := sub_at [645, 647, 649, 651, 653, 655, 657, 659, 661, 663, 665, 667, 669] (by decide +kernel)
set_option maxRecDepth 20000 in
theorem inX12 : ∀ w ∈ wsX120, w ∈ lw_tbl := sub_at [1748, 1750, 1752, 1754, 1756, 1758, 1760, 1762, 1764, 1766, 1768, 1770, 1772, 1774, 1776, 1778, 1780, 1782, 1784, 1786, 1788, 1790, 1792, 1794, 1796, 1798, 1800, 1802, 1804, 1806, 1808, 1810, 1812, 1814, 1816, 1818, 1820, 1822, 1824, 1826, 1828, 1830, 1832, 1834, 1836, 1838, 1840, 1842, 1844, 1846, 1848, 1850, 1852, 1854, 1856, 1858, 1860, 1862, 1864, 1866, 1868, 1870, 1872, 1874, 1876, 1878, 1880, 1882, 1884, 1886, 1888, 1890, 1892, 1894, 1896, 1898, 1900, 1902, 1904, 1906, 1908, 1910, 1912, 1914, 1916, 1918, 1920, 1922, 1924, 1926, 1928, 1930, 1932, 1934, 1936, 1938, 1940, 1942, 1944] (by decide +kernel)
def cnT : List String := ["EvenOars$BoatText", "EvenOars$Changes", "EvenOars$Crew", "EvenOars$Halves", "EvenOars$Lanes", "EvenOars$Nearest", "EvenOars$Plan", "EvenOars$Question", "EvenOars$Race", "EvenOars$Tape", "EvenOars$Trials", "EvenOars", "EvenOarsModel", "EvenOarsLaw", "java/lang/Integer", "java/lang/Math", "java/util/Arrays"]
def cn (k : Nat) : String := cnT.getD k ""
def onT : List Nat := [14, 15, 15, 15, 15, 15, 15, 15, 16, 16, 0, 0, 0, 0, 0, 0, 0, 0, 0, 0, 0, 0, 0, 0, 1, 1, 1, 1, 1, 1, 1, 1, 1, 2, 2, 2, 2, 2, 2, 2, 2, 2, 2, 2, 2, 2, 2, 2, 2, 2, 2, 2, 2, 2, 2, 2, 2, 2, 2, 2, 2, 3, 3, 3, 3, 3, 3, 3, 3, 3, 3, 3, 3, 4, 4, 4, 4, 5, 5, 5, 5, 5, 5, 5, 5, 5, 6, 6, 6, 6, 6, 6, 6, 6, 6, 6, 6, 6, 6, 6, 6, 6, 6, 6, 6, 6, 6, 6, 7, 7, 7, 7, 7, 7, 7, 7, 7, 7, 7, 7, 7, 7, 7, 7, 7, 7, 7, 7, 7, 7, 7, 7, 7, 7, 7, 8, 8, 8, 8, 8, 8, 8, 8, 8, 8, 9, 9, 9, 9, 9, 9, 9, 9, 9, 9, 9, 9, 9, 9, 9, 9, 9, 9, 9, 9, 9, 9, 10, 10, 10, 10, 10, 10, 10, 10, 10, 10, 10, 10, 10, 10, 10, 10, 11, 11, 11, 11, 11, 11, 11, 11, 11, 11, 11, 11, 11, 11, 11, 11, 11, 11, 11, 11, 11, 11, 11, 11, 11, 11, 11, 11, 11, 11, 11, 11, 11, 11, 11, 11, 11, 11, 11, 11, 11, 11, 11, 11, 12, 12, 12, 12, 12, 12, 12, 12, 12, 12, 12, 12, 12, 12, 12, 12, 12, 12, 12, 12, 12, 12, 12, 12, 12, 12, 12, 12, 12, 12, 12, 12, 12, 12, 12, 12, 12, 12, 12, 12, 12, 12, 12, 12, 12, 12, 12, 12, 12, 12, 12, 12, 12, 12, 12, 12, 12, 12, 12, 12, 12, 12, 12, 12, 12, 12, 12, 12, 12, 12, 12, 12, 12, 12, 12, 12, 12, 12, 12, 12, 12, 12, 12, 12, 12, 12, 12, 12, 12, 12, 12, 12, 12, 12, 12, 12, 12, 12, 12, 12, 12, 12, 12, 12, 12, 12, 12, 12, 12, 12, 12, 12, 12, 12, 12, 12, 12, 12, 12, 12, 12, 12, 12, 12, 12, 12, 12, 12, 12, 12, 12, 12, 12, 12, 12, 12, 12, 12, 12, 12, 12, 12, 12, 12, 12, 12, 13]
def on (m : Nat) : Nat := onT.getD m 0
def yT : List MethodName := [⟨"java/lang/Integer", "bitCount", "(I)I"⟩, ⟨"java/lang/Math", "floorDiv", "(JJ)J"⟩, ⟨"java/lang/Math", "abs", "(I)I"⟩, ⟨"java/lang/Math", "abs", "(J)J"⟩, ⟨"java/lang/Math", "max", "(II)I"⟩, ⟨"java/lang/Math", "max", "(JJ)J"⟩, ⟨"java/lang/Math", "min", "(II)I"⟩, ⟨"java/lang/Math", "min", "(JJ)J"⟩, ⟨"java/util/Arrays", "fill", "([JJ)V"⟩, ⟨"java/util/Arrays", "fill", "([II)V"⟩, ⟨"EvenOars$BoatText", "read", "(LEvenOars$Tape;LEvenOars$Plan;)I"⟩, ⟨"EvenOars$BoatText", "statement", "(LEvenOars$Tape;LEvenOars$Plan;)Z"⟩, ⟨"EvenOars$BoatText", "isOneTooMany", "(LEvenOars$Plan;I)Z"⟩, ⟨"EvenOars$BoatText", "seatTold", "(LEvenOars$Tape;LEvenOars$Plan;)Z"⟩, ⟨"EvenOars$BoatText", "rowerTold", "(LEvenOars$Tape;LEvenOars$Plan;)Z"⟩, ⟨"EvenOars$BoatText", "nameTold", "(LEvenOars$Tape;LEvenOars$Plan;)Z"⟩, ⟨"EvenOars$BoatText", "isName", "(LEvenOars$Tape;LEvenOars$Plan;II)Z"⟩, ⟨"EvenOars$BoatText", "eachTold", "(LEvenOars$Tape;LEvenOars$Plan;)Z"⟩, ⟨"EvenOars$BoatText", "fixTold", "(LEvenOars$Tape;LEvenOars$Plan;)Z"⟩, ⟨"EvenOars$BoatText", "wantTold", "(LEvenOars$Tape;LEvenOars$Plan;)Z"⟩, ⟨"EvenOars$BoatText", "nearTold", "(LEvenOars$Tape;LEvenOars$Plan;)Z"⟩, ⟨"EvenOars$BoatText", "runTold", "(LEvenOars$Tape;LEvenOars$Plan;)Z"⟩, ⟨"EvenOars$BoatText", "sidesTold", "(LEvenOars$Tape;LEvenOars$Plan;)Z"⟩, ⟨"EvenOars$BoatText", "payTold", "(LEvenOars$Tape;LEvenOars$Plan;)Z"⟩, ⟨"EvenOars$Changes", "<init>", "()V"⟩, ⟨"EvenOars$Changes", "fewest", "(LEvenOars$Crew;)I"⟩, ⟨"EvenOars$Changes", "load", "(LEvenOars$Crew;)V"⟩, ⟨"EvenOars$Changes", "canBeLawful", "(LEvenOars$Plan;I)Z"⟩, ⟨"EvenOars$Changes", "bySwaps", "(LEvenOars$Plan;III)Z"⟩, ⟨"EvenOars$Changes", "byTurns", "(LEvenOars$Plan;II)Z"⟩, ⟨"EvenOars$Changes", "isGood", "(I)Z"⟩, ⟨"EvenOars$Changes", "exchange", "(II)V"⟩, ⟨"EvenOars$Changes", "flip", "(I)V"⟩, ⟨"EvenOars$Crew", "<init>", "()V"⟩, ⟨"EvenOars$Crew", "board", "(LEvenOars$Plan;)V"⟩, ⟨"EvenOars$Crew", "seatOf", "(I)I"⟩, ⟨"EvenOars$Crew", "sides", "()I"⟩, ⟨"EvenOars$Crew", "strengthAt", "(II)I"⟩, ⟨"EvenOars$Crew", "forceIn", "(II)I"⟩, ⟨"EvenOars$Crew", "leverToSide", "(II)J"⟩, ⟨"EvenOars$Crew", "swingAt", "(II)J"⟩, ⟨"EvenOars$Crew", "offAt", "(I)J"⟩, ⟨"EvenOars$Crew", "isGoodAt", "(I)Z"⟩, ⟨"EvenOars$Crew", "turnSeat", "(I)Z"⟩, ⟨"EvenOars$Crew", "swapRowers", "(II)Z"⟩, ⟨"EvenOars$Crew", "passBy", "(I)V"⟩, ⟨"EvenOars$Crew", "rowOn", "(I)V"⟩, ⟨"EvenOars$Crew", "undoAct", "()Z"⟩, ⟨"EvenOars$Crew", "writeImage", "()I"⟩, ⟨"EvenOars$Crew", "takeImage", "(LEvenOars$Tape;)Z"⟩, ⟨"EvenOars$Crew", "isImage", "(LEvenOars$Tape;)Z"⟩, ⟨"EvenOars$Crew", "rowersCanSitSo", "(LEvenOars$Tape;)Z"⟩, ⟨"EvenOars$Crew", "sidesCanBeSo", "(LEvenOars$Tape;)Z"⟩, ⟨"EvenOars$Crew", "strokeIn", "(LEvenOars$Tape;)I"⟩, ⟨"EvenOars$Crew", "checkOn", "(II)I"⟩, ⟨"EvenOars$Crew", "writeOctet", "(I)V"⟩, ⟨"EvenOars$Crew", "noteAct", "(III)V"⟩, ⟨"EvenOars$Crew", "flip", "(I)V"⟩, ⟨"EvenOars$Crew", "exchange", "(II)V"⟩, ⟨"EvenOars$Crew", "drawnSwing", "()J"⟩, ⟨"EvenOars$Crew", "drawOfThree", "()I"⟩, ⟨"EvenOars$Halves", "<init>", "()V"⟩, ⟨"EvenOars$Halves", "waysFor", "(I)J"⟩, ⟨"EvenOars$Halves", "countWays", "()V"⟩, ⟨"EvenOars$Halves", "wayAt", "(II)I"⟩, ⟨"EvenOars$Halves", "choose", "(IIII)I"⟩, ⟨"EvenOars$Halves", "canBe", "(III)Z"⟩, ⟨"EvenOars$Halves", "sumDoubled", "(II)J"⟩, ⟨"EvenOars$Halves", "stillUpTo", "(II)I"⟩, ⟨"EvenOars$Halves", "power", "(JI)J"⟩, ⟨"EvenOars$Halves", "partPayments", "(LEvenOars$Plan;LEvenOars$Lanes;)V"⟩, ⟨"EvenOars$Halves", "addPayments", "(LEvenOars$Plan;LEvenOars$Lanes;Z)V"⟩, ⟨"EvenOars$Halves", "heirsApart", "(LEvenOars$Plan;IZ)J"⟩, ⟨"EvenOars$Lanes", "<init>", "()V"⟩, ⟨"EvenOars$Lanes", "clear", "()V"⟩, ⟨"EvenOars$Lanes", "add", "(J[JI)V"⟩, ⟨"EvenOars$Lanes", "advanceTo", "(I)V"⟩, ⟨"EvenOars$Nearest", "<init>", "()V"⟩, ⟨"EvenOars$Nearest", "findAsTheySit", "(LEvenOars$Crew;LEvenOars$Lanes;)Z"⟩, ⟨"EvenOars$Nearest", "findOrder", "(LEvenOars$Crew;LEvenOars$Lanes;)Z"⟩, ⟨"EvenOars$Nearest", "bestRower", "(I)I"⟩, ⟨"EvenOars$Nearest", "arrange", "(LEvenOars$Crew;LEvenOars$Lanes;II)V"⟩, ⟨"EvenOars$Nearest", "keepOrder", "()V"⟩, ⟨"EvenOars$Nearest", "scan", "(LEvenOars$Plan;LEvenOars$Lanes;)V"⟩, ⟨"EvenOars$Nearest", "setLanes", "(LEvenOars$Plan;LEvenOars$Lanes;)V"⟩, ⟨"EvenOars$Nearest", "weigh", "(LEvenOars$Lanes;II)V"⟩, ⟨"EvenOars$Plan", "<init>", "()V"⟩, ⟨"EvenOars$Plan", "clear", "()V"⟩, ⟨"EvenOars$Plan", "isSeat", "(I)Z"⟩, ⟨"EvenOars$Plan", "isRower", "(I)Z"⟩, ⟨"EvenOars$Plan", "isPower", "(I)Z"⟩, ⟨"EvenOars$Plan", "isFixed", "(I)Z"⟩, ⟨"EvenOars$Plan", "seatAtPlace", "(I)I"⟩, ⟨"EvenOars$Plan", "addSeat", "(II)V"⟩, ⟨"EvenOars$Plan", "fixSeat", "(IZ)V"⟩, ⟨"EvenOars$Plan", "addRower", "(II)V"⟩, ⟨"EvenOars$Plan", "wantSwing", "(II)V"⟩, ⟨"EvenOars$Plan", "addRun", "(II)V"⟩, ⟨"EvenOars$Plan", "setRunSide", "(II)V"⟩, ⟨"EvenOars$Plan", "addPayment", "(II)V"⟩, ⟨"EvenOars$Plan", "wants", "()I"⟩, ⟨"EvenOars$Plan", "leverOf", "(II)J"⟩, ⟨"EvenOars$Plan", "allows", "(I)Z"⟩, ⟨"EvenOars$Plan", "sideAtFirst", "(I)I"⟩, ⟨"EvenOars$Plan", "seatedAtFirst", "()I"⟩, ⟨"EvenOars$Plan", "runLever", "(II)J"⟩, ⟨"EvenOars$Plan", "swungOf", "(I)J"⟩, ⟨"EvenOars$Plan", "payment", "(IZ)J"⟩, ⟨"EvenOars$Question", "<init>", "()V"⟩, ⟨"EvenOars$Question", "read", "(LEvenOars$Tape;)Z"⟩, ⟨"EvenOars$Question", "test", "(LEvenOars$Tape;I)Z"⟩, ⟨"EvenOars$Question", "both", "(LEvenOars$Tape;I)Z"⟩, ⟨"EvenOars$Question", "fact", "(LEvenOars$Tape;I)Z"⟩, ⟨"EvenOars$Question", "comparison", "(LEvenOars$Tape;I)Z"⟩, ⟨"EvenOars$Question", "sum", "(LEvenOars$Tape;I)Z"⟩, ⟨"EvenOars$Question", "product", "(LEvenOars$Tape;I)Z"⟩, ⟨"EvenOars$Question", "part", "(LEvenOars$Tape;I)Z"⟩, ⟨"EvenOars$Question", "partOf", "(LEvenOars$Tape;II)Z"⟩, ⟨"EvenOars$Question", "pair", "(LEvenOars$Tape;II)Z"⟩, ⟨"EvenOars$Question", "mayOpen", "(LEvenOars$Tape;I)Z"⟩, ⟨"EvenOars$Question", "code", "(I)V"⟩, ⟨"EvenOars$Question", "keep", "(I)V"⟩, ⟨"EvenOars$Question", "answer", "(LEvenOars$Crew;)J"⟩, ⟨"EvenOars$Question", "answerTest", "(LEvenOars$Crew;II)J"⟩, ⟨"EvenOars$Question", "answerSum", "(LEvenOars$Crew;II)J"⟩, ⟨"EvenOars$Question", "valueAt", "(LEvenOars$Crew;I)J"⟩, ⟨"EvenOars$Question", "keepTen", "(LEvenOars$Crew;I)V"⟩, ⟨"EvenOars$Question", "apply", "(LEvenOars$Crew;II)V"⟩, ⟨"EvenOars$Question", "applyToTwo", "(I)V"⟩, ⟨"EvenOars$Question", "swingOf", "(J)J"⟩, ⟨"EvenOars$Question", "forceOf", "(LEvenOars$Crew;JI)J"⟩, ⟨"EvenOars$Question", "joined", "(IJJ)J"⟩, ⟨"EvenOars$Question", "held", "(J)J"⟩, ⟨"EvenOars$Question", "push", "(J)V"⟩, ⟨"EvenOars$Question", "pop", "()J"⟩, ⟨"EvenOars$Race", "<init>", "()V"⟩, ⟨"EvenOars$Race", "greatest", "(LEvenOars$Crew;I)J"⟩, ⟨"EvenOars$Race", "findStillest", "(LEvenOars$Crew;LEvenOars$Lanes;I)Z"⟩, ⟨"EvenOars$Race", "findUnderWay", "(LEvenOars$Crew;I)Z"⟩, ⟨"EvenOars$Race", "sailAsTheySit", "(LEvenOars$Crew;I)V"⟩, ⟨"EvenOars$Race", "tryChange", "(LEvenOars$Crew;III)V"⟩, ⟨"EvenOars$Race", "setLanes", "(LEvenOars$Crew;LEvenOars$Lanes;I)V"⟩, ⟨"EvenOars$Race", "greatestOf", "(LEvenOars$Lanes;)J"⟩, ⟨"EvenOars$Race", "firstTen", "(LEvenOars$Crew;)I"⟩, ⟨"EvenOars$Race", "lastTen", "(LEvenOars$Crew;I)I"⟩, ⟨"EvenOars$Tape", "<init>", "()V"⟩, ⟨"EvenOars$Tape", "hasRoomForFive", "()Z"⟩, ⟨"EvenOars$Tape", "put", "(I)V"⟩, ⟨"EvenOars$Tape", "cut", "(I)Z"⟩, ⟨"EvenOars$Tape", "clear", "()V"⟩, ⟨"EvenOars$Tape", "byteAt", "(I)I"⟩, ⟨"EvenOars$Tape", "begin", "()V"⟩, ⟨"EvenOars$Tape", "fail", "(II)Z"⟩, ⟨"EvenOars$Tape", "failHere", "()Z"⟩, ⟨"EvenOars$Tape", "next", "()I"⟩, ⟨"EvenOars$Tape", "takeSign", "(I)Z"⟩, ⟨"EvenOars$Tape", "wordHere", "(Ljava/lang/String;)I"⟩, ⟨"EvenOars$Tape", "passWord", "()V"⟩, ⟨"EvenOars$Tape", "takeWord", "(Ljava/lang/String;I)Z"⟩, ⟨"EvenOars$Tape", "anyWordEnd", "()I"⟩, ⟨"EvenOars$Tape", "placeIn", "(Ljava/lang/String;I)I"⟩, ⟨"EvenOars$Tape", "takeNumber", "(II)Z"⟩, ⟨"EvenOars$Tape", "takeSignedNumber", "(I)Z"⟩, ⟨"EvenOars$Tape", "wordEnd", "()I"⟩, ⟨"EvenOars$Tape", "isLetter", "(I)Z"⟩, ⟨"EvenOars$Tape", "isDigit", "(I)Z"⟩, ⟨"EvenOars$Tape", "isBlank", "(I)Z"⟩, ⟨"EvenOars$Trials", "<init>", "()V"⟩, ⟨"EvenOars$Trials", "forget", "()V"⟩, ⟨"EvenOars$Trials", "firstUnfit", "(LEvenOars$Plan;)I"⟩, ⟨"EvenOars$Trials", "told", "(LEvenOars$Plan;II)I"⟩, ⟨"EvenOars$Trials", "crookedSeats", "(LEvenOars$Plan;)I"⟩, ⟨"EvenOars$Trials", "gapAsTold", "(LEvenOars$Plan;I)J"⟩, ⟨"EvenOars$Trials", "canBeCrooked", "(LEvenOars$Plan;I)Z"⟩, ⟨"EvenOars$Trials", "allFitWith", "(LEvenOars$Plan;I)Z"⟩, ⟨"EvenOars$Trials", "countRows", "(LEvenOars$Plan;)V"⟩, ⟨"EvenOars$Trials", "setBounds", "(LEvenOars$Plan;I)V"⟩, ⟨"EvenOars$Trials", "rowsFrom", "(LEvenOars$Plan;I)I"⟩, ⟨"EvenOars$Trials", "verdictFrom", "(LEvenOars$Plan;I)I"⟩, ⟨"EvenOars$Trials", "allRowsFrom", "(LEvenOars$Plan;I)I"⟩, ⟨"EvenOars$Trials", "rowsOfLast", "(LEvenOars$Plan;I)I"⟩, ⟨"EvenOars$Trials", "tryMore", "(LEvenOars$Plan;II)V"⟩, ⟨"EvenOars$Trials", "noteStrengths", "(III)V"⟩, ⟨"EvenOars", "<init>", "()V"⟩, ⟨"EvenOars", "feed", "(IIIII)I"⟩, ⟨"EvenOars", "end", "(I)Z"⟩, ⟨"EvenOars", "text", "()I"⟩, ⟨"EvenOars", "fault", "(I)I"⟩, ⟨"EvenOars", "boat", "(I)I"⟩, ⟨"EvenOars", "letter", "(II)I"⟩, ⟨"EvenOars", "seat", "(II)I"⟩, ⟨"EvenOars", "rower", "(II)I"⟩, ⟨"EvenOars", "want", "(I)J"⟩, ⟨"EvenOars", "swing", "(II)J"⟩, ⟨"EvenOars", "off", "()J"⟩, ⟨"EvenOars", "good", "()I"⟩, ⟨"EvenOars", "lawful", "()I"⟩, ⟨"EvenOars", "heading", "()J"⟩, ⟨"EvenOars", "turn", "(I)Z"⟩, ⟨"EvenOars", "swap", "(II)Z"⟩, ⟨"EvenOars", "stroke", "(I)I"⟩, ⟨"EvenOars", "row", "(I)J"⟩, ⟨"EvenOars", "undo", "()Z"⟩, ⟨"EvenOars", "seed", "(I)Z"⟩, ⟨"EvenOars", "ways", "(I)J"⟩, ⟨"EvenOars", "made", "(II)I"⟩, ⟨"EvenOars", "doubled", "(II)J"⟩, ⟨"EvenOars", "still", "(II)I"⟩, ⟨"EvenOars", "nearest", "(I)J"⟩, ⟨"EvenOars", "seated", "(I)J"⟩, ⟨"EvenOars", "changes", "()I"⟩, ⟨"EvenOars", "race", "(I)J"⟩, ⟨"EvenOars", "stillest", "(II)J"⟩, ⟨"EvenOars", "under", "(II)J"⟩, ⟨"EvenOars", "fits", "()I"⟩, ⟨"EvenOars", "strengths", "(II)I"⟩, ⟨"EvenOars", "crooked", "()I"⟩, ⟨"EvenOars", "heirs", "(I)I"⟩, ⟨"EvenOars", "apart", "(IZ)J"⟩, ⟨"EvenOars", "ask", "()J"⟩, ⟨"EvenOars", "image", "()I"⟩, ⟨"EvenOars", "octet", "(I)I"⟩, ⟨"EvenOars", "on", "()Z"⟩, ⟨"EvenOars", "status", "(I)I"⟩, ⟨"EvenOars", "refuse", "(I)Z"⟩, ⟨"EvenOars", "canGoBy", "(I)Z"⟩, ⟨"EvenOars", "keepFault", "()V"⟩, ⟨"EvenOarsModel", "<init>", "()V"⟩, ⟨"EvenOarsModel", "isIn", "(JJJ)Z"⟩, ⟨"EvenOarsModel", "feed", "(IIIII)I"⟩, ⟨"EvenOarsModel", "end", "(I)Z"⟩, ⟨"EvenOarsModel", "fail", "(II)V"⟩, ⟨"EvenOarsModel", "isLetter", "(I)Z"⟩, ⟨"EvenOarsModel", "isDigit", "(I)Z"⟩, ⟨"EvenOarsModel", "look", "()I"⟩, ⟨"EvenOarsModel", "isHere", "([C)Z"⟩, ⟨"EvenOarsModel", "takes", "([C)Z"⟩, ⟨"EvenOarsModel", "asks", "([C)V"⟩, ⟨"EvenOarsModel", "takesSign", "(I)Z"⟩, ⟨"EvenOarsModel", "asksSign", "(I)V"⟩, ⟨"EvenOarsModel", "number", "(II)I"⟩, ⟨"EvenOarsModel", "signed", "(I)I"⟩, ⟨"EvenOarsModel", "isOwnHere", "()Z"⟩, ⟨"EvenOarsModel", "name", "()J"⟩, ⟨"EvenOarsModel", "isFull", "(III)Z"⟩, ⟨"EvenOarsModel", "seatAt", "(I)I"⟩, ⟨"EvenOarsModel", "seatTold", "(I)V"⟩, ⟨"EvenOarsModel", "rowerTold", "(I)V"⟩, ⟨"EvenOarsModel", "fixTold", "()V"⟩, ⟨"EvenOarsModel", "wantTold", "()V"⟩, ⟨"EvenOarsModel", "sidesTold", "(I)V"⟩, ⟨"EvenOarsModel", "runTold", "(I)V"⟩, ⟨"EvenOarsModel", "payTold", "(I)V"⟩, ⟨"EvenOarsModel", "statementTold", "()V"⟩, ⟨"EvenOarsModel", "text", "()I"⟩, ⟨"EvenOarsModel", "stands", "()V"⟩, ⟨"EvenOarsModel", "fault", "(I)I"⟩, ⟨"EvenOarsModel", "seats", "()I"⟩, ⟨"EvenOarsModel", "rowers", "()I"⟩, ⟨"EvenOarsModel", "runs", "()I"⟩, ⟨"EvenOarsModel", "each", "()I"⟩, ⟨"EvenOarsModel", "near", "()I"⟩, ⟨"EvenOarsModel", "isSeat", "(I)Z"⟩, ⟨"EvenOarsModel", "isRower", "(I)Z"⟩, ⟨"EvenOarsModel", "isFixed", "(I)Z"⟩, ⟨"EvenOarsModel", "strengthAt", "(II)I"⟩, ⟨"EvenOarsModel", "pullOf", "(II)I"⟩, ⟨"EvenOarsModel", "raised", "(II)J"⟩, ⟨"EvenOarsModel", "swingBy", "(III)J"⟩, ⟨"EvenOarsModel", "size", "(J)J"⟩, ⟨"EvenOarsModel", "isWantedOf", "(I)Z"⟩, ⟨"EvenOarsModel", "offBy", "(I)J"⟩, ⟨"EvenOarsModel", "isGood", "(I)Z"⟩, ⟨"EvenOarsModel", "bits", "(I)I"⟩, ⟨"EvenOarsModel", "isLawful", "(I)Z"⟩, ⟨"EvenOarsModel", "fixedMany", "()I"⟩, ⟨"EvenOarsModel", "wants", "()I"⟩, ⟨"EvenOarsModel", "boat", "(I)I"⟩, ⟨"EvenOarsModel", "letter", "(II)I"⟩, ⟨"EvenOarsModel", "seat", "(II)I"⟩, ⟨"EvenOarsModel", "seatOf", "(I)I"⟩, ⟨"EvenOarsModel", "rower", "(II)I"⟩, ⟨"EvenOarsModel", "isPower", "(I)Z"⟩, ⟨"EvenOarsModel", "want", "(I)J"⟩, ⟨"EvenOarsModel", "swing", "(II)J"⟩, ⟨"EvenOarsModel", "off", "()J"⟩, ⟨"EvenOarsModel", "good", "()I"⟩, ⟨"EvenOarsModel", "lawful", "()I"⟩, ⟨"EvenOarsModel", "heading", "()J"⟩, ⟨"EvenOarsModel", "keeps", "()V"⟩, ⟨"EvenOarsModel", "undo", "()Z"⟩, ⟨"EvenOarsModel", "turn", "(I)Z"⟩, ⟨"EvenOarsModel", "changesSeats", "(II)V"⟩, ⟨"EvenOarsModel", "canSwap", "(II)Z"⟩, ⟨"EvenOarsModel", "swap", "(II)Z"⟩, ⟨"EvenOarsModel", "canGo", "(I)Z"⟩, ⟨"EvenOarsModel", "stroke", "(I)I"⟩, ⟨"EvenOarsModel", "seed", "(I)Z"⟩, ⟨"EvenOarsModel", "drawOf", "(I)I"⟩, ⟨"EvenOarsModel", "rows", "()V"⟩, ⟨"EvenOarsModel", "row", "(I)J"⟩, ⟨"EvenOarsModel", "ways", "(I)J"⟩, ⟨"EvenOarsModel", "sumBy", "(III)J"⟩, ⟨"EvenOarsModel", "made", "(II)I"⟩, ⟨"EvenOarsModel", "doubled", "(II)J"⟩, ⟨"EvenOarsModel", "still", "(II)I"⟩, ⟨"EvenOarsModel", "isNearest", "()Z"⟩, ⟨"EvenOarsModel", "nearest", "(I)J"⟩, ⟨"EvenOarsModel", "putsAside", "()V"⟩, ⟨"EvenOarsModel", "takesBack", "()V"⟩, ⟨"EvenOarsModel", "sitBy", "(I)Z"⟩, ⟨"EvenOarsModel", "seated", "(I)J"⟩, ⟨"EvenOarsModel", "actMany", "()I"⟩, ⟨"EvenOarsModel", "acts", "(I)Z"⟩, ⟨"EvenOarsModel", "isRight", "()Z"⟩, ⟨"EvenOarsModel", "isOneOff", "()Z"⟩, ⟨"EvenOarsModel", "isTwoOff", "()Z"⟩, ⟨"EvenOarsModel", "isThreeOff", "()Z"⟩, ⟨"EvenOarsModel", "changes", "()I"⟩, ⟨"EvenOarsModel", "greater", "(JJ)J"⟩, ⟨"EvenOarsModel", "greatest", "(III)J"⟩, ⟨"EvenOarsModel", "race", "(I)J"⟩, ⟨"EvenOarsModel", "stillest", "(II)J"⟩, ⟨"EvenOarsModel", "underBy", "(III)V"⟩, ⟨"EvenOarsModel", "under", "(II)J"⟩, ⟨"EvenOarsModel", "triesTold", "()V"⟩, ⟨"EvenOarsModel", "isFit", "(I)Z"⟩, ⟨"EvenOarsModel", "firstUnfit", "()I"⟩, ⟨"EvenOarsModel", "fits", "()I"⟩, ⟨"EvenOarsModel", "fittingRows", "()I"⟩, ⟨"EvenOarsModel", "strengths", "(II)I"⟩, ⟨"EvenOarsModel", "crooked", "()I"⟩, ⟨"EvenOarsModel", "payments", "()I"⟩, ⟨"EvenOarsModel", "apartBy", "(IZ)J"⟩, ⟨"EvenOarsModel", "heirs", "(I)I"⟩, ⟨"EvenOarsModel", "apart", "(IZ)J"⟩, ⟨"EvenOarsModel", "qCode", "(I)V"⟩, ⟨"EvenOarsModel", "qOpens", "(II)V"⟩, ⟨"EvenOarsModel", "qIsOn", "(I)Z"⟩, ⟨"EvenOarsModel", "qDrops", "()V"⟩, ⟨"EvenOarsModel", "qIsBracket", "(I)Z"⟩, ⟨"EvenOarsModel", "qBracket", "()I"⟩, ⟨"EvenOarsModel", "qDropsToBracket", "()V"⟩, ⟨"EvenOarsModel", "qWordHere", "()I"⟩, ⟨"EvenOarsModel", "qWordOf", "(II)I"⟩, ⟨"EvenOarsModel", "qAsksWord", "(I)V"⟩, ⟨"EvenOarsModel", "qEndsPart", "()V"⟩, ⟨"EvenOarsModel", "qPartTold", "()V"⟩, ⟨"EvenOarsModel", "qGoesOn", "()Z"⟩, ⟨"EvenOarsModel", "qSums", "()V"⟩, ⟨"EvenOarsModel", "qFact", "()V"⟩, ⟨"EvenOarsModel", "qHasSquare", "()Z"⟩, ⟨"EvenOarsModel", "qDropsNots", "()V"⟩, ⟨"EvenOarsModel", "qTest", "()V"⟩, ⟨"EvenOarsModel", "qGoesOnTest", "()Z"⟩, ⟨"EvenOarsModel", "qClip", "(J)J"⟩, ⟨"EvenOarsModel", "qFloor", "(JJ)J"⟩, ⟨"EvenOarsModel", "qPuts", "(J)V"⟩, ⟨"EvenOarsModel", "qJoins", "(I)V"⟩, ⟨"EvenOarsModel", "qPartOf", "(II)J"⟩, ⟨"EvenOarsModel", "qOf", "(IJI)J"⟩, ⟨"EvenOarsModel", "qTold", "(I)J"⟩, ⟨"EvenOarsModel", "qKind", "()I"⟩, ⟨"EvenOarsModel", "qTakes", "(IJI)V"⟩, ⟨"EvenOarsModel", "ask", "()J"⟩, ⟨"EvenOarsModel", "qOffAt", "(I)J"⟩, ⟨"EvenOarsModel", "qIsGoodAt", "(I)J"⟩, ⟨"EvenOarsModel", "checked", "([II)I"⟩, ⟨"EvenOarsModel", "image", "()I"⟩, ⟨"EvenOarsModel", "octet", "(I)I"⟩, ⟨"EvenOarsModel", "isImage", "(I)Z"⟩, ⟨"EvenOarsModel", "on", "()Z"⟩, ⟨"EvenOarsModel", "status", "(I)I"⟩, ⟨"EvenOarsLaw", "law", "([I)Z"⟩]
def yM (m : Nat) : MethodName := yT.getD m ⟨"", "", ""⟩
def bT : List ByteArray := [prog_15_method_49_code, prog_16_method_49_code, prog_16_method_59_code, prog_16_method_61_code, prog_16_method_65_code, prog_16_method_66_code, prog_16_method_69_code, prog_16_method_70_code, prog_21_method_101_code, prog_21_method_103_code, prog_2_method_2_code, prog_2_method_3_code, prog_2_method_4_code, prog_2_method_5_code, prog_2_method_6_code, prog_2_method_7_code, prog_2_method_8_code, prog_2_method_9_code, prog_2_method_10_code, prog_2_method_11_code, prog_2_method_12_code, prog_2_method_13_code, prog_2_method_14_code, prog_2_method_15_code, prog_3_method_1_code, prog_3_method_2_code, prog_3_method_3_code, prog_3_method_4_code, prog_3_method_5_code, prog_3_method_6_code, prog_3_method_7_code, prog_3_method_8_code, prog_3_method_9_code, prog_4_method_1_code, prog_4_method_2_code, prog_4_method_3_code, prog_4_method_4_code, prog_4_method_5_code, prog_4_method_6_code, prog_4_method_7_code, prog_4_method_8_code, prog_4_method_9_code, prog_4_method_10_code, prog_4_method_11_code, prog_4_method_12_code, prog_4_method_13_code, prog_4_method_14_code, prog_4_method_15_code, prog_4_method_16_code, prog_4_method_17_code, prog_4_method_18_code, prog_4_method_19_code, prog_4_method_20_code, prog_4_method_21_code, prog_4_method_22_code, prog_4_method_23_code, prog_4_method_24_code, prog_4_method_25_code, prog_4_method_26_code, prog_4_method_27_code, prog_4_method_28_code, prog_5_method_1_code, prog_5_method_2_code, prog_5_method_3_code, prog_5_method_4_code, prog_5_method_5_code, prog_5_method_6_code, prog_5_method_7_code, prog_5_method_8_code, prog_5_method_9_code, prog_5_method_10_code, prog_5_method_11_code, prog_5_method_12_code, prog_6_method_1_code, prog_6_method_2_code, prog_6_method_3_code, prog_6_method_4_code, prog_7_method_1_code, prog_7_method_2_code, prog_7_method_3_code, prog_7_method_4_code, prog_7_method_5_code, prog_7_method_6_code, prog_7_method_7_code, prog_7_method_8_code, prog_7_method_9_code, prog_8_method_1_code, prog_8_method_2_code, prog_8_method_3_code, prog_8_method_4_code, prog_8_method_5_code, prog_8_method_6_code, prog_8_method_7_code, prog_8_method_8_code, prog_8_method_9_code, prog_8_method_10_code, prog_8_method_11_code, prog_8_method_12_code, prog_8_method_13_code, prog_8_method_14_code, prog_8_method_15_code, prog_8_method_16_code, prog_8_method_17_code, prog_8_method_18_code, prog_8_method_19_code, prog_8_method_20_code, prog_8_method_21_code, prog_8_method_22_code, prog_9_method_1_code, prog_9_method_2_code, prog_9_method_3_code, prog_9_method_4_code, prog_9_method_5_code, prog_9_method_6_code, prog_9_method_7_code, prog_9_method_8_code, prog_9_method_9_code, prog_9_method_10_code, prog_9_method_11_code, prog_9_method_12_code, prog_9_method_13_code, prog_9_method_14_code, prog_9_method_15_code, prog_9_method_16_code, prog_9_method_17_code, prog_9_method_18_code, prog_9_method_19_code, prog_9_method_20_code, prog_9_method_21_code, prog_9_method_22_code, prog_9_method_23_code, prog_9_method_24_code, prog_9_method_25_code, prog_9_method_26_code, prog_9_method_27_code, prog_10_method_1_code, prog_10_method_2_code, prog_10_method_3_code, prog_10_method_4_code, prog_10_method_5_code, prog_10_method_6_code, prog_10_method_7_code, prog_10_method_8_code, prog_10_method_9_code, prog_10_method_10_code, prog_11_method_1_code, prog_11_method_2_code, prog_11_method_3_code, prog_11_method_4_code, prog_11_method_5_code, prog_11_method_6_code, prog_11_method_7_code, prog_11_method_8_code, prog_11_method_9_code, prog_11_method_10_code, prog_11_method_11_code, prog_11_method_12_code, prog_11_method_13_code, prog_11_method_14_code, prog_11_method_15_code, prog_11_method_16_code, prog_11_method_17_code, prog_11_method_18_code, prog_11_method_19_code, prog_11_method_20_code, prog_11_method_21_code, prog_11_method_22_code, prog_12_method_1_code, prog_12_method_2_code, prog_12_method_3_code, prog_12_method_4_code, prog_12_method_5_code, prog_12_method_6_code, prog_12_method_7_code, prog_12_method_8_code, prog_12_method_9_code, prog_12_method_10_code, prog_12_method_11_code, prog_12_method_12_code, prog_12_method_13_code, prog_12_method_14_code, prog_12_method_15_code, prog_12_method_16_code, prog_1_method_1_code, prog_1_method_2_code, prog_1_method_3_code, prog_1_method_4_code, prog_1_method_5_code, prog_1_method_6_code, prog_1_method_7_code, prog_1_method_8_code, prog_1_method_9_code, prog_1_method_10_code, prog_1_method_11_code, prog_1_method_12_code, prog_1_method_13_code, prog_1_method_14_code, prog_1_method_15_code, prog_1_method_16_code, prog_1_method_17_code, prog_1_method_18_code, prog_1_method_19_code, prog_1_method_20_code, prog_1_method_21_code, prog_1_method_22_code, prog_1_method_23_code, prog_1_method_24_code, prog_1_method_25_code, prog_1_method_26_code, prog_1_method_27_code, prog_1_method_28_code, prog_1_method_29_code, prog_1_method_30_code, prog_1_method_31_code, prog_1_method_32_code, prog_1_method_33_code, prog_1_method_34_code, prog_1_method_35_code, prog_1_method_36_code, prog_1_method_37_code, prog_1_method_38_code, prog_1_method_39_code, prog_1_method_40_code, prog_1_method_41_code, prog_1_method_42_code, prog_1_method_43_code, prog_1_method_44_code, prog_14_method_1_code, prog_14_method_2_code, prog_14_method_3_code, prog_14_method_4_code, prog_14_method_5_code, prog_14_method_6_code, prog_14_method_7_code, prog_14_method_8_code, prog_14_method_9_code, prog_14_method_10_code, prog_14_method_11_code, prog_14_method_12_code, prog_14_method_13_code, prog_14_method_14_code, prog_14_method_15_code, prog_14_method_16_code, prog_14_method_17_code, prog_14_method_18_code, prog_14_method_19_code, prog_14_method_20_code, prog_14_method_21_code, prog_14_method_22_code, prog_14_method_23_code, prog_14_method_24_code, prog_14_method_25_code, prog_14_method_26_code, prog_14_method_27_code, prog_14_method_28_code, prog_14_method_29_code, prog_14_method_30_code, prog_14_method_31_code, prog_14_method_32_code, prog_14_method_33_code, prog_14_method_34_code, prog_14_method_35_code, prog_14_method_36_code, prog_14_method_37_code, prog_14_method_38_code, prog_14_method_39_code, prog_14_method_40_code, prog_14_method_41_code, prog_14_method_42_code, prog_14_method_43_code, prog_14_method_44_code, prog_14_method_45_code, prog_14_method_46_code, prog_14_method_47_code, prog_14_method_48_code, prog_14_method_49_code, prog_14_method_50_code, prog_14_method_51_code, prog_14_method_52_code, prog_14_method_53_code, prog_14_method_54_code, prog_14_method_55_code, prog_14_method_56_code, prog_14_method_57_code, prog_14_method_58_code, prog_14_method_59_code, prog_14_method_60_code, prog_14_method_61_code, prog_14_method_62_code, prog_14_method_63_code, prog_14_method_64_code, prog_14_method_65_code, prog_14_method_66_code, prog_14_method_67_code, prog_14_method_68_code, prog_14_method_69_code, prog_14_method_70_code, prog_14_method_71_code, prog_14_method_72_code, prog_14_method_73_code, prog_14_method_74_code, prog_14_method_75_code, prog_14_method_76_code, prog_14_method_77_code, prog_14_method_78_code, prog_14_method_79_code, prog_14_method_80_code, prog_14_method_81_code, prog_14_method_82_code, prog_14_method_83_code, prog_14_method_84_code, prog_14_method_85_code, prog_14_method_86_code, prog_14_method_87_code, prog_14_method_88_code, prog_14_method_89_code, prog_14_method_90_code, prog_14_method_91_code, prog_14_method_92_code, prog_14_method_93_code, prog_14_method_94_code, prog_14_method_95_code, prog_14_method_96_code, prog_14_method_97_code, prog_14_method_98_code, prog_14_method_99_code, prog_14_method_100_code, prog_14_method_101_code, prog_14_method_102_code, prog_14_method_103_code, prog_14_method_104_code, prog_14_method_105_code, prog_14_method_106_code, prog_14_method_107_code, prog_14_method_108_code, prog_14_method_109_code, prog_14_method_110_code, prog_14_method_111_code, prog_14_method_112_code, prog_14_method_113_code, prog_14_method_114_code, prog_14_method_115_code, prog_14_method_116_code, prog_14_method_117_code, prog_14_method_118_code, prog_14_method_119_code, prog_14_method_120_code, prog_14_method_121_code, prog_14_method_122_code, prog_14_method_123_code, prog_14_method_124_code, prog_14_method_125_code, prog_14_method_126_code, prog_14_method_127_code, prog_14_method_128_code, prog_14_method_129_code, prog_14_method_130_code, prog_14_method_131_code, prog_14_method_132_code, prog_14_method_133_code, prog_14_method_134_code, prog_14_method_135_code, prog_14_method_136_code, prog_14_method_137_code, prog_14_method_138_code, prog_14_method_139_code, prog_14_method_140_code, prog_14_method_141_code, prog_14_method_142_code, prog_14_method_143_code, prog_14_method_144_code, prog_14_method_145_code, prog_14_method_146_code, code]
def bM (m : Nat) : ByteArray := bT.getD m ⟨#[]⟩
def rT : List (Option FieldType) := [some .int, some .long, some .int, some .long, some .int, some .long, some .int, some .long, none, none, some .int, some .boolean, some .boolean, some .boolean, some .boolean, some .boolean, some .boolean, some .boolean, some .boolean, some .boolean, some .boolean, some .boolean, some .boolean, some .boolean, none, some .int, none, some .boolean, some .boolean, some .boolean, some .boolean, none, none, none, none, some .int, some .int, some .int, some .int, some .long, some .long, some .long, some .boolean, some .boolean, some .boolean, none, none, some .boolean, some .int, some .boolean, some .boolean, some .boolean, some .boolean, some .int, some .int, none, none, none, none, some .long, some .int, none, some .long, none, some .int, some .int, some .boolean, some .long, some .int, some .long, none, none, some .long, none, none, none, none, none, some .boolean, some .boolean, some .int, none, none, none, none, none, none, none, some .boolean, some .boolean, some .boolean, some .boolean, some .int, none, none, none, none, none, none, none, some .int, some .long, some .boolean, some .int, some .int, some .long, some .long, some .long, none, some .boolean, some .boolean, some .boolean, some .boolean, some .boolean, some .boolean, some .boolean, some .boolean, some .boolean, some .boolean, some .boolean, none, none, some .long, some .long, some .long, some .long, none, none, none, some .long, some .long, some .long, some .long, none, some .long, none, some .long, some .boolean, some .boolean, none, none, none, some .long, some .int, some .int, none, some .boolean, none, some .boolean, none, some .int, none, some .boolean, some .boolean, some .int, some .boolean, some .int, none, some .boolean, some .int, some .int, some .boolean, some .boolean, some .int, some .boolean, some .boolean, some .boolean, none, none, some .int, some .int, some .int, some .long, some .boolean, some .boolean, none, none, some .int, some .int, some .int, some .int, none, none, none, some .int, some .boolean, some .int, some .int, some .int, some .int, some .int, some .int, some .long, some .long, some .long, some .int, some .int, some .long, some .boolean, some .boolean, some .int, some .long, some .boolean, some .boolean, some .long, some .int, some .long, some .int, some .long, some .long, some .int, some .long, some .long, some .long, some .int, some .int, some .int, some .int, some .long, some .long, some .int, some .int, some .boolean, some .int, some .boolean, some .boolean, none, none, some .boolean, some .int, some .boolean, none, some .boolean, some .boolean, some .int, some .boolean, some .boolean, none, some .boolean, none, some .int, some .int, some .boolean, some .long, some .boolean, some .int, none, none, none, none, none, none, none, none, some .int, none, some .int, some .int, some .int, some .int, some .int, some .int, some .boolean, some .boolean, some .boolean, some .int, some .int, some .long, some .long, some .long, some .boolean, some .long, some .boolean, some .int, some .boolean, some .int, some .int, some .int, some .int, some .int, some .int, some .int, some .boolean, some .long, some .long, some .long, some .int, some .int, some .long, none, some .boolean, some .boolean, none, some .boolean, some .boolean, some .boolean, some .int, some .boolean, some .int, none, some .long, some .long, some .long, some .int, some .long, some .int, some .boolean, some .long, none, none, some .boolean, some .long, some .int, some .boolean, some .boolean, some .boolean, some .boolean, some .boolean, some .int, some .long, some .long, some .long, some .long, none, some .long, none, some .boolean, some .int, some .int, some .int, some .int, some .int, some .int, some .long, some .int, some .long, none, none, some .boolean, none, some .boolean, some .int, none, some .int, some .int, none, none, none, some .boolean, none, none, some .boolean, none, none, some .boolean, some .long, some .long, none, none, some .long, some .long, some .long, some .int, none, some .long, some .long, some .long, some .int, some .int, some .int, some .boolean, some .boolean, some .int, some .boolean]
def rM (m : Nat) : Option FieldType := rT.getD m none
def nT : List Nat := [1, 2, 1, 1, 2, 2, 2, 2, 2, 2, 2, 2, 2, 2, 2, 2, 4, 2, 2, 2, 2, 2, 2, 2, 0, 1, 1, 2, 4, 3, 1, 2, 1, 0, 1, 1, 0, 2, 2, 2, 2, 1, 1, 1, 2, 1, 1, 0, 0, 1, 1, 1, 1, 1, 2, 1, 3, 1, 2, 0, 0, 0, 1, 0, 2, 4, 3, 2, 2, 2, 2, 3, 3, 0, 0, 3, 1, 0, 2, 2, 1, 4, 0, 2, 2, 3, 0, 0, 1, 1, 1, 1, 1, 2, 2, 2, 2, 2, 2, 2, 0, 2, 1, 1, 0, 2, 1, 2, 0, 1, 2, 2, 2, 2, 2, 2, 2, 3, 3, 2, 1, 1, 1, 3, 3, 2, 2, 3, 1, 1, 3, 3, 1, 1, 0, 0, 2, 3, 2, 2, 4, 3, 1, 1, 2, 0, 0, 1, 1, 0, 1, 0, 2, 0, 0, 1, 1, 0, 2, 0, 2, 2, 1, 0, 1, 1, 1, 0, 0, 1, 3, 1, 2, 2, 2, 1, 2, 2, 2, 2, 2, 3, 3, 0, 5, 1, 0, 1, 1, 2, 2, 2, 1, 2, 0, 0, 0, 0, 1, 2, 1, 1, 0, 1, 1, 2, 2, 2, 1, 1, 0, 1, 2, 2, 0, 2, 0, 1, 2, 0, 0, 1, 0, 1, 1, 1, 0, 0, 3, 5, 1, 2, 1, 1, 0, 1, 1, 1, 1, 1, 2, 1, 0, 0, 3, 1, 1, 1, 0, 0, 1, 1, 1, 0, 0, 0, 1, 0, 0, 0, 0, 0, 1, 1, 1, 2, 2, 2, 3, 1, 1, 1, 1, 1, 1, 0, 0, 1, 2, 2, 1, 2, 1, 1, 2, 0, 0, 0, 0, 0, 0, 1, 2, 2, 2, 1, 1, 1, 1, 0, 1, 1, 3, 2, 2, 2, 0, 1, 0, 0, 1, 1, 0, 1, 0, 0, 0, 0, 0, 2, 3, 1, 2, 3, 2, 0, 1, 0, 0, 0, 2, 0, 0, 2, 1, 2, 1, 2, 1, 0, 1, 0, 0, 0, 2, 1, 0, 0, 0, 0, 0, 0, 0, 0, 0, 1, 2, 1, 1, 2, 3, 1, 0, 3, 0, 1, 1, 2, 0, 1, 1, 0, 1, 1]
def nP (m : Nat) : Nat := nT.getD m 0
def sT : List Bool := [true, true, true, true, true, true, true, true, true, true, true, true, true, true, true, true, true, true, true, true, true, true, true, true, false, false, false, false, false, false, false, false, false, false, false, false, false, false, false, false, false, false, false, false, false, false, false, false, false, false, false, false, false, true, true, false, false, false, false, false, false, false, false, false, false, false, true, true, true, true, false, false, true, false, false, false, false, false, false, false, false, false, false, false, false, false, false, false, false, false, true, false, false, false, false, false, false, false, false, false, false, false, false, false, false, false, false, false, false, false, false, false, false, false, false, false, false, false, false, true, false, false, false, false, false, false, false, false, false, false, true, true, true, false, false, false, true, false, false, false, false, false, true, true, true, false, false, false, false, false, false, false, false, false, false, false, false, false, false, false, false, false, false, false, true, true, true, false, false, true, false, false, true, false, false, false, false, false, false, false, false, false, false, false, false, false, false, false, false, false, false, false, false, false, false, false, false, false, false, false, false, false, false, false, false, false, false, false, false, false, false, false, false, false, false, false, false, false, false, false, false, false, false, false, false, false, false, false, true, false, false, false, true, true, false, false, false, false, false, false, false, false, false, false, false, false, false, false, false, false, false, false, false, false, false, false, false, false, false, false, false, false, false, false, false, false, false, true, false, true, false, false, false, true, false, false, false, false, false, false, false, false, true, false, false, false, false, false, false, false, false, false, false, false, false, false, false, false, false, false, false, false, true, false, false, false, false, false, false, false, false, false, false, false, false, false, false, false, false, true, false, false, false, false, false, false, false, false, false, false, false, false, false, false, false, false, false, false, false, false, true, false, false, false, false, false, false, false, false, false, false, false, false, false, false, true, true, false, false, false, false, false, false, false, false, false, false, true, false, false, false, false, false, true]
def sM (m : Nat) : Bool := sT.getD m false
def lpT : List (List Nat) := [[0], [0, 27], [0, 9, 10], [0, 11, 12], [0, 9, 10], [0, 10, 11], [0, 9, 10], [0, 10, 11], [0, 6, 22], [0, 5, 20], [0, 10, 26, 45, 60, 69, 75], [0, 25, 35, 124, 130, 136, 142, 148, 154, 160, 166, 172], [0, 44, 57, 58, 59, 72, 73, 74, 87, 88, 89, 102, 103, 104], [0, 12, 36, 56, 58], [0, 28, 30, 55, 57], [0, 26, 31, 49, 52, 79, 85, 97, 147], [0, 3, 40, 41, 62, 68], [0, 12], [0, 12, 36, 51, 52, 65, 67, 75], [0, 11, 37, 39], [0, 13], [0, 28, 30, 55, 57], [0, 23, 28, 30, 76, 87, 88, 103, 105, 114], [0, 13, 40, 42], [0], [0, 7, 14, 48, 54, 60], [0, 10, 37, 44, 70, 105, 135, 141], [0, 10, 48, 49], [0, 12, 16, 28, 90, 96, 102], [0, 30, 31, 32, 35, 86, 92], [0, 2, 27, 33], [0, 18, 71], [0, 14, 73], [0], [0, 7, 30, 31, 49], [0, 2, 25, 31], [0, 4, 32], [0, 15, 17], [0, 25, 26], [0, 13, 37, 39], [0, 5, 42], [0, 5, 52, 58], [0, 2, 56, 62], [0, 22, 24], [0, 27, 29, 51], [0], [0, 9, 43], [0, 9, 80, 88, 105, 128], [0, 27, 48, 50, 89, 94, 123], [0, 10, 25, 55, 57, 108], [0, 23, 29, 54, 95, 96], [0, 4, 57, 59, 66, 72, 90, 91], [0, 2, 52, 54, 60], [0], [0], [0, 33], [0], [0, 25], [0, 48], [0, 4, 60, 66], [0], [0], [0, 11, 15, 31], [0, 9, 22, 38, 77, 83, 115, 121], [0, 21, 23], [0, 26, 27, 28, 61, 98], [0, 39, 40], [0, 20, 24, 29, 65, 68, 76], [0, 22, 24, 26, 36, 69, 72, 80, 90, 96], [0, 5, 21], [0, 38, 55, 97, 101, 114, 120], [0, 3, 32], [0, 28, 32, 37, 72, 74, 82], [0], [0], [0, 23, 24, 30, 78], [0, 17, 19, 53], [0], [0, 2, 29], [0, 37], [0, 18, 19], [0, 20, 53, 57, 58, 61, 121, 127], [0], [0, 26, 43, 63, 69], [0, 6, 27, 65, 84, 90], [0, 9, 54, 55, 63, 78, 95, 111], [0], [0], [0, 16, 17], [0, 16, 17], [0, 13, 14], [0, 21, 22], [0, 2, 22, 28], [0, 10, 36, 69], [0, 20, 26, 43, 51], [0, 10], [0, 15], [0, 10], [0, 32], [0, 10], [0, 4, 25, 31], [0, 25, 26, 45, 46], [0, 46, 50, 51], [0, 17], [0], [0, 24, 26], [0, 22, 23], [0, 12, 14, 36, 43], [0], [0, 34, 39, 60, 66, 86, 90, 91], [0, 11, 13, 46, 58], [0, 11, 13, 46, 58], [0, 25, 41, 64, 114, 115, 116], [0, 11, 39, 68, 80, 82, 85], [0, 11, 13, 38, 62, 64, 77, 79, 88], [0, 11, 13, 38, 62, 64, 77, 79, 88], [0, 52, 53, 54, 81, 132, 144, 153, 162], [0, 10], [0, 18, 79, 80], [0, 18, 22, 23], [0], [0, 32], [0, 39, 46], [0, 12, 48, 50, 59, 65, 77, 90, 93], [0, 16, 69, 80, 93, 95], [0, 7, 38, 48, 54], [0, 12, 22, 48, 73, 74], [0, 44, 52, 61, 72, 83, 97, 98, 104, 119, 135, 140], [0], [0, 24, 25], [0, 25, 26], [0, 84, 90, 96, 102, 108, 115, 122, 129, 139, 144, 145, 155, 156, 157, 167, 168, 169, 179, 180], [0], [0, 32], [0, 9], [0], [0, 8, 42], [0, 28, 46, 77, 92, 98], [0, 13, 28, 44, 71, 77], [0, 19, 89], [0, 51, 175, 198, 204], [0, 10, 23, 71, 93], [0, 4, 32], [0], [0], [0], [0, 17, 18], [0, 3, 46], [0, 12, 14], [0], [0, 25, 26], [0], [0], [0], [0, 38], [0, 13], [0, 21, 23], [0], [0, 14], [0, 28, 29], [0, 14, 64, 65, 73, 86, 98, 104], [0, 25, 26, 49, 52, 111, 130, 154, 166, 170, 171], [0, 13, 14, 34, 46, 64, 84, 88, 89], [0, 5, 30], [0, 16, 17], [0, 16, 17], [0, 12, 16, 17], [0], [0], [0, 2, 29, 35], [0, 32, 34, 51, 60, 69, 83, 89], [0, 10, 12, 37, 41, 64, 70], [0, 10, 44], [0, 10, 33, 51, 58, 61, 82, 88], [0, 2, 40, 46], [0, 19, 51], [0, 32, 125], [0, 13, 25, 42, 48, 86, 99], [0, 12, 79, 81, 96, 99, 105], [0, 5, 34], [0, 10, 51, 58, 113, 119, 128], [0, 3, 43], [0, 42], [0], [0, 18], [0, 19, 23, 24], [0, 29], [0, 9, 21, 22], [0, 68, 73, 78, 83, 96, 101, 106, 111, 116, 124, 132, 148], [0, 24, 26], [0, 18, 56, 63, 70, 80, 90, 102, 103, 104, 127], [0, 18, 48, 55, 62, 78, 87], [0, 22, 25], [0, 18, 22], [0], [0, 21, 22], [0, 24, 25], [0], [0, 19, 23, 24], [0, 20, 24, 25], [0, 16], [0, 18], [0, 18, 22, 23], [0, 10], [0], [0], [0], [0], [0, 27, 31, 60, 68, 77], [0, 25, 29, 30, 53, 57, 70, 87, 96], [0], [0, 12, 18, 26], [0, 40, 44, 58, 66], [0, 35, 39, 68, 76, 85, 94], [0], [0], [0], [0, 22, 24, 56, 63], [0], [0, 34, 37], [0], [0, 31, 32], [0, 31, 35, 36], [0, 22, 23], [0, 23], [0, 31, 32], [0], [0], [0, 17, 18], [0, 25, 28, 45, 56, 67, 79, 81, 124], [0, 12, 24], [0, 8], [0, 16, 17], [0, 16, 17], [0, 39, 52, 75, 76], [0, 28, 30, 35, 61, 74, 76, 101, 107], [0, 10], [0, 24], [0, 15, 17], [0, 24], [0, 9, 30, 41, 49, 96, 129, 161], [0, 9, 22, 23, 43, 59, 67, 96], [0, 66, 70, 71, 142, 146, 147, 207, 211, 212], [0, 9, 37, 48, 58, 109, 145], [0, 23, 34, 35], [0, 2, 24, 30], [0, 12, 52, 77], [0, 12, 27, 61, 67, 109], [0, 36, 57, 77, 78, 79], [0, 31], [0, 8, 29, 39, 46, 114, 121, 142, 153, 154, 171, 195, 198, 224], [0, 12, 64], [0, 12, 46], [0, 21, 40, 59, 86, 104, 122, 150, 169, 189], [0, 54, 72, 74, 92, 114, 149], [0, 2, 27, 29, 161, 187, 226, 228, 255, 257, 299, 321, 352, 353, 384, 397, 401, 402, 419, 425], [0, 11, 23, 24], [0], [0], [0], [0, 16, 17], [0], [0], [0], [0, 16, 17], [0, 33, 34], [0, 14, 35], [0, 5, 22], [0, 6, 57, 60, 69], [0, 11, 12], [0, 16, 17], [0, 5, 48, 54], [0, 2, 49, 55], [0, 4, 20], [0, 26, 28, 65, 71], [0, 4, 23, 29], [0, 4, 20, 26], [0, 60, 65, 70, 75, 80, 85, 90, 95, 103, 108, 113, 126], [0, 20, 22, 38, 59, 67, 73, 91], [0, 10, 48, 58, 68, 75, 84, 96, 97, 98, 108], [0, 2, 22, 28], [0, 10, 40, 50, 60, 70, 76], [0], [0, 27, 30], [0, 32, 35], [0], [0, 15, 16], [0, 15, 16], [0], [0, 54, 86, 105], [0, 19, 60, 92], [0, 16, 28], [0], [0, 41, 45, 46], [0, 21], [0, 28, 29], [0, 20], [0, 16], [0], [0, 12, 33, 64, 66, 110, 112, 116, 122], [0, 22, 28, 43], [0, 16, 38, 40, 47, 69, 79, 90, 98, 147, 153, 159], [0, 5, 33, 42, 50], [0, 16, 18, 23, 58, 66, 69, 75], [0, 24, 28, 33, 64, 73, 81], [0, 27, 29, 31, 53], [0, 7, 28, 54, 64, 70, 82, 83], [0, 19, 23, 39, 44, 45, 49, 78, 84], [0, 2, 26], [0, 2, 26], [0, 12, 55, 71, 72], [0, 39, 43, 48, 64, 77, 118, 133, 159, 165, 181, 191, 203, 210], [0], [0, 20, 34, 63, 65], [0, 26, 27], [0, 2, 21, 38, 44], [0, 2, 21, 38, 44], [0, 2, 21, 38, 44], [0, 11, 22, 33, 44, 45], [0, 10, 11], [0, 6, 36], [0, 35, 38], [0, 22, 26, 34, 57, 93, 100, 106, 117, 126, 128], [0, 6, 104, 108, 109, 166, 189, 195], [0, 32, 36, 43, 56, 79, 85, 96, 109, 125, 133], [0, 2, 31, 33, 62], [0, 5, 93, 105, 106, 114, 142, 143], [0, 2, 20, 26], [0], [0, 6, 25, 27, 38, 74, 85, 88, 122, 131, 147, 156, 162, 165, 171], [0, 29, 31, 48, 56, 70, 76], [0, 14, 18, 28, 63, 69, 90], [0], [0, 5, 43, 54, 73, 75, 83], [0, 17, 19, 23, 58, 65, 68, 74, 82, 83], [0, 40, 43], [0], [0, 8, 24], [0, 26, 27], [0], [0, 16, 17], [0, 7, 33, 50, 51], [0, 35], [0, 13, 26, 39, 52, 65], [0, 19, 20], [0, 32, 43, 54, 65, 76, 84], [0, 51], [0, 2, 54, 76, 99, 115, 116, 135, 137, 142, 151, 178, 180, 183, 191, 208, 221, 233], [0, 43, 110, 112, 115, 122, 140, 160, 161, 162, 178, 185, 207, 225, 245, 246, 247, 279, 286, 308, 326, 341, 362, 386], [0, 15, 48, 49, 53, 78], [0, 18, 30, 63, 89, 100, 102], [0, 2, 23, 29], [0, 33], [0, 2, 47, 79, 105, 106, 110, 131], [0, 33, 49, 76, 87, 103, 126, 137, 155, 162, 185, 208], [0, 14, 28, 29], [0, 8, 31, 32, 42, 43, 53, 55], [0], [0, 92, 106, 120, 134, 147, 160, 161, 167, 180, 181, 187, 199, 200, 206, 218, 219, 225, 237, 238, 244, 255, 269, 270, 273], [0, 28, 31, 37], [0, 20, 46, 47, 48, 75, 76], [0, 7, 42, 85, 110, 124, 157, 162, 168], [0, 15, 30, 45, 60, 75, 76, 90], [0, 15, 16, 38, 48, 55, 75, 90, 119, 128, 133], [0, 77, 88, 112, 139, 151, 152, 179, 186, 192, 214], [0], [0, 32, 33], [0, 5, 28], [0, 30, 67, 75, 135], [0, 21, 22], [0, 57, 59, 66, 97, 141, 143, 171, 184, 203, 207, 214, 215], [0, 30, 58, 91, 98, 153], [0, 21, 22], [0, 18, 208, 271, 294, 307, 330, 353, 386, 419, 452, 476, 510, 524, 537, 550, 564, 587, 620, 643, 667, 680, 703, 727, 760, 794, 827, 851, 875, 888, 912, 946, 980, 993, 1026, 1039, 1062, 1080, 1081, 1102, 1103, 1112, 1126, 1139, 1162, 1175, 1198, 1204]]
def lpc (m n : Nat) : Nat := (lpT.getD m []).getD n 0
def clD (k : Nat) : vw_C := vwCl.getD k ("", fun _ => ("", "", "", false), 0)
def FL_0 : List (Nat × Nat × Nat × Nat) := [(0, 25, 8, 2), (0, 41, 8, 6), (0, 85, 5, 0), (0, 88, 5, 6), (0, 91, 5, 13), (0, 94, 5, 17), (0, 100, 8, 4), (0, 107, 8, 5), (0, 135, 5, 7), (0, 142, 5, 10), (0, 156, 5, 12), (1, 11, 0, 0), (1, 17, 0, 1), (1, 21, 0, 2), (1, 24, 0, 3), (1, 28, 0, 4), (1, 35, 1, 0), (1, 53, 1, 3), (1, 60, 5, 11), (1, 72, 5, 10), (1, 75, 5, 0), (1, 101, 5, 12), (2, 12, 1, 0), (2, 18, 1, 1), (2, 22, 1, 2), (2, 25, 1, 3), (2, 29, 1, 4), (2, 33, 1, 5), (2, 36, 1, 6), (2, 39, 1, 7), (2, 42, 1, 8), (2, 45, 1, 9), (2, 49, 1, 10), (2, 52, 1, 11), (2, 55, 1, 12), (2, 59, 1, 13), (2, 76, 5, 0), (2, 79, 5, 6), (2, 82, 5, 8), (2, 85, 5, 9)]
def FL_1 : List (Nat × Nat × Nat × Nat) := [(2, 111, 5, 11), (2, 123, 5, 12), (2, 164, 8, 1), (3, 11, 2, 0), (3, 15, 2, 1), (3, 18, 2, 2), (3, 22, 2, 3), (3, 28, 2, 4), (3, 31, 2, 5), (3, 34, 2, 6), (3, 77, 5, 17), (3, 84, 3, 0), (4, 9, 3, 0), (4, 13, 3, 1), (4, 16, 3, 2), (5, 11, 4, 0), (5, 17, 4, 1), (5, 21, 4, 2), (5, 25, 4, 3), (5, 29, 4, 4), (5, 33, 4, 5), (5, 36, 4, 6), (5, 39, 4, 7), (5, 42, 4, 8), (5, 45, 4, 9), (5, 48, 4, 10), (5, 51, 1, 3), (5, 60, 1, 0), (5, 68, 5, 0), (5, 71, 5, 6), (5, 103, 5, 12), (5, 113, 5, 11), (5, 126, 3, 2), (5, 129, 3, 0), (6, 9, 5, 0), (6, 15, 5, 1), (6, 19, 5, 2), (6, 22, 5, 3), (6, 26, 5, 4), (6, 29, 5, 5)]
def FL_2 : List (Nat × Nat × Nat × Nat) := [(6, 32, 5, 6), (6, 35, 5, 7), (6, 38, 5, 8), (6, 41, 5, 9), (6, 44, 5, 10), (6, 47, 5, 11), (6, 50, 5, 12), (6, 53, 5, 13), (6, 56, 5, 14), (6, 59, 5, 15), (6, 62, 5, 16), (6, 65, 5, 17), (6, 68, 5, 18), (6, 71, 5, 19), (7, 9, 6, 0), (7, 17, 6, 1), (7, 21, 6, 2), (7, 24, 6, 3), (7, 28, 6, 4), (7, 31, 6, 5), (7, 36, 6, 6), (7, 39, 6, 7), (7, 43, 6, 8), (7, 107, 8, 4), (7, 120, 8, 2), (7, 126, 1, 3), (8, 11, 7, 0), (8, 19, 7, 1), (8, 22, 7, 2), (8, 25, 7, 3), (8, 29, 7, 4), (8, 33, 7, 5), (8, 36, 7, 6), (8, 39, 7, 7), (8, 66, 1, 0), (8, 74, 5, 0), (8, 109, 1, 3), (8, 124, 3, 2), (8, 127, 3, 0), (9, 11, 8, 0)]
def FL_3 : List (Nat × Nat × Nat × Nat) := [(9, 15, 8, 1), (9, 19, 8, 2), (9, 22, 8, 3), (9, 25, 8, 4), (9, 28, 8, 5), (9, 31, 8, 6), (9, 34, 8, 7), (10, 11, 9, 0), (10, 17, 9, 1), (10, 20, 9, 2), (10, 23, 9, 3), (10, 26, 9, 4), (10, 29, 9, 5), (10, 33, 9, 6), (10, 36, 9, 7), (10, 40, 9, 8), (10, 44, 5, 13), (10, 57, 5, 12), (10, 60, 5, 6), (10, 91, 5, 8), (10, 94, 5, 2), (11, 10, 10, 0), (11, 19, 10, 1), (11, 26, 10, 2), (11, 33, 10, 3), (11, 40, 10, 4), (11, 47, 10, 5), (11, 54, 10, 6), (11, 61, 10, 7), (11, 68, 10, 8), (11, 75, 10, 9), (11, 79, 10, 10), (11, 83, 10, 11), (11, 87, 10, 12), (11, 102, 8, 1), (11, 117, 1, 0), (11, 127, 5, 0), (11, 130, 5, 6), (11, 133, 5, 10), (11, 136, 5, 4)]
def FL_4 : List (Nat × Nat × Nat × Nat) := [(11, 139, 5, 5), (11, 152, 5, 12), (11, 155, 5, 13), (11, 158, 5, 17), (11, 161, 1, 3), (11, 164, 1, 11), (11, 173, 5, 7), (11, 179, 5, 1), (11, 182, 5, 2), (11, 185, 1, 1), (11, 188, 1, 2), (11, 198, 5, 8), (11, 201, 5, 9), (11, 213, 5, 11), (11, 233, 1, 4), (11, 256, 1, 5), (11, 277, 4, 3), (11, 280, 4, 4), (11, 283, 4, 5), (11, 289, 4, 9), (11, 292, 4, 10), (11, 310, 7, 3), (11, 313, 7, 4), (11, 318, 7, 5), (11, 321, 7, 6), (11, 324, 7, 7), (11, 342, 2, 5), (11, 345, 2, 6), (11, 362, 1, 13), (11, 365, 1, 12), (11, 375, 8, 6), (11, 378, 8, 7), (12, 7, 11, 0), (12, 13, 11, 8), (12, 17, 11, 9), (12, 20, 11, 11), (12, 24, 11, 12), (12, 27, 11, 13), (12, 30, 11, 14), (12, 33, 11, 15)]
def FL_5 : List (Nat × Nat × Nat × Nat) := [(12, 36, 11, 16), (12, 39, 11, 17), (12, 42, 11, 18), (12, 45, 11, 19), (12, 48, 11, 20), (12, 51, 11, 21), (12, 54, 11, 22), (12, 57, 11, 23), (12, 60, 11, 24), (12, 63, 11, 25), (12, 66, 11, 26), (12, 69, 11, 27), (12, 72, 11, 29), (12, 75, 11, 30), (12, 78, 11, 31), (12, 81, 11, 32), (12, 84, 11, 33), (12, 88, 11, 34), (12, 91, 11, 35), (12, 94, 11, 36), (12, 97, 11, 37), (12, 100, 11, 38), (12, 103, 11, 39), (12, 106, 11, 40), (12, 109, 11, 41), (12, 112, 11, 42), (12, 115, 11, 43), (12, 118, 11, 44), (12, 121, 11, 50), (12, 124, 11, 51), (12, 127, 11, 52), (12, 130, 11, 53), (12, 133, 11, 54), (12, 136, 11, 57), (12, 140, 11, 58), (12, 143, 11, 61), (12, 146, 11, 62), (12, 149, 11, 66), (12, 152, 11, 67), (12, 155, 11, 68)]
def FL_6 : List (Nat × Nat × Nat × Nat) := [(12, 158, 11, 69), (12, 161, 11, 70), (12, 164, 11, 71), (12, 167, 11, 72), (12, 170, 11, 73), (12, 173, 11, 74), (12, 176, 11, 75), (12, 179, 11, 76), (12, 182, 11, 77), (12, 185, 11, 78), (12, 188, 11, 79), (12, 191, 11, 80), (12, 194, 11, 81), (12, 197, 11, 82), (12, 200, 11, 83), (12, 203, 11, 84), (12, 206, 11, 85), (12, 209, 11, 86), (12, 212, 11, 87), (12, 215, 11, 89), (12, 218, 11, 93), (12, 221, 11, 97), (12, 224, 11, 1), (12, 227, 11, 5), (12, 230, 11, 6), (12, 233, 11, 2), (12, 236, 11, 3), (12, 247, 11, 4), (12, 267, 11, 10), (12, 283, 11, 28), (12, 313, 11, 45), (12, 340, 11, 7), (12, 346, 11, 46), (12, 350, 11, 47), (12, 353, 11, 48), (12, 356, 11, 49), (12, 365, 11, 55), (12, 440, 11, 56), (12, 483, 11, 59), (12, 486, 11, 60)]
def FL_7 : List (Nat × Nat × Nat × Nat) := [(12, 530, 11, 65), (12, 533, 11, 63), (12, 536, 11, 64), (12, 564, 11, 88), (12, 567, 11, 91), (12, 570, 11, 90), (12, 576, 11, 92), (12, 634, 11, 94), (12, 663, 11, 95), (12, 666, 11, 96), (12, 684, 11, 98)]
def FL : List (Nat × Nat × Nat × Nat) := FL_0 ++ (FL_1 ++ (FL_2 ++ (FL_3 ++ (FL_4 ++ (FL_5 ++ (FL_6 ++ (FL_7 ++ ([]))))))))
set_option maxRecDepth 20000 in
theorem FL_0_ok : ∀ q ∈ FL_0, Cond.fieldLink (cn q.1) q.2.1 (clD q.2.2.1).1 ((clD q.2.2.1).2.1 q.2.2.2).2.1 ((clD q.2.2.1).2.1 q.2.2.2).2.2.1 ∈ lw_tbl := sub_map (f := fun q : Nat × Nat × Nat × Nat => Cond.fieldLink (cn q.1) q.2.1 (clD q.2.2.1).1 ((clD q.2.2.1).2.1 q.2.2.2).2.1 ((clD q.2.2.1).2.1 q.2.2.2).2.2.1) [194, 203, 246, 261, 292, 298, 198, 201, 266, 277, 289, 516, 517, 518, 519, 520, 350, 360, 279, 275, 245, 285, 349, 354, 356, 358, 364, 366, 368, 369, 370, 371, 372, 373, 375, 377, 242, 262, 268, 272] (by decide +kernel)
set_option maxRecDepth 20000 in
theorem FL_1_ok : ∀ q ∈ FL_1, Cond.fieldLink (cn q.1) q.2.1 (clD q.2.2.1).1 ((clD q.2.2.1).2.1 q.2.2.2).2.1 ((clD q.2.2.1).2.1 q.2.2.2).2.2.1 ∈ lw_tbl := sub_map (f := fun q : Nat × Nat × Nat × Nat => Cond.fieldLink (cn q.1) q.2.1 (clD q.2.2.1).1 ((clD q.2.2.1).2.1 q.2.2.2).2.1 ((clD q.2.2.1).2.1 q.2.2.2).2.2.1) [281, 288, 192, 608, 609, 610, 611, 612, 613, 615, 300, 453, 450, 454, 455, 471, 472, 473, 474, 476, 478, 480, 481, 482, 483, 485, 359, 351, 243, 259, 287, 280, 457, 452, 241, 248, 250, 253, 254, 256] (by decide +kernel)
set_option maxRecDepth 20000 in
theorem FL_2_ok : ∀ q ∈ FL_2, Cond.fieldLink (cn q.1) q.2.1 (clD q.2.2.1).1 ((clD q.2.2.1).2.1 q.2.2.2).2.1 ((clD q.2.2.1).2.1 q.2.2.2).2.2.1 ∈ lw_tbl := sub_map (f := fun q : Nat × Nat × Nat × Nat => Cond.fieldLink (cn q.1) q.2.1 (clD q.2.2.1).1 ((clD q.2.2.1).2.1 q.2.2.2).2.1 ((clD q.2.2.1).2.1 q.2.2.2).2.2.1) [258, 264, 267, 271, 274, 278, 283, 290, 294, 295, 296, 297, 301, 302, 416, 417, 418, 419, 420, 421, 422, 423, 424, 199, 195, 363, 538, 539, 540, 541, 543, 545, 547, 549, 352, 244, 362, 456, 451, 189] (by decide +kernel)
set_option maxRecDepth 20000 in
theorem FL_3_ok : ∀ q ∈ FL_3, Cond.fieldLink (cn q.1) q.2.1 (clD q.2.2.1).1 ((clD q.2.2.1).2.1 q.2.2.2).2.1 ((clD q.2.2.1).2.1 q.2.2.2).2.2.1 ∈ lw_tbl := sub_map (f := fun q : Nat × Nat × Nat × Nat => Cond.fieldLink (cn q.1) q.2.1 (clD q.2.2.1).1 ((clD q.2.2.1).2.1 q.2.2.2).2.1 ((clD q.2.2.1).2.1 q.2.2.2).2.2.1) [190, 193, 196, 197, 200, 202, 205, 574, 575, 576, 577, 578, 579, 580, 581, 582, 291, 284, 260, 269, 251, 632, 633, 634, 635, 636, 637, 638, 639, 640, 641, 642, 643, 644, 191, 353, 247, 263, 276, 255] (by decide +kernel)
set_option maxRecDepth 20000 in
theorem FL_4_ok : ∀ q ∈ FL_4, Cond.fieldLink (cn q.1) q.2.1 (clD q.2.2.1).1 ((clD q.2.2.1).2.1 q.2.2.2).2.1 ((clD q.2.2.1).2.1 q.2.2.2).2.2.1 ∈ lw_tbl := sub_map (f := fun q : Nat × Nat × Nat × Nat => Cond.fieldLink (cn q.1) q.2.1 (clD q.2.2.1).1 ((clD q.2.2.1).2.1 q.2.2.2).2.1 ((clD q.2.2.1).2.1 q.2.2.2).2.2.1) [257, 286, 293, 299, 361, 374, 265, 249, 252, 355, 357, 270, 273, 282, 365, 367, 475, 477, 479, 484, 486, 542, 544, 546, 548, 550, 614, 616, 378, 376, 204, 206, 1649, 1657, 1658, 1660, 1661, 1662, 1663, 1664] (by decide +kernel)
set_option maxRecDepth 20000 in
theorem FL_5_ok : ∀ q ∈ FL_5, Cond.fieldLink (cn q.1) q.2.1 (clD q.2.2.1).1 ((clD q.2.2.1).2.1 q.2.2.2).2.1 ((clD q.2.2.1).2.1 q.2.2.2).2.2.1 ∈ lw_tbl := sub_map (f := fun q : Nat × Nat × Nat × Nat => Cond.fieldLink (cn q.1) q.2.1 (clD q.2.2.1).1 ((clD q.2.2.1).2.1 q.2.2.2).2.1 ((clD q.2.2.1).2.1 q.2.2.2).2.2.1) [1665, 1666, 1667, 1668, 1669, 1670, 1671, 1672, 1673, 1674, 1675, 1676, 1678, 1679, 1680, 1681, 1682, 1683, 1684, 1685, 1686, 1687, 1688, 1689, 1690, 1691, 1692, 1693, 1699, 1700, 1701, 1702, 1703, 1706, 1707, 1710, 1711, 1715, 1716, 1717] (by decide +kernel)
set_option maxRecDepth 20000 in
theorem FL_6_ok : ∀ q ∈ FL_6, Cond.fieldLink (cn q.1) q.2.1 (clD q.2.2.1).1 ((clD q.2.2.1).2.1 q.2.2.2).2.1 ((clD q.2.2.1).2.1 q.2.2.2).2.2.1 ∈ lw_tbl := sub_map (f := fun q : Nat × Nat × Nat × Nat => Cond.fieldLink (cn q.1) q.2.1 (clD q.2.2.1).1 ((clD q.2.2.1).2.1 q.2.2.2).2.1 ((clD q.2.2.1).2.1 q.2.2.2).2.2.1) [1718, 1719, 1720, 1721, 1722, 1723, 1724, 1725, 1726, 1727, 1728, 1729, 1730, 1731, 1732, 1733, 1734, 1735, 1736, 1738, 1742, 1746, 1650, 1654, 1655, 1651, 1652, 1653, 1659, 1677, 1694, 1656, 1695, 1696, 1697, 1698, 1704, 1705, 1708, 1709] (by decide +kernel)
set_option maxRecDepth 20000 in
theorem FL_7_ok : ∀ q ∈ FL_7, Cond.fieldLink (cn q.1) q.2.1 (clD q.2.2.1).1 ((clD q.2.2.1).2.1 q.2.2.2).2.1 ((clD q.2.2.1).2.1 q.2.2.2).2.2.1 ∈ lw_tbl := sub_map (f := fun q : Nat × Nat × Nat × Nat => Cond.fieldLink (cn q.1) q.2.1 (clD q.2.2.1).1 ((clD q.2.2.1).2.1 q.2.2.2).2.1 ((clD q.2.2.1).2.1 q.2.2.2).2.2.1) [1714, 1712, 1713, 1737, 1740, 1739, 1741, 1743, 1744, 1745, 1747] (by decide +kernel)
theorem FL_ok : ∀ q ∈ FL, Cond.fieldLink (cn q.1) q.2.1 (clD q.2.2.1).1 ((clD q.2.2.1).2.1 q.2.2.2).2.1 ((clD q.2.2.1).2.1 q.2.2.2).2.2.1 ∈ lw_tbl := by
  intro q h
  rcases List.mem_append.mp h with h | h
  · exact FL_0_ok q h
  rcases List.mem_append.mp h with h | h
  · exact FL_1_ok q h
  rcases List.mem_append.mp h with h | h
  · exact FL_2_ok q h
  rcases List.mem_append.mp h with h | h
  · exact FL_3_ok q h
  rcases List.mem_append.mp h with h | h
  · exact FL_4_ok q h
  rcases List.mem_append.mp h with h | h
  · exact FL_5_ok q h
  rcases List.mem_append.mp h with h | h
  · exact FL_6_ok q h
  rcases List.mem_append.mp h with h | h
  · exact FL_7_ok q h
  cases h
def KI_0 : List (Nat × Nat × Int) := [(14, 265, 1431655765), (14, 266, 858993459), (14, 267, 252645135), (0, 145, 99999), (7, 102, 99999), (9, 85, 99999), (12, 274, 99999)]
def KI : List (Nat × Nat × Int) := KI_0 ++ ([])
set_option maxRecDepth 20000 in
theorem KI_0_ok : ∀ q ∈ KI_0, Cond.constant (cn q.1) q.2.1 (Int32.ofInt q.2.2) ∈ lw_tbl := sub_map (f := fun q : Nat × Nat × Int => Cond.constant (cn q.1) q.2.1 (Int32.ofInt q.2.2)) [955, 956, 957, 857, 1523, 869, 2027] (by decide +kernel)
theorem KI_ok : ∀ q ∈ KI, Cond.constant (cn q.1) q.2.1 (Int32.ofInt q.2.2) ∈ lw_tbl := by
  intro q h
  rcases List.mem_append.mp h with h | h
  · exact KI_0_ok q h
  cases h
def KL_0 : List (Nat × Nat × Int) := [(1, 63, (-1000000000000000)), (2, 114, (-1000000000000000)), (2, 187, 1103515245), (2, 189, 12345), (2, 191, 2147483647), (2, 193, 64), (2, 195, 3), (3, 37, (-1)), (3, 56, (-1000000000000000)), (4, 20, 2), (5, 116, (-1000000000000000)), (6, 74, (-1000000000000000)), (7, 152, (-1000000)), (7, 154, 1000000), (7, 203, 4), (7, 205, 12), (8, 93, (-1)), (10, 114, 9), (11, 217, (-1000000000000000)), (11, 275, (-1)), (12, 286, 27), (12, 288, 97), (12, 413, 5), (12, 421, 3), (12, 426, (-1000000000000000)), (12, 428, 9999), (12, 453, 200), (12, 458, 1103515245), (12, 460, 12345), (12, 462, 2147483648), (12, 464, 64), (12, 472, 40), (12, 474, (-1)), (12, 476, 16), (12, 481, 10), (12, 489, 2), (12, 525, 300), (12, 539, 100), (12, 630, 1000000), (12, 632, (-1000000))]
def KL_1 : List (Nat × Nat × Int) := [(12, 682, 255)]
def KL : List (Nat × Nat × Int) := KL_0 ++ (KL_1 ++ ([]))
set_option maxRecDepth 20000 in
theorem KL_0_ok : ∀ q ∈ KL_0, Cond.constantLong (cn q.1) q.2.1 (Int64.ofInt q.2.2) ∈ lw_tbl := sub_map (f := fun q : Nat × Nat × Int => Cond.constantLong (cn q.1) q.2.1 (Int64.ofInt q.2.2)) [1259, 1032, 1116, 1117, 1118, 1119, 1120, 1141, 1169, 1208, 1202, 237, 1550, 1551, 1576, 1580, 1342, 1390, 1006, 1220, 2021, 2022, 2115, 2147, 2148, 2153, 2224, 2241, 2242, 2243, 2244, 2249, 2250, 2255, 2263, 2272, 2325, 2341, 2488, 2489] (by decide +kernel)
set_option maxRecDepth 20000 in
theorem KL_1_ok : ∀ q ∈ KL_1, Cond.constantLong (cn q.1) q.2.1 (Int64.ofInt q.2.2) ∈ lw_tbl := sub_map (f := fun q : Nat × Nat × Int => Cond.constantLong (cn q.1) q.2.1 (Int64.ofInt q.2.2)) [2517] (by decide +kernel)
theorem KL_ok : ∀ q ∈ KL, Cond.constantLong (cn q.1) q.2.1 (Int64.ofInt q.2.2) ∈ lw_tbl := by
  intro q h
  rcases List.mem_append.mp h with h | h
  · exact KL_0_ok q h
  rcases List.mem_append.mp h with h | h
  · exact KL_1_ok q h
  cases h
def KC_0 : List (Nat × Nat × Nat) := [(2, 1, 5), (11, 7, 8), (11, 16, 1), (11, 23, 5), (11, 30, 6), (11, 37, 3), (11, 44, 4), (11, 51, 0), (11, 58, 7), (11, 65, 9), (11, 72, 2), (13, 7, 10), (13, 10, 11)]
def KC : List (Nat × Nat × Nat) := KC_0 ++ ([])
set_option maxRecDepth 20000 in
theorem KC_0_ok : ∀ q ∈ KC_0, Cond.classLink (cn q.1) q.2.1 (clD q.2.2).1 ∈ lw_tbl := sub_map (f := fun q : Nat × Nat × Nat => Cond.classLink (cn q.1) q.2.1 (clD q.2.2).1) [231, 183, 225, 408, 410, 444, 465, 510, 532, 568, 602, 175, 1643] (by decide +kernel)
theorem KC_ok : ∀ q ∈ KC, Cond.classLink (cn q.1) q.2.1 (clD q.2.2).1 ∈ lw_tbl := by
  intro q h
  rcases List.mem_append.mp h with h | h
  · exact KC_0_ok q h
  cases h
def KD_0 : List (Nat) := [0, 1, 2, 3, 4, 5, 6, 7, 8, 9, 10, 11]
def KD : List (Nat) := KD_0 ++ ([])
set_option maxRecDepth 20000 in
theorem KD1_0_ok : ∀ q ∈ KD_0, Cond.instantiable (clD q).1 (clD q).2.2 ∈ lw_tbl := sub_map (f := fun q : Nat => Cond.instantiable (clD q).1 (clD q).2.2) [511, 226, 603, 445, 466, 232, 411, 533, 184, 569, 176, 1644] (by decide +kernel)
theorem KD1_ok : ∀ q ∈ KD, Cond.instantiable (clD q).1 (clD q).2.2 ∈ lw_tbl := by
  intro q h
  rcases List.mem_append.mp h with h | h
  · exact KD1_0_ok q h
  cases h
set_option maxRecDepth 20000 in
theorem KD2_0_ok : ∀ q ∈ KD_0, Cond.initialized (clD q).1 ∈ lw_tbl := sub_map (f := fun q : Nat => Cond.initialized (clD q).1) [162, 156, 165, 160, 161, 157, 159, 163, 155, 164, 154, 166] (by decide +kernel)
theorem KD2_ok : ∀ q ∈ KD, Cond.initialized (clD q).1 ∈ lw_tbl := by
  intro q h
  rcases List.mem_append.mp h with h | h
  · exact KD2_0_ok q h
  cases h
/-- what a link says: kinds 0 static, 1 virtual, 2 a constructor, 3 a nest mate's, 4 Object's own, 5 the JDK's that are not walked -/
def mlW (q : Nat × Nat × Nat × Nat) : Cond := match q.2.2.2 with
  | 0 => Cond.methodLink (cn q.1) q.2.1 (yM q.2.2.1)
  | 1 => Cond.methodLink (cn q.1) q.2.1 (yM q.2.2.1)
  | 2 => Cond.methodLink (cn q.1) q.2.1 (yM q.2.2.1)
  | 3 => Cond.methodLinkNest (cn q.1) q.2.1 (yM q.2.2.1) "EvenOars"
  | 4 => Cond.methodLink (cn q.1) q.2.1 Lib.objectInit
  | _ => match q.2.2.1 with
    | 0 => Cond.methodLink (cn q.1) q.2.1 ⟨"java/lang/String", "length", "()I"⟩
    | 1 => Cond.methodLink (cn q.1) q.2.1 ⟨"java/lang/String", "charAt", "(I)C"⟩
    | _ => Cond.methodLink (cn q.1) q.2.1 arraycopyName
def ML_0 : List (Nat × Nat × Nat × Nat) := [(0, 9, 151, 1), (0, 14, 87, 1), (0, 21, 154, 1), (0, 29, 152, 1), (0, 33, 11, 0), (0, 37, 155, 1), (0, 46, 156, 1), (0, 50, 12, 0), (0, 54, 153, 1), (0, 58, 157, 1), (0, 61, 13, 0), (0, 64, 14, 0), (0, 67, 17, 0), (0, 70, 18, 0), (0, 73, 19, 0), (0, 76, 20, 0), (0, 79, 21, 0), (0, 82, 23, 0), (0, 97, 161, 1), (0, 103, 92, 1), (0, 110, 158, 1), (0, 114, 93, 1), (0, 118, 15, 0), (0, 121, 95, 1), (0, 124, 159, 1), (0, 127, 160, 1), (0, 131, 16, 0), (0, 139, 150, 1), (0, 146, 94, 1), (0, 150, 162, 1), (0, 153, 96, 1), (0, 159, 22, 0), (0, 162, 97, 1), (0, 165, 98, 1), (0, 168, 99, 1), (1, 3, 0, 4), (1, 31, 26, 1), (1, 41, 27, 1), (1, 45, 28, 1), (1, 49, 36, 1)]
def ML_1 : List (Nat × Nat × Nat × Nat) := [(1, 56, 38, 1), (1, 65, 39, 1), (1, 69, 40, 1), (1, 78, 0, 0), (1, 84, 2, 0), (1, 89, 29, 1), (1, 93, 31, 1), (1, 97, 102, 1), (1, 104, 30, 1), (1, 107, 91, 1), (1, 110, 32, 1), (1, 114, 3, 0), (2, 5, 0, 4), (2, 11, 86, 2), (2, 62, 9, 0), (2, 68, 104, 1), (2, 72, 103, 1), (2, 88, 4, 0), (2, 94, 88, 1), (2, 98, 37, 1), (2, 101, 101, 1), (2, 105, 38, 1), (2, 108, 39, 1), (2, 116, 40, 1), (2, 119, 3, 0), (2, 126, 91, 1), (2, 129, 56, 1), (2, 133, 57, 1), (2, 137, 58, 1), (2, 141, 59, 1), (2, 145, 55, 1), (2, 148, 54, 0), (2, 151, 50, 1), (2, 155, 53, 0), (2, 159, 150, 1), (2, 167, 51, 1), (2, 170, 52, 1), (2, 173, 89, 1), (2, 176, 0, 0), (2, 181, 6, 0)]
def ML_2 : List (Nat × Nat × Nat × Nat) := [(2, 184, 60, 1), (3, 5, 0, 4), (3, 39, 63, 1), (3, 42, 6, 0), (3, 48, 65, 1), (3, 52, 66, 0), (3, 58, 69, 0), (3, 62, 0, 0), (3, 68, 74, 1), (3, 73, 71, 1), (3, 80, 76, 1), (3, 87, 107, 1), (3, 91, 75, 1), (4, 1, 0, 4), (4, 22, 0, 0), (5, 3, 0, 4), (5, 56, 38, 1), (5, 64, 83, 1), (5, 74, 81, 1), (5, 78, 82, 1), (5, 81, 37, 1), (5, 84, 2, 5), (5, 90, 84, 1), (5, 93, 76, 1), (5, 99, 102, 1), (5, 106, 85, 1), (5, 110, 74, 1), (5, 118, 101, 1), (5, 122, 75, 1), (5, 132, 3, 0), (6, 3, 0, 4), (6, 76, 8, 0), (6, 82, 9, 0), (6, 85, 90, 0), (6, 89, 88, 1), (6, 92, 0, 0), (6, 98, 91, 1), (6, 101, 6, 0), (6, 107, 104, 1), (6, 111, 101, 1)]
def ML_3 : List (Nat × Nat × Nat × Nat) := [(7, 3, 0, 4), (7, 46, 151, 1), (7, 51, 156, 1), (7, 55, 153, 1), (7, 59, 157, 1), (7, 62, 110, 1), (7, 66, 114, 1), (7, 69, 154, 1), (7, 73, 111, 1), (7, 76, 120, 1), (7, 80, 112, 1), (7, 83, 119, 0), (7, 86, 155, 1), (7, 90, 113, 1), (7, 93, 115, 1), (7, 96, 116, 1), (7, 99, 165, 0), (7, 103, 161, 1), (7, 110, 121, 1), (7, 113, 117, 1), (7, 117, 118, 1), (7, 123, 152, 1), (7, 131, 6, 0), (7, 137, 123, 1), (7, 141, 124, 1), (7, 144, 126, 1), (7, 148, 125, 1), (7, 156, 5, 0), (7, 160, 7, 0), (7, 162, 133, 1), (7, 166, 127, 1), (7, 170, 134, 1), (7, 174, 40, 1), (7, 178, 132, 0), (7, 182, 41, 1), (7, 186, 42, 1), (7, 189, 129, 1), (7, 192, 130, 0), (7, 196, 128, 1), (7, 199, 131, 0)]
def ML_4 : List (Nat × Nat × Nat × Nat) := [(7, 207, 37, 1), (7, 210, 1, 0), (8, 3, 0, 4), (8, 42, 143, 0), (8, 46, 144, 0), (8, 50, 40, 1), (8, 56, 3, 0), (8, 62, 5, 0), (8, 70, 141, 1), (8, 77, 76, 1), (8, 81, 102, 1), (8, 85, 142, 0), (8, 89, 139, 1), (8, 95, 140, 1), (8, 99, 6, 0), (8, 103, 39, 1), (8, 106, 38, 1), (8, 112, 4, 0), (8, 114, 74, 1), (8, 117, 101, 1), (8, 120, 75, 1), (9, 3, 0, 4), (9, 37, 152, 1), (9, 41, 150, 1), (9, 45, 166, 0), (9, 49, 154, 1), (9, 53, 153, 1), (9, 57, 164, 0), (9, 60, 163, 1), (9, 63, 160, 1), (9, 67, 156, 1), (9, 71, 157, 1), (9, 74, 0, 5), (9, 78, 1, 5), (9, 82, 165, 0), (9, 86, 161, 1), (9, 89, 2, 0), (10, 3, 0, 4), (10, 47, 172, 0), (10, 51, 3, 0)]
def ML_5 : List (Nat × Nat × Nat × Nat) := [(10, 63, 89, 1), (10, 67, 175, 1), (10, 71, 169, 0), (10, 75, 104, 1), (10, 79, 173, 1), (10, 83, 106, 1), (10, 87, 105, 1), (10, 97, 174, 1), (10, 100, 9, 0), (10, 106, 176, 1), (10, 110, 177, 1), (10, 116, 7, 0), (10, 120, 5, 0), (10, 123, 178, 1), (10, 126, 179, 1), (10, 129, 180, 1), (10, 132, 181, 1), (10, 136, 182, 1), (10, 140, 1, 0), (10, 143, 6, 0), (10, 146, 4, 0), (11, 1, 0, 4), (11, 9, 145, 3), (11, 18, 33, 2), (11, 25, 86, 2), (11, 32, 108, 3), (11, 39, 73, 3), (11, 46, 77, 3), (11, 53, 24, 3), (11, 60, 135, 3), (11, 67, 167, 3), (11, 74, 61, 3), (11, 90, 146, 1), (11, 94, 224, 1), (11, 98, 147, 1), (11, 105, 148, 1), (11, 108, 10, 0), (11, 114, 226, 1), (11, 120, 34, 1), (11, 124, 168, 1)]
def ML_6 : List (Nat × Nat × Nat × Nat) := [(11, 142, 0, 0), (11, 148, 100, 1), (11, 167, 36, 1), (11, 170, 89, 1), (11, 176, 88, 1), (11, 191, 91, 1), (11, 194, 38, 1), (11, 204, 37, 1), (11, 207, 35, 1), (11, 210, 90, 0), (11, 219, 40, 1), (11, 223, 41, 1), (11, 227, 42, 1), (11, 230, 102, 1), (11, 237, 43, 1), (11, 240, 44, 1), (11, 244, 225, 1), (11, 247, 45, 1), (11, 250, 46, 1), (11, 253, 47, 1), (11, 259, 62, 1), (11, 262, 64, 1), (11, 265, 67, 0), (11, 268, 68, 0), (11, 271, 78, 1), (11, 286, 79, 1), (11, 295, 80, 1), (11, 298, 25, 1), (11, 302, 136, 0), (11, 306, 137, 1), (11, 314, 138, 1), (11, 327, 169, 0), (11, 331, 170, 1), (11, 335, 171, 1), (11, 338, 70, 1), (11, 348, 72, 0), (11, 352, 109, 1), (11, 355, 122, 1), (11, 359, 48, 1), (11, 369, 49, 1)]
def ML_7 : List (Nat × Nat × Nat × Nat) := [(11, 372, 149, 1), (12, 1, 0, 4), (12, 239, 234, 1), (12, 243, 232, 0), (12, 250, 235, 1), (12, 254, 236, 1), (12, 257, 231, 1), (12, 261, 238, 1), (12, 264, 233, 0), (12, 270, 228, 0), (12, 275, 240, 1), (12, 279, 242, 1), (12, 290, 244, 1), (12, 294, 245, 1), (12, 298, 237, 1), (12, 302, 243, 1), (12, 306, 241, 1), (12, 309, 250, 1), (12, 316, 246, 1), (12, 319, 247, 1), (12, 322, 248, 1), (12, 325, 249, 1), (12, 328, 251, 1), (12, 331, 252, 1), (12, 334, 239, 1), (12, 337, 253, 1), (12, 343, 255, 1), (12, 359, 257, 1), (12, 362, 258, 1), (12, 368, 265, 1), (12, 371, 266, 1), (12, 374, 267, 0), (12, 378, 270, 1), (12, 381, 268, 1), (12, 385, 269, 0), (12, 389, 261, 1), (12, 392, 260, 1), (12, 395, 273, 0), (12, 398, 264, 1), (12, 401, 275, 1)]
def ML_8 : List (Nat × Nat × Nat × Nat) := [(12, 404, 276, 1), (12, 407, 259, 1), (12, 410, 263, 1), (12, 415, 262, 1), (12, 418, 280, 1), (12, 423, 282, 0), (12, 430, 271, 1), (12, 434, 272, 1), (12, 437, 274, 1), (12, 443, 289, 1), (12, 446, 293, 1), (12, 450, 292, 1), (12, 455, 295, 1), (12, 466, 298, 1), (12, 469, 299, 1), (12, 478, 302, 0), (12, 491, 306, 1), (12, 494, 308, 1), (12, 497, 310, 1), (12, 500, 309, 1), (12, 503, 312, 1), (12, 506, 313, 1), (12, 509, 314, 1), (12, 512, 315, 1), (12, 515, 316, 1), (12, 518, 317, 1), (12, 521, 319, 0), (12, 527, 320, 1), (12, 541, 323, 1), (12, 545, 326, 1), (12, 548, 325, 1), (12, 551, 327, 1), (12, 554, 329, 1), (12, 557, 332, 1), (12, 560, 333, 1), (12, 573, 336, 1), (12, 579, 340, 0), (12, 582, 339, 1), (12, 585, 343, 1), (12, 588, 344, 1)]
def ML_9 : List (Nat × Nat × Nat × Nat) := [(12, 591, 337, 1), (12, 594, 345, 1), (12, 597, 346, 1), (12, 600, 341, 1), (12, 603, 342, 1), (12, 606, 338, 1), (12, 609, 347, 1), (12, 612, 348, 1), (12, 615, 349, 1), (12, 618, 350, 1), (12, 621, 352, 1), (12, 624, 354, 1), (12, 627, 351, 1), (12, 637, 355, 0), (12, 640, 357, 1), (12, 644, 356, 0), (12, 647, 365, 1), (12, 650, 366, 1), (12, 653, 360, 1), (12, 657, 359, 1), (12, 660, 358, 1), (12, 669, 362, 1), (12, 672, 353, 1), (12, 675, 361, 1), (12, 678, 363, 1), (12, 687, 367, 0), (12, 691, 370, 1), (13, 9, 183, 2), (13, 12, 227, 2), (13, 13, 184, 1), (13, 17, 229, 1), (13, 18, 185, 1), (13, 22, 230, 1), (13, 23, 186, 1), (13, 27, 254, 1), (13, 28, 187, 1), (13, 32, 256, 1), (13, 33, 188, 1), (13, 36, 277, 1), (13, 37, 189, 1)]
def ML_10 : List (Nat × Nat × Nat × Nat) := [(13, 41, 278, 1), (13, 42, 190, 1), (13, 45, 279, 1), (13, 46, 191, 1), (13, 49, 281, 1), (13, 50, 192, 1), (13, 54, 283, 1), (13, 55, 193, 1), (13, 59, 284, 1), (13, 60, 194, 1), (13, 64, 285, 1), (13, 65, 195, 1), (13, 68, 286, 1), (13, 69, 196, 1), (13, 72, 287, 1), (13, 73, 197, 1), (13, 76, 288, 1), (13, 77, 198, 1), (13, 80, 291, 1), (13, 81, 199, 1), (13, 85, 294, 1), (13, 86, 200, 1), (13, 89, 296, 1), (13, 90, 201, 1), (13, 93, 300, 1), (13, 94, 202, 1), (13, 98, 290, 1), (13, 99, 203, 1), (13, 102, 297, 1), (13, 103, 204, 1), (13, 106, 301, 1), (13, 107, 205, 1), (13, 110, 303, 1), (13, 111, 206, 1), (13, 114, 304, 1), (13, 115, 207, 1), (13, 118, 305, 1), (13, 119, 208, 1), (13, 122, 307, 1), (13, 123, 209, 1)]
def ML_11 : List (Nat × Nat × Nat × Nat) := [(13, 126, 311, 1), (13, 127, 210, 1), (13, 130, 318, 1), (13, 131, 211, 1), (13, 134, 321, 1), (13, 135, 212, 1), (13, 138, 322, 1), (13, 139, 213, 1), (13, 142, 324, 1), (13, 143, 214, 1), (13, 146, 328, 1), (13, 147, 215, 1), (13, 150, 330, 1), (13, 151, 216, 1), (13, 154, 331, 1), (13, 155, 217, 1), (13, 158, 334, 1), (13, 159, 218, 1), (13, 163, 335, 1), (13, 164, 219, 1), (13, 167, 364, 1), (13, 168, 220, 1), (13, 171, 368, 1), (13, 172, 221, 1), (13, 175, 369, 1), (13, 176, 222, 1), (13, 179, 371, 1), (13, 180, 223, 1), (13, 183, 372, 1)]
def ML : List (Nat × Nat × Nat × Nat) := ML_0 ++ (ML_1 ++ (ML_2 ++ (ML_3 ++ (ML_4 ++ (ML_5 ++ (ML_6 ++ (ML_7 ++ (ML_8 ++ (ML_9 ++ (ML_10 ++ (ML_11 ++ ([]))))))))))))
set_option maxRecDepth 20000 in
theorem ML_0_ok : ∀ q ∈ ML_0, mlW q ∈ lw_tbl := sub_map (f := fun q : Nat × Nat × Nat × Nat => mlW q) [703, 707, 712, 723, 727, 909, 731, 795, 798, 803, 807, 832, 851, 854, 862, 881, 884, 902, 810, 818, 822, 828, 835, 847, 838, 842, 843, 846, 858, 865, 874, 887, 898, 890, 905, 515, 1253, 1262, 1268, 1257] (by decide +kernel)
set_option maxRecDepth 20000 in
theorem ML_1_ok : ∀ q ∈ ML_1, mlW q ∈ lw_tbl := sub_map (f := fun q : Nat × Nat × Nat × Nat => mlW q) [1258, 1260, 1261, 1266, 1267, 1272, 1287, 1276, 1277, 1282, 1283, 1281, 230, 233, 346, 925, 932, 989, 984, 985, 1020, 1015, 1016, 1033, 1034, 1066, 1067, 1072, 1084, 1108, 1602, 1606, 1621, 1626, 1625, 1629, 1635, 1633, 1634, 1071] (by decide +kernel)
set_option maxRecDepth 20000 in
theorem ML_2_ok : ∀ q ∈ ML_2, mlW q ∈ lw_tbl := sub_map (f := fun q : Nat × Nat × Nat × Nat => mlW q) [1112, 607, 1142, 1146, 1155, 1159, 1170, 1173, 1449, 1450, 1459, 1454, 1458, 449, 1213, 470, 1189, 1190, 1229, 1233, 1240, 1237, 1194, 1209, 1214, 1215, 1198, 1203, 1204, 1219, 236, 238, 711, 878, 894, 1053, 936, 929, 1369, 1370] (by decide +kernel)
set_option maxRecDepth 20000 in
theorem ML_3_ok : ∀ q ∈ ML_3, mlW q ∈ lw_tbl := sub_map (f := fun q : Nat × Nat × Nat × Nat => mlW q) [415, 1475, 1477, 1478, 1479, 1480, 1510, 1504, 1484, 1492, 1488, 1500, 1505, 1506, 1514, 1518, 1522, 1524, 1496, 1525, 1529, 1503, 1537, 1538, 1590, 1542, 1556, 1553, 1552, 1560, 1564, 1568, 1546, 1547, 1554, 1555, 1572, 1577, 1582, 1586] (by decide +kernel)
set_option maxRecDepth 20000 in
theorem ML_4_ok : ∀ q ∈ ML_4, mlW q ∈ lw_tbl := sub_map (f := fun q : Nat × Nat × Nat × Nat => mlW q) [1581, 1589, 537, 1298, 1301, 1304, 1305, 1306, 1317, 1325, 1326, 1327, 1338, 1343, 1347, 1348, 1322, 1349, 1321, 1323, 1324, 188, 802, 716, 720, 735, 817, 736, 739, 743, 826, 827, 747, 757, 814, 870, 871, 573, 1357, 1371] (by decide +kernel)
set_option maxRecDepth 20000 in
theorem ML_5_ok : ∀ q ∈ ML_5, mlW q ∈ lw_tbl := sub_map (f := fun q : Nat × Nat × Nat × Nat => mlW q) [1380, 1381, 1432, 1364, 1433, 1360, 1365, 1437, 1385, 1386, 1395, 1391, 1394, 1399, 1403, 1413, 1420, 1407, 1417, 1411, 1412, 180, 185, 227, 409, 412, 446, 467, 512, 534, 570, 604, 676, 680, 684, 692, 700, 913, 921, 940] (by decide +kernel)
set_option maxRecDepth 20000 in
theorem ML_6_ok : ∀ q ∈ ML_6, mlW q ∈ lw_tbl := sub_map (f := fun q : Nat × Nat × Nat × Nat => mlW q) [952, 958, 962, 970, 978, 979, 980, 996, 997, 1005, 1011, 1028, 1041, 1049, 1062, 1080, 1092, 1096, 1104, 1125, 1137, 1151, 1166, 1178, 1185, 1225, 1241, 1249, 1295, 1313, 1334, 1354, 1376, 1428, 1445, 1464, 1471, 1533, 1598, 1617] (by decide +kernel)
set_option maxRecDepth 20000 in
theorem ML_7_ok : ∀ q ∈ ML_7, mlW q ∈ lw_tbl := sub_map (f := fun q : Nat × Nat × Nat × Nat => mlW q) [917, 1648, 1960, 1980, 1976, 1972, 1968, 2052, 1995, 1998, 1991, 2017, 1987, 2001, 2005, 2013, 2032, 2040, 1983, 2009, 2023, 2028, 2036, 2044, 2048, 1964, 2056, 2060, 2064, 2128, 2124, 2158, 2092, 2154, 2169, 2096, 2076, 2104, 2084, 2080] (by decide +kernel)
set_option maxRecDepth 20000 in
theorem ML_8_ok : ∀ q ∈ ML_8, mlW q ∈ lw_tbl := sub_map (f := fun q : Nat × Nat × Nat × Nat => mlW q) [2088, 2100, 2111, 2120, 2136, 2144, 2165, 2176, 2184, 2200, 2208, 2212, 2220, 2237, 2233, 2256, 2273, 2281, 2285, 2289, 2305, 2309, 2297, 2301, 2313, 2317, 2330, 2326, 2342, 2358, 2350, 2354, 2366, 2378, 2382, 2410, 2450, 2438, 2426, 2422] (by decide +kernel)
set_option maxRecDepth 20000 in
theorem ML_9_ok : ∀ q ∈ ML_9, mlW q ∈ lw_tbl := sub_map (f := fun q : Nat × Nat × Nat × Nat => mlW q) [2402, 2430, 2434, 2446, 2453, 2457, 2418, 2442, 2414, 2406, 2461, 2465, 2469, 2485, 2477, 2506, 2494, 2498, 2481, 2490, 2502, 2394, 2398, 2473, 2509, 2518, 2529, 177, 1645, 672, 1948, 688, 1952, 696, 1956, 944, 2068, 948, 2072, 966] (by decide +kernel)
set_option maxRecDepth 20000 in
theorem ML_10_ok : ∀ q ∈ ML_10, mlW q ∈ lw_tbl := sub_map (f := fun q : Nat × Nat × Nat × Nat => mlW q) [2107, 974, 2116, 992, 2132, 1001, 2140, 1007, 2149, 1024, 2161, 1037, 2172, 1045, 2180, 1054, 2188, 1058, 2196, 1076, 2204, 1088, 2216, 1100, 2229, 1121, 2192, 1129, 2225, 1133, 2245, 1147, 2251, 1162, 2259, 1174, 2264, 1181, 2268, 1221] (by decide +kernel)
set_option maxRecDepth 20000 in
theorem ML_11_ok : ∀ q ∈ ML_11, mlW q ∈ lw_tbl := sub_map (f := fun q : Nat × Nat × Nat × Nat => mlW q) [2277, 1245, 2293, 1291, 2321, 1309, 2333, 1330, 2337, 1350, 2346, 1372, 2362, 1424, 2370, 1441, 2374, 1460, 2386, 1467, 2390, 1594, 2513, 1609, 2521, 1613, 2525, 1639, 2533] (by decide +kernel)
theorem ML_ok : ∀ q ∈ ML, mlW q ∈ lw_tbl := by
  intro q h
  rcases List.mem_append.mp h with h | h
  · exact ML_0_ok q h
  rcases List.mem_append.mp h with h | h
  · exact ML_1_ok q h
  rcases List.mem_append.mp h with h | h
  · exact ML_2_ok q h
  rcases List.mem_append.mp h with h | h
  · exact ML_3_ok q h
  rcases List.mem_append.mp h with h | h
  · exact ML_4_ok q h
  rcases List.mem_append.mp h with h | h
  · exact ML_5_ok q h
  rcases List.mem_append.mp h with h | h
  · exact ML_6_ok q h
  rcases List.mem_append.mp h with h | h
  · exact ML_7_ok q h
  rcases List.mem_append.mp h with h | h
  · exact ML_8_ok q h
  rcases List.mem_append.mp h with h | h
  · exact ML_9_ok q h
  rcases List.mem_append.mp h with h | h
  · exact ML_10_ok q h
  rcases List.mem_append.mp h with h | h
  · exact ML_11_ok q h
  cases h
def MA_0 : List (Nat) := [0, 1, 2, 3, 4, 5, 6, 7, 8, 9, 10, 11, 12, 13, 14, 15, 16, 17, 18, 19, 20, 21, 22, 23, 24, 25, 26, 27, 28, 29, 30, 31, 32, 33, 34, 35, 36, 37, 38, 39]
def MA_1 : List (Nat) := [40, 41, 42, 43, 44, 45, 46, 47, 48, 49, 50, 51, 52, 53, 54, 55, 56, 57, 58, 59, 60, 61, 62, 63, 64, 65, 66, 67, 68, 69, 70, 71, 72, 73, 74, 75, 76, 77, 78, 79]
def MA_2 : List (Nat) := [80, 81, 82, 83, 84, 85, 86, 87, 88, 89, 90, 91, 92, 93, 94, 95, 96, 97, 98, 99, 100, 101, 102, 103, 104, 105, 106, 107, 108, 109, 110, 111, 112, 113, 114, 115, 116, 117, 118, 119]
def MA_3 : List (Nat) := [120, 121, 122, 123, 124, 125, 126, 127, 128, 129, 130, 131, 132, 133, 134, 135, 136, 137, 138, 139, 140, 141, 142, 143, 144, 145, 146, 147, 148, 149, 150, 151, 152, 153, 154, 155, 156, 157, 158, 159]
def MA_4 : List (Nat) := [160, 161, 162, 163, 164, 165, 166, 167, 168, 169, 170, 171, 172, 173, 174, 175, 176, 177, 178, 179, 180, 181, 182, 183, 184, 185, 186, 187, 188, 189, 190, 191, 192, 193, 194, 195, 196, 197, 198, 199]
def MA_5 : List (Nat) := [200, 201, 202, 203, 204, 205, 206, 207, 208, 209, 210, 211, 212, 213, 214, 215, 216, 217, 218, 219, 220, 221, 222, 223, 224, 225, 226, 227, 228, 229, 230, 231, 232, 233, 234, 235, 236, 237, 238, 239]
def MA_6 : List (Nat) := [240, 241, 242, 243, 244, 245, 246, 247, 248, 249, 250, 251, 252, 253, 254, 255, 256, 257, 258, 259, 260, 261, 262, 263, 264, 265, 266, 267, 268, 269, 270, 271, 272, 273, 274, 275, 276, 277, 278, 279]
def MA_7 : List (Nat) := [280, 281, 282, 283, 284, 285, 286, 287, 288, 289, 290, 291, 292, 293, 294, 295, 296, 297, 298, 299, 300, 301, 302, 303, 304, 305, 306, 307, 308, 309, 310, 311, 312, 313, 314, 315, 316, 317, 318, 319]
def MA_8 : List (Nat) := [320, 321, 322, 323, 324, 325, 326, 327, 328, 329, 330, 331, 332, 333, 334, 335, 336, 337, 338, 339, 340, 341, 342, 343, 344, 345, 346, 347, 348, 349, 350, 351, 352, 353, 354, 355, 356, 357, 358, 359]
def MA_9 : List (Nat) := [360, 361, 362, 363, 364, 365, 366, 367, 368, 369, 370, 371, 372]
def MA : List (Nat) := MA_0 ++ (MA_1 ++ (MA_2 ++ (MA_3 ++ (MA_4 ++ (MA_5 ++ (MA_6 ++ (MA_7 ++ (MA_8 ++ (MA_9 ++ ([]))))))))))
set_option maxRecDepth 20000 in
theorem MA1_0_ok : ∀ q ∈ MA_0, Cond.code (yM q) (bM q) (mxl q) (rM q) ∈ lw_tbl := sub_map (f := fun q : Nat => Cond.code (yM q) (bM q) (mxl q) (rM q)) [954, 1419, 873, 1036, 991, 1308, 931, 1393, 240, 348, 702, 729, 797, 809, 834, 837, 845, 853, 856, 864, 883, 886, 889, 904, 514, 1252, 1256, 1265, 1271, 1275, 1280, 1290, 1286, 229, 924, 1000, 965, 988, 983, 1019] (rfl)
set_option maxRecDepth 20000 in
theorem MA1_1_ok : ∀ q ∈ MA_1, Cond.code (yM q) (bM q) (mxl q) (rM q) ∈ lw_tbl := sub_map (f := fun q : Nat => Cond.code (yM q) (bM q) (mxl q) (rM q)) [1014, 1031, 1044, 1065, 1083, 1099, 1107, 1128, 1601, 1620, 1624, 1632, 1638, 1628, 1608, 1605, 1070, 1075, 1087, 1111, 1115, 606, 1140, 1145, 1154, 1158, 1161, 1168, 1180, 1172, 1448, 1453, 1466, 448, 1201, 1207, 1212, 469, 1188, 1228] (rfl)
set_option maxRecDepth 20000 in
theorem MA1_2_ok : ∀ q ∈ MA_2, Cond.code (yM q) (bM q) (mxl q) (rM q) ∈ lw_tbl := sub_map (f := fun q : Nat => Cond.code (yM q) (bM q) (mxl q) (rM q)) [1244, 1232, 1236, 1193, 1197, 1218, 235, 710, 897, 973, 880, 939, 821, 831, 861, 850, 877, 901, 893, 908, 961, 1023, 1052, 935, 928, 1368, 1363, 1457, 414, 1474, 1483, 1487, 1491, 1509, 1513, 1517, 1521, 1528, 1532, 1502] (rfl)
set_option maxRecDepth 20000 in
theorem MA1_3_ok : ∀ q ∈ MA_3, Cond.code (yM q) (bM q) (mxl q) (rM q) ∈ lw_tbl := sub_map (f := fun q : Nat => Cond.code (yM q) (bM q) (mxl q) (rM q)) [1495, 1499, 1536, 1541, 1593, 1559, 1545, 1567, 1585, 1575, 1579, 1588, 1549, 1563, 1571, 536, 1297, 1316, 1337, 1341, 1346, 1320, 1329, 1300, 1303, 187, 679, 687, 695, 920, 719, 706, 726, 801, 715, 912, 734, 806, 825, 841] (rfl)
set_option maxRecDepth 20000 in
theorem MA1_4_ok : ∀ q ∈ MA_4, Cond.code (yM q) (bM q) (mxl q) (rM q) ∈ lw_tbl := sub_map (f := fun q : Nat => Cond.code (yM q) (bM q) (mxl q) (rM q)) [746, 813, 868, 742, 738, 816, 722, 572, 943, 1356, 1379, 1431, 1359, 1436, 1440, 1384, 1389, 1398, 1402, 1406, 1416, 1423, 1410, 179, 675, 691, 699, 947, 951, 969, 977, 995, 1004, 1010, 1027, 1040, 1048, 1057, 1061, 1079] (rfl)
set_option maxRecDepth 20000 in
theorem MA1_5_ok : ∀ q ∈ MA_5, Cond.code (yM q) (bM q) (mxl q) (rM q) ∈ lw_tbl := sub_map (f := fun q : Nat => Cond.code (yM q) (bM q) (mxl q) (rM q)) [1091, 1103, 1124, 1132, 1136, 1150, 1165, 1177, 1184, 1224, 1248, 1294, 1312, 1333, 1353, 1375, 1427, 1444, 1463, 1470, 1597, 1612, 1616, 1642, 683, 1095, 916, 1647, 2000, 1951, 1955, 1971, 1982, 1997, 1963, 1979, 1975, 2008, 2055, 2051] (rfl)
set_option maxRecDepth 20000 in
theorem MA1_6_ok : ∀ q ∈ MA_6, Cond.code (yM q) (bM q) (mxl q) (rM q) ∈ lw_tbl := sub_map (f := fun q : Nat => Cond.code (yM q) (bM q) (mxl q) (rM q)) [1994, 2035, 2020, 2016, 1990, 2004, 1986, 2012, 2026, 2031, 2043, 2039, 2047, 1967, 1959, 2059, 2071, 2063, 2067, 2103, 2079, 2099, 2123, 2114, 2087, 2131, 2127, 2160, 2157, 2171, 2095, 2168, 2179, 2106, 2187, 2083, 2091, 2075, 2110, 2119] (rfl)
set_option maxRecDepth 20000 in
theorem MA1_7_ok : ∀ q ∈ MA_7, Cond.code (yM q) (bM q) (mxl q) (rM q) ∈ lw_tbl := sub_map (f := fun q : Nat => Cond.code (yM q) (bM q) (mxl q) (rM q)) [2139, 2135, 2146, 2143, 2152, 2164, 2175, 2183, 2191, 2203, 2195, 2199, 2215, 2211, 2207, 2223, 2219, 2228, 2240, 2236, 2232, 2248, 2258, 2254, 2262, 2267, 2276, 2271, 2284, 2292, 2288, 2280, 2308, 2312, 2300, 2304, 2316, 2320, 2296, 2332] (rfl)
set_option maxRecDepth 20000 in
theorem MA1_8_ok : ∀ q ∈ MA_8, Cond.code (yM q) (bM q) (mxl q) (rM q) ∈ lw_tbl := sub_map (f := fun q : Nat => Cond.code (yM q) (bM q) (mxl q) (rM q)) [2329, 2324, 2336, 2345, 2340, 2353, 2361, 2357, 2349, 2369, 2365, 2373, 2381, 2385, 2377, 2389, 2413, 2405, 2460, 2441, 2452, 2449, 2456, 2429, 2425, 2433, 2437, 2421, 2445, 2417, 2409, 2472, 2464, 2401, 2468, 2487, 2508, 2480, 2505, 2493] (rfl)
set_option maxRecDepth 20000 in
theorem MA1_9_ok : ∀ q ∈ MA_9, Cond.code (yM q) (bM q) (mxl q) (rM q) ∈ lw_tbl := sub_map (f := fun q : Nat => Cond.code (yM q) (bM q) (mxl q) (rM q)) [2484, 2476, 2397, 2512, 2393, 2497, 2501, 2520, 2516, 2524, 2532, 2528, 2536] (rfl)
theorem MA1_ok : ∀ q ∈ MA, Cond.code (yM q) (bM q) (mxl q) (rM q) ∈ lw_tbl := by
  intro q h
  rcases List.mem_append.mp h with h | h
  · exact MA1_0_ok q h
  rcases List.mem_append.mp h with h | h
  · exact MA1_1_ok q h
  rcases List.mem_append.mp h with h | h
  · exact MA1_2_ok q h
  rcases List.mem_append.mp h with h | h
  · exact MA1_3_ok q h
  rcases List.mem_append.mp h with h | h
  · exact MA1_4_ok q h
  rcases List.mem_append.mp h with h | h
  · exact MA1_5_ok q h
  rcases List.mem_append.mp h with h | h
  · exact MA1_6_ok q h
  rcases List.mem_append.mp h with h | h
  · exact MA1_7_ok q h
  rcases List.mem_append.mp h with h | h
  · exact MA1_8_ok q h
  rcases List.mem_append.mp h with h | h
  · exact MA1_9_ok q h
  cases h
set_option maxRecDepth 20000 in
theorem MA2_0_ok : ∀ q ∈ MA_0, Cond.initialized (yM q).cls ∈ lw_tbl := sub_map (f := fun q : Nat => Cond.initialized (yM q).cls) [173, 172, 172, 172, 172, 172, 172, 172, 158, 158, 167, 167, 167, 167, 167, 167, 167, 167, 167, 167, 167, 167, 167, 167, 162, 162, 162, 162, 162, 162, 162, 162, 162, 156, 156, 156, 156, 156, 156, 156] (by decide +kernel)
set_option maxRecDepth 20000 in
theorem MA2_1_ok : ∀ q ∈ MA_1, Cond.initialized (yM q).cls ∈ lw_tbl := sub_map (f := fun q : Nat => Cond.initialized (yM q).cls) [156, 156, 156, 156, 156, 156, 156, 156, 156, 156, 156, 156, 156, 156, 156, 156, 156, 156, 156, 156, 156, 165, 165, 165, 165, 165, 165, 165, 165, 165, 165, 165, 165, 160, 160, 160, 160, 161, 161, 161] (by decide +kernel)
set_option maxRecDepth 20000 in
theorem MA2_2_ok : ∀ q ∈ MA_2, Cond.initialized (yM q).cls ∈ lw_tbl := sub_map (f := fun q : Nat => Cond.initialized (yM q).cls) [161, 161, 161, 161, 161, 161, 157, 157, 157, 157, 157, 157, 157, 157, 157, 157, 157, 157, 157, 157, 157, 157, 157, 157, 157, 157, 157, 157, 159, 159, 159, 159, 159, 159, 159, 159, 159, 159, 159, 159] (by decide +kernel)
set_option maxRecDepth 20000 in
theorem MA2_3_ok : ∀ q ∈ MA_3, Cond.initialized (yM q).cls ∈ lw_tbl := sub_map (f := fun q : Nat => Cond.initialized (yM q).cls) [159, 159, 159, 159, 159, 159, 159, 159, 159, 159, 159, 159, 159, 159, 159, 163, 163, 163, 163, 163, 163, 163, 163, 163, 163, 155, 155, 155, 155, 155, 155, 155, 155, 155, 155, 155, 155, 155, 155, 155] (by decide +kernel)
set_option maxRecDepth 20000 in
theorem MA2_4_ok : ∀ q ∈ MA_4, Cond.initialized (yM q).cls ∈ lw_tbl := sub_map (f := fun q : Nat => Cond.initialized (yM q).cls) [155, 155, 155, 155, 155, 155, 155, 164, 164, 164, 164, 164, 164, 164, 164, 164, 164, 164, 164, 164, 164, 164, 164, 154, 154, 154, 154, 154, 154, 154, 154, 154, 154, 154, 154, 154, 154, 154, 154, 154] (by decide +kernel)
set_option maxRecDepth 20000 in
theorem MA2_5_ok : ∀ q ∈ MA_5, Cond.initialized (yM q).cls ∈ lw_tbl := sub_map (f := fun q : Nat => Cond.initialized (yM q).cls) [154, 154, 154, 154, 154, 154, 154, 154, 154, 154, 154, 154, 154, 154, 154, 154, 154, 154, 154, 154, 154, 154, 154, 154, 154, 154, 154, 166, 166, 166, 166, 166, 166, 166, 166, 166, 166, 166, 166, 166] (by decide +kernel)
set_option maxRecDepth 20000 in
theorem MA2_6_ok : ∀ q ∈ MA_6, Cond.initialized (yM q).cls ∈ lw_tbl := sub_map (f := fun q : Nat => Cond.initialized (yM q).cls) [166, 166, 166, 166, 166, 166, 166, 166, 166, 166, 166, 166, 166, 166, 166, 166, 166, 166, 166, 166, 166, 166, 166, 166, 166, 166, 166, 166, 166, 166, 166, 166, 166, 166, 166, 166, 166, 166, 166, 166] (by decide +kernel)
set_option maxRecDepth 20000 in
theorem MA2_7_ok : ∀ q ∈ MA_7, Cond.initialized (yM q).cls ∈ lw_tbl := sub_map (f := fun q : Nat => Cond.initialized (yM q).cls) [166, 166, 166, 166, 166, 166, 166, 166, 166, 166, 166, 166, 166, 166, 166, 166, 166, 166, 166, 166, 166, 166, 166, 166, 166, 166, 166, 166, 166, 166, 166, 166, 166, 166, 166, 166, 166, 166, 166, 166] (by decide +kernel)
set_option maxRecDepth 20000 in
theorem MA2_8_ok : ∀ q ∈ MA_8, Cond.initialized (yM q).cls ∈ lw_tbl := sub_map (f := fun q : Nat => Cond.initialized (yM q).cls) [166, 166, 166, 166, 166, 166, 166, 166, 166, 166, 166, 166, 166, 166, 166, 166, 166, 166, 166, 166, 166, 166, 166, 166, 166, 166, 166, 166, 166, 166, 166, 166, 166, 166, 166, 166, 166, 166, 166, 166] (by decide +kernel)
set_option maxRecDepth 20000 in
theorem MA2_9_ok : ∀ q ∈ MA_9, Cond.initialized (yM q).cls ∈ lw_tbl := sub_map (f := fun q : Nat => Cond.initialized (yM q).cls) [166, 166, 166, 166, 166, 166, 166, 166, 166, 166, 166, 166, 166] (by decide +kernel)
theorem MA2_ok : ∀ q ∈ MA, Cond.initialized (yM q).cls ∈ lw_tbl := by
  intro q h
  rcases List.mem_append.mp h with h | h
  · exact MA2_0_ok q h
  rcases List.mem_append.mp h with h | h
  · exact MA2_1_ok q h
  rcases List.mem_append.mp h with h | h
  · exact MA2_2_ok q h
  rcases List.mem_append.mp h with h | h
  · exact MA2_3_ok q h
  rcases List.mem_append.mp h with h | h
  · exact MA2_4_ok q h
  rcases List.mem_append.mp h with h | h
  · exact MA2_5_ok q h
  rcases List.mem_append.mp h with h | h
  · exact MA2_6_ok q h
  rcases List.mem_append.mp h with h | h
  · exact MA2_7_ok q h
  rcases List.mem_append.mp h with h | h
  · exact MA2_8_ok q h
  rcases List.mem_append.mp h with h | h
  · exact MA2_9_ok q h
  cases h
def MS_0 : List (Nat) := [0, 1, 2, 3, 4, 5, 6, 7, 8, 9, 10, 11, 12, 13, 14, 15, 16, 17, 18, 19, 20, 21, 22, 23, 53, 54, 66, 67, 68, 69, 72, 90, 119, 130, 131, 132, 136, 142, 143, 144]
def MS_1 : List (Nat) := [164, 165, 166, 169, 172, 228, 232, 233, 267, 269, 273, 282, 302, 319, 340, 355, 356, 367]
def MS : List (Nat) := MS_0 ++ (MS_1 ++ ([]))
set_option maxRecDepth 20000 in
theorem MS1_0_ok : ∀ q ∈ MS_0, Cond.static (yM q) ∈ lw_tbl := sub_map (f := fun q : Nat => Cond.static (yM q)) [953, 1418, 872, 1035, 990, 1307, 930, 1392, 239, 347, 701, 728, 796, 808, 833, 836, 844, 852, 855, 863, 882, 885, 888, 903, 1627, 1607, 1160, 1167, 1179, 1171, 1465, 879, 1501, 1578, 1587, 1548, 1296, 1328, 1299, 1302] (by decide +kernel)
set_option maxRecDepth 20000 in
theorem MS1_1_ok : ∀ q ∈ MS_1, Cond.static (yM q) ∈ lw_tbl := sub_map (f := fun q : Nat => Cond.static (yM q)) [737, 815, 721, 1355, 1358, 1999, 1981, 1996, 2159, 2170, 2105, 2145, 2257, 2331, 2451, 2486, 2507, 2519] (by decide +kernel)
theorem MS1_ok : ∀ q ∈ MS, Cond.static (yM q) ∈ lw_tbl := by
  intro q h
  rcases List.mem_append.mp h with h | h
  · exact MS1_0_ok q h
  rcases List.mem_append.mp h with h | h
  · exact MS1_1_ok q h
  cases h
def MI_0 : List (Nat) := [24, 25, 26, 27, 28, 29, 30, 31, 32, 33, 34, 35, 36, 37, 38, 39, 40, 41, 42, 43, 44, 45, 46, 47, 48, 49, 50, 51, 52, 55, 56, 57, 58, 59, 60, 61, 62, 63, 64, 65]
def MI_1 : List (Nat) := [70, 71, 73, 74, 75, 76, 77, 78, 79, 80, 81, 82, 83, 84, 85, 86, 87, 88, 89, 91, 92, 93, 94, 95, 96, 97, 98, 99, 100, 101, 102, 103, 104, 105, 106, 107, 108, 109, 110, 111]
def MI_2 : List (Nat) := [112, 113, 114, 115, 116, 117, 118, 120, 121, 122, 123, 124, 125, 126, 127, 128, 129, 133, 134, 135, 137, 138, 139, 140, 141, 145, 146, 147, 148, 149, 150, 151, 152, 153, 154, 155, 156, 157, 158, 159]
def MI_3 : List (Nat) := [160, 161, 162, 163, 167, 168, 170, 171, 173, 174, 175, 176, 177, 178, 179, 180, 181, 182, 183, 184, 185, 186, 187, 188, 189, 190, 191, 192, 193, 194, 195, 196, 197, 198, 199, 200, 201, 202, 203, 204]
def MI_4 : List (Nat) := [205, 206, 207, 208, 209, 210, 211, 212, 213, 214, 215, 216, 217, 218, 219, 220, 221, 222, 223, 224, 225, 226, 227, 229, 230, 231, 234, 235, 236, 237, 238, 239, 240, 241, 242, 243, 244, 245, 246, 247]
def MI_5 : List (Nat) := [248, 249, 250, 251, 252, 253, 254, 255, 256, 257, 258, 259, 260, 261, 262, 263, 264, 265, 266, 268, 270, 271, 272, 274, 275, 276, 277, 278, 279, 280, 281, 283, 284, 285, 286, 287, 288, 289, 290, 291]
def MI_6 : List (Nat) := [292, 293, 294, 295, 296, 297, 298, 299, 300, 301, 303, 304, 305, 306, 307, 308, 309, 310, 311, 312, 313, 314, 315, 316, 317, 318, 320, 321, 322, 323, 324, 325, 326, 327, 328, 329, 330, 331, 332, 333]
def MI_7 : List (Nat) := [334, 335, 336, 337, 338, 339, 341, 342, 343, 344, 345, 346, 347, 348, 349, 350, 351, 352, 353, 354, 357, 358, 359, 360, 361, 362, 363, 364, 365, 366, 368, 369, 370, 371, 372]
def MI : List (Nat) := MI_0 ++ (MI_1 ++ (MI_2 ++ (MI_3 ++ (MI_4 ++ (MI_5 ++ (MI_6 ++ (MI_7 ++ ([]))))))))
set_option maxRecDepth 20000 in
theorem MI1_0_ok : ∀ q ∈ MI_0, Cond.instanceMethod (yM q) ∈ lw_tbl := sub_map (f := fun q : Nat => Cond.instanceMethod (yM q)) [513, 1250, 1255, 1264, 1270, 1274, 1279, 1289, 1285, 228, 922, 998, 963, 986, 981, 1017, 1012, 1029, 1042, 1063, 1081, 1097, 1105, 1126, 1599, 1618, 1623, 1631, 1637, 1604, 1069, 1074, 1086, 1110, 1114, 605, 1138, 1144, 1152, 1157] (by decide +kernel)
set_option maxRecDepth 20000 in
theorem MI1_1_ok : ∀ q ∈ MI_1, Cond.instanceMethod (yM q) ∈ lw_tbl := sub_map (f := fun q : Nat => Cond.instanceMethod (yM q)) [1446, 1452, 447, 1199, 1205, 1210, 468, 1186, 1226, 1242, 1231, 1235, 1192, 1196, 1217, 234, 708, 895, 971, 937, 819, 829, 859, 848, 875, 899, 891, 906, 959, 1021, 1050, 933, 926, 1366, 1361, 1455, 413, 1472, 1482, 1486] (by decide +kernel)
set_option maxRecDepth 20000 in
theorem MI1_2_ok : ∀ q ∈ MI_2, Cond.instanceMethod (yM q) ∈ lw_tbl := sub_map (f := fun q : Nat => Cond.instanceMethod (yM q)) [1490, 1508, 1512, 1516, 1520, 1527, 1531, 1494, 1498, 1534, 1540, 1592, 1558, 1544, 1566, 1584, 1574, 1562, 1570, 535, 1314, 1335, 1340, 1345, 1319, 186, 677, 685, 693, 918, 717, 704, 724, 799, 713, 910, 732, 804, 823, 839] (by decide +kernel)
set_option maxRecDepth 20000 in
theorem MI1_3_ok : ∀ q ∈ MI_3, Cond.instanceMethod (yM q) ∈ lw_tbl := sub_map (f := fun q : Nat => Cond.instanceMethod (yM q)) [744, 811, 866, 741, 571, 941, 1377, 1429, 1435, 1439, 1383, 1388, 1397, 1401, 1405, 1415, 1422, 1409, 178, 673, 689, 697, 945, 949, 967, 975, 993, 1002, 1008, 1025, 1038, 1046, 1055, 1059, 1077, 1089, 1101, 1122, 1130, 1134] (by decide +kernel)
set_option maxRecDepth 20000 in
theorem MI1_4_ok : ∀ q ∈ MI_4, Cond.instanceMethod (yM q) ∈ lw_tbl := sub_map (f := fun q : Nat => Cond.instanceMethod (yM q)) [1148, 1163, 1175, 1182, 1222, 1246, 1292, 1310, 1331, 1351, 1373, 1425, 1442, 1461, 1468, 1595, 1610, 1614, 1640, 682, 1094, 915, 1646, 1949, 1953, 1970, 1962, 1978, 1974, 2007, 2054, 2050, 1993, 2034, 2019, 2015, 1989, 2003, 1985, 2011] (by decide +kernel)
set_option maxRecDepth 20000 in
theorem MI1_5_ok : ∀ q ∈ MI_5, Cond.instanceMethod (yM q) ∈ lw_tbl := sub_map (f := fun q : Nat => Cond.instanceMethod (yM q)) [2025, 2030, 2042, 2038, 2046, 1966, 1957, 2058, 2069, 2062, 2066, 2102, 2078, 2098, 2122, 2113, 2086, 2130, 2126, 2156, 2094, 2167, 2178, 2186, 2082, 2090, 2073, 2108, 2117, 2138, 2133, 2141, 2150, 2162, 2173, 2181, 2189, 2202, 2193, 2197] (by decide +kernel)
set_option maxRecDepth 20000 in
theorem MI1_6_ok : ∀ q ∈ MI_6, Cond.instanceMethod (yM q) ∈ lw_tbl := sub_map (f := fun q : Nat => Cond.instanceMethod (yM q)) [2214, 2210, 2205, 2222, 2217, 2226, 2239, 2235, 2230, 2246, 2252, 2260, 2265, 2275, 2269, 2283, 2291, 2287, 2278, 2307, 2311, 2299, 2303, 2315, 2319, 2294, 2328, 2322, 2334, 2344, 2338, 2352, 2360, 2356, 2347, 2368, 2363, 2371, 2380, 2384] (by decide +kernel)
set_option maxRecDepth 20000 in
theorem MI1_7_ok : ∀ q ∈ MI_7, Cond.instanceMethod (yM q) ∈ lw_tbl := sub_map (f := fun q : Nat => Cond.instanceMethod (yM q)) [2375, 2387, 2412, 2404, 2459, 2440, 2448, 2455, 2428, 2424, 2432, 2436, 2420, 2444, 2416, 2408, 2471, 2463, 2400, 2467, 2479, 2504, 2492, 2483, 2475, 2396, 2511, 2391, 2496, 2500, 2514, 2522, 2531, 2526, 2534] (by decide +kernel)
theorem MI1_ok : ∀ q ∈ MI, Cond.instanceMethod (yM q) ∈ lw_tbl := by
  intro q h
  rcases List.mem_append.mp h with h | h
  · exact MI1_0_ok q h
  rcases List.mem_append.mp h with h | h
  · exact MI1_1_ok q h
  rcases List.mem_append.mp h with h | h
  · exact MI1_2_ok q h
  rcases List.mem_append.mp h with h | h
  · exact MI1_3_ok q h
  rcases List.mem_append.mp h with h | h
  · exact MI1_4_ok q h
  rcases List.mem_append.mp h with h | h
  · exact MI1_5_ok q h
  rcases List.mem_append.mp h with h | h
  · exact MI1_6_ok q h
  rcases List.mem_append.mp h with h | h
  · exact MI1_7_ok q h
  cases h
def MV_0 : List (Nat) := [25, 26, 27, 28, 29, 30, 31, 32, 34, 35, 36, 37, 38, 39, 40, 41, 42, 43, 44, 45, 46, 47, 48, 49, 50, 51, 52, 55, 56, 57, 58, 59, 60, 62, 63, 64, 65, 70, 71, 74]
def MV_1 : List (Nat) := [75, 76, 78, 79, 80, 81, 82, 83, 84, 85, 87, 88, 89, 91, 92, 93, 94, 95, 96, 97, 98, 99, 100, 101, 102, 103, 104, 105, 106, 107, 109, 110, 111, 112, 113, 114, 115, 116, 117, 118]
def MV_2 : List (Nat) := [120, 121, 122, 123, 124, 125, 126, 127, 128, 129, 133, 134, 137, 138, 139, 140, 141, 146, 147, 148, 149, 150, 151, 152, 153, 154, 155, 156, 157, 158, 159, 160, 161, 162, 163, 168, 170, 171, 173, 174]
def MV_3 : List (Nat) := [175, 176, 177, 178, 179, 180, 181, 182, 184, 185, 186, 187, 188, 189, 190, 191, 192, 193, 194, 195, 196, 197, 198, 199, 200, 201, 202, 203, 204, 205, 206, 207, 208, 209, 210, 211, 212, 213, 214, 215]
def MV_4 : List (Nat) := [216, 217, 218, 219, 220, 221, 222, 223, 224, 225, 226, 229, 230, 231, 234, 235, 236, 237, 238, 239, 240, 241, 242, 243, 244, 245, 246, 247, 248, 249, 250, 251, 252, 253, 254, 255, 256, 257, 258, 259]
def MV_5 : List (Nat) := [260, 261, 262, 263, 264, 265, 266, 268, 270, 271, 272, 274, 275, 276, 277, 278, 279, 280, 281, 283, 284, 285, 286, 287, 288, 289, 290, 291, 292, 293, 294, 295, 296, 297, 298, 299, 300, 301, 303, 304]
def MV_6 : List (Nat) := [305, 306, 307, 308, 309, 310, 311, 312, 313, 314, 315, 316, 317, 318, 320, 321, 322, 323, 324, 325, 326, 327, 328, 329, 330, 331, 332, 333, 334, 335, 336, 337, 338, 339, 341, 342, 343, 344, 345, 346]
def MV_7 : List (Nat) := [347, 348, 349, 350, 351, 352, 353, 354, 357, 358, 359, 360, 361, 362, 363, 364, 365, 366, 368, 369, 370, 371, 372]
def MV : List (Nat) := MV_0 ++ (MV_1 ++ (MV_2 ++ (MV_3 ++ (MV_4 ++ (MV_5 ++ (MV_6 ++ (MV_7 ++ ([]))))))))
set_option maxRecDepth 20000 in
theorem MV1_0_ok : ∀ q ∈ MV_0, Cond.selects (yM q).cls (yM q) (yM q) ∈ lw_tbl := sub_map (f := fun q : Nat => Cond.selects (yM q).cls (yM q) (yM q)) [1251, 16, 17, 18, 19, 20, 22, 21, 923, 999, 964, 987, 982, 1018, 1013, 1030, 1043, 1064, 1082, 1098, 1106, 1127, 1600, 1619, 58, 59, 60, 57, 3, 4, 5, 7, 8, 1139, 9, 1153, 10, 1447, 36, 1200] (by decide +kernel)
set_option maxRecDepth 20000 in
theorem MV1_1_ok : ∀ q ∈ MV_1, Cond.selects (yM q).cls (yM q) (yM q) ∈ lw_tbl := sub_map (f := fun q : Nat => Cond.selects (yM q).cls (yM q) (yM q)) [1206, 1211, 1187, 1227, 1243, 14, 15, 11, 12, 13, 709, 896, 972, 938, 820, 830, 860, 849, 876, 900, 892, 907, 960, 1022, 1051, 934, 927, 1367, 1362, 1456, 1473, 37, 38, 39, 42, 43, 44, 45, 46, 47] (by decide +kernel)
set_option maxRecDepth 20000 in
theorem MV1_2_ok : ∀ q ∈ MV_2, Cond.selects (yM q).cls (yM q) (yM q) ∈ lw_tbl := sub_map (f := fun q : Nat => Cond.selects (yM q).cls (yM q) (yM q)) [40, 41, 1535, 48, 56, 50, 49, 52, 55, 54, 51, 53, 1315, 1336, 24, 25, 23, 678, 686, 694, 919, 718, 705, 725, 800, 714, 911, 733, 805, 824, 840, 745, 812, 867, 1, 942, 1378, 1430, 34, 35] (by decide +kernel)
set_option maxRecDepth 20000 in
theorem MV1_3_ok : ∀ q ∈ MV_3, Cond.selects (yM q).cls (yM q) (yM q) ∈ lw_tbl := sub_map (f := fun q : Nat => Cond.selects (yM q).cls (yM q) (yM q)) [26, 27, 28, 29, 30, 32, 33, 31, 674, 690, 698, 946, 950, 968, 976, 994, 1003, 1009, 1026, 1039, 1047, 1056, 1060, 1078, 1090, 1102, 1123, 1131, 1135, 1149, 1164, 1176, 1183, 1223, 1247, 1293, 1311, 1332, 1352, 1374] (by decide +kernel)
set_option maxRecDepth 20000 in
theorem MV1_4_ok : ∀ q ∈ MV_4, Cond.selects (yM q).cls (yM q) (yM q) ∈ lw_tbl := sub_map (f := fun q : Nat => Cond.selects (yM q).cls (yM q) (yM q)) [1426, 1443, 1462, 1469, 1596, 1611, 1615, 1641, 0, 6, 2, 1950, 1954, 63, 61, 65, 64, 70, 81, 80, 68, 76, 73, 72, 67, 69, 66, 71, 74, 75, 78, 77, 79, 62, 1958, 82, 2070, 83, 84, 91] (by decide +kernel)
set_option maxRecDepth 20000 in
theorem MV1_5_ok : ∀ q ∈ MV_5, Cond.selects (yM q).cls (yM q) (yM q) ∈ lw_tbl := sub_map (f := fun q : Nat => Cond.selects (yM q).cls (yM q) (yM q)) [85, 90, 93, 92, 87, 95, 94, 97, 89, 98, 99, 100, 86, 88, 2074, 2109, 2118, 96, 2134, 2142, 2151, 2163, 2174, 2182, 2190, 101, 2194, 2198, 103, 102, 2206, 104, 2218, 2227, 106, 105, 2231, 2247, 2253, 2261] (by decide +kernel)
set_option maxRecDepth 20000 in
theorem MV1_6_ok : ∀ q ∈ MV_6, Cond.selects (yM q).cls (yM q) (yM q) ∈ lw_tbl := sub_map (f := fun q : Nat => Cond.selects (yM q).cls (yM q) (yM q)) [2266, 107, 2270, 108, 110, 109, 2279, 113, 114, 111, 112, 115, 116, 2295, 117, 2323, 2335, 118, 2339, 119, 121, 120, 2348, 122, 2364, 2372, 123, 124, 2376, 2388, 129, 127, 140, 136, 138, 139, 133, 132, 134, 135] (by decide +kernel)
set_option maxRecDepth 20000 in
theorem MV1_7_ok : ∀ q ∈ MV_7, Cond.selects (yM q).cls (yM q) (yM q) ∈ lw_tbl := sub_map (f := fun q : Nat => Cond.selects (yM q).cls (yM q) (yM q)) [131, 137, 130, 128, 143, 141, 126, 142, 145, 150, 147, 146, 144, 125, 151, 2392, 148, 149, 2515, 2523, 152, 2527, 2535] (by decide +kernel)
theorem MV1_ok : ∀ q ∈ MV, Cond.selects (yM q).cls (yM q) (yM q) ∈ lw_tbl := by
  intro q h
  rcases List.mem_append.mp h with h | h
  · exact MV1_0_ok q h
  rcases List.mem_append.mp h with h | h
  · exact MV1_1_ok q h
  rcases List.mem_append.mp h with h | h
  · exact MV1_2_ok q h
  rcases List.mem_append.mp h with h | h
  · exact MV1_3_ok q h
  rcases List.mem_append.mp h with h | h
  · exact MV1_4_ok q h
  rcases List.mem_append.mp h with h | h
  · exact MV1_5_ok q h
  rcases List.mem_append.mp h with h | h
  · exact MV1_6_ok q h
  rcases List.mem_append.mp h with h | h
  · exact MV1_7_ok q h
  cases h
/-- what is plain of a method's name -/
def mfB (m : Nat) : Bool := decide ((yM m).cls ≠ "java/lang/invoke/MethodHandle" ∧ (yM m).cls ≠ "java/lang/invoke/VarHandle") && (decide ((parseMethodDescriptor (yM m).desc).map (fun d => d.parameters.length) = some (nP m)) && (plainFor (yM m) && (decide ((yM m).cls = cn (on m)) && (decide ((sM m = true ∧ m ∈ MS) ∨ (sM m = false ∧ m ∈ MI)))))) && decide (mxl m ≤ 21)
set_option maxRecDepth 20000 in
theorem mfB_0 : MA_0.all mfB = true := by decide +kernel
set_option maxRecDepth 20000 in
theorem mfB_1 : MA_1.all mfB = true := by decide +kernel
set_option maxRecDepth 20000 in
theorem mfB_2 : MA_2.all mfB = true := by decide +kernel
set_option maxRecDepth 20000 in
theorem mfB_3 : MA_3.all mfB = true := by decide +kernel
set_option maxRecDepth 20000 in
theorem mfB_4 : MA_4.all mfB = true := by decide +kernel
set_option maxRecDepth 20000 in
theorem mfB_5 : MA_5.all mfB = true := by decide +kernel
set_option maxRecDepth 20000 in
theorem mfB_6 : MA_6.all mfB = true := by decide +kernel
set_option maxRecDepth 20000 in
theorem mfB_7 : MA_7.all mfB = true := by decide +kernel
set_option maxRecDepth 20000 in
theorem mfB_8 : MA_8.all mfB = true := by decide +kernel
set_option maxRecDepth 20000 in
theorem mfB_9 : MA_9.all mfB = true := by decide +kernel
theorem mfB_ok : ∀ q ∈ MA, mfB q = true := by
  intro q h
  rcases List.mem_append.mp h with h | h
  · exact List.all_eq_true.mp mfB_0 q h
  rcases List.mem_append.mp h with h | h
  · exact List.all_eq_true.mp mfB_1 q h
  rcases List.mem_append.mp h with h | h
  · exact List.all_eq_true.mp mfB_2 q h
  rcases List.mem_append.mp h with h | h
  · exact List.all_eq_true.mp mfB_3 q h
  rcases List.mem_append.mp h with h | h
  · exact List.all_eq_true.mp mfB_4 q h
  rcases List.mem_append.mp h with h | h
  · exact List.all_eq_true.mp mfB_5 q h
  rcases List.mem_append.mp h with h | h
  · exact List.all_eq_true.mp mfB_6 q h
  rcases List.mem_append.mp h with h | h
  · exact List.all_eq_true.mp mfB_7 q h
  rcases List.mem_append.mp h with h | h
  · exact List.all_eq_true.mp mfB_8 q h
  rcases List.mem_append.mp h with h | h
  · exact List.all_eq_true.mp mfB_9 q h
  cases h
theorem MA_lt {m : Nat} (h : m < 373) : m ∈ MA := by
  rw [show MA = List.range 373 by decide +kernel]
  exact List.mem_range.mpr h
def lw_g : List Cond := lw_tbl.filter goodWord
theorem mem_g {w : Cond} (h : w ∈ lw_tbl) (hg : goodWord w = true) : w ∈ lw_g := List.mem_filter.mpr ⟨h, hg⟩
theorem igX1 : ∀ w ∈ wsX10, w ∈ lw_g := fun w h => mem_g (inX1 w h) (List.all_eq_true.mp (show wsX10.all goodWord = true by decide +kernel) w h)
theorem igX2 : ∀ w ∈ wsX20, w ∈ lw_g := fun w h => mem_g (inX2 w h) (List.all_eq_true.mp (show wsX20.all goodWord = true by decide +kernel) w h)
theorem igX3 : ∀ w ∈ wsX30, w ∈ lw_g := fun w h => mem_g (inX3 w h) (List.all_eq_true.mp (show wsX30.all goodWord = true by decide +kernel) w h)
theorem igX4 : ∀ w ∈ wsX40, w ∈ lw_g := fun w h => mem_g (inX4 w h) (List.all_eq_true.mp (show wsX40.all goodWord = true by decide +kernel) w h)
theorem igX5 : ∀ w ∈ wsX50, w ∈ lw_g := fun w h => mem_g (inX5 w h) (List.all_eq_true.mp (show wsX50.all goodWord = true by decide +kernel) w h)
theorem igX6 : ∀ w ∈ wsX60, w ∈ lw_g := fun w h => mem_g (inX6 w h) (List.all_eq_true.mp (show wsX60.all goodWord = true by decide +kernel) w h)
theorem igX7 : ∀ w ∈ wsX70, w ∈ lw_g := fun w h => mem_g (inX7 w h) (List.all_eq_true.mp (show wsX70.all goodWord = true by decide +kernel) w h)
theorem igX8 : ∀ w ∈ wsX80, w ∈ lw_g := fun w h => mem_g (inX8 w h) (List.all_eq_true.mp (show wsX80.all goodWord = true by decide +kernel) w h)
theorem igX9 : ∀ w ∈ wsX90, w ∈ lw_g := fun w h => mem_g (inX9 w h) (List.all_eq_true.mp (show wsX90.all goodWord = true by decide +kernel) w h)
theorem igX10 : ∀ w ∈ wsX100, w ∈ lw_g := fun w h => mem_g (inX10 w h) (List.all_eq_true.mp (show wsX100.all goodWord = true by decide +kernel) w h)
theorem igX11 : ∀ w ∈ wsX110, w ∈ lw_g := fun w h => mem_g (inX11 w h) (List.all_eq_true.mp (show wsX110.all goodWord = true by decide +kernel) w h)
theorem igX12 : ∀ w ∈ wsX120, w ∈ lw_g := fun w h => mem_g (inX12 w h) (List.all_eq_true.mp (show wsX120.all goodWord = true by decide +kernel) w h)
