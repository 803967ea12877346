theorem goodIn_r {big : List Cond} (ws : List Cond) (ps : List Nat) (hp : ws = ps.filterMap (fun i => big[i]?)) (h : ws.all goodWord = true) : GoodIn big ws := by
  intro w hw
  have h1 := List.all_eq_true.mp h w hw
  rw [hp] at hw
  obtain ⟨i, -, hi⟩ := List.mem_filterMap.mp hw
  have hm : w ∈ big := by first | exact List.mem_of_getElem? hi | exact List.getElem?_mem hi
  exact ⟨hm, good_of_word h1⟩
def RX0 : String := "LeavesObject$Acts"
def TX0 : u_T := fun k => match k with
  | 0 => ("LeavesObject$Acts", "first", "[I", true)
  | _ => ("LeavesObject$Acts", "ran", "I", false)
def tyX0 : Nat → FieldType := fun k => match k with
  | 0 => .array .int
  | _ => .int
theorem nmX0 : ∀ a, a < 2 → ∀ b, b < 2 → a ≠ b → (TX0 a).2.1 ≠ (TX0 b).2.1 := by decide +kernel
theorem tyX0_ok : ∀ k, k < 2 → parseFieldDescriptor (TX0 k).2.2.1 = some (tyX0 k) := by decide +kernel
def RX1 : String := "LeavesObject$Cup"
def TX1 : u_T := fun k => match k with
  | 0 => ("LeavesObject$Cup", "number", "I", false)
  | 1 => ("LeavesObject$Cup", "kind", "I", false)
  | 2 => ("LeavesObject$Cup", "v", "I", false)
  | 3 => ("LeavesObject$Cup", "leaves", "I", false)
  | 4 => ("LeavesObject$Cup", "mood", "I", false)
  | 5 => ("LeavesObject$Cup", "refused", "I", false)
  | _ => ("LeavesObject$Cup", "lines", "[I", true)
def tyX1 : Nat → FieldType := fun k => match k with
  | 0 => .int
  | 1 => .int
  | 2 => .int
  | 3 => .int
  | 4 => .int
  | 5 => .int
  | _ => .array .int
theorem nmX1 : ∀ a, a < 7 → ∀ b, b < 7 → a ≠ b → (TX1 a).2.1 ≠ (TX1 b).2.1 := by decide +kernel
theorem tyX1_ok : ∀ k, k < 7 → parseFieldDescriptor (TX1 k).2.2.1 = some (tyX1 k) := by decide +kernel
def RX2 : String := "LeavesObject$Inn"
def TX2 : u_T := fun k => match k with
  | 0 => ("LeavesObject$Inn", "rise", "I", false)
  | 1 => ("LeavesObject$Inn", "fall", "I", false)
  | 2 => ("LeavesObject$Inn", "changes", "I", false)
  | 3 => ("LeavesObject$Inn", "amounts", "[I", true)
  | 4 => ("LeavesObject$Inn", "ends", "[I", true)
  | 5 => ("LeavesObject$Inn", "steps", "I", false)
  | 6 => ("LeavesObject$Inn", "code", "[I", true)
  | _ => ("LeavesObject$Inn", "asked", "[I", true)
def tyX2 : Nat → FieldType := fun k => match k with
  | 0 => .int
  | 1 => .int
  | 2 => .int
  | 3 => .array .int
  | 4 => .array .int
  | 5 => .int
  | 6 => .array .int
  | _ => .array .int
theorem nmX2 : ∀ a, a < 8 → ∀ b, b < 8 → a ≠ b → (TX2 a).2.1 ≠ (TX2 b).2.1 := by decide +kernel
theorem tyX2_ok : ∀ k, k < 8 → parseFieldDescriptor (TX2 k).2.2.1 = some (tyX2 k) := by decide +kernel
def RX3 : String := "LeavesObject$Leaves"
def TX3 : u_T := fun k => match k with
  | _ => ("", "", "", false)
def tyX3 : Nat → FieldType := fun k => match k with
  | _ => .int
theorem nmX3 : ∀ a, a < 0 → ∀ b, b < 0 → a ≠ b → (TX3 a).2.1 ≠ (TX3 b).2.1 := by decide +kernel
theorem tyX3_ok : ∀ k, k < 0 → parseFieldDescriptor (TX3 k).2.2.1 = some (tyX3 k) := by decide +kernel
def RX4 : String := "LeavesObject$Rows"
def TX4 : u_T := fun k => match k with
  | 0 => ("LeavesObject$Rows", "firsts", "[I", true)
  | 1 => ("LeavesObject$Rows", "seconds", "[I", true)
  | _ => ("LeavesObject$Rows", "size", "I", false)
def tyX4 : Nat → FieldType := fun k => match k with
  | 0 => .array .int
  | 1 => .array .int
  | _ => .int
theorem nmX4 : ∀ a, a < 3 → ∀ b, b < 3 → a ≠ b → (TX4 a).2.1 ≠ (TX4 b).2.1 := by decide +kernel
theorem tyX4_ok : ∀ k, k < 3 → parseFieldDescriptor (TX4 k).2.2.1 = some (tyX4 k) := by decide +kernel
def RX5 : String := "LeavesObject$Table"
def TX5 : u_T := fun k => match k with
  | 0 => ("LeavesObject$Table", "slots", "[LLeavesObject$Cup;", true)
  | 1 => ("LeavesObject$Table", "cupCount", "I", false)
  | 2 => ("LeavesObject$Table", "night", "I", false)
  | 3 => ("LeavesObject$Table", "held", "I", false)
  | 4 => ("LeavesObject$Table", "seen", "LLeavesObject$Rows;", true)
  | 5 => ("LeavesObject$Table", "evening", "LLeavesObject$Rows;", true)
  | _ => ("LeavesObject$Table", "book", "LLeavesObject$Rows;", true)
def tyX5 : Nat → FieldType := fun k => match k with
  | 0 => .array (.object "LeavesObject$Cup")
  | 1 => .int
  | 2 => .int
  | 3 => .int
  | 4 => .object "LeavesObject$Rows"
  | 5 => .object "LeavesObject$Rows"
  | _ => .object "LeavesObject$Rows"
theorem nmX5 : ∀ a, a < 7 → ∀ b, b < 7 → a ≠ b → (TX5 a).2.1 ≠ (TX5 b).2.1 := by decide +kernel
theorem tyX5_ok : ∀ k, k < 7 → parseFieldDescriptor (TX5 k).2.2.1 = some (tyX5 k) := by decide +kernel
def RX6 : String := "LeavesObject$Tape"
def TX6 : u_T := fun k => match k with
  | 0 => ("LeavesObject$Tape", "sort", "I", false)
  | 1 => ("LeavesObject$Tape", "size", "I", false)
  | _ => ("LeavesObject$Tape", "items", "[J", true)
def tyX6 : Nat → FieldType := fun k => match k with
  | 0 => .int
  | 1 => .int
  | _ => .array .long
theorem nmX6 : ∀ a, a < 3 → ∀ b, b < 3 → a ≠ b → (TX6 a).2.1 ≠ (TX6 b).2.1 := by decide +kernel
theorem tyX6_ok : ∀ k, k < 3 → parseFieldDescriptor (TX6 k).2.2.1 = some (tyX6 k) := by decide +kernel
def RX7 : String := "LeavesObject$Text"
def TX7 : u_T := fun k => match k with
  | 0 => ("LeavesObject$Text", "signs", "[I", true)
  | 1 => ("LeavesObject$Text", "size", "I", false)
  | _ => ("LeavesObject$Text", "place", "I", false)
def tyX7 : Nat → FieldType := fun k => match k with
  | 0 => .array .int
  | 1 => .int
  | _ => .int
theorem nmX7 : ∀ a, a < 3 → ∀ b, b < 3 → a ≠ b → (TX7 a).2.1 ≠ (TX7 b).2.1 := by decide +kernel
theorem tyX7_ok : ∀ k, k < 3 → parseFieldDescriptor (TX7 k).2.2.1 = some (tyX7 k) := by decide +kernel
def RX8 : String := "LeavesObject$Tries"
def TX8 : u_T := fun k => match k with
  | 0 => ("LeavesObject$Tries", "leaves", "[I", true)
  | 1 => ("LeavesObject$Tries", "moods", "[I", true)
  | _ => ("LeavesObject$Tries", "cup", "LLeavesObject$Cup;", true)
def tyX8 : Nat → FieldType := fun k => match k with
  | 0 => .array .int
  | 1 => .array .int
  | _ => .object "LeavesObject$Cup"
theorem nmX8 : ∀ a, a < 3 → ∀ b, b < 3 → a ≠ b → (TX8 a).2.1 ≠ (TX8 b).2.1 := by decide +kernel
theorem tyX8_ok : ∀ k, k < 3 → parseFieldDescriptor (TX8 k).2.2.1 = some (tyX8 k) := by decide +kernel
def RX9 : String := "LeavesObject"
def TX9 : u_T := fun k => match k with
  | 0 => ("LeavesObject", "now", "LLeavesObject$Table;", true)
  | 1 => ("LeavesObject", "kept", "LLeavesObject$Table;", true)
  | 2 => ("LeavesObject", "evenings", "LLeavesObject$Table;", true)
  | 3 => ("LeavesObject", "isKept", "Z", false)
  | 4 => ("LeavesObject", "text", "LLeavesObject$Text;", true)
  | 5 => ("LeavesObject", "inns", "[LLeavesObject$Inn;", true)
  | 6 => ("LeavesObject", "innCount", "I", false)
  | 7 => ("LeavesObject", "without", "LLeavesObject$Inn;", true)
  | 8 => ("LeavesObject", "trial", "LLeavesObject$Cup;", true)
  | 9 => ("LeavesObject", "tries", "LLeavesObject$Tries;", true)
  | 10 => ("LeavesObject", "acts", "LLeavesObject$Acts;", true)
  | _ => ("LeavesObject", "tapes", "[LLeavesObject$Tape;", true)
def tyX9 : Nat → FieldType := fun k => match k with
  | 0 => .object "LeavesObject$Table"
  | 1 => .object "LeavesObject$Table"
  | 2 => .object "LeavesObject$Table"
  | 3 => .boolean
  | 4 => .object "LeavesObject$Text"
  | 5 => .array (.object "LeavesObject$Inn")
  | 6 => .int
  | 7 => .object "LeavesObject$Inn"
  | 8 => .object "LeavesObject$Cup"
  | 9 => .object "LeavesObject$Tries"
  | 10 => .object "LeavesObject$Acts"
  | _ => .array (.object "LeavesObject$Tape")
theorem nmX9 : ∀ a, a < 12 → ∀ b, b < 12 → a ≠ b → (TX9 a).2.1 ≠ (TX9 b).2.1 := by decide +kernel
theorem tyX9_ok : ∀ k, k < 12 → parseFieldDescriptor (TX9 k).2.2.1 = some (tyX9 k) := by decide +kernel
def RX10 : String := "LeavesObjectModel"
def TX10 : u_T := fun k => match k with
  | 0 => ("LeavesObjectModel", "cups", "I", false)
  | 1 => ("LeavesObjectModel", "nights", "I", false)
  | 2 => ("LeavesObjectModel", "kind", "[I", true)
  | 3 => ("LeavesObjectModel", "v", "[I", true)
  | 4 => ("LeavesObjectModel", "lies", "[I", true)
  | 5 => ("LeavesObjectModel", "mood", "[I", true)
  | 6 => ("LeavesObjectModel", "refused", "[I", true)
  | 7 => ("LeavesObjectModel", "lines", "[I", true)
  | 8 => ("LeavesObjectModel", "inns", "I", false)
  | 9 => ("LeavesObjectModel", "the", "I", false)
  | 10 => ("LeavesObjectModel", "fed", "I", false)
  | 11 => ("LeavesObjectModel", "at", "I", false)
  | 12 => ("LeavesObjectModel", "digits", "I", false)
  | 13 => ("LeavesObjectModel", "text", "[I", true)
  | 14 => ("LeavesObjectModel", "clauses", "[I", true)
  | 15 => ("LeavesObjectModel", "word", "[I", true)
  | 16 => ("LeavesObjectModel", "number", "[I", true)
  | 17 => ("LeavesObjectModel", "from", "[I", true)
  | 18 => ("LeavesObjectModel", "to", "[I", true)
  | 19 => ("LeavesObjectModel", "sign", "[I", true)
  | 20 => ("LeavesObjectModel", "waits", "[I", true)
  | 21 => ("LeavesObjectModel", "signs", "I", false)
  | 22 => ("LeavesObjectModel", "waiting", "I", false)
  | 23 => ("LeavesObjectModel", "open", "I", false)
  | 24 => ("LeavesObjectModel", "letters", "[I", true)
  | 25 => ("LeavesObjectModel", "pile", "[Z", true)
  | 26 => ("LeavesObjectModel", "mostRefused", "I", false)
  | 27 => ("LeavesObjectModel", "keptNights", "I", false)
  | 28 => ("LeavesObjectModel", "keptLies", "[I", true)
  | 29 => ("LeavesObjectModel", "keptMood", "[I", true)
  | 30 => ("LeavesObjectModel", "keptRefused", "[I", true)
  | 31 => ("LeavesObjectModel", "seen", "I", false)
  | 32 => ("LeavesObjectModel", "seenSaying", "[I", true)
  | 33 => ("LeavesObjectModel", "seenLies", "[I", true)
  | 34 => ("LeavesObjectModel", "evenings", "I", false)
  | 35 => ("LeavesObjectModel", "books", "I", false)
  | 36 => ("LeavesObjectModel", "eveningCup", "[I", true)
  | 37 => ("LeavesObjectModel", "eveningSaying", "[I", true)
  | 38 => ("LeavesObjectModel", "bookCup", "[I", true)
  | 39 => ("LeavesObjectModel", "bookLies", "[I", true)
  | 40 => ("LeavesObjectModel", "hasImage", "Z", false)
  | 41 => ("LeavesObjectModel", "imageThe", "I", false)
  | 42 => ("LeavesObjectModel", "imageCups", "I", false)
  | 43 => ("LeavesObjectModel", "imageNights", "I", false)
  | 44 => ("LeavesObjectModel", "imageSeen", "I", false)
  | 45 => ("LeavesObjectModel", "imageEvenings", "I", false)
  | 46 => ("LeavesObjectModel", "imageBooks", "I", false)
  | 47 => ("LeavesObjectModel", "imageKind", "[I", true)
  | 48 => ("LeavesObjectModel", "imageV", "[I", true)
  | 49 => ("LeavesObjectModel", "imageLies", "[I", true)
  | 50 => ("LeavesObjectModel", "imageMood", "[I", true)
  | 51 => ("LeavesObjectModel", "imageRefused", "[I", true)
  | 52 => ("LeavesObjectModel", "imageLines", "[I", true)
  | 53 => ("LeavesObjectModel", "imageSaying", "[I", true)
  | 54 => ("LeavesObjectModel", "imageSeenLies", "[I", true)
  | 55 => ("LeavesObjectModel", "imageCup", "[I", true)
  | 56 => ("LeavesObjectModel", "imageSaid", "[I", true)
  | 57 => ("LeavesObjectModel", "imageBookCup", "[I", true)
  | 58 => ("LeavesObjectModel", "imageBookLies", "[I", true)
  | 59 => ("LeavesObjectModel", "ran", "I", false)
  | 60 => ("LeavesObjectModel", "bodies", "[I", true)
  | 61 => ("LeavesObjectModel", "sort", "[I", true)
  | 62 => ("LeavesObjectModel", "length", "[I", true)
  | 63 => ("LeavesObjectModel", "item", "[J", true)
  | _ => ("LeavesObjectModel", "aside", "[J", true)
def tyX10 : Nat → FieldType := fun k => match k with
  | 0 => .int
  | 1 => .int
  | 2 => .array .int
  | 3 => .array .int
  | 4 => .array .int
  | 5 => .array .int
  | 6 => .array .int
  | 7 => .array .int
  | 8 => .int
  | 9 => .int
  | 10 => .int
  | 11 => .int
  | 12 => .int
  | 13 => .array .int
  | 14 => .array .int
  | 15 => .array .int
  | 16 => .array .int
  | 17 => .array .int
  | 18 => .array .int
  | 19 => .array .int
  | 20 => .array .int
  | 21 => .int
  | 22 => .int
  | 23 => .int
  | 24 => .array .int
  | 25 => .array .boolean
  | 26 => .int
  | 27 => .int
  | 28 => .array .int
  | 29 => .array .int
  | 30 => .array .int
  | 31 => .int
  | 32 => .array .int
  | 33 => .array .int
  | 34 => .int
  | 35 => .int
  | 36 => .array .int
  | 37 => .array .int
  | 38 => .array .int
  | 39 => .array .int
  | 40 => .boolean
  | 41 => .int
  | 42 => .int
  | 43 => .int
  | 44 => .int
  | 45 => .int
  | 46 => .int
  | 47 => .array .int
  | 48 => .array .int
  | 49 => .array .int
  | 50 => .array .int
  | 51 => .array .int
  | 52 => .array .int
  | 53 => .array .int
  | 54 => .array .int
  | 55 => .array .int
  | 56 => .array .int
  | 57 => .array .int
  | 58 => .array .int
  | 59 => .int
  | 60 => .array .int
  | 61 => .array .int
  | 62 => .array .int
  | 63 => .array .long
  | _ => .array .long
theorem nmX10 : ∀ a, a < 65 → ∀ b, b < 65 → a ≠ b → (TX10 a).2.1 ≠ (TX10 b).2.1 := by decide +kernel
theorem tyX10_ok : ∀ k, k < 65 → parseFieldDescriptor (TX10 k).2.2.1 = some (tyX10 k) := by decide +kernel
set_option maxRecDepth 20000 in
theorem inX0 : ∀ w ∈ u_ws RX0 TX0 2, w ∈ lw_tbl := fun w h => (goodIn_r (big := lw_tbl) (u_ws RX0 TX0 2) [294, 296] (by decide +kernel) (by decide +kernel) w h).1
set_option maxRecDepth 20000 in
theorem inX1 : ∀ w ∈ u_ws RX1 TX1 7, w ∈ lw_tbl := fun w h => (goodIn_r (big := lw_tbl) (u_ws RX1 TX1 7) [166, 168, 170, 172, 174, 176, 178] (by decide +kernel) (by decide +kernel) w h).1
set_option maxRecDepth 20000 in
theorem inX2 : ∀ w ∈ u_ws RX2 TX2 8, w ∈ lw_tbl := fun w h => (goodIn_r (big := lw_tbl) (u_ws RX2 TX2 8) [248, 250, 252, 254, 256, 258, 260, 262] (by decide +kernel) (by decide +kernel) w h).1
set_option maxRecDepth 20000 in
theorem inX3 : ∀ w ∈ u_ws RX3 TX3 0, w ∈ lw_tbl := fun w h => (goodIn_r (big := lw_tbl) (u_ws RX3 TX3 0) [] (by decide +kernel) (by decide +kernel) w h).1
set_option maxRecDepth 20000 in
theorem inX4 : ∀ w ∈ u_ws RX4 TX4 3, w ∈ lw_tbl := fun w h => (goodIn_r (big := lw_tbl) (u_ws RX4 TX4 3) [129, 131, 133] (by decide +kernel) (by decide +kernel) w h).1
set_option maxRecDepth 20000 in
theorem inX5 : ∀ w ∈ u_ws RX5 TX5 7, w ∈ lw_tbl := fun w h => (goodIn_r (big := lw_tbl) (u_ws RX5 TX5 7) [194, 196, 198, 200, 202, 204, 206] (by decide +kernel) (by decide +kernel) w h).1
set_option maxRecDepth 20000 in
theorem inX6 : ∀ w ∈ u_ws RX6 TX6 3, w ∈ lw_tbl := fun w h => (goodIn_r (big := lw_tbl) (u_ws RX6 TX6 3) [311, 313, 315] (by decide +kernel) (by decide +kernel) w h).1
set_option maxRecDepth 20000 in
theorem inX7 : ∀ w ∈ u_ws RX7 TX7 3, w ∈ lw_tbl := fun w h => (goodIn_r (big := lw_tbl) (u_ws RX7 TX7 3) [220, 222, 224] (by decide +kernel) (by decide +kernel) w h).1
set_option maxRecDepth 20000 in
theorem inX8 : ∀ w ∈ u_ws RX8 TX8 3, w ∈ lw_tbl := fun w h => (goodIn_r (big := lw_tbl) (u_ws RX8 TX8 3) [278, 280, 282] (by decide +kernel) (by decide +kernel) w h).1
set_option maxRecDepth 20000 in
theorem inX9 : ∀ w ∈ u_ws RX9 TX9 12, w ∈ lw_tbl := fun w h => (goodIn_r (big := lw_tbl) (u_ws RX9 TX9 12) [331, 333, 335, 337, 339, 341, 343, 345, 347, 349, 351, 353] (by decide +kernel) (by decide +kernel) w h).1
set_option maxRecDepth 20000 in
theorem inX10 : ∀ w ∈ u_ws RX10 TX10 65, w ∈ lw_tbl := fun w h => (goodIn_r (big := lw_tbl) (u_ws RX10 TX10 65) [991, 993, 995, 997, 999, 1001, 1003, 1005, 1007, 1009, 1011, 1013, 1015, 1017, 1019, 1021, 1023, 1025, 1027, 1029, 1031, 1033, 1035, 1037, 1039, 1041, 1043, 1045, 1047, 1049, 1051, 1053, 1055, 1057, 1059, 1061, 1063, 1065, 1067, 1069, 1071, 1073, 1075, 1077, 1079, 1081, 1083, 1085, 1087, 1089, 1091, 1093, 1095, 1097, 1099, 1101, 1103, 1105, 1107, 1109, 1111, 1113, 1115, 1117, 1119] (by decide +kernel) (by decide +kernel) w h).1
abbrev classes : List vw_C := [(RX0, TX0, 2), (RX1, TX1, 7), (RX2, TX2, 8), (RX4, TX4, 3), (RX4, TX4, 3), (RX5, TX5, 7), (RX6, TX6, 3), (RX7, TX7, 3), (RX8, TX8, 3), (RX9, TX9, 12), (RX10, TX10, 65)]
