def RX0 : String := "TwoFliers$Book"
def TX0 : u_T := fun k => match k with
  | 0 => ("TwoFliers$Book", "signs", "[LTwoFliers$Sign;", true)
  | _ => ("TwoFliers$Book", "many", "I", false)
def tyX0 : Nat → FieldType := fun k => match k with
  | 0 => .array (.object "TwoFliers$Sign")
  | _ => .int
theorem nmX0 : ∀ a, a < 2 → ∀ b, b < 2 → a ≠ b → (TX0 a).2.1 ≠ (TX0 b).2.1 := by decide +kernel
theorem tyX0_ok : ∀ k, k < 2 → parseFieldDescriptor (TX0 k).2.2.1 = some (tyX0 k) := by decide +kernel
def RX2 : String := "TwoFliers$Odds"
def TX2 : u_T := fun k => match k with
  | 0 => ("TwoFliers$Odds", "plane", "LTwoFliers$Plane;", true)
  | 1 => ("TwoFliers$Odds", "book", "LTwoFliers$Book;", true)
  | 2 => ("TwoFliers$Odds", "stories", "[[I", true)
  | 3 => ("TwoFliers$Odds", "weight", "[J", true)
  | 4 => ("TwoFliers$Odds", "byHour", "[J", true)
  | 5 => ("TwoFliers$Odds", "all", "J", false)
  | 6 => ("TwoFliers$Odds", "now", "[J", false)
  | 7 => ("TwoFliers$Odds", "next", "[J", false)
  | _ => ("TwoFliers$Odds", "atLast", "[J", true)
def tyX2 : Nat → FieldType := fun k => match k with
  | 0 => .object "TwoFliers$Plane"
  | 1 => .object "TwoFliers$Book"
  | 2 => .array (.array .int)
  | 3 => .array .long
  | 4 => .array .long
  | 5 => .long
  | 6 => .array .long
  | 7 => .array .long
  | _ => .array .long
theorem nmX2 : ∀ a, a < 9 → ∀ b, b < 9 → a ≠ b → (TX2 a).2.1 ≠ (TX2 b).2.1 := by decide +kernel
theorem tyX2_ok : ∀ k, k < 9 → parseFieldDescriptor (TX2 k).2.2.1 = some (tyX2 k) := by decide +kernel
def RX3 : String := "TwoFliers$Plane"
def TX3 : u_T := fun k => match k with
  | 0 => ("TwoFliers$Plane", "cell", "I", false)
  | 1 => ("TwoFliers$Plane", "hours", "I", false)
  | 2 => ("TwoFliers$Plane", "courses", "[I", true)
  | _ => ("TwoFliers$Plane", "ends", "[I", true)
def tyX3 : Nat → FieldType := fun k => match k with
  | 0 => .int
  | 1 => .int
  | 2 => .array .int
  | _ => .array .int
theorem nmX3 : ∀ a, a < 4 → ∀ b, b < 4 → a ≠ b → (TX3 a).2.1 ≠ (TX3 b).2.1 := by decide +kernel
theorem tyX3_ok : ∀ k, k < 4 → parseFieldDescriptor (TX3 k).2.2.1 = some (tyX3 k) := by decide +kernel
def RX4 : String := "TwoFliers$Reader"
def TX4 : u_T := fun k => match k with
  | 0 => ("TwoFliers$Reader", "text", "[B", false)
  | 1 => ("TwoFliers$Reader", "size", "I", false)
  | 2 => ("TwoFliers$Reader", "place", "I", false)
  | 3 => ("TwoFliers$Reader", "fault", "I", false)
  | 4 => ("TwoFliers$Reader", "laid", "[I", true)
  | _ => ("TwoFliers$Reader", "items", "I", false)
def tyX4 : Nat → FieldType := fun k => match k with
  | 0 => .array .byte
  | 1 => .int
  | 2 => .int
  | 3 => .int
  | 4 => .array .int
  | _ => .int
theorem nmX4 : ∀ a, a < 6 → ∀ b, b < 6 → a ≠ b → (TX4 a).2.1 ≠ (TX4 b).2.1 := by decide +kernel
theorem tyX4_ok : ∀ k, k < 6 → parseFieldDescriptor (TX4 k).2.2.1 = some (tyX4 k) := by decide +kernel
def RX5 : String := "TwoFliers$Ship"
def TX5 : u_T := fun k => match k with
  | 0 => ("TwoFliers$Ship", "bestWay", "[I", true)
  | 1 => ("TwoFliers$Ship", "way", "[I", true)
  | 2 => ("TwoFliers$Ship", "best", "J", false)
  | _ => ("TwoFliers$Ship", "hours", "I", false)
def tyX5 : Nat → FieldType := fun k => match k with
  | 0 => .array .int
  | 1 => .array .int
  | 2 => .long
  | _ => .int
theorem nmX5 : ∀ a, a < 4 → ∀ b, b < 4 → a ≠ b → (TX5 a).2.1 ≠ (TX5 b).2.1 := by decide +kernel
theorem tyX5_ok : ∀ k, k < 4 → parseFieldDescriptor (TX5 k).2.2.1 = some (tyX5 k) := by decide +kernel
def RX6 : String := "TwoFliers$Sign"
def TX6 : u_T := fun k => match k with
  | 0 => ("TwoFliers$Sign", "kind", "I", false)
  | 1 => ("TwoFliers$Sign", "a", "I", false)
  | 2 => ("TwoFliers$Sign", "b", "I", false)
  | 3 => ("TwoFliers$Sign", "c", "I", false)
  | _ => ("TwoFliers$Sign", "undone", "Z", false)
def tyX6 : Nat → FieldType := fun k => match k with
  | 0 => .int
  | 1 => .int
  | 2 => .int
  | 3 => .int
  | _ => .boolean
theorem nmX6 : ∀ a, a < 5 → ∀ b, b < 5 → a ≠ b → (TX6 a).2.1 ≠ (TX6 b).2.1 := by decide +kernel
theorem tyX6_ok : ∀ k, k < 5 → parseFieldDescriptor (TX6 k).2.2.1 = some (tyX6 k) := by decide +kernel
def RX7 : String := "TwoFliers"
def TX7 : u_T := fun k => match k with
  | 0 => ("TwoFliers", "rows", "[[I", true)
  | 1 => ("TwoFliers", "rowSizes", "[I", true)
  | 2 => ("TwoFliers", "texts", "[[B", true)
  | 3 => ("TwoFliers", "textSizes", "[I", true)
  | 4 => ("TwoFliers", "odds", "LTwoFliers$Odds;", true)
  | 5 => ("TwoFliers", "plane", "LTwoFliers$Plane;", true)
  | 6 => ("TwoFliers", "book", "LTwoFliers$Book;", true)
  | 7 => ("TwoFliers", "stories", "[[I", true)
  | 8 => ("TwoFliers", "storyThere", "[Z", true)
  | 9 => ("TwoFliers", "reader", "LTwoFliers$Reader;", true)
  | 10 => ("TwoFliers", "ship", "LTwoFliers$Ship;", true)
  | 11 => ("TwoFliers", "lastAsked", "I", false)
  | 12 => ("TwoFliers", "lastUpper", "J", false)
  | 13 => ("TwoFliers", "lastLower", "J", false)
  | 14 => ("TwoFliers", "lastFinding", "I", false)
  | _ => ("TwoFliers", "findingCounts", "[I", true)
def tyX7 : Nat → FieldType := fun k => match k with
  | 0 => .array (.array .int)
  | 1 => .array .int
  | 2 => .array (.array .byte)
  | 3 => .array .int
  | 4 => .object "TwoFliers$Odds"
  | 5 => .object "TwoFliers$Plane"
  | 6 => .object "TwoFliers$Book"
  | 7 => .array (.array .int)
  | 8 => .array .boolean
  | 9 => .object "TwoFliers$Reader"
  | 10 => .object "TwoFliers$Ship"
  | 11 => .int
  | 12 => .long
  | 13 => .long
  | 14 => .int
  | _ => .array .int
theorem nmX7 : ∀ a, a < 16 → ∀ b, b < 16 → a ≠ b → (TX7 a).2.1 ≠ (TX7 b).2.1 := by decide +kernel
theorem tyX7_ok : ∀ k, k < 16 → parseFieldDescriptor (TX7 k).2.2.1 = some (tyX7 k) := by decide +kernel
def RX8 : String := "TwoFliersModel"
def TX8 : u_T := fun k => match k with
  | 0 => ("TwoFliersModel", "finding", "I", false)
  | 1 => ("TwoFliersModel", "findings", "[I", true)
  | 2 => ("TwoFliersModel", "asked", "I", false)
  | 3 => ("TwoFliersModel", "upper", "J", false)
  | 4 => ("TwoFliersModel", "lower", "J", false)
  | 5 => ("TwoFliersModel", "sizes", "[I", true)
  | 6 => ("TwoFliersModel", "rows", "[I", true)
  | 7 => ("TwoFliersModel", "moving", "[I", true)
  | 8 => ("TwoFliersModel", "lengths", "[I", true)
  | 9 => ("TwoFliersModel", "texts", "[I", true)
  | 10 => ("TwoFliersModel", "flight", "[I", true)
  | 11 => ("TwoFliersModel", "isStory", "[Z", true)
  | 12 => ("TwoFliersModel", "lies", "[I", true)
  | 13 => ("TwoFliersModel", "readLies", "[I", true)
  | 14 => ("TwoFliersModel", "readAt", "I", false)
  | 15 => ("TwoFliersModel", "readNumber", "I", false)
  | 16 => ("TwoFliersModel", "readMany", "I", false)
  | 17 => ("TwoFliersModel", "signMany", "I", false)
  | 18 => ("TwoFliersModel", "signs", "[I", true)
  | 19 => ("TwoFliersModel", "leftOut", "I", false)
  | 20 => ("TwoFliersModel", "come", "[J", true)
  | 21 => ("TwoFliersModel", "rest", "[J", true)
  | 22 => ("TwoFliersModel", "ending", "[J", true)
  | 23 => ("TwoFliersModel", "all", "J", false)
  | 24 => ("TwoFliersModel", "drags", "[I", true)
  | 25 => ("TwoFliersModel", "bestDrag", "[I", true)
  | 26 => ("TwoFliersModel", "bestWeight", "J", false)
  | 27 => ("TwoFliersModel", "bestMany", "I", false)
  | 28 => ("TwoFliersModel", "tried", "[I", true)
  | _ => ("TwoFliersModel", "h0", "J", false)
def tyX8 : Nat → FieldType := fun k => match k with
  | 0 => .int
  | 1 => .array .int
  | 2 => .int
  | 3 => .long
  | 4 => .long
  | 5 => .array .int
  | 6 => .array .int
  | 7 => .array .int
  | 8 => .array .int
  | 9 => .array .int
  | 10 => .array .int
  | 11 => .array .boolean
  | 12 => .array .int
  | 13 => .array .int
  | 14 => .int
  | 15 => .int
  | 16 => .int
  | 17 => .int
  | 18 => .array .int
  | 19 => .int
  | 20 => .array .long
  | 21 => .array .long
  | 22 => .array .long
  | 23 => .long
  | 24 => .array .int
  | 25 => .array .int
  | 26 => .long
  | 27 => .int
  | 28 => .array .int
  | _ => .long
theorem nmX8 : ∀ a, a < 30 → ∀ b, b < 30 → a ≠ b → (TX8 a).2.1 ≠ (TX8 b).2.1 := by decide +kernel
theorem tyX8_ok : ∀ k, k < 30 → parseFieldDescriptor (TX8 k).2.2.1 = some (tyX8 k) := by decide +kernel
def RX1 : String := "TwoFliers$Chart"
theorem sm_in0 : u_ws RX0 TX0 2 = ([169, 171] : List Nat).filterMap (fun i => lw_tbl[i]?) := by decide +kernel
theorem sm_in2 : u_ws RX2 TX2 9 = ([190, 192, 194, 196, 198, 200, 202, 204, 206] : List Nat).filterMap (fun i => lw_tbl[i]?) := by decide +kernel
theorem sm_in3 : u_ws RX3 TX3 4 = ([118, 120, 122, 124] : List Nat).filterMap (fun i => lw_tbl[i]?) := by decide +kernel
theorem sm_in4 : u_ws RX4 TX4 6 = ([224, 226, 228, 230, 232, 234] : List Nat).filterMap (fun i => lw_tbl[i]?) := by decide +kernel
theorem sm_in5 : u_ws RX5 TX5 4 = ([250, 252, 254, 256] : List Nat).filterMap (fun i => lw_tbl[i]?) := by decide +kernel
theorem sm_in6 : u_ws RX6 TX6 5 = ([152, 154, 156, 158, 160] : List Nat).filterMap (fun i => lw_tbl[i]?) := by decide +kernel
theorem sm_in7 : u_ws RX7 TX7 16 = ([278, 280, 282, 284, 286, 288, 290, 292, 294, 296, 298, 300, 302, 304, 306, 308] : List Nat).filterMap (fun i => lw_tbl[i]?) := by decide +kernel
theorem sm_in8 : u_ws RX8 TX8 30 = ([924, 926, 928, 930, 932, 934, 936, 938, 940, 942, 944, 946, 948, 950, 952, 954, 956, 958, 960, 962, 964, 966, 968, 970, 972, 974, 976, 978, 980, 982] : List Nat).filterMap (fun i => lw_tbl[i]?) := by decide +kernel
