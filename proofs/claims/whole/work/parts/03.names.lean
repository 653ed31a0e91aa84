def RX0 : String := "StandTugs$Aircraft"
def TX0 : u_T := fun k => match k with
  | 0 => ("StandTugs$Aircraft", "span", "I", false)
  | 1 => ("StandTugs$Aircraft", "weight", "I", false)
  | 2 => ("StandTugs$Aircraft", "comes", "I", false)
  | 3 => ("StandTugs$Aircraft", "leaves", "I", false)
  | 4 => ("StandTugs$Aircraft", "passengers", "I", false)
  | 5 => ("StandTugs$Aircraft", "place", "I", false)
  | 6 => ("StandTugs$Aircraft", "stand", "I", false)
  | 7 => ("StandTugs$Aircraft", "delay", "I", false)
  | 8 => ("StandTugs$Aircraft", "minutes", "I", false)
  | _ => ("StandTugs$Aircraft", "buses", "I", false)
def tyX0 : Nat → FieldType := fun k => match k with
  | 0 => .int
  | 1 => .int
  | 2 => .int
  | 3 => .int
  | 4 => .int
  | 5 => .int
  | 6 => .int
  | 7 => .int
  | 8 => .int
  | _ => .int
theorem nmX0 : ∀ a, a < 10 → ∀ b, b < 10 → a ≠ b → (TX0 a).2.1 ≠ (TX0 b).2.1 := by decide +kernel
theorem tyX0_ok : ∀ k, k < 10 → parseFieldDescriptor (TX0 k).2.2.1 = some (tyX0 k) := by decide +kernel
abbrev cX0_init : ByteArray := prog_2_method_1_code
def yX0_init : MethodName := ⟨RX0, "<init>", "()V"⟩
abbrev cX0_tell : ByteArray := prog_2_method_2_code
def yX0_tell : MethodName := ⟨RX0, "tell", "(IIII)V"⟩
abbrev cX0_copyFrom : ByteArray := prog_2_method_3_code
def yX0_copyFrom : MethodName := ⟨RX0, "copyFrom", "(LStandTugs$Aircraft;)V"⟩
abbrev cX0_isOnStandOrBay : ByteArray := prog_2_method_4_code
def yX0_isOnStandOrBay : MethodName := ⟨RX0, "isOnStandOrBay", "()Z"⟩
abbrev cX0_takeBuses : ByteArray := prog_2_method_5_code
def yX0_takeBuses : MethodName := ⟨RX0, "takeBuses", "()V"⟩
abbrev cX0_answer : ByteArray := prog_2_method_6_code
def yX0_answer : MethodName := ⟨RX0, "answer", "(I)I"⟩
def RX1 : String := "StandTugs$Field"
def TX1 : u_T := fun k => match k with
  | 0 => ("StandTugs$Field", "stands", "[LStandTugs$Stand;", true)
  | 1 => ("StandTugs$Field", "tugs", "[LStandTugs$Tug;", true)
  | 2 => ("StandTugs$Field", "aircraft", "[LStandTugs$Aircraft;", true)
  | 3 => ("StandTugs$Field", "log", "LStandTugs$Log;", true)
  | 4 => ("StandTugs$Field", "standCount", "I", false)
  | 5 => ("StandTugs$Field", "tugCount", "I", false)
  | 6 => ("StandTugs$Field", "aircraftCount", "I", false)
  | 7 => ("StandTugs$Field", "minute", "I", false)
  | 8 => ("StandTugs$Field", "curfewBegin", "I", false)
  | _ => ("StandTugs$Field", "curfewEnd", "I", false)
def tyX1 : Nat → FieldType := fun k => match k with
  | 0 => .array (.object "StandTugs$Stand")
  | 1 => .array (.object "StandTugs$Tug")
  | 2 => .array (.object "StandTugs$Aircraft")
  | 3 => .object "StandTugs$Log"
  | 4 => .int
  | 5 => .int
  | 6 => .int
  | 7 => .int
  | 8 => .int
  | _ => .int
theorem nmX1 : ∀ a, a < 10 → ∀ b, b < 10 → a ≠ b → (TX1 a).2.1 ≠ (TX1 b).2.1 := by decide +kernel
theorem tyX1_ok : ∀ k, k < 10 → parseFieldDescriptor (TX1 k).2.2.1 = some (tyX1 k) := by decide +kernel
abbrev cX1_init : ByteArray := prog_3_method_1_code
def yX1_init : MethodName := ⟨RX1, "<init>", "()V"⟩
abbrev cX1_build : ByteArray := prog_3_method_2_code
def yX1_build : MethodName := ⟨RX1, "build", "(II)V"⟩
abbrev cX1_restart : ByteArray := prog_3_method_3_code
def yX1_restart : MethodName := ⟨RX1, "restart", "()V"⟩
abbrev cX1_copyFrom : ByteArray := prog_3_method_4_code
def yX1_copyFrom : MethodName := ⟨RX1, "copyFrom", "(LStandTugs$Field;)V"⟩
abbrev cX1_hasStand : ByteArray := prog_3_method_5_code
def yX1_hasStand : MethodName := ⟨RX1, "hasStand", "(I)Z"⟩
abbrev cX1_hasTug : ByteArray := prog_3_method_6_code
def yX1_hasTug : MethodName := ⟨RX1, "hasTug", "(I)Z"⟩
abbrev cX1_hasAircraft : ByteArray := prog_3_method_7_code
def yX1_hasAircraft : MethodName := ⟨RX1, "hasAircraft", "(I)Z"⟩
abbrev cX1_add : ByteArray := prog_3_method_8_code
def yX1_add : MethodName := ⟨RX1, "add", "(IIII)V"⟩
abbrev cX1_addTug : ByteArray := prog_3_method_9_code
def yX1_addTug : MethodName := ⟨RX1, "addTug", "(I)V"⟩
abbrev cX1_passSome : ByteArray := prog_3_method_10_code
def yX1_passSome : MethodName := ⟨RX1, "passSome", "(I)I"⟩
abbrev cX1_quietMinutes : ByteArray := prog_3_method_11_code
def yX1_quietMinutes : MethodName := ⟨RX1, "quietMinutes", "()I"⟩
abbrev cX1_workTugs : ByteArray := prog_3_method_12_code
def yX1_workTugs : MethodName := ⟨RX1, "workTugs", "()V"⟩
abbrev cX1_finish : ByteArray := prog_3_method_13_code
def yX1_finish : MethodName := ⟨RX1, "finish", "(I)V"⟩
abbrev cX1_receive : ByteArray := prog_3_method_14_code
def yX1_receive : MethodName := ⟨RX1, "receive", "()V"⟩
abbrev cX1_pushBack : ByteArray := prog_3_method_15_code
def yX1_pushBack : MethodName := ⟨RX1, "pushBack", "()V"⟩
abbrev cX1_turn : ByteArray := prog_3_method_16_code
def yX1_turn : MethodName := ⟨RX1, "turn", "(I)I"⟩
abbrev cX1_nextToLeave : ByteArray := prog_3_method_17_code
def yX1_nextToLeave : MethodName := ⟨RX1, "nextToLeave", "(I)I"⟩
abbrev cX1_beginPush : ByteArray := prog_3_method_18_code
def yX1_beginPush : MethodName := ⟨RX1, "beginPush", "(I)V"⟩
abbrev cX1_tow : ByteArray := prog_3_method_19_code
def yX1_tow : MethodName := ⟨RX1, "tow", "()V"⟩
abbrev cX1_countMinutes : ByteArray := prog_3_method_20_code
def yX1_countMinutes : MethodName := ⟨RX1, "countMinutes", "(I)V"⟩
abbrev cX1_freeStandFor : ByteArray := prog_3_method_21_code
def yX1_freeStandFor : MethodName := ⟨RX1, "freeStandFor", "(I)I"⟩
abbrev cX1_freeTugFor : ByteArray := prog_3_method_22_code
def yX1_freeTugFor : MethodName := ⟨RX1, "freeTugFor", "(I)I"⟩
abbrev cX1_reason : ByteArray := prog_3_method_23_code
def yX1_reason : MethodName := ⟨RX1, "reason", "(I)I"⟩
abbrev cX1_isCurfew : ByteArray := prog_3_method_24_code
def yX1_isCurfew : MethodName := ⟨RX1, "isCurfew", "()Z"⟩
abbrev cX1_isPushedFrom : ByteArray := prog_3_method_25_code
def yX1_isPushedFrom : MethodName := ⟨RX1, "isPushedFrom", "(I)Z"⟩
abbrev cX1_passUntilAllGone : ByteArray := prog_3_method_26_code
def yX1_passUntilAllGone : MethodName := ⟨RX1, "passUntilAllGone", "()I"⟩
abbrev cX1_areAllGone : ByteArray := prog_3_method_27_code
def yX1_areAllGone : MethodName := ⟨RX1, "areAllGone", "()Z"⟩
abbrev cX1_countAt : ByteArray := prog_3_method_28_code
def yX1_countAt : MethodName := ⟨RX1, "countAt", "(I)I"⟩
abbrev cX1_sumOfDelays : ByteArray := prog_3_method_29_code
def yX1_sumOfDelays : MethodName := ⟨RX1, "sumOfDelays", "()I"⟩
abbrev cX1_greatestDelay : ByteArray := prog_3_method_30_code
def yX1_greatestDelay : MethodName := ⟨RX1, "greatestDelay", "()I"⟩
abbrev cX1_sumOfBuses : ByteArray := prog_3_method_31_code
def yX1_sumOfBuses : MethodName := ⟨RX1, "sumOfBuses", "()I"⟩
abbrev cX1_standAnswer : ByteArray := prog_3_method_32_code
def yX1_standAnswer : MethodName := ⟨RX1, "standAnswer", "(II)I"⟩
abbrev cX1_answer : ByteArray := prog_3_method_33_code
def yX1_answer : MethodName := ⟨RX1, "answer", "(I)I"⟩
def RX2 : String := "StandTugs$Log"
def TX2 : u_T := fun k => match k with
  | 0 => ("StandTugs$Log", "kinds", "[I", true)
  | 1 => ("StandTugs$Log", "minutes", "[I", true)
  | 2 => ("StandTugs$Log", "numbers", "[I", true)
  | _ => ("StandTugs$Log", "total", "I", false)
def tyX2 : Nat → FieldType := fun k => match k with
  | 0 => .array .int
  | 1 => .array .int
  | 2 => .array .int
  | _ => .int
theorem nmX2 : ∀ a, a < 4 → ∀ b, b < 4 → a ≠ b → (TX2 a).2.1 ≠ (TX2 b).2.1 := by decide +kernel
theorem tyX2_ok : ∀ k, k < 4 → parseFieldDescriptor (TX2 k).2.2.1 = some (tyX2 k) := by decide +kernel
abbrev cX2_init : ByteArray := prog_4_method_1_code
def yX2_init : MethodName := ⟨RX2, "<init>", "()V"⟩
abbrev cX2_put : ByteArray := prog_4_method_2_code
def yX2_put : MethodName := ⟨RX2, "put", "(III)V"⟩
abbrev cX2_kept : ByteArray := prog_4_method_3_code
def yX2_kept : MethodName := ⟨RX2, "kept", "()I"⟩
abbrev cX2_answer : ByteArray := prog_4_method_4_code
def yX2_answer : MethodName := ⟨RX2, "answer", "(II)I"⟩
abbrev cX2_copyFrom : ByteArray := prog_4_method_5_code
def yX2_copyFrom : MethodName := ⟨RX2, "copyFrom", "(LStandTugs$Log;)V"⟩
def RX3 : String := "StandTugs$Stand"
def TX3 : u_T := fun k => match k with
  | 0 => ("StandTugs$Stand", "span", "I", false)
  | 1 => ("StandTugs$Stand", "aircraft", "I", false)
  | _ => ("StandTugs$Stand", "minutes", "I", false)
def tyX3 : Nat → FieldType := fun k => match k with
  | 0 => .int
  | 1 => .int
  | _ => .int
theorem nmX3 : ∀ a, a < 3 → ∀ b, b < 3 → a ≠ b → (TX3 a).2.1 ≠ (TX3 b).2.1 := by decide +kernel
theorem tyX3_ok : ∀ k, k < 3 → parseFieldDescriptor (TX3 k).2.2.1 = some (tyX3 k) := by decide +kernel
abbrev cX3_init : ByteArray := prog_5_method_1_code
def yX3_init : MethodName := ⟨RX3, "<init>", "()V"⟩
abbrev cX3_restart : ByteArray := prog_5_method_2_code
def yX3_restart : MethodName := ⟨RX3, "restart", "()V"⟩
abbrev cX3_copyFrom : ByteArray := prog_5_method_3_code
def yX3_copyFrom : MethodName := ⟨RX3, "copyFrom", "(LStandTugs$Stand;)V"⟩
def RX4 : String := "StandTugs$Timetable"
def TX4 : u_T := fun k => match k with
  | 0 => ("StandTugs$Timetable", "bytes", "[I", true)
  | 1 => ("StandTugs$Timetable", "length", "I", false)
  | 2 => ("StandTugs$Timetable", "kinds", "[I", true)
  | 3 => ("StandTugs$Timetable", "comes", "[I", true)
  | 4 => ("StandTugs$Timetable", "leaves", "[I", true)
  | 5 => ("StandTugs$Timetable", "passengers", "[I", true)
  | 6 => ("StandTugs$Timetable", "count", "I", false)
  | 7 => ("StandTugs$Timetable", "position", "I", false)
  | _ => ("StandTugs$Timetable", "number", "I", false)
def tyX4 : Nat → FieldType := fun k => match k with
  | 0 => .array .int
  | 1 => .int
  | 2 => .array .int
  | 3 => .array .int
  | 4 => .array .int
  | 5 => .array .int
  | 6 => .int
  | 7 => .int
  | _ => .int
theorem nmX4 : ∀ a, a < 9 → ∀ b, b < 9 → a ≠ b → (TX4 a).2.1 ≠ (TX4 b).2.1 := by decide +kernel
theorem tyX4_ok : ∀ k, k < 9 → parseFieldDescriptor (TX4 k).2.2.1 = some (tyX4 k) := by decide +kernel
abbrev cX4_init : ByteArray := prog_6_method_1_code
def yX4_init : MethodName := ⟨RX4, "<init>", "()V"⟩
abbrev cX4_add : ByteArray := prog_6_method_2_code
def yX4_add : MethodName := ⟨RX4, "add", "(I)V"⟩
abbrev cX4_read : ByteArray := prog_6_method_3_code
def yX4_read : MethodName := ⟨RX4, "read", "()I"⟩
abbrev cX4_readAircraft : ByteArray := prog_6_method_4_code
def yX4_readAircraft : MethodName := ⟨RX4, "readAircraft", "(I)I"⟩
abbrev cX4_readMinutes : ByteArray := prog_6_method_5_code
def yX4_readMinutes : MethodName := ⟨RX4, "readMinutes", "(I)I"⟩
abbrev cX4_readSign : ByteArray := prog_6_method_6_code
def yX4_readSign : MethodName := ⟨RX4, "readSign", "(I)I"⟩
abbrev cX4_readNumber : ByteArray := prog_6_method_7_code
def yX4_readNumber : MethodName := ⟨RX4, "readNumber", "(III)I"⟩
abbrev cX4_byteHere : ByteArray := prog_6_method_8_code
def yX4_byteHere : MethodName := ⟨RX4, "byteHere", "()I"⟩
abbrev cX4_digitHere : ByteArray := prog_6_method_9_code
def yX4_digitHere : MethodName := ⟨RX4, "digitHere", "()I"⟩
def RX5 : String := "StandTugs$Tug"
def TX5 : u_T := fun k => match k with
  | 0 => ("StandTugs$Tug", "strength", "I", false)
  | 1 => ("StandTugs$Tug", "aircraft", "I", false)
  | 2 => ("StandTugs$Tug", "minutesLeft", "I", false)
  | 3 => ("StandTugs$Tug", "pushes", "I", false)
  | _ => ("StandTugs$Tug", "tows", "I", false)
def tyX5 : Nat → FieldType := fun k => match k with
  | 0 => .int
  | 1 => .int
  | 2 => .int
  | 3 => .int
  | _ => .int
theorem nmX5 : ∀ a, a < 5 → ∀ b, b < 5 → a ≠ b → (TX5 a).2.1 ≠ (TX5 b).2.1 := by decide +kernel
theorem tyX5_ok : ∀ k, k < 5 → parseFieldDescriptor (TX5 k).2.2.1 = some (tyX5 k) := by decide +kernel
abbrev cX5_init : ByteArray := prog_7_method_1_code
def yX5_init : MethodName := ⟨RX5, "<init>", "()V"⟩
abbrev cX5_restart : ByteArray := prog_7_method_2_code
def yX5_restart : MethodName := ⟨RX5, "restart", "()V"⟩
abbrev cX5_copyFrom : ByteArray := prog_7_method_3_code
def yX5_copyFrom : MethodName := ⟨RX5, "copyFrom", "(LStandTugs$Tug;)V"⟩
abbrev cX5_take : ByteArray := prog_7_method_4_code
def yX5_take : MethodName := ⟨RX5, "take", "(II)V"⟩
abbrev cX5_answer : ByteArray := prog_7_method_5_code
def yX5_answer : MethodName := ⟨RX5, "answer", "(I)I"⟩
def RX6 : String := "StandTugs"
def TX6 : u_T := fun k => match k with
  | 0 => ("StandTugs", "now", "LStandTugs$Field;", true)
  | 1 => ("StandTugs", "trial", "LStandTugs$Field;", true)
  | 2 => ("StandTugs", "saved", "[LStandTugs$Field;", true)
  | 3 => ("StandTugs", "savedCount", "I", false)
  | _ => ("StandTugs", "timetable", "LStandTugs$Timetable;", true)
def tyX6 : Nat → FieldType := fun k => match k with
  | 0 => .object "StandTugs$Field"
  | 1 => .object "StandTugs$Field"
  | 2 => .array (.object "StandTugs$Field")
  | 3 => .int
  | _ => .object "StandTugs$Timetable"
theorem nmX6 : ∀ a, a < 5 → ∀ b, b < 5 → a ≠ b → (TX6 a).2.1 ≠ (TX6 b).2.1 := by decide +kernel
theorem tyX6_ok : ∀ k, k < 5 → parseFieldDescriptor (TX6 k).2.2.1 = some (tyX6 k) := by decide +kernel
abbrev cX6_init : ByteArray := prog_1_method_1_code
def yX6_init : MethodName := ⟨RX6, "<init>", "()V"⟩
abbrev cX6_begin : ByteArray := prog_1_method_2_code
def yX6_begin : MethodName := ⟨RX6, "begin", "(II)I"⟩
abbrev cX6_setSpan : ByteArray := prog_1_method_3_code
def yX6_setSpan : MethodName := ⟨RX6, "setSpan", "(II)I"⟩
abbrev cX6_setStrength : ByteArray := prog_1_method_4_code
def yX6_setStrength : MethodName := ⟨RX6, "setStrength", "(II)I"⟩
abbrev cX6_setCurfew : ByteArray := prog_1_method_5_code
def yX6_setCurfew : MethodName := ⟨RX6, "setCurfew", "(II)I"⟩
abbrev cX6_expect : ByteArray := prog_1_method_6_code
def yX6_expect : MethodName := ⟨RX6, "expect", "(IIII)I"⟩
abbrev cX6_setLeaves : ByteArray := prog_1_method_7_code
def yX6_setLeaves : MethodName := ⟨RX6, "setLeaves", "(II)I"⟩
abbrev cX6_pass : ByteArray := prog_1_method_8_code
def yX6_pass : MethodName := ⟨RX6, "pass", "(I)I"⟩
abbrev cX6_aircraft : ByteArray := prog_1_method_9_code
def yX6_aircraft : MethodName := ⟨RX6, "aircraft", "(II)I"⟩
abbrev cX6_stand : ByteArray := prog_1_method_10_code
def yX6_stand : MethodName := ⟨RX6, "stand", "(II)I"⟩
abbrev cX6_tug : ByteArray := prog_1_method_11_code
def yX6_tug : MethodName := ⟨RX6, "tug", "(II)I"⟩
abbrev cX6_value : ByteArray := prog_1_method_12_code
def yX6_value : MethodName := ⟨RX6, "value", "(I)I"⟩
abbrev cX6_event : ByteArray := prog_1_method_13_code
def yX6_event : MethodName := ⟨RX6, "event", "(II)I"⟩
abbrev cX6_why : ByteArray := prog_1_method_14_code
def yX6_why : MethodName := ⟨RX6, "why", "(I)I"⟩
abbrev cX6_delayOf : ByteArray := prog_1_method_15_code
def yX6_delayOf : MethodName := ⟨RX6, "delayOf", "(I)I"⟩
abbrev cX6_minutesToAll : ByteArray := prog_1_method_16_code
def yX6_minutesToAll : MethodName := ⟨RX6, "minutesToAll", "()I"⟩
abbrev cX6_delaysWithTug : ByteArray := prog_1_method_17_code
def yX6_delaysWithTug : MethodName := ⟨RX6, "delaysWithTug", "(I)I"⟩
abbrev cX6_bestStand : ByteArray := prog_1_method_18_code
def yX6_bestStand : MethodName := ⟨RX6, "bestStand", "()I"⟩
abbrev cX6_used : ByteArray := prog_1_method_19_code
def yX6_used : MethodName := ⟨RX6, "used", "()D"⟩
abbrev cX6_append : ByteArray := prog_1_method_20_code
def yX6_append : MethodName := ⟨RX6, "append", "(I)I"⟩
abbrev cX6_clearText : ByteArray := prog_1_method_21_code
def yX6_clearText : MethodName := ⟨RX6, "clearText", "()I"⟩
abbrev cX6_parse : ByteArray := prog_1_method_22_code
def yX6_parse : MethodName := ⟨RX6, "parse", "()I"⟩
abbrev cX6_undo : ByteArray := prog_1_method_23_code
def yX6_undo : MethodName := ⟨RX6, "undo", "()I"⟩
abbrev cX6_digest : ByteArray := prog_1_method_24_code
def yX6_digest : MethodName := ⟨RX6, "digest", "()J"⟩
abbrev cX6_isOutside : ByteArray := prog_1_method_25_code
def yX6_isOutside : MethodName := ⟨RX6, "isOutside", "(III)Z"⟩
abbrev cX6_isKind : ByteArray := prog_1_method_26_code
def yX6_isKind : MethodName := ⟨RX6, "isKind", "(I)Z"⟩
abbrev cX6_save : ByteArray := prog_1_method_27_code
def yX6_save : MethodName := ⟨RX6, "save", "()V"⟩
abbrev cX6_dropOldest : ByteArray := prog_1_method_28_code
def yX6_dropOldest : MethodName := ⟨RX6, "dropOldest", "()V"⟩
def RX7 : String := "StandTugsModel"
def TX7 : u_T := fun k => match k with
  | 0 => ("StandTugsModel", "all", "[I", true)
  | 1 => ("StandTugsModel", "saved", "[I", true)
  | 2 => ("StandTugsModel", "aside", "[I", true)
  | 3 => ("StandTugsModel", "savedMany", "I", false)
  | 4 => ("StandTugsModel", "threw", "I", false)
  | 5 => ("StandTugsModel", "wasAsked", "[Z", true)
  | 6 => ("StandTugsModel", "text", "[I", true)
  | 7 => ("StandTugsModel", "textLong", "I", false)
  | 8 => ("StandTugsModel", "place", "I", false)
  | 9 => ("StandTugsModel", "read", "[I", true)
  | 10 => ("StandTugsModel", "readMany", "I", false)
  | _ => ("StandTugsModel", "number", "I", false)
def tyX7 : Nat → FieldType := fun k => match k with
  | 0 => .array .int
  | 1 => .array .int
  | 2 => .array .int
  | 3 => .int
  | 4 => .int
  | 5 => .array .boolean
  | 6 => .array .int
  | 7 => .int
  | 8 => .int
  | 9 => .array .int
  | 10 => .int
  | _ => .int
theorem nmX7 : ∀ a, a < 12 → ∀ b, b < 12 → a ≠ b → (TX7 a).2.1 ≠ (TX7 b).2.1 := by decide +kernel
theorem tyX7_ok : ∀ k, k < 12 → parseFieldDescriptor (TX7 k).2.2.1 = some (tyX7 k) := by decide +kernel
abbrev cX7_init : ByteArray := prog_9_method_1_code
def yX7_init : MethodName := ⟨RX7, "<init>", "()V"⟩
abbrev cX7_thrown : ByteArray := prog_9_method_2_code
def yX7_thrown : MethodName := ⟨RX7, "thrown", "()I"⟩
abbrev cX7_in : ByteArray := prog_9_method_3_code
def yX7_in : MethodName := ⟨RX7, "in", "(JJJ)Z"⟩
abbrev cX7_fine : ByteArray := prog_9_method_4_code
def yX7_fine : MethodName := ⟨RX7, "fine", "(I)I"⟩
abbrev cX7_throwing : ByteArray := prog_9_method_5_code
def yX7_throwing : MethodName := ⟨RX7, "throwing", "(I)I"⟩
abbrev cX7_save : ByteArray := prog_9_method_6_code
def yX7_save : MethodName := ⟨RX7, "save", "()V"⟩
abbrev cX7_laysAside : ByteArray := prog_9_method_7_code
def yX7_laysAside : MethodName := ⟨RX7, "laysAside", "()V"⟩
abbrev cX7_takesBack : ByteArray := prog_9_method_8_code
def yX7_takesBack : MethodName := ⟨RX7, "takesBack", "()V"⟩
abbrev cX7_standAt : ByteArray := prog_9_method_9_code
def yX7_standAt : MethodName := ⟨RX7, "standAt", "(II)I"⟩
abbrev cX7_tugAt : ByteArray := prog_9_method_10_code
def yX7_tugAt : MethodName := ⟨RX7, "tugAt", "(II)I"⟩
abbrev cX7_planeAt : ByteArray := prog_9_method_11_code
def yX7_planeAt : MethodName := ⟨RX7, "planeAt", "(II)I"⟩
abbrev cX7_of : ByteArray := prog_9_method_12_code
def yX7_of : MethodName := ⟨RX7, "of", "(II)I"⟩
abbrev cX7_clears : ByteArray := prog_9_method_13_code
def yX7_clears : MethodName := ⟨RX7, "clears", "()V"⟩
abbrev cX7_begins : ByteArray := prog_9_method_14_code
def yX7_begins : MethodName := ⟨RX7, "begins", "(II)V"⟩
abbrev cX7_begin : ByteArray := prog_9_method_15_code
def yX7_begin : MethodName := ⟨RX7, "begin", "(II)I"⟩
abbrev cX7_isStand : ByteArray := prog_9_method_16_code
def yX7_isStand : MethodName := ⟨RX7, "isStand", "(I)Z"⟩
abbrev cX7_isTug : ByteArray := prog_9_method_17_code
def yX7_isTug : MethodName := ⟨RX7, "isTug", "(I)Z"⟩
abbrev cX7_isPlane : ByteArray := prog_9_method_18_code
def yX7_isPlane : MethodName := ⟨RX7, "isPlane", "(I)Z"⟩
abbrev cX7_setSpan : ByteArray := prog_9_method_19_code
def yX7_setSpan : MethodName := ⟨RX7, "setSpan", "(II)I"⟩
abbrev cX7_setStrength : ByteArray := prog_9_method_20_code
def yX7_setStrength : MethodName := ⟨RX7, "setStrength", "(II)I"⟩
abbrev cX7_setCurfew : ByteArray := prog_9_method_21_code
def yX7_setCurfew : MethodName := ⟨RX7, "setCurfew", "(II)I"⟩
abbrev cX7_adds : ByteArray := prog_9_method_22_code
def yX7_adds : MethodName := ⟨RX7, "adds", "(IIIII)V"⟩
abbrev cX7_expect : ByteArray := prog_9_method_23_code
def yX7_expect : MethodName := ⟨RX7, "expect", "(IIII)I"⟩
abbrev cX7_setLeaves : ByteArray := prog_9_method_24_code
def yX7_setLeaves : MethodName := ⟨RX7, "setLeaves", "(II)I"⟩
abbrev cX7_writes : ByteArray := prog_9_method_25_code
def yX7_writes : MethodName := ⟨RX7, "writes", "(II)V"⟩
abbrev cX7_buses : ByteArray := prog_9_method_26_code
def yX7_buses : MethodName := ⟨RX7, "buses", "(I)V"⟩
abbrev cX7_planeOf : ByteArray := prog_9_method_27_code
def yX7_planeOf : MethodName := ⟨RX7, "planeOf", "(I)I"⟩
abbrev cX7_standFor : ByteArray := prog_9_method_28_code
def yX7_standFor : MethodName := ⟨RX7, "standFor", "(I)I"⟩
abbrev cX7_tugFor : ByteArray := prog_9_method_29_code
def yX7_tugFor : MethodName := ⟨RX7, "tugFor", "(I)I"⟩
abbrev cX7_tugs : ByteArray := prog_9_method_30_code
def yX7_tugs : MethodName := ⟨RX7, "tugs", "()V"⟩
abbrev cX7_arrivals : ByteArray := prog_9_method_31_code
def yX7_arrivals : MethodName := ⟨RX7, "arrivals", "()V"⟩
abbrev cX7_isCurfew : ByteArray := prog_9_method_32_code
def yX7_isCurfew : MethodName := ⟨RX7, "isCurfew", "()Z"⟩
abbrev cX7_isPushedFrom : ByteArray := prog_9_method_33_code
def yX7_isPushedFrom : MethodName := ⟨RX7, "isPushedFrom", "(I)Z"⟩
abbrev cX7_whyNot : ByteArray := prog_9_method_34_code
def yX7_whyNot : MethodName := ⟨RX7, "whyNot", "(I)I"⟩
abbrev cX7_takes : ByteArray := prog_9_method_35_code
def yX7_takes : MethodName := ⟨RX7, "takes", "(IIII)V"⟩
abbrev cX7_pushes : ByteArray := prog_9_method_36_code
def yX7_pushes : MethodName := ⟨RX7, "pushes", "(I)V"⟩
abbrev cX7_pushbacks : ByteArray := prog_9_method_37_code
def yX7_pushbacks : MethodName := ⟨RX7, "pushbacks", "()V"⟩
abbrev cX7_towing : ByteArray := prog_9_method_38_code
def yX7_towing : MethodName := ⟨RX7, "towing", "()V"⟩
abbrev cX7_minute : ByteArray := prog_9_method_39_code
def yX7_minute : MethodName := ⟨RX7, "minute", "()V"⟩
abbrev cX7_inState : ByteArray := prog_9_method_40_code
def yX7_inState : MethodName := ⟨RX7, "inState", "(I)I"⟩
abbrev cX7_pass : ByteArray := prog_9_method_41_code
def yX7_pass : MethodName := ⟨RX7, "pass", "(I)I"⟩
abbrev cX7_aircraft : ByteArray := prog_9_method_42_code
def yX7_aircraft : MethodName := ⟨RX7, "aircraft", "(II)I"⟩
abbrev cX7_standOf : ByteArray := prog_9_method_43_code
def yX7_standOf : MethodName := ⟨RX7, "standOf", "(II)I"⟩
abbrev cX7_stand : ByteArray := prog_9_method_44_code
def yX7_stand : MethodName := ⟨RX7, "stand", "(II)I"⟩
abbrev cX7_tug : ByteArray := prog_9_method_45_code
def yX7_tug : MethodName := ⟨RX7, "tug", "(II)I"⟩
abbrev cX7_delays : ByteArray := prog_9_method_46_code
def yX7_delays : MethodName := ⟨RX7, "delays", "(Z)I"⟩
abbrev cX7_valueOf : ByteArray := prog_9_method_47_code
def yX7_valueOf : MethodName := ⟨RX7, "valueOf", "(I)I"⟩
abbrev cX7_value : ByteArray := prog_9_method_48_code
def yX7_value : MethodName := ⟨RX7, "value", "(I)I"⟩
abbrev cX7_event : ByteArray := prog_9_method_49_code
def yX7_event : MethodName := ⟨RX7, "event", "(II)I"⟩
abbrev cX7_why : ByteArray := prog_9_method_50_code
def yX7_why : MethodName := ⟨RX7, "why", "(I)I"⟩
abbrev cX7_delayOf : ByteArray := prog_9_method_51_code
def yX7_delayOf : MethodName := ⟨RX7, "delayOf", "(I)I"⟩
abbrev cX7_toAll : ByteArray := prog_9_method_52_code
def yX7_toAll : MethodName := ⟨RX7, "toAll", "()I"⟩
abbrev cX7_minutesIf : ByteArray := prog_9_method_53_code
def yX7_minutesIf : MethodName := ⟨RX7, "minutesIf", "()I"⟩
abbrev cX7_minutesToAll : ByteArray := prog_9_method_54_code
def yX7_minutesToAll : MethodName := ⟨RX7, "minutesToAll", "()I"⟩
abbrev cX7_delaysWithTug : ByteArray := prog_9_method_55_code
def yX7_delaysWithTug : MethodName := ⟨RX7, "delaysWithTug", "(I)I"⟩
abbrev cX7_bestStand : ByteArray := prog_9_method_56_code
def yX7_bestStand : MethodName := ⟨RX7, "bestStand", "()I"⟩
abbrev cX7_used : ByteArray := prog_9_method_57_code
def yX7_used : MethodName := ⟨RX7, "used", "()D"⟩
abbrev cX7_append : ByteArray := prog_9_method_58_code
def yX7_append : MethodName := ⟨RX7, "append", "(I)I"⟩
abbrev cX7_clearText : ByteArray := prog_9_method_59_code
def yX7_clearText : MethodName := ⟨RX7, "clearText", "()I"⟩
abbrev cX7_here : ByteArray := prog_9_method_60_code
def yX7_here : MethodName := ⟨RX7, "here", "()I"⟩
abbrev cX7_passes : ByteArray := prog_9_method_61_code
def yX7_passes : MethodName := ⟨RX7, "passes", "(I)Z"⟩
abbrev cX7_readsNumber : ByteArray := prog_9_method_62_code
def yX7_readsNumber : MethodName := ⟨RX7, "readsNumber", "(III)Z"⟩
abbrev cX7_readsDigit : ByteArray := prog_9_method_63_code
def yX7_readsDigit : MethodName := ⟨RX7, "readsDigit", "(II)Z"⟩
abbrev cX7_readsPlane : ByteArray := prog_9_method_64_code
def yX7_readsPlane : MethodName := ⟨RX7, "readsPlane", "()Z"⟩
abbrev cX7_readsText : ByteArray := prog_9_method_65_code
def yX7_readsText : MethodName := ⟨RX7, "readsText", "()Z"⟩
abbrev cX7_parse : ByteArray := prog_9_method_66_code
def yX7_parse : MethodName := ⟨RX7, "parse", "()I"⟩
abbrev cX7_undo : ByteArray := prog_9_method_67_code
def yX7_undo : MethodName := ⟨RX7, "undo", "()I"⟩
abbrev cX7_digest : ByteArray := prog_9_method_68_code
def yX7_digest : MethodName := ⟨RX7, "digest", "()J"⟩
def RJ9 : String := "java/lang/Math"
def TJ9 : u_T := fun k => match k with
  | _ => ("", "", "", false)
def tyJ9 : Nat → FieldType := fun k => match k with
  | _ => .int
theorem nmJ9 : ∀ a, a < 0 → ∀ b, b < 0 → a ≠ b → (TJ9 a).2.1 ≠ (TJ9 b).2.1 := by decide +kernel
theorem tyJ9_ok : ∀ k, k < 0 → parseFieldDescriptor (TJ9 k).2.2.1 = some (tyJ9 k) := by decide +kernel
abbrev cJ9_max_7cf53 : ByteArray := prog_14_method_65_code
def yJ9_max_7cf53 : MethodName := ⟨RJ9, "max", "(II)I"⟩
abbrev cJ9_min_7cf53 : ByteArray := prog_14_method_69_code
def yJ9_min_7cf53 : MethodName := ⟨RJ9, "min", "(II)I"⟩
def RJ0 : String := "java/lang/String"
def TJ0 : u_T := fun k => match k with
  | _ => ("", "", "", false)
def tyJ0 : Nat → FieldType := fun k => match k with
  | _ => .int
theorem nmJ0 : ∀ a, a < 0 → ∀ b, b < 0 → a ≠ b → (TJ0 a).2.1 ≠ (TJ0 b).2.1 := by decide +kernel
theorem tyJ0_ok : ∀ k, k < 0 → parseFieldDescriptor (TJ0 k).2.2.1 = some (tyJ0 k) := by decide +kernel
def RJ10 : String := "java/lang/System"
def TJ10 : u_T := fun k => match k with
  | _ => ("", "", "", false)
def tyJ10 : Nat → FieldType := fun k => match k with
  | _ => .int
theorem nmJ10 : ∀ a, a < 0 → ∀ b, b < 0 → a ≠ b → (TJ10 a).2.1 ≠ (TJ10 b).2.1 := by decide +kernel
theorem tyJ10_ok : ∀ k, k < 0 → parseFieldDescriptor (TJ10 k).2.2.1 = some (tyJ10 k) := by decide +kernel
def RL : String := "StandTugsLaw"
abbrev cL_begin : ByteArray := method_3_code
def yL_begin : MethodName := ⟨RL, "begin", "(LStandTugs;II[J)I"⟩
abbrev cL_setSpan : ByteArray := method_4_code
def yL_setSpan : MethodName := ⟨RL, "setSpan", "(LStandTugs;II[J)I"⟩
abbrev cL_setStrength : ByteArray := method_5_code
def yL_setStrength : MethodName := ⟨RL, "setStrength", "(LStandTugs;II[J)I"⟩
abbrev cL_setCurfew : ByteArray := method_6_code
def yL_setCurfew : MethodName := ⟨RL, "setCurfew", "(LStandTugs;II[J)I"⟩
abbrev cL_expect : ByteArray := method_7_code
def yL_expect : MethodName := ⟨RL, "expect", "(LStandTugs;IIII[J)I"⟩
abbrev cL_setLeaves : ByteArray := method_8_code
def yL_setLeaves : MethodName := ⟨RL, "setLeaves", "(LStandTugs;II[J)I"⟩
abbrev cL_pass : ByteArray := method_9_code
def yL_pass : MethodName := ⟨RL, "pass", "(LStandTugs;I[J)I"⟩
abbrev cL_aircraft : ByteArray := method_10_code
def yL_aircraft : MethodName := ⟨RL, "aircraft", "(LStandTugs;II[J)I"⟩
abbrev cL_stand : ByteArray := method_11_code
def yL_stand : MethodName := ⟨RL, "stand", "(LStandTugs;II[J)I"⟩
abbrev cL_tug : ByteArray := method_12_code
def yL_tug : MethodName := ⟨RL, "tug", "(LStandTugs;II[J)I"⟩
abbrev cL_value : ByteArray := method_13_code
def yL_value : MethodName := ⟨RL, "value", "(LStandTugs;I[J)I"⟩
abbrev cL_event : ByteArray := method_14_code
def yL_event : MethodName := ⟨RL, "event", "(LStandTugs;II[J)I"⟩
abbrev cL_why : ByteArray := method_15_code
def yL_why : MethodName := ⟨RL, "why", "(LStandTugs;I[J)I"⟩
abbrev cL_delayOf : ByteArray := method_16_code
def yL_delayOf : MethodName := ⟨RL, "delayOf", "(LStandTugs;I[J)I"⟩
abbrev cL_delaysWithTug : ByteArray := method_17_code
def yL_delaysWithTug : MethodName := ⟨RL, "delaysWithTug", "(LStandTugs;I[J)I"⟩
abbrev cL_append : ByteArray := method_18_code
def yL_append : MethodName := ⟨RL, "append", "(LStandTugs;I[J)I"⟩
abbrev cL_undo : ByteArray := method_19_code
def yL_undo : MethodName := ⟨RL, "undo", "(LStandTugs;[J)I"⟩
abbrev cL_law : ByteArray := code
def yL_law : MethodName := ⟨RL, "law", "([I)Z"⟩
abbrev vwCl : List vw_C := [(RX0, TX0, 10), (RX1, TX1, 10), (RX2, TX2, 4), (RX3, TX3, 3), (RX4, TX4, 9), (RX5, TX5, 5), (RX6, TX6, 5), (RX7, TX7, 12)]
/-- the words of the tables that stay: each has its place -/
def GW : List Cond := lw_tbl.filter goodWord
theorem gw_in : ∀ w ∈ GW, w ∈ lw_tbl := fun w h => (List.mem_filter.mp h).1
theorem gw_good : ∀ w ∈ GW, goodWord w = true := fun w h => (List.mem_filter.mp h).2
theorem gw_of {w : Cond} (h : w ∈ tables_1) (hg : goodWord w = true) : w ∈ GW := List.mem_filter.mpr ⟨List.mem_append_right _ h, hg⟩
theorem tb1 {w : Cond} (i : Nat) (h : tables_1_1[i]? = some w) : w ∈ tables_1 := by
  show w ∈ tables_1_1 ++ (tables_1_2 ++ (tables_1_3 ++ (tables_1_4 ++ (tables_1_5))))
  exact List.mem_append_left _ (List.mem_of_getElem? h)
theorem gw1 {w : Cond} (i : Nat) (h : tables_1_1[i]? = some w) (hg : goodWord w = true) : w ∈ GW := gw_of (tb1 i h) hg
theorem tb2 {w : Cond} (i : Nat) (h : tables_1_2[i]? = some w) : w ∈ tables_1 := by
  show w ∈ tables_1_1 ++ (tables_1_2 ++ (tables_1_3 ++ (tables_1_4 ++ (tables_1_5))))
  exact List.mem_append_right _ (List.mem_append_left _ (List.mem_of_getElem? h))
theorem gw2 {w : Cond} (i : Nat) (h : tables_1_2[i]? = some w) (hg : goodWord w = true) : w ∈ GW := gw_of (tb2 i h) hg
theorem tb3 {w : Cond} (i : Nat) (h : tables_1_3[i]? = some w) : w ∈ tables_1 := by
  show w ∈ tables_1_1 ++ (tables_1_2 ++ (tables_1_3 ++ (tables_1_4 ++ (tables_1_5))))
  exact List.mem_append_right _ (List.mem_append_right _ (List.mem_append_left _ (List.mem_of_getElem? h)))
theorem gw3 {w : Cond} (i : Nat) (h : tables_1_3[i]? = some w) (hg : goodWord w = true) : w ∈ GW := gw_of (tb3 i h) hg
theorem tb4 {w : Cond} (i : Nat) (h : tables_1_4[i]? = some w) : w ∈ tables_1 := by
  show w ∈ tables_1_1 ++ (tables_1_2 ++ (tables_1_3 ++ (tables_1_4 ++ (tables_1_5))))
  exact List.mem_append_right _ (List.mem_append_right _ (List.mem_append_right _ (List.mem_append_left _ (List.mem_of_getElem? h))))
theorem gw4 {w : Cond} (i : Nat) (h : tables_1_4[i]? = some w) (hg : goodWord w = true) : w ∈ GW := gw_of (tb4 i h) hg
theorem tb5 {w : Cond} (i : Nat) (h : tables_1_5[i]? = some w) : w ∈ tables_1 := by
  show w ∈ tables_1_1 ++ (tables_1_2 ++ (tables_1_3 ++ (tables_1_4 ++ (tables_1_5))))
  exact List.mem_append_right _ (List.mem_append_right _ (List.mem_append_right _ (List.mem_append_right _ (List.mem_of_getElem? h))))
theorem gw5 {w : Cond} (i : Nat) (h : tables_1_5[i]? = some w) (hg : goodWord w = true) : w ∈ GW := gw_of (tb5 i h) hg
theorem gs1 {q : MethodName × Nat} (i : Nat) (h : lw_privs_1[i]? = some q) : Cond.selects q.1.cls q.1 q.1 ∈ GW := by
  refine List.mem_filter.mpr ⟨List.mem_append_left _ (List.mem_map.mpr ⟨q, ?_, rfl⟩), rfl⟩
  show q ∈ lw_privs_1 ++ (lw_privs_2 ++ (lw_privs_3 ++ (lw_privs_4)))
  exact List.mem_append_left _ (List.mem_of_getElem? h)
theorem gs2 {q : MethodName × Nat} (i : Nat) (h : lw_privs_2[i]? = some q) : Cond.selects q.1.cls q.1 q.1 ∈ GW := by
  refine List.mem_filter.mpr ⟨List.mem_append_left _ (List.mem_map.mpr ⟨q, ?_, rfl⟩), rfl⟩
  show q ∈ lw_privs_1 ++ (lw_privs_2 ++ (lw_privs_3 ++ (lw_privs_4)))
  exact List.mem_append_right _ (List.mem_append_left _ (List.mem_of_getElem? h))
theorem gs3 {q : MethodName × Nat} (i : Nat) (h : lw_privs_3[i]? = some q) : Cond.selects q.1.cls q.1 q.1 ∈ GW := by
  refine List.mem_filter.mpr ⟨List.mem_append_left _ (List.mem_map.mpr ⟨q, ?_, rfl⟩), rfl⟩
  show q ∈ lw_privs_1 ++ (lw_privs_2 ++ (lw_privs_3 ++ (lw_privs_4)))
  exact List.mem_append_right _ (List.mem_append_right _ (List.mem_append_left _ (List.mem_of_getElem? h)))
theorem gs4 {q : MethodName × Nat} (i : Nat) (h : lw_privs_4[i]? = some q) : Cond.selects q.1.cls q.1 q.1 ∈ GW := by
  refine List.mem_filter.mpr ⟨List.mem_append_left _ (List.mem_map.mpr ⟨q, ?_, rfl⟩), rfl⟩
  show q ∈ lw_privs_1 ++ (lw_privs_2 ++ (lw_privs_3 ++ (lw_privs_4)))
  exact List.mem_append_right _ (List.mem_append_right _ (List.mem_append_right _ (List.mem_of_getElem? h)))
theorem gw_goodIn {ws : List Cond} (h : ∀ w ∈ ws, w ∈ GW) : GoodIn GW ws := fun w hw => ⟨h w hw, good_of_word (gw_good w (h w hw))⟩
theorem gw_sub {big ws : List Cond} (hb : ∀ w ∈ GW, w ∈ big) (h : ∀ w ∈ ws, w ∈ GW) : GoodIn big ws := fun w hw => ⟨hb w (h w hw), good_of_word (gw_good w (h w hw))⟩
theorem inX0 : ∀ w ∈ u_ws RX0 TX0 10, w ∈ GW := by
  show ∀ w ∈ [Cond.lays "StandTugs$Aircraft" "StandTugs$Aircraft" "span" "I", Cond.lays "StandTugs$Aircraft" "StandTugs$Aircraft" "weight" "I", Cond.lays "StandTugs$Aircraft" "StandTugs$Aircraft" "comes" "I", Cond.lays "StandTugs$Aircraft" "StandTugs$Aircraft" "leaves" "I", Cond.lays "StandTugs$Aircraft" "StandTugs$Aircraft" "passengers" "I", Cond.lays "StandTugs$Aircraft" "StandTugs$Aircraft" "place" "I", Cond.lays "StandTugs$Aircraft" "StandTugs$Aircraft" "stand" "I", Cond.lays "StandTugs$Aircraft" "StandTugs$Aircraft" "delay" "I", Cond.lays "StandTugs$Aircraft" "StandTugs$Aircraft" "minutes" "I", Cond.lays "StandTugs$Aircraft" "StandTugs$Aircraft" "buses" "I"], w ∈ GW
  exact List.forall_mem_cons.mpr ⟨gw1 133 rfl rfl, List.forall_mem_cons.mpr ⟨gw1 135 rfl rfl, List.forall_mem_cons.mpr ⟨gw1 137 rfl rfl, List.forall_mem_cons.mpr ⟨gw1 139 rfl rfl, List.forall_mem_cons.mpr ⟨gw1 141 rfl rfl, List.forall_mem_cons.mpr ⟨gw1 143 rfl rfl, List.forall_mem_cons.mpr ⟨gw1 145 rfl rfl, List.forall_mem_cons.mpr ⟨gw1 147 rfl rfl, List.forall_mem_cons.mpr ⟨gw1 149 rfl rfl, List.forall_mem_cons.mpr ⟨gw1 151 rfl rfl, fun _ h => absurd h List.not_mem_nil⟩⟩⟩⟩⟩⟩⟩⟩⟩⟩
theorem inX1 : ∀ w ∈ u_ws RX1 TX1 10, w ∈ GW := by
  show ∀ w ∈ [Cond.laysFinal "StandTugs$Field" "StandTugs$Field" "stands" "[LStandTugs$Stand;", Cond.laysFinal "StandTugs$Field" "StandTugs$Field" "tugs" "[LStandTugs$Tug;", Cond.laysFinal "StandTugs$Field" "StandTugs$Field" "aircraft" "[LStandTugs$Aircraft;", Cond.laysFinal "StandTugs$Field" "StandTugs$Field" "log" "LStandTugs$Log;", Cond.lays "StandTugs$Field" "StandTugs$Field" "standCount" "I", Cond.lays "StandTugs$Field" "StandTugs$Field" "tugCount" "I", Cond.lays "StandTugs$Field" "StandTugs$Field" "aircraftCount" "I", Cond.lays "StandTugs$Field" "StandTugs$Field" "minute" "I", Cond.lays "StandTugs$Field" "StandTugs$Field" "curfewBegin" "I", Cond.lays "StandTugs$Field" "StandTugs$Field" "curfewEnd" "I"], w ∈ GW
  exact List.forall_mem_cons.mpr ⟨gw1 190 rfl rfl, List.forall_mem_cons.mpr ⟨gw1 192 rfl rfl, List.forall_mem_cons.mpr ⟨gw1 194 rfl rfl, List.forall_mem_cons.mpr ⟨gw1 196 rfl rfl, List.forall_mem_cons.mpr ⟨gw1 198 rfl rfl, List.forall_mem_cons.mpr ⟨gw1 200 rfl rfl, List.forall_mem_cons.mpr ⟨gw1 202 rfl rfl, List.forall_mem_cons.mpr ⟨gw1 204 rfl rfl, List.forall_mem_cons.mpr ⟨gw1 206 rfl rfl, List.forall_mem_cons.mpr ⟨gw1 208 rfl rfl, fun _ h => absurd h List.not_mem_nil⟩⟩⟩⟩⟩⟩⟩⟩⟩⟩
theorem inX2 : ∀ w ∈ u_ws RX2 TX2 4, w ∈ GW := by
  show ∀ w ∈ [Cond.laysFinal "StandTugs$Log" "StandTugs$Log" "kinds" "[I", Cond.laysFinal "StandTugs$Log" "StandTugs$Log" "minutes" "[I", Cond.laysFinal "StandTugs$Log" "StandTugs$Log" "numbers" "[I", Cond.lays "StandTugs$Log" "StandTugs$Log" "total" "I"], w ∈ GW
  exact List.forall_mem_cons.mpr ⟨gw1 48 rfl rfl, List.forall_mem_cons.mpr ⟨gw1 50 rfl rfl, List.forall_mem_cons.mpr ⟨gw1 52 rfl rfl, List.forall_mem_cons.mpr ⟨gw1 54 rfl rfl, fun _ h => absurd h List.not_mem_nil⟩⟩⟩⟩
theorem inX3 : ∀ w ∈ u_ws RX3 TX3 3, w ∈ GW := by
  show ∀ w ∈ [Cond.lays "StandTugs$Stand" "StandTugs$Stand" "span" "I", Cond.lays "StandTugs$Stand" "StandTugs$Stand" "aircraft" "I", Cond.lays "StandTugs$Stand" "StandTugs$Stand" "minutes" "I"], w ∈ GW
  exact List.forall_mem_cons.mpr ⟨gw1 71 rfl rfl, List.forall_mem_cons.mpr ⟨gw1 73 rfl rfl, List.forall_mem_cons.mpr ⟨gw1 75 rfl rfl, fun _ h => absurd h List.not_mem_nil⟩⟩⟩
theorem inX4 : ∀ w ∈ u_ws RX4 TX4 9, w ∈ GW := by
  show ∀ w ∈ [Cond.laysFinal "StandTugs$Timetable" "StandTugs$Timetable" "bytes" "[I", Cond.lays "StandTugs$Timetable" "StandTugs$Timetable" "length" "I", Cond.laysFinal "StandTugs$Timetable" "StandTugs$Timetable" "kinds" "[I", Cond.laysFinal "StandTugs$Timetable" "StandTugs$Timetable" "comes" "[I", Cond.laysFinal "StandTugs$Timetable" "StandTugs$Timetable" "leaves" "[I", Cond.laysFinal "StandTugs$Timetable" "StandTugs$Timetable" "passengers" "[I", Cond.lays "StandTugs$Timetable" "StandTugs$Timetable" "count" "I", Cond.lays "StandTugs$Timetable" "StandTugs$Timetable" "position" "I", Cond.lays "StandTugs$Timetable" "StandTugs$Timetable" "number" "I"], w ∈ GW
  exact List.forall_mem_cons.mpr ⟨gw1 233 rfl rfl, List.forall_mem_cons.mpr ⟨gw1 235 rfl rfl, List.forall_mem_cons.mpr ⟨gw1 237 rfl rfl, List.forall_mem_cons.mpr ⟨gw1 239 rfl rfl, List.forall_mem_cons.mpr ⟨gw2 1 rfl rfl, List.forall_mem_cons.mpr ⟨gw2 3 rfl rfl, List.forall_mem_cons.mpr ⟨gw2 5 rfl rfl, List.forall_mem_cons.mpr ⟨gw2 7 rfl rfl, List.forall_mem_cons.mpr ⟨gw2 9 rfl rfl, fun _ h => absurd h List.not_mem_nil⟩⟩⟩⟩⟩⟩⟩⟩⟩
theorem inX5 : ∀ w ∈ u_ws RX5 TX5 5, w ∈ GW := by
  show ∀ w ∈ [Cond.lays "StandTugs$Tug" "StandTugs$Tug" "strength" "I", Cond.lays "StandTugs$Tug" "StandTugs$Tug" "aircraft" "I", Cond.lays "StandTugs$Tug" "StandTugs$Tug" "minutesLeft" "I", Cond.lays "StandTugs$Tug" "StandTugs$Tug" "pushes" "I", Cond.lays "StandTugs$Tug" "StandTugs$Tug" "tows" "I"], w ∈ GW
  exact List.forall_mem_cons.mpr ⟨gw1 94 rfl rfl, List.forall_mem_cons.mpr ⟨gw1 96 rfl rfl, List.forall_mem_cons.mpr ⟨gw1 98 rfl rfl, List.forall_mem_cons.mpr ⟨gw1 100 rfl rfl, List.forall_mem_cons.mpr ⟨gw1 102 rfl rfl, fun _ h => absurd h List.not_mem_nil⟩⟩⟩⟩⟩
theorem inX6 : ∀ w ∈ u_ws RX6 TX6 5, w ∈ GW := by
  show ∀ w ∈ [Cond.laysFinal "StandTugs" "StandTugs" "now" "LStandTugs$Field;", Cond.laysFinal "StandTugs" "StandTugs" "trial" "LStandTugs$Field;", Cond.laysFinal "StandTugs" "StandTugs" "saved" "[LStandTugs$Field;", Cond.lays "StandTugs" "StandTugs" "savedCount" "I", Cond.laysFinal "StandTugs" "StandTugs" "timetable" "LStandTugs$Timetable;"], w ∈ GW
  exact List.forall_mem_cons.mpr ⟨gw2 17 rfl rfl, List.forall_mem_cons.mpr ⟨gw2 19 rfl rfl, List.forall_mem_cons.mpr ⟨gw2 21 rfl rfl, List.forall_mem_cons.mpr ⟨gw2 23 rfl rfl, List.forall_mem_cons.mpr ⟨gw2 25 rfl rfl, fun _ h => absurd h List.not_mem_nil⟩⟩⟩⟩⟩
theorem inX7 : ∀ w ∈ u_ws RX7 TX7 12, w ∈ GW := by
  show ∀ w ∈ [Cond.laysFinal "StandTugsModel" "StandTugsModel" "all" "[I", Cond.laysFinal "StandTugsModel" "StandTugsModel" "saved" "[I", Cond.laysFinal "StandTugsModel" "StandTugsModel" "aside" "[I", Cond.lays "StandTugsModel" "StandTugsModel" "savedMany" "I", Cond.lays "StandTugsModel" "StandTugsModel" "threw" "I", Cond.laysFinal "StandTugsModel" "StandTugsModel" "wasAsked" "[Z", Cond.laysFinal "StandTugsModel" "StandTugsModel" "text" "[I", Cond.lays "StandTugsModel" "StandTugsModel" "textLong" "I", Cond.lays "StandTugsModel" "StandTugsModel" "place" "I", Cond.laysFinal "StandTugsModel" "StandTugsModel" "read" "[I", Cond.lays "StandTugsModel" "StandTugsModel" "readMany" "I", Cond.lays "StandTugsModel" "StandTugsModel" "number" "I"], w ∈ GW
  exact List.forall_mem_cons.mpr ⟨gw4 82 rfl rfl, List.forall_mem_cons.mpr ⟨gw4 84 rfl rfl, List.forall_mem_cons.mpr ⟨gw4 86 rfl rfl, List.forall_mem_cons.mpr ⟨gw4 88 rfl rfl, List.forall_mem_cons.mpr ⟨gw4 90 rfl rfl, List.forall_mem_cons.mpr ⟨gw4 92 rfl rfl, List.forall_mem_cons.mpr ⟨gw4 94 rfl rfl, List.forall_mem_cons.mpr ⟨gw4 96 rfl rfl, List.forall_mem_cons.mpr ⟨gw4 98 rfl rfl, List.forall_mem_cons.mpr ⟨gw4 100 rfl rfl, List.forall_mem_cons.mpr ⟨gw4 102 rfl rfl, List.forall_mem_cons.mpr ⟨gw4 104 rfl rfl, fun _ h => absurd h List.not_mem_nil⟩⟩⟩⟩⟩⟩⟩⟩⟩⟩⟩⟩
def NW : List Cond := [(Jvm.Cond.methodLinkNest "StandTugs$Field" (31 : Nat) ({ cls := "StandTugs$Log", name := "<init>", desc := "()V" } : Jvm.MethodName) "StandTugs"), (Jvm.Cond.methodLinkNest "StandTugs$Field" (36 : Nat) ({ cls := "StandTugs$Stand", name := "<init>", desc := "()V" } : Jvm.MethodName) "StandTugs"), (Jvm.Cond.methodLinkNest "StandTugs$Field" (37 : Nat) ({ cls := "StandTugs$Tug", name := "<init>", desc := "()V" } : Jvm.MethodName) "StandTugs"), (Jvm.Cond.methodLinkNest "StandTugs$Field" (38 : Nat) ({ cls := "StandTugs$Aircraft", name := "<init>", desc := "()V" } : Jvm.MethodName) "StandTugs"), (Jvm.Cond.methodLinkNest "StandTugs" (29 : Nat) ({ cls := "StandTugs$Timetable", name := "<init>", desc := "()V" } : Jvm.MethodName) "StandTugs"), (Jvm.Cond.methodLinkNest "StandTugs$Timetable" (45 : Nat) ({ cls := "StandTugs", name := "isOutside", desc := "(III)Z" } : Jvm.MethodName) "StandTugs"), (Jvm.Cond.castable "java/lang/IllegalArgumentException" "java/lang/IllegalArgumentException"), (Jvm.Cond.declares ({ cls := "java/lang/RuntimeException", name := "<init>", desc := "()V" } : Jvm.MethodName)), (Jvm.Cond.declares ({ cls := "java/lang/RuntimeException", name := "<init>", desc := "(Ljava/lang/String;)V" } : Jvm.MethodName)), (Jvm.Cond.declares ({ cls := "java/lang/Exception", name := "<init>", desc := "()V" } : Jvm.MethodName)), (Jvm.Cond.declares ({ cls := "java/lang/Exception", name := "<init>", desc := "(Ljava/lang/String;)V" } : Jvm.MethodName)), (Jvm.Cond.declares ({ cls := "java/lang/Throwable", name := "<init>", desc := "()V" } : Jvm.MethodName)), (Jvm.Cond.declares ({ cls := "java/lang/Throwable", name := "<init>", desc := "(Ljava/lang/String;)V" } : Jvm.MethodName)), (Jvm.Cond.castable "java/lang/IndexOutOfBoundsException" "java/lang/IndexOutOfBoundsException"), (Jvm.Cond.castable "java/lang/IllegalStateException" "java/lang/IllegalStateException")]
theorem nw_form : ∀ w ∈ NW, (∃ (a : String) (i : Nat) (x : MethodName) (h : String), w = .methodLinkNest a i x h) ∨ (∃ a b : String, w = .castable a b) ∨ ∃ x : MethodName, w = .declares x := List.forall_mem_cons.mpr ⟨Or.inl ⟨_, _, _, _, rfl⟩, List.forall_mem_cons.mpr ⟨Or.inl ⟨_, _, _, _, rfl⟩, List.forall_mem_cons.mpr ⟨Or.inl ⟨_, _, _, _, rfl⟩, List.forall_mem_cons.mpr ⟨Or.inl ⟨_, _, _, _, rfl⟩, List.forall_mem_cons.mpr ⟨Or.inl ⟨_, _, _, _, rfl⟩, List.forall_mem_cons.mpr ⟨Or.inl ⟨_, _, _, _, rfl⟩, List.forall_mem_cons.mpr ⟨Or.inr (Or.inl ⟨_, _, rfl⟩), List.forall_mem_cons.mpr ⟨Or.inr (Or.inr ⟨_, rfl⟩), List.forall_mem_cons.mpr ⟨Or.inr (Or.inr ⟨_, rfl⟩), List.forall_mem_cons.mpr ⟨Or.inr (Or.inr ⟨_, rfl⟩), List.forall_mem_cons.mpr ⟨Or.inr (Or.inr ⟨_, rfl⟩), List.forall_mem_cons.mpr ⟨Or.inr (Or.inr ⟨_, rfl⟩), List.forall_mem_cons.mpr ⟨Or.inr (Or.inr ⟨_, rfl⟩), List.forall_mem_cons.mpr ⟨Or.inr (Or.inl ⟨_, _, rfl⟩), List.forall_mem_cons.mpr ⟨Or.inr (Or.inl ⟨_, _, rfl⟩), fun _ h => absurd h List.not_mem_nil⟩⟩⟩⟩⟩⟩⟩⟩⟩⟩⟩⟩⟩⟩⟩
theorem nw_in : ∀ w ∈ NW, w ∈ tables_1 := List.forall_mem_cons.mpr ⟨tb1 39 rfl, List.forall_mem_cons.mpr ⟨tb1 59 rfl, List.forall_mem_cons.mpr ⟨tb1 79 rfl, List.forall_mem_cons.mpr ⟨tb1 106 rfl, List.forall_mem_cons.mpr ⟨tb1 214 rfl, List.forall_mem_cons.mpr ⟨tb2 189 rfl, List.forall_mem_cons.mpr ⟨tb3 35 rfl, List.forall_mem_cons.mpr ⟨tb3 36 rfl, List.forall_mem_cons.mpr ⟨tb3 37 rfl, List.forall_mem_cons.mpr ⟨tb3 38 rfl, List.forall_mem_cons.mpr ⟨tb3 39 rfl, List.forall_mem_cons.mpr ⟨tb3 40 rfl, List.forall_mem_cons.mpr ⟨tb3 41 rfl, List.forall_mem_cons.mpr ⟨tb3 116 rfl, List.forall_mem_cons.mpr ⟨tb3 167 rfl, fun _ h => absurd h List.not_mem_nil⟩⟩⟩⟩⟩⟩⟩⟩⟩⟩⟩⟩⟩⟩⟩
def AOS : List String := ["StandTugs$Stand", "StandTugs$Tug", "StandTugs$Aircraft", "StandTugs$Field"]
theorem ao_in : ∀ C ∈ AOS, Cond.arrayOver (.object C) ∈ tables_1 := List.forall_mem_cons.mpr ⟨tb1 32 rfl, List.forall_mem_cons.mpr ⟨tb1 34 rfl, List.forall_mem_cons.mpr ⟨tb1 36 rfl, List.forall_mem_cons.mpr ⟨tb1 211 rfl, fun _ h => absurd h List.not_mem_nil⟩⟩⟩⟩
def STR : List (String × Nat × String) := [("StandTugs", 40, "stands or tugs out of range"), ("StandTugs", 61, "no such stand"), ("StandTugs", 64, "span out of range"), ("StandTugs", 78, "no such tug"), ("StandTugs", 80, "strength out of range"), ("StandTugs", 91, "begin or end out of range"), ("StandTugs", 108, "kind, minutes or passengers out of range"), ("StandTugs", 115, "12 aircraft already"), ("StandTugs", 125, "no such aircraft"), ("StandTugs", 136, "leaves out of range"), ("StandTugs", 141, "pushed back or gone"), ("StandTugs", 146, "minutes out of range"), ("StandTugs", 148, "after the last minute"), ("StandTugs", 157, "what out of range"), ("StandTugs", 177, "not so many events"), ("StandTugs", 213, "value out of range"), ("StandTugs", 218, "the text is full"), ("StandTugs", 242, "no saved state")]
theorem str_in : ∀ z ∈ STR, Cond.stringRef z.1 z.2.1 z.2.2 ∈ tables_1 := List.forall_mem_cons.mpr ⟨tb3 74 rfl, List.forall_mem_cons.mpr ⟨tb3 123 rfl, List.forall_mem_cons.mpr ⟨tb3 130 rfl, List.forall_mem_cons.mpr ⟨tb3 142 rfl, List.forall_mem_cons.mpr ⟨tb3 143 rfl, List.forall_mem_cons.mpr ⟨tb3 151 rfl, List.forall_mem_cons.mpr ⟨tb3 164 rfl, List.forall_mem_cons.mpr ⟨tb3 174 rfl, List.forall_mem_cons.mpr ⟨tb3 192 rfl, List.forall_mem_cons.mpr ⟨tb3 193 rfl, List.forall_mem_cons.mpr ⟨tb3 194 rfl, List.forall_mem_cons.mpr ⟨tb3 202 rfl, List.forall_mem_cons.mpr ⟨tb3 203 rfl, List.forall_mem_cons.mpr ⟨tb3 213 rfl, List.forall_mem_cons.mpr ⟨tb4 2 rfl, List.forall_mem_cons.mpr ⟨tb4 36 rfl, List.forall_mem_cons.mpr ⟨tb4 37 rfl, List.forall_mem_cons.mpr ⟨tb4 49 rfl, fun _ h => absurd h List.not_mem_nil⟩⟩⟩⟩⟩⟩⟩⟩⟩⟩⟩⟩⟩⟩⟩⟩⟩⟩
