def RX0 : String := "StandTugs$Aircraft"
def TX0 : u_T := fun k => match k with
  | 0 => ("StandTugs$Aircraft", "span", "I", false)
  | 1 => ("StandTugs$Aircraft", "weight", "I", false)
  | 2 => ("StandTugs$Aircraft", "comes", "I", false)
  | 3 => ("StandTugs$Aircraft", "leaves", "I", false)
  | 4 => ("StandTugs$Aircraft", "passengers", "I", false)
  | 5 => ("StandTugs$Aircraft", "place", "I", false)
  | 6 => ("StandTugs$Aircraft", "stand", "I", false)
  | 7 => ("StandTugs$Aircraft", "delay", "I", false)
  | 8 => ("StandTugs$Aircraft", "minutes", "I", false)
  | _ => ("StandTugs$Aircraft", "buses", "I", false)
def tyX0 : Nat → FieldType := fun k => match k with
  | 0 => .int
  | 1 => .int
  | 2 => .int
  | 3 => .int
  | 4 => .int
  | 5 => .int
  | 6 => .int
  | 7 => .int
  | 8 => .int
  | _ => .int
theorem nmX0 : ∀ a, a < 10 → ∀ b, b < 10 → a ≠ b → (TX0 a).2.1 ≠ (TX0 b).2.1 := by decide +kernel
theorem tyX0_ok : ∀ k, k < 10 → parseFieldDescriptor (TX0 k).2.2.1 = some (tyX0 k) := by decide +kernel
abbrev cX0_init : ByteArray := prog_2_method_1_code
def yX0_init : MethodName := ⟨RX0, "<init>", "()V"⟩
abbrev cX0_tell : ByteArray := prog_2_method_2_code
def yX0_tell : MethodName := ⟨RX0, "tell", "(IIII)V"⟩
abbrev cX0_copyFrom : ByteArray := prog_2_method_3_code
def yX0_copyFrom : MethodName := ⟨RX0, "copyFrom", "(LStandTugs$Aircraft;)V"⟩
abbrev cX0_isOnStandOrBay : ByteArray := prog_2_method_4_code
def yX0_isOnStandOrBay : MethodName := ⟨RX0, "isOnStandOrBay", "()Z"⟩
abbrev cX0_takeBuses : ByteArray := prog_2_method_5_code
def yX0_takeBuses : MethodName := ⟨RX0, "takeBuses", "()V"⟩
abbrev cX0_answer : ByteArray := prog_2_method_6_code
def yX0_answer : MethodName := ⟨RX0, "answer", "(I)I"⟩
def RX1 : String := "StandTugs$Field"
def TX1 : u_T := fun k => match k with
  | 0 => ("StandTugs$Field", "stands", "[LStandTugs$Stand;", true)
  | 1 => ("StandTugs$Field", "tugs", "[LStandTugs$Tug;", true)
  | 2 => ("StandTugs$Field", "aircraft", "[LStandTugs$Aircraft;", true)
  | 3 => ("StandTugs$Field", "log", "LStandTugs$Log;", true)
  | 4 => ("StandTugs$Field", "standCount", "I", false)
  | 5 => ("StandTugs$Field", "tugCount", "I", false)
  | 6 => ("StandTugs$Field", "aircraftCount", "I", false)
  | 7 => ("StandTugs$Field", "minute", "I", false)
  | 8 => ("StandTugs$Field", "curfewBegin", "I", false)
  | _ => ("StandTugs$Field", "curfewEnd", "I", false)
def tyX1 : Nat → FieldType := fun k => match k with
  | 0 => .array (.object "StandTugs$Stand")
  | 1 => .array (.object "StandTugs$Tug")
  | 2 => .array (.object "StandTugs$Aircraft")
  | 3 => .object "StandTugs$Log"
  | 4 => .int
  | 5 => .int
  | 6 => .int
  | 7 => .int
  | 8 => .int
  | _ => .int
theorem nmX1 : ∀ a, a < 10 → ∀ b, b < 10 → a ≠ b → (TX1 a).2.1 ≠ (TX1 b).2.1 := by decide +kernel
theorem tyX1_ok : ∀ k, k < 10 → parseFieldDescriptor (TX1 k).2.2.1 = some (tyX1 k) := by decide +kernel
abbrev cX1_init : ByteArray := prog_3_method_1_code
def yX1_init : MethodName := ⟨RX1, "<init>", "()V"⟩
abbrev cX1_build : ByteArray := prog_3_method_2_code
def yX1_build : MethodName := ⟨RX1, "build", "(II)V"⟩
abbrev cX1_restart : ByteArray := prog_3_method_3_code
def yX1_restart : MethodName := ⟨RX1, "restart", "()V"⟩
abbrev cX1_copyFrom : ByteArray := prog_3_method_4_code
def yX1_copyFrom : MethodName := ⟨RX1, "copyFrom", "(LStandTugs$Field;)V"⟩
abbrev cX1_hasStand : ByteArray := prog_3_method_5_code
def yX1_hasStand : MethodName := ⟨RX1, "hasStand", "(I)Z"⟩
abbrev cX1_hasTug : ByteArray := prog_3_method_6_code
def yX1_hasTug : MethodName := ⟨RX1, "hasTug", "(I)Z"⟩
abbrev cX1_hasAircraft : ByteArray := prog_3_method_7_code
def yX1_hasAircraft : MethodName := ⟨RX1, "hasAircraft", "(I)Z"⟩
abbrev cX1_add : ByteArray := prog_3_method_8_code
def yX1_add : MethodName := ⟨RX1, "add", "(IIII)V"⟩
abbrev cX1_passSome : ByteArray := prog_3_method_10_code
def yX1_passSome : MethodName := ⟨RX1, "passSome", "(I)I"⟩
abbrev cX1_quietMinutes : ByteArray := prog_3_method_11_code
def yX1_quietMinutes : MethodName := ⟨RX1, "quietMinutes", "()I"⟩
abbrev cX1_workTugs : ByteArray := prog_3_method_12_code
def yX1_workTugs : MethodName := ⟨RX1, "workTugs", "()V"⟩
abbrev cX1_finish : ByteArray := prog_3_method_13_code
def yX1_finish : MethodName := ⟨RX1, "finish", "(I)V"⟩
abbrev cX1_receive : ByteArray := prog_3_method_14_code
def yX1_receive : MethodName := ⟨RX1, "receive", "()V"⟩
abbrev cX1_pushBack : ByteArray := prog_3_method_15_code
def yX1_pushBack : MethodName := ⟨RX1, "pushBack", "()V"⟩
abbrev cX1_turn : ByteArray := prog_3_method_16_code
def yX1_turn : MethodName := ⟨RX1, "turn", "(I)I"⟩
abbrev cX1_nextToLeave : ByteArray := prog_3_method_17_code
def yX1_nextToLeave : MethodName := ⟨RX1, "nextToLeave", "(I)I"⟩
abbrev cX1_beginPush : ByteArray := prog_3_method_18_code
def yX1_beginPush : MethodName := ⟨RX1, "beginPush", "(I)V"⟩
abbrev cX1_tow : ByteArray := prog_3_method_19_code
def yX1_tow : MethodName := ⟨RX1, "tow", "()V"⟩
abbrev cX1_countMinutes : ByteArray := prog_3_method_20_code
def yX1_countMinutes : MethodName := ⟨RX1, "countMinutes", "(I)V"⟩
abbrev cX1_freeStandFor : ByteArray := prog_3_method_21_code
def yX1_freeStandFor : MethodName := ⟨RX1, "freeStandFor", "(I)I"⟩
abbrev cX1_freeTugFor : ByteArray := prog_3_method_22_code
def yX1_freeTugFor : MethodName := ⟨RX1, "freeTugFor", "(I)I"⟩
abbrev cX1_reason : ByteArray := prog_3_method_23_code
def yX1_reason : MethodName := ⟨RX1, "reason", "(I)I"⟩
abbrev cX1_isCurfew : ByteArray := prog_3_method_24_code
def yX1_isCurfew : MethodName := ⟨RX1, "isCurfew", "()Z"⟩
abbrev cX1_isPushedFrom : ByteArray := prog_3_method_25_code
def yX1_isPushedFrom : MethodName := ⟨RX1, "isPushedFrom", "(I)Z"⟩
abbrev cX1_passUntilAllGone : ByteArray := prog_3_method_26_code
def yX1_passUntilAllGone : MethodName := ⟨RX1, "passUntilAllGone", "()I"⟩
abbrev cX1_areAllGone : ByteArray := prog_3_method_27_code
def yX1_areAllGone : MethodName := ⟨RX1, "areAllGone", "()Z"⟩
abbrev cX1_countAt : ByteArray := prog_3_method_28_code
def yX1_countAt : MethodName := ⟨RX1, "countAt", "(I)I"⟩
abbrev cX1_sumOfDelays : ByteArray := prog_3_method_29_code
def yX1_sumOfDelays : MethodName := ⟨RX1, "sumOfDelays", "()I"⟩
abbrev cX1_greatestDelay : ByteArray := prog_3_method_30_code
def yX1_greatestDelay : MethodName := ⟨RX1, "greatestDelay", "()I"⟩
abbrev cX1_sumOfBuses : ByteArray := prog_3_method_31_code
def yX1_sumOfBuses : MethodName := ⟨RX1, "sumOfBuses", "()I"⟩
abbrev cX1_standAnswer : ByteArray := prog_3_method_32_code
def yX1_standAnswer : MethodName := ⟨RX1, "standAnswer", "(II)I"⟩
abbrev cX1_answer : ByteArray := prog_3_method_33_code
def yX1_answer : MethodName := ⟨RX1, "answer", "(I)I"⟩
def RX2 : String := "StandTugs$Log"
def TX2 : u_T := fun k => match k with
  | 0 => ("StandTugs$Log", "kinds", "[I", true)
  | 1 => ("StandTugs$Log", "minutes", "[I", true)
  | 2 => ("StandTugs$Log", "numbers", "[I", true)
  | _ => ("StandTugs$Log", "total", "I", false)
def tyX2 : Nat → FieldType := fun k => match k with
  | 0 => .array .int
  | 1 => .array .int
  | 2 => .array .int
  | _ => .int
theorem nmX2 : ∀ a, a < 4 → ∀ b, b < 4 → a ≠ b → (TX2 a).2.1 ≠ (TX2 b).2.1 := by decide +kernel
theorem tyX2_ok : ∀ k, k < 4 → parseFieldDescriptor (TX2 k).2.2.1 = some (tyX2 k) := by decide +kernel
abbrev cX2_init : ByteArray := prog_4_method_1_code
def yX2_init : MethodName := ⟨RX2, "<init>", "()V"⟩
abbrev cX2_put : ByteArray := prog_4_method_2_code
def yX2_put : MethodName := ⟨RX2, "put", "(III)V"⟩
abbrev cX2_kept : ByteArray := prog_4_method_3_code
def yX2_kept : MethodName := ⟨RX2, "kept", "()I"⟩
abbrev cX2_copyFrom : ByteArray := prog_4_method_5_code
def yX2_copyFrom : MethodName := ⟨RX2, "copyFrom", "(LStandTugs$Log;)V"⟩
def RX3 : String := "StandTugs$Stand"
def TX3 : u_T := fun k => match k with
  | 0 => ("StandTugs$Stand", "span", "I", false)
  | 1 => ("StandTugs$Stand", "aircraft", "I", false)
  | _ => ("StandTugs$Stand", "minutes", "I", false)
def tyX3 : Nat → FieldType := fun k => match k with
  | 0 => .int
  | 1 => .int
  | _ => .int
theorem nmX3 : ∀ a, a < 3 → ∀ b, b < 3 → a ≠ b → (TX3 a).2.1 ≠ (TX3 b).2.1 := by decide +kernel
theorem tyX3_ok : ∀ k, k < 3 → parseFieldDescriptor (TX3 k).2.2.1 = some (tyX3 k) := by decide +kernel
abbrev cX3_init : ByteArray := prog_5_method_1_code
def yX3_init : MethodName := ⟨RX3, "<init>", "()V"⟩
abbrev cX3_restart : ByteArray := prog_5_method_2_code
def yX3_restart : MethodName := ⟨RX3, "restart", "()V"⟩
abbrev cX3_copyFrom : ByteArray := prog_5_method_3_code
def yX3_copyFrom : MethodName := ⟨RX3, "copyFrom", "(LStandTugs$Stand;)V"⟩
def RX4 : String := "StandTugs$Timetable"
def TX4 : u_T := fun k => match k with
  | 0 => ("StandTugs$Timetable", "bytes", "[I", true)
  | 1 => ("StandTugs$Timetable", "length", "I", false)
  | 2 => ("StandTugs$Timetable", "kinds", "[I", true)
  | 3 => ("StandTugs$Timetable", "comes", "[I", true)
  | 4 => ("StandTugs$Timetable", "leaves", "[I", true)
  | 5 => ("StandTugs$Timetable", "passengers", "[I", true)
  | 6 => ("StandTugs$Timetable", "count", "I", false)
  | 7 => ("StandTugs$Timetable", "position", "I", false)
  | _ => ("StandTugs$Timetable", "number", "I", false)
def tyX4 : Nat → FieldType := fun k => match k with
  | 0 => .array .int
  | 1 => .int
  | 2 => .array .int
  | 3 => .array .int
  | 4 => .array .int
  | 5 => .array .int
  | 6 => .int
  | 7 => .int
  | _ => .int
theorem nmX4 : ∀ a, a < 9 → ∀ b, b < 9 → a ≠ b → (TX4 a).2.1 ≠ (TX4 b).2.1 := by decide +kernel
theorem tyX4_ok : ∀ k, k < 9 → parseFieldDescriptor (TX4 k).2.2.1 = some (tyX4 k) := by decide +kernel
abbrev cX4_init : ByteArray := prog_6_method_1_code
def yX4_init : MethodName := ⟨RX4, "<init>", "()V"⟩
def RX5 : String := "StandTugs$Tug"
def TX5 : u_T := fun k => match k with
  | 0 => ("StandTugs$Tug", "strength", "I", false)
  | 1 => ("StandTugs$Tug", "aircraft", "I", false)
  | 2 => ("StandTugs$Tug", "minutesLeft", "I", false)
  | 3 => ("StandTugs$Tug", "pushes", "I", false)
  | _ => ("StandTugs$Tug", "tows", "I", false)
def tyX5 : Nat → FieldType := fun k => match k with
  | 0 => .int
  | 1 => .int
  | 2 => .int
  | 3 => .int
  | _ => .int
theorem nmX5 : ∀ a, a < 5 → ∀ b, b < 5 → a ≠ b → (TX5 a).2.1 ≠ (TX5 b).2.1 := by decide +kernel
theorem tyX5_ok : ∀ k, k < 5 → parseFieldDescriptor (TX5 k).2.2.1 = some (tyX5 k) := by decide +kernel
abbrev cX5_init : ByteArray := prog_7_method_1_code
def yX5_init : MethodName := ⟨RX5, "<init>", "()V"⟩
abbrev cX5_restart : ByteArray := prog_7_method_2_code
def yX5_restart : MethodName := ⟨RX5, "restart", "()V"⟩
abbrev cX5_copyFrom : ByteArray := prog_7_method_3_code
def yX5_copyFrom : MethodName := ⟨RX5, "copyFrom", "(LStandTugs$Tug;)V"⟩
abbrev cX5_take : ByteArray := prog_7_method_4_code
def yX5_take : MethodName := ⟨RX5, "take", "(II)V"⟩
abbrev cX5_answer : ByteArray := prog_7_method_5_code
def yX5_answer : MethodName := ⟨RX5, "answer", "(I)I"⟩
def RX6 : String := "StandTugs"
def TX6 : u_T := fun k => match k with
  | 0 => ("StandTugs", "now", "LStandTugs$Field;", true)
  | 1 => ("StandTugs", "trial", "LStandTugs$Field;", true)
  | 2 => ("StandTugs", "saved", "[LStandTugs$Field;", true)
  | 3 => ("StandTugs", "savedCount", "I", false)
  | _ => ("StandTugs", "timetable", "LStandTugs$Timetable;", true)
def tyX6 : Nat → FieldType := fun k => match k with
  | 0 => .object "StandTugs$Field"
  | 1 => .object "StandTugs$Field"
  | 2 => .array (.object "StandTugs$Field")
  | 3 => .int
  | _ => .object "StandTugs$Timetable"
theorem nmX6 : ∀ a, a < 5 → ∀ b, b < 5 → a ≠ b → (TX6 a).2.1 ≠ (TX6 b).2.1 := by decide +kernel
theorem tyX6_ok : ∀ k, k < 5 → parseFieldDescriptor (TX6 k).2.2.1 = some (tyX6 k) := by decide +kernel
abbrev cX6_init : ByteArray := prog_1_method_1_code
def yX6_init : MethodName := ⟨RX6, "<init>", "()V"⟩
abbrev cX6_begin : ByteArray := prog_1_method_2_code
def yX6_begin : MethodName := ⟨RX6, "begin", "(II)I"⟩
abbrev cX6_setSpan : ByteArray := prog_1_method_3_code
def yX6_setSpan : MethodName := ⟨RX6, "setSpan", "(II)I"⟩
abbrev cX6_setStrength : ByteArray := prog_1_method_4_code
def yX6_setStrength : MethodName := ⟨RX6, "setStrength", "(II)I"⟩
abbrev cX6_setCurfew : ByteArray := prog_1_method_5_code
def yX6_setCurfew : MethodName := ⟨RX6, "setCurfew", "(II)I"⟩
abbrev cX6_expect : ByteArray := prog_1_method_6_code
def yX6_expect : MethodName := ⟨RX6, "expect", "(IIII)I"⟩
abbrev cX6_setLeaves : ByteArray := prog_1_method_7_code
def yX6_setLeaves : MethodName := ⟨RX6, "setLeaves", "(II)I"⟩
abbrev cX6_pass : ByteArray := prog_1_method_8_code
def yX6_pass : MethodName := ⟨RX6, "pass", "(I)I"⟩
abbrev cX6_aircraft : ByteArray := prog_1_method_9_code
def yX6_aircraft : MethodName := ⟨RX6, "aircraft", "(II)I"⟩
abbrev cX6_stand : ByteArray := prog_1_method_10_code
def yX6_stand : MethodName := ⟨RX6, "stand", "(II)I"⟩
abbrev cX6_tug : ByteArray := prog_1_method_11_code
def yX6_tug : MethodName := ⟨RX6, "tug", "(II)I"⟩
abbrev cX6_value : ByteArray := prog_1_method_12_code
def yX6_value : MethodName := ⟨RX6, "value", "(I)I"⟩
abbrev cX6_why : ByteArray := prog_1_method_14_code
def yX6_why : MethodName := ⟨RX6, "why", "(I)I"⟩
abbrev cX6_delayOf : ByteArray := prog_1_method_15_code
def yX6_delayOf : MethodName := ⟨RX6, "delayOf", "(I)I"⟩
abbrev cX6_minutesToAll : ByteArray := prog_1_method_16_code
def yX6_minutesToAll : MethodName := ⟨RX6, "minutesToAll", "()I"⟩
abbrev cX6_used : ByteArray := prog_1_method_19_code
def yX6_used : MethodName := ⟨RX6, "used", "()D"⟩
abbrev cX6_undo : ByteArray := prog_1_method_23_code
def yX6_undo : MethodName := ⟨RX6, "undo", "()I"⟩
abbrev cX6_isOutside : ByteArray := prog_1_method_25_code
def yX6_isOutside : MethodName := ⟨RX6, "isOutside", "(III)Z"⟩
abbrev cX6_isKind : ByteArray := prog_1_method_26_code
def yX6_isKind : MethodName := ⟨RX6, "isKind", "(I)Z"⟩
abbrev cX6_save : ByteArray := prog_1_method_27_code
def yX6_save : MethodName := ⟨RX6, "save", "()V"⟩
abbrev cX6_dropOldest : ByteArray := prog_1_method_28_code
def yX6_dropOldest : MethodName := ⟨RX6, "dropOldest", "()V"⟩
def RX7 : String := "StandTugsModel"
def TX7 : u_T := fun k => match k with
  | _ => ("", "", "", false)
def tyX7 : Nat → FieldType := fun k => match k with
  | _ => .int
theorem nmX7 : ∀ a, a < 0 → ∀ b, b < 0 → a ≠ b → (TX7 a).2.1 ≠ (TX7 b).2.1 := by decide +kernel
theorem tyX7_ok : ∀ k, k < 0 → parseFieldDescriptor (TX7 k).2.2.1 = some (tyX7 k) := by decide +kernel
def RJ9 : String := "java/lang/Math"
def TJ9 : u_T := fun k => match k with
  | _ => ("", "", "", false)
def tyJ9 : Nat → FieldType := fun k => match k with
  | _ => .int
theorem nmJ9 : ∀ a, a < 0 → ∀ b, b < 0 → a ≠ b → (TJ9 a).2.1 ≠ (TJ9 b).2.1 := by decide +kernel
theorem tyJ9_ok : ∀ k, k < 0 → parseFieldDescriptor (TJ9 k).2.2.1 = some (tyJ9 k) := by decide +kernel
abbrev cJ9_max_7cf53 : ByteArray := prog_14_method_65_code
def yJ9_max_7cf53 : MethodName := ⟨RJ9, "max", "(II)I"⟩
abbrev cJ9_min_7cf53 : ByteArray := prog_14_method_69_code
def yJ9_min_7cf53 : MethodName := ⟨RJ9, "min", "(II)I"⟩
def RJ0 : String := "java/lang/String"
def TJ0 : u_T := fun k => match k with
  | _ => ("", "", "", false)
def tyJ0 : Nat → FieldType := fun k => match k with
  | _ => .int
theorem nmJ0 : ∀ a, a < 0 → ∀ b, b < 0 → a ≠ b → (TJ0 a).2.1 ≠ (TJ0 b).2.1 := by decide +kernel
theorem tyJ0_ok : ∀ k, k < 0 → parseFieldDescriptor (TJ0 k).2.2.1 = some (tyJ0 k) := by decide +kernel
def RJ10 : String := "java/lang/System"
def TJ10 : u_T := fun k => match k with
  | _ => ("", "", "", false)
def tyJ10 : Nat → FieldType := fun k => match k with
  | _ => .int
theorem nmJ10 : ∀ a, a < 0 → ∀ b, b < 0 → a ≠ b → (TJ10 a).2.1 ≠ (TJ10 b).2.1 := by decide +kernel
theorem tyJ10_ok : ∀ k, k < 0 → parseFieldDescriptor (TJ10 k).2.2.1 = some (tyJ10 k) := by decide +kernel
def RL : String := "StandTugsLaw"
abbrev cL_cell : ByteArray := method_2_code
def yL_cell : MethodName := ⟨RL, "cell", "([II)I"⟩
abbrev cL_up : ByteArray := method_3_code
def yL_up : MethodName := ⟨RL, "up", "(II)I"⟩
abbrev cL_fields : ByteArray := method_4_code
def yL_fields : MethodName := ⟨RL, "fields", "(LStandTugs;LStandTugs;I)Z"⟩
abbrev cL_isStep : ByteArray := method_5_code
def yL_isStep : MethodName := ⟨RL, "isStep", "(LStandTugs;LStandTugs;I)Z"⟩
abbrev cL_turned : ByteArray := method_6_code
def yL_turned : MethodName := ⟨RL, "turned", "(II)I"⟩
abbrev cL_areAlike : ByteArray := method_7_code
def yL_areAlike : MethodName := ⟨RL, "areAlike", "(LStandTugs;LStandTugs;)Z"⟩
abbrev cL_isSound : ByteArray := method_8_code
def yL_isSound : MethodName := ⟨RL, "isSound", "(LStandTugs;)Z"⟩
abbrev cL_law : ByteArray := code
def yL_law : MethodName := ⟨RL, "law", "([I)Z"⟩
abbrev vwCl : List vw_C := [(RX0, TX0, 10), (RX1, TX1, 10), (RX2, TX2, 4), (RX3, TX3, 3), (RX4, TX4, 9), (RX5, TX5, 5), (RX6, TX6, 5)]
/-- the words of the tables that stay: each has its place -/
def GW : List Cond := lw_tbl.filter goodWord
theorem gw_in : ∀ w ∈ GW, w ∈ lw_tbl := fun w h => (List.mem_filter.mp h).1
theorem gw_good : ∀ w ∈ GW, goodWord w = true := fun w h => (List.mem_filter.mp h).2
theorem gw_of {w : Cond} (h : w ∈ tables_1) (hg : goodWord w = true) : w ∈ GW := List.mem_filter.mpr ⟨List.mem_append_right _ h, hg⟩
theorem tb1 {w : Cond} (i : Nat) (h : tables_1_1[i]? = some w) : w ∈ tables_1 := by
  show w ∈ tables_1_1 ++ (tables_1_2 ++ (tables_1_3))
  exact List.mem_append_left _ (List.mem_of_getElem? h)
theorem gw1 {w : Cond} (i : Nat) (h : tables_1_1[i]? = some w) (hg : goodWord w = true) : w ∈ GW := gw_of (tb1 i h) hg
theorem tb2 {w : Cond} (i : Nat) (h : tables_1_2[i]? = some w) : w ∈ tables_1 := by
  show w ∈ tables_1_1 ++ (tables_1_2 ++ (tables_1_3))
  exact List.mem_append_right _ (List.mem_append_left _ (List.mem_of_getElem? h))
theorem gw2 {w : Cond} (i : Nat) (h : tables_1_2[i]? = some w) (hg : goodWord w = true) : w ∈ GW := gw_of (tb2 i h) hg
theorem tb3 {w : Cond} (i : Nat) (h : tables_1_3[i]? = some w) : w ∈ tables_1 := by
  show w ∈ tables_1_1 ++ (tables_1_2 ++ (tables_1_3))
  exact List.mem_append_right _ (List.mem_append_right _ (List.mem_of_getElem? h))
theorem gw3 {w : Cond} (i : Nat) (h : tables_1_3[i]? = some w) (hg : goodWord w = true) : w ∈ GW := gw_of (tb3 i h) hg
theorem gs1 {q : MethodName × Nat} (i : Nat) (h : lw_privs_1[i]? = some q) : Cond.selects q.1.cls q.1 q.1 ∈ GW := by
  refine List.mem_filter.mpr ⟨List.mem_append_left _ (List.mem_map.mpr ⟨q, ?_, rfl⟩), rfl⟩
  show q ∈ lw_privs_1 ++ (lw_privs_2)
  exact List.mem_append_left _ (List.mem_of_getElem? h)
theorem gs2 {q : MethodName × Nat} (i : Nat) (h : lw_privs_2[i]? = some q) : Cond.selects q.1.cls q.1 q.1 ∈ GW := by
  refine List.mem_filter.mpr ⟨List.mem_append_left _ (List.mem_map.mpr ⟨q, ?_, rfl⟩), rfl⟩
  show q ∈ lw_privs_1 ++ (lw_privs_2)
  exact List.mem_append_right _ (List.mem_of_getElem? h)
theorem gw_goodIn {ws : List Cond} (h : ∀ w ∈ ws, w ∈ GW) : GoodIn GW ws := fun w hw => ⟨h w hw, good_of_word (gw_good w (h w hw))⟩
theorem gw_sub {big ws : List Cond} (hb : ∀ w ∈ GW, w ∈ big) (h : ∀ w ∈ ws, w ∈ GW) : GoodIn big ws := fun w hw => ⟨hb w (h w hw), good_of_word (gw_good w (h w hw))⟩
theorem inX0 : ∀ w ∈ u_ws RX0 TX0 10, w ∈ GW := by
  show ∀ w ∈ [Cond.lays "StandTugs$Aircraft" "StandTugs$Aircraft" "span" "I", Cond.lays "StandTugs$Aircraft" "StandTugs$Aircraft" "weight" "I", Cond.lays "StandTugs$Aircraft" "StandTugs$Aircraft" "comes" "I", Cond.lays "StandTugs$Aircraft" "StandTugs$Aircraft" "leaves" "I", Cond.lays "StandTugs$Aircraft" "StandTugs$Aircraft" "passengers" "I", Cond.lays "StandTugs$Aircraft" "StandTugs$Aircraft" "place" "I", Cond.lays "StandTugs$Aircraft" "StandTugs$Aircraft" "stand" "I", Cond.lays "StandTugs$Aircraft" "StandTugs$Aircraft" "delay" "I", Cond.lays "StandTugs$Aircraft" "StandTugs$Aircraft" "minutes" "I", Cond.lays "StandTugs$Aircraft" "StandTugs$Aircraft" "buses" "I"], w ∈ GW
  exact List.forall_mem_cons.mpr ⟨gw1 132 rfl rfl, List.forall_mem_cons.mpr ⟨gw1 134 rfl rfl, List.forall_mem_cons.mpr ⟨gw1 136 rfl rfl, List.forall_mem_cons.mpr ⟨gw1 138 rfl rfl, List.forall_mem_cons.mpr ⟨gw1 140 rfl rfl, List.forall_mem_cons.mpr ⟨gw1 142 rfl rfl, List.forall_mem_cons.mpr ⟨gw1 144 rfl rfl, List.forall_mem_cons.mpr ⟨gw1 146 rfl rfl, List.forall_mem_cons.mpr ⟨gw1 148 rfl rfl, List.forall_mem_cons.mpr ⟨gw1 150 rfl rfl, fun _ h => absurd h List.not_mem_nil⟩⟩⟩⟩⟩⟩⟩⟩⟩⟩
theorem inX1 : ∀ w ∈ u_ws RX1 TX1 10, w ∈ GW := by
  show ∀ w ∈ [Cond.laysFinal "StandTugs$Field" "StandTugs$Field" "stands" "[LStandTugs$Stand;", Cond.laysFinal "StandTugs$Field" "StandTugs$Field" "tugs" "[LStandTugs$Tug;", Cond.laysFinal "StandTugs$Field" "StandTugs$Field" "aircraft" "[LStandTugs$Aircraft;", Cond.laysFinal "StandTugs$Field" "StandTugs$Field" "log" "LStandTugs$Log;", Cond.lays "StandTugs$Field" "StandTugs$Field" "standCount" "I", Cond.lays "StandTugs$Field" "StandTugs$Field" "tugCount" "I", Cond.lays "StandTugs$Field" "StandTugs$Field" "aircraftCount" "I", Cond.lays "StandTugs$Field" "StandTugs$Field" "minute" "I", Cond.lays "StandTugs$Field" "StandTugs$Field" "curfewBegin" "I", Cond.lays "StandTugs$Field" "StandTugs$Field" "curfewEnd" "I"], w ∈ GW
  exact List.forall_mem_cons.mpr ⟨gw1 187 rfl rfl, List.forall_mem_cons.mpr ⟨gw1 189 rfl rfl, List.forall_mem_cons.mpr ⟨gw1 191 rfl rfl, List.forall_mem_cons.mpr ⟨gw1 193 rfl rfl, List.forall_mem_cons.mpr ⟨gw1 195 rfl rfl, List.forall_mem_cons.mpr ⟨gw1 197 rfl rfl, List.forall_mem_cons.mpr ⟨gw1 199 rfl rfl, List.forall_mem_cons.mpr ⟨gw1 201 rfl rfl, List.forall_mem_cons.mpr ⟨gw1 203 rfl rfl, List.forall_mem_cons.mpr ⟨gw1 205 rfl rfl, fun _ h => absurd h List.not_mem_nil⟩⟩⟩⟩⟩⟩⟩⟩⟩⟩
theorem inX2 : ∀ w ∈ u_ws RX2 TX2 4, w ∈ GW := by
  show ∀ w ∈ [Cond.laysFinal "StandTugs$Log" "StandTugs$Log" "kinds" "[I", Cond.laysFinal "StandTugs$Log" "StandTugs$Log" "minutes" "[I", Cond.laysFinal "StandTugs$Log" "StandTugs$Log" "numbers" "[I", Cond.lays "StandTugs$Log" "StandTugs$Log" "total" "I"], w ∈ GW
  exact List.forall_mem_cons.mpr ⟨gw1 47 rfl rfl, List.forall_mem_cons.mpr ⟨gw1 49 rfl rfl, List.forall_mem_cons.mpr ⟨gw1 51 rfl rfl, List.forall_mem_cons.mpr ⟨gw1 53 rfl rfl, fun _ h => absurd h List.not_mem_nil⟩⟩⟩⟩
theorem inX3 : ∀ w ∈ u_ws RX3 TX3 3, w ∈ GW := by
  show ∀ w ∈ [Cond.lays "StandTugs$Stand" "StandTugs$Stand" "span" "I", Cond.lays "StandTugs$Stand" "StandTugs$Stand" "aircraft" "I", Cond.lays "StandTugs$Stand" "StandTugs$Stand" "minutes" "I"], w ∈ GW
  exact List.forall_mem_cons.mpr ⟨gw1 70 rfl rfl, List.forall_mem_cons.mpr ⟨gw1 72 rfl rfl, List.forall_mem_cons.mpr ⟨gw1 74 rfl rfl, fun _ h => absurd h List.not_mem_nil⟩⟩⟩
theorem inX4 : ∀ w ∈ u_ws RX4 TX4 9, w ∈ GW := by
  show ∀ w ∈ [Cond.laysFinal "StandTugs$Timetable" "StandTugs$Timetable" "bytes" "[I", Cond.lays "StandTugs$Timetable" "StandTugs$Timetable" "length" "I", Cond.laysFinal "StandTugs$Timetable" "StandTugs$Timetable" "kinds" "[I", Cond.laysFinal "StandTugs$Timetable" "StandTugs$Timetable" "comes" "[I", Cond.laysFinal "StandTugs$Timetable" "StandTugs$Timetable" "leaves" "[I", Cond.laysFinal "StandTugs$Timetable" "StandTugs$Timetable" "passengers" "[I", Cond.lays "StandTugs$Timetable" "StandTugs$Timetable" "count" "I", Cond.lays "StandTugs$Timetable" "StandTugs$Timetable" "position" "I", Cond.lays "StandTugs$Timetable" "StandTugs$Timetable" "number" "I"], w ∈ GW
  exact List.forall_mem_cons.mpr ⟨gw1 220 rfl rfl, List.forall_mem_cons.mpr ⟨gw1 222 rfl rfl, List.forall_mem_cons.mpr ⟨gw1 224 rfl rfl, List.forall_mem_cons.mpr ⟨gw1 226 rfl rfl, List.forall_mem_cons.mpr ⟨gw1 228 rfl rfl, List.forall_mem_cons.mpr ⟨gw1 230 rfl rfl, List.forall_mem_cons.mpr ⟨gw1 232 rfl rfl, List.forall_mem_cons.mpr ⟨gw1 234 rfl rfl, List.forall_mem_cons.mpr ⟨gw1 236 rfl rfl, fun _ h => absurd h List.not_mem_nil⟩⟩⟩⟩⟩⟩⟩⟩⟩
theorem inX5 : ∀ w ∈ u_ws RX5 TX5 5, w ∈ GW := by
  show ∀ w ∈ [Cond.lays "StandTugs$Tug" "StandTugs$Tug" "strength" "I", Cond.lays "StandTugs$Tug" "StandTugs$Tug" "aircraft" "I", Cond.lays "StandTugs$Tug" "StandTugs$Tug" "minutesLeft" "I", Cond.lays "StandTugs$Tug" "StandTugs$Tug" "pushes" "I", Cond.lays "StandTugs$Tug" "StandTugs$Tug" "tows" "I"], w ∈ GW
  exact List.forall_mem_cons.mpr ⟨gw1 93 rfl rfl, List.forall_mem_cons.mpr ⟨gw1 95 rfl rfl, List.forall_mem_cons.mpr ⟨gw1 97 rfl rfl, List.forall_mem_cons.mpr ⟨gw1 99 rfl rfl, List.forall_mem_cons.mpr ⟨gw1 101 rfl rfl, fun _ h => absurd h List.not_mem_nil⟩⟩⟩⟩⟩
theorem inX6 : ∀ w ∈ u_ws RX6 TX6 5, w ∈ GW := by
  show ∀ w ∈ [Cond.laysFinal "StandTugs" "StandTugs" "now" "LStandTugs$Field;", Cond.laysFinal "StandTugs" "StandTugs" "trial" "LStandTugs$Field;", Cond.laysFinal "StandTugs" "StandTugs" "saved" "[LStandTugs$Field;", Cond.lays "StandTugs" "StandTugs" "savedCount" "I", Cond.laysFinal "StandTugs" "StandTugs" "timetable" "LStandTugs$Timetable;"], w ∈ GW
  exact List.forall_mem_cons.mpr ⟨gw2 4 rfl rfl, List.forall_mem_cons.mpr ⟨gw2 6 rfl rfl, List.forall_mem_cons.mpr ⟨gw2 8 rfl rfl, List.forall_mem_cons.mpr ⟨gw2 10 rfl rfl, List.forall_mem_cons.mpr ⟨gw2 12 rfl rfl, fun _ h => absurd h List.not_mem_nil⟩⟩⟩⟩⟩
def NW : List Cond := [(Jvm.Cond.methodLinkNest "StandTugs$Field" (31 : Nat) ({ cls := "StandTugs$Log", name := "<init>", desc := "()V" } : Jvm.MethodName) "StandTugs"), (Jvm.Cond.methodLinkNest "StandTugs$Field" (36 : Nat) ({ cls := "StandTugs$Stand", name := "<init>", desc := "()V" } : Jvm.MethodName) "StandTugs"), (Jvm.Cond.methodLinkNest "StandTugs$Field" (37 : Nat) ({ cls := "StandTugs$Tug", name := "<init>", desc := "()V" } : Jvm.MethodName) "StandTugs"), (Jvm.Cond.methodLinkNest "StandTugs$Field" (38 : Nat) ({ cls := "StandTugs$Aircraft", name := "<init>", desc := "()V" } : Jvm.MethodName) "StandTugs"), (Jvm.Cond.methodLinkNest "StandTugs" (29 : Nat) ({ cls := "StandTugs$Timetable", name := "<init>", desc := "()V" } : Jvm.MethodName) "StandTugs"), (Jvm.Cond.castable "java/lang/IllegalArgumentException" "java/lang/IllegalArgumentException"), (Jvm.Cond.declares ({ cls := "java/lang/RuntimeException", name := "<init>", desc := "()V" } : Jvm.MethodName)), (Jvm.Cond.declares ({ cls := "java/lang/RuntimeException", name := "<init>", desc := "(Ljava/lang/String;)V" } : Jvm.MethodName)), (Jvm.Cond.declares ({ cls := "java/lang/Exception", name := "<init>", desc := "()V" } : Jvm.MethodName)), (Jvm.Cond.declares ({ cls := "java/lang/Exception", name := "<init>", desc := "(Ljava/lang/String;)V" } : Jvm.MethodName)), (Jvm.Cond.declares ({ cls := "java/lang/Throwable", name := "<init>", desc := "()V" } : Jvm.MethodName)), (Jvm.Cond.declares ({ cls := "java/lang/Throwable", name := "<init>", desc := "(Ljava/lang/String;)V" } : Jvm.MethodName)), (Jvm.Cond.castable "java/lang/IllegalStateException" "java/lang/IllegalStateException"), (Jvm.Cond.castable "java/lang/IndexOutOfBoundsException" "java/lang/IndexOutOfBoundsException")]
theorem nw_form : ∀ w ∈ NW, (∃ (a : String) (i : Nat) (x : MethodName) (h : String), w = .methodLinkNest a i x h) ∨ (∃ a b : String, w = .castable a b) ∨ ∃ x : MethodName, w = .declares x := List.forall_mem_cons.mpr ⟨Or.inl ⟨_, _, _, _, rfl⟩, List.forall_mem_cons.mpr ⟨Or.inl ⟨_, _, _, _, rfl⟩, List.forall_mem_cons.mpr ⟨Or.inl ⟨_, _, _, _, rfl⟩, List.forall_mem_cons.mpr ⟨Or.inl ⟨_, _, _, _, rfl⟩, List.forall_mem_cons.mpr ⟨Or.inl ⟨_, _, _, _, rfl⟩, List.forall_mem_cons.mpr ⟨Or.inr (Or.inl ⟨_, _, rfl⟩), List.forall_mem_cons.mpr ⟨Or.inr (Or.inr ⟨_, rfl⟩), List.forall_mem_cons.mpr ⟨Or.inr (Or.inr ⟨_, rfl⟩), List.forall_mem_cons.mpr ⟨Or.inr (Or.inr ⟨_, rfl⟩), List.forall_mem_cons.mpr ⟨Or.inr (Or.inr ⟨_, rfl⟩), List.forall_mem_cons.mpr ⟨Or.inr (Or.inr ⟨_, rfl⟩), List.forall_mem_cons.mpr ⟨Or.inr (Or.inr ⟨_, rfl⟩), List.forall_mem_cons.mpr ⟨Or.inr (Or.inl ⟨_, _, rfl⟩), List.forall_mem_cons.mpr ⟨Or.inr (Or.inl ⟨_, _, rfl⟩), fun _ h => absurd h List.not_mem_nil⟩⟩⟩⟩⟩⟩⟩⟩⟩⟩⟩⟩⟩⟩
theorem nw_in : ∀ w ∈ NW, w ∈ tables_1 := List.forall_mem_cons.mpr ⟨tb1 38 rfl, List.forall_mem_cons.mpr ⟨tb1 58 rfl, List.forall_mem_cons.mpr ⟨tb1 78 rfl, List.forall_mem_cons.mpr ⟨tb1 105 rfl, List.forall_mem_cons.mpr ⟨tb1 211 rfl, List.forall_mem_cons.mpr ⟨tb2 24 rfl, List.forall_mem_cons.mpr ⟨tb2 25 rfl, List.forall_mem_cons.mpr ⟨tb2 26 rfl, List.forall_mem_cons.mpr ⟨tb2 27 rfl, List.forall_mem_cons.mpr ⟨tb2 28 rfl, List.forall_mem_cons.mpr ⟨tb2 29 rfl, List.forall_mem_cons.mpr ⟨tb2 30 rfl, List.forall_mem_cons.mpr ⟨tb2 92 rfl, List.forall_mem_cons.mpr ⟨tb3 59 rfl, fun _ h => absurd h List.not_mem_nil⟩⟩⟩⟩⟩⟩⟩⟩⟩⟩⟩⟩⟩⟩
def AOS : List String := ["StandTugs$Stand", "StandTugs$Tug", "StandTugs$Aircraft", "StandTugs$Field"]
theorem ao_in : ∀ C ∈ AOS, Cond.arrayOver (.object C) ∈ tables_1 := List.forall_mem_cons.mpr ⟨tb1 31 rfl, List.forall_mem_cons.mpr ⟨tb1 33 rfl, List.forall_mem_cons.mpr ⟨tb1 35 rfl, List.forall_mem_cons.mpr ⟨tb1 208 rfl, fun _ h => absurd h List.not_mem_nil⟩⟩⟩⟩
def STR : List (String × Nat × String) := [("StandTugs", 146, "minutes out of range"), ("StandTugs", 148, "after the last minute"), ("StandTugs", 157, "what out of range"), ("StandTugs", 242, "no saved state"), ("StandTugs", 40, "stands or tugs out of range"), ("StandTugs", 61, "no such stand"), ("StandTugs", 64, "span out of range"), ("StandTugs", 78, "no such tug"), ("StandTugs", 80, "strength out of range"), ("StandTugs", 91, "begin or end out of range"), ("StandTugs", 108, "kind, minutes or passengers out of range"), ("StandTugs", 115, "12 aircraft already"), ("StandTugs", 125, "no such aircraft"), ("StandTugs", 136, "leaves out of range"), ("StandTugs", 141, "pushed back or gone")]
theorem str_in : ∀ z ∈ STR, Cond.stringRef z.1 z.2.1 z.2.2 ∈ tables_1 := List.forall_mem_cons.mpr ⟨tb2 63 rfl, List.forall_mem_cons.mpr ⟨tb2 99 rfl, List.forall_mem_cons.mpr ⟨tb2 231 rfl, List.forall_mem_cons.mpr ⟨tb3 31 rfl, List.forall_mem_cons.mpr ⟨tb3 43 rfl, List.forall_mem_cons.mpr ⟨tb3 66 rfl, List.forall_mem_cons.mpr ⟨tb3 73 rfl, List.forall_mem_cons.mpr ⟨tb3 82 rfl, List.forall_mem_cons.mpr ⟨tb3 83 rfl, List.forall_mem_cons.mpr ⟨tb3 91 rfl, List.forall_mem_cons.mpr ⟨tb3 100 rfl, List.forall_mem_cons.mpr ⟨tb3 101 rfl, List.forall_mem_cons.mpr ⟨tb3 118 rfl, List.forall_mem_cons.mpr ⟨tb3 127 rfl, List.forall_mem_cons.mpr ⟨tb3 128 rfl, fun _ h => absurd h List.not_mem_nil⟩⟩⟩⟩⟩⟩⟩⟩⟩⟩⟩⟩⟩⟩⟩
