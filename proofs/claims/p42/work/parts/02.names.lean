/-! names, fields, codes: by program out of the printed names -/
def RX0 : String := "GangColumns$Arms"
def TX0 : u_T := fun k => match k with
  | 0 => ("GangColumns$Arms", "wide", "[I", true)
  | 1 => ("GangColumns$Arms", "asks", "[I", true)
  | 2 => ("GangColumns$Arms", "column", "[I", true)
  | 3 => ("GangColumns$Arms", "end", "[I", true)
  | 4 => ("GangColumns$Arms", "promised", "[I", true)
  | _ => ("GangColumns$Arms", "owner", "[I", true)
def tyX0 : Nat → FieldType := fun k => match k with
  | 0 => .array .int
  | 1 => .array .int
  | 2 => .array .int
  | 3 => .array .int
  | 4 => .array .int
  | _ => .array .int
abbrev wsX00 : List Cond := u_ws RX0 TX0 6
theorem nmX0 : ∀ a, a < 6 → ∀ b, b < 6 → a ≠ b → (TX0 a).2.1 ≠ (TX0 b).2.1 := by decide +kernel
theorem tyX0_ok : ∀ k, k < 6 → parseFieldDescriptor (TX0 k).2.2.1 = some (tyX0 k) := by decide +kernel
abbrev cX0_init : ByteArray := prog_2_method_1_code
def yX0_init : MethodName := ⟨RX0, "<init>", "()V"⟩
abbrev cX0_holds : ByteArray := prog_2_method_2_code
def yX0_holds : MethodName := ⟨RX0, "holds", "(I)Z"⟩
abbrev cX0_jobOn : ByteArray := prog_2_method_3_code
def yX0_jobOn : MethodName := ⟨RX0, "jobOn", "(I)I"⟩
abbrev cX0_own : ByteArray := prog_2_method_4_code
def yX0_own : MethodName := ⟨RX0, "own", "(II)V"⟩
abbrev cX0_idleColumns : ByteArray := prog_2_method_5_code
def yX0_idleColumns : MethodName := ⟨RX0, "idleColumns", "()I"⟩
abbrev cX0_copyFrom : ByteArray := prog_2_method_6_code
def yX0_copyFrom : MethodName := ⟨RX0, "copyFrom", "(LGangColumns$Arms;I)V"⟩
def RX1 : String := "GangColumns$Board"
def TX1 : u_T := fun k => match k with
  | 0 => ("GangColumns$Board", "size", "I", false)
  | 1 => ("GangColumns$Board", "mask", "[I", true)
  | 2 => ("GangColumns$Board", "from", "[I", true)
  | 3 => ("GangColumns$Board", "to", "[I", true)
  | _ => ("GangColumns$Board", "freeFor", "[I", true)
def tyX1 : Nat → FieldType := fun k => match k with
  | 0 => .int
  | 1 => .array .int
  | 2 => .array .int
  | 3 => .array .int
  | _ => .array .int
abbrev wsX10 : List Cond := u_ws RX1 TX1 5
theorem nmX1 : ∀ a, a < 5 → ∀ b, b < 5 → a ≠ b → (TX1 a).2.1 ≠ (TX1 b).2.1 := by decide +kernel
theorem tyX1_ok : ∀ k, k < 5 → parseFieldDescriptor (TX1 k).2.2.1 = some (tyX1 k) := by decide +kernel
abbrev cX1_init : ByteArray := prog_3_method_1_code
def yX1_init : MethodName := ⟨RX1, "<init>", "()V"⟩
abbrev cX1_add : ByteArray := prog_3_method_2_code
def yX1_add : MethodName := ⟨RX1, "add", "(IIII)V"⟩
abbrev cX1_loadHeld : ByteArray := prog_3_method_3_code
def yX1_loadHeld : MethodName := ⟨RX1, "loadHeld", "(LGangColumns$Scene;II)V"⟩
abbrev cX1_loadPromises : ByteArray := prog_3_method_4_code
def yX1_loadPromises : MethodName := ⟨RX1, "loadPromises", "(LGangColumns$Scene;II)V"⟩
abbrev cX1_addPromise : ByteArray := prog_3_method_5_code
def yX1_addPromise : MethodName := ⟨RX1, "addPromise", "(LGangColumns$Scene;I)V"⟩
abbrev cX1_freeColumns : ByteArray := prog_3_method_6_code
def yX1_freeColumns : MethodName := ⟨RX1, "freeColumns", "(III)I"⟩
abbrev cX1_fits : ByteArray := prog_3_method_7_code
def yX1_fits : MethodName := ⟨RX1, "fits", "(LGangColumns$Gang;II)Z"⟩
abbrev cX1_firstFit : ByteArray := prog_3_method_8_code
def yX1_firstFit : MethodName := ⟨RX1, "firstFit", "(LGangColumns$Gang;III)I"⟩
abbrev cX1_nextChange : ByteArray := prog_3_method_9_code
def yX1_nextChange : MethodName := ⟨RX1, "nextChange", "(LGangColumns$Gang;II)I"⟩
abbrev cX1_gapBegin : ByteArray := prog_3_method_10_code
def yX1_gapBegin : MethodName := ⟨RX1, "gapBegin", "(II)I"⟩
abbrev cX1_gapEnd : ByteArray := prog_3_method_11_code
def yX1_gapEnd : MethodName := ⟨RX1, "gapEnd", "(II)I"⟩
def RX2 : String := "GangColumns$Book"
def TX2 : u_T := fun k => match k with
  | 0 => ("GangColumns$Book", "startedSize", "I", false)
  | 1 => ("GangColumns$Book", "figures", "[J", true)
  | 2 => ("GangColumns$Book", "startedJobs", "[I", true)
  | 3 => ("GangColumns$Book", "eventsKept", "I", false)
  | 4 => ("GangColumns$Book", "nextEvent", "I", false)
  | 5 => ("GangColumns$Book", "eventTick", "[I", true)
  | 6 => ("GangColumns$Book", "eventKind", "[I", true)
  | 7 => ("GangColumns$Book", "eventJob", "[I", true)
  | _ => ("GangColumns$Book", "chartRows", "[I", true)
def tyX2 : Nat → FieldType := fun k => match k with
  | 0 => .int
  | 1 => .array .long
  | 2 => .array .int
  | 3 => .int
  | 4 => .int
  | 5 => .array .int
  | 6 => .array .int
  | 7 => .array .int
  | _ => .array .int
abbrev wsX20 : List Cond := u_ws RX2 TX2 9
theorem nmX2 : ∀ a, a < 9 → ∀ b, b < 9 → a ≠ b → (TX2 a).2.1 ≠ (TX2 b).2.1 := by decide +kernel
theorem tyX2_ok : ∀ k, k < 9 → parseFieldDescriptor (TX2 k).2.2.1 = some (tyX2 k) := by decide +kernel
abbrev cX2_init : ByteArray := prog_4_method_1_code
def yX2_init : MethodName := ⟨RX2, "<init>", "()V"⟩
abbrev cX2_note : ByteArray := prog_4_method_2_code
def yX2_note : MethodName := ⟨RX2, "note", "(III)V"⟩
abbrev cX2_eventAt : ByteArray := prog_4_method_3_code
def yX2_eventAt : MethodName := ⟨RX2, "eventAt", "(II)I"⟩
abbrev cX2_addStarted : ByteArray := prog_4_method_4_code
def yX2_addStarted : MethodName := ⟨RX2, "addStarted", "(I)V"⟩
abbrev cX2_charted : ByteArray := prog_4_method_5_code
def yX2_charted : MethodName := ⟨RX2, "charted", "(II)I"⟩
abbrev cX2_chartTick : ByteArray := prog_4_method_6_code
def yX2_chartTick : MethodName := ⟨RX2, "chartTick", "(III)V"⟩
abbrev cX2_copyFrom : ByteArray := prog_4_method_7_code
def yX2_copyFrom : MethodName := ⟨RX2, "copyFrom", "(LGangColumns$Book;)V"⟩
def RX3 : String := "GangColumns$Gang"
def TX3 : u_T := fun k => match k with
  | 0 => ("GangColumns$Gang", "size", "I", false)
  | 1 => ("GangColumns$Gang", "taken", "I", false)
  | 2 => ("GangColumns$Gang", "wide", "[I", true)
  | 3 => ("GangColumns$Gang", "asks", "[I", true)
  | 4 => ("GangColumns$Gang", "column", "[I", true)
  | _ => ("GangColumns$Gang", "order", "[I", true)
def tyX3 : Nat → FieldType := fun k => match k with
  | 0 => .int
  | 1 => .int
  | 2 => .array .int
  | 3 => .array .int
  | 4 => .array .int
  | _ => .array .int
abbrev wsX30 : List Cond := u_ws RX3 TX3 6
theorem nmX3 : ∀ a, a < 6 → ∀ b, b < 6 → a ≠ b → (TX3 a).2.1 ≠ (TX3 b).2.1 := by decide +kernel
theorem tyX3_ok : ∀ k, k < 6 → parseFieldDescriptor (TX3 k).2.2.1 = some (tyX3 k) := by decide +kernel
abbrev cX3_init : ByteArray := prog_5_method_1_code
def yX3_init : MethodName := ⟨RX3, "<init>", "()V"⟩
abbrev cX3_add : ByteArray := prog_5_method_2_code
def yX3_add : MethodName := ⟨RX3, "add", "(II)V"⟩
abbrev cX3_load : ByteArray := prog_5_method_3_code
def yX3_load : MethodName := ⟨RX3, "load", "(LGangColumns$Scene;I)V"⟩
abbrev cX3_arrange : ByteArray := prog_5_method_4_code
def yX3_arrange : MethodName := ⟨RX3, "arrange", "()V"⟩
abbrev cX3_columns : ByteArray := prog_5_method_5_code
def yX3_columns : MethodName := ⟨RX3, "columns", "()I"⟩
def RX4 : String := "GangColumns$Jobs"
def TX4 : u_T := fun k => match k with
  | 0 => ("GangColumns$Jobs", "size", "I", false)
  | 1 => ("GangColumns$Jobs", "state", "[I", true)
  | 2 => ("GangColumns$Jobs", "account", "[I", true)
  | 3 => ("GangColumns$Jobs", "rank", "[I", true)
  | 4 => ("GangColumns$Jobs", "part", "[I", true)
  | 5 => ("GangColumns$Jobs", "after", "[I", true)
  | 6 => ("GangColumns$Jobs", "arms", "[I", true)
  | 7 => ("GangColumns$Jobs", "columns", "[I", true)
  | 8 => ("GangColumns$Jobs", "heldBack", "[I", true)
  | 9 => ("GangColumns$Jobs", "came", "[I", true)
  | 10 => ("GangColumns$Jobs", "start", "[I", true)
  | 11 => ("GangColumns$Jobs", "ended", "[I", true)
  | 12 => ("GangColumns$Jobs", "firstPromise", "[I", true)
  | _ => ("GangColumns$Jobs", "promise", "[I", true)
def tyX4 : Nat → FieldType := fun k => match k with
  | 0 => .int
  | 1 => .array .int
  | 2 => .array .int
  | 3 => .array .int
  | 4 => .array .int
  | 5 => .array .int
  | 6 => .array .int
  | 7 => .array .int
  | 8 => .array .int
  | 9 => .array .int
  | 10 => .array .int
  | 11 => .array .int
  | 12 => .array .int
  | _ => .array .int
abbrev wsX40 : List Cond := u_ws RX4 TX4 14
theorem nmX4 : ∀ a, a < 14 → ∀ b, b < 14 → a ≠ b → (TX4 a).2.1 ≠ (TX4 b).2.1 := by decide +kernel
theorem tyX4_ok : ∀ k, k < 14 → parseFieldDescriptor (TX4 k).2.2.1 = some (tyX4 k) := by decide +kernel
abbrev cX4_init : ByteArray := prog_6_method_1_code
def yX4_init : MethodName := ⟨RX4, "<init>", "()V"⟩
abbrev cX4_isInLine : ByteArray := prog_6_method_2_code
def yX4_isInLine : MethodName := ⟨RX4, "isInLine", "(I)Z"⟩
abbrev cX4_anyMayStart : ByteArray := prog_6_method_3_code
def yX4_anyMayStart : MethodName := ⟨RX4, "anyMayStart", "()Z"⟩
abbrev cX4_countIn : ByteArray := prog_6_method_4_code
def yX4_countIn : MethodName := ⟨RX4, "countIn", "(I)I"⟩
abbrev cX4_countPromises : ByteArray := prog_6_method_5_code
def yX4_countPromises : MethodName := ⟨RX4, "countPromises", "()I"⟩
abbrev cX4_copyFrom : ByteArray := prog_6_method_6_code
def yX4_copyFrom : MethodName := ⟨RX4, "copyFrom", "(LGangColumns$Jobs;)V"⟩
def RX5 : String := "GangColumns$Line"
def TX5 : u_T := fun k => match k with
  | 0 => ("GangColumns$Line", "size", "I", false)
  | 1 => ("GangColumns$Line", "order", "[I", true)
  | 2 => ("GangColumns$Line", "keys", "[I", true)
  | _ => ("GangColumns$Line", "shares", "[I", true)
def tyX5 : Nat → FieldType := fun k => match k with
  | 0 => .int
  | 1 => .array .int
  | 2 => .array .int
  | _ => .array .int
abbrev wsX50 : List Cond := u_ws RX5 TX5 4
theorem nmX5 : ∀ a, a < 4 → ∀ b, b < 4 → a ≠ b → (TX5 a).2.1 ≠ (TX5 b).2.1 := by decide +kernel
theorem tyX5_ok : ∀ k, k < 4 → parseFieldDescriptor (TX5 k).2.2.1 = some (tyX5 k) := by decide +kernel
abbrev cX5_init : ByteArray := prog_7_method_1_code
def yX5_init : MethodName := ⟨RX5, "<init>", "()V"⟩
abbrev cX5_form : ByteArray := prog_7_method_2_code
def yX5_form : MethodName := ⟨RX5, "form", "(LGangColumns$Scene;)V"⟩
abbrev cX5_insert : ByteArray := prog_7_method_3_code
def yX5_insert : MethodName := ⟨RX5, "insert", "(II)V"⟩
def RX6 : String := "GangColumns$Scene"
def TX6 : u_T := fun k => match k with
  | 0 => ("GangColumns$Scene", "inThought", "Z", true)
  | 1 => ("GangColumns$Scene", "now", "I", false)
  | 2 => ("GangColumns$Scene", "weights", "[I", true)
  | 3 => ("GangColumns$Scene", "limits", "[I", true)
  | 4 => ("GangColumns$Scene", "uses", "[J", true)
  | 5 => ("GangColumns$Scene", "rules", "[I", true)
  | 6 => ("GangColumns$Scene", "jobs", "LGangColumns$Jobs;", true)
  | 7 => ("GangColumns$Scene", "arms", "LGangColumns$Arms;", true)
  | 8 => ("GangColumns$Scene", "spans", "LGangColumns$Spans;", true)
  | _ => ("GangColumns$Scene", "book", "LGangColumns$Book;", true)
def tyX6 : Nat → FieldType := fun k => match k with
  | 0 => .boolean
  | 1 => .int
  | 2 => .array .int
  | 3 => .array .int
  | 4 => .array .long
  | 5 => .array .int
  | 6 => .object "GangColumns$Jobs"
  | 7 => .object "GangColumns$Arms"
  | 8 => .object "GangColumns$Spans"
  | _ => .object "GangColumns$Book"
abbrev wsX60 : List Cond := u_ws RX6 TX6 10
theorem nmX6 : ∀ a, a < 10 → ∀ b, b < 10 → a ≠ b → (TX6 a).2.1 ≠ (TX6 b).2.1 := by decide +kernel
theorem tyX6_ok : ∀ k, k < 10 → parseFieldDescriptor (TX6 k).2.2.1 = some (tyX6 k) := by decide +kernel
abbrev cX6_init : ByteArray := prog_8_method_1_code
def yX6_init : MethodName := ⟨RX6, "<init>", "(Z)V"⟩
abbrev cX6_copyAll : ByteArray := prog_8_method_2_code
def yX6_copyAll : MethodName := ⟨RX6, "copyAll", "(LGangColumns$Scene;)V"⟩
abbrev cX6_copyWithoutBook : ByteArray := prog_8_method_3_code
def yX6_copyWithoutBook : MethodName := ⟨RX6, "copyWithoutBook", "(LGangColumns$Scene;)V"⟩
abbrev cX6_hasLesserShare : ByteArray := prog_8_method_4_code
def yX6_hasLesserShare : MethodName := ⟨RX6, "hasLesserShare", "(II)Z"⟩
abbrev cX6_sharesBelow : ByteArray := prog_8_method_5_code
def yX6_sharesBelow : MethodName := ⟨RX6, "sharesBelow", "(I)I"⟩
abbrev cX6_addJob : ByteArray := prog_8_method_7_code
def yX6_addJob : MethodName := ⟨RX6, "addJob", "(LGangColumns$Gang;IIII)I"⟩
abbrev cX6_lasts : ByteArray := prog_8_method_8_code
def yX6_lasts : MethodName := ⟨RX6, "lasts", "(I)I"⟩
abbrev cX6_knownEnd : ByteArray := prog_8_method_9_code
def yX6_knownEnd : MethodName := ⟨RX6, "knownEnd", "(I)I"⟩
abbrev cX6_accountOfArm : ByteArray := prog_8_method_10_code
def yX6_accountOfArm : MethodName := ⟨RX6, "accountOfArm", "(I)I"⟩
abbrev cX6_isKept : ByteArray := prog_8_method_11_code
def yX6_isKept : MethodName := ⟨RX6, "isKept", "(III)Z"⟩
abbrev cX6_promisedTo : ByteArray := prog_8_method_12_code
def yX6_promisedTo : MethodName := ⟨RX6, "promisedTo", "(II)I"⟩
abbrev cX6_promises : ByteArray := prog_8_method_13_code
def yX6_promises : MethodName := ⟨RX6, "promises", "(III)Z"⟩
def RX7 : String := "GangColumns$Scheduler"
def TX7 : u_T := fun k => match k with
  | 0 => ("GangColumns$Scheduler", "board", "LGangColumns$Board;", true)
  | 1 => ("GangColumns$Scheduler", "gang", "LGangColumns$Gang;", true)
  | 2 => ("GangColumns$Scheduler", "line", "LGangColumns$Line;", true)
  | 3 => ("GangColumns$Scheduler", "held", "[I", true)
  | 4 => ("GangColumns$Scheduler", "promisedBefore", "[I", true)
  | _ => ("GangColumns$Scheduler", "toTakeOff", "[I", true)
def tyX7 : Nat → FieldType := fun k => match k with
  | 0 => .object "GangColumns$Board"
  | 1 => .object "GangColumns$Gang"
  | 2 => .object "GangColumns$Line"
  | 3 => .array .int
  | 4 => .array .int
  | _ => .array .int
abbrev wsX70 : List Cond := u_ws RX7 TX7 6
theorem nmX7 : ∀ a, a < 6 → ∀ b, b < 6 → a ≠ b → (TX7 a).2.1 ≠ (TX7 b).2.1 := by decide +kernel
theorem tyX7_ok : ∀ k, k < 6 → parseFieldDescriptor (TX7 k).2.2.1 = some (tyX7 k) := by decide +kernel
abbrev cX7_init : ByteArray := prog_9_method_1_code
def yX7_init : MethodName := ⟨RX7, "<init>", "()V"⟩
abbrev cX7_goPass : ByteArray := prog_9_method_2_code
def yX7_goPass : MethodName := ⟨RX7, "goPass", "(LGangColumns$Scene;)I"⟩
abbrev cX7_beginPass : ByteArray := prog_9_method_3_code
def yX7_beginPass : MethodName := ⟨RX7, "beginPass", "(LGangColumns$Scene;)V"⟩
abbrev cX7_isOverLimit : ByteArray := prog_9_method_4_code
def yX7_isOverLimit : MethodName := ⟨RX7, "isOverLimit", "(LGangColumns$Scene;I)Z"⟩
abbrev cX7_lastHopeful : ByteArray := prog_9_method_5_code
def yX7_lastHopeful : MethodName := ⟨RX7, "lastHopeful", "(LGangColumns$Scene;I)I"⟩
abbrev cX7_begin : ByteArray := prog_9_method_6_code
def yX7_begin : MethodName := ⟨RX7, "begin", "(LGangColumns$Scene;IZ)V"⟩
abbrev cX7_promise : ByteArray := prog_9_method_7_code
def yX7_promise : MethodName := ⟨RX7, "promise", "(LGangColumns$Scene;II)V"⟩
abbrev cX7_goTick : ByteArray := prog_9_method_8_code
def yX7_goTick : MethodName := ⟨RX7, "goTick", "(LGangColumns$Scene;)V"⟩
abbrev cX7_account : ByteArray := prog_9_method_9_code
def yX7_account : MethodName := ⟨RX7, "account", "(LGangColumns$Scene;)V"⟩
abbrev cX7_letArmsGo : ByteArray := prog_9_method_10_code
def yX7_letArmsGo : MethodName := ⟨RX7, "letArmsGo", "(LGangColumns$Scene;)Z"⟩
abbrev cX7_endJobs : ByteArray := prog_9_method_11_code
def yX7_endJobs : MethodName := ⟨RX7, "endJobs", "(LGangColumns$Scene;)V"⟩
abbrev cX7_anyArmHolds : ByteArray := prog_9_method_12_code
def yX7_anyArmHolds : MethodName := ⟨RX7, "anyArmHolds", "(LGangColumns$Scene;I)Z"⟩
abbrev cX7_isCut : ByteArray := prog_9_method_13_code
def yX7_isCut : MethodName := ⟨RX7, "isCut", "(LGangColumns$Scene;I)Z"⟩
abbrev cX7_endAs : ByteArray := prog_9_method_14_code
def yX7_endAs : MethodName := ⟨RX7, "endAs", "(LGangColumns$Scene;II)V"⟩
abbrev cX7_takeOff : ByteArray := prog_9_method_15_code
def yX7_takeOff : MethodName := ⟨RX7, "takeOff", "(LGangColumns$Scene;I)I"⟩
abbrev cX7_takeOffAlone : ByteArray := prog_9_method_16_code
def yX7_takeOffAlone : MethodName := ⟨RX7, "takeOffAlone", "(LGangColumns$Scene;I)V"⟩
def RX8 : String := "GangColumns$Spans"
def TX8 : u_T := fun k => match k with
  | 0 => ("GangColumns$Spans", "size", "I", false)
  | 1 => ("GangColumns$Spans", "next", "I", false)
  | 2 => ("GangColumns$Spans", "number", "[I", true)
  | 3 => ("GangColumns$Spans", "mask", "[I", true)
  | 4 => ("GangColumns$Spans", "from", "[I", true)
  | 5 => ("GangColumns$Spans", "to", "[I", true)
  | _ => ("GangColumns$Spans", "account", "[I", true)
def tyX8 : Nat → FieldType := fun k => match k with
  | 0 => .int
  | 1 => .int
  | 2 => .array .int
  | 3 => .array .int
  | 4 => .array .int
  | 5 => .array .int
  | _ => .array .int
abbrev wsX80 : List Cond := u_ws RX8 TX8 7
theorem nmX8 : ∀ a, a < 7 → ∀ b, b < 7 → a ≠ b → (TX8 a).2.1 ≠ (TX8 b).2.1 := by decide +kernel
theorem tyX8_ok : ∀ k, k < 7 → parseFieldDescriptor (TX8 k).2.2.1 = some (tyX8 k) := by decide +kernel
abbrev cX8_init : ByteArray := prog_10_method_1_code
def yX8_init : MethodName := ⟨RX8, "<init>", "()V"⟩
abbrev cX8_add : ByteArray := prog_10_method_2_code
def yX8_add : MethodName := ⟨RX8, "add", "(IIII)I"⟩
abbrev cX8_overlap : ByteArray := prog_10_method_3_code
def yX8_overlap : MethodName := ⟨RX8, "overlap", "(III)Z"⟩
abbrev cX8_endBy : ByteArray := prog_10_method_5_code
def yX8_endBy : MethodName := ⟨RX8, "endBy", "(I)V"⟩
abbrev cX8_remove : ByteArray := prog_10_method_6_code
def yX8_remove : MethodName := ⟨RX8, "remove", "(I)V"⟩
abbrev cX8_copyFrom : ByteArray := prog_10_method_7_code
def yX8_copyFrom : MethodName := ⟨RX8, "copyFrom", "(LGangColumns$Spans;)V"⟩
def RX9 : String := "GangColumns$Tape"
def TX9 : u_T := fun k => match k with
  | 0 => ("GangColumns$Tape", "size", "I", false)
  | 1 => ("GangColumns$Tape", "bytes", "[I", true)
  | _ => ("GangColumns$Tape", "at", "I", false)
def tyX9 : Nat → FieldType := fun k => match k with
  | 0 => .int
  | 1 => .array .int
  | _ => .int
abbrev wsX90 : List Cond := u_ws RX9 TX9 3
theorem nmX9 : ∀ a, a < 3 → ∀ b, b < 3 → a ≠ b → (TX9 a).2.1 ≠ (TX9 b).2.1 := by decide +kernel
theorem tyX9_ok : ∀ k, k < 3 → parseFieldDescriptor (TX9 k).2.2.1 = some (tyX9 k) := by decide +kernel
abbrev cX9_init : ByteArray := prog_11_method_1_code
def yX9_init : MethodName := ⟨RX9, "<init>", "()V"⟩
abbrev cX9_put : ByteArray := prog_11_method_2_code
def yX9_put : MethodName := ⟨RX9, "put", "(I)Z"⟩
abbrev cX9_read : ByteArray := prog_11_method_3_code
def yX9_read : MethodName := ⟨RX9, "read", "(LGangColumns$Gang;)I"⟩
abbrev cX9_parse : ByteArray := prog_11_method_4_code
def yX9_parse : MethodName := ⟨RX9, "parse", "(LGangColumns$Gang;)I"⟩
abbrev cX9_next : ByteArray := prog_11_method_5_code
def yX9_next : MethodName := ⟨RX9, "next", "()I"⟩
abbrev cX9_number : ByteArray := prog_11_method_6_code
def yX9_number : MethodName := ⟨RX9, "number", "()I"⟩
def RX10 : String := "GangColumns$Thoughts"
def TX10 : u_T := fun k => match k with
  | 0 => ("GangColumns$Thoughts", "ahead", "LGangColumns$Scene;", true)
  | 1 => ("GangColumns$Thoughts", "scheduler", "LGangColumns$Scheduler;", true)
  | 2 => ("GangColumns$Thoughts", "startsWithout", "[I", true)
  | 3 => ("GangColumns$Thoughts", "board", "LGangColumns$Board;", true)
  | 4 => ("GangColumns$Thoughts", "gang", "LGangColumns$Gang;", true)
  | 5 => ("GangColumns$Thoughts", "runners", "[I", true)
  | 6 => ("GangColumns$Thoughts", "open", "[I", true)
  | _ => ("GangColumns$Thoughts", "runnersSize", "I", false)
def tyX10 : Nat → FieldType := fun k => match k with
  | 0 => .object "GangColumns$Scene"
  | 1 => .object "GangColumns$Scheduler"
  | 2 => .array .int
  | 3 => .object "GangColumns$Board"
  | 4 => .object "GangColumns$Gang"
  | 5 => .array .int
  | 6 => .array .int
  | _ => .int
abbrev wsX100 : List Cond := u_ws RX10 TX10 8
theorem nmX10 : ∀ a, a < 8 → ∀ b, b < 8 → a ≠ b → (TX10 a).2.1 ≠ (TX10 b).2.1 := by decide +kernel
theorem tyX10_ok : ∀ k, k < 8 → parseFieldDescriptor (TX10 k).2.2.1 = some (tyX10 k) := by decide +kernel
abbrev cX10_init : ByteArray := prog_12_method_1_code
def yX10_init : MethodName := ⟨RX10, "<init>", "()V"⟩
abbrev cX10_beginAs : ByteArray := prog_12_method_2_code
def yX10_beginAs : MethodName := ⟨RX10, "beginAs", "(LGangColumns$Scene;)V"⟩
abbrev cX10_letGoBy : ByteArray := prog_12_method_3_code
def yX10_letGoBy : MethodName := ⟨RX10, "letGoBy", "(I)V"⟩
abbrev cX10_startOf : ByteArray := prog_12_method_4_code
def yX10_startOf : MethodName := ⟨RX10, "startOf", "(LGangColumns$Scene;I)I"⟩
abbrev cX10_seen : ByteArray := prog_12_method_5_code
def yX10_seen : MethodName := ⟨RX10, "seen", "(LGangColumns$Scene;)LGangColumns$Book;"⟩
abbrev cX10_underRule : ByteArray := prog_12_method_6_code
def yX10_underRule : MethodName := ⟨RX10, "underRule", "(LGangColumns$Scene;III)I"⟩
abbrev cX10_startOfNew : ByteArray := prog_12_method_7_code
def yX10_startOfNew : MethodName := ⟨RX10, "startOfNew", "(LGangColumns$Scene;LGangColumns$Gang;II)I"⟩
abbrev cX10_delayByNew : ByteArray := prog_12_method_8_code
def yX10_delayByNew : MethodName := ⟨RX10, "delayByNew", "(LGangColumns$Scene;LGangColumns$Gang;II)I"⟩
abbrev cX10_greatestPart : ByteArray := prog_12_method_9_code
def yX10_greatestPart : MethodName := ⟨RX10, "greatestPart", "(LGangColumns$Scene;I)I"⟩
abbrev cX10_loadWithout : ByteArray := prog_12_method_10_code
def yX10_loadWithout : MethodName := ⟨RX10, "loadWithout", "(LGangColumns$Scene;II)V"⟩
abbrev cX10_fewestMoves : ByteArray := prog_12_method_11_code
def yX10_fewestMoves : MethodName := ⟨RX10, "fewestMoves", "(LGangColumns$Scene;I)I"⟩
abbrev cX10_listRunners : ByteArray := prog_12_method_12_code
def yX10_listRunners : MethodName := ⟨RX10, "listRunners", "(LGangColumns$Scene;)V"⟩
abbrev cX10_isBehind : ByteArray := prog_12_method_13_code
def yX10_isBehind : MethodName := ⟨RX10, "isBehind", "(LGangColumns$Arms;II)Z"⟩
abbrev cX10_fitsMoving : ByteArray := prog_12_method_14_code
def yX10_fitsMoving : MethodName := ⟨RX10, "fitsMoving", "(LGangColumns$Scene;III)Z"⟩
abbrev cX10_settles : ByteArray := prog_12_method_15_code
def yX10_settles : MethodName := ⟨RX10, "settles", "(LGangColumns$Scene;I)Z"⟩
abbrev cX10_sideBySide : ByteArray := prog_12_method_16_code
def yX10_sideBySide : MethodName := ⟨RX10, "sideBySide", "(LGangColumns$Scene;II)I"⟩
abbrev cX10_fitBehind : ByteArray := prog_12_method_17_code
def yX10_fitBehind : MethodName := ⟨RX10, "fitBehind", "(LGangColumns$Scene;II)Z"⟩
abbrev cX10_gapOf : ByteArray := prog_12_method_18_code
def yX10_gapOf : MethodName := ⟨RX10, "gapOf", "(LGangColumns$Scene;III)I"⟩
abbrev cX10_goodOrders : ByteArray := prog_12_method_19_code
def yX10_goodOrders : MethodName := ⟨RX10, "goodOrders", "(LGangColumns$Scene;II)I"⟩
abbrev cX10_isGoodOrder : ByteArray := prog_12_method_20_code
def yX10_isGoodOrder : MethodName := ⟨RX10, "isGoodOrder", "(I)Z"⟩
abbrev cX10_firstTick : ByteArray := prog_12_method_21_code
def yX10_firstTick : MethodName := ⟨RX10, "firstTick", "(LGangColumns$Scene;LGangColumns$Gang;I)I"⟩
abbrev cX10_openColumns : ByteArray := prog_12_method_22_code
def yX10_openColumns : MethodName := ⟨RX10, "openColumns", "(LGangColumns$Scene;II)I"⟩
def RX11 : String := "GangColumns"
def TX11 : u_T := fun k => match k with
  | 0 => ("GangColumns", "scene", "LGangColumns$Scene;", true)
  | 1 => ("GangColumns", "imaged", "LGangColumns$Scene;", true)
  | 2 => ("GangColumns", "scheduler", "LGangColumns$Scheduler;", true)
  | 3 => ("GangColumns", "thoughts", "LGangColumns$Thoughts;", true)
  | 4 => ("GangColumns", "tape", "LGangColumns$Tape;", true)
  | 5 => ("GangColumns", "told", "LGangColumns$Gang;", true)
  | 6 => ("GangColumns", "lineNow", "LGangColumns$Line;", true)
  | _ => ("GangColumns", "words", "Ljava/lang/StringBuilder;", true)
def tyX11 : Nat → FieldType := fun k => match k with
  | 0 => .object "GangColumns$Scene"
  | 1 => .object "GangColumns$Scene"
  | 2 => .object "GangColumns$Scheduler"
  | 3 => .object "GangColumns$Thoughts"
  | 4 => .object "GangColumns$Tape"
  | 5 => .object "GangColumns$Gang"
  | 6 => .object "GangColumns$Line"
  | _ => .object "java/lang/StringBuilder"
abbrev wsX110 : List Cond := u_ws RX11 TX11 8
theorem nmX11 : ∀ a, a < 8 → ∀ b, b < 8 → a ≠ b → (TX11 a).2.1 ≠ (TX11 b).2.1 := by decide +kernel
theorem tyX11_ok : ∀ k, k < 8 → parseFieldDescriptor (TX11 k).2.2.1 = some (tyX11 k) := by decide +kernel
abbrev cX11_init : ByteArray := prog_1_method_1_code
def yX11_init : MethodName := ⟨RX11, "<init>", "()V"⟩
abbrev cX11_weight : ByteArray := prog_1_method_2_code
def yX11_weight : MethodName := ⟨RX11, "weight", "(II)I"⟩
abbrev cX11_limit : ByteArray := prog_1_method_3_code
def yX11_limit : MethodName := ⟨RX11, "limit", "(II)I"⟩
abbrev cX11_rule : ByteArray := prog_1_method_5_code
def yX11_rule : MethodName := ⟨RX11, "rule", "(II)I"⟩
abbrev cX11_used : ByteArray := prog_1_method_6_code
def yX11_used : MethodName := ⟨RX11, "used", "(I)J"⟩
abbrev cX11_feed : ByteArray := prog_1_method_7_code
def yX11_feed : MethodName := ⟨RX11, "feed", "(I)I"⟩
abbrev cX11_job : ByteArray := prog_1_method_8_code
def yX11_job : MethodName := ⟨RX11, "job", "(IIII)I"⟩
abbrev cX11_off : ByteArray := prog_1_method_9_code
def yX11_off : MethodName := ⟨RX11, "off", "(I)I"⟩
abbrev cX11_of : ByteArray := prog_1_method_10_code
def yX11_of : MethodName := ⟨RX11, "of", "(II)I"⟩
abbrev cX11_arm : ByteArray := prog_1_method_11_code
def yX11_arm : MethodName := ⟨RX11, "arm", "(III)I"⟩
abbrev cX11_line : ByteArray := prog_1_method_12_code
def yX11_line : MethodName := ⟨RX11, "line", "(I)I"⟩
abbrev cX11_hold : ByteArray := prog_1_method_14_code
def yX11_hold : MethodName := ⟨RX11, "hold", "(II)I"⟩
abbrev cX11_keep : ByteArray := prog_1_method_16_code
def yX11_keep : MethodName := ⟨RX11, "keep", "(IIII)I"⟩
abbrev cX11_step : ByteArray := prog_1_method_19_code
def yX11_step : MethodName := ⟨RX11, "step", "(I)I"⟩
abbrev cX11_holder : ByteArray := prog_1_method_21_code
def yX11_holder : MethodName := ⟨RX11, "holder", "(I)I"⟩
abbrev cX11_promised : ByteArray := prog_1_method_22_code
def yX11_promised : MethodName := ⟨RX11, "promised", "(II)I"⟩
abbrev cX11_foretell : ByteArray := prog_1_method_23_code
def yX11_foretell : MethodName := ⟨RX11, "foretell", "(I)I"⟩
abbrev cX11_plan : ByteArray := prog_1_method_24_code
def yX11_plan : MethodName := ⟨RX11, "plan", "(I)I"⟩
abbrev cX11_byRule : ByteArray := prog_1_method_25_code
def yX11_byRule : MethodName := ⟨RX11, "byRule", "(III)I"⟩
abbrev cX11_shrunk : ByteArray := prog_1_method_26_code
def yX11_shrunk : MethodName := ⟨RX11, "shrunk", "(I)I"⟩
abbrev cX11_moves : ByteArray := prog_1_method_27_code
def yX11_moves : MethodName := ⟨RX11, "moves", "(I)I"⟩
abbrev cX11_together : ByteArray := prog_1_method_28_code
def yX11_together : MethodName := ⟨RX11, "together", "(II)I"⟩
abbrev cX11_gap : ByteArray := prog_1_method_29_code
def yX11_gap : MethodName := ⟨RX11, "gap", "(III)I"⟩
abbrev cX11_orders : ByteArray := prog_1_method_30_code
def yX11_orders : MethodName := ⟨RX11, "orders", "(II)I"⟩
abbrev cX11_costs : ByteArray := prog_1_method_31_code
def yX11_costs : MethodName := ⟨RX11, "costs", "(III)I"⟩
abbrev cX11_earliest : ByteArray := prog_1_method_32_code
def yX11_earliest : MethodName := ⟨RX11, "earliest", "(I)I"⟩
abbrev cX11_holes : ByteArray := prog_1_method_33_code
def yX11_holes : MethodName := ⟨RX11, "holes", "(III)I"⟩
abbrev cX11_led : ByteArray := prog_1_method_34_code
def yX11_led : MethodName := ⟨RX11, "led", "(I)J"⟩
abbrev cX11_chart : ByteArray := prog_1_method_35_code
def yX11_chart : MethodName := ⟨RX11, "chart", "(II)I"⟩
abbrev cX11_event : ByteArray := prog_1_method_36_code
def yX11_event : MethodName := ⟨RX11, "event", "(II)I"⟩
abbrev cX11_started : ByteArray := prog_1_method_37_code
def yX11_started : MethodName := ⟨RX11, "started", "(I)I"⟩
abbrev cX11_back : ByteArray := prog_1_method_39_code
def yX11_back : MethodName := ⟨RX11, "back", "()I"⟩
abbrev cX11_count : ByteArray := prog_1_method_40_code
def yX11_count : MethodName := ⟨RX11, "count", "(I)I"⟩
abbrev cX11_isAccount : ByteArray := prog_1_method_41_code
def yX11_isAccount : MethodName := ⟨RX11, "isAccount", "(I)Z"⟩
abbrev cX11_isRank : ByteArray := prog_1_method_42_code
def yX11_isRank : MethodName := ⟨RX11, "isRank", "(I)Z"⟩
abbrev cX11_isColumn : ByteArray := prog_1_method_43_code
def yX11_isColumn : MethodName := ⟨RX11, "isColumn", "(I)Z"⟩
abbrev cX11_isRule : ByteArray := prog_1_method_44_code
def yX11_isRule : MethodName := ⟨RX11, "isRule", "(II)Z"⟩
abbrev cX11_isJob : ByteArray := prog_1_method_45_code
def yX11_isJob : MethodName := ⟨RX11, "isJob", "(I)Z"⟩
abbrev cX11_isWaiting : ByteArray := prog_1_method_46_code
def yX11_isWaiting : MethodName := ⟨RX11, "isWaiting", "(I)Z"⟩
abbrev cX11_isSpan : ByteArray := prog_1_method_47_code
def yX11_isSpan : MethodName := ⟨RX11, "isSpan", "(IIJI)Z"⟩
abbrev cX11_orNot : ByteArray := prog_1_method_48_code
def yX11_orNot : MethodName := ⟨RX11, "orNot", "(I)I"⟩
abbrev cX11_listed : ByteArray := prog_1_method_49_code
def yX11_listed : MethodName := ⟨RX11, "listed", "([III)I"⟩
abbrev cX11_maskOf : ByteArray := prog_1_method_50_code
def yX11_maskOf : MethodName := ⟨RX11, "maskOf", "(II)I"⟩
abbrev cX11_bestRun : ByteArray := prog_1_method_51_code
def yX11_bestRun : MethodName := ⟨RX11, "bestRun", "(II)I"⟩
abbrev cX11_longestRun : ByteArray := prog_1_method_52_code
def yX11_longestRun : MethodName := ⟨RX11, "longestRun", "(I)I"⟩
def RX12 : String := "GangColumnsModel"
def TX12 : u_T := fun k => match k with
  | _ => ("", "", "", false)
def tyX12 : Nat → FieldType := fun k => match k with
  | _ => .int
abbrev wsX120 : List Cond := u_ws RX12 TX12 0
theorem nmX12 : ∀ a, a < 0 → ∀ b, b < 0 → a ≠ b → (TX12 a).2.1 ≠ (TX12 b).2.1 := by decide +kernel
theorem tyX12_ok : ∀ k, k < 0 → parseFieldDescriptor (TX12 k).2.2.1 = some (tyX12 k) := by decide +kernel
def RJx145de : String := "java/io/Serializable"
def TJx145de : u_T := fun k => match k with
  | _ => ("", "", "", false)
def tyJx145de : Nat → FieldType := fun k => match k with
  | _ => .int
abbrev wsJx145de0 : List Cond := u_ws RJx145de TJx145de 0
theorem nmJx145de : ∀ a, a < 0 → ∀ b, b < 0 → a ≠ b → (TJx145de a).2.1 ≠ (TJx145de b).2.1 := by decide +kernel
theorem tyJx145de_ok : ∀ k, k < 0 → parseFieldDescriptor (TJx145de k).2.2.1 = some (tyJx145de k) := by decide +kernel
def RJ5 : String := "java/lang/AbstractStringBuilder"
def TJ5 : u_T := fun k => match k with
  | _ => ("", "", "", false)
def tyJ5 : Nat → FieldType := fun k => match k with
  | _ => .int
abbrev wsJ50 : List Cond := u_ws RJ5 TJ5 0
theorem nmJ5 : ∀ a, a < 0 → ∀ b, b < 0 → a ≠ b → (TJ5 a).2.1 ≠ (TJ5 b).2.1 := by decide +kernel
theorem tyJ5_ok : ∀ k, k < 0 → parseFieldDescriptor (TJ5 k).2.2.1 = some (tyJ5 k) := by decide +kernel
abbrev cJ5_init_d00df : ByteArray := prog_15_method_2_code
def yJ5_init_d00df : MethodName := ⟨RJ5, "<init>", "(I)V"⟩
abbrev cJ5_length_8abf5 : ByteArray := prog_15_method_6_code
def yJ5_length_8abf5 : MethodName := ⟨RJ5, "length", "()I"⟩
abbrev cJ5_ensureCapacityInternal_d00df : ByteArray := prog_15_method_9_code
def yJ5_ensureCapacityInternal_d00df : MethodName := ⟨RJ5, "ensureCapacityInternal", "(I)V"⟩
abbrev cJ5_newCapacity_0f7a4 : ByteArray := prog_15_method_10_code
def yJ5_newCapacity_0f7a4 : MethodName := ⟨RJ5, "newCapacity", "(I)I"⟩
abbrev cJ5_inflate_da8c8 : ByteArray := prog_15_method_11_code
def yJ5_inflate_da8c8 : MethodName := ⟨RJ5, "inflate", "()V"⟩
abbrev cJ5_append_cf1ce : ByteArray := prog_15_method_22_code
def yJ5_append_cf1ce : MethodName := ⟨RJ5, "append", "(Ljava/lang/String;)Ljava/lang/AbstractStringBuilder;"⟩
abbrev cJ5_appendNull_278bc : ByteArray := prog_15_method_26_code
def yJ5_appendNull_278bc : MethodName := ⟨RJ5, "appendNull", "()Ljava/lang/AbstractStringBuilder;"⟩
abbrev cJ5_append_c97b9 : ByteArray := prog_15_method_32_code
def yJ5_append_c97b9 : MethodName := ⟨RJ5, "append", "(I)Ljava/lang/AbstractStringBuilder;"⟩
abbrev cJ5_getValue_6d5f1 : ByteArray := prog_15_method_64_code
def yJ5_getValue_6d5f1 : MethodName := ⟨RJ5, "getValue", "()[B"⟩
abbrev cJ5_isLatin1_aae02 : ByteArray := prog_15_method_68_code
def yJ5_isLatin1_aae02 : MethodName := ⟨RJ5, "isLatin1", "()Z"⟩
abbrev cJ5_inflateIfNeededFor_a7421 : ByteArray := prog_15_method_71_code
def yJ5_inflateIfNeededFor_a7421 : MethodName := ⟨RJ5, "inflateIfNeededFor", "(Ljava/lang/String;)V"⟩
abbrev cJ5_putStringAt_47b60 : ByteArray := prog_15_method_73_code
def yJ5_putStringAt_47b60 : MethodName := ⟨RJ5, "putStringAt", "(ILjava/lang/String;)V"⟩
def RJx2cfe8 : String := "java/lang/Appendable"
def TJx2cfe8 : u_T := fun k => match k with
  | _ => ("", "", "", false)
def tyJx2cfe8 : Nat → FieldType := fun k => match k with
  | _ => .int
abbrev wsJx2cfe80 : List Cond := u_ws RJx2cfe8 TJx2cfe8 0
theorem nmJx2cfe8 : ∀ a, a < 0 → ∀ b, b < 0 → a ≠ b → (TJx2cfe8 a).2.1 ≠ (TJx2cfe8 b).2.1 := by decide +kernel
theorem tyJx2cfe8_ok : ∀ k, k < 0 → parseFieldDescriptor (TJx2cfe8 k).2.2.1 = some (tyJx2cfe8 k) := by decide +kernel
def RJx9f9b0 : String := "java/lang/CharSequence"
def TJx9f9b0 : u_T := fun k => match k with
  | _ => ("", "", "", false)
def tyJx9f9b0 : Nat → FieldType := fun k => match k with
  | _ => .int
abbrev wsJx9f9b00 : List Cond := u_ws RJx9f9b0 TJx9f9b0 0
theorem nmJx9f9b0 : ∀ a, a < 0 → ∀ b, b < 0 → a ≠ b → (TJx9f9b0 a).2.1 ≠ (TJx9f9b0 b).2.1 := by decide +kernel
theorem tyJx9f9b0_ok : ∀ k, k < 0 → parseFieldDescriptor (TJx9f9b0 k).2.2.1 = some (tyJx9f9b0 k) := by decide +kernel
def RJx8e188 : String := "java/lang/Cloneable"
def TJx8e188 : u_T := fun k => match k with
  | _ => ("", "", "", false)
def tyJx8e188 : Nat → FieldType := fun k => match k with
  | _ => .int
abbrev wsJx8e1880 : List Cond := u_ws RJx8e188 TJx8e188 0
theorem nmJx8e188 : ∀ a, a < 0 → ∀ b, b < 0 → a ≠ b → (TJx8e188 a).2.1 ≠ (TJx8e188 b).2.1 := by decide +kernel
theorem tyJx8e188_ok : ∀ k, k < 0 → parseFieldDescriptor (TJx8e188 k).2.2.1 = some (tyJx8e188 k) := by decide +kernel
def RJxb160c : String := "java/lang/Comparable"
def TJxb160c : u_T := fun k => match k with
  | _ => ("", "", "", false)
def tyJxb160c : Nat → FieldType := fun k => match k with
  | _ => .int
abbrev wsJxb160c0 : List Cond := u_ws RJxb160c TJxb160c 0
theorem nmJxb160c : ∀ a, a < 0 → ∀ b, b < 0 → a ≠ b → (TJxb160c a).2.1 ≠ (TJxb160c b).2.1 := by decide +kernel
theorem tyJxb160c_ok : ∀ k, k < 0 → parseFieldDescriptor (TJxb160c k).2.2.1 = some (tyJxb160c k) := by decide +kernel
def RJ6 : String := "java/lang/Integer"
def TJ6 : u_T := fun k => match k with
  | _ => ("", "", "", false)
def tyJ6 : Nat → FieldType := fun k => match k with
  | _ => .int
abbrev wsJ60 : List Cond := u_ws RJ6 TJ6 0
theorem nmJ6 : ∀ a, a < 0 → ∀ b, b < 0 → a ≠ b → (TJ6 a).2.1 ≠ (TJ6 b).2.1 := by decide +kernel
theorem tyJ6_ok : ∀ k, k < 0 → parseFieldDescriptor (TJ6 k).2.2.1 = some (tyJ6 k) := by decide +kernel
abbrev cJ6_getChars_ba4f3 : ByteArray := prog_17_method_12_code
def yJ6_getChars_ba4f3 : MethodName := ⟨RJ6, "getChars", "(II[B)I"⟩
abbrev cJ6_stringSize_0f7a4 : ByteArray := prog_17_method_13_code
def yJ6_stringSize_0f7a4 : MethodName := ⟨RJ6, "stringSize", "(I)I"⟩
abbrev cJ6_bitCount_0f7a4 : ByteArray := prog_17_method_49_code
def yJ6_bitCount_0f7a4 : MethodName := ⟨RJ6, "bitCount", "(I)I"⟩
def RJ9 : String := "java/lang/Math"
def TJ9 : u_T := fun k => match k with
  | _ => ("", "", "", false)
def tyJ9 : Nat → FieldType := fun k => match k with
  | _ => .int
abbrev wsJ90 : List Cond := u_ws RJ9 TJ9 0
theorem nmJ9 : ∀ a, a < 0 → ∀ b, b < 0 → a ≠ b → (TJ9 a).2.1 ≠ (TJ9 b).2.1 := by decide +kernel
theorem tyJ9_ok : ∀ k, k < 0 → parseFieldDescriptor (TJ9 k).2.2.1 = some (tyJ9 k) := by decide +kernel
abbrev cJ9_max_7cf53 : ByteArray := prog_18_method_65_code
def yJ9_max_7cf53 : MethodName := ⟨RJ9, "max", "(II)I"⟩
abbrev cJ9_min_7cf53 : ByteArray := prog_18_method_69_code
def yJ9_min_7cf53 : MethodName := ⟨RJ9, "min", "(II)I"⟩
def RJxd2413 : String := "java/lang/Number"
def TJxd2413 : u_T := fun k => match k with
  | _ => ("", "", "", false)
def tyJxd2413 : Nat → FieldType := fun k => match k with
  | _ => .int
abbrev wsJxd24130 : List Cond := u_ws RJxd2413 TJxd2413 0
theorem nmJxd2413 : ∀ a, a < 0 → ∀ b, b < 0 → a ≠ b → (TJxd2413 a).2.1 ≠ (TJxd2413 b).2.1 := by decide +kernel
theorem tyJxd2413_ok : ∀ k, k < 0 → parseFieldDescriptor (TJxd2413 k).2.2.1 = some (tyJxd2413 k) := by decide +kernel
def RJ0 : String := "java/lang/String"
def TJ0 : u_T := fun k => match k with
  | 0 => ("java/lang/String", "value", "[B", true)
  | 1 => ("java/lang/String", "coder", "B", true)
  | 2 => ("java/lang/String", "hash", "I", false)
  | _ => ("java/lang/String", "hashIsZero", "Z", false)
def tyJ0 : Nat → FieldType := fun k => match k with
  | 0 => .array .byte
  | 1 => .byte
  | 2 => .int
  | _ => .boolean
abbrev wsJ00 : List Cond := u_ws RJ0 TJ0 4
theorem nmJ0 : ∀ a, a < 4 → ∀ b, b < 4 → a ≠ b → (TJ0 a).2.1 ≠ (TJ0 b).2.1 := by decide +kernel
theorem tyJ0_ok : ∀ k, k < 4 → parseFieldDescriptor (TJ0 k).2.2.1 = some (tyJ0 k) := by decide +kernel
abbrev cJ0_init_81219 : ByteArray := prog_20_method_53_code
def yJ0_init_81219 : MethodName := ⟨RJ0, "<init>", "(Ljava/lang/StringBuilder;)V"⟩
abbrev cJ0_length_8abf5 : ByteArray := prog_20_method_54_code
def yJ0_length_8abf5 : MethodName := ⟨RJ0, "length", "()I"⟩
abbrev cJ0_charAt_5068e : ByteArray := prog_20_method_56_code
def yJ0_charAt_5068e : MethodName := ⟨RJ0, "charAt", "(I)C"⟩
abbrev cJ0_getBytes_840e7 : ByteArray := prog_20_method_147_code
def yJ0_getBytes_840e7 : MethodName := ⟨RJ0, "getBytes", "([BIB)V"⟩
abbrev cJ0_init_db425 : ByteArray := prog_20_method_150_code
def yJ0_init_db425 : MethodName := ⟨RJ0, "<init>", "(Ljava/lang/AbstractStringBuilder;Ljava/lang/Void;)V"⟩
abbrev cJ0_coder_7d493 : ByteArray := prog_20_method_152_code
def yJ0_coder_7d493 : MethodName := ⟨RJ0, "coder", "()B"⟩
abbrev cJ0_isLatin1_aae02 : ByteArray := prog_20_method_154_code
def yJ0_isLatin1_aae02 : MethodName := ⟨RJ0, "isLatin1", "()Z"⟩
abbrev cJ0_checkIndex_df160 : ByteArray := prog_20_method_155_code
def yJ0_checkIndex_df160 : MethodName := ⟨RJ0, "checkIndex", "(II)V"⟩
abbrev cJ0_checkBoundsOffCount_cabcc : ByteArray := prog_20_method_157_code
def yJ0_checkBoundsOffCount_cabcc : MethodName := ⟨RJ0, "checkBoundsOffCount", "(III)I"⟩
abbrev cJ0_checkBoundsBeginEnd_23922 : ByteArray := prog_20_method_158_code
def yJ0_checkBoundsBeginEnd_23922 : MethodName := ⟨RJ0, "checkBoundsBeginEnd", "(III)V"⟩
def RJ4 : String := "java/lang/StringBuilder"
def TJ4 : u_T := fun k => match k with
  | 0 => ("java/lang/AbstractStringBuilder", "value", "[B", false)
  | 1 => ("java/lang/AbstractStringBuilder", "coder", "B", false)
  | 2 => ("java/lang/AbstractStringBuilder", "maybeLatin1", "Z", false)
  | _ => ("java/lang/AbstractStringBuilder", "count", "I", false)
def tyJ4 : Nat → FieldType := fun k => match k with
  | 0 => .array .byte
  | 1 => .byte
  | 2 => .boolean
  | _ => .int
abbrev wsJ40 : List Cond := u_ws RJ4 TJ4 4
theorem nmJ4 : ∀ a, a < 4 → ∀ b, b < 4 → a ≠ b → (TJ4 a).2.1 ≠ (TJ4 b).2.1 := by decide +kernel
theorem tyJ4_ok : ∀ k, k < 4 → parseFieldDescriptor (TJ4 k).2.2.1 = some (tyJ4 k) := by decide +kernel
abbrev cJ4_init_da8c8 : ByteArray := prog_21_method_1_code
def yJ4_init_da8c8 : MethodName := ⟨RJ4, "<init>", "()V"⟩
abbrev cJ4_append_15ec4 : ByteArray := prog_21_method_7_code
def yJ4_append_15ec4 : MethodName := ⟨RJ4, "append", "(Ljava/lang/String;)Ljava/lang/StringBuilder;"⟩
abbrev cJ4_append_bf812 : ByteArray := prog_21_method_15_code
def yJ4_append_bf812 : MethodName := ⟨RJ4, "append", "(I)Ljava/lang/StringBuilder;"⟩
abbrev cJ4_toString_0e30d : ByteArray := prog_21_method_42_code
def yJ4_toString_0e30d : MethodName := ⟨RJ4, "toString", "()Ljava/lang/String;"⟩
abbrev cJ4_length_8abf5 : ByteArray := prog_21_method_93_code
def yJ4_length_8abf5 : MethodName := ⟨RJ4, "length", "()I"⟩
def RJ1 : String := "java/lang/StringLatin1"
def TJ1 : u_T := fun k => match k with
  | _ => ("", "", "", false)
def tyJ1 : Nat → FieldType := fun k => match k with
  | _ => .int
abbrev wsJ10 : List Cond := u_ws RJ1 TJ1 0
theorem nmJ1 : ∀ a, a < 0 → ∀ b, b < 0 → a ≠ b → (TJ1 a).2.1 ≠ (TJ1 b).2.1 := by decide +kernel
theorem tyJ1_ok : ∀ k, k < 0 → parseFieldDescriptor (TJ1 k).2.2.1 = some (tyJ1 k) := by decide +kernel
abbrev cJ1_charAt_3b067 : ByteArray := prog_22_method_2_code
def yJ1_charAt_3b067 : MethodName := ⟨RJ1, "charAt", "([BI)C"⟩
abbrev cJ1_inflate_0e8fd : ByteArray := prog_22_method_50_code
def yJ1_inflate_0e8fd : MethodName := ⟨RJ1, "inflate", "([BI[BII)V"⟩
def RJ2 : String := "java/lang/StringUTF16"
def TJ2 : u_T := fun k => match k with
  | _ => ("", "", "", false)
def tyJ2 : Nat → FieldType := fun k => match k with
  | _ => .int
abbrev wsJ20 : List Cond := u_ws RJ2 TJ2 0
theorem nmJ2 : ∀ a, a < 0 → ∀ b, b < 0 → a ≠ b → (TJ2 a).2.1 ≠ (TJ2 b).2.1 := by decide +kernel
theorem tyJ2_ok : ∀ k, k < 0 → parseFieldDescriptor (TJ2 k).2.2.1 = some (tyJ2 k) := by decide +kernel
abbrev cJ2_newBytesFor_77867 : ByteArray := prog_23_method_2_code
def yJ2_newBytesFor_77867 : MethodName := ⟨RJ2, "newBytesFor", "(I)[B"⟩
abbrev cJ2_newBytesLength_0f7a4 : ByteArray := prog_23_method_3_code
def yJ2_newBytesLength_0f7a4 : MethodName := ⟨RJ2, "newBytesLength", "(I)I"⟩
abbrev cJ2_putChar_b72d1 : ByteArray := prog_23_method_4_code
def yJ2_putChar_b72d1 : MethodName := ⟨RJ2, "putChar", "([BII)V"⟩
abbrev cJ2_getChar_3b067 : ByteArray := prog_23_method_5_code
def yJ2_getChar_3b067 : MethodName := ⟨RJ2, "getChar", "([BI)C"⟩
abbrev cJ2_length_9d52b : ByteArray := prog_23_method_6_code
def yJ2_length_9d52b : MethodName := ⟨RJ2, "length", "([B)I"⟩
abbrev cJ2_coderFromArrayLen_85cad : ByteArray := prog_23_method_15_code
def yJ2_coderFromArrayLen_85cad : MethodName := ⟨RJ2, "coderFromArrayLen", "([BI)B"⟩
abbrev cJ2_compress_39247 : ByteArray := prog_23_method_17_code
def yJ2_compress_39247 : MethodName := ⟨RJ2, "compress", "([BII)[B"⟩
abbrev cJ2_compress_5af95 : ByteArray := prog_23_method_22_code
def yJ2_compress_5af95 : MethodName := ⟨RJ2, "compress", "([BI[BII)I"⟩
abbrev cJ2_getChars_46870 : ByteArray := prog_23_method_77_code
def yJ2_getChars_46870 : MethodName := ⟨RJ2, "getChars", "(III[B)I"⟩
abbrev cJ2_putCharsAt_cd4e5 : ByteArray := prog_23_method_81_code
def yJ2_putCharsAt_cd4e5 : MethodName := ⟨RJ2, "putCharsAt", "([BICCCC)I"⟩
abbrev cJ2_charAt_3b067 : ByteArray := prog_23_method_83_code
def yJ2_charAt_3b067 : MethodName := ⟨RJ2, "charAt", "([BI)C"⟩
abbrev cJ2_inflate_0e8fd : ByteArray := prog_23_method_86_code
def yJ2_inflate_0e8fd : MethodName := ⟨RJ2, "inflate", "([BI[BII)V"⟩
abbrev cJ2_getChars_ba4f3 : ByteArray := prog_23_method_89_code
def yJ2_getChars_ba4f3 : MethodName := ⟨RJ2, "getChars", "(II[B)I"⟩
abbrev cJ2_checkIndex_2214a : ByteArray := prog_23_method_91_code
def yJ2_checkIndex_2214a : MethodName := ⟨RJ2, "checkIndex", "(I[B)V"⟩
abbrev cJ2_checkBoundsBeginEnd_d044e : ByteArray := prog_23_method_93_code
def yJ2_checkBoundsBeginEnd_d044e : MethodName := ⟨RJ2, "checkBoundsBeginEnd", "(II[B)V"⟩
abbrev cJ2_checkBoundsOffCount_d044e : ByteArray := prog_23_method_94_code
def yJ2_checkBoundsOffCount_d044e : MethodName := ⟨RJ2, "checkBoundsOffCount", "(II[B)V"⟩
def RJ10 : String := "java/lang/System"
def TJ10 : u_T := fun k => match k with
  | _ => ("", "", "", false)
def tyJ10 : Nat → FieldType := fun k => match k with
  | _ => .int
abbrev wsJ100 : List Cond := u_ws RJ10 TJ10 0
theorem nmJ10 : ∀ a, a < 0 → ∀ b, b < 0 → a ≠ b → (TJ10 a).2.1 ≠ (TJ10 b).2.1 := by decide +kernel
theorem tyJ10_ok : ∀ k, k < 0 → parseFieldDescriptor (TJ10 k).2.2.1 = some (tyJ10 k) := by decide +kernel
def RJxfd54e : String := "java/lang/constant/Constable"
def TJxfd54e : u_T := fun k => match k with
  | _ => ("", "", "", false)
def tyJxfd54e : Nat → FieldType := fun k => match k with
  | _ => .int
abbrev wsJxfd54e0 : List Cond := u_ws RJxfd54e TJxfd54e 0
theorem nmJxfd54e : ∀ a, a < 0 → ∀ b, b < 0 → a ≠ b → (TJxfd54e a).2.1 ≠ (TJxfd54e b).2.1 := by decide +kernel
theorem tyJxfd54e_ok : ∀ k, k < 0 → parseFieldDescriptor (TJxfd54e k).2.2.1 = some (tyJxfd54e k) := by decide +kernel
def RJx3cf43 : String := "java/lang/constant/ConstantDesc"
def TJx3cf43 : u_T := fun k => match k with
  | _ => ("", "", "", false)
def tyJx3cf43 : Nat → FieldType := fun k => match k with
  | _ => .int
abbrev wsJx3cf430 : List Cond := u_ws RJx3cf43 TJx3cf43 0
theorem nmJx3cf43 : ∀ a, a < 0 → ∀ b, b < 0 → a ≠ b → (TJx3cf43 a).2.1 ≠ (TJx3cf43 b).2.1 := by decide +kernel
theorem tyJx3cf43_ok : ∀ k, k < 0 → parseFieldDescriptor (TJx3cf43 k).2.2.1 = some (tyJx3cf43 k) := by decide +kernel
def RJ7 : String := "java/util/Arrays"
def TJ7 : u_T := fun k => match k with
  | _ => ("", "", "", false)
def tyJ7 : Nat → FieldType := fun k => match k with
  | _ => .int
abbrev wsJ70 : List Cond := u_ws RJ7 TJ7 0
theorem nmJ7 : ∀ a, a < 0 → ∀ b, b < 0 → a ≠ b → (TJ7 a).2.1 ≠ (TJ7 b).2.1 := by decide +kernel
theorem tyJ7_ok : ∀ k, k < 0 → parseFieldDescriptor (TJ7 k).2.2.1 = some (tyJ7 k) := by decide +kernel
abbrev cJ7_fill_53178 : ByteArray := prog_25_method_103_code
def yJ7_fill_53178 : MethodName := ⟨RJ7, "fill", "([II)V"⟩
abbrev cJ7_copyOf_9075b : ByteArray := prog_25_method_121_code
def yJ7_copyOf_9075b : MethodName := ⟨RJ7, "copyOf", "([BI)[B"⟩
abbrev cJ7_checkLength_df160 : ByteArray := prog_25_method_131_code
def yJ7_checkLength_df160 : MethodName := ⟨RJ7, "checkLength", "(II)V"⟩
abbrev cJ7_copyOfRange_39247 : ByteArray := prog_25_method_132_code
def yJ7_copyOfRange_39247 : MethodName := ⟨RJ7, "copyOfRange", "([BII)[B"⟩
abbrev cJ7_copyOfRangeByte_39247 : ByteArray := prog_25_method_133_code
def yJ7_copyOfRangeByte_39247 : MethodName := ⟨RJ7, "copyOfRangeByte", "([BII)[B"⟩
def RJ8 : String := "jdk/internal/util/ArraysSupport"
def TJ8 : u_T := fun k => match k with
  | _ => ("", "", "", false)
def tyJ8 : Nat → FieldType := fun k => match k with
  | _ => .int
abbrev wsJ80 : List Cond := u_ws RJ8 TJ8 0
theorem nmJ8 : ∀ a, a < 0 → ∀ b, b < 0 → a ≠ b → (TJ8 a).2.1 ≠ (TJ8 b).2.1 := by decide +kernel
theorem tyJ8_ok : ∀ k, k < 0 → parseFieldDescriptor (TJ8 k).2.2.1 = some (tyJ8 k) := by decide +kernel
abbrev cJ8_newLength_cabcc : ByteArray := prog_26_method_27_code
def yJ8_newLength_cabcc : MethodName := ⟨RJ8, "newLength", "(III)I"⟩
abbrev cJ8_hugeLength_7cf53 : ByteArray := prog_26_method_28_code
def yJ8_hugeLength_7cf53 : MethodName := ⟨RJ8, "hugeLength", "(II)I"⟩
def RJ3 : String := "jdk/internal/util/Preconditions"
def TJ3 : u_T := fun k => match k with
  | _ => ("", "", "", false)
def tyJ3 : Nat → FieldType := fun k => match k with
  | _ => .int
abbrev wsJ30 : List Cond := u_ws RJ3 TJ3 0
theorem nmJ3 : ∀ a, a < 0 → ∀ b, b < 0 → a ≠ b → (TJ3 a).2.1 ≠ (TJ3 b).2.1 := by decide +kernel
theorem tyJ3_ok : ∀ k, k < 0 → parseFieldDescriptor (TJ3 k).2.2.1 = some (tyJ3 k) := by decide +kernel
abbrev cJ3_checkIndex_8e157 : ByteArray := prog_27_method_11_code
def yJ3_checkIndex_8e157 : MethodName := ⟨RJ3, "checkIndex", "(IILjava/util/function/BiFunction;)I"⟩
abbrev cJ3_checkFromToIndex_8c36e : ByteArray := prog_27_method_12_code
def yJ3_checkFromToIndex_8c36e : MethodName := ⟨RJ3, "checkFromToIndex", "(IIILjava/util/function/BiFunction;)I"⟩
abbrev cJ3_checkFromIndexSize_8c36e : ByteArray := prog_27_method_13_code
def yJ3_checkFromIndexSize_8c36e : MethodName := ⟨RJ3, "checkFromIndexSize", "(IIILjava/util/function/BiFunction;)I"⟩
def RL : String := "GangColumnsLaw"
abbrev cL_cell : ByteArray := method_2_code
def yL_cell : MethodName := ⟨RL, "cell", "([II)I"⟩
abbrev cL_tell : ByteArray := method_3_code
def yL_tell : MethodName := ⟨RL, "tell", "(LGangColumns;Ljava/lang/String;)Z"⟩
abbrev cL_arms : ByteArray := method_4_code
def yL_arms : MethodName := ⟨RL, "arms", "(I)Ljava/lang/String;"⟩
abbrev cL_all : ByteArray := method_5_code
def yL_all : MethodName := ⟨RL, "all", "(LGangColumns;)J"⟩
abbrev cL_think : ByteArray := method_6_code
def yL_think : MethodName := ⟨RL, "think", "(LGangColumns;I)V"⟩
abbrev cL_law : ByteArray := code
def yL_law : MethodName := ⟨RL, "law", "([I)Z"⟩
theorem inX0 : ∀ w ∈ wsX00, w ∈ lw_tbl := by decide +kernel
theorem inX1 : ∀ w ∈ wsX10, w ∈ lw_tbl := by decide +kernel
theorem inX2 : ∀ w ∈ wsX20, w ∈ lw_tbl := by decide +kernel
theorem inX3 : ∀ w ∈ wsX30, w ∈ lw_tbl := by decide +kernel
theorem inX4 : ∀ w ∈ wsX40, w ∈ lw_tbl := by decide +kernel
theorem inX5 : ∀ w ∈ wsX50, w ∈ lw_tbl := by decide +kernel
theorem inX6 : ∀ w ∈ wsX60, w ∈ lw_tbl := by decide +kernel
theorem inX7 : ∀ w ∈ wsX70, w ∈ lw_tbl := by decide +kernel
theorem inX8 : ∀ w ∈ wsX80, w ∈ lw_tbl := by decide +kernel
theorem inX9 : ∀ w ∈ wsX90, w ∈ lw_tbl := by decide +kernel
theorem inX10 : ∀ w ∈ wsX100, w ∈ lw_tbl := by decide +kernel
theorem inX11 : ∀ w ∈ wsX110, w ∈ lw_tbl := by decide +kernel
