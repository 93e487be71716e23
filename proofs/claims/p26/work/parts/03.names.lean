def RX0 : String := "AccessGate$Ask"
def TX0 : u_T := fun k => match k with
  | 0 => ("AccessGate$Ask", "who", "LAccessGate$Person;", true)
  | 1 => ("AccessGate$Ask", "where", "LAccessGate$Machine;", true)
  | 2 => ("AccessGate$Ask", "minutes", "I", true)
  | 3 => ("AccessGate$Ask", "time", "I", true)
  | 4 => ("AccessGate$Ask", "firstApprover", "LAccessGate$Person;", false)
  | _ => ("AccessGate$Ask", "settled", "I", false)
def tyX0 : Nat → FieldType := fun k => match k with
  | 0 => .object "AccessGate$Person"
  | 1 => .object "AccessGate$Machine"
  | 2 => .int
  | 3 => .int
  | 4 => .object "AccessGate$Person"
  | _ => .int
abbrev wsX00 : List Cond := u_ws RX0 TX0 6
theorem nmX0 : ∀ a, a < 6 → ∀ b, b < 6 → a ≠ b → (TX0 a).2.1 ≠ (TX0 b).2.1 := by decide +kernel
theorem tyX0_ok : ∀ k, k < 6 → parseFieldDescriptor (TX0 k).2.2.1 = some (tyX0 k) := by decide +kernel
abbrev cX0_init : ByteArray := prog_2_method_1_code
def yX0_init : MethodName := ⟨RX0, "<init>", "(LAccessGate$Person;LAccessGate$Machine;II)V"⟩
abbrev cX0_stateAt : ByteArray := prog_2_method_2_code
def yX0_stateAt : MethodName := ⟨RX0, "stateAt", "(I)I"⟩
def RX1 : String := "AccessGate$Entry"
def TX1 : u_T := fun k => match k with
  | 0 => ("AccessGate$Entry", "who", "LAccessGate$Person;", true)
  | 1 => ("AccessGate$Entry", "where", "LAccessGate$Machine;", true)
  | 2 => ("AccessGate$Entry", "time", "I", true)
  | _ => ("AccessGate$Entry", "lookedAt", "Z", false)
def tyX1 : Nat → FieldType := fun k => match k with
  | 0 => .object "AccessGate$Person"
  | 1 => .object "AccessGate$Machine"
  | 2 => .int
  | _ => .boolean
abbrev wsX10 : List Cond := u_ws RX1 TX1 4
theorem nmX1 : ∀ a, a < 4 → ∀ b, b < 4 → a ≠ b → (TX1 a).2.1 ≠ (TX1 b).2.1 := by decide +kernel
theorem tyX1_ok : ∀ k, k < 4 → parseFieldDescriptor (TX1 k).2.2.1 = some (tyX1 k) := by decide +kernel
abbrev cX1_init : ByteArray := prog_3_method_1_code
def yX1_init : MethodName := ⟨RX1, "<init>", "(LAccessGate$Person;LAccessGate$Machine;I)V"⟩
abbrev cX1_isOverdueAt : ByteArray := prog_3_method_2_code
def yX1_isOverdueAt : MethodName := ⟨RX1, "isOverdueAt", "(I)Z"⟩
def RX2 : String := "AccessGate$Machine"
def TX2 : u_T := fun k => match k with
  | 0 => ("AccessGate$Machine", "number", "I", true)
  | _ => ("AccessGate$Machine", "label", "I", true)
def tyX2 : Nat → FieldType := fun k => match k with
  | 0 => .int
  | _ => .int
abbrev wsX20 : List Cond := u_ws RX2 TX2 2
theorem nmX2 : ∀ a, a < 2 → ∀ b, b < 2 → a ≠ b → (TX2 a).2.1 ≠ (TX2 b).2.1 := by decide +kernel
theorem tyX2_ok : ∀ k, k < 2 → parseFieldDescriptor (TX2 k).2.2.1 = some (tyX2 k) := by decide +kernel
abbrev cX2_init : ByteArray := prog_4_method_1_code
def yX2_init : MethodName := ⟨RX2, "<init>", "(II)V"⟩
def RX3 : String := "AccessGate$Person"
def TX3 : u_T := fun k => match k with
  | 0 => ("AccessGate$Person", "number", "I", true)
  | 1 => ("AccessGate$Person", "team", "I", true)
  | _ => ("AccessGate$Person", "labelBits", "I", false)
def tyX3 : Nat → FieldType := fun k => match k with
  | 0 => .int
  | 1 => .int
  | _ => .int
abbrev wsX30 : List Cond := u_ws RX3 TX3 3
theorem nmX3 : ∀ a, a < 3 → ∀ b, b < 3 → a ≠ b → (TX3 a).2.1 ≠ (TX3 b).2.1 := by decide +kernel
theorem tyX3_ok : ∀ k, k < 3 → parseFieldDescriptor (TX3 k).2.2.1 = some (tyX3 k) := by decide +kernel
abbrev cX3_init : ByteArray := prog_5_method_1_code
def yX3_init : MethodName := ⟨RX3, "<init>", "(II)V"⟩
abbrev cX3_hasLabel : ByteArray := prog_5_method_2_code
def yX3_hasLabel : MethodName := ⟨RX3, "hasLabel", "(I)Z"⟩
abbrev cX3_keepLabel : ByteArray := prog_5_method_3_code
def yX3_keepLabel : MethodName := ⟨RX3, "keepLabel", "(IZ)V"⟩
abbrev cX3_mayJudge : ByteArray := prog_5_method_4_code
def yX3_mayJudge : MethodName := ⟨RX3, "mayJudge", "(LAccessGate$Person;LAccessGate$Machine;)Z"⟩
def RX4 : String := "AccessGate$Right"
def TX4 : u_T := fun k => match k with
  | 0 => ("AccessGate$Right", "who", "LAccessGate$Person;", true)
  | 1 => ("AccessGate$Right", "where", "LAccessGate$Machine;", true)
  | 2 => ("AccessGate$Right", "begin", "I", true)
  | _ => ("AccessGate$Right", "end", "I", false)
def tyX4 : Nat → FieldType := fun k => match k with
  | 0 => .object "AccessGate$Person"
  | 1 => .object "AccessGate$Machine"
  | 2 => .int
  | _ => .int
abbrev wsX40 : List Cond := u_ws RX4 TX4 4
theorem nmX4 : ∀ a, a < 4 → ∀ b, b < 4 → a ≠ b → (TX4 a).2.1 ≠ (TX4 b).2.1 := by decide +kernel
theorem tyX4_ok : ∀ k, k < 4 → parseFieldDescriptor (TX4 k).2.2.1 = some (tyX4 k) := by decide +kernel
abbrev cX4_init : ByteArray := prog_6_method_1_code
def yX4_init : MethodName := ⟨RX4, "<init>", "(LAccessGate$Person;LAccessGate$Machine;II)V"⟩
abbrev cX4_holdsAt : ByteArray := prog_6_method_2_code
def yX4_holdsAt : MethodName := ⟨RX4, "holdsAt", "(I)Z"⟩
def RX5 : String := "AccessGate$Session"
def TX5 : u_T := fun k => match k with
  | 0 => ("AccessGate$Session", "who", "LAccessGate$Person;", true)
  | 1 => ("AccessGate$Session", "where", "LAccessGate$Machine;", true)
  | 2 => ("AccessGate$Session", "closed", "Z", false)
  | 3 => ("AccessGate$Session", "lastLine", "I", false)
  | 4 => ("AccessGate$Session", "heldSince", "I", false)
  | _ => ("AccessGate$Session", "linesLetThrough", "I", false)
def tyX5 : Nat → FieldType := fun k => match k with
  | 0 => .object "AccessGate$Person"
  | 1 => .object "AccessGate$Machine"
  | 2 => .boolean
  | 3 => .int
  | 4 => .int
  | _ => .int
abbrev wsX50 : List Cond := u_ws RX5 TX5 6
theorem nmX5 : ∀ a, a < 6 → ∀ b, b < 6 → a ≠ b → (TX5 a).2.1 ≠ (TX5 b).2.1 := by decide +kernel
theorem tyX5_ok : ∀ k, k < 6 → parseFieldDescriptor (TX5 k).2.2.1 = some (tyX5 k) := by decide +kernel
abbrev cX5_init : ByteArray := prog_7_method_1_code
def yX5_init : MethodName := ⟨RX5, "<init>", "(LAccessGate$Person;LAccessGate$Machine;I)V"⟩
abbrev cX5_holdsLine : ByteArray := prog_7_method_2_code
def yX5_holdsLine : MethodName := ⟨RX5, "holdsLine", "()Z"⟩
abbrev cX5_restsAt : ByteArray := prog_7_method_3_code
def yX5_restsAt : MethodName := ⟨RX5, "restsAt", "(I)Z"⟩
def RX6 : String := "AccessGate$StepRecord"
def TX6 : u_T := fun k => match k with
  | 0 => ("AccessGate$StepRecord", "kinds", "[I", true)
  | 1 => ("AccessGate$StepRecord", "seals", "[I", true)
  | 2 => ("AccessGate$StepRecord", "count", "I", false)
  | _ => ("AccessGate$StepRecord", "lastSeal", "I", false)
def tyX6 : Nat → FieldType := fun k => match k with
  | 0 => .array .int
  | 1 => .array .int
  | 2 => .int
  | _ => .int
abbrev wsX60 : List Cond := u_ws RX6 TX6 4
theorem nmX6 : ∀ a, a < 4 → ∀ b, b < 4 → a ≠ b → (TX6 a).2.1 ≠ (TX6 b).2.1 := by decide +kernel
theorem tyX6_ok : ∀ k, k < 4 → parseFieldDescriptor (TX6 k).2.2.1 = some (tyX6 k) := by decide +kernel
abbrev cX6_init : ByteArray := prog_8_method_1_code
def yX6_init : MethodName := ⟨RX6, "<init>", "()V"⟩
abbrev cX6_add : ByteArray := prog_8_method_2_code
def yX6_add : MethodName := ⟨RX6, "add", "(ILAccessGate$Person;LAccessGate$Machine;I)V"⟩
def RX7 : String := "AccessGate"
def TX7 : u_T := fun k => match k with
  | 0 => ("AccessGate", "people", "Ljava/util/ArrayList;", true)
  | 1 => ("AccessGate", "machines", "Ljava/util/ArrayList;", true)
  | 2 => ("AccessGate", "asks", "Ljava/util/ArrayList;", true)
  | 3 => ("AccessGate", "entries", "Ljava/util/ArrayList;", true)
  | 4 => ("AccessGate", "rights", "Ljava/util/ArrayList;", true)
  | 5 => ("AccessGate", "sessions", "Ljava/util/ArrayList;", true)
  | 6 => ("AccessGate", "record", "LAccessGate$StepRecord;", true)
  | 7 => ("AccessGate", "openCount", "I", false)
  | _ => ("AccessGate", "now", "I", false)
def tyX7 : Nat → FieldType := fun k => match k with
  | 0 => .object "java/util/ArrayList"
  | 1 => .object "java/util/ArrayList"
  | 2 => .object "java/util/ArrayList"
  | 3 => .object "java/util/ArrayList"
  | 4 => .object "java/util/ArrayList"
  | 5 => .object "java/util/ArrayList"
  | 6 => .object "AccessGate$StepRecord"
  | 7 => .int
  | _ => .int
abbrev wsX70 : List Cond := u_ws RX7 TX7 9
theorem nmX7 : ∀ a, a < 9 → ∀ b, b < 9 → a ≠ b → (TX7 a).2.1 ≠ (TX7 b).2.1 := by decide +kernel
theorem tyX7_ok : ∀ k, k < 9 → parseFieldDescriptor (TX7 k).2.2.1 = some (tyX7 k) := by decide +kernel
abbrev cX7_init : ByteArray := prog_1_method_1_code
def yX7_init : MethodName := ⟨RX7, "<init>", "()V"⟩
abbrev cX7_addPerson : ByteArray := prog_1_method_2_code
def yX7_addPerson : MethodName := ⟨RX7, "addPerson", "(I)I"⟩
abbrev cX7_addMachine : ByteArray := prog_1_method_3_code
def yX7_addMachine : MethodName := ⟨RX7, "addMachine", "(I)I"⟩
abbrev cX7_setLabel : ByteArray := prog_1_method_4_code
def yX7_setLabel : MethodName := ⟨RX7, "setLabel", "(IIZ)I"⟩
abbrev cX7_takeAway : ByteArray := prog_1_method_5_code
def yX7_takeAway : MethodName := ⟨RX7, "takeAway", "(II)I"⟩
abbrev cX7_ask : ByteArray := prog_1_method_6_code
def yX7_ask : MethodName := ⟨RX7, "ask", "(III)I"⟩
abbrev cX7_approve : ByteArray := prog_1_method_7_code
def yX7_approve : MethodName := ⟨RX7, "approve", "(II)Z"⟩
abbrev cX7_deny : ByteArray := prog_1_method_8_code
def yX7_deny : MethodName := ⟨RX7, "deny", "(II)V"⟩
abbrev cX7_askState : ByteArray := prog_1_method_9_code
def yX7_askState : MethodName := ⟨RX7, "askState", "(I)I"⟩
abbrev cX7_enter : ByteArray := prog_1_method_10_code
def yX7_enter : MethodName := ⟨RX7, "enter", "(II)I"⟩
abbrev cX7_lookAt : ByteArray := prog_1_method_11_code
def yX7_lookAt : MethodName := ⟨RX7, "lookAt", "(II)I"⟩
abbrev cX7_overdue : ByteArray := prog_1_method_12_code
def yX7_overdue : MethodName := ⟨RX7, "overdue", "(I)I"⟩
abbrev cX7_couldEnter : ByteArray := prog_1_method_13_code
def yX7_couldEnter : MethodName := ⟨RX7, "couldEnter", "(III)Z"⟩
abbrev cX7_open : ByteArray := prog_1_method_14_code
def yX7_open : MethodName := ⟨RX7, "open", "(II)I"⟩
abbrev cX7_type : ByteArray := prog_1_method_15_code
def yX7_type : MethodName := ⟨RX7, "type", "(II)Z"⟩
abbrev cX7_letThrough : ByteArray := prog_1_method_16_code
def yX7_letThrough : MethodName := ⟨RX7, "letThrough", "(II)I"⟩
abbrev cX7_close : ByteArray := prog_1_method_17_code
def yX7_close : MethodName := ⟨RX7, "close", "(I)I"⟩
abbrev cX7_isOpen : ByteArray := prog_1_method_18_code
def yX7_isOpen : MethodName := ⟨RX7, "isOpen", "(I)Z"⟩
abbrev cX7_openSessions : ByteArray := prog_1_method_19_code
def yX7_openSessions : MethodName := ⟨RX7, "openSessions", "()I"⟩
abbrev cX7_pass : ByteArray := prog_1_method_20_code
def yX7_pass : MethodName := ⟨RX7, "pass", "(I)I"⟩
abbrev cX7_clock : ByteArray := prog_1_method_21_code
def yX7_clock : MethodName := ⟨RX7, "clock", "()I"⟩
abbrev cX7_steps : ByteArray := prog_1_method_22_code
def yX7_steps : MethodName := ⟨RX7, "steps", "()I"⟩
abbrev cX7_kind : ByteArray := prog_1_method_23_code
def yX7_kind : MethodName := ⟨RX7, "kind", "(I)I"⟩
abbrev cX7_seal : ByteArray := prog_1_method_24_code
def yX7_seal : MethodName := ⟨RX7, "seal", "(I)I"⟩
abbrev cX7_personAt : ByteArray := prog_1_method_25_code
def yX7_personAt : MethodName := ⟨RX7, "personAt", "(I)LAccessGate$Person;"⟩
abbrev cX7_machineAt : ByteArray := prog_1_method_26_code
def yX7_machineAt : MethodName := ⟨RX7, "machineAt", "(I)LAccessGate$Machine;"⟩
abbrev cX7_askAt : ByteArray := prog_1_method_27_code
def yX7_askAt : MethodName := ⟨RX7, "askAt", "(I)LAccessGate$Ask;"⟩
abbrev cX7_entryAt : ByteArray := prog_1_method_28_code
def yX7_entryAt : MethodName := ⟨RX7, "entryAt", "(I)LAccessGate$Entry;"⟩
abbrev cX7_sessionAt : ByteArray := prog_1_method_29_code
def yX7_sessionAt : MethodName := ⟨RX7, "sessionAt", "(I)LAccessGate$Session;"⟩
abbrev cX7_requireStep : ByteArray := prog_1_method_30_code
def yX7_requireStep : MethodName := ⟨RX7, "requireStep", "(I)V"⟩
abbrev cX7_requireLabel : ByteArray := prog_1_method_31_code
def yX7_requireLabel : MethodName := ⟨RX7, "requireLabel", "(I)V"⟩
abbrev cX7_requireRoomFor : ByteArray := prog_1_method_32_code
def yX7_requireRoomFor : MethodName := ⟨RX7, "requireRoomFor", "(I)V"⟩
abbrev cX7_requireOpen : ByteArray := prog_1_method_33_code
def yX7_requireOpen : MethodName := ⟨RX7, "requireOpen", "(LAccessGate$Session;)V"⟩
abbrev cX7_requireMayAskOrEnter : ByteArray := prog_1_method_34_code
def yX7_requireMayAskOrEnter : MethodName := ⟨RX7, "requireMayAskOrEnter", "(LAccessGate$Person;LAccessGate$Machine;)V"⟩
abbrev cX7_requireMayJudge : ByteArray := prog_1_method_35_code
def yX7_requireMayJudge : MethodName := ⟨RX7, "requireMayJudge", "(LAccessGate$Ask;LAccessGate$Person;)V"⟩
abbrev cX7_countOverdue : ByteArray := prog_1_method_36_code
def yX7_countOverdue : MethodName := ⟨RX7, "countOverdue", "(LAccessGate$Person;)I"⟩
abbrev cX7_rightHolds : ByteArray := prog_1_method_37_code
def yX7_rightHolds : MethodName := ⟨RX7, "rightHolds", "(LAccessGate$Person;LAccessGate$Machine;I)Z"⟩
abbrev cX7_endRights : ByteArray := prog_1_method_38_code
def yX7_endRights : MethodName := ⟨RX7, "endRights", "(LAccessGate$Person;LAccessGate$Machine;)V"⟩
abbrev cX7_denyWaitingAsks : ByteArray := prog_1_method_39_code
def yX7_denyWaitingAsks : MethodName := ⟨RX7, "denyWaitingAsks", "(LAccessGate$Person;LAccessGate$Machine;)V"⟩
abbrev cX7_closeEndedSessions : ByteArray := prog_1_method_40_code
def yX7_closeEndedSessions : MethodName := ⟨RX7, "closeEndedSessions", "()I"⟩
abbrev cX7_endSession : ByteArray := prog_1_method_41_code
def yX7_endSession : MethodName := ⟨RX7, "endSession", "(LAccessGate$Session;)V"⟩
def RX8 : String := "AccessGateModel"
def TX8 : u_T := fun k => match k with
  | _ => ("", "", "", false)
def tyX8 : Nat → FieldType := fun k => match k with
  | _ => .int
abbrev wsX80 : List Cond := u_ws RX8 TX8 0
theorem nmX8 : ∀ a, a < 0 → ∀ b, b < 0 → a ≠ b → (TX8 a).2.1 ≠ (TX8 b).2.1 := by decide +kernel
theorem tyX8_ok : ∀ k, k < 0 → parseFieldDescriptor (TX8 k).2.2.1 = some (tyX8 k) := by decide +kernel
def RJx145de : String := "java/io/Serializable"
def TJx145de : u_T := fun k => match k with
  | _ => ("", "", "", false)
def tyJx145de : Nat → FieldType := fun k => match k with
  | _ => .int
abbrev wsJx145de0 : List Cond := u_ws RJx145de TJx145de 0
theorem nmJx145de : ∀ a, a < 0 → ∀ b, b < 0 → a ≠ b → (TJx145de a).2.1 ≠ (TJx145de b).2.1 := by decide +kernel
theorem tyJx145de_ok : ∀ k, k < 0 → parseFieldDescriptor (TJx145de k).2.2.1 = some (tyJx145de k) := by decide +kernel
def RJx8e188 : String := "java/lang/Cloneable"
def TJx8e188 : u_T := fun k => match k with
  | _ => ("", "", "", false)
def tyJx8e188 : Nat → FieldType := fun k => match k with
  | _ => .int
abbrev wsJx8e1880 : List Cond := u_ws RJx8e188 TJx8e188 0
theorem nmJx8e188 : ∀ a, a < 0 → ∀ b, b < 0 → a ≠ b → (TJx8e188 a).2.1 ≠ (TJx8e188 b).2.1 := by decide +kernel
theorem tyJx8e188_ok : ∀ k, k < 0 → parseFieldDescriptor (TJx8e188 k).2.2.1 = some (tyJx8e188 k) := by decide +kernel
def RJxab1ab : String := "java/lang/Iterable"
def TJxab1ab : u_T := fun k => match k with
  | _ => ("", "", "", false)
def tyJxab1ab : Nat → FieldType := fun k => match k with
  | _ => .int
abbrev wsJxab1ab0 : List Cond := u_ws RJxab1ab TJxab1ab 0
theorem nmJxab1ab : ∀ a, a < 0 → ∀ b, b < 0 → a ≠ b → (TJxab1ab a).2.1 ≠ (TJxab1ab b).2.1 := by decide +kernel
theorem tyJxab1ab_ok : ∀ k, k < 0 → parseFieldDescriptor (TJxab1ab k).2.2.1 = some (tyJxab1ab k) := by decide +kernel
def RJ9 : String := "java/lang/Math"
def TJ9 : u_T := fun k => match k with
  | _ => ("", "", "", false)
def tyJ9 : Nat → FieldType := fun k => match k with
  | _ => .int
abbrev wsJ90 : List Cond := u_ws RJ9 TJ9 0
theorem nmJ9 : ∀ a, a < 0 → ∀ b, b < 0 → a ≠ b → (TJ9 a).2.1 ≠ (TJ9 b).2.1 := by decide +kernel
theorem tyJ9_ok : ∀ k, k < 0 → parseFieldDescriptor (TJ9 k).2.2.1 = some (tyJ9 k) := by decide +kernel
abbrev cJ9_max_7cf53 : ByteArray := prog_18_method_65_code
def yJ9_max_7cf53 : MethodName := ⟨RJ9, "max", "(II)I"⟩
abbrev cJ9_min_7cf53 : ByteArray := prog_18_method_69_code
def yJ9_min_7cf53 : MethodName := ⟨RJ9, "min", "(II)I"⟩
def RJ0 : String := "java/lang/String"
def TJ0 : u_T := fun k => match k with
  | _ => ("", "", "", false)
def tyJ0 : Nat → FieldType := fun k => match k with
  | _ => .int
abbrev wsJ00 : List Cond := u_ws RJ0 TJ0 0
theorem nmJ0 : ∀ a, a < 0 → ∀ b, b < 0 → a ≠ b → (TJ0 a).2.1 ≠ (TJ0 b).2.1 := by decide +kernel
theorem tyJ0_ok : ∀ k, k < 0 → parseFieldDescriptor (TJ0 k).2.2.1 = some (tyJ0 k) := by decide +kernel
def RJ10 : String := "java/lang/System"
def TJ10 : u_T := fun k => match k with
  | _ => ("", "", "", false)
def tyJ10 : Nat → FieldType := fun k => match k with
  | _ => .int
abbrev wsJ100 : List Cond := u_ws RJ10 TJ10 0
theorem nmJ10 : ∀ a, a < 0 → ∀ b, b < 0 → a ≠ b → (TJ10 a).2.1 ≠ (TJ10 b).2.1 := by decide +kernel
theorem tyJ10_ok : ∀ k, k < 0 → parseFieldDescriptor (TJ10 k).2.2.1 = some (tyJ10 k) := by decide +kernel
def RJxa1e45 : String := "java/util/AbstractCollection"
def TJxa1e45 : u_T := fun k => match k with
  | _ => ("", "", "", false)
def tyJxa1e45 : Nat → FieldType := fun k => match k with
  | _ => .int
abbrev wsJxa1e450 : List Cond := u_ws RJxa1e45 TJxa1e45 0
theorem nmJxa1e45 : ∀ a, a < 0 → ∀ b, b < 0 → a ≠ b → (TJxa1e45 a).2.1 ≠ (TJxa1e45 b).2.1 := by decide +kernel
theorem tyJxa1e45_ok : ∀ k, k < 0 → parseFieldDescriptor (TJxa1e45 k).2.2.1 = some (tyJxa1e45 k) := by decide +kernel
abbrev cJxa1e45_init_da8c8 : ByteArray := prog_23_method_1_code
def yJxa1e45_init_da8c8 : MethodName := ⟨RJxa1e45, "<init>", "()V"⟩
def RJxc12de : String := "java/util/AbstractList"
def TJxc12de : u_T := fun k => match k with
  | _ => ("", "", "", false)
def tyJxc12de : Nat → FieldType := fun k => match k with
  | _ => .int
abbrev wsJxc12de0 : List Cond := u_ws RJxc12de TJxc12de 0
theorem nmJxc12de : ∀ a, a < 0 → ∀ b, b < 0 → a ≠ b → (TJxc12de a).2.1 ≠ (TJxc12de b).2.1 := by decide +kernel
theorem tyJxc12de_ok : ∀ k, k < 0 → parseFieldDescriptor (TJxc12de k).2.2.1 = some (tyJxc12de k) := by decide +kernel
abbrev cJxc12de_init_da8c8 : ByteArray := prog_24_method_1_code
def yJxc12de_init_da8c8 : MethodName := ⟨RJxc12de, "<init>", "()V"⟩
def RJx4a65c : String := "java/util/ArrayList"
def TJx4a65c : u_T := fun k => match k with
  | 0 => ("java/util/AbstractList", "modCount", "I", false)
  | 1 => ("java/util/ArrayList", "elementData", "[Ljava/lang/Object;", false)
  | _ => ("java/util/ArrayList", "size", "I", false)
def tyJx4a65c : Nat → FieldType := fun k => match k with
  | 0 => .int
  | 1 => .array (.object "java/lang/Object")
  | _ => .int
abbrev wsJx4a65c0 : List Cond := u_ws RJx4a65c TJx4a65c 3
theorem nmJx4a65c : ∀ a, a < 3 → ∀ b, b < 3 → a ≠ b → (TJx4a65c a).2.1 ≠ (TJx4a65c b).2.1 := by decide +kernel
theorem tyJx4a65c_ok : ∀ k, k < 3 → parseFieldDescriptor (TJx4a65c k).2.2.1 = some (tyJx4a65c k) := by decide +kernel
abbrev cJx4a65c_init_da8c8 : ByteArray := prog_25_method_2_code
def yJx4a65c_init_da8c8 : MethodName := ⟨RJx4a65c, "<init>", "()V"⟩
abbrev cJx4a65c_grow_92f84 : ByteArray := prog_25_method_6_code
def yJx4a65c_grow_92f84 : MethodName := ⟨RJx4a65c, "grow", "(I)[Ljava/lang/Object;"⟩
abbrev cJx4a65c_grow_d5877 : ByteArray := prog_25_method_7_code
def yJx4a65c_grow_d5877 : MethodName := ⟨RJx4a65c, "grow", "()[Ljava/lang/Object;"⟩
abbrev cJx4a65c_size_8abf5 : ByteArray := prog_25_method_8_code
def yJx4a65c_size_8abf5 : MethodName := ⟨RJx4a65c, "size", "()I"⟩
abbrev cJx4a65c_elementData_915e3 : ByteArray := prog_25_method_18_code
def yJx4a65c_elementData_915e3 : MethodName := ⟨RJx4a65c, "elementData", "(I)Ljava/lang/Object;"⟩
abbrev cJx4a65c_get_915e3 : ByteArray := prog_25_method_20_code
def yJx4a65c_get_915e3 : MethodName := ⟨RJx4a65c, "get", "(I)Ljava/lang/Object;"⟩
abbrev cJx4a65c_add_72be8 : ByteArray := prog_25_method_24_code
def yJx4a65c_add_72be8 : MethodName := ⟨RJx4a65c, "add", "(Ljava/lang/Object;[Ljava/lang/Object;I)V"⟩
abbrev cJx4a65c_add_9ea2d : ByteArray := prog_25_method_25_code
def yJx4a65c_add_9ea2d : MethodName := ⟨RJx4a65c, "add", "(Ljava/lang/Object;)Z"⟩
def RJ7 : String := "java/util/Arrays"
def TJ7 : u_T := fun k => match k with
  | _ => ("", "", "", false)
def tyJ7 : Nat → FieldType := fun k => match k with
  | _ => .int
abbrev wsJ70 : List Cond := u_ws RJ7 TJ7 0
theorem nmJ7 : ∀ a, a < 0 → ∀ b, b < 0 → a ≠ b → (TJ7 a).2.1 ≠ (TJ7 b).2.1 := by decide +kernel
theorem tyJ7_ok : ∀ k, k < 0 → parseFieldDescriptor (TJ7 k).2.2.1 = some (tyJ7 k) := by decide +kernel
abbrev cJ7_copyOf_1904c : ByteArray := prog_26_method_119_code
def yJ7_copyOf_1904c : MethodName := ⟨RJ7, "copyOf", "([Ljava/lang/Object;I)[Ljava/lang/Object;"⟩
abbrev cJ7_copyOf_6403c : ByteArray := prog_26_method_120_code
def yJ7_copyOf_6403c : MethodName := ⟨RJ7, "copyOf", "([Ljava/lang/Object;ILjava/lang/Class;)[Ljava/lang/Object;"⟩
def RJx5ef63 : String := "java/util/Collection"
def TJx5ef63 : u_T := fun k => match k with
  | _ => ("", "", "", false)
def tyJx5ef63 : Nat → FieldType := fun k => match k with
  | _ => .int
abbrev wsJx5ef630 : List Cond := u_ws RJx5ef63 TJx5ef63 0
theorem nmJx5ef63 : ∀ a, a < 0 → ∀ b, b < 0 → a ≠ b → (TJx5ef63 a).2.1 ≠ (TJx5ef63 b).2.1 := by decide +kernel
theorem tyJx5ef63_ok : ∀ k, k < 0 → parseFieldDescriptor (TJx5ef63 k).2.2.1 = some (tyJx5ef63 k) := by decide +kernel
def RJxbd725 : String := "java/util/List"
def TJxbd725 : u_T := fun k => match k with
  | _ => ("", "", "", false)
def tyJxbd725 : Nat → FieldType := fun k => match k with
  | _ => .int
abbrev wsJxbd7250 : List Cond := u_ws RJxbd725 TJxbd725 0
theorem nmJxbd725 : ∀ a, a < 0 → ∀ b, b < 0 → a ≠ b → (TJxbd725 a).2.1 ≠ (TJxbd725 b).2.1 := by decide +kernel
theorem tyJxbd725_ok : ∀ k, k < 0 → parseFieldDescriptor (TJxbd725 k).2.2.1 = some (tyJxbd725 k) := by decide +kernel
def RJ15 : String := "java/util/Objects"
def TJ15 : u_T := fun k => match k with
  | _ => ("", "", "", false)
def tyJ15 : Nat → FieldType := fun k => match k with
  | _ => .int
abbrev wsJ150 : List Cond := u_ws RJ15 TJ15 0
theorem nmJ15 : ∀ a, a < 0 → ∀ b, b < 0 → a ≠ b → (TJ15 a).2.1 ≠ (TJ15 b).2.1 := by decide +kernel
theorem tyJ15_ok : ∀ k, k < 0 → parseFieldDescriptor (TJ15 k).2.2.1 = some (tyJ15 k) := by decide +kernel
abbrev cJ15_checkIndex_7cf53 : ByteArray := prog_29_method_17_code
def yJ15_checkIndex_7cf53 : MethodName := ⟨RJ15, "checkIndex", "(II)I"⟩
def RJxf0a74 : String := "java/util/RandomAccess"
def TJxf0a74 : u_T := fun k => match k with
  | _ => ("", "", "", false)
def tyJxf0a74 : Nat → FieldType := fun k => match k with
  | _ => .int
abbrev wsJxf0a740 : List Cond := u_ws RJxf0a74 TJxf0a74 0
theorem nmJxf0a74 : ∀ a, a < 0 → ∀ b, b < 0 → a ≠ b → (TJxf0a74 a).2.1 ≠ (TJxf0a74 b).2.1 := by decide +kernel
theorem tyJxf0a74_ok : ∀ k, k < 0 → parseFieldDescriptor (TJxf0a74 k).2.2.1 = some (tyJxf0a74 k) := by decide +kernel
def RJxa66e6 : String := "java/util/SequencedCollection"
def TJxa66e6 : u_T := fun k => match k with
  | _ => ("", "", "", false)
def tyJxa66e6 : Nat → FieldType := fun k => match k with
  | _ => .int
abbrev wsJxa66e60 : List Cond := u_ws RJxa66e6 TJxa66e6 0
theorem nmJxa66e6 : ∀ a, a < 0 → ∀ b, b < 0 → a ≠ b → (TJxa66e6 a).2.1 ≠ (TJxa66e6 b).2.1 := by decide +kernel
theorem tyJxa66e6_ok : ∀ k, k < 0 → parseFieldDescriptor (TJxa66e6 k).2.2.1 = some (tyJxa66e6 k) := by decide +kernel
def RJ8 : String := "jdk/internal/util/ArraysSupport"
def TJ8 : u_T := fun k => match k with
  | _ => ("", "", "", false)
def tyJ8 : Nat → FieldType := fun k => match k with
  | _ => .int
abbrev wsJ80 : List Cond := u_ws RJ8 TJ8 0
theorem nmJ8 : ∀ a, a < 0 → ∀ b, b < 0 → a ≠ b → (TJ8 a).2.1 ≠ (TJ8 b).2.1 := by decide +kernel
theorem tyJ8_ok : ∀ k, k < 0 → parseFieldDescriptor (TJ8 k).2.2.1 = some (tyJ8 k) := by decide +kernel
abbrev cJ8_newLength_cabcc : ByteArray := prog_32_method_27_code
def yJ8_newLength_cabcc : MethodName := ⟨RJ8, "newLength", "(III)I"⟩
abbrev cJ8_hugeLength_7cf53 : ByteArray := prog_32_method_28_code
def yJ8_hugeLength_7cf53 : MethodName := ⟨RJ8, "hugeLength", "(II)I"⟩
def RJ3 : String := "jdk/internal/util/Preconditions"
def TJ3 : u_T := fun k => match k with
  | _ => ("", "", "", false)
def tyJ3 : Nat → FieldType := fun k => match k with
  | _ => .int
abbrev wsJ30 : List Cond := u_ws RJ3 TJ3 0
theorem nmJ3 : ∀ a, a < 0 → ∀ b, b < 0 → a ≠ b → (TJ3 a).2.1 ≠ (TJ3 b).2.1 := by decide +kernel
theorem tyJ3_ok : ∀ k, k < 0 → parseFieldDescriptor (TJ3 k).2.2.1 = some (tyJ3 k) := by decide +kernel
abbrev cJ3_checkIndex_8e157 : ByteArray := prog_33_method_11_code
def yJ3_checkIndex_8e157 : MethodName := ⟨RJ3, "checkIndex", "(IILjava/util/function/BiFunction;)I"⟩
def RL : String := "AccessGateLaw"
abbrev cL_from : ByteArray := method_2_code
def yL_from : MethodName := ⟨RL, "from", "([III)I"⟩
abbrev cL_may : ByteArray := method_3_code
def yL_may : MethodName := ⟨RL, "may", "([I[III)Z"⟩
abbrev cL_holdsAt : ByteArray := method_4_code
def yL_holdsAt : MethodName := ⟨RL, "holdsAt", "([I[III)Z"⟩
abbrev cL_isStep : ByteArray := method_5_code
def yL_isStep : MethodName := ⟨RL, "isStep", "(LAccessGate;[IIIII)Z"⟩
abbrev cL_end : ByteArray := method_6_code
def yL_end : MethodName := ⟨RL, "end", "([I[II)V"⟩
abbrev cL_deny : ByteArray := method_7_code
def yL_deny : MethodName := ⟨RL, "deny", "([I[II)V"⟩
abbrev cL_shut : ByteArray := method_8_code
def yL_shut : MethodName := ⟨RL, "shut", "(LAccessGate;[I[I[II)I"⟩
abbrev cL_overdue : ByteArray := method_9_code
def yL_overdue : MethodName := ⟨RL, "overdue", "([I[II)I"⟩
abbrev cL_asked : ByteArray := method_10_code
def yL_asked : MethodName := ⟨RL, "asked", "(LAccessGate;III)I"⟩
abbrev cL_approved : ByteArray := method_11_code
def yL_approved : MethodName := ⟨RL, "approved", "(LAccessGate;II)I"⟩
abbrev cL_denied : ByteArray := method_12_code
def yL_denied : MethodName := ⟨RL, "denied", "(LAccessGate;II)I"⟩
abbrev cL_entered : ByteArray := method_13_code
def yL_entered : MethodName := ⟨RL, "entered", "(LAccessGate;II)I"⟩
abbrev cL_looked : ByteArray := method_14_code
def yL_looked : MethodName := ⟨RL, "looked", "(LAccessGate;II)I"⟩
abbrev cL_opened : ByteArray := method_15_code
def yL_opened : MethodName := ⟨RL, "opened", "(LAccessGate;II)I"⟩
abbrev cL_typed : ByteArray := method_16_code
def yL_typed : MethodName := ⟨RL, "typed", "(LAccessGate;II)I"⟩
abbrev cL_let : ByteArray := method_17_code
def yL_let : MethodName := ⟨RL, "let", "(LAccessGate;II)I"⟩
abbrev cL_closed : ByteArray := method_18_code
def yL_closed : MethodName := ⟨RL, "closed", "(LAccessGate;I)I"⟩
abbrev cL_give : ByteArray := method_19_code
def yL_give : MethodName := ⟨RL, "give", "([I[III)V"⟩
abbrev cL_isAsked : ByteArray := method_20_code
def yL_isAsked : MethodName := ⟨RL, "isAsked", "(LAccessGate;[I[I[I[I[I[III)Z"⟩
abbrev cL_isTyped : ByteArray := method_21_code
def yL_isTyped : MethodName := ⟨RL, "isTyped", "(LAccessGate;[I[I[I[I[III)Z"⟩
abbrev cL_isTold : ByteArray := method_22_code
def yL_isTold : MethodName := ⟨RL, "isTold", "(LAccessGate;[I[I[I[I[II)Z"⟩
abbrev cL_acts : ByteArray := method_23_code
def yL_acts : MethodName := ⟨RL, "acts", "(LAccessGate;[I[I[I[I[I[I[III)Z"⟩
abbrev cL_holds : ByteArray := method_24_code
def yL_holds : MethodName := ⟨RL, "holds", "([I)Z"⟩
abbrev cL_isHeld : ByteArray := method_25_code
def yL_isHeld : MethodName := ⟨RL, "isHeld", "([I)Z"⟩
abbrev cL_law : ByteArray := code
def yL_law : MethodName := ⟨RL, "law", "([I)Z"⟩
abbrev vwCl : List vw_C := [(RJx4a65c, TJx4a65c, 3), (RX0, TX0, 6), (RX1, TX1, 4), (RX2, TX2, 2), (RX3, TX3, 3), (RX4, TX4, 4), (RX5, TX5, 6), (RX6, TX6, 4), (RX7, TX7, 9)]
