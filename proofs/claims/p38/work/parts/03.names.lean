def RX0 : String := "SliceWright$Body"
def TX0 : u_T := fun k => match k with
  | _ => ("SliceWright$Body", "solid", "[Z", true)
def tyX0 : Nat → FieldType := fun k => match k with
  | _ => .array .boolean
abbrev wsX00 : List Cond := u_ws RX0 TX0 1
theorem nmX0 : ∀ a, a < 1 → ∀ b, b < 1 → a ≠ b → (TX0 a).2.1 ≠ (TX0 b).2.1 := by decide +kernel
theorem tyX0_ok : ∀ k, k < 1 → parseFieldDescriptor (TX0 k).2.2.1 = some (tyX0 k) := by decide +kernel
abbrev cX0_init : ByteArray := prog_2_method_1_code
def yX0_init : MethodName := ⟨RX0, "<init>", "()V"⟩
abbrev cX0_isSolid : ByteArray := prog_2_method_2_code
def yX0_isSolid : MethodName := ⟨RX0, "isSolid", "(III)Z"⟩
abbrev cX0_changeLayer : ByteArray := prog_2_method_3_code
def yX0_changeLayer : MethodName := ⟨RX0, "changeLayer", "(IIIIIZ)I"⟩
abbrev cX0_hangs : ByteArray := prog_2_method_6_code
def yX0_hangs : MethodName := ⟨RX0, "hangs", "(III)Z"⟩
abbrev cX0_isOpen : ByteArray := prog_2_method_7_code
def yX0_isOpen : MethodName := ⟨RX0, "isOpen", "(IIIII)Z"⟩
abbrev cX0_firstSolidAbove : ByteArray := prog_2_method_8_code
def yX0_firstSolidAbove : MethodName := ⟨RX0, "firstSolidAbove", "(III)I"⟩
def RX1 : String := "SliceWright$Commands"
def TX1 : u_T := fun k => match k with
  | 0 => ("SliceWright$Commands", "kind", "[C", true)
  | 1 => ("SliceWright$Commands", "headX", "[I", true)
  | 2 => ("SliceWright$Commands", "headY", "[I", true)
  | 3 => ("SliceWright$Commands", "layer", "[I", true)
  | 4 => ("SliceWright$Commands", "amountOfCell", "[I", true)
  | 5 => ("SliceWright$Commands", "count", "I", false)
  | 6 => ("SliceWright$Commands", "travel", "I", false)
  | _ => ("SliceWright$Commands", "amount", "J", false)
def tyX1 : Nat → FieldType := fun k => match k with
  | 0 => .array .char
  | 1 => .array .int
  | 2 => .array .int
  | 3 => .array .int
  | 4 => .array .int
  | 5 => .int
  | 6 => .int
  | _ => .long
abbrev wsX10 : List Cond := u_ws RX1 TX1 8
theorem nmX1 : ∀ a, a < 8 → ∀ b, b < 8 → a ≠ b → (TX1 a).2.1 ≠ (TX1 b).2.1 := by decide +kernel
theorem tyX1_ok : ∀ k, k < 8 → parseFieldDescriptor (TX1 k).2.2.1 = some (tyX1 k) := by decide +kernel
abbrev cX1_init : ByteArray := prog_3_method_1_code
def yX1_init : MethodName := ⟨RX1, "<init>", "()V"⟩
abbrev cX1_clear : ByteArray := prog_3_method_2_code
def yX1_clear : MethodName := ⟨RX1, "clear", "()V"⟩
abbrev cX1_keepAmount : ByteArray := prog_3_method_3_code
def yX1_keepAmount : MethodName := ⟨RX1, "keepAmount", "(II)V"⟩
abbrev cX1_add : ByteArray := prog_3_method_4_code
def yX1_add : MethodName := ⟨RX1, "add", "(CIII)V"⟩
abbrev cX1_size : ByteArray := prog_3_method_5_code
def yX1_size : MethodName := ⟨RX1, "size", "()I"⟩
abbrev cX1_travelled : ByteArray := prog_3_method_6_code
def yX1_travelled : MethodName := ⟨RX1, "travelled", "()I"⟩
abbrev cX1_amountInAll : ByteArray := prog_3_method_7_code
def yX1_amountInAll : MethodName := ⟨RX1, "amountInAll", "()J"⟩
abbrev cX1_has : ByteArray := prog_3_method_8_code
def yX1_has : MethodName := ⟨RX1, "has", "(I)Z"⟩
abbrev cX1_kindOf : ByteArray := prog_3_method_9_code
def yX1_kindOf : MethodName := ⟨RX1, "kindOf", "(I)C"⟩
abbrev cX1_behindX : ByteArray := prog_3_method_10_code
def yX1_behindX : MethodName := ⟨RX1, "behindX", "(I)I"⟩
abbrev cX1_behindY : ByteArray := prog_3_method_11_code
def yX1_behindY : MethodName := ⟨RX1, "behindY", "(I)I"⟩
abbrev cX1_layerOf : ByteArray := prog_3_method_12_code
def yX1_layerOf : MethodName := ⟨RX1, "layerOf", "(I)I"⟩
abbrev cX1_distanceX : ByteArray := prog_3_method_13_code
def yX1_distanceX : MethodName := ⟨RX1, "distanceX", "(I)I"⟩
abbrev cX1_distanceY : ByteArray := prog_3_method_14_code
def yX1_distanceY : MethodName := ⟨RX1, "distanceY", "(I)I"⟩
abbrev cX1_isMove : ByteArray := prog_3_method_15_code
def yX1_isMove : MethodName := ⟨RX1, "isMove", "(I)Z"⟩
abbrev cX1_hasNumber : ByteArray := prog_3_method_16_code
def yX1_hasNumber : MethodName := ⟨RX1, "hasNumber", "(IC)Z"⟩
abbrev cX1_numberOf : ByteArray := prog_3_method_17_code
def yX1_numberOf : MethodName := ⟨RX1, "numberOf", "(IC)I"⟩
abbrev cX1_cellAmount : ByteArray := prog_3_method_18_code
def yX1_cellAmount : MethodName := ⟨RX1, "cellAmount", "(I)I"⟩
abbrev cX1_cellsOf : ByteArray := prog_3_method_19_code
def yX1_cellsOf : MethodName := ⟨RX1, "cellsOf", "(I)I"⟩
abbrev cX1_lengthOf : ByteArray := prog_3_method_20_code
def yX1_lengthOf : MethodName := ⟨RX1, "lengthOf", "(I)I"⟩
abbrev cX1_greatestSpeed : ByteArray := prog_3_method_21_code
def yX1_greatestSpeed : MethodName := ⟨RX1, "greatestSpeed", "(I)I"⟩
abbrev cX1_goesOn : ByteArray := prog_3_method_22_code
def yX1_goesOn : MethodName := ⟨RX1, "goesOn", "(I)Z"⟩
abbrev cX1_lastSpeed : ByteArray := prog_3_method_23_code
def yX1_lastSpeed : MethodName := ⟨RX1, "lastSpeed", "(I)I"⟩
def RX2 : String := "SliceWright$Heat"
def TX2 : u_T := fun k => match k with
  | 0 => ("SliceWright$Heat", "target", "I", false)
  | 1 => ("SliceWright$Heat", "temperature", "I", false)
  | _ => ("SliceWright$Heat", "isOn", "Z", false)
def tyX2 : Nat → FieldType := fun k => match k with
  | 0 => .int
  | 1 => .int
  | _ => .boolean
abbrev wsX20 : List Cond := u_ws RX2 TX2 3
theorem nmX2 : ∀ a, a < 3 → ∀ b, b < 3 → a ≠ b → (TX2 a).2.1 ≠ (TX2 b).2.1 := by decide +kernel
theorem tyX2_ok : ∀ k, k < 3 → parseFieldDescriptor (TX2 k).2.2.1 = some (tyX2 k) := by decide +kernel
abbrev cX2_init : ByteArray := prog_4_method_1_code
def yX2_init : MethodName := ⟨RX2, "<init>", "()V"⟩
abbrev cX2_changeTarget : ByteArray := prog_4_method_2_code
def yX2_changeTarget : MethodName := ⟨RX2, "changeTarget", "(I)I"⟩
abbrev cX2_passTick : ByteArray := prog_4_method_4_code
def yX2_passTick : MethodName := ⟨RX2, "passTick", "()V"⟩
abbrev cX2_isEnough : ByteArray := prog_4_method_5_code
def yX2_isEnough : MethodName := ⟨RX2, "isEnough", "()Z"⟩
abbrev cX2_currentTemperature : ByteArray := prog_4_method_6_code
def yX2_currentTemperature : MethodName := ⟨RX2, "currentTemperature", "()I"⟩
def RX3 : String := "SliceWright$Kinds"
def TX3 : u_T := fun k => match k with
  | 0 => ("SliceWright$Kinds", "body", "LSliceWright$Body;", true)
  | 1 => ("SliceWright$Kinds", "settings", "LSliceWright$Settings;", true)
  | 2 => ("SliceWright$Kinds", "kind", "[C", true)
  | 3 => ("SliceWright$Kinds", "isKnown", "[Z", true)
  | _ => ("SliceWright$Kinds", "wall", "[I", true)
def tyX3 : Nat → FieldType := fun k => match k with
  | 0 => .object "SliceWright$Body"
  | 1 => .object "SliceWright$Settings"
  | 2 => .array .char
  | 3 => .array .boolean
  | _ => .array .int
abbrev wsX30 : List Cond := u_ws RX3 TX3 5
theorem nmX3 : ∀ a, a < 5 → ∀ b, b < 5 → a ≠ b → (TX3 a).2.1 ≠ (TX3 b).2.1 := by decide +kernel
theorem tyX3_ok : ∀ k, k < 5 → parseFieldDescriptor (TX3 k).2.2.1 = some (tyX3 k) := by decide +kernel
abbrev cX3_init : ByteArray := prog_5_method_1_code
def yX3_init : MethodName := ⟨RX3, "<init>", "(LSliceWright$Body;LSliceWright$Settings;)V"⟩
abbrev cX3_forgetAll : ByteArray := prog_5_method_2_code
def yX3_forgetAll : MethodName := ⟨RX3, "forgetAll", "()V"⟩
abbrev cX3_kindOf : ByteArray := prog_5_method_3_code
def yX3_kindOf : MethodName := ⟨RX3, "kindOf", "(III)C"⟩
abbrev cX3_findAll : ByteArray := prog_5_method_5_code
def yX3_findAll : MethodName := ⟨RX3, "findAll", "()V"⟩
abbrev cX3_findLayer : ByteArray := prog_5_method_6_code
def yX3_findLayer : MethodName := ⟨RX3, "findLayer", "(I)V"⟩
abbrev cX3_findWalls : ByteArray := prog_5_method_7_code
def yX3_findWalls : MethodName := ⟨RX3, "findWalls", "(I)V"⟩
abbrev cX3_touches : ByteArray := prog_5_method_8_code
def yX3_touches : MethodName := ⟨RX3, "touches", "(IIII)Z"⟩
abbrev cX3_wallAt : ByteArray := prog_5_method_9_code
def yX3_wallAt : MethodName := ⟨RX3, "wallAt", "(II)I"⟩
abbrev cX3_solidKind : ByteArray := prog_5_method_10_code
def yX3_solidKind : MethodName := ⟨RX3, "solidKind", "(III)C"⟩
abbrev cX3_findSupports : ByteArray := prog_5_method_11_code
def yX3_findSupports : MethodName := ⟨RX3, "findSupports", "(I)V"⟩
abbrev cX3_isSupport : ByteArray := prog_5_method_12_code
def yX3_isSupport : MethodName := ⟨RX3, "isSupport", "(III)Z"⟩
def RX4 : String := "SliceWright$Machine"
def TX4 : u_T := fun k => match k with
  | 0 => ("SliceWright$Machine", "commands", "LSliceWright$Commands;", true)
  | 1 => ("SliceWright$Machine", "heat", "LSliceWright$Heat;", true)
  | 2 => ("SliceWright$Machine", "state", "C", false)
  | 3 => ("SliceWright$Machine", "stateBeforeFailure", "C", false)
  | 4 => ("SliceWright$Machine", "next", "I", false)
  | 5 => ("SliceWright$Machine", "gone", "I", false)
  | 6 => ("SliceWright$Machine", "speed", "I", false)
  | 7 => ("SliceWright$Machine", "kept", "I", false)
  | 8 => ("SliceWright$Machine", "wasCut", "Z", false)
  | 9 => ("SliceWright$Machine", "time", "J", false)
  | 10 => ("SliceWright$Machine", "laid", "[I", true)
  | _ => ("SliceWright$Machine", "laidInAll", "J", false)
def tyX4 : Nat → FieldType := fun k => match k with
  | 0 => .object "SliceWright$Commands"
  | 1 => .object "SliceWright$Heat"
  | 2 => .char
  | 3 => .char
  | 4 => .int
  | 5 => .int
  | 6 => .int
  | 7 => .int
  | 8 => .boolean
  | 9 => .long
  | 10 => .array .int
  | _ => .long
abbrev wsX40 : List Cond := u_ws RX4 TX4 12
theorem nmX4 : ∀ a, a < 12 → ∀ b, b < 12 → a ≠ b → (TX4 a).2.1 ≠ (TX4 b).2.1 := by decide +kernel
theorem tyX4_ok : ∀ k, k < 12 → parseFieldDescriptor (TX4 k).2.2.1 = some (tyX4 k) := by decide +kernel
abbrev cX4_init : ByteArray := prog_6_method_1_code
def yX4_init : MethodName := ⟨RX4, "<init>", "(LSliceWright$Commands;LSliceWright$Heat;)V"⟩
abbrev cX4_isBusy : ByteArray := prog_6_method_2_code
def yX4_isBusy : MethodName := ⟨RX4, "isBusy", "()Z"⟩
abbrev cX4_isPrinting : ByteArray := prog_6_method_3_code
def yX4_isPrinting : MethodName := ⟨RX4, "isPrinting", "(C)Z"⟩
abbrev cX4_rest : ByteArray := prog_6_method_4_code
def yX4_rest : MethodName := ⟨RX4, "rest", "()V"⟩
abbrev cX4_beginPrint : ByteArray := prog_6_method_5_code
def yX4_beginPrint : MethodName := ⟨RX4, "beginPrint", "()V"⟩
abbrev cX4_goTo : ByteArray := prog_6_method_6_code
def yX4_goTo : MethodName := ⟨RX4, "goTo", "(I)V"⟩
abbrev cX4_passTicks : ByteArray := prog_6_method_7_code
def yX4_passTicks : MethodName := ⟨RX4, "passTicks", "(I)I"⟩
abbrev cX4_doTick : ByteArray := prog_6_method_8_code
def yX4_doTick : MethodName := ⟨RX4, "doTick", "()Z"⟩
abbrev cX4_speedFor : ByteArray := prog_6_method_9_code
def yX4_speedFor : MethodName := ⟨RX4, "speedFor", "(I)I"⟩
abbrev cX4_canEnd : ByteArray := prog_6_method_10_code
def yX4_canEnd : MethodName := ⟨RX4, "canEnd", "(III)Z"⟩
abbrev cX4_endCommand : ByteArray := prog_6_method_11_code
def yX4_endCommand : MethodName := ⟨RX4, "endCommand", "()V"⟩
abbrev cX4_lay : ByteArray := prog_6_method_12_code
def yX4_lay : MethodName := ⟨RX4, "lay", "(I)V"⟩
abbrev cX4_endPause : ByteArray := prog_6_method_13_code
def yX4_endPause : MethodName := ⟨RX4, "endPause", "()V"⟩
abbrev cX4_beginFailure : ByteArray := prog_6_method_14_code
def yX4_beginFailure : MethodName := ⟨RX4, "beginFailure", "()C"⟩
abbrev cX4_endFailure : ByteArray := prog_6_method_15_code
def yX4_endFailure : MethodName := ⟨RX4, "endFailure", "()C"⟩
abbrev cX4_currentState : ByteArray := prog_6_method_19_code
def yX4_currentState : MethodName := ⟨RX4, "currentState", "()C"⟩
abbrev cX4_nextCommand : ByteArray := prog_6_method_20_code
def yX4_nextCommand : MethodName := ⟨RX4, "nextCommand", "()I"⟩
abbrev cX4_currentSpeed : ByteArray := prog_6_method_21_code
def yX4_currentSpeed : MethodName := ⟨RX4, "currentSpeed", "()I"⟩
abbrev cX4_ticksPassed : ByteArray := prog_6_method_22_code
def yX4_ticksPassed : MethodName := ⟨RX4, "ticksPassed", "()J"⟩
abbrev cX4_laidIn : ByteArray := prog_6_method_23_code
def yX4_laidIn : MethodName := ⟨RX4, "laidIn", "(III)I"⟩
abbrev cX4_sumOfLaid : ByteArray := prog_6_method_24_code
def yX4_sumOfLaid : MethodName := ⟨RX4, "sumOfLaid", "()J"⟩
def RX5 : String := "SliceWright$Outlines"
def TX5 : u_T := fun k => match k with
  | 0 => ("SliceWright$Outlines", "body", "LSliceWright$Body;", true)
  | 1 => ("SliceWright$Outlines", "isSeen", "[Z", true)
  | 2 => ("SliceWright$Outlines", "found", "[I", true)
  | 3 => ("SliceWright$Outlines", "foundCount", "I", false)
  | _ => ("SliceWright$Outlines", "isGone", "[Z", true)
def tyX5 : Nat → FieldType := fun k => match k with
  | 0 => .object "SliceWright$Body"
  | 1 => .array .boolean
  | 2 => .array .int
  | 3 => .int
  | _ => .array .boolean
abbrev wsX50 : List Cond := u_ws RX5 TX5 5
theorem nmX5 : ∀ a, a < 5 → ∀ b, b < 5 → a ≠ b → (TX5 a).2.1 ≠ (TX5 b).2.1 := by decide +kernel
theorem tyX5_ok : ∀ k, k < 5 → parseFieldDescriptor (TX5 k).2.2.1 = some (tyX5 k) := by decide +kernel
abbrev cX5_init : ByteArray := prog_7_method_1_code
def yX5_init : MethodName := ⟨RX5, "<init>", "(LSliceWright$Body;)V"⟩
def RX6 : String := "SliceWright$Planner"
def TX6 : u_T := fun k => match k with
  | 0 => ("SliceWright$Planner", "settings", "LSliceWright$Settings;", true)
  | 1 => ("SliceWright$Planner", "strokes", "LSliceWright$Strokes;", true)
  | 2 => ("SliceWright$Planner", "commands", "LSliceWright$Commands;", true)
  | 3 => ("SliceWright$Planner", "isDrawn", "[Z", true)
  | 4 => ("SliceWright$Planner", "headX", "I", false)
  | _ => ("SliceWright$Planner", "headY", "I", false)
def tyX6 : Nat → FieldType := fun k => match k with
  | 0 => .object "SliceWright$Settings"
  | 1 => .object "SliceWright$Strokes"
  | 2 => .object "SliceWright$Commands"
  | 3 => .array .boolean
  | 4 => .int
  | _ => .int
abbrev wsX60 : List Cond := u_ws RX6 TX6 6
theorem nmX6 : ∀ a, a < 6 → ∀ b, b < 6 → a ≠ b → (TX6 a).2.1 ≠ (TX6 b).2.1 := by decide +kernel
theorem tyX6_ok : ∀ k, k < 6 → parseFieldDescriptor (TX6 k).2.2.1 = some (tyX6 k) := by decide +kernel
abbrev cX6_init : ByteArray := prog_8_method_1_code
def yX6_init : MethodName := ⟨RX6, "<init>", "(LSliceWright$Settings;LSliceWright$Strokes;LSliceWright$Commands;)V"⟩
abbrev cX6_makeCommands : ByteArray := prog_8_method_2_code
def yX6_makeCommands : MethodName := ⟨RX6, "makeCommands", "()V"⟩
abbrev cX6_planLayer : ByteArray := prog_8_method_3_code
def yX6_planLayer : MethodName := ⟨RX6, "planLayer", "(I)V"⟩
abbrev cX6_nearestStroke : ByteArray := prog_8_method_4_code
def yX6_nearestStroke : MethodName := ⟨RX6, "nearestStroke", "()I"⟩
abbrev cX6_distanceOf : ByteArray := prog_8_method_5_code
def yX6_distanceOf : MethodName := ⟨RX6, "distanceOf", "(I)I"⟩
abbrev cX6_distanceOfEnd : ByteArray := prog_8_method_6_code
def yX6_distanceOfEnd : MethodName := ⟨RX6, "distanceOfEnd", "(IZ)I"⟩
abbrev cX6_planStroke : ByteArray := prog_8_method_7_code
def yX6_planStroke : MethodName := ⟨RX6, "planStroke", "(II)V"⟩
def RX7 : String := "SliceWright$Settings"
def TX7 : u_T := fun k => match k with
  | 0 => ("SliceWright$Settings", "walls", "I", false)
  | 1 => ("SliceWright$Settings", "skins", "I", false)
  | 2 => ("SliceWright$Settings", "spread", "I", false)
  | 3 => ("SliceWright$Settings", "supports", "I", false)
  | 4 => ("SliceWright$Settings", "gap", "I", false)
  | 5 => ("SliceWright$Settings", "reach", "I", false)
  | 6 => ("SliceWright$Settings", "pattern", "C", false)
  | 7 => ("SliceWright$Settings", "thickness", "[I", true)
  | _ => ("SliceWright$Settings", "pause", "[Z", true)
def tyX7 : Nat → FieldType := fun k => match k with
  | 0 => .int
  | 1 => .int
  | 2 => .int
  | 3 => .int
  | 4 => .int
  | 5 => .int
  | 6 => .char
  | 7 => .array .int
  | _ => .array .boolean
abbrev wsX70 : List Cond := u_ws RX7 TX7 9
theorem nmX7 : ∀ a, a < 9 → ∀ b, b < 9 → a ≠ b → (TX7 a).2.1 ≠ (TX7 b).2.1 := by decide +kernel
theorem tyX7_ok : ∀ k, k < 9 → parseFieldDescriptor (TX7 k).2.2.1 = some (tyX7 k) := by decide +kernel
abbrev cX7_init : ByteArray := prog_9_method_1_code
def yX7_init : MethodName := ⟨RX7, "<init>", "()V"⟩
abbrev cX7_isAllowed : ByteArray := prog_9_method_2_code
def yX7_isAllowed : MethodName := ⟨RX7, "isAllowed", "(CI)Z"⟩
abbrev cX7_greatestOf : ByteArray := prog_9_method_3_code
def yX7_greatestOf : MethodName := ⟨RX7, "greatestOf", "(C)I"⟩
abbrev cX7_changeNumber : ByteArray := prog_9_method_4_code
def yX7_changeNumber : MethodName := ⟨RX7, "changeNumber", "(CI)I"⟩
abbrev cX7_numberOf : ByteArray := prog_9_method_5_code
def yX7_numberOf : MethodName := ⟨RX7, "numberOf", "(C)I"⟩
abbrev cX7_changePattern : ByteArray := prog_9_method_6_code
def yX7_changePattern : MethodName := ⟨RX7, "changePattern", "(C)C"⟩
abbrev cX7_changeThickness : ByteArray := prog_9_method_7_code
def yX7_changeThickness : MethodName := ⟨RX7, "changeThickness", "(II)I"⟩
abbrev cX7_changePause : ByteArray := prog_9_method_8_code
def yX7_changePause : MethodName := ⟨RX7, "changePause", "(IZ)Z"⟩
abbrev cX7_thicknessOf : ByteArray := prog_9_method_9_code
def yX7_thicknessOf : MethodName := ⟨RX7, "thicknessOf", "(I)I"⟩
abbrev cX7_hasPause : ByteArray := prog_9_method_10_code
def yX7_hasPause : MethodName := ⟨RX7, "hasPause", "(I)Z"⟩
abbrev cX7_wallCount : ByteArray := prog_9_method_11_code
def yX7_wallCount : MethodName := ⟨RX7, "wallCount", "()I"⟩
abbrev cX7_skinCount : ByteArray := prog_9_method_12_code
def yX7_skinCount : MethodName := ⟨RX7, "skinCount", "()I"⟩
abbrev cX7_hasSupports : ByteArray := prog_9_method_13_code
def yX7_hasSupports : MethodName := ⟨RX7, "hasSupports", "()Z"⟩
abbrev cX7_gapSize : ByteArray := prog_9_method_14_code
def yX7_gapSize : MethodName := ⟨RX7, "gapSize", "()I"⟩
abbrev cX7_reachLength : ByteArray := prog_9_method_15_code
def yX7_reachLength : MethodName := ⟨RX7, "reachLength", "()I"⟩
abbrev cX7_fills : ByteArray := prog_9_method_16_code
def yX7_fills : MethodName := ⟨RX7, "fills", "(III)Z"⟩
abbrev cX7_isLine : ByteArray := prog_9_method_17_code
def yX7_isLine : MethodName := ⟨RX7, "isLine", "(I)Z"⟩
abbrev cX7_waveAt : ByteArray := prog_9_method_18_code
def yX7_waveAt : MethodName := ⟨RX7, "waveAt", "(I)I"⟩
def RX8 : String := "SliceWright$Strokes"
def TX8 : u_T := fun k => match k with
  | 0 => ("SliceWright$Strokes", "kinds", "LSliceWright$Kinds;", true)
  | 1 => ("SliceWright$Strokes", "kind", "[C", true)
  | 2 => ("SliceWright$Strokes", "firstX", "[I", true)
  | 3 => ("SliceWright$Strokes", "firstY", "[I", true)
  | 4 => ("SliceWright$Strokes", "lastX", "[I", true)
  | 5 => ("SliceWright$Strokes", "lastY", "[I", true)
  | _ => ("SliceWright$Strokes", "count", "I", false)
def tyX8 : Nat → FieldType := fun k => match k with
  | 0 => .object "SliceWright$Kinds"
  | 1 => .array .char
  | 2 => .array .int
  | 3 => .array .int
  | 4 => .array .int
  | 5 => .array .int
  | _ => .int
abbrev wsX80 : List Cond := u_ws RX8 TX8 7
theorem nmX8 : ∀ a, a < 7 → ∀ b, b < 7 → a ≠ b → (TX8 a).2.1 ≠ (TX8 b).2.1 := by decide +kernel
theorem tyX8_ok : ∀ k, k < 7 → parseFieldDescriptor (TX8 k).2.2.1 = some (tyX8 k) := by decide +kernel
abbrev cX8_init : ByteArray := prog_10_method_1_code
def yX8_init : MethodName := ⟨RX8, "<init>", "(LSliceWright$Kinds;)V"⟩
abbrev cX8_collect : ByteArray := prog_10_method_2_code
def yX8_collect : MethodName := ⟨RX8, "collect", "(I)V"⟩
abbrev cX8_collectRow : ByteArray := prog_10_method_3_code
def yX8_collectRow : MethodName := ⟨RX8, "collectRow", "(CII)V"⟩
abbrev cX8_kindOn : ByteArray := prog_10_method_4_code
def yX8_kindOn : MethodName := ⟨RX8, "kindOn", "(III)C"⟩
abbrev cX8_add : ByteArray := prog_10_method_5_code
def yX8_add : MethodName := ⟨RX8, "add", "(CIIII)V"⟩
abbrev cX8_size : ByteArray := prog_10_method_6_code
def yX8_size : MethodName := ⟨RX8, "size", "()I"⟩
abbrev cX8_kindOf : ByteArray := prog_10_method_8_code
def yX8_kindOf : MethodName := ⟨RX8, "kindOf", "(I)C"⟩
abbrev cX8_endX : ByteArray := prog_10_method_9_code
def yX8_endX : MethodName := ⟨RX8, "endX", "(IZ)I"⟩
abbrev cX8_endY : ByteArray := prog_10_method_10_code
def yX8_endY : MethodName := ⟨RX8, "endY", "(IZ)I"⟩
abbrev cX8_has : ByteArray := prog_10_method_11_code
def yX8_has : MethodName := ⟨RX8, "has", "(I)Z"⟩
def RX9 : String := "SliceWright"
def TX9 : u_T := fun k => match k with
  | 0 => ("SliceWright", "body", "LSliceWright$Body;", true)
  | 1 => ("SliceWright", "settings", "LSliceWright$Settings;", true)
  | 2 => ("SliceWright", "kinds", "LSliceWright$Kinds;", true)
  | 3 => ("SliceWright", "outlines", "LSliceWright$Outlines;", true)
  | 4 => ("SliceWright", "layerStrokes", "LSliceWright$Strokes;", true)
  | 5 => ("SliceWright", "commandList", "LSliceWright$Commands;", true)
  | 6 => ("SliceWright", "planner", "LSliceWright$Planner;", true)
  | 7 => ("SliceWright", "heat", "LSliceWright$Heat;", true)
  | _ => ("SliceWright", "machine", "LSliceWright$Machine;", true)
def tyX9 : Nat → FieldType := fun k => match k with
  | 0 => .object "SliceWright$Body"
  | 1 => .object "SliceWright$Settings"
  | 2 => .object "SliceWright$Kinds"
  | 3 => .object "SliceWright$Outlines"
  | 4 => .object "SliceWright$Strokes"
  | 5 => .object "SliceWright$Commands"
  | 6 => .object "SliceWright$Planner"
  | 7 => .object "SliceWright$Heat"
  | _ => .object "SliceWright$Machine"
abbrev wsX90 : List Cond := u_ws RX9 TX9 9
theorem nmX9 : ∀ a, a < 9 → ∀ b, b < 9 → a ≠ b → (TX9 a).2.1 ≠ (TX9 b).2.1 := by decide +kernel
theorem tyX9_ok : ∀ k, k < 9 → parseFieldDescriptor (TX9 k).2.2.1 = some (tyX9 k) := by decide +kernel
abbrev cX9_init : ByteArray := prog_1_method_1_code
def yX9_init : MethodName := ⟨RX9, "<init>", "()V"⟩
abbrev cX9_box : ByteArray := prog_1_method_2_code
def yX9_box : MethodName := ⟨RX9, "box", "(IIIIIIZ)I"⟩
abbrev cX9_set : ByteArray := prog_1_method_3_code
def yX9_set : MethodName := ⟨RX9, "set", "(CI)I"⟩
abbrev cX9_setPattern : ByteArray := prog_1_method_4_code
def yX9_setPattern : MethodName := ⟨RX9, "setPattern", "(C)C"⟩
abbrev cX9_setThickness : ByteArray := prog_1_method_5_code
def yX9_setThickness : MethodName := ⟨RX9, "setThickness", "(II)I"⟩
abbrev cX9_setPause : ByteArray := prog_1_method_6_code
def yX9_setPause : MethodName := ⟨RX9, "setPause", "(IZ)Z"⟩
abbrev cX9_kindAt : ByteArray := prog_1_method_7_code
def yX9_kindAt : MethodName := ⟨RX9, "kindAt", "(III)C"⟩
abbrev cX9_plan : ByteArray := prog_1_method_14_code
def yX9_plan : MethodName := ⟨RX9, "plan", "()I"⟩
abbrev cX9_commands : ByteArray := prog_1_method_15_code
def yX9_commands : MethodName := ⟨RX9, "commands", "()I"⟩
abbrev cX9_commandAt : ByteArray := prog_1_method_16_code
def yX9_commandAt : MethodName := ⟨RX9, "commandAt", "(I)C"⟩
abbrev cX9_numberAt : ByteArray := prog_1_method_17_code
def yX9_numberAt : MethodName := ⟨RX9, "numberAt", "(IC)I"⟩
abbrev cX9_travel : ByteArray := prog_1_method_18_code
def yX9_travel : MethodName := ⟨RX9, "travel", "()I"⟩
abbrev cX9_planned : ByteArray := prog_1_method_19_code
def yX9_planned : MethodName := ⟨RX9, "planned", "()J"⟩
abbrev cX9_setTarget : ByteArray := prog_1_method_20_code
def yX9_setTarget : MethodName := ⟨RX9, "setTarget", "(I)I"⟩
abbrev cX9_print : ByteArray := prog_1_method_21_code
def yX9_print : MethodName := ⟨RX9, "print", "()I"⟩
abbrev cX9_pass : ByteArray := prog_1_method_22_code
def yX9_pass : MethodName := ⟨RX9, "pass", "(I)I"⟩
abbrev cX9_goOn : ByteArray := prog_1_method_23_code
def yX9_goOn : MethodName := ⟨RX9, "goOn", "()I"⟩
abbrev cX9_fail : ByteArray := prog_1_method_24_code
def yX9_fail : MethodName := ⟨RX9, "fail", "()C"⟩
abbrev cX9_mend : ByteArray := prog_1_method_25_code
def yX9_mend : MethodName := ⟨RX9, "mend", "()C"⟩
abbrev cX9_state : ByteArray := prog_1_method_28_code
def yX9_state : MethodName := ⟨RX9, "state", "()C"⟩
abbrev cX9_next : ByteArray := prog_1_method_29_code
def yX9_next : MethodName := ⟨RX9, "next", "()I"⟩
abbrev cX9_speed : ByteArray := prog_1_method_30_code
def yX9_speed : MethodName := ⟨RX9, "speed", "()I"⟩
abbrev cX9_temperature : ByteArray := prog_1_method_31_code
def yX9_temperature : MethodName := ⟨RX9, "temperature", "()I"⟩
abbrev cX9_time : ByteArray := prog_1_method_32_code
def yX9_time : MethodName := ⟨RX9, "time", "()J"⟩
abbrev cX9_laid : ByteArray := prog_1_method_33_code
def yX9_laid : MethodName := ⟨RX9, "laid", "(III)I"⟩
abbrev cX9_laidInAll : ByteArray := prog_1_method_34_code
def yX9_laidInAll : MethodName := ⟨RX9, "laidInAll", "()J"⟩
abbrev cX9_requireLayer : ByteArray := prog_1_method_37_code
def yX9_requireLayer : MethodName := ⟨RX9, "requireLayer", "(I)V"⟩
abbrev cX9_requireCell : ByteArray := prog_1_method_38_code
def yX9_requireCell : MethodName := ⟨RX9, "requireCell", "(III)V"⟩
abbrev cX9_requireCommand : ByteArray := prog_1_method_39_code
def yX9_requireCommand : MethodName := ⟨RX9, "requireCommand", "(I)V"⟩
abbrev cX9_isPlace : ByteArray := prog_1_method_40_code
def yX9_isPlace : MethodName := ⟨RX9, "isPlace", "(I)Z"⟩
abbrev cX9_isCell : ByteArray := prog_1_method_41_code
def yX9_isCell : MethodName := ⟨RX9, "isCell", "(III)Z"⟩
abbrev cX9_isSpan : ByteArray := prog_1_method_42_code
def yX9_isSpan : MethodName := ⟨RX9, "isSpan", "(II)Z"⟩
abbrev cX9_indexOf : ByteArray := prog_1_method_43_code
def yX9_indexOf : MethodName := ⟨RX9, "indexOf", "(III)I"⟩
abbrev cX9_canBeHalved : ByteArray := prog_1_method_44_code
def yX9_canBeHalved : MethodName := ⟨RX9, "canBeHalved", "(I)Z"⟩
abbrev cX9_distance : ByteArray := prog_1_method_45_code
def yX9_distance : MethodName := ⟨RX9, "distance", "(IIII)I"⟩
abbrev cX9_signOf : ByteArray := prog_1_method_46_code
def yX9_signOf : MethodName := ⟨RX9, "signOf", "(I)I"⟩
def RX10 : String := "SliceWrightModel"
def TX10 : u_T := fun k => match k with
  | _ => ("", "", "", false)
def tyX10 : Nat → FieldType := fun k => match k with
  | _ => .int
abbrev wsX100 : List Cond := u_ws RX10 TX10 0
theorem nmX10 : ∀ a, a < 0 → ∀ b, b < 0 → a ≠ b → (TX10 a).2.1 ≠ (TX10 b).2.1 := by decide +kernel
theorem tyX10_ok : ∀ k, k < 0 → parseFieldDescriptor (TX10 k).2.2.1 = some (tyX10 k) := by decide +kernel
def RJx145de : String := "java/io/Serializable"
def TJx145de : u_T := fun k => match k with
  | _ => ("", "", "", false)
def tyJx145de : Nat → FieldType := fun k => match k with
  | _ => .int
abbrev wsJx145de0 : List Cond := u_ws RJx145de TJx145de 0
theorem nmJx145de : ∀ a, a < 0 → ∀ b, b < 0 → a ≠ b → (TJx145de a).2.1 ≠ (TJx145de b).2.1 := by decide +kernel
theorem tyJx145de_ok : ∀ k, k < 0 → parseFieldDescriptor (TJx145de k).2.2.1 = some (tyJx145de k) := by decide +kernel
def RJx9f9b0 : String := "java/lang/CharSequence"
def TJx9f9b0 : u_T := fun k => match k with
  | _ => ("", "", "", false)
def tyJx9f9b0 : Nat → FieldType := fun k => match k with
  | _ => .int
abbrev wsJx9f9b00 : List Cond := u_ws RJx9f9b0 TJx9f9b0 0
theorem nmJx9f9b0 : ∀ a, a < 0 → ∀ b, b < 0 → a ≠ b → (TJx9f9b0 a).2.1 ≠ (TJx9f9b0 b).2.1 := by decide +kernel
theorem tyJx9f9b0_ok : ∀ k, k < 0 → parseFieldDescriptor (TJx9f9b0 k).2.2.1 = some (tyJx9f9b0 k) := by decide +kernel
def RJxb160c : String := "java/lang/Comparable"
def TJxb160c : u_T := fun k => match k with
  | _ => ("", "", "", false)
def tyJxb160c : Nat → FieldType := fun k => match k with
  | _ => .int
abbrev wsJxb160c0 : List Cond := u_ws RJxb160c TJxb160c 0
theorem nmJxb160c : ∀ a, a < 0 → ∀ b, b < 0 → a ≠ b → (TJxb160c a).2.1 ≠ (TJxb160c b).2.1 := by decide +kernel
theorem tyJxb160c_ok : ∀ k, k < 0 → parseFieldDescriptor (TJxb160c k).2.2.1 = some (tyJxb160c k) := by decide +kernel
def RJ9 : String := "java/lang/Math"
def TJ9 : u_T := fun k => match k with
  | _ => ("", "", "", false)
def tyJ9 : Nat → FieldType := fun k => match k with
  | _ => .int
abbrev wsJ90 : List Cond := u_ws RJ9 TJ9 0
theorem nmJ9 : ∀ a, a < 0 → ∀ b, b < 0 → a ≠ b → (TJ9 a).2.1 ≠ (TJ9 b).2.1 := by decide +kernel
theorem tyJ9_ok : ∀ k, k < 0 → parseFieldDescriptor (TJ9 k).2.2.1 = some (tyJ9 k) := by decide +kernel
abbrev cJ9_abs_0f7a4 : ByteArray := prog_20_method_59_code
def yJ9_abs_0f7a4 : MethodName := ⟨RJ9, "abs", "(I)I"⟩
abbrev cJ9_max_7cf53 : ByteArray := prog_20_method_65_code
def yJ9_max_7cf53 : MethodName := ⟨RJ9, "max", "(II)I"⟩
abbrev cJ9_min_7cf53 : ByteArray := prog_20_method_69_code
def yJ9_min_7cf53 : MethodName := ⟨RJ9, "min", "(II)I"⟩
def RJ0 : String := "java/lang/String"
def TJ0 : u_T := fun k => match k with
  | _ => ("", "", "", false)
def tyJ0 : Nat → FieldType := fun k => match k with
  | _ => .int
abbrev wsJ00 : List Cond := u_ws RJ0 TJ0 0
theorem nmJ0 : ∀ a, a < 0 → ∀ b, b < 0 → a ≠ b → (TJ0 a).2.1 ≠ (TJ0 b).2.1 := by decide +kernel
theorem tyJ0_ok : ∀ k, k < 0 → parseFieldDescriptor (TJ0 k).2.2.1 = some (tyJ0 k) := by decide +kernel
abbrev cJ0_charAt_5068e : ByteArray := prog_22_method_56_code
def yJ0_charAt_5068e : MethodName := ⟨RJ0, "charAt", "(I)C"⟩
abbrev cJ0_isLatin1_aae02 : ByteArray := prog_22_method_154_code
def yJ0_isLatin1_aae02 : MethodName := ⟨RJ0, "isLatin1", "()Z"⟩
abbrev cJ0_checkIndex_df160 : ByteArray := prog_22_method_155_code
def yJ0_checkIndex_df160 : MethodName := ⟨RJ0, "checkIndex", "(II)V"⟩
def RJ1 : String := "java/lang/StringLatin1"
def TJ1 : u_T := fun k => match k with
  | _ => ("", "", "", false)
def tyJ1 : Nat → FieldType := fun k => match k with
  | _ => .int
abbrev wsJ10 : List Cond := u_ws RJ1 TJ1 0
theorem nmJ1 : ∀ a, a < 0 → ∀ b, b < 0 → a ≠ b → (TJ1 a).2.1 ≠ (TJ1 b).2.1 := by decide +kernel
theorem tyJ1_ok : ∀ k, k < 0 → parseFieldDescriptor (TJ1 k).2.2.1 = some (tyJ1 k) := by decide +kernel
abbrev cJ1_charAt_3b067 : ByteArray := prog_23_method_2_code
def yJ1_charAt_3b067 : MethodName := ⟨RJ1, "charAt", "([BI)C"⟩
def RJ2 : String := "java/lang/StringUTF16"
def TJ2 : u_T := fun k => match k with
  | _ => ("", "", "", false)
def tyJ2 : Nat → FieldType := fun k => match k with
  | _ => .int
abbrev wsJ20 : List Cond := u_ws RJ2 TJ2 0
theorem nmJ2 : ∀ a, a < 0 → ∀ b, b < 0 → a ≠ b → (TJ2 a).2.1 ≠ (TJ2 b).2.1 := by decide +kernel
theorem tyJ2_ok : ∀ k, k < 0 → parseFieldDescriptor (TJ2 k).2.2.1 = some (tyJ2 k) := by decide +kernel
abbrev cJ2_getChar_3b067 : ByteArray := prog_24_method_5_code
def yJ2_getChar_3b067 : MethodName := ⟨RJ2, "getChar", "([BI)C"⟩
abbrev cJ2_length_9d52b : ByteArray := prog_24_method_6_code
def yJ2_length_9d52b : MethodName := ⟨RJ2, "length", "([B)I"⟩
abbrev cJ2_charAt_3b067 : ByteArray := prog_24_method_83_code
def yJ2_charAt_3b067 : MethodName := ⟨RJ2, "charAt", "([BI)C"⟩
abbrev cJ2_checkIndex_2214a : ByteArray := prog_24_method_91_code
def yJ2_checkIndex_2214a : MethodName := ⟨RJ2, "checkIndex", "(I[B)V"⟩
def RJxfd54e : String := "java/lang/constant/Constable"
def TJxfd54e : u_T := fun k => match k with
  | _ => ("", "", "", false)
def tyJxfd54e : Nat → FieldType := fun k => match k with
  | _ => .int
abbrev wsJxfd54e0 : List Cond := u_ws RJxfd54e TJxfd54e 0
theorem nmJxfd54e : ∀ a, a < 0 → ∀ b, b < 0 → a ≠ b → (TJxfd54e a).2.1 ≠ (TJxfd54e b).2.1 := by decide +kernel
theorem tyJxfd54e_ok : ∀ k, k < 0 → parseFieldDescriptor (TJxfd54e k).2.2.1 = some (tyJxfd54e k) := by decide +kernel
def RJx3cf43 : String := "java/lang/constant/ConstantDesc"
def TJx3cf43 : u_T := fun k => match k with
  | _ => ("", "", "", false)
def tyJx3cf43 : Nat → FieldType := fun k => match k with
  | _ => .int
abbrev wsJx3cf430 : List Cond := u_ws RJx3cf43 TJx3cf43 0
theorem nmJx3cf43 : ∀ a, a < 0 → ∀ b, b < 0 → a ≠ b → (TJx3cf43 a).2.1 ≠ (TJx3cf43 b).2.1 := by decide +kernel
theorem tyJx3cf43_ok : ∀ k, k < 0 → parseFieldDescriptor (TJx3cf43 k).2.2.1 = some (tyJx3cf43 k) := by decide +kernel
def RJ7 : String := "java/util/Arrays"
def TJ7 : u_T := fun k => match k with
  | _ => ("", "", "", false)
def tyJ7 : Nat → FieldType := fun k => match k with
  | _ => .int
abbrev wsJ70 : List Cond := u_ws RJ7 TJ7 0
theorem nmJ7 : ∀ a, a < 0 → ∀ b, b < 0 → a ≠ b → (TJ7 a).2.1 ≠ (TJ7 b).2.1 := by decide +kernel
theorem tyJ7_ok : ∀ k, k < 0 → parseFieldDescriptor (TJ7 k).2.2.1 = some (tyJ7 k) := by decide +kernel
abbrev cJ7_fill_53178 : ByteArray := prog_28_method_103_code
def yJ7_fill_53178 : MethodName := ⟨RJ7, "fill", "([II)V"⟩
def RJ3 : String := "jdk/internal/util/Preconditions"
def TJ3 : u_T := fun k => match k with
  | _ => ("", "", "", false)
def tyJ3 : Nat → FieldType := fun k => match k with
  | _ => .int
abbrev wsJ30 : List Cond := u_ws RJ3 TJ3 0
theorem nmJ3 : ∀ a, a < 0 → ∀ b, b < 0 → a ≠ b → (TJ3 a).2.1 ≠ (TJ3 b).2.1 := by decide +kernel
theorem tyJ3_ok : ∀ k, k < 0 → parseFieldDescriptor (TJ3 k).2.2.1 = some (tyJ3 k) := by decide +kernel
abbrev cJ3_checkIndex_8e157 : ByteArray := prog_30_method_11_code
def yJ3_checkIndex_8e157 : MethodName := ⟨RJ3, "checkIndex", "(IILjava/util/function/BiFunction;)I"⟩
def RL : String := "SliceWrightLaw"
abbrev cL_cell : ByteArray := method_2_code
def yL_cell : MethodName := ⟨RL, "cell", "([II)I"⟩
abbrev cL_low : ByteArray := method_3_code
def yL_low : MethodName := ⟨RL, "low", "(II)I"⟩
abbrev cL_isDrawn : ByteArray := method_4_code
def yL_isDrawn : MethodName := ⟨RL, "isDrawn", "(C)Z"⟩
abbrev cL_arePlanned : ByteArray := method_5_code
def yL_arePlanned : MethodName := ⟨RL, "arePlanned", "(LSliceWright;II)Z"⟩
abbrev cL_isLaid : ByteArray := method_6_code
def yL_isLaid : MethodName := ⟨RL, "isLaid", "(LSliceWright;[I)Z"⟩
abbrev cL_isTick : ByteArray := method_7_code
def yL_isTick : MethodName := ⟨RL, "isTick", "(LSliceWright;)Z"⟩
abbrev cL_prints : ByteArray := method_8_code
def yL_prints : MethodName := ⟨RL, "prints", "(LSliceWright;[II)Z"⟩
abbrev cL_law : ByteArray := code
def yL_law : MethodName := ⟨RL, "law", "([I)Z"⟩
abbrev vwCl : List vw_C := [(RX0, TX0, 1), (RX1, TX1, 8), (RX2, TX2, 3), (RX3, TX3, 5), (RX4, TX4, 12), (RX5, TX5, 5), (RX6, TX6, 6), (RX7, TX7, 9), (RX8, TX8, 7), (RX9, TX9, 9)]

/-- the static arrays: class, field, descriptor, the number of the read-only cell -/
def q_stt : List (String × String × String × Nat) := [("SliceWright", "STEP_X", "[I", 1), ("SliceWright", "STEP_Y", "[I", 2), ("SliceWright", "STEP_X", "[I", 1), ("SliceWright", "STEP_Y", "[I", 2), ("SliceWright$Strokes", "KIND_ORDER", "[C", 5)]
/-- the texts of the exceptions: class, entry, text -/
def q_strs : List (String × Nat × String) := [("SliceWright", 88, "the box is not within the places"), ("SliceWright", 104, "no such setting, or its value is out of range"), ("SliceWright", 110, "no such pattern"), ("SliceWright", 295, "no such layer"), ("SliceWright", 120, "the thickness is out of range"), ("SliceWright", 168, "the machine is not free"), ("SliceWright", 307, "no such command"), ("SliceWright", 187, "no such letter"), ("SliceWright", 195, "the command does not have this number"), ("SliceWright", 302, "no such cell"), ("SliceWright", 209, "the target is out of range"), ("SliceWright", 215, "the machine has failed"), ("SliceWright", 220, "the machine is not free, or has no commands"), ("SliceWright", 225, "the number of ticks is out of range"), ("SliceWright", 230, "the machine is not paused"), ("SliceWright", 241, "the machine has not failed")]
/-- the words that go along with every method -/
def q_WS : List Cond := lw_tbl.filter goodWord
theorem q_ws {w : Cond} (i : Nat) (h : lw_tbl[i]? = some w) (hg : goodWord w = true) : w ∈ q_WS := List.mem_filter.mpr ⟨List.mem_of_getElem? h, hg⟩
theorem q_good : GoodIn q_WS q_WS := fun w h => ⟨h, good_of_word (List.mem_filter.mp h).2⟩
/-- links to nest mates (host SliceWright) -/
def q_NM : List (String × Nat × MethodName) := [("SliceWright$Body", 15, (⟨"SliceWright", "isCell", "(III)Z"⟩ : MethodName)), ("SliceWright$Body", 19, (⟨"SliceWright", "indexOf", "(III)I"⟩ : MethodName)), ("SliceWright$Settings", 59, (⟨"SliceWright", "isPlace", "(I)Z"⟩ : MethodName)), ("SliceWright$Kinds", 43, (⟨"SliceWright", "isPlace", "(I)Z"⟩ : MethodName)), ("SliceWright$Kinds", 31, (⟨"SliceWright", "isCell", "(III)Z"⟩ : MethodName)), ("SliceWright$Kinds", 35, (⟨"SliceWright", "indexOf", "(III)I"⟩ : MethodName)), ("SliceWright$Settings", 66, (⟨"SliceWright", "canBeHalved", "(I)Z"⟩ : MethodName)), ("SliceWright$Commands", 39, (⟨"SliceWright", "isPlace", "(I)Z"⟩ : MethodName)), ("SliceWright$Strokes", 51, (⟨"SliceWright", "canBeHalved", "(I)Z"⟩ : MethodName)), ("SliceWright$Commands", 50, (⟨"SliceWright", "distance", "(IIII)I"⟩ : MethodName)), ("SliceWright$Planner", 99, (⟨"SliceWright", "distance", "(IIII)I"⟩ : MethodName)), ("SliceWright$Machine", 150, (⟨"SliceWright", "isCell", "(III)Z"⟩ : MethodName)), ("SliceWright$Machine", 153, (⟨"SliceWright", "indexOf", "(III)I"⟩ : MethodName)), ("SliceWright$Commands", 85, (⟨"SliceWright", "signOf", "(I)I"⟩ : MethodName)), ("SliceWright$Machine", 138, (⟨"SliceWright", "signOf", "(I)I"⟩ : MethodName))]
def q_NF : List (String × Nat × String × String × String) := [("SliceWright$Kinds", 86, "SliceWright", "STEP_X", "[I"), ("SliceWright$Kinds", 89, "SliceWright", "STEP_Y", "[I"), ("SliceWright$Body", 29, "SliceWright", "STEP_X", "[I"), ("SliceWright$Body", 33, "SliceWright", "STEP_Y", "[I")]
/-- the classes whose objects the worlds hold: the exceptions behind the others (no field of theirs is asked) -/
def q_cl : List vw_C := ("java/lang/IllegalArgumentException", TX0, 0) :: ("java/lang/IllegalArgumentException", TX0, 0) :: (vwCl ++ [("java/lang/IllegalArgumentException", TX0, 0), ("java/lang/IndexOutOfBoundsException", TX0, 0), ("java/lang/IllegalStateException", TX0, 0), ("java/util/NoSuchElementException", TX0, 0)])
/-- what a handler lets pass -/
def q_NC : List (String × String) := []
def q_EX : List String := ["java/lang/IllegalArgumentException", "java/lang/IndexOutOfBoundsException", "java/lang/IllegalStateException", "java/util/NoSuchElementException"]
def q_DE : List MethodName := [⟨"java/lang/RuntimeException", "<init>", "(Ljava/lang/String;)V"⟩, ⟨"java/lang/Exception", "<init>", "(Ljava/lang/String;)V"⟩, ⟨"java/lang/Throwable", "<init>", "(Ljava/lang/String;)V"⟩]
