/-! what holds at the entry of the law -/
def q_tbl9 : List Cond := [(Jvm.Cond.laysStatic "SliceWright" "STEP_X" "[I"), (Jvm.Cond.initialized "SliceWright"), (Jvm.Cond.laysStatic "SliceWright" "STEP_Y" "[I"), (Jvm.Cond.laysStatic "SliceWright$Strokes" "KIND_ORDER" "[C"), (Jvm.Cond.initialized "SliceWright$Strokes"), (Jvm.Cond.stringRef "SliceWright" (88 : Nat) "the box is not within the places"), (Jvm.Cond.stringRef "SliceWright" (104 : Nat) "no such setting, or its value is out of range"), (Jvm.Cond.stringRef "SliceWright" (110 : Nat) "no such pattern"), (Jvm.Cond.stringRef "SliceWright" (295 : Nat) "no such layer"), (Jvm.Cond.stringRef "SliceWright" (120 : Nat) "the thickness is out of range"), (Jvm.Cond.stringRef "SliceWright" (168 : Nat) "the machine is not free"), (Jvm.Cond.stringRef "SliceWright" (307 : Nat) "no such command"), (Jvm.Cond.stringRef "SliceWright" (187 : Nat) "no such letter"), (Jvm.Cond.stringRef "SliceWright" (195 : Nat) "the command does not have this number"), (Jvm.Cond.stringRef "SliceWright" (302 : Nat) "no such cell"), (Jvm.Cond.stringRef "SliceWright" (209 : Nat) "the target is out of range"), (Jvm.Cond.stringRef "SliceWright" (215 : Nat) "the machine has failed"), (Jvm.Cond.stringRef "SliceWright" (220 : Nat) "the machine is not free, or has no commands"), (Jvm.Cond.stringRef "SliceWright" (225 : Nat) "the number of ticks is out of range"), (Jvm.Cond.stringRef "SliceWright" (230 : Nat) "the machine is not paused"), (Jvm.Cond.stringRef "SliceWright" (241 : Nat) "the machine has not failed"), (Jvm.Cond.stringRef "SliceWrightLaw" (112 : Nat) "lgw"), (Jvm.Cond.laysStatic "java/lang/String" "COMPACT_STRINGS" "Z"), (Jvm.Cond.initialized "java/lang/String"), (Jvm.Cond.laysStatic "jdk/internal/util/Preconditions" "SIOOBE_FORMATTER" "Ljava/util/function/BiFunction;"), (Jvm.Cond.initialized "jdk/internal/util/Preconditions"), (Jvm.Cond.laysStatic "java/lang/Throwable" "UNASSIGNED_STACK" "[Ljava/lang/StackTraceElement;"), (Jvm.Cond.initialized "java/lang/Throwable"), (Jvm.Cond.laysStatic "java/lang/Throwable" "SUPPRESSED_SENTINEL" "Ljava/util/List;"), (Jvm.Cond.methodLinkNest "SliceWright$Body" (15 : Nat) ({ cls := "SliceWright", name := "isCell", desc := "(III)Z" } : Jvm.MethodName) "SliceWright"), (Jvm.Cond.methodLinkNest "SliceWright$Body" (19 : Nat) ({ cls := "SliceWright", name := "indexOf", desc := "(III)I" } : Jvm.MethodName) "SliceWright"), (Jvm.Cond.methodLinkNest "SliceWright$Settings" (59 : Nat) ({ cls := "SliceWright", name := "isPlace", desc := "(I)Z" } : Jvm.MethodName) "SliceWright"), (Jvm.Cond.methodLinkNest "SliceWright$Kinds" (43 : Nat) ({ cls := "SliceWright", name := "isPlace", desc := "(I)Z" } : Jvm.MethodName) "SliceWright"), (Jvm.Cond.methodLinkNest "SliceWright$Kinds" (31 : Nat) ({ cls := "SliceWright", name := "isCell", desc := "(III)Z" } : Jvm.MethodName) "SliceWright"), (Jvm.Cond.methodLinkNest "SliceWright$Kinds" (35 : Nat) ({ cls := "SliceWright", name := "indexOf", desc := "(III)I" } : Jvm.MethodName) "SliceWright"), (Jvm.Cond.methodLinkNest "SliceWright$Settings" (66 : Nat) ({ cls := "SliceWright", name := "canBeHalved", desc := "(I)Z" } : Jvm.MethodName) "SliceWright"), (Jvm.Cond.methodLinkNest "SliceWright$Commands" (39 : Nat) ({ cls := "SliceWright", name := "isPlace", desc := "(I)Z" } : Jvm.MethodName) "SliceWright"), (Jvm.Cond.methodLinkNest "SliceWright$Strokes" (51 : Nat) ({ cls := "SliceWright", name := "canBeHalved", desc := "(I)Z" } : Jvm.MethodName) "SliceWright"), (Jvm.Cond.methodLinkNest "SliceWright$Commands" (50 : Nat) ({ cls := "SliceWright", name := "distance", desc := "(IIII)I" } : Jvm.MethodName) "SliceWright"), (Jvm.Cond.methodLinkNest "SliceWright$Planner" (99 : Nat) ({ cls := "SliceWright", name := "distance", desc := "(IIII)I" } : Jvm.MethodName) "SliceWright"), (Jvm.Cond.methodLinkNest "SliceWright$Machine" (150 : Nat) ({ cls := "SliceWright", name := "isCell", desc := "(III)Z" } : Jvm.MethodName) "SliceWright"), (Jvm.Cond.methodLinkNest "SliceWright$Machine" (153 : Nat) ({ cls := "SliceWright", name := "indexOf", desc := "(III)I" } : Jvm.MethodName) "SliceWright"), (Jvm.Cond.methodLinkNest "SliceWright$Commands" (85 : Nat) ({ cls := "SliceWright", name := "signOf", desc := "(I)I" } : Jvm.MethodName) "SliceWright"), (Jvm.Cond.methodLinkNest "SliceWright$Machine" (138 : Nat) ({ cls := "SliceWright", name := "signOf", desc := "(I)I" } : Jvm.MethodName) "SliceWright"), (Jvm.Cond.fieldLinkNest "SliceWright$Kinds" (86 : Nat) "SliceWright" "STEP_X" "[I" "SliceWright"), (Jvm.Cond.fieldLinkNest "SliceWright$Kinds" (89 : Nat) "SliceWright" "STEP_Y" "[I" "SliceWright"), (Jvm.Cond.fieldLinkNest "SliceWright$Body" (29 : Nat) "SliceWright" "STEP_X" "[I" "SliceWright"), (Jvm.Cond.fieldLinkNest "SliceWright$Body" (33 : Nat) "SliceWright" "STEP_Y" "[I" "SliceWright"), (Jvm.Cond.castable "java/lang/IllegalArgumentException" "java/lang/IllegalArgumentException"), (Jvm.Cond.castable "java/lang/IndexOutOfBoundsException" "java/lang/IndexOutOfBoundsException"), (Jvm.Cond.castable "java/lang/IllegalStateException" "java/lang/IllegalStateException"), (Jvm.Cond.castable "java/util/NoSuchElementException" "java/util/NoSuchElementException"), (Jvm.Cond.declares ({ cls := "java/lang/RuntimeException", name := "<init>", desc := "(Ljava/lang/String;)V" } : Jvm.MethodName)), (Jvm.Cond.declares ({ cls := "java/lang/Exception", name := "<init>", desc := "(Ljava/lang/String;)V" } : Jvm.MethodName)), (Jvm.Cond.declares ({ cls := "java/lang/Throwable", name := "<init>", desc := "(Ljava/lang/String;)V" } : Jvm.MethodName)), (Jvm.Cond.instantiable "java/lang/IllegalArgumentException" (6 : Nat)), (Jvm.Cond.laysFinal "SliceWright$Body" "SliceWright$Body" "solid" "[Z"), (Jvm.Cond.instantiable "SliceWright$Body" (1 : Nat)), (Jvm.Cond.laysFinal "SliceWright$Commands" "SliceWright$Commands" "kind" "[C"), (Jvm.Cond.laysFinal "SliceWright$Commands" "SliceWright$Commands" "headX" "[I"), (Jvm.Cond.laysFinal "SliceWright$Commands" "SliceWright$Commands" "headY" "[I"), (Jvm.Cond.laysFinal "SliceWright$Commands" "SliceWright$Commands" "layer" "[I"), (Jvm.Cond.laysFinal "SliceWright$Commands" "SliceWright$Commands" "amountOfCell" "[I"), (Jvm.Cond.lays "SliceWright$Commands" "SliceWright$Commands" "count" "I"), (Jvm.Cond.lays "SliceWright$Commands" "SliceWright$Commands" "travel" "I"), (Jvm.Cond.lays "SliceWright$Commands" "SliceWright$Commands" "amount" "J"), (Jvm.Cond.instantiable "SliceWright$Commands" (8 : Nat)), (Jvm.Cond.lays "SliceWright$Heat" "SliceWright$Heat" "target" "I"), (Jvm.Cond.lays "SliceWright$Heat" "SliceWright$Heat" "temperature" "I"), (Jvm.Cond.lays "SliceWright$Heat" "SliceWright$Heat" "isOn" "Z"), (Jvm.Cond.instantiable "SliceWright$Heat" (3 : Nat)), (Jvm.Cond.laysFinal "SliceWright$Kinds" "SliceWright$Kinds" "body" "LSliceWright$Body;"), (Jvm.Cond.laysFinal "SliceWright$Kinds" "SliceWright$Kinds" "settings" "LSliceWright$Settings;"), (Jvm.Cond.laysFinal "SliceWright$Kinds" "SliceWright$Kinds" "kind" "[C"), (Jvm.Cond.laysFinal "SliceWright$Kinds" "SliceWright$Kinds" "isKnown" "[Z"), (Jvm.Cond.laysFinal "SliceWright$Kinds" "SliceWright$Kinds" "wall" "[I"), (Jvm.Cond.instantiable "SliceWright$Kinds" (5 : Nat)), (Jvm.Cond.laysFinal "SliceWright$Machine" "SliceWright$Machine" "commands" "LSliceWright$Commands;"), (Jvm.Cond.laysFinal "SliceWright$Machine" "SliceWright$Machine" "heat" "LSliceWright$Heat;"), (Jvm.Cond.lays "SliceWright$Machine" "SliceWright$Machine" "state" "C"), (Jvm.Cond.lays "SliceWright$Machine" "SliceWright$Machine" "stateBeforeFailure" "C"), (Jvm.Cond.lays "SliceWright$Machine" "SliceWright$Machine" "next" "I"), (Jvm.Cond.lays "SliceWright$Machine" "SliceWright$Machine" "gone" "I"), (Jvm.Cond.lays "SliceWright$Machine" "SliceWright$Machine" "speed" "I"), (Jvm.Cond.lays "SliceWright$Machine" "SliceWright$Machine" "kept" "I"), (Jvm.Cond.lays "SliceWright$Machine" "SliceWright$Machine" "wasCut" "Z"), (Jvm.Cond.lays "SliceWright$Machine" "SliceWright$Machine" "time" "J"), (Jvm.Cond.laysFinal "SliceWright$Machine" "SliceWright$Machine" "laid" "[I"), (Jvm.Cond.lays "SliceWright$Machine" "SliceWright$Machine" "laidInAll" "J"), (Jvm.Cond.instantiable "SliceWright$Machine" (12 : Nat)), (Jvm.Cond.laysFinal "SliceWright$Outlines" "SliceWright$Outlines" "body" "LSliceWright$Body;"), (Jvm.Cond.laysFinal "SliceWright$Outlines" "SliceWright$Outlines" "isSeen" "[Z"), (Jvm.Cond.laysFinal "SliceWright$Outlines" "SliceWright$Outlines" "found" "[I"), (Jvm.Cond.lays "SliceWright$Outlines" "SliceWright$Outlines" "foundCount" "I"), (Jvm.Cond.laysFinal "SliceWright$Outlines" "SliceWright$Outlines" "isGone" "[Z"), (Jvm.Cond.instantiable "SliceWright$Outlines" (5 : Nat)), (Jvm.Cond.laysFinal "SliceWright$Planner" "SliceWright$Planner" "settings" "LSliceWright$Settings;"), (Jvm.Cond.laysFinal "SliceWright$Planner" "SliceWright$Planner" "strokes" "LSliceWright$Strokes;"), (Jvm.Cond.laysFinal "SliceWright$Planner" "SliceWright$Planner" "commands" "LSliceWright$Commands;"), (Jvm.Cond.laysFinal "SliceWright$Planner" "SliceWright$Planner" "isDrawn" "[Z"), (Jvm.Cond.lays "SliceWright$Planner" "SliceWright$Planner" "headX" "I"), (Jvm.Cond.lays "SliceWright$Planner" "SliceWright$Planner" "headY" "I"), (Jvm.Cond.instantiable "SliceWright$Planner" (6 : Nat)), (Jvm.Cond.lays "SliceWright$Settings" "SliceWright$Settings" "walls" "I"), (Jvm.Cond.lays "SliceWright$Settings" "SliceWright$Settings" "skins" "I"), (Jvm.Cond.lays "SliceWright$Settings" "SliceWright$Settings" "spread" "I"), (Jvm.Cond.lays "SliceWright$Settings" "SliceWright$Settings" "supports" "I"), (Jvm.Cond.lays "SliceWright$Settings" "SliceWright$Settings" "gap" "I"), (Jvm.Cond.lays "SliceWright$Settings" "SliceWright$Settings" "reach" "I"), (Jvm.Cond.lays "SliceWright$Settings" "SliceWright$Settings" "pattern" "C"), (Jvm.Cond.laysFinal "SliceWright$Settings" "SliceWright$Settings" "thickness" "[I"), (Jvm.Cond.laysFinal "SliceWright$Settings" "SliceWright$Settings" "pause" "[Z"), (Jvm.Cond.instantiable "SliceWright$Settings" (9 : Nat)), (Jvm.Cond.laysFinal "SliceWright$Strokes" "SliceWright$Strokes" "kinds" "LSliceWright$Kinds;"), (Jvm.Cond.laysFinal "SliceWright$Strokes" "SliceWright$Strokes" "kind" "[C"), (Jvm.Cond.laysFinal "SliceWright$Strokes" "SliceWright$Strokes" "firstX" "[I"), (Jvm.Cond.laysFinal "SliceWright$Strokes" "SliceWright$Strokes" "firstY" "[I"), (Jvm.Cond.laysFinal "SliceWright$Strokes" "SliceWright$Strokes" "lastX" "[I"), (Jvm.Cond.laysFinal "SliceWright$Strokes" "SliceWright$Strokes" "lastY" "[I"), (Jvm.Cond.lays "SliceWright$Strokes" "SliceWright$Strokes" "count" "I"), (Jvm.Cond.instantiable "SliceWright$Strokes" (7 : Nat)), (Jvm.Cond.laysFinal "SliceWright" "SliceWright" "body" "LSliceWright$Body;"), (Jvm.Cond.laysFinal "SliceWright" "SliceWright" "settings" "LSliceWright$Settings;"), (Jvm.Cond.laysFinal "SliceWright" "SliceWright" "kinds" "LSliceWright$Kinds;"), (Jvm.Cond.laysFinal "SliceWright" "SliceWright" "outlines" "LSliceWright$Outlines;"), (Jvm.Cond.laysFinal "SliceWright" "SliceWright" "layerStrokes" "LSliceWright$Strokes;"), (Jvm.Cond.laysFinal "SliceWright" "SliceWright" "commandList" "LSliceWright$Commands;"), (Jvm.Cond.laysFinal "SliceWright" "SliceWright" "planner" "LSliceWright$Planner;"), (Jvm.Cond.laysFinal "SliceWright" "SliceWright" "heat" "LSliceWright$Heat;"), (Jvm.Cond.laysFinal "SliceWright" "SliceWright" "machine" "LSliceWright$Machine;"), (Jvm.Cond.instantiable "SliceWright" (9 : Nat)), (Jvm.Cond.instantiable "java/lang/IndexOutOfBoundsException" (6 : Nat)), (Jvm.Cond.instantiable "java/lang/IllegalStateException" (6 : Nat)), (Jvm.Cond.instantiable "java/util/NoSuchElementException" (6 : Nat))]
theorem q_memT {tbl : List Cond} (ws : List Cond) (ps : List Nat) (h : ws.map some = ps.map (fun i => tbl[i]?)) : ∀ w ∈ ws, w ∈ tbl := by
  intro w hw
  have h1 : some w ∈ ps.map (fun i => tbl[i]?) := by rw [← h]; exact List.mem_map.mpr ⟨w, hw, rfl⟩
  obtain ⟨i, -, hi⟩ := List.mem_map.mp h1
  exact List.mem_of_getElem? hi
set_option maxRecDepth 100000 in
theorem q_tbl9_in : ∀ w ∈ q_tbl9, w ∈ lw_tbl := q_memT _ [548, 26, 550, 626, 32, 373, 428, 441, 462, 469, 511, 748, 757, 776, 836, 867, 872, 881, 922, 1004, 1022, 1067, 1036, 42, 1044, 44, 358, 37, 360, 408, 415, 478, 526, 541, 542, 567, 620, 635, 664, 697, 850, 851, 960, 987, 547, 549, 605, 606, 333, 455, 504, 769, 335, 337, 339, 332, 64, 58, 192, 194, 196, 198, 200, 202, 204, 206, 179, 243, 245, 247, 235, 117, 119, 121, 123, 125, 107, 268, 270, 272, 274, 276, 278, 280, 282, 284, 286, 288, 290, 251, 139, 141, 143, 145, 147, 130, 221, 223, 225, 227, 229, 231, 210, 86, 88, 90, 92, 94, 96, 98, 100, 102, 69, 163, 165, 167, 169, 171, 173, 175, 151, 302, 304, 306, 308, 310, 312, 314, 316, 318, 50, 454, 503, 768] (by decide +kernel)
theorem qt9_523 : (Jvm.Cond.laysStatic "SliceWright" "STEP_X" "[I") ∈ q_tbl9 := List.mem_of_getElem? (i := 0) rfl
theorem qt9_1 : (Jvm.Cond.initialized "SliceWright") ∈ q_tbl9 := List.mem_of_getElem? (i := 1) rfl
theorem qt9_525 : (Jvm.Cond.laysStatic "SliceWright" "STEP_Y" "[I") ∈ q_tbl9 := List.mem_of_getElem? (i := 2) rfl
theorem qt9_601 : (Jvm.Cond.laysStatic "SliceWright$Strokes" "KIND_ORDER" "[C") ∈ q_tbl9 := List.mem_of_getElem? (i := 3) rfl
theorem qt9_7 : (Jvm.Cond.initialized "SliceWright$Strokes") ∈ q_tbl9 := List.mem_of_getElem? (i := 4) rfl
theorem qt9_348 : (Jvm.Cond.stringRef "SliceWright" (88 : Nat) "the box is not within the places") ∈ q_tbl9 := List.mem_of_getElem? (i := 5) rfl
theorem qt9_403 : (Jvm.Cond.stringRef "SliceWright" (104 : Nat) "no such setting, or its value is out of range") ∈ q_tbl9 := List.mem_of_getElem? (i := 6) rfl
theorem qt9_416 : (Jvm.Cond.stringRef "SliceWright" (110 : Nat) "no such pattern") ∈ q_tbl9 := List.mem_of_getElem? (i := 7) rfl
theorem qt9_437 : (Jvm.Cond.stringRef "SliceWright" (295 : Nat) "no such layer") ∈ q_tbl9 := List.mem_of_getElem? (i := 8) rfl
theorem qt9_444 : (Jvm.Cond.stringRef "SliceWright" (120 : Nat) "the thickness is out of range") ∈ q_tbl9 := List.mem_of_getElem? (i := 9) rfl
theorem qt9_486 : (Jvm.Cond.stringRef "SliceWright" (168 : Nat) "the machine is not free") ∈ q_tbl9 := List.mem_of_getElem? (i := 10) rfl
theorem qt9_723 : (Jvm.Cond.stringRef "SliceWright" (307 : Nat) "no such command") ∈ q_tbl9 := List.mem_of_getElem? (i := 11) rfl
theorem qt9_732 : (Jvm.Cond.stringRef "SliceWright" (187 : Nat) "no such letter") ∈ q_tbl9 := List.mem_of_getElem? (i := 12) rfl
theorem qt9_751 : (Jvm.Cond.stringRef "SliceWright" (195 : Nat) "the command does not have this number") ∈ q_tbl9 := List.mem_of_getElem? (i := 13) rfl
theorem qt9_811 : (Jvm.Cond.stringRef "SliceWright" (302 : Nat) "no such cell") ∈ q_tbl9 := List.mem_of_getElem? (i := 14) rfl
theorem qt9_842 : (Jvm.Cond.stringRef "SliceWright" (209 : Nat) "the target is out of range") ∈ q_tbl9 := List.mem_of_getElem? (i := 15) rfl
theorem qt9_847 : (Jvm.Cond.stringRef "SliceWright" (215 : Nat) "the machine has failed") ∈ q_tbl9 := List.mem_of_getElem? (i := 16) rfl
theorem qt9_856 : (Jvm.Cond.stringRef "SliceWright" (220 : Nat) "the machine is not free, or has no commands") ∈ q_tbl9 := List.mem_of_getElem? (i := 17) rfl
theorem qt9_897 : (Jvm.Cond.stringRef "SliceWright" (225 : Nat) "the number of ticks is out of range") ∈ q_tbl9 := List.mem_of_getElem? (i := 18) rfl
theorem qt9_979 : (Jvm.Cond.stringRef "SliceWright" (230 : Nat) "the machine is not paused") ∈ q_tbl9 := List.mem_of_getElem? (i := 19) rfl
theorem qt9_997 : (Jvm.Cond.stringRef "SliceWright" (241 : Nat) "the machine has not failed") ∈ q_tbl9 := List.mem_of_getElem? (i := 20) rfl
theorem qt9_1042 : (Jvm.Cond.stringRef "SliceWrightLaw" (112 : Nat) "lgw") ∈ q_tbl9 := List.mem_of_getElem? (i := 21) rfl
theorem qt9_1011 : (Jvm.Cond.laysStatic "java/lang/String" "COMPACT_STRINGS" "Z") ∈ q_tbl9 := List.mem_of_getElem? (i := 22) rfl
theorem qt9_17 : (Jvm.Cond.initialized "java/lang/String") ∈ q_tbl9 := List.mem_of_getElem? (i := 23) rfl
theorem qt9_1019 : (Jvm.Cond.laysStatic "jdk/internal/util/Preconditions" "SIOOBE_FORMATTER" "Ljava/util/function/BiFunction;") ∈ q_tbl9 := List.mem_of_getElem? (i := 24) rfl
theorem qt9_19 : (Jvm.Cond.initialized "jdk/internal/util/Preconditions") ∈ q_tbl9 := List.mem_of_getElem? (i := 25) rfl
theorem qt9_333 : (Jvm.Cond.laysStatic "java/lang/Throwable" "UNASSIGNED_STACK" "[Ljava/lang/StackTraceElement;") ∈ q_tbl9 := List.mem_of_getElem? (i := 26) rfl
theorem qt9_12 : (Jvm.Cond.initialized "java/lang/Throwable") ∈ q_tbl9 := List.mem_of_getElem? (i := 27) rfl
theorem qt9_335 : (Jvm.Cond.laysStatic "java/lang/Throwable" "SUPPRESSED_SENTINEL" "Ljava/util/List;") ∈ q_tbl9 := List.mem_of_getElem? (i := 28) rfl
theorem qt9_383 : (Jvm.Cond.methodLinkNest "SliceWright$Body" (15 : Nat) ({ cls := "SliceWright", name := "isCell", desc := "(III)Z" } : Jvm.MethodName) "SliceWright") ∈ q_tbl9 := List.mem_of_getElem? (i := 29) rfl
theorem qt9_390 : (Jvm.Cond.methodLinkNest "SliceWright$Body" (19 : Nat) ({ cls := "SliceWright", name := "indexOf", desc := "(III)I" } : Jvm.MethodName) "SliceWright") ∈ q_tbl9 := List.mem_of_getElem? (i := 30) rfl
theorem qt9_453 : (Jvm.Cond.methodLinkNest "SliceWright$Settings" (59 : Nat) ({ cls := "SliceWright", name := "isPlace", desc := "(I)Z" } : Jvm.MethodName) "SliceWright") ∈ q_tbl9 := List.mem_of_getElem? (i := 31) rfl
theorem qt9_501 : (Jvm.Cond.methodLinkNest "SliceWright$Kinds" (43 : Nat) ({ cls := "SliceWright", name := "isPlace", desc := "(I)Z" } : Jvm.MethodName) "SliceWright") ∈ q_tbl9 := List.mem_of_getElem? (i := 32) rfl
theorem qt9_516 : (Jvm.Cond.methodLinkNest "SliceWright$Kinds" (31 : Nat) ({ cls := "SliceWright", name := "isCell", desc := "(III)Z" } : Jvm.MethodName) "SliceWright") ∈ q_tbl9 := List.mem_of_getElem? (i := 33) rfl
theorem qt9_517 : (Jvm.Cond.methodLinkNest "SliceWright$Kinds" (35 : Nat) ({ cls := "SliceWright", name := "indexOf", desc := "(III)I" } : Jvm.MethodName) "SliceWright") ∈ q_tbl9 := List.mem_of_getElem? (i := 34) rfl
theorem qt9_542 : (Jvm.Cond.methodLinkNest "SliceWright$Settings" (66 : Nat) ({ cls := "SliceWright", name := "canBeHalved", desc := "(I)Z" } : Jvm.MethodName) "SliceWright") ∈ q_tbl9 := List.mem_of_getElem? (i := 35) rfl
theorem qt9_595 : (Jvm.Cond.methodLinkNest "SliceWright$Commands" (39 : Nat) ({ cls := "SliceWright", name := "isPlace", desc := "(I)Z" } : Jvm.MethodName) "SliceWright") ∈ q_tbl9 := List.mem_of_getElem? (i := 36) rfl
theorem qt9_610 : (Jvm.Cond.methodLinkNest "SliceWright$Strokes" (51 : Nat) ({ cls := "SliceWright", name := "canBeHalved", desc := "(I)Z" } : Jvm.MethodName) "SliceWright") ∈ q_tbl9 := List.mem_of_getElem? (i := 37) rfl
theorem qt9_639 : (Jvm.Cond.methodLinkNest "SliceWright$Commands" (50 : Nat) ({ cls := "SliceWright", name := "distance", desc := "(IIII)I" } : Jvm.MethodName) "SliceWright") ∈ q_tbl9 := List.mem_of_getElem? (i := 38) rfl
theorem qt9_672 : (Jvm.Cond.methodLinkNest "SliceWright$Planner" (99 : Nat) ({ cls := "SliceWright", name := "distance", desc := "(IIII)I" } : Jvm.MethodName) "SliceWright") ∈ q_tbl9 := List.mem_of_getElem? (i := 39) rfl
theorem qt9_825 : (Jvm.Cond.methodLinkNest "SliceWright$Machine" (150 : Nat) ({ cls := "SliceWright", name := "isCell", desc := "(III)Z" } : Jvm.MethodName) "SliceWright") ∈ q_tbl9 := List.mem_of_getElem? (i := 40) rfl
theorem qt9_826 : (Jvm.Cond.methodLinkNest "SliceWright$Machine" (153 : Nat) ({ cls := "SliceWright", name := "indexOf", desc := "(III)I" } : Jvm.MethodName) "SliceWright") ∈ q_tbl9 := List.mem_of_getElem? (i := 41) rfl
theorem qt9_935 : (Jvm.Cond.methodLinkNest "SliceWright$Commands" (85 : Nat) ({ cls := "SliceWright", name := "signOf", desc := "(I)I" } : Jvm.MethodName) "SliceWright") ∈ q_tbl9 := List.mem_of_getElem? (i := 42) rfl
theorem qt9_962 : (Jvm.Cond.methodLinkNest "SliceWright$Machine" (138 : Nat) ({ cls := "SliceWright", name := "signOf", desc := "(I)I" } : Jvm.MethodName) "SliceWright") ∈ q_tbl9 := List.mem_of_getElem? (i := 43) rfl
theorem qt9_522 : (Jvm.Cond.fieldLinkNest "SliceWright$Kinds" (86 : Nat) "SliceWright" "STEP_X" "[I" "SliceWright") ∈ q_tbl9 := List.mem_of_getElem? (i := 44) rfl
theorem qt9_524 : (Jvm.Cond.fieldLinkNest "SliceWright$Kinds" (89 : Nat) "SliceWright" "STEP_Y" "[I" "SliceWright") ∈ q_tbl9 := List.mem_of_getElem? (i := 45) rfl
theorem qt9_580 : (Jvm.Cond.fieldLinkNest "SliceWright$Body" (29 : Nat) "SliceWright" "STEP_X" "[I" "SliceWright") ∈ q_tbl9 := List.mem_of_getElem? (i := 46) rfl
theorem qt9_581 : (Jvm.Cond.fieldLinkNest "SliceWright$Body" (33 : Nat) "SliceWright" "STEP_Y" "[I" "SliceWright") ∈ q_tbl9 := List.mem_of_getElem? (i := 47) rfl
theorem qt9_308 : (Jvm.Cond.castable "java/lang/IllegalArgumentException" "java/lang/IllegalArgumentException") ∈ q_tbl9 := List.mem_of_getElem? (i := 48) rfl
theorem qt9_430 : (Jvm.Cond.castable "java/lang/IndexOutOfBoundsException" "java/lang/IndexOutOfBoundsException") ∈ q_tbl9 := List.mem_of_getElem? (i := 49) rfl
theorem qt9_479 : (Jvm.Cond.castable "java/lang/IllegalStateException" "java/lang/IllegalStateException") ∈ q_tbl9 := List.mem_of_getElem? (i := 50) rfl
theorem qt9_744 : (Jvm.Cond.castable "java/util/NoSuchElementException" "java/util/NoSuchElementException") ∈ q_tbl9 := List.mem_of_getElem? (i := 51) rfl
theorem qt9_310 : (Jvm.Cond.declares ({ cls := "java/lang/RuntimeException", name := "<init>", desc := "(Ljava/lang/String;)V" } : Jvm.MethodName)) ∈ q_tbl9 := List.mem_of_getElem? (i := 52) rfl
theorem qt9_312 : (Jvm.Cond.declares ({ cls := "java/lang/Exception", name := "<init>", desc := "(Ljava/lang/String;)V" } : Jvm.MethodName)) ∈ q_tbl9 := List.mem_of_getElem? (i := 53) rfl
theorem qt9_314 : (Jvm.Cond.declares ({ cls := "java/lang/Throwable", name := "<init>", desc := "(Ljava/lang/String;)V" } : Jvm.MethodName)) ∈ q_tbl9 := List.mem_of_getElem? (i := 54) rfl
theorem qt9_307 : (Jvm.Cond.instantiable "java/lang/IllegalArgumentException" (6 : Nat)) ∈ q_tbl9 := List.mem_of_getElem? (i := 55) rfl
theorem qt9_39 : (Jvm.Cond.laysFinal "SliceWright$Body" "SliceWright$Body" "solid" "[Z") ∈ q_tbl9 := List.mem_of_getElem? (i := 56) rfl
theorem qt9_33 : (Jvm.Cond.instantiable "SliceWright$Body" (1 : Nat)) ∈ q_tbl9 := List.mem_of_getElem? (i := 57) rfl
theorem qt9_167 : (Jvm.Cond.laysFinal "SliceWright$Commands" "SliceWright$Commands" "kind" "[C") ∈ q_tbl9 := List.mem_of_getElem? (i := 58) rfl
theorem qt9_169 : (Jvm.Cond.laysFinal "SliceWright$Commands" "SliceWright$Commands" "headX" "[I") ∈ q_tbl9 := List.mem_of_getElem? (i := 59) rfl
theorem qt9_171 : (Jvm.Cond.laysFinal "SliceWright$Commands" "SliceWright$Commands" "headY" "[I") ∈ q_tbl9 := List.mem_of_getElem? (i := 60) rfl
theorem qt9_173 : (Jvm.Cond.laysFinal "SliceWright$Commands" "SliceWright$Commands" "layer" "[I") ∈ q_tbl9 := List.mem_of_getElem? (i := 61) rfl
theorem qt9_175 : (Jvm.Cond.laysFinal "SliceWright$Commands" "SliceWright$Commands" "amountOfCell" "[I") ∈ q_tbl9 := List.mem_of_getElem? (i := 62) rfl
theorem qt9_177 : (Jvm.Cond.lays "SliceWright$Commands" "SliceWright$Commands" "count" "I") ∈ q_tbl9 := List.mem_of_getElem? (i := 63) rfl
theorem qt9_179 : (Jvm.Cond.lays "SliceWright$Commands" "SliceWright$Commands" "travel" "I") ∈ q_tbl9 := List.mem_of_getElem? (i := 64) rfl
theorem qt9_181 : (Jvm.Cond.lays "SliceWright$Commands" "SliceWright$Commands" "amount" "J") ∈ q_tbl9 := List.mem_of_getElem? (i := 65) rfl
theorem qt9_154 : (Jvm.Cond.instantiable "SliceWright$Commands" (8 : Nat)) ∈ q_tbl9 := List.mem_of_getElem? (i := 66) rfl
theorem qt9_218 : (Jvm.Cond.lays "SliceWright$Heat" "SliceWright$Heat" "target" "I") ∈ q_tbl9 := List.mem_of_getElem? (i := 67) rfl
theorem qt9_220 : (Jvm.Cond.lays "SliceWright$Heat" "SliceWright$Heat" "temperature" "I") ∈ q_tbl9 := List.mem_of_getElem? (i := 68) rfl
theorem qt9_222 : (Jvm.Cond.lays "SliceWright$Heat" "SliceWright$Heat" "isOn" "Z") ∈ q_tbl9 := List.mem_of_getElem? (i := 69) rfl
theorem qt9_210 : (Jvm.Cond.instantiable "SliceWright$Heat" (3 : Nat)) ∈ q_tbl9 := List.mem_of_getElem? (i := 70) rfl
theorem qt9_92 : (Jvm.Cond.laysFinal "SliceWright$Kinds" "SliceWright$Kinds" "body" "LSliceWright$Body;") ∈ q_tbl9 := List.mem_of_getElem? (i := 71) rfl
theorem qt9_94 : (Jvm.Cond.laysFinal "SliceWright$Kinds" "SliceWright$Kinds" "settings" "LSliceWright$Settings;") ∈ q_tbl9 := List.mem_of_getElem? (i := 72) rfl
theorem qt9_96 : (Jvm.Cond.laysFinal "SliceWright$Kinds" "SliceWright$Kinds" "kind" "[C") ∈ q_tbl9 := List.mem_of_getElem? (i := 73) rfl
theorem qt9_98 : (Jvm.Cond.laysFinal "SliceWright$Kinds" "SliceWright$Kinds" "isKnown" "[Z") ∈ q_tbl9 := List.mem_of_getElem? (i := 74) rfl
theorem qt9_100 : (Jvm.Cond.laysFinal "SliceWright$Kinds" "SliceWright$Kinds" "wall" "[I") ∈ q_tbl9 := List.mem_of_getElem? (i := 75) rfl
theorem qt9_82 : (Jvm.Cond.instantiable "SliceWright$Kinds" (5 : Nat)) ∈ q_tbl9 := List.mem_of_getElem? (i := 76) rfl
theorem qt9_243 : (Jvm.Cond.laysFinal "SliceWright$Machine" "SliceWright$Machine" "commands" "LSliceWright$Commands;") ∈ q_tbl9 := List.mem_of_getElem? (i := 77) rfl
theorem qt9_245 : (Jvm.Cond.laysFinal "SliceWright$Machine" "SliceWright$Machine" "heat" "LSliceWright$Heat;") ∈ q_tbl9 := List.mem_of_getElem? (i := 78) rfl
theorem qt9_247 : (Jvm.Cond.lays "SliceWright$Machine" "SliceWright$Machine" "state" "C") ∈ q_tbl9 := List.mem_of_getElem? (i := 79) rfl
theorem qt9_249 : (Jvm.Cond.lays "SliceWright$Machine" "SliceWright$Machine" "stateBeforeFailure" "C") ∈ q_tbl9 := List.mem_of_getElem? (i := 80) rfl
theorem qt9_251 : (Jvm.Cond.lays "SliceWright$Machine" "SliceWright$Machine" "next" "I") ∈ q_tbl9 := List.mem_of_getElem? (i := 81) rfl
theorem qt9_253 : (Jvm.Cond.lays "SliceWright$Machine" "SliceWright$Machine" "gone" "I") ∈ q_tbl9 := List.mem_of_getElem? (i := 82) rfl
theorem qt9_255 : (Jvm.Cond.lays "SliceWright$Machine" "SliceWright$Machine" "speed" "I") ∈ q_tbl9 := List.mem_of_getElem? (i := 83) rfl
theorem qt9_257 : (Jvm.Cond.lays "SliceWright$Machine" "SliceWright$Machine" "kept" "I") ∈ q_tbl9 := List.mem_of_getElem? (i := 84) rfl
theorem qt9_259 : (Jvm.Cond.lays "SliceWright$Machine" "SliceWright$Machine" "wasCut" "Z") ∈ q_tbl9 := List.mem_of_getElem? (i := 85) rfl
theorem qt9_261 : (Jvm.Cond.lays "SliceWright$Machine" "SliceWright$Machine" "time" "J") ∈ q_tbl9 := List.mem_of_getElem? (i := 86) rfl
theorem qt9_263 : (Jvm.Cond.laysFinal "SliceWright$Machine" "SliceWright$Machine" "laid" "[I") ∈ q_tbl9 := List.mem_of_getElem? (i := 87) rfl
theorem qt9_265 : (Jvm.Cond.lays "SliceWright$Machine" "SliceWright$Machine" "laidInAll" "J") ∈ q_tbl9 := List.mem_of_getElem? (i := 88) rfl
theorem qt9_226 : (Jvm.Cond.instantiable "SliceWright$Machine" (12 : Nat)) ∈ q_tbl9 := List.mem_of_getElem? (i := 89) rfl
theorem qt9_114 : (Jvm.Cond.laysFinal "SliceWright$Outlines" "SliceWright$Outlines" "body" "LSliceWright$Body;") ∈ q_tbl9 := List.mem_of_getElem? (i := 90) rfl
theorem qt9_116 : (Jvm.Cond.laysFinal "SliceWright$Outlines" "SliceWright$Outlines" "isSeen" "[Z") ∈ q_tbl9 := List.mem_of_getElem? (i := 91) rfl
theorem qt9_118 : (Jvm.Cond.laysFinal "SliceWright$Outlines" "SliceWright$Outlines" "found" "[I") ∈ q_tbl9 := List.mem_of_getElem? (i := 92) rfl
theorem qt9_120 : (Jvm.Cond.lays "SliceWright$Outlines" "SliceWright$Outlines" "foundCount" "I") ∈ q_tbl9 := List.mem_of_getElem? (i := 93) rfl
theorem qt9_122 : (Jvm.Cond.laysFinal "SliceWright$Outlines" "SliceWright$Outlines" "isGone" "[Z") ∈ q_tbl9 := List.mem_of_getElem? (i := 94) rfl
theorem qt9_105 : (Jvm.Cond.instantiable "SliceWright$Outlines" (5 : Nat)) ∈ q_tbl9 := List.mem_of_getElem? (i := 95) rfl
theorem qt9_196 : (Jvm.Cond.laysFinal "SliceWright$Planner" "SliceWright$Planner" "settings" "LSliceWright$Settings;") ∈ q_tbl9 := List.mem_of_getElem? (i := 96) rfl
theorem qt9_198 : (Jvm.Cond.laysFinal "SliceWright$Planner" "SliceWright$Planner" "strokes" "LSliceWright$Strokes;") ∈ q_tbl9 := List.mem_of_getElem? (i := 97) rfl
theorem qt9_200 : (Jvm.Cond.laysFinal "SliceWright$Planner" "SliceWright$Planner" "commands" "LSliceWright$Commands;") ∈ q_tbl9 := List.mem_of_getElem? (i := 98) rfl
theorem qt9_202 : (Jvm.Cond.laysFinal "SliceWright$Planner" "SliceWright$Planner" "isDrawn" "[Z") ∈ q_tbl9 := List.mem_of_getElem? (i := 99) rfl
theorem qt9_204 : (Jvm.Cond.lays "SliceWright$Planner" "SliceWright$Planner" "headX" "I") ∈ q_tbl9 := List.mem_of_getElem? (i := 100) rfl
theorem qt9_206 : (Jvm.Cond.lays "SliceWright$Planner" "SliceWright$Planner" "headY" "I") ∈ q_tbl9 := List.mem_of_getElem? (i := 101) rfl
theorem qt9_185 : (Jvm.Cond.instantiable "SliceWright$Planner" (6 : Nat)) ∈ q_tbl9 := List.mem_of_getElem? (i := 102) rfl
theorem qt9_61 : (Jvm.Cond.lays "SliceWright$Settings" "SliceWright$Settings" "walls" "I") ∈ q_tbl9 := List.mem_of_getElem? (i := 103) rfl
theorem qt9_63 : (Jvm.Cond.lays "SliceWright$Settings" "SliceWright$Settings" "skins" "I") ∈ q_tbl9 := List.mem_of_getElem? (i := 104) rfl
theorem qt9_65 : (Jvm.Cond.lays "SliceWright$Settings" "SliceWright$Settings" "spread" "I") ∈ q_tbl9 := List.mem_of_getElem? (i := 105) rfl
theorem qt9_67 : (Jvm.Cond.lays "SliceWright$Settings" "SliceWright$Settings" "supports" "I") ∈ q_tbl9 := List.mem_of_getElem? (i := 106) rfl
theorem qt9_69 : (Jvm.Cond.lays "SliceWright$Settings" "SliceWright$Settings" "gap" "I") ∈ q_tbl9 := List.mem_of_getElem? (i := 107) rfl
theorem qt9_71 : (Jvm.Cond.lays "SliceWright$Settings" "SliceWright$Settings" "reach" "I") ∈ q_tbl9 := List.mem_of_getElem? (i := 108) rfl
theorem qt9_73 : (Jvm.Cond.lays "SliceWright$Settings" "SliceWright$Settings" "pattern" "C") ∈ q_tbl9 := List.mem_of_getElem? (i := 109) rfl
theorem qt9_75 : (Jvm.Cond.laysFinal "SliceWright$Settings" "SliceWright$Settings" "thickness" "[I") ∈ q_tbl9 := List.mem_of_getElem? (i := 110) rfl
theorem qt9_77 : (Jvm.Cond.laysFinal "SliceWright$Settings" "SliceWright$Settings" "pause" "[Z") ∈ q_tbl9 := List.mem_of_getElem? (i := 111) rfl
theorem qt9_44 : (Jvm.Cond.instantiable "SliceWright$Settings" (9 : Nat)) ∈ q_tbl9 := List.mem_of_getElem? (i := 112) rfl
theorem qt9_138 : (Jvm.Cond.laysFinal "SliceWright$Strokes" "SliceWright$Strokes" "kinds" "LSliceWright$Kinds;") ∈ q_tbl9 := List.mem_of_getElem? (i := 113) rfl
theorem qt9_140 : (Jvm.Cond.laysFinal "SliceWright$Strokes" "SliceWright$Strokes" "kind" "[C") ∈ q_tbl9 := List.mem_of_getElem? (i := 114) rfl
theorem qt9_142 : (Jvm.Cond.laysFinal "SliceWright$Strokes" "SliceWright$Strokes" "firstX" "[I") ∈ q_tbl9 := List.mem_of_getElem? (i := 115) rfl
theorem qt9_144 : (Jvm.Cond.laysFinal "SliceWright$Strokes" "SliceWright$Strokes" "firstY" "[I") ∈ q_tbl9 := List.mem_of_getElem? (i := 116) rfl
theorem qt9_146 : (Jvm.Cond.laysFinal "SliceWright$Strokes" "SliceWright$Strokes" "lastX" "[I") ∈ q_tbl9 := List.mem_of_getElem? (i := 117) rfl
theorem qt9_148 : (Jvm.Cond.laysFinal "SliceWright$Strokes" "SliceWright$Strokes" "lastY" "[I") ∈ q_tbl9 := List.mem_of_getElem? (i := 118) rfl
theorem qt9_150 : (Jvm.Cond.lays "SliceWright$Strokes" "SliceWright$Strokes" "count" "I") ∈ q_tbl9 := List.mem_of_getElem? (i := 119) rfl
theorem qt9_126 : (Jvm.Cond.instantiable "SliceWright$Strokes" (7 : Nat)) ∈ q_tbl9 := List.mem_of_getElem? (i := 120) rfl
theorem qt9_277 : (Jvm.Cond.laysFinal "SliceWright" "SliceWright" "body" "LSliceWright$Body;") ∈ q_tbl9 := List.mem_of_getElem? (i := 121) rfl
theorem qt9_279 : (Jvm.Cond.laysFinal "SliceWright" "SliceWright" "settings" "LSliceWright$Settings;") ∈ q_tbl9 := List.mem_of_getElem? (i := 122) rfl
theorem qt9_281 : (Jvm.Cond.laysFinal "SliceWright" "SliceWright" "kinds" "LSliceWright$Kinds;") ∈ q_tbl9 := List.mem_of_getElem? (i := 123) rfl
theorem qt9_283 : (Jvm.Cond.laysFinal "SliceWright" "SliceWright" "outlines" "LSliceWright$Outlines;") ∈ q_tbl9 := List.mem_of_getElem? (i := 124) rfl
theorem qt9_285 : (Jvm.Cond.laysFinal "SliceWright" "SliceWright" "layerStrokes" "LSliceWright$Strokes;") ∈ q_tbl9 := List.mem_of_getElem? (i := 125) rfl
theorem qt9_287 : (Jvm.Cond.laysFinal "SliceWright" "SliceWright" "commandList" "LSliceWright$Commands;") ∈ q_tbl9 := List.mem_of_getElem? (i := 126) rfl
theorem qt9_289 : (Jvm.Cond.laysFinal "SliceWright" "SliceWright" "planner" "LSliceWright$Planner;") ∈ q_tbl9 := List.mem_of_getElem? (i := 127) rfl
theorem qt9_291 : (Jvm.Cond.laysFinal "SliceWright" "SliceWright" "heat" "LSliceWright$Heat;") ∈ q_tbl9 := List.mem_of_getElem? (i := 128) rfl
theorem qt9_293 : (Jvm.Cond.laysFinal "SliceWright" "SliceWright" "machine" "LSliceWright$Machine;") ∈ q_tbl9 := List.mem_of_getElem? (i := 129) rfl
theorem qt9_25 : (Jvm.Cond.instantiable "SliceWright" (9 : Nat)) ∈ q_tbl9 := List.mem_of_getElem? (i := 130) rfl
theorem qt9_429 : (Jvm.Cond.instantiable "java/lang/IndexOutOfBoundsException" (6 : Nat)) ∈ q_tbl9 := List.mem_of_getElem? (i := 131) rfl
theorem qt9_478 : (Jvm.Cond.instantiable "java/lang/IllegalStateException" (6 : Nat)) ∈ q_tbl9 := List.mem_of_getElem? (i := 132) rfl
theorem qt9_743 : (Jvm.Cond.instantiable "java/util/NoSuchElementException" (6 : Nat)) ∈ q_tbl9 := List.mem_of_getElem? (i := 133) rfl
def q_gvl : List Cond := [(Jvm.Cond.eq (Jvm.Term.elem (Jvm.Term.static "SliceWright" "STEP_X" "[I") (Jvm.Term.int (0 : Int32))) (Jvm.Term.int (1 : Int32))), (Jvm.Cond.eq (Jvm.Term.elem (Jvm.Term.static "SliceWright" "STEP_X" "[I") (Jvm.Term.int (1 : Int32))) (Jvm.Term.int (0 : Int32))), (Jvm.Cond.eq (Jvm.Term.elem (Jvm.Term.static "SliceWright" "STEP_X" "[I") (Jvm.Term.int (2 : Int32))) (Jvm.Term.int (-1 : Int32))), (Jvm.Cond.eq (Jvm.Term.elem (Jvm.Term.static "SliceWright" "STEP_X" "[I") (Jvm.Term.int (3 : Int32))) (Jvm.Term.int (0 : Int32))), (Jvm.Cond.arrayOf (Jvm.Term.static "SliceWright" "STEP_X" "[I") Jvm.ClassFile.FieldType.int), (Jvm.Cond.eq (Jvm.Term.length (Jvm.Term.static "SliceWright" "STEP_X" "[I")) (Jvm.Term.int (4 : Int32))), (Jvm.Cond.eq (Jvm.Term.elem (Jvm.Term.static "SliceWright" "STEP_Y" "[I") (Jvm.Term.int (0 : Int32))) (Jvm.Term.int (0 : Int32))), (Jvm.Cond.eq (Jvm.Term.elem (Jvm.Term.static "SliceWright" "STEP_Y" "[I") (Jvm.Term.int (1 : Int32))) (Jvm.Term.int (1 : Int32))), (Jvm.Cond.eq (Jvm.Term.elem (Jvm.Term.static "SliceWright" "STEP_Y" "[I") (Jvm.Term.int (2 : Int32))) (Jvm.Term.int (0 : Int32))), (Jvm.Cond.eq (Jvm.Term.elem (Jvm.Term.static "SliceWright" "STEP_Y" "[I") (Jvm.Term.int (3 : Int32))) (Jvm.Term.int (-1 : Int32))), (Jvm.Cond.arrayOf (Jvm.Term.static "SliceWright" "STEP_Y" "[I") Jvm.ClassFile.FieldType.int), (Jvm.Cond.eq (Jvm.Term.length (Jvm.Term.static "SliceWright" "STEP_Y" "[I")) (Jvm.Term.int (4 : Int32))), (Jvm.Cond.eq (Jvm.Term.elem (Jvm.Term.static "SliceWright$Strokes" "KIND_ORDER" "[C") (Jvm.Term.int (0 : Int32))) (Jvm.Term.int (119 : Int32))), (Jvm.Cond.eq (Jvm.Term.elem (Jvm.Term.static "SliceWright$Strokes" "KIND_ORDER" "[C") (Jvm.Term.int (1 : Int32))) (Jvm.Term.int (98 : Int32))), (Jvm.Cond.eq (Jvm.Term.elem (Jvm.Term.static "SliceWright$Strokes" "KIND_ORDER" "[C") (Jvm.Term.int (2 : Int32))) (Jvm.Term.int (116 : Int32))), (Jvm.Cond.eq (Jvm.Term.elem (Jvm.Term.static "SliceWright$Strokes" "KIND_ORDER" "[C") (Jvm.Term.int (3 : Int32))) (Jvm.Term.int (105 : Int32))), (Jvm.Cond.eq (Jvm.Term.elem (Jvm.Term.static "SliceWright$Strokes" "KIND_ORDER" "[C") (Jvm.Term.int (4 : Int32))) (Jvm.Term.int (115 : Int32))), (Jvm.Cond.arrayOf (Jvm.Term.static "SliceWright$Strokes" "KIND_ORDER" "[C") Jvm.ClassFile.FieldType.char), (Jvm.Cond.eq (Jvm.Term.length (Jvm.Term.static "SliceWright$Strokes" "KIND_ORDER" "[C")) (Jvm.Term.int (5 : Int32))), (Jvm.Cond.exactly (Jvm.Term.string "SliceWright" (88 : Nat)) "java/lang/String"), (Jvm.Cond.exactly (Jvm.Term.string "SliceWright" (104 : Nat)) "java/lang/String"), (Jvm.Cond.exactly (Jvm.Term.string "SliceWright" (110 : Nat)) "java/lang/String"), (Jvm.Cond.exactly (Jvm.Term.string "SliceWright" (295 : Nat)) "java/lang/String"), (Jvm.Cond.exactly (Jvm.Term.string "SliceWright" (120 : Nat)) "java/lang/String"), (Jvm.Cond.exactly (Jvm.Term.string "SliceWright" (168 : Nat)) "java/lang/String"), (Jvm.Cond.exactly (Jvm.Term.string "SliceWright" (307 : Nat)) "java/lang/String"), (Jvm.Cond.exactly (Jvm.Term.string "SliceWright" (187 : Nat)) "java/lang/String"), (Jvm.Cond.exactly (Jvm.Term.string "SliceWright" (195 : Nat)) "java/lang/String"), (Jvm.Cond.exactly (Jvm.Term.string "SliceWright" (302 : Nat)) "java/lang/String"), (Jvm.Cond.exactly (Jvm.Term.string "SliceWright" (209 : Nat)) "java/lang/String"), (Jvm.Cond.exactly (Jvm.Term.string "SliceWright" (215 : Nat)) "java/lang/String"), (Jvm.Cond.exactly (Jvm.Term.string "SliceWright" (220 : Nat)) "java/lang/String"), (Jvm.Cond.exactly (Jvm.Term.string "SliceWright" (225 : Nat)) "java/lang/String"), (Jvm.Cond.exactly (Jvm.Term.string "SliceWright" (230 : Nat)) "java/lang/String"), (Jvm.Cond.exactly (Jvm.Term.string "SliceWright" (241 : Nat)) "java/lang/String"), (Jvm.Cond.exactly (Jvm.Term.string "SliceWrightLaw" (112 : Nat)) "java/lang/String"), (Jvm.Cond.eq (Jvm.Term.field (Jvm.Term.string "SliceWrightLaw" (112 : Nat)) "java/lang/String" "coder" "B") (Jvm.Term.int (0 : Int32))), (Jvm.Cond.arrayOf (Jvm.Term.field (Jvm.Term.string "SliceWrightLaw" (112 : Nat)) "java/lang/String" "value" "[B") Jvm.ClassFile.FieldType.byte), (Jvm.Cond.eq (Jvm.Term.length (Jvm.Term.field (Jvm.Term.string "SliceWrightLaw" (112 : Nat)) "java/lang/String" "value" "[B")) (Jvm.Term.int (3 : Int32))), (Jvm.Cond.eq (Jvm.Term.elem (Jvm.Term.field (Jvm.Term.string "SliceWrightLaw" (112 : Nat)) "java/lang/String" "value" "[B") (Jvm.Term.int (0 : Int32))) (Jvm.Term.int (108 : Int32))), (Jvm.Cond.eq (Jvm.Term.elem (Jvm.Term.field (Jvm.Term.string "SliceWrightLaw" (112 : Nat)) "java/lang/String" "value" "[B") (Jvm.Term.int (1 : Int32))) (Jvm.Term.int (103 : Int32))), (Jvm.Cond.eq (Jvm.Term.elem (Jvm.Term.field (Jvm.Term.string "SliceWrightLaw" (112 : Nat)) "java/lang/String" "value" "[B") (Jvm.Term.int (2 : Int32))) (Jvm.Term.int (119 : Int32))), (Jvm.Cond.eq (Jvm.Term.static "java/lang/String" "COMPACT_STRINGS" "Z") (Jvm.Term.int (1 : Int32))), (Jvm.Cond.isRef (Jvm.Term.static "jdk/internal/util/Preconditions" "SIOOBE_FORMATTER" "Ljava/util/function/BiFunction;")), (Jvm.Cond.isRef (Jvm.Term.static "java/lang/Throwable" "UNASSIGNED_STACK" "[Ljava/lang/StackTraceElement;")), (Jvm.Cond.isRef (Jvm.Term.static "java/lang/Throwable" "SUPPRESSED_SENTINEL" "Ljava/util/List;"))]
set_option maxRecDepth 100000 in
theorem q_gvl_in : ∀ w ∈ q_gvl, w ∈ flatC (Jvm.Cond.and given_1 narrow_1) := q_memT _ [9, 10, 11, 12, 7, 8, 16, 17, 18, 19, 14, 15, 23, 24, 25, 26, 27, 21, 22, 33, 69, 119, 140, 160, 197, 229, 254, 279, 328, 353, 393, 430, 489, 541, 584, 629, 630, 631, 632, 633, 634, 635, 28, 29, 4, 5] (by decide +kernel)
theorem qg_9 : (Jvm.Cond.eq (Jvm.Term.elem (Jvm.Term.static "SliceWright" "STEP_X" "[I") (Jvm.Term.int (0 : Int32))) (Jvm.Term.int (1 : Int32))) ∈ q_gvl := List.mem_of_getElem? (i := 0) rfl
theorem qg_10 : (Jvm.Cond.eq (Jvm.Term.elem (Jvm.Term.static "SliceWright" "STEP_X" "[I") (Jvm.Term.int (1 : Int32))) (Jvm.Term.int (0 : Int32))) ∈ q_gvl := List.mem_of_getElem? (i := 1) rfl
theorem qg_11 : (Jvm.Cond.eq (Jvm.Term.elem (Jvm.Term.static "SliceWright" "STEP_X" "[I") (Jvm.Term.int (2 : Int32))) (Jvm.Term.int (-1 : Int32))) ∈ q_gvl := List.mem_of_getElem? (i := 2) rfl
theorem qg_12 : (Jvm.Cond.eq (Jvm.Term.elem (Jvm.Term.static "SliceWright" "STEP_X" "[I") (Jvm.Term.int (3 : Int32))) (Jvm.Term.int (0 : Int32))) ∈ q_gvl := List.mem_of_getElem? (i := 3) rfl
theorem qg_7 : (Jvm.Cond.arrayOf (Jvm.Term.static "SliceWright" "STEP_X" "[I") Jvm.ClassFile.FieldType.int) ∈ q_gvl := List.mem_of_getElem? (i := 4) rfl
theorem qg_8 : (Jvm.Cond.eq (Jvm.Term.length (Jvm.Term.static "SliceWright" "STEP_X" "[I")) (Jvm.Term.int (4 : Int32))) ∈ q_gvl := List.mem_of_getElem? (i := 5) rfl
theorem qg_16 : (Jvm.Cond.eq (Jvm.Term.elem (Jvm.Term.static "SliceWright" "STEP_Y" "[I") (Jvm.Term.int (0 : Int32))) (Jvm.Term.int (0 : Int32))) ∈ q_gvl := List.mem_of_getElem? (i := 6) rfl
theorem qg_17 : (Jvm.Cond.eq (Jvm.Term.elem (Jvm.Term.static "SliceWright" "STEP_Y" "[I") (Jvm.Term.int (1 : Int32))) (Jvm.Term.int (1 : Int32))) ∈ q_gvl := List.mem_of_getElem? (i := 7) rfl
theorem qg_18 : (Jvm.Cond.eq (Jvm.Term.elem (Jvm.Term.static "SliceWright" "STEP_Y" "[I") (Jvm.Term.int (2 : Int32))) (Jvm.Term.int (0 : Int32))) ∈ q_gvl := List.mem_of_getElem? (i := 8) rfl
theorem qg_19 : (Jvm.Cond.eq (Jvm.Term.elem (Jvm.Term.static "SliceWright" "STEP_Y" "[I") (Jvm.Term.int (3 : Int32))) (Jvm.Term.int (-1 : Int32))) ∈ q_gvl := List.mem_of_getElem? (i := 9) rfl
theorem qg_14 : (Jvm.Cond.arrayOf (Jvm.Term.static "SliceWright" "STEP_Y" "[I") Jvm.ClassFile.FieldType.int) ∈ q_gvl := List.mem_of_getElem? (i := 10) rfl
theorem qg_15 : (Jvm.Cond.eq (Jvm.Term.length (Jvm.Term.static "SliceWright" "STEP_Y" "[I")) (Jvm.Term.int (4 : Int32))) ∈ q_gvl := List.mem_of_getElem? (i := 11) rfl
theorem qg_23 : (Jvm.Cond.eq (Jvm.Term.elem (Jvm.Term.static "SliceWright$Strokes" "KIND_ORDER" "[C") (Jvm.Term.int (0 : Int32))) (Jvm.Term.int (119 : Int32))) ∈ q_gvl := List.mem_of_getElem? (i := 12) rfl
theorem qg_24 : (Jvm.Cond.eq (Jvm.Term.elem (Jvm.Term.static "SliceWright$Strokes" "KIND_ORDER" "[C") (Jvm.Term.int (1 : Int32))) (Jvm.Term.int (98 : Int32))) ∈ q_gvl := List.mem_of_getElem? (i := 13) rfl
theorem qg_25 : (Jvm.Cond.eq (Jvm.Term.elem (Jvm.Term.static "SliceWright$Strokes" "KIND_ORDER" "[C") (Jvm.Term.int (2 : Int32))) (Jvm.Term.int (116 : Int32))) ∈ q_gvl := List.mem_of_getElem? (i := 14) rfl
theorem qg_26 : (Jvm.Cond.eq (Jvm.Term.elem (Jvm.Term.static "SliceWright$Strokes" "KIND_ORDER" "[C") (Jvm.Term.int (3 : Int32))) (Jvm.Term.int (105 : Int32))) ∈ q_gvl := List.mem_of_getElem? (i := 15) rfl
theorem qg_27 : (Jvm.Cond.eq (Jvm.Term.elem (Jvm.Term.static "SliceWright$Strokes" "KIND_ORDER" "[C") (Jvm.Term.int (4 : Int32))) (Jvm.Term.int (115 : Int32))) ∈ q_gvl := List.mem_of_getElem? (i := 16) rfl
theorem qg_21 : (Jvm.Cond.arrayOf (Jvm.Term.static "SliceWright$Strokes" "KIND_ORDER" "[C") Jvm.ClassFile.FieldType.char) ∈ q_gvl := List.mem_of_getElem? (i := 17) rfl
theorem qg_22 : (Jvm.Cond.eq (Jvm.Term.length (Jvm.Term.static "SliceWright$Strokes" "KIND_ORDER" "[C")) (Jvm.Term.int (5 : Int32))) ∈ q_gvl := List.mem_of_getElem? (i := 18) rfl
theorem qg_33 : (Jvm.Cond.exactly (Jvm.Term.string "SliceWright" (88 : Nat)) "java/lang/String") ∈ q_gvl := List.mem_of_getElem? (i := 19) rfl
theorem qg_69 : (Jvm.Cond.exactly (Jvm.Term.string "SliceWright" (104 : Nat)) "java/lang/String") ∈ q_gvl := List.mem_of_getElem? (i := 20) rfl
theorem qg_119 : (Jvm.Cond.exactly (Jvm.Term.string "SliceWright" (110 : Nat)) "java/lang/String") ∈ q_gvl := List.mem_of_getElem? (i := 21) rfl
theorem qg_140 : (Jvm.Cond.exactly (Jvm.Term.string "SliceWright" (295 : Nat)) "java/lang/String") ∈ q_gvl := List.mem_of_getElem? (i := 22) rfl
theorem qg_160 : (Jvm.Cond.exactly (Jvm.Term.string "SliceWright" (120 : Nat)) "java/lang/String") ∈ q_gvl := List.mem_of_getElem? (i := 23) rfl
theorem qg_197 : (Jvm.Cond.exactly (Jvm.Term.string "SliceWright" (168 : Nat)) "java/lang/String") ∈ q_gvl := List.mem_of_getElem? (i := 24) rfl
theorem qg_229 : (Jvm.Cond.exactly (Jvm.Term.string "SliceWright" (307 : Nat)) "java/lang/String") ∈ q_gvl := List.mem_of_getElem? (i := 25) rfl
theorem qg_254 : (Jvm.Cond.exactly (Jvm.Term.string "SliceWright" (187 : Nat)) "java/lang/String") ∈ q_gvl := List.mem_of_getElem? (i := 26) rfl
theorem qg_279 : (Jvm.Cond.exactly (Jvm.Term.string "SliceWright" (195 : Nat)) "java/lang/String") ∈ q_gvl := List.mem_of_getElem? (i := 27) rfl
theorem qg_328 : (Jvm.Cond.exactly (Jvm.Term.string "SliceWright" (302 : Nat)) "java/lang/String") ∈ q_gvl := List.mem_of_getElem? (i := 28) rfl
theorem qg_353 : (Jvm.Cond.exactly (Jvm.Term.string "SliceWright" (209 : Nat)) "java/lang/String") ∈ q_gvl := List.mem_of_getElem? (i := 29) rfl
theorem qg_393 : (Jvm.Cond.exactly (Jvm.Term.string "SliceWright" (215 : Nat)) "java/lang/String") ∈ q_gvl := List.mem_of_getElem? (i := 30) rfl
theorem qg_430 : (Jvm.Cond.exactly (Jvm.Term.string "SliceWright" (220 : Nat)) "java/lang/String") ∈ q_gvl := List.mem_of_getElem? (i := 31) rfl
theorem qg_489 : (Jvm.Cond.exactly (Jvm.Term.string "SliceWright" (225 : Nat)) "java/lang/String") ∈ q_gvl := List.mem_of_getElem? (i := 32) rfl
theorem qg_541 : (Jvm.Cond.exactly (Jvm.Term.string "SliceWright" (230 : Nat)) "java/lang/String") ∈ q_gvl := List.mem_of_getElem? (i := 33) rfl
theorem qg_584 : (Jvm.Cond.exactly (Jvm.Term.string "SliceWright" (241 : Nat)) "java/lang/String") ∈ q_gvl := List.mem_of_getElem? (i := 34) rfl
theorem qg_629 : (Jvm.Cond.exactly (Jvm.Term.string "SliceWrightLaw" (112 : Nat)) "java/lang/String") ∈ q_gvl := List.mem_of_getElem? (i := 35) rfl
theorem qg_630 : (Jvm.Cond.eq (Jvm.Term.field (Jvm.Term.string "SliceWrightLaw" (112 : Nat)) "java/lang/String" "coder" "B") (Jvm.Term.int (0 : Int32))) ∈ q_gvl := List.mem_of_getElem? (i := 36) rfl
theorem qg_631 : (Jvm.Cond.arrayOf (Jvm.Term.field (Jvm.Term.string "SliceWrightLaw" (112 : Nat)) "java/lang/String" "value" "[B") Jvm.ClassFile.FieldType.byte) ∈ q_gvl := List.mem_of_getElem? (i := 37) rfl
theorem qg_632 : (Jvm.Cond.eq (Jvm.Term.length (Jvm.Term.field (Jvm.Term.string "SliceWrightLaw" (112 : Nat)) "java/lang/String" "value" "[B")) (Jvm.Term.int (3 : Int32))) ∈ q_gvl := List.mem_of_getElem? (i := 38) rfl
theorem qg_633 : (Jvm.Cond.eq (Jvm.Term.elem (Jvm.Term.field (Jvm.Term.string "SliceWrightLaw" (112 : Nat)) "java/lang/String" "value" "[B") (Jvm.Term.int (0 : Int32))) (Jvm.Term.int (108 : Int32))) ∈ q_gvl := List.mem_of_getElem? (i := 39) rfl
theorem qg_634 : (Jvm.Cond.eq (Jvm.Term.elem (Jvm.Term.field (Jvm.Term.string "SliceWrightLaw" (112 : Nat)) "java/lang/String" "value" "[B") (Jvm.Term.int (1 : Int32))) (Jvm.Term.int (103 : Int32))) ∈ q_gvl := List.mem_of_getElem? (i := 40) rfl
theorem qg_635 : (Jvm.Cond.eq (Jvm.Term.elem (Jvm.Term.field (Jvm.Term.string "SliceWrightLaw" (112 : Nat)) "java/lang/String" "value" "[B") (Jvm.Term.int (2 : Int32))) (Jvm.Term.int (119 : Int32))) ∈ q_gvl := List.mem_of_getElem? (i := 41) rfl
theorem qg_28 : (Jvm.Cond.eq (Jvm.Term.static "java/lang/String" "COMPACT_STRINGS" "Z") (Jvm.Term.int (1 : Int32))) ∈ q_gvl := List.mem_of_getElem? (i := 42) rfl
theorem qg_29 : (Jvm.Cond.isRef (Jvm.Term.static "jdk/internal/util/Preconditions" "SIOOBE_FORMATTER" "Ljava/util/function/BiFunction;")) ∈ q_gvl := List.mem_of_getElem? (i := 43) rfl
theorem qg_4 : (Jvm.Cond.isRef (Jvm.Term.static "java/lang/Throwable" "UNASSIGNED_STACK" "[Ljava/lang/StackTraceElement;")) ∈ q_gvl := List.mem_of_getElem? (i := 44) rfl
theorem qg_5 : (Jvm.Cond.isRef (Jvm.Term.static "java/lang/Throwable" "SUPPRESSED_SENTINEL" "Ljava/util/List;")) ∈ q_gvl := List.mem_of_getElem? (i := 45) rfl
theorem q_vkR {args : Array Value} {s : State} {C tx : String} {k : Nat} (h : (Cond.stringRef C k tx).before args s = true) (he : (Cond.exactly (Term.string C k) "java/lang/String").before args s = true) : ∃ a, vk_R C k tx a s := by
  obtain ⟨a, c, cA, kA, q1, -⟩ := Cond.exactly_spec (args := args) (first := s) (o := none) (s := s) (idx := []) (t := Term.string C k) (cls := "java/lang/String") he
  exact ⟨a, vk_R.of h q1⟩
theorem q_kn1 {tbl : List Cond} {args : Array Value} {s : State} {C : String} {T : u_T} {N n : Nat} (ht : ∀ w ∈ tbl, w.before args s = true) (hin : ∀ w ∈ u_ws C T N, w ∈ tbl) (hi : (Cond.instantiable C n).before args s = true) : ∃ d : ClassId × (Nat → Nat), u_Kn s C T N d.1 d.2 := by
  obtain ⟨a, b, h⟩ := u_known ht hin hi
  exact ⟨(a, b), h⟩
set_option maxRecDepth 100000 in
theorem q_st1 {args : Array Value} {s : State} {A : Nat → Prop} (hg : ∀ w ∈ q_gvl, w.before args s = true) (ht : ∀ w ∈ q_tbl9, w.before args s = true) (hA : ∀ a : Nat, a < s.heap.size → ¬ A a) : ∃ t : Nat, va_Z "SliceWright" "STEP_X" "[I" (.ref t) A s s.heap ∧ va_T .int t 4 (fun j => .int (([1, 0, -1, 0] : List Int32).getD j 0)) A s s.heap := by
  obtain ⟨t, h1, h2⟩ := va_Tof (tm := (Jvm.Term.static "SliceWright" "STEP_X" "[I")) (ty := .int) (N := 4) (f := fun j => .int (([1, 0, -1, 0] : List Int32).getD j 0)) (A := A) (by decide) (hg _ qg_7) (va_eqt (hg _ qg_8)) (fun j hj => by
    rcases (show j = 0 ∨ j = 1 ∨ j = 2 ∨ j = 3 by omega) with rfl | rfl | rfl | rfl
    · exact va_eqt (hg _ qg_9)
    · exact va_eqt (hg _ qg_10)
    · exact va_eqt (hg _ qg_11)
    · exact va_eqt (hg _ qg_12)) hA
  exact ⟨t, va_Zref (ht _ qt9_523) (ht _ qt9_1) h1 hA, h2⟩
set_option maxRecDepth 100000 in
theorem q_st2 {args : Array Value} {s : State} {A : Nat → Prop} (hg : ∀ w ∈ q_gvl, w.before args s = true) (ht : ∀ w ∈ q_tbl9, w.before args s = true) (hA : ∀ a : Nat, a < s.heap.size → ¬ A a) : ∃ t : Nat, va_Z "SliceWright" "STEP_Y" "[I" (.ref t) A s s.heap ∧ va_T .int t 4 (fun j => .int (([0, 1, 0, -1] : List Int32).getD j 0)) A s s.heap := by
  obtain ⟨t, h1, h2⟩ := va_Tof (tm := (Jvm.Term.static "SliceWright" "STEP_Y" "[I")) (ty := .int) (N := 4) (f := fun j => .int (([0, 1, 0, -1] : List Int32).getD j 0)) (A := A) (by decide) (hg _ qg_14) (va_eqt (hg _ qg_15)) (fun j hj => by
    rcases (show j = 0 ∨ j = 1 ∨ j = 2 ∨ j = 3 by omega) with rfl | rfl | rfl | rfl
    · exact va_eqt (hg _ qg_16)
    · exact va_eqt (hg _ qg_17)
    · exact va_eqt (hg _ qg_18)
    · exact va_eqt (hg _ qg_19)) hA
  exact ⟨t, va_Zref (ht _ qt9_525) (ht _ qt9_1) h1 hA, h2⟩
set_option maxRecDepth 100000 in
theorem q_st5 {args : Array Value} {s : State} {A : Nat → Prop} (hg : ∀ w ∈ q_gvl, w.before args s = true) (ht : ∀ w ∈ q_tbl9, w.before args s = true) (hA : ∀ a : Nat, a < s.heap.size → ¬ A a) : ∃ t : Nat, va_Z "SliceWright$Strokes" "KIND_ORDER" "[C" (.ref t) A s s.heap ∧ va_T .char t 5 (fun j => .int (([119, 98, 116, 105, 115] : List Int32).getD j 0)) A s s.heap := by
  obtain ⟨t, h1, h2⟩ := va_Tof (tm := (Jvm.Term.static "SliceWright$Strokes" "KIND_ORDER" "[C")) (ty := .char) (N := 5) (f := fun j => .int (([119, 98, 116, 105, 115] : List Int32).getD j 0)) (A := A) (by decide) (hg _ qg_21) (va_eqt (hg _ qg_22)) (fun j hj => by
    rcases (show j = 0 ∨ j = 1 ∨ j = 2 ∨ j = 3 ∨ j = 4 by omega) with rfl | rfl | rfl | rfl | rfl
    · exact va_eqt (hg _ qg_23)
    · exact va_eqt (hg _ qg_24)
    · exact va_eqt (hg _ qg_25)
    · exact va_eqt (hg _ qg_26)
    · exact va_eqt (hg _ qg_27)) hA
  exact ⟨t, va_Zref (ht _ qt9_601) (ht _ qt9_7) h1 hA, h2⟩
set_option maxRecDepth 100000 in
theorem q_sstr {args : Array Value} {s : State} (hg : ∀ w ∈ q_gvl, w.before args s = true) (ht : ∀ w ∈ q_tbl9, w.before args s = true) : ∀ q ∈ q_strs, ∃ a, vk_R q.1 q.2.1 q.2.2 a s := by
  intro q hq
  simp only [q_strs, List.mem_cons, List.not_mem_nil, or_false] at hq
  rcases hq with rfl | rfl | rfl | rfl | rfl | rfl | rfl | rfl | rfl | rfl | rfl | rfl | rfl | rfl | rfl | rfl
  · exact q_vkR (ht _ qt9_348) (hg _ qg_33)
  · exact q_vkR (ht _ qt9_403) (hg _ qg_69)
  · exact q_vkR (ht _ qt9_416) (hg _ qg_119)
  · exact q_vkR (ht _ qt9_437) (hg _ qg_140)
  · exact q_vkR (ht _ qt9_444) (hg _ qg_160)
  · exact q_vkR (ht _ qt9_486) (hg _ qg_197)
  · exact q_vkR (ht _ qt9_723) (hg _ qg_229)
  · exact q_vkR (ht _ qt9_732) (hg _ qg_254)
  · exact q_vkR (ht _ qt9_751) (hg _ qg_279)
  · exact q_vkR (ht _ qt9_811) (hg _ qg_328)
  · exact q_vkR (ht _ qt9_842) (hg _ qg_353)
  · exact q_vkR (ht _ qt9_847) (hg _ qg_393)
  · exact q_vkR (ht _ qt9_856) (hg _ qg_430)
  · exact q_vkR (ht _ qt9_897) (hg _ qg_489)
  · exact q_vkR (ht _ qt9_979) (hg _ qg_541)
  · exact q_vkR (ht _ qt9_997) (hg _ qg_584)
set_option maxRecDepth 100000 in
theorem q_swb {args : Array Value} {s : State} {A : Nat → Prop} (hg : ∀ w ∈ q_gvl, w.before args s = true) (ht : ∀ w ∈ q_tbl9, w.before args s = true) (hA : ∀ a : Nat, a < s.heap.size → ¬ A a) : ∃ x y : Nat, vk_S 1 [3] [[108, 103, 119]] (fun _ => x) (fun _ => y) A s s.heap ∧ vk_R "SliceWrightLaw" 112 "lgw" x s := by
  obtain ⟨x, y, h1, h2⟩ := vk_Sof (args := args) (s := s) (N := 1) (tm := fun _ => (Jvm.Term.string "SliceWrightLaw" (112 : Nat))) (len := [3]) (byt := [[108, 103, 119]]) (A := A) (fun i hi => by rcases (show i = 0 by omega) with rfl; decide) (fun i hi => hg _ qg_629) (fun i hi => hg _ qg_630) (fun i hi => hg _ qg_631) (fun i hi => by rcases (show i = 0 by omega) with rfl; exact hg _ qg_632) (fun i hi j hj => by
    rcases (show i = 0 by omega) with rfl
    have hj : j < 3 := hj
    rcases (show j = 0 ∨ j = 1 ∨ j = 2 by omega) with rfl | rfl | rfl
    · exact hg _ qg_633
    · exact hg _ qg_634
    · exact hg _ qg_635) (fun i j hi hj hij => absurd (show i = j by omega) hij) hA
  refine ⟨x 0, y 0, ⟨fun i hi => ?_, fun i j hi hj _ => by omega⟩, vk_R.of (ht _ qt9_1042) (h2 0 (by decide))⟩
  rcases (show i = 0 by omega) with rfl
  exact h1.1 0 (by decide)
set_option maxRecDepth 100000 in
theorem q_scs {args : Array Value} {s : State} {A : Nat → Prop} (hg : ∀ w ∈ q_gvl, w.before args s = true) (ht : ∀ w ∈ q_tbl9, w.before args s = true) (hA : ∀ a : Nat, a < s.heap.size → ¬ A a) : va_Z "java/lang/String" "COMPACT_STRINGS" "Z" (.int 1) A s s.heap ∧ va_Zq "jdk/internal/util/Preconditions" "SIOOBE_FORMATTER" "Ljava/util/function/BiFunction;" A s s.heap ∧ vx_Zq Bundle.tN "UNASSIGNED_STACK" Bundle.steD A s s.heap ∧ vx_Zq Bundle.tN "SUPPRESSED_SENTINEL" Bundle.listD A s s.heap :=
  ⟨va_Zof (ht _ qt9_1011) (ht _ qt9_17) (va_eqt (hg _ qg_28)) hA, va_Zqof (ht _ qt9_1019) (ht _ qt9_19) (hg _ qg_29) hA, vx_Zqof (ht _ qt9_333) (ht _ qt9_12) (hg _ qg_4) hA, vx_Zqof (ht _ qt9_335) (ht _ qt9_12) (hg _ qg_5) hA⟩
set_option maxRecDepth 100000 in
theorem q_snm {args : Array Value} {s : State} (hg : ∀ w ∈ q_gvl, w.before args s = true) (ht : ∀ w ∈ q_tbl9, w.before args s = true) : ∀ q ∈ q_NM, va_Nw (.methodLinkNest q.1 q.2.1 q.2.2 "SliceWright") s := by
  intro q hq
  simp only [q_NM, List.mem_cons, List.not_mem_nil, or_false] at hq
  rcases hq with rfl | rfl | rfl | rfl | rfl | rfl | rfl | rfl | rfl | rfl | rfl | rfl | rfl | rfl | rfl
  · exact va_Nw.of rfl (ht _ qt9_383)
  · exact va_Nw.of rfl (ht _ qt9_390)
  · exact va_Nw.of rfl (ht _ qt9_453)
  · exact va_Nw.of rfl (ht _ qt9_501)
  · exact va_Nw.of rfl (ht _ qt9_516)
  · exact va_Nw.of rfl (ht _ qt9_517)
  · exact va_Nw.of rfl (ht _ qt9_542)
  · exact va_Nw.of rfl (ht _ qt9_595)
  · exact va_Nw.of rfl (ht _ qt9_610)
  · exact va_Nw.of rfl (ht _ qt9_639)
  · exact va_Nw.of rfl (ht _ qt9_672)
  · exact va_Nw.of rfl (ht _ qt9_825)
  · exact va_Nw.of rfl (ht _ qt9_826)
  · exact va_Nw.of rfl (ht _ qt9_935)
  · exact va_Nw.of rfl (ht _ qt9_962)
set_option maxRecDepth 100000 in
theorem q_snf {args : Array Value} {s : State} (hg : ∀ w ∈ q_gvl, w.before args s = true) (ht : ∀ w ∈ q_tbl9, w.before args s = true) : ∀ q ∈ q_NF, va_Nw (.fieldLinkNest q.1 q.2.1 q.2.2.1 q.2.2.2.1 q.2.2.2.2 "SliceWright") s := by
  intro q hq
  simp only [q_NF, List.mem_cons, List.not_mem_nil, or_false] at hq
  rcases hq with rfl | rfl | rfl | rfl
  · exact va_Nw.of rfl (ht _ qt9_522)
  · exact va_Nw.of rfl (ht _ qt9_524)
  · exact va_Nw.of rfl (ht _ qt9_580)
  · exact va_Nw.of rfl (ht _ qt9_581)
set_option maxRecDepth 100000 in
theorem q_snc {args : Array Value} {s : State} (hg : ∀ w ∈ q_gvl, w.before args s = true) (ht : ∀ w ∈ q_tbl9, w.before args s = true) : ∀ q ∈ q_NC, va_Nc q.1 q.2 s := by
  intro q hq
  simp only [q_NC, List.mem_cons, List.not_mem_nil, or_false] at hq
  

set_option maxRecDepth 100000 in
theorem q_sex {args : Array Value} {s : State} (hg : ∀ w ∈ q_gvl, w.before args s = true) (ht : ∀ w ∈ q_tbl9, w.before args s = true) : ∀ q ∈ q_EX, q_Ca q q s := by
  intro q hq
  simp only [q_EX, List.mem_cons, List.not_mem_nil, or_false] at hq
  rcases hq with rfl | rfl | rfl | rfl
  · exact q_Ca.of (ht _ qt9_308)
  · exact q_Ca.of (ht _ qt9_430)
  · exact q_Ca.of (ht _ qt9_479)
  · exact q_Ca.of (ht _ qt9_744)
set_option maxRecDepth 100000 in
theorem q_sde {args : Array Value} {s : State} (hg : ∀ w ∈ q_gvl, w.before args s = true) (ht : ∀ w ∈ q_tbl9, w.before args s = true) : ∀ q ∈ q_DE, va_Nw (.declares q) s := by
  intro q hq
  simp only [q_DE, List.mem_cons, List.not_mem_nil, or_false] at hq
  rcases hq with rfl | rfl | rfl
  · exact va_Nw.of rfl (ht _ qt9_310)
  · exact va_Nw.of rfl (ht _ qt9_312)
  · exact va_Nw.of rfl (ht _ qt9_314)
set_option maxRecDepth 100000 in
theorem q_skn {args : Array Value} {s : State} (hg : ∀ w ∈ q_gvl, w.before args s = true) (ht : ∀ w ∈ q_tbl9, w.before args s = true) : ∀ q ∈ q_cl, ∃ d : ClassId × (Nat → Nat), u_Kn s q.1 q.2.1 q.2.2 d.1 d.2 := by
  intro q hq
  simp only [q_cl, vwCl, List.cons_append, List.nil_append, List.mem_cons, List.not_mem_nil, or_false] at hq
  rcases hq with rfl | rfl | rfl | rfl | rfl | rfl | rfl | rfl | rfl | rfl | rfl | rfl | rfl | rfl | rfl | rfl
  · exact q_kn1 ht (fun w hw => by cases hw) (ht _ qt9_307)
  · exact q_kn1 ht (fun w hw => by cases hw) (ht _ qt9_307)
  · exact q_kn1 ht (q_memT _ _ (by decide +kernel : (u_ws RX0 TX0 1).map some = [56].map (fun i => q_tbl9[i]?))) (ht _ qt9_33)
  · exact q_kn1 ht (q_memT _ _ (by decide +kernel : (u_ws RX1 TX1 8).map some = [58, 59, 60, 61, 62, 63, 64, 65].map (fun i => q_tbl9[i]?))) (ht _ qt9_154)
  · exact q_kn1 ht (q_memT _ _ (by decide +kernel : (u_ws RX2 TX2 3).map some = [67, 68, 69].map (fun i => q_tbl9[i]?))) (ht _ qt9_210)
  · exact q_kn1 ht (q_memT _ _ (by decide +kernel : (u_ws RX3 TX3 5).map some = [71, 72, 73, 74, 75].map (fun i => q_tbl9[i]?))) (ht _ qt9_82)
  · exact q_kn1 ht (q_memT _ _ (by decide +kernel : (u_ws RX4 TX4 12).map some = [77, 78, 79, 80, 81, 82, 83, 84, 85, 86, 87, 88].map (fun i => q_tbl9[i]?))) (ht _ qt9_226)
  · exact q_kn1 ht (q_memT _ _ (by decide +kernel : (u_ws RX5 TX5 5).map some = [90, 91, 92, 93, 94].map (fun i => q_tbl9[i]?))) (ht _ qt9_105)
  · exact q_kn1 ht (q_memT _ _ (by decide +kernel : (u_ws RX6 TX6 6).map some = [96, 97, 98, 99, 100, 101].map (fun i => q_tbl9[i]?))) (ht _ qt9_185)
  · exact q_kn1 ht (q_memT _ _ (by decide +kernel : (u_ws RX7 TX7 9).map some = [103, 104, 105, 106, 107, 108, 109, 110, 111].map (fun i => q_tbl9[i]?))) (ht _ qt9_44)
  · exact q_kn1 ht (q_memT _ _ (by decide +kernel : (u_ws RX8 TX8 7).map some = [113, 114, 115, 116, 117, 118, 119].map (fun i => q_tbl9[i]?))) (ht _ qt9_126)
  · exact q_kn1 ht (q_memT _ _ (by decide +kernel : (u_ws RX9 TX9 9).map some = [121, 122, 123, 124, 125, 126, 127, 128, 129].map (fun i => q_tbl9[i]?))) (ht _ qt9_25)
  · exact q_kn1 ht (fun w hw => by cases hw) (ht _ qt9_307)
  · exact q_kn1 ht (fun w hw => by cases hw) (ht _ qt9_429)
  · exact q_kn1 ht (fun w hw => by cases hw) (ht _ qt9_478)
  · exact q_kn1 ht (fun w hw => by cases hw) (ht _ qt9_743)
