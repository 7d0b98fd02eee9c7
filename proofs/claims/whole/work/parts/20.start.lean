/-! what holds at the entry of the law -/
def q_tbl9 : List Cond := [(Jvm.Cond.laysStatic "SliceWright" "STEP_X" "[I"), (Jvm.Cond.initialized "SliceWright"), (Jvm.Cond.laysStatic "SliceWright" "STEP_Y" "[I"), (Jvm.Cond.laysStatic "SliceWright$Outlines" "LEFT_X" "[I"), (Jvm.Cond.initialized "SliceWright$Outlines"), (Jvm.Cond.laysStatic "SliceWright$Outlines" "LEFT_Y" "[I"), (Jvm.Cond.laysStatic "SliceWright$Strokes" "KIND_ORDER" "[C"), (Jvm.Cond.initialized "SliceWright$Strokes"), (Jvm.Cond.stringRef "SliceWright" (88 : Nat) "the box is not within the places"), (Jvm.Cond.stringRef "SliceWright" (104 : Nat) "no such setting, or its value is out of range"), (Jvm.Cond.stringRef "SliceWright" (110 : Nat) "no such pattern"), (Jvm.Cond.stringRef "SliceWright" (120 : Nat) "the thickness is out of range"), (Jvm.Cond.stringRef "SliceWright" (168 : Nat) "the machine is not free"), (Jvm.Cond.stringRef "SliceWright" (187 : Nat) "no such letter"), (Jvm.Cond.stringRef "SliceWright" (195 : Nat) "the command does not have this number"), (Jvm.Cond.stringRef "SliceWright" (209 : Nat) "the target is out of range"), (Jvm.Cond.stringRef "SliceWright" (215 : Nat) "the machine has failed"), (Jvm.Cond.stringRef "SliceWright" (220 : Nat) "the machine is not free, or has no commands"), (Jvm.Cond.stringRef "SliceWright" (225 : Nat) "the number of ticks is out of range"), (Jvm.Cond.stringRef "SliceWright" (230 : Nat) "the machine is not paused"), (Jvm.Cond.stringRef "SliceWright" (241 : Nat) "the machine has not failed"), (Jvm.Cond.stringRef "SliceWright" (252 : Nat) "the machine is not idle, or no print was cut"), (Jvm.Cond.stringRef "SliceWright" (278 : Nat) "there are no solid cells"), (Jvm.Cond.stringRef "SliceWright" (287 : Nat) "there are no strokes"), (Jvm.Cond.stringRef "SliceWright" (295 : Nat) "no such layer"), (Jvm.Cond.stringRef "SliceWright" (302 : Nat) "no such cell"), (Jvm.Cond.stringRef "SliceWright" (307 : Nat) "no such command"), (Jvm.Cond.stringRef "SliceWrightModel" (177 : Nat) "wbtis"), (Jvm.Cond.laysStatic "java/lang/String" "COMPACT_STRINGS" "Z"), (Jvm.Cond.initialized "java/lang/String"), (Jvm.Cond.laysStatic "jdk/internal/util/Preconditions" "SIOOBE_FORMATTER" "Ljava/util/function/BiFunction;"), (Jvm.Cond.initialized "jdk/internal/util/Preconditions"), (Jvm.Cond.laysStatic "java/lang/Throwable" "UNASSIGNED_STACK" "[Ljava/lang/StackTraceElement;"), (Jvm.Cond.initialized "java/lang/Throwable"), (Jvm.Cond.laysStatic "java/lang/Throwable" "SUPPRESSED_SENTINEL" "Ljava/util/List;"), (Jvm.Cond.methodLinkNest "SliceWright$Body" (15 : Nat) ({ cls := "SliceWright", name := "isCell", desc := "(III)Z" } : Jvm.MethodName) "SliceWright"), (Jvm.Cond.methodLinkNest "SliceWright$Body" (19 : Nat) ({ cls := "SliceWright", name := "indexOf", desc := "(III)I" } : Jvm.MethodName) "SliceWright"), (Jvm.Cond.methodLinkNest "SliceWright$Settings" (59 : Nat) ({ cls := "SliceWright", name := "isPlace", desc := "(I)Z" } : Jvm.MethodName) "SliceWright"), (Jvm.Cond.methodLinkNest "SliceWright$Kinds" (43 : Nat) ({ cls := "SliceWright", name := "isPlace", desc := "(I)Z" } : Jvm.MethodName) "SliceWright"), (Jvm.Cond.methodLinkNest "SliceWright$Kinds" (31 : Nat) ({ cls := "SliceWright", name := "isCell", desc := "(III)Z" } : Jvm.MethodName) "SliceWright"), (Jvm.Cond.methodLinkNest "SliceWright$Kinds" (35 : Nat) ({ cls := "SliceWright", name := "indexOf", desc := "(III)I" } : Jvm.MethodName) "SliceWright"), (Jvm.Cond.methodLinkNest "SliceWright$Settings" (66 : Nat) ({ cls := "SliceWright", name := "canBeHalved", desc := "(I)Z" } : Jvm.MethodName) "SliceWright"), (Jvm.Cond.methodLinkNest "SliceWright$Outlines" (41 : Nat) ({ cls := "SliceWright", name := "isCell", desc := "(III)Z" } : Jvm.MethodName) "SliceWright"), (Jvm.Cond.methodLinkNest "SliceWright$Outlines" (50 : Nat) ({ cls := "SliceWright", name := "indexOf", desc := "(III)I" } : Jvm.MethodName) "SliceWright"), (Jvm.Cond.methodLinkNest "SliceWright$Strokes" (51 : Nat) ({ cls := "SliceWright", name := "canBeHalved", desc := "(I)Z" } : Jvm.MethodName) "SliceWright"), (Jvm.Cond.methodLinkNest "SliceWright$Commands" (39 : Nat) ({ cls := "SliceWright", name := "isPlace", desc := "(I)Z" } : Jvm.MethodName) "SliceWright"), (Jvm.Cond.methodLinkNest "SliceWright$Commands" (50 : Nat) ({ cls := "SliceWright", name := "distance", desc := "(IIII)I" } : Jvm.MethodName) "SliceWright"), (Jvm.Cond.methodLinkNest "SliceWright$Planner" (99 : Nat) ({ cls := "SliceWright", name := "distance", desc := "(IIII)I" } : Jvm.MethodName) "SliceWright"), (Jvm.Cond.methodLinkNest "SliceWright$Commands" (85 : Nat) ({ cls := "SliceWright", name := "signOf", desc := "(I)I" } : Jvm.MethodName) "SliceWright"), (Jvm.Cond.methodLinkNest "SliceWright$Machine" (138 : Nat) ({ cls := "SliceWright", name := "signOf", desc := "(I)I" } : Jvm.MethodName) "SliceWright"), (Jvm.Cond.methodLinkNest "SliceWright$Machine" (150 : Nat) ({ cls := "SliceWright", name := "isCell", desc := "(III)Z" } : Jvm.MethodName) "SliceWright"), (Jvm.Cond.methodLinkNest "SliceWright$Machine" (153 : Nat) ({ cls := "SliceWright", name := "indexOf", desc := "(III)I" } : Jvm.MethodName) "SliceWright"), (Jvm.Cond.methodLinkNest "SliceWright$Strokes" (67 : Nat) ({ cls := "SliceWright", name := "distance", desc := "(IIII)I" } : Jvm.MethodName) "SliceWright"), (Jvm.Cond.fieldLinkNest "SliceWright$Kinds" (86 : Nat) "SliceWright" "STEP_X" "[I" "SliceWright"), (Jvm.Cond.fieldLinkNest "SliceWright$Kinds" (89 : Nat) "SliceWright" "STEP_Y" "[I" "SliceWright"), (Jvm.Cond.fieldLinkNest "SliceWright$Body" (29 : Nat) "SliceWright" "STEP_X" "[I" "SliceWright"), (Jvm.Cond.fieldLinkNest "SliceWright$Body" (33 : Nat) "SliceWright" "STEP_Y" "[I" "SliceWright"), (Jvm.Cond.fieldLinkNest "SliceWright$Outlines" (62 : Nat) "SliceWright" "STEP_X" "[I" "SliceWright"), (Jvm.Cond.fieldLinkNest "SliceWright$Outlines" (65 : Nat) "SliceWright" "STEP_Y" "[I" "SliceWright"), (Jvm.Cond.castable "java/lang/IllegalArgumentException" "java/lang/IllegalArgumentException"), (Jvm.Cond.castable "java/lang/IndexOutOfBoundsException" "java/lang/IndexOutOfBoundsException"), (Jvm.Cond.castable "java/lang/IllegalStateException" "java/lang/IllegalStateException"), (Jvm.Cond.castable "java/util/NoSuchElementException" "java/util/NoSuchElementException"), (Jvm.Cond.castable "java/lang/ArithmeticException" "java/lang/ArithmeticException"), (Jvm.Cond.declares ({ cls := "java/lang/RuntimeException", name := "<init>", desc := "(Ljava/lang/String;)V" } : Jvm.MethodName)), (Jvm.Cond.declares ({ cls := "java/lang/Exception", name := "<init>", desc := "(Ljava/lang/String;)V" } : Jvm.MethodName)), (Jvm.Cond.declares ({ cls := "java/lang/Throwable", name := "<init>", desc := "(Ljava/lang/String;)V" } : Jvm.MethodName)), (Jvm.Cond.laysFinal "java/lang/String" "java/lang/String" "value" "[B"), (Jvm.Cond.laysFinal "java/lang/String" "java/lang/String" "coder" "B"), (Jvm.Cond.instantiable "java/lang/String" (4 : Nat)), (Jvm.Cond.lays "java/lang/ArrayIndexOutOfBoundsException" "java/lang/Throwable" "backtrace" "Ljava/lang/Object;"), (Jvm.Cond.lays "java/lang/ArrayIndexOutOfBoundsException" "java/lang/Throwable" "detailMessage" "Ljava/lang/String;"), (Jvm.Cond.lays "java/lang/ArrayIndexOutOfBoundsException" "java/lang/Throwable" "cause" "Ljava/lang/Throwable;"), (Jvm.Cond.lays "java/lang/ArrayIndexOutOfBoundsException" "java/lang/Throwable" "stackTrace" "[Ljava/lang/StackTraceElement;"), (Jvm.Cond.lays "java/lang/ArrayIndexOutOfBoundsException" "java/lang/Throwable" "depth" "I"), (Jvm.Cond.lays "java/lang/ArrayIndexOutOfBoundsException" "java/lang/Throwable" "suppressedExceptions" "Ljava/util/List;"), (Jvm.Cond.instantiable "java/lang/ArrayIndexOutOfBoundsException" (6 : Nat)), (Jvm.Cond.laysFinal "SliceWright$Body" "SliceWright$Body" "solid" "[Z"), (Jvm.Cond.instantiable "SliceWright$Body" (1 : Nat)), (Jvm.Cond.laysFinal "SliceWright$Commands" "SliceWright$Commands" "kind" "[C"), (Jvm.Cond.laysFinal "SliceWright$Commands" "SliceWright$Commands" "headX" "[I"), (Jvm.Cond.laysFinal "SliceWright$Commands" "SliceWright$Commands" "headY" "[I"), (Jvm.Cond.laysFinal "SliceWright$Commands" "SliceWright$Commands" "layer" "[I"), (Jvm.Cond.laysFinal "SliceWright$Commands" "SliceWright$Commands" "amountOfCell" "[I"), (Jvm.Cond.lays "SliceWright$Commands" "SliceWright$Commands" "count" "I"), (Jvm.Cond.lays "SliceWright$Commands" "SliceWright$Commands" "travel" "I"), (Jvm.Cond.lays "SliceWright$Commands" "SliceWright$Commands" "amount" "J"), (Jvm.Cond.instantiable "SliceWright$Commands" (8 : Nat)), (Jvm.Cond.lays "SliceWright$Heat" "SliceWright$Heat" "target" "I"), (Jvm.Cond.lays "SliceWright$Heat" "SliceWright$Heat" "temperature" "I"), (Jvm.Cond.lays "SliceWright$Heat" "SliceWright$Heat" "isOn" "Z"), (Jvm.Cond.instantiable "SliceWright$Heat" (3 : Nat)), (Jvm.Cond.laysFinal "SliceWright$Kinds" "SliceWright$Kinds" "body" "LSliceWright$Body;"), (Jvm.Cond.laysFinal "SliceWright$Kinds" "SliceWright$Kinds" "settings" "LSliceWright$Settings;"), (Jvm.Cond.laysFinal "SliceWright$Kinds" "SliceWright$Kinds" "kind" "[C"), (Jvm.Cond.laysFinal "SliceWright$Kinds" "SliceWright$Kinds" "isKnown" "[Z"), (Jvm.Cond.laysFinal "SliceWright$Kinds" "SliceWright$Kinds" "wall" "[I"), (Jvm.Cond.instantiable "SliceWright$Kinds" (5 : Nat)), (Jvm.Cond.laysFinal "SliceWright$Machine" "SliceWright$Machine" "commands" "LSliceWright$Commands;"), (Jvm.Cond.laysFinal "SliceWright$Machine" "SliceWright$Machine" "heat" "LSliceWright$Heat;"), (Jvm.Cond.lays "SliceWright$Machine" "SliceWright$Machine" "state" "C"), (Jvm.Cond.lays "SliceWright$Machine" "SliceWright$Machine" "stateBeforeFailure" "C"), (Jvm.Cond.lays "SliceWright$Machine" "SliceWright$Machine" "next" "I"), (Jvm.Cond.lays "SliceWright$Machine" "SliceWright$Machine" "gone" "I"), (Jvm.Cond.lays "SliceWright$Machine" "SliceWright$Machine" "speed" "I"), (Jvm.Cond.lays "SliceWright$Machine" "SliceWright$Machine" "kept" "I"), (Jvm.Cond.lays "SliceWright$Machine" "SliceWright$Machine" "wasCut" "Z"), (Jvm.Cond.lays "SliceWright$Machine" "SliceWright$Machine" "time" "J"), (Jvm.Cond.laysFinal "SliceWright$Machine" "SliceWright$Machine" "laid" "[I"), (Jvm.Cond.lays "SliceWright$Machine" "SliceWright$Machine" "laidInAll" "J"), (Jvm.Cond.instantiable "SliceWright$Machine" (12 : Nat)), (Jvm.Cond.laysFinal "SliceWright$Outlines" "SliceWright$Outlines" "body" "LSliceWright$Body;"), (Jvm.Cond.laysFinal "SliceWright$Outlines" "SliceWright$Outlines" "isSeen" "[Z"), (Jvm.Cond.laysFinal "SliceWright$Outlines" "SliceWright$Outlines" "found" "[I"), (Jvm.Cond.lays "SliceWright$Outlines" "SliceWright$Outlines" "foundCount" "I"), (Jvm.Cond.laysFinal "SliceWright$Outlines" "SliceWright$Outlines" "isGone" "[Z"), (Jvm.Cond.instantiable "SliceWright$Outlines" (5 : Nat)), (Jvm.Cond.laysFinal "SliceWright$Planner" "SliceWright$Planner" "settings" "LSliceWright$Settings;"), (Jvm.Cond.laysFinal "SliceWright$Planner" "SliceWright$Planner" "strokes" "LSliceWright$Strokes;"), (Jvm.Cond.laysFinal "SliceWright$Planner" "SliceWright$Planner" "commands" "LSliceWright$Commands;"), (Jvm.Cond.laysFinal "SliceWright$Planner" "SliceWright$Planner" "isDrawn" "[Z"), (Jvm.Cond.lays "SliceWright$Planner" "SliceWright$Planner" "headX" "I"), (Jvm.Cond.lays "SliceWright$Planner" "SliceWright$Planner" "headY" "I"), (Jvm.Cond.instantiable "SliceWright$Planner" (6 : Nat)), (Jvm.Cond.lays "SliceWright$Settings" "SliceWright$Settings" "walls" "I"), (Jvm.Cond.lays "SliceWright$Settings" "SliceWright$Settings" "skins" "I"), (Jvm.Cond.lays "SliceWright$Settings" "SliceWright$Settings" "spread" "I"), (Jvm.Cond.lays "SliceWright$Settings" "SliceWright$Settings" "supports" "I"), (Jvm.Cond.lays "SliceWright$Settings" "SliceWright$Settings" "gap" "I"), (Jvm.Cond.lays "SliceWright$Settings" "SliceWright$Settings" "reach" "I"), (Jvm.Cond.lays "SliceWright$Settings" "SliceWright$Settings" "pattern" "C"), (Jvm.Cond.laysFinal "SliceWright$Settings" "SliceWright$Settings" "thickness" "[I"), (Jvm.Cond.laysFinal "SliceWright$Settings" "SliceWright$Settings" "pause" "[Z"), (Jvm.Cond.instantiable "SliceWright$Settings" (9 : Nat)), (Jvm.Cond.laysFinal "SliceWright$Strokes" "SliceWright$Strokes" "kinds" "LSliceWright$Kinds;"), (Jvm.Cond.laysFinal "SliceWright$Strokes" "SliceWright$Strokes" "kind" "[C"), (Jvm.Cond.laysFinal "SliceWright$Strokes" "SliceWright$Strokes" "firstX" "[I"), (Jvm.Cond.laysFinal "SliceWright$Strokes" "SliceWright$Strokes" "firstY" "[I"), (Jvm.Cond.laysFinal "SliceWright$Strokes" "SliceWright$Strokes" "lastX" "[I"), (Jvm.Cond.laysFinal "SliceWright$Strokes" "SliceWright$Strokes" "lastY" "[I"), (Jvm.Cond.lays "SliceWright$Strokes" "SliceWright$Strokes" "count" "I"), (Jvm.Cond.instantiable "SliceWright$Strokes" (7 : Nat)), (Jvm.Cond.laysFinal "SliceWright" "SliceWright" "body" "LSliceWright$Body;"), (Jvm.Cond.laysFinal "SliceWright" "SliceWright" "settings" "LSliceWright$Settings;"), (Jvm.Cond.laysFinal "SliceWright" "SliceWright" "kinds" "LSliceWright$Kinds;"), (Jvm.Cond.laysFinal "SliceWright" "SliceWright" "outlines" "LSliceWright$Outlines;"), (Jvm.Cond.laysFinal "SliceWright" "SliceWright" "layerStrokes" "LSliceWright$Strokes;"), (Jvm.Cond.laysFinal "SliceWright" "SliceWright" "commandList" "LSliceWright$Commands;"), (Jvm.Cond.laysFinal "SliceWright" "SliceWright" "planner" "LSliceWright$Planner;"), (Jvm.Cond.laysFinal "SliceWright" "SliceWright" "heat" "LSliceWright$Heat;"), (Jvm.Cond.laysFinal "SliceWright" "SliceWright" "machine" "LSliceWright$Machine;"), (Jvm.Cond.instantiable "SliceWright" (9 : Nat)), (Jvm.Cond.lays "SliceWrightModel" "SliceWrightModel" "thrown" "I"), (Jvm.Cond.laysFinal "SliceWrightModel" "SliceWrightModel" "solid" "[Z"), (Jvm.Cond.lays "SliceWrightModel" "SliceWrightModel" "walls" "I"), (Jvm.Cond.lays "SliceWrightModel" "SliceWrightModel" "skins" "I"), (Jvm.Cond.lays "SliceWrightModel" "SliceWrightModel" "spread" "I"), (Jvm.Cond.lays "SliceWrightModel" "SliceWrightModel" "supports" "I"), (Jvm.Cond.lays "SliceWrightModel" "SliceWrightModel" "gap" "I"), (Jvm.Cond.lays "SliceWrightModel" "SliceWrightModel" "reach" "I"), (Jvm.Cond.lays "SliceWrightModel" "SliceWrightModel" "pattern" "C"), (Jvm.Cond.laysFinal "SliceWrightModel" "SliceWrightModel" "thickness" "[I"), (Jvm.Cond.laysFinal "SliceWrightModel" "SliceWrightModel" "pause" "[Z"), (Jvm.Cond.lays "SliceWrightModel" "SliceWrightModel" "commands" "I"), (Jvm.Cond.laysFinal "SliceWrightModel" "SliceWrightModel" "kind" "[C"), (Jvm.Cond.laysFinal "SliceWrightModel" "SliceWrightModel" "toX" "[I"), (Jvm.Cond.laysFinal "SliceWrightModel" "SliceWrightModel" "toY" "[I"), (Jvm.Cond.laysFinal "SliceWrightModel" "SliceWrightModel" "amount" "[I"), (Jvm.Cond.laysFinal "SliceWrightModel" "SliceWrightModel" "layer" "[I"), (Jvm.Cond.laysFinal "SliceWrightModel" "SliceWrightModel" "thick" "[I"), (Jvm.Cond.laysFinal "SliceWrightModel" "SliceWrightModel" "fromX" "[I"), (Jvm.Cond.laysFinal "SliceWrightModel" "SliceWrightModel" "fromY" "[I"), (Jvm.Cond.lays "SliceWrightModel" "SliceWrightModel" "state" "C"), (Jvm.Cond.lays "SliceWrightModel" "SliceWrightModel" "failedIn" "C"), (Jvm.Cond.lays "SliceWrightModel" "SliceWrightModel" "isCut" "Z"), (Jvm.Cond.lays "SliceWrightModel" "SliceWrightModel" "next" "I"), (Jvm.Cond.lays "SliceWrightModel" "SliceWrightModel" "kept" "I"), (Jvm.Cond.lays "SliceWrightModel" "SliceWrightModel" "went" "I"), (Jvm.Cond.lays "SliceWrightModel" "SliceWrightModel" "speed" "I"), (Jvm.Cond.lays "SliceWrightModel" "SliceWrightModel" "target" "I"), (Jvm.Cond.lays "SliceWrightModel" "SliceWrightModel" "temperature" "I"), (Jvm.Cond.lays "SliceWrightModel" "SliceWrightModel" "isHeating" "Z"), (Jvm.Cond.lays "SliceWrightModel" "SliceWrightModel" "time" "J"), (Jvm.Cond.laysFinal "SliceWrightModel" "SliceWrightModel" "laid" "[I"), (Jvm.Cond.laysFinal "SliceWrightModel" "SliceWrightModel" "mark" "[I"), (Jvm.Cond.lays "SliceWrightModel" "SliceWrightModel" "strokes" "I"), (Jvm.Cond.laysFinal "SliceWrightModel" "SliceWrightModel" "strokeKind" "[C"), (Jvm.Cond.laysFinal "SliceWrightModel" "SliceWrightModel" "beginX" "[I"), (Jvm.Cond.laysFinal "SliceWrightModel" "SliceWrightModel" "beginY" "[I"), (Jvm.Cond.laysFinal "SliceWrightModel" "SliceWrightModel" "endX" "[I"), (Jvm.Cond.laysFinal "SliceWrightModel" "SliceWrightModel" "endY" "[I"), (Jvm.Cond.laysFinal "SliceWrightModel" "SliceWrightModel" "kinds" "[C"), (Jvm.Cond.lays "SliceWrightModel" "SliceWrightModel" "headX" "I"), (Jvm.Cond.lays "SliceWrightModel" "SliceWrightModel" "headY" "I"), (Jvm.Cond.laysFinal "SliceWrightModel" "SliceWrightModel" "isDrawn" "[Z"), (Jvm.Cond.instantiable "SliceWrightModel" (43 : Nat)), (Jvm.Cond.instantiable "java/lang/IllegalArgumentException" (6 : Nat)), (Jvm.Cond.instantiable "java/lang/IndexOutOfBoundsException" (6 : Nat)), (Jvm.Cond.instantiable "java/lang/IllegalStateException" (6 : Nat)), (Jvm.Cond.instantiable "java/util/NoSuchElementException" (6 : Nat)), (Jvm.Cond.instantiable "java/lang/ArithmeticException" (6 : Nat))]
theorem q_memT {tbl : List Cond} (ws : List Cond) (ps : List Nat) (h : ws.map some = ps.map (fun i => tbl[i]?)) : ∀ w ∈ ws, w ∈ tbl := by
  intro w hw
  have h1 : some w ∈ ps.map (fun i => tbl[i]?) := by rw [← h]; exact List.mem_map.mpr ⟨w, hw, rfl⟩
  obtain ⟨i, -, hi⟩ := List.mem_map.mp h1
  exact List.mem_of_getElem? hi
set_option maxRecDepth 100000 in
theorem q_tbl9_in : ∀ w ∈ q_tbl9, w ∈ lw_tbl := q_memT _ [700, 67, 702, 848, 72, 850, 885, 73, 511, 569, 585, 637, 925, 1050, 1069, 1108, 1109, 1121, 1134, 1213, 1237, 1253, 1295, 1315, 633, 673, 1037, 1576, 1586, 85, 1602, 88, 494, 79, 496, 546, 553, 646, 678, 693, 694, 719, 794, 796, 894, 950, 969, 1002, 1172, 1199, 1203, 1204, 1314, 699, 701, 757, 758, 808, 809, 469, 626, 918, 1062, 1284, 471, 473, 475, 613, 615, 612, 601, 602, 603, 604, 605, 606, 594, 108, 102, 237, 239, 241, 243, 245, 247, 249, 251, 224, 288, 290, 292, 280, 161, 163, 165, 167, 169, 151, 313, 315, 317, 319, 321, 323, 325, 327, 329, 331, 333, 335, 296, 184, 186, 188, 190, 192, 174, 266, 268, 270, 272, 274, 276, 255, 130, 132, 134, 136, 138, 140, 142, 144, 146, 113, 208, 210, 212, 214, 216, 218, 220, 196, 347, 349, 351, 353, 355, 357, 359, 361, 363, 94, 1365, 1367, 1369, 1371, 1373, 1375, 1377, 1379, 1381, 1383, 1385, 1387, 1389, 1391, 1393, 1395, 1397, 1399, 1401, 1403, 1405, 1407, 1409, 1411, 1413, 1415, 1417, 1419, 1421, 1423, 1425, 1427, 1429, 1431, 1433, 1435, 1437, 1439, 1441, 1443, 1445, 1447, 1449, 1317, 468, 625, 917, 1061, 1273] (by decide +kernel)
theorem qt9_634 : (Jvm.Cond.laysStatic "SliceWright" "STEP_X" "[I") ∈ q_tbl9 := List.mem_of_getElem? (i := 0) rfl
theorem qt9_1 : (Jvm.Cond.initialized "SliceWright") ∈ q_tbl9 := List.mem_of_getElem? (i := 1) rfl
theorem qt9_636 : (Jvm.Cond.laysStatic "SliceWright" "STEP_Y" "[I") ∈ q_tbl9 := List.mem_of_getElem? (i := 2) rfl
theorem qt9_782 : (Jvm.Cond.laysStatic "SliceWright$Outlines" "LEFT_X" "[I") ∈ q_tbl9 := List.mem_of_getElem? (i := 3) rfl
theorem qt9_6 : (Jvm.Cond.initialized "SliceWright$Outlines") ∈ q_tbl9 := List.mem_of_getElem? (i := 4) rfl
theorem qt9_784 : (Jvm.Cond.laysStatic "SliceWright$Outlines" "LEFT_Y" "[I") ∈ q_tbl9 := List.mem_of_getElem? (i := 5) rfl
theorem qt9_819 : (Jvm.Cond.laysStatic "SliceWright$Strokes" "KIND_ORDER" "[C") ∈ q_tbl9 := List.mem_of_getElem? (i := 6) rfl
theorem qt9_7 : (Jvm.Cond.initialized "SliceWright$Strokes") ∈ q_tbl9 := List.mem_of_getElem? (i := 7) rfl
theorem qt9_445 : (Jvm.Cond.stringRef "SliceWright" (88 : Nat) "the box is not within the places") ∈ q_tbl9 := List.mem_of_getElem? (i := 8) rfl
theorem qt9_503 : (Jvm.Cond.stringRef "SliceWright" (104 : Nat) "no such setting, or its value is out of range") ∈ q_tbl9 := List.mem_of_getElem? (i := 9) rfl
theorem qt9_519 : (Jvm.Cond.stringRef "SliceWright" (110 : Nat) "no such pattern") ∈ q_tbl9 := List.mem_of_getElem? (i := 10) rfl
theorem qt9_571 : (Jvm.Cond.stringRef "SliceWright" (120 : Nat) "the thickness is out of range") ∈ q_tbl9 := List.mem_of_getElem? (i := 11) rfl
theorem qt9_859 : (Jvm.Cond.stringRef "SliceWright" (168 : Nat) "the machine is not free") ∈ q_tbl9 := List.mem_of_getElem? (i := 12) rfl
theorem qt9_984 : (Jvm.Cond.stringRef "SliceWright" (187 : Nat) "no such letter") ∈ q_tbl9 := List.mem_of_getElem? (i := 13) rfl
theorem qt9_1003 : (Jvm.Cond.stringRef "SliceWright" (195 : Nat) "the command does not have this number") ∈ q_tbl9 := List.mem_of_getElem? (i := 14) rfl
theorem qt9_1042 : (Jvm.Cond.stringRef "SliceWright" (209 : Nat) "the target is out of range") ∈ q_tbl9 := List.mem_of_getElem? (i := 15) rfl
theorem qt9_1043 : (Jvm.Cond.stringRef "SliceWright" (215 : Nat) "the machine has failed") ∈ q_tbl9 := List.mem_of_getElem? (i := 16) rfl
theorem qt9_1055 : (Jvm.Cond.stringRef "SliceWright" (220 : Nat) "the machine is not free, or has no commands") ∈ q_tbl9 := List.mem_of_getElem? (i := 17) rfl
theorem qt9_1068 : (Jvm.Cond.stringRef "SliceWright" (225 : Nat) "the number of ticks is out of range") ∈ q_tbl9 := List.mem_of_getElem? (i := 18) rfl
theorem qt9_1147 : (Jvm.Cond.stringRef "SliceWright" (230 : Nat) "the machine is not paused") ∈ q_tbl9 := List.mem_of_getElem? (i := 19) rfl
theorem qt9_1171 : (Jvm.Cond.stringRef "SliceWright" (241 : Nat) "the machine has not failed") ∈ q_tbl9 := List.mem_of_getElem? (i := 20) rfl
theorem qt9_1187 : (Jvm.Cond.stringRef "SliceWright" (252 : Nat) "the machine is not idle, or no print was cut") ∈ q_tbl9 := List.mem_of_getElem? (i := 21) rfl
theorem qt9_1229 : (Jvm.Cond.stringRef "SliceWright" (278 : Nat) "there are no solid cells") ∈ q_tbl9 := List.mem_of_getElem? (i := 22) rfl
theorem qt9_1249 : (Jvm.Cond.stringRef "SliceWright" (287 : Nat) "there are no strokes") ∈ q_tbl9 := List.mem_of_getElem? (i := 23) rfl
theorem qt9_567 : (Jvm.Cond.stringRef "SliceWright" (295 : Nat) "no such layer") ∈ q_tbl9 := List.mem_of_getElem? (i := 24) rfl
theorem qt9_607 : (Jvm.Cond.stringRef "SliceWright" (302 : Nat) "no such cell") ∈ q_tbl9 := List.mem_of_getElem? (i := 25) rfl
theorem qt9_971 : (Jvm.Cond.stringRef "SliceWright" (307 : Nat) "no such command") ∈ q_tbl9 := List.mem_of_getElem? (i := 26) rfl
theorem qt9_1510 : (Jvm.Cond.stringRef "SliceWrightModel" (177 : Nat) "wbtis") ∈ q_tbl9 := List.mem_of_getElem? (i := 27) rfl
theorem qt9_1520 : (Jvm.Cond.laysStatic "java/lang/String" "COMPACT_STRINGS" "Z") ∈ q_tbl9 := List.mem_of_getElem? (i := 28) rfl
theorem qt9_19 : (Jvm.Cond.initialized "java/lang/String") ∈ q_tbl9 := List.mem_of_getElem? (i := 29) rfl
theorem qt9_1536 : (Jvm.Cond.laysStatic "jdk/internal/util/Preconditions" "SIOOBE_FORMATTER" "Ljava/util/function/BiFunction;") ∈ q_tbl9 := List.mem_of_getElem? (i := 30) rfl
theorem qt9_22 : (Jvm.Cond.initialized "jdk/internal/util/Preconditions") ∈ q_tbl9 := List.mem_of_getElem? (i := 31) rfl
theorem qt9_428 : (Jvm.Cond.laysStatic "java/lang/Throwable" "UNASSIGNED_STACK" "[Ljava/lang/StackTraceElement;") ∈ q_tbl9 := List.mem_of_getElem? (i := 32) rfl
theorem qt9_13 : (Jvm.Cond.initialized "java/lang/Throwable") ∈ q_tbl9 := List.mem_of_getElem? (i := 33) rfl
theorem qt9_430 : (Jvm.Cond.laysStatic "java/lang/Throwable" "SUPPRESSED_SENTINEL" "Ljava/util/List;") ∈ q_tbl9 := List.mem_of_getElem? (i := 34) rfl
theorem qt9_480 : (Jvm.Cond.methodLinkNest "SliceWright$Body" (15 : Nat) ({ cls := "SliceWright", name := "isCell", desc := "(III)Z" } : Jvm.MethodName) "SliceWright") ∈ q_tbl9 := List.mem_of_getElem? (i := 35) rfl
theorem qt9_487 : (Jvm.Cond.methodLinkNest "SliceWright$Body" (19 : Nat) ({ cls := "SliceWright", name := "indexOf", desc := "(III)I" } : Jvm.MethodName) "SliceWright") ∈ q_tbl9 := List.mem_of_getElem? (i := 36) rfl
theorem qt9_580 : (Jvm.Cond.methodLinkNest "SliceWright$Settings" (59 : Nat) ({ cls := "SliceWright", name := "isPlace", desc := "(I)Z" } : Jvm.MethodName) "SliceWright") ∈ q_tbl9 := List.mem_of_getElem? (i := 37) rfl
theorem qt9_612 : (Jvm.Cond.methodLinkNest "SliceWright$Kinds" (43 : Nat) ({ cls := "SliceWright", name := "isPlace", desc := "(I)Z" } : Jvm.MethodName) "SliceWright") ∈ q_tbl9 := List.mem_of_getElem? (i := 38) rfl
theorem qt9_627 : (Jvm.Cond.methodLinkNest "SliceWright$Kinds" (31 : Nat) ({ cls := "SliceWright", name := "isCell", desc := "(III)Z" } : Jvm.MethodName) "SliceWright") ∈ q_tbl9 := List.mem_of_getElem? (i := 39) rfl
theorem qt9_628 : (Jvm.Cond.methodLinkNest "SliceWright$Kinds" (35 : Nat) ({ cls := "SliceWright", name := "indexOf", desc := "(III)I" } : Jvm.MethodName) "SliceWright") ∈ q_tbl9 := List.mem_of_getElem? (i := 40) rfl
theorem qt9_653 : (Jvm.Cond.methodLinkNest "SliceWright$Settings" (66 : Nat) ({ cls := "SliceWright", name := "canBeHalved", desc := "(I)Z" } : Jvm.MethodName) "SliceWright") ∈ q_tbl9 := List.mem_of_getElem? (i := 41) rfl
theorem qt9_728 : (Jvm.Cond.methodLinkNest "SliceWright$Outlines" (41 : Nat) ({ cls := "SliceWright", name := "isCell", desc := "(III)Z" } : Jvm.MethodName) "SliceWright") ∈ q_tbl9 := List.mem_of_getElem? (i := 42) rfl
theorem qt9_730 : (Jvm.Cond.methodLinkNest "SliceWright$Outlines" (50 : Nat) ({ cls := "SliceWright", name := "indexOf", desc := "(III)I" } : Jvm.MethodName) "SliceWright") ∈ q_tbl9 := List.mem_of_getElem? (i := 43) rfl
theorem qt9_828 : (Jvm.Cond.methodLinkNest "SliceWright$Strokes" (51 : Nat) ({ cls := "SliceWright", name := "canBeHalved", desc := "(I)Z" } : Jvm.MethodName) "SliceWright") ∈ q_tbl9 := List.mem_of_getElem? (i := 44) rfl
theorem qt9_884 : (Jvm.Cond.methodLinkNest "SliceWright$Commands" (39 : Nat) ({ cls := "SliceWright", name := "isPlace", desc := "(I)Z" } : Jvm.MethodName) "SliceWright") ∈ q_tbl9 := List.mem_of_getElem? (i := 45) rfl
theorem qt9_903 : (Jvm.Cond.methodLinkNest "SliceWright$Commands" (50 : Nat) ({ cls := "SliceWright", name := "distance", desc := "(IIII)I" } : Jvm.MethodName) "SliceWright") ∈ q_tbl9 := List.mem_of_getElem? (i := 46) rfl
theorem qt9_936 : (Jvm.Cond.methodLinkNest "SliceWright$Planner" (99 : Nat) ({ cls := "SliceWright", name := "distance", desc := "(IIII)I" } : Jvm.MethodName) "SliceWright") ∈ q_tbl9 := List.mem_of_getElem? (i := 47) rfl
theorem qt9_1106 : (Jvm.Cond.methodLinkNest "SliceWright$Commands" (85 : Nat) ({ cls := "SliceWright", name := "signOf", desc := "(I)I" } : Jvm.MethodName) "SliceWright") ∈ q_tbl9 := List.mem_of_getElem? (i := 48) rfl
theorem qt9_1133 : (Jvm.Cond.methodLinkNest "SliceWright$Machine" (138 : Nat) ({ cls := "SliceWright", name := "signOf", desc := "(I)I" } : Jvm.MethodName) "SliceWright") ∈ q_tbl9 := List.mem_of_getElem? (i := 49) rfl
theorem qt9_1137 : (Jvm.Cond.methodLinkNest "SliceWright$Machine" (150 : Nat) ({ cls := "SliceWright", name := "isCell", desc := "(III)Z" } : Jvm.MethodName) "SliceWright") ∈ q_tbl9 := List.mem_of_getElem? (i := 50) rfl
theorem qt9_1138 : (Jvm.Cond.methodLinkNest "SliceWright$Machine" (153 : Nat) ({ cls := "SliceWright", name := "indexOf", desc := "(III)I" } : Jvm.MethodName) "SliceWright") ∈ q_tbl9 := List.mem_of_getElem? (i := 51) rfl
theorem qt9_1248 : (Jvm.Cond.methodLinkNest "SliceWright$Strokes" (67 : Nat) ({ cls := "SliceWright", name := "distance", desc := "(IIII)I" } : Jvm.MethodName) "SliceWright") ∈ q_tbl9 := List.mem_of_getElem? (i := 52) rfl
theorem qt9_633 : (Jvm.Cond.fieldLinkNest "SliceWright$Kinds" (86 : Nat) "SliceWright" "STEP_X" "[I" "SliceWright") ∈ q_tbl9 := List.mem_of_getElem? (i := 53) rfl
theorem qt9_635 : (Jvm.Cond.fieldLinkNest "SliceWright$Kinds" (89 : Nat) "SliceWright" "STEP_Y" "[I" "SliceWright") ∈ q_tbl9 := List.mem_of_getElem? (i := 54) rfl
theorem qt9_691 : (Jvm.Cond.fieldLinkNest "SliceWright$Body" (29 : Nat) "SliceWright" "STEP_X" "[I" "SliceWright") ∈ q_tbl9 := List.mem_of_getElem? (i := 55) rfl
theorem qt9_692 : (Jvm.Cond.fieldLinkNest "SliceWright$Body" (33 : Nat) "SliceWright" "STEP_Y" "[I" "SliceWright") ∈ q_tbl9 := List.mem_of_getElem? (i := 56) rfl
theorem qt9_742 : (Jvm.Cond.fieldLinkNest "SliceWright$Outlines" (62 : Nat) "SliceWright" "STEP_X" "[I" "SliceWright") ∈ q_tbl9 := List.mem_of_getElem? (i := 57) rfl
theorem qt9_743 : (Jvm.Cond.fieldLinkNest "SliceWright$Outlines" (65 : Nat) "SliceWright" "STEP_Y" "[I" "SliceWright") ∈ q_tbl9 := List.mem_of_getElem? (i := 58) rfl
theorem qt9_403 : (Jvm.Cond.castable "java/lang/IllegalArgumentException" "java/lang/IllegalArgumentException") ∈ q_tbl9 := List.mem_of_getElem? (i := 59) rfl
theorem qt9_560 : (Jvm.Cond.castable "java/lang/IndexOutOfBoundsException" "java/lang/IndexOutOfBoundsException") ∈ q_tbl9 := List.mem_of_getElem? (i := 60) rfl
theorem qt9_852 : (Jvm.Cond.castable "java/lang/IllegalStateException" "java/lang/IllegalStateException") ∈ q_tbl9 := List.mem_of_getElem? (i := 61) rfl
theorem qt9_996 : (Jvm.Cond.castable "java/util/NoSuchElementException" "java/util/NoSuchElementException") ∈ q_tbl9 := List.mem_of_getElem? (i := 62) rfl
theorem qt9_1218 : (Jvm.Cond.castable "java/lang/ArithmeticException" "java/lang/ArithmeticException") ∈ q_tbl9 := List.mem_of_getElem? (i := 63) rfl
theorem qt9_405 : (Jvm.Cond.declares ({ cls := "java/lang/RuntimeException", name := "<init>", desc := "(Ljava/lang/String;)V" } : Jvm.MethodName)) ∈ q_tbl9 := List.mem_of_getElem? (i := 64) rfl
theorem qt9_407 : (Jvm.Cond.declares ({ cls := "java/lang/Exception", name := "<init>", desc := "(Ljava/lang/String;)V" } : Jvm.MethodName)) ∈ q_tbl9 := List.mem_of_getElem? (i := 65) rfl
theorem qt9_409 : (Jvm.Cond.declares ({ cls := "java/lang/Throwable", name := "<init>", desc := "(Ljava/lang/String;)V" } : Jvm.MethodName)) ∈ q_tbl9 := List.mem_of_getElem? (i := 66) rfl
theorem qt9_547 : (Jvm.Cond.laysFinal "java/lang/String" "java/lang/String" "value" "[B") ∈ q_tbl9 := List.mem_of_getElem? (i := 67) rfl
theorem qt9_549 : (Jvm.Cond.laysFinal "java/lang/String" "java/lang/String" "coder" "B") ∈ q_tbl9 := List.mem_of_getElem? (i := 68) rfl
theorem qt9_546 : (Jvm.Cond.instantiable "java/lang/String" (4 : Nat)) ∈ q_tbl9 := List.mem_of_getElem? (i := 69) rfl
theorem qt9_535 : (Jvm.Cond.lays "java/lang/ArrayIndexOutOfBoundsException" "java/lang/Throwable" "backtrace" "Ljava/lang/Object;") ∈ q_tbl9 := List.mem_of_getElem? (i := 70) rfl
theorem qt9_536 : (Jvm.Cond.lays "java/lang/ArrayIndexOutOfBoundsException" "java/lang/Throwable" "detailMessage" "Ljava/lang/String;") ∈ q_tbl9 := List.mem_of_getElem? (i := 71) rfl
theorem qt9_537 : (Jvm.Cond.lays "java/lang/ArrayIndexOutOfBoundsException" "java/lang/Throwable" "cause" "Ljava/lang/Throwable;") ∈ q_tbl9 := List.mem_of_getElem? (i := 72) rfl
theorem qt9_538 : (Jvm.Cond.lays "java/lang/ArrayIndexOutOfBoundsException" "java/lang/Throwable" "stackTrace" "[Ljava/lang/StackTraceElement;") ∈ q_tbl9 := List.mem_of_getElem? (i := 73) rfl
theorem qt9_539 : (Jvm.Cond.lays "java/lang/ArrayIndexOutOfBoundsException" "java/lang/Throwable" "depth" "I") ∈ q_tbl9 := List.mem_of_getElem? (i := 74) rfl
theorem qt9_540 : (Jvm.Cond.lays "java/lang/ArrayIndexOutOfBoundsException" "java/lang/Throwable" "suppressedExceptions" "Ljava/util/List;") ∈ q_tbl9 := List.mem_of_getElem? (i := 75) rfl
theorem qt9_528 : (Jvm.Cond.instantiable "java/lang/ArrayIndexOutOfBoundsException" (6 : Nat)) ∈ q_tbl9 := List.mem_of_getElem? (i := 76) rfl
theorem qt9_42 : (Jvm.Cond.laysFinal "SliceWright$Body" "SliceWright$Body" "solid" "[Z") ∈ q_tbl9 := List.mem_of_getElem? (i := 77) rfl
theorem qt9_36 : (Jvm.Cond.instantiable "SliceWright$Body" (1 : Nat)) ∈ q_tbl9 := List.mem_of_getElem? (i := 78) rfl
theorem qt9_171 : (Jvm.Cond.laysFinal "SliceWright$Commands" "SliceWright$Commands" "kind" "[C") ∈ q_tbl9 := List.mem_of_getElem? (i := 79) rfl
theorem qt9_173 : (Jvm.Cond.laysFinal "SliceWright$Commands" "SliceWright$Commands" "headX" "[I") ∈ q_tbl9 := List.mem_of_getElem? (i := 80) rfl
theorem qt9_175 : (Jvm.Cond.laysFinal "SliceWright$Commands" "SliceWright$Commands" "headY" "[I") ∈ q_tbl9 := List.mem_of_getElem? (i := 81) rfl
theorem qt9_177 : (Jvm.Cond.laysFinal "SliceWright$Commands" "SliceWright$Commands" "layer" "[I") ∈ q_tbl9 := List.mem_of_getElem? (i := 82) rfl
theorem qt9_179 : (Jvm.Cond.laysFinal "SliceWright$Commands" "SliceWright$Commands" "amountOfCell" "[I") ∈ q_tbl9 := List.mem_of_getElem? (i := 83) rfl
theorem qt9_181 : (Jvm.Cond.lays "SliceWright$Commands" "SliceWright$Commands" "count" "I") ∈ q_tbl9 := List.mem_of_getElem? (i := 84) rfl
theorem qt9_183 : (Jvm.Cond.lays "SliceWright$Commands" "SliceWright$Commands" "travel" "I") ∈ q_tbl9 := List.mem_of_getElem? (i := 85) rfl
theorem qt9_185 : (Jvm.Cond.lays "SliceWright$Commands" "SliceWright$Commands" "amount" "J") ∈ q_tbl9 := List.mem_of_getElem? (i := 86) rfl
theorem qt9_158 : (Jvm.Cond.instantiable "SliceWright$Commands" (8 : Nat)) ∈ q_tbl9 := List.mem_of_getElem? (i := 87) rfl
theorem qt9_222 : (Jvm.Cond.lays "SliceWright$Heat" "SliceWright$Heat" "target" "I") ∈ q_tbl9 := List.mem_of_getElem? (i := 88) rfl
theorem qt9_224 : (Jvm.Cond.lays "SliceWright$Heat" "SliceWright$Heat" "temperature" "I") ∈ q_tbl9 := List.mem_of_getElem? (i := 89) rfl
theorem qt9_226 : (Jvm.Cond.lays "SliceWright$Heat" "SliceWright$Heat" "isOn" "Z") ∈ q_tbl9 := List.mem_of_getElem? (i := 90) rfl
theorem qt9_214 : (Jvm.Cond.instantiable "SliceWright$Heat" (3 : Nat)) ∈ q_tbl9 := List.mem_of_getElem? (i := 91) rfl
theorem qt9_95 : (Jvm.Cond.laysFinal "SliceWright$Kinds" "SliceWright$Kinds" "body" "LSliceWright$Body;") ∈ q_tbl9 := List.mem_of_getElem? (i := 92) rfl
theorem qt9_97 : (Jvm.Cond.laysFinal "SliceWright$Kinds" "SliceWright$Kinds" "settings" "LSliceWright$Settings;") ∈ q_tbl9 := List.mem_of_getElem? (i := 93) rfl
theorem qt9_99 : (Jvm.Cond.laysFinal "SliceWright$Kinds" "SliceWright$Kinds" "kind" "[C") ∈ q_tbl9 := List.mem_of_getElem? (i := 94) rfl
theorem qt9_101 : (Jvm.Cond.laysFinal "SliceWright$Kinds" "SliceWright$Kinds" "isKnown" "[Z") ∈ q_tbl9 := List.mem_of_getElem? (i := 95) rfl
theorem qt9_103 : (Jvm.Cond.laysFinal "SliceWright$Kinds" "SliceWright$Kinds" "wall" "[I") ∈ q_tbl9 := List.mem_of_getElem? (i := 96) rfl
theorem qt9_85 : (Jvm.Cond.instantiable "SliceWright$Kinds" (5 : Nat)) ∈ q_tbl9 := List.mem_of_getElem? (i := 97) rfl
theorem qt9_247 : (Jvm.Cond.laysFinal "SliceWright$Machine" "SliceWright$Machine" "commands" "LSliceWright$Commands;") ∈ q_tbl9 := List.mem_of_getElem? (i := 98) rfl
theorem qt9_249 : (Jvm.Cond.laysFinal "SliceWright$Machine" "SliceWright$Machine" "heat" "LSliceWright$Heat;") ∈ q_tbl9 := List.mem_of_getElem? (i := 99) rfl
theorem qt9_251 : (Jvm.Cond.lays "SliceWright$Machine" "SliceWright$Machine" "state" "C") ∈ q_tbl9 := List.mem_of_getElem? (i := 100) rfl
theorem qt9_253 : (Jvm.Cond.lays "SliceWright$Machine" "SliceWright$Machine" "stateBeforeFailure" "C") ∈ q_tbl9 := List.mem_of_getElem? (i := 101) rfl
theorem qt9_255 : (Jvm.Cond.lays "SliceWright$Machine" "SliceWright$Machine" "next" "I") ∈ q_tbl9 := List.mem_of_getElem? (i := 102) rfl
theorem qt9_257 : (Jvm.Cond.lays "SliceWright$Machine" "SliceWright$Machine" "gone" "I") ∈ q_tbl9 := List.mem_of_getElem? (i := 103) rfl
theorem qt9_259 : (Jvm.Cond.lays "SliceWright$Machine" "SliceWright$Machine" "speed" "I") ∈ q_tbl9 := List.mem_of_getElem? (i := 104) rfl
theorem qt9_261 : (Jvm.Cond.lays "SliceWright$Machine" "SliceWright$Machine" "kept" "I") ∈ q_tbl9 := List.mem_of_getElem? (i := 105) rfl
theorem qt9_263 : (Jvm.Cond.lays "SliceWright$Machine" "SliceWright$Machine" "wasCut" "Z") ∈ q_tbl9 := List.mem_of_getElem? (i := 106) rfl
theorem qt9_265 : (Jvm.Cond.lays "SliceWright$Machine" "SliceWright$Machine" "time" "J") ∈ q_tbl9 := List.mem_of_getElem? (i := 107) rfl
theorem qt9_267 : (Jvm.Cond.laysFinal "SliceWright$Machine" "SliceWright$Machine" "laid" "[I") ∈ q_tbl9 := List.mem_of_getElem? (i := 108) rfl
theorem qt9_269 : (Jvm.Cond.lays "SliceWright$Machine" "SliceWright$Machine" "laidInAll" "J") ∈ q_tbl9 := List.mem_of_getElem? (i := 109) rfl
theorem qt9_230 : (Jvm.Cond.instantiable "SliceWright$Machine" (12 : Nat)) ∈ q_tbl9 := List.mem_of_getElem? (i := 110) rfl
theorem qt9_118 : (Jvm.Cond.laysFinal "SliceWright$Outlines" "SliceWright$Outlines" "body" "LSliceWright$Body;") ∈ q_tbl9 := List.mem_of_getElem? (i := 111) rfl
theorem qt9_120 : (Jvm.Cond.laysFinal "SliceWright$Outlines" "SliceWright$Outlines" "isSeen" "[Z") ∈ q_tbl9 := List.mem_of_getElem? (i := 112) rfl
theorem qt9_122 : (Jvm.Cond.laysFinal "SliceWright$Outlines" "SliceWright$Outlines" "found" "[I") ∈ q_tbl9 := List.mem_of_getElem? (i := 113) rfl
theorem qt9_124 : (Jvm.Cond.lays "SliceWright$Outlines" "SliceWright$Outlines" "foundCount" "I") ∈ q_tbl9 := List.mem_of_getElem? (i := 114) rfl
theorem qt9_126 : (Jvm.Cond.laysFinal "SliceWright$Outlines" "SliceWright$Outlines" "isGone" "[Z") ∈ q_tbl9 := List.mem_of_getElem? (i := 115) rfl
theorem qt9_108 : (Jvm.Cond.instantiable "SliceWright$Outlines" (5 : Nat)) ∈ q_tbl9 := List.mem_of_getElem? (i := 116) rfl
theorem qt9_200 : (Jvm.Cond.laysFinal "SliceWright$Planner" "SliceWright$Planner" "settings" "LSliceWright$Settings;") ∈ q_tbl9 := List.mem_of_getElem? (i := 117) rfl
theorem qt9_202 : (Jvm.Cond.laysFinal "SliceWright$Planner" "SliceWright$Planner" "strokes" "LSliceWright$Strokes;") ∈ q_tbl9 := List.mem_of_getElem? (i := 118) rfl
theorem qt9_204 : (Jvm.Cond.laysFinal "SliceWright$Planner" "SliceWright$Planner" "commands" "LSliceWright$Commands;") ∈ q_tbl9 := List.mem_of_getElem? (i := 119) rfl
theorem qt9_206 : (Jvm.Cond.laysFinal "SliceWright$Planner" "SliceWright$Planner" "isDrawn" "[Z") ∈ q_tbl9 := List.mem_of_getElem? (i := 120) rfl
theorem qt9_208 : (Jvm.Cond.lays "SliceWright$Planner" "SliceWright$Planner" "headX" "I") ∈ q_tbl9 := List.mem_of_getElem? (i := 121) rfl
theorem qt9_210 : (Jvm.Cond.lays "SliceWright$Planner" "SliceWright$Planner" "headY" "I") ∈ q_tbl9 := List.mem_of_getElem? (i := 122) rfl
theorem qt9_189 : (Jvm.Cond.instantiable "SliceWright$Planner" (6 : Nat)) ∈ q_tbl9 := List.mem_of_getElem? (i := 123) rfl
theorem qt9_64 : (Jvm.Cond.lays "SliceWright$Settings" "SliceWright$Settings" "walls" "I") ∈ q_tbl9 := List.mem_of_getElem? (i := 124) rfl
theorem qt9_66 : (Jvm.Cond.lays "SliceWright$Settings" "SliceWright$Settings" "skins" "I") ∈ q_tbl9 := List.mem_of_getElem? (i := 125) rfl
theorem qt9_68 : (Jvm.Cond.lays "SliceWright$Settings" "SliceWright$Settings" "spread" "I") ∈ q_tbl9 := List.mem_of_getElem? (i := 126) rfl
theorem qt9_70 : (Jvm.Cond.lays "SliceWright$Settings" "SliceWright$Settings" "supports" "I") ∈ q_tbl9 := List.mem_of_getElem? (i := 127) rfl
theorem qt9_72 : (Jvm.Cond.lays "SliceWright$Settings" "SliceWright$Settings" "gap" "I") ∈ q_tbl9 := List.mem_of_getElem? (i := 128) rfl
theorem qt9_74 : (Jvm.Cond.lays "SliceWright$Settings" "SliceWright$Settings" "reach" "I") ∈ q_tbl9 := List.mem_of_getElem? (i := 129) rfl
theorem qt9_76 : (Jvm.Cond.lays "SliceWright$Settings" "SliceWright$Settings" "pattern" "C") ∈ q_tbl9 := List.mem_of_getElem? (i := 130) rfl
theorem qt9_78 : (Jvm.Cond.laysFinal "SliceWright$Settings" "SliceWright$Settings" "thickness" "[I") ∈ q_tbl9 := List.mem_of_getElem? (i := 131) rfl
theorem qt9_80 : (Jvm.Cond.laysFinal "SliceWright$Settings" "SliceWright$Settings" "pause" "[Z") ∈ q_tbl9 := List.mem_of_getElem? (i := 132) rfl
theorem qt9_47 : (Jvm.Cond.instantiable "SliceWright$Settings" (9 : Nat)) ∈ q_tbl9 := List.mem_of_getElem? (i := 133) rfl
theorem qt9_142 : (Jvm.Cond.laysFinal "SliceWright$Strokes" "SliceWright$Strokes" "kinds" "LSliceWright$Kinds;") ∈ q_tbl9 := List.mem_of_getElem? (i := 134) rfl
theorem qt9_144 : (Jvm.Cond.laysFinal "SliceWright$Strokes" "SliceWright$Strokes" "kind" "[C") ∈ q_tbl9 := List.mem_of_getElem? (i := 135) rfl
theorem qt9_146 : (Jvm.Cond.laysFinal "SliceWright$Strokes" "SliceWright$Strokes" "firstX" "[I") ∈ q_tbl9 := List.mem_of_getElem? (i := 136) rfl
theorem qt9_148 : (Jvm.Cond.laysFinal "SliceWright$Strokes" "SliceWright$Strokes" "firstY" "[I") ∈ q_tbl9 := List.mem_of_getElem? (i := 137) rfl
theorem qt9_150 : (Jvm.Cond.laysFinal "SliceWright$Strokes" "SliceWright$Strokes" "lastX" "[I") ∈ q_tbl9 := List.mem_of_getElem? (i := 138) rfl
theorem qt9_152 : (Jvm.Cond.laysFinal "SliceWright$Strokes" "SliceWright$Strokes" "lastY" "[I") ∈ q_tbl9 := List.mem_of_getElem? (i := 139) rfl
theorem qt9_154 : (Jvm.Cond.lays "SliceWright$Strokes" "SliceWright$Strokes" "count" "I") ∈ q_tbl9 := List.mem_of_getElem? (i := 140) rfl
theorem qt9_130 : (Jvm.Cond.instantiable "SliceWright$Strokes" (7 : Nat)) ∈ q_tbl9 := List.mem_of_getElem? (i := 141) rfl
theorem qt9_281 : (Jvm.Cond.laysFinal "SliceWright" "SliceWright" "body" "LSliceWright$Body;") ∈ q_tbl9 := List.mem_of_getElem? (i := 142) rfl
theorem qt9_283 : (Jvm.Cond.laysFinal "SliceWright" "SliceWright" "settings" "LSliceWright$Settings;") ∈ q_tbl9 := List.mem_of_getElem? (i := 143) rfl
theorem qt9_285 : (Jvm.Cond.laysFinal "SliceWright" "SliceWright" "kinds" "LSliceWright$Kinds;") ∈ q_tbl9 := List.mem_of_getElem? (i := 144) rfl
theorem qt9_287 : (Jvm.Cond.laysFinal "SliceWright" "SliceWright" "outlines" "LSliceWright$Outlines;") ∈ q_tbl9 := List.mem_of_getElem? (i := 145) rfl
theorem qt9_289 : (Jvm.Cond.laysFinal "SliceWright" "SliceWright" "layerStrokes" "LSliceWright$Strokes;") ∈ q_tbl9 := List.mem_of_getElem? (i := 146) rfl
theorem qt9_291 : (Jvm.Cond.laysFinal "SliceWright" "SliceWright" "commandList" "LSliceWright$Commands;") ∈ q_tbl9 := List.mem_of_getElem? (i := 147) rfl
theorem qt9_293 : (Jvm.Cond.laysFinal "SliceWright" "SliceWright" "planner" "LSliceWright$Planner;") ∈ q_tbl9 := List.mem_of_getElem? (i := 148) rfl
theorem qt9_295 : (Jvm.Cond.laysFinal "SliceWright" "SliceWright" "heat" "LSliceWright$Heat;") ∈ q_tbl9 := List.mem_of_getElem? (i := 149) rfl
theorem qt9_297 : (Jvm.Cond.laysFinal "SliceWright" "SliceWright" "machine" "LSliceWright$Machine;") ∈ q_tbl9 := List.mem_of_getElem? (i := 150) rfl
theorem qt9_28 : (Jvm.Cond.instantiable "SliceWright" (9 : Nat)) ∈ q_tbl9 := List.mem_of_getElem? (i := 151) rfl
theorem qt9_1299 : (Jvm.Cond.lays "SliceWrightModel" "SliceWrightModel" "thrown" "I") ∈ q_tbl9 := List.mem_of_getElem? (i := 152) rfl
theorem qt9_1301 : (Jvm.Cond.laysFinal "SliceWrightModel" "SliceWrightModel" "solid" "[Z") ∈ q_tbl9 := List.mem_of_getElem? (i := 153) rfl
theorem qt9_1303 : (Jvm.Cond.lays "SliceWrightModel" "SliceWrightModel" "walls" "I") ∈ q_tbl9 := List.mem_of_getElem? (i := 154) rfl
theorem qt9_1305 : (Jvm.Cond.lays "SliceWrightModel" "SliceWrightModel" "skins" "I") ∈ q_tbl9 := List.mem_of_getElem? (i := 155) rfl
theorem qt9_1307 : (Jvm.Cond.lays "SliceWrightModel" "SliceWrightModel" "spread" "I") ∈ q_tbl9 := List.mem_of_getElem? (i := 156) rfl
theorem qt9_1309 : (Jvm.Cond.lays "SliceWrightModel" "SliceWrightModel" "supports" "I") ∈ q_tbl9 := List.mem_of_getElem? (i := 157) rfl
theorem qt9_1311 : (Jvm.Cond.lays "SliceWrightModel" "SliceWrightModel" "gap" "I") ∈ q_tbl9 := List.mem_of_getElem? (i := 158) rfl
theorem qt9_1313 : (Jvm.Cond.lays "SliceWrightModel" "SliceWrightModel" "reach" "I") ∈ q_tbl9 := List.mem_of_getElem? (i := 159) rfl
theorem qt9_1315 : (Jvm.Cond.lays "SliceWrightModel" "SliceWrightModel" "pattern" "C") ∈ q_tbl9 := List.mem_of_getElem? (i := 160) rfl
theorem qt9_1317 : (Jvm.Cond.laysFinal "SliceWrightModel" "SliceWrightModel" "thickness" "[I") ∈ q_tbl9 := List.mem_of_getElem? (i := 161) rfl
theorem qt9_1319 : (Jvm.Cond.laysFinal "SliceWrightModel" "SliceWrightModel" "pause" "[Z") ∈ q_tbl9 := List.mem_of_getElem? (i := 162) rfl
theorem qt9_1321 : (Jvm.Cond.lays "SliceWrightModel" "SliceWrightModel" "commands" "I") ∈ q_tbl9 := List.mem_of_getElem? (i := 163) rfl
theorem qt9_1323 : (Jvm.Cond.laysFinal "SliceWrightModel" "SliceWrightModel" "kind" "[C") ∈ q_tbl9 := List.mem_of_getElem? (i := 164) rfl
theorem qt9_1325 : (Jvm.Cond.laysFinal "SliceWrightModel" "SliceWrightModel" "toX" "[I") ∈ q_tbl9 := List.mem_of_getElem? (i := 165) rfl
theorem qt9_1327 : (Jvm.Cond.laysFinal "SliceWrightModel" "SliceWrightModel" "toY" "[I") ∈ q_tbl9 := List.mem_of_getElem? (i := 166) rfl
theorem qt9_1329 : (Jvm.Cond.laysFinal "SliceWrightModel" "SliceWrightModel" "amount" "[I") ∈ q_tbl9 := List.mem_of_getElem? (i := 167) rfl
theorem qt9_1331 : (Jvm.Cond.laysFinal "SliceWrightModel" "SliceWrightModel" "layer" "[I") ∈ q_tbl9 := List.mem_of_getElem? (i := 168) rfl
theorem qt9_1333 : (Jvm.Cond.laysFinal "SliceWrightModel" "SliceWrightModel" "thick" "[I") ∈ q_tbl9 := List.mem_of_getElem? (i := 169) rfl
theorem qt9_1335 : (Jvm.Cond.laysFinal "SliceWrightModel" "SliceWrightModel" "fromX" "[I") ∈ q_tbl9 := List.mem_of_getElem? (i := 170) rfl
theorem qt9_1337 : (Jvm.Cond.laysFinal "SliceWrightModel" "SliceWrightModel" "fromY" "[I") ∈ q_tbl9 := List.mem_of_getElem? (i := 171) rfl
theorem qt9_1339 : (Jvm.Cond.lays "SliceWrightModel" "SliceWrightModel" "state" "C") ∈ q_tbl9 := List.mem_of_getElem? (i := 172) rfl
theorem qt9_1341 : (Jvm.Cond.lays "SliceWrightModel" "SliceWrightModel" "failedIn" "C") ∈ q_tbl9 := List.mem_of_getElem? (i := 173) rfl
theorem qt9_1343 : (Jvm.Cond.lays "SliceWrightModel" "SliceWrightModel" "isCut" "Z") ∈ q_tbl9 := List.mem_of_getElem? (i := 174) rfl
theorem qt9_1345 : (Jvm.Cond.lays "SliceWrightModel" "SliceWrightModel" "next" "I") ∈ q_tbl9 := List.mem_of_getElem? (i := 175) rfl
theorem qt9_1347 : (Jvm.Cond.lays "SliceWrightModel" "SliceWrightModel" "kept" "I") ∈ q_tbl9 := List.mem_of_getElem? (i := 176) rfl
theorem qt9_1349 : (Jvm.Cond.lays "SliceWrightModel" "SliceWrightModel" "went" "I") ∈ q_tbl9 := List.mem_of_getElem? (i := 177) rfl
theorem qt9_1351 : (Jvm.Cond.lays "SliceWrightModel" "SliceWrightModel" "speed" "I") ∈ q_tbl9 := List.mem_of_getElem? (i := 178) rfl
theorem qt9_1353 : (Jvm.Cond.lays "SliceWrightModel" "SliceWrightModel" "target" "I") ∈ q_tbl9 := List.mem_of_getElem? (i := 179) rfl
theorem qt9_1355 : (Jvm.Cond.lays "SliceWrightModel" "SliceWrightModel" "temperature" "I") ∈ q_tbl9 := List.mem_of_getElem? (i := 180) rfl
theorem qt9_1357 : (Jvm.Cond.lays "SliceWrightModel" "SliceWrightModel" "isHeating" "Z") ∈ q_tbl9 := List.mem_of_getElem? (i := 181) rfl
theorem qt9_1359 : (Jvm.Cond.lays "SliceWrightModel" "SliceWrightModel" "time" "J") ∈ q_tbl9 := List.mem_of_getElem? (i := 182) rfl
theorem qt9_1361 : (Jvm.Cond.laysFinal "SliceWrightModel" "SliceWrightModel" "laid" "[I") ∈ q_tbl9 := List.mem_of_getElem? (i := 183) rfl
theorem qt9_1363 : (Jvm.Cond.laysFinal "SliceWrightModel" "SliceWrightModel" "mark" "[I") ∈ q_tbl9 := List.mem_of_getElem? (i := 184) rfl
theorem qt9_1365 : (Jvm.Cond.lays "SliceWrightModel" "SliceWrightModel" "strokes" "I") ∈ q_tbl9 := List.mem_of_getElem? (i := 185) rfl
theorem qt9_1367 : (Jvm.Cond.laysFinal "SliceWrightModel" "SliceWrightModel" "strokeKind" "[C") ∈ q_tbl9 := List.mem_of_getElem? (i := 186) rfl
theorem qt9_1369 : (Jvm.Cond.laysFinal "SliceWrightModel" "SliceWrightModel" "beginX" "[I") ∈ q_tbl9 := List.mem_of_getElem? (i := 187) rfl
theorem qt9_1371 : (Jvm.Cond.laysFinal "SliceWrightModel" "SliceWrightModel" "beginY" "[I") ∈ q_tbl9 := List.mem_of_getElem? (i := 188) rfl
theorem qt9_1373 : (Jvm.Cond.laysFinal "SliceWrightModel" "SliceWrightModel" "endX" "[I") ∈ q_tbl9 := List.mem_of_getElem? (i := 189) rfl
theorem qt9_1375 : (Jvm.Cond.laysFinal "SliceWrightModel" "SliceWrightModel" "endY" "[I") ∈ q_tbl9 := List.mem_of_getElem? (i := 190) rfl
theorem qt9_1377 : (Jvm.Cond.laysFinal "SliceWrightModel" "SliceWrightModel" "kinds" "[C") ∈ q_tbl9 := List.mem_of_getElem? (i := 191) rfl
theorem qt9_1379 : (Jvm.Cond.lays "SliceWrightModel" "SliceWrightModel" "headX" "I") ∈ q_tbl9 := List.mem_of_getElem? (i := 192) rfl
theorem qt9_1381 : (Jvm.Cond.lays "SliceWrightModel" "SliceWrightModel" "headY" "I") ∈ q_tbl9 := List.mem_of_getElem? (i := 193) rfl
theorem qt9_1383 : (Jvm.Cond.laysFinal "SliceWrightModel" "SliceWrightModel" "isDrawn" "[Z") ∈ q_tbl9 := List.mem_of_getElem? (i := 194) rfl
theorem qt9_1251 : (Jvm.Cond.instantiable "SliceWrightModel" (43 : Nat)) ∈ q_tbl9 := List.mem_of_getElem? (i := 195) rfl
theorem qt9_402 : (Jvm.Cond.instantiable "java/lang/IllegalArgumentException" (6 : Nat)) ∈ q_tbl9 := List.mem_of_getElem? (i := 196) rfl
theorem qt9_559 : (Jvm.Cond.instantiable "java/lang/IndexOutOfBoundsException" (6 : Nat)) ∈ q_tbl9 := List.mem_of_getElem? (i := 197) rfl
theorem qt9_851 : (Jvm.Cond.instantiable "java/lang/IllegalStateException" (6 : Nat)) ∈ q_tbl9 := List.mem_of_getElem? (i := 198) rfl
theorem qt9_995 : (Jvm.Cond.instantiable "java/util/NoSuchElementException" (6 : Nat)) ∈ q_tbl9 := List.mem_of_getElem? (i := 199) rfl
theorem qt9_1207 : (Jvm.Cond.instantiable "java/lang/ArithmeticException" (6 : Nat)) ∈ q_tbl9 := List.mem_of_getElem? (i := 200) rfl
def q_gvl : List Cond := [(Jvm.Cond.eq (Jvm.Term.elem (Jvm.Term.static "SliceWright" "STEP_X" "[I") (Jvm.Term.int (0 : Int32))) (Jvm.Term.int (1 : Int32))), (Jvm.Cond.eq (Jvm.Term.elem (Jvm.Term.static "SliceWright" "STEP_X" "[I") (Jvm.Term.int (1 : Int32))) (Jvm.Term.int (0 : Int32))), (Jvm.Cond.eq (Jvm.Term.elem (Jvm.Term.static "SliceWright" "STEP_X" "[I") (Jvm.Term.int (2 : Int32))) (Jvm.Term.int (-1 : Int32))), (Jvm.Cond.eq (Jvm.Term.elem (Jvm.Term.static "SliceWright" "STEP_X" "[I") (Jvm.Term.int (3 : Int32))) (Jvm.Term.int (0 : Int32))), (Jvm.Cond.arrayOf (Jvm.Term.static "SliceWright" "STEP_X" "[I") Jvm.ClassFile.FieldType.int), (Jvm.Cond.eq (Jvm.Term.length (Jvm.Term.static "SliceWright" "STEP_X" "[I")) (Jvm.Term.int (4 : Int32))), (Jvm.Cond.eq (Jvm.Term.elem (Jvm.Term.static "SliceWright" "STEP_Y" "[I") (Jvm.Term.int (0 : Int32))) (Jvm.Term.int (0 : Int32))), (Jvm.Cond.eq (Jvm.Term.elem (Jvm.Term.static "SliceWright" "STEP_Y" "[I") (Jvm.Term.int (1 : Int32))) (Jvm.Term.int (1 : Int32))), (Jvm.Cond.eq (Jvm.Term.elem (Jvm.Term.static "SliceWright" "STEP_Y" "[I") (Jvm.Term.int (2 : Int32))) (Jvm.Term.int (0 : Int32))), (Jvm.Cond.eq (Jvm.Term.elem (Jvm.Term.static "SliceWright" "STEP_Y" "[I") (Jvm.Term.int (3 : Int32))) (Jvm.Term.int (-1 : Int32))), (Jvm.Cond.arrayOf (Jvm.Term.static "SliceWright" "STEP_Y" "[I") Jvm.ClassFile.FieldType.int), (Jvm.Cond.eq (Jvm.Term.length (Jvm.Term.static "SliceWright" "STEP_Y" "[I")) (Jvm.Term.int (4 : Int32))), (Jvm.Cond.eq (Jvm.Term.elem (Jvm.Term.static "SliceWright$Outlines" "LEFT_X" "[I") (Jvm.Term.int (0 : Int32))) (Jvm.Term.int (0 : Int32))), (Jvm.Cond.eq (Jvm.Term.elem (Jvm.Term.static "SliceWright$Outlines" "LEFT_X" "[I") (Jvm.Term.int (1 : Int32))) (Jvm.Term.int (-1 : Int32))), (Jvm.Cond.eq (Jvm.Term.elem (Jvm.Term.static "SliceWright$Outlines" "LEFT_X" "[I") (Jvm.Term.int (2 : Int32))) (Jvm.Term.int (-1 : Int32))), (Jvm.Cond.eq (Jvm.Term.elem (Jvm.Term.static "SliceWright$Outlines" "LEFT_X" "[I") (Jvm.Term.int (3 : Int32))) (Jvm.Term.int (0 : Int32))), (Jvm.Cond.arrayOf (Jvm.Term.static "SliceWright$Outlines" "LEFT_X" "[I") Jvm.ClassFile.FieldType.int), (Jvm.Cond.eq (Jvm.Term.length (Jvm.Term.static "SliceWright$Outlines" "LEFT_X" "[I")) (Jvm.Term.int (4 : Int32))), (Jvm.Cond.eq (Jvm.Term.elem (Jvm.Term.static "SliceWright$Outlines" "LEFT_Y" "[I") (Jvm.Term.int (0 : Int32))) (Jvm.Term.int (0 : Int32))), (Jvm.Cond.eq (Jvm.Term.elem (Jvm.Term.static "SliceWright$Outlines" "LEFT_Y" "[I") (Jvm.Term.int (1 : Int32))) (Jvm.Term.int (0 : Int32))), (Jvm.Cond.eq (Jvm.Term.elem (Jvm.Term.static "SliceWright$Outlines" "LEFT_Y" "[I") (Jvm.Term.int (2 : Int32))) (Jvm.Term.int (-1 : Int32))), (Jvm.Cond.eq (Jvm.Term.elem (Jvm.Term.static "SliceWright$Outlines" "LEFT_Y" "[I") (Jvm.Term.int (3 : Int32))) (Jvm.Term.int (-1 : Int32))), (Jvm.Cond.arrayOf (Jvm.Term.static "SliceWright$Outlines" "LEFT_Y" "[I") Jvm.ClassFile.FieldType.int), (Jvm.Cond.eq (Jvm.Term.length (Jvm.Term.static "SliceWright$Outlines" "LEFT_Y" "[I")) (Jvm.Term.int (4 : Int32))), (Jvm.Cond.eq (Jvm.Term.elem (Jvm.Term.static "SliceWright$Strokes" "KIND_ORDER" "[C") (Jvm.Term.int (0 : Int32))) (Jvm.Term.int (119 : Int32))), (Jvm.Cond.eq (Jvm.Term.elem (Jvm.Term.static "SliceWright$Strokes" "KIND_ORDER" "[C") (Jvm.Term.int (1 : Int32))) (Jvm.Term.int (98 : Int32))), (Jvm.Cond.eq (Jvm.Term.elem (Jvm.Term.static "SliceWright$Strokes" "KIND_ORDER" "[C") (Jvm.Term.int (2 : Int32))) (Jvm.Term.int (116 : Int32))), (Jvm.Cond.eq (Jvm.Term.elem (Jvm.Term.static "SliceWright$Strokes" "KIND_ORDER" "[C") (Jvm.Term.int (3 : Int32))) (Jvm.Term.int (105 : Int32))), (Jvm.Cond.eq (Jvm.Term.elem (Jvm.Term.static "SliceWright$Strokes" "KIND_ORDER" "[C") (Jvm.Term.int (4 : Int32))) (Jvm.Term.int (115 : Int32))), (Jvm.Cond.arrayOf (Jvm.Term.static "SliceWright$Strokes" "KIND_ORDER" "[C") Jvm.ClassFile.FieldType.char), (Jvm.Cond.eq (Jvm.Term.length (Jvm.Term.static "SliceWright$Strokes" "KIND_ORDER" "[C")) (Jvm.Term.int (5 : Int32))), (Jvm.Cond.exactly (Jvm.Term.string "SliceWright" (88 : Nat)) "java/lang/String"), (Jvm.Cond.exactly (Jvm.Term.string "SliceWright" (104 : Nat)) "java/lang/String"), (Jvm.Cond.exactly (Jvm.Term.string "SliceWright" (110 : Nat)) "java/lang/String"), (Jvm.Cond.exactly (Jvm.Term.string "SliceWright" (120 : Nat)) "java/lang/String"), (Jvm.Cond.exactly (Jvm.Term.string "SliceWright" (168 : Nat)) "java/lang/String"), (Jvm.Cond.exactly (Jvm.Term.string "SliceWright" (187 : Nat)) "java/lang/String"), (Jvm.Cond.exactly (Jvm.Term.string "SliceWright" (195 : Nat)) "java/lang/String"), (Jvm.Cond.exactly (Jvm.Term.string "SliceWright" (209 : Nat)) "java/lang/String"), (Jvm.Cond.exactly (Jvm.Term.string "SliceWright" (215 : Nat)) "java/lang/String"), (Jvm.Cond.exactly (Jvm.Term.string "SliceWright" (220 : Nat)) "java/lang/String"), (Jvm.Cond.exactly (Jvm.Term.string "SliceWright" (225 : Nat)) "java/lang/String"), (Jvm.Cond.exactly (Jvm.Term.string "SliceWright" (230 : Nat)) "java/lang/String"), (Jvm.Cond.exactly (Jvm.Term.string "SliceWright" (241 : Nat)) "java/lang/String"), (Jvm.Cond.exactly (Jvm.Term.string "SliceWright" (252 : Nat)) "java/lang/String"), (Jvm.Cond.exactly (Jvm.Term.string "SliceWright" (278 : Nat)) "java/lang/String"), (Jvm.Cond.exactly (Jvm.Term.string "SliceWright" (287 : Nat)) "java/lang/String"), (Jvm.Cond.exactly (Jvm.Term.string "SliceWright" (295 : Nat)) "java/lang/String"), (Jvm.Cond.exactly (Jvm.Term.string "SliceWright" (302 : Nat)) "java/lang/String"), (Jvm.Cond.exactly (Jvm.Term.string "SliceWright" (307 : Nat)) "java/lang/String"), (Jvm.Cond.exactly (Jvm.Term.string "SliceWrightModel" (177 : Nat)) "java/lang/String"), (Jvm.Cond.eq (Jvm.Term.field (Jvm.Term.string "SliceWrightModel" (177 : Nat)) "java/lang/String" "coder" "B") (Jvm.Term.int (0 : Int32))), (Jvm.Cond.arrayOf (Jvm.Term.field (Jvm.Term.string "SliceWrightModel" (177 : Nat)) "java/lang/String" "value" "[B") Jvm.ClassFile.FieldType.byte), (Jvm.Cond.eq (Jvm.Term.length (Jvm.Term.field (Jvm.Term.string "SliceWrightModel" (177 : Nat)) "java/lang/String" "value" "[B")) (Jvm.Term.int (5 : Int32))), (Jvm.Cond.eq (Jvm.Term.elem (Jvm.Term.field (Jvm.Term.string "SliceWrightModel" (177 : Nat)) "java/lang/String" "value" "[B") (Jvm.Term.int (0 : Int32))) (Jvm.Term.int (119 : Int32))), (Jvm.Cond.eq (Jvm.Term.elem (Jvm.Term.field (Jvm.Term.string "SliceWrightModel" (177 : Nat)) "java/lang/String" "value" "[B") (Jvm.Term.int (1 : Int32))) (Jvm.Term.int (98 : Int32))), (Jvm.Cond.eq (Jvm.Term.elem (Jvm.Term.field (Jvm.Term.string "SliceWrightModel" (177 : Nat)) "java/lang/String" "value" "[B") (Jvm.Term.int (2 : Int32))) (Jvm.Term.int (116 : Int32))), (Jvm.Cond.eq (Jvm.Term.elem (Jvm.Term.field (Jvm.Term.string "SliceWrightModel" (177 : Nat)) "java/lang/String" "value" "[B") (Jvm.Term.int (3 : Int32))) (Jvm.Term.int (105 : Int32))), (Jvm.Cond.eq (Jvm.Term.elem (Jvm.Term.field (Jvm.Term.string "SliceWrightModel" (177 : Nat)) "java/lang/String" "value" "[B") (Jvm.Term.int (4 : Int32))) (Jvm.Term.int (115 : Int32))), (Jvm.Cond.eq (Jvm.Term.static "java/lang/String" "COMPACT_STRINGS" "Z") (Jvm.Term.int (1 : Int32))), (Jvm.Cond.isRef (Jvm.Term.static "jdk/internal/util/Preconditions" "SIOOBE_FORMATTER" "Ljava/util/function/BiFunction;")), (Jvm.Cond.isRef (Jvm.Term.static "java/lang/Throwable" "UNASSIGNED_STACK" "[Ljava/lang/StackTraceElement;")), (Jvm.Cond.isRef (Jvm.Term.static "java/lang/Throwable" "SUPPRESSED_SENTINEL" "Ljava/util/List;")), (Jvm.Cond.not (Jvm.Cond.castable "java/lang/IllegalArgumentException" "java/lang/IndexOutOfBoundsException")), (Jvm.Cond.not (Jvm.Cond.castable "java/util/NoSuchElementException" "java/lang/IndexOutOfBoundsException")), (Jvm.Cond.not (Jvm.Cond.castable "java/util/NoSuchElementException" "java/lang/IllegalArgumentException")), (Jvm.Cond.not (Jvm.Cond.castable "java/lang/IllegalStateException" "java/lang/IllegalArgumentException"))]
set_option maxRecDepth 100000 in
theorem q_gvl_in : ∀ w ∈ q_gvl, w ∈ flatC (Jvm.Cond.and given_1 narrow_1) := q_memT _ [9, 10, 11, 12, 7, 8, 16, 17, 18, 19, 14, 15, 23, 24, 25, 26, 21, 22, 30, 31, 32, 33, 28, 29, 37, 38, 39, 40, 41, 35, 36, 126, 162, 212, 253, 311, 370, 396, 446, 486, 523, 582, 634, 677, 722, 786, 831, 233, 290, 344, 873, 874, 875, 876, 877, 878, 879, 880, 881, 42, 43, 4, 5, 74, 76, 61, 60] (by decide +kernel)
theorem qg_9 : (Jvm.Cond.eq (Jvm.Term.elem (Jvm.Term.static "SliceWright" "STEP_X" "[I") (Jvm.Term.int (0 : Int32))) (Jvm.Term.int (1 : Int32))) ∈ q_gvl := List.mem_of_getElem? (i := 0) rfl
theorem qg_10 : (Jvm.Cond.eq (Jvm.Term.elem (Jvm.Term.static "SliceWright" "STEP_X" "[I") (Jvm.Term.int (1 : Int32))) (Jvm.Term.int (0 : Int32))) ∈ q_gvl := List.mem_of_getElem? (i := 1) rfl
theorem qg_11 : (Jvm.Cond.eq (Jvm.Term.elem (Jvm.Term.static "SliceWright" "STEP_X" "[I") (Jvm.Term.int (2 : Int32))) (Jvm.Term.int (-1 : Int32))) ∈ q_gvl := List.mem_of_getElem? (i := 2) rfl
theorem qg_12 : (Jvm.Cond.eq (Jvm.Term.elem (Jvm.Term.static "SliceWright" "STEP_X" "[I") (Jvm.Term.int (3 : Int32))) (Jvm.Term.int (0 : Int32))) ∈ q_gvl := List.mem_of_getElem? (i := 3) rfl
theorem qg_7 : (Jvm.Cond.arrayOf (Jvm.Term.static "SliceWright" "STEP_X" "[I") Jvm.ClassFile.FieldType.int) ∈ q_gvl := List.mem_of_getElem? (i := 4) rfl
theorem qg_8 : (Jvm.Cond.eq (Jvm.Term.length (Jvm.Term.static "SliceWright" "STEP_X" "[I")) (Jvm.Term.int (4 : Int32))) ∈ q_gvl := List.mem_of_getElem? (i := 5) rfl
theorem qg_16 : (Jvm.Cond.eq (Jvm.Term.elem (Jvm.Term.static "SliceWright" "STEP_Y" "[I") (Jvm.Term.int (0 : Int32))) (Jvm.Term.int (0 : Int32))) ∈ q_gvl := List.mem_of_getElem? (i := 6) rfl
theorem qg_17 : (Jvm.Cond.eq (Jvm.Term.elem (Jvm.Term.static "SliceWright" "STEP_Y" "[I") (Jvm.Term.int (1 : Int32))) (Jvm.Term.int (1 : Int32))) ∈ q_gvl := List.mem_of_getElem? (i := 7) rfl
theorem qg_18 : (Jvm.Cond.eq (Jvm.Term.elem (Jvm.Term.static "SliceWright" "STEP_Y" "[I") (Jvm.Term.int (2 : Int32))) (Jvm.Term.int (0 : Int32))) ∈ q_gvl := List.mem_of_getElem? (i := 8) rfl
theorem qg_19 : (Jvm.Cond.eq (Jvm.Term.elem (Jvm.Term.static "SliceWright" "STEP_Y" "[I") (Jvm.Term.int (3 : Int32))) (Jvm.Term.int (-1 : Int32))) ∈ q_gvl := List.mem_of_getElem? (i := 9) rfl
theorem qg_14 : (Jvm.Cond.arrayOf (Jvm.Term.static "SliceWright" "STEP_Y" "[I") Jvm.ClassFile.FieldType.int) ∈ q_gvl := List.mem_of_getElem? (i := 10) rfl
theorem qg_15 : (Jvm.Cond.eq (Jvm.Term.length (Jvm.Term.static "SliceWright" "STEP_Y" "[I")) (Jvm.Term.int (4 : Int32))) ∈ q_gvl := List.mem_of_getElem? (i := 11) rfl
theorem qg_23 : (Jvm.Cond.eq (Jvm.Term.elem (Jvm.Term.static "SliceWright$Outlines" "LEFT_X" "[I") (Jvm.Term.int (0 : Int32))) (Jvm.Term.int (0 : Int32))) ∈ q_gvl := List.mem_of_getElem? (i := 12) rfl
theorem qg_24 : (Jvm.Cond.eq (Jvm.Term.elem (Jvm.Term.static "SliceWright$Outlines" "LEFT_X" "[I") (Jvm.Term.int (1 : Int32))) (Jvm.Term.int (-1 : Int32))) ∈ q_gvl := List.mem_of_getElem? (i := 13) rfl
theorem qg_25 : (Jvm.Cond.eq (Jvm.Term.elem (Jvm.Term.static "SliceWright$Outlines" "LEFT_X" "[I") (Jvm.Term.int (2 : Int32))) (Jvm.Term.int (-1 : Int32))) ∈ q_gvl := List.mem_of_getElem? (i := 14) rfl
theorem qg_26 : (Jvm.Cond.eq (Jvm.Term.elem (Jvm.Term.static "SliceWright$Outlines" "LEFT_X" "[I") (Jvm.Term.int (3 : Int32))) (Jvm.Term.int (0 : Int32))) ∈ q_gvl := List.mem_of_getElem? (i := 15) rfl
theorem qg_21 : (Jvm.Cond.arrayOf (Jvm.Term.static "SliceWright$Outlines" "LEFT_X" "[I") Jvm.ClassFile.FieldType.int) ∈ q_gvl := List.mem_of_getElem? (i := 16) rfl
theorem qg_22 : (Jvm.Cond.eq (Jvm.Term.length (Jvm.Term.static "SliceWright$Outlines" "LEFT_X" "[I")) (Jvm.Term.int (4 : Int32))) ∈ q_gvl := List.mem_of_getElem? (i := 17) rfl
theorem qg_30 : (Jvm.Cond.eq (Jvm.Term.elem (Jvm.Term.static "SliceWright$Outlines" "LEFT_Y" "[I") (Jvm.Term.int (0 : Int32))) (Jvm.Term.int (0 : Int32))) ∈ q_gvl := List.mem_of_getElem? (i := 18) rfl
theorem qg_31 : (Jvm.Cond.eq (Jvm.Term.elem (Jvm.Term.static "SliceWright$Outlines" "LEFT_Y" "[I") (Jvm.Term.int (1 : Int32))) (Jvm.Term.int (0 : Int32))) ∈ q_gvl := List.mem_of_getElem? (i := 19) rfl
theorem qg_32 : (Jvm.Cond.eq (Jvm.Term.elem (Jvm.Term.static "SliceWright$Outlines" "LEFT_Y" "[I") (Jvm.Term.int (2 : Int32))) (Jvm.Term.int (-1 : Int32))) ∈ q_gvl := List.mem_of_getElem? (i := 20) rfl
theorem qg_33 : (Jvm.Cond.eq (Jvm.Term.elem (Jvm.Term.static "SliceWright$Outlines" "LEFT_Y" "[I") (Jvm.Term.int (3 : Int32))) (Jvm.Term.int (-1 : Int32))) ∈ q_gvl := List.mem_of_getElem? (i := 21) rfl
theorem qg_28 : (Jvm.Cond.arrayOf (Jvm.Term.static "SliceWright$Outlines" "LEFT_Y" "[I") Jvm.ClassFile.FieldType.int) ∈ q_gvl := List.mem_of_getElem? (i := 22) rfl
theorem qg_29 : (Jvm.Cond.eq (Jvm.Term.length (Jvm.Term.static "SliceWright$Outlines" "LEFT_Y" "[I")) (Jvm.Term.int (4 : Int32))) ∈ q_gvl := List.mem_of_getElem? (i := 23) rfl
theorem qg_37 : (Jvm.Cond.eq (Jvm.Term.elem (Jvm.Term.static "SliceWright$Strokes" "KIND_ORDER" "[C") (Jvm.Term.int (0 : Int32))) (Jvm.Term.int (119 : Int32))) ∈ q_gvl := List.mem_of_getElem? (i := 24) rfl
theorem qg_38 : (Jvm.Cond.eq (Jvm.Term.elem (Jvm.Term.static "SliceWright$Strokes" "KIND_ORDER" "[C") (Jvm.Term.int (1 : Int32))) (Jvm.Term.int (98 : Int32))) ∈ q_gvl := List.mem_of_getElem? (i := 25) rfl
theorem qg_39 : (Jvm.Cond.eq (Jvm.Term.elem (Jvm.Term.static "SliceWright$Strokes" "KIND_ORDER" "[C") (Jvm.Term.int (2 : Int32))) (Jvm.Term.int (116 : Int32))) ∈ q_gvl := List.mem_of_getElem? (i := 26) rfl
theorem qg_40 : (Jvm.Cond.eq (Jvm.Term.elem (Jvm.Term.static "SliceWright$Strokes" "KIND_ORDER" "[C") (Jvm.Term.int (3 : Int32))) (Jvm.Term.int (105 : Int32))) ∈ q_gvl := List.mem_of_getElem? (i := 27) rfl
theorem qg_41 : (Jvm.Cond.eq (Jvm.Term.elem (Jvm.Term.static "SliceWright$Strokes" "KIND_ORDER" "[C") (Jvm.Term.int (4 : Int32))) (Jvm.Term.int (115 : Int32))) ∈ q_gvl := List.mem_of_getElem? (i := 28) rfl
theorem qg_35 : (Jvm.Cond.arrayOf (Jvm.Term.static "SliceWright$Strokes" "KIND_ORDER" "[C") Jvm.ClassFile.FieldType.char) ∈ q_gvl := List.mem_of_getElem? (i := 29) rfl
theorem qg_36 : (Jvm.Cond.eq (Jvm.Term.length (Jvm.Term.static "SliceWright$Strokes" "KIND_ORDER" "[C")) (Jvm.Term.int (5 : Int32))) ∈ q_gvl := List.mem_of_getElem? (i := 30) rfl
theorem qg_126 : (Jvm.Cond.exactly (Jvm.Term.string "SliceWright" (88 : Nat)) "java/lang/String") ∈ q_gvl := List.mem_of_getElem? (i := 31) rfl
theorem qg_162 : (Jvm.Cond.exactly (Jvm.Term.string "SliceWright" (104 : Nat)) "java/lang/String") ∈ q_gvl := List.mem_of_getElem? (i := 32) rfl
theorem qg_212 : (Jvm.Cond.exactly (Jvm.Term.string "SliceWright" (110 : Nat)) "java/lang/String") ∈ q_gvl := List.mem_of_getElem? (i := 33) rfl
theorem qg_253 : (Jvm.Cond.exactly (Jvm.Term.string "SliceWright" (120 : Nat)) "java/lang/String") ∈ q_gvl := List.mem_of_getElem? (i := 34) rfl
theorem qg_311 : (Jvm.Cond.exactly (Jvm.Term.string "SliceWright" (168 : Nat)) "java/lang/String") ∈ q_gvl := List.mem_of_getElem? (i := 35) rfl
theorem qg_370 : (Jvm.Cond.exactly (Jvm.Term.string "SliceWright" (187 : Nat)) "java/lang/String") ∈ q_gvl := List.mem_of_getElem? (i := 36) rfl
theorem qg_396 : (Jvm.Cond.exactly (Jvm.Term.string "SliceWright" (195 : Nat)) "java/lang/String") ∈ q_gvl := List.mem_of_getElem? (i := 37) rfl
theorem qg_446 : (Jvm.Cond.exactly (Jvm.Term.string "SliceWright" (209 : Nat)) "java/lang/String") ∈ q_gvl := List.mem_of_getElem? (i := 38) rfl
theorem qg_486 : (Jvm.Cond.exactly (Jvm.Term.string "SliceWright" (215 : Nat)) "java/lang/String") ∈ q_gvl := List.mem_of_getElem? (i := 39) rfl
theorem qg_523 : (Jvm.Cond.exactly (Jvm.Term.string "SliceWright" (220 : Nat)) "java/lang/String") ∈ q_gvl := List.mem_of_getElem? (i := 40) rfl
theorem qg_582 : (Jvm.Cond.exactly (Jvm.Term.string "SliceWright" (225 : Nat)) "java/lang/String") ∈ q_gvl := List.mem_of_getElem? (i := 41) rfl
theorem qg_634 : (Jvm.Cond.exactly (Jvm.Term.string "SliceWright" (230 : Nat)) "java/lang/String") ∈ q_gvl := List.mem_of_getElem? (i := 42) rfl
theorem qg_677 : (Jvm.Cond.exactly (Jvm.Term.string "SliceWright" (241 : Nat)) "java/lang/String") ∈ q_gvl := List.mem_of_getElem? (i := 43) rfl
theorem qg_722 : (Jvm.Cond.exactly (Jvm.Term.string "SliceWright" (252 : Nat)) "java/lang/String") ∈ q_gvl := List.mem_of_getElem? (i := 44) rfl
theorem qg_786 : (Jvm.Cond.exactly (Jvm.Term.string "SliceWright" (278 : Nat)) "java/lang/String") ∈ q_gvl := List.mem_of_getElem? (i := 45) rfl
theorem qg_831 : (Jvm.Cond.exactly (Jvm.Term.string "SliceWright" (287 : Nat)) "java/lang/String") ∈ q_gvl := List.mem_of_getElem? (i := 46) rfl
theorem qg_233 : (Jvm.Cond.exactly (Jvm.Term.string "SliceWright" (295 : Nat)) "java/lang/String") ∈ q_gvl := List.mem_of_getElem? (i := 47) rfl
theorem qg_290 : (Jvm.Cond.exactly (Jvm.Term.string "SliceWright" (302 : Nat)) "java/lang/String") ∈ q_gvl := List.mem_of_getElem? (i := 48) rfl
theorem qg_344 : (Jvm.Cond.exactly (Jvm.Term.string "SliceWright" (307 : Nat)) "java/lang/String") ∈ q_gvl := List.mem_of_getElem? (i := 49) rfl
theorem qg_873 : (Jvm.Cond.exactly (Jvm.Term.string "SliceWrightModel" (177 : Nat)) "java/lang/String") ∈ q_gvl := List.mem_of_getElem? (i := 50) rfl
theorem qg_874 : (Jvm.Cond.eq (Jvm.Term.field (Jvm.Term.string "SliceWrightModel" (177 : Nat)) "java/lang/String" "coder" "B") (Jvm.Term.int (0 : Int32))) ∈ q_gvl := List.mem_of_getElem? (i := 51) rfl
theorem qg_875 : (Jvm.Cond.arrayOf (Jvm.Term.field (Jvm.Term.string "SliceWrightModel" (177 : Nat)) "java/lang/String" "value" "[B") Jvm.ClassFile.FieldType.byte) ∈ q_gvl := List.mem_of_getElem? (i := 52) rfl
theorem qg_876 : (Jvm.Cond.eq (Jvm.Term.length (Jvm.Term.field (Jvm.Term.string "SliceWrightModel" (177 : Nat)) "java/lang/String" "value" "[B")) (Jvm.Term.int (5 : Int32))) ∈ q_gvl := List.mem_of_getElem? (i := 53) rfl
theorem qg_877 : (Jvm.Cond.eq (Jvm.Term.elem (Jvm.Term.field (Jvm.Term.string "SliceWrightModel" (177 : Nat)) "java/lang/String" "value" "[B") (Jvm.Term.int (0 : Int32))) (Jvm.Term.int (119 : Int32))) ∈ q_gvl := List.mem_of_getElem? (i := 54) rfl
theorem qg_878 : (Jvm.Cond.eq (Jvm.Term.elem (Jvm.Term.field (Jvm.Term.string "SliceWrightModel" (177 : Nat)) "java/lang/String" "value" "[B") (Jvm.Term.int (1 : Int32))) (Jvm.Term.int (98 : Int32))) ∈ q_gvl := List.mem_of_getElem? (i := 55) rfl
theorem qg_879 : (Jvm.Cond.eq (Jvm.Term.elem (Jvm.Term.field (Jvm.Term.string "SliceWrightModel" (177 : Nat)) "java/lang/String" "value" "[B") (Jvm.Term.int (2 : Int32))) (Jvm.Term.int (116 : Int32))) ∈ q_gvl := List.mem_of_getElem? (i := 56) rfl
theorem qg_880 : (Jvm.Cond.eq (Jvm.Term.elem (Jvm.Term.field (Jvm.Term.string "SliceWrightModel" (177 : Nat)) "java/lang/String" "value" "[B") (Jvm.Term.int (3 : Int32))) (Jvm.Term.int (105 : Int32))) ∈ q_gvl := List.mem_of_getElem? (i := 57) rfl
theorem qg_881 : (Jvm.Cond.eq (Jvm.Term.elem (Jvm.Term.field (Jvm.Term.string "SliceWrightModel" (177 : Nat)) "java/lang/String" "value" "[B") (Jvm.Term.int (4 : Int32))) (Jvm.Term.int (115 : Int32))) ∈ q_gvl := List.mem_of_getElem? (i := 58) rfl
theorem qg_42 : (Jvm.Cond.eq (Jvm.Term.static "java/lang/String" "COMPACT_STRINGS" "Z") (Jvm.Term.int (1 : Int32))) ∈ q_gvl := List.mem_of_getElem? (i := 59) rfl
theorem qg_43 : (Jvm.Cond.isRef (Jvm.Term.static "jdk/internal/util/Preconditions" "SIOOBE_FORMATTER" "Ljava/util/function/BiFunction;")) ∈ q_gvl := List.mem_of_getElem? (i := 60) rfl
theorem qg_4 : (Jvm.Cond.isRef (Jvm.Term.static "java/lang/Throwable" "UNASSIGNED_STACK" "[Ljava/lang/StackTraceElement;")) ∈ q_gvl := List.mem_of_getElem? (i := 61) rfl
theorem qg_5 : (Jvm.Cond.isRef (Jvm.Term.static "java/lang/Throwable" "SUPPRESSED_SENTINEL" "Ljava/util/List;")) ∈ q_gvl := List.mem_of_getElem? (i := 62) rfl
theorem qg_74 : (Jvm.Cond.not (Jvm.Cond.castable "java/lang/IllegalArgumentException" "java/lang/IndexOutOfBoundsException")) ∈ q_gvl := List.mem_of_getElem? (i := 63) rfl
theorem qg_76 : (Jvm.Cond.not (Jvm.Cond.castable "java/util/NoSuchElementException" "java/lang/IndexOutOfBoundsException")) ∈ q_gvl := List.mem_of_getElem? (i := 64) rfl
theorem qg_61 : (Jvm.Cond.not (Jvm.Cond.castable "java/util/NoSuchElementException" "java/lang/IllegalArgumentException")) ∈ q_gvl := List.mem_of_getElem? (i := 65) rfl
theorem qg_60 : (Jvm.Cond.not (Jvm.Cond.castable "java/lang/IllegalStateException" "java/lang/IllegalArgumentException")) ∈ q_gvl := List.mem_of_getElem? (i := 66) rfl
theorem q_vkR {args : Array Value} {s : State} {C tx : String} {k : Nat} (h : (Cond.stringRef C k tx).before args s = true) (he : (Cond.exactly (Term.string C k) "java/lang/String").before args s = true) : ∃ a, vk_R C k tx a s := by
  obtain ⟨a, c, cA, kA, q1, -⟩ := Cond.exactly_spec (args := args) (first := s) (o := none) (s := s) (idx := []) (t := Term.string C k) (cls := "java/lang/String") he
  exact ⟨a, vk_R.of h q1⟩
theorem q_kn1 {tbl : List Cond} {args : Array Value} {s : State} {C : String} {T : u_T} {N n : Nat} (ht : ∀ w ∈ tbl, w.before args s = true) (hin : ∀ w ∈ u_ws C T N, w ∈ tbl) (hi : (Cond.instantiable C n).before args s = true) : ∃ d : ClassId × (Nat → Nat), u_Kn s C T N d.1 d.2 := by
  obtain ⟨a, b, h⟩ := u_known ht hin hi
  exact ⟨(a, b), h⟩
set_option maxRecDepth 100000 in
theorem q_st1 {args : Array Value} {s : State} {A : Nat → Prop} (hg : ∀ w ∈ q_gvl, w.before args s = true) (ht : ∀ w ∈ q_tbl9, w.before args s = true) (hA : ∀ a : Nat, a < s.heap.size → ¬ A a) : ∃ t : Nat, va_Z "SliceWright" "STEP_X" "[I" (.ref t) A s s.heap ∧ va_T .int t 4 (fun j => .int (([1, 0, -1, 0] : List Int32).getD j 0)) A s s.heap := by
  obtain ⟨t, h1, h2⟩ := va_Tof (tm := (Jvm.Term.static "SliceWright" "STEP_X" "[I")) (ty := .int) (N := 4) (f := fun j => .int (([1, 0, -1, 0] : List Int32).getD j 0)) (A := A) (by decide) (hg _ qg_7) (va_eqt (hg _ qg_8)) (fun j hj => by
    rcases (show j = 0 ∨ j = 1 ∨ j = 2 ∨ j = 3 by omega) with rfl | rfl | rfl | rfl
    · exact va_eqt (hg _ qg_9)
    · exact va_eqt (hg _ qg_10)
    · exact va_eqt (hg _ qg_11)
    · exact va_eqt (hg _ qg_12)) hA
  exact ⟨t, va_Zref (ht _ qt9_634) (ht _ qt9_1) h1 hA, h2⟩
set_option maxRecDepth 100000 in
theorem q_st2 {args : Array Value} {s : State} {A : Nat → Prop} (hg : ∀ w ∈ q_gvl, w.before args s = true) (ht : ∀ w ∈ q_tbl9, w.before args s = true) (hA : ∀ a : Nat, a < s.heap.size → ¬ A a) : ∃ t : Nat, va_Z "SliceWright" "STEP_Y" "[I" (.ref t) A s s.heap ∧ va_T .int t 4 (fun j => .int (([0, 1, 0, -1] : List Int32).getD j 0)) A s s.heap := by
  obtain ⟨t, h1, h2⟩ := va_Tof (tm := (Jvm.Term.static "SliceWright" "STEP_Y" "[I")) (ty := .int) (N := 4) (f := fun j => .int (([0, 1, 0, -1] : List Int32).getD j 0)) (A := A) (by decide) (hg _ qg_14) (va_eqt (hg _ qg_15)) (fun j hj => by
    rcases (show j = 0 ∨ j = 1 ∨ j = 2 ∨ j = 3 by omega) with rfl | rfl | rfl | rfl
    · exact va_eqt (hg _ qg_16)
    · exact va_eqt (hg _ qg_17)
    · exact va_eqt (hg _ qg_18)
    · exact va_eqt (hg _ qg_19)) hA
  exact ⟨t, va_Zref (ht _ qt9_636) (ht _ qt9_1) h1 hA, h2⟩
set_option maxRecDepth 100000 in
theorem q_st3 {args : Array Value} {s : State} {A : Nat → Prop} (hg : ∀ w ∈ q_gvl, w.before args s = true) (ht : ∀ w ∈ q_tbl9, w.before args s = true) (hA : ∀ a : Nat, a < s.heap.size → ¬ A a) : ∃ t : Nat, va_Z "SliceWright$Outlines" "LEFT_X" "[I" (.ref t) A s s.heap ∧ va_T .int t 4 (fun j => .int (([0, -1, -1, 0] : List Int32).getD j 0)) A s s.heap := by
  obtain ⟨t, h1, h2⟩ := va_Tof (tm := (Jvm.Term.static "SliceWright$Outlines" "LEFT_X" "[I")) (ty := .int) (N := 4) (f := fun j => .int (([0, -1, -1, 0] : List Int32).getD j 0)) (A := A) (by decide) (hg _ qg_21) (va_eqt (hg _ qg_22)) (fun j hj => by
    rcases (show j = 0 ∨ j = 1 ∨ j = 2 ∨ j = 3 by omega) with rfl | rfl | rfl | rfl
    · exact va_eqt (hg _ qg_23)
    · exact va_eqt (hg _ qg_24)
    · exact va_eqt (hg _ qg_25)
    · exact va_eqt (hg _ qg_26)) hA
  exact ⟨t, va_Zref (ht _ qt9_782) (ht _ qt9_6) h1 hA, h2⟩
set_option maxRecDepth 100000 in
theorem q_st4 {args : Array Value} {s : State} {A : Nat → Prop} (hg : ∀ w ∈ q_gvl, w.before args s = true) (ht : ∀ w ∈ q_tbl9, w.before args s = true) (hA : ∀ a : Nat, a < s.heap.size → ¬ A a) : ∃ t : Nat, va_Z "SliceWright$Outlines" "LEFT_Y" "[I" (.ref t) A s s.heap ∧ va_T .int t 4 (fun j => .int (([0, 0, -1, -1] : List Int32).getD j 0)) A s s.heap := by
  obtain ⟨t, h1, h2⟩ := va_Tof (tm := (Jvm.Term.static "SliceWright$Outlines" "LEFT_Y" "[I")) (ty := .int) (N := 4) (f := fun j => .int (([0, 0, -1, -1] : List Int32).getD j 0)) (A := A) (by decide) (hg _ qg_28) (va_eqt (hg _ qg_29)) (fun j hj => by
    rcases (show j = 0 ∨ j = 1 ∨ j = 2 ∨ j = 3 by omega) with rfl | rfl | rfl | rfl
    · exact va_eqt (hg _ qg_30)
    · exact va_eqt (hg _ qg_31)
    · exact va_eqt (hg _ qg_32)
    · exact va_eqt (hg _ qg_33)) hA
  exact ⟨t, va_Zref (ht _ qt9_784) (ht _ qt9_6) h1 hA, h2⟩
set_option maxRecDepth 100000 in
theorem q_st5 {args : Array Value} {s : State} {A : Nat → Prop} (hg : ∀ w ∈ q_gvl, w.before args s = true) (ht : ∀ w ∈ q_tbl9, w.before args s = true) (hA : ∀ a : Nat, a < s.heap.size → ¬ A a) : ∃ t : Nat, va_Z "SliceWright$Strokes" "KIND_ORDER" "[C" (.ref t) A s s.heap ∧ va_T .char t 5 (fun j => .int (([119, 98, 116, 105, 115] : List Int32).getD j 0)) A s s.heap := by
  obtain ⟨t, h1, h2⟩ := va_Tof (tm := (Jvm.Term.static "SliceWright$Strokes" "KIND_ORDER" "[C")) (ty := .char) (N := 5) (f := fun j => .int (([119, 98, 116, 105, 115] : List Int32).getD j 0)) (A := A) (by decide) (hg _ qg_35) (va_eqt (hg _ qg_36)) (fun j hj => by
    rcases (show j = 0 ∨ j = 1 ∨ j = 2 ∨ j = 3 ∨ j = 4 by omega) with rfl | rfl | rfl | rfl | rfl
    · exact va_eqt (hg _ qg_37)
    · exact va_eqt (hg _ qg_38)
    · exact va_eqt (hg _ qg_39)
    · exact va_eqt (hg _ qg_40)
    · exact va_eqt (hg _ qg_41)) hA
  exact ⟨t, va_Zref (ht _ qt9_819) (ht _ qt9_7) h1 hA, h2⟩
set_option maxRecDepth 100000 in
theorem q_sstr {args : Array Value} {s : State} (hg : ∀ w ∈ q_gvl, w.before args s = true) (ht : ∀ w ∈ q_tbl9, w.before args s = true) : ∀ q ∈ q_strs, ∃ a, vk_R q.1 q.2.1 q.2.2 a s := by
  intro q hq
  simp only [q_strs, List.mem_cons, List.not_mem_nil, or_false] at hq
  rcases hq with rfl | rfl | rfl | rfl | rfl | rfl | rfl | rfl | rfl | rfl | rfl | rfl | rfl | rfl | rfl | rfl | rfl | rfl | rfl
  · exact q_vkR (ht _ qt9_445) (hg _ qg_126)
  · exact q_vkR (ht _ qt9_503) (hg _ qg_162)
  · exact q_vkR (ht _ qt9_519) (hg _ qg_212)
  · exact q_vkR (ht _ qt9_571) (hg _ qg_253)
  · exact q_vkR (ht _ qt9_859) (hg _ qg_311)
  · exact q_vkR (ht _ qt9_984) (hg _ qg_370)
  · exact q_vkR (ht _ qt9_1003) (hg _ qg_396)
  · exact q_vkR (ht _ qt9_1042) (hg _ qg_446)
  · exact q_vkR (ht _ qt9_1043) (hg _ qg_486)
  · exact q_vkR (ht _ qt9_1055) (hg _ qg_523)
  · exact q_vkR (ht _ qt9_1068) (hg _ qg_582)
  · exact q_vkR (ht _ qt9_1147) (hg _ qg_634)
  · exact q_vkR (ht _ qt9_1171) (hg _ qg_677)
  · exact q_vkR (ht _ qt9_1187) (hg _ qg_722)
  · exact q_vkR (ht _ qt9_1229) (hg _ qg_786)
  · exact q_vkR (ht _ qt9_1249) (hg _ qg_831)
  · exact q_vkR (ht _ qt9_567) (hg _ qg_233)
  · exact q_vkR (ht _ qt9_607) (hg _ qg_290)
  · exact q_vkR (ht _ qt9_971) (hg _ qg_344)
set_option maxRecDepth 100000 in
theorem q_swb {args : Array Value} {s : State} {A : Nat → Prop} (hg : ∀ w ∈ q_gvl, w.before args s = true) (ht : ∀ w ∈ q_tbl9, w.before args s = true) (hA : ∀ a : Nat, a < s.heap.size → ¬ A a) : ∃ x y : Nat, vk_S 1 [5] [[119, 98, 116, 105, 115]] (fun _ => x) (fun _ => y) A s s.heap ∧ vk_R "SliceWrightModel" 177 "wbtis" x s := by
  obtain ⟨x, y, h1, h2⟩ := vk_Sof (args := args) (s := s) (N := 1) (tm := fun _ => (Jvm.Term.string "SliceWrightModel" (177 : Nat))) (len := [5]) (byt := [[119, 98, 116, 105, 115]]) (A := A) (fun i hi => by rcases (show i = 0 by omega) with rfl; decide) (fun i hi => hg _ qg_873) (fun i hi => hg _ qg_874) (fun i hi => hg _ qg_875) (fun i hi => by rcases (show i = 0 by omega) with rfl; exact hg _ qg_876) (fun i hi j hj => by
    rcases (show i = 0 by omega) with rfl
    have hj : j < 5 := hj
    rcases (show j = 0 ∨ j = 1 ∨ j = 2 ∨ j = 3 ∨ j = 4 by omega) with rfl | rfl | rfl | rfl | rfl
    · exact hg _ qg_877
    · exact hg _ qg_878
    · exact hg _ qg_879
    · exact hg _ qg_880
    · exact hg _ qg_881) (fun i j hi hj hij => absurd (show i = j by omega) hij) hA
  refine ⟨x 0, y 0, ⟨fun i hi => ?_, fun i j hi hj _ => by omega⟩, vk_R.of (ht _ qt9_1510) (h2 0 (by decide))⟩
  rcases (show i = 0 by omega) with rfl
  exact h1.1 0 (by decide)
set_option maxRecDepth 100000 in
theorem q_scs {args : Array Value} {s : State} {A : Nat → Prop} (hg : ∀ w ∈ q_gvl, w.before args s = true) (ht : ∀ w ∈ q_tbl9, w.before args s = true) (hA : ∀ a : Nat, a < s.heap.size → ¬ A a) : va_Z "java/lang/String" "COMPACT_STRINGS" "Z" (.int 1) A s s.heap ∧ va_Zq "jdk/internal/util/Preconditions" "SIOOBE_FORMATTER" "Ljava/util/function/BiFunction;" A s s.heap ∧ vx_Zq Bundle.tN "UNASSIGNED_STACK" Bundle.steD A s s.heap ∧ vx_Zq Bundle.tN "SUPPRESSED_SENTINEL" Bundle.listD A s s.heap :=
  ⟨va_Zof (ht _ qt9_1520) (ht _ qt9_19) (va_eqt (hg _ qg_42)) hA, va_Zqof (ht _ qt9_1536) (ht _ qt9_22) (hg _ qg_43) hA, vx_Zqof (ht _ qt9_428) (ht _ qt9_13) (hg _ qg_4) hA, vx_Zqof (ht _ qt9_430) (ht _ qt9_13) (hg _ qg_5) hA⟩
set_option maxRecDepth 100000 in
theorem q_snm {args : Array Value} {s : State} (hg : ∀ w ∈ q_gvl, w.before args s = true) (ht : ∀ w ∈ q_tbl9, w.before args s = true) : ∀ q ∈ q_NM, va_Nw (.methodLinkNest q.1 q.2.1 q.2.2 "SliceWright") s := by
  intro q hq
  simp only [q_NM, List.mem_cons, List.not_mem_nil, or_false] at hq
  rcases hq with rfl | rfl | rfl | rfl | rfl | rfl | rfl | rfl | rfl | rfl | rfl | rfl | rfl | rfl | rfl | rfl | rfl | rfl
  · exact va_Nw.of rfl (ht _ qt9_480)
  · exact va_Nw.of rfl (ht _ qt9_487)
  · exact va_Nw.of rfl (ht _ qt9_580)
  · exact va_Nw.of rfl (ht _ qt9_612)
  · exact va_Nw.of rfl (ht _ qt9_627)
  · exact va_Nw.of rfl (ht _ qt9_628)
  · exact va_Nw.of rfl (ht _ qt9_653)
  · exact va_Nw.of rfl (ht _ qt9_728)
  · exact va_Nw.of rfl (ht _ qt9_730)
  · exact va_Nw.of rfl (ht _ qt9_828)
  · exact va_Nw.of rfl (ht _ qt9_884)
  · exact va_Nw.of rfl (ht _ qt9_903)
  · exact va_Nw.of rfl (ht _ qt9_936)
  · exact va_Nw.of rfl (ht _ qt9_1106)
  · exact va_Nw.of rfl (ht _ qt9_1133)
  · exact va_Nw.of rfl (ht _ qt9_1137)
  · exact va_Nw.of rfl (ht _ qt9_1138)
  · exact va_Nw.of rfl (ht _ qt9_1248)
set_option maxRecDepth 100000 in
theorem q_snf {args : Array Value} {s : State} (hg : ∀ w ∈ q_gvl, w.before args s = true) (ht : ∀ w ∈ q_tbl9, w.before args s = true) : ∀ q ∈ q_NF, va_Nw (.fieldLinkNest q.1 q.2.1 q.2.2.1 q.2.2.2.1 q.2.2.2.2 "SliceWright") s := by
  intro q hq
  simp only [q_NF, List.mem_cons, List.not_mem_nil, or_false] at hq
  rcases hq with rfl | rfl | rfl | rfl | rfl | rfl
  · exact va_Nw.of rfl (ht _ qt9_633)
  · exact va_Nw.of rfl (ht _ qt9_635)
  · exact va_Nw.of rfl (ht _ qt9_691)
  · exact va_Nw.of rfl (ht _ qt9_692)
  · exact va_Nw.of rfl (ht _ qt9_742)
  · exact va_Nw.of rfl (ht _ qt9_743)
set_option maxRecDepth 100000 in
theorem q_snc {args : Array Value} {s : State} (hg : ∀ w ∈ q_gvl, w.before args s = true) (ht : ∀ w ∈ q_tbl9, w.before args s = true) : ∀ q ∈ q_NC, va_Nc q.1 q.2 s := by
  intro q hq
  simp only [q_NC, List.mem_cons, List.not_mem_nil, or_false] at hq
  rcases hq with rfl | rfl | rfl | rfl
  · exact va_Nc.of (hg _ qg_74)
  · exact va_Nc.of (hg _ qg_76)
  · exact va_Nc.of (hg _ qg_61)
  · exact va_Nc.of (hg _ qg_60)
set_option maxRecDepth 100000 in
theorem q_sex {args : Array Value} {s : State} (hg : ∀ w ∈ q_gvl, w.before args s = true) (ht : ∀ w ∈ q_tbl9, w.before args s = true) : ∀ q ∈ q_EX, q_Ca q q s := by
  intro q hq
  simp only [q_EX, List.mem_cons, List.not_mem_nil, or_false] at hq
  rcases hq with rfl | rfl | rfl | rfl | rfl
  · exact q_Ca.of (ht _ qt9_403)
  · exact q_Ca.of (ht _ qt9_560)
  · exact q_Ca.of (ht _ qt9_852)
  · exact q_Ca.of (ht _ qt9_996)
  · exact q_Ca.of (ht _ qt9_1218)
set_option maxRecDepth 100000 in
theorem q_sde {args : Array Value} {s : State} (hg : ∀ w ∈ q_gvl, w.before args s = true) (ht : ∀ w ∈ q_tbl9, w.before args s = true) : ∀ q ∈ q_DE, va_Nw (.declares q) s := by
  intro q hq
  simp only [q_DE, List.mem_cons, List.not_mem_nil, or_false] at hq
  rcases hq with rfl | rfl | rfl
  · exact va_Nw.of rfl (ht _ qt9_405)
  · exact va_Nw.of rfl (ht _ qt9_407)
  · exact va_Nw.of rfl (ht _ qt9_409)
set_option maxRecDepth 100000 in
theorem q_skn {args : Array Value} {s : State} (hg : ∀ w ∈ q_gvl, w.before args s = true) (ht : ∀ w ∈ q_tbl9, w.before args s = true) : ∀ q ∈ q_cl, ∃ d : ClassId × (Nat → Nat), u_Kn s q.1 q.2.1 q.2.2 d.1 d.2 := by
  intro q hq
  simp only [q_cl, vwCl, List.cons_append, List.nil_append, List.mem_cons, List.not_mem_nil, or_false] at hq
  rcases hq with rfl | rfl | rfl | rfl | rfl | rfl | rfl | rfl | rfl | rfl | rfl | rfl | rfl | rfl | rfl | rfl | rfl | rfl
  · exact q_kn1 ht (q_memT _ _ (by decide +kernel : (u_ws RJ0 TJ0 2).map some = [67, 68].map (fun i => q_tbl9[i]?))) (ht _ qt9_546)
  · exact q_kn1 ht (q_memT _ _ (by decide +kernel : (u_ws RJx00060 TJx00060 6).map some = [70, 71, 72, 73, 74, 75].map (fun i => q_tbl9[i]?))) (ht _ qt9_528)
  · exact q_kn1 ht (q_memT _ _ (by decide +kernel : (u_ws RX0 TX0 1).map some = [77].map (fun i => q_tbl9[i]?))) (ht _ qt9_36)
  · exact q_kn1 ht (q_memT _ _ (by decide +kernel : (u_ws RX1 TX1 8).map some = [79, 80, 81, 82, 83, 84, 85, 86].map (fun i => q_tbl9[i]?))) (ht _ qt9_158)
  · exact q_kn1 ht (q_memT _ _ (by decide +kernel : (u_ws RX2 TX2 3).map some = [88, 89, 90].map (fun i => q_tbl9[i]?))) (ht _ qt9_214)
  · exact q_kn1 ht (q_memT _ _ (by decide +kernel : (u_ws RX3 TX3 5).map some = [92, 93, 94, 95, 96].map (fun i => q_tbl9[i]?))) (ht _ qt9_85)
  · exact q_kn1 ht (q_memT _ _ (by decide +kernel : (u_ws RX4 TX4 12).map some = [98, 99, 100, 101, 102, 103, 104, 105, 106, 107, 108, 109].map (fun i => q_tbl9[i]?))) (ht _ qt9_230)
  · exact q_kn1 ht (q_memT _ _ (by decide +kernel : (u_ws RX5 TX5 5).map some = [111, 112, 113, 114, 115].map (fun i => q_tbl9[i]?))) (ht _ qt9_108)
  · exact q_kn1 ht (q_memT _ _ (by decide +kernel : (u_ws RX6 TX6 6).map some = [117, 118, 119, 120, 121, 122].map (fun i => q_tbl9[i]?))) (ht _ qt9_189)
  · exact q_kn1 ht (q_memT _ _ (by decide +kernel : (u_ws RX7 TX7 9).map some = [124, 125, 126, 127, 128, 129, 130, 131, 132].map (fun i => q_tbl9[i]?))) (ht _ qt9_47)
  · exact q_kn1 ht (q_memT _ _ (by decide +kernel : (u_ws RX8 TX8 7).map some = [134, 135, 136, 137, 138, 139, 140].map (fun i => q_tbl9[i]?))) (ht _ qt9_130)
  · exact q_kn1 ht (q_memT _ _ (by decide +kernel : (u_ws RX9 TX9 9).map some = [142, 143, 144, 145, 146, 147, 148, 149, 150].map (fun i => q_tbl9[i]?))) (ht _ qt9_28)
  · exact q_kn1 ht (q_memT _ _ (by decide +kernel : (u_ws RX10 TX10 43).map some = [152, 153, 154, 155, 156, 157, 158, 159, 160, 161, 162, 163, 164, 165, 166, 167, 168, 169, 170, 171, 172, 173, 174, 175, 176, 177, 178, 179, 180, 181, 182, 183, 184, 185, 186, 187, 188, 189, 190, 191, 192, 193, 194].map (fun i => q_tbl9[i]?))) (ht _ qt9_1251)
  · exact q_kn1 ht (fun w hw => by cases hw) (ht _ qt9_402)
  · exact q_kn1 ht (fun w hw => by cases hw) (ht _ qt9_559)
  · exact q_kn1 ht (fun w hw => by cases hw) (ht _ qt9_851)
  · exact q_kn1 ht (fun w hw => by cases hw) (ht _ qt9_995)
  · exact q_kn1 ht (fun w hw => by cases hw) (ht _ qt9_1207)
