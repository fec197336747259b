/-! ===== what stands at the law's entry, by the places of the words (printed by a program) ===== -/
section START
def FW : List Cond := flatC (Jvm.Cond.and given_1 narrow_1)
theorem sm_0 : Cond.stringRef "Tracewheel" 50 "a function has 0 to 3 parameters" ∈ lw_tbl ∧ Cond.exactly (.string "Tracewheel" 50) "java/lang/String" ∈ FW := ⟨wm_3 (List.mem_of_getElem? (i := 173) (by decide +kernel)), List.mem_of_getElem? (i := 118) (by decide +kernel)⟩
theorem sm_1 : Cond.stringRef "Tracewheel" 61 "there are 8 functions" ∈ lw_tbl ∧ Cond.exactly (.string "Tracewheel" 61) "java/lang/String" ∈ FW := ⟨wm_3 (List.mem_of_getElem? (i := 209) (by decide +kernel)), List.mem_of_getElem? (i := 154) (by decide +kernel)⟩
theorem sm_2 : Cond.stringRef "Tracewheel" 146 "there is no such function" ∈ lw_tbl ∧ Cond.exactly (.string "Tracewheel" 146) "java/lang/String" ∈ FW := ⟨wm_4 (List.mem_of_getElem? (i := 28) (by decide +kernel)), List.mem_of_getElem? (i := 179) (by decide +kernel)⟩
theorem sm_3 : Cond.stringRef "Tracewheel" 79 "there is no such letter" ∈ lw_tbl ∧ Cond.exactly (.string "Tracewheel" 79) "java/lang/String" ∈ FW := ⟨wm_4 (List.mem_of_getElem? (i := 117) (by decide +kernel)), List.mem_of_getElem? (i := 235) (by decide +kernel)⟩
theorem sm_4 : Cond.stringRef "Tracewheel" 85 "the operand is not one for the letter" ∈ lw_tbl ∧ Cond.exactly (.string "Tracewheel" 85) "java/lang/String" ∈ FW := ⟨wm_4 (List.mem_of_getElem? (i := 126) (by decide +kernel)), List.mem_of_getElem? (i := 262) (by decide +kernel)⟩
theorem sm_5 : Cond.stringRef "Tracewheel" 91 "there are 40 instructions" ∈ lw_tbl ∧ Cond.exactly (.string "Tracewheel" 91) "java/lang/String" ∈ FW := ⟨wm_4 (List.mem_of_getElem? (i := 127) (by decide +kernel)), List.mem_of_getElem? (i := 303) (by decide +kernel)⟩
theorem sm_6 : Cond.stringRef "Tracewheel" 405 "the index is out of range" ∈ lw_tbl ∧ Cond.exactly (.string "Tracewheel" 405) "java/lang/String" ∈ FW := ⟨wm_4 (List.mem_of_getElem? (i := 146) (by decide +kernel)), List.mem_of_getElem? (i := 332) (by decide +kernel)⟩
theorem sm_7 : Cond.stringRef "Tracewheel" 109 "there is no such parent" ∈ lw_tbl ∧ Cond.exactly (.string "Tracewheel" 109) "java/lang/String" ∈ FW := ⟨wm_4 (List.mem_of_getElem? (i := 159) (by decide +kernel)), List.mem_of_getElem? (i := 361) (by decide +kernel)⟩
theorem sm_8 : Cond.stringRef "Tracewheel" 115 "there are 5 classes" ∈ lw_tbl ∧ Cond.exactly (.string "Tracewheel" 115) "java/lang/String" ∈ FW := ⟨wm_4 (List.mem_of_getElem? (i := 160) (by decide +kernel)), List.mem_of_getElem? (i := 388) (by decide +kernel)⟩
theorem sm_9 : Cond.stringRef "Tracewheel" 122 "there are 60 shapes" ∈ lw_tbl ∧ Cond.exactly (.string "Tracewheel" 122) "java/lang/String" ∈ FW := ⟨wm_4 (List.mem_of_getElem? (i := 170) (by decide +kernel)), List.mem_of_getElem? (i := 411) (by decide +kernel)⟩
theorem sm_10 : Cond.stringRef "Tracewheel" 134 "there is no such class" ∈ lw_tbl ∧ Cond.exactly (.string "Tracewheel" 134) "java/lang/String" ∈ FW := ⟨wm_4 (List.mem_of_getElem? (i := 193) (by decide +kernel)), List.mem_of_getElem? (i := 434) (by decide +kernel)⟩
theorem sm_11 : Cond.stringRef "Tracewheel" 139 "there is no such name" ∈ lw_tbl ∧ Cond.exactly (.string "Tracewheel" 139) "java/lang/String" ∈ FW := ⟨wm_4 (List.mem_of_getElem? (i := 197) (by decide +kernel)), List.mem_of_getElem? (i := 460) (by decide +kernel)⟩
theorem sm_12 : Cond.stringRef "Tracewheel" 152 "a method has one parameter" ∈ lw_tbl ∧ Cond.exactly (.string "Tracewheel" 152) "java/lang/String" ∈ FW := ⟨wm_4 (List.mem_of_getElem? (i := 213) (by decide +kernel)), List.mem_of_getElem? (i := 485) (by decide +kernel)⟩
theorem sm_13 : Cond.stringRef "Tracewheel" 177 "there is no such cell" ∈ lw_tbl ∧ Cond.exactly (.string "Tracewheel" 177) "java/lang/String" ∈ FW := ⟨wm_5 (List.mem_of_getElem? (i := 1) (by decide +kernel)), List.mem_of_getElem? (i := 515) (by decide +kernel)⟩
theorem sm_14 : Cond.stringRef "Tracewheel" 182 "a limit is out of range" ∈ lw_tbl ∧ Cond.exactly (.string "Tracewheel" 182) "java/lang/String" ∈ FW := ⟨wm_5 (List.mem_of_getElem? (i := 9) (by decide +kernel)), List.mem_of_getElem? (i := 540) (by decide +kernel)⟩
theorem sm_15 : Cond.stringRef "Tracewheel" 197 "the function has no parameters" ∈ lw_tbl ∧ Cond.exactly (.string "Tracewheel" 197) "java/lang/String" ∈ FW := ⟨wm_5 (List.mem_of_getElem? (i := 26) (by decide +kernel)), List.mem_of_getElem? (i := 567) (by decide +kernel)⟩
theorem sm_16 : Cond.stringRef "Tracewheel" 407 "the last run has not ended so" ∈ lw_tbl ∧ Cond.exactly (.string "Tracewheel" 407) "java/lang/String" ∈ FW := ⟨wm_7 (List.mem_of_getElem? (i := 24) (by decide +kernel)), List.mem_of_getElem? (i := 658) (by decide +kernel)⟩
theorem sm_17 : Cond.stringRef "Tracewheel" 409 "there is no such value" ∈ lw_tbl ∧ Cond.exactly (.string "Tracewheel" 409) "java/lang/String" ∈ FW := ⟨wm_7 (List.mem_of_getElem? (i := 73) (by decide +kernel)), List.mem_of_getElem? (i := 691) (by decide +kernel)⟩
theorem sm_18 : Cond.stringRef "Tracewheel" 411 "there is no such object" ∈ lw_tbl ∧ Cond.exactly (.string "Tracewheel" 411) "java/lang/String" ∈ FW := ⟨wm_7 (List.mem_of_getElem? (i := 92) (by decide +kernel)), List.mem_of_getElem? (i := 717) (by decide +kernel)⟩
theorem sm_19 : Cond.stringRef "Tracewheel" 285 "the object has no such field" ∈ lw_tbl ∧ Cond.exactly (.string "Tracewheel" 285) "java/lang/String" ∈ FW := ⟨wm_7 (List.mem_of_getElem? (i := 101) (by decide +kernel)), List.mem_of_getElem? (i := 744) (by decide +kernel)⟩
theorem sm_20 : Cond.stringRef "Tracewheel" 413 "there is no such shape" ∈ lw_tbl ∧ Cond.exactly (.string "Tracewheel" 413) "java/lang/String" ∈ FW := ⟨wm_7 (List.mem_of_getElem? (i := 114) (by decide +kernel)), List.mem_of_getElem? (i := 776) (by decide +kernel)⟩
theorem sm_21 : Cond.stringRef "Tracewheel" 297 "the shape has no such field" ∈ lw_tbl ∧ Cond.exactly (.string "Tracewheel" 297) "java/lang/String" ∈ FW := ⟨wm_7 (List.mem_of_getElem? (i := 122) (by decide +kernel)), List.mem_of_getElem? (i := 802) (by decide +kernel)⟩
theorem sm_22 : Cond.stringRef "Tracewheel" 305 "no such shape has come to be" ∈ lw_tbl ∧ Cond.exactly (.string "Tracewheel" 305) "java/lang/String" ∈ FW := ⟨wm_7 (List.mem_of_getElem? (i := 130) (by decide +kernel)), List.mem_of_getElem? (i := 833) (by decide +kernel)⟩
theorem sm_23 : Cond.stringRef "Tracewheel" 423 "there is no cache at the index" ∈ lw_tbl ∧ Cond.exactly (.string "Tracewheel" 423) "java/lang/String" ∈ FW := ⟨wm_7 (List.mem_of_getElem? (i := 144) (by decide +kernel)), List.mem_of_getElem? (i := 872) (by decide +kernel)⟩
theorem sm_24 : Cond.stringRef "Tracewheel" 425 "no such trace has come to be" ∈ lw_tbl ∧ Cond.exactly (.string "Tracewheel" 425) "java/lang/String" ∈ FW := ⟨wm_7 (List.mem_of_getElem? (i := 189) (by decide +kernel)), List.mem_of_getElem? (i := 906) (by decide +kernel)⟩
theorem sm_25 : Cond.stringRef "Tracewheel" 348 "the trace has no such step" ∈ lw_tbl ∧ Cond.exactly (.string "Tracewheel" 348) "java/lang/String" ∈ FW := ⟨wm_7 (List.mem_of_getElem? (i := 204) (by decide +kernel)), List.mem_of_getElem? (i := 938) (by decide +kernel)⟩
theorem sm_26 : Cond.stringRef "Tracewheel" 431 "the trace has no such guard" ∈ lw_tbl ∧ Cond.exactly (.string "Tracewheel" 431) "java/lang/String" ∈ FW := ⟨wm_7 (List.mem_of_getElem? (i := 223) (by decide +kernel)), List.mem_of_getElem? (i := 968) (by decide +kernel)⟩
theorem sm_27 : Cond.stringRef "Tracewheel" 372 "the guard has no side trace" ∈ lw_tbl ∧ Cond.exactly (.string "Tracewheel" 372) "java/lang/String" ∈ FW := ⟨wm_8 (List.mem_of_getElem? (i := 5) (by decide +kernel)), List.mem_of_getElem? (i := 999) (by decide +kernel)⟩
theorem sm_28 : Cond.stringRef "Tracewheel" 388 "no instruction was executed" ∈ lw_tbl ∧ Cond.exactly (.string "Tracewheel" 388) "java/lang/String" ∈ FW := ⟨wm_8 (List.mem_of_getElem? (i := 42) (by decide +kernel)), List.mem_of_getElem? (i := 1030) (by decide +kernel)⟩
theorem sm_29 : Cond.stringRef "Tracewheel" 394 "no trace is there" ∈ lw_tbl ∧ Cond.exactly (.string "Tracewheel" 394) "java/lang/String" ∈ FW := ⟨wm_8 (List.mem_of_getElem? (i := 55) (by decide +kernel)), List.mem_of_getElem? (i := 1061) (by decide +kernel)⟩
theorem st_msg : ∀ q ∈ xMsg, Cond.stringRef q.1 q.2.1 q.2.2 ∈ lw_tbl ∧ Cond.exactly (.string q.1 q.2.1) "java/lang/String" ∈ FW := List.forall_mem_cons.mpr ⟨sm_0, List.forall_mem_cons.mpr ⟨sm_1, List.forall_mem_cons.mpr ⟨sm_2, List.forall_mem_cons.mpr ⟨sm_3, List.forall_mem_cons.mpr ⟨sm_4, List.forall_mem_cons.mpr ⟨sm_5, List.forall_mem_cons.mpr ⟨sm_6, List.forall_mem_cons.mpr ⟨sm_7, List.forall_mem_cons.mpr ⟨sm_8, List.forall_mem_cons.mpr ⟨sm_9, List.forall_mem_cons.mpr ⟨sm_10, List.forall_mem_cons.mpr ⟨sm_11, List.forall_mem_cons.mpr ⟨sm_12, List.forall_mem_cons.mpr ⟨sm_13, List.forall_mem_cons.mpr ⟨sm_14, List.forall_mem_cons.mpr ⟨sm_15, List.forall_mem_cons.mpr ⟨sm_16, List.forall_mem_cons.mpr ⟨sm_17, List.forall_mem_cons.mpr ⟨sm_18, List.forall_mem_cons.mpr ⟨sm_19, List.forall_mem_cons.mpr ⟨sm_20, List.forall_mem_cons.mpr ⟨sm_21, List.forall_mem_cons.mpr ⟨sm_22, List.forall_mem_cons.mpr ⟨sm_23, List.forall_mem_cons.mpr ⟨sm_24, List.forall_mem_cons.mpr ⟨sm_25, List.forall_mem_cons.mpr ⟨sm_26, List.forall_mem_cons.mpr ⟨sm_27, List.forall_mem_cons.mpr ⟨sm_28, List.forall_mem_cons.mpr ⟨sm_29, fun _ h => nomatch h⟩⟩⟩⟩⟩⟩⟩⟩⟩⟩⟩⟩⟩⟩⟩⟩⟩⟩⟩⟩⟩⟩⟩⟩⟩⟩⟩⟩⟩⟩
theorem s2_0 : (.castable "[I" "java/lang/Cloneable" : Cond) ∈ lw_tbl := wm_2 (List.mem_of_getElem? (i := 125) (by decide +kernel))
theorem s2_1 : (.castable "java/lang/IllegalArgumentException" "java/lang/IllegalArgumentException" : Cond) ∈ lw_tbl := wm_3 (List.mem_of_getElem? (i := 130) (by decide +kernel))
theorem s2_2 : (.declares ⟨"java/lang/RuntimeException", "<init>", "()V"⟩ : Cond) ∈ lw_tbl := wm_3 (List.mem_of_getElem? (i := 131) (by decide +kernel))
theorem s2_3 : (.declares ⟨"java/lang/RuntimeException", "<init>", "(Ljava/lang/String;)V"⟩ : Cond) ∈ lw_tbl := wm_3 (List.mem_of_getElem? (i := 132) (by decide +kernel))
theorem s2_4 : (.declares ⟨"java/lang/Exception", "<init>", "()V"⟩ : Cond) ∈ lw_tbl := wm_3 (List.mem_of_getElem? (i := 133) (by decide +kernel))
theorem s2_5 : (.declares ⟨"java/lang/Exception", "<init>", "(Ljava/lang/String;)V"⟩ : Cond) ∈ lw_tbl := wm_3 (List.mem_of_getElem? (i := 134) (by decide +kernel))
theorem s2_6 : (.declares ⟨"java/lang/Throwable", "<init>", "()V"⟩ : Cond) ∈ lw_tbl := wm_3 (List.mem_of_getElem? (i := 135) (by decide +kernel))
theorem s2_7 : (.declares ⟨"java/lang/Throwable", "<init>", "(Ljava/lang/String;)V"⟩ : Cond) ∈ lw_tbl := wm_3 (List.mem_of_getElem? (i := 136) (by decide +kernel))
theorem s2_8 : (.castable "java/lang/IllegalStateException" "java/lang/IllegalStateException" : Cond) ∈ lw_tbl := wm_3 (List.mem_of_getElem? (i := 202) (by decide +kernel))
theorem s2_9 : (.castable "java/lang/ArrayIndexOutOfBoundsException" "java/lang/ArrayIndexOutOfBoundsException" : Cond) ∈ lw_tbl := wm_3 (List.mem_of_getElem? (i := 238) (by decide +kernel))
theorem s2_10 : (.declares ⟨"java/lang/IndexOutOfBoundsException", "<init>", "()V"⟩ : Cond) ∈ lw_tbl := wm_3 (List.mem_of_getElem? (i := 239) (by decide +kernel))
theorem s2_11 : (.declares ⟨"java/lang/IndexOutOfBoundsException", "<init>", "(Ljava/lang/String;)V"⟩ : Cond) ∈ lw_tbl := wm_4 (List.mem_of_getElem? (i := 0) (by decide +kernel))
theorem s2_12 : (.castable "java/lang/IndexOutOfBoundsException" "java/lang/IndexOutOfBoundsException" : Cond) ∈ lw_tbl := wm_4 (List.mem_of_getElem? (i := 21) (by decide +kernel))
theorem s2_13 : (.methodLinkNest "Tracewheel$Program" 50 ⟨"Tracewheel", "siteOf", "(II)I"⟩ "Tracewheel" : Cond) ∈ lw_tbl := wm_4 (List.mem_of_getElem? (i := 132) (by decide +kernel))
theorem s2_14 : (.castable "java/lang/UnsupportedOperationException" "java/lang/UnsupportedOperationException" : Cond) ∈ lw_tbl := wm_4 (List.mem_of_getElem? (i := 163) (by decide +kernel))
theorem s2_15 : (.castable "java/util/NoSuchElementException" "java/util/NoSuchElementException" : Cond) ∈ lw_tbl := wm_4 (List.mem_of_getElem? (i := 200) (by decide +kernel))
theorem s2_16 : (.methodLinkNest "Tracewheel$Forest" 68 ⟨"Tracewheel", "siteOfLine", "(I)I"⟩ "Tracewheel" : Cond) ∈ lw_tbl := wm_4 (List.mem_of_getElem? (i := 226) (by decide +kernel))
theorem s2_17 : (.methodLinkNest "Tracewheel$Machine" 66 ⟨"Tracewheel", "localPlace", "(II)I"⟩ "Tracewheel" : Cond) ∈ lw_tbl := wm_5 (List.mem_of_getElem? (i := 35) (by decide +kernel))
theorem s2_18 : (.methodLinkNest "Tracewheel$Machine" 110 ⟨"Tracewheel", "siteOf", "(II)I"⟩ "Tracewheel" : Cond) ∈ lw_tbl := wm_5 (List.mem_of_getElem? (i := 87) (by decide +kernel))
theorem s2_19 : (.methodLinkNest "Tracewheel$Machine" 260 ⟨"Tracewheel", "fieldPlace", "(II)I"⟩ "Tracewheel" : Cond) ∈ lw_tbl := wm_5 (List.mem_of_getElem? (i := 209) (by decide +kernel))
theorem s2_20 : (.methodLinkNest "Tracewheel$Recorder" 185 ⟨"Tracewheel", "localPlace", "(II)I"⟩ "Tracewheel" : Cond) ∈ lw_tbl := wm_6 (List.mem_of_getElem? (i := 199) (by decide +kernel))
theorem s2_21 : (.castable "java/lang/ArithmeticException" "java/lang/ArithmeticException" : Cond) ∈ lw_tbl := wm_8 (List.mem_of_getElem? (i := 35) (by decide +kernel))
theorem s2_22 : (.castable "java/lang/ArrayIndexOutOfBoundsException" "java/lang/IndexOutOfBoundsException" : Cond) ∈ lw_tbl := wm_11 (List.mem_of_getElem? (i := 80) (by decide +kernel))
theorem s2_23 : (.castable "Tracewheel" "java/lang/Object" : Cond) ∈ lw_tbl := wm_11 (List.mem_of_getElem? (i := 81) (by decide +kernel))
theorem s2_24 : (.castable "Tracewheel$Program" "java/lang/Object" : Cond) ∈ lw_tbl := wm_11 (List.mem_of_getElem? (i := 82) (by decide +kernel))
theorem s2_25 : (.castable "Tracewheel$Shapes" "java/lang/Object" : Cond) ∈ lw_tbl := wm_11 (List.mem_of_getElem? (i := 83) (by decide +kernel))
theorem s2_26 : (.castable "Tracewheel$Machine" "java/lang/Object" : Cond) ∈ lw_tbl := wm_11 (List.mem_of_getElem? (i := 84) (by decide +kernel))
theorem s2_27 : (.castable "Tracewheel$Slots" "java/lang/Object" : Cond) ∈ lw_tbl := wm_11 (List.mem_of_getElem? (i := 85) (by decide +kernel))
theorem s2_28 : (.castable "Tracewheel$Wheel" "java/lang/Object" : Cond) ∈ lw_tbl := wm_11 (List.mem_of_getElem? (i := 86) (by decide +kernel))
theorem s2_29 : (.castable "Tracewheel$Caches" "java/lang/Object" : Cond) ∈ lw_tbl := wm_11 (List.mem_of_getElem? (i := 87) (by decide +kernel))
theorem s2_30 : (.castable "Tracewheel$Heads" "java/lang/Object" : Cond) ∈ lw_tbl := wm_11 (List.mem_of_getElem? (i := 88) (by decide +kernel))
theorem s2_31 : (.castable "Tracewheel$Recorder" "java/lang/Object" : Cond) ∈ lw_tbl := wm_11 (List.mem_of_getElem? (i := 89) (by decide +kernel))
theorem s2_32 : (.castable "Tracewheel$Trace" "java/lang/Object" : Cond) ∈ lw_tbl := wm_11 (List.mem_of_getElem? (i := 90) (by decide +kernel))
theorem s2_33 : (.castable "Tracewheel$Forest" "java/lang/Object" : Cond) ∈ lw_tbl := wm_11 (List.mem_of_getElem? (i := 91) (by decide +kernel))
theorem s2_34 : (.castable "TracewheelModel" "java/lang/Object" : Cond) ∈ lw_tbl := wm_11 (List.mem_of_getElem? (i := 92) (by decide +kernel))
theorem s2_35 : (.castable "java/lang/IllegalArgumentException" "java/lang/Object" : Cond) ∈ lw_tbl := wm_11 (List.mem_of_getElem? (i := 93) (by decide +kernel))
theorem s2_36 : (.castable "java/lang/IllegalStateException" "java/lang/Object" : Cond) ∈ lw_tbl := wm_11 (List.mem_of_getElem? (i := 94) (by decide +kernel))
theorem s2_37 : (.castable "java/lang/ArrayIndexOutOfBoundsException" "java/lang/Object" : Cond) ∈ lw_tbl := wm_11 (List.mem_of_getElem? (i := 95) (by decide +kernel))
theorem s2_38 : (.castable "java/lang/IndexOutOfBoundsException" "java/lang/Object" : Cond) ∈ lw_tbl := wm_11 (List.mem_of_getElem? (i := 96) (by decide +kernel))
theorem s2_39 : (.castable "java/lang/UnsupportedOperationException" "java/lang/Object" : Cond) ∈ lw_tbl := wm_11 (List.mem_of_getElem? (i := 97) (by decide +kernel))
theorem s2_40 : (.castable "java/util/NoSuchElementException" "java/lang/Object" : Cond) ∈ lw_tbl := wm_11 (List.mem_of_getElem? (i := 98) (by decide +kernel))
theorem s2_41 : (.castable "java/lang/ArithmeticException" "java/lang/Object" : Cond) ∈ lw_tbl := wm_11 (List.mem_of_getElem? (i := 99) (by decide +kernel))
theorem s2_42 : (.castable "java/lang/Throwable" "java/lang/Object" : Cond) ∈ lw_tbl := wm_11 (List.mem_of_getElem? (i := 100) (by decide +kernel))
theorem s2_43 : (.castable "java/lang/String" "java/lang/Object" : Cond) ∈ lw_tbl := wm_11 (List.mem_of_getElem? (i := 101) (by decide +kernel))
theorem st_t2 : ∀ w ∈ xT2, w ∈ lw_tbl := List.forall_mem_cons.mpr ⟨s2_0, List.forall_mem_cons.mpr ⟨s2_1, List.forall_mem_cons.mpr ⟨s2_2, List.forall_mem_cons.mpr ⟨s2_3, List.forall_mem_cons.mpr ⟨s2_4, List.forall_mem_cons.mpr ⟨s2_5, List.forall_mem_cons.mpr ⟨s2_6, List.forall_mem_cons.mpr ⟨s2_7, List.forall_mem_cons.mpr ⟨s2_8, List.forall_mem_cons.mpr ⟨s2_9, List.forall_mem_cons.mpr ⟨s2_10, List.forall_mem_cons.mpr ⟨s2_11, List.forall_mem_cons.mpr ⟨s2_12, List.forall_mem_cons.mpr ⟨s2_13, List.forall_mem_cons.mpr ⟨s2_14, List.forall_mem_cons.mpr ⟨s2_15, List.forall_mem_cons.mpr ⟨s2_16, List.forall_mem_cons.mpr ⟨s2_17, List.forall_mem_cons.mpr ⟨s2_18, List.forall_mem_cons.mpr ⟨s2_19, List.forall_mem_cons.mpr ⟨s2_20, List.forall_mem_cons.mpr ⟨s2_21, List.forall_mem_cons.mpr ⟨s2_22, List.forall_mem_cons.mpr ⟨s2_23, List.forall_mem_cons.mpr ⟨s2_24, List.forall_mem_cons.mpr ⟨s2_25, List.forall_mem_cons.mpr ⟨s2_26, List.forall_mem_cons.mpr ⟨s2_27, List.forall_mem_cons.mpr ⟨s2_28, List.forall_mem_cons.mpr ⟨s2_29, List.forall_mem_cons.mpr ⟨s2_30, List.forall_mem_cons.mpr ⟨s2_31, List.forall_mem_cons.mpr ⟨s2_32, List.forall_mem_cons.mpr ⟨s2_33, List.forall_mem_cons.mpr ⟨s2_34, List.forall_mem_cons.mpr ⟨s2_35, List.forall_mem_cons.mpr ⟨s2_36, List.forall_mem_cons.mpr ⟨s2_37, List.forall_mem_cons.mpr ⟨s2_38, List.forall_mem_cons.mpr ⟨s2_39, List.forall_mem_cons.mpr ⟨s2_40, List.forall_mem_cons.mpr ⟨s2_41, List.forall_mem_cons.mpr ⟨s2_42, List.forall_mem_cons.mpr ⟨s2_43, fun _ h => nomatch h⟩⟩⟩⟩⟩⟩⟩⟩⟩⟩⟩⟩⟩⟩⟩⟩⟩⟩⟩⟩⟩⟩⟩⟩⟩⟩⟩⟩⟩⟩⟩⟩⟩⟩⟩⟩⟩⟩⟩⟩⟩⟩⟩⟩
theorem st_t2o : ∀ w ∈ xT2, w.onTables = true := by decide +kernel
theorem sn_0 : Cond.not (.castable "java/lang/IllegalStateException" "java/lang/IllegalArgumentException") ∈ FW := List.mem_of_getElem? (i := 23) (by decide +kernel)
theorem sn_1 : Cond.not (.castable "java/lang/IndexOutOfBoundsException" "java/lang/IllegalArgumentException") ∈ FW := List.mem_of_getElem? (i := 25) (by decide +kernel)
theorem sn_2 : Cond.not (.castable "java/lang/UnsupportedOperationException" "java/lang/IllegalArgumentException") ∈ FW := List.mem_of_getElem? (i := 26) (by decide +kernel)
theorem sn_3 : Cond.not (.castable "java/util/NoSuchElementException" "java/lang/IllegalArgumentException") ∈ FW := List.mem_of_getElem? (i := 27) (by decide +kernel)
theorem sn_4 : Cond.not (.castable "java/lang/ArithmeticException" "java/lang/IllegalArgumentException") ∈ FW := List.mem_of_getElem? (i := 28) (by decide +kernel)
theorem sn_5 : Cond.not (.castable "java/lang/IllegalArgumentException" "java/lang/IllegalStateException") ∈ FW := List.mem_of_getElem? (i := 41) (by decide +kernel)
theorem sn_6 : Cond.not (.castable "java/lang/IndexOutOfBoundsException" "java/lang/IllegalStateException") ∈ FW := List.mem_of_getElem? (i := 43) (by decide +kernel)
theorem sn_7 : Cond.not (.castable "java/lang/UnsupportedOperationException" "java/lang/IllegalStateException") ∈ FW := List.mem_of_getElem? (i := 44) (by decide +kernel)
theorem sn_8 : Cond.not (.castable "java/util/NoSuchElementException" "java/lang/IllegalStateException") ∈ FW := List.mem_of_getElem? (i := 45) (by decide +kernel)
theorem sn_9 : Cond.not (.castable "java/lang/ArithmeticException" "java/lang/IllegalStateException") ∈ FW := List.mem_of_getElem? (i := 46) (by decide +kernel)
theorem sn_10 : Cond.not (.castable "java/lang/IllegalArgumentException" "java/lang/IndexOutOfBoundsException") ∈ FW := List.mem_of_getElem? (i := 59) (by decide +kernel)
theorem sn_11 : Cond.not (.castable "java/lang/IllegalStateException" "java/lang/IndexOutOfBoundsException") ∈ FW := List.mem_of_getElem? (i := 60) (by decide +kernel)
theorem sn_12 : Cond.not (.castable "java/lang/UnsupportedOperationException" "java/lang/IndexOutOfBoundsException") ∈ FW := List.mem_of_getElem? (i := 61) (by decide +kernel)
theorem sn_13 : Cond.not (.castable "java/util/NoSuchElementException" "java/lang/IndexOutOfBoundsException") ∈ FW := List.mem_of_getElem? (i := 62) (by decide +kernel)
theorem sn_14 : Cond.not (.castable "java/lang/ArithmeticException" "java/lang/IndexOutOfBoundsException") ∈ FW := List.mem_of_getElem? (i := 63) (by decide +kernel)
theorem sn_15 : Cond.not (.castable "java/lang/IllegalArgumentException" "java/lang/UnsupportedOperationException") ∈ FW := List.mem_of_getElem? (i := 76) (by decide +kernel)
theorem sn_16 : Cond.not (.castable "java/lang/IllegalStateException" "java/lang/UnsupportedOperationException") ∈ FW := List.mem_of_getElem? (i := 77) (by decide +kernel)
theorem sn_17 : Cond.not (.castable "java/lang/IndexOutOfBoundsException" "java/lang/UnsupportedOperationException") ∈ FW := List.mem_of_getElem? (i := 79) (by decide +kernel)
theorem sn_18 : Cond.not (.castable "java/util/NoSuchElementException" "java/lang/UnsupportedOperationException") ∈ FW := List.mem_of_getElem? (i := 80) (by decide +kernel)
theorem sn_19 : Cond.not (.castable "java/lang/ArithmeticException" "java/lang/UnsupportedOperationException") ∈ FW := List.mem_of_getElem? (i := 81) (by decide +kernel)
theorem sn_20 : Cond.not (.castable "java/lang/IllegalArgumentException" "java/util/NoSuchElementException") ∈ FW := List.mem_of_getElem? (i := 94) (by decide +kernel)
theorem sn_21 : Cond.not (.castable "java/lang/IllegalStateException" "java/util/NoSuchElementException") ∈ FW := List.mem_of_getElem? (i := 95) (by decide +kernel)
theorem sn_22 : Cond.not (.castable "java/lang/IndexOutOfBoundsException" "java/util/NoSuchElementException") ∈ FW := List.mem_of_getElem? (i := 97) (by decide +kernel)
theorem sn_23 : Cond.not (.castable "java/lang/UnsupportedOperationException" "java/util/NoSuchElementException") ∈ FW := List.mem_of_getElem? (i := 98) (by decide +kernel)
theorem sn_24 : Cond.not (.castable "java/lang/ArithmeticException" "java/util/NoSuchElementException") ∈ FW := List.mem_of_getElem? (i := 99) (by decide +kernel)
theorem sn_25 : Cond.not (.castable "java/lang/IllegalArgumentException" "java/lang/ArithmeticException") ∈ FW := List.mem_of_getElem? (i := 112) (by decide +kernel)
theorem sn_26 : Cond.not (.castable "java/lang/IllegalStateException" "java/lang/ArithmeticException") ∈ FW := List.mem_of_getElem? (i := 113) (by decide +kernel)
theorem sn_27 : Cond.not (.castable "java/lang/IndexOutOfBoundsException" "java/lang/ArithmeticException") ∈ FW := List.mem_of_getElem? (i := 115) (by decide +kernel)
theorem sn_28 : Cond.not (.castable "java/lang/UnsupportedOperationException" "java/lang/ArithmeticException") ∈ FW := List.mem_of_getElem? (i := 116) (by decide +kernel)
theorem sn_29 : Cond.not (.castable "java/util/NoSuchElementException" "java/lang/ArithmeticException") ∈ FW := List.mem_of_getElem? (i := 117) (by decide +kernel)
theorem st_nc : ∀ q ∈ xNcs, Cond.not (.castable q.1 q.2) ∈ FW := List.forall_mem_cons.mpr ⟨sn_0, List.forall_mem_cons.mpr ⟨sn_1, List.forall_mem_cons.mpr ⟨sn_2, List.forall_mem_cons.mpr ⟨sn_3, List.forall_mem_cons.mpr ⟨sn_4, List.forall_mem_cons.mpr ⟨sn_5, List.forall_mem_cons.mpr ⟨sn_6, List.forall_mem_cons.mpr ⟨sn_7, List.forall_mem_cons.mpr ⟨sn_8, List.forall_mem_cons.mpr ⟨sn_9, List.forall_mem_cons.mpr ⟨sn_10, List.forall_mem_cons.mpr ⟨sn_11, List.forall_mem_cons.mpr ⟨sn_12, List.forall_mem_cons.mpr ⟨sn_13, List.forall_mem_cons.mpr ⟨sn_14, List.forall_mem_cons.mpr ⟨sn_15, List.forall_mem_cons.mpr ⟨sn_16, List.forall_mem_cons.mpr ⟨sn_17, List.forall_mem_cons.mpr ⟨sn_18, List.forall_mem_cons.mpr ⟨sn_19, List.forall_mem_cons.mpr ⟨sn_20, List.forall_mem_cons.mpr ⟨sn_21, List.forall_mem_cons.mpr ⟨sn_22, List.forall_mem_cons.mpr ⟨sn_23, List.forall_mem_cons.mpr ⟨sn_24, List.forall_mem_cons.mpr ⟨sn_25, List.forall_mem_cons.mpr ⟨sn_26, List.forall_mem_cons.mpr ⟨sn_27, List.forall_mem_cons.mpr ⟨sn_28, List.forall_mem_cons.mpr ⟨sn_29, fun _ h => nomatch h⟩⟩⟩⟩⟩⟩⟩⟩⟩⟩⟩⟩⟩⟩⟩⟩⟩⟩⟩⟩⟩⟩⟩⟩⟩⟩⟩⟩⟩⟩
/-- the words on a string constant -/
def SWq (q : String × Nat × String × List Int32) : Prop := q.2.2.2.length < 100 ∧ Cond.stringRef q.1 q.2.1 q.2.2.1 ∈ lw_tbl ∧ Cond.exactly (.string q.1 q.2.1) "java/lang/String" ∈ FW ∧ Cond.eq (.field (.string q.1 q.2.1) "java/lang/String" "coder" "B") (.int 0) ∈ FW ∧ Cond.arrayOf (.field (.string q.1 q.2.1) "java/lang/String" "value" "[B") .byte ∈ FW ∧ Cond.eq (.length (.field (.string q.1 q.2.1) "java/lang/String" "value" "[B")) (.int (Int32.ofNat q.2.2.2.length)) ∈ FW ∧ ∀ j, j < q.2.2.2.length → Cond.eq (.elem (.field (.string q.1 q.2.1) "java/lang/String" "value" "[B") (.int (Int32.ofNat j))) (.int (q.2.2.2.getD j 0)) ∈ FW
theorem ss_0 : SWq ("Tracewheel", 72, "iklsud+-*/%<w=jzngpcmrt", [105, 107, 108, 115, 117, 100, 43, 45, 42, 47, 37, 60, 119, 61, 106, 122, 110, 103, 112, 99, 109, 114, 116]) := ⟨by decide, wm_4 (List.mem_of_getElem? (i := 32) (by decide +kernel)), List.mem_of_getElem? (i := 208) (by decide +kernel), List.mem_of_getElem? (i := 209) (by decide +kernel), List.mem_of_getElem? (i := 210) (by decide +kernel), List.mem_of_getElem? (i := 211) (by decide +kernel), fun j hj => List.mem_of_getElem? (i := 212 + j) ((by decide +kernel : ∀ j, j < 23 → FW[212 + j]? = some (Cond.eq (.elem (.field (.string "Tracewheel" 72) "java/lang/String" "value" "[B") (.int (Int32.ofNat j))) (.int (([105, 107, 108, 115, 117, 100, 43, 45, 42, 47, 37, 60, 119, 61, 106, 122, 110, 103, 112, 99, 109, 114, 116] : List Int32).getD j 0)))) j hj)⟩
theorem ss_1 : SWq ("Tracewheel$Machine", 173, "+-*/%<=", [43, 45, 42, 47, 37, 60, 61]) := ⟨by decide, wm_5 (List.mem_of_getElem? (i := 96) (by decide +kernel)), List.mem_of_getElem? (i := 601) (by decide +kernel), List.mem_of_getElem? (i := 602) (by decide +kernel), List.mem_of_getElem? (i := 603) (by decide +kernel), List.mem_of_getElem? (i := 604) (by decide +kernel), fun j hj => List.mem_of_getElem? (i := 605 + j) ((by decide +kernel : ∀ j, j < 7 → FW[605 + j]? = some (Cond.eq (.elem (.field (.string "Tracewheel$Machine" 173) "java/lang/String" "value" "[B") (.int (Int32.ofNat j))) (.int (([43, 45, 42, 47, 37, 60, 61] : List Int32).getD j 0)))) j hj)⟩
theorem ss_2 : SWq ("Tracewheel$Machine", 187, "+-*/%<", [43, 45, 42, 47, 37, 60]) := ⟨by decide, wm_5 (List.mem_of_getElem? (i := 114) (by decide +kernel)), List.mem_of_getElem? (i := 612) (by decide +kernel), List.mem_of_getElem? (i := 613) (by decide +kernel), List.mem_of_getElem? (i := 614) (by decide +kernel), List.mem_of_getElem? (i := 615) (by decide +kernel), fun j hj => List.mem_of_getElem? (i := 616 + j) ((by decide +kernel : ∀ j, j < 6 → FW[616 + j]? = some (Cond.eq (.elem (.field (.string "Tracewheel$Machine" 187) "java/lang/String" "value" "[B") (.int (Int32.ofNat j))) (.int (([43, 45, 42, 47, 37, 60] : List Int32).getD j 0)))) j hj)⟩
theorem ss_3 : SWq ("Tracewheel$Recorder", 120, "+-*/%<=", [43, 45, 42, 47, 37, 60, 61]) := ⟨by decide, wm_6 (List.mem_of_getElem? (i := 185) (by decide +kernel)), List.mem_of_getElem? (i := 622) (by decide +kernel), List.mem_of_getElem? (i := 623) (by decide +kernel), List.mem_of_getElem? (i := 624) (by decide +kernel), List.mem_of_getElem? (i := 625) (by decide +kernel), fun j hj => List.mem_of_getElem? (i := 626 + j) ((by decide +kernel : ∀ j, j < 7 → FW[626 + j]? = some (Cond.eq (.elem (.field (.string "Tracewheel$Recorder" 120) "java/lang/String" "value" "[B") (.int (Int32.ofNat j))) (.int (([43, 45, 42, 47, 37, 60, 61] : List Int32).getD j 0)))) j hj)⟩
theorem ss_4 : SWq ("Tracewheel$Recorder", 135, "+-*/", [43, 45, 42, 47]) := ⟨by decide, wm_6 (List.mem_of_getElem? (i := 188) (by decide +kernel)), List.mem_of_getElem? (i := 634) (by decide +kernel), List.mem_of_getElem? (i := 635) (by decide +kernel), List.mem_of_getElem? (i := 636) (by decide +kernel), List.mem_of_getElem? (i := 637) (by decide +kernel), fun j hj => List.mem_of_getElem? (i := 638 + j) ((by decide +kernel : ∀ j, j < 4 → FW[638 + j]? = some (Cond.eq (.elem (.field (.string "Tracewheel$Recorder" 135) "java/lang/String" "value" "[B") (.int (Int32.ofNat j))) (.int (([43, 45, 42, 47] : List Int32).getD j 0)))) j hj)⟩
theorem ss_5 : SWq ("Tracewheel$Recorder", 167, "ikngw+-*/%<=", [105, 107, 110, 103, 119, 43, 45, 42, 47, 37, 60, 61]) := ⟨by decide, wm_6 (List.mem_of_getElem? (i := 193) (by decide +kernel)), List.mem_of_getElem? (i := 642) (by decide +kernel), List.mem_of_getElem? (i := 643) (by decide +kernel), List.mem_of_getElem? (i := 644) (by decide +kernel), List.mem_of_getElem? (i := 645) (by decide +kernel), fun j hj => List.mem_of_getElem? (i := 646 + j) ((by decide +kernel : ∀ j, j < 12 → FW[646 + j]? = some (Cond.eq (.elem (.field (.string "Tracewheel$Recorder" 167) "java/lang/String" "value" "[B") (.int (Int32.ofNat j))) (.int (([105, 107, 110, 103, 119, 43, 45, 42, 47, 37, 60, 61] : List Int32).getD j 0)))) j hj)⟩
theorem ss_6 : SWq ("Tracewheel", 418, "gpm", [103, 112, 109]) := ⟨by decide, wm_7 (List.mem_of_getElem? (i := 143) (by decide +kernel)), List.mem_of_getElem? (i := 865) (by decide +kernel), List.mem_of_getElem? (i := 866) (by decide +kernel), List.mem_of_getElem? (i := 867) (by decide +kernel), List.mem_of_getElem? (i := 868) (by decide +kernel), fun j hj => List.mem_of_getElem? (i := 869 + j) ((by decide +kernel : ∀ j, j < 3 → FW[869 + j]? = some (Cond.eq (.elem (.field (.string "Tracewheel" 418) "java/lang/String" "value" "[B") (.int (Int32.ofNat j))) (.int (([103, 112, 109] : List Int32).getD j 0)))) j hj)⟩
theorem st_str : ∀ q ∈ xSTab, SWq q := List.forall_mem_cons.mpr ⟨ss_0, List.forall_mem_cons.mpr ⟨ss_1, List.forall_mem_cons.mpr ⟨ss_2, List.forall_mem_cons.mpr ⟨ss_3, List.forall_mem_cons.mpr ⟨ss_4, List.forall_mem_cons.mpr ⟨ss_5, List.forall_mem_cons.mpr ⟨ss_6, fun _ h => nomatch h⟩⟩⟩⟩⟩⟩⟩
theorem si_1 : Cond.instantiable "Tracewheel$Caches" 4 ∈ lw_tbl := wm_1 (List.mem_of_getElem? (i := 239) (by decide +kernel))
theorem si_2 : Cond.instantiable "Tracewheel$Forest" 6 ∈ lw_tbl := wm_2 (List.mem_of_getElem? (i := 214) (by decide +kernel))
theorem si_3 : Cond.instantiable "Tracewheel$Heads" 3 ∈ lw_tbl := wm_2 (List.mem_of_getElem? (i := 20) (by decide +kernel))
theorem si_4 : Cond.instantiable "Tracewheel$Machine" 16 ∈ lw_tbl := wm_1 (List.mem_of_getElem? (i := 138) (by decide +kernel))
theorem si_5 : Cond.instantiable "Tracewheel$Program" 10 ∈ lw_tbl := wm_1 (List.mem_of_getElem? (i := 44) (by decide +kernel))
theorem si_6 : Cond.instantiable "Tracewheel$Recorder" 16 ∈ lw_tbl := wm_2 (List.mem_of_getElem? (i := 42) (by decide +kernel))
theorem si_7 : Cond.instantiable "Tracewheel$Shapes" 7 ∈ lw_tbl := wm_1 (List.mem_of_getElem? (i := 103) (by decide +kernel))
theorem si_8 : Cond.instantiable "Tracewheel$Slots" 4 ∈ lw_tbl := wm_1 (List.mem_of_getElem? (i := 144) (by decide +kernel))
theorem si_9 : Cond.instantiable "Tracewheel$Trace" 17 ∈ lw_tbl := wm_2 (List.mem_of_getElem? (i := 112) (by decide +kernel))
theorem si_10 : Cond.instantiable "Tracewheel$Wheel" 13 ∈ lw_tbl := wm_1 (List.mem_of_getElem? (i := 233) (by decide +kernel))
theorem si_11 : Cond.instantiable "Tracewheel" 6 ∈ lw_tbl := wm_1 (List.mem_of_getElem? (i := 36) (by decide +kernel))
theorem si_12 : Cond.instantiable "TracewheelModel" 91 ∈ lw_tbl := wm_8 (List.mem_of_getElem? (i := 61) (by decide +kernel))
theorem st_inst (t : Nat) (h1 : 1 ≤ t) (h2 : t ≤ 12) : Cond.instantiable (vmQ t).1 (vmQ t).2.2 ∈ lw_tbl := by
  have : t = 1 ∨ t = 2 ∨ t = 3 ∨ t = 4 ∨ t = 5 ∨ t = 6 ∨ t = 7 ∨ t = 8 ∨ t = 9 ∨ t = 10 ∨ t = 11 ∨ t = 12 := by omega
  rcases this with rfl | rfl | rfl | rfl | rfl | rfl | rfl | rfl | rfl | rfl | rfl | rfl
  · exact si_1
  · exact si_2
  · exact si_3
  · exact si_4
  · exact si_5
  · exact si_6
  · exact si_7
  · exact si_8
  · exact si_9
  · exact si_10
  · exact si_11
  · exact si_12
theorem st_over : Cond.arrayOver (.object "Tracewheel$Trace") ∈ lw_tbl := wm_2 (List.mem_of_getElem? (i := 220) (by decide +kernel))
theorem st_l1 : Cond.laysStatic "java/lang/Throwable" "UNASSIGNED_STACK" "[Ljava/lang/StackTraceElement;" ∈ lw_tbl := wm_3 (List.mem_of_getElem? (i := 155) (by decide +kernel))
theorem st_l2 : Cond.laysStatic "java/lang/Throwable" "SUPPRESSED_SENTINEL" "Ljava/util/List;" ∈ lw_tbl := wm_3 (List.mem_of_getElem? (i := 157) (by decide +kernel))
theorem st_l3 : Cond.laysStatic "java/lang/String" "COMPACT_STRINGS" "Z" ∈ lw_tbl := wm_4 (List.mem_of_getElem? (i := 46) (by decide +kernel))
theorem st_r1 : Cond.isRef (.static "java/lang/Throwable" "UNASSIGNED_STACK" "[Ljava/lang/StackTraceElement;") ∈ FW := List.mem_of_getElem? (i := 4) (by decide +kernel)
theorem st_r2 : Cond.isRef (.static "java/lang/Throwable" "SUPPRESSED_SENTINEL" "Ljava/util/List;") ∈ FW := List.mem_of_getElem? (i := 5) (by decide +kernel)
theorem st_r3 : Cond.eq (.static "java/lang/String" "COMPACT_STRINGS" "Z") (.int 1) ∈ FW := List.mem_of_getElem? (i := 6) (by decide +kernel)
variable {s : State} {args : Array Value}
theorem start_str {own tx : String} {k : Nat} {bs : List Int32} (hl : bs.length < 100) (h1 : (Cond.stringRef own k tx).before args s = true) (h2 : (Cond.exactly (.string own k) "java/lang/String").before args s = true) (h3 : (Cond.eq (.field (.string own k) "java/lang/String" "coder" "B") (.int 0)).before args s = true) (h4 : (Cond.arrayOf (.field (.string own k) "java/lang/String" "value" "[B") .byte).before args s = true) (h5 : (Cond.eq (.length (.field (.string own k) "java/lang/String" "value" "[B")) (.int (Int32.ofNat bs.length))).before args s = true)
    (h6 : ∀ j, j < bs.length → (Cond.eq (.elem (.field (.string own k) "java/lang/String" "value" "[B") (.int (Int32.ofNat j))) (.int (bs.getD j 0))).before args s = true) : ∃ a v, xS1 s.heap.size a v s s.heap (own, k, tx, bs) := by
  have hA : ∀ a : Nat, a < s.heap.size → ¬ xA s.heap.size a := fun a ha => Nat.not_le.mpr ha
  obtain ⟨a, c, cA, kA, q1, -⟩ := Cond.exactly_spec (args := args) (first := s) (o := none) (s := s) (idx := []) (t := .string own k) (cls := "java/lang/String") h2
  obtain ⟨v, hv, hT⟩ := va_Tof (N := bs.length) (f := fun j => .int (bs.getD j 0)) (A := xA s.heap.size) (Nat.lt_trans hl (by decide)) h4 (va_eqt h5) (fun j hj => va_eqt (h6 j hj)) hA
  exact ⟨a, v, vk_R.of h1 q1, va_Oof h2 q1 hA, vk_OFof q1 (va_eqt h3) hA, vk_OFof q1 hv hA, hT⟩
theorem start_D (hts : ∀ w ∈ lw_tbl, w.before args s = true) {scr : Cell} (hof : s.isArrayOf scr .int) : ∃ D : xG, xKn D s ∧ D.1 27 = scr.cls := by
  have hx : ∀ w ∈ xTs, w.before args s = true := fun w hw => hts w (List.mem_filter.mp hw).1
  have key : ∀ t : Nat, ∃ d : ClassId × (Nat → Nat), (1 ≤ t → t ≤ 12 → u_Kn s (vmQ t).1 (vmQ t).2.1 (vmQ t).2.2 d.1 d.2) ∧ (21 ≤ t → t ≤ 27 → ArrOfT s d.1 (xty t 0)) ∧ (21 ≤ t → t ≤ 26 → va_RA s d.1 (xty t 0)) ∧ (t = 27 → d.1 = scr.cls) := by
    intro t
    by_cases h1 : 1 ≤ t ∧ t ≤ 12
    · obtain ⟨c, p, hK⟩ := u_known (ws := xTs) hx (xlay_all t h1.1 h1.2) (hts _ (st_inst t h1.1 h1.2))
      exact ⟨(c, p), fun _ _ => hK, fun h => absurd h (by omega), fun h => absurd h (by omega), fun h => absurd h (by omega)⟩
    · by_cases h2 : t = 27
      · subst h2
        obtain ⟨e1, kA, e2, comp, e3⟩ := hof
        exact ⟨(scr.cls, fun _ => 0), fun _ h => absurd h (by omega), fun _ _ => fun n z => ⟨fun k h => (by cases h), kA, e2, comp, e3⟩, fun _ h => absurd h (by omega), fun _ => rfl⟩
      · by_cases h4 : t = 26
        · subst h4
          obtain ⟨comp, c, k, q1, q2, q3, q4, q5⟩ := Cond.arrayOver_spec (args := args) (first := s) (o := none) (idx := []) (hts _ st_over)
          exact ⟨(c, fun _ => 0), fun _ h => absurd h (by omega), fun _ _ => fun n z => ⟨fun k h => (by cases h), k, q3, comp, q4⟩, fun _ _ => ⟨k, comp, q3, q4, q1, q5⟩, fun h => absurd h (by omega)⟩
        · by_cases h3 : 21 ≤ t ∧ t ≤ 25
          · have ht : t = 21 ∨ t = 22 ∨ t = 23 ∨ t = 24 ∨ t = 25 := by omega
            have hw : Cond.arrayClass (xty t 0) ∈ xTs := by
              rcases ht with rfl | rfl | rfl | rfl | rfl
              · exact w1_100
              · exact w1_101
              · exact w9_100
              · exact w9_101
              · exact w1_166
            obtain ⟨c, k, comp, q1, q2, q3⟩ := Cond.arrayClass_spec (args := args) (first := s) (o := none) (idx := []) (hx _ hw)
            refine ⟨(c, fun _ => 0), fun _ h => absurd h (by omega), fun _ _ => fun n z => ⟨fun k h => (by cases h), k, q2, comp, q3⟩, fun _ _ => ?_, fun h => absurd h (by omega)⟩
            rcases ht with rfl | rfl | rfl | rfl | rfl <;> exact q1
          · exact ⟨(0, fun _ => 0), fun h h' => absurd ⟨h, h'⟩ h1, fun h h' => absurd h (by omega), fun h h' => absurd h (by omega), fun h => absurd h h2⟩
  obtain ⟨f, hf⟩ := Classical.axiomOfChoice key
  exact ⟨(fun t => (f t).1, fun t => (f t).2), ⟨fun t h1 h2 => (hf t).1 h1 h2, fun t h1 h2 => (hf t).2.1 h1 h2, fun t h1 h2 => (hf t).2.2.1 h1 h2⟩, (hf 27).2.2.2 rfl⟩
theorem start_Ev (hts : ∀ w ∈ lw_tbl, w.before args s = true) (hs : ∀ w ∈ FW, w.before args s = true) : ∃ fa fv : Nat → Nat, ∀ ad : Nat → Nat, (∀ i, i < 7 → ad (2147483648 + i) = fa i ∧ ad (2147483648 + (1000 + i)) = fv i) → xEv s.heap.size ad s s.heap := by
  have hA : ∀ a : Nat, a < s.heap.size → ¬ xA s.heap.size a := fun a ha => Nat.not_le.mpr ha
  have hx : ∀ w ∈ xTs, w.before args s = true := fun w hw => hts w (List.mem_filter.mp hw).1
  have key : ∀ i : Nat, ∃ p : Nat × Nat, ∀ q, xSTab[i]? = some q → xS1 s.heap.size p.1 p.2 s s.heap q := by
    intro i
    cases e : xSTab[i]? with
    | none => exact ⟨(0, 0), fun q h => by cases h⟩
    | some q =>
      obtain ⟨b0, b1, b2, b3, b4, b5, b6⟩ := st_str q (List.mem_of_getElem? e)
      obtain ⟨a, v, h⟩ := start_str b0 (hts _ b1) (hs _ b2) (hs _ b3) (hs _ b4) (hs _ b5) (fun j hj => hs _ (b6 j hj))
      exact ⟨(a, v), fun q' h' => by cases h'; exact h⟩
  obtain ⟨f, hf⟩ := Classical.axiomOfChoice key
  refine ⟨fun i => (f i).1, fun i => (f i).2, fun ad had => ⟨vx_Zqof (hts _ st_l1) (hx _ w1_16) (hs _ st_r1) hA, vx_Zqof (hts _ st_l2) (hx _ w1_16) (hs _ st_r2) hA, fun q hq => ?_, va_Zof (hts _ st_l3) (hx _ w1_23) (va_eqt (hs _ st_r3)) hA, fun i q hq => ?_, fun w hw => va_tabs (st_t2o w hw) rfl (hts _ (st_t2 w hw)), fun q hq => va_Nc.of (hs _ (st_nc q hq)), va_AO.of (hts _ st_over)⟩⟩
  · obtain ⟨m1, m2⟩ := st_msg q hq
    obtain ⟨a, c, cA, kA, q1, -⟩ := Cond.exactly_spec (args := args) (first := s) (o := none) (s := s) (idx := []) (t := .string q.1 q.2.1) (cls := "java/lang/String") (hs _ m2)
    exact ⟨a, vk_R.of (hts _ m1) q1⟩
  · have hi : i < 7 := by
      rw [← xSTab_len]
      exact (List.getElem?_eq_some_iff.mp hq).1
    obtain ⟨g1, g2⟩ := had i hi
    rw [g1, g2]
    exact hf i q hq
end START
