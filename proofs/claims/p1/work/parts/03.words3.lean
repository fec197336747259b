section VMW3
theorem w8_19 : Cond.code ⟨"Tracewheel", "begun", "(I)I"⟩ prog_1_method_40_code 2 (some .int) ∈ xTs := xin (wm_8 (List.mem_of_getElem? (i := 19) (by decide +kernel))) rfl
theorem w8_20 : Cond.methodLink "TracewheelLaw" 293 ⟨"TracewheelLaw", "tracedShare", "(LTracewheel;[D)I"⟩ ∈ xTs := xin (wm_8 (List.mem_of_getElem? (i := 20) (by decide +kernel))) rfl
theorem w8_21 : Cond.static ⟨"TracewheelLaw", "tracedShare", "(LTracewheel;[D)I"⟩ ∈ xTs := xin (wm_8 (List.mem_of_getElem? (i := 21) (by decide +kernel))) rfl
theorem w8_22 : Cond.codeWith ⟨"TracewheelLaw", "tracedShare", "(LTracewheel;[D)I"⟩ method_37_code 3 (some .int) [(0, 8, 11, 138)] ∈ xTs := xin (wm_8 (List.mem_of_getElem? (i := 22) (by decide +kernel))) rfl
theorem w8_23 : Cond.classLink "TracewheelLaw" 138 "java/lang/ArithmeticException" ∈ xTs := xin (wm_8 (List.mem_of_getElem? (i := 23) (by decide +kernel))) rfl
theorem w8_24 : Cond.instantiable "java/lang/ArithmeticException" 6 ∈ xTs := xin (wm_8 (List.mem_of_getElem? (i := 24) (by decide +kernel))) rfl
theorem w8_25 : Cond.instanceMethod ⟨"java/lang/ArithmeticException", "<init>", "(Ljava/lang/String;)V"⟩ ∈ xTs := xin (wm_8 (List.mem_of_getElem? (i := 25) (by decide +kernel))) rfl
theorem w8_26 : Cond.code ⟨"java/lang/ArithmeticException", "<init>", "(Ljava/lang/String;)V"⟩ prog_16_method_2_code 2 none ∈ xTs := xin (wm_8 (List.mem_of_getElem? (i := 26) (by decide +kernel))) rfl
theorem w8_27 : Cond.methodLink "java/lang/ArithmeticException" 7 ⟨"java/lang/RuntimeException", "<init>", "(Ljava/lang/String;)V"⟩ ∈ xTs := xin (wm_8 (List.mem_of_getElem? (i := 27) (by decide +kernel))) rfl
theorem w8_36 : Cond.selects "java/lang/ArithmeticException" ⟨"java/lang/Throwable", "fillInStackTrace", "(I)Ljava/lang/Throwable;"⟩ ⟨"java/lang/Throwable", "fillInStackTrace", "(I)Ljava/lang/Throwable;"⟩ ∈ xTs := xin (wm_8 (List.mem_of_getElem? (i := 36) (by decide +kernel))) rfl
theorem w8_37 : Cond.methodLink "TracewheelLaw" 134 ⟨"Tracewheel", "tracedShare", "()F"⟩ ∈ xTs := xin (wm_8 (List.mem_of_getElem? (i := 37) (by decide +kernel))) rfl
theorem w8_38 : Cond.instanceMethod ⟨"Tracewheel", "tracedShare", "()F"⟩ ∈ xTs := xin (wm_8 (List.mem_of_getElem? (i := 38) (by decide +kernel))) rfl
theorem w8_39 : Cond.selects "Tracewheel" ⟨"Tracewheel", "tracedShare", "()F"⟩ ⟨"Tracewheel", "tracedShare", "()F"⟩ ∈ xTs := xin (wm_8 (List.mem_of_getElem? (i := 39) (by decide +kernel))) rfl
theorem w8_40 : Cond.code ⟨"Tracewheel", "tracedShare", "()F"⟩ prog_1_method_44_code 1 (some .float) ∈ xTs := xin (wm_8 (List.mem_of_getElem? (i := 40) (by decide +kernel))) rfl
theorem w8_41 : Cond.classLink "Tracewheel" 386 "java/lang/ArithmeticException" ∈ xTs := xin (wm_8 (List.mem_of_getElem? (i := 41) (by decide +kernel))) rfl
theorem w8_43 : Cond.methodLink "Tracewheel" 390 ⟨"java/lang/ArithmeticException", "<init>", "(Ljava/lang/String;)V"⟩ ∈ xTs := xin (wm_8 (List.mem_of_getElem? (i := 43) (by decide +kernel))) rfl
theorem w8_44 : Cond.methodLink "TracewheelLaw" 297 ⟨"TracewheelLaw", "meanGuards", "(LTracewheel;[D)I"⟩ ∈ xTs := xin (wm_8 (List.mem_of_getElem? (i := 44) (by decide +kernel))) rfl
theorem w8_45 : Cond.static ⟨"TracewheelLaw", "meanGuards", "(LTracewheel;[D)I"⟩ ∈ xTs := xin (wm_8 (List.mem_of_getElem? (i := 45) (by decide +kernel))) rfl
theorem w8_46 : Cond.codeWith ⟨"TracewheelLaw", "meanGuards", "(LTracewheel;[D)I"⟩ method_38_code 3 (some .int) [(0, 7, 10, 138)] ∈ xTs := xin (wm_8 (List.mem_of_getElem? (i := 46) (by decide +kernel))) rfl
theorem w8_47 : Cond.methodLink "TracewheelLaw" 140 ⟨"Tracewheel", "meanGuards", "()D"⟩ ∈ xTs := xin (wm_8 (List.mem_of_getElem? (i := 47) (by decide +kernel))) rfl
theorem w8_48 : Cond.instanceMethod ⟨"Tracewheel", "meanGuards", "()D"⟩ ∈ xTs := xin (wm_8 (List.mem_of_getElem? (i := 48) (by decide +kernel))) rfl
theorem w8_49 : Cond.selects "Tracewheel" ⟨"Tracewheel", "meanGuards", "()D"⟩ ⟨"Tracewheel", "meanGuards", "()D"⟩ ∈ xTs := xin (wm_8 (List.mem_of_getElem? (i := 49) (by decide +kernel))) rfl
theorem w8_50 : Cond.code ⟨"Tracewheel", "meanGuards", "()D"⟩ prog_1_method_45_code 2 (some .double) ∈ xTs := xin (wm_8 (List.mem_of_getElem? (i := 50) (by decide +kernel))) rfl
theorem w8_51 : Cond.methodLink "Tracewheel" 391 ⟨"Tracewheel$Forest", "countThere", "()I"⟩ ∈ xTs := xin (wm_8 (List.mem_of_getElem? (i := 51) (by decide +kernel))) rfl
theorem w8_52 : Cond.instanceMethod ⟨"Tracewheel$Forest", "countThere", "()I"⟩ ∈ xTs := xin (wm_8 (List.mem_of_getElem? (i := 52) (by decide +kernel))) rfl
theorem w8_53 : Cond.selects "Tracewheel$Forest" ⟨"Tracewheel$Forest", "countThere", "()I"⟩ ⟨"Tracewheel$Forest", "countThere", "()I"⟩ ∈ xTs := xin (wm_8 (List.mem_of_getElem? (i := 53) (by decide +kernel))) rfl
theorem w8_54 : Cond.code ⟨"Tracewheel$Forest", "countThere", "()I"⟩ prog_3_method_4_code 3 (some .int) ∈ xTs := xin (wm_8 (List.mem_of_getElem? (i := 54) (by decide +kernel))) rfl
theorem w8_56 : Cond.methodLink "Tracewheel" 396 ⟨"Tracewheel$Forest", "guardsThere", "()I"⟩ ∈ xTs := xin (wm_8 (List.mem_of_getElem? (i := 56) (by decide +kernel))) rfl
theorem w8_57 : Cond.instanceMethod ⟨"Tracewheel$Forest", "guardsThere", "()I"⟩ ∈ xTs := xin (wm_8 (List.mem_of_getElem? (i := 57) (by decide +kernel))) rfl
theorem w8_58 : Cond.selects "Tracewheel$Forest" ⟨"Tracewheel$Forest", "guardsThere", "()I"⟩ ⟨"Tracewheel$Forest", "guardsThere", "()I"⟩ ∈ xTs := xin (wm_8 (List.mem_of_getElem? (i := 58) (by decide +kernel))) rfl
theorem w8_59 : Cond.code ⟨"Tracewheel$Forest", "guardsThere", "()I"⟩ prog_3_method_5_code 3 (some .int) ∈ xTs := xin (wm_8 (List.mem_of_getElem? (i := 59) (by decide +kernel))) rfl
theorem w8_60 : Cond.classLink "TracewheelLaw" 145 "TracewheelModel" ∈ xTs := xin (wm_8 (List.mem_of_getElem? (i := 60) (by decide +kernel))) rfl
theorem w8_61 : Cond.instantiable "TracewheelModel" 91 ∈ xTs := xin (wm_8 (List.mem_of_getElem? (i := 61) (by decide +kernel))) rfl
theorem w8_62 : Cond.methodLink "TracewheelLaw" 147 ⟨"TracewheelModel", "<init>", "()V"⟩ ∈ xTs := xin (wm_8 (List.mem_of_getElem? (i := 62) (by decide +kernel))) rfl
theorem w8_63 : Cond.instanceMethod ⟨"TracewheelModel", "<init>", "()V"⟩ ∈ xTs := xin (wm_8 (List.mem_of_getElem? (i := 63) (by decide +kernel))) rfl
theorem w8_64 : Cond.code ⟨"TracewheelModel", "<init>", "()V"⟩ prog_14_method_1_code 2 none ∈ xTs := xin (wm_8 (List.mem_of_getElem? (i := 64) (by decide +kernel))) rfl
theorem w8_65 : Cond.methodLink "TracewheelModel" 1 ⟨"java/lang/Object", "<init>", "()V"⟩ ∈ xTs := xin (wm_8 (List.mem_of_getElem? (i := 65) (by decide +kernel))) rfl
theorem w8_66 : Cond.fieldLink "TracewheelModel" 202 "TracewheelModel" "code" "I" ∈ xTs := xin (wm_8 (List.mem_of_getElem? (i := 66) (by decide +kernel))) rfl
theorem w8_67 : Cond.fieldLink "TracewheelModel" 205 "TracewheelModel" "functions" "I" ∈ xTs := xin (wm_8 (List.mem_of_getElem? (i := 67) (by decide +kernel))) rfl
theorem w8_68 : Cond.fieldLink "TracewheelModel" 7 "TracewheelModel" "parameters" "[I" ∈ xTs := xin (wm_8 (List.mem_of_getElem? (i := 68) (by decide +kernel))) rfl
theorem w8_69 : Cond.fieldLink "TracewheelModel" 13 "TracewheelModel" "lengths" "[I" ∈ xTs := xin (wm_8 (List.mem_of_getElem? (i := 69) (by decide +kernel))) rfl
theorem w8_70 : Cond.fieldLink "TracewheelModel" 16 "TracewheelModel" "letters" "[C" ∈ xTs := xin (wm_8 (List.mem_of_getElem? (i := 70) (by decide +kernel))) rfl
theorem w8_71 : Cond.fieldLink "TracewheelModel" 20 "TracewheelModel" "operands" "[I" ∈ xTs := xin (wm_8 (List.mem_of_getElem? (i := 71) (by decide +kernel))) rfl
theorem w8_72 : Cond.fieldLink "TracewheelModel" 23 "TracewheelModel" "handlers" "[I" ∈ xTs := xin (wm_8 (List.mem_of_getElem? (i := 72) (by decide +kernel))) rfl
theorem w8_73 : Cond.fieldLink "TracewheelModel" 26 "TracewheelModel" "cells" "[I" ∈ xTs := xin (wm_8 (List.mem_of_getElem? (i := 73) (by decide +kernel))) rfl
theorem w8_74 : Cond.fieldLink "TracewheelModel" 216 "TracewheelModel" "classes" "I" ∈ xTs := xin (wm_8 (List.mem_of_getElem? (i := 74) (by decide +kernel))) rfl
theorem w8_75 : Cond.fieldLink "TracewheelModel" 29 "TracewheelModel" "parents" "[I" ∈ xTs := xin (wm_8 (List.mem_of_getElem? (i := 75) (by decide +kernel))) rfl
theorem w8_76 : Cond.fieldLink "TracewheelModel" 32 "TracewheelModel" "methods" "[I" ∈ xTs := xin (wm_8 (List.mem_of_getElem? (i := 76) (by decide +kernel))) rfl
theorem w8_77 : Cond.fieldLink "TracewheelModel" 35 "TracewheelModel" "firstShape" "[I" ∈ xTs := xin (wm_8 (List.mem_of_getElem? (i := 77) (by decide +kernel))) rfl
theorem w8_78 : Cond.fieldLink "TracewheelModel" 231 "TracewheelModel" "shapes" "I" ∈ xTs := xin (wm_8 (List.mem_of_getElem? (i := 78) (by decide +kernel))) rfl
theorem w8_79 : Cond.fieldLink "TracewheelModel" 38 "TracewheelModel" "shapeClass" "[I" ∈ xTs := xin (wm_8 (List.mem_of_getElem? (i := 79) (by decide +kernel))) rfl
theorem w8_80 : Cond.fieldLink "TracewheelModel" 41 "TracewheelModel" "shapeFields" "[I" ∈ xTs := xin (wm_8 (List.mem_of_getElem? (i := 80) (by decide +kernel))) rfl
theorem w8_81 : Cond.fieldLink "TracewheelModel" 44 "TracewheelModel" "fieldNames" "[I" ∈ xTs := xin (wm_8 (List.mem_of_getElem? (i := 81) (by decide +kernel))) rfl
theorem w8_82 : Cond.fieldLink "TracewheelModel" 47 "TracewheelModel" "followers" "[I" ∈ xTs := xin (wm_8 (List.mem_of_getElem? (i := 82) (by decide +kernel))) rfl
theorem w8_83 : Cond.fieldLink "TracewheelModel" 50 "TracewheelModel" "keyMany" "[I" ∈ xTs := xin (wm_8 (List.mem_of_getElem? (i := 83) (by decide +kernel))) rfl
theorem w8_84 : Cond.fieldLink "TracewheelModel" 53 "TracewheelModel" "keys" "[I" ∈ xTs := xin (wm_8 (List.mem_of_getElem? (i := 84) (by decide +kernel))) rfl
theorem w8_85 : Cond.fieldLink "TracewheelModel" 56 "TracewheelModel" "hitsOf" "[I" ∈ xTs := xin (wm_8 (List.mem_of_getElem? (i := 85) (by decide +kernel))) rfl
theorem w8_86 : Cond.fieldLink "TracewheelModel" 59 "TracewheelModel" "missesOf" "[I" ∈ xTs := xin (wm_8 (List.mem_of_getElem? (i := 86) (by decide +kernel))) rfl
theorem w8_87 : Cond.fieldLink "TracewheelModel" 62 "TracewheelModel" "counters" "[I" ∈ xTs := xin (wm_8 (List.mem_of_getElem? (i := 87) (by decide +kernel))) rfl
theorem w8_88 : Cond.fieldLink "TracewheelModel" 65 "TracewheelModel" "brokenOf" "[I" ∈ xTs := xin (wm_8 (List.mem_of_getElem? (i := 88) (by decide +kernel))) rfl
theorem w8_89 : Cond.fieldLink "TracewheelModel" 68 "TracewheelModel" "loopLimit" "I" ∈ xTs := xin (wm_8 (List.mem_of_getElem? (i := 89) (by decide +kernel))) rfl
theorem w8_90 : Cond.fieldLink "TracewheelModel" 72 "TracewheelModel" "exitLimit" "I" ∈ xTs := xin (wm_8 (List.mem_of_getElem? (i := 90) (by decide +kernel))) rfl
theorem w8_91 : Cond.fieldLink "TracewheelModel" 75 "TracewheelModel" "codeLimit" "I" ∈ xTs := xin (wm_8 (List.mem_of_getElem? (i := 91) (by decide +kernel))) rfl
theorem w8_92 : Cond.fieldLink "TracewheelModel" 256 "TracewheelModel" "traces" "I" ∈ xTs := xin (wm_8 (List.mem_of_getElem? (i := 92) (by decide +kernel))) rfl
theorem w8_93 : Cond.fieldLink "TracewheelModel" 78 "TracewheelModel" "there" "[Z" ∈ xTs := xin (wm_8 (List.mem_of_getElem? (i := 93) (by decide +kernel))) rfl
theorem w8_94 : Cond.fieldLink "TracewheelModel" 82 "TracewheelModel" "stepMany" "[I" ∈ xTs := xin (wm_8 (List.mem_of_getElem? (i := 94) (by decide +kernel))) rfl
theorem w8_95 : Cond.fieldLink "TracewheelModel" 85 "TracewheelModel" "lines" "[I" ∈ xTs := xin (wm_8 (List.mem_of_getElem? (i := 95) (by decide +kernel))) rfl
theorem w8_96 : Cond.fieldLink "TracewheelModel" 88 "TracewheelModel" "guardMany" "[I" ∈ xTs := xin (wm_8 (List.mem_of_getElem? (i := 96) (by decide +kernel))) rfl
theorem w8_97 : Cond.fieldLink "TracewheelModel" 91 "TracewheelModel" "roots" "[I" ∈ xTs := xin (wm_8 (List.mem_of_getElem? (i := 97) (by decide +kernel))) rfl
theorem w8_98 : Cond.fieldLink "TracewheelModel" 94 "TracewheelModel" "headOf" "[I" ∈ xTs := xin (wm_8 (List.mem_of_getElem? (i := 98) (by decide +kernel))) rfl
theorem w8_99 : Cond.fieldLink "TracewheelModel" 97 "TracewheelModel" "begun" "[I" ∈ xTs := xin (wm_8 (List.mem_of_getElem? (i := 99) (by decide +kernel))) rfl
theorem w8_100 : Cond.fieldLink "TracewheelModel" 100 "TracewheelModel" "entered" "[I" ∈ xTs := xin (wm_8 (List.mem_of_getElem? (i := 100) (by decide +kernel))) rfl
theorem w8_101 : Cond.fieldLink "TracewheelModel" 268 "TracewheelModel" "clock" "I" ∈ xTs := xin (wm_8 (List.mem_of_getElem? (i := 101) (by decide +kernel))) rfl
theorem w8_102 : Cond.fieldLink "TracewheelModel" 103 "TracewheelModel" "guardLetter" "[C" ∈ xTs := xin (wm_8 (List.mem_of_getElem? (i := 102) (by decide +kernel))) rfl
theorem w8_103 : Cond.fieldLink "TracewheelModel" 106 "TracewheelModel" "guardStep" "[I" ∈ xTs := xin (wm_8 (List.mem_of_getElem? (i := 103) (by decide +kernel))) rfl
theorem w8_104 : Cond.fieldLink "TracewheelModel" 109 "TracewheelModel" "guardDeep" "[I" ∈ xTs := xin (wm_8 (List.mem_of_getElem? (i := 104) (by decide +kernel))) rfl
theorem w8_105 : Cond.fieldLink "TracewheelModel" 112 "TracewheelModel" "guardWant" "[I" ∈ xTs := xin (wm_8 (List.mem_of_getElem? (i := 105) (by decide +kernel))) rfl
theorem w8_106 : Cond.fieldLink "TracewheelModel" 115 "TracewheelModel" "exits" "[I" ∈ xTs := xin (wm_8 (List.mem_of_getElem? (i := 106) (by decide +kernel))) rfl
theorem w8_107 : Cond.fieldLink "TracewheelModel" 118 "TracewheelModel" "guardCounter" "[I" ∈ xTs := xin (wm_8 (List.mem_of_getElem? (i := 107) (by decide +kernel))) rfl
theorem w8_108 : Cond.fieldLink "TracewheelModel" 121 "TracewheelModel" "guardBroken" "[I" ∈ xTs := xin (wm_8 (List.mem_of_getElem? (i := 108) (by decide +kernel))) rfl
theorem w8_109 : Cond.fieldLink "TracewheelModel" 124 "TracewheelModel" "sides" "[I" ∈ xTs := xin (wm_8 (List.mem_of_getElem? (i := 109) (by decide +kernel))) rfl
theorem w8_110 : Cond.fieldLink "TracewheelModel" 127 "TracewheelModel" "kinds" "[C" ∈ xTs := xin (wm_8 (List.mem_of_getElem? (i := 110) (by decide +kernel))) rfl
theorem w8_111 : Cond.fieldLink "TracewheelModel" 130 "TracewheelModel" "numbers" "[I" ∈ xTs := xin (wm_8 (List.mem_of_getElem? (i := 111) (by decide +kernel))) rfl
theorem w8_112 : Cond.fieldLink "TracewheelModel" 133 "TracewheelModel" "floats" "[D" ∈ xTs := xin (wm_8 (List.mem_of_getElem? (i := 112) (by decide +kernel))) rfl
theorem w8_113 : Cond.fieldLink "TracewheelModel" 137 "TracewheelModel" "ids" "[I" ∈ xTs := xin (wm_8 (List.mem_of_getElem? (i := 113) (by decide +kernel))) rfl
theorem w8_114 : Cond.fieldLink "TracewheelModel" 262 "TracewheelModel" "depth" "I" ∈ xTs := xin (wm_8 (List.mem_of_getElem? (i := 114) (by decide +kernel))) rfl
theorem w8_115 : Cond.fieldLink "TracewheelModel" 140 "TracewheelModel" "function" "[I" ∈ xTs := xin (wm_8 (List.mem_of_getElem? (i := 115) (by decide +kernel))) rfl
theorem w8_116 : Cond.fieldLink "TracewheelModel" 143 "TracewheelModel" "index" "[I" ∈ xTs := xin (wm_8 (List.mem_of_getElem? (i := 116) (by decide +kernel))) rfl
theorem w8_117 : Cond.fieldLink "TracewheelModel" 146 "TracewheelModel" "height" "[I" ∈ xTs := xin (wm_8 (List.mem_of_getElem? (i := 117) (by decide +kernel))) rfl
theorem w8_118 : Cond.fieldLink "TracewheelModel" 398 "TracewheelModel" "objects" "I" ∈ xTs := xin (wm_8 (List.mem_of_getElem? (i := 118) (by decide +kernel))) rfl
theorem w8_119 : Cond.fieldLink "TracewheelModel" 149 "TracewheelModel" "objectShape" "[I" ∈ xTs := xin (wm_8 (List.mem_of_getElem? (i := 119) (by decide +kernel))) rfl
theorem w8_120 : Cond.fieldLink "TracewheelModel" 152 "TracewheelModel" "fieldKind" "[C" ∈ xTs := xin (wm_8 (List.mem_of_getElem? (i := 120) (by decide +kernel))) rfl
theorem w8_121 : Cond.fieldLink "TracewheelModel" 155 "TracewheelModel" "fieldNumber" "[I" ∈ xTs := xin (wm_8 (List.mem_of_getElem? (i := 121) (by decide +kernel))) rfl
theorem w8_122 : Cond.fieldLink "TracewheelModel" 158 "TracewheelModel" "fieldFloat" "[D" ∈ xTs := xin (wm_8 (List.mem_of_getElem? (i := 122) (by decide +kernel))) rfl
theorem w8_123 : Cond.fieldLink "TracewheelModel" 436 "TracewheelModel" "executed" "I" ∈ xTs := xin (wm_8 (List.mem_of_getElem? (i := 123) (by decide +kernel))) rfl
theorem w8_124 : Cond.fieldLink "TracewheelModel" 505 "TracewheelModel" "traced" "I" ∈ xTs := xin (wm_8 (List.mem_of_getElem? (i := 124) (by decide +kernel))) rfl
theorem w8_125 : Cond.fieldLink "TracewheelModel" 426 "TracewheelModel" "tells" "I" ∈ xTs := xin (wm_8 (List.mem_of_getElem? (i := 125) (by decide +kernel))) rfl
theorem w8_126 : Cond.fieldLink "TracewheelModel" 161 "TracewheelModel" "tellKind" "[C" ∈ xTs := xin (wm_8 (List.mem_of_getElem? (i := 126) (by decide +kernel))) rfl
theorem w8_127 : Cond.fieldLink "TracewheelModel" 164 "TracewheelModel" "tellValue" "[J" ∈ xTs := xin (wm_8 (List.mem_of_getElem? (i := 127) (by decide +kernel))) rfl
theorem w8_128 : Cond.fieldLink "TracewheelModel" 168 "TracewheelModel" "outcome" "C" ∈ xTs := xin (wm_8 (List.mem_of_getElem? (i := 128) (by decide +kernel))) rfl
theorem w8_129 : Cond.fieldLink "TracewheelModel" 415 "TracewheelModel" "lastKind" "C" ∈ xTs := xin (wm_8 (List.mem_of_getElem? (i := 129) (by decide +kernel))) rfl
theorem w8_130 : Cond.fieldLink "TracewheelModel" 422 "TracewheelModel" "lastValue" "J" ∈ xTs := xin (wm_8 (List.mem_of_getElem? (i := 130) (by decide +kernel))) rfl
theorem w8_131 : Cond.fieldLink "TracewheelModel" 460 "TracewheelModel" "lastFailure" "C" ∈ xTs := xin (wm_8 (List.mem_of_getElem? (i := 131) (by decide +kernel))) rfl
theorem w8_132 : Cond.fieldLink "TracewheelModel" 463 "TracewheelModel" "lastLine" "I" ∈ xTs := xin (wm_8 (List.mem_of_getElem? (i := 132) (by decide +kernel))) rfl
theorem w8_133 : Cond.fieldLink "TracewheelModel" 412 "TracewheelModel" "isOn" "Z" ∈ xTs := xin (wm_8 (List.mem_of_getElem? (i := 133) (by decide +kernel))) rfl
theorem w8_134 : Cond.fieldLink "TracewheelModel" 172 "TracewheelModel" "trace" "I" ∈ xTs := xin (wm_8 (List.mem_of_getElem? (i := 134) (by decide +kernel))) rfl
theorem w8_135 : Cond.fieldLink "TracewheelModel" 259 "TracewheelModel" "at" "I" ∈ xTs := xin (wm_8 (List.mem_of_getElem? (i := 135) (by decide +kernel))) rfl
theorem w8_136 : Cond.fieldLink "TracewheelModel" 265 "TracewheelModel" "traceDepth" "I" ∈ xTs := xin (wm_8 (List.mem_of_getElem? (i := 136) (by decide +kernel))) rfl
theorem w8_137 : Cond.fieldLink "TracewheelModel" 353 "TracewheelModel" "isRecording" "Z" ∈ xTs := xin (wm_8 (List.mem_of_getElem? (i := 137) (by decide +kernel))) rfl
theorem w8_138 : Cond.fieldLink "TracewheelModel" 357 "TracewheelModel" "recordRoot" "I" ∈ xTs := xin (wm_8 (List.mem_of_getElem? (i := 138) (by decide +kernel))) rfl
theorem w8_139 : Cond.fieldLink "TracewheelModel" 360 "TracewheelModel" "recordGuard" "I" ∈ xTs := xin (wm_8 (List.mem_of_getElem? (i := 139) (by decide +kernel))) rfl
theorem w8_140 : Cond.fieldLink "TracewheelModel" 363 "TracewheelModel" "recordHead" "I" ∈ xTs := xin (wm_8 (List.mem_of_getElem? (i := 140) (by decide +kernel))) rfl
theorem w8_141 : Cond.fieldLink "TracewheelModel" 366 "TracewheelModel" "recordDepth" "I" ∈ xTs := xin (wm_8 (List.mem_of_getElem? (i := 141) (by decide +kernel))) rfl
theorem w8_142 : Cond.fieldLink "TracewheelModel" 328 "TracewheelModel" "recordSteps" "I" ∈ xTs := xin (wm_8 (List.mem_of_getElem? (i := 142) (by decide +kernel))) rfl
theorem w8_143 : Cond.fieldLink "TracewheelModel" 175 "TracewheelModel" "recordLines" "[I" ∈ xTs := xin (wm_8 (List.mem_of_getElem? (i := 143) (by decide +kernel))) rfl
theorem w8_144 : Cond.fieldLink "TracewheelModel" 325 "TracewheelModel" "recordGuards" "I" ∈ xTs := xin (wm_8 (List.mem_of_getElem? (i := 144) (by decide +kernel))) rfl
theorem w8_145 : Cond.fieldLink "TracewheelModel" 178 "TracewheelModel" "recordLetter" "[C" ∈ xTs := xin (wm_8 (List.mem_of_getElem? (i := 145) (by decide +kernel))) rfl
theorem w8_146 : Cond.fieldLink "TracewheelModel" 181 "TracewheelModel" "recordStep" "[I" ∈ xTs := xin (wm_8 (List.mem_of_getElem? (i := 146) (by decide +kernel))) rfl
theorem w8_147 : Cond.fieldLink "TracewheelModel" 184 "TracewheelModel" "recordDeep" "[I" ∈ xTs := xin (wm_8 (List.mem_of_getElem? (i := 147) (by decide +kernel))) rfl
theorem w8_148 : Cond.fieldLink "TracewheelModel" 187 "TracewheelModel" "recordWant" "[I" ∈ xTs := xin (wm_8 (List.mem_of_getElem? (i := 148) (by decide +kernel))) rfl
theorem w8_149 : Cond.fieldLink "TracewheelModel" 319 "TracewheelModel" "values" "I" ∈ xTs := xin (wm_8 (List.mem_of_getElem? (i := 149) (by decide +kernel))) rfl
theorem w8_150 : Cond.fieldLink "TracewheelModel" 190 "TracewheelModel" "knownKind" "[C" ∈ xTs := xin (wm_8 (List.mem_of_getElem? (i := 150) (by decide +kernel))) rfl
theorem w8_151 : Cond.fieldLink "TracewheelModel" 193 "TracewheelModel" "known" "[Z" ∈ xTs := xin (wm_8 (List.mem_of_getElem? (i := 151) (by decide +kernel))) rfl
theorem w8_152 : Cond.fieldLink "TracewheelModel" 196 "TracewheelModel" "knownShape" "[I" ∈ xTs := xin (wm_8 (List.mem_of_getElem? (i := 152) (by decide +kernel))) rfl
theorem w8_153 : Cond.fieldLink "TracewheelModel" 199 "TracewheelModel" "knownNull" "[I" ∈ xTs := xin (wm_8 (List.mem_of_getElem? (i := 153) (by decide +kernel))) rfl
theorem w8_154 : Cond.fieldLink "TracewheelModel" 287 "TracewheelModel" "kind" "C" ∈ xTs := xin (wm_8 (List.mem_of_getElem? (i := 154) (by decide +kernel))) rfl
theorem w8_155 : Cond.fieldLink "TracewheelModel" 290 "TracewheelModel" "number" "I" ∈ xTs := xin (wm_8 (List.mem_of_getElem? (i := 155) (by decide +kernel))) rfl
theorem w8_156 : Cond.fieldLink "TracewheelModel" 293 "TracewheelModel" "real" "D" ∈ xTs := xin (wm_8 (List.mem_of_getElem? (i := 156) (by decide +kernel))) rfl
theorem w9_100 : Cond.arrayClass FieldType.boolean ∈ xTs := xin (wm_9 (List.mem_of_getElem? (i := 100) (by decide +kernel))) rfl
theorem w9_101 : Cond.arrayClass FieldType.long ∈ xTs := xin (wm_9 (List.mem_of_getElem? (i := 101) (by decide +kernel))) rfl
theorem w9_102 : Cond.methodLink "TracewheelLaw" 154 ⟨"TracewheelModel", "thrown", "()I"⟩ ∈ xTs := xin (wm_9 (List.mem_of_getElem? (i := 102) (by decide +kernel))) rfl
theorem w9_103 : Cond.instanceMethod ⟨"TracewheelModel", "thrown", "()I"⟩ ∈ xTs := xin (wm_9 (List.mem_of_getElem? (i := 103) (by decide +kernel))) rfl
theorem w9_104 : Cond.selects "TracewheelModel" ⟨"TracewheelModel", "thrown", "()I"⟩ ⟨"TracewheelModel", "thrown", "()I"⟩ ∈ xTs := xin (wm_9 (List.mem_of_getElem? (i := 104) (by decide +kernel))) rfl
theorem w9_105 : Cond.code ⟨"TracewheelModel", "thrown", "()I"⟩ prog_14_method_2_code 1 (some .int) ∈ xTs := xin (wm_9 (List.mem_of_getElem? (i := 105) (by decide +kernel))) rfl
theorem w9_106 : Cond.methodLink "TracewheelLaw" 153 ⟨"TracewheelModel", "addFunction", "(I)I"⟩ ∈ xTs := xin (wm_9 (List.mem_of_getElem? (i := 106) (by decide +kernel))) rfl
theorem w9_107 : Cond.instanceMethod ⟨"TracewheelModel", "addFunction", "(I)I"⟩ ∈ xTs := xin (wm_9 (List.mem_of_getElem? (i := 107) (by decide +kernel))) rfl
theorem w9_108 : Cond.selects "TracewheelModel" ⟨"TracewheelModel", "addFunction", "(I)I"⟩ ⟨"TracewheelModel", "addFunction", "(I)I"⟩ ∈ xTs := xin (wm_9 (List.mem_of_getElem? (i := 108) (by decide +kernel))) rfl
theorem w9_109 : Cond.code ⟨"TracewheelModel", "addFunction", "(I)I"⟩ prog_14_method_6_code 2 (some .int) ∈ xTs := xin (wm_9 (List.mem_of_getElem? (i := 109) (by decide +kernel))) rfl
theorem w9_110 : Cond.methodLink "TracewheelModel" 208 ⟨"TracewheelModel", "in", "(III)Z"⟩ ∈ xTs := xin (wm_9 (List.mem_of_getElem? (i := 110) (by decide +kernel))) rfl
theorem w9_111 : Cond.static ⟨"TracewheelModel", "in", "(III)Z"⟩ ∈ xTs := xin (wm_9 (List.mem_of_getElem? (i := 111) (by decide +kernel))) rfl
theorem w9_112 : Cond.code ⟨"TracewheelModel", "in", "(III)Z"⟩ prog_14_method_3_code 3 (some .boolean) ∈ xTs := xin (wm_9 (List.mem_of_getElem? (i := 112) (by decide +kernel))) rfl
theorem w9_113 : Cond.methodLink "TracewheelModel" 212 ⟨"TracewheelModel", "fails", "(I)I"⟩ ∈ xTs := xin (wm_9 (List.mem_of_getElem? (i := 113) (by decide +kernel))) rfl
theorem w9_115 : Cond.instanceMethod ⟨"TracewheelModel", "fails", "(I)I"⟩ ∈ xTs := xin (wm_9 (List.mem_of_getElem? (i := 115) (by decide +kernel))) rfl
theorem w9_116 : Cond.code ⟨"TracewheelModel", "fails", "(I)I"⟩ prog_14_method_4_code 2 (some .int) ∈ xTs := xin (wm_9 (List.mem_of_getElem? (i := 116) (by decide +kernel))) rfl
theorem w9_117 : Cond.methodLink "TracewheelLaw" 160 ⟨"TracewheelModel", "code", "(ICI)I"⟩ ∈ xTs := xin (wm_9 (List.mem_of_getElem? (i := 117) (by decide +kernel))) rfl
theorem w9_118 : Cond.instanceMethod ⟨"TracewheelModel", "code", "(ICI)I"⟩ ∈ xTs := xin (wm_9 (List.mem_of_getElem? (i := 118) (by decide +kernel))) rfl
theorem w9_119 : Cond.selects "TracewheelModel" ⟨"TracewheelModel", "code", "(ICI)I"⟩ ⟨"TracewheelModel", "code", "(ICI)I"⟩ ∈ xTs := xin (wm_9 (List.mem_of_getElem? (i := 119) (by decide +kernel))) rfl
theorem w9_120 : Cond.code ⟨"TracewheelModel", "code", "(ICI)I"⟩ prog_14_method_9_code 4 (some .int) ∈ xTs := xin (wm_9 (List.mem_of_getElem? (i := 120) (by decide +kernel))) rfl
theorem w9_121 : Cond.methodLink "TracewheelModel" 223 ⟨"TracewheelModel", "isFunction", "(I)Z"⟩ ∈ xTs := xin (wm_9 (List.mem_of_getElem? (i := 121) (by decide +kernel))) rfl
theorem w9_123 : Cond.instanceMethod ⟨"TracewheelModel", "isFunction", "(I)Z"⟩ ∈ xTs := xin (wm_9 (List.mem_of_getElem? (i := 123) (by decide +kernel))) rfl
theorem w9_124 : Cond.code ⟨"TracewheelModel", "isFunction", "(I)Z"⟩ prog_14_method_5_code 2 (some .boolean) ∈ xTs := xin (wm_9 (List.mem_of_getElem? (i := 124) (by decide +kernel))) rfl
theorem w9_125 : Cond.methodLink "TracewheelModel" 227 ⟨"TracewheelModel", "isCode", "(CI)Z"⟩ ∈ xTs := xin (wm_9 (List.mem_of_getElem? (i := 125) (by decide +kernel))) rfl
theorem w9_127 : Cond.instanceMethod ⟨"TracewheelModel", "isCode", "(CI)Z"⟩ ∈ xTs := xin (wm_9 (List.mem_of_getElem? (i := 127) (by decide +kernel))) rfl
theorem w9_128 : Cond.code ⟨"TracewheelModel", "isCode", "(CI)Z"⟩ prog_14_method_7_code 4 (some .boolean) ∈ xTs := xin (wm_9 (List.mem_of_getElem? (i := 128) (by decide +kernel))) rfl
theorem w9_129 : Cond.methodLink "TracewheelModel" 219 ⟨"TracewheelModel", "isPair", "(C)Z"⟩ ∈ xTs := xin (wm_9 (List.mem_of_getElem? (i := 129) (by decide +kernel))) rfl
theorem w9_130 : Cond.static ⟨"TracewheelModel", "isPair", "(C)Z"⟩ ∈ xTs := xin (wm_9 (List.mem_of_getElem? (i := 130) (by decide +kernel))) rfl
theorem w9_131 : Cond.code ⟨"TracewheelModel", "isPair", "(C)Z"⟩ prog_14_method_8_code 1 (some .boolean) ∈ xTs := xin (wm_9 (List.mem_of_getElem? (i := 131) (by decide +kernel))) rfl
theorem w9_132 : Cond.methodLink "TracewheelLaw" 164 ⟨"TracewheelModel", "setHandler", "(II)I"⟩ ∈ xTs := xin (wm_9 (List.mem_of_getElem? (i := 132) (by decide +kernel))) rfl
theorem w9_133 : Cond.instanceMethod ⟨"TracewheelModel", "setHandler", "(II)I"⟩ ∈ xTs := xin (wm_9 (List.mem_of_getElem? (i := 133) (by decide +kernel))) rfl
theorem w9_134 : Cond.selects "TracewheelModel" ⟨"TracewheelModel", "setHandler", "(II)I"⟩ ⟨"TracewheelModel", "setHandler", "(II)I"⟩ ∈ xTs := xin (wm_9 (List.mem_of_getElem? (i := 134) (by decide +kernel))) rfl
theorem w9_135 : Cond.code ⟨"TracewheelModel", "setHandler", "(II)I"⟩ prog_14_method_10_code 4 (some .int) ∈ xTs := xin (wm_9 (List.mem_of_getElem? (i := 135) (by decide +kernel))) rfl
theorem w9_136 : Cond.methodLink "TracewheelLaw" 167 ⟨"TracewheelModel", "addClass", "(I)I"⟩ ∈ xTs := xin (wm_9 (List.mem_of_getElem? (i := 136) (by decide +kernel))) rfl
theorem w9_137 : Cond.instanceMethod ⟨"TracewheelModel", "addClass", "(I)I"⟩ ∈ xTs := xin (wm_9 (List.mem_of_getElem? (i := 137) (by decide +kernel))) rfl
theorem w9_138 : Cond.selects "TracewheelModel" ⟨"TracewheelModel", "addClass", "(I)I"⟩ ⟨"TracewheelModel", "addClass", "(I)I"⟩ ∈ xTs := xin (wm_9 (List.mem_of_getElem? (i := 138) (by decide +kernel))) rfl
theorem w9_139 : Cond.code ⟨"TracewheelModel", "addClass", "(I)I"⟩ prog_14_method_12_code 2 (some .int) ∈ xTs := xin (wm_9 (List.mem_of_getElem? (i := 139) (by decide +kernel))) rfl
theorem w9_140 : Cond.methodLink "TracewheelModel" 234 ⟨"TracewheelModel", "newShape", "(I)I"⟩ ∈ xTs := xin (wm_9 (List.mem_of_getElem? (i := 140) (by decide +kernel))) rfl
theorem w9_142 : Cond.instanceMethod ⟨"TracewheelModel", "newShape", "(I)I"⟩ ∈ xTs := xin (wm_9 (List.mem_of_getElem? (i := 142) (by decide +kernel))) rfl
theorem w9_143 : Cond.code ⟨"TracewheelModel", "newShape", "(I)I"⟩ prog_14_method_11_code 2 (some .int) ∈ xTs := xin (wm_9 (List.mem_of_getElem? (i := 143) (by decide +kernel))) rfl
theorem w9_144 : Cond.methodLink "TracewheelLaw" 171 ⟨"TracewheelModel", "setMethod", "(III)I"⟩ ∈ xTs := xin (wm_9 (List.mem_of_getElem? (i := 144) (by decide +kernel))) rfl
theorem w9_145 : Cond.instanceMethod ⟨"TracewheelModel", "setMethod", "(III)I"⟩ ∈ xTs := xin (wm_9 (List.mem_of_getElem? (i := 145) (by decide +kernel))) rfl
theorem w9_146 : Cond.selects "TracewheelModel" ⟨"TracewheelModel", "setMethod", "(III)I"⟩ ⟨"TracewheelModel", "setMethod", "(III)I"⟩ ∈ xTs := xin (wm_9 (List.mem_of_getElem? (i := 146) (by decide +kernel))) rfl
theorem w9_147 : Cond.code ⟨"TracewheelModel", "setMethod", "(III)I"⟩ prog_14_method_13_code 5 (some .int) ∈ xTs := xin (wm_9 (List.mem_of_getElem? (i := 147) (by decide +kernel))) rfl
theorem w9_148 : Cond.methodLink "TracewheelModel" 237 ⟨"TracewheelModel", "throwsWith", "(CI)I"⟩ ∈ xTs := xin (wm_9 (List.mem_of_getElem? (i := 148) (by decide +kernel))) rfl
theorem w9_150 : Cond.instanceMethod ⟨"TracewheelModel", "throwsWith", "(CI)I"⟩ ∈ xTs := xin (wm_9 (List.mem_of_getElem? (i := 150) (by decide +kernel))) rfl
theorem w9_151 : Cond.code ⟨"TracewheelModel", "throwsWith", "(CI)I"⟩ prog_14_method_22_code 8 (some .int) ∈ xTs := xin (wm_9 (List.mem_of_getElem? (i := 151) (by decide +kernel))) rfl
theorem w9_152 : Cond.methodLink "TracewheelModel" 248 ⟨"TracewheelModel", "throwAway", "(I)V"⟩ ∈ xTs := xin (wm_9 (List.mem_of_getElem? (i := 152) (by decide +kernel))) rfl
theorem w9_154 : Cond.instanceMethod ⟨"TracewheelModel", "throwAway", "(I)V"⟩ ∈ xTs := xin (wm_9 (List.mem_of_getElem? (i := 154) (by decide +kernel))) rfl
theorem w9_155 : Cond.code ⟨"TracewheelModel", "throwAway", "(I)V"⟩ prog_14_method_21_code 3 none ∈ xTs := xin (wm_9 (List.mem_of_getElem? (i := 155) (by decide +kernel))) rfl
theorem w9_156 : Cond.methodLink "TracewheelLaw" 174 ⟨"TracewheelModel", "setCell", "(II)I"⟩ ∈ xTs := xin (wm_9 (List.mem_of_getElem? (i := 156) (by decide +kernel))) rfl
theorem w9_157 : Cond.instanceMethod ⟨"TracewheelModel", "setCell", "(II)I"⟩ ∈ xTs := xin (wm_9 (List.mem_of_getElem? (i := 157) (by decide +kernel))) rfl
theorem w9_158 : Cond.selects "TracewheelModel" ⟨"TracewheelModel", "setCell", "(II)I"⟩ ⟨"TracewheelModel", "setCell", "(II)I"⟩ ∈ xTs := xin (wm_9 (List.mem_of_getElem? (i := 158) (by decide +kernel))) rfl
theorem w9_159 : Cond.code ⟨"TracewheelModel", "setCell", "(II)I"⟩ prog_14_method_14_code 4 (some .int) ∈ xTs := xin (wm_9 (List.mem_of_getElem? (i := 159) (by decide +kernel))) rfl
theorem w9_160 : Cond.methodLink "TracewheelLaw" 177 ⟨"TracewheelModel", "setLimits", "(III)I"⟩ ∈ xTs := xin (wm_9 (List.mem_of_getElem? (i := 160) (by decide +kernel))) rfl
theorem w9_161 : Cond.instanceMethod ⟨"TracewheelModel", "setLimits", "(III)I"⟩ ∈ xTs := xin (wm_9 (List.mem_of_getElem? (i := 161) (by decide +kernel))) rfl
theorem w9_162 : Cond.selects "TracewheelModel" ⟨"TracewheelModel", "setLimits", "(III)I"⟩ ⟨"TracewheelModel", "setLimits", "(III)I"⟩ ∈ xTs := xin (wm_9 (List.mem_of_getElem? (i := 162) (by decide +kernel))) rfl
theorem w9_163 : Cond.code ⟨"TracewheelModel", "setLimits", "(III)I"⟩ prog_14_method_15_code 5 (some .int) ∈ xTs := xin (wm_9 (List.mem_of_getElem? (i := 163) (by decide +kernel))) rfl
theorem w9_164 : Cond.methodLink "TracewheelModel" 241 ⟨"TracewheelModel", "size", "()I"⟩ ∈ xTs := xin (wm_9 (List.mem_of_getElem? (i := 164) (by decide +kernel))) rfl
theorem w9_166 : Cond.instanceMethod ⟨"TracewheelModel", "size", "()I"⟩ ∈ xTs := xin (wm_9 (List.mem_of_getElem? (i := 166) (by decide +kernel))) rfl
theorem w9_167 : Cond.code ⟨"TracewheelModel", "size", "()I"⟩ prog_14_method_19_code 3 (some .int) ∈ xTs := xin (wm_9 (List.mem_of_getElem? (i := 167) (by decide +kernel))) rfl
theorem w9_168 : Cond.methodLink "TracewheelModel" 245 ⟨"TracewheelModel", "oldest", "(I)I"⟩ ∈ xTs := xin (wm_9 (List.mem_of_getElem? (i := 168) (by decide +kernel))) rfl
theorem w9_170 : Cond.instanceMethod ⟨"TracewheelModel", "oldest", "(I)I"⟩ ∈ xTs := xin (wm_9 (List.mem_of_getElem? (i := 170) (by decide +kernel))) rfl
theorem w9_171 : Cond.code ⟨"TracewheelModel", "oldest", "(I)I"⟩ prog_14_method_20_code 5 (some .int) ∈ xTs := xin (wm_9 (List.mem_of_getElem? (i := 171) (by decide +kernel))) rfl
theorem w9_172 : Cond.methodLink "TracewheelLaw" 180 ⟨"TracewheelModel", "run", "(II)I"⟩ ∈ xTs := xin (wm_9 (List.mem_of_getElem? (i := 172) (by decide +kernel))) rfl
theorem w9_173 : Cond.instanceMethod ⟨"TracewheelModel", "run", "(II)I"⟩ ∈ xTs := xin (wm_9 (List.mem_of_getElem? (i := 173) (by decide +kernel))) rfl
theorem w9_174 : Cond.selects "TracewheelModel" ⟨"TracewheelModel", "run", "(II)I"⟩ ⟨"TracewheelModel", "run", "(II)I"⟩ ∈ xTs := xin (wm_9 (List.mem_of_getElem? (i := 174) (by decide +kernel))) rfl
theorem w9_175 : Cond.code ⟨"TracewheelModel", "run", "(II)I"⟩ prog_14_method_68_code 4 (some .int) ∈ xTs := xin (wm_9 (List.mem_of_getElem? (i := 175) (by decide +kernel))) rfl
theorem w9_176 : Cond.methodLink "TracewheelModel" 466 ⟨"TracewheelModel", "endsBy", "(C)V"⟩ ∈ xTs := xin (wm_9 (List.mem_of_getElem? (i := 176) (by decide +kernel))) rfl
theorem w9_178 : Cond.instanceMethod ⟨"TracewheelModel", "endsBy", "(C)V"⟩ ∈ xTs := xin (wm_9 (List.mem_of_getElem? (i := 178) (by decide +kernel))) rfl
theorem w9_179 : Cond.code ⟨"TracewheelModel", "endsBy", "(C)V"⟩ prog_14_method_61_code 2 none ∈ xTs := xin (wm_9 (List.mem_of_getElem? (i := 179) (by decide +kernel))) rfl
theorem w9_180 : Cond.methodLink "TracewheelModel" 369 ⟨"TracewheelModel", "breaksOff", "()V"⟩ ∈ xTs := xin (wm_9 (List.mem_of_getElem? (i := 180) (by decide +kernel))) rfl
theorem w9_182 : Cond.instanceMethod ⟨"TracewheelModel", "breaksOff", "()V"⟩ ∈ xTs := xin (wm_9 (List.mem_of_getElem? (i := 182) (by decide +kernel))) rfl
theorem w9_183 : Cond.code ⟨"TracewheelModel", "breaksOff", "()V"⟩ prog_14_method_46_code 1 none ∈ xTs := xin (wm_9 (List.mem_of_getElem? (i := 183) (by decide +kernel))) rfl
theorem w9_184 : Cond.methodLink "TracewheelModel" 508 ⟨"TracewheelModel", "inTrace", "()V"⟩ ∈ xTs := xin (wm_9 (List.mem_of_getElem? (i := 184) (by decide +kernel))) rfl
theorem w9_186 : Cond.instanceMethod ⟨"TracewheelModel", "inTrace", "()V"⟩ ∈ xTs := xin (wm_9 (List.mem_of_getElem? (i := 186) (by decide +kernel))) rfl
theorem w9_187 : Cond.code ⟨"TracewheelModel", "inTrace", "()V"⟩ prog_14_method_67_code 3 none ∈ xTs := xin (wm_9 (List.mem_of_getElem? (i := 187) (by decide +kernel))) rfl
theorem w9_188 : Cond.methodLink "TracewheelModel" 479 ⟨"TracewheelModel", "why", "()C"⟩ ∈ xTs := xin (wm_9 (List.mem_of_getElem? (i := 188) (by decide +kernel))) rfl
theorem w9_190 : Cond.instanceMethod ⟨"TracewheelModel", "why", "()C"⟩ ∈ xTs := xin (wm_9 (List.mem_of_getElem? (i := 190) (by decide +kernel))) rfl
theorem w9_191 : Cond.code ⟨"TracewheelModel", "why", "()C"⟩ prog_14_method_51_code 8 (some .char) ∈ xTs := xin (wm_9 (List.mem_of_getElem? (i := 191) (by decide +kernel))) rfl
theorem w9_192 : Cond.methodLink "TracewheelModel" 381 ⟨"TracewheelModel", "takes", "(CI)I"⟩ ∈ xTs := xin (wm_9 (List.mem_of_getElem? (i := 192) (by decide +kernel))) rfl
theorem w9_194 : Cond.instanceMethod ⟨"TracewheelModel", "takes", "(CI)I"⟩ ∈ xTs := xin (wm_9 (List.mem_of_getElem? (i := 194) (by decide +kernel))) rfl
theorem w9_195 : Cond.code ⟨"TracewheelModel", "takes", "(CI)I"⟩ prog_14_method_48_code 4 (some .int) ∈ xTs := xin (wm_9 (List.mem_of_getElem? (i := 195) (by decide +kernel))) rfl
theorem w9_196 : Cond.methodLink "TracewheelModel" 384 ⟨"TracewheelModel", "hasNoRoom", "(C)Z"⟩ ∈ xTs := xin (wm_9 (List.mem_of_getElem? (i := 196) (by decide +kernel))) rfl
theorem w9_198 : Cond.instanceMethod ⟨"TracewheelModel", "hasNoRoom", "(C)Z"⟩ ∈ xTs := xin (wm_9 (List.mem_of_getElem? (i := 198) (by decide +kernel))) rfl
theorem w9_199 : Cond.code ⟨"TracewheelModel", "hasNoRoom", "(C)Z"⟩ prog_14_method_49_code 3 (some .boolean) ∈ xTs := xin (wm_9 (List.mem_of_getElem? (i := 199) (by decide +kernel))) rfl
theorem w9_200 : Cond.methodLink "TracewheelModel" 297 ⟨"TracewheelModel", "top", "(I)I"⟩ ∈ xTs := xin (wm_9 (List.mem_of_getElem? (i := 200) (by decide +kernel))) rfl
theorem w9_202 : Cond.instanceMethod ⟨"TracewheelModel", "top", "(I)I"⟩ ∈ xTs := xin (wm_9 (List.mem_of_getElem? (i := 202) (by decide +kernel))) rfl
theorem w9_203 : Cond.code ⟨"TracewheelModel", "top", "(I)I"⟩ prog_14_method_25_code 2 (some .int) ∈ xTs := xin (wm_9 (List.mem_of_getElem? (i := 203) (by decide +kernel))) rfl
theorem w9_204 : Cond.methodLink "TracewheelModel" 312 ⟨"TracewheelModel", "isNumber", "(C)Z"⟩ ∈ xTs := xin (wm_9 (List.mem_of_getElem? (i := 204) (by decide +kernel))) rfl
theorem w9_205 : Cond.static ⟨"TracewheelModel", "isNumber", "(C)Z"⟩ ∈ xTs := xin (wm_9 (List.mem_of_getElem? (i := 205) (by decide +kernel))) rfl
theorem w9_206 : Cond.code ⟨"TracewheelModel", "isNumber", "(C)Z"⟩ prog_14_method_26_code 1 (some .boolean) ∈ xTs := xin (wm_9 (List.mem_of_getElem? (i := 206) (by decide +kernel))) rfl
theorem w9_207 : Cond.methodLink "TracewheelModel" 387 ⟨"TracewheelModel", "rounded", "(D)D"⟩ ∈ xTs := xin (wm_9 (List.mem_of_getElem? (i := 207) (by decide +kernel))) rfl
theorem w9_208 : Cond.static ⟨"TracewheelModel", "rounded", "(D)D"⟩ ∈ xTs := xin (wm_9 (List.mem_of_getElem? (i := 208) (by decide +kernel))) rfl
theorem w9_209 : Cond.code ⟨"TracewheelModel", "rounded", "(D)D"⟩ prog_14_method_50_code 2 (some .double) ∈ xTs := xin (wm_9 (List.mem_of_getElem? (i := 209) (by decide +kernel))) rfl
theorem w9_210 : Cond.methodLink "TracewheelModel" 375 ⟨"java/lang/Math", "rint", "(D)D"⟩ ∈ xTs := xin (wm_9 (List.mem_of_getElem? (i := 210) (by decide +kernel))) rfl
theorem w9_211 : Cond.static ⟨"java/lang/Math", "rint", "(D)D"⟩ ∈ xTs := xin (wm_9 (List.mem_of_getElem? (i := 211) (by decide +kernel))) rfl
theorem w9_212 : Cond.code ⟨"java/lang/Math", "rint", "(D)D"⟩ prog_27_method_18_code 2 (some .double) ∈ xTs := xin (wm_9 (List.mem_of_getElem? (i := 212) (by decide +kernel))) rfl
theorem w9_213 : Cond.methodLink "java/lang/Math" 59 ⟨"java/lang/StrictMath", "rint", "(D)D"⟩ ∈ xTs := xin (wm_9 (List.mem_of_getElem? (i := 213) (by decide +kernel))) rfl
theorem w9_214 : Cond.static ⟨"java/lang/StrictMath", "rint", "(D)D"⟩ ∈ xTs := xin (wm_9 (List.mem_of_getElem? (i := 214) (by decide +kernel))) rfl
theorem w9_215 : Cond.code ⟨"java/lang/StrictMath", "rint", "(D)D"⟩ prog_30_method_19_code 6 (some .double) ∈ xTs := xin (wm_9 (List.mem_of_getElem? (i := 215) (by decide +kernel))) rfl
theorem w9_216 : Cond.constantDouble "java/lang/StrictMath" 93 4841369599423283200 ∈ xTs := xin (wm_9 (List.mem_of_getElem? (i := 216) (by decide +kernel))) rfl
theorem w9_217 : Cond.methodLink "java/lang/StrictMath" 95 ⟨"java/lang/Math", "copySign", "(DD)D"⟩ ∈ xTs := xin (wm_9 (List.mem_of_getElem? (i := 217) (by decide +kernel))) rfl
theorem w9_218 : Cond.static ⟨"java/lang/Math", "copySign", "(DD)D"⟩ ∈ xTs := xin (wm_9 (List.mem_of_getElem? (i := 218) (by decide +kernel))) rfl
theorem w9_219 : Cond.code ⟨"java/lang/Math", "copySign", "(DD)D"⟩ prog_27_method_89_code 4 (some .double) ∈ xTs := xin (wm_9 (List.mem_of_getElem? (i := 219) (by decide +kernel))) rfl
theorem w9_220 : Cond.methodLink "java/lang/Math" 79 ⟨"java/lang/Double", "doubleToRawLongBits", "(D)J"⟩ ∈ xTs := xin (wm_9 (List.mem_of_getElem? (i := 220) (by decide +kernel))) rfl
theorem w9_221 : Cond.static ⟨"java/lang/Double", "doubleToRawLongBits", "(D)J"⟩ ∈ xTs := xin (wm_9 (List.mem_of_getElem? (i := 221) (by decide +kernel))) rfl
theorem w9_222 : Cond.native ⟨"java/lang/Double", "doubleToRawLongBits", "(D)J"⟩ ∈ xTs := xin (wm_9 (List.mem_of_getElem? (i := 222) (by decide +kernel))) rfl
theorem w9_223 : Cond.constantLong "java/lang/Math" 128 (-9223372036854775808) ∈ xTs := xin (wm_9 (List.mem_of_getElem? (i := 223) (by decide +kernel))) rfl
theorem w9_224 : Cond.constantLong "java/lang/Math" 135 9223372036854775807 ∈ xTs := xin (wm_9 (List.mem_of_getElem? (i := 224) (by decide +kernel))) rfl
theorem w9_225 : Cond.methodLink "java/lang/Math" 166 ⟨"java/lang/Double", "longBitsToDouble", "(J)D"⟩ ∈ xTs := xin (wm_9 (List.mem_of_getElem? (i := 225) (by decide +kernel))) rfl
theorem w9_226 : Cond.static ⟨"java/lang/Double", "longBitsToDouble", "(J)D"⟩ ∈ xTs := xin (wm_9 (List.mem_of_getElem? (i := 226) (by decide +kernel))) rfl
theorem w9_227 : Cond.native ⟨"java/lang/Double", "longBitsToDouble", "(J)D"⟩ ∈ xTs := xin (wm_9 (List.mem_of_getElem? (i := 227) (by decide +kernel))) rfl
theorem w9_228 : Cond.methodLink "java/lang/StrictMath" 98 ⟨"java/lang/Math", "abs", "(D)D"⟩ ∈ xTs := xin (wm_9 (List.mem_of_getElem? (i := 228) (by decide +kernel))) rfl
theorem w9_229 : Cond.static ⟨"java/lang/Math", "abs", "(D)D"⟩ ∈ xTs := xin (wm_9 (List.mem_of_getElem? (i := 229) (by decide +kernel))) rfl
theorem w9_230 : Cond.code ⟨"java/lang/Math", "abs", "(D)D"⟩ prog_27_method_64_code 2 (some .double) ∈ xTs := xin (wm_9 (List.mem_of_getElem? (i := 230) (by decide +kernel))) rfl
theorem w9_231 : Cond.constantDouble "TracewheelModel" 390 13970166044103278592 ∈ xTs := xin (wm_9 (List.mem_of_getElem? (i := 231) (by decide +kernel))) rfl
theorem w9_232 : Cond.constantDouble "TracewheelModel" 392 4746794007244308480 ∈ xTs := xin (wm_9 (List.mem_of_getElem? (i := 232) (by decide +kernel))) rfl
theorem w9_233 : Cond.methodLink "TracewheelModel" 252 ⟨"TracewheelModel", "hasField", "(II)Z"⟩ ∈ xTs := xin (wm_9 (List.mem_of_getElem? (i := 233) (by decide +kernel))) rfl
theorem w9_235 : Cond.instanceMethod ⟨"TracewheelModel", "hasField", "(II)Z"⟩ ∈ xTs := xin (wm_9 (List.mem_of_getElem? (i := 235) (by decide +kernel))) rfl
theorem w9_236 : Cond.code ⟨"TracewheelModel", "hasField", "(II)Z"⟩ prog_14_method_17_code 4 (some .boolean) ∈ xTs := xin (wm_9 (List.mem_of_getElem? (i := 236) (by decide +kernel))) rfl
theorem w9_237 : Cond.methodLink "TracewheelModel" 394 ⟨"TracewheelModel", "methodOf", "(II)I"⟩ ∈ xTs := xin (wm_9 (List.mem_of_getElem? (i := 237) (by decide +kernel))) rfl
theorem w9_239 : Cond.instanceMethod ⟨"TracewheelModel", "methodOf", "(II)I"⟩ ∈ xTs := xin (wm_9 (List.mem_of_getElem? (i := 239) (by decide +kernel))) rfl
theorem w10_0 : Cond.code ⟨"TracewheelModel", "methodOf", "(II)I"⟩ prog_14_method_16_code 4 (some .int) ∈ xTs := xin (wm_10 (List.mem_of_getElem? (i := 0) (by decide +kernel))) rfl
theorem w10_1 : Cond.methodLink "TracewheelModel" 499 ⟨"TracewheelModel", "holds", "(I)Z"⟩ ∈ xTs := xin (wm_10 (List.mem_of_getElem? (i := 1) (by decide +kernel))) rfl
theorem w10_3 : Cond.instanceMethod ⟨"TracewheelModel", "holds", "(I)Z"⟩ ∈ xTs := xin (wm_10 (List.mem_of_getElem? (i := 3) (by decide +kernel))) rfl
theorem w10_4 : Cond.code ⟨"TracewheelModel", "holds", "(I)Z"⟩ prog_14_method_44_code 4 (some .boolean) ∈ xTs := xin (wm_10 (List.mem_of_getElem? (i := 4) (by decide +kernel))) rfl
theorem w10_5 : Cond.methodLink "TracewheelModel" 347 ⟨"TracewheelModel", "isNull", "(I)Z"⟩ ∈ xTs := xin (wm_10 (List.mem_of_getElem? (i := 5) (by decide +kernel))) rfl
theorem w10_7 : Cond.instanceMethod ⟨"TracewheelModel", "isNull", "(I)Z"⟩ ∈ xTs := xin (wm_10 (List.mem_of_getElem? (i := 7) (by decide +kernel))) rfl
theorem w10_8 : Cond.code ⟨"TracewheelModel", "isNull", "(I)Z"⟩ prog_14_method_28_code 2 (some .boolean) ∈ xTs := xin (wm_10 (List.mem_of_getElem? (i := 8) (by decide +kernel))) rfl
theorem w10_9 : Cond.methodLink "TracewheelModel" 344 ⟨"TracewheelModel", "reckons", "(CII)V"⟩ ∈ xTs := xin (wm_10 (List.mem_of_getElem? (i := 9) (by decide +kernel))) rfl
theorem w10_11 : Cond.instanceMethod ⟨"TracewheelModel", "reckons", "(CII)V"⟩ ∈ xTs := xin (wm_10 (List.mem_of_getElem? (i := 11) (by decide +kernel))) rfl
theorem w10_12 : Cond.code ⟨"TracewheelModel", "reckons", "(CII)V"⟩ prog_14_method_35_code 15 none ∈ xTs := xin (wm_10 (List.mem_of_getElem? (i := 12) (by decide +kernel))) rfl
theorem w10_13 : Cond.methodLink "TracewheelModel" 308 ⟨"TracewheelModel", "asFloat", "(I)D"⟩ ∈ xTs := xin (wm_10 (List.mem_of_getElem? (i := 13) (by decide +kernel))) rfl
theorem w10_15 : Cond.instanceMethod ⟨"TracewheelModel", "asFloat", "(I)D"⟩ ∈ xTs := xin (wm_10 (List.mem_of_getElem? (i := 15) (by decide +kernel))) rfl
theorem w10_16 : Cond.code ⟨"TracewheelModel", "asFloat", "(I)D"⟩ prog_14_method_27_code 2 (some .double) ∈ xTs := xin (wm_10 (List.mem_of_getElem? (i := 16) (by decide +kernel))) rfl
theorem w10_17 : Cond.methodLink "TracewheelModel" 304 ⟨"TracewheelModel", "gives", "(CID)V"⟩ ∈ xTs := xin (wm_10 (List.mem_of_getElem? (i := 17) (by decide +kernel))) rfl
theorem w10_19 : Cond.instanceMethod ⟨"TracewheelModel", "gives", "(CID)V"⟩ ∈ xTs := xin (wm_10 (List.mem_of_getElem? (i := 19) (by decide +kernel))) rfl
theorem w10_20 : Cond.code ⟨"TracewheelModel", "gives", "(CID)V"⟩ prog_14_method_32_code 5 none ∈ xTs := xin (wm_10 (List.mem_of_getElem? (i := 20) (by decide +kernel))) rfl
theorem w10_21 : Cond.methodLink "TracewheelModel" 315 ⟨"TracewheelModel", "givesInteger", "(JD)V"⟩ ∈ xTs := xin (wm_10 (List.mem_of_getElem? (i := 21) (by decide +kernel))) rfl
theorem w10_23 : Cond.instanceMethod ⟨"TracewheelModel", "givesInteger", "(JD)V"⟩ ∈ xTs := xin (wm_10 (List.mem_of_getElem? (i := 23) (by decide +kernel))) rfl
theorem w10_24 : Cond.code ⟨"TracewheelModel", "givesInteger", "(JD)V"⟩ prog_14_method_34_code 5 none ∈ xTs := xin (wm_10 (List.mem_of_getElem? (i := 24) (by decide +kernel))) rfl
theorem w10_25 : Cond.constantLong "TracewheelModel" 300 (-2147483648) ∈ xTs := xin (wm_10 (List.mem_of_getElem? (i := 25) (by decide +kernel))) rfl
theorem w10_26 : Cond.constantLong "TracewheelModel" 302 2147483647 ∈ xTs := xin (wm_10 (List.mem_of_getElem? (i := 26) (by decide +kernel))) rfl
theorem w10_27 : Cond.methodLink "TracewheelModel" 502 ⟨"TracewheelModel", "leavesBy", "(I)V"⟩ ∈ xTs := xin (wm_10 (List.mem_of_getElem? (i := 27) (by decide +kernel))) rfl
theorem w10_29 : Cond.instanceMethod ⟨"TracewheelModel", "leavesBy", "(I)V"⟩ ∈ xTs := xin (wm_10 (List.mem_of_getElem? (i := 29) (by decide +kernel))) rfl
theorem w10_30 : Cond.code ⟨"TracewheelModel", "leavesBy", "(I)V"⟩ prog_14_method_66_code 4 none ∈ xTs := xin (wm_10 (List.mem_of_getElem? (i := 30) (by decide +kernel))) rfl
theorem w10_31 : Cond.methodLink "TracewheelModel" 475 ⟨"TracewheelModel", "records", "(IIII)V"⟩ ∈ xTs := xin (wm_10 (List.mem_of_getElem? (i := 31) (by decide +kernel))) rfl
theorem w10_33 : Cond.instanceMethod ⟨"TracewheelModel", "records", "(IIII)V"⟩ ∈ xTs := xin (wm_10 (List.mem_of_getElem? (i := 33) (by decide +kernel))) rfl
theorem w10_34 : Cond.code ⟨"TracewheelModel", "records", "(IIII)V"⟩ prog_14_method_45_code 7 none ∈ xTs := xin (wm_10 (List.mem_of_getElem? (i := 34) (by decide +kernel))) rfl
theorem w10_35 : Cond.methodLink "TracewheelModel" 322 ⟨"TracewheelModel", "newValue", "()I"⟩ ∈ xTs := xin (wm_10 (List.mem_of_getElem? (i := 35) (by decide +kernel))) rfl
theorem w10_37 : Cond.instanceMethod ⟨"TracewheelModel", "newValue", "()I"⟩ ∈ xTs := xin (wm_10 (List.mem_of_getElem? (i := 37) (by decide +kernel))) rfl
theorem w10_38 : Cond.code ⟨"TracewheelModel", "newValue", "()I"⟩ prog_14_method_36_code 1 (some .int) ∈ xTs := xin (wm_10 (List.mem_of_getElem? (i := 38) (by decide +kernel))) rfl
theorem w10_39 : Cond.methodLink "TracewheelModel" 493 ⟨"TracewheelModel", "executes", "()V"⟩ ∈ xTs := xin (wm_10 (List.mem_of_getElem? (i := 39) (by decide +kernel))) rfl
theorem w10_41 : Cond.instanceMethod ⟨"TracewheelModel", "executes", "()V"⟩ ∈ xTs := xin (wm_10 (List.mem_of_getElem? (i := 41) (by decide +kernel))) rfl
theorem w10_42 : Cond.code ⟨"TracewheelModel", "executes", "()V"⟩ prog_14_method_60_code 5 none ∈ xTs := xin (wm_10 (List.mem_of_getElem? (i := 42) (by decide +kernel))) rfl
theorem w10_43 : Cond.methodLink "TracewheelModel" 429 ⟨"TracewheelModel", "made", "(Z)I"⟩ ∈ xTs := xin (wm_10 (List.mem_of_getElem? (i := 43) (by decide +kernel))) rfl
theorem w10_45 : Cond.instanceMethod ⟨"TracewheelModel", "made", "(Z)I"⟩ ∈ xTs := xin (wm_10 (List.mem_of_getElem? (i := 45) (by decide +kernel))) rfl
theorem w10_46 : Cond.code ⟨"TracewheelModel", "made", "(Z)I"⟩ prog_14_method_57_code 4 (some .int) ∈ xTs := xin (wm_10 (List.mem_of_getElem? (i := 46) (by decide +kernel))) rfl
theorem w10_47 : Cond.methodLink "TracewheelModel" 405 ⟨"TracewheelModel", "valueOf", "(C)I"⟩ ∈ xTs := xin (wm_10 (List.mem_of_getElem? (i := 47) (by decide +kernel))) rfl
theorem w10_49 : Cond.instanceMethod ⟨"TracewheelModel", "valueOf", "(C)I"⟩ ∈ xTs := xin (wm_10 (List.mem_of_getElem? (i := 49) (by decide +kernel))) rfl
theorem w10_50 : Cond.code ⟨"TracewheelModel", "valueOf", "(C)I"⟩ prog_14_method_37_code 3 (some .int) ∈ xTs := xin (wm_10 (List.mem_of_getElem? (i := 50) (by decide +kernel))) rfl
theorem w10_51 : Cond.methodLink "TracewheelModel" 433 ⟨"TracewheelModel", "pushes", "(I)V"⟩ ∈ xTs := xin (wm_10 (List.mem_of_getElem? (i := 51) (by decide +kernel))) rfl
theorem w10_53 : Cond.instanceMethod ⟨"TracewheelModel", "pushes", "(I)V"⟩ ∈ xTs := xin (wm_10 (List.mem_of_getElem? (i := 53) (by decide +kernel))) rfl
theorem w10_54 : Cond.code ⟨"TracewheelModel", "pushes", "(I)V"⟩ prog_14_method_33_code 3 none ∈ xTs := xin (wm_10 (List.mem_of_getElem? (i := 54) (by decide +kernel))) rfl
theorem w10_55 : Cond.methodLink "TracewheelModel" 401 ⟨"TracewheelModel", "copies", "(II)V"⟩ ∈ xTs := xin (wm_10 (List.mem_of_getElem? (i := 55) (by decide +kernel))) rfl
theorem w10_57 : Cond.instanceMethod ⟨"TracewheelModel", "copies", "(II)V"⟩ ∈ xTs := xin (wm_10 (List.mem_of_getElem? (i := 57) (by decide +kernel))) rfl
theorem w10_58 : Cond.code ⟨"TracewheelModel", "copies", "(II)V"⟩ prog_14_method_31_code 3 none ∈ xTs := xin (wm_10 (List.mem_of_getElem? (i := 58) (by decide +kernel))) rfl
theorem w10_59 : Cond.methodLink "TracewheelModel" 439 ⟨"TracewheelModel", "reckonsOn", "(C)V"⟩ ∈ xTs := xin (wm_10 (List.mem_of_getElem? (i := 59) (by decide +kernel))) rfl
theorem w10_61 : Cond.instanceMethod ⟨"TracewheelModel", "reckonsOn", "(C)V"⟩ ∈ xTs := xin (wm_10 (List.mem_of_getElem? (i := 61) (by decide +kernel))) rfl
theorem w10_62 : Cond.code ⟨"TracewheelModel", "reckonsOn", "(C)V"⟩ prog_14_method_56_code 4 none ∈ xTs := xin (wm_10 (List.mem_of_getElem? (i := 62) (by decide +kernel))) rfl
theorem w10_63 : Cond.methodLink "TracewheelModel" 443 ⟨"TracewheelModel", "makes", "(I)V"⟩ ∈ xTs := xin (wm_10 (List.mem_of_getElem? (i := 63) (by decide +kernel))) rfl
theorem w10_65 : Cond.instanceMethod ⟨"TracewheelModel", "makes", "(I)V"⟩ ∈ xTs := xin (wm_10 (List.mem_of_getElem? (i := 65) (by decide +kernel))) rfl
theorem w10_66 : Cond.code ⟨"TracewheelModel", "makes", "(I)V"⟩ prog_14_method_58_code 4 none ∈ xTs := xin (wm_10 (List.mem_of_getElem? (i := 66) (by decide +kernel))) rfl
theorem w10_67 : Cond.methodLink "TracewheelModel" 446 ⟨"TracewheelModel", "fetches", "(I)V"⟩ ∈ xTs := xin (wm_10 (List.mem_of_getElem? (i := 67) (by decide +kernel))) rfl
theorem w10_69 : Cond.instanceMethod ⟨"TracewheelModel", "fetches", "(I)V"⟩ ∈ xTs := xin (wm_10 (List.mem_of_getElem? (i := 69) (by decide +kernel))) rfl
theorem w10_70 : Cond.code ⟨"TracewheelModel", "fetches", "(I)V"⟩ prog_14_method_59_code 3 none ∈ xTs := xin (wm_10 (List.mem_of_getElem? (i := 70) (by decide +kernel))) rfl
theorem w10_71 : Cond.methodLink "TracewheelModel" 449 ⟨"TracewheelModel", "puts", "(I)V"⟩ ∈ xTs := xin (wm_10 (List.mem_of_getElem? (i := 71) (by decide +kernel))) rfl
theorem w10_73 : Cond.instanceMethod ⟨"TracewheelModel", "puts", "(I)V"⟩ ∈ xTs := xin (wm_10 (List.mem_of_getElem? (i := 73) (by decide +kernel))) rfl
theorem w10_74 : Cond.code ⟨"TracewheelModel", "puts", "(I)V"⟩ prog_14_method_53_code 8 none ∈ xTs := xin (wm_10 (List.mem_of_getElem? (i := 74) (by decide +kernel))) rfl
theorem w10_75 : Cond.methodLink "TracewheelModel" 409 ⟨"TracewheelModel", "shapeBehind", "(II)I"⟩ ∈ xTs := xin (wm_10 (List.mem_of_getElem? (i := 75) (by decide +kernel))) rfl
theorem w10_77 : Cond.instanceMethod ⟨"TracewheelModel", "shapeBehind", "(II)I"⟩ ∈ xTs := xin (wm_10 (List.mem_of_getElem? (i := 77) (by decide +kernel))) rfl
theorem w10_78 : Cond.code ⟨"TracewheelModel", "shapeBehind", "(II)I"⟩ prog_14_method_18_code 5 (some .int) ∈ xTs := xin (wm_10 (List.mem_of_getElem? (i := 78) (by decide +kernel))) rfl
theorem w10_79 : Cond.methodLink "TracewheelModel" 452 ⟨"TracewheelModel", "calls", "(II)V"⟩ ∈ xTs := xin (wm_10 (List.mem_of_getElem? (i := 79) (by decide +kernel))) rfl
theorem w10_81 : Cond.instanceMethod ⟨"TracewheelModel", "calls", "(II)V"⟩ ∈ xTs := xin (wm_10 (List.mem_of_getElem? (i := 81) (by decide +kernel))) rfl
theorem w10_82 : Cond.code ⟨"TracewheelModel", "calls", "(II)V"⟩ prog_14_method_52_code 6 none ∈ xTs := xin (wm_10 (List.mem_of_getElem? (i := 82) (by decide +kernel))) rfl
theorem w10_83 : Cond.methodLink "TracewheelModel" 455 ⟨"TracewheelModel", "returns", "()V"⟩ ∈ xTs := xin (wm_10 (List.mem_of_getElem? (i := 83) (by decide +kernel))) rfl
theorem w10_85 : Cond.instanceMethod ⟨"TracewheelModel", "returns", "()V"⟩ ∈ xTs := xin (wm_10 (List.mem_of_getElem? (i := 85) (by decide +kernel))) rfl
theorem w10_86 : Cond.code ⟨"TracewheelModel", "returns", "()V"⟩ prog_14_method_54_code 2 none ∈ xTs := xin (wm_10 (List.mem_of_getElem? (i := 86) (by decide +kernel))) rfl
theorem w10_87 : Cond.methodLink "TracewheelModel" 418 ⟨"TracewheelModel", "told", "(CID)J"⟩ ∈ xTs := xin (wm_10 (List.mem_of_getElem? (i := 87) (by decide +kernel))) rfl
theorem w10_88 : Cond.static ⟨"TracewheelModel", "told", "(CID)J"⟩ ∈ xTs := xin (wm_10 (List.mem_of_getElem? (i := 88) (by decide +kernel))) rfl
theorem w10_89 : Cond.code ⟨"TracewheelModel", "told", "(CID)J"⟩ prog_14_method_30_code 4 (some .long) ∈ xTs := xin (wm_10 (List.mem_of_getElem? (i := 89) (by decide +kernel))) rfl
theorem w10_90 : Cond.methodLink "TracewheelModel" 283 ⟨"TracewheelModel", "bits", "(D)J"⟩ ∈ xTs := xin (wm_10 (List.mem_of_getElem? (i := 90) (by decide +kernel))) rfl
theorem w10_91 : Cond.static ⟨"TracewheelModel", "bits", "(D)J"⟩ ∈ xTs := xin (wm_10 (List.mem_of_getElem? (i := 91) (by decide +kernel))) rfl
theorem w10_92 : Cond.code ⟨"TracewheelModel", "bits", "(D)J"⟩ prog_14_method_29_code 8 (some .long) ∈ xTs := xin (wm_10 (List.mem_of_getElem? (i := 92) (by decide +kernel))) rfl
theorem w10_93 : Cond.constantLong "TracewheelModel" 271 9221120237041090560 ∈ xTs := xin (wm_10 (List.mem_of_getElem? (i := 93) (by decide +kernel))) rfl
theorem w10_94 : Cond.constantLong "TracewheelModel" 273 (-9223372036854775808) ∈ xTs := xin (wm_10 (List.mem_of_getElem? (i := 94) (by decide +kernel))) rfl
theorem w10_95 : Cond.constantDouble "TracewheelModel" 275 9218868437227405311 ∈ xTs := xin (wm_10 (List.mem_of_getElem? (i := 95) (by decide +kernel))) rfl
theorem w10_96 : Cond.constantLong "TracewheelModel" 277 9218868437227405312 ∈ xTs := xin (wm_10 (List.mem_of_getElem? (i := 96) (by decide +kernel))) rfl
theorem w10_97 : Cond.constantDouble "TracewheelModel" 279 4611686018427387904 ∈ xTs := xin (wm_10 (List.mem_of_getElem? (i := 97) (by decide +kernel))) rfl
theorem w10_98 : Cond.constantDouble "TracewheelModel" 281 4841369599423283200 ∈ xTs := xin (wm_10 (List.mem_of_getElem? (i := 98) (by decide +kernel))) rfl
theorem w10_99 : Cond.methodLink "TracewheelModel" 458 ⟨"TracewheelModel", "tells", "()V"⟩ ∈ xTs := xin (wm_10 (List.mem_of_getElem? (i := 99) (by decide +kernel))) rfl
theorem w10_101 : Cond.instanceMethod ⟨"TracewheelModel", "tells", "()V"⟩ ∈ xTs := xin (wm_10 (List.mem_of_getElem? (i := 101) (by decide +kernel))) rfl
theorem w10_102 : Cond.code ⟨"TracewheelModel", "tells", "()V"⟩ prog_14_method_55_code 2 none ∈ xTs := xin (wm_10 (List.mem_of_getElem? (i := 102) (by decide +kernel))) rfl
theorem w10_103 : Cond.methodLink "TracewheelModel" 372 ⟨"TracewheelModel", "enters", "(I)V"⟩ ∈ xTs := xin (wm_10 (List.mem_of_getElem? (i := 103) (by decide +kernel))) rfl
theorem w10_105 : Cond.instanceMethod ⟨"TracewheelModel", "enters", "(I)V"⟩ ∈ xTs := xin (wm_10 (List.mem_of_getElem? (i := 105) (by decide +kernel))) rfl
theorem w10_106 : Cond.code ⟨"TracewheelModel", "enters", "(I)V"⟩ prog_14_method_24_code 2 none ∈ xTs := xin (wm_10 (List.mem_of_getElem? (i := 106) (by decide +kernel))) rfl
theorem w10_107 : Cond.methodLink "TracewheelModel" 511 ⟨"TracewheelModel", "plainly", "()V"⟩ ∈ xTs := xin (wm_10 (List.mem_of_getElem? (i := 107) (by decide +kernel))) rfl
theorem w10_109 : Cond.instanceMethod ⟨"TracewheelModel", "plainly", "()V"⟩ ∈ xTs := xin (wm_10 (List.mem_of_getElem? (i := 109) (by decide +kernel))) rfl
theorem w10_110 : Cond.code ⟨"TracewheelModel", "plainly", "()V"⟩ prog_14_method_65_code 6 none ∈ xTs := xin (wm_10 (List.mem_of_getElem? (i := 110) (by decide +kernel))) rfl
theorem w10_111 : Cond.methodLink "TracewheelModel" 483 ⟨"TracewheelModel", "failsBy", "(C)V"⟩ ∈ xTs := xin (wm_10 (List.mem_of_getElem? (i := 111) (by decide +kernel))) rfl
theorem w10_113 : Cond.instanceMethod ⟨"TracewheelModel", "failsBy", "(C)V"⟩ ∈ xTs := xin (wm_10 (List.mem_of_getElem? (i := 113) (by decide +kernel))) rfl
theorem w10_114 : Cond.code ⟨"TracewheelModel", "failsBy", "(C)V"⟩ prog_14_method_62_code 3 none ∈ xTs := xin (wm_10 (List.mem_of_getElem? (i := 114) (by decide +kernel))) rfl
theorem w10_115 : Cond.methodLink "TracewheelModel" 486 ⟨"TracewheelModel", "guards", "(C)V"⟩ ∈ xTs := xin (wm_10 (List.mem_of_getElem? (i := 115) (by decide +kernel))) rfl
theorem w10_117 : Cond.instanceMethod ⟨"TracewheelModel", "guards", "(C)V"⟩ ∈ xTs := xin (wm_10 (List.mem_of_getElem? (i := 117) (by decide +kernel))) rfl
theorem w10_118 : Cond.code ⟨"TracewheelModel", "guards", "(C)V"⟩ prog_14_method_43_code 5 none ∈ xTs := xin (wm_10 (List.mem_of_getElem? (i := 118) (by decide +kernel))) rfl
theorem w10_119 : Cond.methodLink "TracewheelModel" 338 ⟨"TracewheelModel", "asksKind", "(I)V"⟩ ∈ xTs := xin (wm_10 (List.mem_of_getElem? (i := 119) (by decide +kernel))) rfl
theorem w10_121 : Cond.instanceMethod ⟨"TracewheelModel", "asksKind", "(I)V"⟩ ∈ xTs := xin (wm_10 (List.mem_of_getElem? (i := 121) (by decide +kernel))) rfl
theorem w10_122 : Cond.code ⟨"TracewheelModel", "asksKind", "(I)V"⟩ prog_14_method_41_code 3 none ∈ xTs := xin (wm_10 (List.mem_of_getElem? (i := 122) (by decide +kernel))) rfl
theorem w10_123 : Cond.methodLink "TracewheelModel" 331 ⟨"TracewheelModel", "isKindKnown", "(I)Z"⟩ ∈ xTs := xin (wm_10 (List.mem_of_getElem? (i := 123) (by decide +kernel))) rfl
theorem w10_125 : Cond.instanceMethod ⟨"TracewheelModel", "isKindKnown", "(I)Z"⟩ ∈ xTs := xin (wm_10 (List.mem_of_getElem? (i := 125) (by decide +kernel))) rfl
theorem w10_126 : Cond.code ⟨"TracewheelModel", "isKindKnown", "(I)Z"⟩ prog_14_method_38_code 2 (some .boolean) ∈ xTs := xin (wm_10 (List.mem_of_getElem? (i := 126) (by decide +kernel))) rfl
theorem w10_127 : Cond.methodLink "TracewheelModel" 334 ⟨"TracewheelModel", "asks", "(CII)V"⟩ ∈ xTs := xin (wm_10 (List.mem_of_getElem? (i := 127) (by decide +kernel))) rfl
theorem w10_129 : Cond.instanceMethod ⟨"TracewheelModel", "asks", "(CII)V"⟩ ∈ xTs := xin (wm_10 (List.mem_of_getElem? (i := 129) (by decide +kernel))) rfl
theorem w10_130 : Cond.code ⟨"TracewheelModel", "asks", "(CII)V"⟩ prog_14_method_40_code 4 none ∈ xTs := xin (wm_10 (List.mem_of_getElem? (i := 130) (by decide +kernel))) rfl
theorem w10_131 : Cond.methodLink "TracewheelModel" 341 ⟨"TracewheelModel", "isNullKnown", "(I)Z"⟩ ∈ xTs := xin (wm_10 (List.mem_of_getElem? (i := 131) (by decide +kernel))) rfl
theorem w10_133 : Cond.instanceMethod ⟨"TracewheelModel", "isNullKnown", "(I)Z"⟩ ∈ xTs := xin (wm_10 (List.mem_of_getElem? (i := 133) (by decide +kernel))) rfl
theorem w10_134 : Cond.code ⟨"TracewheelModel", "isNullKnown", "(I)Z"⟩ prog_14_method_39_code 2 (some .boolean) ∈ xTs := xin (wm_10 (List.mem_of_getElem? (i := 134) (by decide +kernel))) rfl
theorem w10_135 : Cond.methodLink "TracewheelModel" 350 ⟨"TracewheelModel", "asksShape", "(I)V"⟩ ∈ xTs := xin (wm_10 (List.mem_of_getElem? (i := 135) (by decide +kernel))) rfl
theorem w10_137 : Cond.instanceMethod ⟨"TracewheelModel", "asksShape", "(I)V"⟩ ∈ xTs := xin (wm_10 (List.mem_of_getElem? (i := 137) (by decide +kernel))) rfl
theorem w10_138 : Cond.code ⟨"TracewheelModel", "asksShape", "(I)V"⟩ prog_14_method_42_code 4 none ∈ xTs := xin (wm_10 (List.mem_of_getElem? (i := 138) (by decide +kernel))) rfl
theorem w10_139 : Cond.methodLink "TracewheelModel" 489 ⟨"TracewheelModel", "looksUp", "(CI)V"⟩ ∈ xTs := xin (wm_10 (List.mem_of_getElem? (i := 139) (by decide +kernel))) rfl
theorem w10_141 : Cond.instanceMethod ⟨"TracewheelModel", "looksUp", "(CI)V"⟩ ∈ xTs := xin (wm_10 (List.mem_of_getElem? (i := 141) (by decide +kernel))) rfl
theorem w10_142 : Cond.code ⟨"TracewheelModel", "looksUp", "(CI)V"⟩ prog_14_method_63_code 7 none ∈ xTs := xin (wm_10 (List.mem_of_getElem? (i := 142) (by decide +kernel))) rfl
theorem w10_143 : Cond.methodLink "TracewheelModel" 496 ⟨"TracewheelModel", "jumpsBack", "(I)V"⟩ ∈ xTs := xin (wm_10 (List.mem_of_getElem? (i := 143) (by decide +kernel))) rfl
theorem w10_145 : Cond.instanceMethod ⟨"TracewheelModel", "jumpsBack", "(I)V"⟩ ∈ xTs := xin (wm_10 (List.mem_of_getElem? (i := 145) (by decide +kernel))) rfl
theorem w10_146 : Cond.code ⟨"TracewheelModel", "jumpsBack", "(I)V"⟩ prog_14_method_64_code 3 none ∈ xTs := xin (wm_10 (List.mem_of_getElem? (i := 146) (by decide +kernel))) rfl
theorem w10_147 : Cond.methodLink "TracewheelModel" 469 ⟨"TracewheelModel", "ends", "()V"⟩ ∈ xTs := xin (wm_10 (List.mem_of_getElem? (i := 147) (by decide +kernel))) rfl
theorem w10_149 : Cond.instanceMethod ⟨"TracewheelModel", "ends", "()V"⟩ ∈ xTs := xin (wm_10 (List.mem_of_getElem? (i := 149) (by decide +kernel))) rfl
theorem w10_150 : Cond.code ⟨"TracewheelModel", "ends", "()V"⟩ prog_14_method_47_code 5 none ∈ xTs := xin (wm_10 (List.mem_of_getElem? (i := 150) (by decide +kernel))) rfl
theorem w10_151 : Cond.methodLink "TracewheelModel" 472 ⟨"TracewheelModel", "rootAt", "(I)I"⟩ ∈ xTs := xin (wm_10 (List.mem_of_getElem? (i := 151) (by decide +kernel))) rfl
theorem w10_153 : Cond.instanceMethod ⟨"TracewheelModel", "rootAt", "(I)I"⟩ ∈ xTs := xin (wm_10 (List.mem_of_getElem? (i := 153) (by decide +kernel))) rfl
theorem w10_154 : Cond.code ⟨"TracewheelModel", "rootAt", "(I)I"⟩ prog_14_method_23_code 3 (some .int) ∈ xTs := xin (wm_10 (List.mem_of_getElem? (i := 154) (by decide +kernel))) rfl
theorem w10_155 : Cond.methodLink "TracewheelLaw" 184 ⟨"TracewheelModel", "outcome", "()C"⟩ ∈ xTs := xin (wm_10 (List.mem_of_getElem? (i := 155) (by decide +kernel))) rfl
theorem w10_156 : Cond.instanceMethod ⟨"TracewheelModel", "outcome", "()C"⟩ ∈ xTs := xin (wm_10 (List.mem_of_getElem? (i := 156) (by decide +kernel))) rfl
theorem w10_157 : Cond.selects "TracewheelModel" ⟨"TracewheelModel", "outcome", "()C"⟩ ⟨"TracewheelModel", "outcome", "()C"⟩ ∈ xTs := xin (wm_10 (List.mem_of_getElem? (i := 157) (by decide +kernel))) rfl
theorem w10_158 : Cond.code ⟨"TracewheelModel", "outcome", "()C"⟩ prog_14_method_69_code 1 (some .char) ∈ xTs := xin (wm_10 (List.mem_of_getElem? (i := 158) (by decide +kernel))) rfl
theorem w10_159 : Cond.methodLink "TracewheelLaw" 188 ⟨"TracewheelModel", "resultKind", "()C"⟩ ∈ xTs := xin (wm_10 (List.mem_of_getElem? (i := 159) (by decide +kernel))) rfl
theorem w10_160 : Cond.instanceMethod ⟨"TracewheelModel", "resultKind", "()C"⟩ ∈ xTs := xin (wm_10 (List.mem_of_getElem? (i := 160) (by decide +kernel))) rfl
theorem w10_161 : Cond.selects "TracewheelModel" ⟨"TracewheelModel", "resultKind", "()C"⟩ ⟨"TracewheelModel", "resultKind", "()C"⟩ ∈ xTs := xin (wm_10 (List.mem_of_getElem? (i := 161) (by decide +kernel))) rfl
theorem w10_162 : Cond.code ⟨"TracewheelModel", "resultKind", "()C"⟩ prog_14_method_70_code 1 (some .char) ∈ xTs := xin (wm_10 (List.mem_of_getElem? (i := 162) (by decide +kernel))) rfl
theorem w10_163 : Cond.methodLink "TracewheelLaw" 191 ⟨"TracewheelModel", "result", "()J"⟩ ∈ xTs := xin (wm_10 (List.mem_of_getElem? (i := 163) (by decide +kernel))) rfl
theorem w10_164 : Cond.instanceMethod ⟨"TracewheelModel", "result", "()J"⟩ ∈ xTs := xin (wm_10 (List.mem_of_getElem? (i := 164) (by decide +kernel))) rfl
theorem w10_165 : Cond.selects "TracewheelModel" ⟨"TracewheelModel", "result", "()J"⟩ ⟨"TracewheelModel", "result", "()J"⟩ ∈ xTs := xin (wm_10 (List.mem_of_getElem? (i := 165) (by decide +kernel))) rfl
theorem w10_166 : Cond.code ⟨"TracewheelModel", "result", "()J"⟩ prog_14_method_71_code 1 (some .long) ∈ xTs := xin (wm_10 (List.mem_of_getElem? (i := 166) (by decide +kernel))) rfl
theorem w10_167 : Cond.methodLink "TracewheelLaw" 194 ⟨"TracewheelModel", "failure", "()C"⟩ ∈ xTs := xin (wm_10 (List.mem_of_getElem? (i := 167) (by decide +kernel))) rfl
theorem w10_168 : Cond.instanceMethod ⟨"TracewheelModel", "failure", "()C"⟩ ∈ xTs := xin (wm_10 (List.mem_of_getElem? (i := 168) (by decide +kernel))) rfl
theorem w10_169 : Cond.selects "TracewheelModel" ⟨"TracewheelModel", "failure", "()C"⟩ ⟨"TracewheelModel", "failure", "()C"⟩ ∈ xTs := xin (wm_10 (List.mem_of_getElem? (i := 169) (by decide +kernel))) rfl
theorem w10_170 : Cond.code ⟨"TracewheelModel", "failure", "()C"⟩ prog_14_method_72_code 1 (some .char) ∈ xTs := xin (wm_10 (List.mem_of_getElem? (i := 170) (by decide +kernel))) rfl
theorem w10_171 : Cond.methodLink "TracewheelLaw" 197 ⟨"TracewheelModel", "line", "()I"⟩ ∈ xTs := xin (wm_10 (List.mem_of_getElem? (i := 171) (by decide +kernel))) rfl
theorem w10_172 : Cond.instanceMethod ⟨"TracewheelModel", "line", "()I"⟩ ∈ xTs := xin (wm_10 (List.mem_of_getElem? (i := 172) (by decide +kernel))) rfl
theorem w10_173 : Cond.selects "TracewheelModel" ⟨"TracewheelModel", "line", "()I"⟩ ⟨"TracewheelModel", "line", "()I"⟩ ∈ xTs := xin (wm_10 (List.mem_of_getElem? (i := 173) (by decide +kernel))) rfl
theorem w10_174 : Cond.code ⟨"TracewheelModel", "line", "()I"⟩ prog_14_method_73_code 1 (some .int) ∈ xTs := xin (wm_10 (List.mem_of_getElem? (i := 174) (by decide +kernel))) rfl
theorem w10_175 : Cond.methodLink "TracewheelLaw" 201 ⟨"TracewheelModel", "told", "()I"⟩ ∈ xTs := xin (wm_10 (List.mem_of_getElem? (i := 175) (by decide +kernel))) rfl
theorem w10_176 : Cond.instanceMethod ⟨"TracewheelModel", "told", "()I"⟩ ∈ xTs := xin (wm_10 (List.mem_of_getElem? (i := 176) (by decide +kernel))) rfl
theorem w10_177 : Cond.selects "TracewheelModel" ⟨"TracewheelModel", "told", "()I"⟩ ⟨"TracewheelModel", "told", "()I"⟩ ∈ xTs := xin (wm_10 (List.mem_of_getElem? (i := 177) (by decide +kernel))) rfl
theorem w10_178 : Cond.code ⟨"TracewheelModel", "told", "()I"⟩ prog_14_method_74_code 1 (some .int) ∈ xTs := xin (wm_10 (List.mem_of_getElem? (i := 178) (by decide +kernel))) rfl
theorem w10_179 : Cond.methodLink "TracewheelLaw" 204 ⟨"TracewheelModel", "toldKind", "(I)C"⟩ ∈ xTs := xin (wm_10 (List.mem_of_getElem? (i := 179) (by decide +kernel))) rfl
theorem w10_180 : Cond.instanceMethod ⟨"TracewheelModel", "toldKind", "(I)C"⟩ ∈ xTs := xin (wm_10 (List.mem_of_getElem? (i := 180) (by decide +kernel))) rfl
theorem w10_181 : Cond.selects "TracewheelModel" ⟨"TracewheelModel", "toldKind", "(I)C"⟩ ⟨"TracewheelModel", "toldKind", "(I)C"⟩ ∈ xTs := xin (wm_10 (List.mem_of_getElem? (i := 181) (by decide +kernel))) rfl
theorem w10_182 : Cond.code ⟨"TracewheelModel", "toldKind", "(I)C"⟩ prog_14_method_75_code 2 (some .char) ∈ xTs := xin (wm_10 (List.mem_of_getElem? (i := 182) (by decide +kernel))) rfl
theorem w10_183 : Cond.methodLink "TracewheelLaw" 207 ⟨"TracewheelModel", "toldAt", "(I)J"⟩ ∈ xTs := xin (wm_10 (List.mem_of_getElem? (i := 183) (by decide +kernel))) rfl
theorem w10_184 : Cond.instanceMethod ⟨"TracewheelModel", "toldAt", "(I)J"⟩ ∈ xTs := xin (wm_10 (List.mem_of_getElem? (i := 184) (by decide +kernel))) rfl
theorem w10_185 : Cond.selects "TracewheelModel" ⟨"TracewheelModel", "toldAt", "(I)J"⟩ ⟨"TracewheelModel", "toldAt", "(I)J"⟩ ∈ xTs := xin (wm_10 (List.mem_of_getElem? (i := 185) (by decide +kernel))) rfl
theorem w10_186 : Cond.code ⟨"TracewheelModel", "toldAt", "(I)J"⟩ prog_14_method_76_code 2 (some .long) ∈ xTs := xin (wm_10 (List.mem_of_getElem? (i := 186) (by decide +kernel))) rfl
theorem w10_187 : Cond.methodLink "TracewheelLaw" 211 ⟨"TracewheelModel", "objects", "()I"⟩ ∈ xTs := xin (wm_10 (List.mem_of_getElem? (i := 187) (by decide +kernel))) rfl
theorem w10_188 : Cond.instanceMethod ⟨"TracewheelModel", "objects", "()I"⟩ ∈ xTs := xin (wm_10 (List.mem_of_getElem? (i := 188) (by decide +kernel))) rfl
theorem w10_189 : Cond.selects "TracewheelModel" ⟨"TracewheelModel", "objects", "()I"⟩ ⟨"TracewheelModel", "objects", "()I"⟩ ∈ xTs := xin (wm_10 (List.mem_of_getElem? (i := 189) (by decide +kernel))) rfl
theorem w10_190 : Cond.code ⟨"TracewheelModel", "objects", "()I"⟩ prog_14_method_77_code 1 (some .int) ∈ xTs := xin (wm_10 (List.mem_of_getElem? (i := 190) (by decide +kernel))) rfl
theorem w10_191 : Cond.methodLink "TracewheelLaw" 214 ⟨"TracewheelModel", "shapeOf", "(I)I"⟩ ∈ xTs := xin (wm_10 (List.mem_of_getElem? (i := 191) (by decide +kernel))) rfl
theorem w10_192 : Cond.instanceMethod ⟨"TracewheelModel", "shapeOf", "(I)I"⟩ ∈ xTs := xin (wm_10 (List.mem_of_getElem? (i := 192) (by decide +kernel))) rfl
theorem w10_193 : Cond.selects "TracewheelModel" ⟨"TracewheelModel", "shapeOf", "(I)I"⟩ ⟨"TracewheelModel", "shapeOf", "(I)I"⟩ ∈ xTs := xin (wm_10 (List.mem_of_getElem? (i := 193) (by decide +kernel))) rfl
theorem w10_194 : Cond.code ⟨"TracewheelModel", "shapeOf", "(I)I"⟩ prog_14_method_78_code 2 (some .int) ∈ xTs := xin (wm_10 (List.mem_of_getElem? (i := 194) (by decide +kernel))) rfl
theorem w10_195 : Cond.methodLink "TracewheelLaw" 217 ⟨"TracewheelModel", "field", "(II)J"⟩ ∈ xTs := xin (wm_10 (List.mem_of_getElem? (i := 195) (by decide +kernel))) rfl
theorem w10_196 : Cond.instanceMethod ⟨"TracewheelModel", "field", "(II)J"⟩ ∈ xTs := xin (wm_10 (List.mem_of_getElem? (i := 196) (by decide +kernel))) rfl
theorem w10_197 : Cond.selects "TracewheelModel" ⟨"TracewheelModel", "field", "(II)J"⟩ ⟨"TracewheelModel", "field", "(II)J"⟩ ∈ xTs := xin (wm_10 (List.mem_of_getElem? (i := 197) (by decide +kernel))) rfl
theorem w10_198 : Cond.code ⟨"TracewheelModel", "field", "(II)J"⟩ prog_14_method_79_code 3 (some .long) ∈ xTs := xin (wm_10 (List.mem_of_getElem? (i := 198) (by decide +kernel))) rfl
theorem w10_199 : Cond.methodLink "TracewheelLaw" 221 ⟨"TracewheelModel", "shapes", "()I"⟩ ∈ xTs := xin (wm_10 (List.mem_of_getElem? (i := 199) (by decide +kernel))) rfl
theorem w10_200 : Cond.instanceMethod ⟨"TracewheelModel", "shapes", "()I"⟩ ∈ xTs := xin (wm_10 (List.mem_of_getElem? (i := 200) (by decide +kernel))) rfl
theorem w10_201 : Cond.selects "TracewheelModel" ⟨"TracewheelModel", "shapes", "()I"⟩ ⟨"TracewheelModel", "shapes", "()I"⟩ ∈ xTs := xin (wm_10 (List.mem_of_getElem? (i := 201) (by decide +kernel))) rfl
theorem w10_202 : Cond.code ⟨"TracewheelModel", "shapes", "()I"⟩ prog_14_method_80_code 1 (some .int) ∈ xTs := xin (wm_10 (List.mem_of_getElem? (i := 202) (by decide +kernel))) rfl
theorem w10_203 : Cond.methodLink "TracewheelLaw" 224 ⟨"TracewheelModel", "fields", "(I)I"⟩ ∈ xTs := xin (wm_10 (List.mem_of_getElem? (i := 203) (by decide +kernel))) rfl
theorem w10_204 : Cond.instanceMethod ⟨"TracewheelModel", "fields", "(I)I"⟩ ∈ xTs := xin (wm_10 (List.mem_of_getElem? (i := 204) (by decide +kernel))) rfl
theorem w10_205 : Cond.selects "TracewheelModel" ⟨"TracewheelModel", "fields", "(I)I"⟩ ⟨"TracewheelModel", "fields", "(I)I"⟩ ∈ xTs := xin (wm_10 (List.mem_of_getElem? (i := 205) (by decide +kernel))) rfl
theorem w10_206 : Cond.code ⟨"TracewheelModel", "fields", "(I)I"⟩ prog_14_method_81_code 2 (some .int) ∈ xTs := xin (wm_10 (List.mem_of_getElem? (i := 206) (by decide +kernel))) rfl
theorem w10_207 : Cond.methodLink "TracewheelLaw" 227 ⟨"TracewheelModel", "fieldAt", "(II)I"⟩ ∈ xTs := xin (wm_10 (List.mem_of_getElem? (i := 207) (by decide +kernel))) rfl
theorem w10_208 : Cond.instanceMethod ⟨"TracewheelModel", "fieldAt", "(II)I"⟩ ∈ xTs := xin (wm_10 (List.mem_of_getElem? (i := 208) (by decide +kernel))) rfl
theorem w10_209 : Cond.selects "TracewheelModel" ⟨"TracewheelModel", "fieldAt", "(II)I"⟩ ⟨"TracewheelModel", "fieldAt", "(II)I"⟩ ∈ xTs := xin (wm_10 (List.mem_of_getElem? (i := 209) (by decide +kernel))) rfl
theorem w10_210 : Cond.code ⟨"TracewheelModel", "fieldAt", "(II)I"⟩ prog_14_method_82_code 3 (some .int) ∈ xTs := xin (wm_10 (List.mem_of_getElem? (i := 210) (by decide +kernel))) rfl
theorem w10_211 : Cond.methodLink "TracewheelLaw" 230 ⟨"TracewheelModel", "nextShape", "(II)I"⟩ ∈ xTs := xin (wm_10 (List.mem_of_getElem? (i := 211) (by decide +kernel))) rfl
theorem w10_212 : Cond.instanceMethod ⟨"TracewheelModel", "nextShape", "(II)I"⟩ ∈ xTs := xin (wm_10 (List.mem_of_getElem? (i := 212) (by decide +kernel))) rfl
theorem w10_213 : Cond.selects "TracewheelModel" ⟨"TracewheelModel", "nextShape", "(II)I"⟩ ⟨"TracewheelModel", "nextShape", "(II)I"⟩ ∈ xTs := xin (wm_10 (List.mem_of_getElem? (i := 213) (by decide +kernel))) rfl
theorem w10_214 : Cond.code ⟨"TracewheelModel", "nextShape", "(II)I"⟩ prog_14_method_83_code 3 (some .int) ∈ xTs := xin (wm_10 (List.mem_of_getElem? (i := 214) (by decide +kernel))) rfl
theorem w10_215 : Cond.methodLink "TracewheelLaw" 233 ⟨"TracewheelModel", "cacheState", "(II)C"⟩ ∈ xTs := xin (wm_10 (List.mem_of_getElem? (i := 215) (by decide +kernel))) rfl
theorem w10_216 : Cond.instanceMethod ⟨"TracewheelModel", "cacheState", "(II)C"⟩ ∈ xTs := xin (wm_10 (List.mem_of_getElem? (i := 216) (by decide +kernel))) rfl
theorem w10_217 : Cond.selects "TracewheelModel" ⟨"TracewheelModel", "cacheState", "(II)C"⟩ ⟨"TracewheelModel", "cacheState", "(II)C"⟩ ∈ xTs := xin (wm_10 (List.mem_of_getElem? (i := 217) (by decide +kernel))) rfl
theorem w10_218 : Cond.code ⟨"TracewheelModel", "cacheState", "(II)C"⟩ prog_14_method_85_code 4 (some .char) ∈ xTs := xin (wm_10 (List.mem_of_getElem? (i := 218) (by decide +kernel))) rfl
theorem w10_219 : Cond.methodLink "TracewheelModel" 514 ⟨"TracewheelModel", "cache", "(II)I"⟩ ∈ xTs := xin (wm_10 (List.mem_of_getElem? (i := 219) (by decide +kernel))) rfl
theorem w10_221 : Cond.instanceMethod ⟨"TracewheelModel", "cache", "(II)I"⟩ ∈ xTs := xin (wm_10 (List.mem_of_getElem? (i := 221) (by decide +kernel))) rfl
theorem w10_222 : Cond.code ⟨"TracewheelModel", "cache", "(II)I"⟩ prog_14_method_84_code 4 (some .int) ∈ xTs := xin (wm_10 (List.mem_of_getElem? (i := 222) (by decide +kernel))) rfl
theorem w10_223 : Cond.methodLink "TracewheelLaw" 236 ⟨"TracewheelModel", "hits", "(II)I"⟩ ∈ xTs := xin (wm_10 (List.mem_of_getElem? (i := 223) (by decide +kernel))) rfl
theorem w10_224 : Cond.instanceMethod ⟨"TracewheelModel", "hits", "(II)I"⟩ ∈ xTs := xin (wm_10 (List.mem_of_getElem? (i := 224) (by decide +kernel))) rfl
theorem w10_225 : Cond.selects "TracewheelModel" ⟨"TracewheelModel", "hits", "(II)I"⟩ ⟨"TracewheelModel", "hits", "(II)I"⟩ ∈ xTs := xin (wm_10 (List.mem_of_getElem? (i := 225) (by decide +kernel))) rfl
theorem w10_226 : Cond.code ⟨"TracewheelModel", "hits", "(II)I"⟩ prog_14_method_86_code 4 (some .int) ∈ xTs := xin (wm_10 (List.mem_of_getElem? (i := 226) (by decide +kernel))) rfl
theorem w10_227 : Cond.methodLink "TracewheelLaw" 239 ⟨"TracewheelModel", "misses", "(II)I"⟩ ∈ xTs := xin (wm_10 (List.mem_of_getElem? (i := 227) (by decide +kernel))) rfl
theorem w10_228 : Cond.instanceMethod ⟨"TracewheelModel", "misses", "(II)I"⟩ ∈ xTs := xin (wm_10 (List.mem_of_getElem? (i := 228) (by decide +kernel))) rfl
theorem w10_229 : Cond.selects "TracewheelModel" ⟨"TracewheelModel", "misses", "(II)I"⟩ ⟨"TracewheelModel", "misses", "(II)I"⟩ ∈ xTs := xin (wm_10 (List.mem_of_getElem? (i := 229) (by decide +kernel))) rfl
theorem w10_230 : Cond.code ⟨"TracewheelModel", "misses", "(II)I"⟩ prog_14_method_87_code 4 (some .int) ∈ xTs := xin (wm_10 (List.mem_of_getElem? (i := 230) (by decide +kernel))) rfl
theorem w10_231 : Cond.methodLink "TracewheelLaw" 242 ⟨"TracewheelModel", "counter", "(II)I"⟩ ∈ xTs := xin (wm_10 (List.mem_of_getElem? (i := 231) (by decide +kernel))) rfl
theorem w10_232 : Cond.instanceMethod ⟨"TracewheelModel", "counter", "(II)I"⟩ ∈ xTs := xin (wm_10 (List.mem_of_getElem? (i := 232) (by decide +kernel))) rfl
theorem w10_233 : Cond.selects "TracewheelModel" ⟨"TracewheelModel", "counter", "(II)I"⟩ ⟨"TracewheelModel", "counter", "(II)I"⟩ ∈ xTs := xin (wm_10 (List.mem_of_getElem? (i := 233) (by decide +kernel))) rfl
theorem w10_234 : Cond.code ⟨"TracewheelModel", "counter", "(II)I"⟩ prog_14_method_89_code 3 (some .int) ∈ xTs := xin (wm_10 (List.mem_of_getElem? (i := 234) (by decide +kernel))) rfl
theorem w10_235 : Cond.methodLink "TracewheelModel" 517 ⟨"TracewheelModel", "isHead", "(II)Z"⟩ ∈ xTs := xin (wm_10 (List.mem_of_getElem? (i := 235) (by decide +kernel))) rfl
theorem w10_237 : Cond.instanceMethod ⟨"TracewheelModel", "isHead", "(II)Z"⟩ ∈ xTs := xin (wm_10 (List.mem_of_getElem? (i := 237) (by decide +kernel))) rfl
theorem w10_238 : Cond.code ⟨"TracewheelModel", "isHead", "(II)Z"⟩ prog_14_method_88_code 3 (some .boolean) ∈ xTs := xin (wm_10 (List.mem_of_getElem? (i := 238) (by decide +kernel))) rfl
theorem w10_239 : Cond.methodLink "TracewheelLaw" 245 ⟨"TracewheelModel", "isBarred", "(II)Z"⟩ ∈ xTs := xin (wm_10 (List.mem_of_getElem? (i := 239) (by decide +kernel))) rfl
theorem w11_0 : Cond.instanceMethod ⟨"TracewheelModel", "isBarred", "(II)Z"⟩ ∈ xTs := xin (wm_11 (List.mem_of_getElem? (i := 0) (by decide +kernel))) rfl
theorem w11_1 : Cond.selects "TracewheelModel" ⟨"TracewheelModel", "isBarred", "(II)Z"⟩ ⟨"TracewheelModel", "isBarred", "(II)Z"⟩ ∈ xTs := xin (wm_11 (List.mem_of_getElem? (i := 1) (by decide +kernel))) rfl
theorem w11_2 : Cond.code ⟨"TracewheelModel", "isBarred", "(II)Z"⟩ prog_14_method_90_code 3 (some .boolean) ∈ xTs := xin (wm_11 (List.mem_of_getElem? (i := 2) (by decide +kernel))) rfl
theorem w11_3 : Cond.methodLink "TracewheelLaw" 249 ⟨"TracewheelModel", "traces", "()I"⟩ ∈ xTs := xin (wm_11 (List.mem_of_getElem? (i := 3) (by decide +kernel))) rfl
theorem w11_4 : Cond.instanceMethod ⟨"TracewheelModel", "traces", "()I"⟩ ∈ xTs := xin (wm_11 (List.mem_of_getElem? (i := 4) (by decide +kernel))) rfl
theorem w11_5 : Cond.selects "TracewheelModel" ⟨"TracewheelModel", "traces", "()I"⟩ ⟨"TracewheelModel", "traces", "()I"⟩ ∈ xTs := xin (wm_11 (List.mem_of_getElem? (i := 5) (by decide +kernel))) rfl
theorem w11_6 : Cond.code ⟨"TracewheelModel", "traces", "()I"⟩ prog_14_method_91_code 1 (some .int) ∈ xTs := xin (wm_11 (List.mem_of_getElem? (i := 6) (by decide +kernel))) rfl
theorem w11_7 : Cond.methodLink "TracewheelLaw" 252 ⟨"TracewheelModel", "isThere", "(I)Z"⟩ ∈ xTs := xin (wm_11 (List.mem_of_getElem? (i := 7) (by decide +kernel))) rfl
theorem w11_8 : Cond.instanceMethod ⟨"TracewheelModel", "isThere", "(I)Z"⟩ ∈ xTs := xin (wm_11 (List.mem_of_getElem? (i := 8) (by decide +kernel))) rfl
theorem w11_9 : Cond.selects "TracewheelModel" ⟨"TracewheelModel", "isThere", "(I)Z"⟩ ⟨"TracewheelModel", "isThere", "(I)Z"⟩ ∈ xTs := xin (wm_11 (List.mem_of_getElem? (i := 9) (by decide +kernel))) rfl
theorem w11_10 : Cond.code ⟨"TracewheelModel", "isThere", "(I)Z"⟩ prog_14_method_94_code 2 (some .boolean) ∈ xTs := xin (wm_11 (List.mem_of_getElem? (i := 10) (by decide +kernel))) rfl
theorem w11_11 : Cond.methodLink "TracewheelModel" 520 ⟨"TracewheelModel", "isTrace", "(I)Z"⟩ ∈ xTs := xin (wm_11 (List.mem_of_getElem? (i := 11) (by decide +kernel))) rfl
theorem w11_13 : Cond.instanceMethod ⟨"TracewheelModel", "isTrace", "(I)Z"⟩ ∈ xTs := xin (wm_11 (List.mem_of_getElem? (i := 13) (by decide +kernel))) rfl
theorem w11_14 : Cond.code ⟨"TracewheelModel", "isTrace", "(I)Z"⟩ prog_14_method_92_code 2 (some .boolean) ∈ xTs := xin (wm_11 (List.mem_of_getElem? (i := 14) (by decide +kernel))) rfl
theorem w11_15 : Cond.methodLink "TracewheelLaw" 255 ⟨"TracewheelModel", "steps", "(I)I"⟩ ∈ xTs := xin (wm_11 (List.mem_of_getElem? (i := 15) (by decide +kernel))) rfl
theorem w11_16 : Cond.instanceMethod ⟨"TracewheelModel", "steps", "(I)I"⟩ ∈ xTs := xin (wm_11 (List.mem_of_getElem? (i := 16) (by decide +kernel))) rfl
theorem w11_17 : Cond.selects "TracewheelModel" ⟨"TracewheelModel", "steps", "(I)I"⟩ ⟨"TracewheelModel", "steps", "(I)I"⟩ ∈ xTs := xin (wm_11 (List.mem_of_getElem? (i := 17) (by decide +kernel))) rfl
theorem w11_18 : Cond.code ⟨"TracewheelModel", "steps", "(I)I"⟩ prog_14_method_95_code 2 (some .int) ∈ xTs := xin (wm_11 (List.mem_of_getElem? (i := 18) (by decide +kernel))) rfl
theorem w11_19 : Cond.methodLink "TracewheelLaw" 258 ⟨"TracewheelModel", "lineAt", "(II)I"⟩ ∈ xTs := xin (wm_11 (List.mem_of_getElem? (i := 19) (by decide +kernel))) rfl
theorem w11_20 : Cond.instanceMethod ⟨"TracewheelModel", "lineAt", "(II)I"⟩ ∈ xTs := xin (wm_11 (List.mem_of_getElem? (i := 20) (by decide +kernel))) rfl
theorem w11_21 : Cond.selects "TracewheelModel" ⟨"TracewheelModel", "lineAt", "(II)I"⟩ ⟨"TracewheelModel", "lineAt", "(II)I"⟩ ∈ xTs := xin (wm_11 (List.mem_of_getElem? (i := 21) (by decide +kernel))) rfl
theorem w11_22 : Cond.code ⟨"TracewheelModel", "lineAt", "(II)I"⟩ prog_14_method_96_code 3 (some .int) ∈ xTs := xin (wm_11 (List.mem_of_getElem? (i := 22) (by decide +kernel))) rfl
theorem w11_23 : Cond.methodLink "TracewheelLaw" 261 ⟨"TracewheelModel", "guards", "(I)I"⟩ ∈ xTs := xin (wm_11 (List.mem_of_getElem? (i := 23) (by decide +kernel))) rfl
theorem w11_24 : Cond.instanceMethod ⟨"TracewheelModel", "guards", "(I)I"⟩ ∈ xTs := xin (wm_11 (List.mem_of_getElem? (i := 24) (by decide +kernel))) rfl
theorem w11_25 : Cond.selects "TracewheelModel" ⟨"TracewheelModel", "guards", "(I)I"⟩ ⟨"TracewheelModel", "guards", "(I)I"⟩ ∈ xTs := xin (wm_11 (List.mem_of_getElem? (i := 25) (by decide +kernel))) rfl
theorem w11_26 : Cond.code ⟨"TracewheelModel", "guards", "(I)I"⟩ prog_14_method_97_code 2 (some .int) ∈ xTs := xin (wm_11 (List.mem_of_getElem? (i := 26) (by decide +kernel))) rfl
theorem w11_27 : Cond.methodLink "TracewheelLaw" 264 ⟨"TracewheelModel", "guardAt", "(II)C"⟩ ∈ xTs := xin (wm_11 (List.mem_of_getElem? (i := 27) (by decide +kernel))) rfl
theorem w11_28 : Cond.instanceMethod ⟨"TracewheelModel", "guardAt", "(II)C"⟩ ∈ xTs := xin (wm_11 (List.mem_of_getElem? (i := 28) (by decide +kernel))) rfl
theorem w11_29 : Cond.selects "TracewheelModel" ⟨"TracewheelModel", "guardAt", "(II)C"⟩ ⟨"TracewheelModel", "guardAt", "(II)C"⟩ ∈ xTs := xin (wm_11 (List.mem_of_getElem? (i := 29) (by decide +kernel))) rfl
theorem w11_30 : Cond.code ⟨"TracewheelModel", "guardAt", "(II)C"⟩ prog_14_method_98_code 3 (some .char) ∈ xTs := xin (wm_11 (List.mem_of_getElem? (i := 30) (by decide +kernel))) rfl
theorem w11_31 : Cond.methodLink "TracewheelModel" 523 ⟨"TracewheelModel", "isGuard", "(II)Z"⟩ ∈ xTs := xin (wm_11 (List.mem_of_getElem? (i := 31) (by decide +kernel))) rfl
theorem w11_33 : Cond.instanceMethod ⟨"TracewheelModel", "isGuard", "(II)Z"⟩ ∈ xTs := xin (wm_11 (List.mem_of_getElem? (i := 33) (by decide +kernel))) rfl
theorem w11_34 : Cond.code ⟨"TracewheelModel", "isGuard", "(II)Z"⟩ prog_14_method_93_code 3 (some .boolean) ∈ xTs := xin (wm_11 (List.mem_of_getElem? (i := 34) (by decide +kernel))) rfl
theorem w11_35 : Cond.methodLink "TracewheelLaw" 267 ⟨"TracewheelModel", "guardStep", "(II)I"⟩ ∈ xTs := xin (wm_11 (List.mem_of_getElem? (i := 35) (by decide +kernel))) rfl
theorem w11_36 : Cond.instanceMethod ⟨"TracewheelModel", "guardStep", "(II)I"⟩ ∈ xTs := xin (wm_11 (List.mem_of_getElem? (i := 36) (by decide +kernel))) rfl
theorem w11_37 : Cond.selects "TracewheelModel" ⟨"TracewheelModel", "guardStep", "(II)I"⟩ ⟨"TracewheelModel", "guardStep", "(II)I"⟩ ∈ xTs := xin (wm_11 (List.mem_of_getElem? (i := 37) (by decide +kernel))) rfl
theorem w11_38 : Cond.code ⟨"TracewheelModel", "guardStep", "(II)I"⟩ prog_14_method_99_code 3 (some .int) ∈ xTs := xin (wm_11 (List.mem_of_getElem? (i := 38) (by decide +kernel))) rfl
theorem w11_39 : Cond.methodLink "TracewheelLaw" 270 ⟨"TracewheelModel", "exits", "(II)I"⟩ ∈ xTs := xin (wm_11 (List.mem_of_getElem? (i := 39) (by decide +kernel))) rfl
theorem w11_40 : Cond.instanceMethod ⟨"TracewheelModel", "exits", "(II)I"⟩ ∈ xTs := xin (wm_11 (List.mem_of_getElem? (i := 40) (by decide +kernel))) rfl
theorem w11_41 : Cond.selects "TracewheelModel" ⟨"TracewheelModel", "exits", "(II)I"⟩ ⟨"TracewheelModel", "exits", "(II)I"⟩ ∈ xTs := xin (wm_11 (List.mem_of_getElem? (i := 41) (by decide +kernel))) rfl
theorem w11_42 : Cond.code ⟨"TracewheelModel", "exits", "(II)I"⟩ prog_14_method_100_code 3 (some .int) ∈ xTs := xin (wm_11 (List.mem_of_getElem? (i := 42) (by decide +kernel))) rfl
theorem w11_43 : Cond.methodLink "TracewheelLaw" 273 ⟨"TracewheelModel", "sideOf", "(II)I"⟩ ∈ xTs := xin (wm_11 (List.mem_of_getElem? (i := 43) (by decide +kernel))) rfl
theorem w11_44 : Cond.instanceMethod ⟨"TracewheelModel", "sideOf", "(II)I"⟩ ∈ xTs := xin (wm_11 (List.mem_of_getElem? (i := 44) (by decide +kernel))) rfl
theorem w11_45 : Cond.selects "TracewheelModel" ⟨"TracewheelModel", "sideOf", "(II)I"⟩ ⟨"TracewheelModel", "sideOf", "(II)I"⟩ ∈ xTs := xin (wm_11 (List.mem_of_getElem? (i := 45) (by decide +kernel))) rfl
theorem w11_46 : Cond.code ⟨"TracewheelModel", "sideOf", "(II)I"⟩ prog_14_method_101_code 4 (some .int) ∈ xTs := xin (wm_11 (List.mem_of_getElem? (i := 46) (by decide +kernel))) rfl
theorem w11_47 : Cond.methodLink "TracewheelLaw" 276 ⟨"TracewheelModel", "rootOf", "(I)I"⟩ ∈ xTs := xin (wm_11 (List.mem_of_getElem? (i := 47) (by decide +kernel))) rfl
theorem w11_48 : Cond.instanceMethod ⟨"TracewheelModel", "rootOf", "(I)I"⟩ ∈ xTs := xin (wm_11 (List.mem_of_getElem? (i := 48) (by decide +kernel))) rfl
theorem w11_49 : Cond.selects "TracewheelModel" ⟨"TracewheelModel", "rootOf", "(I)I"⟩ ⟨"TracewheelModel", "rootOf", "(I)I"⟩ ∈ xTs := xin (wm_11 (List.mem_of_getElem? (i := 49) (by decide +kernel))) rfl
theorem w11_50 : Cond.code ⟨"TracewheelModel", "rootOf", "(I)I"⟩ prog_14_method_102_code 2 (some .int) ∈ xTs := xin (wm_11 (List.mem_of_getElem? (i := 50) (by decide +kernel))) rfl
theorem w11_51 : Cond.methodLink "TracewheelLaw" 279 ⟨"TracewheelModel", "begun", "(I)I"⟩ ∈ xTs := xin (wm_11 (List.mem_of_getElem? (i := 51) (by decide +kernel))) rfl
theorem w11_52 : Cond.instanceMethod ⟨"TracewheelModel", "begun", "(I)I"⟩ ∈ xTs := xin (wm_11 (List.mem_of_getElem? (i := 52) (by decide +kernel))) rfl
theorem w11_53 : Cond.selects "TracewheelModel" ⟨"TracewheelModel", "begun", "(I)I"⟩ ⟨"TracewheelModel", "begun", "(I)I"⟩ ∈ xTs := xin (wm_11 (List.mem_of_getElem? (i := 53) (by decide +kernel))) rfl
theorem w11_54 : Cond.code ⟨"TracewheelModel", "begun", "(I)I"⟩ prog_14_method_103_code 2 (some .int) ∈ xTs := xin (wm_11 (List.mem_of_getElem? (i := 54) (by decide +kernel))) rfl
theorem w11_55 : Cond.methodLink "TracewheelLaw" 283 ⟨"TracewheelModel", "inTraces", "()I"⟩ ∈ xTs := xin (wm_11 (List.mem_of_getElem? (i := 55) (by decide +kernel))) rfl
theorem w11_56 : Cond.instanceMethod ⟨"TracewheelModel", "inTraces", "()I"⟩ ∈ xTs := xin (wm_11 (List.mem_of_getElem? (i := 56) (by decide +kernel))) rfl
theorem w11_57 : Cond.selects "TracewheelModel" ⟨"TracewheelModel", "inTraces", "()I"⟩ ⟨"TracewheelModel", "inTraces", "()I"⟩ ∈ xTs := xin (wm_11 (List.mem_of_getElem? (i := 57) (by decide +kernel))) rfl
theorem w11_58 : Cond.code ⟨"TracewheelModel", "inTraces", "()I"⟩ prog_14_method_104_code 1 (some .int) ∈ xTs := xin (wm_11 (List.mem_of_getElem? (i := 58) (by decide +kernel))) rfl
theorem w11_59 : Cond.methodLink "TracewheelLaw" 287 ⟨"TracewheelModel", "codeSize", "()I"⟩ ∈ xTs := xin (wm_11 (List.mem_of_getElem? (i := 59) (by decide +kernel))) rfl
theorem w11_60 : Cond.instanceMethod ⟨"TracewheelModel", "codeSize", "()I"⟩ ∈ xTs := xin (wm_11 (List.mem_of_getElem? (i := 60) (by decide +kernel))) rfl
theorem w11_61 : Cond.selects "TracewheelModel" ⟨"TracewheelModel", "codeSize", "()I"⟩ ⟨"TracewheelModel", "codeSize", "()I"⟩ ∈ xTs := xin (wm_11 (List.mem_of_getElem? (i := 61) (by decide +kernel))) rfl
theorem w11_62 : Cond.code ⟨"TracewheelModel", "codeSize", "()I"⟩ prog_14_method_105_code 1 (some .int) ∈ xTs := xin (wm_11 (List.mem_of_getElem? (i := 62) (by decide +kernel))) rfl
theorem w11_63 : Cond.methodLink "TracewheelLaw" 292 ⟨"TracewheelModel", "agrees", "()Z"⟩ ∈ xTs := xin (wm_11 (List.mem_of_getElem? (i := 63) (by decide +kernel))) rfl
theorem w11_64 : Cond.instanceMethod ⟨"TracewheelModel", "agrees", "()Z"⟩ ∈ xTs := xin (wm_11 (List.mem_of_getElem? (i := 64) (by decide +kernel))) rfl
theorem w11_65 : Cond.selects "TracewheelModel" ⟨"TracewheelModel", "agrees", "()Z"⟩ ⟨"TracewheelModel", "agrees", "()Z"⟩ ∈ xTs := xin (wm_11 (List.mem_of_getElem? (i := 65) (by decide +kernel))) rfl
theorem w11_66 : Cond.code ⟨"TracewheelModel", "agrees", "()Z"⟩ prog_14_method_106_code 1 (some .boolean) ∈ xTs := xin (wm_11 (List.mem_of_getElem? (i := 66) (by decide +kernel))) rfl
theorem w11_67 : Cond.methodLink "TracewheelLaw" 296 ⟨"TracewheelModel", "tracedShare", "()F"⟩ ∈ xTs := xin (wm_11 (List.mem_of_getElem? (i := 67) (by decide +kernel))) rfl
theorem w11_68 : Cond.instanceMethod ⟨"TracewheelModel", "tracedShare", "()F"⟩ ∈ xTs := xin (wm_11 (List.mem_of_getElem? (i := 68) (by decide +kernel))) rfl
theorem w11_69 : Cond.selects "TracewheelModel" ⟨"TracewheelModel", "tracedShare", "()F"⟩ ⟨"TracewheelModel", "tracedShare", "()F"⟩ ∈ xTs := xin (wm_11 (List.mem_of_getElem? (i := 69) (by decide +kernel))) rfl
theorem w11_70 : Cond.code ⟨"TracewheelModel", "tracedShare", "()F"⟩ prog_14_method_107_code 1 (some .float) ∈ xTs := xin (wm_11 (List.mem_of_getElem? (i := 70) (by decide +kernel))) rfl
theorem w11_71 : Cond.methodLink "TracewheelLaw" 299 ⟨"TracewheelModel", "meanGuards", "()D"⟩ ∈ xTs := xin (wm_11 (List.mem_of_getElem? (i := 71) (by decide +kernel))) rfl
theorem w11_72 : Cond.instanceMethod ⟨"TracewheelModel", "meanGuards", "()D"⟩ ∈ xTs := xin (wm_11 (List.mem_of_getElem? (i := 72) (by decide +kernel))) rfl
theorem w11_73 : Cond.selects "TracewheelModel" ⟨"TracewheelModel", "meanGuards", "()D"⟩ ⟨"TracewheelModel", "meanGuards", "()D"⟩ ∈ xTs := xin (wm_11 (List.mem_of_getElem? (i := 73) (by decide +kernel))) rfl
theorem w11_74 : Cond.code ⟨"TracewheelModel", "meanGuards", "()D"⟩ prog_14_method_108_code 4 (some .double) ∈ xTs := xin (wm_11 (List.mem_of_getElem? (i := 74) (by decide +kernel))) rfl
theorem w11_75 : Cond.methodLink "TracewheelLaw" 303 ⟨"TracewheelModel", "isSound", "()Z"⟩ ∈ xTs := xin (wm_11 (List.mem_of_getElem? (i := 75) (by decide +kernel))) rfl
theorem w11_76 : Cond.instanceMethod ⟨"TracewheelModel", "isSound", "()Z"⟩ ∈ xTs := xin (wm_11 (List.mem_of_getElem? (i := 76) (by decide +kernel))) rfl
theorem w11_77 : Cond.selects "TracewheelModel" ⟨"TracewheelModel", "isSound", "()Z"⟩ ⟨"TracewheelModel", "isSound", "()Z"⟩ ∈ xTs := xin (wm_11 (List.mem_of_getElem? (i := 77) (by decide +kernel))) rfl
theorem w11_78 : Cond.code ⟨"TracewheelModel", "isSound", "()Z"⟩ prog_14_method_109_code 1 (some .boolean) ∈ xTs := xin (wm_11 (List.mem_of_getElem? (i := 78) (by decide +kernel))) rfl
theorem w11_79 : Cond.sameMethod "java/lang/Throwable" "java/lang/Throwable" "fillInStackTrace" "(I)Ljava/lang/Throwable;" ∈ xTs := xin (wm_11 (List.mem_of_getElem? (i := 79) (by decide +kernel))) rfl
theorem w11_102 : Cond.fieldLink "java/lang/String" 15 "java/lang/String" "coder" "B" ∈ xTs := xin (wm_11 (List.mem_of_getElem? (i := 102) (by decide +kernel))) rfl
theorem w11_103 : Cond.fieldLink "java/lang/String" 9 "java/lang/String" "value" "[B" ∈ xTs := xin (wm_11 (List.mem_of_getElem? (i := 103) (by decide +kernel))) rfl
theorem ws1_0 : Cond.selects "java/lang/Throwable" ⟨"java/lang/Throwable", "fillInStackTrace", "(I)Ljava/lang/Throwable;"⟩ ⟨"java/lang/Throwable", "fillInStackTrace", "(I)Ljava/lang/Throwable;"⟩ ∈ xTs := xin (wp_1 (q := (⟨"java/lang/Throwable", "fillInStackTrace", "(I)Ljava/lang/Throwable;"⟩, 6)) (List.mem_of_getElem? (i := 0) (by decide +kernel))) rfl
theorem ws1_1 : Cond.selects "Tracewheel" ⟨"Tracewheel", "needFunction", "(I)V"⟩ ⟨"Tracewheel", "needFunction", "(I)V"⟩ ∈ xTs := xin (wp_1 (q := (⟨"Tracewheel", "needFunction", "(I)V"⟩, 6)) (List.mem_of_getElem? (i := 1) (by decide +kernel))) rfl
theorem ws1_2 : Cond.selects "Tracewheel$Program" ⟨"Tracewheel$Program", "operandBound", "(C)I"⟩ ⟨"Tracewheel$Program", "operandBound", "(C)I"⟩ ∈ xTs := xin (wp_1 (q := (⟨"Tracewheel$Program", "operandBound", "(C)I"⟩, 10)) (List.mem_of_getElem? (i := 2) (by decide +kernel))) rfl
theorem ws1_3 : Cond.selects "Tracewheel" ⟨"Tracewheel", "needIndex", "(I)V"⟩ ⟨"Tracewheel", "needIndex", "(I)V"⟩ ∈ xTs := xin (wp_1 (q := (⟨"Tracewheel", "needIndex", "(I)V"⟩, 6)) (List.mem_of_getElem? (i := 3) (by decide +kernel))) rfl
theorem ws1_4 : Cond.selects "Tracewheel$Forest" ⟨"Tracewheel$Forest", "hasStep", "(LTracewheel$Trace;CI)Z"⟩ ⟨"Tracewheel$Forest", "hasStep", "(LTracewheel$Trace;CI)Z"⟩ ∈ xTs := xin (wp_1 (q := (⟨"Tracewheel$Forest", "hasStep", "(LTracewheel$Trace;CI)Z"⟩, 6)) (List.mem_of_getElem? (i := 4) (by decide +kernel))) rfl
theorem ws1_5 : Cond.selects "Tracewheel$Forest" ⟨"Tracewheel$Forest", "throwTree", "(I)V"⟩ ⟨"Tracewheel$Forest", "throwTree", "(I)V"⟩ ∈ xTs := xin (wp_1 (q := (⟨"Tracewheel$Forest", "throwTree", "(I)V"⟩, 6)) (List.mem_of_getElem? (i := 5) (by decide +kernel))) rfl
theorem ws1_6 : Cond.selects "Tracewheel$Forest" ⟨"Tracewheel$Forest", "leastLatelyEntered", "(I)I"⟩ ⟨"Tracewheel$Forest", "leastLatelyEntered", "(I)I"⟩ ∈ xTs := xin (wp_1 (q := (⟨"Tracewheel$Forest", "leastLatelyEntered", "(I)I"⟩, 6)) (List.mem_of_getElem? (i := 6) (by decide +kernel))) rfl
theorem ws1_7 : Cond.selects "Tracewheel$Machine" ⟨"Tracewheel$Machine", "addFrame", "(I)V"⟩ ⟨"Tracewheel$Machine", "addFrame", "(I)V"⟩ ∈ xTs := xin (wp_1 (q := (⟨"Tracewheel$Machine", "addFrame", "(I)V"⟩, 16)) (List.mem_of_getElem? (i := 7) (by decide +kernel))) rfl
theorem ws1_8 : Cond.selects "Tracewheel$Machine" ⟨"Tracewheel$Machine", "endWith", "(CI)V"⟩ ⟨"Tracewheel$Machine", "endWith", "(CI)V"⟩ ∈ xTs := xin (wp_1 (q := (⟨"Tracewheel$Machine", "endWith", "(CI)V"⟩, 16)) (List.mem_of_getElem? (i := 8) (by decide +kernel))) rfl
theorem ws1_9 : Cond.selects "Tracewheel$Machine" ⟨"Tracewheel$Machine", "failsByStack", "(CI)Z"⟩ ⟨"Tracewheel$Machine", "failsByStack", "(CI)Z"⟩ ∈ xTs := xin (wp_1 (q := (⟨"Tracewheel$Machine", "failsByStack", "(CI)Z"⟩, 16)) (List.mem_of_getElem? (i := 9) (by decide +kernel))) rfl
theorem ws1_10 : Cond.selects "Tracewheel$Machine" ⟨"Tracewheel$Machine", "takes", "(CI)I"⟩ ⟨"Tracewheel$Machine", "takes", "(CI)I"⟩ ∈ xTs := xin (wp_1 (q := (⟨"Tracewheel$Machine", "takes", "(CI)I"⟩, 16)) (List.mem_of_getElem? (i := 10) (by decide +kernel))) rfl
theorem ws1_11 : Cond.selects "Tracewheel$Machine" ⟨"Tracewheel$Machine", "pushes", "(C)I"⟩ ⟨"Tracewheel$Machine", "pushes", "(C)I"⟩ ∈ xTs := xin (wp_1 (q := (⟨"Tracewheel$Machine", "pushes", "(C)I"⟩, 16)) (List.mem_of_getElem? (i := 11) (by decide +kernel))) rfl
theorem ws1_12 : Cond.selects "Tracewheel$Machine" ⟨"Tracewheel$Machine", "failsByKind", "(C)Z"⟩ ⟨"Tracewheel$Machine", "failsByKind", "(C)Z"⟩ ∈ xTs := xin (wp_1 (q := (⟨"Tracewheel$Machine", "failsByKind", "(C)Z"⟩, 16)) (List.mem_of_getElem? (i := 12) (by decide +kernel))) rfl
theorem ws1_13 : Cond.selects "Tracewheel$Machine" ⟨"Tracewheel$Machine", "failureByValue", "(CI)C"⟩ ⟨"Tracewheel$Machine", "failureByValue", "(CI)C"⟩ ∈ xTs := xin (wp_1 (q := (⟨"Tracewheel$Machine", "failureByValue", "(CI)C"⟩, 16)) (List.mem_of_getElem? (i := 13) (by decide +kernel))) rfl
theorem ws1_14 : Cond.selects "Tracewheel$Machine" ⟨"Tracewheel$Machine", "dividesByZero", "()Z"⟩ ⟨"Tracewheel$Machine", "dividesByZero", "()Z"⟩ ∈ xTs := xin (wp_1 (q := (⟨"Tracewheel$Machine", "dividesByZero", "()Z"⟩, 16)) (List.mem_of_getElem? (i := 14) (by decide +kernel))) rfl
theorem ws1_15 : Cond.selects "Tracewheel$Machine" ⟨"Tracewheel$Machine", "failureByDepth", "()C"⟩ ⟨"Tracewheel$Machine", "failureByDepth", "()C"⟩ ∈ xTs := xin (wp_1 (q := (⟨"Tracewheel$Machine", "failureByDepth", "()C"⟩, 16)) (List.mem_of_getElem? (i := 15) (by decide +kernel))) rfl
theorem ws2_0 : Cond.selects "Tracewheel$Machine" ⟨"Tracewheel$Machine", "pushPut", "(CI)V"⟩ ⟨"Tracewheel$Machine", "pushPut", "(CI)V"⟩ ∈ xTs := xin (wp_2 (q := (⟨"Tracewheel$Machine", "pushPut", "(CI)V"⟩, 16)) (List.mem_of_getElem? (i := 0) (by decide +kernel))) rfl
theorem ws2_1 : Cond.selects "Tracewheel$Machine" ⟨"Tracewheel$Machine", "jumpsAtNull", "(II)Z"⟩ ⟨"Tracewheel$Machine", "jumpsAtNull", "(II)Z"⟩ ∈ xTs := xin (wp_2 (q := (⟨"Tracewheel$Machine", "jumpsAtNull", "(II)Z"⟩, 16)) (List.mem_of_getElem? (i := 1) (by decide +kernel))) rfl
theorem ws2_2 : Cond.selects "Tracewheel$Machine" ⟨"Tracewheel$Machine", "take", "()I"⟩ ⟨"Tracewheel$Machine", "take", "()I"⟩ ∈ xTs := xin (wp_2 (q := (⟨"Tracewheel$Machine", "take", "()I"⟩, 16)) (List.mem_of_getElem? (i := 2) (by decide +kernel))) rfl
theorem ws2_3 : Cond.selects "Tracewheel$Machine" ⟨"Tracewheel$Machine", "call", "(II)V"⟩ ⟨"Tracewheel$Machine", "call", "(II)V"⟩ ∈ xTs := xin (wp_2 (q := (⟨"Tracewheel$Machine", "call", "(II)V"⟩, 16)) (List.mem_of_getElem? (i := 3) (by decide +kernel))) rfl
theorem ws2_4 : Cond.selects "Tracewheel$Machine" ⟨"Tracewheel$Machine", "giveBack", "()V"⟩ ⟨"Tracewheel$Machine", "giveBack", "()V"⟩ ∈ xTs := xin (wp_2 (q := (⟨"Tracewheel$Machine", "giveBack", "()V"⟩, 16)) (List.mem_of_getElem? (i := 4) (by decide +kernel))) rfl
theorem ws2_5 : Cond.selects "Tracewheel$Machine" ⟨"Tracewheel$Machine", "pushMoved", "(I)V"⟩ ⟨"Tracewheel$Machine", "pushMoved", "(I)V"⟩ ∈ xTs := xin (wp_2 (q := (⟨"Tracewheel$Machine", "pushMoved", "(I)V"⟩, 16)) (List.mem_of_getElem? (i := 5) (by decide +kernel))) rfl
theorem ws2_6 : Cond.selects "Tracewheel$Machine" ⟨"Tracewheel$Machine", "useObject", "(CI)V"⟩ ⟨"Tracewheel$Machine", "useObject", "(CI)V"⟩ ∈ xTs := xin (wp_2 (q := (⟨"Tracewheel$Machine", "useObject", "(CI)V"⟩, 16)) (List.mem_of_getElem? (i := 6) (by decide +kernel))) rfl
theorem ws2_7 : Cond.selects "Tracewheel$Shapes" ⟨"Tracewheel$Shapes", "addLonger", "(II)I"⟩ ⟨"Tracewheel$Shapes", "addLonger", "(II)I"⟩ ∈ xTs := xin (wp_2 (q := (⟨"Tracewheel$Shapes", "addLonger", "(II)I"⟩, 7)) (List.mem_of_getElem? (i := 7) (by decide +kernel))) rfl
theorem ws2_8 : Cond.selects "Tracewheel$Machine" ⟨"Tracewheel$Machine", "useStack", "(CI)V"⟩ ⟨"Tracewheel$Machine", "useStack", "(CI)V"⟩ ∈ xTs := xin (wp_2 (q := (⟨"Tracewheel$Machine", "useStack", "(CI)V"⟩, 16)) (List.mem_of_getElem? (i := 8) (by decide +kernel))) rfl
theorem ws2_9 : Cond.selects "Tracewheel$Machine" ⟨"Tracewheel$Machine", "tell", "(I)V"⟩ ⟨"Tracewheel$Machine", "tell", "(I)V"⟩ ∈ xTs := xin (wp_2 (q := (⟨"Tracewheel$Machine", "tell", "(I)V"⟩, 16)) (List.mem_of_getElem? (i := 9) (by decide +kernel))) rfl
theorem ws2_10 : Cond.selects "Tracewheel$Slots" ⟨"Tracewheel$Slots", "realAt", "(I)D"⟩ ⟨"Tracewheel$Slots", "realAt", "(I)D"⟩ ∈ xTs := xin (wp_2 (q := (⟨"Tracewheel$Slots", "realAt", "(I)D"⟩, 4)) (List.mem_of_getElem? (i := 10) (by decide +kernel))) rfl
theorem ws2_11 : Cond.selects "Tracewheel$Slots" ⟨"Tracewheel$Slots", "isLess", "(II)Z"⟩ ⟨"Tracewheel$Slots", "isLess", "(II)Z"⟩ ∈ xTs := xin (wp_2 (q := (⟨"Tracewheel$Slots", "isLess", "(II)Z"⟩, 4)) (List.mem_of_getElem? (i := 11) (by decide +kernel))) rfl
theorem ws2_12 : Cond.selects "Tracewheel$Slots" ⟨"Tracewheel$Slots", "combineReals", "(CII)V"⟩ ⟨"Tracewheel$Slots", "combineReals", "(CII)V"⟩ ∈ xTs := xin (wp_2 (q := (⟨"Tracewheel$Slots", "combineReals", "(CII)V"⟩, 4)) (List.mem_of_getElem? (i := 12) (by decide +kernel))) rfl
theorem ws2_13 : Cond.selects "Tracewheel$Slots" ⟨"Tracewheel$Slots", "putReal", "(ID)V"⟩ ⟨"Tracewheel$Slots", "putReal", "(ID)V"⟩ ∈ xTs := xin (wp_2 (q := (⟨"Tracewheel$Slots", "putReal", "(ID)V"⟩, 4)) (List.mem_of_getElem? (i := 13) (by decide +kernel))) rfl
theorem ws2_14 : Cond.selects "Tracewheel$Wheel" ⟨"Tracewheel$Wheel", "exitAt", "(I)V"⟩ ⟨"Tracewheel$Wheel", "exitAt", "(I)V"⟩ ∈ xTs := xin (wp_2 (q := (⟨"Tracewheel$Wheel", "exitAt", "(I)V"⟩, 13)) (List.mem_of_getElem? (i := 14) (by decide +kernel))) rfl
theorem ws2_15 : Cond.selects "Tracewheel$Wheel" ⟨"Tracewheel$Wheel", "follow", "(I)V"⟩ ⟨"Tracewheel$Wheel", "follow", "(I)V"⟩ ∈ xTs := xin (wp_2 (q := (⟨"Tracewheel$Wheel", "follow", "(I)V"⟩, 13)) (List.mem_of_getElem? (i := 15) (by decide +kernel))) rfl
theorem ws3_0 : Cond.selects "Tracewheel$Recorder" ⟨"Tracewheel$Recorder", "begin", "(LTracewheel$Machine;II)V"⟩ ⟨"Tracewheel$Recorder", "begin", "(LTracewheel$Machine;II)V"⟩ ∈ xTs := xin (wp_3 (q := (⟨"Tracewheel$Recorder", "begin", "(LTracewheel$Machine;II)V"⟩, 16)) (List.mem_of_getElem? (i := 0) (by decide +kernel))) rfl
theorem ws3_1 : Cond.selects "Tracewheel$Wheel" ⟨"Tracewheel$Wheel", "enter", "(I)V"⟩ ⟨"Tracewheel$Wheel", "enter", "(I)V"⟩ ∈ xTs := xin (wp_3 (q := (⟨"Tracewheel$Wheel", "enter", "(I)V"⟩, 13)) (List.mem_of_getElem? (i := 1) (by decide +kernel))) rfl
theorem ws3_2 : Cond.selects "Tracewheel$Wheel" ⟨"Tracewheel$Wheel", "meetCache", "(C)V"⟩ ⟨"Tracewheel$Wheel", "meetCache", "(C)V"⟩ ∈ xTs := xin (wp_3 (q := (⟨"Tracewheel$Wheel", "meetCache", "(C)V"⟩, 13)) (List.mem_of_getElem? (i := 2) (by decide +kernel))) rfl
theorem ws3_3 : Cond.selects "Tracewheel$Caches" ⟨"Tracewheel$Caches", "keeps", "(II)Z"⟩ ⟨"Tracewheel$Caches", "keeps", "(II)Z"⟩ ∈ xTs := xin (wp_3 (q := (⟨"Tracewheel$Caches", "keeps", "(II)Z"⟩, 4)) (List.mem_of_getElem? (i := 3) (by decide +kernel))) rfl
theorem ws3_4 : Cond.selects "Tracewheel$Recorder" ⟨"Tracewheel$Recorder", "isKnown", "(LTracewheel$Machine;II)Z"⟩ ⟨"Tracewheel$Recorder", "isKnown", "(LTracewheel$Machine;II)Z"⟩ ∈ xTs := xin (wp_3 (q := (⟨"Tracewheel$Recorder", "isKnown", "(LTracewheel$Machine;II)Z"⟩, 16)) (List.mem_of_getElem? (i := 4) (by decide +kernel))) rfl
theorem ws3_5 : Cond.selects "Tracewheel$Recorder" ⟨"Tracewheel$Recorder", "madeOf", "(Z)I"⟩ ⟨"Tracewheel$Recorder", "madeOf", "(Z)I"⟩ ∈ xTs := xin (wp_3 (q := (⟨"Tracewheel$Recorder", "madeOf", "(Z)I"⟩, 16)) (List.mem_of_getElem? (i := 5) (by decide +kernel))) rfl
theorem ws3_6 : Cond.selects "Tracewheel$Recorder" ⟨"Tracewheel$Recorder", "askKind", "(LTracewheel$Machine;I)V"⟩ ⟨"Tracewheel$Recorder", "askKind", "(LTracewheel$Machine;I)V"⟩ ∈ xTs := xin (wp_3 (q := (⟨"Tracewheel$Recorder", "askKind", "(LTracewheel$Machine;I)V"⟩, 16)) (List.mem_of_getElem? (i := 6) (by decide +kernel))) rfl
theorem ws3_7 : Cond.selects "Tracewheel$Recorder" ⟨"Tracewheel$Recorder", "ask", "(CII)V"⟩ ⟨"Tracewheel$Recorder", "ask", "(CII)V"⟩ ∈ xTs := xin (wp_3 (q := (⟨"Tracewheel$Recorder", "ask", "(CII)V"⟩, 16)) (List.mem_of_getElem? (i := 7) (by decide +kernel))) rfl
theorem ws3_8 : Cond.selects "Tracewheel$Recorder" ⟨"Tracewheel$Recorder", "learn", "(LTracewheel$Machine;II)V"⟩ ⟨"Tracewheel$Recorder", "learn", "(LTracewheel$Machine;II)V"⟩ ∈ xTs := xin (wp_3 (q := (⟨"Tracewheel$Recorder", "learn", "(LTracewheel$Machine;II)V"⟩, 16)) (List.mem_of_getElem? (i := 8) (by decide +kernel))) rfl
theorem ws3_9 : Cond.selects "Tracewheel$Recorder" ⟨"Tracewheel$Recorder", "askNullness", "(LTracewheel$Machine;C)V"⟩ ⟨"Tracewheel$Recorder", "askNullness", "(LTracewheel$Machine;C)V"⟩ ∈ xTs := xin (wp_3 (q := (⟨"Tracewheel$Recorder", "askNullness", "(LTracewheel$Machine;C)V"⟩, 16)) (List.mem_of_getElem? (i := 9) (by decide +kernel))) rfl
theorem ws3_10 : Cond.selects "Tracewheel$Recorder" ⟨"Tracewheel$Recorder", "askShape", "(LTracewheel$Machine;I)V"⟩ ⟨"Tracewheel$Recorder", "askShape", "(LTracewheel$Machine;I)V"⟩ ∈ xTs := xin (wp_3 (q := (⟨"Tracewheel$Recorder", "askShape", "(LTracewheel$Machine;I)V"⟩, 16)) (List.mem_of_getElem? (i := 10) (by decide +kernel))) rfl
theorem ws3_11 : Cond.selects "Tracewheel$Recorder" ⟨"Tracewheel$Recorder", "forgetOtherShapes", "(LTracewheel$Machine;)V"⟩ ⟨"Tracewheel$Recorder", "forgetOtherShapes", "(LTracewheel$Machine;)V"⟩ ∈ xTs := xin (wp_3 (q := (⟨"Tracewheel$Recorder", "forgetOtherShapes", "(LTracewheel$Machine;)V"⟩, 16)) (List.mem_of_getElem? (i := 11) (by decide +kernel))) rfl
theorem ws3_12 : Cond.selects "Tracewheel$Recorder" ⟨"Tracewheel$Recorder", "noteTwoValues", "(LTracewheel$Machine;C)V"⟩ ⟨"Tracewheel$Recorder", "noteTwoValues", "(LTracewheel$Machine;C)V"⟩ ∈ xTs := xin (wp_3 (q := (⟨"Tracewheel$Recorder", "noteTwoValues", "(LTracewheel$Machine;C)V"⟩, 16)) (List.mem_of_getElem? (i := 12) (by decide +kernel))) rfl
theorem ws3_13 : Cond.selects "Tracewheel$Recorder" ⟨"Tracewheel$Recorder", "giveFacts", "(LTracewheel$Slots;II)V"⟩ ⟨"Tracewheel$Recorder", "giveFacts", "(LTracewheel$Slots;II)V"⟩ ∈ xTs := xin (wp_3 (q := (⟨"Tracewheel$Recorder", "giveFacts", "(LTracewheel$Slots;II)V"⟩, 16)) (List.mem_of_getElem? (i := 13) (by decide +kernel))) rfl
theorem ws3_14 : Cond.selects "Tracewheel$Wheel" ⟨"Tracewheel$Wheel", "arrive", "(I)V"⟩ ⟨"Tracewheel$Wheel", "arrive", "(I)V"⟩ ∈ xTs := xin (wp_3 (q := (⟨"Tracewheel$Wheel", "arrive", "(I)V"⟩, 13)) (List.mem_of_getElem? (i := 14) (by decide +kernel))) rfl
theorem ws3_15 : Cond.selects "Tracewheel$Wheel" ⟨"Tracewheel$Wheel", "finish", "()V"⟩ ⟨"Tracewheel$Wheel", "finish", "()V"⟩ ∈ xTs := xin (wp_3 (q := (⟨"Tracewheel$Wheel", "finish", "()V"⟩, 13)) (List.mem_of_getElem? (i := 15) (by decide +kernel))) rfl
theorem ws4_0 : Cond.selects "Tracewheel$Machine" ⟨"Tracewheel$Machine", "hasToldLike", "(LTracewheel$Machine;)Z"⟩ ⟨"Tracewheel$Machine", "hasToldLike", "(LTracewheel$Machine;)Z"⟩ ∈ xTs := xin (wp_4 (q := (⟨"Tracewheel$Machine", "hasToldLike", "(LTracewheel$Machine;)Z"⟩, 16)) (List.mem_of_getElem? (i := 0) (by decide +kernel))) rfl
theorem ws4_1 : Cond.selects "Tracewheel$Machine" ⟨"Tracewheel$Machine", "hasObjectsLike", "(LTracewheel$Machine;)Z"⟩ ⟨"Tracewheel$Machine", "hasObjectsLike", "(LTracewheel$Machine;)Z"⟩ ∈ xTs := xin (wp_4 (q := (⟨"Tracewheel$Machine", "hasObjectsLike", "(LTracewheel$Machine;)Z"⟩, 16)) (List.mem_of_getElem? (i := 1) (by decide +kernel))) rfl
theorem ws4_2 : Cond.selects "Tracewheel$Machine" ⟨"Tracewheel$Machine", "hasFieldsLike", "(ILTracewheel$Machine;)Z"⟩ ⟨"Tracewheel$Machine", "hasFieldsLike", "(ILTracewheel$Machine;)Z"⟩ ∈ xTs := xin (wp_4 (q := (⟨"Tracewheel$Machine", "hasFieldsLike", "(ILTracewheel$Machine;)Z"⟩, 16)) (List.mem_of_getElem? (i := 2) (by decide +kernel))) rfl
theorem ws4_3 : Cond.selects "Tracewheel" ⟨"Tracewheel", "needEnding", "(C)V"⟩ ⟨"Tracewheel", "needEnding", "(C)V"⟩ ∈ xTs := xin (wp_4 (q := (⟨"Tracewheel", "needEnding", "(C)V"⟩, 6)) (List.mem_of_getElem? (i := 3) (by decide +kernel))) rfl
theorem ws4_4 : Cond.selects "Tracewheel" ⟨"Tracewheel", "needTold", "(I)V"⟩ ⟨"Tracewheel", "needTold", "(I)V"⟩ ∈ xTs := xin (wp_4 (q := (⟨"Tracewheel", "needTold", "(I)V"⟩, 6)) (List.mem_of_getElem? (i := 4) (by decide +kernel))) rfl
theorem ws4_5 : Cond.selects "Tracewheel" ⟨"Tracewheel", "needObject", "(I)V"⟩ ⟨"Tracewheel", "needObject", "(I)V"⟩ ∈ xTs := xin (wp_4 (q := (⟨"Tracewheel", "needObject", "(I)V"⟩, 6)) (List.mem_of_getElem? (i := 5) (by decide +kernel))) rfl
theorem ws4_6 : Cond.selects "Tracewheel" ⟨"Tracewheel", "needShape", "(I)V"⟩ ⟨"Tracewheel", "needShape", "(I)V"⟩ ∈ xTs := xin (wp_4 (q := (⟨"Tracewheel", "needShape", "(I)V"⟩, 6)) (List.mem_of_getElem? (i := 6) (by decide +kernel))) rfl
theorem ws4_7 : Cond.selects "Tracewheel" ⟨"Tracewheel", "cacheSite", "(II)I"⟩ ⟨"Tracewheel", "cacheSite", "(II)I"⟩ ∈ xTs := xin (wp_4 (q := (⟨"Tracewheel", "cacheSite", "(II)I"⟩, 6)) (List.mem_of_getElem? (i := 7) (by decide +kernel))) rfl
theorem ws4_8 : Cond.selects "Tracewheel" ⟨"Tracewheel", "traceAt", "(I)LTracewheel$Trace;"⟩ ⟨"Tracewheel", "traceAt", "(I)LTracewheel$Trace;"⟩ ∈ xTs := xin (wp_4 (q := (⟨"Tracewheel", "traceAt", "(I)LTracewheel$Trace;"⟩, 6)) (List.mem_of_getElem? (i := 8) (by decide +kernel))) rfl
theorem ws4_9 : Cond.selects "Tracewheel" ⟨"Tracewheel", "traceWithGuard", "(II)LTracewheel$Trace;"⟩ ⟨"Tracewheel", "traceWithGuard", "(II)LTracewheel$Trace;"⟩ ∈ xTs := xin (wp_4 (q := (⟨"Tracewheel", "traceWithGuard", "(II)LTracewheel$Trace;"⟩, 6)) (List.mem_of_getElem? (i := 9) (by decide +kernel))) rfl
theorem ws4_10 : Cond.selects "TracewheelModel" ⟨"TracewheelModel", "fails", "(I)I"⟩ ⟨"TracewheelModel", "fails", "(I)I"⟩ ∈ xTs := xin (wp_4 (q := (⟨"TracewheelModel", "fails", "(I)I"⟩, 91)) (List.mem_of_getElem? (i := 10) (by decide +kernel))) rfl
theorem ws4_11 : Cond.selects "TracewheelModel" ⟨"TracewheelModel", "isFunction", "(I)Z"⟩ ⟨"TracewheelModel", "isFunction", "(I)Z"⟩ ∈ xTs := xin (wp_4 (q := (⟨"TracewheelModel", "isFunction", "(I)Z"⟩, 91)) (List.mem_of_getElem? (i := 11) (by decide +kernel))) rfl
theorem ws4_12 : Cond.selects "TracewheelModel" ⟨"TracewheelModel", "isCode", "(CI)Z"⟩ ⟨"TracewheelModel", "isCode", "(CI)Z"⟩ ∈ xTs := xin (wp_4 (q := (⟨"TracewheelModel", "isCode", "(CI)Z"⟩, 91)) (List.mem_of_getElem? (i := 12) (by decide +kernel))) rfl
theorem ws4_13 : Cond.selects "TracewheelModel" ⟨"TracewheelModel", "newShape", "(I)I"⟩ ⟨"TracewheelModel", "newShape", "(I)I"⟩ ∈ xTs := xin (wp_4 (q := (⟨"TracewheelModel", "newShape", "(I)I"⟩, 91)) (List.mem_of_getElem? (i := 13) (by decide +kernel))) rfl
theorem ws4_14 : Cond.selects "TracewheelModel" ⟨"TracewheelModel", "throwsWith", "(CI)I"⟩ ⟨"TracewheelModel", "throwsWith", "(CI)I"⟩ ∈ xTs := xin (wp_4 (q := (⟨"TracewheelModel", "throwsWith", "(CI)I"⟩, 91)) (List.mem_of_getElem? (i := 14) (by decide +kernel))) rfl
theorem ws4_15 : Cond.selects "TracewheelModel" ⟨"TracewheelModel", "throwAway", "(I)V"⟩ ⟨"TracewheelModel", "throwAway", "(I)V"⟩ ∈ xTs := xin (wp_4 (q := (⟨"TracewheelModel", "throwAway", "(I)V"⟩, 91)) (List.mem_of_getElem? (i := 15) (by decide +kernel))) rfl
theorem ws5_0 : Cond.selects "TracewheelModel" ⟨"TracewheelModel", "size", "()I"⟩ ⟨"TracewheelModel", "size", "()I"⟩ ∈ xTs := xin (wp_5 (q := (⟨"TracewheelModel", "size", "()I"⟩, 91)) (List.mem_of_getElem? (i := 0) (by decide +kernel))) rfl
theorem ws5_1 : Cond.selects "TracewheelModel" ⟨"TracewheelModel", "oldest", "(I)I"⟩ ⟨"TracewheelModel", "oldest", "(I)I"⟩ ∈ xTs := xin (wp_5 (q := (⟨"TracewheelModel", "oldest", "(I)I"⟩, 91)) (List.mem_of_getElem? (i := 1) (by decide +kernel))) rfl
theorem ws5_2 : Cond.selects "TracewheelModel" ⟨"TracewheelModel", "endsBy", "(C)V"⟩ ⟨"TracewheelModel", "endsBy", "(C)V"⟩ ∈ xTs := xin (wp_5 (q := (⟨"TracewheelModel", "endsBy", "(C)V"⟩, 91)) (List.mem_of_getElem? (i := 2) (by decide +kernel))) rfl
theorem ws5_3 : Cond.selects "TracewheelModel" ⟨"TracewheelModel", "breaksOff", "()V"⟩ ⟨"TracewheelModel", "breaksOff", "()V"⟩ ∈ xTs := xin (wp_5 (q := (⟨"TracewheelModel", "breaksOff", "()V"⟩, 91)) (List.mem_of_getElem? (i := 3) (by decide +kernel))) rfl
theorem ws5_4 : Cond.selects "TracewheelModel" ⟨"TracewheelModel", "inTrace", "()V"⟩ ⟨"TracewheelModel", "inTrace", "()V"⟩ ∈ xTs := xin (wp_5 (q := (⟨"TracewheelModel", "inTrace", "()V"⟩, 91)) (List.mem_of_getElem? (i := 4) (by decide +kernel))) rfl
theorem ws5_5 : Cond.selects "TracewheelModel" ⟨"TracewheelModel", "why", "()C"⟩ ⟨"TracewheelModel", "why", "()C"⟩ ∈ xTs := xin (wp_5 (q := (⟨"TracewheelModel", "why", "()C"⟩, 91)) (List.mem_of_getElem? (i := 5) (by decide +kernel))) rfl
theorem ws5_6 : Cond.selects "TracewheelModel" ⟨"TracewheelModel", "takes", "(CI)I"⟩ ⟨"TracewheelModel", "takes", "(CI)I"⟩ ∈ xTs := xin (wp_5 (q := (⟨"TracewheelModel", "takes", "(CI)I"⟩, 91)) (List.mem_of_getElem? (i := 6) (by decide +kernel))) rfl
theorem ws5_7 : Cond.selects "TracewheelModel" ⟨"TracewheelModel", "hasNoRoom", "(C)Z"⟩ ⟨"TracewheelModel", "hasNoRoom", "(C)Z"⟩ ∈ xTs := xin (wp_5 (q := (⟨"TracewheelModel", "hasNoRoom", "(C)Z"⟩, 91)) (List.mem_of_getElem? (i := 7) (by decide +kernel))) rfl
theorem ws5_8 : Cond.selects "TracewheelModel" ⟨"TracewheelModel", "top", "(I)I"⟩ ⟨"TracewheelModel", "top", "(I)I"⟩ ∈ xTs := xin (wp_5 (q := (⟨"TracewheelModel", "top", "(I)I"⟩, 91)) (List.mem_of_getElem? (i := 8) (by decide +kernel))) rfl
theorem ws5_9 : Cond.selects "TracewheelModel" ⟨"TracewheelModel", "hasField", "(II)Z"⟩ ⟨"TracewheelModel", "hasField", "(II)Z"⟩ ∈ xTs := xin (wp_5 (q := (⟨"TracewheelModel", "hasField", "(II)Z"⟩, 91)) (List.mem_of_getElem? (i := 9) (by decide +kernel))) rfl
theorem ws5_10 : Cond.selects "TracewheelModel" ⟨"TracewheelModel", "methodOf", "(II)I"⟩ ⟨"TracewheelModel", "methodOf", "(II)I"⟩ ∈ xTs := xin (wp_5 (q := (⟨"TracewheelModel", "methodOf", "(II)I"⟩, 91)) (List.mem_of_getElem? (i := 10) (by decide +kernel))) rfl
theorem ws5_11 : Cond.selects "TracewheelModel" ⟨"TracewheelModel", "holds", "(I)Z"⟩ ⟨"TracewheelModel", "holds", "(I)Z"⟩ ∈ xTs := xin (wp_5 (q := (⟨"TracewheelModel", "holds", "(I)Z"⟩, 91)) (List.mem_of_getElem? (i := 11) (by decide +kernel))) rfl
theorem ws5_12 : Cond.selects "TracewheelModel" ⟨"TracewheelModel", "isNull", "(I)Z"⟩ ⟨"TracewheelModel", "isNull", "(I)Z"⟩ ∈ xTs := xin (wp_5 (q := (⟨"TracewheelModel", "isNull", "(I)Z"⟩, 91)) (List.mem_of_getElem? (i := 12) (by decide +kernel))) rfl
theorem ws5_13 : Cond.selects "TracewheelModel" ⟨"TracewheelModel", "reckons", "(CII)V"⟩ ⟨"TracewheelModel", "reckons", "(CII)V"⟩ ∈ xTs := xin (wp_5 (q := (⟨"TracewheelModel", "reckons", "(CII)V"⟩, 91)) (List.mem_of_getElem? (i := 13) (by decide +kernel))) rfl
theorem ws5_14 : Cond.selects "TracewheelModel" ⟨"TracewheelModel", "asFloat", "(I)D"⟩ ⟨"TracewheelModel", "asFloat", "(I)D"⟩ ∈ xTs := xin (wp_5 (q := (⟨"TracewheelModel", "asFloat", "(I)D"⟩, 91)) (List.mem_of_getElem? (i := 14) (by decide +kernel))) rfl
theorem ws5_15 : Cond.selects "TracewheelModel" ⟨"TracewheelModel", "gives", "(CID)V"⟩ ⟨"TracewheelModel", "gives", "(CID)V"⟩ ∈ xTs := xin (wp_5 (q := (⟨"TracewheelModel", "gives", "(CID)V"⟩, 91)) (List.mem_of_getElem? (i := 15) (by decide +kernel))) rfl
theorem ws6_0 : Cond.selects "TracewheelModel" ⟨"TracewheelModel", "givesInteger", "(JD)V"⟩ ⟨"TracewheelModel", "givesInteger", "(JD)V"⟩ ∈ xTs := xin (wp_6 (q := (⟨"TracewheelModel", "givesInteger", "(JD)V"⟩, 91)) (List.mem_of_getElem? (i := 0) (by decide +kernel))) rfl
theorem ws6_1 : Cond.selects "TracewheelModel" ⟨"TracewheelModel", "leavesBy", "(I)V"⟩ ⟨"TracewheelModel", "leavesBy", "(I)V"⟩ ∈ xTs := xin (wp_6 (q := (⟨"TracewheelModel", "leavesBy", "(I)V"⟩, 91)) (List.mem_of_getElem? (i := 1) (by decide +kernel))) rfl
theorem ws6_2 : Cond.selects "TracewheelModel" ⟨"TracewheelModel", "records", "(IIII)V"⟩ ⟨"TracewheelModel", "records", "(IIII)V"⟩ ∈ xTs := xin (wp_6 (q := (⟨"TracewheelModel", "records", "(IIII)V"⟩, 91)) (List.mem_of_getElem? (i := 2) (by decide +kernel))) rfl
theorem ws6_3 : Cond.selects "TracewheelModel" ⟨"TracewheelModel", "newValue", "()I"⟩ ⟨"TracewheelModel", "newValue", "()I"⟩ ∈ xTs := xin (wp_6 (q := (⟨"TracewheelModel", "newValue", "()I"⟩, 91)) (List.mem_of_getElem? (i := 3) (by decide +kernel))) rfl
theorem ws6_4 : Cond.selects "TracewheelModel" ⟨"TracewheelModel", "executes", "()V"⟩ ⟨"TracewheelModel", "executes", "()V"⟩ ∈ xTs := xin (wp_6 (q := (⟨"TracewheelModel", "executes", "()V"⟩, 91)) (List.mem_of_getElem? (i := 4) (by decide +kernel))) rfl
theorem ws6_5 : Cond.selects "TracewheelModel" ⟨"TracewheelModel", "made", "(Z)I"⟩ ⟨"TracewheelModel", "made", "(Z)I"⟩ ∈ xTs := xin (wp_6 (q := (⟨"TracewheelModel", "made", "(Z)I"⟩, 91)) (List.mem_of_getElem? (i := 5) (by decide +kernel))) rfl
theorem ws6_6 : Cond.selects "TracewheelModel" ⟨"TracewheelModel", "valueOf", "(C)I"⟩ ⟨"TracewheelModel", "valueOf", "(C)I"⟩ ∈ xTs := xin (wp_6 (q := (⟨"TracewheelModel", "valueOf", "(C)I"⟩, 91)) (List.mem_of_getElem? (i := 6) (by decide +kernel))) rfl
theorem ws6_7 : Cond.selects "TracewheelModel" ⟨"TracewheelModel", "pushes", "(I)V"⟩ ⟨"TracewheelModel", "pushes", "(I)V"⟩ ∈ xTs := xin (wp_6 (q := (⟨"TracewheelModel", "pushes", "(I)V"⟩, 91)) (List.mem_of_getElem? (i := 7) (by decide +kernel))) rfl
theorem ws6_8 : Cond.selects "TracewheelModel" ⟨"TracewheelModel", "copies", "(II)V"⟩ ⟨"TracewheelModel", "copies", "(II)V"⟩ ∈ xTs := xin (wp_6 (q := (⟨"TracewheelModel", "copies", "(II)V"⟩, 91)) (List.mem_of_getElem? (i := 8) (by decide +kernel))) rfl
theorem ws6_9 : Cond.selects "TracewheelModel" ⟨"TracewheelModel", "reckonsOn", "(C)V"⟩ ⟨"TracewheelModel", "reckonsOn", "(C)V"⟩ ∈ xTs := xin (wp_6 (q := (⟨"TracewheelModel", "reckonsOn", "(C)V"⟩, 91)) (List.mem_of_getElem? (i := 9) (by decide +kernel))) rfl
theorem ws6_10 : Cond.selects "TracewheelModel" ⟨"TracewheelModel", "makes", "(I)V"⟩ ⟨"TracewheelModel", "makes", "(I)V"⟩ ∈ xTs := xin (wp_6 (q := (⟨"TracewheelModel", "makes", "(I)V"⟩, 91)) (List.mem_of_getElem? (i := 10) (by decide +kernel))) rfl
theorem ws6_11 : Cond.selects "TracewheelModel" ⟨"TracewheelModel", "fetches", "(I)V"⟩ ⟨"TracewheelModel", "fetches", "(I)V"⟩ ∈ xTs := xin (wp_6 (q := (⟨"TracewheelModel", "fetches", "(I)V"⟩, 91)) (List.mem_of_getElem? (i := 11) (by decide +kernel))) rfl
theorem ws6_12 : Cond.selects "TracewheelModel" ⟨"TracewheelModel", "puts", "(I)V"⟩ ⟨"TracewheelModel", "puts", "(I)V"⟩ ∈ xTs := xin (wp_6 (q := (⟨"TracewheelModel", "puts", "(I)V"⟩, 91)) (List.mem_of_getElem? (i := 12) (by decide +kernel))) rfl
theorem ws6_13 : Cond.selects "TracewheelModel" ⟨"TracewheelModel", "shapeBehind", "(II)I"⟩ ⟨"TracewheelModel", "shapeBehind", "(II)I"⟩ ∈ xTs := xin (wp_6 (q := (⟨"TracewheelModel", "shapeBehind", "(II)I"⟩, 91)) (List.mem_of_getElem? (i := 13) (by decide +kernel))) rfl
theorem ws6_14 : Cond.selects "TracewheelModel" ⟨"TracewheelModel", "calls", "(II)V"⟩ ⟨"TracewheelModel", "calls", "(II)V"⟩ ∈ xTs := xin (wp_6 (q := (⟨"TracewheelModel", "calls", "(II)V"⟩, 91)) (List.mem_of_getElem? (i := 14) (by decide +kernel))) rfl
theorem ws6_15 : Cond.selects "TracewheelModel" ⟨"TracewheelModel", "returns", "()V"⟩ ⟨"TracewheelModel", "returns", "()V"⟩ ∈ xTs := xin (wp_6 (q := (⟨"TracewheelModel", "returns", "()V"⟩, 91)) (List.mem_of_getElem? (i := 15) (by decide +kernel))) rfl
theorem ws7_0 : Cond.selects "TracewheelModel" ⟨"TracewheelModel", "tells", "()V"⟩ ⟨"TracewheelModel", "tells", "()V"⟩ ∈ xTs := xin (wp_7 (q := (⟨"TracewheelModel", "tells", "()V"⟩, 91)) (List.mem_of_getElem? (i := 0) (by decide +kernel))) rfl
theorem ws7_1 : Cond.selects "TracewheelModel" ⟨"TracewheelModel", "enters", "(I)V"⟩ ⟨"TracewheelModel", "enters", "(I)V"⟩ ∈ xTs := xin (wp_7 (q := (⟨"TracewheelModel", "enters", "(I)V"⟩, 91)) (List.mem_of_getElem? (i := 1) (by decide +kernel))) rfl
theorem ws7_2 : Cond.selects "TracewheelModel" ⟨"TracewheelModel", "plainly", "()V"⟩ ⟨"TracewheelModel", "plainly", "()V"⟩ ∈ xTs := xin (wp_7 (q := (⟨"TracewheelModel", "plainly", "()V"⟩, 91)) (List.mem_of_getElem? (i := 2) (by decide +kernel))) rfl
theorem ws7_3 : Cond.selects "TracewheelModel" ⟨"TracewheelModel", "failsBy", "(C)V"⟩ ⟨"TracewheelModel", "failsBy", "(C)V"⟩ ∈ xTs := xin (wp_7 (q := (⟨"TracewheelModel", "failsBy", "(C)V"⟩, 91)) (List.mem_of_getElem? (i := 3) (by decide +kernel))) rfl
theorem ws7_4 : Cond.selects "TracewheelModel" ⟨"TracewheelModel", "guards", "(C)V"⟩ ⟨"TracewheelModel", "guards", "(C)V"⟩ ∈ xTs := xin (wp_7 (q := (⟨"TracewheelModel", "guards", "(C)V"⟩, 91)) (List.mem_of_getElem? (i := 4) (by decide +kernel))) rfl
theorem ws7_5 : Cond.selects "TracewheelModel" ⟨"TracewheelModel", "asksKind", "(I)V"⟩ ⟨"TracewheelModel", "asksKind", "(I)V"⟩ ∈ xTs := xin (wp_7 (q := (⟨"TracewheelModel", "asksKind", "(I)V"⟩, 91)) (List.mem_of_getElem? (i := 5) (by decide +kernel))) rfl
theorem ws7_6 : Cond.selects "TracewheelModel" ⟨"TracewheelModel", "isKindKnown", "(I)Z"⟩ ⟨"TracewheelModel", "isKindKnown", "(I)Z"⟩ ∈ xTs := xin (wp_7 (q := (⟨"TracewheelModel", "isKindKnown", "(I)Z"⟩, 91)) (List.mem_of_getElem? (i := 6) (by decide +kernel))) rfl
theorem ws7_7 : Cond.selects "TracewheelModel" ⟨"TracewheelModel", "asks", "(CII)V"⟩ ⟨"TracewheelModel", "asks", "(CII)V"⟩ ∈ xTs := xin (wp_7 (q := (⟨"TracewheelModel", "asks", "(CII)V"⟩, 91)) (List.mem_of_getElem? (i := 7) (by decide +kernel))) rfl
theorem ws7_8 : Cond.selects "TracewheelModel" ⟨"TracewheelModel", "isNullKnown", "(I)Z"⟩ ⟨"TracewheelModel", "isNullKnown", "(I)Z"⟩ ∈ xTs := xin (wp_7 (q := (⟨"TracewheelModel", "isNullKnown", "(I)Z"⟩, 91)) (List.mem_of_getElem? (i := 8) (by decide +kernel))) rfl
theorem ws7_9 : Cond.selects "TracewheelModel" ⟨"TracewheelModel", "asksShape", "(I)V"⟩ ⟨"TracewheelModel", "asksShape", "(I)V"⟩ ∈ xTs := xin (wp_7 (q := (⟨"TracewheelModel", "asksShape", "(I)V"⟩, 91)) (List.mem_of_getElem? (i := 9) (by decide +kernel))) rfl
theorem ws7_10 : Cond.selects "TracewheelModel" ⟨"TracewheelModel", "looksUp", "(CI)V"⟩ ⟨"TracewheelModel", "looksUp", "(CI)V"⟩ ∈ xTs := xin (wp_7 (q := (⟨"TracewheelModel", "looksUp", "(CI)V"⟩, 91)) (List.mem_of_getElem? (i := 10) (by decide +kernel))) rfl
theorem ws7_11 : Cond.selects "TracewheelModel" ⟨"TracewheelModel", "jumpsBack", "(I)V"⟩ ⟨"TracewheelModel", "jumpsBack", "(I)V"⟩ ∈ xTs := xin (wp_7 (q := (⟨"TracewheelModel", "jumpsBack", "(I)V"⟩, 91)) (List.mem_of_getElem? (i := 11) (by decide +kernel))) rfl
theorem ws7_12 : Cond.selects "TracewheelModel" ⟨"TracewheelModel", "ends", "()V"⟩ ⟨"TracewheelModel", "ends", "()V"⟩ ∈ xTs := xin (wp_7 (q := (⟨"TracewheelModel", "ends", "()V"⟩, 91)) (List.mem_of_getElem? (i := 12) (by decide +kernel))) rfl
theorem ws7_13 : Cond.selects "TracewheelModel" ⟨"TracewheelModel", "rootAt", "(I)I"⟩ ⟨"TracewheelModel", "rootAt", "(I)I"⟩ ∈ xTs := xin (wp_7 (q := (⟨"TracewheelModel", "rootAt", "(I)I"⟩, 91)) (List.mem_of_getElem? (i := 13) (by decide +kernel))) rfl
theorem ws7_14 : Cond.selects "TracewheelModel" ⟨"TracewheelModel", "cache", "(II)I"⟩ ⟨"TracewheelModel", "cache", "(II)I"⟩ ∈ xTs := xin (wp_7 (q := (⟨"TracewheelModel", "cache", "(II)I"⟩, 91)) (List.mem_of_getElem? (i := 14) (by decide +kernel))) rfl
theorem ws7_15 : Cond.selects "TracewheelModel" ⟨"TracewheelModel", "isHead", "(II)Z"⟩ ⟨"TracewheelModel", "isHead", "(II)Z"⟩ ∈ xTs := xin (wp_7 (q := (⟨"TracewheelModel", "isHead", "(II)Z"⟩, 91)) (List.mem_of_getElem? (i := 15) (by decide +kernel))) rfl
theorem ws8_0 : Cond.selects "TracewheelModel" ⟨"TracewheelModel", "isTrace", "(I)Z"⟩ ⟨"TracewheelModel", "isTrace", "(I)Z"⟩ ∈ xTs := xin (wp_8 (q := (⟨"TracewheelModel", "isTrace", "(I)Z"⟩, 91)) (List.mem_of_getElem? (i := 0) (by decide +kernel))) rfl
theorem ws8_1 : Cond.selects "TracewheelModel" ⟨"TracewheelModel", "isGuard", "(II)Z"⟩ ⟨"TracewheelModel", "isGuard", "(II)Z"⟩ ∈ xTs := xin (wp_8 (q := (⟨"TracewheelModel", "isGuard", "(II)Z"⟩, 91)) (List.mem_of_getElem? (i := 1) (by decide +kernel))) rfl
end VMW3
