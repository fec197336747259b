/-! ===== the words of the tables, each by its place (printed by a program out of the Statement) ===== -/
section VMW
theorem w1_0 : Cond.initialized "TracewheelLaw" ∈ xTs := xin (wm_1 (List.mem_of_getElem? (i := 0) (by decide +kernel))) rfl
theorem w1_1 : Cond.initialized "Tracewheel" ∈ xTs := xin (wm_1 (List.mem_of_getElem? (i := 1) (by decide +kernel))) rfl
theorem w1_2 : Cond.initialized "Tracewheel$Program" ∈ xTs := xin (wm_1 (List.mem_of_getElem? (i := 2) (by decide +kernel))) rfl
theorem w1_3 : Cond.initialized "java/util/Arrays" ∈ xTs := xin (wm_1 (List.mem_of_getElem? (i := 3) (by decide +kernel))) rfl
theorem w1_4 : Cond.initialized "Tracewheel$Shapes" ∈ xTs := xin (wm_1 (List.mem_of_getElem? (i := 4) (by decide +kernel))) rfl
theorem w1_5 : Cond.initialized "Tracewheel$Machine" ∈ xTs := xin (wm_1 (List.mem_of_getElem? (i := 5) (by decide +kernel))) rfl
theorem w1_6 : Cond.initialized "Tracewheel$Slots" ∈ xTs := xin (wm_1 (List.mem_of_getElem? (i := 6) (by decide +kernel))) rfl
theorem w1_7 : Cond.initialized "Tracewheel$Wheel" ∈ xTs := xin (wm_1 (List.mem_of_getElem? (i := 7) (by decide +kernel))) rfl
theorem w1_8 : Cond.initialized "Tracewheel$Caches" ∈ xTs := xin (wm_1 (List.mem_of_getElem? (i := 8) (by decide +kernel))) rfl
theorem w1_9 : Cond.initialized "Tracewheel$Heads" ∈ xTs := xin (wm_1 (List.mem_of_getElem? (i := 9) (by decide +kernel))) rfl
theorem w1_10 : Cond.initialized "Tracewheel$Recorder" ∈ xTs := xin (wm_1 (List.mem_of_getElem? (i := 10) (by decide +kernel))) rfl
theorem w1_11 : Cond.initialized "Tracewheel$Trace" ∈ xTs := xin (wm_1 (List.mem_of_getElem? (i := 11) (by decide +kernel))) rfl
theorem w1_12 : Cond.initialized "java/lang/Math" ∈ xTs := xin (wm_1 (List.mem_of_getElem? (i := 12) (by decide +kernel))) rfl
theorem w1_13 : Cond.initialized "java/lang/System" ∈ xTs := xin (wm_1 (List.mem_of_getElem? (i := 13) (by decide +kernel))) rfl
theorem w1_14 : Cond.initialized "Tracewheel$Forest" ∈ xTs := xin (wm_1 (List.mem_of_getElem? (i := 14) (by decide +kernel))) rfl
theorem w1_15 : Cond.initialized "TracewheelModel" ∈ xTs := xin (wm_1 (List.mem_of_getElem? (i := 15) (by decide +kernel))) rfl
theorem w1_16 : Cond.initialized "java/lang/Throwable" ∈ xTs := xin (wm_1 (List.mem_of_getElem? (i := 16) (by decide +kernel))) rfl
theorem w1_17 : Cond.initialized "java/lang/Exception" ∈ xTs := xin (wm_1 (List.mem_of_getElem? (i := 17) (by decide +kernel))) rfl
theorem w1_18 : Cond.initialized "java/lang/RuntimeException" ∈ xTs := xin (wm_1 (List.mem_of_getElem? (i := 18) (by decide +kernel))) rfl
theorem w1_19 : Cond.initialized "java/lang/IllegalArgumentException" ∈ xTs := xin (wm_1 (List.mem_of_getElem? (i := 19) (by decide +kernel))) rfl
theorem w1_20 : Cond.initialized "java/lang/IllegalStateException" ∈ xTs := xin (wm_1 (List.mem_of_getElem? (i := 20) (by decide +kernel))) rfl
theorem w1_21 : Cond.initialized "java/lang/IndexOutOfBoundsException" ∈ xTs := xin (wm_1 (List.mem_of_getElem? (i := 21) (by decide +kernel))) rfl
theorem w1_22 : Cond.initialized "java/lang/ArrayIndexOutOfBoundsException" ∈ xTs := xin (wm_1 (List.mem_of_getElem? (i := 22) (by decide +kernel))) rfl
theorem w1_23 : Cond.initialized "java/lang/String" ∈ xTs := xin (wm_1 (List.mem_of_getElem? (i := 23) (by decide +kernel))) rfl
theorem w1_24 : Cond.initialized "java/lang/StringLatin1" ∈ xTs := xin (wm_1 (List.mem_of_getElem? (i := 24) (by decide +kernel))) rfl
theorem w1_25 : Cond.initialized "java/lang/StringUTF16" ∈ xTs := xin (wm_1 (List.mem_of_getElem? (i := 25) (by decide +kernel))) rfl
theorem w1_26 : Cond.initialized "jdk/internal/util/Preconditions" ∈ xTs := xin (wm_1 (List.mem_of_getElem? (i := 26) (by decide +kernel))) rfl
theorem w1_27 : Cond.initialized "java/lang/Character" ∈ xTs := xin (wm_1 (List.mem_of_getElem? (i := 27) (by decide +kernel))) rfl
theorem w1_28 : Cond.initialized "java/lang/UnsupportedOperationException" ∈ xTs := xin (wm_1 (List.mem_of_getElem? (i := 28) (by decide +kernel))) rfl
theorem w1_29 : Cond.initialized "java/util/NoSuchElementException" ∈ xTs := xin (wm_1 (List.mem_of_getElem? (i := 29) (by decide +kernel))) rfl
theorem w1_30 : Cond.initialized "Tracewheel$Numbers" ∈ xTs := xin (wm_1 (List.mem_of_getElem? (i := 30) (by decide +kernel))) rfl
theorem w1_31 : Cond.initialized "java/lang/StrictMath" ∈ xTs := xin (wm_1 (List.mem_of_getElem? (i := 31) (by decide +kernel))) rfl
theorem w1_32 : Cond.initialized "java/lang/Number" ∈ xTs := xin (wm_1 (List.mem_of_getElem? (i := 32) (by decide +kernel))) rfl
theorem w1_33 : Cond.initialized "java/lang/Double" ∈ xTs := xin (wm_1 (List.mem_of_getElem? (i := 33) (by decide +kernel))) rfl
theorem w1_34 : Cond.initialized "java/lang/ArithmeticException" ∈ xTs := xin (wm_1 (List.mem_of_getElem? (i := 34) (by decide +kernel))) rfl
theorem w1_35 : Cond.classLink "TracewheelLaw" 8 "Tracewheel" ∈ xTs := xin (wm_1 (List.mem_of_getElem? (i := 35) (by decide +kernel))) rfl
theorem w1_36 : Cond.instantiable "Tracewheel" 6 ∈ xTs := xin (wm_1 (List.mem_of_getElem? (i := 36) (by decide +kernel))) rfl
theorem w1_37 : Cond.methodLink "TracewheelLaw" 144 ⟨"Tracewheel", "<init>", "()V"⟩ ∈ xTs := xin (wm_1 (List.mem_of_getElem? (i := 37) (by decide +kernel))) rfl
theorem w1_38 : Cond.instanceMethod ⟨"Tracewheel", "<init>", "()V"⟩ ∈ xTs := xin (wm_1 (List.mem_of_getElem? (i := 38) (by decide +kernel))) rfl
theorem w1_39 : Cond.code ⟨"Tracewheel", "<init>", "()V"⟩ prog_1_method_1_code 1 none ∈ xTs := xin (wm_1 (List.mem_of_getElem? (i := 39) (by decide +kernel))) rfl
theorem w1_40 : Cond.methodLink "Tracewheel" 3 ⟨"java/lang/Object", "<init>", "()V"⟩ ∈ xTs := xin (wm_1 (List.mem_of_getElem? (i := 40) (by decide +kernel))) rfl
theorem w1_41 : Cond.instanceMethod ⟨"java/lang/Object", "<init>", "()V"⟩ ∈ xTs := xin (wm_1 (List.mem_of_getElem? (i := 41) (by decide +kernel))) rfl
theorem w1_42 : Cond.code ⟨"java/lang/Object", "<init>", "()V"⟩ object_method_1_code 1 none ∈ xTs := xin (wm_1 (List.mem_of_getElem? (i := 42) (by decide +kernel))) rfl
theorem w1_43 : Cond.classLink "Tracewheel" 9 "Tracewheel$Program" ∈ xTs := xin (wm_1 (List.mem_of_getElem? (i := 43) (by decide +kernel))) rfl
theorem w1_44 : Cond.instantiable "Tracewheel$Program" 10 ∈ xTs := xin (wm_1 (List.mem_of_getElem? (i := 44) (by decide +kernel))) rfl
theorem w1_45 : Cond.methodLink "Tracewheel" 11 ⟨"Tracewheel$Program", "<init>", "()V"⟩ ∈ xTs := xin (wm_1 (List.mem_of_getElem? (i := 45) (by decide +kernel))) rfl
theorem w1_46 : Cond.instanceMethod ⟨"Tracewheel$Program", "<init>", "()V"⟩ ∈ xTs := xin (wm_1 (List.mem_of_getElem? (i := 46) (by decide +kernel))) rfl
theorem w1_47 : Cond.code ⟨"Tracewheel$Program", "<init>", "()V"⟩ prog_7_method_1_code 1 none ∈ xTs := xin (wm_1 (List.mem_of_getElem? (i := 47) (by decide +kernel))) rfl
theorem w1_48 : Cond.methodLink "Tracewheel$Program" 3 ⟨"java/lang/Object", "<init>", "()V"⟩ ∈ xTs := xin (wm_1 (List.mem_of_getElem? (i := 48) (by decide +kernel))) rfl
theorem w1_49 : Cond.methodLink "Tracewheel$Program" 37 ⟨"java/util/Arrays", "fill", "([II)V"⟩ ∈ xTs := xin (wm_1 (List.mem_of_getElem? (i := 49) (by decide +kernel))) rfl
theorem w1_50 : Cond.static ⟨"java/util/Arrays", "fill", "([II)V"⟩ ∈ xTs := xin (wm_1 (List.mem_of_getElem? (i := 50) (by decide +kernel))) rfl
theorem w1_51 : Cond.code ⟨"java/util/Arrays", "fill", "([II)V"⟩ prog_39_method_103_code 4 none ∈ xTs := xin (wm_1 (List.mem_of_getElem? (i := 51) (by decide +kernel))) rfl
theorem w1_52 : Cond.fieldLink "Tracewheel$Program" 9 "Tracewheel$Program" "parameters" "[I" ∈ xTs := xin (wm_1 (List.mem_of_getElem? (i := 52) (by decide +kernel))) rfl
theorem w1_53 : Cond.fieldLink "Tracewheel" 149 "Tracewheel$Program" "parameters" "[I" ∈ xTs := xin (wm_1 (List.mem_of_getElem? (i := 53) (by decide +kernel))) rfl
theorem w1_54 : Cond.fieldLink "Tracewheel$Recorder" 177 "Tracewheel$Program" "parameters" "[I" ∈ xTs := xin (wm_1 (List.mem_of_getElem? (i := 54) (by decide +kernel))) rfl
theorem w1_55 : Cond.fieldLink "Tracewheel$Machine" 170 "Tracewheel$Program" "parameters" "[I" ∈ xTs := xin (wm_1 (List.mem_of_getElem? (i := 55) (by decide +kernel))) rfl
theorem w1_56 : Cond.fieldLink "Tracewheel$Program" 15 "Tracewheel$Program" "lengths" "[I" ∈ xTs := xin (wm_1 (List.mem_of_getElem? (i := 56) (by decide +kernel))) rfl
theorem w1_57 : Cond.fieldLink "Tracewheel" 87 "Tracewheel$Program" "lengths" "[I" ∈ xTs := xin (wm_1 (List.mem_of_getElem? (i := 57) (by decide +kernel))) rfl
theorem w1_58 : Cond.fieldLink "Tracewheel$Program" 18 "Tracewheel$Program" "handlers" "[I" ∈ xTs := xin (wm_1 (List.mem_of_getElem? (i := 58) (by decide +kernel))) rfl
theorem w1_59 : Cond.fieldLink "Tracewheel" 100 "Tracewheel$Program" "handlers" "[I" ∈ xTs := xin (wm_1 (List.mem_of_getElem? (i := 59) (by decide +kernel))) rfl
theorem w1_60 : Cond.fieldLink "Tracewheel$Machine" 213 "Tracewheel$Program" "handlers" "[I" ∈ xTs := xin (wm_1 (List.mem_of_getElem? (i := 60) (by decide +kernel))) rfl
theorem w1_61 : Cond.fieldLink "Tracewheel$Program" 21 "Tracewheel$Program" "letters" "[C" ∈ xTs := xin (wm_1 (List.mem_of_getElem? (i := 61) (by decide +kernel))) rfl
theorem w1_62 : Cond.fieldLink "Tracewheel$Caches" 28 "Tracewheel$Program" "letters" "[C" ∈ xTs := xin (wm_1 (List.mem_of_getElem? (i := 62) (by decide +kernel))) rfl
theorem w1_63 : Cond.fieldLink "Tracewheel$Forest" 71 "Tracewheel$Program" "letters" "[C" ∈ xTs := xin (wm_1 (List.mem_of_getElem? (i := 63) (by decide +kernel))) rfl
theorem w1_64 : Cond.fieldLink "Tracewheel$Machine" 134 "Tracewheel$Program" "letters" "[C" ∈ xTs := xin (wm_1 (List.mem_of_getElem? (i := 64) (by decide +kernel))) rfl
theorem w1_65 : Cond.fieldLink "Tracewheel" 420 "Tracewheel$Program" "letters" "[C" ∈ xTs := xin (wm_1 (List.mem_of_getElem? (i := 65) (by decide +kernel))) rfl
theorem w1_66 : Cond.fieldLink "Tracewheel$Program" 25 "Tracewheel$Program" "operands" "[I" ∈ xTs := xin (wm_1 (List.mem_of_getElem? (i := 66) (by decide +kernel))) rfl
theorem w1_67 : Cond.fieldLink "Tracewheel$Forest" 77 "Tracewheel$Program" "operands" "[I" ∈ xTs := xin (wm_1 (List.mem_of_getElem? (i := 67) (by decide +kernel))) rfl
theorem w1_68 : Cond.fieldLink "Tracewheel$Machine" 144 "Tracewheel$Program" "operands" "[I" ∈ xTs := xin (wm_1 (List.mem_of_getElem? (i := 68) (by decide +kernel))) rfl
theorem w1_69 : Cond.fieldLink "Tracewheel$Program" 28 "Tracewheel$Program" "cells" "[I" ∈ xTs := xin (wm_1 (List.mem_of_getElem? (i := 69) (by decide +kernel))) rfl
theorem w1_70 : Cond.fieldLink "Tracewheel" 179 "Tracewheel$Program" "cells" "[I" ∈ xTs := xin (wm_1 (List.mem_of_getElem? (i := 70) (by decide +kernel))) rfl
theorem w1_71 : Cond.fieldLink "Tracewheel$Machine" 235 "Tracewheel$Program" "cells" "[I" ∈ xTs := xin (wm_1 (List.mem_of_getElem? (i := 71) (by decide +kernel))) rfl
theorem w1_72 : Cond.fieldLink "Tracewheel$Program" 31 "Tracewheel$Program" "parents" "[I" ∈ xTs := xin (wm_1 (List.mem_of_getElem? (i := 72) (by decide +kernel))) rfl
theorem w1_73 : Cond.fieldLink "Tracewheel$Program" 34 "Tracewheel$Program" "methods" "[I" ∈ xTs := xin (wm_1 (List.mem_of_getElem? (i := 73) (by decide +kernel))) rfl
theorem w1_74 : Cond.fieldLink "Tracewheel" 154 "Tracewheel$Program" "methods" "[I" ∈ xTs := xin (wm_1 (List.mem_of_getElem? (i := 74) (by decide +kernel))) rfl
theorem w1_75 : Cond.fieldLink "Tracewheel$Program" 43 "Tracewheel$Program" "functionCount" "I" ∈ xTs := xin (wm_1 (List.mem_of_getElem? (i := 75) (by decide +kernel))) rfl
theorem w1_76 : Cond.fieldLink "Tracewheel" 55 "Tracewheel$Program" "functionCount" "I" ∈ xTs := xin (wm_1 (List.mem_of_getElem? (i := 76) (by decide +kernel))) rfl
theorem w1_77 : Cond.fieldLink "Tracewheel$Program" 47 "Tracewheel$Program" "classCount" "I" ∈ xTs := xin (wm_1 (List.mem_of_getElem? (i := 77) (by decide +kernel))) rfl
theorem w1_78 : Cond.fieldLink "Tracewheel" 112 "Tracewheel$Program" "classCount" "I" ∈ xTs := xin (wm_1 (List.mem_of_getElem? (i := 78) (by decide +kernel))) rfl
theorem w1_100 : Cond.arrayClass FieldType.int ∈ xTs := xin (wm_1 (List.mem_of_getElem? (i := 100) (by decide +kernel))) rfl
theorem w1_101 : Cond.arrayClass FieldType.char ∈ xTs := xin (wm_1 (List.mem_of_getElem? (i := 101) (by decide +kernel))) rfl
theorem w1_102 : Cond.classLink "Tracewheel" 16 "Tracewheel$Shapes" ∈ xTs := xin (wm_1 (List.mem_of_getElem? (i := 102) (by decide +kernel))) rfl
theorem w1_103 : Cond.instantiable "Tracewheel$Shapes" 7 ∈ xTs := xin (wm_1 (List.mem_of_getElem? (i := 103) (by decide +kernel))) rfl
theorem w1_104 : Cond.methodLink "Tracewheel" 18 ⟨"Tracewheel$Shapes", "<init>", "()V"⟩ ∈ xTs := xin (wm_1 (List.mem_of_getElem? (i := 104) (by decide +kernel))) rfl
theorem w1_105 : Cond.instanceMethod ⟨"Tracewheel$Shapes", "<init>", "()V"⟩ ∈ xTs := xin (wm_1 (List.mem_of_getElem? (i := 105) (by decide +kernel))) rfl
theorem w1_106 : Cond.code ⟨"Tracewheel$Shapes", "<init>", "()V"⟩ prog_9_method_1_code 1 none ∈ xTs := xin (wm_1 (List.mem_of_getElem? (i := 106) (by decide +kernel))) rfl
theorem w1_107 : Cond.methodLink "Tracewheel$Shapes" 3 ⟨"java/lang/Object", "<init>", "()V"⟩ ∈ xTs := xin (wm_1 (List.mem_of_getElem? (i := 107) (by decide +kernel))) rfl
theorem w1_108 : Cond.fieldLink "Tracewheel$Shapes" 9 "Tracewheel$Shapes" "classes" "[I" ∈ xTs := xin (wm_1 (List.mem_of_getElem? (i := 108) (by decide +kernel))) rfl
theorem w1_109 : Cond.fieldLink "Tracewheel$Machine" 120 "Tracewheel$Shapes" "classes" "[I" ∈ xTs := xin (wm_1 (List.mem_of_getElem? (i := 109) (by decide +kernel))) rfl
theorem w1_110 : Cond.fieldLink "Tracewheel$Shapes" 15 "Tracewheel$Shapes" "sizes" "[I" ∈ xTs := xin (wm_1 (List.mem_of_getElem? (i := 110) (by decide +kernel))) rfl
theorem w1_111 : Cond.fieldLink "Tracewheel" 294 "Tracewheel$Shapes" "sizes" "[I" ∈ xTs := xin (wm_1 (List.mem_of_getElem? (i := 111) (by decide +kernel))) rfl
theorem w1_112 : Cond.fieldLink "Tracewheel$Shapes" 18 "Tracewheel$Shapes" "masks" "[I" ∈ xTs := xin (wm_1 (List.mem_of_getElem? (i := 112) (by decide +kernel))) rfl
theorem w1_113 : Cond.fieldLink "Tracewheel$Shapes" 21 "Tracewheel$Shapes" "order" "[I" ∈ xTs := xin (wm_1 (List.mem_of_getElem? (i := 113) (by decide +kernel))) rfl
theorem w1_114 : Cond.fieldLink "Tracewheel" 299 "Tracewheel$Shapes" "order" "[I" ∈ xTs := xin (wm_1 (List.mem_of_getElem? (i := 114) (by decide +kernel))) rfl
theorem w1_115 : Cond.fieldLink "Tracewheel$Shapes" 24 "Tracewheel$Shapes" "followers" "[I" ∈ xTs := xin (wm_1 (List.mem_of_getElem? (i := 115) (by decide +kernel))) rfl
theorem w1_116 : Cond.fieldLink "Tracewheel" 302 "Tracewheel$Shapes" "followers" "[I" ∈ xTs := xin (wm_1 (List.mem_of_getElem? (i := 116) (by decide +kernel))) rfl
theorem w1_117 : Cond.fieldLink "Tracewheel$Shapes" 27 "Tracewheel$Shapes" "firsts" "[I" ∈ xTs := xin (wm_1 (List.mem_of_getElem? (i := 117) (by decide +kernel))) rfl
theorem w1_118 : Cond.fieldLink "Tracewheel" 128 "Tracewheel$Shapes" "firsts" "[I" ∈ xTs := xin (wm_1 (List.mem_of_getElem? (i := 118) (by decide +kernel))) rfl
theorem w1_119 : Cond.fieldLink "Tracewheel$Machine" 257 "Tracewheel$Shapes" "firsts" "[I" ∈ xTs := xin (wm_1 (List.mem_of_getElem? (i := 119) (by decide +kernel))) rfl
theorem w1_120 : Cond.fieldLink "Tracewheel$Shapes" 30 "Tracewheel$Shapes" "count" "I" ∈ xTs := xin (wm_1 (List.mem_of_getElem? (i := 120) (by decide +kernel))) rfl
theorem w1_121 : Cond.fieldLink "Tracewheel" 117 "Tracewheel$Shapes" "count" "I" ∈ xTs := xin (wm_1 (List.mem_of_getElem? (i := 121) (by decide +kernel))) rfl
theorem w1_137 : Cond.classLink "Tracewheel" 23 "Tracewheel$Machine" ∈ xTs := xin (wm_1 (List.mem_of_getElem? (i := 137) (by decide +kernel))) rfl
theorem w1_138 : Cond.instantiable "Tracewheel$Machine" 16 ∈ xTs := xin (wm_1 (List.mem_of_getElem? (i := 138) (by decide +kernel))) rfl
theorem w1_139 : Cond.methodLink "Tracewheel" 25 ⟨"Tracewheel$Machine", "<init>", "(LTracewheel$Program;LTracewheel$Shapes;)V"⟩ ∈ xTs := xin (wm_1 (List.mem_of_getElem? (i := 139) (by decide +kernel))) rfl
theorem w1_140 : Cond.instanceMethod ⟨"Tracewheel$Machine", "<init>", "(LTracewheel$Program;LTracewheel$Shapes;)V"⟩ ∈ xTs := xin (wm_1 (List.mem_of_getElem? (i := 140) (by decide +kernel))) rfl
theorem w1_141 : Cond.code ⟨"Tracewheel$Machine", "<init>", "(LTracewheel$Program;LTracewheel$Shapes;)V"⟩ prog_5_method_1_code 3 none ∈ xTs := xin (wm_1 (List.mem_of_getElem? (i := 141) (by decide +kernel))) rfl
theorem w1_142 : Cond.methodLink "Tracewheel$Machine" 3 ⟨"java/lang/Object", "<init>", "()V"⟩ ∈ xTs := xin (wm_1 (List.mem_of_getElem? (i := 142) (by decide +kernel))) rfl
theorem w1_143 : Cond.classLink "Tracewheel$Machine" 19 "Tracewheel$Slots" ∈ xTs := xin (wm_1 (List.mem_of_getElem? (i := 143) (by decide +kernel))) rfl
theorem w1_144 : Cond.instantiable "Tracewheel$Slots" 4 ∈ xTs := xin (wm_1 (List.mem_of_getElem? (i := 144) (by decide +kernel))) rfl
theorem w1_145 : Cond.methodLink "Tracewheel$Machine" 21 ⟨"Tracewheel$Slots", "<init>", "()V"⟩ ∈ xTs := xin (wm_1 (List.mem_of_getElem? (i := 145) (by decide +kernel))) rfl
theorem w1_146 : Cond.instanceMethod ⟨"Tracewheel$Slots", "<init>", "()V"⟩ ∈ xTs := xin (wm_1 (List.mem_of_getElem? (i := 146) (by decide +kernel))) rfl
theorem w1_147 : Cond.code ⟨"Tracewheel$Slots", "<init>", "()V"⟩ prog_10_method_1_code 1 none ∈ xTs := xin (wm_1 (List.mem_of_getElem? (i := 147) (by decide +kernel))) rfl
theorem w1_148 : Cond.methodLink "Tracewheel$Slots" 3 ⟨"java/lang/Object", "<init>", "()V"⟩ ∈ xTs := xin (wm_1 (List.mem_of_getElem? (i := 148) (by decide +kernel))) rfl
theorem w1_149 : Cond.fieldLink "Tracewheel$Slots" 9 "Tracewheel$Slots" "kinds" "[C" ∈ xTs := xin (wm_1 (List.mem_of_getElem? (i := 149) (by decide +kernel))) rfl
theorem w1_150 : Cond.fieldLink "Tracewheel" 250 "Tracewheel$Slots" "kinds" "[C" ∈ xTs := xin (wm_1 (List.mem_of_getElem? (i := 150) (by decide +kernel))) rfl
theorem w1_151 : Cond.fieldLink "Tracewheel$Machine" 184 "Tracewheel$Slots" "kinds" "[C" ∈ xTs := xin (wm_1 (List.mem_of_getElem? (i := 151) (by decide +kernel))) rfl
theorem w1_152 : Cond.fieldLink "Tracewheel$Slots" 15 "Tracewheel$Slots" "wholes" "[I" ∈ xTs := xin (wm_1 (List.mem_of_getElem? (i := 152) (by decide +kernel))) rfl
theorem w1_153 : Cond.fieldLink "Tracewheel$Machine" 113 "Tracewheel$Slots" "wholes" "[I" ∈ xTs := xin (wm_1 (List.mem_of_getElem? (i := 153) (by decide +kernel))) rfl
theorem w1_154 : Cond.fieldLink "Tracewheel$Slots" 19 "Tracewheel$Slots" "reals" "[D" ∈ xTs := xin (wm_1 (List.mem_of_getElem? (i := 154) (by decide +kernel))) rfl
theorem w1_155 : Cond.fieldLink "Tracewheel$Slots" 23 "Tracewheel$Slots" "facts" "[I" ∈ xTs := xin (wm_1 (List.mem_of_getElem? (i := 155) (by decide +kernel))) rfl
theorem w1_156 : Cond.fieldLink "Tracewheel$Recorder" 72 "Tracewheel$Slots" "facts" "[I" ∈ xTs := xin (wm_1 (List.mem_of_getElem? (i := 156) (by decide +kernel))) rfl
theorem w1_166 : Cond.arrayClass FieldType.double ∈ xTs := xin (wm_1 (List.mem_of_getElem? (i := 166) (by decide +kernel))) rfl
theorem w1_167 : Cond.fieldLink "Tracewheel$Machine" 9 "Tracewheel$Machine" "program" "LTracewheel$Program;" ∈ xTs := xin (wm_1 (List.mem_of_getElem? (i := 167) (by decide +kernel))) rfl
theorem w1_168 : Cond.fieldLink "Tracewheel$Recorder" 173 "Tracewheel$Machine" "program" "LTracewheel$Program;" ∈ xTs := xin (wm_1 (List.mem_of_getElem? (i := 168) (by decide +kernel))) rfl
theorem w1_169 : Cond.fieldLink "Tracewheel$Machine" 15 "Tracewheel$Machine" "shapes" "LTracewheel$Shapes;" ∈ xTs := xin (wm_1 (List.mem_of_getElem? (i := 169) (by decide +kernel))) rfl
theorem w1_170 : Cond.fieldLink "Tracewheel$Recorder" 152 "Tracewheel$Machine" "shapes" "LTracewheel$Shapes;" ∈ xTs := xin (wm_1 (List.mem_of_getElem? (i := 170) (by decide +kernel))) rfl
theorem w1_171 : Cond.fieldLink "Tracewheel$Machine" 22 "Tracewheel$Machine" "slots" "LTracewheel$Slots;" ∈ xTs := xin (wm_1 (List.mem_of_getElem? (i := 171) (by decide +kernel))) rfl
theorem w1_172 : Cond.fieldLink "Tracewheel$Recorder" 68 "Tracewheel$Machine" "slots" "LTracewheel$Slots;" ∈ xTs := xin (wm_1 (List.mem_of_getElem? (i := 172) (by decide +kernel))) rfl
theorem w1_173 : Cond.fieldLink "Tracewheel" 246 "Tracewheel$Machine" "slots" "LTracewheel$Slots;" ∈ xTs := xin (wm_1 (List.mem_of_getElem? (i := 173) (by decide +kernel))) rfl
theorem w1_174 : Cond.fieldLink "Tracewheel$Machine" 26 "Tracewheel$Machine" "functions" "[I" ∈ xTs := xin (wm_1 (List.mem_of_getElem? (i := 174) (by decide +kernel))) rfl
theorem w1_175 : Cond.fieldLink "Tracewheel$Machine" 30 "Tracewheel$Machine" "indices" "[I" ∈ xTs := xin (wm_1 (List.mem_of_getElem? (i := 175) (by decide +kernel))) rfl
theorem w1_176 : Cond.fieldLink "Tracewheel$Machine" 33 "Tracewheel$Machine" "heights" "[I" ∈ xTs := xin (wm_1 (List.mem_of_getElem? (i := 176) (by decide +kernel))) rfl
theorem w1_177 : Cond.fieldLink "Tracewheel$Machine" 36 "Tracewheel$Machine" "objectShapes" "[I" ∈ xTs := xin (wm_1 (List.mem_of_getElem? (i := 177) (by decide +kernel))) rfl
theorem w1_178 : Cond.fieldLink "Tracewheel" 278 "Tracewheel$Machine" "objectShapes" "[I" ∈ xTs := xin (wm_1 (List.mem_of_getElem? (i := 178) (by decide +kernel))) rfl
theorem w1_179 : Cond.fieldLink "Tracewheel$Recorder" 84 "Tracewheel$Machine" "letterAhead" "C" ∈ xTs := xin (wm_1 (List.mem_of_getElem? (i := 179) (by decide +kernel))) rfl
theorem w1_180 : Cond.fieldLink "Tracewheel$Wheel" 169 "Tracewheel$Machine" "letterAhead" "C" ∈ xTs := xin (wm_1 (List.mem_of_getElem? (i := 180) (by decide +kernel))) rfl
theorem w1_181 : Cond.fieldLink "Tracewheel$Machine" 141 "Tracewheel$Machine" "letterAhead" "C" ∈ xTs := xin (wm_1 (List.mem_of_getElem? (i := 181) (by decide +kernel))) rfl
theorem w1_182 : Cond.fieldLink "Tracewheel$Recorder" 159 "Tracewheel$Machine" "operandAhead" "I" ∈ xTs := xin (wm_1 (List.mem_of_getElem? (i := 182) (by decide +kernel))) rfl
theorem w1_183 : Cond.fieldLink "Tracewheel$Machine" 147 "Tracewheel$Machine" "operandAhead" "I" ∈ xTs := xin (wm_1 (List.mem_of_getElem? (i := 183) (by decide +kernel))) rfl
theorem w1_184 : Cond.fieldLink "Tracewheel$Machine" 46 "Tracewheel$Machine" "depth" "I" ∈ xTs := xin (wm_1 (List.mem_of_getElem? (i := 184) (by decide +kernel))) rfl
theorem w1_185 : Cond.fieldLink "Tracewheel$Recorder" 40 "Tracewheel$Machine" "depth" "I" ∈ xTs := xin (wm_1 (List.mem_of_getElem? (i := 185) (by decide +kernel))) rfl
theorem w1_186 : Cond.fieldLink "Tracewheel$Wheel" 124 "Tracewheel$Machine" "depth" "I" ∈ xTs := xin (wm_1 (List.mem_of_getElem? (i := 186) (by decide +kernel))) rfl
theorem w1_187 : Cond.fieldLink "Tracewheel$Machine" 50 "Tracewheel$Machine" "objectCount" "I" ∈ xTs := xin (wm_1 (List.mem_of_getElem? (i := 187) (by decide +kernel))) rfl
theorem w1_188 : Cond.fieldLink "Tracewheel" 272 "Tracewheel$Machine" "objectCount" "I" ∈ xTs := xin (wm_1 (List.mem_of_getElem? (i := 188) (by decide +kernel))) rfl
theorem w1_189 : Cond.fieldLink "Tracewheel$Machine" 53 "Tracewheel$Machine" "toldCount" "I" ∈ xTs := xin (wm_1 (List.mem_of_getElem? (i := 189) (by decide +kernel))) rfl
theorem w1_190 : Cond.fieldLink "Tracewheel" 266 "Tracewheel$Machine" "toldCount" "I" ∈ xTs := xin (wm_1 (List.mem_of_getElem? (i := 190) (by decide +kernel))) rfl
theorem w1_191 : Cond.fieldLink "Tracewheel$Machine" 56 "Tracewheel$Machine" "executed" "I" ∈ xTs := xin (wm_1 (List.mem_of_getElem? (i := 191) (by decide +kernel))) rfl
theorem w1_192 : Cond.fieldLink "Tracewheel" 235 "Tracewheel$Machine" "executed" "I" ∈ xTs := xin (wm_1 (List.mem_of_getElem? (i := 192) (by decide +kernel))) rfl
theorem w1_193 : Cond.fieldLink "Tracewheel$Machine" 39 "Tracewheel$Machine" "ending" "C" ∈ xTs := xin (wm_1 (List.mem_of_getElem? (i := 193) (by decide +kernel))) rfl
theorem w1_194 : Cond.fieldLink "Tracewheel" 238 "Tracewheel$Machine" "ending" "C" ∈ xTs := xin (wm_1 (List.mem_of_getElem? (i := 194) (by decide +kernel))) rfl
theorem w1_195 : Cond.fieldLink "Tracewheel$Machine" 43 "Tracewheel$Machine" "failureLetter" "C" ∈ xTs := xin (wm_1 (List.mem_of_getElem? (i := 195) (by decide +kernel))) rfl
theorem w1_196 : Cond.fieldLink "Tracewheel" 260 "Tracewheel$Machine" "failureLetter" "C" ∈ xTs := xin (wm_1 (List.mem_of_getElem? (i := 196) (by decide +kernel))) rfl
theorem w1_197 : Cond.fieldLink "Tracewheel$Machine" 59 "Tracewheel$Machine" "failureLine" "I" ∈ xTs := xin (wm_1 (List.mem_of_getElem? (i := 197) (by decide +kernel))) rfl
theorem w1_198 : Cond.fieldLink "Tracewheel" 263 "Tracewheel$Machine" "failureLine" "I" ∈ xTs := xin (wm_1 (List.mem_of_getElem? (i := 198) (by decide +kernel))) rfl
theorem w1_232 : Cond.classLink "Tracewheel" 35 "Tracewheel$Wheel" ∈ xTs := xin (wm_1 (List.mem_of_getElem? (i := 232) (by decide +kernel))) rfl
theorem w1_233 : Cond.instantiable "Tracewheel$Wheel" 13 ∈ xTs := xin (wm_1 (List.mem_of_getElem? (i := 233) (by decide +kernel))) rfl
theorem w1_234 : Cond.methodLink "Tracewheel" 37 ⟨"Tracewheel$Wheel", "<init>", "(LTracewheel$Program;LTracewheel$Machine;)V"⟩ ∈ xTs := xin (wm_1 (List.mem_of_getElem? (i := 234) (by decide +kernel))) rfl
theorem w1_235 : Cond.instanceMethod ⟨"Tracewheel$Wheel", "<init>", "(LTracewheel$Program;LTracewheel$Machine;)V"⟩ ∈ xTs := xin (wm_1 (List.mem_of_getElem? (i := 235) (by decide +kernel))) rfl
theorem w1_236 : Cond.code ⟨"Tracewheel$Wheel", "<init>", "(LTracewheel$Program;LTracewheel$Machine;)V"⟩ prog_12_method_1_code 3 none ∈ xTs := xin (wm_1 (List.mem_of_getElem? (i := 236) (by decide +kernel))) rfl
theorem w1_237 : Cond.methodLink "Tracewheel$Wheel" 3 ⟨"java/lang/Object", "<init>", "()V"⟩ ∈ xTs := xin (wm_1 (List.mem_of_getElem? (i := 237) (by decide +kernel))) rfl
theorem w1_238 : Cond.classLink "Tracewheel$Wheel" 15 "Tracewheel$Caches" ∈ xTs := xin (wm_1 (List.mem_of_getElem? (i := 238) (by decide +kernel))) rfl
theorem w1_239 : Cond.instantiable "Tracewheel$Caches" 4 ∈ xTs := xin (wm_1 (List.mem_of_getElem? (i := 239) (by decide +kernel))) rfl
theorem w2_0 : Cond.methodLink "Tracewheel$Wheel" 17 ⟨"Tracewheel$Caches", "<init>", "()V"⟩ ∈ xTs := xin (wm_2 (List.mem_of_getElem? (i := 0) (by decide +kernel))) rfl
theorem w2_1 : Cond.instanceMethod ⟨"Tracewheel$Caches", "<init>", "()V"⟩ ∈ xTs := xin (wm_2 (List.mem_of_getElem? (i := 1) (by decide +kernel))) rfl
theorem w2_2 : Cond.code ⟨"Tracewheel$Caches", "<init>", "()V"⟩ prog_2_method_1_code 1 none ∈ xTs := xin (wm_2 (List.mem_of_getElem? (i := 2) (by decide +kernel))) rfl
theorem w2_3 : Cond.methodLink "Tracewheel$Caches" 3 ⟨"java/lang/Object", "<init>", "()V"⟩ ∈ xTs := xin (wm_2 (List.mem_of_getElem? (i := 3) (by decide +kernel))) rfl
theorem w2_4 : Cond.fieldLink "Tracewheel$Caches" 9 "Tracewheel$Caches" "keys" "[I" ∈ xTs := xin (wm_2 (List.mem_of_getElem? (i := 4) (by decide +kernel))) rfl
theorem w2_5 : Cond.fieldLink "Tracewheel$Caches" 15 "Tracewheel$Caches" "sizes" "[I" ∈ xTs := xin (wm_2 (List.mem_of_getElem? (i := 5) (by decide +kernel))) rfl
theorem w2_6 : Cond.fieldLink "Tracewheel$Caches" 18 "Tracewheel$Caches" "hitCounts" "[I" ∈ xTs := xin (wm_2 (List.mem_of_getElem? (i := 6) (by decide +kernel))) rfl
theorem w2_7 : Cond.fieldLink "Tracewheel" 314 "Tracewheel$Caches" "hitCounts" "[I" ∈ xTs := xin (wm_2 (List.mem_of_getElem? (i := 7) (by decide +kernel))) rfl
theorem w2_8 : Cond.fieldLink "Tracewheel$Caches" 21 "Tracewheel$Caches" "missCounts" "[I" ∈ xTs := xin (wm_2 (List.mem_of_getElem? (i := 8) (by decide +kernel))) rfl
theorem w2_9 : Cond.fieldLink "Tracewheel" 317 "Tracewheel$Caches" "missCounts" "[I" ∈ xTs := xin (wm_2 (List.mem_of_getElem? (i := 9) (by decide +kernel))) rfl
theorem w2_19 : Cond.classLink "Tracewheel$Wheel" 22 "Tracewheel$Heads" ∈ xTs := xin (wm_2 (List.mem_of_getElem? (i := 19) (by decide +kernel))) rfl
theorem w2_20 : Cond.instantiable "Tracewheel$Heads" 3 ∈ xTs := xin (wm_2 (List.mem_of_getElem? (i := 20) (by decide +kernel))) rfl
theorem w2_21 : Cond.methodLink "Tracewheel$Wheel" 24 ⟨"Tracewheel$Heads", "<init>", "()V"⟩ ∈ xTs := xin (wm_2 (List.mem_of_getElem? (i := 21) (by decide +kernel))) rfl
theorem w2_22 : Cond.instanceMethod ⟨"Tracewheel$Heads", "<init>", "()V"⟩ ∈ xTs := xin (wm_2 (List.mem_of_getElem? (i := 22) (by decide +kernel))) rfl
theorem w2_23 : Cond.code ⟨"Tracewheel$Heads", "<init>", "()V"⟩ prog_4_method_1_code 1 none ∈ xTs := xin (wm_2 (List.mem_of_getElem? (i := 23) (by decide +kernel))) rfl
theorem w2_24 : Cond.methodLink "Tracewheel$Heads" 3 ⟨"java/lang/Object", "<init>", "()V"⟩ ∈ xTs := xin (wm_2 (List.mem_of_getElem? (i := 24) (by decide +kernel))) rfl
theorem w2_25 : Cond.methodLink "Tracewheel$Heads" 21 ⟨"java/util/Arrays", "fill", "([II)V"⟩ ∈ xTs := xin (wm_2 (List.mem_of_getElem? (i := 25) (by decide +kernel))) rfl
theorem w2_26 : Cond.fieldLink "Tracewheel$Heads" 9 "Tracewheel$Heads" "counters" "[I" ∈ xTs := xin (wm_2 (List.mem_of_getElem? (i := 26) (by decide +kernel))) rfl
theorem w2_27 : Cond.fieldLink "Tracewheel$Wheel" 216 "Tracewheel$Heads" "counters" "[I" ∈ xTs := xin (wm_2 (List.mem_of_getElem? (i := 27) (by decide +kernel))) rfl
theorem w2_28 : Cond.fieldLink "Tracewheel$Forest" 88 "Tracewheel$Heads" "counters" "[I" ∈ xTs := xin (wm_2 (List.mem_of_getElem? (i := 28) (by decide +kernel))) rfl
theorem w2_29 : Cond.fieldLink "Tracewheel" 324 "Tracewheel$Heads" "counters" "[I" ∈ xTs := xin (wm_2 (List.mem_of_getElem? (i := 29) (by decide +kernel))) rfl
theorem w2_30 : Cond.fieldLink "Tracewheel$Heads" 15 "Tracewheel$Heads" "breaks" "[I" ∈ xTs := xin (wm_2 (List.mem_of_getElem? (i := 30) (by decide +kernel))) rfl
theorem w2_31 : Cond.fieldLink "Tracewheel$Heads" 18 "Tracewheel$Heads" "roots" "[I" ∈ xTs := xin (wm_2 (List.mem_of_getElem? (i := 31) (by decide +kernel))) rfl
theorem w2_32 : Cond.fieldLink "Tracewheel$Wheel" 213 "Tracewheel$Heads" "roots" "[I" ∈ xTs := xin (wm_2 (List.mem_of_getElem? (i := 32) (by decide +kernel))) rfl
theorem w2_33 : Cond.fieldLink "Tracewheel$Forest" 83 "Tracewheel$Heads" "roots" "[I" ∈ xTs := xin (wm_2 (List.mem_of_getElem? (i := 33) (by decide +kernel))) rfl
theorem w2_41 : Cond.classLink "Tracewheel$Wheel" 29 "Tracewheel$Recorder" ∈ xTs := xin (wm_2 (List.mem_of_getElem? (i := 41) (by decide +kernel))) rfl
theorem w2_42 : Cond.instantiable "Tracewheel$Recorder" 16 ∈ xTs := xin (wm_2 (List.mem_of_getElem? (i := 42) (by decide +kernel))) rfl
theorem w2_43 : Cond.methodLink "Tracewheel$Wheel" 31 ⟨"Tracewheel$Recorder", "<init>", "()V"⟩ ∈ xTs := xin (wm_2 (List.mem_of_getElem? (i := 43) (by decide +kernel))) rfl
theorem w2_44 : Cond.instanceMethod ⟨"Tracewheel$Recorder", "<init>", "()V"⟩ ∈ xTs := xin (wm_2 (List.mem_of_getElem? (i := 44) (by decide +kernel))) rfl
theorem w2_45 : Cond.code ⟨"Tracewheel$Recorder", "<init>", "()V"⟩ prog_8_method_1_code 1 none ∈ xTs := xin (wm_2 (List.mem_of_getElem? (i := 45) (by decide +kernel))) rfl
theorem w2_46 : Cond.methodLink "Tracewheel$Recorder" 3 ⟨"java/lang/Object", "<init>", "()V"⟩ ∈ xTs := xin (wm_2 (List.mem_of_getElem? (i := 46) (by decide +kernel))) rfl
theorem w2_47 : Cond.fieldLink "Tracewheel$Recorder" 9 "Tracewheel$Recorder" "lines" "[I" ∈ xTs := xin (wm_2 (List.mem_of_getElem? (i := 47) (by decide +kernel))) rfl
theorem w2_48 : Cond.fieldLink "Tracewheel$Trace" 22 "Tracewheel$Recorder" "lines" "[I" ∈ xTs := xin (wm_2 (List.mem_of_getElem? (i := 48) (by decide +kernel))) rfl
theorem w2_49 : Cond.fieldLink "Tracewheel$Recorder" 15 "Tracewheel$Recorder" "firstGuards" "[I" ∈ xTs := xin (wm_2 (List.mem_of_getElem? (i := 49) (by decide +kernel))) rfl
theorem w2_50 : Cond.fieldLink "Tracewheel$Trace" 33 "Tracewheel$Recorder" "firstGuards" "[I" ∈ xTs := xin (wm_2 (List.mem_of_getElem? (i := 50) (by decide +kernel))) rfl
theorem w2_51 : Cond.fieldLink "Tracewheel$Recorder" 18 "Tracewheel$Recorder" "guardLetters" "[I" ∈ xTs := xin (wm_2 (List.mem_of_getElem? (i := 51) (by decide +kernel))) rfl
theorem w2_52 : Cond.fieldLink "Tracewheel$Trace" 37 "Tracewheel$Recorder" "guardLetters" "[I" ∈ xTs := xin (wm_2 (List.mem_of_getElem? (i := 52) (by decide +kernel))) rfl
theorem w2_53 : Cond.fieldLink "Tracewheel$Recorder" 21 "Tracewheel$Recorder" "guardSteps" "[I" ∈ xTs := xin (wm_2 (List.mem_of_getElem? (i := 53) (by decide +kernel))) rfl
theorem w2_54 : Cond.fieldLink "Tracewheel$Trace" 41 "Tracewheel$Recorder" "guardSteps" "[I" ∈ xTs := xin (wm_2 (List.mem_of_getElem? (i := 54) (by decide +kernel))) rfl
theorem w2_55 : Cond.fieldLink "Tracewheel$Recorder" 24 "Tracewheel$Recorder" "guardDistances" "[I" ∈ xTs := xin (wm_2 (List.mem_of_getElem? (i := 55) (by decide +kernel))) rfl
theorem w2_56 : Cond.fieldLink "Tracewheel$Trace" 45 "Tracewheel$Recorder" "guardDistances" "[I" ∈ xTs := xin (wm_2 (List.mem_of_getElem? (i := 56) (by decide +kernel))) rfl
theorem w2_57 : Cond.fieldLink "Tracewheel$Recorder" 27 "Tracewheel$Recorder" "guardAnswers" "[I" ∈ xTs := xin (wm_2 (List.mem_of_getElem? (i := 57) (by decide +kernel))) rfl
theorem w2_58 : Cond.fieldLink "Tracewheel$Trace" 49 "Tracewheel$Recorder" "guardAnswers" "[I" ∈ xTs := xin (wm_2 (List.mem_of_getElem? (i := 58) (by decide +kernel))) rfl
theorem w2_59 : Cond.fieldLink "Tracewheel$Recorder" 30 "Tracewheel$Recorder" "known" "[I" ∈ xTs := xin (wm_2 (List.mem_of_getElem? (i := 59) (by decide +kernel))) rfl
theorem w2_60 : Cond.fieldLink "Tracewheel$Trace" 9 "Tracewheel$Recorder" "stepCount" "I" ∈ xTs := xin (wm_2 (List.mem_of_getElem? (i := 60) (by decide +kernel))) rfl
theorem w2_61 : Cond.fieldLink "Tracewheel$Recorder" 62 "Tracewheel$Recorder" "stepCount" "I" ∈ xTs := xin (wm_2 (List.mem_of_getElem? (i := 61) (by decide +kernel))) rfl
theorem w2_62 : Cond.fieldLink "Tracewheel$Wheel" 228 "Tracewheel$Recorder" "stepCount" "I" ∈ xTs := xin (wm_2 (List.mem_of_getElem? (i := 62) (by decide +kernel))) rfl
theorem w2_63 : Cond.fieldLink "Tracewheel$Trace" 18 "Tracewheel$Recorder" "guardCount" "I" ∈ xTs := xin (wm_2 (List.mem_of_getElem? (i := 63) (by decide +kernel))) rfl
theorem w2_64 : Cond.fieldLink "Tracewheel$Recorder" 65 "Tracewheel$Recorder" "guardCount" "I" ∈ xTs := xin (wm_2 (List.mem_of_getElem? (i := 64) (by decide +kernel))) rfl
theorem w2_65 : Cond.fieldLink "Tracewheel$Recorder" 77 "Tracewheel$Recorder" "factCount" "I" ∈ xTs := xin (wm_2 (List.mem_of_getElem? (i := 65) (by decide +kernel))) rfl
theorem w2_66 : Cond.fieldLink "Tracewheel$Recorder" 54 "Tracewheel$Recorder" "active" "Z" ∈ xTs := xin (wm_2 (List.mem_of_getElem? (i := 66) (by decide +kernel))) rfl
theorem w2_67 : Cond.fieldLink "Tracewheel$Wheel" 177 "Tracewheel$Recorder" "active" "Z" ∈ xTs := xin (wm_2 (List.mem_of_getElem? (i := 67) (by decide +kernel))) rfl
theorem w2_68 : Cond.fieldLink "Tracewheel$Trace" 72 "Tracewheel$Recorder" "headSite" "I" ∈ xTs := xin (wm_2 (List.mem_of_getElem? (i := 68) (by decide +kernel))) rfl
theorem w2_69 : Cond.fieldLink "Tracewheel$Recorder" 58 "Tracewheel$Recorder" "headSite" "I" ∈ xTs := xin (wm_2 (List.mem_of_getElem? (i := 69) (by decide +kernel))) rfl
theorem w2_70 : Cond.fieldLink "Tracewheel$Wheel" 236 "Tracewheel$Recorder" "headSite" "I" ∈ xTs := xin (wm_2 (List.mem_of_getElem? (i := 70) (by decide +kernel))) rfl
theorem w2_71 : Cond.fieldLink "Tracewheel$Recorder" 59 "Tracewheel$Recorder" "rootDepth" "I" ∈ xTs := xin (wm_2 (List.mem_of_getElem? (i := 71) (by decide +kernel))) rfl
theorem w2_72 : Cond.fieldLink "Tracewheel$Wheel" 173 "Tracewheel$Recorder" "rootDepth" "I" ∈ xTs := xin (wm_2 (List.mem_of_getElem? (i := 72) (by decide +kernel))) rfl
theorem w2_73 : Cond.fieldLink "Tracewheel$Recorder" 33 "Tracewheel$Recorder" "parent" "I" ∈ xTs := xin (wm_2 (List.mem_of_getElem? (i := 73) (by decide +kernel))) rfl
theorem w2_74 : Cond.fieldLink "Tracewheel$Wheel" 224 "Tracewheel$Recorder" "parent" "I" ∈ xTs := xin (wm_2 (List.mem_of_getElem? (i := 74) (by decide +kernel))) rfl
theorem w2_75 : Cond.fieldLink "Tracewheel$Recorder" 37 "Tracewheel$Recorder" "parentGuard" "I" ∈ xTs := xin (wm_2 (List.mem_of_getElem? (i := 75) (by decide +kernel))) rfl
theorem w2_76 : Cond.fieldLink "Tracewheel$Wheel" 239 "Tracewheel$Recorder" "parentGuard" "I" ∈ xTs := xin (wm_2 (List.mem_of_getElem? (i := 76) (by decide +kernel))) rfl
theorem w2_77 : Cond.fieldLink "Tracewheel$Recorder" 91 "Tracewheel$Recorder" "made" "I" ∈ xTs := xin (wm_2 (List.mem_of_getElem? (i := 77) (by decide +kernel))) rfl
theorem w2_111 : Cond.classLink "Tracewheel$Wheel" 36 "Tracewheel$Trace" ∈ xTs := xin (wm_2 (List.mem_of_getElem? (i := 111) (by decide +kernel))) rfl
theorem w2_112 : Cond.instantiable "Tracewheel$Trace" 17 ∈ xTs := xin (wm_2 (List.mem_of_getElem? (i := 112) (by decide +kernel))) rfl
theorem w2_113 : Cond.methodLink "Tracewheel$Wheel" 38 ⟨"Tracewheel$Trace", "<init>", "(LTracewheel$Recorder;I)V"⟩ ∈ xTs := xin (wm_2 (List.mem_of_getElem? (i := 113) (by decide +kernel))) rfl
theorem w2_114 : Cond.instanceMethod ⟨"Tracewheel$Trace", "<init>", "(LTracewheel$Recorder;I)V"⟩ ∈ xTs := xin (wm_2 (List.mem_of_getElem? (i := 114) (by decide +kernel))) rfl
theorem w2_115 : Cond.code ⟨"Tracewheel$Trace", "<init>", "(LTracewheel$Recorder;I)V"⟩ prog_11_method_1_code 3 none ∈ xTs := xin (wm_2 (List.mem_of_getElem? (i := 115) (by decide +kernel))) rfl
theorem w2_116 : Cond.methodLink "Tracewheel$Trace" 3 ⟨"java/lang/Object", "<init>", "()V"⟩ ∈ xTs := xin (wm_2 (List.mem_of_getElem? (i := 116) (by decide +kernel))) rfl
theorem w2_117 : Cond.methodLink "Tracewheel$Trace" 26 ⟨"java/util/Arrays", "copyOf", "([II)[I"⟩ ∈ xTs := xin (wm_2 (List.mem_of_getElem? (i := 117) (by decide +kernel))) rfl
theorem w2_118 : Cond.static ⟨"java/util/Arrays", "copyOf", "([II)[I"⟩ ∈ xTs := xin (wm_2 (List.mem_of_getElem? (i := 118) (by decide +kernel))) rfl
theorem w2_119 : Cond.code ⟨"java/util/Arrays", "copyOf", "([II)[I"⟩ prog_39_method_123_code 3 (Option.some (FieldType.array FieldType.int)) ∈ xTs := xin (wm_2 (List.mem_of_getElem? (i := 119) (by decide +kernel))) rfl
theorem w2_120 : Cond.methodLink "java/util/Arrays" 316 ⟨"[I", "clone", "()Ljava/lang/Object;"⟩ ∈ xTs := xin (wm_2 (List.mem_of_getElem? (i := 120) (by decide +kernel))) rfl
theorem w2_121 : Cond.sameMethod "[I" "java/lang/Object" "clone" "()Ljava/lang/Object;" ∈ xTs := xin (wm_2 (List.mem_of_getElem? (i := 121) (by decide +kernel))) rfl
theorem w2_122 : Cond.native ⟨"java/lang/Object", "clone", "()Ljava/lang/Object;"⟩ ∈ xTs := xin (wm_2 (List.mem_of_getElem? (i := 122) (by decide +kernel))) rfl
theorem w2_123 : Cond.instanceMethod ⟨"java/lang/Object", "clone", "()Ljava/lang/Object;"⟩ ∈ xTs := xin (wm_2 (List.mem_of_getElem? (i := 123) (by decide +kernel))) rfl
theorem w2_124 : Cond.selects "[I" ⟨"[I", "clone", "()Ljava/lang/Object;"⟩ ⟨"java/lang/Object", "clone", "()Ljava/lang/Object;"⟩ ∈ xTs := xin (wm_2 (List.mem_of_getElem? (i := 124) (by decide +kernel))) rfl
theorem w2_126 : Cond.classLink "java/util/Arrays" 317 "[I" ∈ xTs := xin (wm_2 (List.mem_of_getElem? (i := 126) (by decide +kernel))) rfl
theorem w2_127 : Cond.methodLink "java/util/Arrays" 304 ⟨"java/lang/Math", "min", "(II)I"⟩ ∈ xTs := xin (wm_2 (List.mem_of_getElem? (i := 127) (by decide +kernel))) rfl
theorem w2_128 : Cond.static ⟨"java/lang/Math", "min", "(II)I"⟩ ∈ xTs := xin (wm_2 (List.mem_of_getElem? (i := 128) (by decide +kernel))) rfl
theorem w2_129 : Cond.code ⟨"java/lang/Math", "min", "(II)I"⟩ prog_27_method_69_code 2 (some .int) ∈ xTs := xin (wm_2 (List.mem_of_getElem? (i := 129) (by decide +kernel))) rfl
theorem w2_130 : Cond.methodLink "java/util/Arrays" 150 ⟨"java/lang/System", "arraycopy", "(Ljava/lang/Object;ILjava/lang/Object;II)V"⟩ ∈ xTs := xin (wm_2 (List.mem_of_getElem? (i := 130) (by decide +kernel))) rfl
theorem w2_131 : Cond.static ⟨"java/lang/System", "arraycopy", "(Ljava/lang/Object;ILjava/lang/Object;II)V"⟩ ∈ xTs := xin (wm_2 (List.mem_of_getElem? (i := 131) (by decide +kernel))) rfl
theorem w2_132 : Cond.native ⟨"java/lang/System", "arraycopy", "(Ljava/lang/Object;ILjava/lang/Object;II)V"⟩ ∈ xTs := xin (wm_2 (List.mem_of_getElem? (i := 132) (by decide +kernel))) rfl
theorem w2_133 : Cond.methodLink "Tracewheel$Trace" 65 ⟨"java/util/Arrays", "fill", "([II)V"⟩ ∈ xTs := xin (wm_2 (List.mem_of_getElem? (i := 133) (by decide +kernel))) rfl
theorem w2_134 : Cond.fieldLink "Tracewheel$Trace" 15 "Tracewheel$Trace" "stepCount" "I" ∈ xTs := xin (wm_2 (List.mem_of_getElem? (i := 134) (by decide +kernel))) rfl
theorem w2_135 : Cond.fieldLink "Tracewheel$Forest" 36 "Tracewheel$Trace" "stepCount" "I" ∈ xTs := xin (wm_2 (List.mem_of_getElem? (i := 135) (by decide +kernel))) rfl
theorem w2_136 : Cond.fieldLink "Tracewheel$Wheel" 105 "Tracewheel$Trace" "stepCount" "I" ∈ xTs := xin (wm_2 (List.mem_of_getElem? (i := 136) (by decide +kernel))) rfl
theorem w2_137 : Cond.fieldLink "Tracewheel" 345 "Tracewheel$Trace" "stepCount" "I" ∈ xTs := xin (wm_2 (List.mem_of_getElem? (i := 137) (by decide +kernel))) rfl
theorem w2_138 : Cond.fieldLink "Tracewheel$Trace" 21 "Tracewheel$Trace" "guardCount" "I" ∈ xTs := xin (wm_2 (List.mem_of_getElem? (i := 138) (by decide +kernel))) rfl
theorem w2_139 : Cond.fieldLink "Tracewheel$Forest" 39 "Tracewheel$Trace" "guardCount" "I" ∈ xTs := xin (wm_2 (List.mem_of_getElem? (i := 139) (by decide +kernel))) rfl
theorem w2_140 : Cond.fieldLink "Tracewheel" 353 "Tracewheel$Trace" "guardCount" "I" ∈ xTs := xin (wm_2 (List.mem_of_getElem? (i := 140) (by decide +kernel))) rfl
theorem w2_141 : Cond.fieldLink "Tracewheel$Trace" 32 "Tracewheel$Trace" "lines" "[I" ∈ xTs := xin (wm_2 (List.mem_of_getElem? (i := 141) (by decide +kernel))) rfl
theorem w2_142 : Cond.fieldLink "Tracewheel$Forest" 64 "Tracewheel$Trace" "lines" "[I" ∈ xTs := xin (wm_2 (List.mem_of_getElem? (i := 142) (by decide +kernel))) rfl
theorem w2_143 : Cond.fieldLink "Tracewheel" 350 "Tracewheel$Trace" "lines" "[I" ∈ xTs := xin (wm_2 (List.mem_of_getElem? (i := 143) (by decide +kernel))) rfl
theorem w2_144 : Cond.fieldLink "Tracewheel$Trace" 36 "Tracewheel$Trace" "firstGuards" "[I" ∈ xTs := xin (wm_2 (List.mem_of_getElem? (i := 144) (by decide +kernel))) rfl
theorem w2_145 : Cond.fieldLink "Tracewheel$Wheel" 78 "Tracewheel$Trace" "firstGuards" "[I" ∈ xTs := xin (wm_2 (List.mem_of_getElem? (i := 145) (by decide +kernel))) rfl
theorem w2_146 : Cond.fieldLink "Tracewheel$Trace" 40 "Tracewheel$Trace" "guardLetters" "[I" ∈ xTs := xin (wm_2 (List.mem_of_getElem? (i := 146) (by decide +kernel))) rfl
theorem w2_147 : Cond.fieldLink "Tracewheel$Wheel" 85 "Tracewheel$Trace" "guardLetters" "[I" ∈ xTs := xin (wm_2 (List.mem_of_getElem? (i := 147) (by decide +kernel))) rfl
theorem w2_148 : Cond.fieldLink "Tracewheel" 360 "Tracewheel$Trace" "guardLetters" "[I" ∈ xTs := xin (wm_2 (List.mem_of_getElem? (i := 148) (by decide +kernel))) rfl
theorem w2_149 : Cond.fieldLink "Tracewheel$Trace" 44 "Tracewheel$Trace" "guardSteps" "[I" ∈ xTs := xin (wm_2 (List.mem_of_getElem? (i := 149) (by decide +kernel))) rfl
theorem w2_150 : Cond.fieldLink "Tracewheel" 363 "Tracewheel$Trace" "guardSteps" "[I" ∈ xTs := xin (wm_2 (List.mem_of_getElem? (i := 150) (by decide +kernel))) rfl
theorem w2_151 : Cond.fieldLink "Tracewheel$Trace" 48 "Tracewheel$Trace" "guardDistances" "[I" ∈ xTs := xin (wm_2 (List.mem_of_getElem? (i := 151) (by decide +kernel))) rfl
theorem w2_152 : Cond.fieldLink "Tracewheel$Wheel" 88 "Tracewheel$Trace" "guardDistances" "[I" ∈ xTs := xin (wm_2 (List.mem_of_getElem? (i := 152) (by decide +kernel))) rfl
theorem w2_153 : Cond.fieldLink "Tracewheel$Trace" 52 "Tracewheel$Trace" "guardAnswers" "[I" ∈ xTs := xin (wm_2 (List.mem_of_getElem? (i := 153) (by decide +kernel))) rfl
theorem w2_154 : Cond.fieldLink "Tracewheel$Wheel" 95 "Tracewheel$Trace" "guardAnswers" "[I" ∈ xTs := xin (wm_2 (List.mem_of_getElem? (i := 154) (by decide +kernel))) rfl
theorem w2_155 : Cond.fieldLink "Tracewheel$Trace" 53 "Tracewheel$Trace" "exitCounts" "[I" ∈ xTs := xin (wm_2 (List.mem_of_getElem? (i := 155) (by decide +kernel))) rfl
theorem w2_156 : Cond.fieldLink "Tracewheel$Wheel" 139 "Tracewheel$Trace" "exitCounts" "[I" ∈ xTs := xin (wm_2 (List.mem_of_getElem? (i := 156) (by decide +kernel))) rfl
theorem w2_157 : Cond.fieldLink "Tracewheel" 366 "Tracewheel$Trace" "exitCounts" "[I" ∈ xTs := xin (wm_2 (List.mem_of_getElem? (i := 157) (by decide +kernel))) rfl
theorem w2_158 : Cond.fieldLink "Tracewheel$Trace" 56 "Tracewheel$Trace" "exitCounters" "[I" ∈ xTs := xin (wm_2 (List.mem_of_getElem? (i := 158) (by decide +kernel))) rfl
theorem w2_159 : Cond.fieldLink "Tracewheel$Wheel" 145 "Tracewheel$Trace" "exitCounters" "[I" ∈ xTs := xin (wm_2 (List.mem_of_getElem? (i := 159) (by decide +kernel))) rfl
theorem w2_160 : Cond.fieldLink "Tracewheel$Trace" 59 "Tracewheel$Trace" "breaks" "[I" ∈ xTs := xin (wm_2 (List.mem_of_getElem? (i := 160) (by decide +kernel))) rfl
theorem w2_161 : Cond.fieldLink "Tracewheel$Trace" 62 "Tracewheel$Trace" "sides" "[I" ∈ xTs := xin (wm_2 (List.mem_of_getElem? (i := 161) (by decide +kernel))) rfl
theorem w2_162 : Cond.fieldLink "Tracewheel$Wheel" 142 "Tracewheel$Trace" "sides" "[I" ∈ xTs := xin (wm_2 (List.mem_of_getElem? (i := 162) (by decide +kernel))) rfl
theorem w2_163 : Cond.fieldLink "Tracewheel" 369 "Tracewheel$Trace" "sides" "[I" ∈ xTs := xin (wm_2 (List.mem_of_getElem? (i := 163) (by decide +kernel))) rfl
theorem w2_164 : Cond.fieldLink "Tracewheel$Trace" 69 "Tracewheel$Trace" "root" "I" ∈ xTs := xin (wm_2 (List.mem_of_getElem? (i := 164) (by decide +kernel))) rfl
theorem w2_165 : Cond.fieldLink "Tracewheel$Wheel" 108 "Tracewheel$Trace" "root" "I" ∈ xTs := xin (wm_2 (List.mem_of_getElem? (i := 165) (by decide +kernel))) rfl
theorem w2_166 : Cond.fieldLink "Tracewheel$Forest" 42 "Tracewheel$Trace" "root" "I" ∈ xTs := xin (wm_2 (List.mem_of_getElem? (i := 166) (by decide +kernel))) rfl
theorem w2_167 : Cond.fieldLink "Tracewheel" 374 "Tracewheel$Trace" "root" "I" ∈ xTs := xin (wm_2 (List.mem_of_getElem? (i := 167) (by decide +kernel))) rfl
theorem w2_168 : Cond.fieldLink "Tracewheel$Trace" 75 "Tracewheel$Trace" "headSite" "I" ∈ xTs := xin (wm_2 (List.mem_of_getElem? (i := 168) (by decide +kernel))) rfl
theorem w2_169 : Cond.fieldLink "Tracewheel$Recorder" 49 "Tracewheel$Trace" "headSite" "I" ∈ xTs := xin (wm_2 (List.mem_of_getElem? (i := 169) (by decide +kernel))) rfl
theorem w2_170 : Cond.fieldLink "Tracewheel$Forest" 80 "Tracewheel$Trace" "headSite" "I" ∈ xTs := xin (wm_2 (List.mem_of_getElem? (i := 170) (by decide +kernel))) rfl
theorem w2_171 : Cond.fieldLink "Tracewheel$Trace" 76 "Tracewheel$Trace" "there" "Z" ∈ xTs := xin (wm_2 (List.mem_of_getElem? (i := 171) (by decide +kernel))) rfl
theorem w2_172 : Cond.fieldLink "Tracewheel$Forest" 32 "Tracewheel$Trace" "there" "Z" ∈ xTs := xin (wm_2 (List.mem_of_getElem? (i := 172) (by decide +kernel))) rfl
theorem w2_173 : Cond.fieldLink "Tracewheel" 340 "Tracewheel$Trace" "there" "Z" ∈ xTs := xin (wm_2 (List.mem_of_getElem? (i := 173) (by decide +kernel))) rfl
theorem w2_174 : Cond.fieldLink "Tracewheel$Wheel" 136 "Tracewheel$Trace" "begunCount" "I" ∈ xTs := xin (wm_2 (List.mem_of_getElem? (i := 174) (by decide +kernel))) rfl
theorem w2_175 : Cond.fieldLink "Tracewheel" 377 "Tracewheel$Trace" "begunCount" "I" ∈ xTs := xin (wm_2 (List.mem_of_getElem? (i := 175) (by decide +kernel))) rfl
theorem w2_176 : Cond.fieldLink "Tracewheel$Wheel" 121 "Tracewheel$Trace" "enteredAt" "I" ∈ xTs := xin (wm_2 (List.mem_of_getElem? (i := 176) (by decide +kernel))) rfl
theorem w2_177 : Cond.fieldLink "Tracewheel$Forest" 57 "Tracewheel$Trace" "enteredAt" "I" ∈ xTs := xin (wm_2 (List.mem_of_getElem? (i := 177) (by decide +kernel))) rfl
theorem w2_213 : Cond.classLink "Tracewheel$Wheel" 45 "Tracewheel$Forest" ∈ xTs := xin (wm_2 (List.mem_of_getElem? (i := 213) (by decide +kernel))) rfl
theorem w2_214 : Cond.instantiable "Tracewheel$Forest" 6 ∈ xTs := xin (wm_2 (List.mem_of_getElem? (i := 214) (by decide +kernel))) rfl
theorem w2_215 : Cond.methodLink "Tracewheel$Wheel" 47 ⟨"Tracewheel$Forest", "<init>", "(LTracewheel$Program;LTracewheel$Heads;LTracewheel$Trace;)V"⟩ ∈ xTs := xin (wm_2 (List.mem_of_getElem? (i := 215) (by decide +kernel))) rfl
theorem w2_216 : Cond.instanceMethod ⟨"Tracewheel$Forest", "<init>", "(LTracewheel$Program;LTracewheel$Heads;LTracewheel$Trace;)V"⟩ ∈ xTs := xin (wm_2 (List.mem_of_getElem? (i := 216) (by decide +kernel))) rfl
theorem w2_217 : Cond.code ⟨"Tracewheel$Forest", "<init>", "(LTracewheel$Program;LTracewheel$Heads;LTracewheel$Trace;)V"⟩ prog_3_method_1_code 5 none ∈ xTs := xin (wm_2 (List.mem_of_getElem? (i := 217) (by decide +kernel))) rfl
theorem w2_218 : Cond.methodLink "Tracewheel$Forest" 3 ⟨"java/lang/Object", "<init>", "()V"⟩ ∈ xTs := xin (wm_2 (List.mem_of_getElem? (i := 218) (by decide +kernel))) rfl
theorem w2_219 : Cond.classLink "Tracewheel$Forest" 19 "Tracewheel$Trace" ∈ xTs := xin (wm_2 (List.mem_of_getElem? (i := 219) (by decide +kernel))) rfl
theorem w2_221 : Cond.fieldLink "Tracewheel$Forest" 9 "Tracewheel$Forest" "program" "LTracewheel$Program;" ∈ xTs := xin (wm_2 (List.mem_of_getElem? (i := 221) (by decide +kernel))) rfl
theorem w2_222 : Cond.fieldLink "Tracewheel$Forest" 15 "Tracewheel$Forest" "heads" "LTracewheel$Heads;" ∈ xTs := xin (wm_2 (List.mem_of_getElem? (i := 222) (by decide +kernel))) rfl
theorem w2_223 : Cond.fieldLink "Tracewheel$Forest" 21 "Tracewheel$Forest" "all" "[LTracewheel$Trace;" ∈ xTs := xin (wm_2 (List.mem_of_getElem? (i := 223) (by decide +kernel))) rfl
theorem w2_224 : Cond.fieldLink "Tracewheel$Wheel" 114 "Tracewheel$Forest" "all" "[LTracewheel$Trace;" ∈ xTs := xin (wm_2 (List.mem_of_getElem? (i := 224) (by decide +kernel))) rfl
theorem w2_225 : Cond.fieldLink "Tracewheel" 427 "Tracewheel$Forest" "all" "[LTracewheel$Trace;" ∈ xTs := xin (wm_2 (List.mem_of_getElem? (i := 225) (by decide +kernel))) rfl
theorem w2_226 : Cond.fieldLink "Tracewheel$Forest" 29 "Tracewheel$Forest" "count" "I" ∈ xTs := xin (wm_2 (List.mem_of_getElem? (i := 226) (by decide +kernel))) rfl
theorem w2_227 : Cond.fieldLink "Tracewheel$Wheel" 233 "Tracewheel$Forest" "count" "I" ∈ xTs := xin (wm_2 (List.mem_of_getElem? (i := 227) (by decide +kernel))) rfl
theorem w2_228 : Cond.fieldLink "Tracewheel" 335 "Tracewheel$Forest" "count" "I" ∈ xTs := xin (wm_2 (List.mem_of_getElem? (i := 228) (by decide +kernel))) rfl
theorem w2_229 : Cond.fieldLink "Tracewheel$Forest" 25 "Tracewheel$Forest" "codeLimit" "I" ∈ xTs := xin (wm_2 (List.mem_of_getElem? (i := 229) (by decide +kernel))) rfl
theorem w2_230 : Cond.fieldLink "Tracewheel" 190 "Tracewheel$Forest" "codeLimit" "I" ∈ xTs := xin (wm_2 (List.mem_of_getElem? (i := 230) (by decide +kernel))) rfl
theorem w2_231 : Cond.fieldLink "Tracewheel$Wheel" 118 "Tracewheel$Forest" "entries" "I" ∈ xTs := xin (wm_2 (List.mem_of_getElem? (i := 231) (by decide +kernel))) rfl
theorem w3_5 : Cond.fieldLink "Tracewheel$Wheel" 9 "Tracewheel$Wheel" "machine" "LTracewheel$Machine;" ∈ xTs := xin (wm_3 (List.mem_of_getElem? (i := 5) (by decide +kernel))) rfl
theorem w3_6 : Cond.fieldLink "Tracewheel$Wheel" 18 "Tracewheel$Wheel" "caches" "LTracewheel$Caches;" ∈ xTs := xin (wm_3 (List.mem_of_getElem? (i := 6) (by decide +kernel))) rfl
theorem w3_7 : Cond.fieldLink "Tracewheel" 157 "Tracewheel$Wheel" "caches" "LTracewheel$Caches;" ∈ xTs := xin (wm_3 (List.mem_of_getElem? (i := 7) (by decide +kernel))) rfl
theorem w3_8 : Cond.fieldLink "Tracewheel$Wheel" 25 "Tracewheel$Wheel" "heads" "LTracewheel$Heads;" ∈ xTs := xin (wm_3 (List.mem_of_getElem? (i := 8) (by decide +kernel))) rfl
theorem w3_9 : Cond.fieldLink "Tracewheel" 320 "Tracewheel$Wheel" "heads" "LTracewheel$Heads;" ∈ xTs := xin (wm_3 (List.mem_of_getElem? (i := 9) (by decide +kernel))) rfl
theorem w3_10 : Cond.fieldLink "Tracewheel$Wheel" 32 "Tracewheel$Wheel" "recorder" "LTracewheel$Recorder;" ∈ xTs := xin (wm_3 (List.mem_of_getElem? (i := 10) (by decide +kernel))) rfl
theorem w3_11 : Cond.fieldLink "Tracewheel$Wheel" 50 "Tracewheel$Wheel" "forest" "LTracewheel$Forest;" ∈ xTs := xin (wm_3 (List.mem_of_getElem? (i := 11) (by decide +kernel))) rfl
theorem w3_12 : Cond.fieldLink "Tracewheel" 167 "Tracewheel$Wheel" "forest" "LTracewheel$Forest;" ∈ xTs := xin (wm_3 (List.mem_of_getElem? (i := 12) (by decide +kernel))) rfl
theorem w3_13 : Cond.fieldLink "Tracewheel$Wheel" 54 "Tracewheel$Wheel" "loopLimit" "I" ∈ xTs := xin (wm_3 (List.mem_of_getElem? (i := 13) (by decide +kernel))) rfl
theorem w3_14 : Cond.fieldLink "Tracewheel" 184 "Tracewheel$Wheel" "loopLimit" "I" ∈ xTs := xin (wm_3 (List.mem_of_getElem? (i := 14) (by decide +kernel))) rfl
theorem w3_15 : Cond.fieldLink "Tracewheel$Wheel" 58 "Tracewheel$Wheel" "exitLimit" "I" ∈ xTs := xin (wm_3 (List.mem_of_getElem? (i := 15) (by decide +kernel))) rfl
theorem w3_16 : Cond.fieldLink "Tracewheel" 187 "Tracewheel$Wheel" "exitLimit" "I" ∈ xTs := xin (wm_3 (List.mem_of_getElem? (i := 16) (by decide +kernel))) rfl
theorem w3_17 : Cond.fieldLink "Tracewheel$Wheel" 61 "Tracewheel$Wheel" "executedInTraces" "I" ∈ xTs := xin (wm_3 (List.mem_of_getElem? (i := 17) (by decide +kernel))) rfl
theorem w3_18 : Cond.fieldLink "Tracewheel" 380 "Tracewheel$Wheel" "executedInTraces" "I" ∈ xTs := xin (wm_3 (List.mem_of_getElem? (i := 18) (by decide +kernel))) rfl
theorem w3_19 : Cond.fieldLink "Tracewheel$Wheel" 64 "Tracewheel$Wheel" "inTrace" "Z" ∈ xTs := xin (wm_3 (List.mem_of_getElem? (i := 19) (by decide +kernel))) rfl
theorem w3_20 : Cond.fieldLink "Tracewheel" 216 "Tracewheel$Wheel" "inTrace" "Z" ∈ xTs := xin (wm_3 (List.mem_of_getElem? (i := 20) (by decide +kernel))) rfl
theorem w3_21 : Cond.fieldLink "Tracewheel$Wheel" 41 "Tracewheel$Wheel" "current" "LTracewheel$Trace;" ∈ xTs := xin (wm_3 (List.mem_of_getElem? (i := 21) (by decide +kernel))) rfl
theorem w3_22 : Cond.fieldLink "Tracewheel$Wheel" 133 "Tracewheel$Wheel" "currentNumber" "I" ∈ xTs := xin (wm_3 (List.mem_of_getElem? (i := 22) (by decide +kernel))) rfl
theorem w3_23 : Cond.fieldLink "Tracewheel$Wheel" 82 "Tracewheel$Wheel" "step" "I" ∈ xTs := xin (wm_3 (List.mem_of_getElem? (i := 23) (by decide +kernel))) rfl
theorem w3_24 : Cond.fieldLink "Tracewheel$Wheel" 127 "Tracewheel$Wheel" "rootDepth" "I" ∈ xTs := xin (wm_3 (List.mem_of_getElem? (i := 24) (by decide +kernel))) rfl
theorem w3_52 : Cond.fieldLink "Tracewheel" 12 "Tracewheel" "program" "LTracewheel$Program;" ∈ xTs := xin (wm_3 (List.mem_of_getElem? (i := 52) (by decide +kernel))) rfl
theorem w3_53 : Cond.fieldLink "Tracewheel" 19 "Tracewheel" "shapeTable" "LTracewheel$Shapes;" ∈ xTs := xin (wm_3 (List.mem_of_getElem? (i := 53) (by decide +kernel))) rfl
theorem w3_54 : Cond.fieldLink "Tracewheel" 28 "Tracewheel" "live" "LTracewheel$Machine;" ∈ xTs := xin (wm_3 (List.mem_of_getElem? (i := 54) (by decide +kernel))) rfl
theorem w3_55 : Cond.fieldLink "Tracewheel" 32 "Tracewheel" "plain" "LTracewheel$Machine;" ∈ xTs := xin (wm_3 (List.mem_of_getElem? (i := 55) (by decide +kernel))) rfl
theorem w3_56 : Cond.fieldLink "Tracewheel" 40 "Tracewheel" "wheel" "LTracewheel$Wheel;" ∈ xTs := xin (wm_3 (List.mem_of_getElem? (i := 56) (by decide +kernel))) rfl
theorem w3_57 : Cond.fieldLink "Tracewheel" 44 "Tracewheel" "agreement" "Z" ∈ xTs := xin (wm_3 (List.mem_of_getElem? (i := 57) (by decide +kernel))) rfl
theorem w3_71 : Cond.methodLink "TracewheelLaw" 181 ⟨"Tracewheel", "outcome", "()C"⟩ ∈ xTs := xin (wm_3 (List.mem_of_getElem? (i := 71) (by decide +kernel))) rfl
theorem w3_72 : Cond.instanceMethod ⟨"Tracewheel", "outcome", "()C"⟩ ∈ xTs := xin (wm_3 (List.mem_of_getElem? (i := 72) (by decide +kernel))) rfl
theorem w3_73 : Cond.selects "Tracewheel" ⟨"Tracewheel", "outcome", "()C"⟩ ⟨"Tracewheel", "outcome", "()C"⟩ ∈ xTs := xin (wm_3 (List.mem_of_getElem? (i := 73) (by decide +kernel))) rfl
theorem w3_74 : Cond.code ⟨"Tracewheel", "outcome", "()C"⟩ prog_1_method_10_code 1 (some .char) ∈ xTs := xin (wm_3 (List.mem_of_getElem? (i := 74) (by decide +kernel))) rfl
theorem w3_75 : Cond.methodLink "TracewheelLaw" 198 ⟨"Tracewheel", "told", "()I"⟩ ∈ xTs := xin (wm_3 (List.mem_of_getElem? (i := 75) (by decide +kernel))) rfl
theorem w3_76 : Cond.instanceMethod ⟨"Tracewheel", "told", "()I"⟩ ∈ xTs := xin (wm_3 (List.mem_of_getElem? (i := 76) (by decide +kernel))) rfl
theorem w3_77 : Cond.selects "Tracewheel" ⟨"Tracewheel", "told", "()I"⟩ ⟨"Tracewheel", "told", "()I"⟩ ∈ xTs := xin (wm_3 (List.mem_of_getElem? (i := 77) (by decide +kernel))) rfl
theorem w3_78 : Cond.code ⟨"Tracewheel", "told", "()I"⟩ prog_1_method_15_code 1 (some .int) ∈ xTs := xin (wm_3 (List.mem_of_getElem? (i := 78) (by decide +kernel))) rfl
theorem w3_79 : Cond.methodLink "TracewheelLaw" 208 ⟨"Tracewheel", "objects", "()I"⟩ ∈ xTs := xin (wm_3 (List.mem_of_getElem? (i := 79) (by decide +kernel))) rfl
theorem w3_80 : Cond.instanceMethod ⟨"Tracewheel", "objects", "()I"⟩ ∈ xTs := xin (wm_3 (List.mem_of_getElem? (i := 80) (by decide +kernel))) rfl
theorem w3_81 : Cond.selects "Tracewheel" ⟨"Tracewheel", "objects", "()I"⟩ ⟨"Tracewheel", "objects", "()I"⟩ ∈ xTs := xin (wm_3 (List.mem_of_getElem? (i := 81) (by decide +kernel))) rfl
theorem w3_82 : Cond.code ⟨"Tracewheel", "objects", "()I"⟩ prog_1_method_18_code 1 (some .int) ∈ xTs := xin (wm_3 (List.mem_of_getElem? (i := 82) (by decide +kernel))) rfl
theorem w3_83 : Cond.methodLink "TracewheelLaw" 218 ⟨"Tracewheel", "shapes", "()I"⟩ ∈ xTs := xin (wm_3 (List.mem_of_getElem? (i := 83) (by decide +kernel))) rfl
theorem w3_84 : Cond.instanceMethod ⟨"Tracewheel", "shapes", "()I"⟩ ∈ xTs := xin (wm_3 (List.mem_of_getElem? (i := 84) (by decide +kernel))) rfl
theorem w3_85 : Cond.selects "Tracewheel" ⟨"Tracewheel", "shapes", "()I"⟩ ⟨"Tracewheel", "shapes", "()I"⟩ ∈ xTs := xin (wm_3 (List.mem_of_getElem? (i := 85) (by decide +kernel))) rfl
theorem w3_86 : Cond.code ⟨"Tracewheel", "shapes", "()I"⟩ prog_1_method_21_code 1 (some .int) ∈ xTs := xin (wm_3 (List.mem_of_getElem? (i := 86) (by decide +kernel))) rfl
theorem w3_87 : Cond.methodLink "TracewheelLaw" 246 ⟨"Tracewheel", "traces", "()I"⟩ ∈ xTs := xin (wm_3 (List.mem_of_getElem? (i := 87) (by decide +kernel))) rfl
theorem w3_88 : Cond.instanceMethod ⟨"Tracewheel", "traces", "()I"⟩ ∈ xTs := xin (wm_3 (List.mem_of_getElem? (i := 88) (by decide +kernel))) rfl
theorem w3_89 : Cond.selects "Tracewheel" ⟨"Tracewheel", "traces", "()I"⟩ ⟨"Tracewheel", "traces", "()I"⟩ ∈ xTs := xin (wm_3 (List.mem_of_getElem? (i := 89) (by decide +kernel))) rfl
theorem w3_90 : Cond.code ⟨"Tracewheel", "traces", "()I"⟩ prog_1_method_30_code 1 (some .int) ∈ xTs := xin (wm_3 (List.mem_of_getElem? (i := 90) (by decide +kernel))) rfl
theorem w3_91 : Cond.methodLink "TracewheelLaw" 280 ⟨"Tracewheel", "inTraces", "()I"⟩ ∈ xTs := xin (wm_3 (List.mem_of_getElem? (i := 91) (by decide +kernel))) rfl
theorem w3_92 : Cond.instanceMethod ⟨"Tracewheel", "inTraces", "()I"⟩ ∈ xTs := xin (wm_3 (List.mem_of_getElem? (i := 92) (by decide +kernel))) rfl
theorem w3_93 : Cond.selects "Tracewheel" ⟨"Tracewheel", "inTraces", "()I"⟩ ⟨"Tracewheel", "inTraces", "()I"⟩ ∈ xTs := xin (wm_3 (List.mem_of_getElem? (i := 93) (by decide +kernel))) rfl
theorem w3_94 : Cond.code ⟨"Tracewheel", "inTraces", "()I"⟩ prog_1_method_41_code 1 (some .int) ∈ xTs := xin (wm_3 (List.mem_of_getElem? (i := 94) (by decide +kernel))) rfl
theorem w3_95 : Cond.methodLink "TracewheelLaw" 284 ⟨"Tracewheel", "codeSize", "()I"⟩ ∈ xTs := xin (wm_3 (List.mem_of_getElem? (i := 95) (by decide +kernel))) rfl
theorem w3_96 : Cond.instanceMethod ⟨"Tracewheel", "codeSize", "()I"⟩ ∈ xTs := xin (wm_3 (List.mem_of_getElem? (i := 96) (by decide +kernel))) rfl
theorem w3_97 : Cond.selects "Tracewheel" ⟨"Tracewheel", "codeSize", "()I"⟩ ⟨"Tracewheel", "codeSize", "()I"⟩ ∈ xTs := xin (wm_3 (List.mem_of_getElem? (i := 97) (by decide +kernel))) rfl
theorem w3_98 : Cond.code ⟨"Tracewheel", "codeSize", "()I"⟩ prog_1_method_42_code 1 (some .int) ∈ xTs := xin (wm_3 (List.mem_of_getElem? (i := 98) (by decide +kernel))) rfl
theorem w3_99 : Cond.methodLink "Tracewheel" 383 ⟨"Tracewheel$Forest", "size", "()I"⟩ ∈ xTs := xin (wm_3 (List.mem_of_getElem? (i := 99) (by decide +kernel))) rfl
theorem w3_100 : Cond.instanceMethod ⟨"Tracewheel$Forest", "size", "()I"⟩ ∈ xTs := xin (wm_3 (List.mem_of_getElem? (i := 100) (by decide +kernel))) rfl
theorem w3_101 : Cond.selects "Tracewheel$Forest" ⟨"Tracewheel$Forest", "size", "()I"⟩ ⟨"Tracewheel$Forest", "size", "()I"⟩ ∈ xTs := xin (wm_3 (List.mem_of_getElem? (i := 101) (by decide +kernel))) rfl
theorem w3_102 : Cond.code ⟨"Tracewheel$Forest", "size", "()I"⟩ prog_3_method_3_code 3 (some .int) ∈ xTs := xin (wm_3 (List.mem_of_getElem? (i := 102) (by decide +kernel))) rfl
theorem w3_103 : Cond.methodLink "TracewheelLaw" 288 ⟨"Tracewheel", "agrees", "()Z"⟩ ∈ xTs := xin (wm_3 (List.mem_of_getElem? (i := 103) (by decide +kernel))) rfl
theorem w3_104 : Cond.instanceMethod ⟨"Tracewheel", "agrees", "()Z"⟩ ∈ xTs := xin (wm_3 (List.mem_of_getElem? (i := 104) (by decide +kernel))) rfl
theorem w3_105 : Cond.selects "Tracewheel" ⟨"Tracewheel", "agrees", "()Z"⟩ ⟨"Tracewheel", "agrees", "()Z"⟩ ∈ xTs := xin (wm_3 (List.mem_of_getElem? (i := 105) (by decide +kernel))) rfl
theorem w3_106 : Cond.code ⟨"Tracewheel", "agrees", "()Z"⟩ prog_1_method_43_code 1 (some .boolean) ∈ xTs := xin (wm_3 (List.mem_of_getElem? (i := 106) (by decide +kernel))) rfl
theorem w3_107 : Cond.methodLink "TracewheelLaw" 300 ⟨"Tracewheel", "isSound", "()Z"⟩ ∈ xTs := xin (wm_3 (List.mem_of_getElem? (i := 107) (by decide +kernel))) rfl
theorem w3_108 : Cond.instanceMethod ⟨"Tracewheel", "isSound", "()Z"⟩ ∈ xTs := xin (wm_3 (List.mem_of_getElem? (i := 108) (by decide +kernel))) rfl
theorem w3_109 : Cond.selects "Tracewheel" ⟨"Tracewheel", "isSound", "()Z"⟩ ⟨"Tracewheel", "isSound", "()Z"⟩ ∈ xTs := xin (wm_3 (List.mem_of_getElem? (i := 109) (by decide +kernel))) rfl
theorem w3_110 : Cond.code ⟨"Tracewheel", "isSound", "()Z"⟩ prog_1_method_46_code 1 (some .boolean) ∈ xTs := xin (wm_3 (List.mem_of_getElem? (i := 110) (by decide +kernel))) rfl
theorem w3_111 : Cond.methodLink "Tracewheel" 399 ⟨"Tracewheel$Forest", "hasRoots", "()Z"⟩ ∈ xTs := xin (wm_3 (List.mem_of_getElem? (i := 111) (by decide +kernel))) rfl
theorem w3_112 : Cond.instanceMethod ⟨"Tracewheel$Forest", "hasRoots", "()Z"⟩ ∈ xTs := xin (wm_3 (List.mem_of_getElem? (i := 112) (by decide +kernel))) rfl
theorem w3_113 : Cond.selects "Tracewheel$Forest" ⟨"Tracewheel$Forest", "hasRoots", "()Z"⟩ ⟨"Tracewheel$Forest", "hasRoots", "()Z"⟩ ∈ xTs := xin (wm_3 (List.mem_of_getElem? (i := 113) (by decide +kernel))) rfl
theorem w3_114 : Cond.code ⟨"Tracewheel$Forest", "hasRoots", "()Z"⟩ prog_3_method_6_code 3 (some .boolean) ∈ xTs := xin (wm_3 (List.mem_of_getElem? (i := 114) (by decide +kernel))) rfl
theorem w3_115 : Cond.methodLink "Tracewheel" 402 ⟨"Tracewheel$Caches", "areSmall", "()Z"⟩ ∈ xTs := xin (wm_3 (List.mem_of_getElem? (i := 115) (by decide +kernel))) rfl
theorem w3_116 : Cond.instanceMethod ⟨"Tracewheel$Caches", "areSmall", "()Z"⟩ ∈ xTs := xin (wm_3 (List.mem_of_getElem? (i := 116) (by decide +kernel))) rfl
theorem w3_117 : Cond.selects "Tracewheel$Caches" ⟨"Tracewheel$Caches", "areSmall", "()Z"⟩ ⟨"Tracewheel$Caches", "areSmall", "()Z"⟩ ∈ xTs := xin (wm_3 (List.mem_of_getElem? (i := 117) (by decide +kernel))) rfl
theorem w3_118 : Cond.code ⟨"Tracewheel$Caches", "areSmall", "()Z"⟩ prog_2_method_6_code 3 (some .boolean) ∈ xTs := xin (wm_3 (List.mem_of_getElem? (i := 118) (by decide +kernel))) rfl
theorem w3_119 : Cond.methodLink "TracewheelLaw" 148 ⟨"TracewheelLaw", "addFunction", "(LTracewheel;I[J)I"⟩ ∈ xTs := xin (wm_3 (List.mem_of_getElem? (i := 119) (by decide +kernel))) rfl
theorem w3_120 : Cond.static ⟨"TracewheelLaw", "addFunction", "(LTracewheel;I[J)I"⟩ ∈ xTs := xin (wm_3 (List.mem_of_getElem? (i := 120) (by decide +kernel))) rfl
theorem w3_121 : Cond.codeWith ⟨"TracewheelLaw", "addFunction", "(LTracewheel;I[J)I"⟩ method_3_code 4 (some .int) [(0, 9, 12, 13), (0, 9, 15, 15)] ∈ xTs := xin (wm_3 (List.mem_of_getElem? (i := 121) (by decide +kernel))) rfl
theorem w3_122 : Cond.classLink "TracewheelLaw" 13 "java/lang/IllegalArgumentException" ∈ xTs := xin (wm_3 (List.mem_of_getElem? (i := 122) (by decide +kernel))) rfl
theorem w3_123 : Cond.classLink "TracewheelLaw" 15 "java/lang/IllegalStateException" ∈ xTs := xin (wm_3 (List.mem_of_getElem? (i := 123) (by decide +kernel))) rfl
theorem w3_124 : Cond.methodLink "TracewheelLaw" 7 ⟨"Tracewheel", "addFunction", "(I)I"⟩ ∈ xTs := xin (wm_3 (List.mem_of_getElem? (i := 124) (by decide +kernel))) rfl
theorem w3_125 : Cond.instanceMethod ⟨"Tracewheel", "addFunction", "(I)I"⟩ ∈ xTs := xin (wm_3 (List.mem_of_getElem? (i := 125) (by decide +kernel))) rfl
theorem w3_126 : Cond.selects "Tracewheel" ⟨"Tracewheel", "addFunction", "(I)I"⟩ ⟨"Tracewheel", "addFunction", "(I)I"⟩ ∈ xTs := xin (wm_3 (List.mem_of_getElem? (i := 126) (by decide +kernel))) rfl
theorem w3_127 : Cond.code ⟨"Tracewheel", "addFunction", "(I)I"⟩ prog_1_method_2_code 2 (some .int) ∈ xTs := xin (wm_3 (List.mem_of_getElem? (i := 127) (by decide +kernel))) rfl
theorem w3_128 : Cond.classLink "Tracewheel" 48 "java/lang/IllegalArgumentException" ∈ xTs := xin (wm_3 (List.mem_of_getElem? (i := 128) (by decide +kernel))) rfl
theorem w3_129 : Cond.instantiable "java/lang/IllegalArgumentException" 6 ∈ xTs := xin (wm_3 (List.mem_of_getElem? (i := 129) (by decide +kernel))) rfl
theorem w3_137 : Cond.selects "java/lang/IllegalArgumentException" ⟨"java/lang/Throwable", "fillInStackTrace", "(I)Ljava/lang/Throwable;"⟩ ⟨"java/lang/Throwable", "fillInStackTrace", "(I)Ljava/lang/Throwable;"⟩ ∈ xTs := xin (wm_3 (List.mem_of_getElem? (i := 137) (by decide +kernel))) rfl
theorem w3_138 : Cond.selects "java/lang/IllegalArgumentException" ⟨"java/lang/Throwable", "fillInStackTrace", "()Ljava/lang/Throwable;"⟩ ⟨"java/lang/Throwable", "fillInStackTrace", "()Ljava/lang/Throwable;"⟩ ∈ xTs := xin (wm_3 (List.mem_of_getElem? (i := 138) (by decide +kernel))) rfl
theorem w3_149 : Cond.fieldLink "java/lang/Throwable" 198 "java/lang/Throwable" "backtrace" "Ljava/lang/Object;" ∈ xTs := xin (wm_3 (List.mem_of_getElem? (i := 149) (by decide +kernel))) rfl
theorem w3_151 : Cond.instanceMethod ⟨"java/lang/Throwable", "<init>", "()V"⟩ ∈ xTs := xin (wm_3 (List.mem_of_getElem? (i := 151) (by decide +kernel))) rfl
theorem w3_152 : Cond.code ⟨"java/lang/Throwable", "<init>", "()V"⟩ prog_35_method_1_code 1 none ∈ xTs := xin (wm_3 (List.mem_of_getElem? (i := 152) (by decide +kernel))) rfl
theorem w3_153 : Cond.methodLink "java/lang/Throwable" 1 ⟨"java/lang/Object", "<init>", "()V"⟩ ∈ xTs := xin (wm_3 (List.mem_of_getElem? (i := 153) (by decide +kernel))) rfl
theorem w3_154 : Cond.fieldLink "java/lang/Throwable" 13 "java/lang/Throwable" "UNASSIGNED_STACK" "[Ljava/lang/StackTraceElement;" ∈ xTs := xin (wm_3 (List.mem_of_getElem? (i := 154) (by decide +kernel))) rfl
theorem w3_156 : Cond.fieldLink "java/lang/Throwable" 20 "java/lang/Throwable" "SUPPRESSED_SENTINEL" "Ljava/util/List;" ∈ xTs := xin (wm_3 (List.mem_of_getElem? (i := 156) (by decide +kernel))) rfl
theorem w3_158 : Cond.methodLink "java/lang/Throwable" 27 ⟨"java/lang/Throwable", "fillInStackTrace", "()Ljava/lang/Throwable;"⟩ ∈ xTs := xin (wm_3 (List.mem_of_getElem? (i := 158) (by decide +kernel))) rfl
theorem w3_159 : Cond.instanceMethod ⟨"java/lang/Throwable", "fillInStackTrace", "()Ljava/lang/Throwable;"⟩ ∈ xTs := xin (wm_3 (List.mem_of_getElem? (i := 159) (by decide +kernel))) rfl
theorem w3_160 : Cond.sameMethod "java/lang/Throwable" "java/lang/Throwable" "fillInStackTrace" "()Ljava/lang/Throwable;" ∈ xTs := xin (wm_3 (List.mem_of_getElem? (i := 160) (by decide +kernel))) rfl
theorem w3_161 : Cond.selects "java/lang/ArithmeticException" ⟨"java/lang/Throwable", "fillInStackTrace", "()Ljava/lang/Throwable;"⟩ ⟨"java/lang/Throwable", "fillInStackTrace", "()Ljava/lang/Throwable;"⟩ ∈ xTs := xin (wm_3 (List.mem_of_getElem? (i := 161) (by decide +kernel))) rfl
theorem w3_162 : Cond.selects "java/lang/ArrayIndexOutOfBoundsException" ⟨"java/lang/Throwable", "fillInStackTrace", "()Ljava/lang/Throwable;"⟩ ⟨"java/lang/Throwable", "fillInStackTrace", "()Ljava/lang/Throwable;"⟩ ∈ xTs := xin (wm_3 (List.mem_of_getElem? (i := 162) (by decide +kernel))) rfl
theorem w3_163 : Cond.selects "java/lang/IllegalStateException" ⟨"java/lang/Throwable", "fillInStackTrace", "()Ljava/lang/Throwable;"⟩ ⟨"java/lang/Throwable", "fillInStackTrace", "()Ljava/lang/Throwable;"⟩ ∈ xTs := xin (wm_3 (List.mem_of_getElem? (i := 163) (by decide +kernel))) rfl
theorem w3_164 : Cond.selects "java/lang/IndexOutOfBoundsException" ⟨"java/lang/Throwable", "fillInStackTrace", "()Ljava/lang/Throwable;"⟩ ⟨"java/lang/Throwable", "fillInStackTrace", "()Ljava/lang/Throwable;"⟩ ∈ xTs := xin (wm_3 (List.mem_of_getElem? (i := 164) (by decide +kernel))) rfl
theorem w3_165 : Cond.selects "java/lang/UnsupportedOperationException" ⟨"java/lang/Throwable", "fillInStackTrace", "()Ljava/lang/Throwable;"⟩ ⟨"java/lang/Throwable", "fillInStackTrace", "()Ljava/lang/Throwable;"⟩ ∈ xTs := xin (wm_3 (List.mem_of_getElem? (i := 165) (by decide +kernel))) rfl
theorem w3_166 : Cond.selects "java/util/NoSuchElementException" ⟨"java/lang/Throwable", "fillInStackTrace", "()Ljava/lang/Throwable;"⟩ ⟨"java/lang/Throwable", "fillInStackTrace", "()Ljava/lang/Throwable;"⟩ ∈ xTs := xin (wm_3 (List.mem_of_getElem? (i := 166) (by decide +kernel))) rfl
theorem w3_168 : Cond.methodLink "java/lang/Throwable" 202 ⟨"java/lang/Throwable", "fillInStackTrace", "(I)Ljava/lang/Throwable;"⟩ ∈ xTs := xin (wm_3 (List.mem_of_getElem? (i := 168) (by decide +kernel))) rfl
theorem w3_170 : Cond.instanceMethod ⟨"java/lang/Throwable", "fillInStackTrace", "(I)Ljava/lang/Throwable;"⟩ ∈ xTs := xin (wm_3 (List.mem_of_getElem? (i := 170) (by decide +kernel))) rfl
theorem w3_171 : Cond.instantiable "java/lang/Throwable" 6 ∈ xTs := xin (wm_3 (List.mem_of_getElem? (i := 171) (by decide +kernel))) rfl
theorem w3_172 : Cond.native ⟨"java/lang/Throwable", "fillInStackTrace", "(I)Ljava/lang/Throwable;"⟩ ∈ xTs := xin (wm_3 (List.mem_of_getElem? (i := 172) (by decide +kernel))) rfl
theorem w3_174 : Cond.methodLink "Tracewheel" 52 ⟨"java/lang/IllegalArgumentException", "<init>", "(Ljava/lang/String;)V"⟩ ∈ xTs := xin (wm_3 (List.mem_of_getElem? (i := 174) (by decide +kernel))) rfl
theorem w3_175 : Cond.instanceMethod ⟨"java/lang/IllegalArgumentException", "<init>", "(Ljava/lang/String;)V"⟩ ∈ xTs := xin (wm_3 (List.mem_of_getElem? (i := 175) (by decide +kernel))) rfl
theorem w3_176 : Cond.code ⟨"java/lang/IllegalArgumentException", "<init>", "(Ljava/lang/String;)V"⟩ prog_24_method_2_code 2 none ∈ xTs := xin (wm_3 (List.mem_of_getElem? (i := 176) (by decide +kernel))) rfl
theorem w3_177 : Cond.methodLink "java/lang/IllegalArgumentException" 7 ⟨"java/lang/RuntimeException", "<init>", "(Ljava/lang/String;)V"⟩ ∈ xTs := xin (wm_3 (List.mem_of_getElem? (i := 177) (by decide +kernel))) rfl
theorem w3_178 : Cond.instanceMethod ⟨"java/lang/RuntimeException", "<init>", "(Ljava/lang/String;)V"⟩ ∈ xTs := xin (wm_3 (List.mem_of_getElem? (i := 178) (by decide +kernel))) rfl
theorem w3_179 : Cond.code ⟨"java/lang/RuntimeException", "<init>", "(Ljava/lang/String;)V"⟩ prog_29_method_2_code 2 none ∈ xTs := xin (wm_3 (List.mem_of_getElem? (i := 179) (by decide +kernel))) rfl
theorem w3_180 : Cond.methodLink "java/lang/RuntimeException" 7 ⟨"java/lang/Exception", "<init>", "(Ljava/lang/String;)V"⟩ ∈ xTs := xin (wm_3 (List.mem_of_getElem? (i := 180) (by decide +kernel))) rfl
theorem w3_181 : Cond.instanceMethod ⟨"java/lang/Exception", "<init>", "(Ljava/lang/String;)V"⟩ ∈ xTs := xin (wm_3 (List.mem_of_getElem? (i := 181) (by decide +kernel))) rfl
theorem w3_182 : Cond.code ⟨"java/lang/Exception", "<init>", "(Ljava/lang/String;)V"⟩ prog_23_method_2_code 2 none ∈ xTs := xin (wm_3 (List.mem_of_getElem? (i := 182) (by decide +kernel))) rfl
theorem w3_183 : Cond.methodLink "java/lang/Exception" 7 ⟨"java/lang/Throwable", "<init>", "(Ljava/lang/String;)V"⟩ ∈ xTs := xin (wm_3 (List.mem_of_getElem? (i := 183) (by decide +kernel))) rfl
theorem w3_184 : Cond.instanceMethod ⟨"java/lang/Throwable", "<init>", "(Ljava/lang/String;)V"⟩ ∈ xTs := xin (wm_3 (List.mem_of_getElem? (i := 184) (by decide +kernel))) rfl
theorem w3_185 : Cond.code ⟨"java/lang/Throwable", "<init>", "(Ljava/lang/String;)V"⟩ prog_35_method_2_code 2 none ∈ xTs := xin (wm_3 (List.mem_of_getElem? (i := 185) (by decide +kernel))) rfl
theorem w3_187 : Cond.fieldLink "java/lang/Throwable" 31 "java/lang/Throwable" "detailMessage" "Ljava/lang/String;" ∈ xTs := xin (wm_3 (List.mem_of_getElem? (i := 187) (by decide +kernel))) rfl
theorem w3_188 : Cond.fieldLink "java/lang/Throwable" 7 "java/lang/Throwable" "cause" "Ljava/lang/Throwable;" ∈ xTs := xin (wm_3 (List.mem_of_getElem? (i := 188) (by decide +kernel))) rfl
theorem w3_189 : Cond.fieldLink "java/lang/Throwable" 17 "java/lang/Throwable" "stackTrace" "[Ljava/lang/StackTraceElement;" ∈ xTs := xin (wm_3 (List.mem_of_getElem? (i := 189) (by decide +kernel))) rfl
theorem w3_190 : Cond.fieldLink "java/lang/Throwable" 24 "java/lang/Throwable" "suppressedExceptions" "Ljava/util/List;" ∈ xTs := xin (wm_3 (List.mem_of_getElem? (i := 190) (by decide +kernel))) rfl
theorem w3_199 : Cond.arrayClass FieldType.byte ∈ xTs := xin (wm_3 (List.mem_of_getElem? (i := 199) (by decide +kernel))) rfl
theorem w3_200 : Cond.classLink "Tracewheel" 59 "java/lang/IllegalStateException" ∈ xTs := xin (wm_3 (List.mem_of_getElem? (i := 200) (by decide +kernel))) rfl
theorem w3_201 : Cond.instantiable "java/lang/IllegalStateException" 6 ∈ xTs := xin (wm_3 (List.mem_of_getElem? (i := 201) (by decide +kernel))) rfl
theorem w3_203 : Cond.selects "java/lang/IllegalStateException" ⟨"java/lang/Throwable", "fillInStackTrace", "(I)Ljava/lang/Throwable;"⟩ ⟨"java/lang/Throwable", "fillInStackTrace", "(I)Ljava/lang/Throwable;"⟩ ∈ xTs := xin (wm_3 (List.mem_of_getElem? (i := 203) (by decide +kernel))) rfl
theorem w3_210 : Cond.methodLink "Tracewheel" 63 ⟨"java/lang/IllegalStateException", "<init>", "(Ljava/lang/String;)V"⟩ ∈ xTs := xin (wm_3 (List.mem_of_getElem? (i := 210) (by decide +kernel))) rfl
theorem w3_211 : Cond.instanceMethod ⟨"java/lang/IllegalStateException", "<init>", "(Ljava/lang/String;)V"⟩ ∈ xTs := xin (wm_3 (List.mem_of_getElem? (i := 211) (by decide +kernel))) rfl
theorem w3_212 : Cond.code ⟨"java/lang/IllegalStateException", "<init>", "(Ljava/lang/String;)V"⟩ prog_25_method_2_code 2 none ∈ xTs := xin (wm_3 (List.mem_of_getElem? (i := 212) (by decide +kernel))) rfl
theorem w3_213 : Cond.methodLink "java/lang/IllegalStateException" 7 ⟨"java/lang/RuntimeException", "<init>", "(Ljava/lang/String;)V"⟩ ∈ xTs := xin (wm_3 (List.mem_of_getElem? (i := 213) (by decide +kernel))) rfl
theorem w3_216 : Cond.methodLink "Tracewheel" 64 ⟨"Tracewheel$Program", "addFunctionWith", "(I)I"⟩ ∈ xTs := xin (wm_3 (List.mem_of_getElem? (i := 216) (by decide +kernel))) rfl
theorem w3_217 : Cond.instanceMethod ⟨"Tracewheel$Program", "addFunctionWith", "(I)I"⟩ ∈ xTs := xin (wm_3 (List.mem_of_getElem? (i := 217) (by decide +kernel))) rfl
theorem w3_218 : Cond.selects "Tracewheel$Program" ⟨"Tracewheel$Program", "addFunctionWith", "(I)I"⟩ ⟨"Tracewheel$Program", "addFunctionWith", "(I)I"⟩ ∈ xTs := xin (wm_3 (List.mem_of_getElem? (i := 218) (by decide +kernel))) rfl
theorem w3_219 : Cond.code ⟨"Tracewheel$Program", "addFunctionWith", "(I)I"⟩ prog_7_method_5_code 2 (some .int) ∈ xTs := xin (wm_3 (List.mem_of_getElem? (i := 219) (by decide +kernel))) rfl
theorem w3_220 : Cond.methodLink "TracewheelLaw" 157 ⟨"TracewheelLaw", "code", "(LTracewheel;ICI[J)I"⟩ ∈ xTs := xin (wm_3 (List.mem_of_getElem? (i := 220) (by decide +kernel))) rfl
theorem w3_221 : Cond.static ⟨"TracewheelLaw", "code", "(LTracewheel;ICI[J)I"⟩ ∈ xTs := xin (wm_3 (List.mem_of_getElem? (i := 221) (by decide +kernel))) rfl
theorem w3_222 : Cond.codeWith ⟨"TracewheelLaw", "code", "(LTracewheel;ICI[J)I"⟩ method_4_code 6 (some .int) [(0, 12, 15, 21), (0, 12, 19, 13), (0, 12, 23, 15)] ∈ xTs := xin (wm_3 (List.mem_of_getElem? (i := 222) (by decide +kernel))) rfl
theorem w3_223 : Cond.classLink "TracewheelLaw" 21 "java/lang/IndexOutOfBoundsException" ∈ xTs := xin (wm_3 (List.mem_of_getElem? (i := 223) (by decide +kernel))) rfl
theorem w3_224 : Cond.instantiable "java/lang/ArrayIndexOutOfBoundsException" 6 ∈ xTs := xin (wm_3 (List.mem_of_getElem? (i := 224) (by decide +kernel))) rfl
theorem w3_225 : Cond.instanceMethod ⟨"java/lang/ArrayIndexOutOfBoundsException", "<init>", "(Ljava/lang/String;)V"⟩ ∈ xTs := xin (wm_3 (List.mem_of_getElem? (i := 225) (by decide +kernel))) rfl
theorem w3_226 : Cond.code ⟨"java/lang/ArrayIndexOutOfBoundsException", "<init>", "(Ljava/lang/String;)V"⟩ prog_17_method_2_code 2 none ∈ xTs := xin (wm_3 (List.mem_of_getElem? (i := 226) (by decide +kernel))) rfl
theorem w3_227 : Cond.methodLink "java/lang/ArrayIndexOutOfBoundsException" 7 ⟨"java/lang/IndexOutOfBoundsException", "<init>", "(Ljava/lang/String;)V"⟩ ∈ xTs := xin (wm_3 (List.mem_of_getElem? (i := 227) (by decide +kernel))) rfl
theorem w3_228 : Cond.instanceMethod ⟨"java/lang/IndexOutOfBoundsException", "<init>", "(Ljava/lang/String;)V"⟩ ∈ xTs := xin (wm_3 (List.mem_of_getElem? (i := 228) (by decide +kernel))) rfl
theorem w3_229 : Cond.code ⟨"java/lang/IndexOutOfBoundsException", "<init>", "(Ljava/lang/String;)V"⟩ prog_26_method_2_code 2 none ∈ xTs := xin (wm_3 (List.mem_of_getElem? (i := 229) (by decide +kernel))) rfl
theorem w3_230 : Cond.methodLink "java/lang/IndexOutOfBoundsException" 7 ⟨"java/lang/RuntimeException", "<init>", "(Ljava/lang/String;)V"⟩ ∈ xTs := xin (wm_3 (List.mem_of_getElem? (i := 230) (by decide +kernel))) rfl
theorem w4_1 : Cond.selects "java/lang/ArrayIndexOutOfBoundsException" ⟨"java/lang/Throwable", "fillInStackTrace", "(I)Ljava/lang/Throwable;"⟩ ⟨"java/lang/Throwable", "fillInStackTrace", "(I)Ljava/lang/Throwable;"⟩ ∈ xTs := xin (wm_4 (List.mem_of_getElem? (i := 1) (by decide +kernel))) rfl
theorem w4_2 : Cond.instantiable "java/lang/String" 4 ∈ xTs := xin (wm_4 (List.mem_of_getElem? (i := 2) (by decide +kernel))) rfl
theorem w4_7 : Cond.methodLink "TracewheelLaw" 17 ⟨"Tracewheel", "code", "(ICI)I"⟩ ∈ xTs := xin (wm_4 (List.mem_of_getElem? (i := 7) (by decide +kernel))) rfl
theorem w4_8 : Cond.instanceMethod ⟨"Tracewheel", "code", "(ICI)I"⟩ ∈ xTs := xin (wm_4 (List.mem_of_getElem? (i := 8) (by decide +kernel))) rfl
theorem w4_9 : Cond.selects "Tracewheel" ⟨"Tracewheel", "code", "(ICI)I"⟩ ⟨"Tracewheel", "code", "(ICI)I"⟩ ∈ xTs := xin (wm_4 (List.mem_of_getElem? (i := 9) (by decide +kernel))) rfl
theorem w4_10 : Cond.code ⟨"Tracewheel", "code", "(ICI)I"⟩ prog_1_method_3_code 4 (some .int) ∈ xTs := xin (wm_4 (List.mem_of_getElem? (i := 10) (by decide +kernel))) rfl
theorem w4_11 : Cond.methodLink "Tracewheel" 68 ⟨"Tracewheel", "needFunction", "(I)V"⟩ ∈ xTs := xin (wm_4 (List.mem_of_getElem? (i := 11) (by decide +kernel))) rfl
theorem w4_13 : Cond.instanceMethod ⟨"Tracewheel", "needFunction", "(I)V"⟩ ∈ xTs := xin (wm_4 (List.mem_of_getElem? (i := 13) (by decide +kernel))) rfl
theorem w4_14 : Cond.code ⟨"Tracewheel", "needFunction", "(I)V"⟩ prog_1_method_47_code 2 none ∈ xTs := xin (wm_4 (List.mem_of_getElem? (i := 14) (by decide +kernel))) rfl
theorem w4_15 : Cond.methodLink "Tracewheel" 141 ⟨"Tracewheel$Program", "hasFunction", "(I)Z"⟩ ∈ xTs := xin (wm_4 (List.mem_of_getElem? (i := 15) (by decide +kernel))) rfl
theorem w4_16 : Cond.instanceMethod ⟨"Tracewheel$Program", "hasFunction", "(I)Z"⟩ ∈ xTs := xin (wm_4 (List.mem_of_getElem? (i := 16) (by decide +kernel))) rfl
theorem w4_17 : Cond.selects "Tracewheel$Program" ⟨"Tracewheel$Program", "hasFunction", "(I)Z"⟩ ⟨"Tracewheel$Program", "hasFunction", "(I)Z"⟩ ∈ xTs := xin (wm_4 (List.mem_of_getElem? (i := 17) (by decide +kernel))) rfl
theorem w4_18 : Cond.code ⟨"Tracewheel$Program", "hasFunction", "(I)Z"⟩ prog_7_method_2_code 2 (some .boolean) ∈ xTs := xin (wm_4 (List.mem_of_getElem? (i := 18) (by decide +kernel))) rfl
theorem w4_19 : Cond.classLink "Tracewheel" 107 "java/lang/IndexOutOfBoundsException" ∈ xTs := xin (wm_4 (List.mem_of_getElem? (i := 19) (by decide +kernel))) rfl
theorem w4_20 : Cond.instantiable "java/lang/IndexOutOfBoundsException" 6 ∈ xTs := xin (wm_4 (List.mem_of_getElem? (i := 20) (by decide +kernel))) rfl
theorem w4_22 : Cond.selects "java/lang/IndexOutOfBoundsException" ⟨"java/lang/Throwable", "fillInStackTrace", "(I)Ljava/lang/Throwable;"⟩ ⟨"java/lang/Throwable", "fillInStackTrace", "(I)Ljava/lang/Throwable;"⟩ ∈ xTs := xin (wm_4 (List.mem_of_getElem? (i := 22) (by decide +kernel))) rfl
theorem w4_29 : Cond.methodLink "Tracewheel" 111 ⟨"java/lang/IndexOutOfBoundsException", "<init>", "(Ljava/lang/String;)V"⟩ ∈ xTs := xin (wm_4 (List.mem_of_getElem? (i := 29) (by decide +kernel))) rfl
theorem w4_33 : Cond.methodLink "Tracewheel" 74 ⟨"java/lang/String", "indexOf", "(I)I"⟩ ∈ xTs := xin (wm_4 (List.mem_of_getElem? (i := 33) (by decide +kernel))) rfl
theorem w4_34 : Cond.instanceMethod ⟨"java/lang/String", "indexOf", "(I)I"⟩ ∈ xTs := xin (wm_4 (List.mem_of_getElem? (i := 34) (by decide +kernel))) rfl
theorem w4_35 : Cond.selects "java/lang/String" ⟨"java/lang/String", "indexOf", "(I)I"⟩ ⟨"java/lang/String", "indexOf", "(I)I"⟩ ∈ xTs := xin (wm_4 (List.mem_of_getElem? (i := 35) (by decide +kernel))) rfl
theorem w4_36 : Cond.code ⟨"java/lang/String", "indexOf", "(I)I"⟩ prog_31_method_79_code 2 (some .int) ∈ xTs := xin (wm_4 (List.mem_of_getElem? (i := 36) (by decide +kernel))) rfl
theorem w4_37 : Cond.methodLink "java/lang/String" 633 ⟨"java/lang/String", "indexOf", "(II)I"⟩ ∈ xTs := xin (wm_4 (List.mem_of_getElem? (i := 37) (by decide +kernel))) rfl
theorem w4_38 : Cond.instanceMethod ⟨"java/lang/String", "indexOf", "(II)I"⟩ ∈ xTs := xin (wm_4 (List.mem_of_getElem? (i := 38) (by decide +kernel))) rfl
theorem w4_39 : Cond.selects "java/lang/String" ⟨"java/lang/String", "indexOf", "(II)I"⟩ ⟨"java/lang/String", "indexOf", "(II)I"⟩ ∈ xTs := xin (wm_4 (List.mem_of_getElem? (i := 39) (by decide +kernel))) rfl
theorem w4_40 : Cond.code ⟨"java/lang/String", "indexOf", "(II)I"⟩ prog_31_method_80_code 3 (some .int) ∈ xTs := xin (wm_4 (List.mem_of_getElem? (i := 40) (by decide +kernel))) rfl
theorem w4_41 : Cond.methodLink "java/lang/String" 492 ⟨"java/lang/String", "isLatin1", "()Z"⟩ ∈ xTs := xin (wm_4 (List.mem_of_getElem? (i := 41) (by decide +kernel))) rfl
theorem w4_42 : Cond.instanceMethod ⟨"java/lang/String", "isLatin1", "()Z"⟩ ∈ xTs := xin (wm_4 (List.mem_of_getElem? (i := 42) (by decide +kernel))) rfl
theorem w4_43 : Cond.selects "java/lang/String" ⟨"java/lang/String", "isLatin1", "()Z"⟩ ⟨"java/lang/String", "isLatin1", "()Z"⟩ ∈ xTs := xin (wm_4 (List.mem_of_getElem? (i := 43) (by decide +kernel))) rfl
theorem w4_44 : Cond.code ⟨"java/lang/String", "isLatin1", "()Z"⟩ prog_31_method_154_code 1 (some .boolean) ∈ xTs := xin (wm_4 (List.mem_of_getElem? (i := 44) (by decide +kernel))) rfl
theorem w4_45 : Cond.fieldLink "java/lang/String" 38 "java/lang/String" "COMPACT_STRINGS" "Z" ∈ xTs := xin (wm_4 (List.mem_of_getElem? (i := 45) (by decide +kernel))) rfl
theorem w4_47 : Cond.methodLink "java/lang/String" 505 ⟨"java/lang/String", "length", "()I"⟩ ∈ xTs := xin (wm_4 (List.mem_of_getElem? (i := 47) (by decide +kernel))) rfl
theorem w4_48 : Cond.instanceMethod ⟨"java/lang/String", "length", "()I"⟩ ∈ xTs := xin (wm_4 (List.mem_of_getElem? (i := 48) (by decide +kernel))) rfl
theorem w4_49 : Cond.selects "java/lang/String" ⟨"java/lang/String", "length", "()I"⟩ ⟨"java/lang/String", "length", "()I"⟩ ∈ xTs := xin (wm_4 (List.mem_of_getElem? (i := 49) (by decide +kernel))) rfl
theorem w4_50 : Cond.code ⟨"java/lang/String", "length", "()I"⟩ prog_31_method_54_code 1 (some .int) ∈ xTs := xin (wm_4 (List.mem_of_getElem? (i := 50) (by decide +kernel))) rfl
theorem w4_51 : Cond.methodLink "java/lang/String" 335 ⟨"java/lang/String", "coder", "()B"⟩ ∈ xTs := xin (wm_4 (List.mem_of_getElem? (i := 51) (by decide +kernel))) rfl
theorem w4_52 : Cond.instanceMethod ⟨"java/lang/String", "coder", "()B"⟩ ∈ xTs := xin (wm_4 (List.mem_of_getElem? (i := 52) (by decide +kernel))) rfl
theorem w4_53 : Cond.selects "java/lang/String" ⟨"java/lang/String", "coder", "()B"⟩ ⟨"java/lang/String", "coder", "()B"⟩ ∈ xTs := xin (wm_4 (List.mem_of_getElem? (i := 53) (by decide +kernel))) rfl
theorem w4_54 : Cond.code ⟨"java/lang/String", "coder", "()B"⟩ prog_31_method_152_code 1 (some .byte) ∈ xTs := xin (wm_4 (List.mem_of_getElem? (i := 54) (by decide +kernel))) rfl
theorem w4_55 : Cond.methodLink "java/lang/String" 637 ⟨"java/lang/StringLatin1", "indexOf", "([BIII)I"⟩ ∈ xTs := xin (wm_4 (List.mem_of_getElem? (i := 55) (by decide +kernel))) rfl
theorem w4_56 : Cond.static ⟨"java/lang/StringLatin1", "indexOf", "([BIII)I"⟩ ∈ xTs := xin (wm_4 (List.mem_of_getElem? (i := 56) (by decide +kernel))) rfl
theorem w4_57 : Cond.code ⟨"java/lang/StringLatin1", "indexOf", "([BIII)I"⟩ prog_32_method_22_code 4 (some .int) ∈ xTs := xin (wm_4 (List.mem_of_getElem? (i := 57) (by decide +kernel))) rfl
theorem w4_58 : Cond.methodLink "java/lang/StringLatin1" 88 ⟨"java/lang/StringLatin1", "canEncode", "(I)Z"⟩ ∈ xTs := xin (wm_4 (List.mem_of_getElem? (i := 58) (by decide +kernel))) rfl
theorem w4_59 : Cond.static ⟨"java/lang/StringLatin1", "canEncode", "(I)Z"⟩ ∈ xTs := xin (wm_4 (List.mem_of_getElem? (i := 59) (by decide +kernel))) rfl
theorem w4_60 : Cond.code ⟨"java/lang/StringLatin1", "canEncode", "(I)Z"⟩ prog_32_method_4_code 1 (some .boolean) ∈ xTs := xin (wm_4 (List.mem_of_getElem? (i := 60) (by decide +kernel))) rfl
theorem w4_61 : Cond.methodLink "java/lang/StringLatin1" 92 ⟨"java/lang/Math", "max", "(II)I"⟩ ∈ xTs := xin (wm_4 (List.mem_of_getElem? (i := 61) (by decide +kernel))) rfl
theorem w4_62 : Cond.static ⟨"java/lang/Math", "max", "(II)I"⟩ ∈ xTs := xin (wm_4 (List.mem_of_getElem? (i := 62) (by decide +kernel))) rfl
theorem w4_63 : Cond.code ⟨"java/lang/Math", "max", "(II)I"⟩ prog_27_method_65_code 2 (some .int) ∈ xTs := xin (wm_4 (List.mem_of_getElem? (i := 63) (by decide +kernel))) rfl
theorem w4_64 : Cond.methodLink "java/lang/StringLatin1" 38 ⟨"java/lang/Math", "min", "(II)I"⟩ ∈ xTs := xin (wm_4 (List.mem_of_getElem? (i := 64) (by decide +kernel))) rfl
theorem w4_65 : Cond.methodLink "java/lang/StringLatin1" 95 ⟨"java/lang/StringLatin1", "indexOfChar", "([BIII)I"⟩ ∈ xTs := xin (wm_4 (List.mem_of_getElem? (i := 65) (by decide +kernel))) rfl
theorem w4_66 : Cond.static ⟨"java/lang/StringLatin1", "indexOfChar", "([BIII)I"⟩ ∈ xTs := xin (wm_4 (List.mem_of_getElem? (i := 66) (by decide +kernel))) rfl
theorem w4_67 : Cond.code ⟨"java/lang/StringLatin1", "indexOfChar", "([BIII)I"⟩ prog_32_method_23_code 6 (some .int) ∈ xTs := xin (wm_4 (List.mem_of_getElem? (i := 67) (by decide +kernel))) rfl
theorem w4_68 : Cond.methodLink "java/lang/String" 640 ⟨"java/lang/StringUTF16", "indexOf", "([BIII)I"⟩ ∈ xTs := xin (wm_4 (List.mem_of_getElem? (i := 68) (by decide +kernel))) rfl
theorem w4_69 : Cond.static ⟨"java/lang/StringUTF16", "indexOf", "([BIII)I"⟩ ∈ xTs := xin (wm_4 (List.mem_of_getElem? (i := 69) (by decide +kernel))) rfl
theorem w4_70 : Cond.code ⟨"java/lang/StringUTF16", "indexOf", "([BIII)I"⟩ prog_33_method_40_code 4 (some .int) ∈ xTs := xin (wm_4 (List.mem_of_getElem? (i := 70) (by decide +kernel))) rfl
theorem w4_71 : Cond.methodLink "java/lang/StringUTF16" 224 ⟨"java/lang/Math", "max", "(II)I"⟩ ∈ xTs := xin (wm_4 (List.mem_of_getElem? (i := 71) (by decide +kernel))) rfl
theorem w4_72 : Cond.methodLink "java/lang/StringUTF16" 183 ⟨"java/lang/Math", "min", "(II)I"⟩ ∈ xTs := xin (wm_4 (List.mem_of_getElem? (i := 72) (by decide +kernel))) rfl
theorem w4_73 : Cond.constant "java/lang/StringUTF16" 227 65536 ∈ xTs := xin (wm_4 (List.mem_of_getElem? (i := 73) (by decide +kernel))) rfl
theorem w4_74 : Cond.methodLink "java/lang/StringUTF16" 228 ⟨"java/lang/StringUTF16", "indexOfChar", "([BIII)I"⟩ ∈ xTs := xin (wm_4 (List.mem_of_getElem? (i := 74) (by decide +kernel))) rfl
theorem w4_75 : Cond.static ⟨"java/lang/StringUTF16", "indexOfChar", "([BIII)I"⟩ ∈ xTs := xin (wm_4 (List.mem_of_getElem? (i := 75) (by decide +kernel))) rfl
theorem w4_76 : Cond.code ⟨"java/lang/StringUTF16", "indexOfChar", "([BIII)I"⟩ prog_33_method_47_code 4 (some .int) ∈ xTs := xin (wm_4 (List.mem_of_getElem? (i := 76) (by decide +kernel))) rfl
theorem w4_77 : Cond.methodLink "java/lang/StringUTF16" 96 ⟨"java/lang/StringUTF16", "checkBoundsBeginEnd", "(II[B)V"⟩ ∈ xTs := xin (wm_4 (List.mem_of_getElem? (i := 77) (by decide +kernel))) rfl
theorem w4_78 : Cond.static ⟨"java/lang/StringUTF16", "checkBoundsBeginEnd", "(II[B)V"⟩ ∈ xTs := xin (wm_4 (List.mem_of_getElem? (i := 78) (by decide +kernel))) rfl
theorem w4_79 : Cond.code ⟨"java/lang/StringUTF16", "checkBoundsBeginEnd", "(II[B)V"⟩ prog_33_method_93_code 3 none ∈ xTs := xin (wm_4 (List.mem_of_getElem? (i := 79) (by decide +kernel))) rfl
theorem w4_80 : Cond.methodLink "java/lang/StringUTF16" 48 ⟨"java/lang/StringUTF16", "length", "([B)I"⟩ ∈ xTs := xin (wm_4 (List.mem_of_getElem? (i := 80) (by decide +kernel))) rfl
theorem w4_81 : Cond.static ⟨"java/lang/StringUTF16", "length", "([B)I"⟩ ∈ xTs := xin (wm_4 (List.mem_of_getElem? (i := 81) (by decide +kernel))) rfl
theorem w4_82 : Cond.code ⟨"java/lang/StringUTF16", "length", "([B)I"⟩ prog_33_method_6_code 1 (some .int) ∈ xTs := xin (wm_4 (List.mem_of_getElem? (i := 82) (by decide +kernel))) rfl
theorem w4_83 : Cond.methodLink "java/lang/StringUTF16" 241 ⟨"java/lang/String", "checkBoundsBeginEnd", "(III)V"⟩ ∈ xTs := xin (wm_4 (List.mem_of_getElem? (i := 83) (by decide +kernel))) rfl
theorem w4_84 : Cond.static ⟨"java/lang/String", "checkBoundsBeginEnd", "(III)V"⟩ ∈ xTs := xin (wm_4 (List.mem_of_getElem? (i := 84) (by decide +kernel))) rfl
theorem w4_85 : Cond.code ⟨"java/lang/String", "checkBoundsBeginEnd", "(III)V"⟩ prog_31_method_158_code 3 none ∈ xTs := xin (wm_4 (List.mem_of_getElem? (i := 85) (by decide +kernel))) rfl
theorem w4_86 : Cond.fieldLink "java/lang/String" 1053 "jdk/internal/util/Preconditions" "SIOOBE_FORMATTER" "Ljava/util/function/BiFunction;" ∈ xTs := xin (wm_4 (List.mem_of_getElem? (i := 86) (by decide +kernel))) rfl
theorem w4_88 : Cond.methodLink "java/lang/String" 1062 ⟨"jdk/internal/util/Preconditions", "checkFromToIndex", "(IIILjava/util/function/BiFunction;)I"⟩ ∈ xTs := xin (wm_4 (List.mem_of_getElem? (i := 88) (by decide +kernel))) rfl
theorem w4_89 : Cond.static ⟨"jdk/internal/util/Preconditions", "checkFromToIndex", "(IIILjava/util/function/BiFunction;)I"⟩ ∈ xTs := xin (wm_4 (List.mem_of_getElem? (i := 89) (by decide +kernel))) rfl
theorem w4_90 : Cond.code ⟨"jdk/internal/util/Preconditions", "checkFromToIndex", "(IIILjava/util/function/BiFunction;)I"⟩ prog_41_method_12_code 4 (some .int) ∈ xTs := xin (wm_4 (List.mem_of_getElem? (i := 90) (by decide +kernel))) rfl
theorem w4_91 : Cond.methodLink "java/lang/StringUTF16" 244 ⟨"java/lang/StringUTF16", "indexOfCharUnsafe", "([BIII)I"⟩ ∈ xTs := xin (wm_4 (List.mem_of_getElem? (i := 91) (by decide +kernel))) rfl
theorem w4_92 : Cond.static ⟨"java/lang/StringUTF16", "indexOfCharUnsafe", "([BIII)I"⟩ ∈ xTs := xin (wm_4 (List.mem_of_getElem? (i := 92) (by decide +kernel))) rfl
theorem w4_93 : Cond.code ⟨"java/lang/StringUTF16", "indexOfCharUnsafe", "([BIII)I"⟩ prog_33_method_48_code 5 (some .int) ∈ xTs := xin (wm_4 (List.mem_of_getElem? (i := 93) (by decide +kernel))) rfl
theorem w4_94 : Cond.methodLink "java/lang/StringUTF16" 71 ⟨"java/lang/StringUTF16", "getChar", "([BI)C"⟩ ∈ xTs := xin (wm_4 (List.mem_of_getElem? (i := 94) (by decide +kernel))) rfl
theorem w4_95 : Cond.static ⟨"java/lang/StringUTF16", "getChar", "([BI)C"⟩ ∈ xTs := xin (wm_4 (List.mem_of_getElem? (i := 95) (by decide +kernel))) rfl
theorem w4_96 : Cond.code ⟨"java/lang/StringUTF16", "getChar", "([BI)C"⟩ prog_33_method_5_code 2 (some .char) ∈ xTs := xin (wm_4 (List.mem_of_getElem? (i := 96) (by decide +kernel))) rfl
theorem w4_97 : Cond.fieldLink "java/lang/StringUTF16" 44 "java/lang/StringUTF16" "$assertionsDisabled" "Z" ∈ xTs := xin (wm_4 (List.mem_of_getElem? (i := 97) (by decide +kernel))) rfl
theorem w4_99 : Cond.fieldLink "java/lang/StringUTF16" 59 "java/lang/StringUTF16" "HI_BYTE_SHIFT" "I" ∈ xTs := xin (wm_4 (List.mem_of_getElem? (i := 99) (by decide +kernel))) rfl
theorem w4_101 : Cond.fieldLink "java/lang/StringUTF16" 63 "java/lang/StringUTF16" "LO_BYTE_SHIFT" "I" ∈ xTs := xin (wm_4 (List.mem_of_getElem? (i := 101) (by decide +kernel))) rfl
theorem w4_103 : Cond.methodLink "java/lang/StringUTF16" 232 ⟨"java/lang/StringUTF16", "indexOfSupplementary", "([BIII)I"⟩ ∈ xTs := xin (wm_4 (List.mem_of_getElem? (i := 103) (by decide +kernel))) rfl
theorem w4_104 : Cond.static ⟨"java/lang/StringUTF16", "indexOfSupplementary", "([BIII)I"⟩ ∈ xTs := xin (wm_4 (List.mem_of_getElem? (i := 104) (by decide +kernel))) rfl
theorem w4_105 : Cond.code ⟨"java/lang/StringUTF16", "indexOfSupplementary", "([BIII)I"⟩ prog_33_method_49_code 7 (some .int) ∈ xTs := xin (wm_4 (List.mem_of_getElem? (i := 105) (by decide +kernel))) rfl
theorem w4_106 : Cond.methodLink "java/lang/StringUTF16" 164 ⟨"java/lang/Character", "isValidCodePoint", "(I)Z"⟩ ∈ xTs := xin (wm_4 (List.mem_of_getElem? (i := 106) (by decide +kernel))) rfl
theorem w4_107 : Cond.static ⟨"java/lang/Character", "isValidCodePoint", "(I)Z"⟩ ∈ xTs := xin (wm_4 (List.mem_of_getElem? (i := 107) (by decide +kernel))) rfl
theorem w4_108 : Cond.code ⟨"java/lang/Character", "isValidCodePoint", "(I)Z"⟩ prog_19_method_11_code 2 (some .boolean) ∈ xTs := xin (wm_4 (List.mem_of_getElem? (i := 108) (by decide +kernel))) rfl
theorem w4_109 : Cond.methodLink "java/lang/StringUTF16" 157 ⟨"java/lang/Character", "highSurrogate", "(I)C"⟩ ∈ xTs := xin (wm_4 (List.mem_of_getElem? (i := 109) (by decide +kernel))) rfl
theorem w4_110 : Cond.static ⟨"java/lang/Character", "highSurrogate", "(I)C"⟩ ∈ xTs := xin (wm_4 (List.mem_of_getElem? (i := 110) (by decide +kernel))) rfl
theorem w4_111 : Cond.code ⟨"java/lang/Character", "highSurrogate", "(I)C"⟩ prog_19_method_28_code 1 (some .char) ∈ xTs := xin (wm_4 (List.mem_of_getElem? (i := 111) (by decide +kernel))) rfl
theorem w4_112 : Cond.constant "java/lang/Character" 110 55232 ∈ xTs := xin (wm_4 (List.mem_of_getElem? (i := 112) (by decide +kernel))) rfl
theorem w4_113 : Cond.methodLink "java/lang/StringUTF16" 161 ⟨"java/lang/Character", "lowSurrogate", "(I)C"⟩ ∈ xTs := xin (wm_4 (List.mem_of_getElem? (i := 113) (by decide +kernel))) rfl
theorem w4_114 : Cond.static ⟨"java/lang/Character", "lowSurrogate", "(I)C"⟩ ∈ xTs := xin (wm_4 (List.mem_of_getElem? (i := 114) (by decide +kernel))) rfl
theorem w4_115 : Cond.code ⟨"java/lang/Character", "lowSurrogate", "(I)C"⟩ prog_19_method_29_code 1 (some .char) ∈ xTs := xin (wm_4 (List.mem_of_getElem? (i := 115) (by decide +kernel))) rfl
theorem w4_116 : Cond.constant "java/lang/Character" 76 56320 ∈ xTs := xin (wm_4 (List.mem_of_getElem? (i := 116) (by decide +kernel))) rfl
theorem w4_118 : Cond.methodLink "Tracewheel" 81 ⟨"Tracewheel$Program", "allowsOperand", "(CI)Z"⟩ ∈ xTs := xin (wm_4 (List.mem_of_getElem? (i := 118) (by decide +kernel))) rfl
theorem w4_119 : Cond.instanceMethod ⟨"Tracewheel$Program", "allowsOperand", "(CI)Z"⟩ ∈ xTs := xin (wm_4 (List.mem_of_getElem? (i := 119) (by decide +kernel))) rfl
theorem w4_120 : Cond.selects "Tracewheel$Program" ⟨"Tracewheel$Program", "allowsOperand", "(CI)Z"⟩ ⟨"Tracewheel$Program", "allowsOperand", "(CI)Z"⟩ ∈ xTs := xin (wm_4 (List.mem_of_getElem? (i := 120) (by decide +kernel))) rfl
theorem w4_121 : Cond.code ⟨"Tracewheel$Program", "allowsOperand", "(CI)Z"⟩ prog_7_method_8_code 3 (some .boolean) ∈ xTs := xin (wm_4 (List.mem_of_getElem? (i := 121) (by decide +kernel))) rfl
theorem w4_122 : Cond.methodLink "Tracewheel$Program" 54 ⟨"Tracewheel$Program", "operandBound", "(C)I"⟩ ∈ xTs := xin (wm_4 (List.mem_of_getElem? (i := 122) (by decide +kernel))) rfl
theorem w4_124 : Cond.instanceMethod ⟨"Tracewheel$Program", "operandBound", "(C)I"⟩ ∈ xTs := xin (wm_4 (List.mem_of_getElem? (i := 124) (by decide +kernel))) rfl
theorem w4_125 : Cond.code ⟨"Tracewheel$Program", "operandBound", "(C)I"⟩ prog_7_method_9_code 2 (some .int) ∈ xTs := xin (wm_4 (List.mem_of_getElem? (i := 125) (by decide +kernel))) rfl
theorem w4_128 : Cond.methodLink "Tracewheel" 93 ⟨"Tracewheel$Program", "append", "(ICI)I"⟩ ∈ xTs := xin (wm_4 (List.mem_of_getElem? (i := 128) (by decide +kernel))) rfl
theorem w4_129 : Cond.instanceMethod ⟨"Tracewheel$Program", "append", "(ICI)I"⟩ ∈ xTs := xin (wm_4 (List.mem_of_getElem? (i := 129) (by decide +kernel))) rfl
theorem w4_130 : Cond.selects "Tracewheel$Program" ⟨"Tracewheel$Program", "append", "(ICI)I"⟩ ⟨"Tracewheel$Program", "append", "(ICI)I"⟩ ∈ xTs := xin (wm_4 (List.mem_of_getElem? (i := 130) (by decide +kernel))) rfl
theorem w4_131 : Cond.code ⟨"Tracewheel$Program", "append", "(ICI)I"⟩ prog_7_method_7_code 5 (some .int) ∈ xTs := xin (wm_4 (List.mem_of_getElem? (i := 131) (by decide +kernel))) rfl
theorem w4_133 : Cond.static ⟨"Tracewheel", "siteOf", "(II)I"⟩ ∈ xTs := xin (wm_4 (List.mem_of_getElem? (i := 133) (by decide +kernel))) rfl
theorem w4_134 : Cond.code ⟨"Tracewheel", "siteOf", "(II)I"⟩ prog_1_method_57_code 2 (some .int) ∈ xTs := xin (wm_4 (List.mem_of_getElem? (i := 134) (by decide +kernel))) rfl
theorem w4_135 : Cond.methodLink "TracewheelLaw" 161 ⟨"TracewheelLaw", "setHandler", "(LTracewheel;II[J)I"⟩ ∈ xTs := xin (wm_4 (List.mem_of_getElem? (i := 135) (by decide +kernel))) rfl
theorem w4_136 : Cond.static ⟨"TracewheelLaw", "setHandler", "(LTracewheel;II[J)I"⟩ ∈ xTs := xin (wm_4 (List.mem_of_getElem? (i := 136) (by decide +kernel))) rfl
theorem w4_137 : Cond.codeWith ⟨"TracewheelLaw", "setHandler", "(LTracewheel;II[J)I"⟩ method_5_code 5 (some .int) [(0, 10, 13, 21), (0, 10, 17, 13)] ∈ xTs := xin (wm_4 (List.mem_of_getElem? (i := 137) (by decide +kernel))) rfl
theorem w4_138 : Cond.methodLink "TracewheelLaw" 23 ⟨"Tracewheel", "setHandler", "(II)I"⟩ ∈ xTs := xin (wm_4 (List.mem_of_getElem? (i := 138) (by decide +kernel))) rfl
theorem w4_139 : Cond.instanceMethod ⟨"Tracewheel", "setHandler", "(II)I"⟩ ∈ xTs := xin (wm_4 (List.mem_of_getElem? (i := 139) (by decide +kernel))) rfl
theorem w4_140 : Cond.selects "Tracewheel" ⟨"Tracewheel", "setHandler", "(II)I"⟩ ⟨"Tracewheel", "setHandler", "(II)I"⟩ ∈ xTs := xin (wm_4 (List.mem_of_getElem? (i := 140) (by decide +kernel))) rfl
theorem w4_141 : Cond.code ⟨"Tracewheel", "setHandler", "(II)I"⟩ prog_1_method_4_code 4 (some .int) ∈ xTs := xin (wm_4 (List.mem_of_getElem? (i := 141) (by decide +kernel))) rfl
theorem w4_142 : Cond.methodLink "Tracewheel" 97 ⟨"Tracewheel", "needIndex", "(I)V"⟩ ∈ xTs := xin (wm_4 (List.mem_of_getElem? (i := 142) (by decide +kernel))) rfl
theorem w4_144 : Cond.instanceMethod ⟨"Tracewheel", "needIndex", "(I)V"⟩ ∈ xTs := xin (wm_4 (List.mem_of_getElem? (i := 144) (by decide +kernel))) rfl
theorem w4_145 : Cond.code ⟨"Tracewheel", "needIndex", "(I)V"⟩ prog_1_method_48_code 2 none ∈ xTs := xin (wm_4 (List.mem_of_getElem? (i := 145) (by decide +kernel))) rfl
theorem w4_147 : Cond.methodLink "TracewheelLaw" 165 ⟨"TracewheelLaw", "addClass", "(LTracewheel;I[J)I"⟩ ∈ xTs := xin (wm_4 (List.mem_of_getElem? (i := 147) (by decide +kernel))) rfl
theorem w4_148 : Cond.static ⟨"TracewheelLaw", "addClass", "(LTracewheel;I[J)I"⟩ ∈ xTs := xin (wm_4 (List.mem_of_getElem? (i := 148) (by decide +kernel))) rfl
theorem w4_149 : Cond.codeWith ⟨"TracewheelLaw", "addClass", "(LTracewheel;I[J)I"⟩ method_6_code 4 (some .int) [(0, 9, 12, 21), (0, 9, 15, 15), (0, 9, 18, 30)] ∈ xTs := xin (wm_4 (List.mem_of_getElem? (i := 149) (by decide +kernel))) rfl
theorem w4_150 : Cond.classLink "TracewheelLaw" 30 "java/lang/UnsupportedOperationException" ∈ xTs := xin (wm_4 (List.mem_of_getElem? (i := 150) (by decide +kernel))) rfl
theorem w4_151 : Cond.methodLink "TracewheelLaw" 27 ⟨"Tracewheel", "addClass", "(I)I"⟩ ∈ xTs := xin (wm_4 (List.mem_of_getElem? (i := 151) (by decide +kernel))) rfl
theorem w4_152 : Cond.instanceMethod ⟨"Tracewheel", "addClass", "(I)I"⟩ ∈ xTs := xin (wm_4 (List.mem_of_getElem? (i := 152) (by decide +kernel))) rfl
theorem w4_153 : Cond.selects "Tracewheel" ⟨"Tracewheel", "addClass", "(I)I"⟩ ⟨"Tracewheel", "addClass", "(I)I"⟩ ∈ xTs := xin (wm_4 (List.mem_of_getElem? (i := 153) (by decide +kernel))) rfl
theorem w4_154 : Cond.code ⟨"Tracewheel", "addClass", "(I)I"⟩ prog_1_method_5_code 3 (some .int) ∈ xTs := xin (wm_4 (List.mem_of_getElem? (i := 154) (by decide +kernel))) rfl
theorem w4_155 : Cond.methodLink "Tracewheel" 103 ⟨"Tracewheel$Program", "hasClass", "(I)Z"⟩ ∈ xTs := xin (wm_4 (List.mem_of_getElem? (i := 155) (by decide +kernel))) rfl
theorem w4_156 : Cond.instanceMethod ⟨"Tracewheel$Program", "hasClass", "(I)Z"⟩ ∈ xTs := xin (wm_4 (List.mem_of_getElem? (i := 156) (by decide +kernel))) rfl
theorem w4_157 : Cond.selects "Tracewheel$Program" ⟨"Tracewheel$Program", "hasClass", "(I)Z"⟩ ⟨"Tracewheel$Program", "hasClass", "(I)Z"⟩ ∈ xTs := xin (wm_4 (List.mem_of_getElem? (i := 157) (by decide +kernel))) rfl
theorem w4_158 : Cond.code ⟨"Tracewheel$Program", "hasClass", "(I)Z"⟩ prog_7_method_3_code 2 (some .boolean) ∈ xTs := xin (wm_4 (List.mem_of_getElem? (i := 158) (by decide +kernel))) rfl
theorem w4_161 : Cond.classLink "Tracewheel" 120 "java/lang/UnsupportedOperationException" ∈ xTs := xin (wm_4 (List.mem_of_getElem? (i := 161) (by decide +kernel))) rfl
theorem w4_162 : Cond.instantiable "java/lang/UnsupportedOperationException" 6 ∈ xTs := xin (wm_4 (List.mem_of_getElem? (i := 162) (by decide +kernel))) rfl
theorem w4_164 : Cond.selects "java/lang/UnsupportedOperationException" ⟨"java/lang/Throwable", "fillInStackTrace", "(I)Ljava/lang/Throwable;"⟩ ⟨"java/lang/Throwable", "fillInStackTrace", "(I)Ljava/lang/Throwable;"⟩ ∈ xTs := xin (wm_4 (List.mem_of_getElem? (i := 164) (by decide +kernel))) rfl
theorem w4_171 : Cond.methodLink "Tracewheel" 124 ⟨"java/lang/UnsupportedOperationException", "<init>", "(Ljava/lang/String;)V"⟩ ∈ xTs := xin (wm_4 (List.mem_of_getElem? (i := 171) (by decide +kernel))) rfl
theorem w4_172 : Cond.instanceMethod ⟨"java/lang/UnsupportedOperationException", "<init>", "(Ljava/lang/String;)V"⟩ ∈ xTs := xin (wm_4 (List.mem_of_getElem? (i := 172) (by decide +kernel))) rfl
theorem w4_173 : Cond.code ⟨"java/lang/UnsupportedOperationException", "<init>", "(Ljava/lang/String;)V"⟩ prog_36_method_2_code 2 none ∈ xTs := xin (wm_4 (List.mem_of_getElem? (i := 173) (by decide +kernel))) rfl
theorem w4_174 : Cond.methodLink "java/lang/UnsupportedOperationException" 7 ⟨"java/lang/RuntimeException", "<init>", "(Ljava/lang/String;)V"⟩ ∈ xTs := xin (wm_4 (List.mem_of_getElem? (i := 174) (by decide +kernel))) rfl
theorem w4_177 : Cond.methodLink "Tracewheel" 125 ⟨"Tracewheel$Program", "addClassBelow", "(I)I"⟩ ∈ xTs := xin (wm_4 (List.mem_of_getElem? (i := 177) (by decide +kernel))) rfl
theorem w4_178 : Cond.instanceMethod ⟨"Tracewheel$Program", "addClassBelow", "(I)I"⟩ ∈ xTs := xin (wm_4 (List.mem_of_getElem? (i := 178) (by decide +kernel))) rfl
theorem w4_179 : Cond.selects "Tracewheel$Program" ⟨"Tracewheel$Program", "addClassBelow", "(I)I"⟩ ⟨"Tracewheel$Program", "addClassBelow", "(I)I"⟩ ∈ xTs := xin (wm_4 (List.mem_of_getElem? (i := 179) (by decide +kernel))) rfl
theorem w4_180 : Cond.code ⟨"Tracewheel$Program", "addClassBelow", "(I)I"⟩ prog_7_method_6_code 2 (some .int) ∈ xTs := xin (wm_4 (List.mem_of_getElem? (i := 180) (by decide +kernel))) rfl
theorem w4_181 : Cond.methodLink "Tracewheel" 131 ⟨"Tracewheel$Shapes", "addEmpty", "(I)I"⟩ ∈ xTs := xin (wm_4 (List.mem_of_getElem? (i := 181) (by decide +kernel))) rfl
theorem w4_182 : Cond.instanceMethod ⟨"Tracewheel$Shapes", "addEmpty", "(I)I"⟩ ∈ xTs := xin (wm_4 (List.mem_of_getElem? (i := 182) (by decide +kernel))) rfl
theorem w4_183 : Cond.selects "Tracewheel$Shapes" ⟨"Tracewheel$Shapes", "addEmpty", "(I)I"⟩ ⟨"Tracewheel$Shapes", "addEmpty", "(I)I"⟩ ∈ xTs := xin (wm_4 (List.mem_of_getElem? (i := 183) (by decide +kernel))) rfl
theorem w4_184 : Cond.code ⟨"Tracewheel$Shapes", "addEmpty", "(I)I"⟩ prog_9_method_3_code 4 (some .int) ∈ xTs := xin (wm_4 (List.mem_of_getElem? (i := 184) (by decide +kernel))) rfl
theorem w4_185 : Cond.methodLink "TracewheelLaw" 168 ⟨"TracewheelLaw", "setMethod", "(LTracewheel;III[J)I"⟩ ∈ xTs := xin (wm_4 (List.mem_of_getElem? (i := 185) (by decide +kernel))) rfl
theorem w4_186 : Cond.static ⟨"TracewheelLaw", "setMethod", "(LTracewheel;III[J)I"⟩ ∈ xTs := xin (wm_4 (List.mem_of_getElem? (i := 186) (by decide +kernel))) rfl
theorem w4_187 : Cond.codeWith ⟨"TracewheelLaw", "setMethod", "(LTracewheel;III[J)I"⟩ method_7_code 6 (some .int) [(0, 12, 15, 21), (0, 12, 19, 13), (0, 12, 23, 36), (0, 12, 27, 30)] ∈ xTs := xin (wm_4 (List.mem_of_getElem? (i := 187) (by decide +kernel))) rfl
theorem w4_188 : Cond.classLink "TracewheelLaw" 36 "java/util/NoSuchElementException" ∈ xTs := xin (wm_4 (List.mem_of_getElem? (i := 188) (by decide +kernel))) rfl
theorem w4_189 : Cond.methodLink "TracewheelLaw" 32 ⟨"Tracewheel", "setMethod", "(III)I"⟩ ∈ xTs := xin (wm_4 (List.mem_of_getElem? (i := 189) (by decide +kernel))) rfl
theorem w4_190 : Cond.instanceMethod ⟨"Tracewheel", "setMethod", "(III)I"⟩ ∈ xTs := xin (wm_4 (List.mem_of_getElem? (i := 190) (by decide +kernel))) rfl
theorem w4_191 : Cond.selects "Tracewheel" ⟨"Tracewheel", "setMethod", "(III)I"⟩ ⟨"Tracewheel", "setMethod", "(III)I"⟩ ∈ xTs := xin (wm_4 (List.mem_of_getElem? (i := 191) (by decide +kernel))) rfl
theorem w4_192 : Cond.code ⟨"Tracewheel", "setMethod", "(III)I"⟩ prog_1_method_6_code 4 (some .int) ∈ xTs := xin (wm_4 (List.mem_of_getElem? (i := 192) (by decide +kernel))) rfl
theorem w4_194 : Cond.methodLink "Tracewheel" 136 ⟨"Tracewheel", "isName", "(I)Z"⟩ ∈ xTs := xin (wm_4 (List.mem_of_getElem? (i := 194) (by decide +kernel))) rfl
theorem w4_195 : Cond.static ⟨"Tracewheel", "isName", "(I)Z"⟩ ∈ xTs := xin (wm_4 (List.mem_of_getElem? (i := 195) (by decide +kernel))) rfl
theorem w4_196 : Cond.code ⟨"Tracewheel", "isName", "(I)Z"⟩ prog_1_method_56_code 1 (some .boolean) ∈ xTs := xin (wm_4 (List.mem_of_getElem? (i := 196) (by decide +kernel))) rfl
theorem w4_198 : Cond.classLink "Tracewheel" 144 "java/util/NoSuchElementException" ∈ xTs := xin (wm_4 (List.mem_of_getElem? (i := 198) (by decide +kernel))) rfl
theorem w4_199 : Cond.instantiable "java/util/NoSuchElementException" 6 ∈ xTs := xin (wm_4 (List.mem_of_getElem? (i := 199) (by decide +kernel))) rfl
theorem w4_201 : Cond.selects "java/util/NoSuchElementException" ⟨"java/lang/Throwable", "fillInStackTrace", "(I)Ljava/lang/Throwable;"⟩ ⟨"java/lang/Throwable", "fillInStackTrace", "(I)Ljava/lang/Throwable;"⟩ ∈ xTs := xin (wm_4 (List.mem_of_getElem? (i := 201) (by decide +kernel))) rfl
theorem w4_207 : Cond.methodLink "Tracewheel" 148 ⟨"java/util/NoSuchElementException", "<init>", "(Ljava/lang/String;)V"⟩ ∈ xTs := xin (wm_4 (List.mem_of_getElem? (i := 207) (by decide +kernel))) rfl
theorem w4_208 : Cond.instanceMethod ⟨"java/util/NoSuchElementException", "<init>", "(Ljava/lang/String;)V"⟩ ∈ xTs := xin (wm_4 (List.mem_of_getElem? (i := 208) (by decide +kernel))) rfl
theorem w4_209 : Cond.code ⟨"java/util/NoSuchElementException", "<init>", "(Ljava/lang/String;)V"⟩ prog_40_method_4_code 2 none ∈ xTs := xin (wm_4 (List.mem_of_getElem? (i := 209) (by decide +kernel))) rfl
theorem w4_210 : Cond.methodLink "java/util/NoSuchElementException" 13 ⟨"java/lang/RuntimeException", "<init>", "(Ljava/lang/String;)V"⟩ ∈ xTs := xin (wm_4 (List.mem_of_getElem? (i := 210) (by decide +kernel))) rfl
theorem w4_214 : Cond.methodLink "Tracewheel" 161 ⟨"Tracewheel$Caches", "emptyMethods", "(LTracewheel$Program;)V"⟩ ∈ xTs := xin (wm_4 (List.mem_of_getElem? (i := 214) (by decide +kernel))) rfl
theorem w4_215 : Cond.instanceMethod ⟨"Tracewheel$Caches", "emptyMethods", "(LTracewheel$Program;)V"⟩ ∈ xTs := xin (wm_4 (List.mem_of_getElem? (i := 215) (by decide +kernel))) rfl
theorem w4_216 : Cond.selects "Tracewheel$Caches" ⟨"Tracewheel$Caches", "emptyMethods", "(LTracewheel$Program;)V"⟩ ⟨"Tracewheel$Caches", "emptyMethods", "(LTracewheel$Program;)V"⟩ ∈ xTs := xin (wm_4 (List.mem_of_getElem? (i := 216) (by decide +kernel))) rfl
theorem w4_217 : Cond.code ⟨"Tracewheel$Caches", "emptyMethods", "(LTracewheel$Program;)V"⟩ prog_2_method_5_code 3 none ∈ xTs := xin (wm_4 (List.mem_of_getElem? (i := 217) (by decide +kernel))) rfl
theorem w4_218 : Cond.methodLink "Tracewheel" 171 ⟨"Tracewheel$Forest", "throwThoseWith", "(CI)I"⟩ ∈ xTs := xin (wm_4 (List.mem_of_getElem? (i := 218) (by decide +kernel))) rfl
theorem w4_219 : Cond.instanceMethod ⟨"Tracewheel$Forest", "throwThoseWith", "(CI)I"⟩ ∈ xTs := xin (wm_4 (List.mem_of_getElem? (i := 219) (by decide +kernel))) rfl
theorem w4_220 : Cond.selects "Tracewheel$Forest" ⟨"Tracewheel$Forest", "throwThoseWith", "(CI)I"⟩ ⟨"Tracewheel$Forest", "throwThoseWith", "(CI)I"⟩ ∈ xTs := xin (wm_4 (List.mem_of_getElem? (i := 220) (by decide +kernel))) rfl
theorem w4_221 : Cond.code ⟨"Tracewheel$Forest", "throwThoseWith", "(CI)I"⟩ prog_3_method_10_code 5 (some .int) ∈ xTs := xin (wm_4 (List.mem_of_getElem? (i := 221) (by decide +kernel))) rfl
theorem w4_222 : Cond.methodLink "Tracewheel$Forest" 60 ⟨"Tracewheel$Forest", "hasStep", "(LTracewheel$Trace;CI)Z"⟩ ∈ xTs := xin (wm_4 (List.mem_of_getElem? (i := 222) (by decide +kernel))) rfl
theorem w4_224 : Cond.instanceMethod ⟨"Tracewheel$Forest", "hasStep", "(LTracewheel$Trace;CI)Z"⟩ ∈ xTs := xin (wm_4 (List.mem_of_getElem? (i := 224) (by decide +kernel))) rfl
theorem w4_225 : Cond.code ⟨"Tracewheel$Forest", "hasStep", "(LTracewheel$Trace;CI)Z"⟩ prog_3_method_11_code 7 (some .boolean) ∈ xTs := xin (wm_4 (List.mem_of_getElem? (i := 225) (by decide +kernel))) rfl
theorem w4_227 : Cond.static ⟨"Tracewheel", "siteOfLine", "(I)I"⟩ ∈ xTs := xin (wm_4 (List.mem_of_getElem? (i := 227) (by decide +kernel))) rfl
theorem w4_228 : Cond.code ⟨"Tracewheel", "siteOfLine", "(I)I"⟩ prog_1_method_58_code 1 (some .int) ∈ xTs := xin (wm_4 (List.mem_of_getElem? (i := 228) (by decide +kernel))) rfl
theorem w4_229 : Cond.methodLink "Tracewheel" 329 ⟨"Tracewheel", "siteOf", "(II)I"⟩ ∈ xTs := xin (wm_4 (List.mem_of_getElem? (i := 229) (by decide +kernel))) rfl
theorem w4_230 : Cond.methodLink "Tracewheel$Forest" 53 ⟨"Tracewheel$Forest", "throwTree", "(I)V"⟩ ∈ xTs := xin (wm_4 (List.mem_of_getElem? (i := 230) (by decide +kernel))) rfl
theorem w4_232 : Cond.instanceMethod ⟨"Tracewheel$Forest", "throwTree", "(I)V"⟩ ∈ xTs := xin (wm_4 (List.mem_of_getElem? (i := 232) (by decide +kernel))) rfl
theorem w4_233 : Cond.code ⟨"Tracewheel$Forest", "throwTree", "(I)V"⟩ prog_3_method_12_code 3 none ∈ xTs := xin (wm_4 (List.mem_of_getElem? (i := 233) (by decide +kernel))) rfl
theorem w4_234 : Cond.methodLink "TracewheelLaw" 172 ⟨"TracewheelLaw", "setCell", "(LTracewheel;II[J)I"⟩ ∈ xTs := xin (wm_4 (List.mem_of_getElem? (i := 234) (by decide +kernel))) rfl
theorem w4_235 : Cond.static ⟨"TracewheelLaw", "setCell", "(LTracewheel;II[J)I"⟩ ∈ xTs := xin (wm_4 (List.mem_of_getElem? (i := 235) (by decide +kernel))) rfl
theorem w4_236 : Cond.codeWith ⟨"TracewheelLaw", "setCell", "(LTracewheel;II[J)I"⟩ method_8_code 5 (some .int) [(0, 10, 13, 13)] ∈ xTs := xin (wm_4 (List.mem_of_getElem? (i := 236) (by decide +kernel))) rfl
theorem w4_237 : Cond.methodLink "TracewheelLaw" 38 ⟨"Tracewheel", "setCell", "(II)I"⟩ ∈ xTs := xin (wm_4 (List.mem_of_getElem? (i := 237) (by decide +kernel))) rfl
theorem w4_238 : Cond.instanceMethod ⟨"Tracewheel", "setCell", "(II)I"⟩ ∈ xTs := xin (wm_4 (List.mem_of_getElem? (i := 238) (by decide +kernel))) rfl
theorem w4_239 : Cond.selects "Tracewheel" ⟨"Tracewheel", "setCell", "(II)I"⟩ ⟨"Tracewheel", "setCell", "(II)I"⟩ ∈ xTs := xin (wm_4 (List.mem_of_getElem? (i := 239) (by decide +kernel))) rfl
theorem w5_0 : Cond.code ⟨"Tracewheel", "setCell", "(II)I"⟩ prog_1_method_7_code 3 (some .int) ∈ xTs := xin (wm_5 (List.mem_of_getElem? (i := 0) (by decide +kernel))) rfl
theorem w5_2 : Cond.methodLink "TracewheelLaw" 175 ⟨"TracewheelLaw", "setLimits", "(LTracewheel;III[J)I"⟩ ∈ xTs := xin (wm_5 (List.mem_of_getElem? (i := 2) (by decide +kernel))) rfl
theorem w5_3 : Cond.static ⟨"TracewheelLaw", "setLimits", "(LTracewheel;III[J)I"⟩ ∈ xTs := xin (wm_5 (List.mem_of_getElem? (i := 3) (by decide +kernel))) rfl
theorem w5_4 : Cond.codeWith ⟨"TracewheelLaw", "setLimits", "(LTracewheel;III[J)I"⟩ method_9_code 6 (some .int) [(0, 12, 15, 13)] ∈ xTs := xin (wm_5 (List.mem_of_getElem? (i := 4) (by decide +kernel))) rfl
theorem w5_5 : Cond.methodLink "TracewheelLaw" 41 ⟨"Tracewheel", "setLimits", "(III)I"⟩ ∈ xTs := xin (wm_5 (List.mem_of_getElem? (i := 5) (by decide +kernel))) rfl
theorem w5_6 : Cond.instanceMethod ⟨"Tracewheel", "setLimits", "(III)I"⟩ ∈ xTs := xin (wm_5 (List.mem_of_getElem? (i := 6) (by decide +kernel))) rfl
theorem w5_7 : Cond.selects "Tracewheel" ⟨"Tracewheel", "setLimits", "(III)I"⟩ ⟨"Tracewheel", "setLimits", "(III)I"⟩ ∈ xTs := xin (wm_5 (List.mem_of_getElem? (i := 7) (by decide +kernel))) rfl
theorem w5_8 : Cond.code ⟨"Tracewheel", "setLimits", "(III)I"⟩ prog_1_method_8_code 4 (some .int) ∈ xTs := xin (wm_5 (List.mem_of_getElem? (i := 8) (by decide +kernel))) rfl
theorem w5_10 : Cond.methodLink "Tracewheel" 193 ⟨"Tracewheel$Forest", "shrink", "()I"⟩ ∈ xTs := xin (wm_5 (List.mem_of_getElem? (i := 10) (by decide +kernel))) rfl
theorem w5_11 : Cond.instanceMethod ⟨"Tracewheel$Forest", "shrink", "()I"⟩ ∈ xTs := xin (wm_5 (List.mem_of_getElem? (i := 11) (by decide +kernel))) rfl
theorem w5_12 : Cond.selects "Tracewheel$Forest" ⟨"Tracewheel$Forest", "shrink", "()I"⟩ ⟨"Tracewheel$Forest", "shrink", "()I"⟩ ∈ xTs := xin (wm_5 (List.mem_of_getElem? (i := 12) (by decide +kernel))) rfl
end VMW
