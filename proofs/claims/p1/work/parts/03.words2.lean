section VMW2
theorem w5_13 : Cond.code ⟨"Tracewheel$Forest", "shrink", "()I"⟩ prog_3_method_7_code 2 (some .int) ∈ xTs := xin (wm_5 (List.mem_of_getElem? (i := 13) (by decide +kernel))) rfl
theorem w5_14 : Cond.methodLink "Tracewheel$Forest" 45 ⟨"Tracewheel$Forest", "size", "()I"⟩ ∈ xTs := xin (wm_5 (List.mem_of_getElem? (i := 14) (by decide +kernel))) rfl
theorem w5_15 : Cond.methodLink "Tracewheel$Forest" 49 ⟨"Tracewheel$Forest", "leastLatelyEntered", "(I)I"⟩ ∈ xTs := xin (wm_5 (List.mem_of_getElem? (i := 15) (by decide +kernel))) rfl
theorem w5_17 : Cond.instanceMethod ⟨"Tracewheel$Forest", "leastLatelyEntered", "(I)I"⟩ ∈ xTs := xin (wm_5 (List.mem_of_getElem? (i := 17) (by decide +kernel))) rfl
theorem w5_18 : Cond.code ⟨"Tracewheel$Forest", "leastLatelyEntered", "(I)I"⟩ prog_3_method_9_code 5 (some .int) ∈ xTs := xin (wm_5 (List.mem_of_getElem? (i := 18) (by decide +kernel))) rfl
theorem w5_19 : Cond.methodLink "TracewheelLaw" 178 ⟨"TracewheelLaw", "run", "(LTracewheel;II[J)I"⟩ ∈ xTs := xin (wm_5 (List.mem_of_getElem? (i := 19) (by decide +kernel))) rfl
theorem w5_20 : Cond.static ⟨"TracewheelLaw", "run", "(LTracewheel;II[J)I"⟩ ∈ xTs := xin (wm_5 (List.mem_of_getElem? (i := 20) (by decide +kernel))) rfl
theorem w5_21 : Cond.codeWith ⟨"TracewheelLaw", "run", "(LTracewheel;II[J)I"⟩ method_10_code 5 (some .int) [(0, 10, 13, 21), (0, 10, 17, 30)] ∈ xTs := xin (wm_5 (List.mem_of_getElem? (i := 21) (by decide +kernel))) rfl
theorem w5_22 : Cond.methodLink "TracewheelLaw" 44 ⟨"Tracewheel", "run", "(II)I"⟩ ∈ xTs := xin (wm_5 (List.mem_of_getElem? (i := 22) (by decide +kernel))) rfl
theorem w5_23 : Cond.instanceMethod ⟨"Tracewheel", "run", "(II)I"⟩ ∈ xTs := xin (wm_5 (List.mem_of_getElem? (i := 23) (by decide +kernel))) rfl
theorem w5_24 : Cond.selects "Tracewheel" ⟨"Tracewheel", "run", "(II)I"⟩ ⟨"Tracewheel", "run", "(II)I"⟩ ∈ xTs := xin (wm_5 (List.mem_of_getElem? (i := 24) (by decide +kernel))) rfl
theorem w5_25 : Cond.code ⟨"Tracewheel", "run", "(II)I"⟩ prog_1_method_9_code 5 (some .int) ∈ xTs := xin (wm_5 (List.mem_of_getElem? (i := 25) (by decide +kernel))) rfl
theorem w5_27 : Cond.methodLink "Tracewheel" 199 ⟨"Tracewheel$Machine", "begin", "(II)V"⟩ ∈ xTs := xin (wm_5 (List.mem_of_getElem? (i := 27) (by decide +kernel))) rfl
theorem w5_28 : Cond.instanceMethod ⟨"Tracewheel$Machine", "begin", "(II)V"⟩ ∈ xTs := xin (wm_5 (List.mem_of_getElem? (i := 28) (by decide +kernel))) rfl
theorem w5_29 : Cond.selects "Tracewheel$Machine" ⟨"Tracewheel$Machine", "begin", "(II)V"⟩ ⟨"Tracewheel$Machine", "begin", "(II)V"⟩ ∈ xTs := xin (wm_5 (List.mem_of_getElem? (i := 29) (by decide +kernel))) rfl
theorem w5_30 : Cond.code ⟨"Tracewheel$Machine", "begin", "(II)V"⟩ prog_5_method_2_code 3 none ∈ xTs := xin (wm_5 (List.mem_of_getElem? (i := 30) (by decide +kernel))) rfl
theorem w5_31 : Cond.methodLink "Tracewheel$Machine" 62 ⟨"Tracewheel$Machine", "addFrame", "(I)V"⟩ ∈ xTs := xin (wm_5 (List.mem_of_getElem? (i := 31) (by decide +kernel))) rfl
theorem w5_33 : Cond.instanceMethod ⟨"Tracewheel$Machine", "addFrame", "(I)V"⟩ ∈ xTs := xin (wm_5 (List.mem_of_getElem? (i := 33) (by decide +kernel))) rfl
theorem w5_34 : Cond.code ⟨"Tracewheel$Machine", "addFrame", "(I)V"⟩ prog_5_method_8_code 3 none ∈ xTs := xin (wm_5 (List.mem_of_getElem? (i := 34) (by decide +kernel))) rfl
theorem w5_36 : Cond.static ⟨"Tracewheel", "localPlace", "(II)I"⟩ ∈ xTs := xin (wm_5 (List.mem_of_getElem? (i := 36) (by decide +kernel))) rfl
theorem w5_37 : Cond.code ⟨"Tracewheel", "localPlace", "(II)I"⟩ prog_1_method_59_code 2 (some .int) ∈ xTs := xin (wm_5 (List.mem_of_getElem? (i := 37) (by decide +kernel))) rfl
theorem w5_38 : Cond.methodLink "Tracewheel$Machine" 70 ⟨"Tracewheel$Slots", "put", "(ICI)V"⟩ ∈ xTs := xin (wm_5 (List.mem_of_getElem? (i := 38) (by decide +kernel))) rfl
theorem w5_39 : Cond.instanceMethod ⟨"Tracewheel$Slots", "put", "(ICI)V"⟩ ∈ xTs := xin (wm_5 (List.mem_of_getElem? (i := 39) (by decide +kernel))) rfl
theorem w5_40 : Cond.selects "Tracewheel$Slots" ⟨"Tracewheel$Slots", "put", "(ICI)V"⟩ ⟨"Tracewheel$Slots", "put", "(ICI)V"⟩ ∈ xTs := xin (wm_5 (List.mem_of_getElem? (i := 40) (by decide +kernel))) rfl
theorem w5_41 : Cond.code ⟨"Tracewheel$Slots", "put", "(ICI)V"⟩ prog_10_method_2_code 4 none ∈ xTs := xin (wm_5 (List.mem_of_getElem? (i := 41) (by decide +kernel))) rfl
theorem w5_42 : Cond.methodLink "Tracewheel" 203 ⟨"Tracewheel$Machine", "runOut", "()V"⟩ ∈ xTs := xin (wm_5 (List.mem_of_getElem? (i := 42) (by decide +kernel))) rfl
theorem w5_43 : Cond.instanceMethod ⟨"Tracewheel$Machine", "runOut", "()V"⟩ ∈ xTs := xin (wm_5 (List.mem_of_getElem? (i := 43) (by decide +kernel))) rfl
theorem w5_44 : Cond.selects "Tracewheel$Machine" ⟨"Tracewheel$Machine", "runOut", "()V"⟩ ⟨"Tracewheel$Machine", "runOut", "()V"⟩ ∈ xTs := xin (wm_5 (List.mem_of_getElem? (i := 44) (by decide +kernel))) rfl
theorem w5_45 : Cond.code ⟨"Tracewheel$Machine", "runOut", "()V"⟩ prog_5_method_3_code 3 none ∈ xTs := xin (wm_5 (List.mem_of_getElem? (i := 45) (by decide +kernel))) rfl
theorem w5_46 : Cond.constant "Tracewheel$Machine" 74 1000000 ∈ xTs := xin (wm_5 (List.mem_of_getElem? (i := 46) (by decide +kernel))) rfl
theorem w5_47 : Cond.methodLink "Tracewheel$Machine" 75 ⟨"Tracewheel$Machine", "isRunning", "()Z"⟩ ∈ xTs := xin (wm_5 (List.mem_of_getElem? (i := 47) (by decide +kernel))) rfl
theorem w5_48 : Cond.instanceMethod ⟨"Tracewheel$Machine", "isRunning", "()Z"⟩ ∈ xTs := xin (wm_5 (List.mem_of_getElem? (i := 48) (by decide +kernel))) rfl
theorem w5_49 : Cond.selects "Tracewheel$Machine" ⟨"Tracewheel$Machine", "isRunning", "()Z"⟩ ⟨"Tracewheel$Machine", "isRunning", "()Z"⟩ ∈ xTs := xin (wm_5 (List.mem_of_getElem? (i := 49) (by decide +kernel))) rfl
theorem w5_50 : Cond.code ⟨"Tracewheel$Machine", "isRunning", "()Z"⟩ prog_5_method_4_code 1 (some .boolean) ∈ xTs := xin (wm_5 (List.mem_of_getElem? (i := 50) (by decide +kernel))) rfl
theorem w5_51 : Cond.methodLink "Tracewheel$Machine" 79 ⟨"Tracewheel$Machine", "isAtLimit", "()Z"⟩ ∈ xTs := xin (wm_5 (List.mem_of_getElem? (i := 51) (by decide +kernel))) rfl
theorem w5_52 : Cond.instanceMethod ⟨"Tracewheel$Machine", "isAtLimit", "()Z"⟩ ∈ xTs := xin (wm_5 (List.mem_of_getElem? (i := 52) (by decide +kernel))) rfl
theorem w5_53 : Cond.selects "Tracewheel$Machine" ⟨"Tracewheel$Machine", "isAtLimit", "()Z"⟩ ⟨"Tracewheel$Machine", "isAtLimit", "()Z"⟩ ∈ xTs := xin (wm_5 (List.mem_of_getElem? (i := 53) (by decide +kernel))) rfl
theorem w5_54 : Cond.code ⟨"Tracewheel$Machine", "isAtLimit", "()Z"⟩ prog_5_method_5_code 1 (some .boolean) ∈ xTs := xin (wm_5 (List.mem_of_getElem? (i := 54) (by decide +kernel))) rfl
theorem w5_55 : Cond.methodLink "Tracewheel$Machine" 82 ⟨"Tracewheel$Machine", "endAtLimit", "()V"⟩ ∈ xTs := xin (wm_5 (List.mem_of_getElem? (i := 55) (by decide +kernel))) rfl
theorem w5_56 : Cond.instanceMethod ⟨"Tracewheel$Machine", "endAtLimit", "()V"⟩ ∈ xTs := xin (wm_5 (List.mem_of_getElem? (i := 56) (by decide +kernel))) rfl
theorem w5_57 : Cond.selects "Tracewheel$Machine" ⟨"Tracewheel$Machine", "endAtLimit", "()V"⟩ ⟨"Tracewheel$Machine", "endAtLimit", "()V"⟩ ∈ xTs := xin (wm_5 (List.mem_of_getElem? (i := 57) (by decide +kernel))) rfl
theorem w5_58 : Cond.code ⟨"Tracewheel$Machine", "endAtLimit", "()V"⟩ prog_5_method_6_code 1 none ∈ xTs := xin (wm_5 (List.mem_of_getElem? (i := 58) (by decide +kernel))) rfl
theorem w5_59 : Cond.methodLink "Tracewheel$Machine" 96 ⟨"Tracewheel$Machine", "lineAhead", "()I"⟩ ∈ xTs := xin (wm_5 (List.mem_of_getElem? (i := 59) (by decide +kernel))) rfl
theorem w5_60 : Cond.instanceMethod ⟨"Tracewheel$Machine", "lineAhead", "()I"⟩ ∈ xTs := xin (wm_5 (List.mem_of_getElem? (i := 60) (by decide +kernel))) rfl
theorem w5_61 : Cond.selects "Tracewheel$Machine" ⟨"Tracewheel$Machine", "lineAhead", "()I"⟩ ⟨"Tracewheel$Machine", "lineAhead", "()I"⟩ ∈ xTs := xin (wm_5 (List.mem_of_getElem? (i := 61) (by decide +kernel))) rfl
theorem w5_62 : Cond.code ⟨"Tracewheel$Machine", "lineAhead", "()I"⟩ prog_5_method_12_code 1 (some .int) ∈ xTs := xin (wm_5 (List.mem_of_getElem? (i := 62) (by decide +kernel))) rfl
theorem w5_63 : Cond.methodLink "Tracewheel$Machine" 104 ⟨"Tracewheel$Machine", "functionAhead", "()I"⟩ ∈ xTs := xin (wm_5 (List.mem_of_getElem? (i := 63) (by decide +kernel))) rfl
theorem w5_64 : Cond.instanceMethod ⟨"Tracewheel$Machine", "functionAhead", "()I"⟩ ∈ xTs := xin (wm_5 (List.mem_of_getElem? (i := 64) (by decide +kernel))) rfl
theorem w5_65 : Cond.selects "Tracewheel$Machine" ⟨"Tracewheel$Machine", "functionAhead", "()I"⟩ ⟨"Tracewheel$Machine", "functionAhead", "()I"⟩ ∈ xTs := xin (wm_5 (List.mem_of_getElem? (i := 65) (by decide +kernel))) rfl
theorem w5_66 : Cond.code ⟨"Tracewheel$Machine", "functionAhead", "()I"⟩ prog_5_method_9_code 1 (some .int) ∈ xTs := xin (wm_5 (List.mem_of_getElem? (i := 66) (by decide +kernel))) rfl
theorem w5_67 : Cond.methodLink "Tracewheel$Machine" 107 ⟨"Tracewheel$Machine", "indexAhead", "()I"⟩ ∈ xTs := xin (wm_5 (List.mem_of_getElem? (i := 67) (by decide +kernel))) rfl
theorem w5_68 : Cond.instanceMethod ⟨"Tracewheel$Machine", "indexAhead", "()I"⟩ ∈ xTs := xin (wm_5 (List.mem_of_getElem? (i := 68) (by decide +kernel))) rfl
theorem w5_69 : Cond.selects "Tracewheel$Machine" ⟨"Tracewheel$Machine", "indexAhead", "()I"⟩ ⟨"Tracewheel$Machine", "indexAhead", "()I"⟩ ∈ xTs := xin (wm_5 (List.mem_of_getElem? (i := 69) (by decide +kernel))) rfl
theorem w5_70 : Cond.code ⟨"Tracewheel$Machine", "indexAhead", "()I"⟩ prog_5_method_10_code 1 (some .int) ∈ xTs := xin (wm_5 (List.mem_of_getElem? (i := 70) (by decide +kernel))) rfl
theorem w5_71 : Cond.methodLink "Tracewheel$Machine" 100 ⟨"Tracewheel$Machine", "endWith", "(CI)V"⟩ ∈ xTs := xin (wm_5 (List.mem_of_getElem? (i := 71) (by decide +kernel))) rfl
theorem w5_73 : Cond.instanceMethod ⟨"Tracewheel$Machine", "endWith", "(CI)V"⟩ ∈ xTs := xin (wm_5 (List.mem_of_getElem? (i := 73) (by decide +kernel))) rfl
theorem w5_74 : Cond.code ⟨"Tracewheel$Machine", "endWith", "(CI)V"⟩ prog_5_method_7_code 3 none ∈ xTs := xin (wm_5 (List.mem_of_getElem? (i := 74) (by decide +kernel))) rfl
theorem w5_75 : Cond.methodLink "Tracewheel$Machine" 85 ⟨"Tracewheel$Machine", "failureAhead", "()C"⟩ ∈ xTs := xin (wm_5 (List.mem_of_getElem? (i := 75) (by decide +kernel))) rfl
theorem w5_76 : Cond.instanceMethod ⟨"Tracewheel$Machine", "failureAhead", "()C"⟩ ∈ xTs := xin (wm_5 (List.mem_of_getElem? (i := 76) (by decide +kernel))) rfl
theorem w5_77 : Cond.selects "Tracewheel$Machine" ⟨"Tracewheel$Machine", "failureAhead", "()C"⟩ ⟨"Tracewheel$Machine", "failureAhead", "()C"⟩ ∈ xTs := xin (wm_5 (List.mem_of_getElem? (i := 77) (by decide +kernel))) rfl
theorem w5_78 : Cond.code ⟨"Tracewheel$Machine", "failureAhead", "()C"⟩ prog_5_method_16_code 1 (some .char) ∈ xTs := xin (wm_5 (List.mem_of_getElem? (i := 78) (by decide +kernel))) rfl
theorem w5_79 : Cond.methodLink "Tracewheel$Machine" 128 ⟨"Tracewheel$Program", "hasCode", "(II)Z"⟩ ∈ xTs := xin (wm_5 (List.mem_of_getElem? (i := 79) (by decide +kernel))) rfl
theorem w5_80 : Cond.instanceMethod ⟨"Tracewheel$Program", "hasCode", "(II)Z"⟩ ∈ xTs := xin (wm_5 (List.mem_of_getElem? (i := 80) (by decide +kernel))) rfl
theorem w5_81 : Cond.selects "Tracewheel$Program" ⟨"Tracewheel$Program", "hasCode", "(II)Z"⟩ ⟨"Tracewheel$Program", "hasCode", "(II)Z"⟩ ∈ xTs := xin (wm_5 (List.mem_of_getElem? (i := 81) (by decide +kernel))) rfl
theorem w5_82 : Cond.code ⟨"Tracewheel$Program", "hasCode", "(II)Z"⟩ prog_7_method_4_code 3 (some .boolean) ∈ xTs := xin (wm_5 (List.mem_of_getElem? (i := 82) (by decide +kernel))) rfl
theorem w5_83 : Cond.methodLink "Tracewheel$Machine" 138 ⟨"Tracewheel$Machine", "siteAhead", "()I"⟩ ∈ xTs := xin (wm_5 (List.mem_of_getElem? (i := 83) (by decide +kernel))) rfl
theorem w5_84 : Cond.instanceMethod ⟨"Tracewheel$Machine", "siteAhead", "()I"⟩ ∈ xTs := xin (wm_5 (List.mem_of_getElem? (i := 84) (by decide +kernel))) rfl
theorem w5_85 : Cond.selects "Tracewheel$Machine" ⟨"Tracewheel$Machine", "siteAhead", "()I"⟩ ⟨"Tracewheel$Machine", "siteAhead", "()I"⟩ ∈ xTs := xin (wm_5 (List.mem_of_getElem? (i := 85) (by decide +kernel))) rfl
theorem w5_86 : Cond.code ⟨"Tracewheel$Machine", "siteAhead", "()I"⟩ prog_5_method_11_code 1 (some .int) ∈ xTs := xin (wm_5 (List.mem_of_getElem? (i := 86) (by decide +kernel))) rfl
theorem w5_88 : Cond.methodLink "Tracewheel$Machine" 150 ⟨"Tracewheel$Machine", "failsByStack", "(CI)Z"⟩ ∈ xTs := xin (wm_5 (List.mem_of_getElem? (i := 88) (by decide +kernel))) rfl
theorem w5_90 : Cond.instanceMethod ⟨"Tracewheel$Machine", "failsByStack", "(CI)Z"⟩ ∈ xTs := xin (wm_5 (List.mem_of_getElem? (i := 90) (by decide +kernel))) rfl
theorem w5_91 : Cond.code ⟨"Tracewheel$Machine", "failsByStack", "(CI)Z"⟩ prog_5_method_17_code 5 (some .boolean) ∈ xTs := xin (wm_5 (List.mem_of_getElem? (i := 91) (by decide +kernel))) rfl
theorem w5_92 : Cond.methodLink "Tracewheel$Machine" 162 ⟨"Tracewheel$Machine", "takes", "(CI)I"⟩ ∈ xTs := xin (wm_5 (List.mem_of_getElem? (i := 92) (by decide +kernel))) rfl
theorem w5_94 : Cond.instanceMethod ⟨"Tracewheel$Machine", "takes", "(CI)I"⟩ ∈ xTs := xin (wm_5 (List.mem_of_getElem? (i := 94) (by decide +kernel))) rfl
theorem w5_95 : Cond.code ⟨"Tracewheel$Machine", "takes", "(CI)I"⟩ prog_5_method_18_code 3 (some .int) ∈ xTs := xin (wm_5 (List.mem_of_getElem? (i := 95) (by decide +kernel))) rfl
theorem w5_97 : Cond.methodLink "Tracewheel$Machine" 175 ⟨"java/lang/String", "indexOf", "(I)I"⟩ ∈ xTs := xin (wm_5 (List.mem_of_getElem? (i := 97) (by decide +kernel))) rfl
theorem w5_98 : Cond.methodLink "Tracewheel$Machine" 166 ⟨"Tracewheel$Machine", "pushes", "(C)I"⟩ ∈ xTs := xin (wm_5 (List.mem_of_getElem? (i := 98) (by decide +kernel))) rfl
theorem w5_100 : Cond.instanceMethod ⟨"Tracewheel$Machine", "pushes", "(C)I"⟩ ∈ xTs := xin (wm_5 (List.mem_of_getElem? (i := 100) (by decide +kernel))) rfl
theorem w5_101 : Cond.code ⟨"Tracewheel$Machine", "pushes", "(C)I"⟩ prog_5_method_19_code 2 (some .int) ∈ xTs := xin (wm_5 (List.mem_of_getElem? (i := 101) (by decide +kernel))) rfl
theorem w5_102 : Cond.methodLink "Tracewheel$Machine" 154 ⟨"Tracewheel$Machine", "failsByKind", "(C)Z"⟩ ∈ xTs := xin (wm_5 (List.mem_of_getElem? (i := 102) (by decide +kernel))) rfl
theorem w5_104 : Cond.instanceMethod ⟨"Tracewheel$Machine", "failsByKind", "(C)Z"⟩ ∈ xTs := xin (wm_5 (List.mem_of_getElem? (i := 104) (by decide +kernel))) rfl
theorem w5_105 : Cond.code ⟨"Tracewheel$Machine", "failsByKind", "(C)Z"⟩ prog_5_method_20_code 2 (some .boolean) ∈ xTs := xin (wm_5 (List.mem_of_getElem? (i := 105) (by decide +kernel))) rfl
theorem w5_106 : Cond.methodLink "Tracewheel$Machine" 116 ⟨"Tracewheel$Machine", "fromTop", "(I)I"⟩ ∈ xTs := xin (wm_5 (List.mem_of_getElem? (i := 106) (by decide +kernel))) rfl
theorem w5_107 : Cond.instanceMethod ⟨"Tracewheel$Machine", "fromTop", "(I)I"⟩ ∈ xTs := xin (wm_5 (List.mem_of_getElem? (i := 107) (by decide +kernel))) rfl
theorem w5_108 : Cond.selects "Tracewheel$Machine" ⟨"Tracewheel$Machine", "fromTop", "(I)I"⟩ ⟨"Tracewheel$Machine", "fromTop", "(I)I"⟩ ∈ xTs := xin (wm_5 (List.mem_of_getElem? (i := 108) (by decide +kernel))) rfl
theorem w5_109 : Cond.code ⟨"Tracewheel$Machine", "fromTop", "(I)I"⟩ prog_5_method_13_code 3 (some .int) ∈ xTs := xin (wm_5 (List.mem_of_getElem? (i := 109) (by decide +kernel))) rfl
theorem w5_110 : Cond.methodLink "Tracewheel$Machine" 180 ⟨"Tracewheel$Slots", "isNumber", "(I)Z"⟩ ∈ xTs := xin (wm_5 (List.mem_of_getElem? (i := 110) (by decide +kernel))) rfl
theorem w5_111 : Cond.instanceMethod ⟨"Tracewheel$Slots", "isNumber", "(I)Z"⟩ ∈ xTs := xin (wm_5 (List.mem_of_getElem? (i := 111) (by decide +kernel))) rfl
theorem w5_112 : Cond.selects "Tracewheel$Slots" ⟨"Tracewheel$Slots", "isNumber", "(I)Z"⟩ ⟨"Tracewheel$Slots", "isNumber", "(I)Z"⟩ ∈ xTs := xin (wm_5 (List.mem_of_getElem? (i := 112) (by decide +kernel))) rfl
theorem w5_113 : Cond.code ⟨"Tracewheel$Slots", "isNumber", "(I)Z"⟩ prog_10_method_5_code 2 (some .boolean) ∈ xTs := xin (wm_5 (List.mem_of_getElem? (i := 113) (by decide +kernel))) rfl
theorem w5_115 : Cond.methodLink "Tracewheel$Machine" 158 ⟨"Tracewheel$Machine", "failureByValue", "(CI)C"⟩ ∈ xTs := xin (wm_5 (List.mem_of_getElem? (i := 115) (by decide +kernel))) rfl
theorem w5_117 : Cond.instanceMethod ⟨"Tracewheel$Machine", "failureByValue", "(CI)C"⟩ ∈ xTs := xin (wm_5 (List.mem_of_getElem? (i := 117) (by decide +kernel))) rfl
theorem w5_118 : Cond.code ⟨"Tracewheel$Machine", "failureByValue", "(CI)C"⟩ prog_5_method_21_code 3 (some .char) ∈ xTs := xin (wm_5 (List.mem_of_getElem? (i := 118) (by decide +kernel))) rfl
theorem w5_119 : Cond.methodLink "Tracewheel$Machine" 189 ⟨"Tracewheel$Machine", "dividesByZero", "()Z"⟩ ∈ xTs := xin (wm_5 (List.mem_of_getElem? (i := 119) (by decide +kernel))) rfl
theorem w5_121 : Cond.instanceMethod ⟨"Tracewheel$Machine", "dividesByZero", "()Z"⟩ ∈ xTs := xin (wm_5 (List.mem_of_getElem? (i := 121) (by decide +kernel))) rfl
theorem w5_122 : Cond.code ⟨"Tracewheel$Machine", "dividesByZero", "()Z"⟩ prog_5_method_22_code 1 (some .boolean) ∈ xTs := xin (wm_5 (List.mem_of_getElem? (i := 122) (by decide +kernel))) rfl
theorem w5_123 : Cond.methodLink "Tracewheel$Machine" 210 ⟨"Tracewheel$Slots", "areIntegers", "(II)Z"⟩ ∈ xTs := xin (wm_5 (List.mem_of_getElem? (i := 123) (by decide +kernel))) rfl
theorem w5_124 : Cond.instanceMethod ⟨"Tracewheel$Slots", "areIntegers", "(II)Z"⟩ ∈ xTs := xin (wm_5 (List.mem_of_getElem? (i := 124) (by decide +kernel))) rfl
theorem w5_125 : Cond.selects "Tracewheel$Slots" ⟨"Tracewheel$Slots", "areIntegers", "(II)Z"⟩ ⟨"Tracewheel$Slots", "areIntegers", "(II)Z"⟩ ∈ xTs := xin (wm_5 (List.mem_of_getElem? (i := 125) (by decide +kernel))) rfl
theorem w5_126 : Cond.code ⟨"Tracewheel$Slots", "areIntegers", "(II)Z"⟩ prog_10_method_6_code 3 (some .boolean) ∈ xTs := xin (wm_5 (List.mem_of_getElem? (i := 126) (by decide +kernel))) rfl
theorem w5_127 : Cond.methodLink "Tracewheel$Machine" 192 ⟨"Tracewheel$Slots", "hasNearest", "(I)Z"⟩ ∈ xTs := xin (wm_5 (List.mem_of_getElem? (i := 127) (by decide +kernel))) rfl
theorem w5_128 : Cond.instanceMethod ⟨"Tracewheel$Slots", "hasNearest", "(I)Z"⟩ ∈ xTs := xin (wm_5 (List.mem_of_getElem? (i := 128) (by decide +kernel))) rfl
theorem w5_129 : Cond.selects "Tracewheel$Slots" ⟨"Tracewheel$Slots", "hasNearest", "(I)Z"⟩ ⟨"Tracewheel$Slots", "hasNearest", "(I)Z"⟩ ∈ xTs := xin (wm_5 (List.mem_of_getElem? (i := 129) (by decide +kernel))) rfl
theorem w5_130 : Cond.code ⟨"Tracewheel$Slots", "hasNearest", "(I)Z"⟩ prog_10_method_11_code 2 (some .boolean) ∈ xTs := xin (wm_5 (List.mem_of_getElem? (i := 130) (by decide +kernel))) rfl
theorem w5_131 : Cond.methodLink "Tracewheel$Slots" 30 ⟨"Tracewheel$Slots", "isUndefined", "(I)Z"⟩ ∈ xTs := xin (wm_5 (List.mem_of_getElem? (i := 131) (by decide +kernel))) rfl
theorem w5_132 : Cond.instanceMethod ⟨"Tracewheel$Slots", "isUndefined", "(I)Z"⟩ ∈ xTs := xin (wm_5 (List.mem_of_getElem? (i := 132) (by decide +kernel))) rfl
theorem w5_133 : Cond.selects "Tracewheel$Slots" ⟨"Tracewheel$Slots", "isUndefined", "(I)Z"⟩ ⟨"Tracewheel$Slots", "isUndefined", "(I)Z"⟩ ∈ xTs := xin (wm_5 (List.mem_of_getElem? (i := 133) (by decide +kernel))) rfl
theorem w5_134 : Cond.code ⟨"Tracewheel$Slots", "isUndefined", "(I)Z"⟩ prog_10_method_7_code 2 (some .boolean) ∈ xTs := xin (wm_5 (List.mem_of_getElem? (i := 134) (by decide +kernel))) rfl
theorem w5_135 : Cond.methodLink "Tracewheel$Slots" 42 ⟨"Tracewheel$Numbers", "hasNearest", "(D)Z"⟩ ∈ xTs := xin (wm_5 (List.mem_of_getElem? (i := 135) (by decide +kernel))) rfl
theorem w5_136 : Cond.static ⟨"Tracewheel$Numbers", "hasNearest", "(D)Z"⟩ ∈ xTs := xin (wm_5 (List.mem_of_getElem? (i := 136) (by decide +kernel))) rfl
theorem w5_137 : Cond.code ⟨"Tracewheel$Numbers", "hasNearest", "(D)Z"⟩ prog_6_method_8_code 2 (some .boolean) ∈ xTs := xin (wm_5 (List.mem_of_getElem? (i := 137) (by decide +kernel))) rfl
theorem w5_138 : Cond.constantDouble "Tracewheel$Numbers" 27 13970166044104327168 ∈ xTs := xin (wm_5 (List.mem_of_getElem? (i := 138) (by decide +kernel))) rfl
theorem w5_139 : Cond.constantDouble "Tracewheel$Numbers" 29 4746794007246405632 ∈ xTs := xin (wm_5 (List.mem_of_getElem? (i := 139) (by decide +kernel))) rfl
theorem w5_140 : Cond.methodLink "Tracewheel$Machine" 125 ⟨"Tracewheel$Machine", "shapeFromTop", "(I)I"⟩ ∈ xTs := xin (wm_5 (List.mem_of_getElem? (i := 140) (by decide +kernel))) rfl
theorem w5_141 : Cond.instanceMethod ⟨"Tracewheel$Machine", "shapeFromTop", "(I)I"⟩ ∈ xTs := xin (wm_5 (List.mem_of_getElem? (i := 141) (by decide +kernel))) rfl
theorem w5_142 : Cond.selects "Tracewheel$Machine" ⟨"Tracewheel$Machine", "shapeFromTop", "(I)I"⟩ ⟨"Tracewheel$Machine", "shapeFromTop", "(I)I"⟩ ∈ xTs := xin (wm_5 (List.mem_of_getElem? (i := 142) (by decide +kernel))) rfl
theorem w5_143 : Cond.code ⟨"Tracewheel$Machine", "shapeFromTop", "(I)I"⟩ prog_5_method_14_code 2 (some .int) ∈ xTs := xin (wm_5 (List.mem_of_getElem? (i := 143) (by decide +kernel))) rfl
theorem w5_144 : Cond.methodLink "Tracewheel$Machine" 195 ⟨"Tracewheel$Shapes", "has", "(II)Z"⟩ ∈ xTs := xin (wm_5 (List.mem_of_getElem? (i := 144) (by decide +kernel))) rfl
theorem w5_145 : Cond.instanceMethod ⟨"Tracewheel$Shapes", "has", "(II)Z"⟩ ∈ xTs := xin (wm_5 (List.mem_of_getElem? (i := 145) (by decide +kernel))) rfl
theorem w5_146 : Cond.selects "Tracewheel$Shapes" ⟨"Tracewheel$Shapes", "has", "(II)Z"⟩ ⟨"Tracewheel$Shapes", "has", "(II)Z"⟩ ∈ xTs := xin (wm_5 (List.mem_of_getElem? (i := 146) (by decide +kernel))) rfl
theorem w5_147 : Cond.code ⟨"Tracewheel$Shapes", "has", "(II)Z"⟩ prog_9_method_2_code 3 (some .boolean) ∈ xTs := xin (wm_5 (List.mem_of_getElem? (i := 147) (by decide +kernel))) rfl
theorem w5_148 : Cond.methodLink "Tracewheel$Machine" 198 ⟨"Tracewheel$Shapes", "canPut", "(II)Z"⟩ ∈ xTs := xin (wm_5 (List.mem_of_getElem? (i := 148) (by decide +kernel))) rfl
theorem w5_149 : Cond.instanceMethod ⟨"Tracewheel$Shapes", "canPut", "(II)Z"⟩ ∈ xTs := xin (wm_5 (List.mem_of_getElem? (i := 149) (by decide +kernel))) rfl
theorem w5_150 : Cond.selects "Tracewheel$Shapes" ⟨"Tracewheel$Shapes", "canPut", "(II)Z"⟩ ⟨"Tracewheel$Shapes", "canPut", "(II)Z"⟩ ∈ xTs := xin (wm_5 (List.mem_of_getElem? (i := 150) (by decide +kernel))) rfl
theorem w5_151 : Cond.code ⟨"Tracewheel$Shapes", "canPut", "(II)Z"⟩ prog_9_method_4_code 3 (some .boolean) ∈ xTs := xin (wm_5 (List.mem_of_getElem? (i := 151) (by decide +kernel))) rfl
theorem w5_152 : Cond.methodLink "Tracewheel$Shapes" 34 ⟨"Tracewheel$Shapes", "has", "(II)Z"⟩ ∈ xTs := xin (wm_5 (List.mem_of_getElem? (i := 152) (by decide +kernel))) rfl
theorem w5_153 : Cond.methodLink "Tracewheel$Machine" 201 ⟨"Tracewheel$Machine", "classFromTop", "()I"⟩ ∈ xTs := xin (wm_5 (List.mem_of_getElem? (i := 153) (by decide +kernel))) rfl
theorem w5_154 : Cond.instanceMethod ⟨"Tracewheel$Machine", "classFromTop", "()I"⟩ ∈ xTs := xin (wm_5 (List.mem_of_getElem? (i := 154) (by decide +kernel))) rfl
theorem w5_155 : Cond.selects "Tracewheel$Machine" ⟨"Tracewheel$Machine", "classFromTop", "()I"⟩ ⟨"Tracewheel$Machine", "classFromTop", "()I"⟩ ∈ xTs := xin (wm_5 (List.mem_of_getElem? (i := 155) (by decide +kernel))) rfl
theorem w5_156 : Cond.code ⟨"Tracewheel$Machine", "classFromTop", "()I"⟩ prog_5_method_15_code 1 (some .int) ∈ xTs := xin (wm_5 (List.mem_of_getElem? (i := 156) (by decide +kernel))) rfl
theorem w5_157 : Cond.methodLink "Tracewheel$Machine" 204 ⟨"Tracewheel$Program", "methodOf", "(II)I"⟩ ∈ xTs := xin (wm_5 (List.mem_of_getElem? (i := 157) (by decide +kernel))) rfl
theorem w5_158 : Cond.instanceMethod ⟨"Tracewheel$Program", "methodOf", "(II)I"⟩ ∈ xTs := xin (wm_5 (List.mem_of_getElem? (i := 158) (by decide +kernel))) rfl
theorem w5_159 : Cond.selects "Tracewheel$Program" ⟨"Tracewheel$Program", "methodOf", "(II)I"⟩ ⟨"Tracewheel$Program", "methodOf", "(II)I"⟩ ∈ xTs := xin (wm_5 (List.mem_of_getElem? (i := 159) (by decide +kernel))) rfl
theorem w5_160 : Cond.code ⟨"Tracewheel$Program", "methodOf", "(II)I"⟩ prog_7_method_10_code 5 (some .int) ∈ xTs := xin (wm_5 (List.mem_of_getElem? (i := 160) (by decide +kernel))) rfl
theorem w5_161 : Cond.methodLink "Tracewheel$Machine" 207 ⟨"Tracewheel$Machine", "failureByDepth", "()C"⟩ ∈ xTs := xin (wm_5 (List.mem_of_getElem? (i := 161) (by decide +kernel))) rfl
theorem w5_163 : Cond.instanceMethod ⟨"Tracewheel$Machine", "failureByDepth", "()C"⟩ ∈ xTs := xin (wm_5 (List.mem_of_getElem? (i := 163) (by decide +kernel))) rfl
theorem w5_164 : Cond.code ⟨"Tracewheel$Machine", "failureByDepth", "()C"⟩ prog_5_method_23_code 1 (some .char) ∈ xTs := xin (wm_5 (List.mem_of_getElem? (i := 164) (by decide +kernel))) rfl
theorem w5_165 : Cond.methodLink "Tracewheel$Machine" 89 ⟨"Tracewheel$Machine", "failWith", "(C)V"⟩ ∈ xTs := xin (wm_5 (List.mem_of_getElem? (i := 165) (by decide +kernel))) rfl
theorem w5_166 : Cond.instanceMethod ⟨"Tracewheel$Machine", "failWith", "(C)V"⟩ ∈ xTs := xin (wm_5 (List.mem_of_getElem? (i := 166) (by decide +kernel))) rfl
theorem w5_167 : Cond.selects "Tracewheel$Machine" ⟨"Tracewheel$Machine", "failWith", "(C)V"⟩ ⟨"Tracewheel$Machine", "failWith", "(C)V"⟩ ∈ xTs := xin (wm_5 (List.mem_of_getElem? (i := 167) (by decide +kernel))) rfl
theorem w5_168 : Cond.code ⟨"Tracewheel$Machine", "failWith", "(C)V"⟩ prog_5_method_24_code 3 none ∈ xTs := xin (wm_5 (List.mem_of_getElem? (i := 168) (by decide +kernel))) rfl
theorem w5_169 : Cond.methodLink "Tracewheel$Machine" 216 ⟨"Tracewheel$Machine", "pushPut", "(CI)V"⟩ ∈ xTs := xin (wm_5 (List.mem_of_getElem? (i := 169) (by decide +kernel))) rfl
theorem w5_171 : Cond.instanceMethod ⟨"Tracewheel$Machine", "pushPut", "(CI)V"⟩ ∈ xTs := xin (wm_5 (List.mem_of_getElem? (i := 171) (by decide +kernel))) rfl
theorem w5_172 : Cond.code ⟨"Tracewheel$Machine", "pushPut", "(CI)V"⟩ prog_5_method_29_code 3 none ∈ xTs := xin (wm_5 (List.mem_of_getElem? (i := 172) (by decide +kernel))) rfl
theorem w5_173 : Cond.methodLink "Tracewheel$Machine" 93 ⟨"Tracewheel$Machine", "execute", "()Z"⟩ ∈ xTs := xin (wm_5 (List.mem_of_getElem? (i := 173) (by decide +kernel))) rfl
theorem w5_174 : Cond.instanceMethod ⟨"Tracewheel$Machine", "execute", "()Z"⟩ ∈ xTs := xin (wm_5 (List.mem_of_getElem? (i := 174) (by decide +kernel))) rfl
theorem w5_175 : Cond.selects "Tracewheel$Machine" ⟨"Tracewheel$Machine", "execute", "()Z"⟩ ⟨"Tracewheel$Machine", "execute", "()Z"⟩ ∈ xTs := xin (wm_5 (List.mem_of_getElem? (i := 175) (by decide +kernel))) rfl
theorem w5_176 : Cond.code ⟨"Tracewheel$Machine", "execute", "()Z"⟩ prog_5_method_25_code 4 (some .boolean) ∈ xTs := xin (wm_5 (List.mem_of_getElem? (i := 176) (by decide +kernel))) rfl
theorem w5_177 : Cond.methodLink "Tracewheel$Machine" 219 ⟨"Tracewheel$Machine", "jumpsAtNull", "(II)Z"⟩ ∈ xTs := xin (wm_5 (List.mem_of_getElem? (i := 177) (by decide +kernel))) rfl
theorem w5_179 : Cond.instanceMethod ⟨"Tracewheel$Machine", "jumpsAtNull", "(II)Z"⟩ ∈ xTs := xin (wm_5 (List.mem_of_getElem? (i := 179) (by decide +kernel))) rfl
theorem w5_180 : Cond.code ⟨"Tracewheel$Machine", "jumpsAtNull", "(II)Z"⟩ prog_5_method_32_code 3 (some .boolean) ∈ xTs := xin (wm_5 (List.mem_of_getElem? (i := 180) (by decide +kernel))) rfl
theorem w5_181 : Cond.methodLink "Tracewheel$Machine" 241 ⟨"Tracewheel$Machine", "take", "()I"⟩ ∈ xTs := xin (wm_5 (List.mem_of_getElem? (i := 181) (by decide +kernel))) rfl
theorem w5_183 : Cond.instanceMethod ⟨"Tracewheel$Machine", "take", "()I"⟩ ∈ xTs := xin (wm_5 (List.mem_of_getElem? (i := 183) (by decide +kernel))) rfl
theorem w5_184 : Cond.code ⟨"Tracewheel$Machine", "take", "()I"⟩ prog_5_method_28_code 1 (some .int) ∈ xTs := xin (wm_5 (List.mem_of_getElem? (i := 184) (by decide +kernel))) rfl
theorem w5_185 : Cond.methodLink "Tracewheel$Machine" 266 ⟨"Tracewheel$Slots", "isNull", "(I)Z"⟩ ∈ xTs := xin (wm_5 (List.mem_of_getElem? (i := 185) (by decide +kernel))) rfl
theorem w5_186 : Cond.instanceMethod ⟨"Tracewheel$Slots", "isNull", "(I)Z"⟩ ∈ xTs := xin (wm_5 (List.mem_of_getElem? (i := 186) (by decide +kernel))) rfl
theorem w5_187 : Cond.selects "Tracewheel$Slots" ⟨"Tracewheel$Slots", "isNull", "(I)Z"⟩ ⟨"Tracewheel$Slots", "isNull", "(I)Z"⟩ ∈ xTs := xin (wm_5 (List.mem_of_getElem? (i := 187) (by decide +kernel))) rfl
theorem w5_188 : Cond.code ⟨"Tracewheel$Slots", "isNull", "(I)Z"⟩ prog_10_method_9_code 2 (some .boolean) ∈ xTs := xin (wm_5 (List.mem_of_getElem? (i := 188) (by decide +kernel))) rfl
theorem w5_189 : Cond.methodLink "Tracewheel$Machine" 222 ⟨"Tracewheel$Machine", "call", "(II)V"⟩ ∈ xTs := xin (wm_5 (List.mem_of_getElem? (i := 189) (by decide +kernel))) rfl
theorem w5_191 : Cond.instanceMethod ⟨"Tracewheel$Machine", "call", "(II)V"⟩ ∈ xTs := xin (wm_5 (List.mem_of_getElem? (i := 191) (by decide +kernel))) rfl
theorem w5_192 : Cond.code ⟨"Tracewheel$Machine", "call", "(II)V"⟩ prog_5_method_33_code 5 none ∈ xTs := xin (wm_5 (List.mem_of_getElem? (i := 192) (by decide +kernel))) rfl
theorem w5_193 : Cond.methodLink "Tracewheel$Machine" 244 ⟨"Tracewheel$Slots", "move", "(II)V"⟩ ∈ xTs := xin (wm_5 (List.mem_of_getElem? (i := 193) (by decide +kernel))) rfl
theorem w5_194 : Cond.instanceMethod ⟨"Tracewheel$Slots", "move", "(II)V"⟩ ∈ xTs := xin (wm_5 (List.mem_of_getElem? (i := 194) (by decide +kernel))) rfl
theorem w5_195 : Cond.selects "Tracewheel$Slots" ⟨"Tracewheel$Slots", "move", "(II)V"⟩ ⟨"Tracewheel$Slots", "move", "(II)V"⟩ ∈ xTs := xin (wm_5 (List.mem_of_getElem? (i := 195) (by decide +kernel))) rfl
theorem w5_196 : Cond.code ⟨"Tracewheel$Slots", "move", "(II)V"⟩ prog_10_method_4_code 3 none ∈ xTs := xin (wm_5 (List.mem_of_getElem? (i := 196) (by decide +kernel))) rfl
theorem w5_197 : Cond.methodLink "Tracewheel$Machine" 226 ⟨"Tracewheel$Machine", "giveBack", "()V"⟩ ∈ xTs := xin (wm_5 (List.mem_of_getElem? (i := 197) (by decide +kernel))) rfl
theorem w5_199 : Cond.instanceMethod ⟨"Tracewheel$Machine", "giveBack", "()V"⟩ ∈ xTs := xin (wm_5 (List.mem_of_getElem? (i := 199) (by decide +kernel))) rfl
theorem w5_200 : Cond.code ⟨"Tracewheel$Machine", "giveBack", "()V"⟩ prog_5_method_34_code 2 none ∈ xTs := xin (wm_5 (List.mem_of_getElem? (i := 200) (by decide +kernel))) rfl
theorem w5_201 : Cond.methodLink "Tracewheel$Machine" 238 ⟨"Tracewheel$Machine", "pushMoved", "(I)V"⟩ ∈ xTs := xin (wm_5 (List.mem_of_getElem? (i := 201) (by decide +kernel))) rfl
theorem w5_203 : Cond.instanceMethod ⟨"Tracewheel$Machine", "pushMoved", "(I)V"⟩ ∈ xTs := xin (wm_5 (List.mem_of_getElem? (i := 203) (by decide +kernel))) rfl
theorem w5_204 : Cond.code ⟨"Tracewheel$Machine", "pushMoved", "(I)V"⟩ prog_5_method_30_code 2 none ∈ xTs := xin (wm_5 (List.mem_of_getElem? (i := 204) (by decide +kernel))) rfl
theorem w5_205 : Cond.methodLink "Tracewheel$Machine" 229 ⟨"Tracewheel$Machine", "useObject", "(CI)V"⟩ ∈ xTs := xin (wm_5 (List.mem_of_getElem? (i := 205) (by decide +kernel))) rfl
theorem w5_207 : Cond.instanceMethod ⟨"Tracewheel$Machine", "useObject", "(CI)V"⟩ ∈ xTs := xin (wm_5 (List.mem_of_getElem? (i := 207) (by decide +kernel))) rfl
theorem w5_208 : Cond.code ⟨"Tracewheel$Machine", "useObject", "(CI)V"⟩ prog_5_method_27_code 5 none ∈ xTs := xin (wm_5 (List.mem_of_getElem? (i := 208) (by decide +kernel))) rfl
theorem w5_210 : Cond.static ⟨"Tracewheel", "fieldPlace", "(II)I"⟩ ∈ xTs := xin (wm_5 (List.mem_of_getElem? (i := 210) (by decide +kernel))) rfl
theorem w5_211 : Cond.code ⟨"Tracewheel", "fieldPlace", "(II)I"⟩ prog_1_method_60_code 2 (some .int) ∈ xTs := xin (wm_5 (List.mem_of_getElem? (i := 211) (by decide +kernel))) rfl
theorem w5_212 : Cond.methodLink "Tracewheel$Machine" 263 ⟨"Tracewheel$Shapes", "behindPut", "(II)I"⟩ ∈ xTs := xin (wm_5 (List.mem_of_getElem? (i := 212) (by decide +kernel))) rfl
theorem w5_213 : Cond.instanceMethod ⟨"Tracewheel$Shapes", "behindPut", "(II)I"⟩ ∈ xTs := xin (wm_5 (List.mem_of_getElem? (i := 213) (by decide +kernel))) rfl
theorem w5_214 : Cond.selects "Tracewheel$Shapes" ⟨"Tracewheel$Shapes", "behindPut", "(II)I"⟩ ⟨"Tracewheel$Shapes", "behindPut", "(II)I"⟩ ∈ xTs := xin (wm_5 (List.mem_of_getElem? (i := 214) (by decide +kernel))) rfl
theorem w5_215 : Cond.code ⟨"Tracewheel$Shapes", "behindPut", "(II)I"⟩ prog_9_method_5_code 3 (some .int) ∈ xTs := xin (wm_5 (List.mem_of_getElem? (i := 215) (by decide +kernel))) rfl
theorem w5_216 : Cond.methodLink "Tracewheel$Shapes" 38 ⟨"Tracewheel$Shapes", "addLonger", "(II)I"⟩ ∈ xTs := xin (wm_5 (List.mem_of_getElem? (i := 216) (by decide +kernel))) rfl
theorem w5_218 : Cond.instanceMethod ⟨"Tracewheel$Shapes", "addLonger", "(II)I"⟩ ∈ xTs := xin (wm_5 (List.mem_of_getElem? (i := 218) (by decide +kernel))) rfl
theorem w5_219 : Cond.code ⟨"Tracewheel$Shapes", "addLonger", "(II)I"⟩ prog_9_method_6_code 5 (some .int) ∈ xTs := xin (wm_5 (List.mem_of_getElem? (i := 219) (by decide +kernel))) rfl
theorem w5_220 : Cond.methodLink "Tracewheel$Shapes" 42 ⟨"Tracewheel$Shapes", "addEmpty", "(I)I"⟩ ∈ xTs := xin (wm_5 (List.mem_of_getElem? (i := 220) (by decide +kernel))) rfl
theorem w5_221 : Cond.methodLink "Tracewheel$Machine" 232 ⟨"Tracewheel$Machine", "useStack", "(CI)V"⟩ ∈ xTs := xin (wm_5 (List.mem_of_getElem? (i := 221) (by decide +kernel))) rfl
theorem w5_223 : Cond.instanceMethod ⟨"Tracewheel$Machine", "useStack", "(CI)V"⟩ ∈ xTs := xin (wm_5 (List.mem_of_getElem? (i := 223) (by decide +kernel))) rfl
theorem w5_224 : Cond.code ⟨"Tracewheel$Machine", "useStack", "(CI)V"⟩ prog_5_method_26_code 3 none ∈ xTs := xin (wm_5 (List.mem_of_getElem? (i := 224) (by decide +kernel))) rfl
theorem w5_225 : Cond.methodLink "Tracewheel$Machine" 247 ⟨"Tracewheel$Machine", "tell", "(I)V"⟩ ∈ xTs := xin (wm_5 (List.mem_of_getElem? (i := 225) (by decide +kernel))) rfl
theorem w5_227 : Cond.instanceMethod ⟨"Tracewheel$Machine", "tell", "(I)V"⟩ ∈ xTs := xin (wm_5 (List.mem_of_getElem? (i := 227) (by decide +kernel))) rfl
theorem w5_228 : Cond.code ⟨"Tracewheel$Machine", "tell", "(I)V"⟩ prog_5_method_31_code 2 none ∈ xTs := xin (wm_5 (List.mem_of_getElem? (i := 228) (by decide +kernel))) rfl
theorem w5_229 : Cond.methodLink "Tracewheel$Machine" 250 ⟨"Tracewheel$Slots", "round", "(I)V"⟩ ∈ xTs := xin (wm_5 (List.mem_of_getElem? (i := 229) (by decide +kernel))) rfl
theorem w5_230 : Cond.instanceMethod ⟨"Tracewheel$Slots", "round", "(I)V"⟩ ∈ xTs := xin (wm_5 (List.mem_of_getElem? (i := 230) (by decide +kernel))) rfl
theorem w5_231 : Cond.selects "Tracewheel$Slots" ⟨"Tracewheel$Slots", "round", "(I)V"⟩ ⟨"Tracewheel$Slots", "round", "(I)V"⟩ ∈ xTs := xin (wm_5 (List.mem_of_getElem? (i := 231) (by decide +kernel))) rfl
theorem w5_232 : Cond.code ⟨"Tracewheel$Slots", "round", "(I)V"⟩ prog_10_method_12_code 2 none ∈ xTs := xin (wm_5 (List.mem_of_getElem? (i := 232) (by decide +kernel))) rfl
theorem w5_233 : Cond.methodLink "Tracewheel$Slots" 46 ⟨"Tracewheel$Numbers", "nearest", "(D)I"⟩ ∈ xTs := xin (wm_5 (List.mem_of_getElem? (i := 233) (by decide +kernel))) rfl
theorem w5_234 : Cond.static ⟨"Tracewheel$Numbers", "nearest", "(D)I"⟩ ∈ xTs := xin (wm_5 (List.mem_of_getElem? (i := 234) (by decide +kernel))) rfl
theorem w5_235 : Cond.code ⟨"Tracewheel$Numbers", "nearest", "(D)I"⟩ prog_6_method_9_code 7 (some .int) ∈ xTs := xin (wm_5 (List.mem_of_getElem? (i := 235) (by decide +kernel))) rfl
theorem w5_236 : Cond.constantDouble "Tracewheel$Numbers" 31 4602678819172646912 ∈ xTs := xin (wm_5 (List.mem_of_getElem? (i := 236) (by decide +kernel))) rfl
theorem w5_237 : Cond.constantDouble "Tracewheel$Numbers" 33 13826050856027422720 ∈ xTs := xin (wm_5 (List.mem_of_getElem? (i := 237) (by decide +kernel))) rfl
theorem w5_238 : Cond.methodLink "Tracewheel$Slots" 26 ⟨"Tracewheel$Slots", "put", "(ICI)V"⟩ ∈ xTs := xin (wm_5 (List.mem_of_getElem? (i := 238) (by decide +kernel))) rfl
theorem w5_239 : Cond.methodLink "Tracewheel$Machine" 253 ⟨"Tracewheel$Slots", "combine", "(CII)V"⟩ ∈ xTs := xin (wm_5 (List.mem_of_getElem? (i := 239) (by decide +kernel))) rfl
theorem w6_0 : Cond.instanceMethod ⟨"Tracewheel$Slots", "combine", "(CII)V"⟩ ∈ xTs := xin (wm_6 (List.mem_of_getElem? (i := 0) (by decide +kernel))) rfl
theorem w6_1 : Cond.selects "Tracewheel$Slots" ⟨"Tracewheel$Slots", "combine", "(CII)V"⟩ ⟨"Tracewheel$Slots", "combine", "(CII)V"⟩ ∈ xTs := xin (wm_6 (List.mem_of_getElem? (i := 1) (by decide +kernel))) rfl
theorem w6_2 : Cond.code ⟨"Tracewheel$Slots", "combine", "(CII)V"⟩ prog_10_method_15_code 4 none ∈ xTs := xin (wm_6 (List.mem_of_getElem? (i := 2) (by decide +kernel))) rfl
theorem w6_3 : Cond.methodLink "Tracewheel$Slots" 69 ⟨"Tracewheel$Slots", "areEqual", "(II)Z"⟩ ∈ xTs := xin (wm_6 (List.mem_of_getElem? (i := 3) (by decide +kernel))) rfl
theorem w6_4 : Cond.instanceMethod ⟨"Tracewheel$Slots", "areEqual", "(II)Z"⟩ ∈ xTs := xin (wm_6 (List.mem_of_getElem? (i := 4) (by decide +kernel))) rfl
theorem w6_5 : Cond.selects "Tracewheel$Slots" ⟨"Tracewheel$Slots", "areEqual", "(II)Z"⟩ ⟨"Tracewheel$Slots", "areEqual", "(II)Z"⟩ ∈ xTs := xin (wm_6 (List.mem_of_getElem? (i := 5) (by decide +kernel))) rfl
theorem w6_6 : Cond.code ⟨"Tracewheel$Slots", "areEqual", "(II)Z"⟩ prog_10_method_13_code 3 (some .boolean) ∈ xTs := xin (wm_6 (List.mem_of_getElem? (i := 6) (by decide +kernel))) rfl
theorem w6_7 : Cond.methodLink "Tracewheel$Slots" 50 ⟨"Tracewheel$Slots", "isNumber", "(I)Z"⟩ ∈ xTs := xin (wm_6 (List.mem_of_getElem? (i := 7) (by decide +kernel))) rfl
theorem w6_8 : Cond.methodLink "Tracewheel$Slots" 53 ⟨"Tracewheel$Slots", "realAt", "(I)D"⟩ ∈ xTs := xin (wm_6 (List.mem_of_getElem? (i := 8) (by decide +kernel))) rfl
theorem w6_10 : Cond.instanceMethod ⟨"Tracewheel$Slots", "realAt", "(I)D"⟩ ∈ xTs := xin (wm_6 (List.mem_of_getElem? (i := 10) (by decide +kernel))) rfl
theorem w6_11 : Cond.code ⟨"Tracewheel$Slots", "realAt", "(I)D"⟩ prog_10_method_8_code 2 (some .double) ∈ xTs := xin (wm_6 (List.mem_of_getElem? (i := 11) (by decide +kernel))) rfl
theorem w6_12 : Cond.methodLink "Tracewheel$Slots" 72 ⟨"Tracewheel$Slots", "givesInteger", "(CII)Z"⟩ ∈ xTs := xin (wm_6 (List.mem_of_getElem? (i := 12) (by decide +kernel))) rfl
theorem w6_13 : Cond.instanceMethod ⟨"Tracewheel$Slots", "givesInteger", "(CII)Z"⟩ ∈ xTs := xin (wm_6 (List.mem_of_getElem? (i := 13) (by decide +kernel))) rfl
theorem w6_14 : Cond.selects "Tracewheel$Slots" ⟨"Tracewheel$Slots", "givesInteger", "(CII)Z"⟩ ⟨"Tracewheel$Slots", "givesInteger", "(CII)Z"⟩ ∈ xTs := xin (wm_6 (List.mem_of_getElem? (i := 14) (by decide +kernel))) rfl
theorem w6_15 : Cond.code ⟨"Tracewheel$Slots", "givesInteger", "(CII)Z"⟩ prog_10_method_14_code 4 (some .boolean) ∈ xTs := xin (wm_6 (List.mem_of_getElem? (i := 15) (by decide +kernel))) rfl
theorem w6_16 : Cond.methodLink "Tracewheel$Slots" 57 ⟨"Tracewheel$Slots", "areIntegers", "(II)Z"⟩ ∈ xTs := xin (wm_6 (List.mem_of_getElem? (i := 16) (by decide +kernel))) rfl
theorem w6_17 : Cond.methodLink "Tracewheel$Slots" 61 ⟨"Tracewheel$Numbers", "ofIntegers", "(CJJ)J"⟩ ∈ xTs := xin (wm_6 (List.mem_of_getElem? (i := 17) (by decide +kernel))) rfl
theorem w6_18 : Cond.static ⟨"Tracewheel$Numbers", "ofIntegers", "(CJJ)J"⟩ ∈ xTs := xin (wm_6 (List.mem_of_getElem? (i := 18) (by decide +kernel))) rfl
theorem w6_19 : Cond.code ⟨"Tracewheel$Numbers", "ofIntegers", "(CJJ)J"⟩ prog_6_method_3_code 5 (some .long) ∈ xTs := xin (wm_6 (List.mem_of_getElem? (i := 19) (by decide +kernel))) rfl
theorem w6_20 : Cond.methodLink "Tracewheel$Slots" 65 ⟨"Tracewheel$Numbers", "isInteger", "(J)Z"⟩ ∈ xTs := xin (wm_6 (List.mem_of_getElem? (i := 20) (by decide +kernel))) rfl
theorem w6_21 : Cond.static ⟨"Tracewheel$Numbers", "isInteger", "(J)Z"⟩ ∈ xTs := xin (wm_6 (List.mem_of_getElem? (i := 21) (by decide +kernel))) rfl
theorem w6_22 : Cond.code ⟨"Tracewheel$Numbers", "isInteger", "(J)Z"⟩ prog_6_method_2_code 2 (some .boolean) ∈ xTs := xin (wm_6 (List.mem_of_getElem? (i := 22) (by decide +kernel))) rfl
theorem w6_23 : Cond.constantLong "Tracewheel$Numbers" 7 (-2147483648) ∈ xTs := xin (wm_6 (List.mem_of_getElem? (i := 23) (by decide +kernel))) rfl
theorem w6_24 : Cond.constantLong "Tracewheel$Numbers" 9 2147483647 ∈ xTs := xin (wm_6 (List.mem_of_getElem? (i := 24) (by decide +kernel))) rfl
theorem w6_25 : Cond.methodLink "Tracewheel$Slots" 76 ⟨"Tracewheel$Slots", "isLess", "(II)Z"⟩ ∈ xTs := xin (wm_6 (List.mem_of_getElem? (i := 25) (by decide +kernel))) rfl
theorem w6_27 : Cond.instanceMethod ⟨"Tracewheel$Slots", "isLess", "(II)Z"⟩ ∈ xTs := xin (wm_6 (List.mem_of_getElem? (i := 27) (by decide +kernel))) rfl
theorem w6_28 : Cond.code ⟨"Tracewheel$Slots", "isLess", "(II)Z"⟩ prog_10_method_16_code 3 (some .boolean) ∈ xTs := xin (wm_6 (List.mem_of_getElem? (i := 28) (by decide +kernel))) rfl
theorem w6_29 : Cond.methodLink "Tracewheel$Slots" 79 ⟨"Tracewheel$Slots", "combineReals", "(CII)V"⟩ ∈ xTs := xin (wm_6 (List.mem_of_getElem? (i := 29) (by decide +kernel))) rfl
theorem w6_31 : Cond.instanceMethod ⟨"Tracewheel$Slots", "combineReals", "(CII)V"⟩ ∈ xTs := xin (wm_6 (List.mem_of_getElem? (i := 31) (by decide +kernel))) rfl
theorem w6_32 : Cond.code ⟨"Tracewheel$Slots", "combineReals", "(CII)V"⟩ prog_10_method_17_code 8 none ∈ xTs := xin (wm_6 (List.mem_of_getElem? (i := 32) (by decide +kernel))) rfl
theorem w6_33 : Cond.methodLink "Tracewheel$Slots" 83 ⟨"Tracewheel$Numbers", "isUndefined", "(CDD)Z"⟩ ∈ xTs := xin (wm_6 (List.mem_of_getElem? (i := 33) (by decide +kernel))) rfl
theorem w6_34 : Cond.static ⟨"Tracewheel$Numbers", "isUndefined", "(CDD)Z"⟩ ∈ xTs := xin (wm_6 (List.mem_of_getElem? (i := 34) (by decide +kernel))) rfl
theorem w6_35 : Cond.code ⟨"Tracewheel$Numbers", "isUndefined", "(CDD)Z"⟩ prog_6_method_4_code 6 (some .boolean) ∈ xTs := xin (wm_6 (List.mem_of_getElem? (i := 35) (by decide +kernel))) rfl
theorem w6_36 : Cond.methodLink "Tracewheel$Numbers" 11 ⟨"Tracewheel$Numbers", "isEndless", "(D)Z"⟩ ∈ xTs := xin (wm_6 (List.mem_of_getElem? (i := 36) (by decide +kernel))) rfl
theorem w6_37 : Cond.static ⟨"Tracewheel$Numbers", "isEndless", "(D)Z"⟩ ∈ xTs := xin (wm_6 (List.mem_of_getElem? (i := 37) (by decide +kernel))) rfl
theorem w6_38 : Cond.code ⟨"Tracewheel$Numbers", "isEndless", "(D)Z"⟩ prog_6_method_7_code 2 (some .boolean) ∈ xTs := xin (wm_6 (List.mem_of_getElem? (i := 38) (by decide +kernel))) rfl
theorem w6_39 : Cond.constantDouble "Tracewheel$Numbers" 23 9218868437227405311 ∈ xTs := xin (wm_6 (List.mem_of_getElem? (i := 39) (by decide +kernel))) rfl
theorem w6_40 : Cond.constantDouble "Tracewheel$Numbers" 25 18442240474082181119 ∈ xTs := xin (wm_6 (List.mem_of_getElem? (i := 40) (by decide +kernel))) rfl
theorem w6_41 : Cond.methodLink "Tracewheel$Slots" 86 ⟨"Tracewheel$Numbers", "ofFloats", "(CDD)D"⟩ ∈ xTs := xin (wm_6 (List.mem_of_getElem? (i := 41) (by decide +kernel))) rfl
theorem w6_42 : Cond.static ⟨"Tracewheel$Numbers", "ofFloats", "(CDD)D"⟩ ∈ xTs := xin (wm_6 (List.mem_of_getElem? (i := 42) (by decide +kernel))) rfl
theorem w6_43 : Cond.code ⟨"Tracewheel$Numbers", "ofFloats", "(CDD)D"⟩ prog_6_method_5_code 5 (some .double) ∈ xTs := xin (wm_6 (List.mem_of_getElem? (i := 43) (by decide +kernel))) rfl
theorem w6_44 : Cond.methodLink "Tracewheel$Numbers" 17 ⟨"Tracewheel$Numbers", "rest", "(DD)D"⟩ ∈ xTs := xin (wm_6 (List.mem_of_getElem? (i := 44) (by decide +kernel))) rfl
theorem w6_45 : Cond.static ⟨"Tracewheel$Numbers", "rest", "(DD)D"⟩ ∈ xTs := xin (wm_6 (List.mem_of_getElem? (i := 45) (by decide +kernel))) rfl
theorem w6_46 : Cond.code ⟨"Tracewheel$Numbers", "rest", "(DD)D"⟩ prog_6_method_6_code 11 (some .double) ∈ xTs := xin (wm_6 (List.mem_of_getElem? (i := 46) (by decide +kernel))) rfl
theorem w6_47 : Cond.constantDouble "Tracewheel$Numbers" 21 4611686018427387904 ∈ xTs := xin (wm_6 (List.mem_of_getElem? (i := 47) (by decide +kernel))) rfl
theorem w6_48 : Cond.methodLink "Tracewheel$Slots" 90 ⟨"Tracewheel$Slots", "putReal", "(ID)V"⟩ ∈ xTs := xin (wm_6 (List.mem_of_getElem? (i := 48) (by decide +kernel))) rfl
theorem w6_50 : Cond.instanceMethod ⟨"Tracewheel$Slots", "putReal", "(ID)V"⟩ ∈ xTs := xin (wm_6 (List.mem_of_getElem? (i := 50) (by decide +kernel))) rfl
theorem w6_51 : Cond.code ⟨"Tracewheel$Slots", "putReal", "(ID)V"⟩ prog_10_method_3_code 4 none ∈ xTs := xin (wm_6 (List.mem_of_getElem? (i := 51) (by decide +kernel))) rfl
theorem w6_52 : Cond.methodLink "Tracewheel" 206 ⟨"Tracewheel$Shapes", "takeBack", "(I)V"⟩ ∈ xTs := xin (wm_6 (List.mem_of_getElem? (i := 52) (by decide +kernel))) rfl
theorem w6_53 : Cond.instanceMethod ⟨"Tracewheel$Shapes", "takeBack", "(I)V"⟩ ∈ xTs := xin (wm_6 (List.mem_of_getElem? (i := 53) (by decide +kernel))) rfl
theorem w6_54 : Cond.selects "Tracewheel$Shapes" ⟨"Tracewheel$Shapes", "takeBack", "(I)V"⟩ ⟨"Tracewheel$Shapes", "takeBack", "(I)V"⟩ ∈ xTs := xin (wm_6 (List.mem_of_getElem? (i := 54) (by decide +kernel))) rfl
theorem w6_55 : Cond.code ⟨"Tracewheel$Shapes", "takeBack", "(I)V"⟩ prog_9_method_7_code 3 none ∈ xTs := xin (wm_6 (List.mem_of_getElem? (i := 55) (by decide +kernel))) rfl
theorem w6_56 : Cond.methodLink "Tracewheel" 209 ⟨"Tracewheel$Wheel", "begin", "()V"⟩ ∈ xTs := xin (wm_6 (List.mem_of_getElem? (i := 56) (by decide +kernel))) rfl
theorem w6_57 : Cond.instanceMethod ⟨"Tracewheel$Wheel", "begin", "()V"⟩ ∈ xTs := xin (wm_6 (List.mem_of_getElem? (i := 57) (by decide +kernel))) rfl
theorem w6_58 : Cond.selects "Tracewheel$Wheel" ⟨"Tracewheel$Wheel", "begin", "()V"⟩ ⟨"Tracewheel$Wheel", "begin", "()V"⟩ ∈ xTs := xin (wm_6 (List.mem_of_getElem? (i := 58) (by decide +kernel))) rfl
theorem w6_59 : Cond.code ⟨"Tracewheel$Wheel", "begin", "()V"⟩ prog_12_method_2_code 1 none ∈ xTs := xin (wm_6 (List.mem_of_getElem? (i := 59) (by decide +kernel))) rfl
theorem w6_60 : Cond.constant "Tracewheel" 211 1000000 ∈ xTs := xin (wm_6 (List.mem_of_getElem? (i := 60) (by decide +kernel))) rfl
theorem w6_61 : Cond.methodLink "Tracewheel" 212 ⟨"Tracewheel$Machine", "isRunning", "()Z"⟩ ∈ xTs := xin (wm_6 (List.mem_of_getElem? (i := 61) (by decide +kernel))) rfl
theorem w6_62 : Cond.methodLink "Tracewheel" 219 ⟨"Tracewheel$Wheel", "turnInTrace", "()V"⟩ ∈ xTs := xin (wm_6 (List.mem_of_getElem? (i := 62) (by decide +kernel))) rfl
theorem w6_63 : Cond.instanceMethod ⟨"Tracewheel$Wheel", "turnInTrace", "()V"⟩ ∈ xTs := xin (wm_6 (List.mem_of_getElem? (i := 63) (by decide +kernel))) rfl
theorem w6_64 : Cond.selects "Tracewheel$Wheel" ⟨"Tracewheel$Wheel", "turnInTrace", "()V"⟩ ⟨"Tracewheel$Wheel", "turnInTrace", "()V"⟩ ∈ xTs := xin (wm_6 (List.mem_of_getElem? (i := 64) (by decide +kernel))) rfl
theorem w6_65 : Cond.code ⟨"Tracewheel$Wheel", "turnInTrace", "()V"⟩ prog_12_method_3_code 3 none ∈ xTs := xin (wm_6 (List.mem_of_getElem? (i := 65) (by decide +kernel))) rfl
theorem w6_66 : Cond.methodLink "Tracewheel$Wheel" 68 ⟨"Tracewheel$Machine", "isAtLimit", "()Z"⟩ ∈ xTs := xin (wm_6 (List.mem_of_getElem? (i := 66) (by decide +kernel))) rfl
theorem w6_67 : Cond.methodLink "Tracewheel$Wheel" 74 ⟨"Tracewheel$Machine", "failureAhead", "()C"⟩ ∈ xTs := xin (wm_6 (List.mem_of_getElem? (i := 67) (by decide +kernel))) rfl
theorem w6_68 : Cond.methodLink "Tracewheel$Wheel" 91 ⟨"Tracewheel$Machine", "answerTo", "(CI)I"⟩ ∈ xTs := xin (wm_6 (List.mem_of_getElem? (i := 68) (by decide +kernel))) rfl
theorem w6_69 : Cond.instanceMethod ⟨"Tracewheel$Machine", "answerTo", "(CI)I"⟩ ∈ xTs := xin (wm_6 (List.mem_of_getElem? (i := 69) (by decide +kernel))) rfl
theorem w6_70 : Cond.selects "Tracewheel$Machine" ⟨"Tracewheel$Machine", "answerTo", "(CI)I"⟩ ⟨"Tracewheel$Machine", "answerTo", "(CI)I"⟩ ∈ xTs := xin (wm_6 (List.mem_of_getElem? (i := 70) (by decide +kernel))) rfl
theorem w6_71 : Cond.code ⟨"Tracewheel$Machine", "answerTo", "(CI)I"⟩ prog_5_method_35_code 4 (some .int) ∈ xTs := xin (wm_6 (List.mem_of_getElem? (i := 71) (by decide +kernel))) rfl
theorem w6_72 : Cond.methodLink "Tracewheel$Machine" 269 ⟨"Tracewheel$Slots", "givesInteger", "(CII)Z"⟩ ∈ xTs := xin (wm_6 (List.mem_of_getElem? (i := 72) (by decide +kernel))) rfl
theorem w6_73 : Cond.methodLink "Tracewheel$Wheel" 98 ⟨"Tracewheel$Wheel", "exitAt", "(I)V"⟩ ∈ xTs := xin (wm_6 (List.mem_of_getElem? (i := 73) (by decide +kernel))) rfl
theorem w6_75 : Cond.instanceMethod ⟨"Tracewheel$Wheel", "exitAt", "(I)V"⟩ ∈ xTs := xin (wm_6 (List.mem_of_getElem? (i := 75) (by decide +kernel))) rfl
theorem w6_76 : Cond.code ⟨"Tracewheel$Wheel", "exitAt", "(I)V"⟩ prog_12_method_6_code 2 none ∈ xTs := xin (wm_6 (List.mem_of_getElem? (i := 76) (by decide +kernel))) rfl
theorem w6_77 : Cond.methodLink "Tracewheel$Wheel" 130 ⟨"Tracewheel$Wheel", "follow", "(I)V"⟩ ∈ xTs := xin (wm_6 (List.mem_of_getElem? (i := 77) (by decide +kernel))) rfl
theorem w6_79 : Cond.instanceMethod ⟨"Tracewheel$Wheel", "follow", "(I)V"⟩ ∈ xTs := xin (wm_6 (List.mem_of_getElem? (i := 79) (by decide +kernel))) rfl
theorem w6_80 : Cond.code ⟨"Tracewheel$Wheel", "follow", "(I)V"⟩ prog_12_method_5_code 2 none ∈ xTs := xin (wm_6 (List.mem_of_getElem? (i := 80) (by decide +kernel))) rfl
theorem w6_81 : Cond.methodLink "Tracewheel$Wheel" 148 ⟨"Tracewheel$Trace", "bars", "(I)Z"⟩ ∈ xTs := xin (wm_6 (List.mem_of_getElem? (i := 81) (by decide +kernel))) rfl
theorem w6_82 : Cond.instanceMethod ⟨"Tracewheel$Trace", "bars", "(I)Z"⟩ ∈ xTs := xin (wm_6 (List.mem_of_getElem? (i := 82) (by decide +kernel))) rfl
theorem w6_83 : Cond.selects "Tracewheel$Trace" ⟨"Tracewheel$Trace", "bars", "(I)Z"⟩ ⟨"Tracewheel$Trace", "bars", "(I)Z"⟩ ∈ xTs := xin (wm_6 (List.mem_of_getElem? (i := 83) (by decide +kernel))) rfl
theorem w6_84 : Cond.code ⟨"Tracewheel$Trace", "bars", "(I)Z"⟩ prog_11_method_2_code 2 (some .boolean) ∈ xTs := xin (wm_6 (List.mem_of_getElem? (i := 84) (by decide +kernel))) rfl
theorem w6_85 : Cond.methodLink "Tracewheel$Wheel" 152 ⟨"Tracewheel$Recorder", "beginSide", "(LTracewheel$Machine;LTracewheel$Trace;III)V"⟩ ∈ xTs := xin (wm_6 (List.mem_of_getElem? (i := 85) (by decide +kernel))) rfl
theorem w6_86 : Cond.instanceMethod ⟨"Tracewheel$Recorder", "beginSide", "(LTracewheel$Machine;LTracewheel$Trace;III)V"⟩ ∈ xTs := xin (wm_6 (List.mem_of_getElem? (i := 86) (by decide +kernel))) rfl
theorem w6_87 : Cond.selects "Tracewheel$Recorder" ⟨"Tracewheel$Recorder", "beginSide", "(LTracewheel$Machine;LTracewheel$Trace;III)V"⟩ ⟨"Tracewheel$Recorder", "beginSide", "(LTracewheel$Machine;LTracewheel$Trace;III)V"⟩ ∈ xTs := xin (wm_6 (List.mem_of_getElem? (i := 87) (by decide +kernel))) rfl
theorem w6_88 : Cond.code ⟨"Tracewheel$Recorder", "beginSide", "(LTracewheel$Machine;LTracewheel$Trace;III)V"⟩ prog_8_method_3_code 6 none ∈ xTs := xin (wm_6 (List.mem_of_getElem? (i := 88) (by decide +kernel))) rfl
theorem w6_89 : Cond.methodLink "Tracewheel$Recorder" 45 ⟨"Tracewheel$Recorder", "begin", "(LTracewheel$Machine;II)V"⟩ ∈ xTs := xin (wm_6 (List.mem_of_getElem? (i := 89) (by decide +kernel))) rfl
theorem w6_91 : Cond.instanceMethod ⟨"Tracewheel$Recorder", "begin", "(LTracewheel$Machine;II)V"⟩ ∈ xTs := xin (wm_6 (List.mem_of_getElem? (i := 91) (by decide +kernel))) rfl
theorem w6_92 : Cond.code ⟨"Tracewheel$Recorder", "begin", "(LTracewheel$Machine;II)V"⟩ prog_8_method_4_code 5 none ∈ xTs := xin (wm_6 (List.mem_of_getElem? (i := 92) (by decide +kernel))) rfl
theorem w6_93 : Cond.methodLink "Tracewheel$Wheel" 102 ⟨"Tracewheel$Machine", "execute", "()Z"⟩ ∈ xTs := xin (wm_6 (List.mem_of_getElem? (i := 93) (by decide +kernel))) rfl
theorem w6_94 : Cond.methodLink "Tracewheel$Wheel" 111 ⟨"Tracewheel$Wheel", "enter", "(I)V"⟩ ∈ xTs := xin (wm_6 (List.mem_of_getElem? (i := 94) (by decide +kernel))) rfl
theorem w6_96 : Cond.instanceMethod ⟨"Tracewheel$Wheel", "enter", "(I)V"⟩ ∈ xTs := xin (wm_6 (List.mem_of_getElem? (i := 96) (by decide +kernel))) rfl
theorem w6_97 : Cond.code ⟨"Tracewheel$Wheel", "enter", "(I)V"⟩ prog_12_method_4_code 3 none ∈ xTs := xin (wm_6 (List.mem_of_getElem? (i := 97) (by decide +kernel))) rfl
theorem w6_98 : Cond.methodLink "Tracewheel" 222 ⟨"Tracewheel$Wheel", "canExecute", "()Z"⟩ ∈ xTs := xin (wm_6 (List.mem_of_getElem? (i := 98) (by decide +kernel))) rfl
theorem w6_99 : Cond.instanceMethod ⟨"Tracewheel$Wheel", "canExecute", "()Z"⟩ ∈ xTs := xin (wm_6 (List.mem_of_getElem? (i := 99) (by decide +kernel))) rfl
theorem w6_100 : Cond.selects "Tracewheel$Wheel" ⟨"Tracewheel$Wheel", "canExecute", "()Z"⟩ ⟨"Tracewheel$Wheel", "canExecute", "()Z"⟩ ∈ xTs := xin (wm_6 (List.mem_of_getElem? (i := 100) (by decide +kernel))) rfl
theorem w6_101 : Cond.code ⟨"Tracewheel$Wheel", "canExecute", "()Z"⟩ prog_12_method_7_code 2 (some .boolean) ∈ xTs := xin (wm_6 (List.mem_of_getElem? (i := 101) (by decide +kernel))) rfl
theorem w6_102 : Cond.methodLink "Tracewheel$Wheel" 156 ⟨"Tracewheel$Machine", "endAtLimit", "()V"⟩ ∈ xTs := xin (wm_6 (List.mem_of_getElem? (i := 102) (by decide +kernel))) rfl
theorem w6_103 : Cond.methodLink "Tracewheel$Wheel" 159 ⟨"Tracewheel$Recorder", "isFull", "()Z"⟩ ∈ xTs := xin (wm_6 (List.mem_of_getElem? (i := 103) (by decide +kernel))) rfl
theorem w6_104 : Cond.instanceMethod ⟨"Tracewheel$Recorder", "isFull", "()Z"⟩ ∈ xTs := xin (wm_6 (List.mem_of_getElem? (i := 104) (by decide +kernel))) rfl
theorem w6_105 : Cond.selects "Tracewheel$Recorder" ⟨"Tracewheel$Recorder", "isFull", "()Z"⟩ ⟨"Tracewheel$Recorder", "isFull", "()Z"⟩ ∈ xTs := xin (wm_6 (List.mem_of_getElem? (i := 105) (by decide +kernel))) rfl
theorem w6_106 : Cond.code ⟨"Tracewheel$Recorder", "isFull", "()Z"⟩ prog_8_method_5_code 1 (some .boolean) ∈ xTs := xin (wm_6 (List.mem_of_getElem? (i := 106) (by decide +kernel))) rfl
theorem w6_107 : Cond.methodLink "Tracewheel$Wheel" 162 ⟨"Tracewheel$Wheel", "breakOff", "()V"⟩ ∈ xTs := xin (wm_6 (List.mem_of_getElem? (i := 107) (by decide +kernel))) rfl
theorem w6_108 : Cond.instanceMethod ⟨"Tracewheel$Wheel", "breakOff", "()V"⟩ ∈ xTs := xin (wm_6 (List.mem_of_getElem? (i := 108) (by decide +kernel))) rfl
theorem w6_109 : Cond.selects "Tracewheel$Wheel" ⟨"Tracewheel$Wheel", "breakOff", "()V"⟩ ⟨"Tracewheel$Wheel", "breakOff", "()V"⟩ ∈ xTs := xin (wm_6 (List.mem_of_getElem? (i := 109) (by decide +kernel))) rfl
theorem w6_110 : Cond.code ⟨"Tracewheel$Wheel", "breakOff", "()V"⟩ prog_12_method_12_code 1 none ∈ xTs := xin (wm_6 (List.mem_of_getElem? (i := 110) (by decide +kernel))) rfl
theorem w6_111 : Cond.methodLink "Tracewheel$Wheel" 242 ⟨"Tracewheel$Heads", "breakOff", "(I)V"⟩ ∈ xTs := xin (wm_6 (List.mem_of_getElem? (i := 111) (by decide +kernel))) rfl
theorem w6_112 : Cond.instanceMethod ⟨"Tracewheel$Heads", "breakOff", "(I)V"⟩ ∈ xTs := xin (wm_6 (List.mem_of_getElem? (i := 112) (by decide +kernel))) rfl
theorem w6_113 : Cond.selects "Tracewheel$Heads" ⟨"Tracewheel$Heads", "breakOff", "(I)V"⟩ ⟨"Tracewheel$Heads", "breakOff", "(I)V"⟩ ∈ xTs := xin (wm_6 (List.mem_of_getElem? (i := 113) (by decide +kernel))) rfl
theorem w6_114 : Cond.code ⟨"Tracewheel$Heads", "breakOff", "(I)V"⟩ prog_4_method_3_code 2 none ∈ xTs := xin (wm_6 (List.mem_of_getElem? (i := 114) (by decide +kernel))) rfl
theorem w6_115 : Cond.methodLink "Tracewheel$Wheel" 244 ⟨"Tracewheel$Trace", "breakOff", "(I)V"⟩ ∈ xTs := xin (wm_6 (List.mem_of_getElem? (i := 115) (by decide +kernel))) rfl
theorem w6_116 : Cond.instanceMethod ⟨"Tracewheel$Trace", "breakOff", "(I)V"⟩ ∈ xTs := xin (wm_6 (List.mem_of_getElem? (i := 116) (by decide +kernel))) rfl
theorem w6_117 : Cond.selects "Tracewheel$Trace" ⟨"Tracewheel$Trace", "breakOff", "(I)V"⟩ ⟨"Tracewheel$Trace", "breakOff", "(I)V"⟩ ∈ xTs := xin (wm_6 (List.mem_of_getElem? (i := 117) (by decide +kernel))) rfl
theorem w6_118 : Cond.code ⟨"Tracewheel$Trace", "breakOff", "(I)V"⟩ prog_11_method_3_code 2 none ∈ xTs := xin (wm_6 (List.mem_of_getElem? (i := 118) (by decide +kernel))) rfl
theorem w6_119 : Cond.methodLink "Tracewheel$Wheel" 165 ⟨"Tracewheel$Machine", "failWith", "(C)V"⟩ ∈ xTs := xin (wm_6 (List.mem_of_getElem? (i := 119) (by decide +kernel))) rfl
theorem w6_120 : Cond.methodLink "Tracewheel" 225 ⟨"Tracewheel$Wheel", "executeOutside", "()V"⟩ ∈ xTs := xin (wm_6 (List.mem_of_getElem? (i := 120) (by decide +kernel))) rfl
theorem w6_121 : Cond.instanceMethod ⟨"Tracewheel$Wheel", "executeOutside", "()V"⟩ ∈ xTs := xin (wm_6 (List.mem_of_getElem? (i := 121) (by decide +kernel))) rfl
theorem w6_122 : Cond.selects "Tracewheel$Wheel" ⟨"Tracewheel$Wheel", "executeOutside", "()V"⟩ ⟨"Tracewheel$Wheel", "executeOutside", "()V"⟩ ∈ xTs := xin (wm_6 (List.mem_of_getElem? (i := 122) (by decide +kernel))) rfl
theorem w6_123 : Cond.code ⟨"Tracewheel$Wheel", "executeOutside", "()V"⟩ prog_12_method_8_code 3 none ∈ xTs := xin (wm_6 (List.mem_of_getElem? (i := 123) (by decide +kernel))) rfl
theorem w6_124 : Cond.methodLink "Tracewheel$Wheel" 174 ⟨"Tracewheel$Wheel", "meetCache", "(C)V"⟩ ∈ xTs := xin (wm_6 (List.mem_of_getElem? (i := 124) (by decide +kernel))) rfl
theorem w6_126 : Cond.instanceMethod ⟨"Tracewheel$Wheel", "meetCache", "(C)V"⟩ ∈ xTs := xin (wm_6 (List.mem_of_getElem? (i := 126) (by decide +kernel))) rfl
theorem w6_127 : Cond.code ⟨"Tracewheel$Wheel", "meetCache", "(C)V"⟩ prog_12_method_9_code 2 none ∈ xTs := xin (wm_6 (List.mem_of_getElem? (i := 127) (by decide +kernel))) rfl
theorem w6_128 : Cond.methodLink "Tracewheel$Wheel" 188 ⟨"Tracewheel$Machine", "siteAhead", "()I"⟩ ∈ xTs := xin (wm_6 (List.mem_of_getElem? (i := 128) (by decide +kernel))) rfl
theorem w6_129 : Cond.methodLink "Tracewheel$Wheel" 195 ⟨"Tracewheel$Machine", "shapeFromTop", "(I)I"⟩ ∈ xTs := xin (wm_6 (List.mem_of_getElem? (i := 129) (by decide +kernel))) rfl
theorem w6_130 : Cond.methodLink "Tracewheel$Wheel" 199 ⟨"Tracewheel$Caches", "meet", "(II)V"⟩ ∈ xTs := xin (wm_6 (List.mem_of_getElem? (i := 130) (by decide +kernel))) rfl
theorem w6_131 : Cond.instanceMethod ⟨"Tracewheel$Caches", "meet", "(II)V"⟩ ∈ xTs := xin (wm_6 (List.mem_of_getElem? (i := 131) (by decide +kernel))) rfl
theorem w6_132 : Cond.selects "Tracewheel$Caches" ⟨"Tracewheel$Caches", "meet", "(II)V"⟩ ⟨"Tracewheel$Caches", "meet", "(II)V"⟩ ∈ xTs := xin (wm_6 (List.mem_of_getElem? (i := 132) (by decide +kernel))) rfl
theorem w6_133 : Cond.code ⟨"Tracewheel$Caches", "meet", "(II)V"⟩ prog_2_method_3_code 3 none ∈ xTs := xin (wm_6 (List.mem_of_getElem? (i := 133) (by decide +kernel))) rfl
theorem w6_134 : Cond.methodLink "Tracewheel$Caches" 24 ⟨"Tracewheel$Caches", "keeps", "(II)Z"⟩ ∈ xTs := xin (wm_6 (List.mem_of_getElem? (i := 134) (by decide +kernel))) rfl
theorem w6_136 : Cond.instanceMethod ⟨"Tracewheel$Caches", "keeps", "(II)Z"⟩ ∈ xTs := xin (wm_6 (List.mem_of_getElem? (i := 136) (by decide +kernel))) rfl
theorem w6_137 : Cond.code ⟨"Tracewheel$Caches", "keeps", "(II)Z"⟩ prog_2_method_4_code 4 (some .boolean) ∈ xTs := xin (wm_6 (List.mem_of_getElem? (i := 137) (by decide +kernel))) rfl
theorem w6_138 : Cond.methodLink "Tracewheel$Wheel" 203 ⟨"Tracewheel$Machine", "classFromTop", "()I"⟩ ∈ xTs := xin (wm_6 (List.mem_of_getElem? (i := 138) (by decide +kernel))) rfl
theorem w6_139 : Cond.methodLink "Tracewheel$Wheel" 180 ⟨"Tracewheel$Recorder", "noteAhead", "(LTracewheel$Machine;)V"⟩ ∈ xTs := xin (wm_6 (List.mem_of_getElem? (i := 139) (by decide +kernel))) rfl
theorem w6_140 : Cond.instanceMethod ⟨"Tracewheel$Recorder", "noteAhead", "(LTracewheel$Machine;)V"⟩ ∈ xTs := xin (wm_6 (List.mem_of_getElem? (i := 140) (by decide +kernel))) rfl
theorem w6_141 : Cond.selects "Tracewheel$Recorder" ⟨"Tracewheel$Recorder", "noteAhead", "(LTracewheel$Machine;)V"⟩ ⟨"Tracewheel$Recorder", "noteAhead", "(LTracewheel$Machine;)V"⟩ ∈ xTs := xin (wm_6 (List.mem_of_getElem? (i := 141) (by decide +kernel))) rfl
theorem w6_142 : Cond.code ⟨"Tracewheel$Recorder", "noteAhead", "(LTracewheel$Machine;)V"⟩ prog_8_method_7_code 3 none ∈ xTs := xin (wm_6 (List.mem_of_getElem? (i := 142) (by decide +kernel))) rfl
theorem w6_143 : Cond.methodLink "Tracewheel$Recorder" 88 ⟨"Tracewheel$Machine", "lineAhead", "()I"⟩ ∈ xTs := xin (wm_6 (List.mem_of_getElem? (i := 143) (by decide +kernel))) rfl
theorem w6_144 : Cond.methodLink "Tracewheel$Recorder" 94 ⟨"Tracewheel$Recorder", "isKnown", "(LTracewheel$Machine;II)Z"⟩ ∈ xTs := xin (wm_6 (List.mem_of_getElem? (i := 144) (by decide +kernel))) rfl
theorem w6_146 : Cond.instanceMethod ⟨"Tracewheel$Recorder", "isKnown", "(LTracewheel$Machine;II)Z"⟩ ∈ xTs := xin (wm_6 (List.mem_of_getElem? (i := 146) (by decide +kernel))) rfl
theorem w6_147 : Cond.code ⟨"Tracewheel$Recorder", "isKnown", "(LTracewheel$Machine;II)Z"⟩ prog_8_method_14_code 4 (some .boolean) ∈ xTs := xin (wm_6 (List.mem_of_getElem? (i := 147) (by decide +kernel))) rfl
theorem w6_148 : Cond.methodLink "Tracewheel$Recorder" 128 ⟨"Tracewheel$Machine", "fromTop", "(I)I"⟩ ∈ xTs := xin (wm_6 (List.mem_of_getElem? (i := 148) (by decide +kernel))) rfl
theorem w6_149 : Cond.methodLink "Tracewheel$Recorder" 98 ⟨"Tracewheel$Recorder", "madeOf", "(Z)I"⟩ ∈ xTs := xin (wm_6 (List.mem_of_getElem? (i := 149) (by decide +kernel))) rfl
theorem w6_151 : Cond.instanceMethod ⟨"Tracewheel$Recorder", "madeOf", "(Z)I"⟩ ∈ xTs := xin (wm_6 (List.mem_of_getElem? (i := 151) (by decide +kernel))) rfl
theorem w6_152 : Cond.code ⟨"Tracewheel$Recorder", "madeOf", "(Z)I"⟩ prog_8_method_9_code 2 (some .int) ∈ xTs := xin (wm_6 (List.mem_of_getElem? (i := 152) (by decide +kernel))) rfl
theorem w6_153 : Cond.methodLink "Tracewheel$Recorder" 102 ⟨"Tracewheel$Recorder", "askKind", "(LTracewheel$Machine;I)V"⟩ ∈ xTs := xin (wm_6 (List.mem_of_getElem? (i := 153) (by decide +kernel))) rfl
theorem w6_155 : Cond.instanceMethod ⟨"Tracewheel$Recorder", "askKind", "(LTracewheel$Machine;I)V"⟩ ∈ xTs := xin (wm_6 (List.mem_of_getElem? (i := 155) (by decide +kernel))) rfl
theorem w6_156 : Cond.code ⟨"Tracewheel$Recorder", "askKind", "(LTracewheel$Machine;I)V"⟩ prog_8_method_10_code 3 none ∈ xTs := xin (wm_6 (List.mem_of_getElem? (i := 156) (by decide +kernel))) rfl
theorem w6_157 : Cond.methodLink "Tracewheel$Recorder" 137 ⟨"Tracewheel$Machine", "answerTo", "(CI)I"⟩ ∈ xTs := xin (wm_6 (List.mem_of_getElem? (i := 157) (by decide +kernel))) rfl
theorem w6_158 : Cond.methodLink "Tracewheel$Recorder" 141 ⟨"Tracewheel$Recorder", "ask", "(CII)V"⟩ ∈ xTs := xin (wm_6 (List.mem_of_getElem? (i := 158) (by decide +kernel))) rfl
theorem w6_160 : Cond.instanceMethod ⟨"Tracewheel$Recorder", "ask", "(CII)V"⟩ ∈ xTs := xin (wm_6 (List.mem_of_getElem? (i := 160) (by decide +kernel))) rfl
theorem w6_161 : Cond.code ⟨"Tracewheel$Recorder", "ask", "(CII)V"⟩ prog_8_method_13_code 4 none ∈ xTs := xin (wm_6 (List.mem_of_getElem? (i := 161) (by decide +kernel))) rfl
theorem w6_162 : Cond.methodLink "Tracewheel$Recorder" 145 ⟨"Tracewheel$Slots", "isNumber", "(I)Z"⟩ ∈ xTs := xin (wm_6 (List.mem_of_getElem? (i := 162) (by decide +kernel))) rfl
theorem w6_163 : Cond.methodLink "Tracewheel$Recorder" 149 ⟨"Tracewheel$Recorder", "learn", "(LTracewheel$Machine;II)V"⟩ ∈ xTs := xin (wm_6 (List.mem_of_getElem? (i := 163) (by decide +kernel))) rfl
theorem w6_165 : Cond.instanceMethod ⟨"Tracewheel$Recorder", "learn", "(LTracewheel$Machine;II)V"⟩ ∈ xTs := xin (wm_6 (List.mem_of_getElem? (i := 165) (by decide +kernel))) rfl
theorem w6_166 : Cond.code ⟨"Tracewheel$Recorder", "learn", "(LTracewheel$Machine;II)V"⟩ prog_8_method_15_code 4 none ∈ xTs := xin (wm_6 (List.mem_of_getElem? (i := 166) (by decide +kernel))) rfl
theorem w6_167 : Cond.methodLink "Tracewheel$Recorder" 106 ⟨"Tracewheel$Recorder", "askNullness", "(LTracewheel$Machine;C)V"⟩ ∈ xTs := xin (wm_6 (List.mem_of_getElem? (i := 167) (by decide +kernel))) rfl
theorem w6_169 : Cond.instanceMethod ⟨"Tracewheel$Recorder", "askNullness", "(LTracewheel$Machine;C)V"⟩ ∈ xTs := xin (wm_6 (List.mem_of_getElem? (i := 169) (by decide +kernel))) rfl
theorem w6_170 : Cond.code ⟨"Tracewheel$Recorder", "askNullness", "(LTracewheel$Machine;C)V"⟩ prog_8_method_11_code 3 none ∈ xTs := xin (wm_6 (List.mem_of_getElem? (i := 170) (by decide +kernel))) rfl
theorem w6_171 : Cond.methodLink "Tracewheel$Recorder" 110 ⟨"Tracewheel$Recorder", "askShape", "(LTracewheel$Machine;I)V"⟩ ∈ xTs := xin (wm_6 (List.mem_of_getElem? (i := 171) (by decide +kernel))) rfl
theorem w6_173 : Cond.instanceMethod ⟨"Tracewheel$Recorder", "askShape", "(LTracewheel$Machine;I)V"⟩ ∈ xTs := xin (wm_6 (List.mem_of_getElem? (i := 173) (by decide +kernel))) rfl
theorem w6_174 : Cond.code ⟨"Tracewheel$Recorder", "askShape", "(LTracewheel$Machine;I)V"⟩ prog_8_method_12_code 3 none ∈ xTs := xin (wm_6 (List.mem_of_getElem? (i := 174) (by decide +kernel))) rfl
theorem w6_175 : Cond.methodLink "Tracewheel$Recorder" 113 ⟨"Tracewheel$Recorder", "forgetOtherShapes", "(LTracewheel$Machine;)V"⟩ ∈ xTs := xin (wm_6 (List.mem_of_getElem? (i := 175) (by decide +kernel))) rfl
theorem w6_177 : Cond.instanceMethod ⟨"Tracewheel$Recorder", "forgetOtherShapes", "(LTracewheel$Machine;)V"⟩ ∈ xTs := xin (wm_6 (List.mem_of_getElem? (i := 177) (by decide +kernel))) rfl
theorem w6_178 : Cond.code ⟨"Tracewheel$Recorder", "forgetOtherShapes", "(LTracewheel$Machine;)V"⟩ prog_8_method_16_code 3 none ∈ xTs := xin (wm_6 (List.mem_of_getElem? (i := 178) (by decide +kernel))) rfl
theorem w6_179 : Cond.methodLink "Tracewheel$Recorder" 156 ⟨"Tracewheel$Machine", "shapeFromTop", "(I)I"⟩ ∈ xTs := xin (wm_6 (List.mem_of_getElem? (i := 179) (by decide +kernel))) rfl
theorem w6_180 : Cond.methodLink "Tracewheel$Recorder" 162 ⟨"Tracewheel$Shapes", "has", "(II)Z"⟩ ∈ xTs := xin (wm_6 (List.mem_of_getElem? (i := 180) (by decide +kernel))) rfl
theorem w6_181 : Cond.methodLink "Tracewheel$Recorder" 117 ⟨"Tracewheel$Recorder", "noteTwoValues", "(LTracewheel$Machine;C)V"⟩ ∈ xTs := xin (wm_6 (List.mem_of_getElem? (i := 181) (by decide +kernel))) rfl
theorem w6_183 : Cond.instanceMethod ⟨"Tracewheel$Recorder", "noteTwoValues", "(LTracewheel$Machine;C)V"⟩ ∈ xTs := xin (wm_6 (List.mem_of_getElem? (i := 183) (by decide +kernel))) rfl
theorem w6_184 : Cond.code ⟨"Tracewheel$Recorder", "noteTwoValues", "(LTracewheel$Machine;C)V"⟩ prog_8_method_8_code 4 none ∈ xTs := xin (wm_6 (List.mem_of_getElem? (i := 184) (by decide +kernel))) rfl
theorem w6_186 : Cond.methodLink "Tracewheel$Recorder" 122 ⟨"java/lang/String", "indexOf", "(I)I"⟩ ∈ xTs := xin (wm_6 (List.mem_of_getElem? (i := 186) (by decide +kernel))) rfl
theorem w6_187 : Cond.methodLink "Tracewheel$Recorder" 131 ⟨"Tracewheel$Slots", "areIntegers", "(II)Z"⟩ ∈ xTs := xin (wm_6 (List.mem_of_getElem? (i := 187) (by decide +kernel))) rfl
theorem w6_189 : Cond.methodLink "Tracewheel$Wheel" 184 ⟨"Tracewheel$Recorder", "noteBehind", "(LTracewheel$Machine;C)V"⟩ ∈ xTs := xin (wm_6 (List.mem_of_getElem? (i := 189) (by decide +kernel))) rfl
theorem w6_190 : Cond.instanceMethod ⟨"Tracewheel$Recorder", "noteBehind", "(LTracewheel$Machine;C)V"⟩ ∈ xTs := xin (wm_6 (List.mem_of_getElem? (i := 190) (by decide +kernel))) rfl
theorem w6_191 : Cond.selects "Tracewheel$Recorder" ⟨"Tracewheel$Recorder", "noteBehind", "(LTracewheel$Machine;C)V"⟩ ⟨"Tracewheel$Recorder", "noteBehind", "(LTracewheel$Machine;C)V"⟩ ∈ xTs := xin (wm_6 (List.mem_of_getElem? (i := 191) (by decide +kernel))) rfl
theorem w6_192 : Cond.code ⟨"Tracewheel$Recorder", "noteBehind", "(LTracewheel$Machine;C)V"⟩ prog_8_method_17_code 5 none ∈ xTs := xin (wm_6 (List.mem_of_getElem? (i := 192) (by decide +kernel))) rfl
theorem w6_194 : Cond.methodLink "Tracewheel$Recorder" 169 ⟨"Tracewheel$Recorder", "giveFacts", "(LTracewheel$Slots;II)V"⟩ ∈ xTs := xin (wm_6 (List.mem_of_getElem? (i := 194) (by decide +kernel))) rfl
theorem w6_196 : Cond.instanceMethod ⟨"Tracewheel$Recorder", "giveFacts", "(LTracewheel$Slots;II)V"⟩ ∈ xTs := xin (wm_6 (List.mem_of_getElem? (i := 196) (by decide +kernel))) rfl
theorem w6_197 : Cond.code ⟨"Tracewheel$Recorder", "giveFacts", "(LTracewheel$Slots;II)V"⟩ prog_8_method_18_code 4 none ∈ xTs := xin (wm_6 (List.mem_of_getElem? (i := 197) (by decide +kernel))) rfl
theorem w6_198 : Cond.methodLink "Tracewheel$Recorder" 182 ⟨"Tracewheel$Machine", "functionAhead", "()I"⟩ ∈ xTs := xin (wm_6 (List.mem_of_getElem? (i := 198) (by decide +kernel))) rfl
theorem w6_200 : Cond.methodLink "Tracewheel$Wheel" 192 ⟨"Tracewheel$Wheel", "arrive", "(I)V"⟩ ∈ xTs := xin (wm_6 (List.mem_of_getElem? (i := 200) (by decide +kernel))) rfl
theorem w6_202 : Cond.instanceMethod ⟨"Tracewheel$Wheel", "arrive", "(I)V"⟩ ∈ xTs := xin (wm_6 (List.mem_of_getElem? (i := 202) (by decide +kernel))) rfl
theorem w6_203 : Cond.code ⟨"Tracewheel$Wheel", "arrive", "(I)V"⟩ prog_12_method_10_code 2 none ∈ xTs := xin (wm_6 (List.mem_of_getElem? (i := 203) (by decide +kernel))) rfl
theorem w6_204 : Cond.methodLink "Tracewheel$Wheel" 206 ⟨"Tracewheel$Recorder", "isClosedBy", "(LTracewheel$Machine;)Z"⟩ ∈ xTs := xin (wm_6 (List.mem_of_getElem? (i := 204) (by decide +kernel))) rfl
theorem w6_205 : Cond.instanceMethod ⟨"Tracewheel$Recorder", "isClosedBy", "(LTracewheel$Machine;)Z"⟩ ∈ xTs := xin (wm_6 (List.mem_of_getElem? (i := 205) (by decide +kernel))) rfl
theorem w6_206 : Cond.selects "Tracewheel$Recorder" ⟨"Tracewheel$Recorder", "isClosedBy", "(LTracewheel$Machine;)Z"⟩ ⟨"Tracewheel$Recorder", "isClosedBy", "(LTracewheel$Machine;)Z"⟩ ∈ xTs := xin (wm_6 (List.mem_of_getElem? (i := 206) (by decide +kernel))) rfl
theorem w6_207 : Cond.code ⟨"Tracewheel$Recorder", "isClosedBy", "(LTracewheel$Machine;)Z"⟩ prog_8_method_6_code 2 (some .boolean) ∈ xTs := xin (wm_6 (List.mem_of_getElem? (i := 207) (by decide +kernel))) rfl
theorem w6_208 : Cond.methodLink "Tracewheel$Recorder" 80 ⟨"Tracewheel$Machine", "siteAhead", "()I"⟩ ∈ xTs := xin (wm_6 (List.mem_of_getElem? (i := 208) (by decide +kernel))) rfl
theorem w6_209 : Cond.methodLink "Tracewheel$Wheel" 210 ⟨"Tracewheel$Wheel", "finish", "()V"⟩ ∈ xTs := xin (wm_6 (List.mem_of_getElem? (i := 209) (by decide +kernel))) rfl
theorem w6_211 : Cond.instanceMethod ⟨"Tracewheel$Wheel", "finish", "()V"⟩ ∈ xTs := xin (wm_6 (List.mem_of_getElem? (i := 211) (by decide +kernel))) rfl
theorem w6_212 : Cond.code ⟨"Tracewheel$Wheel", "finish", "()V"⟩ prog_12_method_11_code 3 none ∈ xTs := xin (wm_6 (List.mem_of_getElem? (i := 212) (by decide +kernel))) rfl
theorem w6_213 : Cond.methodLink "Tracewheel$Wheel" 227 ⟨"Tracewheel$Forest", "isFull", "()Z"⟩ ∈ xTs := xin (wm_6 (List.mem_of_getElem? (i := 213) (by decide +kernel))) rfl
theorem w6_214 : Cond.instanceMethod ⟨"Tracewheel$Forest", "isFull", "()Z"⟩ ∈ xTs := xin (wm_6 (List.mem_of_getElem? (i := 214) (by decide +kernel))) rfl
theorem w6_215 : Cond.selects "Tracewheel$Forest" ⟨"Tracewheel$Forest", "isFull", "()Z"⟩ ⟨"Tracewheel$Forest", "isFull", "()Z"⟩ ∈ xTs := xin (wm_6 (List.mem_of_getElem? (i := 215) (by decide +kernel))) rfl
theorem w6_216 : Cond.code ⟨"Tracewheel$Forest", "isFull", "()Z"⟩ prog_3_method_2_code 1 (some .boolean) ∈ xTs := xin (wm_6 (List.mem_of_getElem? (i := 216) (by decide +kernel))) rfl
theorem w6_217 : Cond.methodLink "Tracewheel$Wheel" 229 ⟨"Tracewheel$Forest", "makeRoom", "(II)Z"⟩ ∈ xTs := xin (wm_6 (List.mem_of_getElem? (i := 217) (by decide +kernel))) rfl
theorem w6_218 : Cond.instanceMethod ⟨"Tracewheel$Forest", "makeRoom", "(II)Z"⟩ ∈ xTs := xin (wm_6 (List.mem_of_getElem? (i := 218) (by decide +kernel))) rfl
theorem w6_219 : Cond.selects "Tracewheel$Forest" ⟨"Tracewheel$Forest", "makeRoom", "(II)Z"⟩ ⟨"Tracewheel$Forest", "makeRoom", "(II)Z"⟩ ∈ xTs := xin (wm_6 (List.mem_of_getElem? (i := 219) (by decide +kernel))) rfl
theorem w6_220 : Cond.code ⟨"Tracewheel$Forest", "makeRoom", "(II)Z"⟩ prog_3_method_8_code 4 (some .boolean) ∈ xTs := xin (wm_6 (List.mem_of_getElem? (i := 220) (by decide +kernel))) rfl
theorem w6_221 : Cond.methodLink "Tracewheel$Wheel" 219 ⟨"Tracewheel$Heads", "bars", "(I)Z"⟩ ∈ xTs := xin (wm_6 (List.mem_of_getElem? (i := 221) (by decide +kernel))) rfl
theorem w6_222 : Cond.instanceMethod ⟨"Tracewheel$Heads", "bars", "(I)Z"⟩ ∈ xTs := xin (wm_6 (List.mem_of_getElem? (i := 222) (by decide +kernel))) rfl
theorem w6_223 : Cond.selects "Tracewheel$Heads" ⟨"Tracewheel$Heads", "bars", "(I)Z"⟩ ⟨"Tracewheel$Heads", "bars", "(I)Z"⟩ ∈ xTs := xin (wm_6 (List.mem_of_getElem? (i := 223) (by decide +kernel))) rfl
theorem w6_224 : Cond.code ⟨"Tracewheel$Heads", "bars", "(I)Z"⟩ prog_4_method_2_code 2 (some .boolean) ∈ xTs := xin (wm_6 (List.mem_of_getElem? (i := 224) (by decide +kernel))) rfl
theorem w6_225 : Cond.methodLink "Tracewheel$Wheel" 220 ⟨"Tracewheel$Recorder", "beginRoot", "(LTracewheel$Machine;I)V"⟩ ∈ xTs := xin (wm_6 (List.mem_of_getElem? (i := 225) (by decide +kernel))) rfl
theorem w6_226 : Cond.instanceMethod ⟨"Tracewheel$Recorder", "beginRoot", "(LTracewheel$Machine;I)V"⟩ ∈ xTs := xin (wm_6 (List.mem_of_getElem? (i := 226) (by decide +kernel))) rfl
theorem w6_227 : Cond.selects "Tracewheel$Recorder" ⟨"Tracewheel$Recorder", "beginRoot", "(LTracewheel$Machine;I)V"⟩ ⟨"Tracewheel$Recorder", "beginRoot", "(LTracewheel$Machine;I)V"⟩ ∈ xTs := xin (wm_6 (List.mem_of_getElem? (i := 227) (by decide +kernel))) rfl
theorem w6_228 : Cond.code ⟨"Tracewheel$Recorder", "beginRoot", "(LTracewheel$Machine;I)V"⟩ prog_8_method_2_code 3 none ∈ xTs := xin (wm_6 (List.mem_of_getElem? (i := 228) (by decide +kernel))) rfl
theorem w6_229 : Cond.methodLink "Tracewheel" 228 ⟨"Tracewheel$Wheel", "breakOff", "()V"⟩ ∈ xTs := xin (wm_6 (List.mem_of_getElem? (i := 229) (by decide +kernel))) rfl
theorem w6_230 : Cond.methodLink "Tracewheel" 231 ⟨"Tracewheel$Machine", "endedLike", "(LTracewheel$Machine;)Z"⟩ ∈ xTs := xin (wm_6 (List.mem_of_getElem? (i := 230) (by decide +kernel))) rfl
theorem w6_231 : Cond.instanceMethod ⟨"Tracewheel$Machine", "endedLike", "(LTracewheel$Machine;)Z"⟩ ∈ xTs := xin (wm_6 (List.mem_of_getElem? (i := 231) (by decide +kernel))) rfl
theorem w6_232 : Cond.selects "Tracewheel$Machine" ⟨"Tracewheel$Machine", "endedLike", "(LTracewheel$Machine;)Z"⟩ ⟨"Tracewheel$Machine", "endedLike", "(LTracewheel$Machine;)Z"⟩ ∈ xTs := xin (wm_6 (List.mem_of_getElem? (i := 232) (by decide +kernel))) rfl
theorem w6_233 : Cond.code ⟨"Tracewheel$Machine", "endedLike", "(LTracewheel$Machine;)Z"⟩ prog_5_method_36_code 2 (some .boolean) ∈ xTs := xin (wm_6 (List.mem_of_getElem? (i := 233) (by decide +kernel))) rfl
theorem w6_234 : Cond.methodLink "Tracewheel$Machine" 273 ⟨"Tracewheel$Slots", "isSame", "(ILTracewheel$Slots;)Z"⟩ ∈ xTs := xin (wm_6 (List.mem_of_getElem? (i := 234) (by decide +kernel))) rfl
theorem w6_235 : Cond.instanceMethod ⟨"Tracewheel$Slots", "isSame", "(ILTracewheel$Slots;)Z"⟩ ∈ xTs := xin (wm_6 (List.mem_of_getElem? (i := 235) (by decide +kernel))) rfl
theorem w6_236 : Cond.selects "Tracewheel$Slots" ⟨"Tracewheel$Slots", "isSame", "(ILTracewheel$Slots;)Z"⟩ ⟨"Tracewheel$Slots", "isSame", "(ILTracewheel$Slots;)Z"⟩ ∈ xTs := xin (wm_6 (List.mem_of_getElem? (i := 236) (by decide +kernel))) rfl
theorem w6_237 : Cond.code ⟨"Tracewheel$Slots", "isSame", "(ILTracewheel$Slots;)Z"⟩ prog_10_method_18_code 3 (some .boolean) ∈ xTs := xin (wm_6 (List.mem_of_getElem? (i := 237) (by decide +kernel))) rfl
theorem w6_238 : Cond.methodLink "Tracewheel$Slots" 94 ⟨"Tracewheel$Numbers", "isNegative", "(D)Z"⟩ ∈ xTs := xin (wm_6 (List.mem_of_getElem? (i := 238) (by decide +kernel))) rfl
theorem w6_239 : Cond.static ⟨"Tracewheel$Numbers", "isNegative", "(D)Z"⟩ ∈ xTs := xin (wm_6 (List.mem_of_getElem? (i := 239) (by decide +kernel))) rfl
theorem w7_0 : Cond.code ⟨"Tracewheel$Numbers", "isNegative", "(D)Z"⟩ prog_6_method_10_code 2 (some .boolean) ∈ xTs := xin (wm_7 (List.mem_of_getElem? (i := 0) (by decide +kernel))) rfl
theorem w7_1 : Cond.methodLink "Tracewheel$Machine" 277 ⟨"Tracewheel$Machine", "hasToldLike", "(LTracewheel$Machine;)Z"⟩ ∈ xTs := xin (wm_7 (List.mem_of_getElem? (i := 1) (by decide +kernel))) rfl
theorem w7_3 : Cond.instanceMethod ⟨"Tracewheel$Machine", "hasToldLike", "(LTracewheel$Machine;)Z"⟩ ∈ xTs := xin (wm_7 (List.mem_of_getElem? (i := 3) (by decide +kernel))) rfl
theorem w7_4 : Cond.code ⟨"Tracewheel$Machine", "hasToldLike", "(LTracewheel$Machine;)Z"⟩ prog_5_method_37_code 4 (some .boolean) ∈ xTs := xin (wm_7 (List.mem_of_getElem? (i := 4) (by decide +kernel))) rfl
theorem w7_5 : Cond.methodLink "Tracewheel$Machine" 281 ⟨"Tracewheel$Machine", "hasObjectsLike", "(LTracewheel$Machine;)Z"⟩ ∈ xTs := xin (wm_7 (List.mem_of_getElem? (i := 5) (by decide +kernel))) rfl
theorem w7_7 : Cond.instanceMethod ⟨"Tracewheel$Machine", "hasObjectsLike", "(LTracewheel$Machine;)Z"⟩ ∈ xTs := xin (wm_7 (List.mem_of_getElem? (i := 7) (by decide +kernel))) rfl
theorem w7_8 : Cond.code ⟨"Tracewheel$Machine", "hasObjectsLike", "(LTracewheel$Machine;)Z"⟩ prog_5_method_38_code 4 (some .boolean) ∈ xTs := xin (wm_7 (List.mem_of_getElem? (i := 8) (by decide +kernel))) rfl
theorem w7_9 : Cond.methodLink "Tracewheel$Machine" 284 ⟨"Tracewheel$Machine", "hasFieldsLike", "(ILTracewheel$Machine;)Z"⟩ ∈ xTs := xin (wm_7 (List.mem_of_getElem? (i := 9) (by decide +kernel))) rfl
theorem w7_11 : Cond.instanceMethod ⟨"Tracewheel$Machine", "hasFieldsLike", "(ILTracewheel$Machine;)Z"⟩ ∈ xTs := xin (wm_7 (List.mem_of_getElem? (i := 11) (by decide +kernel))) rfl
theorem w7_12 : Cond.code ⟨"Tracewheel$Machine", "hasFieldsLike", "(ILTracewheel$Machine;)Z"⟩ prog_5_method_39_code 5 (some .boolean) ∈ xTs := xin (wm_7 (List.mem_of_getElem? (i := 12) (by decide +kernel))) rfl
theorem w7_13 : Cond.methodLink "TracewheelLaw" 185 ⟨"TracewheelLaw", "resultKind", "(LTracewheel;[J)I"⟩ ∈ xTs := xin (wm_7 (List.mem_of_getElem? (i := 13) (by decide +kernel))) rfl
theorem w7_14 : Cond.static ⟨"TracewheelLaw", "resultKind", "(LTracewheel;[J)I"⟩ ∈ xTs := xin (wm_7 (List.mem_of_getElem? (i := 14) (by decide +kernel))) rfl
theorem w7_15 : Cond.codeWith ⟨"TracewheelLaw", "resultKind", "(LTracewheel;[J)I"⟩ method_11_code 3 (some .int) [(0, 8, 11, 36)] ∈ xTs := xin (wm_7 (List.mem_of_getElem? (i := 15) (by decide +kernel))) rfl
theorem w7_16 : Cond.methodLink "TracewheelLaw" 47 ⟨"Tracewheel", "resultKind", "()C"⟩ ∈ xTs := xin (wm_7 (List.mem_of_getElem? (i := 16) (by decide +kernel))) rfl
theorem w7_17 : Cond.instanceMethod ⟨"Tracewheel", "resultKind", "()C"⟩ ∈ xTs := xin (wm_7 (List.mem_of_getElem? (i := 17) (by decide +kernel))) rfl
theorem w7_18 : Cond.selects "Tracewheel" ⟨"Tracewheel", "resultKind", "()C"⟩ ⟨"Tracewheel", "resultKind", "()C"⟩ ∈ xTs := xin (wm_7 (List.mem_of_getElem? (i := 18) (by decide +kernel))) rfl
theorem w7_19 : Cond.code ⟨"Tracewheel", "resultKind", "()C"⟩ prog_1_method_11_code 1 (some .char) ∈ xTs := xin (wm_7 (List.mem_of_getElem? (i := 19) (by decide +kernel))) rfl
theorem w7_20 : Cond.methodLink "Tracewheel" 242 ⟨"Tracewheel", "needEnding", "(C)V"⟩ ∈ xTs := xin (wm_7 (List.mem_of_getElem? (i := 20) (by decide +kernel))) rfl
theorem w7_22 : Cond.instanceMethod ⟨"Tracewheel", "needEnding", "(C)V"⟩ ∈ xTs := xin (wm_7 (List.mem_of_getElem? (i := 22) (by decide +kernel))) rfl
theorem w7_23 : Cond.code ⟨"Tracewheel", "needEnding", "(C)V"⟩ prog_1_method_49_code 2 none ∈ xTs := xin (wm_7 (List.mem_of_getElem? (i := 23) (by decide +kernel))) rfl
theorem w7_25 : Cond.methodLink "TracewheelLaw" 189 ⟨"TracewheelLaw", "result", "(LTracewheel;[J)I"⟩ ∈ xTs := xin (wm_7 (List.mem_of_getElem? (i := 25) (by decide +kernel))) rfl
theorem w7_26 : Cond.static ⟨"TracewheelLaw", "result", "(LTracewheel;[J)I"⟩ ∈ xTs := xin (wm_7 (List.mem_of_getElem? (i := 26) (by decide +kernel))) rfl
theorem w7_27 : Cond.codeWith ⟨"TracewheelLaw", "result", "(LTracewheel;[J)I"⟩ method_12_code 3 (some .int) [(0, 7, 10, 36)] ∈ xTs := xin (wm_7 (List.mem_of_getElem? (i := 27) (by decide +kernel))) rfl
theorem w7_28 : Cond.methodLink "TracewheelLaw" 51 ⟨"Tracewheel", "result", "()J"⟩ ∈ xTs := xin (wm_7 (List.mem_of_getElem? (i := 28) (by decide +kernel))) rfl
theorem w7_29 : Cond.instanceMethod ⟨"Tracewheel", "result", "()J"⟩ ∈ xTs := xin (wm_7 (List.mem_of_getElem? (i := 29) (by decide +kernel))) rfl
theorem w7_30 : Cond.selects "Tracewheel" ⟨"Tracewheel", "result", "()J"⟩ ⟨"Tracewheel", "result", "()J"⟩ ∈ xTs := xin (wm_7 (List.mem_of_getElem? (i := 30) (by decide +kernel))) rfl
theorem w7_31 : Cond.code ⟨"Tracewheel", "result", "()J"⟩ prog_1_method_12_code 1 (some .long) ∈ xTs := xin (wm_7 (List.mem_of_getElem? (i := 31) (by decide +kernel))) rfl
theorem w7_32 : Cond.methodLink "Tracewheel" 256 ⟨"Tracewheel$Slots", "bitsAt", "(I)J"⟩ ∈ xTs := xin (wm_7 (List.mem_of_getElem? (i := 32) (by decide +kernel))) rfl
theorem w7_33 : Cond.instanceMethod ⟨"Tracewheel$Slots", "bitsAt", "(I)J"⟩ ∈ xTs := xin (wm_7 (List.mem_of_getElem? (i := 33) (by decide +kernel))) rfl
theorem w7_34 : Cond.selects "Tracewheel$Slots" ⟨"Tracewheel$Slots", "bitsAt", "(I)J"⟩ ⟨"Tracewheel$Slots", "bitsAt", "(I)J"⟩ ∈ xTs := xin (wm_7 (List.mem_of_getElem? (i := 34) (by decide +kernel))) rfl
theorem w7_35 : Cond.code ⟨"Tracewheel$Slots", "bitsAt", "(I)J"⟩ prog_10_method_10_code 2 (some .long) ∈ xTs := xin (wm_7 (List.mem_of_getElem? (i := 35) (by decide +kernel))) rfl
theorem w7_36 : Cond.constantLong "Tracewheel$Slots" 34 9221120237041090560 ∈ xTs := xin (wm_7 (List.mem_of_getElem? (i := 36) (by decide +kernel))) rfl
theorem w7_37 : Cond.methodLink "Tracewheel$Slots" 36 ⟨"Tracewheel$Numbers", "bitsOf", "(D)J"⟩ ∈ xTs := xin (wm_7 (List.mem_of_getElem? (i := 37) (by decide +kernel))) rfl
theorem w7_38 : Cond.static ⟨"Tracewheel$Numbers", "bitsOf", "(D)J"⟩ ∈ xTs := xin (wm_7 (List.mem_of_getElem? (i := 38) (by decide +kernel))) rfl
theorem w7_39 : Cond.code ⟨"Tracewheel$Numbers", "bitsOf", "(D)J"⟩ prog_6_method_11_code 10 (some .long) ∈ xTs := xin (wm_7 (List.mem_of_getElem? (i := 39) (by decide +kernel))) rfl
theorem w7_40 : Cond.methodLink "Tracewheel$Numbers" 35 ⟨"Tracewheel$Numbers", "isNegative", "(D)Z"⟩ ∈ xTs := xin (wm_7 (List.mem_of_getElem? (i := 40) (by decide +kernel))) rfl
theorem w7_41 : Cond.constantLong "Tracewheel$Numbers" 38 (-9223372036854775808) ∈ xTs := xin (wm_7 (List.mem_of_getElem? (i := 41) (by decide +kernel))) rfl
theorem w7_42 : Cond.constantLong "Tracewheel$Numbers" 40 9218868437227405312 ∈ xTs := xin (wm_7 (List.mem_of_getElem? (i := 42) (by decide +kernel))) rfl
theorem w7_43 : Cond.constantLong "Tracewheel$Numbers" 42 1075 ∈ xTs := xin (wm_7 (List.mem_of_getElem? (i := 43) (by decide +kernel))) rfl
theorem w7_44 : Cond.constantDouble "Tracewheel$Numbers" 44 4845873199050653696 ∈ xTs := xin (wm_7 (List.mem_of_getElem? (i := 44) (by decide +kernel))) rfl
theorem w7_45 : Cond.constantDouble "Tracewheel$Numbers" 46 4841369599423283200 ∈ xTs := xin (wm_7 (List.mem_of_getElem? (i := 45) (by decide +kernel))) rfl
theorem w7_46 : Cond.constantLong "Tracewheel$Numbers" 48 4503599627370496 ∈ xTs := xin (wm_7 (List.mem_of_getElem? (i := 46) (by decide +kernel))) rfl
theorem w7_47 : Cond.constantLong "Tracewheel$Numbers" 50 4503599627370495 ∈ xTs := xin (wm_7 (List.mem_of_getElem? (i := 47) (by decide +kernel))) rfl
theorem w7_48 : Cond.methodLink "TracewheelLaw" 192 ⟨"TracewheelLaw", "failure", "(LTracewheel;[J)I"⟩ ∈ xTs := xin (wm_7 (List.mem_of_getElem? (i := 48) (by decide +kernel))) rfl
theorem w7_49 : Cond.static ⟨"TracewheelLaw", "failure", "(LTracewheel;[J)I"⟩ ∈ xTs := xin (wm_7 (List.mem_of_getElem? (i := 49) (by decide +kernel))) rfl
theorem w7_50 : Cond.codeWith ⟨"TracewheelLaw", "failure", "(LTracewheel;[J)I"⟩ method_13_code 3 (some .int) [(0, 8, 11, 36)] ∈ xTs := xin (wm_7 (List.mem_of_getElem? (i := 50) (by decide +kernel))) rfl
theorem w7_51 : Cond.methodLink "TracewheelLaw" 55 ⟨"Tracewheel", "failure", "()C"⟩ ∈ xTs := xin (wm_7 (List.mem_of_getElem? (i := 51) (by decide +kernel))) rfl
theorem w7_52 : Cond.instanceMethod ⟨"Tracewheel", "failure", "()C"⟩ ∈ xTs := xin (wm_7 (List.mem_of_getElem? (i := 52) (by decide +kernel))) rfl
theorem w7_53 : Cond.selects "Tracewheel" ⟨"Tracewheel", "failure", "()C"⟩ ⟨"Tracewheel", "failure", "()C"⟩ ∈ xTs := xin (wm_7 (List.mem_of_getElem? (i := 53) (by decide +kernel))) rfl
theorem w7_54 : Cond.code ⟨"Tracewheel", "failure", "()C"⟩ prog_1_method_13_code 1 (some .char) ∈ xTs := xin (wm_7 (List.mem_of_getElem? (i := 54) (by decide +kernel))) rfl
theorem w7_55 : Cond.methodLink "TracewheelLaw" 195 ⟨"TracewheelLaw", "line", "(LTracewheel;[J)I"⟩ ∈ xTs := xin (wm_7 (List.mem_of_getElem? (i := 55) (by decide +kernel))) rfl
theorem w7_56 : Cond.static ⟨"TracewheelLaw", "line", "(LTracewheel;[J)I"⟩ ∈ xTs := xin (wm_7 (List.mem_of_getElem? (i := 56) (by decide +kernel))) rfl
theorem w7_57 : Cond.codeWith ⟨"TracewheelLaw", "line", "(LTracewheel;[J)I"⟩ method_14_code 3 (some .int) [(0, 8, 11, 36)] ∈ xTs := xin (wm_7 (List.mem_of_getElem? (i := 57) (by decide +kernel))) rfl
theorem w7_58 : Cond.methodLink "TracewheelLaw" 58 ⟨"Tracewheel", "line", "()I"⟩ ∈ xTs := xin (wm_7 (List.mem_of_getElem? (i := 58) (by decide +kernel))) rfl
theorem w7_59 : Cond.instanceMethod ⟨"Tracewheel", "line", "()I"⟩ ∈ xTs := xin (wm_7 (List.mem_of_getElem? (i := 59) (by decide +kernel))) rfl
theorem w7_60 : Cond.selects "Tracewheel" ⟨"Tracewheel", "line", "()I"⟩ ⟨"Tracewheel", "line", "()I"⟩ ∈ xTs := xin (wm_7 (List.mem_of_getElem? (i := 60) (by decide +kernel))) rfl
theorem w7_61 : Cond.code ⟨"Tracewheel", "line", "()I"⟩ prog_1_method_14_code 1 (some .int) ∈ xTs := xin (wm_7 (List.mem_of_getElem? (i := 61) (by decide +kernel))) rfl
theorem w7_62 : Cond.methodLink "TracewheelLaw" 202 ⟨"TracewheelLaw", "toldKind", "(LTracewheel;I[J)I"⟩ ∈ xTs := xin (wm_7 (List.mem_of_getElem? (i := 62) (by decide +kernel))) rfl
theorem w7_63 : Cond.static ⟨"TracewheelLaw", "toldKind", "(LTracewheel;I[J)I"⟩ ∈ xTs := xin (wm_7 (List.mem_of_getElem? (i := 63) (by decide +kernel))) rfl
theorem w7_64 : Cond.codeWith ⟨"TracewheelLaw", "toldKind", "(LTracewheel;I[J)I"⟩ method_15_code 4 (some .int) [(0, 9, 12, 21)] ∈ xTs := xin (wm_7 (List.mem_of_getElem? (i := 64) (by decide +kernel))) rfl
theorem w7_65 : Cond.methodLink "TracewheelLaw" 62 ⟨"Tracewheel", "toldKind", "(I)C"⟩ ∈ xTs := xin (wm_7 (List.mem_of_getElem? (i := 65) (by decide +kernel))) rfl
theorem w7_66 : Cond.instanceMethod ⟨"Tracewheel", "toldKind", "(I)C"⟩ ∈ xTs := xin (wm_7 (List.mem_of_getElem? (i := 66) (by decide +kernel))) rfl
theorem w7_67 : Cond.selects "Tracewheel" ⟨"Tracewheel", "toldKind", "(I)C"⟩ ⟨"Tracewheel", "toldKind", "(I)C"⟩ ∈ xTs := xin (wm_7 (List.mem_of_getElem? (i := 67) (by decide +kernel))) rfl
theorem w7_68 : Cond.code ⟨"Tracewheel", "toldKind", "(I)C"⟩ prog_1_method_16_code 2 (some .char) ∈ xTs := xin (wm_7 (List.mem_of_getElem? (i := 68) (by decide +kernel))) rfl
theorem w7_69 : Cond.methodLink "Tracewheel" 269 ⟨"Tracewheel", "needTold", "(I)V"⟩ ∈ xTs := xin (wm_7 (List.mem_of_getElem? (i := 69) (by decide +kernel))) rfl
theorem w7_71 : Cond.instanceMethod ⟨"Tracewheel", "needTold", "(I)V"⟩ ∈ xTs := xin (wm_7 (List.mem_of_getElem? (i := 71) (by decide +kernel))) rfl
theorem w7_72 : Cond.code ⟨"Tracewheel", "needTold", "(I)V"⟩ prog_1_method_50_code 2 none ∈ xTs := xin (wm_7 (List.mem_of_getElem? (i := 72) (by decide +kernel))) rfl
theorem w7_74 : Cond.methodLink "TracewheelLaw" 205 ⟨"TracewheelLaw", "toldAt", "(LTracewheel;I[J)I"⟩ ∈ xTs := xin (wm_7 (List.mem_of_getElem? (i := 74) (by decide +kernel))) rfl
theorem w7_75 : Cond.static ⟨"TracewheelLaw", "toldAt", "(LTracewheel;I[J)I"⟩ ∈ xTs := xin (wm_7 (List.mem_of_getElem? (i := 75) (by decide +kernel))) rfl
theorem w7_76 : Cond.codeWith ⟨"TracewheelLaw", "toldAt", "(LTracewheel;I[J)I"⟩ method_16_code 4 (some .int) [(0, 8, 11, 21)] ∈ xTs := xin (wm_7 (List.mem_of_getElem? (i := 76) (by decide +kernel))) rfl
theorem w7_77 : Cond.methodLink "TracewheelLaw" 66 ⟨"Tracewheel", "toldAt", "(I)J"⟩ ∈ xTs := xin (wm_7 (List.mem_of_getElem? (i := 77) (by decide +kernel))) rfl
theorem w7_78 : Cond.instanceMethod ⟨"Tracewheel", "toldAt", "(I)J"⟩ ∈ xTs := xin (wm_7 (List.mem_of_getElem? (i := 78) (by decide +kernel))) rfl
theorem w7_79 : Cond.selects "Tracewheel" ⟨"Tracewheel", "toldAt", "(I)J"⟩ ⟨"Tracewheel", "toldAt", "(I)J"⟩ ∈ xTs := xin (wm_7 (List.mem_of_getElem? (i := 79) (by decide +kernel))) rfl
theorem w7_80 : Cond.code ⟨"Tracewheel", "toldAt", "(I)J"⟩ prog_1_method_17_code 2 (some .long) ∈ xTs := xin (wm_7 (List.mem_of_getElem? (i := 80) (by decide +kernel))) rfl
theorem w7_81 : Cond.methodLink "TracewheelLaw" 212 ⟨"TracewheelLaw", "shapeOf", "(LTracewheel;I[J)I"⟩ ∈ xTs := xin (wm_7 (List.mem_of_getElem? (i := 81) (by decide +kernel))) rfl
theorem w7_82 : Cond.static ⟨"TracewheelLaw", "shapeOf", "(LTracewheel;I[J)I"⟩ ∈ xTs := xin (wm_7 (List.mem_of_getElem? (i := 82) (by decide +kernel))) rfl
theorem w7_83 : Cond.codeWith ⟨"TracewheelLaw", "shapeOf", "(LTracewheel;I[J)I"⟩ method_17_code 4 (some .int) [(0, 9, 12, 21)] ∈ xTs := xin (wm_7 (List.mem_of_getElem? (i := 83) (by decide +kernel))) rfl
theorem w7_84 : Cond.methodLink "TracewheelLaw" 70 ⟨"Tracewheel", "shapeOf", "(I)I"⟩ ∈ xTs := xin (wm_7 (List.mem_of_getElem? (i := 84) (by decide +kernel))) rfl
theorem w7_85 : Cond.instanceMethod ⟨"Tracewheel", "shapeOf", "(I)I"⟩ ∈ xTs := xin (wm_7 (List.mem_of_getElem? (i := 85) (by decide +kernel))) rfl
theorem w7_86 : Cond.selects "Tracewheel" ⟨"Tracewheel", "shapeOf", "(I)I"⟩ ⟨"Tracewheel", "shapeOf", "(I)I"⟩ ∈ xTs := xin (wm_7 (List.mem_of_getElem? (i := 86) (by decide +kernel))) rfl
theorem w7_87 : Cond.code ⟨"Tracewheel", "shapeOf", "(I)I"⟩ prog_1_method_19_code 2 (some .int) ∈ xTs := xin (wm_7 (List.mem_of_getElem? (i := 87) (by decide +kernel))) rfl
theorem w7_88 : Cond.methodLink "Tracewheel" 275 ⟨"Tracewheel", "needObject", "(I)V"⟩ ∈ xTs := xin (wm_7 (List.mem_of_getElem? (i := 88) (by decide +kernel))) rfl
theorem w7_90 : Cond.instanceMethod ⟨"Tracewheel", "needObject", "(I)V"⟩ ∈ xTs := xin (wm_7 (List.mem_of_getElem? (i := 90) (by decide +kernel))) rfl
theorem w7_91 : Cond.code ⟨"Tracewheel", "needObject", "(I)V"⟩ prog_1_method_51_code 2 none ∈ xTs := xin (wm_7 (List.mem_of_getElem? (i := 91) (by decide +kernel))) rfl
theorem w7_93 : Cond.methodLink "TracewheelLaw" 215 ⟨"TracewheelLaw", "field", "(LTracewheel;II[J)I"⟩ ∈ xTs := xin (wm_7 (List.mem_of_getElem? (i := 93) (by decide +kernel))) rfl
theorem w7_94 : Cond.static ⟨"TracewheelLaw", "field", "(LTracewheel;II[J)I"⟩ ∈ xTs := xin (wm_7 (List.mem_of_getElem? (i := 94) (by decide +kernel))) rfl
theorem w7_95 : Cond.codeWith ⟨"TracewheelLaw", "field", "(LTracewheel;II[J)I"⟩ method_18_code 5 (some .int) [(0, 9, 12, 21), (0, 9, 16, 36)] ∈ xTs := xin (wm_7 (List.mem_of_getElem? (i := 95) (by decide +kernel))) rfl
theorem w7_96 : Cond.methodLink "TracewheelLaw" 73 ⟨"Tracewheel", "field", "(II)J"⟩ ∈ xTs := xin (wm_7 (List.mem_of_getElem? (i := 96) (by decide +kernel))) rfl
theorem w7_97 : Cond.instanceMethod ⟨"Tracewheel", "field", "(II)J"⟩ ∈ xTs := xin (wm_7 (List.mem_of_getElem? (i := 97) (by decide +kernel))) rfl
theorem w7_98 : Cond.selects "Tracewheel" ⟨"Tracewheel", "field", "(II)J"⟩ ⟨"Tracewheel", "field", "(II)J"⟩ ∈ xTs := xin (wm_7 (List.mem_of_getElem? (i := 98) (by decide +kernel))) rfl
theorem w7_99 : Cond.code ⟨"Tracewheel", "field", "(II)J"⟩ prog_1_method_20_code 3 (some .long) ∈ xTs := xin (wm_7 (List.mem_of_getElem? (i := 99) (by decide +kernel))) rfl
theorem w7_100 : Cond.methodLink "Tracewheel" 281 ⟨"Tracewheel$Shapes", "has", "(II)Z"⟩ ∈ xTs := xin (wm_7 (List.mem_of_getElem? (i := 100) (by decide +kernel))) rfl
theorem w7_102 : Cond.methodLink "Tracewheel" 287 ⟨"Tracewheel", "fieldPlace", "(II)I"⟩ ∈ xTs := xin (wm_7 (List.mem_of_getElem? (i := 102) (by decide +kernel))) rfl
theorem w7_103 : Cond.methodLink "TracewheelLaw" 222 ⟨"TracewheelLaw", "fields", "(LTracewheel;I[J)I"⟩ ∈ xTs := xin (wm_7 (List.mem_of_getElem? (i := 103) (by decide +kernel))) rfl
theorem w7_104 : Cond.static ⟨"TracewheelLaw", "fields", "(LTracewheel;I[J)I"⟩ ∈ xTs := xin (wm_7 (List.mem_of_getElem? (i := 104) (by decide +kernel))) rfl
theorem w7_105 : Cond.codeWith ⟨"TracewheelLaw", "fields", "(LTracewheel;I[J)I"⟩ method_19_code 4 (some .int) [(0, 9, 12, 21)] ∈ xTs := xin (wm_7 (List.mem_of_getElem? (i := 105) (by decide +kernel))) rfl
theorem w7_106 : Cond.methodLink "TracewheelLaw" 77 ⟨"Tracewheel", "fields", "(I)I"⟩ ∈ xTs := xin (wm_7 (List.mem_of_getElem? (i := 106) (by decide +kernel))) rfl
theorem w7_107 : Cond.instanceMethod ⟨"Tracewheel", "fields", "(I)I"⟩ ∈ xTs := xin (wm_7 (List.mem_of_getElem? (i := 107) (by decide +kernel))) rfl
theorem w7_108 : Cond.selects "Tracewheel" ⟨"Tracewheel", "fields", "(I)I"⟩ ⟨"Tracewheel", "fields", "(I)I"⟩ ∈ xTs := xin (wm_7 (List.mem_of_getElem? (i := 108) (by decide +kernel))) rfl
theorem w7_109 : Cond.code ⟨"Tracewheel", "fields", "(I)I"⟩ prog_1_method_22_code 2 (some .int) ∈ xTs := xin (wm_7 (List.mem_of_getElem? (i := 109) (by decide +kernel))) rfl
theorem w7_110 : Cond.methodLink "Tracewheel" 291 ⟨"Tracewheel", "needShape", "(I)V"⟩ ∈ xTs := xin (wm_7 (List.mem_of_getElem? (i := 110) (by decide +kernel))) rfl
theorem w7_112 : Cond.instanceMethod ⟨"Tracewheel", "needShape", "(I)V"⟩ ∈ xTs := xin (wm_7 (List.mem_of_getElem? (i := 112) (by decide +kernel))) rfl
theorem w7_113 : Cond.code ⟨"Tracewheel", "needShape", "(I)V"⟩ prog_1_method_52_code 2 none ∈ xTs := xin (wm_7 (List.mem_of_getElem? (i := 113) (by decide +kernel))) rfl
theorem w7_115 : Cond.methodLink "TracewheelLaw" 225 ⟨"TracewheelLaw", "fieldAt", "(LTracewheel;II[J)I"⟩ ∈ xTs := xin (wm_7 (List.mem_of_getElem? (i := 115) (by decide +kernel))) rfl
theorem w7_116 : Cond.static ⟨"TracewheelLaw", "fieldAt", "(LTracewheel;II[J)I"⟩ ∈ xTs := xin (wm_7 (List.mem_of_getElem? (i := 116) (by decide +kernel))) rfl
theorem w7_117 : Cond.codeWith ⟨"TracewheelLaw", "fieldAt", "(LTracewheel;II[J)I"⟩ method_20_code 5 (some .int) [(0, 10, 13, 21), (0, 10, 17, 36)] ∈ xTs := xin (wm_7 (List.mem_of_getElem? (i := 117) (by decide +kernel))) rfl
theorem w7_118 : Cond.methodLink "TracewheelLaw" 80 ⟨"Tracewheel", "fieldAt", "(II)I"⟩ ∈ xTs := xin (wm_7 (List.mem_of_getElem? (i := 118) (by decide +kernel))) rfl
theorem w7_119 : Cond.instanceMethod ⟨"Tracewheel", "fieldAt", "(II)I"⟩ ∈ xTs := xin (wm_7 (List.mem_of_getElem? (i := 119) (by decide +kernel))) rfl
theorem w7_120 : Cond.selects "Tracewheel" ⟨"Tracewheel", "fieldAt", "(II)I"⟩ ⟨"Tracewheel", "fieldAt", "(II)I"⟩ ∈ xTs := xin (wm_7 (List.mem_of_getElem? (i := 120) (by decide +kernel))) rfl
theorem w7_121 : Cond.code ⟨"Tracewheel", "fieldAt", "(II)I"⟩ prog_1_method_23_code 3 (some .int) ∈ xTs := xin (wm_7 (List.mem_of_getElem? (i := 121) (by decide +kernel))) rfl
theorem w7_123 : Cond.methodLink "TracewheelLaw" 228 ⟨"TracewheelLaw", "nextShape", "(LTracewheel;II[J)I"⟩ ∈ xTs := xin (wm_7 (List.mem_of_getElem? (i := 123) (by decide +kernel))) rfl
theorem w7_124 : Cond.static ⟨"TracewheelLaw", "nextShape", "(LTracewheel;II[J)I"⟩ ∈ xTs := xin (wm_7 (List.mem_of_getElem? (i := 124) (by decide +kernel))) rfl
theorem w7_125 : Cond.codeWith ⟨"TracewheelLaw", "nextShape", "(LTracewheel;II[J)I"⟩ method_21_code 5 (some .int) [(0, 10, 13, 21), (0, 10, 17, 36)] ∈ xTs := xin (wm_7 (List.mem_of_getElem? (i := 125) (by decide +kernel))) rfl
theorem w7_126 : Cond.methodLink "TracewheelLaw" 83 ⟨"Tracewheel", "nextShape", "(II)I"⟩ ∈ xTs := xin (wm_7 (List.mem_of_getElem? (i := 126) (by decide +kernel))) rfl
theorem w7_127 : Cond.instanceMethod ⟨"Tracewheel", "nextShape", "(II)I"⟩ ∈ xTs := xin (wm_7 (List.mem_of_getElem? (i := 127) (by decide +kernel))) rfl
theorem w7_128 : Cond.selects "Tracewheel" ⟨"Tracewheel", "nextShape", "(II)I"⟩ ⟨"Tracewheel", "nextShape", "(II)I"⟩ ∈ xTs := xin (wm_7 (List.mem_of_getElem? (i := 128) (by decide +kernel))) rfl
theorem w7_129 : Cond.code ⟨"Tracewheel", "nextShape", "(II)I"⟩ prog_1_method_24_code 3 (some .int) ∈ xTs := xin (wm_7 (List.mem_of_getElem? (i := 129) (by decide +kernel))) rfl
theorem w7_131 : Cond.methodLink "TracewheelLaw" 231 ⟨"TracewheelLaw", "cacheState", "(LTracewheel;II[J)I"⟩ ∈ xTs := xin (wm_7 (List.mem_of_getElem? (i := 131) (by decide +kernel))) rfl
theorem w7_132 : Cond.static ⟨"TracewheelLaw", "cacheState", "(LTracewheel;II[J)I"⟩ ∈ xTs := xin (wm_7 (List.mem_of_getElem? (i := 132) (by decide +kernel))) rfl
theorem w7_133 : Cond.codeWith ⟨"TracewheelLaw", "cacheState", "(LTracewheel;II[J)I"⟩ method_22_code 5 (some .int) [(0, 10, 13, 21), (0, 10, 17, 36)] ∈ xTs := xin (wm_7 (List.mem_of_getElem? (i := 133) (by decide +kernel))) rfl
theorem w7_134 : Cond.methodLink "TracewheelLaw" 86 ⟨"Tracewheel", "cacheState", "(II)C"⟩ ∈ xTs := xin (wm_7 (List.mem_of_getElem? (i := 134) (by decide +kernel))) rfl
theorem w7_135 : Cond.instanceMethod ⟨"Tracewheel", "cacheState", "(II)C"⟩ ∈ xTs := xin (wm_7 (List.mem_of_getElem? (i := 135) (by decide +kernel))) rfl
theorem w7_136 : Cond.selects "Tracewheel" ⟨"Tracewheel", "cacheState", "(II)C"⟩ ⟨"Tracewheel", "cacheState", "(II)C"⟩ ∈ xTs := xin (wm_7 (List.mem_of_getElem? (i := 136) (by decide +kernel))) rfl
theorem w7_137 : Cond.code ⟨"Tracewheel", "cacheState", "(II)C"⟩ prog_1_method_25_code 3 (some .char) ∈ xTs := xin (wm_7 (List.mem_of_getElem? (i := 137) (by decide +kernel))) rfl
theorem w7_138 : Cond.methodLink "Tracewheel" 307 ⟨"Tracewheel", "cacheSite", "(II)I"⟩ ∈ xTs := xin (wm_7 (List.mem_of_getElem? (i := 138) (by decide +kernel))) rfl
theorem w7_140 : Cond.instanceMethod ⟨"Tracewheel", "cacheSite", "(II)I"⟩ ∈ xTs := xin (wm_7 (List.mem_of_getElem? (i := 140) (by decide +kernel))) rfl
theorem w7_141 : Cond.code ⟨"Tracewheel", "cacheSite", "(II)I"⟩ prog_1_method_53_code 3 (some .int) ∈ xTs := xin (wm_7 (List.mem_of_getElem? (i := 141) (by decide +kernel))) rfl
theorem w7_142 : Cond.methodLink "Tracewheel" 415 ⟨"Tracewheel$Program", "hasCode", "(II)Z"⟩ ∈ xTs := xin (wm_7 (List.mem_of_getElem? (i := 142) (by decide +kernel))) rfl
theorem w7_145 : Cond.methodLink "Tracewheel" 310 ⟨"Tracewheel$Caches", "stateAt", "(I)C"⟩ ∈ xTs := xin (wm_7 (List.mem_of_getElem? (i := 145) (by decide +kernel))) rfl
theorem w7_146 : Cond.instanceMethod ⟨"Tracewheel$Caches", "stateAt", "(I)C"⟩ ∈ xTs := xin (wm_7 (List.mem_of_getElem? (i := 146) (by decide +kernel))) rfl
theorem w7_147 : Cond.selects "Tracewheel$Caches" ⟨"Tracewheel$Caches", "stateAt", "(I)C"⟩ ⟨"Tracewheel$Caches", "stateAt", "(I)C"⟩ ∈ xTs := xin (wm_7 (List.mem_of_getElem? (i := 147) (by decide +kernel))) rfl
theorem w7_148 : Cond.code ⟨"Tracewheel$Caches", "stateAt", "(I)C"⟩ prog_2_method_2_code 2 (some .char) ∈ xTs := xin (wm_7 (List.mem_of_getElem? (i := 148) (by decide +kernel))) rfl
theorem w7_149 : Cond.methodLink "TracewheelLaw" 234 ⟨"TracewheelLaw", "hits", "(LTracewheel;II[J)I"⟩ ∈ xTs := xin (wm_7 (List.mem_of_getElem? (i := 149) (by decide +kernel))) rfl
theorem w7_150 : Cond.static ⟨"TracewheelLaw", "hits", "(LTracewheel;II[J)I"⟩ ∈ xTs := xin (wm_7 (List.mem_of_getElem? (i := 150) (by decide +kernel))) rfl
theorem w7_151 : Cond.codeWith ⟨"TracewheelLaw", "hits", "(LTracewheel;II[J)I"⟩ method_23_code 5 (some .int) [(0, 10, 13, 21), (0, 10, 17, 36)] ∈ xTs := xin (wm_7 (List.mem_of_getElem? (i := 151) (by decide +kernel))) rfl
theorem w7_152 : Cond.methodLink "TracewheelLaw" 90 ⟨"Tracewheel", "hits", "(II)I"⟩ ∈ xTs := xin (wm_7 (List.mem_of_getElem? (i := 152) (by decide +kernel))) rfl
theorem w7_153 : Cond.instanceMethod ⟨"Tracewheel", "hits", "(II)I"⟩ ∈ xTs := xin (wm_7 (List.mem_of_getElem? (i := 153) (by decide +kernel))) rfl
theorem w7_154 : Cond.selects "Tracewheel" ⟨"Tracewheel", "hits", "(II)I"⟩ ⟨"Tracewheel", "hits", "(II)I"⟩ ∈ xTs := xin (wm_7 (List.mem_of_getElem? (i := 154) (by decide +kernel))) rfl
theorem w7_155 : Cond.code ⟨"Tracewheel", "hits", "(II)I"⟩ prog_1_method_26_code 3 (some .int) ∈ xTs := xin (wm_7 (List.mem_of_getElem? (i := 155) (by decide +kernel))) rfl
theorem w7_156 : Cond.methodLink "TracewheelLaw" 237 ⟨"TracewheelLaw", "misses", "(LTracewheel;II[J)I"⟩ ∈ xTs := xin (wm_7 (List.mem_of_getElem? (i := 156) (by decide +kernel))) rfl
theorem w7_157 : Cond.static ⟨"TracewheelLaw", "misses", "(LTracewheel;II[J)I"⟩ ∈ xTs := xin (wm_7 (List.mem_of_getElem? (i := 157) (by decide +kernel))) rfl
theorem w7_158 : Cond.codeWith ⟨"TracewheelLaw", "misses", "(LTracewheel;II[J)I"⟩ method_24_code 5 (some .int) [(0, 10, 13, 21), (0, 10, 17, 36)] ∈ xTs := xin (wm_7 (List.mem_of_getElem? (i := 158) (by decide +kernel))) rfl
theorem w7_159 : Cond.methodLink "TracewheelLaw" 93 ⟨"Tracewheel", "misses", "(II)I"⟩ ∈ xTs := xin (wm_7 (List.mem_of_getElem? (i := 159) (by decide +kernel))) rfl
theorem w7_160 : Cond.instanceMethod ⟨"Tracewheel", "misses", "(II)I"⟩ ∈ xTs := xin (wm_7 (List.mem_of_getElem? (i := 160) (by decide +kernel))) rfl
theorem w7_161 : Cond.selects "Tracewheel" ⟨"Tracewheel", "misses", "(II)I"⟩ ⟨"Tracewheel", "misses", "(II)I"⟩ ∈ xTs := xin (wm_7 (List.mem_of_getElem? (i := 161) (by decide +kernel))) rfl
theorem w7_162 : Cond.code ⟨"Tracewheel", "misses", "(II)I"⟩ prog_1_method_27_code 3 (some .int) ∈ xTs := xin (wm_7 (List.mem_of_getElem? (i := 162) (by decide +kernel))) rfl
theorem w7_163 : Cond.methodLink "TracewheelLaw" 240 ⟨"TracewheelLaw", "counter", "(LTracewheel;II[J)I"⟩ ∈ xTs := xin (wm_7 (List.mem_of_getElem? (i := 163) (by decide +kernel))) rfl
theorem w7_164 : Cond.static ⟨"TracewheelLaw", "counter", "(LTracewheel;II[J)I"⟩ ∈ xTs := xin (wm_7 (List.mem_of_getElem? (i := 164) (by decide +kernel))) rfl
theorem w7_165 : Cond.codeWith ⟨"TracewheelLaw", "counter", "(LTracewheel;II[J)I"⟩ method_25_code 5 (some .int) [(0, 10, 13, 21), (0, 10, 17, 13)] ∈ xTs := xin (wm_7 (List.mem_of_getElem? (i := 165) (by decide +kernel))) rfl
theorem w7_166 : Cond.methodLink "TracewheelLaw" 96 ⟨"Tracewheel", "counter", "(II)I"⟩ ∈ xTs := xin (wm_7 (List.mem_of_getElem? (i := 166) (by decide +kernel))) rfl
theorem w7_167 : Cond.instanceMethod ⟨"Tracewheel", "counter", "(II)I"⟩ ∈ xTs := xin (wm_7 (List.mem_of_getElem? (i := 167) (by decide +kernel))) rfl
theorem w7_168 : Cond.selects "Tracewheel" ⟨"Tracewheel", "counter", "(II)I"⟩ ⟨"Tracewheel", "counter", "(II)I"⟩ ∈ xTs := xin (wm_7 (List.mem_of_getElem? (i := 168) (by decide +kernel))) rfl
theorem w7_169 : Cond.code ⟨"Tracewheel", "counter", "(II)I"⟩ prog_1_method_28_code 3 (some .int) ∈ xTs := xin (wm_7 (List.mem_of_getElem? (i := 169) (by decide +kernel))) rfl
theorem w7_170 : Cond.methodLink "TracewheelLaw" 243 ⟨"TracewheelLaw", "isBarred", "(LTracewheel;II[J)I"⟩ ∈ xTs := xin (wm_7 (List.mem_of_getElem? (i := 170) (by decide +kernel))) rfl
theorem w7_171 : Cond.static ⟨"TracewheelLaw", "isBarred", "(LTracewheel;II[J)I"⟩ ∈ xTs := xin (wm_7 (List.mem_of_getElem? (i := 171) (by decide +kernel))) rfl
theorem w7_172 : Cond.codeWith ⟨"TracewheelLaw", "isBarred", "(LTracewheel;II[J)I"⟩ method_26_code 5 (some .int) [(0, 17, 20, 21), (0, 17, 24, 13)] ∈ xTs := xin (wm_7 (List.mem_of_getElem? (i := 172) (by decide +kernel))) rfl
theorem w7_173 : Cond.methodLink "TracewheelLaw" 99 ⟨"Tracewheel", "isBarred", "(II)Z"⟩ ∈ xTs := xin (wm_7 (List.mem_of_getElem? (i := 173) (by decide +kernel))) rfl
theorem w7_174 : Cond.instanceMethod ⟨"Tracewheel", "isBarred", "(II)Z"⟩ ∈ xTs := xin (wm_7 (List.mem_of_getElem? (i := 174) (by decide +kernel))) rfl
theorem w7_175 : Cond.selects "Tracewheel" ⟨"Tracewheel", "isBarred", "(II)Z"⟩ ⟨"Tracewheel", "isBarred", "(II)Z"⟩ ∈ xTs := xin (wm_7 (List.mem_of_getElem? (i := 175) (by decide +kernel))) rfl
theorem w7_176 : Cond.code ⟨"Tracewheel", "isBarred", "(II)Z"⟩ prog_1_method_29_code 3 (some .boolean) ∈ xTs := xin (wm_7 (List.mem_of_getElem? (i := 176) (by decide +kernel))) rfl
theorem w7_177 : Cond.methodLink "Tracewheel" 332 ⟨"Tracewheel$Heads", "bars", "(I)Z"⟩ ∈ xTs := xin (wm_7 (List.mem_of_getElem? (i := 177) (by decide +kernel))) rfl
theorem w7_178 : Cond.methodLink "TracewheelLaw" 250 ⟨"TracewheelLaw", "isThere", "(LTracewheel;I[J)I"⟩ ∈ xTs := xin (wm_7 (List.mem_of_getElem? (i := 178) (by decide +kernel))) rfl
theorem w7_179 : Cond.static ⟨"TracewheelLaw", "isThere", "(LTracewheel;I[J)I"⟩ ∈ xTs := xin (wm_7 (List.mem_of_getElem? (i := 179) (by decide +kernel))) rfl
theorem w7_180 : Cond.codeWith ⟨"TracewheelLaw", "isThere", "(LTracewheel;I[J)I"⟩ method_27_code 4 (some .int) [(0, 16, 19, 21)] ∈ xTs := xin (wm_7 (List.mem_of_getElem? (i := 180) (by decide +kernel))) rfl
theorem w7_181 : Cond.methodLink "TracewheelLaw" 103 ⟨"Tracewheel", "isThere", "(I)Z"⟩ ∈ xTs := xin (wm_7 (List.mem_of_getElem? (i := 181) (by decide +kernel))) rfl
theorem w7_182 : Cond.instanceMethod ⟨"Tracewheel", "isThere", "(I)Z"⟩ ∈ xTs := xin (wm_7 (List.mem_of_getElem? (i := 182) (by decide +kernel))) rfl
theorem w7_183 : Cond.selects "Tracewheel" ⟨"Tracewheel", "isThere", "(I)Z"⟩ ⟨"Tracewheel", "isThere", "(I)Z"⟩ ∈ xTs := xin (wm_7 (List.mem_of_getElem? (i := 183) (by decide +kernel))) rfl
theorem w7_184 : Cond.code ⟨"Tracewheel", "isThere", "(I)Z"⟩ prog_1_method_31_code 2 (some .boolean) ∈ xTs := xin (wm_7 (List.mem_of_getElem? (i := 184) (by decide +kernel))) rfl
theorem w7_185 : Cond.methodLink "Tracewheel" 336 ⟨"Tracewheel", "traceAt", "(I)LTracewheel$Trace;"⟩ ∈ xTs := xin (wm_7 (List.mem_of_getElem? (i := 185) (by decide +kernel))) rfl
theorem w7_187 : Cond.instanceMethod ⟨"Tracewheel", "traceAt", "(I)LTracewheel$Trace;"⟩ ∈ xTs := xin (wm_7 (List.mem_of_getElem? (i := 187) (by decide +kernel))) rfl
theorem w7_188 : Cond.code ⟨"Tracewheel", "traceAt", "(I)LTracewheel$Trace;"⟩ prog_1_method_54_code 2 (Option.some (FieldType.object "Tracewheel$Trace")) ∈ xTs := xin (wm_7 (List.mem_of_getElem? (i := 188) (by decide +kernel))) rfl
theorem w7_190 : Cond.methodLink "TracewheelLaw" 253 ⟨"TracewheelLaw", "steps", "(LTracewheel;I[J)I"⟩ ∈ xTs := xin (wm_7 (List.mem_of_getElem? (i := 190) (by decide +kernel))) rfl
theorem w7_191 : Cond.static ⟨"TracewheelLaw", "steps", "(LTracewheel;I[J)I"⟩ ∈ xTs := xin (wm_7 (List.mem_of_getElem? (i := 191) (by decide +kernel))) rfl
theorem w7_192 : Cond.codeWith ⟨"TracewheelLaw", "steps", "(LTracewheel;I[J)I"⟩ method_28_code 4 (some .int) [(0, 9, 12, 21)] ∈ xTs := xin (wm_7 (List.mem_of_getElem? (i := 192) (by decide +kernel))) rfl
theorem w7_193 : Cond.methodLink "TracewheelLaw" 107 ⟨"Tracewheel", "steps", "(I)I"⟩ ∈ xTs := xin (wm_7 (List.mem_of_getElem? (i := 193) (by decide +kernel))) rfl
theorem w7_194 : Cond.instanceMethod ⟨"Tracewheel", "steps", "(I)I"⟩ ∈ xTs := xin (wm_7 (List.mem_of_getElem? (i := 194) (by decide +kernel))) rfl
theorem w7_195 : Cond.selects "Tracewheel" ⟨"Tracewheel", "steps", "(I)I"⟩ ⟨"Tracewheel", "steps", "(I)I"⟩ ∈ xTs := xin (wm_7 (List.mem_of_getElem? (i := 195) (by decide +kernel))) rfl
theorem w7_196 : Cond.code ⟨"Tracewheel", "steps", "(I)I"⟩ prog_1_method_32_code 2 (some .int) ∈ xTs := xin (wm_7 (List.mem_of_getElem? (i := 196) (by decide +kernel))) rfl
theorem w7_197 : Cond.methodLink "TracewheelLaw" 256 ⟨"TracewheelLaw", "lineAt", "(LTracewheel;II[J)I"⟩ ∈ xTs := xin (wm_7 (List.mem_of_getElem? (i := 197) (by decide +kernel))) rfl
theorem w7_198 : Cond.static ⟨"TracewheelLaw", "lineAt", "(LTracewheel;II[J)I"⟩ ∈ xTs := xin (wm_7 (List.mem_of_getElem? (i := 198) (by decide +kernel))) rfl
theorem w7_199 : Cond.codeWith ⟨"TracewheelLaw", "lineAt", "(LTracewheel;II[J)I"⟩ method_29_code 5 (some .int) [(0, 10, 13, 21), (0, 10, 17, 36)] ∈ xTs := xin (wm_7 (List.mem_of_getElem? (i := 199) (by decide +kernel))) rfl
theorem w7_200 : Cond.methodLink "TracewheelLaw" 110 ⟨"Tracewheel", "lineAt", "(II)I"⟩ ∈ xTs := xin (wm_7 (List.mem_of_getElem? (i := 200) (by decide +kernel))) rfl
theorem w7_201 : Cond.instanceMethod ⟨"Tracewheel", "lineAt", "(II)I"⟩ ∈ xTs := xin (wm_7 (List.mem_of_getElem? (i := 201) (by decide +kernel))) rfl
theorem w7_202 : Cond.selects "Tracewheel" ⟨"Tracewheel", "lineAt", "(II)I"⟩ ⟨"Tracewheel", "lineAt", "(II)I"⟩ ∈ xTs := xin (wm_7 (List.mem_of_getElem? (i := 202) (by decide +kernel))) rfl
theorem w7_203 : Cond.code ⟨"Tracewheel", "lineAt", "(II)I"⟩ prog_1_method_33_code 4 (some .int) ∈ xTs := xin (wm_7 (List.mem_of_getElem? (i := 203) (by decide +kernel))) rfl
theorem w7_205 : Cond.methodLink "TracewheelLaw" 259 ⟨"TracewheelLaw", "guards", "(LTracewheel;I[J)I"⟩ ∈ xTs := xin (wm_7 (List.mem_of_getElem? (i := 205) (by decide +kernel))) rfl
theorem w7_206 : Cond.static ⟨"TracewheelLaw", "guards", "(LTracewheel;I[J)I"⟩ ∈ xTs := xin (wm_7 (List.mem_of_getElem? (i := 206) (by decide +kernel))) rfl
theorem w7_207 : Cond.codeWith ⟨"TracewheelLaw", "guards", "(LTracewheel;I[J)I"⟩ method_30_code 4 (some .int) [(0, 9, 12, 21)] ∈ xTs := xin (wm_7 (List.mem_of_getElem? (i := 207) (by decide +kernel))) rfl
theorem w7_208 : Cond.methodLink "TracewheelLaw" 113 ⟨"Tracewheel", "guards", "(I)I"⟩ ∈ xTs := xin (wm_7 (List.mem_of_getElem? (i := 208) (by decide +kernel))) rfl
theorem w7_209 : Cond.instanceMethod ⟨"Tracewheel", "guards", "(I)I"⟩ ∈ xTs := xin (wm_7 (List.mem_of_getElem? (i := 209) (by decide +kernel))) rfl
theorem w7_210 : Cond.selects "Tracewheel" ⟨"Tracewheel", "guards", "(I)I"⟩ ⟨"Tracewheel", "guards", "(I)I"⟩ ∈ xTs := xin (wm_7 (List.mem_of_getElem? (i := 210) (by decide +kernel))) rfl
theorem w7_211 : Cond.code ⟨"Tracewheel", "guards", "(I)I"⟩ prog_1_method_34_code 2 (some .int) ∈ xTs := xin (wm_7 (List.mem_of_getElem? (i := 211) (by decide +kernel))) rfl
theorem w7_212 : Cond.methodLink "TracewheelLaw" 262 ⟨"TracewheelLaw", "guardAt", "(LTracewheel;II[J)I"⟩ ∈ xTs := xin (wm_7 (List.mem_of_getElem? (i := 212) (by decide +kernel))) rfl
theorem w7_213 : Cond.static ⟨"TracewheelLaw", "guardAt", "(LTracewheel;II[J)I"⟩ ∈ xTs := xin (wm_7 (List.mem_of_getElem? (i := 213) (by decide +kernel))) rfl
theorem w7_214 : Cond.codeWith ⟨"TracewheelLaw", "guardAt", "(LTracewheel;II[J)I"⟩ method_31_code 5 (some .int) [(0, 10, 13, 21)] ∈ xTs := xin (wm_7 (List.mem_of_getElem? (i := 214) (by decide +kernel))) rfl
theorem w7_215 : Cond.methodLink "TracewheelLaw" 116 ⟨"Tracewheel", "guardAt", "(II)C"⟩ ∈ xTs := xin (wm_7 (List.mem_of_getElem? (i := 215) (by decide +kernel))) rfl
theorem w7_216 : Cond.instanceMethod ⟨"Tracewheel", "guardAt", "(II)C"⟩ ∈ xTs := xin (wm_7 (List.mem_of_getElem? (i := 216) (by decide +kernel))) rfl
theorem w7_217 : Cond.selects "Tracewheel" ⟨"Tracewheel", "guardAt", "(II)C"⟩ ⟨"Tracewheel", "guardAt", "(II)C"⟩ ∈ xTs := xin (wm_7 (List.mem_of_getElem? (i := 217) (by decide +kernel))) rfl
theorem w7_218 : Cond.code ⟨"Tracewheel", "guardAt", "(II)C"⟩ prog_1_method_35_code 3 (some .char) ∈ xTs := xin (wm_7 (List.mem_of_getElem? (i := 218) (by decide +kernel))) rfl
theorem w7_219 : Cond.methodLink "Tracewheel" 356 ⟨"Tracewheel", "traceWithGuard", "(II)LTracewheel$Trace;"⟩ ∈ xTs := xin (wm_7 (List.mem_of_getElem? (i := 219) (by decide +kernel))) rfl
theorem w7_221 : Cond.instanceMethod ⟨"Tracewheel", "traceWithGuard", "(II)LTracewheel$Trace;"⟩ ∈ xTs := xin (wm_7 (List.mem_of_getElem? (i := 221) (by decide +kernel))) rfl
theorem w7_222 : Cond.code ⟨"Tracewheel", "traceWithGuard", "(II)LTracewheel$Trace;"⟩ prog_1_method_55_code 4 (Option.some (FieldType.object "Tracewheel$Trace")) ∈ xTs := xin (wm_7 (List.mem_of_getElem? (i := 222) (by decide +kernel))) rfl
theorem w7_224 : Cond.methodLink "TracewheelLaw" 265 ⟨"TracewheelLaw", "guardStep", "(LTracewheel;II[J)I"⟩ ∈ xTs := xin (wm_7 (List.mem_of_getElem? (i := 224) (by decide +kernel))) rfl
theorem w7_225 : Cond.static ⟨"TracewheelLaw", "guardStep", "(LTracewheel;II[J)I"⟩ ∈ xTs := xin (wm_7 (List.mem_of_getElem? (i := 225) (by decide +kernel))) rfl
theorem w7_226 : Cond.codeWith ⟨"TracewheelLaw", "guardStep", "(LTracewheel;II[J)I"⟩ method_32_code 5 (some .int) [(0, 10, 13, 21)] ∈ xTs := xin (wm_7 (List.mem_of_getElem? (i := 226) (by decide +kernel))) rfl
theorem w7_227 : Cond.methodLink "TracewheelLaw" 119 ⟨"Tracewheel", "guardStep", "(II)I"⟩ ∈ xTs := xin (wm_7 (List.mem_of_getElem? (i := 227) (by decide +kernel))) rfl
theorem w7_228 : Cond.instanceMethod ⟨"Tracewheel", "guardStep", "(II)I"⟩ ∈ xTs := xin (wm_7 (List.mem_of_getElem? (i := 228) (by decide +kernel))) rfl
theorem w7_229 : Cond.selects "Tracewheel" ⟨"Tracewheel", "guardStep", "(II)I"⟩ ⟨"Tracewheel", "guardStep", "(II)I"⟩ ∈ xTs := xin (wm_7 (List.mem_of_getElem? (i := 229) (by decide +kernel))) rfl
theorem w7_230 : Cond.code ⟨"Tracewheel", "guardStep", "(II)I"⟩ prog_1_method_36_code 3 (some .int) ∈ xTs := xin (wm_7 (List.mem_of_getElem? (i := 230) (by decide +kernel))) rfl
theorem w7_231 : Cond.methodLink "TracewheelLaw" 268 ⟨"TracewheelLaw", "exits", "(LTracewheel;II[J)I"⟩ ∈ xTs := xin (wm_7 (List.mem_of_getElem? (i := 231) (by decide +kernel))) rfl
theorem w7_232 : Cond.static ⟨"TracewheelLaw", "exits", "(LTracewheel;II[J)I"⟩ ∈ xTs := xin (wm_7 (List.mem_of_getElem? (i := 232) (by decide +kernel))) rfl
theorem w7_233 : Cond.codeWith ⟨"TracewheelLaw", "exits", "(LTracewheel;II[J)I"⟩ method_33_code 5 (some .int) [(0, 10, 13, 21)] ∈ xTs := xin (wm_7 (List.mem_of_getElem? (i := 233) (by decide +kernel))) rfl
theorem w7_234 : Cond.methodLink "TracewheelLaw" 122 ⟨"Tracewheel", "exits", "(II)I"⟩ ∈ xTs := xin (wm_7 (List.mem_of_getElem? (i := 234) (by decide +kernel))) rfl
theorem w7_235 : Cond.instanceMethod ⟨"Tracewheel", "exits", "(II)I"⟩ ∈ xTs := xin (wm_7 (List.mem_of_getElem? (i := 235) (by decide +kernel))) rfl
theorem w7_236 : Cond.selects "Tracewheel" ⟨"Tracewheel", "exits", "(II)I"⟩ ⟨"Tracewheel", "exits", "(II)I"⟩ ∈ xTs := xin (wm_7 (List.mem_of_getElem? (i := 236) (by decide +kernel))) rfl
theorem w7_237 : Cond.code ⟨"Tracewheel", "exits", "(II)I"⟩ prog_1_method_37_code 3 (some .int) ∈ xTs := xin (wm_7 (List.mem_of_getElem? (i := 237) (by decide +kernel))) rfl
theorem w7_238 : Cond.methodLink "TracewheelLaw" 271 ⟨"TracewheelLaw", "sideOf", "(LTracewheel;II[J)I"⟩ ∈ xTs := xin (wm_7 (List.mem_of_getElem? (i := 238) (by decide +kernel))) rfl
theorem w7_239 : Cond.static ⟨"TracewheelLaw", "sideOf", "(LTracewheel;II[J)I"⟩ ∈ xTs := xin (wm_7 (List.mem_of_getElem? (i := 239) (by decide +kernel))) rfl
theorem w8_0 : Cond.codeWith ⟨"TracewheelLaw", "sideOf", "(LTracewheel;II[J)I"⟩ method_34_code 5 (some .int) [(0, 10, 13, 21), (0, 10, 17, 36)] ∈ xTs := xin (wm_8 (List.mem_of_getElem? (i := 0) (by decide +kernel))) rfl
theorem w8_1 : Cond.methodLink "TracewheelLaw" 125 ⟨"Tracewheel", "sideOf", "(II)I"⟩ ∈ xTs := xin (wm_8 (List.mem_of_getElem? (i := 1) (by decide +kernel))) rfl
theorem w8_2 : Cond.instanceMethod ⟨"Tracewheel", "sideOf", "(II)I"⟩ ∈ xTs := xin (wm_8 (List.mem_of_getElem? (i := 2) (by decide +kernel))) rfl
theorem w8_3 : Cond.selects "Tracewheel" ⟨"Tracewheel", "sideOf", "(II)I"⟩ ⟨"Tracewheel", "sideOf", "(II)I"⟩ ∈ xTs := xin (wm_8 (List.mem_of_getElem? (i := 3) (by decide +kernel))) rfl
theorem w8_4 : Cond.code ⟨"Tracewheel", "sideOf", "(II)I"⟩ prog_1_method_38_code 4 (some .int) ∈ xTs := xin (wm_8 (List.mem_of_getElem? (i := 4) (by decide +kernel))) rfl
theorem w8_6 : Cond.methodLink "TracewheelLaw" 274 ⟨"TracewheelLaw", "rootOf", "(LTracewheel;I[J)I"⟩ ∈ xTs := xin (wm_8 (List.mem_of_getElem? (i := 6) (by decide +kernel))) rfl
theorem w8_7 : Cond.static ⟨"TracewheelLaw", "rootOf", "(LTracewheel;I[J)I"⟩ ∈ xTs := xin (wm_8 (List.mem_of_getElem? (i := 7) (by decide +kernel))) rfl
theorem w8_8 : Cond.codeWith ⟨"TracewheelLaw", "rootOf", "(LTracewheel;I[J)I"⟩ method_35_code 4 (some .int) [(0, 9, 12, 21)] ∈ xTs := xin (wm_8 (List.mem_of_getElem? (i := 8) (by decide +kernel))) rfl
theorem w8_9 : Cond.methodLink "TracewheelLaw" 128 ⟨"Tracewheel", "rootOf", "(I)I"⟩ ∈ xTs := xin (wm_8 (List.mem_of_getElem? (i := 9) (by decide +kernel))) rfl
theorem w8_10 : Cond.instanceMethod ⟨"Tracewheel", "rootOf", "(I)I"⟩ ∈ xTs := xin (wm_8 (List.mem_of_getElem? (i := 10) (by decide +kernel))) rfl
theorem w8_11 : Cond.selects "Tracewheel" ⟨"Tracewheel", "rootOf", "(I)I"⟩ ⟨"Tracewheel", "rootOf", "(I)I"⟩ ∈ xTs := xin (wm_8 (List.mem_of_getElem? (i := 11) (by decide +kernel))) rfl
theorem w8_12 : Cond.code ⟨"Tracewheel", "rootOf", "(I)I"⟩ prog_1_method_39_code 2 (some .int) ∈ xTs := xin (wm_8 (List.mem_of_getElem? (i := 12) (by decide +kernel))) rfl
theorem w8_13 : Cond.methodLink "TracewheelLaw" 277 ⟨"TracewheelLaw", "begun", "(LTracewheel;I[J)I"⟩ ∈ xTs := xin (wm_8 (List.mem_of_getElem? (i := 13) (by decide +kernel))) rfl
theorem w8_14 : Cond.static ⟨"TracewheelLaw", "begun", "(LTracewheel;I[J)I"⟩ ∈ xTs := xin (wm_8 (List.mem_of_getElem? (i := 14) (by decide +kernel))) rfl
theorem w8_15 : Cond.codeWith ⟨"TracewheelLaw", "begun", "(LTracewheel;I[J)I"⟩ method_36_code 4 (some .int) [(0, 9, 12, 21)] ∈ xTs := xin (wm_8 (List.mem_of_getElem? (i := 15) (by decide +kernel))) rfl
theorem w8_16 : Cond.methodLink "TracewheelLaw" 131 ⟨"Tracewheel", "begun", "(I)I"⟩ ∈ xTs := xin (wm_8 (List.mem_of_getElem? (i := 16) (by decide +kernel))) rfl
theorem w8_17 : Cond.instanceMethod ⟨"Tracewheel", "begun", "(I)I"⟩ ∈ xTs := xin (wm_8 (List.mem_of_getElem? (i := 17) (by decide +kernel))) rfl
theorem w8_18 : Cond.selects "Tracewheel" ⟨"Tracewheel", "begun", "(I)I"⟩ ⟨"Tracewheel", "begun", "(I)I"⟩ ∈ xTs := xin (wm_8 (List.mem_of_getElem? (i := 18) (by decide +kernel))) rfl
end VMW2
