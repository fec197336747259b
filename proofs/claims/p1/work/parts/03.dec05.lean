theorem dX12_throwsWith_112 : decode cX12_throwsWith 112 = .ok (.iconst 1, 1) := by decide +kernel
theorem dX12_throwsWith_113 : decode cX12_throwsWith 113 = .ok (.goto 4, 3) := by decide +kernel
theorem dX12_throwsWith_116 : decode cX12_throwsWith 116 = .ok (.iconst 0, 1) := by decide +kernel
theorem dX12_throwsWith_117 : decode cX12_throwsWith 117 = .ok (.istore 5, 2) := by decide +kernel
theorem dX12_throwsWith_119 : decode cX12_throwsWith 119 = .ok (.iinc 6 1, 3) := by decide +kernel
theorem dX12_throwsWith_122 : decode cX12_throwsWith 122 = .ok (.goto (-102), 3) := by decide +kernel
theorem dX12_throwsWith_125 : decode cX12_throwsWith 125 = .ok (.iload 5, 2) := by decide +kernel
theorem dX12_throwsWith_127 : decode cX12_throwsWith 127 = .ok (.ifCond .eq 17, 3) := by decide +kernel
theorem dX12_throwsWith_130 : decode cX12_throwsWith 130 = .ok (.aload_n 0, 1) := by decide +kernel
theorem dX12_throwsWith_131 : decode cX12_throwsWith 131 = .ok (.aload_n 0, 1) := by decide +kernel
theorem dX12_throwsWith_132 : decode cX12_throwsWith 132 = .ok (.getfield 91, 3) := by decide +kernel
theorem dX12_throwsWith_135 : decode cX12_throwsWith 135 = .ok (.iload 4, 2) := by decide +kernel
theorem dX12_throwsWith_137 : decode cX12_throwsWith 137 = .ok (.iaload, 1) := by decide +kernel
theorem dX12_throwsWith_138 : decode cX12_throwsWith 138 = .ok (.invokevirtual 248, 3) := by decide +kernel
theorem dX12_throwsWith_141 : decode cX12_throwsWith 141 = .ok (.iinc 3 1, 3) := by decide +kernel
theorem dX12_throwsWith_144 : decode cX12_throwsWith 144 = .ok (.iinc 4 1, 3) := by decide +kernel
theorem dX12_throwsWith_147 : decode cX12_throwsWith 147 = .ok (.goto (-142), 3) := by decide +kernel
theorem dX12_throwsWith_150 : decode cX12_throwsWith 150 = .ok (.iload_n 3, 1) := by decide +kernel
theorem dX12_throwsWith_151 : decode cX12_throwsWith 151 = .ok (.ireturn, 1) := by decide +kernel
theorem dX12_rootAt_0 : decode cX12_rootAt 0 = .ok (.iconst 0, 1) := by decide +kernel
theorem dX12_rootAt_1 : decode cX12_rootAt 1 = .ok (.istore_n 2, 1) := by decide +kernel
theorem dX12_rootAt_2 : decode cX12_rootAt 2 = .ok (.iload_n 2, 1) := by decide +kernel
theorem dX12_rootAt_3 : decode cX12_rootAt 3 = .ok (.aload_n 0, 1) := by decide +kernel
theorem dX12_rootAt_4 : decode cX12_rootAt 4 = .ok (.getfield 256, 3) := by decide +kernel
theorem dX12_rootAt_7 : decode cX12_rootAt 7 = .ok (.if_icmp .ge 40, 3) := by decide +kernel
theorem dX12_rootAt_10 : decode cX12_rootAt 10 = .ok (.aload_n 0, 1) := by decide +kernel
theorem dX12_rootAt_11 : decode cX12_rootAt 11 = .ok (.getfield 78, 3) := by decide +kernel
theorem dX12_rootAt_14 : decode cX12_rootAt 14 = .ok (.iload_n 2, 1) := by decide +kernel
theorem dX12_rootAt_15 : decode cX12_rootAt 15 = .ok (.baload, 1) := by decide +kernel
theorem dX12_rootAt_16 : decode cX12_rootAt 16 = .ok (.ifCond .eq 25, 3) := by decide +kernel
theorem dX12_rootAt_19 : decode cX12_rootAt 19 = .ok (.aload_n 0, 1) := by decide +kernel
theorem dX12_rootAt_20 : decode cX12_rootAt 20 = .ok (.getfield 91, 3) := by decide +kernel
theorem dX12_rootAt_23 : decode cX12_rootAt 23 = .ok (.iload_n 2, 1) := by decide +kernel
theorem dX12_rootAt_24 : decode cX12_rootAt 24 = .ok (.iaload, 1) := by decide +kernel
theorem dX12_rootAt_25 : decode cX12_rootAt 25 = .ok (.iload_n 2, 1) := by decide +kernel
theorem dX12_rootAt_26 : decode cX12_rootAt 26 = .ok (.if_icmp .ne 15, 3) := by decide +kernel
theorem dX12_rootAt_29 : decode cX12_rootAt 29 = .ok (.aload_n 0, 1) := by decide +kernel
theorem dX12_rootAt_30 : decode cX12_rootAt 30 = .ok (.getfield 94, 3) := by decide +kernel
theorem dX12_rootAt_33 : decode cX12_rootAt 33 = .ok (.iload_n 2, 1) := by decide +kernel
theorem dX12_rootAt_34 : decode cX12_rootAt 34 = .ok (.iaload, 1) := by decide +kernel
theorem dX12_rootAt_35 : decode cX12_rootAt 35 = .ok (.iload_n 1, 1) := by decide +kernel
theorem dX12_rootAt_36 : decode cX12_rootAt 36 = .ok (.if_icmp .ne 5, 3) := by decide +kernel
theorem dX12_rootAt_39 : decode cX12_rootAt 39 = .ok (.iload_n 2, 1) := by decide +kernel
theorem dX12_rootAt_40 : decode cX12_rootAt 40 = .ok (.ireturn, 1) := by decide +kernel
theorem dX12_rootAt_41 : decode cX12_rootAt 41 = .ok (.iinc 2 1, 3) := by decide +kernel
theorem dX12_rootAt_44 : decode cX12_rootAt 44 = .ok (.goto (-42), 3) := by decide +kernel
theorem dX12_rootAt_47 : decode cX12_rootAt 47 = .ok (.iconst (-1), 1) := by decide +kernel
theorem dX12_rootAt_48 : decode cX12_rootAt 48 = .ok (.ireturn, 1) := by decide +kernel
theorem dX12_enters_0 : decode cX12_enters 0 = .ok (.aload_n 0, 1) := by decide +kernel
theorem dX12_enters_1 : decode cX12_enters 1 = .ok (.iload_n 1, 1) := by decide +kernel
theorem dX12_enters_2 : decode cX12_enters 2 = .ok (.putfield 172, 3) := by decide +kernel
theorem dX12_enters_5 : decode cX12_enters 5 = .ok (.aload_n 0, 1) := by decide +kernel
theorem dX12_enters_6 : decode cX12_enters 6 = .ok (.iconst 0, 1) := by decide +kernel
theorem dX12_enters_7 : decode cX12_enters 7 = .ok (.putfield 259, 3) := by decide +kernel
theorem dX12_enters_10 : decode cX12_enters 10 = .ok (.aload_n 0, 1) := by decide +kernel
theorem dX12_enters_11 : decode cX12_enters 11 = .ok (.aload_n 0, 1) := by decide +kernel
theorem dX12_enters_12 : decode cX12_enters 12 = .ok (.getfield 262, 3) := by decide +kernel
theorem dX12_enters_15 : decode cX12_enters 15 = .ok (.putfield 265, 3) := by decide +kernel
theorem dX12_enters_18 : decode cX12_enters 18 = .ok (.aload_n 0, 1) := by decide +kernel
theorem dX12_enters_19 : decode cX12_enters 19 = .ok (.getfield 97, 3) := by decide +kernel
theorem dX12_enters_22 : decode cX12_enters 22 = .ok (.iload_n 1, 1) := by decide +kernel
theorem dX12_enters_23 : decode cX12_enters 23 = .ok (.dup2, 1) := by decide +kernel
theorem dX12_enters_24 : decode cX12_enters 24 = .ok (.iaload, 1) := by decide +kernel
theorem dX12_enters_25 : decode cX12_enters 25 = .ok (.iconst 1, 1) := by decide +kernel
theorem dX12_enters_26 : decode cX12_enters 26 = .ok (.iadd, 1) := by decide +kernel
theorem dX12_enters_27 : decode cX12_enters 27 = .ok (.iastore, 1) := by decide +kernel
theorem dX12_enters_28 : decode cX12_enters 28 = .ok (.aload_n 0, 1) := by decide +kernel
theorem dX12_enters_29 : decode cX12_enters 29 = .ok (.dup, 1) := by decide +kernel
theorem dX12_enters_30 : decode cX12_enters 30 = .ok (.getfield 268, 3) := by decide +kernel
theorem dX12_enters_33 : decode cX12_enters 33 = .ok (.iconst 1, 1) := by decide +kernel
theorem dX12_enters_34 : decode cX12_enters 34 = .ok (.iadd, 1) := by decide +kernel
theorem dX12_enters_35 : decode cX12_enters 35 = .ok (.putfield 268, 3) := by decide +kernel
theorem dX12_enters_38 : decode cX12_enters 38 = .ok (.aload_n 0, 1) := by decide +kernel
theorem dX12_enters_39 : decode cX12_enters 39 = .ok (.getfield 100, 3) := by decide +kernel
theorem dX12_enters_42 : decode cX12_enters 42 = .ok (.iload_n 1, 1) := by decide +kernel
theorem dX12_enters_43 : decode cX12_enters 43 = .ok (.aload_n 0, 1) := by decide +kernel
theorem dX12_enters_44 : decode cX12_enters 44 = .ok (.getfield 268, 3) := by decide +kernel
theorem dX12_enters_47 : decode cX12_enters 47 = .ok (.iastore, 1) := by decide +kernel
theorem dX12_enters_48 : decode cX12_enters 48 = .ok (.return_, 1) := by decide +kernel
theorem dX12_top_0 : decode cX12_top 0 = .ok (.bipush 14, 2) := by decide +kernel
theorem dX12_top_2 : decode cX12_top 2 = .ok (.aload_n 0, 1) := by decide +kernel
theorem dX12_top_3 : decode cX12_top 3 = .ok (.getfield 262, 3) := by decide +kernel
theorem dX12_top_6 : decode cX12_top 6 = .ok (.imul, 1) := by decide +kernel
theorem dX12_top_7 : decode cX12_top 7 = .ok (.bipush 6, 2) := by decide +kernel
theorem dX12_top_9 : decode cX12_top 9 = .ok (.iadd, 1) := by decide +kernel
theorem dX12_top_10 : decode cX12_top 10 = .ok (.aload_n 0, 1) := by decide +kernel
theorem dX12_top_11 : decode cX12_top 11 = .ok (.getfield 146, 3) := by decide +kernel
theorem dX12_top_14 : decode cX12_top 14 = .ok (.aload_n 0, 1) := by decide +kernel
theorem dX12_top_15 : decode cX12_top 15 = .ok (.getfield 262, 3) := by decide +kernel
theorem dX12_top_18 : decode cX12_top 18 = .ok (.iaload, 1) := by decide +kernel
theorem dX12_top_19 : decode cX12_top 19 = .ok (.iadd, 1) := by decide +kernel
theorem dX12_top_20 : decode cX12_top 20 = .ok (.iconst 1, 1) := by decide +kernel
theorem dX12_top_21 : decode cX12_top 21 = .ok (.isub, 1) := by decide +kernel
theorem dX12_top_22 : decode cX12_top 22 = .ok (.iload_n 1, 1) := by decide +kernel
theorem dX12_top_23 : decode cX12_top 23 = .ok (.isub, 1) := by decide +kernel
theorem dX12_top_24 : decode cX12_top 24 = .ok (.ireturn, 1) := by decide +kernel
theorem dX12_isNumber_0 : decode cX12_isNumber 0 = .ok (.iload_n 0, 1) := by decide +kernel
theorem dX12_isNumber_1 : decode cX12_isNumber 1 = .ok (.bipush 105, 2) := by decide +kernel
theorem dX12_isNumber_3 : decode cX12_isNumber 3 = .ok (.if_icmp .eq 9, 3) := by decide +kernel
theorem dX12_isNumber_6 : decode cX12_isNumber 6 = .ok (.iload_n 0, 1) := by decide +kernel
theorem dX12_isNumber_7 : decode cX12_isNumber 7 = .ok (.bipush 102, 2) := by decide +kernel
theorem dX12_isNumber_9 : decode cX12_isNumber 9 = .ok (.if_icmp .ne 7, 3) := by decide +kernel
theorem dX12_isNumber_12 : decode cX12_isNumber 12 = .ok (.iconst 1, 1) := by decide +kernel
theorem dX12_isNumber_13 : decode cX12_isNumber 13 = .ok (.goto 4, 3) := by decide +kernel
theorem dX12_isNumber_16 : decode cX12_isNumber 16 = .ok (.iconst 0, 1) := by decide +kernel
theorem dX12_isNumber_17 : decode cX12_isNumber 17 = .ok (.ireturn, 1) := by decide +kernel
theorem dX12_asFloat_0 : decode cX12_asFloat 0 = .ok (.aload_n 0, 1) := by decide +kernel
theorem dX12_asFloat_1 : decode cX12_asFloat 1 = .ok (.getfield 127, 3) := by decide +kernel
theorem dX12_asFloat_4 : decode cX12_asFloat 4 = .ok (.iload_n 1, 1) := by decide +kernel
theorem dX12_asFloat_5 : decode cX12_asFloat 5 = .ok (.caload, 1) := by decide +kernel
theorem dX12_asFloat_6 : decode cX12_asFloat 6 = .ok (.bipush 105, 2) := by decide +kernel
theorem dX12_asFloat_8 : decode cX12_asFloat 8 = .ok (.if_icmp .ne 13, 3) := by decide +kernel
theorem dX12_asFloat_11 : decode cX12_asFloat 11 = .ok (.aload_n 0, 1) := by decide +kernel
theorem dX12_asFloat_12 : decode cX12_asFloat 12 = .ok (.getfield 130, 3) := by decide +kernel
theorem dX12_asFloat_15 : decode cX12_asFloat 15 = .ok (.iload_n 1, 1) := by decide +kernel
theorem dX12_asFloat_16 : decode cX12_asFloat 16 = .ok (.iaload, 1) := by decide +kernel
theorem dX12_asFloat_17 : decode cX12_asFloat 17 = .ok (.i2d, 1) := by decide +kernel
theorem dX12_asFloat_18 : decode cX12_asFloat 18 = .ok (.goto 9, 3) := by decide +kernel
theorem dX12_asFloat_21 : decode cX12_asFloat 21 = .ok (.aload_n 0, 1) := by decide +kernel
theorem dX12_asFloat_22 : decode cX12_asFloat 22 = .ok (.getfield 133, 3) := by decide +kernel
theorem dX12_asFloat_25 : decode cX12_asFloat 25 = .ok (.iload_n 1, 1) := by decide +kernel
theorem dX12_asFloat_26 : decode cX12_asFloat 26 = .ok (.daload, 1) := by decide +kernel
theorem dX12_asFloat_27 : decode cX12_asFloat 27 = .ok (.dreturn, 1) := by decide +kernel
theorem dX12_isNull_0 : decode cX12_isNull 0 = .ok (.aload_n 0, 1) := by decide +kernel
theorem dX12_isNull_1 : decode cX12_isNull 1 = .ok (.getfield 127, 3) := by decide +kernel
theorem dX12_isNull_4 : decode cX12_isNull 4 = .ok (.iload_n 1, 1) := by decide +kernel
theorem dX12_isNull_5 : decode cX12_isNull 5 = .ok (.caload, 1) := by decide +kernel
theorem dX12_isNull_6 : decode cX12_isNull 6 = .ok (.bipush 110, 2) := by decide +kernel
theorem dX12_isNull_8 : decode cX12_isNull 8 = .ok (.if_icmp .eq 45, 3) := by decide +kernel
theorem dX12_isNull_11 : decode cX12_isNull 11 = .ok (.aload_n 0, 1) := by decide +kernel
theorem dX12_isNull_12 : decode cX12_isNull 12 = .ok (.getfield 127, 3) := by decide +kernel
theorem dX12_isNull_15 : decode cX12_isNull 15 = .ok (.iload_n 1, 1) := by decide +kernel
theorem dX12_isNull_16 : decode cX12_isNull 16 = .ok (.caload, 1) := by decide +kernel
theorem dX12_isNull_17 : decode cX12_isNull 17 = .ok (.bipush 105, 2) := by decide +kernel
theorem dX12_isNull_19 : decode cX12_isNull 19 = .ok (.if_icmp .ne 12, 3) := by decide +kernel
theorem dX12_isNull_22 : decode cX12_isNull 22 = .ok (.aload_n 0, 1) := by decide +kernel
theorem dX12_isNull_23 : decode cX12_isNull 23 = .ok (.getfield 130, 3) := by decide +kernel
theorem dX12_isNull_26 : decode cX12_isNull 26 = .ok (.iload_n 1, 1) := by decide +kernel
theorem dX12_isNull_27 : decode cX12_isNull 27 = .ok (.iaload, 1) := by decide +kernel
theorem dX12_isNull_28 : decode cX12_isNull 28 = .ok (.ifCond .eq 25, 3) := by decide +kernel
theorem dX12_isNull_31 : decode cX12_isNull 31 = .ok (.aload_n 0, 1) := by decide +kernel
theorem dX12_isNull_32 : decode cX12_isNull 32 = .ok (.getfield 127, 3) := by decide +kernel
theorem dX12_isNull_35 : decode cX12_isNull 35 = .ok (.iload_n 1, 1) := by decide +kernel
theorem dX12_isNull_36 : decode cX12_isNull 36 = .ok (.caload, 1) := by decide +kernel
theorem dX12_isNull_37 : decode cX12_isNull 37 = .ok (.bipush 102, 2) := by decide +kernel
theorem dX12_isNull_39 : decode cX12_isNull 39 = .ok (.if_icmp .ne 18, 3) := by decide +kernel
theorem dX12_isNull_42 : decode cX12_isNull 42 = .ok (.aload_n 0, 1) := by decide +kernel
theorem dX12_isNull_43 : decode cX12_isNull 43 = .ok (.getfield 133, 3) := by decide +kernel
theorem dX12_isNull_46 : decode cX12_isNull 46 = .ok (.iload_n 1, 1) := by decide +kernel
theorem dX12_isNull_47 : decode cX12_isNull 47 = .ok (.daload, 1) := by decide +kernel
theorem dX12_isNull_48 : decode cX12_isNull 48 = .ok (.dconst 0, 1) := by decide +kernel
theorem dX12_isNull_49 : decode cX12_isNull 49 = .ok (.dcmp .l, 1) := by decide +kernel
theorem dX12_isNull_50 : decode cX12_isNull 50 = .ok (.ifCond .ne 7, 3) := by decide +kernel
theorem dX12_isNull_53 : decode cX12_isNull 53 = .ok (.iconst 1, 1) := by decide +kernel
theorem dX12_isNull_54 : decode cX12_isNull 54 = .ok (.goto 4, 3) := by decide +kernel
theorem dX12_isNull_57 : decode cX12_isNull 57 = .ok (.iconst 0, 1) := by decide +kernel
theorem dX12_isNull_58 : decode cX12_isNull 58 = .ok (.ireturn, 1) := by decide +kernel
theorem dX12_bits_0 : decode cX12_bits 0 = .ok (.dload_n 0, 1) := by decide +kernel
theorem dX12_bits_1 : decode cX12_bits 1 = .ok (.dload_n 0, 1) := by decide +kernel
theorem dX12_bits_2 : decode cX12_bits 2 = .ok (.dcmp .l, 1) := by decide +kernel
theorem dX12_bits_3 : decode cX12_bits 3 = .ok (.ifCond .eq 7, 3) := by decide +kernel
theorem dX12_bits_6 : decode cX12_bits 6 = .ok (.ldc2_w 271, 3) := by decide +kernel
theorem dX12_bits_9 : decode cX12_bits 9 = .ok (.lreturn, 1) := by decide +kernel
theorem dX12_bits_10 : decode cX12_bits 10 = .ok (.dload_n 0, 1) := by decide +kernel
theorem dX12_bits_11 : decode cX12_bits 11 = .ok (.dconst 0, 1) := by decide +kernel
theorem dX12_bits_12 : decode cX12_bits 12 = .ok (.dcmp .g, 1) := by decide +kernel
theorem dX12_bits_13 : decode cX12_bits 13 = .ok (.ifCond .lt 17, 3) := by decide +kernel
theorem dX12_bits_16 : decode cX12_bits 16 = .ok (.dload_n 0, 1) := by decide +kernel
theorem dX12_bits_17 : decode cX12_bits 17 = .ok (.dconst 0, 1) := by decide +kernel
theorem dX12_bits_18 : decode cX12_bits 18 = .ok (.dcmp .l, 1) := by decide +kernel
theorem dX12_bits_19 : decode cX12_bits 19 = .ok (.ifCond .ne 15, 3) := by decide +kernel
theorem dX12_bits_22 : decode cX12_bits 22 = .ok (.dconst 1, 1) := by decide +kernel
theorem dX12_bits_23 : decode cX12_bits 23 = .ok (.dload_n 0, 1) := by decide +kernel
theorem dX12_bits_24 : decode cX12_bits 24 = .ok (.ddiv, 1) := by decide +kernel
theorem dX12_bits_25 : decode cX12_bits 25 = .ok (.dconst 0, 1) := by decide +kernel
theorem dX12_bits_26 : decode cX12_bits 26 = .ok (.dcmp .g, 1) := by decide +kernel
theorem dX12_bits_27 : decode cX12_bits 27 = .ok (.ifCond .ge 7, 3) := by decide +kernel
theorem dX12_bits_30 : decode cX12_bits 30 = .ok (.iconst 1, 1) := by decide +kernel
theorem dX12_bits_31 : decode cX12_bits 31 = .ok (.goto 4, 3) := by decide +kernel
theorem dX12_bits_34 : decode cX12_bits 34 = .ok (.iconst 0, 1) := by decide +kernel
theorem dX12_bits_35 : decode cX12_bits 35 = .ok (.istore_n 2, 1) := by decide +kernel
theorem dX12_bits_36 : decode cX12_bits 36 = .ok (.iload_n 2, 1) := by decide +kernel
theorem dX12_bits_37 : decode cX12_bits 37 = .ok (.ifCond .eq 9, 3) := by decide +kernel
theorem dX12_bits_40 : decode cX12_bits 40 = .ok (.ldc2_w 273, 3) := by decide +kernel
theorem dX12_bits_43 : decode cX12_bits 43 = .ok (.goto 4, 3) := by decide +kernel
theorem dX12_bits_46 : decode cX12_bits 46 = .ok (.lconst 0, 1) := by decide +kernel
theorem dX12_bits_47 : decode cX12_bits 47 = .ok (.lstore_n 3, 1) := by decide +kernel
theorem dX12_bits_48 : decode cX12_bits 48 = .ok (.iload_n 2, 1) := by decide +kernel
theorem dX12_bits_49 : decode cX12_bits 49 = .ok (.ifCond .eq 8, 3) := by decide +kernel
theorem dX12_bits_52 : decode cX12_bits 52 = .ok (.dload_n 0, 1) := by decide +kernel
theorem dX12_bits_53 : decode cX12_bits 53 = .ok (.dneg, 1) := by decide +kernel
theorem dX12_bits_54 : decode cX12_bits 54 = .ok (.goto 4, 3) := by decide +kernel
theorem dX12_bits_57 : decode cX12_bits 57 = .ok (.dload_n 0, 1) := by decide +kernel
theorem dX12_bits_58 : decode cX12_bits 58 = .ok (.dstore 5, 2) := by decide +kernel
theorem dX12_bits_60 : decode cX12_bits 60 = .ok (.dload 5, 2) := by decide +kernel
theorem dX12_bits_62 : decode cX12_bits 62 = .ok (.dconst 0, 1) := by decide +kernel
theorem dX12_bits_63 : decode cX12_bits 63 = .ok (.dcmp .l, 1) := by decide +kernel
theorem dX12_bits_64 : decode cX12_bits 64 = .ok (.ifCond .ne 5, 3) := by decide +kernel
theorem dX12_bits_67 : decode cX12_bits 67 = .ok (.lload_n 3, 1) := by decide +kernel
theorem dX12_bits_68 : decode cX12_bits 68 = .ok (.lreturn, 1) := by decide +kernel
theorem dX12_bits_69 : decode cX12_bits 69 = .ok (.dload 5, 2) := by decide +kernel
theorem dX12_bits_71 : decode cX12_bits 71 = .ok (.ldc2_w 275, 3) := by decide +kernel
theorem dX12_bits_74 : decode cX12_bits 74 = .ok (.dcmp .l, 1) := by decide +kernel
theorem dX12_bits_75 : decode cX12_bits 75 = .ok (.ifCond .le 9, 3) := by decide +kernel
theorem dX12_bits_78 : decode cX12_bits 78 = .ok (.lload_n 3, 1) := by decide +kernel
theorem dX12_bits_79 : decode cX12_bits 79 = .ok (.ldc2_w 277, 3) := by decide +kernel
theorem dX12_bits_82 : decode cX12_bits 82 = .ok (.lor, 1) := by decide +kernel
theorem dX12_bits_83 : decode cX12_bits 83 = .ok (.lreturn, 1) := by decide +kernel
theorem dX12_bits_84 : decode cX12_bits 84 = .ok (.iconst 0, 1) := by decide +kernel
theorem dX12_bits_85 : decode cX12_bits 85 = .ok (.istore 7, 2) := by decide +kernel
theorem dX12_bits_87 : decode cX12_bits 87 = .ok (.dload 5, 2) := by decide +kernel
theorem dX12_bits_89 : decode cX12_bits 89 = .ok (.ldc2_w 279, 3) := by decide +kernel
theorem dX12_bits_92 : decode cX12_bits 92 = .ok (.dcmp .l, 1) := by decide +kernel
theorem dX12_bits_93 : decode cX12_bits 93 = .ok (.ifCond .lt 17, 3) := by decide +kernel
theorem dX12_bits_96 : decode cX12_bits 96 = .ok (.dload 5, 2) := by decide +kernel
theorem dX12_bits_98 : decode cX12_bits 98 = .ok (.ldc2_w 279, 3) := by decide +kernel
theorem dX12_bits_101 : decode cX12_bits 101 = .ok (.ddiv, 1) := by decide +kernel
theorem dX12_bits_102 : decode cX12_bits 102 = .ok (.dstore 5, 2) := by decide +kernel
theorem dX12_bits_104 : decode cX12_bits 104 = .ok (.iinc 7 1, 3) := by decide +kernel
theorem dX12_bits_107 : decode cX12_bits 107 = .ok (.goto (-20), 3) := by decide +kernel
theorem dX12_bits_110 : decode cX12_bits 110 = .ok (.dload 5, 2) := by decide +kernel
theorem dX12_bits_112 : decode cX12_bits 112 = .ok (.dconst 1, 1) := by decide +kernel
theorem dX12_bits_113 : decode cX12_bits 113 = .ok (.dcmp .g, 1) := by decide +kernel
theorem dX12_bits_114 : decode cX12_bits 114 = .ok (.ifCond .ge 25, 3) := by decide +kernel
theorem dX12_bits_117 : decode cX12_bits 117 = .ok (.iload 7, 2) := by decide +kernel
theorem dX12_bits_119 : decode cX12_bits 119 = .ok (.sipush (-1022), 3) := by decide +kernel
theorem dX12_bits_122 : decode cX12_bits 122 = .ok (.if_icmp .le 17, 3) := by decide +kernel
theorem dX12_bits_125 : decode cX12_bits 125 = .ok (.dload 5, 2) := by decide +kernel
theorem dX12_bits_127 : decode cX12_bits 127 = .ok (.ldc2_w 279, 3) := by decide +kernel
theorem dX12_bits_130 : decode cX12_bits 130 = .ok (.dmul, 1) := by decide +kernel
theorem dX12_bits_131 : decode cX12_bits 131 = .ok (.dstore 5, 2) := by decide +kernel
theorem dX12_bits_133 : decode cX12_bits 133 = .ok (.iinc 7 (-1), 3) := by decide +kernel
theorem dX12_bits_136 : decode cX12_bits 136 = .ok (.goto (-26), 3) := by decide +kernel
theorem dX12_bits_139 : decode cX12_bits 139 = .ok (.dload 5, 2) := by decide +kernel
theorem dX12_bits_141 : decode cX12_bits 141 = .ok (.dconst 1, 1) := by decide +kernel
theorem dX12_bits_142 : decode cX12_bits 142 = .ok (.dcmp .g, 1) := by decide +kernel
theorem dX12_bits_143 : decode cX12_bits 143 = .ok (.ifCond .ge 13, 3) := by decide +kernel
theorem dX12_bits_146 : decode cX12_bits 146 = .ok (.lload_n 3, 1) := by decide +kernel
theorem dX12_bits_147 : decode cX12_bits 147 = .ok (.dload 5, 2) := by decide +kernel
theorem dX12_bits_149 : decode cX12_bits 149 = .ok (.ldc2_w 281, 3) := by decide +kernel
theorem dX12_bits_152 : decode cX12_bits 152 = .ok (.dmul, 1) := by decide +kernel
theorem dX12_bits_153 : decode cX12_bits 153 = .ok (.d2l, 1) := by decide +kernel
theorem dX12_bits_154 : decode cX12_bits 154 = .ok (.lor, 1) := by decide +kernel
theorem dX12_bits_155 : decode cX12_bits 155 = .ok (.lreturn, 1) := by decide +kernel
theorem dX12_bits_156 : decode cX12_bits 156 = .ok (.lload_n 3, 1) := by decide +kernel
theorem dX12_bits_157 : decode cX12_bits 157 = .ok (.iload 7, 2) := by decide +kernel
theorem dX12_bits_159 : decode cX12_bits 159 = .ok (.sipush 1023, 3) := by decide +kernel
theorem dX12_bits_162 : decode cX12_bits 162 = .ok (.iadd, 1) := by decide +kernel
theorem dX12_bits_163 : decode cX12_bits 163 = .ok (.i2l, 1) := by decide +kernel
theorem dX12_bits_164 : decode cX12_bits 164 = .ok (.bipush 52, 2) := by decide +kernel
theorem dX12_bits_166 : decode cX12_bits 166 = .ok (.lshl, 1) := by decide +kernel
theorem dX12_bits_167 : decode cX12_bits 167 = .ok (.lor, 1) := by decide +kernel
theorem dX12_bits_168 : decode cX12_bits 168 = .ok (.dload 5, 2) := by decide +kernel
theorem dX12_bits_170 : decode cX12_bits 170 = .ok (.dconst 1, 1) := by decide +kernel
theorem dX12_bits_171 : decode cX12_bits 171 = .ok (.dsub, 1) := by decide +kernel
theorem dX12_bits_172 : decode cX12_bits 172 = .ok (.ldc2_w 281, 3) := by decide +kernel
theorem dX12_bits_175 : decode cX12_bits 175 = .ok (.dmul, 1) := by decide +kernel
theorem dX12_bits_176 : decode cX12_bits 176 = .ok (.d2l, 1) := by decide +kernel
theorem dX12_bits_177 : decode cX12_bits 177 = .ok (.lor, 1) := by decide +kernel
theorem dX12_bits_178 : decode cX12_bits 178 = .ok (.lreturn, 1) := by decide +kernel
theorem dX12_told_0 : decode cX12_told 0 = .ok (.iload_n 0, 1) := by decide +kernel
theorem dX12_told_1 : decode cX12_told 1 = .ok (.bipush 105, 2) := by decide +kernel
theorem dX12_told_3 : decode cX12_told 3 = .ok (.if_icmp .eq 9, 3) := by decide +kernel
theorem dX12_told_6 : decode cX12_told 6 = .ok (.iload_n 0, 1) := by decide +kernel
theorem dX12_told_7 : decode cX12_told 7 = .ok (.bipush 111, 2) := by decide +kernel
theorem dX12_told_9 : decode cX12_told 9 = .ok (.if_icmp .ne 8, 3) := by decide +kernel
theorem dX12_told_12 : decode cX12_told 12 = .ok (.iload_n 1, 1) := by decide +kernel
theorem dX12_told_13 : decode cX12_told 13 = .ok (.i2l, 1) := by decide +kernel
theorem dX12_told_14 : decode cX12_told 14 = .ok (.goto 17, 3) := by decide +kernel
theorem dX12_told_17 : decode cX12_told 17 = .ok (.iload_n 0, 1) := by decide +kernel
theorem dX12_told_18 : decode cX12_told 18 = .ok (.bipush 102, 2) := by decide +kernel
theorem dX12_told_20 : decode cX12_told 20 = .ok (.if_icmp .ne 10, 3) := by decide +kernel
theorem dX12_told_23 : decode cX12_told 23 = .ok (.dload_n 2, 1) := by decide +kernel
theorem dX12_told_24 : decode cX12_told 24 = .ok (.invokestatic 283, 3) := by decide +kernel
theorem dX12_told_27 : decode cX12_told 27 = .ok (.goto 4, 3) := by decide +kernel
theorem dX12_told_30 : decode cX12_told 30 = .ok (.lconst 0, 1) := by decide +kernel
theorem dX12_told_31 : decode cX12_told 31 = .ok (.lreturn, 1) := by decide +kernel
theorem dX12_copies_0 : decode cX12_copies 0 = .ok (.aload_n 0, 1) := by decide +kernel
theorem dX12_copies_1 : decode cX12_copies 1 = .ok (.getfield 127, 3) := by decide +kernel
theorem dX12_copies_4 : decode cX12_copies 4 = .ok (.iload_n 2, 1) := by decide +kernel
theorem dX12_copies_5 : decode cX12_copies 5 = .ok (.aload_n 0, 1) := by decide +kernel
theorem dX12_copies_6 : decode cX12_copies 6 = .ok (.getfield 127, 3) := by decide +kernel
theorem dX12_copies_9 : decode cX12_copies 9 = .ok (.iload_n 1, 1) := by decide +kernel
theorem dX12_copies_10 : decode cX12_copies 10 = .ok (.caload, 1) := by decide +kernel
theorem dX12_copies_11 : decode cX12_copies 11 = .ok (.castore, 1) := by decide +kernel
theorem dX12_copies_12 : decode cX12_copies 12 = .ok (.aload_n 0, 1) := by decide +kernel
theorem dX12_copies_13 : decode cX12_copies 13 = .ok (.getfield 130, 3) := by decide +kernel
theorem dX12_copies_16 : decode cX12_copies 16 = .ok (.iload_n 2, 1) := by decide +kernel
theorem dX12_copies_17 : decode cX12_copies 17 = .ok (.aload_n 0, 1) := by decide +kernel
theorem dX12_copies_18 : decode cX12_copies 18 = .ok (.getfield 130, 3) := by decide +kernel
theorem dX12_copies_21 : decode cX12_copies 21 = .ok (.iload_n 1, 1) := by decide +kernel
theorem dX12_copies_22 : decode cX12_copies 22 = .ok (.iaload, 1) := by decide +kernel
theorem dX12_copies_23 : decode cX12_copies 23 = .ok (.iastore, 1) := by decide +kernel
theorem dX12_copies_24 : decode cX12_copies 24 = .ok (.aload_n 0, 1) := by decide +kernel
theorem dX12_copies_25 : decode cX12_copies 25 = .ok (.getfield 133, 3) := by decide +kernel
theorem dX12_copies_28 : decode cX12_copies 28 = .ok (.iload_n 2, 1) := by decide +kernel
theorem dX12_copies_29 : decode cX12_copies 29 = .ok (.aload_n 0, 1) := by decide +kernel
theorem dX12_copies_30 : decode cX12_copies 30 = .ok (.getfield 133, 3) := by decide +kernel
theorem dX12_copies_33 : decode cX12_copies 33 = .ok (.iload_n 1, 1) := by decide +kernel
theorem dX12_copies_34 : decode cX12_copies 34 = .ok (.daload, 1) := by decide +kernel
theorem dX12_copies_35 : decode cX12_copies 35 = .ok (.dastore, 1) := by decide +kernel
theorem dX12_copies_36 : decode cX12_copies 36 = .ok (.aload_n 0, 1) := by decide +kernel
theorem dX12_copies_37 : decode cX12_copies 37 = .ok (.getfield 137, 3) := by decide +kernel
theorem dX12_copies_40 : decode cX12_copies 40 = .ok (.iload_n 2, 1) := by decide +kernel
theorem dX12_copies_41 : decode cX12_copies 41 = .ok (.aload_n 0, 1) := by decide +kernel
theorem dX12_copies_42 : decode cX12_copies 42 = .ok (.getfield 137, 3) := by decide +kernel
theorem dX12_copies_45 : decode cX12_copies 45 = .ok (.iload_n 1, 1) := by decide +kernel
theorem dX12_copies_46 : decode cX12_copies 46 = .ok (.iaload, 1) := by decide +kernel
theorem dX12_copies_47 : decode cX12_copies 47 = .ok (.iastore, 1) := by decide +kernel
theorem dX12_copies_48 : decode cX12_copies 48 = .ok (.return_, 1) := by decide +kernel
theorem dX12_gives_0 : decode cX12_gives 0 = .ok (.aload_n 0, 1) := by decide +kernel
theorem dX12_gives_1 : decode cX12_gives 1 = .ok (.iload_n 1, 1) := by decide +kernel
theorem dX12_gives_2 : decode cX12_gives 2 = .ok (.putfield 287, 3) := by decide +kernel
theorem dX12_gives_5 : decode cX12_gives 5 = .ok (.aload_n 0, 1) := by decide +kernel
theorem dX12_gives_6 : decode cX12_gives 6 = .ok (.iload_n 2, 1) := by decide +kernel
theorem dX12_gives_7 : decode cX12_gives 7 = .ok (.putfield 290, 3) := by decide +kernel
theorem dX12_gives_10 : decode cX12_gives 10 = .ok (.aload_n 0, 1) := by decide +kernel
theorem dX12_gives_11 : decode cX12_gives 11 = .ok (.dload_n 3, 1) := by decide +kernel
theorem dX12_gives_12 : decode cX12_gives 12 = .ok (.putfield 293, 3) := by decide +kernel
theorem dX12_gives_15 : decode cX12_gives 15 = .ok (.return_, 1) := by decide +kernel
theorem dX12_pushes_0 : decode cX12_pushes 0 = .ok (.aload_n 0, 1) := by decide +kernel
theorem dX12_pushes_1 : decode cX12_pushes 1 = .ok (.getfield 146, 3) := by decide +kernel
theorem dX12_pushes_4 : decode cX12_pushes 4 = .ok (.aload_n 0, 1) := by decide +kernel
theorem dX12_pushes_5 : decode cX12_pushes 5 = .ok (.getfield 262, 3) := by decide +kernel
theorem dX12_pushes_8 : decode cX12_pushes 8 = .ok (.dup2, 1) := by decide +kernel
theorem dX12_pushes_9 : decode cX12_pushes 9 = .ok (.iaload, 1) := by decide +kernel
theorem dX12_pushes_10 : decode cX12_pushes 10 = .ok (.iconst 1, 1) := by decide +kernel
theorem dX12_pushes_11 : decode cX12_pushes 11 = .ok (.iadd, 1) := by decide +kernel
theorem dX12_pushes_12 : decode cX12_pushes 12 = .ok (.iastore, 1) := by decide +kernel
theorem dX12_pushes_13 : decode cX12_pushes 13 = .ok (.aload_n 0, 1) := by decide +kernel
theorem dX12_pushes_14 : decode cX12_pushes 14 = .ok (.iconst 0, 1) := by decide +kernel
theorem dX12_pushes_15 : decode cX12_pushes 15 = .ok (.invokevirtual 297, 3) := by decide +kernel
theorem dX12_pushes_18 : decode cX12_pushes 18 = .ok (.istore_n 2, 1) := by decide +kernel
theorem dX12_pushes_19 : decode cX12_pushes 19 = .ok (.aload_n 0, 1) := by decide +kernel
theorem dX12_pushes_20 : decode cX12_pushes 20 = .ok (.getfield 127, 3) := by decide +kernel
theorem dX12_pushes_23 : decode cX12_pushes 23 = .ok (.iload_n 2, 1) := by decide +kernel
theorem dX12_pushes_24 : decode cX12_pushes 24 = .ok (.aload_n 0, 1) := by decide +kernel
theorem dX12_pushes_25 : decode cX12_pushes 25 = .ok (.getfield 287, 3) := by decide +kernel
theorem dX12_pushes_28 : decode cX12_pushes 28 = .ok (.castore, 1) := by decide +kernel
theorem dX12_pushes_29 : decode cX12_pushes 29 = .ok (.aload_n 0, 1) := by decide +kernel
theorem dX12_pushes_30 : decode cX12_pushes 30 = .ok (.getfield 130, 3) := by decide +kernel
theorem dX12_pushes_33 : decode cX12_pushes 33 = .ok (.iload_n 2, 1) := by decide +kernel
theorem dX12_pushes_34 : decode cX12_pushes 34 = .ok (.aload_n 0, 1) := by decide +kernel
theorem dX12_pushes_35 : decode cX12_pushes 35 = .ok (.getfield 290, 3) := by decide +kernel
theorem dX12_pushes_38 : decode cX12_pushes 38 = .ok (.iastore, 1) := by decide +kernel
theorem dX12_pushes_39 : decode cX12_pushes 39 = .ok (.aload_n 0, 1) := by decide +kernel
theorem dX12_pushes_40 : decode cX12_pushes 40 = .ok (.getfield 133, 3) := by decide +kernel
theorem dX12_pushes_43 : decode cX12_pushes 43 = .ok (.iload_n 2, 1) := by decide +kernel
theorem dX12_pushes_44 : decode cX12_pushes 44 = .ok (.aload_n 0, 1) := by decide +kernel
theorem dX12_pushes_45 : decode cX12_pushes 45 = .ok (.getfield 293, 3) := by decide +kernel
theorem dX12_pushes_48 : decode cX12_pushes 48 = .ok (.dastore, 1) := by decide +kernel
theorem dX12_pushes_49 : decode cX12_pushes 49 = .ok (.aload_n 0, 1) := by decide +kernel
theorem dX12_pushes_50 : decode cX12_pushes 50 = .ok (.getfield 137, 3) := by decide +kernel
theorem dX12_pushes_53 : decode cX12_pushes 53 = .ok (.iload_n 2, 1) := by decide +kernel
theorem dX12_pushes_54 : decode cX12_pushes 54 = .ok (.iload_n 1, 1) := by decide +kernel
theorem dX12_pushes_55 : decode cX12_pushes 55 = .ok (.iastore, 1) := by decide +kernel
theorem dX12_pushes_56 : decode cX12_pushes 56 = .ok (.return_, 1) := by decide +kernel
theorem dX12_givesInteger_0 : decode cX12_givesInteger 0 = .ok (.lload_n 1, 1) := by decide +kernel
theorem dX12_givesInteger_1 : decode cX12_givesInteger 1 = .ok (.ldc2_w 300, 3) := by decide +kernel
theorem dX12_givesInteger_4 : decode cX12_givesInteger 4 = .ok (.lcmp, 1) := by decide +kernel
theorem dX12_givesInteger_5 : decode cX12_givesInteger 5 = .ok (.ifCond .lt 23, 3) := by decide +kernel
theorem dX12_givesInteger_8 : decode cX12_givesInteger 8 = .ok (.lload_n 1, 1) := by decide +kernel
theorem dX12_givesInteger_9 : decode cX12_givesInteger 9 = .ok (.ldc2_w 302, 3) := by decide +kernel
theorem dX12_givesInteger_12 : decode cX12_givesInteger 12 = .ok (.lcmp, 1) := by decide +kernel
theorem dX12_givesInteger_13 : decode cX12_givesInteger 13 = .ok (.ifCond .gt 15, 3) := by decide +kernel
theorem dX12_givesInteger_16 : decode cX12_givesInteger 16 = .ok (.aload_n 0, 1) := by decide +kernel
theorem dX12_givesInteger_17 : decode cX12_givesInteger 17 = .ok (.bipush 105, 2) := by decide +kernel
theorem dX12_givesInteger_19 : decode cX12_givesInteger 19 = .ok (.lload_n 1, 1) := by decide +kernel
theorem dX12_givesInteger_20 : decode cX12_givesInteger 20 = .ok (.l2i, 1) := by decide +kernel
theorem dX12_givesInteger_21 : decode cX12_givesInteger 21 = .ok (.dconst 0, 1) := by decide +kernel
theorem dX12_givesInteger_22 : decode cX12_givesInteger 22 = .ok (.invokevirtual 304, 3) := by decide +kernel
theorem dX12_givesInteger_25 : decode cX12_givesInteger 25 = .ok (.goto 11, 3) := by decide +kernel
theorem dX12_givesInteger_28 : decode cX12_givesInteger 28 = .ok (.aload_n 0, 1) := by decide +kernel
theorem dX12_givesInteger_29 : decode cX12_givesInteger 29 = .ok (.bipush 102, 2) := by decide +kernel
theorem dX12_givesInteger_31 : decode cX12_givesInteger 31 = .ok (.iconst 0, 1) := by decide +kernel
theorem dX12_givesInteger_32 : decode cX12_givesInteger 32 = .ok (.dload_n 3, 1) := by decide +kernel
theorem dX12_givesInteger_33 : decode cX12_givesInteger 33 = .ok (.invokevirtual 304, 3) := by decide +kernel
theorem dX12_givesInteger_36 : decode cX12_givesInteger 36 = .ok (.return_, 1) := by decide +kernel
theorem dX12_reckons_0 : decode cX12_reckons 0 = .ok (.aload_n 0, 1) := by decide +kernel
theorem dX12_reckons_1 : decode cX12_reckons 1 = .ok (.iload_n 2, 1) := by decide +kernel
theorem dX12_reckons_2 : decode cX12_reckons 2 = .ok (.invokevirtual 308, 3) := by decide +kernel
theorem dX12_reckons_5 : decode cX12_reckons 5 = .ok (.dstore 4, 2) := by decide +kernel
theorem dX12_reckons_7 : decode cX12_reckons 7 = .ok (.aload_n 0, 1) := by decide +kernel
theorem dX12_reckons_8 : decode cX12_reckons 8 = .ok (.iload_n 3, 1) := by decide +kernel
theorem dX12_reckons_9 : decode cX12_reckons 9 = .ok (.invokevirtual 308, 3) := by decide +kernel
theorem dX12_reckons_12 : decode cX12_reckons 12 = .ok (.dstore 6, 2) := by decide +kernel
theorem dX12_reckons_14 : decode cX12_reckons 14 = .ok (.aload_n 0, 1) := by decide +kernel
theorem dX12_reckons_15 : decode cX12_reckons 15 = .ok (.getfield 127, 3) := by decide +kernel
theorem dX12_reckons_18 : decode cX12_reckons 18 = .ok (.iload_n 2, 1) := by decide +kernel
theorem dX12_reckons_19 : decode cX12_reckons 19 = .ok (.caload, 1) := by decide +kernel
theorem dX12_reckons_20 : decode cX12_reckons 20 = .ok (.bipush 105, 2) := by decide +kernel
theorem dX12_reckons_22 : decode cX12_reckons 22 = .ok (.if_icmp .ne 18, 3) := by decide +kernel
theorem dX12_reckons_25 : decode cX12_reckons 25 = .ok (.aload_n 0, 1) := by decide +kernel
theorem dX12_reckons_26 : decode cX12_reckons 26 = .ok (.getfield 127, 3) := by decide +kernel
theorem dX12_reckons_29 : decode cX12_reckons 29 = .ok (.iload_n 3, 1) := by decide +kernel
theorem dX12_reckons_30 : decode cX12_reckons 30 = .ok (.caload, 1) := by decide +kernel
theorem dX12_reckons_31 : decode cX12_reckons 31 = .ok (.bipush 105, 2) := by decide +kernel
theorem dX12_reckons_33 : decode cX12_reckons 33 = .ok (.if_icmp .ne 7, 3) := by decide +kernel
theorem dX12_reckons_36 : decode cX12_reckons 36 = .ok (.iconst 1, 1) := by decide +kernel
theorem dX12_reckons_37 : decode cX12_reckons 37 = .ok (.goto 4, 3) := by decide +kernel
theorem dX12_reckons_40 : decode cX12_reckons 40 = .ok (.iconst 0, 1) := by decide +kernel
theorem dX12_reckons_41 : decode cX12_reckons 41 = .ok (.istore 8, 2) := by decide +kernel
theorem dX12_reckons_43 : decode cX12_reckons 43 = .ok (.aload_n 0, 1) := by decide +kernel
theorem dX12_reckons_44 : decode cX12_reckons 44 = .ok (.getfield 130, 3) := by decide +kernel
theorem dX12_reckons_47 : decode cX12_reckons 47 = .ok (.iload_n 2, 1) := by decide +kernel
theorem dX12_reckons_48 : decode cX12_reckons 48 = .ok (.iaload, 1) := by decide +kernel
theorem dX12_reckons_49 : decode cX12_reckons 49 = .ok (.i2l, 1) := by decide +kernel
theorem dX12_reckons_50 : decode cX12_reckons 50 = .ok (.lstore 9, 2) := by decide +kernel
theorem dX12_reckons_52 : decode cX12_reckons 52 = .ok (.aload_n 0, 1) := by decide +kernel
theorem dX12_reckons_53 : decode cX12_reckons 53 = .ok (.getfield 130, 3) := by decide +kernel
theorem dX12_reckons_56 : decode cX12_reckons 56 = .ok (.iload_n 3, 1) := by decide +kernel
theorem dX12_reckons_57 : decode cX12_reckons 57 = .ok (.iaload, 1) := by decide +kernel
theorem dX12_reckons_58 : decode cX12_reckons 58 = .ok (.i2l, 1) := by decide +kernel
theorem dX12_reckons_59 : decode cX12_reckons 59 = .ok (.lstore 11, 2) := by decide +kernel
theorem dX12_reckons_61 : decode cX12_reckons 61 = .ok (.iload_n 1, 1) := by decide +kernel
theorem dX12_reckons_62 : decode cX12_reckons 62 = .ok (.bipush 61, 2) := by decide +kernel
theorem dX12_reckons_64 : decode cX12_reckons 64 = .ok (.if_icmp .ne 123, 3) := by decide +kernel
theorem dX12_reckons_67 : decode cX12_reckons 67 = .ok (.aload_n 0, 1) := by decide +kernel
theorem dX12_reckons_68 : decode cX12_reckons 68 = .ok (.getfield 127, 3) := by decide +kernel
theorem dX12_reckons_71 : decode cX12_reckons 71 = .ok (.iload_n 2, 1) := by decide +kernel
theorem dX12_reckons_72 : decode cX12_reckons 72 = .ok (.caload, 1) := by decide +kernel
theorem dX12_reckons_73 : decode cX12_reckons 73 = .ok (.invokestatic 312, 3) := by decide +kernel
theorem dX12_reckons_76 : decode cX12_reckons 76 = .ok (.ifCond .eq 19, 3) := by decide +kernel
theorem dX12_reckons_79 : decode cX12_reckons 79 = .ok (.aload_n 0, 1) := by decide +kernel
theorem dX12_reckons_80 : decode cX12_reckons 80 = .ok (.getfield 127, 3) := by decide +kernel
theorem dX12_reckons_83 : decode cX12_reckons 83 = .ok (.iload_n 3, 1) := by decide +kernel
theorem dX12_reckons_84 : decode cX12_reckons 84 = .ok (.caload, 1) := by decide +kernel
theorem dX12_reckons_85 : decode cX12_reckons 85 = .ok (.invokestatic 312, 3) := by decide +kernel
theorem dX12_reckons_88 : decode cX12_reckons 88 = .ok (.ifCond .eq 7, 3) := by decide +kernel
theorem dX12_reckons_91 : decode cX12_reckons 91 = .ok (.iconst 1, 1) := by decide +kernel
theorem dX12_reckons_92 : decode cX12_reckons 92 = .ok (.goto 4, 3) := by decide +kernel
theorem dX12_reckons_95 : decode cX12_reckons 95 = .ok (.iconst 0, 1) := by decide +kernel
theorem dX12_reckons_96 : decode cX12_reckons 96 = .ok (.istore 13, 2) := by decide +kernel
theorem dX12_reckons_98 : decode cX12_reckons 98 = .ok (.iload 13, 2) := by decide +kernel
theorem dX12_reckons_100 : decode cX12_reckons 100 = .ok (.ifCond .eq 19, 3) := by decide +kernel
theorem dX12_reckons_103 : decode cX12_reckons 103 = .ok (.dload 4, 2) := by decide +kernel
theorem dX12_reckons_105 : decode cX12_reckons 105 = .ok (.dload 6, 2) := by decide +kernel
theorem dX12_reckons_107 : decode cX12_reckons 107 = .ok (.dcmp .l, 1) := by decide +kernel
theorem dX12_reckons_108 : decode cX12_reckons 108 = .ok (.ifCond .ne 7, 3) := by decide +kernel
theorem dX12_reckons_111 : decode cX12_reckons 111 = .ok (.iconst 1, 1) := by decide +kernel
theorem dX12_reckons_112 : decode cX12_reckons 112 = .ok (.goto 53, 3) := by decide +kernel
theorem dX12_reckons_115 : decode cX12_reckons 115 = .ok (.iconst 0, 1) := by decide +kernel
theorem dX12_reckons_116 : decode cX12_reckons 116 = .ok (.goto 49, 3) := by decide +kernel
theorem dX12_reckons_119 : decode cX12_reckons 119 = .ok (.aload_n 0, 1) := by decide +kernel
theorem dX12_reckons_120 : decode cX12_reckons 120 = .ok (.getfield 127, 3) := by decide +kernel
theorem dX12_reckons_123 : decode cX12_reckons 123 = .ok (.iload_n 2, 1) := by decide +kernel
theorem dX12_reckons_124 : decode cX12_reckons 124 = .ok (.caload, 1) := by decide +kernel
theorem dX12_reckons_125 : decode cX12_reckons 125 = .ok (.aload_n 0, 1) := by decide +kernel
theorem dX12_reckons_126 : decode cX12_reckons 126 = .ok (.getfield 127, 3) := by decide +kernel
theorem dX12_reckons_129 : decode cX12_reckons 129 = .ok (.iload_n 3, 1) := by decide +kernel
theorem dX12_reckons_130 : decode cX12_reckons 130 = .ok (.caload, 1) := by decide +kernel
theorem dX12_reckons_131 : decode cX12_reckons 131 = .ok (.if_icmp .ne 33, 3) := by decide +kernel
theorem dX12_reckons_134 : decode cX12_reckons 134 = .ok (.aload_n 0, 1) := by decide +kernel
theorem dX12_reckons_135 : decode cX12_reckons 135 = .ok (.getfield 127, 3) := by decide +kernel
theorem dX12_reckons_138 : decode cX12_reckons 138 = .ok (.iload_n 2, 1) := by decide +kernel
theorem dX12_reckons_139 : decode cX12_reckons 139 = .ok (.caload, 1) := by decide +kernel
theorem dX12_reckons_140 : decode cX12_reckons 140 = .ok (.bipush 110, 2) := by decide +kernel
theorem dX12_reckons_142 : decode cX12_reckons 142 = .ok (.if_icmp .eq 18, 3) := by decide +kernel
theorem dX12_reckons_145 : decode cX12_reckons 145 = .ok (.aload_n 0, 1) := by decide +kernel
theorem dX12_reckons_146 : decode cX12_reckons 146 = .ok (.getfield 130, 3) := by decide +kernel
theorem dX12_reckons_149 : decode cX12_reckons 149 = .ok (.iload_n 2, 1) := by decide +kernel
theorem dX12_reckons_150 : decode cX12_reckons 150 = .ok (.iaload, 1) := by decide +kernel
theorem dX12_reckons_151 : decode cX12_reckons 151 = .ok (.aload_n 0, 1) := by decide +kernel
theorem dX12_reckons_152 : decode cX12_reckons 152 = .ok (.getfield 130, 3) := by decide +kernel
theorem dX12_reckons_155 : decode cX12_reckons 155 = .ok (.iload_n 3, 1) := by decide +kernel
theorem dX12_reckons_156 : decode cX12_reckons 156 = .ok (.iaload, 1) := by decide +kernel
theorem dX12_reckons_157 : decode cX12_reckons 157 = .ok (.if_icmp .ne 7, 3) := by decide +kernel
theorem dX12_reckons_160 : decode cX12_reckons 160 = .ok (.iconst 1, 1) := by decide +kernel
theorem dX12_reckons_161 : decode cX12_reckons 161 = .ok (.goto 4, 3) := by decide +kernel
theorem dX12_reckons_164 : decode cX12_reckons 164 = .ok (.iconst 0, 1) := by decide +kernel
theorem dX12_reckons_165 : decode cX12_reckons 165 = .ok (.istore 14, 2) := by decide +kernel
theorem dX12_reckons_167 : decode cX12_reckons 167 = .ok (.aload_n 0, 1) := by decide +kernel
theorem dX12_reckons_168 : decode cX12_reckons 168 = .ok (.bipush 105, 2) := by decide +kernel
theorem dX12_reckons_170 : decode cX12_reckons 170 = .ok (.iload 14, 2) := by decide +kernel
theorem dX12_reckons_172 : decode cX12_reckons 172 = .ok (.ifCond .eq 7, 3) := by decide +kernel
theorem dX12_reckons_175 : decode cX12_reckons 175 = .ok (.iconst 1, 1) := by decide +kernel
theorem dX12_reckons_176 : decode cX12_reckons 176 = .ok (.goto 4, 3) := by decide +kernel
theorem dX12_reckons_179 : decode cX12_reckons 179 = .ok (.iconst 0, 1) := by decide +kernel
theorem dX12_reckons_180 : decode cX12_reckons 180 = .ok (.dconst 0, 1) := by decide +kernel
theorem dX12_reckons_181 : decode cX12_reckons 181 = .ok (.invokevirtual 304, 3) := by decide +kernel
theorem dX12_reckons_184 : decode cX12_reckons 184 = .ok (.goto 232, 3) := by decide +kernel
theorem dX12_reckons_187 : decode cX12_reckons 187 = .ok (.iload_n 1, 1) := by decide +kernel
theorem dX12_reckons_188 : decode cX12_reckons 188 = .ok (.bipush 60, 2) := by decide +kernel
theorem dX12_reckons_190 : decode cX12_reckons 190 = .ok (.if_icmp .ne 26, 3) := by decide +kernel
theorem dX12_reckons_193 : decode cX12_reckons 193 = .ok (.aload_n 0, 1) := by decide +kernel
theorem dX12_reckons_194 : decode cX12_reckons 194 = .ok (.bipush 105, 2) := by decide +kernel
theorem dX12_reckons_196 : decode cX12_reckons 196 = .ok (.dload 4, 2) := by decide +kernel
theorem dX12_reckons_198 : decode cX12_reckons 198 = .ok (.dload 6, 2) := by decide +kernel
theorem dX12_reckons_200 : decode cX12_reckons 200 = .ok (.dcmp .g, 1) := by decide +kernel
theorem dX12_reckons_201 : decode cX12_reckons 201 = .ok (.ifCond .ge 7, 3) := by decide +kernel
theorem dX12_reckons_204 : decode cX12_reckons 204 = .ok (.iconst 1, 1) := by decide +kernel
theorem dX12_reckons_205 : decode cX12_reckons 205 = .ok (.goto 4, 3) := by decide +kernel
theorem dX12_reckons_208 : decode cX12_reckons 208 = .ok (.iconst 0, 1) := by decide +kernel
theorem dX12_reckons_209 : decode cX12_reckons 209 = .ok (.dconst 0, 1) := by decide +kernel
theorem dX12_reckons_210 : decode cX12_reckons 210 = .ok (.invokevirtual 304, 3) := by decide +kernel
theorem dX12_reckons_213 : decode cX12_reckons 213 = .ok (.goto 203, 3) := by decide +kernel
theorem dX12_reckons_216 : decode cX12_reckons 216 = .ok (.iload 8, 2) := by decide +kernel
theorem dX12_reckons_218 : decode cX12_reckons 218 = .ok (.ifCond .ne 74, 3) := by decide +kernel
theorem dX12_reckons_221 : decode cX12_reckons 221 = .ok (.aload_n 0, 1) := by decide +kernel
theorem dX12_reckons_222 : decode cX12_reckons 222 = .ok (.bipush 102, 2) := by decide +kernel
theorem dX12_reckons_224 : decode cX12_reckons 224 = .ok (.iconst 0, 1) := by decide +kernel
theorem dX12_reckons_225 : decode cX12_reckons 225 = .ok (.iload_n 1, 1) := by decide +kernel
theorem dX12_reckons_226 : decode cX12_reckons 226 = .ok (.bipush 43, 2) := by decide +kernel
theorem dX12_reckons_228 : decode cX12_reckons 228 = .ok (.if_icmp .ne 11, 3) := by decide +kernel
theorem dX12_reckons_231 : decode cX12_reckons 231 = .ok (.dload 4, 2) := by decide +kernel
theorem dX12_reckons_233 : decode cX12_reckons 233 = .ok (.dload 6, 2) := by decide +kernel
theorem dX12_reckons_235 : decode cX12_reckons 235 = .ok (.dadd, 1) := by decide +kernel
theorem dX12_reckons_236 : decode cX12_reckons 236 = .ok (.goto 50, 3) := by decide +kernel
theorem dX12_reckons_239 : decode cX12_reckons 239 = .ok (.iload_n 1, 1) := by decide +kernel
theorem dX12_reckons_240 : decode cX12_reckons 240 = .ok (.bipush 45, 2) := by decide +kernel
theorem dX12_reckons_242 : decode cX12_reckons 242 = .ok (.if_icmp .ne 11, 3) := by decide +kernel
theorem dX12_reckons_245 : decode cX12_reckons 245 = .ok (.dload 4, 2) := by decide +kernel
theorem dX12_reckons_247 : decode cX12_reckons 247 = .ok (.dload 6, 2) := by decide +kernel
theorem dX12_reckons_249 : decode cX12_reckons 249 = .ok (.dsub, 1) := by decide +kernel
theorem dX12_reckons_250 : decode cX12_reckons 250 = .ok (.goto 36, 3) := by decide +kernel
theorem dX12_reckons_253 : decode cX12_reckons 253 = .ok (.iload_n 1, 1) := by decide +kernel
theorem dX12_reckons_254 : decode cX12_reckons 254 = .ok (.bipush 42, 2) := by decide +kernel
theorem dX12_reckons_256 : decode cX12_reckons 256 = .ok (.if_icmp .ne 11, 3) := by decide +kernel
theorem dX12_reckons_259 : decode cX12_reckons 259 = .ok (.dload 4, 2) := by decide +kernel
theorem dX12_reckons_261 : decode cX12_reckons 261 = .ok (.dload 6, 2) := by decide +kernel
theorem dX12_reckons_263 : decode cX12_reckons 263 = .ok (.dmul, 1) := by decide +kernel
theorem dX12_reckons_264 : decode cX12_reckons 264 = .ok (.goto 22, 3) := by decide +kernel
theorem dX12_reckons_267 : decode cX12_reckons 267 = .ok (.iload_n 1, 1) := by decide +kernel
theorem dX12_reckons_268 : decode cX12_reckons 268 = .ok (.bipush 47, 2) := by decide +kernel
theorem dX12_reckons_270 : decode cX12_reckons 270 = .ok (.if_icmp .ne 11, 3) := by decide +kernel
theorem dX12_reckons_273 : decode cX12_reckons 273 = .ok (.dload 4, 2) := by decide +kernel
theorem dX12_reckons_275 : decode cX12_reckons 275 = .ok (.dload 6, 2) := by decide +kernel
theorem dX12_reckons_277 : decode cX12_reckons 277 = .ok (.ddiv, 1) := by decide +kernel
theorem dX12_reckons_278 : decode cX12_reckons 278 = .ok (.goto 8, 3) := by decide +kernel
theorem dX12_reckons_281 : decode cX12_reckons 281 = .ok (.dload 4, 2) := by decide +kernel
theorem dX12_reckons_283 : decode cX12_reckons 283 = .ok (.dload 6, 2) := by decide +kernel
theorem dX12_reckons_285 : decode cX12_reckons 285 = .ok (.drem, 1) := by decide +kernel
theorem dX12_reckons_286 : decode cX12_reckons 286 = .ok (.invokevirtual 304, 3) := by decide +kernel
theorem dX12_reckons_289 : decode cX12_reckons 289 = .ok (.goto 127, 3) := by decide +kernel
theorem dX12_reckons_292 : decode cX12_reckons 292 = .ok (.iload_n 1, 1) := by decide +kernel
theorem dX12_reckons_293 : decode cX12_reckons 293 = .ok (.bipush 37, 2) := by decide +kernel
theorem dX12_reckons_295 : decode cX12_reckons 295 = .ok (.if_icmp .ne 19, 3) := by decide +kernel
theorem dX12_reckons_298 : decode cX12_reckons 298 = .ok (.aload_n 0, 1) := by decide +kernel
theorem dX12_reckons_299 : decode cX12_reckons 299 = .ok (.bipush 105, 2) := by decide +kernel
theorem dX12_reckons_301 : decode cX12_reckons 301 = .ok (.lload 9, 2) := by decide +kernel
theorem dX12_reckons_303 : decode cX12_reckons 303 = .ok (.lload 11, 2) := by decide +kernel
theorem dX12_reckons_305 : decode cX12_reckons 305 = .ok (.lrem, 1) := by decide +kernel
theorem dX12_reckons_306 : decode cX12_reckons 306 = .ok (.l2i, 1) := by decide +kernel
theorem dX12_reckons_307 : decode cX12_reckons 307 = .ok (.dconst 0, 1) := by decide +kernel
theorem dX12_reckons_308 : decode cX12_reckons 308 = .ok (.invokevirtual 304, 3) := by decide +kernel
theorem dX12_reckons_311 : decode cX12_reckons 311 = .ok (.goto 105, 3) := by decide +kernel
theorem dX12_reckons_314 : decode cX12_reckons 314 = .ok (.iload_n 1, 1) := by decide +kernel
theorem dX12_reckons_315 : decode cX12_reckons 315 = .ok (.bipush 43, 2) := by decide +kernel
theorem dX12_reckons_317 : decode cX12_reckons 317 = .ok (.if_icmp .ne 11, 3) := by decide +kernel
theorem dX12_reckons_320 : decode cX12_reckons 320 = .ok (.lload 9, 2) := by decide +kernel
theorem dX12_reckons_322 : decode cX12_reckons 322 = .ok (.lload 11, 2) := by decide +kernel
theorem dX12_reckons_324 : decode cX12_reckons 324 = .ok (.ladd, 1) := by decide +kernel
theorem dX12_reckons_325 : decode cX12_reckons 325 = .ok (.goto 36, 3) := by decide +kernel
theorem dX12_reckons_328 : decode cX12_reckons 328 = .ok (.iload_n 1, 1) := by decide +kernel
theorem dX12_reckons_329 : decode cX12_reckons 329 = .ok (.bipush 45, 2) := by decide +kernel
theorem dX12_reckons_331 : decode cX12_reckons 331 = .ok (.if_icmp .ne 11, 3) := by decide +kernel
theorem dX12_reckons_334 : decode cX12_reckons 334 = .ok (.lload 9, 2) := by decide +kernel
theorem dX12_reckons_336 : decode cX12_reckons 336 = .ok (.lload 11, 2) := by decide +kernel
theorem dX12_reckons_338 : decode cX12_reckons 338 = .ok (.lsub, 1) := by decide +kernel
theorem dX12_reckons_339 : decode cX12_reckons 339 = .ok (.goto 22, 3) := by decide +kernel
theorem dX12_reckons_342 : decode cX12_reckons 342 = .ok (.iload_n 1, 1) := by decide +kernel
theorem dX12_reckons_343 : decode cX12_reckons 343 = .ok (.bipush 42, 2) := by decide +kernel
theorem dX12_reckons_345 : decode cX12_reckons 345 = .ok (.if_icmp .ne 11, 3) := by decide +kernel
theorem dX12_reckons_348 : decode cX12_reckons 348 = .ok (.lload 9, 2) := by decide +kernel
theorem dX12_reckons_350 : decode cX12_reckons 350 = .ok (.lload 11, 2) := by decide +kernel
theorem dX12_reckons_352 : decode cX12_reckons 352 = .ok (.lmul, 1) := by decide +kernel
theorem dX12_reckons_353 : decode cX12_reckons 353 = .ok (.goto 8, 3) := by decide +kernel
theorem dX12_reckons_356 : decode cX12_reckons 356 = .ok (.lload 9, 2) := by decide +kernel
theorem dX12_reckons_358 : decode cX12_reckons 358 = .ok (.lload 11, 2) := by decide +kernel
theorem dX12_reckons_360 : decode cX12_reckons 360 = .ok (.ldiv, 1) := by decide +kernel
theorem dX12_reckons_361 : decode cX12_reckons 361 = .ok (.lstore 13, 2) := by decide +kernel
theorem dX12_reckons_363 : decode cX12_reckons 363 = .ok (.aload_n 0, 1) := by decide +kernel
theorem dX12_reckons_364 : decode cX12_reckons 364 = .ok (.lload 13, 2) := by decide +kernel
theorem dX12_reckons_366 : decode cX12_reckons 366 = .ok (.iload_n 1, 1) := by decide +kernel
theorem dX12_reckons_367 : decode cX12_reckons 367 = .ok (.bipush 43, 2) := by decide +kernel
theorem dX12_reckons_369 : decode cX12_reckons 369 = .ok (.if_icmp .ne 11, 3) := by decide +kernel
theorem dX12_reckons_372 : decode cX12_reckons 372 = .ok (.dload 4, 2) := by decide +kernel
theorem dX12_reckons_374 : decode cX12_reckons 374 = .ok (.dload 6, 2) := by decide +kernel
theorem dX12_reckons_376 : decode cX12_reckons 376 = .ok (.dadd, 1) := by decide +kernel
theorem dX12_reckons_377 : decode cX12_reckons 377 = .ok (.goto 36, 3) := by decide +kernel
theorem dX12_reckons_380 : decode cX12_reckons 380 = .ok (.iload_n 1, 1) := by decide +kernel
theorem dX12_reckons_381 : decode cX12_reckons 381 = .ok (.bipush 45, 2) := by decide +kernel
theorem dX12_reckons_383 : decode cX12_reckons 383 = .ok (.if_icmp .ne 11, 3) := by decide +kernel
theorem dX12_reckons_386 : decode cX12_reckons 386 = .ok (.dload 4, 2) := by decide +kernel
theorem dX12_reckons_388 : decode cX12_reckons 388 = .ok (.dload 6, 2) := by decide +kernel
theorem dX12_reckons_390 : decode cX12_reckons 390 = .ok (.dsub, 1) := by decide +kernel
theorem dX12_reckons_391 : decode cX12_reckons 391 = .ok (.goto 22, 3) := by decide +kernel
theorem dX12_reckons_394 : decode cX12_reckons 394 = .ok (.iload_n 1, 1) := by decide +kernel
theorem dX12_reckons_395 : decode cX12_reckons 395 = .ok (.bipush 42, 2) := by decide +kernel
theorem dX12_reckons_397 : decode cX12_reckons 397 = .ok (.if_icmp .ne 11, 3) := by decide +kernel
theorem dX12_reckons_400 : decode cX12_reckons 400 = .ok (.dload 4, 2) := by decide +kernel
theorem dX12_reckons_402 : decode cX12_reckons 402 = .ok (.dload 6, 2) := by decide +kernel
theorem dX12_reckons_404 : decode cX12_reckons 404 = .ok (.dmul, 1) := by decide +kernel
theorem dX12_reckons_405 : decode cX12_reckons 405 = .ok (.goto 8, 3) := by decide +kernel
theorem dX12_reckons_408 : decode cX12_reckons 408 = .ok (.dload 4, 2) := by decide +kernel
theorem dX12_reckons_410 : decode cX12_reckons 410 = .ok (.dload 6, 2) := by decide +kernel
theorem dX12_reckons_412 : decode cX12_reckons 412 = .ok (.ddiv, 1) := by decide +kernel
theorem dX12_reckons_413 : decode cX12_reckons 413 = .ok (.invokevirtual 315, 3) := by decide +kernel
theorem dX12_reckons_416 : decode cX12_reckons 416 = .ok (.return_, 1) := by decide +kernel
theorem dX12_newValue_0 : decode cX12_newValue 0 = .ok (.aload_n 0, 1) := by decide +kernel
theorem dX12_newValue_1 : decode cX12_newValue 1 = .ok (.getfield 190, 3) := by decide +kernel
theorem dX12_newValue_4 : decode cX12_newValue 4 = .ok (.aload_n 0, 1) := by decide +kernel
theorem dX12_newValue_5 : decode cX12_newValue 5 = .ok (.getfield 319, 3) := by decide +kernel
theorem dX12_newValue_8 : decode cX12_newValue 8 = .ok (.iconst 0, 1) := by decide +kernel
theorem dX12_newValue_9 : decode cX12_newValue 9 = .ok (.castore, 1) := by decide +kernel
theorem dX12_newValue_10 : decode cX12_newValue 10 = .ok (.aload_n 0, 1) := by decide +kernel
theorem dX12_newValue_11 : decode cX12_newValue 11 = .ok (.getfield 193, 3) := by decide +kernel
theorem dX12_newValue_14 : decode cX12_newValue 14 = .ok (.aload_n 0, 1) := by decide +kernel
theorem dX12_newValue_15 : decode cX12_newValue 15 = .ok (.getfield 319, 3) := by decide +kernel
theorem dX12_newValue_18 : decode cX12_newValue 18 = .ok (.iconst 0, 1) := by decide +kernel
theorem dX12_newValue_19 : decode cX12_newValue 19 = .ok (.bastore, 1) := by decide +kernel
theorem dX12_newValue_20 : decode cX12_newValue 20 = .ok (.aload_n 0, 1) := by decide +kernel
theorem dX12_newValue_21 : decode cX12_newValue 21 = .ok (.getfield 196, 3) := by decide +kernel
theorem dX12_newValue_24 : decode cX12_newValue 24 = .ok (.aload_n 0, 1) := by decide +kernel
theorem dX12_newValue_25 : decode cX12_newValue 25 = .ok (.getfield 319, 3) := by decide +kernel
theorem dX12_newValue_28 : decode cX12_newValue 28 = .ok (.iconst (-1), 1) := by decide +kernel
theorem dX12_newValue_29 : decode cX12_newValue 29 = .ok (.iastore, 1) := by decide +kernel
theorem dX12_newValue_30 : decode cX12_newValue 30 = .ok (.aload_n 0, 1) := by decide +kernel
theorem dX12_newValue_31 : decode cX12_newValue 31 = .ok (.getfield 199, 3) := by decide +kernel
theorem dX12_newValue_34 : decode cX12_newValue 34 = .ok (.aload_n 0, 1) := by decide +kernel
theorem dX12_newValue_35 : decode cX12_newValue 35 = .ok (.getfield 319, 3) := by decide +kernel
theorem dX12_newValue_38 : decode cX12_newValue 38 = .ok (.iconst 0, 1) := by decide +kernel
theorem dX12_newValue_39 : decode cX12_newValue 39 = .ok (.iastore, 1) := by decide +kernel
theorem dX12_newValue_40 : decode cX12_newValue 40 = .ok (.aload_n 0, 1) := by decide +kernel
theorem dX12_newValue_41 : decode cX12_newValue 41 = .ok (.dup, 1) := by decide +kernel
theorem dX12_newValue_42 : decode cX12_newValue 42 = .ok (.getfield 319, 3) := by decide +kernel
theorem dX12_newValue_45 : decode cX12_newValue 45 = .ok (.iconst 1, 1) := by decide +kernel
theorem dX12_newValue_46 : decode cX12_newValue 46 = .ok (.iadd, 1) := by decide +kernel
theorem dX12_newValue_47 : decode cX12_newValue 47 = .ok (.putfield 319, 3) := by decide +kernel
theorem dX12_newValue_50 : decode cX12_newValue 50 = .ok (.aload_n 0, 1) := by decide +kernel
theorem dX12_newValue_51 : decode cX12_newValue 51 = .ok (.getfield 319, 3) := by decide +kernel
theorem dX12_newValue_54 : decode cX12_newValue 54 = .ok (.iconst 1, 1) := by decide +kernel
theorem dX12_newValue_55 : decode cX12_newValue 55 = .ok (.isub, 1) := by decide +kernel
theorem dX12_newValue_56 : decode cX12_newValue 56 = .ok (.ireturn, 1) := by decide +kernel
theorem dX12_valueOf_0 : decode cX12_valueOf 0 = .ok (.aload_n 0, 1) := by decide +kernel
theorem dX12_valueOf_1 : decode cX12_valueOf 1 = .ok (.invokevirtual 322, 3) := by decide +kernel
theorem dX12_valueOf_4 : decode cX12_valueOf 4 = .ok (.istore_n 2, 1) := by decide +kernel
theorem dX12_valueOf_5 : decode cX12_valueOf 5 = .ok (.aload_n 0, 1) := by decide +kernel
theorem dX12_valueOf_6 : decode cX12_valueOf 6 = .ok (.getfield 190, 3) := by decide +kernel
theorem dX12_valueOf_9 : decode cX12_valueOf 9 = .ok (.iload_n 2, 1) := by decide +kernel
theorem dX12_valueOf_10 : decode cX12_valueOf 10 = .ok (.iload_n 1, 1) := by decide +kernel
theorem dX12_valueOf_11 : decode cX12_valueOf 11 = .ok (.castore, 1) := by decide +kernel
theorem dX12_valueOf_12 : decode cX12_valueOf 12 = .ok (.iload_n 2, 1) := by decide +kernel
theorem dX12_valueOf_13 : decode cX12_valueOf 13 = .ok (.ireturn, 1) := by decide +kernel
theorem dX12_isKindKnown_0 : decode cX12_isKindKnown 0 = .ok (.aload_n 0, 1) := by decide +kernel
theorem dX12_isKindKnown_1 : decode cX12_isKindKnown 1 = .ok (.getfield 190, 3) := by decide +kernel
theorem dX12_isKindKnown_4 : decode cX12_isKindKnown 4 = .ok (.iload_n 1, 1) := by decide +kernel
theorem dX12_isKindKnown_5 : decode cX12_isKindKnown 5 = .ok (.caload, 1) := by decide +kernel
theorem dX12_isKindKnown_6 : decode cX12_isKindKnown 6 = .ok (.ifCond .eq 7, 3) := by decide +kernel
theorem dX12_isKindKnown_9 : decode cX12_isKindKnown 9 = .ok (.iconst 1, 1) := by decide +kernel
theorem dX12_isKindKnown_10 : decode cX12_isKindKnown 10 = .ok (.goto 4, 3) := by decide +kernel
theorem dX12_isKindKnown_13 : decode cX12_isKindKnown 13 = .ok (.iconst 0, 1) := by decide +kernel
theorem dX12_isKindKnown_14 : decode cX12_isKindKnown 14 = .ok (.ireturn, 1) := by decide +kernel
theorem dX12_isNullKnown_0 : decode cX12_isNullKnown 0 = .ok (.aload_n 0, 1) := by decide +kernel
theorem dX12_isNullKnown_1 : decode cX12_isNullKnown 1 = .ok (.getfield 199, 3) := by decide +kernel
theorem dX12_isNullKnown_4 : decode cX12_isNullKnown 4 = .ok (.iload_n 1, 1) := by decide +kernel
theorem dX12_isNullKnown_5 : decode cX12_isNullKnown 5 = .ok (.iaload, 1) := by decide +kernel
theorem dX12_isNullKnown_6 : decode cX12_isNullKnown 6 = .ok (.ifCond .ne 25, 3) := by decide +kernel
theorem dX12_isNullKnown_9 : decode cX12_isNullKnown 9 = .ok (.aload_n 0, 1) := by decide +kernel
theorem dX12_isNullKnown_10 : decode cX12_isNullKnown 10 = .ok (.getfield 190, 3) := by decide +kernel
theorem dX12_isNullKnown_13 : decode cX12_isNullKnown 13 = .ok (.iload_n 1, 1) := by decide +kernel
theorem dX12_isNullKnown_14 : decode cX12_isNullKnown 14 = .ok (.caload, 1) := by decide +kernel
theorem dX12_isNullKnown_15 : decode cX12_isNullKnown 15 = .ok (.bipush 111, 2) := by decide +kernel
theorem dX12_isNullKnown_17 : decode cX12_isNullKnown 17 = .ok (.if_icmp .eq 14, 3) := by decide +kernel
theorem dX12_isNullKnown_20 : decode cX12_isNullKnown 20 = .ok (.aload_n 0, 1) := by decide +kernel
theorem dX12_isNullKnown_21 : decode cX12_isNullKnown 21 = .ok (.getfield 190, 3) := by decide +kernel
theorem dX12_isNullKnown_24 : decode cX12_isNullKnown 24 = .ok (.iload_n 1, 1) := by decide +kernel
theorem dX12_isNullKnown_25 : decode cX12_isNullKnown 25 = .ok (.caload, 1) := by decide +kernel
theorem dX12_isNullKnown_26 : decode cX12_isNullKnown 26 = .ok (.bipush 110, 2) := by decide +kernel
theorem dX12_isNullKnown_28 : decode cX12_isNullKnown 28 = .ok (.if_icmp .ne 7, 3) := by decide +kernel
theorem dX12_isNullKnown_31 : decode cX12_isNullKnown 31 = .ok (.iconst 1, 1) := by decide +kernel
theorem dX12_isNullKnown_32 : decode cX12_isNullKnown 32 = .ok (.goto 4, 3) := by decide +kernel
theorem dX12_isNullKnown_35 : decode cX12_isNullKnown 35 = .ok (.iconst 0, 1) := by decide +kernel
theorem dX12_isNullKnown_36 : decode cX12_isNullKnown 36 = .ok (.ireturn, 1) := by decide +kernel
theorem dX12_asks_0 : decode cX12_asks 0 = .ok (.aload_n 0, 1) := by decide +kernel
theorem dX12_asks_1 : decode cX12_asks 1 = .ok (.getfield 178, 3) := by decide +kernel
theorem dX12_asks_4 : decode cX12_asks 4 = .ok (.aload_n 0, 1) := by decide +kernel
theorem dX12_asks_5 : decode cX12_asks 5 = .ok (.getfield 325, 3) := by decide +kernel
theorem dX12_asks_8 : decode cX12_asks 8 = .ok (.iload_n 1, 1) := by decide +kernel
theorem dX12_asks_9 : decode cX12_asks 9 = .ok (.castore, 1) := by decide +kernel
theorem dX12_asks_10 : decode cX12_asks 10 = .ok (.aload_n 0, 1) := by decide +kernel
theorem dX12_asks_11 : decode cX12_asks 11 = .ok (.getfield 181, 3) := by decide +kernel
theorem dX12_asks_14 : decode cX12_asks 14 = .ok (.aload_n 0, 1) := by decide +kernel
theorem dX12_asks_15 : decode cX12_asks 15 = .ok (.getfield 325, 3) := by decide +kernel
theorem dX12_asks_18 : decode cX12_asks 18 = .ok (.aload_n 0, 1) := by decide +kernel
theorem dX12_asks_19 : decode cX12_asks 19 = .ok (.getfield 328, 3) := by decide +kernel
theorem dX12_asks_22 : decode cX12_asks 22 = .ok (.iastore, 1) := by decide +kernel
theorem dX12_asks_23 : decode cX12_asks 23 = .ok (.aload_n 0, 1) := by decide +kernel
theorem dX12_asks_24 : decode cX12_asks 24 = .ok (.getfield 184, 3) := by decide +kernel
theorem dX12_asks_27 : decode cX12_asks 27 = .ok (.aload_n 0, 1) := by decide +kernel
theorem dX12_asks_28 : decode cX12_asks 28 = .ok (.getfield 325, 3) := by decide +kernel
theorem dX12_asks_31 : decode cX12_asks 31 = .ok (.iload_n 2, 1) := by decide +kernel
theorem dX12_asks_32 : decode cX12_asks 32 = .ok (.iastore, 1) := by decide +kernel
theorem dX12_asks_33 : decode cX12_asks 33 = .ok (.aload_n 0, 1) := by decide +kernel
theorem dX12_asks_34 : decode cX12_asks 34 = .ok (.getfield 187, 3) := by decide +kernel
theorem dX12_asks_37 : decode cX12_asks 37 = .ok (.aload_n 0, 1) := by decide +kernel
theorem dX12_asks_38 : decode cX12_asks 38 = .ok (.getfield 325, 3) := by decide +kernel
theorem dX12_asks_41 : decode cX12_asks 41 = .ok (.iload_n 3, 1) := by decide +kernel
theorem dX12_asks_42 : decode cX12_asks 42 = .ok (.iastore, 1) := by decide +kernel
theorem dX12_asks_43 : decode cX12_asks 43 = .ok (.aload_n 0, 1) := by decide +kernel
theorem dX12_asks_44 : decode cX12_asks 44 = .ok (.dup, 1) := by decide +kernel
theorem dX12_asks_45 : decode cX12_asks 45 = .ok (.getfield 325, 3) := by decide +kernel
theorem dX12_asks_48 : decode cX12_asks 48 = .ok (.iconst 1, 1) := by decide +kernel
theorem dX12_asks_49 : decode cX12_asks 49 = .ok (.iadd, 1) := by decide +kernel
theorem dX12_asks_50 : decode cX12_asks 50 = .ok (.putfield 325, 3) := by decide +kernel
theorem dX12_asks_53 : decode cX12_asks 53 = .ok (.return_, 1) := by decide +kernel
theorem dX12_asksKind_0 : decode cX12_asksKind 0 = .ok (.aload_n 0, 1) := by decide +kernel
theorem dX12_asksKind_1 : decode cX12_asksKind 1 = .ok (.getfield 137, 3) := by decide +kernel
theorem dX12_asksKind_4 : decode cX12_asksKind 4 = .ok (.aload_n 0, 1) := by decide +kernel
theorem dX12_asksKind_5 : decode cX12_asksKind 5 = .ok (.iload_n 1, 1) := by decide +kernel
theorem dX12_asksKind_6 : decode cX12_asksKind 6 = .ok (.invokevirtual 297, 3) := by decide +kernel
theorem dX12_asksKind_9 : decode cX12_asksKind 9 = .ok (.iaload, 1) := by decide +kernel
theorem dX12_asksKind_10 : decode cX12_asksKind 10 = .ok (.istore_n 2, 1) := by decide +kernel
theorem dX12_asksKind_11 : decode cX12_asksKind 11 = .ok (.aload_n 0, 1) := by decide +kernel
theorem dX12_asksKind_12 : decode cX12_asksKind 12 = .ok (.iload_n 2, 1) := by decide +kernel
theorem dX12_asksKind_13 : decode cX12_asksKind 13 = .ok (.invokevirtual 331, 3) := by decide +kernel
theorem dX12_asksKind_16 : decode cX12_asksKind 16 = .ok (.ifCond .ne 36, 3) := by decide +kernel
theorem dX12_asksKind_19 : decode cX12_asksKind 19 = .ok (.aload_n 0, 1) := by decide +kernel
theorem dX12_asksKind_20 : decode cX12_asksKind 20 = .ok (.bipush 107, 2) := by decide +kernel
theorem dX12_asksKind_22 : decode cX12_asksKind 22 = .ok (.iload_n 1, 1) := by decide +kernel
theorem dX12_asksKind_23 : decode cX12_asksKind 23 = .ok (.aload_n 0, 1) := by decide +kernel
theorem dX12_asksKind_24 : decode cX12_asksKind 24 = .ok (.getfield 127, 3) := by decide +kernel
theorem dX12_asksKind_27 : decode cX12_asksKind 27 = .ok (.aload_n 0, 1) := by decide +kernel
theorem dX12_asksKind_28 : decode cX12_asksKind 28 = .ok (.iload_n 1, 1) := by decide +kernel
theorem dX12_asksKind_29 : decode cX12_asksKind 29 = .ok (.invokevirtual 297, 3) := by decide +kernel
theorem dX12_asksKind_32 : decode cX12_asksKind 32 = .ok (.caload, 1) := by decide +kernel
theorem dX12_asksKind_33 : decode cX12_asksKind 33 = .ok (.invokevirtual 334, 3) := by decide +kernel
theorem dX12_asksKind_36 : decode cX12_asksKind 36 = .ok (.aload_n 0, 1) := by decide +kernel
theorem dX12_asksKind_37 : decode cX12_asksKind 37 = .ok (.getfield 190, 3) := by decide +kernel
theorem dX12_asksKind_40 : decode cX12_asksKind 40 = .ok (.iload_n 2, 1) := by decide +kernel
theorem dX12_asksKind_41 : decode cX12_asksKind 41 = .ok (.aload_n 0, 1) := by decide +kernel
theorem dX12_asksKind_42 : decode cX12_asksKind 42 = .ok (.getfield 127, 3) := by decide +kernel
theorem dX12_asksKind_45 : decode cX12_asksKind 45 = .ok (.aload_n 0, 1) := by decide +kernel
theorem dX12_asksKind_46 : decode cX12_asksKind 46 = .ok (.iload_n 1, 1) := by decide +kernel
theorem dX12_asksKind_47 : decode cX12_asksKind 47 = .ok (.invokevirtual 297, 3) := by decide +kernel
theorem dX12_asksKind_50 : decode cX12_asksKind 50 = .ok (.caload, 1) := by decide +kernel
theorem dX12_asksKind_51 : decode cX12_asksKind 51 = .ok (.castore, 1) := by decide +kernel
theorem dX12_asksKind_52 : decode cX12_asksKind 52 = .ok (.return_, 1) := by decide +kernel
theorem dX12_asksShape_0 : decode cX12_asksShape 0 = .ok (.aload_n 0, 1) := by decide +kernel
theorem dX12_asksShape_1 : decode cX12_asksShape 1 = .ok (.getfield 137, 3) := by decide +kernel
theorem dX12_asksShape_4 : decode cX12_asksShape 4 = .ok (.aload_n 0, 1) := by decide +kernel
theorem dX12_asksShape_5 : decode cX12_asksShape 5 = .ok (.iload_n 1, 1) := by decide +kernel
theorem dX12_asksShape_6 : decode cX12_asksShape 6 = .ok (.invokevirtual 297, 3) := by decide +kernel
theorem dX12_asksShape_9 : decode cX12_asksShape 9 = .ok (.iaload, 1) := by decide +kernel
theorem dX12_asksShape_10 : decode cX12_asksShape 10 = .ok (.istore_n 2, 1) := by decide +kernel
theorem dX12_asksShape_11 : decode cX12_asksShape 11 = .ok (.aload_n 0, 1) := by decide +kernel
theorem dX12_asksShape_12 : decode cX12_asksShape 12 = .ok (.getfield 149, 3) := by decide +kernel
theorem dX12_asksShape_15 : decode cX12_asksShape 15 = .ok (.aload_n 0, 1) := by decide +kernel
theorem dX12_asksShape_16 : decode cX12_asksShape 16 = .ok (.getfield 130, 3) := by decide +kernel
theorem dX12_asksShape_19 : decode cX12_asksShape 19 = .ok (.aload_n 0, 1) := by decide +kernel
theorem dX12_asksShape_20 : decode cX12_asksShape 20 = .ok (.iload_n 1, 1) := by decide +kernel
theorem dX12_asksShape_21 : decode cX12_asksShape 21 = .ok (.invokevirtual 297, 3) := by decide +kernel
theorem dX12_asksShape_24 : decode cX12_asksShape 24 = .ok (.iaload, 1) := by decide +kernel
theorem dX12_asksShape_25 : decode cX12_asksShape 25 = .ok (.iaload, 1) := by decide +kernel
theorem dX12_asksShape_26 : decode cX12_asksShape 26 = .ok (.istore_n 3, 1) := by decide +kernel
theorem dX12_asksShape_27 : decode cX12_asksShape 27 = .ok (.aload_n 0, 1) := by decide +kernel
theorem dX12_asksShape_28 : decode cX12_asksShape 28 = .ok (.getfield 196, 3) := by decide +kernel
theorem dX12_asksShape_31 : decode cX12_asksShape 31 = .ok (.iload_n 2, 1) := by decide +kernel
theorem dX12_asksShape_32 : decode cX12_asksShape 32 = .ok (.iaload, 1) := by decide +kernel
theorem dX12_asksShape_33 : decode cX12_asksShape 33 = .ok (.iconst (-1), 1) := by decide +kernel
theorem dX12_asksShape_34 : decode cX12_asksShape 34 = .ok (.if_icmp .ne 26, 3) := by decide +kernel
theorem dX12_asksShape_37 : decode cX12_asksShape 37 = .ok (.aload_n 0, 1) := by decide +kernel
theorem dX12_asksShape_38 : decode cX12_asksShape 38 = .ok (.bipush 115, 2) := by decide +kernel
theorem dX12_asksShape_40 : decode cX12_asksShape 40 = .ok (.iload_n 1, 1) := by decide +kernel
theorem dX12_asksShape_41 : decode cX12_asksShape 41 = .ok (.iload_n 3, 1) := by decide +kernel
theorem dX12_asksShape_42 : decode cX12_asksShape 42 = .ok (.invokevirtual 334, 3) := by decide +kernel
theorem dX12_asksShape_45 : decode cX12_asksShape 45 = .ok (.aload_n 0, 1) := by decide +kernel
theorem dX12_asksShape_46 : decode cX12_asksShape 46 = .ok (.getfield 196, 3) := by decide +kernel
theorem dX12_asksShape_49 : decode cX12_asksShape 49 = .ok (.iload_n 2, 1) := by decide +kernel
theorem dX12_asksShape_50 : decode cX12_asksShape 50 = .ok (.iload_n 3, 1) := by decide +kernel
theorem dX12_asksShape_51 : decode cX12_asksShape 51 = .ok (.iastore, 1) := by decide +kernel
theorem dX12_asksShape_52 : decode cX12_asksShape 52 = .ok (.aload_n 0, 1) := by decide +kernel
theorem dX12_asksShape_53 : decode cX12_asksShape 53 = .ok (.getfield 190, 3) := by decide +kernel
theorem dX12_asksShape_56 : decode cX12_asksShape 56 = .ok (.iload_n 2, 1) := by decide +kernel
theorem dX12_asksShape_57 : decode cX12_asksShape 57 = .ok (.bipush 111, 2) := by decide +kernel
theorem dX12_asksShape_59 : decode cX12_asksShape 59 = .ok (.castore, 1) := by decide +kernel
theorem dX12_asksShape_60 : decode cX12_asksShape 60 = .ok (.return_, 1) := by decide +kernel
theorem dX12_guards_0 : decode cX12_guards 0 = .ok (.iload_n 1, 1) := by decide +kernel
theorem dX12_guards_1 : decode cX12_guards 1 = .ok (.invokestatic 219, 3) := by decide +kernel
theorem dX12_guards_4 : decode cX12_guards 4 = .ok (.ifCond .eq 199, 3) := by decide +kernel
theorem dX12_guards_7 : decode cX12_guards 7 = .ok (.aload_n 0, 1) := by decide +kernel
theorem dX12_guards_8 : decode cX12_guards 8 = .ok (.getfield 137, 3) := by decide +kernel
theorem dX12_guards_11 : decode cX12_guards 11 = .ok (.aload_n 0, 1) := by decide +kernel
theorem dX12_guards_12 : decode cX12_guards 12 = .ok (.iconst 1, 1) := by decide +kernel
theorem dX12_guards_13 : decode cX12_guards 13 = .ok (.invokevirtual 297, 3) := by decide +kernel
theorem dX12_guards_16 : decode cX12_guards 16 = .ok (.iaload, 1) := by decide +kernel
theorem dX12_guards_17 : decode cX12_guards 17 = .ok (.istore_n 2, 1) := by decide +kernel
theorem dX12_guards_18 : decode cX12_guards 18 = .ok (.aload_n 0, 1) := by decide +kernel
theorem dX12_guards_19 : decode cX12_guards 19 = .ok (.getfield 137, 3) := by decide +kernel
theorem dX12_guards_22 : decode cX12_guards 22 = .ok (.aload_n 0, 1) := by decide +kernel
theorem dX12_guards_23 : decode cX12_guards 23 = .ok (.iconst 0, 1) := by decide +kernel
theorem dX12_guards_24 : decode cX12_guards 24 = .ok (.invokevirtual 297, 3) := by decide +kernel
theorem dX12_guards_27 : decode cX12_guards 27 = .ok (.iaload, 1) := by decide +kernel
theorem dX12_guards_28 : decode cX12_guards 28 = .ok (.istore_n 3, 1) := by decide +kernel
theorem dX12_guards_29 : decode cX12_guards 29 = .ok (.aload_n 0, 1) := by decide +kernel
theorem dX12_guards_30 : decode cX12_guards 30 = .ok (.getfield 193, 3) := by decide +kernel
theorem dX12_guards_33 : decode cX12_guards 33 = .ok (.iload_n 2, 1) := by decide +kernel
theorem dX12_guards_34 : decode cX12_guards 34 = .ok (.baload, 1) := by decide +kernel
theorem dX12_guards_35 : decode cX12_guards 35 = .ok (.ifCond .eq 13, 3) := by decide +kernel
theorem dX12_guards_38 : decode cX12_guards 38 = .ok (.aload_n 0, 1) := by decide +kernel
theorem dX12_guards_39 : decode cX12_guards 39 = .ok (.getfield 193, 3) := by decide +kernel
theorem dX12_guards_42 : decode cX12_guards 42 = .ok (.iload_n 3, 1) := by decide +kernel
theorem dX12_guards_43 : decode cX12_guards 43 = .ok (.baload, 1) := by decide +kernel
theorem dX12_guards_44 : decode cX12_guards 44 = .ok (.ifCond .eq 4, 3) := by decide +kernel
theorem dX12_guards_47 : decode cX12_guards 47 = .ok (.return_, 1) := by decide +kernel
theorem dX12_guards_48 : decode cX12_guards 48 = .ok (.aload_n 0, 1) := by decide +kernel
theorem dX12_guards_49 : decode cX12_guards 49 = .ok (.iconst 1, 1) := by decide +kernel
theorem dX12_guards_50 : decode cX12_guards 50 = .ok (.invokevirtual 338, 3) := by decide +kernel
theorem dX12_guards_53 : decode cX12_guards 53 = .ok (.aload_n 0, 1) := by decide +kernel
theorem dX12_guards_54 : decode cX12_guards 54 = .ok (.iconst 0, 1) := by decide +kernel
theorem dX12_guards_55 : decode cX12_guards 55 = .ok (.invokevirtual 338, 3) := by decide +kernel
theorem dX12_guards_58 : decode cX12_guards 58 = .ok (.aload_n 0, 1) := by decide +kernel
theorem dX12_guards_59 : decode cX12_guards 59 = .ok (.getfield 127, 3) := by decide +kernel
theorem dX12_guards_62 : decode cX12_guards 62 = .ok (.aload_n 0, 1) := by decide +kernel
theorem dX12_guards_63 : decode cX12_guards 63 = .ok (.iconst 1, 1) := by decide +kernel
theorem dX12_guards_64 : decode cX12_guards 64 = .ok (.invokevirtual 297, 3) := by decide +kernel
theorem dX12_guards_67 : decode cX12_guards 67 = .ok (.caload, 1) := by decide +kernel
theorem dX12_guards_68 : decode cX12_guards 68 = .ok (.bipush 105, 2) := by decide +kernel
theorem dX12_guards_70 : decode cX12_guards 70 = .ok (.if_icmp .ne 22, 3) := by decide +kernel
theorem dX12_guards_73 : decode cX12_guards 73 = .ok (.aload_n 0, 1) := by decide +kernel
theorem dX12_guards_74 : decode cX12_guards 74 = .ok (.getfield 127, 3) := by decide +kernel
theorem dX12_guards_77 : decode cX12_guards 77 = .ok (.aload_n 0, 1) := by decide +kernel
theorem dX12_guards_78 : decode cX12_guards 78 = .ok (.iconst 0, 1) := by decide +kernel
theorem dX12_guards_79 : decode cX12_guards 79 = .ok (.invokevirtual 297, 3) := by decide +kernel
theorem dX12_guards_82 : decode cX12_guards 82 = .ok (.caload, 1) := by decide +kernel
theorem dX12_guards_83 : decode cX12_guards 83 = .ok (.bipush 105, 2) := by decide +kernel
theorem dX12_guards_85 : decode cX12_guards 85 = .ok (.if_icmp .ne 7, 3) := by decide +kernel
theorem dX12_guards_88 : decode cX12_guards 88 = .ok (.iconst 1, 1) := by decide +kernel
theorem dX12_guards_89 : decode cX12_guards 89 = .ok (.goto 4, 3) := by decide +kernel
theorem dX12_guards_92 : decode cX12_guards 92 = .ok (.iconst 0, 1) := by decide +kernel
theorem dX12_guards_93 : decode cX12_guards 93 = .ok (.istore 4, 2) := by decide +kernel
theorem dX12_guards_95 : decode cX12_guards 95 = .ok (.iload 4, 2) := by decide +kernel
theorem dX12_guards_97 : decode cX12_guards 97 = .ok (.ifCond .eq 38, 3) := by decide +kernel
theorem dX12_guards_100 : decode cX12_guards 100 = .ok (.iload_n 1, 1) := by decide +kernel
theorem dX12_guards_101 : decode cX12_guards 101 = .ok (.bipush 47, 2) := by decide +kernel
theorem dX12_guards_103 : decode cX12_guards 103 = .ok (.if_icmp .eq 9, 3) := by decide +kernel
theorem dX12_guards_106 : decode cX12_guards 106 = .ok (.iload_n 1, 1) := by decide +kernel
theorem dX12_guards_107 : decode cX12_guards 107 = .ok (.bipush 37, 2) := by decide +kernel
theorem dX12_guards_109 : decode cX12_guards 109 = .ok (.if_icmp .ne 26, 3) := by decide +kernel
theorem dX12_guards_112 : decode cX12_guards 112 = .ok (.aload_n 0, 1) := by decide +kernel
theorem dX12_guards_113 : decode cX12_guards 113 = .ok (.iload_n 3, 1) := by decide +kernel
theorem dX12_guards_114 : decode cX12_guards 114 = .ok (.invokevirtual 341, 3) := by decide +kernel
theorem dX12_guards_117 : decode cX12_guards 117 = .ok (.ifCond .ne 18, 3) := by decide +kernel
theorem dX12_guards_120 : decode cX12_guards 120 = .ok (.aload_n 0, 1) := by decide +kernel
theorem dX12_guards_121 : decode cX12_guards 121 = .ok (.bipush 122, 2) := by decide +kernel
theorem dX12_guards_123 : decode cX12_guards 123 = .ok (.iconst 0, 1) := by decide +kernel
theorem dX12_guards_124 : decode cX12_guards 124 = .ok (.iconst 0, 1) := by decide +kernel
theorem dX12_guards_125 : decode cX12_guards 125 = .ok (.invokevirtual 334, 3) := by decide +kernel
theorem dX12_guards_128 : decode cX12_guards 128 = .ok (.aload_n 0, 1) := by decide +kernel
theorem dX12_guards_129 : decode cX12_guards 129 = .ok (.getfield 199, 3) := by decide +kernel
theorem dX12_guards_132 : decode cX12_guards 132 = .ok (.iload_n 3, 1) := by decide +kernel
theorem dX12_guards_133 : decode cX12_guards 133 = .ok (.iconst 2, 1) := by decide +kernel
theorem dX12_guards_134 : decode cX12_guards 134 = .ok (.iastore, 1) := by decide +kernel
theorem dX12_guards_135 : decode cX12_guards 135 = .ok (.iload 4, 2) := by decide +kernel
theorem dX12_guards_137 : decode cX12_guards 137 = .ok (.ifCond .eq 63, 3) := by decide +kernel
theorem dX12_guards_140 : decode cX12_guards 140 = .ok (.iload_n 1, 1) := by decide +kernel
theorem dX12_guards_141 : decode cX12_guards 141 = .ok (.bipush 43, 2) := by decide +kernel
theorem dX12_guards_143 : decode cX12_guards 143 = .ok (.if_icmp .eq 21, 3) := by decide +kernel
theorem dX12_guards_146 : decode cX12_guards 146 = .ok (.iload_n 1, 1) := by decide +kernel
theorem dX12_guards_147 : decode cX12_guards 147 = .ok (.bipush 45, 2) := by decide +kernel
theorem dX12_guards_149 : decode cX12_guards 149 = .ok (.if_icmp .eq 15, 3) := by decide +kernel
theorem dX12_guards_152 : decode cX12_guards 152 = .ok (.iload_n 1, 1) := by decide +kernel
theorem dX12_guards_153 : decode cX12_guards 153 = .ok (.bipush 42, 2) := by decide +kernel
theorem dX12_guards_155 : decode cX12_guards 155 = .ok (.if_icmp .eq 9, 3) := by decide +kernel
theorem dX12_guards_158 : decode cX12_guards 158 = .ok (.iload_n 1, 1) := by decide +kernel
theorem dX12_guards_159 : decode cX12_guards 159 = .ok (.bipush 47, 2) := by decide +kernel
theorem dX12_guards_161 : decode cX12_guards 161 = .ok (.if_icmp .ne 39, 3) := by decide +kernel
theorem dX12_guards_164 : decode cX12_guards 164 = .ok (.aload_n 0, 1) := by decide +kernel
theorem dX12_guards_165 : decode cX12_guards 165 = .ok (.iload_n 1, 1) := by decide +kernel
theorem dX12_guards_166 : decode cX12_guards 166 = .ok (.aload_n 0, 1) := by decide +kernel
theorem dX12_guards_167 : decode cX12_guards 167 = .ok (.iconst 1, 1) := by decide +kernel
theorem dX12_guards_168 : decode cX12_guards 168 = .ok (.invokevirtual 297, 3) := by decide +kernel
theorem dX12_guards_171 : decode cX12_guards 171 = .ok (.aload_n 0, 1) := by decide +kernel
theorem dX12_guards_172 : decode cX12_guards 172 = .ok (.iconst 0, 1) := by decide +kernel
theorem dX12_guards_173 : decode cX12_guards 173 = .ok (.invokevirtual 297, 3) := by decide +kernel
theorem dX12_guards_176 : decode cX12_guards 176 = .ok (.invokevirtual 344, 3) := by decide +kernel
theorem dX12_guards_179 : decode cX12_guards 179 = .ok (.aload_n 0, 1) := by decide +kernel
theorem dX12_guards_180 : decode cX12_guards 180 = .ok (.bipush 111, 2) := by decide +kernel
theorem dX12_guards_182 : decode cX12_guards 182 = .ok (.iconst 0, 1) := by decide +kernel
theorem dX12_guards_183 : decode cX12_guards 183 = .ok (.aload_n 0, 1) := by decide +kernel
theorem dX12_guards_184 : decode cX12_guards 184 = .ok (.getfield 287, 3) := by decide +kernel
theorem dX12_guards_187 : decode cX12_guards 187 = .ok (.bipush 105, 2) := by decide +kernel
theorem dX12_guards_189 : decode cX12_guards 189 = .ok (.if_icmp .ne 7, 3) := by decide +kernel
theorem dX12_guards_192 : decode cX12_guards 192 = .ok (.iconst 1, 1) := by decide +kernel
theorem dX12_guards_193 : decode cX12_guards 193 = .ok (.goto 4, 3) := by decide +kernel
theorem dX12_guards_196 : decode cX12_guards 196 = .ok (.iconst 0, 1) := by decide +kernel
theorem dX12_guards_197 : decode cX12_guards 197 = .ok (.invokevirtual 334, 3) := by decide +kernel
theorem dX12_guards_200 : decode cX12_guards 200 = .ok (.goto 123, 3) := by decide +kernel
theorem dX12_guards_203 : decode cX12_guards 203 = .ok (.iload_n 1, 1) := by decide +kernel
theorem dX12_guards_204 : decode cX12_guards 204 = .ok (.bipush 119, 2) := by decide +kernel
theorem dX12_guards_206 : decode cX12_guards 206 = .ok (.if_icmp .ne 11, 3) := by decide +kernel
theorem dX12_guards_209 : decode cX12_guards 209 = .ok (.aload_n 0, 1) := by decide +kernel
theorem dX12_guards_210 : decode cX12_guards 210 = .ok (.iconst 0, 1) := by decide +kernel
theorem dX12_guards_211 : decode cX12_guards 211 = .ok (.invokevirtual 338, 3) := by decide +kernel
theorem dX12_guards_214 : decode cX12_guards 214 = .ok (.goto 109, 3) := by decide +kernel
theorem dX12_guards_217 : decode cX12_guards 217 = .ok (.iload_n 1, 1) := by decide +kernel
theorem dX12_guards_218 : decode cX12_guards 218 = .ok (.bipush 122, 2) := by decide +kernel
theorem dX12_guards_220 : decode cX12_guards 220 = .ok (.if_icmp .ne 72, 3) := by decide +kernel
theorem dX12_guards_223 : decode cX12_guards 223 = .ok (.aload_n 0, 1) := by decide +kernel
theorem dX12_guards_224 : decode cX12_guards 224 = .ok (.getfield 137, 3) := by decide +kernel
theorem dX12_guards_227 : decode cX12_guards 227 = .ok (.aload_n 0, 1) := by decide +kernel
theorem dX12_guards_228 : decode cX12_guards 228 = .ok (.iconst 0, 1) := by decide +kernel
theorem dX12_guards_229 : decode cX12_guards 229 = .ok (.invokevirtual 297, 3) := by decide +kernel
theorem dX12_guards_232 : decode cX12_guards 232 = .ok (.iaload, 1) := by decide +kernel
theorem dX12_guards_233 : decode cX12_guards 233 = .ok (.istore_n 2, 1) := by decide +kernel
theorem dX12_guards_234 : decode cX12_guards 234 = .ok (.aload_n 0, 1) := by decide +kernel
theorem dX12_guards_235 : decode cX12_guards 235 = .ok (.iload_n 2, 1) := by decide +kernel
theorem dX12_guards_236 : decode cX12_guards 236 = .ok (.invokevirtual 341, 3) := by decide +kernel
theorem dX12_guards_239 : decode cX12_guards 239 = .ok (.ifCond .ne 50, 3) := by decide +kernel
theorem dX12_guards_242 : decode cX12_guards 242 = .ok (.aload_n 0, 1) := by decide +kernel
theorem dX12_guards_243 : decode cX12_guards 243 = .ok (.bipush 116, 2) := by decide +kernel
theorem dX12_guards_245 : decode cX12_guards 245 = .ok (.iconst 0, 1) := by decide +kernel
theorem dX12_guards_246 : decode cX12_guards 246 = .ok (.aload_n 0, 1) := by decide +kernel
theorem dX12_guards_247 : decode cX12_guards 247 = .ok (.aload_n 0, 1) := by decide +kernel
theorem dX12_guards_248 : decode cX12_guards 248 = .ok (.iconst 0, 1) := by decide +kernel
theorem dX12_guards_249 : decode cX12_guards 249 = .ok (.invokevirtual 297, 3) := by decide +kernel
theorem dX12_guards_252 : decode cX12_guards 252 = .ok (.invokevirtual 347, 3) := by decide +kernel
theorem dX12_guards_255 : decode cX12_guards 255 = .ok (.ifCond .eq 7, 3) := by decide +kernel
theorem dX12_guards_258 : decode cX12_guards 258 = .ok (.iconst 1, 1) := by decide +kernel
theorem dX12_guards_259 : decode cX12_guards 259 = .ok (.goto 4, 3) := by decide +kernel
theorem dX12_guards_262 : decode cX12_guards 262 = .ok (.iconst 0, 1) := by decide +kernel
theorem dX12_guards_263 : decode cX12_guards 263 = .ok (.invokevirtual 334, 3) := by decide +kernel
theorem dX12_guards_266 : decode cX12_guards 266 = .ok (.aload_n 0, 1) := by decide +kernel
theorem dX12_guards_267 : decode cX12_guards 267 = .ok (.getfield 199, 3) := by decide +kernel
theorem dX12_guards_270 : decode cX12_guards 270 = .ok (.iload_n 2, 1) := by decide +kernel
theorem dX12_guards_271 : decode cX12_guards 271 = .ok (.aload_n 0, 1) := by decide +kernel
theorem dX12_guards_272 : decode cX12_guards 272 = .ok (.aload_n 0, 1) := by decide +kernel
theorem dX12_guards_273 : decode cX12_guards 273 = .ok (.iconst 0, 1) := by decide +kernel
theorem dX12_guards_274 : decode cX12_guards 274 = .ok (.invokevirtual 297, 3) := by decide +kernel
theorem dX12_guards_277 : decode cX12_guards 277 = .ok (.invokevirtual 347, 3) := by decide +kernel
theorem dX12_guards_280 : decode cX12_guards 280 = .ok (.ifCond .eq 7, 3) := by decide +kernel
theorem dX12_guards_283 : decode cX12_guards 283 = .ok (.iconst 1, 1) := by decide +kernel
theorem dX12_guards_284 : decode cX12_guards 284 = .ok (.goto 4, 3) := by decide +kernel
theorem dX12_guards_287 : decode cX12_guards 287 = .ok (.iconst 2, 1) := by decide +kernel
theorem dX12_guards_288 : decode cX12_guards 288 = .ok (.iastore, 1) := by decide +kernel
theorem dX12_guards_289 : decode cX12_guards 289 = .ok (.goto 34, 3) := by decide +kernel
theorem dX12_guards_292 : decode cX12_guards 292 = .ok (.iload_n 1, 1) := by decide +kernel
theorem dX12_guards_293 : decode cX12_guards 293 = .ok (.bipush 103, 2) := by decide +kernel
theorem dX12_guards_295 : decode cX12_guards 295 = .ok (.if_icmp .eq 9, 3) := by decide +kernel
theorem dX12_guards_298 : decode cX12_guards 298 = .ok (.iload_n 1, 1) := by decide +kernel
theorem dX12_guards_299 : decode cX12_guards 299 = .ok (.bipush 109, 2) := by decide +kernel
theorem dX12_guards_301 : decode cX12_guards 301 = .ok (.if_icmp .ne 11, 3) := by decide +kernel
theorem dX12_guards_304 : decode cX12_guards 304 = .ok (.aload_n 0, 1) := by decide +kernel
theorem dX12_guards_305 : decode cX12_guards 305 = .ok (.iconst 0, 1) := by decide +kernel
theorem dX12_guards_306 : decode cX12_guards 306 = .ok (.invokevirtual 350, 3) := by decide +kernel
theorem dX12_guards_309 : decode cX12_guards 309 = .ok (.goto 14, 3) := by decide +kernel
theorem dX12_guards_312 : decode cX12_guards 312 = .ok (.iload_n 1, 1) := by decide +kernel
theorem dX12_guards_313 : decode cX12_guards 313 = .ok (.bipush 112, 2) := by decide +kernel
theorem dX12_guards_315 : decode cX12_guards 315 = .ok (.if_icmp .ne 8, 3) := by decide +kernel
theorem dX12_guards_318 : decode cX12_guards 318 = .ok (.aload_n 0, 1) := by decide +kernel
theorem dX12_guards_319 : decode cX12_guards 319 = .ok (.iconst 1, 1) := by decide +kernel
theorem dX12_guards_320 : decode cX12_guards 320 = .ok (.invokevirtual 350, 3) := by decide +kernel
theorem dX12_guards_323 : decode cX12_guards 323 = .ok (.return_, 1) := by decide +kernel
theorem dX12_holds_0 : decode cX12_holds 0 = .ok (.aload_n 0, 1) := by decide +kernel
theorem dX12_holds_1 : decode cX12_holds 1 = .ok (.aload_n 0, 1) := by decide +kernel
theorem dX12_holds_2 : decode cX12_holds 2 = .ok (.getfield 109, 3) := by decide +kernel
theorem dX12_holds_5 : decode cX12_holds 5 = .ok (.iload_n 1, 1) := by decide +kernel
theorem dX12_holds_6 : decode cX12_holds 6 = .ok (.iaload, 1) := by decide +kernel
theorem dX12_holds_7 : decode cX12_holds 7 = .ok (.invokevirtual 297, 3) := by decide +kernel
theorem dX12_holds_10 : decode cX12_holds 10 = .ok (.istore_n 2, 1) := by decide +kernel
theorem dX12_holds_11 : decode cX12_holds 11 = .ok (.aload_n 0, 1) := by decide +kernel
theorem dX12_holds_12 : decode cX12_holds 12 = .ok (.getfield 103, 3) := by decide +kernel
theorem dX12_holds_15 : decode cX12_holds 15 = .ok (.iload_n 1, 1) := by decide +kernel
theorem dX12_holds_16 : decode cX12_holds 16 = .ok (.caload, 1) := by decide +kernel
theorem dX12_holds_17 : decode cX12_holds 17 = .ok (.istore_n 3, 1) := by decide +kernel
theorem dX12_holds_18 : decode cX12_holds 18 = .ok (.iload_n 3, 1) := by decide +kernel
theorem dX12_holds_19 : decode cX12_holds 19 = .ok (.bipush 107, 2) := by decide +kernel
theorem dX12_holds_21 : decode cX12_holds 21 = .ok (.if_icmp .ne 24, 3) := by decide +kernel
theorem dX12_holds_24 : decode cX12_holds 24 = .ok (.aload_n 0, 1) := by decide +kernel
theorem dX12_holds_25 : decode cX12_holds 25 = .ok (.getfield 127, 3) := by decide +kernel
theorem dX12_holds_28 : decode cX12_holds 28 = .ok (.iload_n 2, 1) := by decide +kernel
theorem dX12_holds_29 : decode cX12_holds 29 = .ok (.caload, 1) := by decide +kernel
theorem dX12_holds_30 : decode cX12_holds 30 = .ok (.aload_n 0, 1) := by decide +kernel
theorem dX12_holds_31 : decode cX12_holds 31 = .ok (.getfield 112, 3) := by decide +kernel
theorem dX12_holds_34 : decode cX12_holds 34 = .ok (.iload_n 1, 1) := by decide +kernel
theorem dX12_holds_35 : decode cX12_holds 35 = .ok (.iaload, 1) := by decide +kernel
theorem dX12_holds_36 : decode cX12_holds 36 = .ok (.if_icmp .ne 7, 3) := by decide +kernel
theorem dX12_holds_39 : decode cX12_holds 39 = .ok (.iconst 1, 1) := by decide +kernel
theorem dX12_holds_40 : decode cX12_holds 40 = .ok (.goto 4, 3) := by decide +kernel
theorem dX12_holds_43 : decode cX12_holds 43 = .ok (.iconst 0, 1) := by decide +kernel
theorem dX12_holds_44 : decode cX12_holds 44 = .ok (.ireturn, 1) := by decide +kernel
theorem dX12_holds_45 : decode cX12_holds 45 = .ok (.iload_n 3, 1) := by decide +kernel
theorem dX12_holds_46 : decode cX12_holds 46 = .ok (.bipush 122, 2) := by decide +kernel
theorem dX12_holds_48 : decode cX12_holds 48 = .ok (.if_icmp .ne 18, 3) := by decide +kernel
theorem dX12_holds_51 : decode cX12_holds 51 = .ok (.aload_n 0, 1) := by decide +kernel
theorem dX12_holds_52 : decode cX12_holds 52 = .ok (.getfield 130, 3) := by decide +kernel
theorem dX12_holds_55 : decode cX12_holds 55 = .ok (.iload_n 2, 1) := by decide +kernel
theorem dX12_holds_56 : decode cX12_holds 56 = .ok (.iaload, 1) := by decide +kernel
theorem dX12_holds_57 : decode cX12_holds 57 = .ok (.ifCond .eq 7, 3) := by decide +kernel
theorem dX12_holds_60 : decode cX12_holds 60 = .ok (.iconst 1, 1) := by decide +kernel
theorem dX12_holds_61 : decode cX12_holds 61 = .ok (.goto 4, 3) := by decide +kernel
theorem dX12_holds_64 : decode cX12_holds 64 = .ok (.iconst 0, 1) := by decide +kernel
theorem dX12_holds_65 : decode cX12_holds 65 = .ok (.ireturn, 1) := by decide +kernel
theorem dX12_holds_66 : decode cX12_holds 66 = .ok (.iload_n 3, 1) := by decide +kernel
theorem dX12_holds_67 : decode cX12_holds 67 = .ok (.bipush 116, 2) := by decide +kernel
theorem dX12_holds_69 : decode cX12_holds 69 = .ok (.if_icmp .ne 31, 3) := by decide +kernel
theorem dX12_holds_72 : decode cX12_holds 72 = .ok (.aload_n 0, 1) := by decide +kernel
theorem dX12_holds_73 : decode cX12_holds 73 = .ok (.iload_n 2, 1) := by decide +kernel
theorem dX12_holds_74 : decode cX12_holds 74 = .ok (.invokevirtual 347, 3) := by decide +kernel
theorem dX12_holds_77 : decode cX12_holds 77 = .ok (.ifCond .eq 7, 3) := by decide +kernel
theorem dX12_holds_80 : decode cX12_holds 80 = .ok (.iconst 1, 1) := by decide +kernel
theorem dX12_holds_81 : decode cX12_holds 81 = .ok (.goto 4, 3) := by decide +kernel
theorem dX12_holds_84 : decode cX12_holds 84 = .ok (.iconst 0, 1) := by decide +kernel
theorem dX12_holds_85 : decode cX12_holds 85 = .ok (.aload_n 0, 1) := by decide +kernel
theorem dX12_holds_86 : decode cX12_holds 86 = .ok (.getfield 112, 3) := by decide +kernel
theorem dX12_holds_89 : decode cX12_holds 89 = .ok (.iload_n 1, 1) := by decide +kernel
theorem dX12_holds_90 : decode cX12_holds 90 = .ok (.iaload, 1) := by decide +kernel
theorem dX12_holds_91 : decode cX12_holds 91 = .ok (.if_icmp .ne 7, 3) := by decide +kernel
theorem dX12_holds_94 : decode cX12_holds 94 = .ok (.iconst 1, 1) := by decide +kernel
theorem dX12_holds_95 : decode cX12_holds 95 = .ok (.goto 4, 3) := by decide +kernel
theorem dX12_holds_98 : decode cX12_holds 98 = .ok (.iconst 0, 1) := by decide +kernel
theorem dX12_holds_99 : decode cX12_holds 99 = .ok (.ireturn, 1) := by decide +kernel
theorem dX12_holds_100 : decode cX12_holds 100 = .ok (.iload_n 3, 1) := by decide +kernel
theorem dX12_holds_101 : decode cX12_holds 101 = .ok (.bipush 115, 2) := by decide +kernel
theorem dX12_holds_103 : decode cX12_holds 103 = .ok (.if_icmp .ne 29, 3) := by decide +kernel
theorem dX12_holds_106 : decode cX12_holds 106 = .ok (.aload_n 0, 1) := by decide +kernel
theorem dX12_holds_107 : decode cX12_holds 107 = .ok (.getfield 149, 3) := by decide +kernel
theorem dX12_holds_110 : decode cX12_holds 110 = .ok (.aload_n 0, 1) := by decide +kernel
theorem dX12_holds_111 : decode cX12_holds 111 = .ok (.getfield 130, 3) := by decide +kernel
theorem dX12_holds_114 : decode cX12_holds 114 = .ok (.iload_n 2, 1) := by decide +kernel
theorem dX12_holds_115 : decode cX12_holds 115 = .ok (.iaload, 1) := by decide +kernel
theorem dX12_holds_116 : decode cX12_holds 116 = .ok (.iaload, 1) := by decide +kernel
theorem dX12_holds_117 : decode cX12_holds 117 = .ok (.aload_n 0, 1) := by decide +kernel
theorem dX12_holds_118 : decode cX12_holds 118 = .ok (.getfield 112, 3) := by decide +kernel
theorem dX12_holds_121 : decode cX12_holds 121 = .ok (.iload_n 1, 1) := by decide +kernel
theorem dX12_holds_122 : decode cX12_holds 122 = .ok (.iaload, 1) := by decide +kernel
theorem dX12_holds_123 : decode cX12_holds 123 = .ok (.if_icmp .ne 7, 3) := by decide +kernel
theorem dX12_holds_126 : decode cX12_holds 126 = .ok (.iconst 1, 1) := by decide +kernel
theorem dX12_holds_127 : decode cX12_holds 127 = .ok (.goto 4, 3) := by decide +kernel
theorem dX12_holds_130 : decode cX12_holds 130 = .ok (.iconst 0, 1) := by decide +kernel
theorem dX12_holds_131 : decode cX12_holds 131 = .ok (.ireturn, 1) := by decide +kernel
theorem dX12_holds_132 : decode cX12_holds 132 = .ok (.aload_n 0, 1) := by decide +kernel
theorem dX12_holds_133 : decode cX12_holds 133 = .ok (.aload_n 0, 1) := by decide +kernel
theorem dX12_holds_134 : decode cX12_holds 134 = .ok (.getfield 16, 3) := by decide +kernel
theorem dX12_holds_137 : decode cX12_holds 137 = .ok (.bipush 40, 2) := by decide +kernel
theorem dX12_holds_139 : decode cX12_holds 139 = .ok (.aload_n 0, 1) := by decide +kernel
theorem dX12_holds_140 : decode cX12_holds 140 = .ok (.getfield 140, 3) := by decide +kernel
theorem dX12_holds_143 : decode cX12_holds 143 = .ok (.aload_n 0, 1) := by decide +kernel
theorem dX12_holds_144 : decode cX12_holds 144 = .ok (.getfield 262, 3) := by decide +kernel
theorem dX12_holds_147 : decode cX12_holds 147 = .ok (.iaload, 1) := by decide +kernel
theorem dX12_holds_148 : decode cX12_holds 148 = .ok (.imul, 1) := by decide +kernel
theorem dX12_holds_149 : decode cX12_holds 149 = .ok (.aload_n 0, 1) := by decide +kernel
theorem dX12_holds_150 : decode cX12_holds 150 = .ok (.getfield 143, 3) := by decide +kernel
theorem dX12_holds_153 : decode cX12_holds 153 = .ok (.aload_n 0, 1) := by decide +kernel
theorem dX12_holds_154 : decode cX12_holds 154 = .ok (.getfield 262, 3) := by decide +kernel
theorem dX12_holds_157 : decode cX12_holds 157 = .ok (.iaload, 1) := by decide +kernel
theorem dX12_holds_158 : decode cX12_holds 158 = .ok (.iadd, 1) := by decide +kernel
theorem dX12_holds_159 : decode cX12_holds 159 = .ok (.caload, 1) := by decide +kernel
theorem dX12_holds_160 : decode cX12_holds 160 = .ok (.aload_n 0, 1) := by decide +kernel
theorem dX12_holds_161 : decode cX12_holds 161 = .ok (.iconst 1, 1) := by decide +kernel
theorem dX12_holds_162 : decode cX12_holds 162 = .ok (.invokevirtual 297, 3) := by decide +kernel
theorem dX12_holds_165 : decode cX12_holds 165 = .ok (.aload_n 0, 1) := by decide +kernel
theorem dX12_holds_166 : decode cX12_holds 166 = .ok (.iconst 0, 1) := by decide +kernel
theorem dX12_holds_167 : decode cX12_holds 167 = .ok (.invokevirtual 297, 3) := by decide +kernel
theorem dX12_holds_170 : decode cX12_holds 170 = .ok (.invokevirtual 344, 3) := by decide +kernel
theorem dX12_holds_173 : decode cX12_holds 173 = .ok (.aload_n 0, 1) := by decide +kernel
theorem dX12_holds_174 : decode cX12_holds 174 = .ok (.getfield 287, 3) := by decide +kernel
theorem dX12_holds_177 : decode cX12_holds 177 = .ok (.bipush 105, 2) := by decide +kernel
theorem dX12_holds_179 : decode cX12_holds 179 = .ok (.if_icmp .ne 7, 3) := by decide +kernel
theorem dX12_holds_182 : decode cX12_holds 182 = .ok (.iconst 1, 1) := by decide +kernel
theorem dX12_holds_183 : decode cX12_holds 183 = .ok (.goto 4, 3) := by decide +kernel
theorem dX12_holds_186 : decode cX12_holds 186 = .ok (.iconst 0, 1) := by decide +kernel
theorem dX12_holds_187 : decode cX12_holds 187 = .ok (.aload_n 0, 1) := by decide +kernel
theorem dX12_holds_188 : decode cX12_holds 188 = .ok (.getfield 112, 3) := by decide +kernel
theorem dX12_holds_191 : decode cX12_holds 191 = .ok (.iload_n 1, 1) := by decide +kernel
theorem dX12_holds_192 : decode cX12_holds 192 = .ok (.iaload, 1) := by decide +kernel
theorem dX12_holds_193 : decode cX12_holds 193 = .ok (.if_icmp .ne 7, 3) := by decide +kernel
theorem dX12_holds_196 : decode cX12_holds 196 = .ok (.iconst 1, 1) := by decide +kernel
theorem dX12_holds_197 : decode cX12_holds 197 = .ok (.goto 4, 3) := by decide +kernel
theorem dX12_holds_200 : decode cX12_holds 200 = .ok (.iconst 0, 1) := by decide +kernel
theorem dX12_holds_201 : decode cX12_holds 201 = .ok (.ireturn, 1) := by decide +kernel
theorem dX12_records_0 : decode cX12_records 0 = .ok (.aload_n 0, 1) := by decide +kernel
theorem dX12_records_1 : decode cX12_records 1 = .ok (.iconst 1, 1) := by decide +kernel
theorem dX12_records_2 : decode cX12_records 2 = .ok (.putfield 353, 3) := by decide +kernel
theorem dX12_records_5 : decode cX12_records 5 = .ok (.aload_n 0, 1) := by decide +kernel
theorem dX12_records_6 : decode cX12_records 6 = .ok (.iload_n 1, 1) := by decide +kernel
theorem dX12_records_7 : decode cX12_records 7 = .ok (.putfield 357, 3) := by decide +kernel
theorem dX12_records_10 : decode cX12_records 10 = .ok (.aload_n 0, 1) := by decide +kernel
theorem dX12_records_11 : decode cX12_records 11 = .ok (.iload_n 2, 1) := by decide +kernel
theorem dX12_records_12 : decode cX12_records 12 = .ok (.putfield 360, 3) := by decide +kernel
theorem dX12_records_15 : decode cX12_records 15 = .ok (.aload_n 0, 1) := by decide +kernel
theorem dX12_records_16 : decode cX12_records 16 = .ok (.iload_n 3, 1) := by decide +kernel
theorem dX12_records_17 : decode cX12_records 17 = .ok (.putfield 363, 3) := by decide +kernel
theorem dX12_records_20 : decode cX12_records 20 = .ok (.aload_n 0, 1) := by decide +kernel
theorem dX12_records_21 : decode cX12_records 21 = .ok (.iload 4, 2) := by decide +kernel
theorem dX12_records_23 : decode cX12_records 23 = .ok (.putfield 366, 3) := by decide +kernel
theorem dX12_records_26 : decode cX12_records 26 = .ok (.aload_n 0, 1) := by decide +kernel
theorem dX12_records_27 : decode cX12_records 27 = .ok (.iconst 0, 1) := by decide +kernel
theorem dX12_records_28 : decode cX12_records 28 = .ok (.putfield 328, 3) := by decide +kernel
theorem dX12_records_31 : decode cX12_records 31 = .ok (.aload_n 0, 1) := by decide +kernel
theorem dX12_records_32 : decode cX12_records 32 = .ok (.iconst 0, 1) := by decide +kernel
theorem dX12_records_33 : decode cX12_records 33 = .ok (.putfield 325, 3) := by decide +kernel
theorem dX12_records_36 : decode cX12_records 36 = .ok (.aload_n 0, 1) := by decide +kernel
theorem dX12_records_37 : decode cX12_records 37 = .ok (.iconst 0, 1) := by decide +kernel
theorem dX12_records_38 : decode cX12_records 38 = .ok (.putfield 319, 3) := by decide +kernel
theorem dX12_records_41 : decode cX12_records 41 = .ok (.iload 4, 2) := by decide +kernel
theorem dX12_records_43 : decode cX12_records 43 = .ok (.istore 5, 2) := by decide +kernel
theorem dX12_records_45 : decode cX12_records 45 = .ok (.iload 5, 2) := by decide +kernel
theorem dX12_records_47 : decode cX12_records 47 = .ok (.aload_n 0, 1) := by decide +kernel
theorem dX12_records_48 : decode cX12_records 48 = .ok (.getfield 262, 3) := by decide +kernel
theorem dX12_records_51 : decode cX12_records 51 = .ok (.if_icmp .gt 50, 3) := by decide +kernel
theorem dX12_records_54 : decode cX12_records 54 = .ok (.iconst 0, 1) := by decide +kernel
theorem dX12_records_55 : decode cX12_records 55 = .ok (.istore 6, 2) := by decide +kernel
theorem dX12_records_57 : decode cX12_records 57 = .ok (.iload 6, 2) := by decide +kernel
theorem dX12_records_59 : decode cX12_records 59 = .ok (.bipush 6, 2) := by decide +kernel
theorem dX12_records_61 : decode cX12_records 61 = .ok (.aload_n 0, 1) := by decide +kernel
theorem dX12_records_62 : decode cX12_records 62 = .ok (.getfield 146, 3) := by decide +kernel
theorem dX12_records_65 : decode cX12_records 65 = .ok (.iload 5, 2) := by decide +kernel
theorem dX12_records_67 : decode cX12_records 67 = .ok (.iaload, 1) := by decide +kernel
theorem dX12_records_68 : decode cX12_records 68 = .ok (.iadd, 1) := by decide +kernel
theorem dX12_records_69 : decode cX12_records 69 = .ok (.if_icmp .ge 26, 3) := by decide +kernel
theorem dX12_records_72 : decode cX12_records 72 = .ok (.aload_n 0, 1) := by decide +kernel
theorem dX12_records_73 : decode cX12_records 73 = .ok (.getfield 137, 3) := by decide +kernel
theorem dX12_records_76 : decode cX12_records 76 = .ok (.bipush 14, 2) := by decide +kernel
theorem dX12_records_78 : decode cX12_records 78 = .ok (.iload 5, 2) := by decide +kernel
theorem dX12_records_80 : decode cX12_records 80 = .ok (.imul, 1) := by decide +kernel
theorem dX12_records_81 : decode cX12_records 81 = .ok (.iload 6, 2) := by decide +kernel
theorem dX12_records_83 : decode cX12_records 83 = .ok (.iadd, 1) := by decide +kernel
theorem dX12_records_84 : decode cX12_records 84 = .ok (.aload_n 0, 1) := by decide +kernel
theorem dX12_records_85 : decode cX12_records 85 = .ok (.invokevirtual 322, 3) := by decide +kernel
theorem dX12_records_88 : decode cX12_records 88 = .ok (.iastore, 1) := by decide +kernel
theorem dX12_records_89 : decode cX12_records 89 = .ok (.iinc 6 1, 3) := by decide +kernel
theorem dX12_records_92 : decode cX12_records 92 = .ok (.goto (-35), 3) := by decide +kernel
theorem dX12_records_95 : decode cX12_records 95 = .ok (.iinc 5 1, 3) := by decide +kernel
theorem dX12_records_98 : decode cX12_records 98 = .ok (.goto (-53), 3) := by decide +kernel
theorem dX12_records_101 : decode cX12_records 101 = .ok (.return_, 1) := by decide +kernel
theorem dX12_breaksOff_0 : decode cX12_breaksOff 0 = .ok (.aload_n 0, 1) := by decide +kernel
theorem dX12_breaksOff_1 : decode cX12_breaksOff 1 = .ok (.getfield 353, 3) := by decide +kernel
theorem dX12_breaksOff_4 : decode cX12_breaksOff 4 = .ok (.ifCond .ne 4, 3) := by decide +kernel
theorem dX12_breaksOff_7 : decode cX12_breaksOff 7 = .ok (.return_, 1) := by decide +kernel
theorem dX12_breaksOff_8 : decode cX12_breaksOff 8 = .ok (.aload_n 0, 1) := by decide +kernel
theorem dX12_breaksOff_9 : decode cX12_breaksOff 9 = .ok (.iconst 0, 1) := by decide +kernel
theorem dX12_breaksOff_10 : decode cX12_breaksOff 10 = .ok (.putfield 353, 3) := by decide +kernel
theorem dX12_breaksOff_13 : decode cX12_breaksOff 13 = .ok (.aload_n 0, 1) := by decide +kernel
theorem dX12_breaksOff_14 : decode cX12_breaksOff 14 = .ok (.getfield 360, 3) := by decide +kernel
theorem dX12_breaksOff_17 : decode cX12_breaksOff 17 = .ok (.iconst (-1), 1) := by decide +kernel
theorem dX12_breaksOff_18 : decode cX12_breaksOff 18 = .ok (.if_icmp .ne 29, 3) := by decide +kernel
theorem dX12_breaksOff_21 : decode cX12_breaksOff 21 = .ok (.aload_n 0, 1) := by decide +kernel
theorem dX12_breaksOff_22 : decode cX12_breaksOff 22 = .ok (.getfield 62, 3) := by decide +kernel
theorem dX12_breaksOff_25 : decode cX12_breaksOff 25 = .ok (.aload_n 0, 1) := by decide +kernel
theorem dX12_breaksOff_26 : decode cX12_breaksOff 26 = .ok (.getfield 363, 3) := by decide +kernel
theorem dX12_breaksOff_29 : decode cX12_breaksOff 29 = .ok (.iconst 0, 1) := by decide +kernel
theorem dX12_breaksOff_30 : decode cX12_breaksOff 30 = .ok (.iastore, 1) := by decide +kernel
theorem dX12_breaksOff_31 : decode cX12_breaksOff 31 = .ok (.aload_n 0, 1) := by decide +kernel
theorem dX12_breaksOff_32 : decode cX12_breaksOff 32 = .ok (.getfield 65, 3) := by decide +kernel
theorem dX12_breaksOff_35 : decode cX12_breaksOff 35 = .ok (.aload_n 0, 1) := by decide +kernel
theorem dX12_breaksOff_36 : decode cX12_breaksOff 36 = .ok (.getfield 363, 3) := by decide +kernel
theorem dX12_breaksOff_39 : decode cX12_breaksOff 39 = .ok (.dup2, 1) := by decide +kernel
theorem dX12_breaksOff_40 : decode cX12_breaksOff 40 = .ok (.iaload, 1) := by decide +kernel
theorem dX12_breaksOff_41 : decode cX12_breaksOff 41 = .ok (.iconst 1, 1) := by decide +kernel
theorem dX12_breaksOff_42 : decode cX12_breaksOff 42 = .ok (.iadd, 1) := by decide +kernel
theorem dX12_breaksOff_43 : decode cX12_breaksOff 43 = .ok (.iastore, 1) := by decide +kernel
theorem dX12_breaksOff_44 : decode cX12_breaksOff 44 = .ok (.goto 26, 3) := by decide +kernel
theorem dX12_breaksOff_47 : decode cX12_breaksOff 47 = .ok (.aload_n 0, 1) := by decide +kernel
theorem dX12_breaksOff_48 : decode cX12_breaksOff 48 = .ok (.getfield 118, 3) := by decide +kernel
theorem dX12_breaksOff_51 : decode cX12_breaksOff 51 = .ok (.aload_n 0, 1) := by decide +kernel
theorem dX12_breaksOff_52 : decode cX12_breaksOff 52 = .ok (.getfield 360, 3) := by decide +kernel
theorem dX12_breaksOff_55 : decode cX12_breaksOff 55 = .ok (.iconst 0, 1) := by decide +kernel
theorem dX12_breaksOff_56 : decode cX12_breaksOff 56 = .ok (.iastore, 1) := by decide +kernel
theorem dX12_breaksOff_57 : decode cX12_breaksOff 57 = .ok (.aload_n 0, 1) := by decide +kernel
theorem dX12_breaksOff_58 : decode cX12_breaksOff 58 = .ok (.getfield 121, 3) := by decide +kernel
theorem dX12_breaksOff_61 : decode cX12_breaksOff 61 = .ok (.aload_n 0, 1) := by decide +kernel
theorem dX12_breaksOff_62 : decode cX12_breaksOff 62 = .ok (.getfield 360, 3) := by decide +kernel
theorem dX12_breaksOff_65 : decode cX12_breaksOff 65 = .ok (.dup2, 1) := by decide +kernel
theorem dX12_breaksOff_66 : decode cX12_breaksOff 66 = .ok (.iaload, 1) := by decide +kernel
theorem dX12_breaksOff_67 : decode cX12_breaksOff 67 = .ok (.iconst 1, 1) := by decide +kernel
theorem dX12_breaksOff_68 : decode cX12_breaksOff 68 = .ok (.iadd, 1) := by decide +kernel
theorem dX12_breaksOff_69 : decode cX12_breaksOff 69 = .ok (.iastore, 1) := by decide +kernel
theorem dX12_breaksOff_70 : decode cX12_breaksOff 70 = .ok (.return_, 1) := by decide +kernel
theorem dX12_ends_0 : decode cX12_ends 0 = .ok (.aload_n 0, 1) := by decide +kernel
theorem dX12_ends_1 : decode cX12_ends 1 = .ok (.getfield 256, 3) := by decide +kernel
theorem dX12_ends_4 : decode cX12_ends 4 = .ok (.bipush 20, 2) := by decide +kernel
theorem dX12_ends_6 : decode cX12_ends 6 = .ok (.if_icmp .ge 7, 3) := by decide +kernel
theorem dX12_ends_9 : decode cX12_ends 9 = .ok (.iconst 1, 1) := by decide +kernel
theorem dX12_ends_10 : decode cX12_ends 10 = .ok (.goto 4, 3) := by decide +kernel
theorem dX12_ends_13 : decode cX12_ends 13 = .ok (.iconst 0, 1) := by decide +kernel
theorem dX12_ends_14 : decode cX12_ends 14 = .ok (.istore_n 1, 1) := by decide +kernel
theorem dX12_ends_15 : decode cX12_ends 15 = .ok (.iload_n 1, 1) := by decide +kernel
theorem dX12_ends_16 : decode cX12_ends 16 = .ok (.ifCond .eq 51, 3) := by decide +kernel
theorem dX12_ends_19 : decode cX12_ends 19 = .ok (.aload_n 0, 1) := by decide +kernel
theorem dX12_ends_20 : decode cX12_ends 20 = .ok (.invokevirtual 241, 3) := by decide +kernel
theorem dX12_ends_23 : decode cX12_ends 23 = .ok (.aload_n 0, 1) := by decide +kernel
theorem dX12_ends_24 : decode cX12_ends 24 = .ok (.getfield 328, 3) := by decide +kernel
theorem dX12_ends_27 : decode cX12_ends 27 = .ok (.iadd, 1) := by decide +kernel
theorem dX12_ends_28 : decode cX12_ends 28 = .ok (.aload_n 0, 1) := by decide +kernel
theorem dX12_ends_29 : decode cX12_ends 29 = .ok (.getfield 75, 3) := by decide +kernel
theorem dX12_ends_32 : decode cX12_ends 32 = .ok (.if_icmp .le 35, 3) := by decide +kernel
theorem dX12_ends_35 : decode cX12_ends 35 = .ok (.aload_n 0, 1) := by decide +kernel
theorem dX12_ends_36 : decode cX12_ends 36 = .ok (.aload_n 0, 1) := by decide +kernel
theorem dX12_ends_37 : decode cX12_ends 37 = .ok (.getfield 357, 3) := by decide +kernel
theorem dX12_ends_40 : decode cX12_ends 40 = .ok (.invokevirtual 245, 3) := by decide +kernel
theorem dX12_ends_43 : decode cX12_ends 43 = .ok (.istore_n 2, 1) := by decide +kernel
theorem dX12_ends_44 : decode cX12_ends 44 = .ok (.iload_n 2, 1) := by decide +kernel
theorem dX12_ends_45 : decode cX12_ends 45 = .ok (.iconst (-1), 1) := by decide +kernel
theorem dX12_ends_46 : decode cX12_ends 46 = .ok (.if_icmp .eq 7, 3) := by decide +kernel
theorem dX12_ends_49 : decode cX12_ends 49 = .ok (.iconst 1, 1) := by decide +kernel
theorem dX12_ends_50 : decode cX12_ends 50 = .ok (.goto 4, 3) := by decide +kernel
theorem dX12_ends_53 : decode cX12_ends 53 = .ok (.iconst 0, 1) := by decide +kernel
theorem dX12_ends_54 : decode cX12_ends 54 = .ok (.istore_n 1, 1) := by decide +kernel
theorem dX12_ends_55 : decode cX12_ends 55 = .ok (.iload_n 1, 1) := by decide +kernel
theorem dX12_ends_56 : decode cX12_ends 56 = .ok (.ifCond .eq 8, 3) := by decide +kernel
theorem dX12_ends_59 : decode cX12_ends 59 = .ok (.aload_n 0, 1) := by decide +kernel
theorem dX12_ends_60 : decode cX12_ends 60 = .ok (.iload_n 2, 1) := by decide +kernel
theorem dX12_ends_61 : decode cX12_ends 61 = .ok (.invokevirtual 248, 3) := by decide +kernel
theorem dX12_ends_64 : decode cX12_ends 64 = .ok (.goto (-49), 3) := by decide +kernel
theorem dX12_ends_67 : decode cX12_ends 67 = .ok (.iload_n 1, 1) := by decide +kernel
theorem dX12_ends_68 : decode cX12_ends 68 = .ok (.ifCond .ne 8, 3) := by decide +kernel
theorem dX12_ends_71 : decode cX12_ends 71 = .ok (.aload_n 0, 1) := by decide +kernel
theorem dX12_ends_72 : decode cX12_ends 72 = .ok (.invokevirtual 369, 3) := by decide +kernel
theorem dX12_ends_75 : decode cX12_ends 75 = .ok (.return_, 1) := by decide +kernel
theorem dX12_ends_76 : decode cX12_ends 76 = .ok (.aload_n 0, 1) := by decide +kernel
theorem dX12_ends_77 : decode cX12_ends 77 = .ok (.getfield 256, 3) := by decide +kernel
theorem dX12_ends_80 : decode cX12_ends 80 = .ok (.istore_n 2, 1) := by decide +kernel
theorem dX12_ends_81 : decode cX12_ends 81 = .ok (.aload_n 0, 1) := by decide +kernel
theorem dX12_ends_82 : decode cX12_ends 82 = .ok (.iconst 0, 1) := by decide +kernel
theorem dX12_ends_83 : decode cX12_ends 83 = .ok (.putfield 353, 3) := by decide +kernel
theorem dX12_ends_86 : decode cX12_ends 86 = .ok (.aload_n 0, 1) := by decide +kernel
theorem dX12_ends_87 : decode cX12_ends 87 = .ok (.dup, 1) := by decide +kernel
theorem dX12_ends_88 : decode cX12_ends 88 = .ok (.getfield 256, 3) := by decide +kernel
theorem dX12_ends_91 : decode cX12_ends 91 = .ok (.iconst 1, 1) := by decide +kernel
theorem dX12_ends_92 : decode cX12_ends 92 = .ok (.iadd, 1) := by decide +kernel
theorem dX12_ends_93 : decode cX12_ends 93 = .ok (.putfield 256, 3) := by decide +kernel
theorem dX12_ends_96 : decode cX12_ends 96 = .ok (.aload_n 0, 1) := by decide +kernel
theorem dX12_ends_97 : decode cX12_ends 97 = .ok (.getfield 78, 3) := by decide +kernel
theorem dX12_ends_100 : decode cX12_ends 100 = .ok (.iload_n 2, 1) := by decide +kernel
theorem dX12_ends_101 : decode cX12_ends 101 = .ok (.iconst 1, 1) := by decide +kernel
theorem dX12_ends_102 : decode cX12_ends 102 = .ok (.bastore, 1) := by decide +kernel
theorem dX12_ends_103 : decode cX12_ends 103 = .ok (.aload_n 0, 1) := by decide +kernel
theorem dX12_ends_104 : decode cX12_ends 104 = .ok (.getfield 82, 3) := by decide +kernel
theorem dX12_ends_107 : decode cX12_ends 107 = .ok (.iload_n 2, 1) := by decide +kernel
theorem dX12_ends_108 : decode cX12_ends 108 = .ok (.aload_n 0, 1) := by decide +kernel
theorem dX12_ends_109 : decode cX12_ends 109 = .ok (.getfield 328, 3) := by decide +kernel
theorem dX12_ends_112 : decode cX12_ends 112 = .ok (.iastore, 1) := by decide +kernel
theorem dX12_ends_113 : decode cX12_ends 113 = .ok (.aload_n 0, 1) := by decide +kernel
theorem dX12_ends_114 : decode cX12_ends 114 = .ok (.getfield 88, 3) := by decide +kernel
theorem dX12_ends_117 : decode cX12_ends 117 = .ok (.iload_n 2, 1) := by decide +kernel
theorem dX12_ends_118 : decode cX12_ends 118 = .ok (.aload_n 0, 1) := by decide +kernel
theorem dX12_ends_119 : decode cX12_ends 119 = .ok (.getfield 325, 3) := by decide +kernel
theorem dX12_ends_122 : decode cX12_ends 122 = .ok (.iastore, 1) := by decide +kernel
theorem dX12_ends_123 : decode cX12_ends 123 = .ok (.aload_n 0, 1) := by decide +kernel
theorem dX12_ends_124 : decode cX12_ends 124 = .ok (.getfield 91, 3) := by decide +kernel
theorem dX12_ends_127 : decode cX12_ends 127 = .ok (.iload_n 2, 1) := by decide +kernel
theorem dX12_ends_128 : decode cX12_ends 128 = .ok (.aload_n 0, 1) := by decide +kernel
theorem dX12_ends_129 : decode cX12_ends 129 = .ok (.getfield 357, 3) := by decide +kernel
theorem dX12_ends_132 : decode cX12_ends 132 = .ok (.iconst (-1), 1) := by decide +kernel
theorem dX12_ends_133 : decode cX12_ends 133 = .ok (.if_icmp .ne 7, 3) := by decide +kernel
theorem dX12_ends_136 : decode cX12_ends 136 = .ok (.iload_n 2, 1) := by decide +kernel
theorem dX12_ends_137 : decode cX12_ends 137 = .ok (.goto 7, 3) := by decide +kernel
theorem dX12_ends_140 : decode cX12_ends 140 = .ok (.aload_n 0, 1) := by decide +kernel
theorem dX12_ends_141 : decode cX12_ends 141 = .ok (.getfield 357, 3) := by decide +kernel
theorem dX12_ends_144 : decode cX12_ends 144 = .ok (.iastore, 1) := by decide +kernel
theorem dX12_ends_145 : decode cX12_ends 145 = .ok (.aload_n 0, 1) := by decide +kernel
theorem dX12_ends_146 : decode cX12_ends 146 = .ok (.getfield 94, 3) := by decide +kernel
theorem dX12_ends_149 : decode cX12_ends 149 = .ok (.iload_n 2, 1) := by decide +kernel
theorem dX12_ends_150 : decode cX12_ends 150 = .ok (.aload_n 0, 1) := by decide +kernel
theorem dX12_ends_151 : decode cX12_ends 151 = .ok (.getfield 363, 3) := by decide +kernel
theorem dX12_ends_154 : decode cX12_ends 154 = .ok (.iastore, 1) := by decide +kernel
theorem dX12_ends_155 : decode cX12_ends 155 = .ok (.iconst 0, 1) := by decide +kernel
theorem dX12_ends_156 : decode cX12_ends 156 = .ok (.istore_n 3, 1) := by decide +kernel
theorem dX12_ends_157 : decode cX12_ends 157 = .ok (.iload_n 3, 1) := by decide +kernel
theorem dX12_ends_158 : decode cX12_ends 158 = .ok (.aload_n 0, 1) := by decide +kernel
theorem dX12_ends_159 : decode cX12_ends 159 = .ok (.getfield 328, 3) := by decide +kernel
theorem dX12_ends_162 : decode cX12_ends 162 = .ok (.if_icmp .ge 26, 3) := by decide +kernel
theorem dX12_ends_165 : decode cX12_ends 165 = .ok (.aload_n 0, 1) := by decide +kernel
theorem dX12_ends_166 : decode cX12_ends 166 = .ok (.getfield 85, 3) := by decide +kernel
theorem dX12_ends_169 : decode cX12_ends 169 = .ok (.bipush 30, 2) := by decide +kernel
theorem dX12_ends_171 : decode cX12_ends 171 = .ok (.iload_n 2, 1) := by decide +kernel
theorem dX12_ends_172 : decode cX12_ends 172 = .ok (.imul, 1) := by decide +kernel
theorem dX12_ends_173 : decode cX12_ends 173 = .ok (.iload_n 3, 1) := by decide +kernel
theorem dX12_ends_174 : decode cX12_ends 174 = .ok (.iadd, 1) := by decide +kernel
theorem dX12_ends_175 : decode cX12_ends 175 = .ok (.aload_n 0, 1) := by decide +kernel
theorem dX12_ends_176 : decode cX12_ends 176 = .ok (.getfield 175, 3) := by decide +kernel
theorem dX12_ends_179 : decode cX12_ends 179 = .ok (.iload_n 3, 1) := by decide +kernel
theorem dX12_ends_180 : decode cX12_ends 180 = .ok (.iaload, 1) := by decide +kernel
theorem dX12_ends_181 : decode cX12_ends 181 = .ok (.iastore, 1) := by decide +kernel
theorem dX12_ends_182 : decode cX12_ends 182 = .ok (.iinc 3 1, 3) := by decide +kernel
theorem dX12_ends_185 : decode cX12_ends 185 = .ok (.goto (-28), 3) := by decide +kernel
theorem dX12_ends_188 : decode cX12_ends 188 = .ok (.iconst 0, 1) := by decide +kernel
theorem dX12_ends_189 : decode cX12_ends 189 = .ok (.istore_n 3, 1) := by decide +kernel
theorem dX12_ends_190 : decode cX12_ends 190 = .ok (.iload_n 3, 1) := by decide +kernel
theorem dX12_ends_191 : decode cX12_ends 191 = .ok (.aload_n 0, 1) := by decide +kernel
theorem dX12_ends_192 : decode cX12_ends 192 = .ok (.getfield 325, 3) := by decide +kernel
theorem dX12_ends_195 : decode cX12_ends 195 = .ok (.if_icmp .ge 77, 3) := by decide +kernel
theorem dX12_ends_198 : decode cX12_ends 198 = .ok (.bipush 120, 2) := by decide +kernel
theorem dX12_ends_200 : decode cX12_ends 200 = .ok (.iload_n 2, 1) := by decide +kernel
theorem dX12_ends_201 : decode cX12_ends 201 = .ok (.imul, 1) := by decide +kernel
theorem dX12_ends_202 : decode cX12_ends 202 = .ok (.iload_n 3, 1) := by decide +kernel
theorem dX12_ends_203 : decode cX12_ends 203 = .ok (.iadd, 1) := by decide +kernel
theorem dX12_ends_204 : decode cX12_ends 204 = .ok (.istore 4, 2) := by decide +kernel
theorem dX12_ends_206 : decode cX12_ends 206 = .ok (.aload_n 0, 1) := by decide +kernel
theorem dX12_ends_207 : decode cX12_ends 207 = .ok (.getfield 103, 3) := by decide +kernel
theorem dX12_ends_210 : decode cX12_ends 210 = .ok (.iload 4, 2) := by decide +kernel
theorem dX12_ends_212 : decode cX12_ends 212 = .ok (.aload_n 0, 1) := by decide +kernel
theorem dX12_ends_213 : decode cX12_ends 213 = .ok (.getfield 178, 3) := by decide +kernel
theorem dX12_ends_216 : decode cX12_ends 216 = .ok (.iload_n 3, 1) := by decide +kernel
theorem dX12_ends_217 : decode cX12_ends 217 = .ok (.caload, 1) := by decide +kernel
theorem dX12_ends_218 : decode cX12_ends 218 = .ok (.castore, 1) := by decide +kernel
theorem dX12_ends_219 : decode cX12_ends 219 = .ok (.aload_n 0, 1) := by decide +kernel
theorem dX12_ends_220 : decode cX12_ends 220 = .ok (.getfield 106, 3) := by decide +kernel
theorem dX12_ends_223 : decode cX12_ends 223 = .ok (.iload 4, 2) := by decide +kernel
theorem dX12_ends_225 : decode cX12_ends 225 = .ok (.aload_n 0, 1) := by decide +kernel
theorem dX12_ends_226 : decode cX12_ends 226 = .ok (.getfield 181, 3) := by decide +kernel
theorem dX12_ends_229 : decode cX12_ends 229 = .ok (.iload_n 3, 1) := by decide +kernel
theorem dX12_ends_230 : decode cX12_ends 230 = .ok (.iaload, 1) := by decide +kernel
theorem dX12_ends_231 : decode cX12_ends 231 = .ok (.iastore, 1) := by decide +kernel
theorem dX12_ends_232 : decode cX12_ends 232 = .ok (.aload_n 0, 1) := by decide +kernel
theorem dX12_ends_233 : decode cX12_ends 233 = .ok (.getfield 109, 3) := by decide +kernel
theorem dX12_ends_236 : decode cX12_ends 236 = .ok (.iload 4, 2) := by decide +kernel
theorem dX12_ends_238 : decode cX12_ends 238 = .ok (.aload_n 0, 1) := by decide +kernel
theorem dX12_ends_239 : decode cX12_ends 239 = .ok (.getfield 184, 3) := by decide +kernel
theorem dX12_ends_242 : decode cX12_ends 242 = .ok (.iload_n 3, 1) := by decide +kernel
theorem dX12_ends_243 : decode cX12_ends 243 = .ok (.iaload, 1) := by decide +kernel
theorem dX12_ends_244 : decode cX12_ends 244 = .ok (.iastore, 1) := by decide +kernel
theorem dX12_ends_245 : decode cX12_ends 245 = .ok (.aload_n 0, 1) := by decide +kernel
theorem dX12_ends_246 : decode cX12_ends 246 = .ok (.getfield 112, 3) := by decide +kernel
theorem dX12_ends_249 : decode cX12_ends 249 = .ok (.iload 4, 2) := by decide +kernel
theorem dX12_ends_251 : decode cX12_ends 251 = .ok (.aload_n 0, 1) := by decide +kernel
theorem dX12_ends_252 : decode cX12_ends 252 = .ok (.getfield 187, 3) := by decide +kernel
theorem dX12_ends_255 : decode cX12_ends 255 = .ok (.iload_n 3, 1) := by decide +kernel
theorem dX12_ends_256 : decode cX12_ends 256 = .ok (.iaload, 1) := by decide +kernel
theorem dX12_ends_257 : decode cX12_ends 257 = .ok (.iastore, 1) := by decide +kernel
theorem dX12_ends_258 : decode cX12_ends 258 = .ok (.aload_n 0, 1) := by decide +kernel
theorem dX12_ends_259 : decode cX12_ends 259 = .ok (.getfield 124, 3) := by decide +kernel
theorem dX12_ends_262 : decode cX12_ends 262 = .ok (.iload 4, 2) := by decide +kernel
theorem dX12_ends_264 : decode cX12_ends 264 = .ok (.iconst (-1), 1) := by decide +kernel
theorem dX12_ends_265 : decode cX12_ends 265 = .ok (.iastore, 1) := by decide +kernel
theorem dX12_ends_266 : decode cX12_ends 266 = .ok (.iinc 3 1, 3) := by decide +kernel
theorem dX12_ends_269 : decode cX12_ends 269 = .ok (.goto (-79), 3) := by decide +kernel
theorem dX12_ends_272 : decode cX12_ends 272 = .ok (.aload_n 0, 1) := by decide +kernel
theorem dX12_ends_273 : decode cX12_ends 273 = .ok (.getfield 360, 3) := by decide +kernel
theorem dX12_ends_276 : decode cX12_ends 276 = .ok (.iconst (-1), 1) := by decide +kernel
theorem dX12_ends_277 : decode cX12_ends 277 = .ok (.if_icmp .eq 13, 3) := by decide +kernel
theorem dX12_ends_280 : decode cX12_ends 280 = .ok (.aload_n 0, 1) := by decide +kernel
theorem dX12_ends_281 : decode cX12_ends 281 = .ok (.getfield 124, 3) := by decide +kernel
theorem dX12_ends_284 : decode cX12_ends 284 = .ok (.aload_n 0, 1) := by decide +kernel
theorem dX12_ends_285 : decode cX12_ends 285 = .ok (.getfield 360, 3) := by decide +kernel
theorem dX12_ends_288 : decode cX12_ends 288 = .ok (.iload_n 2, 1) := by decide +kernel
theorem dX12_ends_289 : decode cX12_ends 289 = .ok (.iastore, 1) := by decide +kernel
theorem dX12_ends_290 : decode cX12_ends 290 = .ok (.aload_n 0, 1) := by decide +kernel
theorem dX12_ends_291 : decode cX12_ends 291 = .ok (.aload_n 0, 1) := by decide +kernel
theorem dX12_ends_292 : decode cX12_ends 292 = .ok (.getfield 91, 3) := by decide +kernel
theorem dX12_ends_295 : decode cX12_ends 295 = .ok (.iload_n 2, 1) := by decide +kernel
theorem dX12_ends_296 : decode cX12_ends 296 = .ok (.iaload, 1) := by decide +kernel
theorem dX12_ends_297 : decode cX12_ends 297 = .ok (.invokevirtual 372, 3) := by decide +kernel
theorem dX12_ends_300 : decode cX12_ends 300 = .ok (.return_, 1) := by decide +kernel
theorem dX12_takes_0 : decode cX12_takes 0 = .ok (.iload_n 1, 1) := by decide +kernel
theorem dX12_takes_1 : decode cX12_takes 1 = .ok (.invokestatic 219, 3) := by decide +kernel
theorem dX12_takes_4 : decode cX12_takes 4 = .ok (.ifCond .ne 9, 3) := by decide +kernel
theorem dX12_takes_7 : decode cX12_takes 7 = .ok (.iload_n 1, 1) := by decide +kernel
theorem dX12_takes_8 : decode cX12_takes 8 = .ok (.bipush 112, 2) := by decide +kernel
theorem dX12_takes_10 : decode cX12_takes 10 = .ok (.if_icmp .ne 5, 3) := by decide +kernel
theorem dX12_takes_13 : decode cX12_takes 13 = .ok (.iconst 2, 1) := by decide +kernel
theorem dX12_takes_14 : decode cX12_takes 14 = .ok (.ireturn, 1) := by decide +kernel
theorem dX12_takes_15 : decode cX12_takes 15 = .ok (.iload_n 1, 1) := by decide +kernel
theorem dX12_takes_16 : decode cX12_takes 16 = .ok (.bipush 99, 2) := by decide +kernel
theorem dX12_takes_18 : decode cX12_takes 18 = .ok (.if_icmp .ne 10, 3) := by decide +kernel
theorem dX12_takes_21 : decode cX12_takes 21 = .ok (.aload_n 0, 1) := by decide +kernel
theorem dX12_takes_22 : decode cX12_takes 22 = .ok (.getfield 7, 3) := by decide +kernel
theorem dX12_takes_25 : decode cX12_takes 25 = .ok (.iload_n 2, 1) := by decide +kernel
theorem dX12_takes_26 : decode cX12_takes 26 = .ok (.iaload, 1) := by decide +kernel
theorem dX12_takes_27 : decode cX12_takes 27 = .ok (.ireturn, 1) := by decide +kernel
theorem dX12_takes_28 : decode cX12_takes 28 = .ok (.iload_n 1, 1) := by decide +kernel
theorem dX12_takes_29 : decode cX12_takes 29 = .ok (.bipush 115, 2) := by decide +kernel
theorem dX12_takes_31 : decode cX12_takes 31 = .ok (.if_icmp .eq 51, 3) := by decide +kernel
theorem dX12_takes_34 : decode cX12_takes 34 = .ok (.iload_n 1, 1) := by decide +kernel
theorem dX12_takes_35 : decode cX12_takes 35 = .ok (.bipush 117, 2) := by decide +kernel
theorem dX12_takes_37 : decode cX12_takes 37 = .ok (.if_icmp .eq 45, 3) := by decide +kernel
theorem dX12_takes_40 : decode cX12_takes 40 = .ok (.iload_n 1, 1) := by decide +kernel
theorem dX12_takes_41 : decode cX12_takes 41 = .ok (.bipush 100, 2) := by decide +kernel
theorem dX12_takes_43 : decode cX12_takes 43 = .ok (.if_icmp .eq 39, 3) := by decide +kernel
theorem dX12_takes_46 : decode cX12_takes 46 = .ok (.iload_n 1, 1) := by decide +kernel
theorem dX12_takes_47 : decode cX12_takes 47 = .ok (.bipush 119, 2) := by decide +kernel
theorem dX12_takes_49 : decode cX12_takes 49 = .ok (.if_icmp .eq 33, 3) := by decide +kernel
theorem dX12_takes_52 : decode cX12_takes 52 = .ok (.iload_n 1, 1) := by decide +kernel
theorem dX12_takes_53 : decode cX12_takes 53 = .ok (.bipush 122, 2) := by decide +kernel
theorem dX12_takes_55 : decode cX12_takes 55 = .ok (.if_icmp .eq 27, 3) := by decide +kernel
theorem dX12_takes_58 : decode cX12_takes 58 = .ok (.iload_n 1, 1) := by decide +kernel
theorem dX12_takes_59 : decode cX12_takes 59 = .ok (.bipush 103, 2) := by decide +kernel
theorem dX12_takes_61 : decode cX12_takes 61 = .ok (.if_icmp .eq 21, 3) := by decide +kernel
theorem dX12_takes_64 : decode cX12_takes 64 = .ok (.iload_n 1, 1) := by decide +kernel
theorem dX12_takes_65 : decode cX12_takes 65 = .ok (.bipush 109, 2) := by decide +kernel
theorem dX12_takes_67 : decode cX12_takes 67 = .ok (.if_icmp .eq 15, 3) := by decide +kernel
theorem dX12_takes_70 : decode cX12_takes 70 = .ok (.iload_n 1, 1) := by decide +kernel
theorem dX12_takes_71 : decode cX12_takes 71 = .ok (.bipush 114, 2) := by decide +kernel
theorem dX12_takes_73 : decode cX12_takes 73 = .ok (.if_icmp .eq 9, 3) := by decide +kernel
theorem dX12_takes_76 : decode cX12_takes 76 = .ok (.iload_n 1, 1) := by decide +kernel
theorem dX12_takes_77 : decode cX12_takes 77 = .ok (.bipush 116, 2) := by decide +kernel
theorem dX12_takes_79 : decode cX12_takes 79 = .ok (.if_icmp .ne 7, 3) := by decide +kernel
theorem dX12_takes_82 : decode cX12_takes 82 = .ok (.iconst 1, 1) := by decide +kernel
theorem dX12_takes_83 : decode cX12_takes 83 = .ok (.goto 4, 3) := by decide +kernel
theorem dX12_takes_86 : decode cX12_takes 86 = .ok (.iconst 0, 1) := by decide +kernel
theorem dX12_takes_87 : decode cX12_takes 87 = .ok (.istore_n 3, 1) := by decide +kernel
theorem dX12_takes_88 : decode cX12_takes 88 = .ok (.iload_n 3, 1) := by decide +kernel
theorem dX12_takes_89 : decode cX12_takes 89 = .ok (.ifCond .eq 7, 3) := by decide +kernel
theorem dX12_takes_92 : decode cX12_takes 92 = .ok (.iconst 1, 1) := by decide +kernel
theorem dX12_takes_93 : decode cX12_takes 93 = .ok (.goto 4, 3) := by decide +kernel
theorem dX12_takes_96 : decode cX12_takes 96 = .ok (.iconst 0, 1) := by decide +kernel
theorem dX12_takes_97 : decode cX12_takes 97 = .ok (.ireturn, 1) := by decide +kernel
theorem dX12_hasNoRoom_0 : decode cX12_hasNoRoom 0 = .ok (.iload_n 1, 1) := by decide +kernel
theorem dX12_hasNoRoom_1 : decode cX12_hasNoRoom 1 = .ok (.bipush 114, 2) := by decide +kernel
theorem dX12_hasNoRoom_3 : decode cX12_hasNoRoom 3 = .ok (.if_icmp .ne 32, 3) := by decide +kernel
theorem dX12_hasNoRoom_6 : decode cX12_hasNoRoom 6 = .ok (.aload_n 0, 1) := by decide +kernel
theorem dX12_hasNoRoom_7 : decode cX12_hasNoRoom 7 = .ok (.getfield 262, 3) := by decide +kernel
theorem dX12_hasNoRoom_10 : decode cX12_hasNoRoom 10 = .ok (.ifCond .le 23, 3) := by decide +kernel
theorem dX12_hasNoRoom_13 : decode cX12_hasNoRoom 13 = .ok (.aload_n 0, 1) := by decide +kernel
theorem dX12_hasNoRoom_14 : decode cX12_hasNoRoom 14 = .ok (.getfield 146, 3) := by decide +kernel
theorem dX12_hasNoRoom_17 : decode cX12_hasNoRoom 17 = .ok (.aload_n 0, 1) := by decide +kernel
theorem dX12_hasNoRoom_18 : decode cX12_hasNoRoom 18 = .ok (.getfield 262, 3) := by decide +kernel
theorem dX12_hasNoRoom_21 : decode cX12_hasNoRoom 21 = .ok (.iconst 1, 1) := by decide +kernel
theorem dX12_hasNoRoom_22 : decode cX12_hasNoRoom 22 = .ok (.isub, 1) := by decide +kernel
theorem dX12_hasNoRoom_23 : decode cX12_hasNoRoom 23 = .ok (.iaload, 1) := by decide +kernel
theorem dX12_hasNoRoom_24 : decode cX12_hasNoRoom 24 = .ok (.bipush 8, 2) := by decide +kernel
theorem dX12_hasNoRoom_26 : decode cX12_hasNoRoom 26 = .ok (.if_icmp .ne 7, 3) := by decide +kernel
theorem dX12_hasNoRoom_29 : decode cX12_hasNoRoom 29 = .ok (.iconst 1, 1) := by decide +kernel
theorem dX12_hasNoRoom_30 : decode cX12_hasNoRoom 30 = .ok (.goto 4, 3) := by decide +kernel
theorem dX12_hasNoRoom_33 : decode cX12_hasNoRoom 33 = .ok (.iconst 0, 1) := by decide +kernel
theorem dX12_hasNoRoom_34 : decode cX12_hasNoRoom 34 = .ok (.ireturn, 1) := by decide +kernel
theorem dX12_hasNoRoom_35 : decode cX12_hasNoRoom 35 = .ok (.iload_n 1, 1) := by decide +kernel
theorem dX12_hasNoRoom_36 : decode cX12_hasNoRoom 36 = .ok (.bipush 105, 2) := by decide +kernel
theorem dX12_hasNoRoom_38 : decode cX12_hasNoRoom 38 = .ok (.if_icmp .eq 27, 3) := by decide +kernel
theorem dX12_hasNoRoom_41 : decode cX12_hasNoRoom 41 = .ok (.iload_n 1, 1) := by decide +kernel
theorem dX12_hasNoRoom_42 : decode cX12_hasNoRoom 42 = .ok (.bipush 107, 2) := by decide +kernel
theorem dX12_hasNoRoom_44 : decode cX12_hasNoRoom 44 = .ok (.if_icmp .eq 21, 3) := by decide +kernel
theorem dX12_hasNoRoom_47 : decode cX12_hasNoRoom 47 = .ok (.iload_n 1, 1) := by decide +kernel
theorem dX12_hasNoRoom_48 : decode cX12_hasNoRoom 48 = .ok (.bipush 108, 2) := by decide +kernel
theorem dX12_hasNoRoom_50 : decode cX12_hasNoRoom 50 = .ok (.if_icmp .eq 15, 3) := by decide +kernel
theorem dX12_hasNoRoom_53 : decode cX12_hasNoRoom 53 = .ok (.iload_n 1, 1) := by decide +kernel
theorem dX12_hasNoRoom_54 : decode cX12_hasNoRoom 54 = .ok (.bipush 117, 2) := by decide +kernel
theorem dX12_hasNoRoom_56 : decode cX12_hasNoRoom 56 = .ok (.if_icmp .eq 9, 3) := by decide +kernel
theorem dX12_hasNoRoom_59 : decode cX12_hasNoRoom 59 = .ok (.iload_n 1, 1) := by decide +kernel
theorem dX12_hasNoRoom_60 : decode cX12_hasNoRoom 60 = .ok (.bipush 110, 2) := by decide +kernel
theorem dX12_hasNoRoom_62 : decode cX12_hasNoRoom 62 = .ok (.if_icmp .ne 7, 3) := by decide +kernel
theorem dX12_hasNoRoom_65 : decode cX12_hasNoRoom 65 = .ok (.iconst 1, 1) := by decide +kernel
theorem dX12_hasNoRoom_66 : decode cX12_hasNoRoom 66 = .ok (.goto 4, 3) := by decide +kernel
theorem dX12_hasNoRoom_69 : decode cX12_hasNoRoom 69 = .ok (.iconst 0, 1) := by decide +kernel
theorem dX12_hasNoRoom_70 : decode cX12_hasNoRoom 70 = .ok (.istore_n 2, 1) := by decide +kernel
theorem dX12_hasNoRoom_71 : decode cX12_hasNoRoom 71 = .ok (.iload_n 2, 1) := by decide +kernel
theorem dX12_hasNoRoom_72 : decode cX12_hasNoRoom 72 = .ok (.ifCond .eq 21, 3) := by decide +kernel
theorem dX12_hasNoRoom_75 : decode cX12_hasNoRoom 75 = .ok (.aload_n 0, 1) := by decide +kernel
theorem dX12_hasNoRoom_76 : decode cX12_hasNoRoom 76 = .ok (.getfield 146, 3) := by decide +kernel
theorem dX12_hasNoRoom_79 : decode cX12_hasNoRoom 79 = .ok (.aload_n 0, 1) := by decide +kernel
theorem dX12_hasNoRoom_80 : decode cX12_hasNoRoom 80 = .ok (.getfield 262, 3) := by decide +kernel
theorem dX12_hasNoRoom_83 : decode cX12_hasNoRoom 83 = .ok (.iaload, 1) := by decide +kernel
theorem dX12_hasNoRoom_84 : decode cX12_hasNoRoom 84 = .ok (.bipush 8, 2) := by decide +kernel
theorem dX12_hasNoRoom_86 : decode cX12_hasNoRoom 86 = .ok (.if_icmp .ne 7, 3) := by decide +kernel
theorem dX12_hasNoRoom_89 : decode cX12_hasNoRoom 89 = .ok (.iconst 1, 1) := by decide +kernel
theorem dX12_hasNoRoom_90 : decode cX12_hasNoRoom 90 = .ok (.goto 4, 3) := by decide +kernel
theorem dX12_hasNoRoom_93 : decode cX12_hasNoRoom 93 = .ok (.iconst 0, 1) := by decide +kernel
theorem dX12_hasNoRoom_94 : decode cX12_hasNoRoom 94 = .ok (.ireturn, 1) := by decide +kernel
theorem dX12_rounded_0 : decode cX12_rounded 0 = .ok (.dload_n 0, 1) := by decide +kernel
theorem dX12_rounded_1 : decode cX12_rounded 1 = .ok (.invokestatic 375, 3) := by decide +kernel
theorem dX12_rounded_4 : decode cX12_rounded 4 = .ok (.dreturn, 1) := by decide +kernel
theorem dX12_why_0 : decode cX12_why 0 = .ok (.aload_n 0, 1) := by decide +kernel
theorem dX12_why_1 : decode cX12_why 1 = .ok (.getfield 140, 3) := by decide +kernel
theorem dX12_why_4 : decode cX12_why 4 = .ok (.aload_n 0, 1) := by decide +kernel
theorem dX12_why_5 : decode cX12_why 5 = .ok (.getfield 262, 3) := by decide +kernel
theorem dX12_why_8 : decode cX12_why 8 = .ok (.iaload, 1) := by decide +kernel
theorem dX12_why_9 : decode cX12_why 9 = .ok (.istore_n 1, 1) := by decide +kernel
theorem dX12_why_10 : decode cX12_why 10 = .ok (.aload_n 0, 1) := by decide +kernel
theorem dX12_why_11 : decode cX12_why 11 = .ok (.getfield 143, 3) := by decide +kernel
theorem dX12_why_14 : decode cX12_why 14 = .ok (.aload_n 0, 1) := by decide +kernel
theorem dX12_why_15 : decode cX12_why 15 = .ok (.getfield 262, 3) := by decide +kernel
theorem dX12_why_18 : decode cX12_why 18 = .ok (.iaload, 1) := by decide +kernel
theorem dX12_why_19 : decode cX12_why 19 = .ok (.istore_n 2, 1) := by decide +kernel
theorem dX12_why_20 : decode cX12_why 20 = .ok (.iload_n 2, 1) := by decide +kernel
theorem dX12_why_21 : decode cX12_why 21 = .ok (.aload_n 0, 1) := by decide +kernel
theorem dX12_why_22 : decode cX12_why 22 = .ok (.getfield 13, 3) := by decide +kernel
theorem dX12_why_25 : decode cX12_why 25 = .ok (.iload_n 1, 1) := by decide +kernel
theorem dX12_why_26 : decode cX12_why 26 = .ok (.iaload, 1) := by decide +kernel
theorem dX12_why_27 : decode cX12_why 27 = .ok (.if_icmp .lt 6, 3) := by decide +kernel
theorem dX12_why_30 : decode cX12_why 30 = .ok (.bipush 101, 2) := by decide +kernel
theorem dX12_why_32 : decode cX12_why 32 = .ok (.ireturn, 1) := by decide +kernel
theorem dX12_why_33 : decode cX12_why 33 = .ok (.aload_n 0, 1) := by decide +kernel
theorem dX12_why_34 : decode cX12_why 34 = .ok (.getfield 16, 3) := by decide +kernel
theorem dX12_why_37 : decode cX12_why 37 = .ok (.bipush 40, 2) := by decide +kernel
theorem dX12_why_39 : decode cX12_why 39 = .ok (.iload_n 1, 1) := by decide +kernel
theorem dX12_why_40 : decode cX12_why 40 = .ok (.imul, 1) := by decide +kernel
theorem dX12_why_41 : decode cX12_why 41 = .ok (.iload_n 2, 1) := by decide +kernel
theorem dX12_why_42 : decode cX12_why 42 = .ok (.iadd, 1) := by decide +kernel
theorem dX12_why_43 : decode cX12_why 43 = .ok (.caload, 1) := by decide +kernel
theorem dX12_why_44 : decode cX12_why 44 = .ok (.istore_n 3, 1) := by decide +kernel
theorem dX12_why_45 : decode cX12_why 45 = .ok (.aload_n 0, 1) := by decide +kernel
theorem dX12_why_46 : decode cX12_why 46 = .ok (.getfield 20, 3) := by decide +kernel
theorem dX12_why_49 : decode cX12_why 49 = .ok (.bipush 40, 2) := by decide +kernel
theorem dX12_why_51 : decode cX12_why 51 = .ok (.iload_n 1, 1) := by decide +kernel
theorem dX12_why_52 : decode cX12_why 52 = .ok (.imul, 1) := by decide +kernel
theorem dX12_why_53 : decode cX12_why 53 = .ok (.iload_n 2, 1) := by decide +kernel
theorem dX12_why_54 : decode cX12_why 54 = .ok (.iadd, 1) := by decide +kernel
theorem dX12_why_55 : decode cX12_why 55 = .ok (.iaload, 1) := by decide +kernel
theorem dX12_why_56 : decode cX12_why 56 = .ok (.istore 4, 2) := by decide +kernel
theorem dX12_why_58 : decode cX12_why 58 = .ok (.aload_n 0, 1) := by decide +kernel
theorem dX12_why_59 : decode cX12_why 59 = .ok (.getfield 146, 3) := by decide +kernel
theorem dX12_why_62 : decode cX12_why 62 = .ok (.aload_n 0, 1) := by decide +kernel
theorem dX12_why_63 : decode cX12_why 63 = .ok (.getfield 262, 3) := by decide +kernel
theorem dX12_why_66 : decode cX12_why 66 = .ok (.iaload, 1) := by decide +kernel
theorem dX12_why_67 : decode cX12_why 67 = .ok (.aload_n 0, 1) := by decide +kernel
theorem dX12_why_68 : decode cX12_why 68 = .ok (.iload_n 3, 1) := by decide +kernel
theorem dX12_why_69 : decode cX12_why 69 = .ok (.iload 4, 2) := by decide +kernel
theorem dX12_why_71 : decode cX12_why 71 = .ok (.invokevirtual 381, 3) := by decide +kernel
theorem dX12_why_74 : decode cX12_why 74 = .ok (.if_icmp .lt 11, 3) := by decide +kernel
theorem dX12_why_77 : decode cX12_why 77 = .ok (.aload_n 0, 1) := by decide +kernel
theorem dX12_why_78 : decode cX12_why 78 = .ok (.iload_n 3, 1) := by decide +kernel
theorem dX12_why_79 : decode cX12_why 79 = .ok (.invokevirtual 384, 3) := by decide +kernel
theorem dX12_why_82 : decode cX12_why 82 = .ok (.ifCond .eq 6, 3) := by decide +kernel
theorem dX12_why_85 : decode cX12_why 85 = .ok (.bipush 115, 2) := by decide +kernel
theorem dX12_why_87 : decode cX12_why 87 = .ok (.ireturn, 1) := by decide +kernel
theorem dX12_why_88 : decode cX12_why 88 = .ok (.aload_n 0, 1) := by decide +kernel
theorem dX12_why_89 : decode cX12_why 89 = .ok (.iconst 0, 1) := by decide +kernel
theorem dX12_why_90 : decode cX12_why 90 = .ok (.invokevirtual 297, 3) := by decide +kernel
theorem dX12_why_93 : decode cX12_why 93 = .ok (.istore 5, 2) := by decide +kernel
theorem dX12_why_95 : decode cX12_why 95 = .ok (.iload_n 3, 1) := by decide +kernel
theorem dX12_why_96 : decode cX12_why 96 = .ok (.invokestatic 219, 3) := by decide +kernel
theorem dX12_why_99 : decode cX12_why 99 = .ok (.ifCond .eq 40, 3) := by decide +kernel
theorem dX12_why_102 : decode cX12_why 102 = .ok (.iload_n 3, 1) := by decide +kernel
theorem dX12_why_103 : decode cX12_why 103 = .ok (.bipush 61, 2) := by decide +kernel
theorem dX12_why_105 : decode cX12_why 105 = .ok (.if_icmp .eq 34, 3) := by decide +kernel
theorem dX12_why_108 : decode cX12_why 108 = .ok (.aload_n 0, 1) := by decide +kernel
theorem dX12_why_109 : decode cX12_why 109 = .ok (.getfield 127, 3) := by decide +kernel
theorem dX12_why_112 : decode cX12_why 112 = .ok (.iload 5, 2) := by decide +kernel
theorem dX12_why_114 : decode cX12_why 114 = .ok (.caload, 1) := by decide +kernel
theorem dX12_why_115 : decode cX12_why 115 = .ok (.invokestatic 312, 3) := by decide +kernel
theorem dX12_why_118 : decode cX12_why 118 = .ok (.ifCond .eq 18, 3) := by decide +kernel
theorem dX12_why_121 : decode cX12_why 121 = .ok (.aload_n 0, 1) := by decide +kernel
theorem dX12_why_122 : decode cX12_why 122 = .ok (.getfield 127, 3) := by decide +kernel
theorem dX12_why_125 : decode cX12_why 125 = .ok (.iload 5, 2) := by decide +kernel
theorem dX12_why_127 : decode cX12_why 127 = .ok (.iconst 1, 1) := by decide +kernel
theorem dX12_why_128 : decode cX12_why 128 = .ok (.isub, 1) := by decide +kernel
theorem dX12_why_129 : decode cX12_why 129 = .ok (.caload, 1) := by decide +kernel
theorem dX12_why_130 : decode cX12_why 130 = .ok (.invokestatic 312, 3) := by decide +kernel
theorem dX12_why_133 : decode cX12_why 133 = .ok (.ifCond .ne 6, 3) := by decide +kernel
theorem dX12_why_136 : decode cX12_why 136 = .ok (.bipush 107, 2) := by decide +kernel
theorem dX12_why_138 : decode cX12_why 138 = .ok (.ireturn, 1) := by decide +kernel
theorem dX12_why_139 : decode cX12_why 139 = .ok (.iload_n 3, 1) := by decide +kernel
theorem dX12_why_140 : decode cX12_why 140 = .ok (.bipush 119, 2) := by decide +kernel
theorem dX12_why_142 : decode cX12_why 142 = .ok (.if_icmp .ne 16, 3) := by decide +kernel
theorem dX12_why_145 : decode cX12_why 145 = .ok (.aload_n 0, 1) := by decide +kernel
theorem dX12_why_146 : decode cX12_why 146 = .ok (.getfield 127, 3) := by decide +kernel
theorem dX12_why_149 : decode cX12_why 149 = .ok (.iload 5, 2) := by decide +kernel
theorem dX12_why_151 : decode cX12_why 151 = .ok (.caload, 1) := by decide +kernel
theorem dX12_why_152 : decode cX12_why 152 = .ok (.invokestatic 312, 3) := by decide +kernel
theorem dX12_why_155 : decode cX12_why 155 = .ok (.ifCond .eq 47, 3) := by decide +kernel
theorem dX12_why_158 : decode cX12_why 158 = .ok (.iload_n 3, 1) := by decide +kernel
theorem dX12_why_159 : decode cX12_why 159 = .ok (.bipush 103, 2) := by decide +kernel
theorem dX12_why_161 : decode cX12_why 161 = .ok (.if_icmp .eq 9, 3) := by decide +kernel
theorem dX12_why_164 : decode cX12_why 164 = .ok (.iload_n 3, 1) := by decide +kernel
theorem dX12_why_165 : decode cX12_why 165 = .ok (.bipush 109, 2) := by decide +kernel
theorem dX12_why_167 : decode cX12_why 167 = .ok (.if_icmp .ne 15, 3) := by decide +kernel
theorem dX12_why_170 : decode cX12_why 170 = .ok (.aload_n 0, 1) := by decide +kernel
theorem dX12_why_171 : decode cX12_why 171 = .ok (.getfield 127, 3) := by decide +kernel
theorem dX12_why_174 : decode cX12_why 174 = .ok (.iload 5, 2) := by decide +kernel
theorem dX12_why_176 : decode cX12_why 176 = .ok (.caload, 1) := by decide +kernel
theorem dX12_why_177 : decode cX12_why 177 = .ok (.bipush 111, 2) := by decide +kernel
theorem dX12_why_179 : decode cX12_why 179 = .ok (.if_icmp .ne 23, 3) := by decide +kernel
theorem dX12_why_182 : decode cX12_why 182 = .ok (.iload_n 3, 1) := by decide +kernel
theorem dX12_why_183 : decode cX12_why 183 = .ok (.bipush 112, 2) := by decide +kernel
theorem dX12_why_185 : decode cX12_why 185 = .ok (.if_icmp .ne 20, 3) := by decide +kernel
theorem dX12_why_188 : decode cX12_why 188 = .ok (.aload_n 0, 1) := by decide +kernel
theorem dX12_why_189 : decode cX12_why 189 = .ok (.getfield 127, 3) := by decide +kernel
theorem dX12_why_192 : decode cX12_why 192 = .ok (.iload 5, 2) := by decide +kernel
theorem dX12_why_194 : decode cX12_why 194 = .ok (.iconst 1, 1) := by decide +kernel
theorem dX12_why_195 : decode cX12_why 195 = .ok (.isub, 1) := by decide +kernel
theorem dX12_why_196 : decode cX12_why 196 = .ok (.caload, 1) := by decide +kernel
theorem dX12_why_197 : decode cX12_why 197 = .ok (.bipush 111, 2) := by decide +kernel
theorem dX12_why_199 : decode cX12_why 199 = .ok (.if_icmp .eq 6, 3) := by decide +kernel
theorem dX12_why_202 : decode cX12_why 202 = .ok (.bipush 107, 2) := by decide +kernel
theorem dX12_why_204 : decode cX12_why 204 = .ok (.ireturn, 1) := by decide +kernel
theorem dX12_why_205 : decode cX12_why 205 = .ok (.iload_n 3, 1) := by decide +kernel
theorem dX12_why_206 : decode cX12_why 206 = .ok (.bipush 47, 2) := by decide +kernel
theorem dX12_why_208 : decode cX12_why 208 = .ok (.if_icmp .eq 9, 3) := by decide +kernel
theorem dX12_why_211 : decode cX12_why 211 = .ok (.iload_n 3, 1) := by decide +kernel
theorem dX12_why_212 : decode cX12_why 212 = .ok (.bipush 37, 2) := by decide +kernel
theorem dX12_why_214 : decode cX12_why 214 = .ok (.if_icmp .ne 42, 3) := by decide +kernel
theorem dX12_why_217 : decode cX12_why 217 = .ok (.aload_n 0, 1) := by decide +kernel
theorem dX12_why_218 : decode cX12_why 218 = .ok (.getfield 127, 3) := by decide +kernel
theorem dX12_why_221 : decode cX12_why 221 = .ok (.iload 5, 2) := by decide +kernel
theorem dX12_why_223 : decode cX12_why 223 = .ok (.caload, 1) := by decide +kernel
theorem dX12_why_224 : decode cX12_why 224 = .ok (.bipush 105, 2) := by decide +kernel
theorem dX12_why_226 : decode cX12_why 226 = .ok (.if_icmp .ne 30, 3) := by decide +kernel
theorem dX12_why_229 : decode cX12_why 229 = .ok (.aload_n 0, 1) := by decide +kernel
theorem dX12_why_230 : decode cX12_why 230 = .ok (.getfield 127, 3) := by decide +kernel
theorem dX12_why_233 : decode cX12_why 233 = .ok (.iload 5, 2) := by decide +kernel
theorem dX12_why_235 : decode cX12_why 235 = .ok (.iconst 1, 1) := by decide +kernel
theorem dX12_why_236 : decode cX12_why 236 = .ok (.isub, 1) := by decide +kernel
theorem dX12_why_237 : decode cX12_why 237 = .ok (.caload, 1) := by decide +kernel
theorem dX12_why_238 : decode cX12_why 238 = .ok (.bipush 105, 2) := by decide +kernel
theorem dX12_why_240 : decode cX12_why 240 = .ok (.if_icmp .ne 16, 3) := by decide +kernel
theorem dX12_why_243 : decode cX12_why 243 = .ok (.aload_n 0, 1) := by decide +kernel
theorem dX12_why_244 : decode cX12_why 244 = .ok (.getfield 130, 3) := by decide +kernel
theorem dX12_why_247 : decode cX12_why 247 = .ok (.iload 5, 2) := by decide +kernel
theorem dX12_why_249 : decode cX12_why 249 = .ok (.iaload, 1) := by decide +kernel
theorem dX12_why_250 : decode cX12_why 250 = .ok (.ifCond .ne 6, 3) := by decide +kernel
theorem dX12_why_253 : decode cX12_why 253 = .ok (.bipush 48, 2) := by decide +kernel
theorem dX12_why_255 : decode cX12_why 255 = .ok (.ireturn, 1) := by decide +kernel
theorem dX12_why_256 : decode cX12_why 256 = .ok (.iload_n 3, 1) := by decide +kernel
theorem dX12_why_257 : decode cX12_why 257 = .ok (.bipush 119, 2) := by decide +kernel
theorem dX12_why_259 : decode cX12_why 259 = .ok (.if_icmp .ne 48, 3) := by decide +kernel
theorem dX12_why_262 : decode cX12_why 262 = .ok (.aload_n 0, 1) := by decide +kernel
theorem dX12_why_263 : decode cX12_why 263 = .ok (.getfield 127, 3) := by decide +kernel
theorem dX12_why_266 : decode cX12_why 266 = .ok (.iload 5, 2) := by decide +kernel
theorem dX12_why_268 : decode cX12_why 268 = .ok (.caload, 1) := by decide +kernel
