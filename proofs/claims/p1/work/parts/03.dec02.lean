theorem dX3_answerTo_83 : decode cX3_answerTo 83 = .ok (.getfield 22, 3) := by decide +kernel
theorem dX3_answerTo_86 : decode cX3_answerTo 86 = .ok (.iload_n 3, 1) := by decide +kernel
theorem dX3_answerTo_87 : decode cX3_answerTo 87 = .ok (.invokevirtual 266, 3) := by decide +kernel
theorem dX3_answerTo_90 : decode cX3_answerTo 90 = .ok (.ifCond .eq 7, 3) := by decide +kernel
theorem dX3_answerTo_93 : decode cX3_answerTo 93 = .ok (.iconst 1, 1) := by decide +kernel
theorem dX3_answerTo_94 : decode cX3_answerTo 94 = .ok (.goto 4, 3) := by decide +kernel
theorem dX3_answerTo_97 : decode cX3_answerTo 97 = .ok (.iconst 0, 1) := by decide +kernel
theorem dX3_answerTo_98 : decode cX3_answerTo 98 = .ok (.ireturn, 1) := by decide +kernel
theorem dX3_endedLike_0 : decode cX3_endedLike 0 = .ok (.aload_n 0, 1) := by decide +kernel
theorem dX3_endedLike_1 : decode cX3_endedLike 1 = .ok (.getfield 39, 3) := by decide +kernel
theorem dX3_endedLike_4 : decode cX3_endedLike 4 = .ok (.aload_n 1, 1) := by decide +kernel
theorem dX3_endedLike_5 : decode cX3_endedLike 5 = .ok (.getfield 39, 3) := by decide +kernel
theorem dX3_endedLike_8 : decode cX3_endedLike 8 = .ok (.if_icmp .ne 82, 3) := by decide +kernel
theorem dX3_endedLike_11 : decode cX3_endedLike 11 = .ok (.aload_n 0, 1) := by decide +kernel
theorem dX3_endedLike_12 : decode cX3_endedLike 12 = .ok (.getfield 43, 3) := by decide +kernel
theorem dX3_endedLike_15 : decode cX3_endedLike 15 = .ok (.aload_n 1, 1) := by decide +kernel
theorem dX3_endedLike_16 : decode cX3_endedLike 16 = .ok (.getfield 43, 3) := by decide +kernel
theorem dX3_endedLike_19 : decode cX3_endedLike 19 = .ok (.if_icmp .ne 71, 3) := by decide +kernel
theorem dX3_endedLike_22 : decode cX3_endedLike 22 = .ok (.aload_n 0, 1) := by decide +kernel
theorem dX3_endedLike_23 : decode cX3_endedLike 23 = .ok (.getfield 59, 3) := by decide +kernel
theorem dX3_endedLike_26 : decode cX3_endedLike 26 = .ok (.aload_n 1, 1) := by decide +kernel
theorem dX3_endedLike_27 : decode cX3_endedLike 27 = .ok (.getfield 59, 3) := by decide +kernel
theorem dX3_endedLike_30 : decode cX3_endedLike 30 = .ok (.if_icmp .ne 60, 3) := by decide +kernel
theorem dX3_endedLike_33 : decode cX3_endedLike 33 = .ok (.aload_n 0, 1) := by decide +kernel
theorem dX3_endedLike_34 : decode cX3_endedLike 34 = .ok (.getfield 56, 3) := by decide +kernel
theorem dX3_endedLike_37 : decode cX3_endedLike 37 = .ok (.aload_n 1, 1) := by decide +kernel
theorem dX3_endedLike_38 : decode cX3_endedLike 38 = .ok (.getfield 56, 3) := by decide +kernel
theorem dX3_endedLike_41 : decode cX3_endedLike 41 = .ok (.if_icmp .ne 49, 3) := by decide +kernel
theorem dX3_endedLike_44 : decode cX3_endedLike 44 = .ok (.aload_n 0, 1) := by decide +kernel
theorem dX3_endedLike_45 : decode cX3_endedLike 45 = .ok (.getfield 39, 3) := by decide +kernel
theorem dX3_endedLike_48 : decode cX3_endedLike 48 = .ok (.bipush 118, 2) := by decide +kernel
theorem dX3_endedLike_50 : decode cX3_endedLike 50 = .ok (.if_icmp .ne 20, 3) := by decide +kernel
theorem dX3_endedLike_53 : decode cX3_endedLike 53 = .ok (.aload_n 0, 1) := by decide +kernel
theorem dX3_endedLike_54 : decode cX3_endedLike 54 = .ok (.getfield 22, 3) := by decide +kernel
theorem dX3_endedLike_57 : decode cX3_endedLike 57 = .ok (.sipush 548, 3) := by decide +kernel
theorem dX3_endedLike_60 : decode cX3_endedLike 60 = .ok (.aload_n 1, 1) := by decide +kernel
theorem dX3_endedLike_61 : decode cX3_endedLike 61 = .ok (.getfield 22, 3) := by decide +kernel
theorem dX3_endedLike_64 : decode cX3_endedLike 64 = .ok (.invokevirtual 273, 3) := by decide +kernel
theorem dX3_endedLike_67 : decode cX3_endedLike 67 = .ok (.ifCond .eq 23, 3) := by decide +kernel
theorem dX3_endedLike_70 : decode cX3_endedLike 70 = .ok (.aload_n 0, 1) := by decide +kernel
theorem dX3_endedLike_71 : decode cX3_endedLike 71 = .ok (.aload_n 1, 1) := by decide +kernel
theorem dX3_endedLike_72 : decode cX3_endedLike 72 = .ok (.invokevirtual 277, 3) := by decide +kernel
theorem dX3_endedLike_75 : decode cX3_endedLike 75 = .ok (.ifCond .eq 15, 3) := by decide +kernel
theorem dX3_endedLike_78 : decode cX3_endedLike 78 = .ok (.aload_n 0, 1) := by decide +kernel
theorem dX3_endedLike_79 : decode cX3_endedLike 79 = .ok (.aload_n 1, 1) := by decide +kernel
theorem dX3_endedLike_80 : decode cX3_endedLike 80 = .ok (.invokevirtual 281, 3) := by decide +kernel
theorem dX3_endedLike_83 : decode cX3_endedLike 83 = .ok (.ifCond .eq 7, 3) := by decide +kernel
theorem dX3_endedLike_86 : decode cX3_endedLike 86 = .ok (.iconst 1, 1) := by decide +kernel
theorem dX3_endedLike_87 : decode cX3_endedLike 87 = .ok (.goto 4, 3) := by decide +kernel
theorem dX3_endedLike_90 : decode cX3_endedLike 90 = .ok (.iconst 0, 1) := by decide +kernel
theorem dX3_endedLike_91 : decode cX3_endedLike 91 = .ok (.ireturn, 1) := by decide +kernel
theorem dX3_hasToldLike_0 : decode cX3_hasToldLike 0 = .ok (.aload_n 0, 1) := by decide +kernel
theorem dX3_hasToldLike_1 : decode cX3_hasToldLike 1 = .ok (.getfield 53, 3) := by decide +kernel
theorem dX3_hasToldLike_4 : decode cX3_hasToldLike 4 = .ok (.aload_n 1, 1) := by decide +kernel
theorem dX3_hasToldLike_5 : decode cX3_hasToldLike 5 = .ok (.getfield 53, 3) := by decide +kernel
theorem dX3_hasToldLike_8 : decode cX3_hasToldLike 8 = .ok (.if_icmp .ne 7, 3) := by decide +kernel
theorem dX3_hasToldLike_11 : decode cX3_hasToldLike 11 = .ok (.iconst 1, 1) := by decide +kernel
theorem dX3_hasToldLike_12 : decode cX3_hasToldLike 12 = .ok (.goto 4, 3) := by decide +kernel
theorem dX3_hasToldLike_15 : decode cX3_hasToldLike 15 = .ok (.iconst 0, 1) := by decide +kernel
theorem dX3_hasToldLike_16 : decode cX3_hasToldLike 16 = .ok (.istore_n 2, 1) := by decide +kernel
theorem dX3_hasToldLike_17 : decode cX3_hasToldLike 17 = .ok (.iconst 0, 1) := by decide +kernel
theorem dX3_hasToldLike_18 : decode cX3_hasToldLike 18 = .ok (.istore_n 3, 1) := by decide +kernel
theorem dX3_hasToldLike_19 : decode cX3_hasToldLike 19 = .ok (.iload_n 3, 1) := by decide +kernel
theorem dX3_hasToldLike_20 : decode cX3_hasToldLike 20 = .ok (.aload_n 0, 1) := by decide +kernel
theorem dX3_hasToldLike_21 : decode cX3_hasToldLike 21 = .ok (.getfield 53, 3) := by decide +kernel
theorem dX3_hasToldLike_24 : decode cX3_hasToldLike 24 = .ok (.if_icmp .ge 38, 3) := by decide +kernel
theorem dX3_hasToldLike_27 : decode cX3_hasToldLike 27 = .ok (.iload_n 2, 1) := by decide +kernel
theorem dX3_hasToldLike_28 : decode cX3_hasToldLike 28 = .ok (.ifCond .eq 26, 3) := by decide +kernel
theorem dX3_hasToldLike_31 : decode cX3_hasToldLike 31 = .ok (.aload_n 0, 1) := by decide +kernel
theorem dX3_hasToldLike_32 : decode cX3_hasToldLike 32 = .ok (.getfield 22, 3) := by decide +kernel
theorem dX3_hasToldLike_35 : decode cX3_hasToldLike 35 = .ok (.sipush 528, 3) := by decide +kernel
theorem dX3_hasToldLike_38 : decode cX3_hasToldLike 38 = .ok (.iload_n 3, 1) := by decide +kernel
theorem dX3_hasToldLike_39 : decode cX3_hasToldLike 39 = .ok (.iadd, 1) := by decide +kernel
theorem dX3_hasToldLike_40 : decode cX3_hasToldLike 40 = .ok (.aload_n 1, 1) := by decide +kernel
theorem dX3_hasToldLike_41 : decode cX3_hasToldLike 41 = .ok (.getfield 22, 3) := by decide +kernel
theorem dX3_hasToldLike_44 : decode cX3_hasToldLike 44 = .ok (.invokevirtual 273, 3) := by decide +kernel
theorem dX3_hasToldLike_47 : decode cX3_hasToldLike 47 = .ok (.ifCond .eq 7, 3) := by decide +kernel
theorem dX3_hasToldLike_50 : decode cX3_hasToldLike 50 = .ok (.iconst 1, 1) := by decide +kernel
theorem dX3_hasToldLike_51 : decode cX3_hasToldLike 51 = .ok (.goto 4, 3) := by decide +kernel
theorem dX3_hasToldLike_54 : decode cX3_hasToldLike 54 = .ok (.iconst 0, 1) := by decide +kernel
theorem dX3_hasToldLike_55 : decode cX3_hasToldLike 55 = .ok (.istore_n 2, 1) := by decide +kernel
theorem dX3_hasToldLike_56 : decode cX3_hasToldLike 56 = .ok (.iinc 3 1, 3) := by decide +kernel
theorem dX3_hasToldLike_59 : decode cX3_hasToldLike 59 = .ok (.goto (-40), 3) := by decide +kernel
theorem dX3_hasToldLike_62 : decode cX3_hasToldLike 62 = .ok (.iload_n 2, 1) := by decide +kernel
theorem dX3_hasToldLike_63 : decode cX3_hasToldLike 63 = .ok (.ireturn, 1) := by decide +kernel
theorem dX3_hasObjectsLike_0 : decode cX3_hasObjectsLike 0 = .ok (.aload_n 0, 1) := by decide +kernel
theorem dX3_hasObjectsLike_1 : decode cX3_hasObjectsLike 1 = .ok (.getfield 50, 3) := by decide +kernel
theorem dX3_hasObjectsLike_4 : decode cX3_hasObjectsLike 4 = .ok (.aload_n 1, 1) := by decide +kernel
theorem dX3_hasObjectsLike_5 : decode cX3_hasObjectsLike 5 = .ok (.getfield 50, 3) := by decide +kernel
theorem dX3_hasObjectsLike_8 : decode cX3_hasObjectsLike 8 = .ok (.if_icmp .ne 7, 3) := by decide +kernel
theorem dX3_hasObjectsLike_11 : decode cX3_hasObjectsLike 11 = .ok (.iconst 1, 1) := by decide +kernel
theorem dX3_hasObjectsLike_12 : decode cX3_hasObjectsLike 12 = .ok (.goto 4, 3) := by decide +kernel
theorem dX3_hasObjectsLike_15 : decode cX3_hasObjectsLike 15 = .ok (.iconst 0, 1) := by decide +kernel
theorem dX3_hasObjectsLike_16 : decode cX3_hasObjectsLike 16 = .ok (.istore_n 2, 1) := by decide +kernel
theorem dX3_hasObjectsLike_17 : decode cX3_hasObjectsLike 17 = .ok (.iconst 0, 1) := by decide +kernel
theorem dX3_hasObjectsLike_18 : decode cX3_hasObjectsLike 18 = .ok (.istore_n 3, 1) := by decide +kernel
theorem dX3_hasObjectsLike_19 : decode cX3_hasObjectsLike 19 = .ok (.iload_n 3, 1) := by decide +kernel
theorem dX3_hasObjectsLike_20 : decode cX3_hasObjectsLike 20 = .ok (.aload_n 0, 1) := by decide +kernel
theorem dX3_hasObjectsLike_21 : decode cX3_hasObjectsLike 21 = .ok (.getfield 50, 3) := by decide +kernel
theorem dX3_hasObjectsLike_24 : decode cX3_hasObjectsLike 24 = .ok (.if_icmp .ge 43, 3) := by decide +kernel
theorem dX3_hasObjectsLike_27 : decode cX3_hasObjectsLike 27 = .ok (.iload_n 2, 1) := by decide +kernel
theorem dX3_hasObjectsLike_28 : decode cX3_hasObjectsLike 28 = .ok (.ifCond .eq 31, 3) := by decide +kernel
theorem dX3_hasObjectsLike_31 : decode cX3_hasObjectsLike 31 = .ok (.aload_n 0, 1) := by decide +kernel
theorem dX3_hasObjectsLike_32 : decode cX3_hasObjectsLike 32 = .ok (.getfield 36, 3) := by decide +kernel
theorem dX3_hasObjectsLike_35 : decode cX3_hasObjectsLike 35 = .ok (.iload_n 3, 1) := by decide +kernel
theorem dX3_hasObjectsLike_36 : decode cX3_hasObjectsLike 36 = .ok (.iaload, 1) := by decide +kernel
theorem dX3_hasObjectsLike_37 : decode cX3_hasObjectsLike 37 = .ok (.aload_n 1, 1) := by decide +kernel
theorem dX3_hasObjectsLike_38 : decode cX3_hasObjectsLike 38 = .ok (.getfield 36, 3) := by decide +kernel
theorem dX3_hasObjectsLike_41 : decode cX3_hasObjectsLike 41 = .ok (.iload_n 3, 1) := by decide +kernel
theorem dX3_hasObjectsLike_42 : decode cX3_hasObjectsLike 42 = .ok (.iaload, 1) := by decide +kernel
theorem dX3_hasObjectsLike_43 : decode cX3_hasObjectsLike 43 = .ok (.if_icmp .ne 16, 3) := by decide +kernel
theorem dX3_hasObjectsLike_46 : decode cX3_hasObjectsLike 46 = .ok (.aload_n 0, 1) := by decide +kernel
theorem dX3_hasObjectsLike_47 : decode cX3_hasObjectsLike 47 = .ok (.iload_n 3, 1) := by decide +kernel
theorem dX3_hasObjectsLike_48 : decode cX3_hasObjectsLike 48 = .ok (.aload_n 1, 1) := by decide +kernel
theorem dX3_hasObjectsLike_49 : decode cX3_hasObjectsLike 49 = .ok (.invokevirtual 284, 3) := by decide +kernel
theorem dX3_hasObjectsLike_52 : decode cX3_hasObjectsLike 52 = .ok (.ifCond .eq 7, 3) := by decide +kernel
theorem dX3_hasObjectsLike_55 : decode cX3_hasObjectsLike 55 = .ok (.iconst 1, 1) := by decide +kernel
theorem dX3_hasObjectsLike_56 : decode cX3_hasObjectsLike 56 = .ok (.goto 4, 3) := by decide +kernel
theorem dX3_hasObjectsLike_59 : decode cX3_hasObjectsLike 59 = .ok (.iconst 0, 1) := by decide +kernel
theorem dX3_hasObjectsLike_60 : decode cX3_hasObjectsLike 60 = .ok (.istore_n 2, 1) := by decide +kernel
theorem dX3_hasObjectsLike_61 : decode cX3_hasObjectsLike 61 = .ok (.iinc 3 1, 3) := by decide +kernel
theorem dX3_hasObjectsLike_64 : decode cX3_hasObjectsLike 64 = .ok (.goto (-45), 3) := by decide +kernel
theorem dX3_hasObjectsLike_67 : decode cX3_hasObjectsLike 67 = .ok (.iload_n 2, 1) := by decide +kernel
theorem dX3_hasObjectsLike_68 : decode cX3_hasObjectsLike 68 = .ok (.ireturn, 1) := by decide +kernel
theorem dX3_hasFieldsLike_0 : decode cX3_hasFieldsLike 0 = .ok (.iconst 1, 1) := by decide +kernel
theorem dX3_hasFieldsLike_1 : decode cX3_hasFieldsLike 1 = .ok (.istore_n 3, 1) := by decide +kernel
theorem dX3_hasFieldsLike_2 : decode cX3_hasFieldsLike 2 = .ok (.iconst 0, 1) := by decide +kernel
theorem dX3_hasFieldsLike_3 : decode cX3_hasFieldsLike 3 = .ok (.istore 4, 2) := by decide +kernel
theorem dX3_hasFieldsLike_5 : decode cX3_hasFieldsLike 5 = .ok (.iload 4, 2) := by decide +kernel
theorem dX3_hasFieldsLike_7 : decode cX3_hasFieldsLike 7 = .ok (.bipush 6, 2) := by decide +kernel
theorem dX3_hasFieldsLike_9 : decode cX3_hasFieldsLike 9 = .ok (.if_icmp .ge 57, 3) := by decide +kernel
theorem dX3_hasFieldsLike_12 : decode cX3_hasFieldsLike 12 = .ok (.aload_n 0, 1) := by decide +kernel
theorem dX3_hasFieldsLike_13 : decode cX3_hasFieldsLike 13 = .ok (.getfield 15, 3) := by decide +kernel
theorem dX3_hasFieldsLike_16 : decode cX3_hasFieldsLike 16 = .ok (.aload_n 0, 1) := by decide +kernel
theorem dX3_hasFieldsLike_17 : decode cX3_hasFieldsLike 17 = .ok (.getfield 36, 3) := by decide +kernel
theorem dX3_hasFieldsLike_20 : decode cX3_hasFieldsLike 20 = .ok (.iload_n 1, 1) := by decide +kernel
theorem dX3_hasFieldsLike_21 : decode cX3_hasFieldsLike 21 = .ok (.iaload, 1) := by decide +kernel
theorem dX3_hasFieldsLike_22 : decode cX3_hasFieldsLike 22 = .ok (.iload 4, 2) := by decide +kernel
theorem dX3_hasFieldsLike_24 : decode cX3_hasFieldsLike 24 = .ok (.invokevirtual 195, 3) := by decide +kernel
theorem dX3_hasFieldsLike_27 : decode cX3_hasFieldsLike 27 = .ok (.ifCond .eq 33, 3) := by decide +kernel
theorem dX3_hasFieldsLike_30 : decode cX3_hasFieldsLike 30 = .ok (.iload_n 3, 1) := by decide +kernel
theorem dX3_hasFieldsLike_31 : decode cX3_hasFieldsLike 31 = .ok (.ifCond .eq 27, 3) := by decide +kernel
theorem dX3_hasFieldsLike_34 : decode cX3_hasFieldsLike 34 = .ok (.aload_n 0, 1) := by decide +kernel
theorem dX3_hasFieldsLike_35 : decode cX3_hasFieldsLike 35 = .ok (.getfield 22, 3) := by decide +kernel
theorem dX3_hasFieldsLike_38 : decode cX3_hasFieldsLike 38 = .ok (.iload_n 1, 1) := by decide +kernel
theorem dX3_hasFieldsLike_39 : decode cX3_hasFieldsLike 39 = .ok (.iload 4, 2) := by decide +kernel
theorem dX3_hasFieldsLike_41 : decode cX3_hasFieldsLike 41 = .ok (.invokestatic 260, 3) := by decide +kernel
theorem dX3_hasFieldsLike_44 : decode cX3_hasFieldsLike 44 = .ok (.aload_n 2, 1) := by decide +kernel
theorem dX3_hasFieldsLike_45 : decode cX3_hasFieldsLike 45 = .ok (.getfield 22, 3) := by decide +kernel
theorem dX3_hasFieldsLike_48 : decode cX3_hasFieldsLike 48 = .ok (.invokevirtual 273, 3) := by decide +kernel
theorem dX3_hasFieldsLike_51 : decode cX3_hasFieldsLike 51 = .ok (.ifCond .eq 7, 3) := by decide +kernel
theorem dX3_hasFieldsLike_54 : decode cX3_hasFieldsLike 54 = .ok (.iconst 1, 1) := by decide +kernel
theorem dX3_hasFieldsLike_55 : decode cX3_hasFieldsLike 55 = .ok (.goto 4, 3) := by decide +kernel
theorem dX3_hasFieldsLike_58 : decode cX3_hasFieldsLike 58 = .ok (.iconst 0, 1) := by decide +kernel
theorem dX3_hasFieldsLike_59 : decode cX3_hasFieldsLike 59 = .ok (.istore_n 3, 1) := by decide +kernel
theorem dX3_hasFieldsLike_60 : decode cX3_hasFieldsLike 60 = .ok (.iinc 4 1, 3) := by decide +kernel
theorem dX3_hasFieldsLike_63 : decode cX3_hasFieldsLike 63 = .ok (.goto (-58), 3) := by decide +kernel
theorem dX3_hasFieldsLike_66 : decode cX3_hasFieldsLike 66 = .ok (.iload_n 3, 1) := by decide +kernel
theorem dX3_hasFieldsLike_67 : decode cX3_hasFieldsLike 67 = .ok (.ireturn, 1) := by decide +kernel
theorem dX4_isInteger_0 : decode cX4_isInteger 0 = .ok (.lload_n 0, 1) := by decide +kernel
theorem dX4_isInteger_1 : decode cX4_isInteger 1 = .ok (.ldc2_w 7, 3) := by decide +kernel
theorem dX4_isInteger_4 : decode cX4_isInteger 4 = .ok (.lcmp, 1) := by decide +kernel
theorem dX4_isInteger_5 : decode cX4_isInteger 5 = .ok (.ifCond .lt 15, 3) := by decide +kernel
theorem dX4_isInteger_8 : decode cX4_isInteger 8 = .ok (.lload_n 0, 1) := by decide +kernel
theorem dX4_isInteger_9 : decode cX4_isInteger 9 = .ok (.ldc2_w 9, 3) := by decide +kernel
theorem dX4_isInteger_12 : decode cX4_isInteger 12 = .ok (.lcmp, 1) := by decide +kernel
theorem dX4_isInteger_13 : decode cX4_isInteger 13 = .ok (.ifCond .gt 7, 3) := by decide +kernel
theorem dX4_isInteger_16 : decode cX4_isInteger 16 = .ok (.iconst 1, 1) := by decide +kernel
theorem dX4_isInteger_17 : decode cX4_isInteger 17 = .ok (.goto 4, 3) := by decide +kernel
theorem dX4_isInteger_20 : decode cX4_isInteger 20 = .ok (.iconst 0, 1) := by decide +kernel
theorem dX4_isInteger_21 : decode cX4_isInteger 21 = .ok (.ireturn, 1) := by decide +kernel
theorem dX4_ofIntegers_0 : decode cX4_ofIntegers 0 = .ok (.iload_n 0, 1) := by decide +kernel
theorem dX4_ofIntegers_1 : decode cX4_ofIntegers 1 = .ok (.tableswitch 99 37 47 #[85, 99, 99, 99, 99, 67, 59, 99, 63, 99, 71], 59) := by decide +kernel
theorem dX4_ofIntegers_60 : decode cX4_ofIntegers 60 = .ok (.lload_n 1, 1) := by decide +kernel
theorem dX4_ofIntegers_61 : decode cX4_ofIntegers 61 = .ok (.lload_n 3, 1) := by decide +kernel
theorem dX4_ofIntegers_62 : decode cX4_ofIntegers 62 = .ok (.ladd, 1) := by decide +kernel
theorem dX4_ofIntegers_63 : decode cX4_ofIntegers 63 = .ok (.lreturn, 1) := by decide +kernel
theorem dX4_ofIntegers_64 : decode cX4_ofIntegers 64 = .ok (.lload_n 1, 1) := by decide +kernel
theorem dX4_ofIntegers_65 : decode cX4_ofIntegers 65 = .ok (.lload_n 3, 1) := by decide +kernel
theorem dX4_ofIntegers_66 : decode cX4_ofIntegers 66 = .ok (.lsub, 1) := by decide +kernel
theorem dX4_ofIntegers_67 : decode cX4_ofIntegers 67 = .ok (.lreturn, 1) := by decide +kernel
theorem dX4_ofIntegers_68 : decode cX4_ofIntegers 68 = .ok (.lload_n 1, 1) := by decide +kernel
theorem dX4_ofIntegers_69 : decode cX4_ofIntegers 69 = .ok (.lload_n 3, 1) := by decide +kernel
theorem dX4_ofIntegers_70 : decode cX4_ofIntegers 70 = .ok (.lmul, 1) := by decide +kernel
theorem dX4_ofIntegers_71 : decode cX4_ofIntegers 71 = .ok (.lreturn, 1) := by decide +kernel
theorem dX4_ofIntegers_72 : decode cX4_ofIntegers 72 = .ok (.lload_n 3, 1) := by decide +kernel
theorem dX4_ofIntegers_73 : decode cX4_ofIntegers 73 = .ok (.lconst 0, 1) := by decide +kernel
theorem dX4_ofIntegers_74 : decode cX4_ofIntegers 74 = .ok (.lcmp, 1) := by decide +kernel
theorem dX4_ofIntegers_75 : decode cX4_ofIntegers 75 = .ok (.ifCond .ne 7, 3) := by decide +kernel
theorem dX4_ofIntegers_78 : decode cX4_ofIntegers 78 = .ok (.lconst 0, 1) := by decide +kernel
theorem dX4_ofIntegers_79 : decode cX4_ofIntegers 79 = .ok (.goto 6, 3) := by decide +kernel
theorem dX4_ofIntegers_82 : decode cX4_ofIntegers 82 = .ok (.lload_n 1, 1) := by decide +kernel
theorem dX4_ofIntegers_83 : decode cX4_ofIntegers 83 = .ok (.lload_n 3, 1) := by decide +kernel
theorem dX4_ofIntegers_84 : decode cX4_ofIntegers 84 = .ok (.ldiv, 1) := by decide +kernel
theorem dX4_ofIntegers_85 : decode cX4_ofIntegers 85 = .ok (.lreturn, 1) := by decide +kernel
theorem dX4_ofIntegers_86 : decode cX4_ofIntegers 86 = .ok (.lload_n 3, 1) := by decide +kernel
theorem dX4_ofIntegers_87 : decode cX4_ofIntegers 87 = .ok (.lconst 0, 1) := by decide +kernel
theorem dX4_ofIntegers_88 : decode cX4_ofIntegers 88 = .ok (.lcmp, 1) := by decide +kernel
theorem dX4_ofIntegers_89 : decode cX4_ofIntegers 89 = .ok (.ifCond .ne 7, 3) := by decide +kernel
theorem dX4_ofIntegers_92 : decode cX4_ofIntegers 92 = .ok (.lconst 0, 1) := by decide +kernel
theorem dX4_ofIntegers_93 : decode cX4_ofIntegers 93 = .ok (.goto 6, 3) := by decide +kernel
theorem dX4_ofIntegers_96 : decode cX4_ofIntegers 96 = .ok (.lload_n 1, 1) := by decide +kernel
theorem dX4_ofIntegers_97 : decode cX4_ofIntegers 97 = .ok (.lload_n 3, 1) := by decide +kernel
theorem dX4_ofIntegers_98 : decode cX4_ofIntegers 98 = .ok (.lrem, 1) := by decide +kernel
theorem dX4_ofIntegers_99 : decode cX4_ofIntegers 99 = .ok (.lreturn, 1) := by decide +kernel
theorem dX4_ofIntegers_100 : decode cX4_ofIntegers 100 = .ok (.lload_n 1, 1) := by decide +kernel
theorem dX4_ofIntegers_101 : decode cX4_ofIntegers 101 = .ok (.lload_n 3, 1) := by decide +kernel
theorem dX4_ofIntegers_102 : decode cX4_ofIntegers 102 = .ok (.lcmp, 1) := by decide +kernel
theorem dX4_ofIntegers_103 : decode cX4_ofIntegers 103 = .ok (.ifCond .ge 7, 3) := by decide +kernel
theorem dX4_ofIntegers_106 : decode cX4_ofIntegers 106 = .ok (.lconst 1, 1) := by decide +kernel
theorem dX4_ofIntegers_107 : decode cX4_ofIntegers 107 = .ok (.goto 4, 3) := by decide +kernel
theorem dX4_ofIntegers_110 : decode cX4_ofIntegers 110 = .ok (.lconst 0, 1) := by decide +kernel
theorem dX4_ofIntegers_111 : decode cX4_ofIntegers 111 = .ok (.lreturn, 1) := by decide +kernel
theorem dX4_isUndefined_0 : decode cX4_isUndefined 0 = .ok (.dload_n 1, 1) := by decide +kernel
theorem dX4_isUndefined_1 : decode cX4_isUndefined 1 = .ok (.invokestatic 11, 3) := by decide +kernel
theorem dX4_isUndefined_4 : decode cX4_isUndefined 4 = .ok (.ifCond .eq 14, 3) := by decide +kernel
theorem dX4_isUndefined_7 : decode cX4_isUndefined 7 = .ok (.dload_n 3, 1) := by decide +kernel
theorem dX4_isUndefined_8 : decode cX4_isUndefined 8 = .ok (.invokestatic 11, 3) := by decide +kernel
theorem dX4_isUndefined_11 : decode cX4_isUndefined 11 = .ok (.ifCond .eq 7, 3) := by decide +kernel
theorem dX4_isUndefined_14 : decode cX4_isUndefined 14 = .ok (.iconst 1, 1) := by decide +kernel
theorem dX4_isUndefined_15 : decode cX4_isUndefined 15 = .ok (.goto 4, 3) := by decide +kernel
theorem dX4_isUndefined_18 : decode cX4_isUndefined 18 = .ok (.iconst 0, 1) := by decide +kernel
theorem dX4_isUndefined_19 : decode cX4_isUndefined 19 = .ok (.istore 5, 2) := by decide +kernel
theorem dX4_isUndefined_21 : decode cX4_isUndefined 21 = .ok (.iload_n 0, 1) := by decide +kernel
theorem dX4_isUndefined_22 : decode cX4_isUndefined 22 = .ok (.tableswitch 165 42 47 #[110, 38, 165, 74, 165, 142], 38) := by decide +kernel
theorem dX4_isUndefined_60 : decode cX4_isUndefined 60 = .ok (.iload 5, 2) := by decide +kernel
theorem dX4_isUndefined_62 : decode cX4_isUndefined 62 = .ok (.ifCond .eq 32, 3) := by decide +kernel
theorem dX4_isUndefined_65 : decode cX4_isUndefined 65 = .ok (.dload_n 1, 1) := by decide +kernel
theorem dX4_isUndefined_66 : decode cX4_isUndefined 66 = .ok (.dconst 0, 1) := by decide +kernel
theorem dX4_isUndefined_67 : decode cX4_isUndefined 67 = .ok (.dcmp .l, 1) := by decide +kernel
theorem dX4_isUndefined_68 : decode cX4_isUndefined 68 = .ok (.ifCond .le 7, 3) := by decide +kernel
theorem dX4_isUndefined_71 : decode cX4_isUndefined 71 = .ok (.iconst 1, 1) := by decide +kernel
theorem dX4_isUndefined_72 : decode cX4_isUndefined 72 = .ok (.goto 4, 3) := by decide +kernel
theorem dX4_isUndefined_75 : decode cX4_isUndefined 75 = .ok (.iconst 0, 1) := by decide +kernel
theorem dX4_isUndefined_76 : decode cX4_isUndefined 76 = .ok (.dload_n 3, 1) := by decide +kernel
theorem dX4_isUndefined_77 : decode cX4_isUndefined 77 = .ok (.dconst 0, 1) := by decide +kernel
theorem dX4_isUndefined_78 : decode cX4_isUndefined 78 = .ok (.dcmp .l, 1) := by decide +kernel
theorem dX4_isUndefined_79 : decode cX4_isUndefined 79 = .ok (.ifCond .le 7, 3) := by decide +kernel
theorem dX4_isUndefined_82 : decode cX4_isUndefined 82 = .ok (.iconst 1, 1) := by decide +kernel
theorem dX4_isUndefined_83 : decode cX4_isUndefined 83 = .ok (.goto 4, 3) := by decide +kernel
theorem dX4_isUndefined_86 : decode cX4_isUndefined 86 = .ok (.iconst 0, 1) := by decide +kernel
theorem dX4_isUndefined_87 : decode cX4_isUndefined 87 = .ok (.if_icmp .eq 7, 3) := by decide +kernel
theorem dX4_isUndefined_90 : decode cX4_isUndefined 90 = .ok (.iconst 1, 1) := by decide +kernel
theorem dX4_isUndefined_91 : decode cX4_isUndefined 91 = .ok (.goto 4, 3) := by decide +kernel
theorem dX4_isUndefined_94 : decode cX4_isUndefined 94 = .ok (.iconst 0, 1) := by decide +kernel
theorem dX4_isUndefined_95 : decode cX4_isUndefined 95 = .ok (.ireturn, 1) := by decide +kernel
theorem dX4_isUndefined_96 : decode cX4_isUndefined 96 = .ok (.iload 5, 2) := by decide +kernel
theorem dX4_isUndefined_98 : decode cX4_isUndefined 98 = .ok (.ifCond .eq 32, 3) := by decide +kernel
theorem dX4_isUndefined_101 : decode cX4_isUndefined 101 = .ok (.dload_n 1, 1) := by decide +kernel
theorem dX4_isUndefined_102 : decode cX4_isUndefined 102 = .ok (.dconst 0, 1) := by decide +kernel
theorem dX4_isUndefined_103 : decode cX4_isUndefined 103 = .ok (.dcmp .l, 1) := by decide +kernel
theorem dX4_isUndefined_104 : decode cX4_isUndefined 104 = .ok (.ifCond .le 7, 3) := by decide +kernel
theorem dX4_isUndefined_107 : decode cX4_isUndefined 107 = .ok (.iconst 1, 1) := by decide +kernel
theorem dX4_isUndefined_108 : decode cX4_isUndefined 108 = .ok (.goto 4, 3) := by decide +kernel
theorem dX4_isUndefined_111 : decode cX4_isUndefined 111 = .ok (.iconst 0, 1) := by decide +kernel
theorem dX4_isUndefined_112 : decode cX4_isUndefined 112 = .ok (.dload_n 3, 1) := by decide +kernel
theorem dX4_isUndefined_113 : decode cX4_isUndefined 113 = .ok (.dconst 0, 1) := by decide +kernel
theorem dX4_isUndefined_114 : decode cX4_isUndefined 114 = .ok (.dcmp .l, 1) := by decide +kernel
theorem dX4_isUndefined_115 : decode cX4_isUndefined 115 = .ok (.ifCond .le 7, 3) := by decide +kernel
theorem dX4_isUndefined_118 : decode cX4_isUndefined 118 = .ok (.iconst 1, 1) := by decide +kernel
theorem dX4_isUndefined_119 : decode cX4_isUndefined 119 = .ok (.goto 4, 3) := by decide +kernel
theorem dX4_isUndefined_122 : decode cX4_isUndefined 122 = .ok (.iconst 0, 1) := by decide +kernel
theorem dX4_isUndefined_123 : decode cX4_isUndefined 123 = .ok (.if_icmp .ne 7, 3) := by decide +kernel
theorem dX4_isUndefined_126 : decode cX4_isUndefined 126 = .ok (.iconst 1, 1) := by decide +kernel
theorem dX4_isUndefined_127 : decode cX4_isUndefined 127 = .ok (.goto 4, 3) := by decide +kernel
theorem dX4_isUndefined_130 : decode cX4_isUndefined 130 = .ok (.iconst 0, 1) := by decide +kernel
theorem dX4_isUndefined_131 : decode cX4_isUndefined 131 = .ok (.ireturn, 1) := by decide +kernel
theorem dX4_isUndefined_132 : decode cX4_isUndefined 132 = .ok (.dload_n 1, 1) := by decide +kernel
theorem dX4_isUndefined_133 : decode cX4_isUndefined 133 = .ok (.invokestatic 11, 3) := by decide +kernel
theorem dX4_isUndefined_136 : decode cX4_isUndefined 136 = .ok (.ifCond .eq 9, 3) := by decide +kernel
theorem dX4_isUndefined_139 : decode cX4_isUndefined 139 = .ok (.dload_n 3, 1) := by decide +kernel
theorem dX4_isUndefined_140 : decode cX4_isUndefined 140 = .ok (.dconst 0, 1) := by decide +kernel
theorem dX4_isUndefined_141 : decode cX4_isUndefined 141 = .ok (.dcmp .l, 1) := by decide +kernel
theorem dX4_isUndefined_142 : decode cX4_isUndefined 142 = .ok (.ifCond .eq 16, 3) := by decide +kernel
theorem dX4_isUndefined_145 : decode cX4_isUndefined 145 = .ok (.dload_n 1, 1) := by decide +kernel
theorem dX4_isUndefined_146 : decode cX4_isUndefined 146 = .ok (.dconst 0, 1) := by decide +kernel
theorem dX4_isUndefined_147 : decode cX4_isUndefined 147 = .ok (.dcmp .l, 1) := by decide +kernel
theorem dX4_isUndefined_148 : decode cX4_isUndefined 148 = .ok (.ifCond .ne 14, 3) := by decide +kernel
theorem dX4_isUndefined_151 : decode cX4_isUndefined 151 = .ok (.dload_n 3, 1) := by decide +kernel
theorem dX4_isUndefined_152 : decode cX4_isUndefined 152 = .ok (.invokestatic 11, 3) := by decide +kernel
theorem dX4_isUndefined_155 : decode cX4_isUndefined 155 = .ok (.ifCond .eq 7, 3) := by decide +kernel
theorem dX4_isUndefined_158 : decode cX4_isUndefined 158 = .ok (.iconst 1, 1) := by decide +kernel
theorem dX4_isUndefined_159 : decode cX4_isUndefined 159 = .ok (.goto 4, 3) := by decide +kernel
theorem dX4_isUndefined_162 : decode cX4_isUndefined 162 = .ok (.iconst 0, 1) := by decide +kernel
theorem dX4_isUndefined_163 : decode cX4_isUndefined 163 = .ok (.ireturn, 1) := by decide +kernel
theorem dX4_isUndefined_164 : decode cX4_isUndefined 164 = .ok (.iload 5, 2) := by decide +kernel
theorem dX4_isUndefined_166 : decode cX4_isUndefined 166 = .ok (.ifCond .ne 15, 3) := by decide +kernel
theorem dX4_isUndefined_169 : decode cX4_isUndefined 169 = .ok (.dload_n 1, 1) := by decide +kernel
theorem dX4_isUndefined_170 : decode cX4_isUndefined 170 = .ok (.dconst 0, 1) := by decide +kernel
theorem dX4_isUndefined_171 : decode cX4_isUndefined 171 = .ok (.dcmp .l, 1) := by decide +kernel
theorem dX4_isUndefined_172 : decode cX4_isUndefined 172 = .ok (.ifCond .ne 13, 3) := by decide +kernel
theorem dX4_isUndefined_175 : decode cX4_isUndefined 175 = .ok (.dload_n 3, 1) := by decide +kernel
theorem dX4_isUndefined_176 : decode cX4_isUndefined 176 = .ok (.dconst 0, 1) := by decide +kernel
theorem dX4_isUndefined_177 : decode cX4_isUndefined 177 = .ok (.dcmp .l, 1) := by decide +kernel
theorem dX4_isUndefined_178 : decode cX4_isUndefined 178 = .ok (.ifCond .ne 7, 3) := by decide +kernel
theorem dX4_isUndefined_181 : decode cX4_isUndefined 181 = .ok (.iconst 1, 1) := by decide +kernel
theorem dX4_isUndefined_182 : decode cX4_isUndefined 182 = .ok (.goto 4, 3) := by decide +kernel
theorem dX4_isUndefined_185 : decode cX4_isUndefined 185 = .ok (.iconst 0, 1) := by decide +kernel
theorem dX4_isUndefined_186 : decode cX4_isUndefined 186 = .ok (.ireturn, 1) := by decide +kernel
theorem dX4_isUndefined_187 : decode cX4_isUndefined 187 = .ok (.dload_n 1, 1) := by decide +kernel
theorem dX4_isUndefined_188 : decode cX4_isUndefined 188 = .ok (.invokestatic 11, 3) := by decide +kernel
theorem dX4_isUndefined_191 : decode cX4_isUndefined 191 = .ok (.ifCond .ne 9, 3) := by decide +kernel
theorem dX4_isUndefined_194 : decode cX4_isUndefined 194 = .ok (.dload_n 3, 1) := by decide +kernel
theorem dX4_isUndefined_195 : decode cX4_isUndefined 195 = .ok (.dconst 0, 1) := by decide +kernel
theorem dX4_isUndefined_196 : decode cX4_isUndefined 196 = .ok (.dcmp .l, 1) := by decide +kernel
theorem dX4_isUndefined_197 : decode cX4_isUndefined 197 = .ok (.ifCond .ne 7, 3) := by decide +kernel
theorem dX4_isUndefined_200 : decode cX4_isUndefined 200 = .ok (.iconst 1, 1) := by decide +kernel
theorem dX4_isUndefined_201 : decode cX4_isUndefined 201 = .ok (.goto 4, 3) := by decide +kernel
theorem dX4_isUndefined_204 : decode cX4_isUndefined 204 = .ok (.iconst 0, 1) := by decide +kernel
theorem dX4_isUndefined_205 : decode cX4_isUndefined 205 = .ok (.ireturn, 1) := by decide +kernel
theorem dX4_ofFloats_0 : decode cX4_ofFloats 0 = .ok (.iload_n 0, 1) := by decide +kernel
theorem dX4_ofFloats_1 : decode cX4_ofFloats 1 = .ok (.tableswitch 55 42 47 #[47, 39, 55, 43, 55, 51], 39) := by decide +kernel
theorem dX4_ofFloats_40 : decode cX4_ofFloats 40 = .ok (.dload_n 1, 1) := by decide +kernel
theorem dX4_ofFloats_41 : decode cX4_ofFloats 41 = .ok (.dload_n 3, 1) := by decide +kernel
theorem dX4_ofFloats_42 : decode cX4_ofFloats 42 = .ok (.dadd, 1) := by decide +kernel
theorem dX4_ofFloats_43 : decode cX4_ofFloats 43 = .ok (.dreturn, 1) := by decide +kernel
theorem dX4_ofFloats_44 : decode cX4_ofFloats 44 = .ok (.dload_n 1, 1) := by decide +kernel
theorem dX4_ofFloats_45 : decode cX4_ofFloats 45 = .ok (.dload_n 3, 1) := by decide +kernel
theorem dX4_ofFloats_46 : decode cX4_ofFloats 46 = .ok (.dsub, 1) := by decide +kernel
theorem dX4_ofFloats_47 : decode cX4_ofFloats 47 = .ok (.dreturn, 1) := by decide +kernel
theorem dX4_ofFloats_48 : decode cX4_ofFloats 48 = .ok (.dload_n 1, 1) := by decide +kernel
theorem dX4_ofFloats_49 : decode cX4_ofFloats 49 = .ok (.dload_n 3, 1) := by decide +kernel
theorem dX4_ofFloats_50 : decode cX4_ofFloats 50 = .ok (.dmul, 1) := by decide +kernel
theorem dX4_ofFloats_51 : decode cX4_ofFloats 51 = .ok (.dreturn, 1) := by decide +kernel
theorem dX4_ofFloats_52 : decode cX4_ofFloats 52 = .ok (.dload_n 1, 1) := by decide +kernel
theorem dX4_ofFloats_53 : decode cX4_ofFloats 53 = .ok (.dload_n 3, 1) := by decide +kernel
theorem dX4_ofFloats_54 : decode cX4_ofFloats 54 = .ok (.ddiv, 1) := by decide +kernel
theorem dX4_ofFloats_55 : decode cX4_ofFloats 55 = .ok (.dreturn, 1) := by decide +kernel
theorem dX4_ofFloats_56 : decode cX4_ofFloats 56 = .ok (.dload_n 1, 1) := by decide +kernel
theorem dX4_ofFloats_57 : decode cX4_ofFloats 57 = .ok (.dload_n 3, 1) := by decide +kernel
theorem dX4_ofFloats_58 : decode cX4_ofFloats 58 = .ok (.invokestatic 17, 3) := by decide +kernel
theorem dX4_ofFloats_61 : decode cX4_ofFloats 61 = .ok (.dreturn, 1) := by decide +kernel
theorem dX4_rest_0 : decode cX4_rest 0 = .ok (.dload_n 0, 1) := by decide +kernel
theorem dX4_rest_1 : decode cX4_rest 1 = .ok (.dconst 0, 1) := by decide +kernel
theorem dX4_rest_2 : decode cX4_rest 2 = .ok (.dcmp .g, 1) := by decide +kernel
theorem dX4_rest_3 : decode cX4_rest 3 = .ok (.ifCond .ge 8, 3) := by decide +kernel
theorem dX4_rest_6 : decode cX4_rest 6 = .ok (.dload_n 0, 1) := by decide +kernel
theorem dX4_rest_7 : decode cX4_rest 7 = .ok (.dneg, 1) := by decide +kernel
theorem dX4_rest_8 : decode cX4_rest 8 = .ok (.goto 4, 3) := by decide +kernel
theorem dX4_rest_11 : decode cX4_rest 11 = .ok (.dload_n 0, 1) := by decide +kernel
theorem dX4_rest_12 : decode cX4_rest 12 = .ok (.dstore 4, 2) := by decide +kernel
theorem dX4_rest_14 : decode cX4_rest 14 = .ok (.dload_n 2, 1) := by decide +kernel
theorem dX4_rest_15 : decode cX4_rest 15 = .ok (.dconst 0, 1) := by decide +kernel
theorem dX4_rest_16 : decode cX4_rest 16 = .ok (.dcmp .g, 1) := by decide +kernel
theorem dX4_rest_17 : decode cX4_rest 17 = .ok (.ifCond .ge 8, 3) := by decide +kernel
theorem dX4_rest_20 : decode cX4_rest 20 = .ok (.dload_n 2, 1) := by decide +kernel
theorem dX4_rest_21 : decode cX4_rest 21 = .ok (.dneg, 1) := by decide +kernel
theorem dX4_rest_22 : decode cX4_rest 22 = .ok (.goto 4, 3) := by decide +kernel
theorem dX4_rest_25 : decode cX4_rest 25 = .ok (.dload_n 2, 1) := by decide +kernel
theorem dX4_rest_26 : decode cX4_rest 26 = .ok (.dstore 6, 2) := by decide +kernel
theorem dX4_rest_28 : decode cX4_rest 28 = .ok (.dload 4, 2) := by decide +kernel
theorem dX4_rest_30 : decode cX4_rest 30 = .ok (.dload 6, 2) := by decide +kernel
theorem dX4_rest_32 : decode cX4_rest 32 = .ok (.dcmp .g, 1) := by decide +kernel
theorem dX4_rest_33 : decode cX4_rest 33 = .ok (.ifCond .ge 5, 3) := by decide +kernel
theorem dX4_rest_36 : decode cX4_rest 36 = .ok (.dload_n 0, 1) := by decide +kernel
theorem dX4_rest_37 : decode cX4_rest 37 = .ok (.dreturn, 1) := by decide +kernel
theorem dX4_rest_38 : decode cX4_rest 38 = .ok (.dload 6, 2) := by decide +kernel
theorem dX4_rest_40 : decode cX4_rest 40 = .ok (.dstore 8, 2) := by decide +kernel
theorem dX4_rest_42 : decode cX4_rest 42 = .ok (.iconst 0, 1) := by decide +kernel
theorem dX4_rest_43 : decode cX4_rest 43 = .ok (.istore 10, 2) := by decide +kernel
theorem dX4_rest_45 : decode cX4_rest 45 = .ok (.iload 10, 2) := by decide +kernel
theorem dX4_rest_47 : decode cX4_rest 47 = .ok (.sipush 3000, 3) := by decide +kernel
theorem dX4_rest_50 : decode cX4_rest 50 = .ok (.if_icmp .ge 28, 3) := by decide +kernel
theorem dX4_rest_53 : decode cX4_rest 53 = .ok (.dload 8, 2) := by decide +kernel
theorem dX4_rest_55 : decode cX4_rest 55 = .ok (.dload 4, 2) := by decide +kernel
theorem dX4_rest_57 : decode cX4_rest 57 = .ok (.dload 8, 2) := by decide +kernel
theorem dX4_rest_59 : decode cX4_rest 59 = .ok (.dsub, 1) := by decide +kernel
theorem dX4_rest_60 : decode cX4_rest 60 = .ok (.dcmp .g, 1) := by decide +kernel
theorem dX4_rest_61 : decode cX4_rest 61 = .ok (.ifCond .gt 17, 3) := by decide +kernel
theorem dX4_rest_64 : decode cX4_rest 64 = .ok (.dload 8, 2) := by decide +kernel
theorem dX4_rest_66 : decode cX4_rest 66 = .ok (.ldc2_w 21, 3) := by decide +kernel
theorem dX4_rest_69 : decode cX4_rest 69 = .ok (.dmul, 1) := by decide +kernel
theorem dX4_rest_70 : decode cX4_rest 70 = .ok (.dstore 8, 2) := by decide +kernel
theorem dX4_rest_72 : decode cX4_rest 72 = .ok (.iinc 10 1, 3) := by decide +kernel
theorem dX4_rest_75 : decode cX4_rest 75 = .ok (.goto (-30), 3) := by decide +kernel
theorem dX4_rest_78 : decode cX4_rest 78 = .ok (.iconst 0, 1) := by decide +kernel
theorem dX4_rest_79 : decode cX4_rest 79 = .ok (.istore 10, 2) := by decide +kernel
theorem dX4_rest_81 : decode cX4_rest 81 = .ok (.iload 10, 2) := by decide +kernel
theorem dX4_rest_83 : decode cX4_rest 83 = .ok (.sipush 3000, 3) := by decide +kernel
theorem dX4_rest_86 : decode cX4_rest 86 = .ok (.if_icmp .ge 45, 3) := by decide +kernel
theorem dX4_rest_89 : decode cX4_rest 89 = .ok (.dload 8, 2) := by decide +kernel
theorem dX4_rest_91 : decode cX4_rest 91 = .ok (.dload 6, 2) := by decide +kernel
theorem dX4_rest_93 : decode cX4_rest 93 = .ok (.dcmp .l, 1) := by decide +kernel
theorem dX4_rest_94 : decode cX4_rest 94 = .ok (.ifCond .lt 37, 3) := by decide +kernel
theorem dX4_rest_97 : decode cX4_rest 97 = .ok (.dload 4, 2) := by decide +kernel
theorem dX4_rest_99 : decode cX4_rest 99 = .ok (.dload 8, 2) := by decide +kernel
theorem dX4_rest_101 : decode cX4_rest 101 = .ok (.dcmp .l, 1) := by decide +kernel
theorem dX4_rest_102 : decode cX4_rest 102 = .ok (.ifCond .lt 11, 3) := by decide +kernel
theorem dX4_rest_105 : decode cX4_rest 105 = .ok (.dload 4, 2) := by decide +kernel
theorem dX4_rest_107 : decode cX4_rest 107 = .ok (.dload 8, 2) := by decide +kernel
theorem dX4_rest_109 : decode cX4_rest 109 = .ok (.dsub, 1) := by decide +kernel
theorem dX4_rest_110 : decode cX4_rest 110 = .ok (.goto 5, 3) := by decide +kernel
theorem dX4_rest_113 : decode cX4_rest 113 = .ok (.dload 4, 2) := by decide +kernel
theorem dX4_rest_115 : decode cX4_rest 115 = .ok (.dstore 4, 2) := by decide +kernel
theorem dX4_rest_117 : decode cX4_rest 117 = .ok (.dload 8, 2) := by decide +kernel
theorem dX4_rest_119 : decode cX4_rest 119 = .ok (.ldc2_w 21, 3) := by decide +kernel
theorem dX4_rest_122 : decode cX4_rest 122 = .ok (.ddiv, 1) := by decide +kernel
theorem dX4_rest_123 : decode cX4_rest 123 = .ok (.dstore 8, 2) := by decide +kernel
theorem dX4_rest_125 : decode cX4_rest 125 = .ok (.iinc 10 1, 3) := by decide +kernel
theorem dX4_rest_128 : decode cX4_rest 128 = .ok (.goto (-47), 3) := by decide +kernel
theorem dX4_rest_131 : decode cX4_rest 131 = .ok (.dload_n 0, 1) := by decide +kernel
theorem dX4_rest_132 : decode cX4_rest 132 = .ok (.dconst 0, 1) := by decide +kernel
theorem dX4_rest_133 : decode cX4_rest 133 = .ok (.dcmp .g, 1) := by decide +kernel
theorem dX4_rest_134 : decode cX4_rest 134 = .ok (.ifCond .ge 9, 3) := by decide +kernel
theorem dX4_rest_137 : decode cX4_rest 137 = .ok (.dload 4, 2) := by decide +kernel
theorem dX4_rest_139 : decode cX4_rest 139 = .ok (.dneg, 1) := by decide +kernel
theorem dX4_rest_140 : decode cX4_rest 140 = .ok (.goto 5, 3) := by decide +kernel
theorem dX4_rest_143 : decode cX4_rest 143 = .ok (.dload 4, 2) := by decide +kernel
theorem dX4_rest_145 : decode cX4_rest 145 = .ok (.dreturn, 1) := by decide +kernel
theorem dX4_isEndless_0 : decode cX4_isEndless 0 = .ok (.dload_n 0, 1) := by decide +kernel
theorem dX4_isEndless_1 : decode cX4_isEndless 1 = .ok (.ldc2_w 23, 3) := by decide +kernel
theorem dX4_isEndless_4 : decode cX4_isEndless 4 = .ok (.dcmp .l, 1) := by decide +kernel
theorem dX4_isEndless_5 : decode cX4_isEndless 5 = .ok (.ifCond .gt 11, 3) := by decide +kernel
theorem dX4_isEndless_8 : decode cX4_isEndless 8 = .ok (.dload_n 0, 1) := by decide +kernel
theorem dX4_isEndless_9 : decode cX4_isEndless 9 = .ok (.ldc2_w 25, 3) := by decide +kernel
theorem dX4_isEndless_12 : decode cX4_isEndless 12 = .ok (.dcmp .g, 1) := by decide +kernel
theorem dX4_isEndless_13 : decode cX4_isEndless 13 = .ok (.ifCond .ge 7, 3) := by decide +kernel
theorem dX4_isEndless_16 : decode cX4_isEndless 16 = .ok (.iconst 1, 1) := by decide +kernel
theorem dX4_isEndless_17 : decode cX4_isEndless 17 = .ok (.goto 4, 3) := by decide +kernel
theorem dX4_isEndless_20 : decode cX4_isEndless 20 = .ok (.iconst 0, 1) := by decide +kernel
theorem dX4_isEndless_21 : decode cX4_isEndless 21 = .ok (.ireturn, 1) := by decide +kernel
theorem dX4_hasNearest_0 : decode cX4_hasNearest 0 = .ok (.dload_n 0, 1) := by decide +kernel
theorem dX4_hasNearest_1 : decode cX4_hasNearest 1 = .ok (.ldc2_w 27, 3) := by decide +kernel
theorem dX4_hasNearest_4 : decode cX4_hasNearest 4 = .ok (.dcmp .l, 1) := by decide +kernel
theorem dX4_hasNearest_5 : decode cX4_hasNearest 5 = .ok (.ifCond .lt 15, 3) := by decide +kernel
theorem dX4_hasNearest_8 : decode cX4_hasNearest 8 = .ok (.dload_n 0, 1) := by decide +kernel
theorem dX4_hasNearest_9 : decode cX4_hasNearest 9 = .ok (.ldc2_w 29, 3) := by decide +kernel
theorem dX4_hasNearest_12 : decode cX4_hasNearest 12 = .ok (.dcmp .g, 1) := by decide +kernel
theorem dX4_hasNearest_13 : decode cX4_hasNearest 13 = .ok (.ifCond .ge 7, 3) := by decide +kernel
theorem dX4_hasNearest_16 : decode cX4_hasNearest 16 = .ok (.iconst 1, 1) := by decide +kernel
theorem dX4_hasNearest_17 : decode cX4_hasNearest 17 = .ok (.goto 4, 3) := by decide +kernel
theorem dX4_hasNearest_20 : decode cX4_hasNearest 20 = .ok (.iconst 0, 1) := by decide +kernel
theorem dX4_hasNearest_21 : decode cX4_hasNearest 21 = .ok (.ireturn, 1) := by decide +kernel
theorem dX4_nearest_0 : decode cX4_nearest 0 = .ok (.dload_n 0, 1) := by decide +kernel
theorem dX4_nearest_1 : decode cX4_nearest 1 = .ok (.d2l, 1) := by decide +kernel
theorem dX4_nearest_2 : decode cX4_nearest 2 = .ok (.lstore_n 2, 1) := by decide +kernel
theorem dX4_nearest_3 : decode cX4_nearest 3 = .ok (.dload_n 0, 1) := by decide +kernel
theorem dX4_nearest_4 : decode cX4_nearest 4 = .ok (.lload_n 2, 1) := by decide +kernel
theorem dX4_nearest_5 : decode cX4_nearest 5 = .ok (.l2d, 1) := by decide +kernel
theorem dX4_nearest_6 : decode cX4_nearest 6 = .ok (.dsub, 1) := by decide +kernel
theorem dX4_nearest_7 : decode cX4_nearest 7 = .ok (.dstore 4, 2) := by decide +kernel
theorem dX4_nearest_9 : decode cX4_nearest 9 = .ok (.lload_n 2, 1) := by decide +kernel
theorem dX4_nearest_10 : decode cX4_nearest 10 = .ok (.lconst 1, 1) := by decide +kernel
theorem dX4_nearest_11 : decode cX4_nearest 11 = .ok (.land, 1) := by decide +kernel
theorem dX4_nearest_12 : decode cX4_nearest 12 = .ok (.lconst 0, 1) := by decide +kernel
theorem dX4_nearest_13 : decode cX4_nearest 13 = .ok (.lcmp, 1) := by decide +kernel
theorem dX4_nearest_14 : decode cX4_nearest 14 = .ok (.ifCond .eq 7, 3) := by decide +kernel
theorem dX4_nearest_17 : decode cX4_nearest 17 = .ok (.iconst 1, 1) := by decide +kernel
theorem dX4_nearest_18 : decode cX4_nearest 18 = .ok (.goto 4, 3) := by decide +kernel
theorem dX4_nearest_21 : decode cX4_nearest 21 = .ok (.iconst 0, 1) := by decide +kernel
theorem dX4_nearest_22 : decode cX4_nearest 22 = .ok (.istore 6, 2) := by decide +kernel
theorem dX4_nearest_24 : decode cX4_nearest 24 = .ok (.dload 4, 2) := by decide +kernel
theorem dX4_nearest_26 : decode cX4_nearest 26 = .ok (.ldc2_w 31, 3) := by decide +kernel
theorem dX4_nearest_29 : decode cX4_nearest 29 = .ok (.dcmp .l, 1) := by decide +kernel
theorem dX4_nearest_30 : decode cX4_nearest 30 = .ok (.ifCond .gt 17, 3) := by decide +kernel
theorem dX4_nearest_33 : decode cX4_nearest 33 = .ok (.dload 4, 2) := by decide +kernel
theorem dX4_nearest_35 : decode cX4_nearest 35 = .ok (.ldc2_w 31, 3) := by decide +kernel
theorem dX4_nearest_38 : decode cX4_nearest 38 = .ok (.dcmp .l, 1) := by decide +kernel
theorem dX4_nearest_39 : decode cX4_nearest 39 = .ok (.ifCond .ne 15, 3) := by decide +kernel
theorem dX4_nearest_42 : decode cX4_nearest 42 = .ok (.iload 6, 2) := by decide +kernel
theorem dX4_nearest_44 : decode cX4_nearest 44 = .ok (.ifCond .eq 10, 3) := by decide +kernel
theorem dX4_nearest_47 : decode cX4_nearest 47 = .ok (.lload_n 2, 1) := by decide +kernel
theorem dX4_nearest_48 : decode cX4_nearest 48 = .ok (.lconst 1, 1) := by decide +kernel
theorem dX4_nearest_49 : decode cX4_nearest 49 = .ok (.ladd, 1) := by decide +kernel
theorem dX4_nearest_50 : decode cX4_nearest 50 = .ok (.lstore_n 2, 1) := by decide +kernel
theorem dX4_nearest_51 : decode cX4_nearest 51 = .ok (.goto 30, 3) := by decide +kernel
theorem dX4_nearest_54 : decode cX4_nearest 54 = .ok (.dload 4, 2) := by decide +kernel
theorem dX4_nearest_56 : decode cX4_nearest 56 = .ok (.ldc2_w 33, 3) := by decide +kernel
theorem dX4_nearest_59 : decode cX4_nearest 59 = .ok (.dcmp .g, 1) := by decide +kernel
theorem dX4_nearest_60 : decode cX4_nearest 60 = .ok (.ifCond .lt 17, 3) := by decide +kernel
theorem dX4_nearest_63 : decode cX4_nearest 63 = .ok (.dload 4, 2) := by decide +kernel
theorem dX4_nearest_65 : decode cX4_nearest 65 = .ok (.ldc2_w 33, 3) := by decide +kernel
theorem dX4_nearest_68 : decode cX4_nearest 68 = .ok (.dcmp .l, 1) := by decide +kernel
theorem dX4_nearest_69 : decode cX4_nearest 69 = .ok (.ifCond .ne 12, 3) := by decide +kernel
theorem dX4_nearest_72 : decode cX4_nearest 72 = .ok (.iload 6, 2) := by decide +kernel
theorem dX4_nearest_74 : decode cX4_nearest 74 = .ok (.ifCond .eq 7, 3) := by decide +kernel
theorem dX4_nearest_77 : decode cX4_nearest 77 = .ok (.lload_n 2, 1) := by decide +kernel
theorem dX4_nearest_78 : decode cX4_nearest 78 = .ok (.lconst 1, 1) := by decide +kernel
theorem dX4_nearest_79 : decode cX4_nearest 79 = .ok (.lsub, 1) := by decide +kernel
theorem dX4_nearest_80 : decode cX4_nearest 80 = .ok (.lstore_n 2, 1) := by decide +kernel
theorem dX4_nearest_81 : decode cX4_nearest 81 = .ok (.lload_n 2, 1) := by decide +kernel
theorem dX4_nearest_82 : decode cX4_nearest 82 = .ok (.l2i, 1) := by decide +kernel
theorem dX4_nearest_83 : decode cX4_nearest 83 = .ok (.ireturn, 1) := by decide +kernel
theorem dX4_isNegative_0 : decode cX4_isNegative 0 = .ok (.dload_n 0, 1) := by decide +kernel
theorem dX4_isNegative_1 : decode cX4_isNegative 1 = .ok (.dconst 0, 1) := by decide +kernel
theorem dX4_isNegative_2 : decode cX4_isNegative 2 = .ok (.dcmp .g, 1) := by decide +kernel
theorem dX4_isNegative_3 : decode cX4_isNegative 3 = .ok (.ifCond .lt 17, 3) := by decide +kernel
theorem dX4_isNegative_6 : decode cX4_isNegative 6 = .ok (.dload_n 0, 1) := by decide +kernel
theorem dX4_isNegative_7 : decode cX4_isNegative 7 = .ok (.dconst 0, 1) := by decide +kernel
theorem dX4_isNegative_8 : decode cX4_isNegative 8 = .ok (.dcmp .l, 1) := by decide +kernel
theorem dX4_isNegative_9 : decode cX4_isNegative 9 = .ok (.ifCond .ne 15, 3) := by decide +kernel
theorem dX4_isNegative_12 : decode cX4_isNegative 12 = .ok (.dconst 1, 1) := by decide +kernel
theorem dX4_isNegative_13 : decode cX4_isNegative 13 = .ok (.dload_n 0, 1) := by decide +kernel
theorem dX4_isNegative_14 : decode cX4_isNegative 14 = .ok (.ddiv, 1) := by decide +kernel
theorem dX4_isNegative_15 : decode cX4_isNegative 15 = .ok (.dconst 0, 1) := by decide +kernel
theorem dX4_isNegative_16 : decode cX4_isNegative 16 = .ok (.dcmp .g, 1) := by decide +kernel
theorem dX4_isNegative_17 : decode cX4_isNegative 17 = .ok (.ifCond .ge 7, 3) := by decide +kernel
theorem dX4_isNegative_20 : decode cX4_isNegative 20 = .ok (.iconst 1, 1) := by decide +kernel
theorem dX4_isNegative_21 : decode cX4_isNegative 21 = .ok (.goto 4, 3) := by decide +kernel
theorem dX4_isNegative_24 : decode cX4_isNegative 24 = .ok (.iconst 0, 1) := by decide +kernel
theorem dX4_isNegative_25 : decode cX4_isNegative 25 = .ok (.ireturn, 1) := by decide +kernel
theorem dX4_bitsOf_0 : decode cX4_bitsOf 0 = .ok (.dload_n 0, 1) := by decide +kernel
theorem dX4_bitsOf_1 : decode cX4_bitsOf 1 = .ok (.invokestatic 35, 3) := by decide +kernel
theorem dX4_bitsOf_4 : decode cX4_bitsOf 4 = .ok (.ifCond .eq 9, 3) := by decide +kernel
theorem dX4_bitsOf_7 : decode cX4_bitsOf 7 = .ok (.ldc2_w 38, 3) := by decide +kernel
theorem dX4_bitsOf_10 : decode cX4_bitsOf 10 = .ok (.goto 4, 3) := by decide +kernel
theorem dX4_bitsOf_13 : decode cX4_bitsOf 13 = .ok (.lconst 0, 1) := by decide +kernel
theorem dX4_bitsOf_14 : decode cX4_bitsOf 14 = .ok (.lstore_n 2, 1) := by decide +kernel
theorem dX4_bitsOf_15 : decode cX4_bitsOf 15 = .ok (.dload_n 0, 1) := by decide +kernel
theorem dX4_bitsOf_16 : decode cX4_bitsOf 16 = .ok (.dconst 0, 1) := by decide +kernel
theorem dX4_bitsOf_17 : decode cX4_bitsOf 17 = .ok (.dcmp .l, 1) := by decide +kernel
theorem dX4_bitsOf_18 : decode cX4_bitsOf 18 = .ok (.ifCond .ne 5, 3) := by decide +kernel
theorem dX4_bitsOf_21 : decode cX4_bitsOf 21 = .ok (.lload_n 2, 1) := by decide +kernel
theorem dX4_bitsOf_22 : decode cX4_bitsOf 22 = .ok (.lreturn, 1) := by decide +kernel
theorem dX4_bitsOf_23 : decode cX4_bitsOf 23 = .ok (.dload_n 0, 1) := by decide +kernel
theorem dX4_bitsOf_24 : decode cX4_bitsOf 24 = .ok (.invokestatic 11, 3) := by decide +kernel
theorem dX4_bitsOf_27 : decode cX4_bitsOf 27 = .ok (.ifCond .eq 9, 3) := by decide +kernel
theorem dX4_bitsOf_30 : decode cX4_bitsOf 30 = .ok (.lload_n 2, 1) := by decide +kernel
theorem dX4_bitsOf_31 : decode cX4_bitsOf 31 = .ok (.ldc2_w 40, 3) := by decide +kernel
theorem dX4_bitsOf_34 : decode cX4_bitsOf 34 = .ok (.lor, 1) := by decide +kernel
theorem dX4_bitsOf_35 : decode cX4_bitsOf 35 = .ok (.lreturn, 1) := by decide +kernel
theorem dX4_bitsOf_36 : decode cX4_bitsOf 36 = .ok (.dload_n 0, 1) := by decide +kernel
theorem dX4_bitsOf_37 : decode cX4_bitsOf 37 = .ok (.dconst 0, 1) := by decide +kernel
theorem dX4_bitsOf_38 : decode cX4_bitsOf 38 = .ok (.dcmp .g, 1) := by decide +kernel
theorem dX4_bitsOf_39 : decode cX4_bitsOf 39 = .ok (.ifCond .ge 8, 3) := by decide +kernel
theorem dX4_bitsOf_42 : decode cX4_bitsOf 42 = .ok (.dload_n 0, 1) := by decide +kernel
theorem dX4_bitsOf_43 : decode cX4_bitsOf 43 = .ok (.dneg, 1) := by decide +kernel
theorem dX4_bitsOf_44 : decode cX4_bitsOf 44 = .ok (.goto 4, 3) := by decide +kernel
theorem dX4_bitsOf_47 : decode cX4_bitsOf 47 = .ok (.dload_n 0, 1) := by decide +kernel
theorem dX4_bitsOf_48 : decode cX4_bitsOf 48 = .ok (.dstore 4, 2) := by decide +kernel
theorem dX4_bitsOf_50 : decode cX4_bitsOf 50 = .ok (.ldc2_w 42, 3) := by decide +kernel
theorem dX4_bitsOf_53 : decode cX4_bitsOf 53 = .ok (.lstore 6, 2) := by decide +kernel
theorem dX4_bitsOf_55 : decode cX4_bitsOf 55 = .ok (.iconst 0, 1) := by decide +kernel
theorem dX4_bitsOf_56 : decode cX4_bitsOf 56 = .ok (.istore 8, 2) := by decide +kernel
theorem dX4_bitsOf_58 : decode cX4_bitsOf 58 = .ok (.iload 8, 2) := by decide +kernel
theorem dX4_bitsOf_60 : decode cX4_bitsOf 60 = .ok (.sipush 2000, 3) := by decide +kernel
theorem dX4_bitsOf_63 : decode cX4_bitsOf 63 = .ok (.if_icmp .ge 32, 3) := by decide +kernel
theorem dX4_bitsOf_66 : decode cX4_bitsOf 66 = .ok (.dload 4, 2) := by decide +kernel
theorem dX4_bitsOf_68 : decode cX4_bitsOf 68 = .ok (.ldc2_w 44, 3) := by decide +kernel
theorem dX4_bitsOf_71 : decode cX4_bitsOf 71 = .ok (.dcmp .l, 1) := by decide +kernel
theorem dX4_bitsOf_72 : decode cX4_bitsOf 72 = .ok (.ifCond .lt 23, 3) := by decide +kernel
theorem dX4_bitsOf_75 : decode cX4_bitsOf 75 = .ok (.dload 4, 2) := by decide +kernel
theorem dX4_bitsOf_77 : decode cX4_bitsOf 77 = .ok (.ldc2_w 21, 3) := by decide +kernel
theorem dX4_bitsOf_80 : decode cX4_bitsOf 80 = .ok (.ddiv, 1) := by decide +kernel
theorem dX4_bitsOf_81 : decode cX4_bitsOf 81 = .ok (.dstore 4, 2) := by decide +kernel
theorem dX4_bitsOf_83 : decode cX4_bitsOf 83 = .ok (.lload 6, 2) := by decide +kernel
theorem dX4_bitsOf_85 : decode cX4_bitsOf 85 = .ok (.lconst 1, 1) := by decide +kernel
theorem dX4_bitsOf_86 : decode cX4_bitsOf 86 = .ok (.ladd, 1) := by decide +kernel
theorem dX4_bitsOf_87 : decode cX4_bitsOf 87 = .ok (.lstore 6, 2) := by decide +kernel
theorem dX4_bitsOf_89 : decode cX4_bitsOf 89 = .ok (.iinc 8 1, 3) := by decide +kernel
theorem dX4_bitsOf_92 : decode cX4_bitsOf 92 = .ok (.goto (-34), 3) := by decide +kernel
theorem dX4_bitsOf_95 : decode cX4_bitsOf 95 = .ok (.iconst 0, 1) := by decide +kernel
theorem dX4_bitsOf_96 : decode cX4_bitsOf 96 = .ok (.istore 8, 2) := by decide +kernel
theorem dX4_bitsOf_98 : decode cX4_bitsOf 98 = .ok (.iload 8, 2) := by decide +kernel
theorem dX4_bitsOf_100 : decode cX4_bitsOf 100 = .ok (.sipush 2000, 3) := by decide +kernel
theorem dX4_bitsOf_103 : decode cX4_bitsOf 103 = .ok (.if_icmp .ge 39, 3) := by decide +kernel
theorem dX4_bitsOf_106 : decode cX4_bitsOf 106 = .ok (.dload 4, 2) := by decide +kernel
theorem dX4_bitsOf_108 : decode cX4_bitsOf 108 = .ok (.ldc2_w 46, 3) := by decide +kernel
theorem dX4_bitsOf_111 : decode cX4_bitsOf 111 = .ok (.dcmp .g, 1) := by decide +kernel
theorem dX4_bitsOf_112 : decode cX4_bitsOf 112 = .ok (.ifCond .ge 30, 3) := by decide +kernel
theorem dX4_bitsOf_115 : decode cX4_bitsOf 115 = .ok (.lload 6, 2) := by decide +kernel
theorem dX4_bitsOf_117 : decode cX4_bitsOf 117 = .ok (.lconst 1, 1) := by decide +kernel
theorem dX4_bitsOf_118 : decode cX4_bitsOf 118 = .ok (.lcmp, 1) := by decide +kernel
theorem dX4_bitsOf_119 : decode cX4_bitsOf 119 = .ok (.ifCond .le 23, 3) := by decide +kernel
theorem dX4_bitsOf_122 : decode cX4_bitsOf 122 = .ok (.dload 4, 2) := by decide +kernel
theorem dX4_bitsOf_124 : decode cX4_bitsOf 124 = .ok (.ldc2_w 21, 3) := by decide +kernel
theorem dX4_bitsOf_127 : decode cX4_bitsOf 127 = .ok (.dmul, 1) := by decide +kernel
theorem dX4_bitsOf_128 : decode cX4_bitsOf 128 = .ok (.dstore 4, 2) := by decide +kernel
theorem dX4_bitsOf_130 : decode cX4_bitsOf 130 = .ok (.lload 6, 2) := by decide +kernel
theorem dX4_bitsOf_132 : decode cX4_bitsOf 132 = .ok (.lconst 1, 1) := by decide +kernel
theorem dX4_bitsOf_133 : decode cX4_bitsOf 133 = .ok (.lsub, 1) := by decide +kernel
theorem dX4_bitsOf_134 : decode cX4_bitsOf 134 = .ok (.lstore 6, 2) := by decide +kernel
theorem dX4_bitsOf_136 : decode cX4_bitsOf 136 = .ok (.iinc 8 1, 3) := by decide +kernel
theorem dX4_bitsOf_139 : decode cX4_bitsOf 139 = .ok (.goto (-41), 3) := by decide +kernel
theorem dX4_bitsOf_142 : decode cX4_bitsOf 142 = .ok (.dload 4, 2) := by decide +kernel
theorem dX4_bitsOf_144 : decode cX4_bitsOf 144 = .ok (.d2l, 1) := by decide +kernel
theorem dX4_bitsOf_145 : decode cX4_bitsOf 145 = .ok (.lstore 8, 2) := by decide +kernel
theorem dX4_bitsOf_147 : decode cX4_bitsOf 147 = .ok (.lload 8, 2) := by decide +kernel
theorem dX4_bitsOf_149 : decode cX4_bitsOf 149 = .ok (.ldc2_w 48, 3) := by decide +kernel
theorem dX4_bitsOf_152 : decode cX4_bitsOf 152 = .ok (.lcmp, 1) := by decide +kernel
theorem dX4_bitsOf_153 : decode cX4_bitsOf 153 = .ok (.ifCond .ge 8, 3) := by decide +kernel
theorem dX4_bitsOf_156 : decode cX4_bitsOf 156 = .ok (.lload_n 2, 1) := by decide +kernel
theorem dX4_bitsOf_157 : decode cX4_bitsOf 157 = .ok (.lload 8, 2) := by decide +kernel
theorem dX4_bitsOf_159 : decode cX4_bitsOf 159 = .ok (.lor, 1) := by decide +kernel
theorem dX4_bitsOf_160 : decode cX4_bitsOf 160 = .ok (.lreturn, 1) := by decide +kernel
theorem dX4_bitsOf_161 : decode cX4_bitsOf 161 = .ok (.lload_n 2, 1) := by decide +kernel
theorem dX4_bitsOf_162 : decode cX4_bitsOf 162 = .ok (.lload 6, 2) := by decide +kernel
theorem dX4_bitsOf_164 : decode cX4_bitsOf 164 = .ok (.bipush 52, 2) := by decide +kernel
theorem dX4_bitsOf_166 : decode cX4_bitsOf 166 = .ok (.lshl, 1) := by decide +kernel
theorem dX4_bitsOf_167 : decode cX4_bitsOf 167 = .ok (.lor, 1) := by decide +kernel
theorem dX4_bitsOf_168 : decode cX4_bitsOf 168 = .ok (.lload 8, 2) := by decide +kernel
theorem dX4_bitsOf_170 : decode cX4_bitsOf 170 = .ok (.ldc2_w 50, 3) := by decide +kernel
theorem dX4_bitsOf_173 : decode cX4_bitsOf 173 = .ok (.land, 1) := by decide +kernel
theorem dX4_bitsOf_174 : decode cX4_bitsOf 174 = .ok (.lor, 1) := by decide +kernel
theorem dX4_bitsOf_175 : decode cX4_bitsOf 175 = .ok (.lreturn, 1) := by decide +kernel
theorem dX5_init_0 : decode cX5_init 0 = .ok (.aload_n 0, 1) := by decide +kernel
theorem dX5_init_1 : decode cX5_init 1 = .ok (.invokespecial 3, 3) := by decide +kernel
theorem dX5_init_4 : decode cX5_init 4 = .ok (.aload_n 0, 1) := by decide +kernel
theorem dX5_init_5 : decode cX5_init 5 = .ok (.bipush 8, 2) := by decide +kernel
theorem dX5_init_7 : decode cX5_init 7 = .ok (.newarray .int, 2) := by decide +kernel
theorem dX5_init_9 : decode cX5_init 9 = .ok (.putfield 9, 3) := by decide +kernel
theorem dX5_init_12 : decode cX5_init 12 = .ok (.aload_n 0, 1) := by decide +kernel
theorem dX5_init_13 : decode cX5_init 13 = .ok (.bipush 8, 2) := by decide +kernel
theorem dX5_init_15 : decode cX5_init 15 = .ok (.newarray .int, 2) := by decide +kernel
theorem dX5_init_17 : decode cX5_init 17 = .ok (.putfield 15, 3) := by decide +kernel
theorem dX5_init_20 : decode cX5_init 20 = .ok (.aload_n 0, 1) := by decide +kernel
theorem dX5_init_21 : decode cX5_init 21 = .ok (.bipush 8, 2) := by decide +kernel
theorem dX5_init_23 : decode cX5_init 23 = .ok (.newarray .int, 2) := by decide +kernel
theorem dX5_init_25 : decode cX5_init 25 = .ok (.putfield 18, 3) := by decide +kernel
theorem dX5_init_28 : decode cX5_init 28 = .ok (.aload_n 0, 1) := by decide +kernel
theorem dX5_init_29 : decode cX5_init 29 = .ok (.sipush 320, 3) := by decide +kernel
theorem dX5_init_32 : decode cX5_init 32 = .ok (.newarray .char, 2) := by decide +kernel
theorem dX5_init_34 : decode cX5_init 34 = .ok (.putfield 21, 3) := by decide +kernel
theorem dX5_init_37 : decode cX5_init 37 = .ok (.aload_n 0, 1) := by decide +kernel
theorem dX5_init_38 : decode cX5_init 38 = .ok (.sipush 320, 3) := by decide +kernel
theorem dX5_init_41 : decode cX5_init 41 = .ok (.newarray .int, 2) := by decide +kernel
theorem dX5_init_43 : decode cX5_init 43 = .ok (.putfield 25, 3) := by decide +kernel
theorem dX5_init_46 : decode cX5_init 46 = .ok (.aload_n 0, 1) := by decide +kernel
theorem dX5_init_47 : decode cX5_init 47 = .ok (.bipush 8, 2) := by decide +kernel
theorem dX5_init_49 : decode cX5_init 49 = .ok (.newarray .int, 2) := by decide +kernel
theorem dX5_init_51 : decode cX5_init 51 = .ok (.putfield 28, 3) := by decide +kernel
theorem dX5_init_54 : decode cX5_init 54 = .ok (.aload_n 0, 1) := by decide +kernel
theorem dX5_init_55 : decode cX5_init 55 = .ok (.iconst 5, 1) := by decide +kernel
theorem dX5_init_56 : decode cX5_init 56 = .ok (.newarray .int, 2) := by decide +kernel
theorem dX5_init_58 : decode cX5_init 58 = .ok (.putfield 31, 3) := by decide +kernel
theorem dX5_init_61 : decode cX5_init 61 = .ok (.aload_n 0, 1) := by decide +kernel
theorem dX5_init_62 : decode cX5_init 62 = .ok (.bipush 30, 2) := by decide +kernel
theorem dX5_init_64 : decode cX5_init 64 = .ok (.newarray .int, 2) := by decide +kernel
theorem dX5_init_66 : decode cX5_init 66 = .ok (.putfield 34, 3) := by decide +kernel
theorem dX5_init_69 : decode cX5_init 69 = .ok (.aload_n 0, 1) := by decide +kernel
theorem dX5_init_70 : decode cX5_init 70 = .ok (.getfield 18, 3) := by decide +kernel
theorem dX5_init_73 : decode cX5_init 73 = .ok (.iconst (-1), 1) := by decide +kernel
theorem dX5_init_74 : decode cX5_init 74 = .ok (.invokestatic 37, 3) := by decide +kernel
theorem dX5_init_77 : decode cX5_init 77 = .ok (.aload_n 0, 1) := by decide +kernel
theorem dX5_init_78 : decode cX5_init 78 = .ok (.getfield 34, 3) := by decide +kernel
theorem dX5_init_81 : decode cX5_init 81 = .ok (.iconst (-1), 1) := by decide +kernel
theorem dX5_init_82 : decode cX5_init 82 = .ok (.invokestatic 37, 3) := by decide +kernel
theorem dX5_init_85 : decode cX5_init 85 = .ok (.return_, 1) := by decide +kernel
theorem dX5_hasFunction_0 : decode cX5_hasFunction 0 = .ok (.iload_n 1, 1) := by decide +kernel
theorem dX5_hasFunction_1 : decode cX5_hasFunction 1 = .ok (.ifCond .lt 15, 3) := by decide +kernel
theorem dX5_hasFunction_4 : decode cX5_hasFunction 4 = .ok (.iload_n 1, 1) := by decide +kernel
theorem dX5_hasFunction_5 : decode cX5_hasFunction 5 = .ok (.aload_n 0, 1) := by decide +kernel
theorem dX5_hasFunction_6 : decode cX5_hasFunction 6 = .ok (.getfield 43, 3) := by decide +kernel
theorem dX5_hasFunction_9 : decode cX5_hasFunction 9 = .ok (.if_icmp .ge 7, 3) := by decide +kernel
theorem dX5_hasFunction_12 : decode cX5_hasFunction 12 = .ok (.iconst 1, 1) := by decide +kernel
theorem dX5_hasFunction_13 : decode cX5_hasFunction 13 = .ok (.goto 4, 3) := by decide +kernel
theorem dX5_hasFunction_16 : decode cX5_hasFunction 16 = .ok (.iconst 0, 1) := by decide +kernel
theorem dX5_hasFunction_17 : decode cX5_hasFunction 17 = .ok (.ireturn, 1) := by decide +kernel
theorem dX5_hasClass_0 : decode cX5_hasClass 0 = .ok (.iload_n 1, 1) := by decide +kernel
theorem dX5_hasClass_1 : decode cX5_hasClass 1 = .ok (.ifCond .lt 15, 3) := by decide +kernel
theorem dX5_hasClass_4 : decode cX5_hasClass 4 = .ok (.iload_n 1, 1) := by decide +kernel
theorem dX5_hasClass_5 : decode cX5_hasClass 5 = .ok (.aload_n 0, 1) := by decide +kernel
theorem dX5_hasClass_6 : decode cX5_hasClass 6 = .ok (.getfield 47, 3) := by decide +kernel
theorem dX5_hasClass_9 : decode cX5_hasClass 9 = .ok (.if_icmp .ge 7, 3) := by decide +kernel
theorem dX5_hasClass_12 : decode cX5_hasClass 12 = .ok (.iconst 1, 1) := by decide +kernel
theorem dX5_hasClass_13 : decode cX5_hasClass 13 = .ok (.goto 4, 3) := by decide +kernel
theorem dX5_hasClass_16 : decode cX5_hasClass 16 = .ok (.iconst 0, 1) := by decide +kernel
theorem dX5_hasClass_17 : decode cX5_hasClass 17 = .ok (.ireturn, 1) := by decide +kernel
theorem dX5_hasCode_0 : decode cX5_hasCode 0 = .ok (.iload_n 2, 1) := by decide +kernel
theorem dX5_hasCode_1 : decode cX5_hasCode 1 = .ok (.ifCond .lt 17, 3) := by decide +kernel
theorem dX5_hasCode_4 : decode cX5_hasCode 4 = .ok (.iload_n 2, 1) := by decide +kernel
theorem dX5_hasCode_5 : decode cX5_hasCode 5 = .ok (.aload_n 0, 1) := by decide +kernel
theorem dX5_hasCode_6 : decode cX5_hasCode 6 = .ok (.getfield 15, 3) := by decide +kernel
theorem dX5_hasCode_9 : decode cX5_hasCode 9 = .ok (.iload_n 1, 1) := by decide +kernel
theorem dX5_hasCode_10 : decode cX5_hasCode 10 = .ok (.iaload, 1) := by decide +kernel
theorem dX5_hasCode_11 : decode cX5_hasCode 11 = .ok (.if_icmp .ge 7, 3) := by decide +kernel
theorem dX5_hasCode_14 : decode cX5_hasCode 14 = .ok (.iconst 1, 1) := by decide +kernel
theorem dX5_hasCode_15 : decode cX5_hasCode 15 = .ok (.goto 4, 3) := by decide +kernel
theorem dX5_hasCode_18 : decode cX5_hasCode 18 = .ok (.iconst 0, 1) := by decide +kernel
theorem dX5_hasCode_19 : decode cX5_hasCode 19 = .ok (.ireturn, 1) := by decide +kernel
theorem dX5_addFunctionWith_0 : decode cX5_addFunctionWith 0 = .ok (.aload_n 0, 1) := by decide +kernel
theorem dX5_addFunctionWith_1 : decode cX5_addFunctionWith 1 = .ok (.getfield 9, 3) := by decide +kernel
theorem dX5_addFunctionWith_4 : decode cX5_addFunctionWith 4 = .ok (.aload_n 0, 1) := by decide +kernel
theorem dX5_addFunctionWith_5 : decode cX5_addFunctionWith 5 = .ok (.getfield 43, 3) := by decide +kernel
theorem dX5_addFunctionWith_8 : decode cX5_addFunctionWith 8 = .ok (.iload_n 1, 1) := by decide +kernel
theorem dX5_addFunctionWith_9 : decode cX5_addFunctionWith 9 = .ok (.iastore, 1) := by decide +kernel
theorem dX5_addFunctionWith_10 : decode cX5_addFunctionWith 10 = .ok (.aload_n 0, 1) := by decide +kernel
theorem dX5_addFunctionWith_11 : decode cX5_addFunctionWith 11 = .ok (.dup, 1) := by decide +kernel
theorem dX5_addFunctionWith_12 : decode cX5_addFunctionWith 12 = .ok (.getfield 43, 3) := by decide +kernel
theorem dX5_addFunctionWith_15 : decode cX5_addFunctionWith 15 = .ok (.iconst 1, 1) := by decide +kernel
theorem dX5_addFunctionWith_16 : decode cX5_addFunctionWith 16 = .ok (.iadd, 1) := by decide +kernel
theorem dX5_addFunctionWith_17 : decode cX5_addFunctionWith 17 = .ok (.putfield 43, 3) := by decide +kernel
theorem dX5_addFunctionWith_20 : decode cX5_addFunctionWith 20 = .ok (.aload_n 0, 1) := by decide +kernel
theorem dX5_addFunctionWith_21 : decode cX5_addFunctionWith 21 = .ok (.getfield 43, 3) := by decide +kernel
theorem dX5_addFunctionWith_24 : decode cX5_addFunctionWith 24 = .ok (.iconst 1, 1) := by decide +kernel
theorem dX5_addFunctionWith_25 : decode cX5_addFunctionWith 25 = .ok (.isub, 1) := by decide +kernel
theorem dX5_addFunctionWith_26 : decode cX5_addFunctionWith 26 = .ok (.ireturn, 1) := by decide +kernel
theorem dX5_addClassBelow_0 : decode cX5_addClassBelow 0 = .ok (.aload_n 0, 1) := by decide +kernel
theorem dX5_addClassBelow_1 : decode cX5_addClassBelow 1 = .ok (.getfield 31, 3) := by decide +kernel
theorem dX5_addClassBelow_4 : decode cX5_addClassBelow 4 = .ok (.aload_n 0, 1) := by decide +kernel
theorem dX5_addClassBelow_5 : decode cX5_addClassBelow 5 = .ok (.getfield 47, 3) := by decide +kernel
theorem dX5_addClassBelow_8 : decode cX5_addClassBelow 8 = .ok (.iload_n 1, 1) := by decide +kernel
theorem dX5_addClassBelow_9 : decode cX5_addClassBelow 9 = .ok (.iastore, 1) := by decide +kernel
theorem dX5_addClassBelow_10 : decode cX5_addClassBelow 10 = .ok (.aload_n 0, 1) := by decide +kernel
theorem dX5_addClassBelow_11 : decode cX5_addClassBelow 11 = .ok (.dup, 1) := by decide +kernel
theorem dX5_addClassBelow_12 : decode cX5_addClassBelow 12 = .ok (.getfield 47, 3) := by decide +kernel
theorem dX5_addClassBelow_15 : decode cX5_addClassBelow 15 = .ok (.iconst 1, 1) := by decide +kernel
theorem dX5_addClassBelow_16 : decode cX5_addClassBelow 16 = .ok (.iadd, 1) := by decide +kernel
theorem dX5_addClassBelow_17 : decode cX5_addClassBelow 17 = .ok (.putfield 47, 3) := by decide +kernel
theorem dX5_addClassBelow_20 : decode cX5_addClassBelow 20 = .ok (.aload_n 0, 1) := by decide +kernel
theorem dX5_addClassBelow_21 : decode cX5_addClassBelow 21 = .ok (.getfield 47, 3) := by decide +kernel
theorem dX5_addClassBelow_24 : decode cX5_addClassBelow 24 = .ok (.iconst 1, 1) := by decide +kernel
theorem dX5_addClassBelow_25 : decode cX5_addClassBelow 25 = .ok (.isub, 1) := by decide +kernel
theorem dX5_addClassBelow_26 : decode cX5_addClassBelow 26 = .ok (.ireturn, 1) := by decide +kernel
theorem dX5_append_0 : decode cX5_append 0 = .ok (.iload_n 1, 1) := by decide +kernel
theorem dX5_append_1 : decode cX5_append 1 = .ok (.aload_n 0, 1) := by decide +kernel
theorem dX5_append_2 : decode cX5_append 2 = .ok (.getfield 15, 3) := by decide +kernel
theorem dX5_append_5 : decode cX5_append 5 = .ok (.iload_n 1, 1) := by decide +kernel
theorem dX5_append_6 : decode cX5_append 6 = .ok (.iaload, 1) := by decide +kernel
theorem dX5_append_7 : decode cX5_append 7 = .ok (.invokestatic 50, 3) := by decide +kernel
theorem dX5_append_10 : decode cX5_append 10 = .ok (.istore 4, 2) := by decide +kernel
theorem dX5_append_12 : decode cX5_append 12 = .ok (.aload_n 0, 1) := by decide +kernel
theorem dX5_append_13 : decode cX5_append 13 = .ok (.getfield 21, 3) := by decide +kernel
theorem dX5_append_16 : decode cX5_append 16 = .ok (.iload 4, 2) := by decide +kernel
theorem dX5_append_18 : decode cX5_append 18 = .ok (.iload_n 2, 1) := by decide +kernel
theorem dX5_append_19 : decode cX5_append 19 = .ok (.castore, 1) := by decide +kernel
theorem dX5_append_20 : decode cX5_append 20 = .ok (.aload_n 0, 1) := by decide +kernel
theorem dX5_append_21 : decode cX5_append 21 = .ok (.getfield 25, 3) := by decide +kernel
theorem dX5_append_24 : decode cX5_append 24 = .ok (.iload 4, 2) := by decide +kernel
theorem dX5_append_26 : decode cX5_append 26 = .ok (.iload_n 3, 1) := by decide +kernel
theorem dX5_append_27 : decode cX5_append 27 = .ok (.iastore, 1) := by decide +kernel
theorem dX5_append_28 : decode cX5_append 28 = .ok (.aload_n 0, 1) := by decide +kernel
theorem dX5_append_29 : decode cX5_append 29 = .ok (.getfield 15, 3) := by decide +kernel
theorem dX5_append_32 : decode cX5_append 32 = .ok (.iload_n 1, 1) := by decide +kernel
theorem dX5_append_33 : decode cX5_append 33 = .ok (.dup2, 1) := by decide +kernel
theorem dX5_append_34 : decode cX5_append 34 = .ok (.iaload, 1) := by decide +kernel
theorem dX5_append_35 : decode cX5_append 35 = .ok (.iconst 1, 1) := by decide +kernel
theorem dX5_append_36 : decode cX5_append 36 = .ok (.iadd, 1) := by decide +kernel
theorem dX5_append_37 : decode cX5_append 37 = .ok (.iastore, 1) := by decide +kernel
theorem dX5_append_38 : decode cX5_append 38 = .ok (.aload_n 0, 1) := by decide +kernel
theorem dX5_append_39 : decode cX5_append 39 = .ok (.getfield 15, 3) := by decide +kernel
theorem dX5_append_42 : decode cX5_append 42 = .ok (.iload_n 1, 1) := by decide +kernel
theorem dX5_append_43 : decode cX5_append 43 = .ok (.iaload, 1) := by decide +kernel
theorem dX5_append_44 : decode cX5_append 44 = .ok (.ireturn, 1) := by decide +kernel
theorem dX5_allowsOperand_0 : decode cX5_allowsOperand 0 = .ok (.iload_n 1, 1) := by decide +kernel
theorem dX5_allowsOperand_1 : decode cX5_allowsOperand 1 = .ok (.bipush 105, 2) := by decide +kernel
theorem dX5_allowsOperand_3 : decode cX5_allowsOperand 3 = .ok (.if_icmp .eq 16, 3) := by decide +kernel
theorem dX5_allowsOperand_6 : decode cX5_allowsOperand 6 = .ok (.iload_n 2, 1) := by decide +kernel
theorem dX5_allowsOperand_7 : decode cX5_allowsOperand 7 = .ok (.ifCond .lt 16, 3) := by decide +kernel
theorem dX5_allowsOperand_10 : decode cX5_allowsOperand 10 = .ok (.iload_n 2, 1) := by decide +kernel
theorem dX5_allowsOperand_11 : decode cX5_allowsOperand 11 = .ok (.aload_n 0, 1) := by decide +kernel
theorem dX5_allowsOperand_12 : decode cX5_allowsOperand 12 = .ok (.iload_n 1, 1) := by decide +kernel
theorem dX5_allowsOperand_13 : decode cX5_allowsOperand 13 = .ok (.invokevirtual 54, 3) := by decide +kernel
theorem dX5_allowsOperand_16 : decode cX5_allowsOperand 16 = .ok (.if_icmp .ge 7, 3) := by decide +kernel
theorem dX5_allowsOperand_19 : decode cX5_allowsOperand 19 = .ok (.iconst 1, 1) := by decide +kernel
theorem dX5_allowsOperand_20 : decode cX5_allowsOperand 20 = .ok (.goto 4, 3) := by decide +kernel
theorem dX5_allowsOperand_23 : decode cX5_allowsOperand 23 = .ok (.iconst 0, 1) := by decide +kernel
theorem dX5_allowsOperand_24 : decode cX5_allowsOperand 24 = .ok (.ireturn, 1) := by decide +kernel
theorem dX5_operandBound_0 : decode cX5_operandBound 0 = .ok (.iload_n 1, 1) := by decide +kernel
theorem dX5_operandBound_1 : decode cX5_operandBound 1 = .ok (.tableswitch 133 99 122 #[128, 133, 133, 133, 125, 133, 133, 117, 111, 114, 125, 120, 133, 125, 133, 133, 114, 133, 133, 133, 133, 133, 133, 117], 111) := by decide +kernel
theorem dX5_operandBound_112 : decode cX5_operandBound 112 = .ok (.bipush 8, 2) := by decide +kernel
theorem dX5_operandBound_114 : decode cX5_operandBound 114 = .ok (.ireturn, 1) := by decide +kernel
theorem dX5_operandBound_115 : decode cX5_operandBound 115 = .ok (.bipush 6, 2) := by decide +kernel
theorem dX5_operandBound_117 : decode cX5_operandBound 117 = .ok (.ireturn, 1) := by decide +kernel
theorem dX5_operandBound_118 : decode cX5_operandBound 118 = .ok (.bipush 40, 2) := by decide +kernel
theorem dX5_operandBound_120 : decode cX5_operandBound 120 = .ok (.ireturn, 1) := by decide +kernel
theorem dX5_operandBound_121 : decode cX5_operandBound 121 = .ok (.aload_n 0, 1) := by decide +kernel
theorem dX5_operandBound_122 : decode cX5_operandBound 122 = .ok (.getfield 47, 3) := by decide +kernel
theorem dX5_operandBound_125 : decode cX5_operandBound 125 = .ok (.ireturn, 1) := by decide +kernel
theorem dX5_operandBound_126 : decode cX5_operandBound 126 = .ok (.bipush 6, 2) := by decide +kernel
theorem dX5_operandBound_128 : decode cX5_operandBound 128 = .ok (.ireturn, 1) := by decide +kernel
theorem dX5_operandBound_129 : decode cX5_operandBound 129 = .ok (.aload_n 0, 1) := by decide +kernel
theorem dX5_operandBound_130 : decode cX5_operandBound 130 = .ok (.getfield 43, 3) := by decide +kernel
theorem dX5_operandBound_133 : decode cX5_operandBound 133 = .ok (.ireturn, 1) := by decide +kernel
theorem dX5_operandBound_134 : decode cX5_operandBound 134 = .ok (.iconst 1, 1) := by decide +kernel
theorem dX5_operandBound_135 : decode cX5_operandBound 135 = .ok (.ireturn, 1) := by decide +kernel
theorem dX5_methodOf_0 : decode cX5_methodOf 0 = .ok (.iload_n 1, 1) := by decide +kernel
theorem dX5_methodOf_1 : decode cX5_methodOf 1 = .ok (.istore_n 3, 1) := by decide +kernel
theorem dX5_methodOf_2 : decode cX5_methodOf 2 = .ok (.iconst 0, 1) := by decide +kernel
theorem dX5_methodOf_3 : decode cX5_methodOf 3 = .ok (.istore 4, 2) := by decide +kernel
theorem dX5_methodOf_5 : decode cX5_methodOf 5 = .ok (.iload 4, 2) := by decide +kernel
theorem dX5_methodOf_7 : decode cX5_methodOf 7 = .ok (.iconst 5, 1) := by decide +kernel
theorem dX5_methodOf_8 : decode cX5_methodOf 8 = .ok (.if_icmp .ge 48, 3) := by decide +kernel
theorem dX5_methodOf_11 : decode cX5_methodOf 11 = .ok (.iload_n 3, 1) := by decide +kernel
theorem dX5_methodOf_12 : decode cX5_methodOf 12 = .ok (.iconst (-1), 1) := by decide +kernel
theorem dX5_methodOf_13 : decode cX5_methodOf 13 = .ok (.if_icmp .eq 43, 3) := by decide +kernel
theorem dX5_methodOf_16 : decode cX5_methodOf 16 = .ok (.aload_n 0, 1) := by decide +kernel
theorem dX5_methodOf_17 : decode cX5_methodOf 17 = .ok (.getfield 34, 3) := by decide +kernel
theorem dX5_methodOf_20 : decode cX5_methodOf 20 = .ok (.iload_n 3, 1) := by decide +kernel
theorem dX5_methodOf_21 : decode cX5_methodOf 21 = .ok (.bipush 6, 2) := by decide +kernel
theorem dX5_methodOf_23 : decode cX5_methodOf 23 = .ok (.imul, 1) := by decide +kernel
theorem dX5_methodOf_24 : decode cX5_methodOf 24 = .ok (.iload_n 2, 1) := by decide +kernel
theorem dX5_methodOf_25 : decode cX5_methodOf 25 = .ok (.iadd, 1) := by decide +kernel
theorem dX5_methodOf_26 : decode cX5_methodOf 26 = .ok (.iaload, 1) := by decide +kernel
theorem dX5_methodOf_27 : decode cX5_methodOf 27 = .ok (.iconst (-1), 1) := by decide +kernel
theorem dX5_methodOf_28 : decode cX5_methodOf 28 = .ok (.if_icmp .eq 15, 3) := by decide +kernel
theorem dX5_methodOf_31 : decode cX5_methodOf 31 = .ok (.aload_n 0, 1) := by decide +kernel
theorem dX5_methodOf_32 : decode cX5_methodOf 32 = .ok (.getfield 34, 3) := by decide +kernel
theorem dX5_methodOf_35 : decode cX5_methodOf 35 = .ok (.iload_n 3, 1) := by decide +kernel
theorem dX5_methodOf_36 : decode cX5_methodOf 36 = .ok (.bipush 6, 2) := by decide +kernel
theorem dX5_methodOf_38 : decode cX5_methodOf 38 = .ok (.imul, 1) := by decide +kernel
theorem dX5_methodOf_39 : decode cX5_methodOf 39 = .ok (.iload_n 2, 1) := by decide +kernel
theorem dX5_methodOf_40 : decode cX5_methodOf 40 = .ok (.iadd, 1) := by decide +kernel
theorem dX5_methodOf_41 : decode cX5_methodOf 41 = .ok (.iaload, 1) := by decide +kernel
theorem dX5_methodOf_42 : decode cX5_methodOf 42 = .ok (.ireturn, 1) := by decide +kernel
theorem dX5_methodOf_43 : decode cX5_methodOf 43 = .ok (.aload_n 0, 1) := by decide +kernel
theorem dX5_methodOf_44 : decode cX5_methodOf 44 = .ok (.getfield 31, 3) := by decide +kernel
theorem dX5_methodOf_47 : decode cX5_methodOf 47 = .ok (.iload_n 3, 1) := by decide +kernel
theorem dX5_methodOf_48 : decode cX5_methodOf 48 = .ok (.iaload, 1) := by decide +kernel
theorem dX5_methodOf_49 : decode cX5_methodOf 49 = .ok (.istore_n 3, 1) := by decide +kernel
theorem dX5_methodOf_50 : decode cX5_methodOf 50 = .ok (.iinc 4 1, 3) := by decide +kernel
theorem dX5_methodOf_53 : decode cX5_methodOf 53 = .ok (.goto (-48), 3) := by decide +kernel
theorem dX5_methodOf_56 : decode cX5_methodOf 56 = .ok (.iconst (-1), 1) := by decide +kernel
theorem dX5_methodOf_57 : decode cX5_methodOf 57 = .ok (.ireturn, 1) := by decide +kernel
theorem dX6_init_0 : decode cX6_init 0 = .ok (.aload_n 0, 1) := by decide +kernel
theorem dX6_init_1 : decode cX6_init 1 = .ok (.invokespecial 3, 3) := by decide +kernel
theorem dX6_init_4 : decode cX6_init 4 = .ok (.aload_n 0, 1) := by decide +kernel
theorem dX6_init_5 : decode cX6_init 5 = .ok (.bipush 30, 2) := by decide +kernel
theorem dX6_init_7 : decode cX6_init 7 = .ok (.newarray .int, 2) := by decide +kernel
theorem dX6_init_9 : decode cX6_init 9 = .ok (.putfield 9, 3) := by decide +kernel
theorem dX6_init_12 : decode cX6_init 12 = .ok (.aload_n 0, 1) := by decide +kernel
theorem dX6_init_13 : decode cX6_init 13 = .ok (.bipush 31, 2) := by decide +kernel
theorem dX6_init_15 : decode cX6_init 15 = .ok (.newarray .int, 2) := by decide +kernel
theorem dX6_init_17 : decode cX6_init 17 = .ok (.putfield 15, 3) := by decide +kernel
theorem dX6_init_20 : decode cX6_init 20 = .ok (.aload_n 0, 1) := by decide +kernel
theorem dX6_init_21 : decode cX6_init 21 = .ok (.bipush 120, 2) := by decide +kernel
theorem dX6_init_23 : decode cX6_init 23 = .ok (.newarray .int, 2) := by decide +kernel
theorem dX6_init_25 : decode cX6_init 25 = .ok (.putfield 18, 3) := by decide +kernel
theorem dX6_init_28 : decode cX6_init 28 = .ok (.aload_n 0, 1) := by decide +kernel
theorem dX6_init_29 : decode cX6_init 29 = .ok (.bipush 120, 2) := by decide +kernel
theorem dX6_init_31 : decode cX6_init 31 = .ok (.newarray .int, 2) := by decide +kernel
theorem dX6_init_33 : decode cX6_init 33 = .ok (.putfield 21, 3) := by decide +kernel
theorem dX6_init_36 : decode cX6_init 36 = .ok (.aload_n 0, 1) := by decide +kernel
theorem dX6_init_37 : decode cX6_init 37 = .ok (.bipush 120, 2) := by decide +kernel
theorem dX6_init_39 : decode cX6_init 39 = .ok (.newarray .int, 2) := by decide +kernel
theorem dX6_init_41 : decode cX6_init 41 = .ok (.putfield 24, 3) := by decide +kernel
theorem dX6_init_44 : decode cX6_init 44 = .ok (.aload_n 0, 1) := by decide +kernel
theorem dX6_init_45 : decode cX6_init 45 = .ok (.bipush 120, 2) := by decide +kernel
theorem dX6_init_47 : decode cX6_init 47 = .ok (.newarray .int, 2) := by decide +kernel
theorem dX6_init_49 : decode cX6_init 49 = .ok (.putfield 27, 3) := by decide +kernel
theorem dX6_init_52 : decode cX6_init 52 = .ok (.aload_n 0, 1) := by decide +kernel
theorem dX6_init_53 : decode cX6_init 53 = .ok (.sipush 378, 3) := by decide +kernel
theorem dX6_init_56 : decode cX6_init 56 = .ok (.newarray .int, 2) := by decide +kernel
theorem dX6_init_58 : decode cX6_init 58 = .ok (.putfield 30, 3) := by decide +kernel
theorem dX6_init_61 : decode cX6_init 61 = .ok (.return_, 1) := by decide +kernel
theorem dX6_beginRoot_0 : decode cX6_beginRoot 0 = .ok (.aload_n 0, 1) := by decide +kernel
theorem dX6_beginRoot_1 : decode cX6_beginRoot 1 = .ok (.iconst (-1), 1) := by decide +kernel
theorem dX6_beginRoot_2 : decode cX6_beginRoot 2 = .ok (.putfield 33, 3) := by decide +kernel
theorem dX6_beginRoot_5 : decode cX6_beginRoot 5 = .ok (.aload_n 0, 1) := by decide +kernel
theorem dX6_beginRoot_6 : decode cX6_beginRoot 6 = .ok (.iconst (-1), 1) := by decide +kernel
theorem dX6_beginRoot_7 : decode cX6_beginRoot 7 = .ok (.putfield 37, 3) := by decide +kernel
theorem dX6_beginRoot_10 : decode cX6_beginRoot 10 = .ok (.aload_n 0, 1) := by decide +kernel
theorem dX6_beginRoot_11 : decode cX6_beginRoot 11 = .ok (.aload_n 1, 1) := by decide +kernel
theorem dX6_beginRoot_12 : decode cX6_beginRoot 12 = .ok (.iload_n 2, 1) := by decide +kernel
theorem dX6_beginRoot_13 : decode cX6_beginRoot 13 = .ok (.aload_n 1, 1) := by decide +kernel
theorem dX6_beginRoot_14 : decode cX6_beginRoot 14 = .ok (.getfield 40, 3) := by decide +kernel
theorem dX6_beginRoot_17 : decode cX6_beginRoot 17 = .ok (.invokevirtual 45, 3) := by decide +kernel
theorem dX6_beginRoot_20 : decode cX6_beginRoot 20 = .ok (.return_, 1) := by decide +kernel
theorem dX6_beginSide_0 : decode cX6_beginSide 0 = .ok (.aload_n 0, 1) := by decide +kernel
theorem dX6_beginSide_1 : decode cX6_beginSide 1 = .ok (.iload_n 3, 1) := by decide +kernel
theorem dX6_beginSide_2 : decode cX6_beginSide 2 = .ok (.putfield 33, 3) := by decide +kernel
theorem dX6_beginSide_5 : decode cX6_beginSide 5 = .ok (.aload_n 0, 1) := by decide +kernel
theorem dX6_beginSide_6 : decode cX6_beginSide 6 = .ok (.iload 4, 2) := by decide +kernel
theorem dX6_beginSide_8 : decode cX6_beginSide 8 = .ok (.putfield 37, 3) := by decide +kernel
theorem dX6_beginSide_11 : decode cX6_beginSide 11 = .ok (.aload_n 0, 1) := by decide +kernel
theorem dX6_beginSide_12 : decode cX6_beginSide 12 = .ok (.aload_n 1, 1) := by decide +kernel
theorem dX6_beginSide_13 : decode cX6_beginSide 13 = .ok (.aload_n 2, 1) := by decide +kernel
theorem dX6_beginSide_14 : decode cX6_beginSide 14 = .ok (.getfield 49, 3) := by decide +kernel
theorem dX6_beginSide_17 : decode cX6_beginSide 17 = .ok (.iload 5, 2) := by decide +kernel
theorem dX6_beginSide_19 : decode cX6_beginSide 19 = .ok (.invokevirtual 45, 3) := by decide +kernel
theorem dX6_beginSide_22 : decode cX6_beginSide 22 = .ok (.return_, 1) := by decide +kernel
theorem dX6_begin_0 : decode cX6_begin 0 = .ok (.aload_n 0, 1) := by decide +kernel
theorem dX6_begin_1 : decode cX6_begin 1 = .ok (.iconst 1, 1) := by decide +kernel
theorem dX6_begin_2 : decode cX6_begin 2 = .ok (.putfield 54, 3) := by decide +kernel
theorem dX6_begin_5 : decode cX6_begin 5 = .ok (.aload_n 0, 1) := by decide +kernel
theorem dX6_begin_6 : decode cX6_begin 6 = .ok (.iload_n 2, 1) := by decide +kernel
theorem dX6_begin_7 : decode cX6_begin 7 = .ok (.putfield 58, 3) := by decide +kernel
theorem dX6_begin_10 : decode cX6_begin 10 = .ok (.aload_n 0, 1) := by decide +kernel
theorem dX6_begin_11 : decode cX6_begin 11 = .ok (.iload_n 3, 1) := by decide +kernel
theorem dX6_begin_12 : decode cX6_begin 12 = .ok (.putfield 59, 3) := by decide +kernel
theorem dX6_begin_15 : decode cX6_begin 15 = .ok (.aload_n 0, 1) := by decide +kernel
theorem dX6_begin_16 : decode cX6_begin 16 = .ok (.iconst 0, 1) := by decide +kernel
theorem dX6_begin_17 : decode cX6_begin 17 = .ok (.putfield 62, 3) := by decide +kernel
theorem dX6_begin_20 : decode cX6_begin 20 = .ok (.aload_n 0, 1) := by decide +kernel
theorem dX6_begin_21 : decode cX6_begin 21 = .ok (.iconst 0, 1) := by decide +kernel
theorem dX6_begin_22 : decode cX6_begin 22 = .ok (.putfield 65, 3) := by decide +kernel
theorem dX6_begin_25 : decode cX6_begin 25 = .ok (.iconst 0, 1) := by decide +kernel
theorem dX6_begin_26 : decode cX6_begin 26 = .ok (.istore 4, 2) := by decide +kernel
theorem dX6_begin_28 : decode cX6_begin 28 = .ok (.iload 4, 2) := by decide +kernel
theorem dX6_begin_30 : decode cX6_begin 30 = .ok (.sipush 168, 3) := by decide +kernel
theorem dX6_begin_33 : decode cX6_begin 33 = .ok (.if_icmp .ge 29, 3) := by decide +kernel
theorem dX6_begin_36 : decode cX6_begin 36 = .ok (.aload_n 1, 1) := by decide +kernel
theorem dX6_begin_37 : decode cX6_begin 37 = .ok (.getfield 68, 3) := by decide +kernel
theorem dX6_begin_40 : decode cX6_begin 40 = .ok (.getfield 72, 3) := by decide +kernel
theorem dX6_begin_43 : decode cX6_begin 43 = .ok (.iload 4, 2) := by decide +kernel
theorem dX6_begin_45 : decode cX6_begin 45 = .ok (.iload 4, 2) := by decide +kernel
theorem dX6_begin_47 : decode cX6_begin 47 = .ok (.iastore, 1) := by decide +kernel
theorem dX6_begin_48 : decode cX6_begin 48 = .ok (.aload_n 0, 1) := by decide +kernel
theorem dX6_begin_49 : decode cX6_begin 49 = .ok (.getfield 30, 3) := by decide +kernel
theorem dX6_begin_52 : decode cX6_begin 52 = .ok (.iload 4, 2) := by decide +kernel
theorem dX6_begin_54 : decode cX6_begin 54 = .ok (.iconst 0, 1) := by decide +kernel
theorem dX6_begin_55 : decode cX6_begin 55 = .ok (.iastore, 1) := by decide +kernel
theorem dX6_begin_56 : decode cX6_begin 56 = .ok (.iinc 4 1, 3) := by decide +kernel
theorem dX6_begin_59 : decode cX6_begin 59 = .ok (.goto (-31), 3) := by decide +kernel
theorem dX6_begin_62 : decode cX6_begin 62 = .ok (.aload_n 0, 1) := by decide +kernel
theorem dX6_begin_63 : decode cX6_begin 63 = .ok (.sipush 168, 3) := by decide +kernel
theorem dX6_begin_66 : decode cX6_begin 66 = .ok (.putfield 77, 3) := by decide +kernel
theorem dX6_begin_69 : decode cX6_begin 69 = .ok (.return_, 1) := by decide +kernel
theorem dX6_isFull_0 : decode cX6_isFull 0 = .ok (.aload_n 0, 1) := by decide +kernel
theorem dX6_isFull_1 : decode cX6_isFull 1 = .ok (.getfield 62, 3) := by decide +kernel
theorem dX6_isFull_4 : decode cX6_isFull 4 = .ok (.bipush 30, 2) := by decide +kernel
theorem dX6_isFull_6 : decode cX6_isFull 6 = .ok (.if_icmp .lt 7, 3) := by decide +kernel
theorem dX6_isFull_9 : decode cX6_isFull 9 = .ok (.iconst 1, 1) := by decide +kernel
theorem dX6_isFull_10 : decode cX6_isFull 10 = .ok (.goto 4, 3) := by decide +kernel
theorem dX6_isFull_13 : decode cX6_isFull 13 = .ok (.iconst 0, 1) := by decide +kernel
theorem dX6_isFull_14 : decode cX6_isFull 14 = .ok (.ireturn, 1) := by decide +kernel
theorem dX6_isClosedBy_0 : decode cX6_isClosedBy 0 = .ok (.aload_n 1, 1) := by decide +kernel
theorem dX6_isClosedBy_1 : decode cX6_isClosedBy 1 = .ok (.getfield 40, 3) := by decide +kernel
theorem dX6_isClosedBy_4 : decode cX6_isClosedBy 4 = .ok (.aload_n 0, 1) := by decide +kernel
theorem dX6_isClosedBy_5 : decode cX6_isClosedBy 5 = .ok (.getfield 59, 3) := by decide +kernel
theorem dX6_isClosedBy_8 : decode cX6_isClosedBy 8 = .ok (.if_icmp .ne 18, 3) := by decide +kernel
theorem dX6_isClosedBy_11 : decode cX6_isClosedBy 11 = .ok (.aload_n 1, 1) := by decide +kernel
theorem dX6_isClosedBy_12 : decode cX6_isClosedBy 12 = .ok (.invokevirtual 80, 3) := by decide +kernel
theorem dX6_isClosedBy_15 : decode cX6_isClosedBy 15 = .ok (.aload_n 0, 1) := by decide +kernel
theorem dX6_isClosedBy_16 : decode cX6_isClosedBy 16 = .ok (.getfield 58, 3) := by decide +kernel
theorem dX6_isClosedBy_19 : decode cX6_isClosedBy 19 = .ok (.if_icmp .ne 7, 3) := by decide +kernel
theorem dX6_isClosedBy_22 : decode cX6_isClosedBy 22 = .ok (.iconst 1, 1) := by decide +kernel
theorem dX6_isClosedBy_23 : decode cX6_isClosedBy 23 = .ok (.goto 4, 3) := by decide +kernel
theorem dX6_isClosedBy_26 : decode cX6_isClosedBy 26 = .ok (.iconst 0, 1) := by decide +kernel
theorem dX6_isClosedBy_27 : decode cX6_isClosedBy 27 = .ok (.ireturn, 1) := by decide +kernel
theorem dX6_noteAhead_0 : decode cX6_noteAhead 0 = .ok (.aload_n 1, 1) := by decide +kernel
theorem dX6_noteAhead_1 : decode cX6_noteAhead 1 = .ok (.getfield 84, 3) := by decide +kernel
theorem dX6_noteAhead_4 : decode cX6_noteAhead 4 = .ok (.istore_n 2, 1) := by decide +kernel
theorem dX6_noteAhead_5 : decode cX6_noteAhead 5 = .ok (.aload_n 0, 1) := by decide +kernel
theorem dX6_noteAhead_6 : decode cX6_noteAhead 6 = .ok (.getfield 9, 3) := by decide +kernel
theorem dX6_noteAhead_9 : decode cX6_noteAhead 9 = .ok (.aload_n 0, 1) := by decide +kernel
theorem dX6_noteAhead_10 : decode cX6_noteAhead 10 = .ok (.getfield 62, 3) := by decide +kernel
theorem dX6_noteAhead_13 : decode cX6_noteAhead 13 = .ok (.aload_n 1, 1) := by decide +kernel
theorem dX6_noteAhead_14 : decode cX6_noteAhead 14 = .ok (.invokevirtual 88, 3) := by decide +kernel
theorem dX6_noteAhead_17 : decode cX6_noteAhead 17 = .ok (.iastore, 1) := by decide +kernel
theorem dX6_noteAhead_18 : decode cX6_noteAhead 18 = .ok (.aload_n 0, 1) := by decide +kernel
theorem dX6_noteAhead_19 : decode cX6_noteAhead 19 = .ok (.getfield 15, 3) := by decide +kernel
theorem dX6_noteAhead_22 : decode cX6_noteAhead 22 = .ok (.aload_n 0, 1) := by decide +kernel
theorem dX6_noteAhead_23 : decode cX6_noteAhead 23 = .ok (.getfield 62, 3) := by decide +kernel
theorem dX6_noteAhead_26 : decode cX6_noteAhead 26 = .ok (.aload_n 0, 1) := by decide +kernel
theorem dX6_noteAhead_27 : decode cX6_noteAhead 27 = .ok (.getfield 65, 3) := by decide +kernel
theorem dX6_noteAhead_30 : decode cX6_noteAhead 30 = .ok (.iastore, 1) := by decide +kernel
theorem dX6_noteAhead_31 : decode cX6_noteAhead 31 = .ok (.aload_n 0, 1) := by decide +kernel
theorem dX6_noteAhead_32 : decode cX6_noteAhead 32 = .ok (.iconst 0, 1) := by decide +kernel
theorem dX6_noteAhead_33 : decode cX6_noteAhead 33 = .ok (.putfield 91, 3) := by decide +kernel
theorem dX6_noteAhead_36 : decode cX6_noteAhead 36 = .ok (.iload_n 2, 1) := by decide +kernel
theorem dX6_noteAhead_37 : decode cX6_noteAhead 37 = .ok (.tableswitch 170 103 122 #[147, 170, 95, 170, 95, 170, 147, 104, 170, 156, 170, 170, 170, 170, 170, 170, 113, 170, 170, 137], 95) := by decide +kernel
theorem dX6_noteAhead_132 : decode cX6_noteAhead 132 = .ok (.aload_n 0, 1) := by decide +kernel
theorem dX6_noteAhead_133 : decode cX6_noteAhead 133 = .ok (.bipush 7, 2) := by decide +kernel
theorem dX6_noteAhead_135 : decode cX6_noteAhead 135 = .ok (.putfield 91, 3) := by decide +kernel
theorem dX6_noteAhead_138 : decode cX6_noteAhead 138 = .ok (.goto 75, 3) := by decide +kernel
theorem dX6_noteAhead_141 : decode cX6_noteAhead 141 = .ok (.aload_n 0, 1) := by decide +kernel
theorem dX6_noteAhead_142 : decode cX6_noteAhead 142 = .ok (.bipush 11, 2) := by decide +kernel
theorem dX6_noteAhead_144 : decode cX6_noteAhead 144 = .ok (.putfield 91, 3) := by decide +kernel
theorem dX6_noteAhead_147 : decode cX6_noteAhead 147 = .ok (.goto 66, 3) := by decide +kernel
theorem dX6_noteAhead_150 : decode cX6_noteAhead 150 = .ok (.aload_n 0, 1) := by decide +kernel
theorem dX6_noteAhead_151 : decode cX6_noteAhead 151 = .ok (.aload_n 0, 1) := by decide +kernel
theorem dX6_noteAhead_152 : decode cX6_noteAhead 152 = .ok (.aload_n 0, 1) := by decide +kernel
theorem dX6_noteAhead_153 : decode cX6_noteAhead 153 = .ok (.aload_n 1, 1) := by decide +kernel
theorem dX6_noteAhead_154 : decode cX6_noteAhead 154 = .ok (.iconst 1, 1) := by decide +kernel
theorem dX6_noteAhead_155 : decode cX6_noteAhead 155 = .ok (.iconst 4, 1) := by decide +kernel
theorem dX6_noteAhead_156 : decode cX6_noteAhead 156 = .ok (.invokevirtual 94, 3) := by decide +kernel
theorem dX6_noteAhead_159 : decode cX6_noteAhead 159 = .ok (.invokevirtual 98, 3) := by decide +kernel
theorem dX6_noteAhead_162 : decode cX6_noteAhead 162 = .ok (.putfield 91, 3) := by decide +kernel
theorem dX6_noteAhead_165 : decode cX6_noteAhead 165 = .ok (.aload_n 0, 1) := by decide +kernel
theorem dX6_noteAhead_166 : decode cX6_noteAhead 166 = .ok (.aload_n 1, 1) := by decide +kernel
theorem dX6_noteAhead_167 : decode cX6_noteAhead 167 = .ok (.iconst 1, 1) := by decide +kernel
theorem dX6_noteAhead_168 : decode cX6_noteAhead 168 = .ok (.invokevirtual 102, 3) := by decide +kernel
theorem dX6_noteAhead_171 : decode cX6_noteAhead 171 = .ok (.goto 42, 3) := by decide +kernel
theorem dX6_noteAhead_174 : decode cX6_noteAhead 174 = .ok (.aload_n 0, 1) := by decide +kernel
theorem dX6_noteAhead_175 : decode cX6_noteAhead 175 = .ok (.aload_n 1, 1) := by decide +kernel
theorem dX6_noteAhead_176 : decode cX6_noteAhead 176 = .ok (.bipush 116, 2) := by decide +kernel
theorem dX6_noteAhead_178 : decode cX6_noteAhead 178 = .ok (.invokevirtual 106, 3) := by decide +kernel
theorem dX6_noteAhead_181 : decode cX6_noteAhead 181 = .ok (.goto 32, 3) := by decide +kernel
theorem dX6_noteAhead_184 : decode cX6_noteAhead 184 = .ok (.aload_n 0, 1) := by decide +kernel
theorem dX6_noteAhead_185 : decode cX6_noteAhead 185 = .ok (.aload_n 1, 1) := by decide +kernel
theorem dX6_noteAhead_186 : decode cX6_noteAhead 186 = .ok (.iconst 1, 1) := by decide +kernel
theorem dX6_noteAhead_187 : decode cX6_noteAhead 187 = .ok (.invokevirtual 110, 3) := by decide +kernel
theorem dX6_noteAhead_190 : decode cX6_noteAhead 190 = .ok (.goto 23, 3) := by decide +kernel
theorem dX6_noteAhead_193 : decode cX6_noteAhead 193 = .ok (.aload_n 0, 1) := by decide +kernel
theorem dX6_noteAhead_194 : decode cX6_noteAhead 194 = .ok (.aload_n 1, 1) := by decide +kernel
theorem dX6_noteAhead_195 : decode cX6_noteAhead 195 = .ok (.iconst 2, 1) := by decide +kernel
theorem dX6_noteAhead_196 : decode cX6_noteAhead 196 = .ok (.invokevirtual 110, 3) := by decide +kernel
theorem dX6_noteAhead_199 : decode cX6_noteAhead 199 = .ok (.aload_n 0, 1) := by decide +kernel
theorem dX6_noteAhead_200 : decode cX6_noteAhead 200 = .ok (.aload_n 1, 1) := by decide +kernel
theorem dX6_noteAhead_201 : decode cX6_noteAhead 201 = .ok (.invokevirtual 113, 3) := by decide +kernel
theorem dX6_noteAhead_204 : decode cX6_noteAhead 204 = .ok (.goto 9, 3) := by decide +kernel
theorem dX6_noteAhead_207 : decode cX6_noteAhead 207 = .ok (.aload_n 0, 1) := by decide +kernel
theorem dX6_noteAhead_208 : decode cX6_noteAhead 208 = .ok (.aload_n 1, 1) := by decide +kernel
theorem dX6_noteAhead_209 : decode cX6_noteAhead 209 = .ok (.iload_n 2, 1) := by decide +kernel
theorem dX6_noteAhead_210 : decode cX6_noteAhead 210 = .ok (.invokevirtual 117, 3) := by decide +kernel
theorem dX6_noteAhead_213 : decode cX6_noteAhead 213 = .ok (.aload_n 0, 1) := by decide +kernel
theorem dX6_noteAhead_214 : decode cX6_noteAhead 214 = .ok (.dup, 1) := by decide +kernel
theorem dX6_noteAhead_215 : decode cX6_noteAhead 215 = .ok (.getfield 62, 3) := by decide +kernel
theorem dX6_noteAhead_218 : decode cX6_noteAhead 218 = .ok (.iconst 1, 1) := by decide +kernel
theorem dX6_noteAhead_219 : decode cX6_noteAhead 219 = .ok (.iadd, 1) := by decide +kernel
theorem dX6_noteAhead_220 : decode cX6_noteAhead 220 = .ok (.putfield 62, 3) := by decide +kernel
theorem dX6_noteAhead_223 : decode cX6_noteAhead 223 = .ok (.return_, 1) := by decide +kernel
theorem dX6_noteTwoValues_0 : decode cX6_noteTwoValues 0 = .ok (.ldc 120, 2) := by decide +kernel
theorem dX6_noteTwoValues_2 : decode cX6_noteTwoValues 2 = .ok (.iload_n 2, 1) := by decide +kernel
theorem dX6_noteTwoValues_3 : decode cX6_noteTwoValues 3 = .ok (.invokevirtual 122, 3) := by decide +kernel
theorem dX6_noteTwoValues_6 : decode cX6_noteTwoValues 6 = .ok (.ifCond .ge 4, 3) := by decide +kernel
theorem dX6_noteTwoValues_9 : decode cX6_noteTwoValues 9 = .ok (.return_, 1) := by decide +kernel
theorem dX6_noteTwoValues_10 : decode cX6_noteTwoValues 10 = .ok (.aload_n 0, 1) := by decide +kernel
theorem dX6_noteTwoValues_11 : decode cX6_noteTwoValues 11 = .ok (.aload_n 1, 1) := by decide +kernel
theorem dX6_noteTwoValues_12 : decode cX6_noteTwoValues 12 = .ok (.iconst 2, 1) := by decide +kernel
theorem dX6_noteTwoValues_13 : decode cX6_noteTwoValues 13 = .ok (.iconst 4, 1) := by decide +kernel
theorem dX6_noteTwoValues_14 : decode cX6_noteTwoValues 14 = .ok (.invokevirtual 94, 3) := by decide +kernel
theorem dX6_noteTwoValues_17 : decode cX6_noteTwoValues 17 = .ok (.ifCond .eq 17, 3) := by decide +kernel
theorem dX6_noteTwoValues_20 : decode cX6_noteTwoValues 20 = .ok (.aload_n 0, 1) := by decide +kernel
theorem dX6_noteTwoValues_21 : decode cX6_noteTwoValues 21 = .ok (.aload_n 1, 1) := by decide +kernel
theorem dX6_noteTwoValues_22 : decode cX6_noteTwoValues 22 = .ok (.iconst 1, 1) := by decide +kernel
theorem dX6_noteTwoValues_23 : decode cX6_noteTwoValues 23 = .ok (.iconst 4, 1) := by decide +kernel
theorem dX6_noteTwoValues_24 : decode cX6_noteTwoValues 24 = .ok (.invokevirtual 94, 3) := by decide +kernel
theorem dX6_noteTwoValues_27 : decode cX6_noteTwoValues 27 = .ok (.ifCond .eq 7, 3) := by decide +kernel
theorem dX6_noteTwoValues_30 : decode cX6_noteTwoValues 30 = .ok (.iconst 1, 1) := by decide +kernel
theorem dX6_noteTwoValues_31 : decode cX6_noteTwoValues 31 = .ok (.goto 4, 3) := by decide +kernel
theorem dX6_noteTwoValues_34 : decode cX6_noteTwoValues 34 = .ok (.iconst 0, 1) := by decide +kernel
theorem dX6_noteTwoValues_35 : decode cX6_noteTwoValues 35 = .ok (.istore_n 3, 1) := by decide +kernel
theorem dX6_noteTwoValues_36 : decode cX6_noteTwoValues 36 = .ok (.aload_n 0, 1) := by decide +kernel
theorem dX6_noteTwoValues_37 : decode cX6_noteTwoValues 37 = .ok (.aload_n 0, 1) := by decide +kernel
theorem dX6_noteTwoValues_38 : decode cX6_noteTwoValues 38 = .ok (.iload_n 3, 1) := by decide +kernel
theorem dX6_noteTwoValues_39 : decode cX6_noteTwoValues 39 = .ok (.invokevirtual 98, 3) := by decide +kernel
theorem dX6_noteTwoValues_42 : decode cX6_noteTwoValues 42 = .ok (.putfield 91, 3) := by decide +kernel
theorem dX6_noteTwoValues_45 : decode cX6_noteTwoValues 45 = .ok (.iload_n 3, 1) := by decide +kernel
theorem dX6_noteTwoValues_46 : decode cX6_noteTwoValues 46 = .ok (.ifCond .eq 4, 3) := by decide +kernel
theorem dX6_noteTwoValues_49 : decode cX6_noteTwoValues 49 = .ok (.return_, 1) := by decide +kernel
theorem dX6_noteTwoValues_50 : decode cX6_noteTwoValues 50 = .ok (.aload_n 0, 1) := by decide +kernel
theorem dX6_noteTwoValues_51 : decode cX6_noteTwoValues 51 = .ok (.aload_n 1, 1) := by decide +kernel
theorem dX6_noteTwoValues_52 : decode cX6_noteTwoValues 52 = .ok (.iconst 2, 1) := by decide +kernel
theorem dX6_noteTwoValues_53 : decode cX6_noteTwoValues 53 = .ok (.invokevirtual 102, 3) := by decide +kernel
theorem dX6_noteTwoValues_56 : decode cX6_noteTwoValues 56 = .ok (.aload_n 0, 1) := by decide +kernel
theorem dX6_noteTwoValues_57 : decode cX6_noteTwoValues 57 = .ok (.aload_n 1, 1) := by decide +kernel
theorem dX6_noteTwoValues_58 : decode cX6_noteTwoValues 58 = .ok (.iconst 1, 1) := by decide +kernel
theorem dX6_noteTwoValues_59 : decode cX6_noteTwoValues 59 = .ok (.invokevirtual 102, 3) := by decide +kernel
theorem dX6_noteTwoValues_62 : decode cX6_noteTwoValues 62 = .ok (.aload_n 1, 1) := by decide +kernel
theorem dX6_noteTwoValues_63 : decode cX6_noteTwoValues 63 = .ok (.getfield 68, 3) := by decide +kernel
theorem dX6_noteTwoValues_66 : decode cX6_noteTwoValues 66 = .ok (.aload_n 1, 1) := by decide +kernel
theorem dX6_noteTwoValues_67 : decode cX6_noteTwoValues 67 = .ok (.iconst 2, 1) := by decide +kernel
theorem dX6_noteTwoValues_68 : decode cX6_noteTwoValues 68 = .ok (.invokevirtual 128, 3) := by decide +kernel
theorem dX6_noteTwoValues_71 : decode cX6_noteTwoValues 71 = .ok (.aload_n 1, 1) := by decide +kernel
theorem dX6_noteTwoValues_72 : decode cX6_noteTwoValues 72 = .ok (.iconst 1, 1) := by decide +kernel
theorem dX6_noteTwoValues_73 : decode cX6_noteTwoValues 73 = .ok (.invokevirtual 128, 3) := by decide +kernel
theorem dX6_noteTwoValues_76 : decode cX6_noteTwoValues 76 = .ok (.invokevirtual 131, 3) := by decide +kernel
theorem dX6_noteTwoValues_79 : decode cX6_noteTwoValues 79 = .ok (.ifCond .ne 4, 3) := by decide +kernel
theorem dX6_noteTwoValues_82 : decode cX6_noteTwoValues 82 = .ok (.return_, 1) := by decide +kernel
theorem dX6_noteTwoValues_83 : decode cX6_noteTwoValues 83 = .ok (.iload_n 2, 1) := by decide +kernel
theorem dX6_noteTwoValues_84 : decode cX6_noteTwoValues 84 = .ok (.bipush 47, 2) := by decide +kernel
theorem dX6_noteTwoValues_86 : decode cX6_noteTwoValues 86 = .ok (.if_icmp .eq 9, 3) := by decide +kernel
theorem dX6_noteTwoValues_89 : decode cX6_noteTwoValues 89 = .ok (.iload_n 2, 1) := by decide +kernel
theorem dX6_noteTwoValues_90 : decode cX6_noteTwoValues 90 = .ok (.bipush 37, 2) := by decide +kernel
theorem dX6_noteTwoValues_92 : decode cX6_noteTwoValues 92 = .ok (.if_icmp .ne 10, 3) := by decide +kernel
theorem dX6_noteTwoValues_95 : decode cX6_noteTwoValues 95 = .ok (.aload_n 0, 1) := by decide +kernel
theorem dX6_noteTwoValues_96 : decode cX6_noteTwoValues 96 = .ok (.aload_n 1, 1) := by decide +kernel
theorem dX6_noteTwoValues_97 : decode cX6_noteTwoValues 97 = .ok (.bipush 122, 2) := by decide +kernel
theorem dX6_noteTwoValues_99 : decode cX6_noteTwoValues 99 = .ok (.invokevirtual 106, 3) := by decide +kernel
theorem dX6_noteTwoValues_102 : decode cX6_noteTwoValues 102 = .ok (.ldc 135, 2) := by decide +kernel
theorem dX6_noteTwoValues_104 : decode cX6_noteTwoValues 104 = .ok (.iload_n 2, 1) := by decide +kernel
theorem dX6_noteTwoValues_105 : decode cX6_noteTwoValues 105 = .ok (.invokevirtual 122, 3) := by decide +kernel
theorem dX6_noteTwoValues_108 : decode cX6_noteTwoValues 108 = .ok (.ifCond .lt 17, 3) := by decide +kernel
theorem dX6_noteTwoValues_111 : decode cX6_noteTwoValues 111 = .ok (.aload_n 0, 1) := by decide +kernel
theorem dX6_noteTwoValues_112 : decode cX6_noteTwoValues 112 = .ok (.bipush 111, 2) := by decide +kernel
theorem dX6_noteTwoValues_114 : decode cX6_noteTwoValues 114 = .ok (.iconst 2, 1) := by decide +kernel
theorem dX6_noteTwoValues_115 : decode cX6_noteTwoValues 115 = .ok (.aload_n 1, 1) := by decide +kernel
theorem dX6_noteTwoValues_116 : decode cX6_noteTwoValues 116 = .ok (.bipush 111, 2) := by decide +kernel
theorem dX6_noteTwoValues_118 : decode cX6_noteTwoValues 118 = .ok (.iconst 2, 1) := by decide +kernel
theorem dX6_noteTwoValues_119 : decode cX6_noteTwoValues 119 = .ok (.invokevirtual 137, 3) := by decide +kernel
theorem dX6_noteTwoValues_122 : decode cX6_noteTwoValues 122 = .ok (.invokevirtual 141, 3) := by decide +kernel
theorem dX6_noteTwoValues_125 : decode cX6_noteTwoValues 125 = .ok (.return_, 1) := by decide +kernel
theorem dX6_madeOf_0 : decode cX6_madeOf 0 = .ok (.iload_n 1, 1) := by decide +kernel
theorem dX6_madeOf_1 : decode cX6_madeOf 1 = .ok (.ifCond .eq 8, 3) := by decide +kernel
theorem dX6_madeOf_4 : decode cX6_madeOf 4 = .ok (.bipush 7, 2) := by decide +kernel
theorem dX6_madeOf_6 : decode cX6_madeOf 6 = .ok (.goto 4, 3) := by decide +kernel
theorem dX6_madeOf_9 : decode cX6_madeOf 9 = .ok (.iconst 1, 1) := by decide +kernel
theorem dX6_madeOf_10 : decode cX6_madeOf 10 = .ok (.ireturn, 1) := by decide +kernel
theorem dX6_askKind_0 : decode cX6_askKind 0 = .ok (.aload_n 0, 1) := by decide +kernel
theorem dX6_askKind_1 : decode cX6_askKind 1 = .ok (.aload_n 1, 1) := by decide +kernel
theorem dX6_askKind_2 : decode cX6_askKind 2 = .ok (.iload_n 2, 1) := by decide +kernel
theorem dX6_askKind_3 : decode cX6_askKind 3 = .ok (.iconst 1, 1) := by decide +kernel
theorem dX6_askKind_4 : decode cX6_askKind 4 = .ok (.invokevirtual 94, 3) := by decide +kernel
theorem dX6_askKind_7 : decode cX6_askKind 7 = .ok (.ifCond .ne 43, 3) := by decide +kernel
theorem dX6_askKind_10 : decode cX6_askKind 10 = .ok (.aload_n 0, 1) := by decide +kernel
theorem dX6_askKind_11 : decode cX6_askKind 11 = .ok (.bipush 107, 2) := by decide +kernel
theorem dX6_askKind_13 : decode cX6_askKind 13 = .ok (.iload_n 2, 1) := by decide +kernel
theorem dX6_askKind_14 : decode cX6_askKind 14 = .ok (.aload_n 1, 1) := by decide +kernel
theorem dX6_askKind_15 : decode cX6_askKind 15 = .ok (.bipush 107, 2) := by decide +kernel
theorem dX6_askKind_17 : decode cX6_askKind 17 = .ok (.iload_n 2, 1) := by decide +kernel
theorem dX6_askKind_18 : decode cX6_askKind 18 = .ok (.invokevirtual 137, 3) := by decide +kernel
theorem dX6_askKind_21 : decode cX6_askKind 21 = .ok (.invokevirtual 141, 3) := by decide +kernel
theorem dX6_askKind_24 : decode cX6_askKind 24 = .ok (.aload_n 0, 1) := by decide +kernel
theorem dX6_askKind_25 : decode cX6_askKind 25 = .ok (.aload_n 1, 1) := by decide +kernel
theorem dX6_askKind_26 : decode cX6_askKind 26 = .ok (.iload_n 2, 1) := by decide +kernel
theorem dX6_askKind_27 : decode cX6_askKind 27 = .ok (.aload_n 1, 1) := by decide +kernel
theorem dX6_askKind_28 : decode cX6_askKind 28 = .ok (.getfield 68, 3) := by decide +kernel
theorem dX6_askKind_31 : decode cX6_askKind 31 = .ok (.aload_n 1, 1) := by decide +kernel
theorem dX6_askKind_32 : decode cX6_askKind 32 = .ok (.iload_n 2, 1) := by decide +kernel
theorem dX6_askKind_33 : decode cX6_askKind 33 = .ok (.invokevirtual 128, 3) := by decide +kernel
theorem dX6_askKind_36 : decode cX6_askKind 36 = .ok (.invokevirtual 145, 3) := by decide +kernel
theorem dX6_askKind_39 : decode cX6_askKind 39 = .ok (.ifCond .eq 7, 3) := by decide +kernel
theorem dX6_askKind_42 : decode cX6_askKind 42 = .ok (.iconst 1, 1) := by decide +kernel
theorem dX6_askKind_43 : decode cX6_askKind 43 = .ok (.goto 4, 3) := by decide +kernel
theorem dX6_askKind_46 : decode cX6_askKind 46 = .ok (.iconst 3, 1) := by decide +kernel
theorem dX6_askKind_47 : decode cX6_askKind 47 = .ok (.invokevirtual 149, 3) := by decide +kernel
theorem dX6_askKind_50 : decode cX6_askKind 50 = .ok (.return_, 1) := by decide +kernel
theorem dX6_askNullness_0 : decode cX6_askNullness 0 = .ok (.aload_n 0, 1) := by decide +kernel
theorem dX6_askNullness_1 : decode cX6_askNullness 1 = .ok (.aload_n 1, 1) := by decide +kernel
theorem dX6_askNullness_2 : decode cX6_askNullness 2 = .ok (.iconst 1, 1) := by decide +kernel
theorem dX6_askNullness_3 : decode cX6_askNullness 3 = .ok (.iconst 2, 1) := by decide +kernel
theorem dX6_askNullness_4 : decode cX6_askNullness 4 = .ok (.invokevirtual 94, 3) := by decide +kernel
theorem dX6_askNullness_7 : decode cX6_askNullness 7 = .ok (.ifCond .ne 22, 3) := by decide +kernel
theorem dX6_askNullness_10 : decode cX6_askNullness 10 = .ok (.aload_n 0, 1) := by decide +kernel
theorem dX6_askNullness_11 : decode cX6_askNullness 11 = .ok (.iload_n 2, 1) := by decide +kernel
theorem dX6_askNullness_12 : decode cX6_askNullness 12 = .ok (.iconst 1, 1) := by decide +kernel
theorem dX6_askNullness_13 : decode cX6_askNullness 13 = .ok (.aload_n 1, 1) := by decide +kernel
theorem dX6_askNullness_14 : decode cX6_askNullness 14 = .ok (.iload_n 2, 1) := by decide +kernel
theorem dX6_askNullness_15 : decode cX6_askNullness 15 = .ok (.iconst 1, 1) := by decide +kernel
theorem dX6_askNullness_16 : decode cX6_askNullness 16 = .ok (.invokevirtual 137, 3) := by decide +kernel
theorem dX6_askNullness_19 : decode cX6_askNullness 19 = .ok (.invokevirtual 141, 3) := by decide +kernel
theorem dX6_askNullness_22 : decode cX6_askNullness 22 = .ok (.aload_n 0, 1) := by decide +kernel
theorem dX6_askNullness_23 : decode cX6_askNullness 23 = .ok (.aload_n 1, 1) := by decide +kernel
theorem dX6_askNullness_24 : decode cX6_askNullness 24 = .ok (.iconst 1, 1) := by decide +kernel
theorem dX6_askNullness_25 : decode cX6_askNullness 25 = .ok (.iconst 2, 1) := by decide +kernel
theorem dX6_askNullness_26 : decode cX6_askNullness 26 = .ok (.invokevirtual 149, 3) := by decide +kernel
theorem dX6_askNullness_29 : decode cX6_askNullness 29 = .ok (.return_, 1) := by decide +kernel
theorem dX6_askShape_0 : decode cX6_askShape 0 = .ok (.aload_n 0, 1) := by decide +kernel
theorem dX6_askShape_1 : decode cX6_askShape 1 = .ok (.aload_n 1, 1) := by decide +kernel
theorem dX6_askShape_2 : decode cX6_askShape 2 = .ok (.iload_n 2, 1) := by decide +kernel
theorem dX6_askShape_3 : decode cX6_askShape 3 = .ok (.bipush 8, 2) := by decide +kernel
theorem dX6_askShape_5 : decode cX6_askShape 5 = .ok (.invokevirtual 94, 3) := by decide +kernel
theorem dX6_askShape_8 : decode cX6_askShape 8 = .ok (.ifCond .ne 25, 3) := by decide +kernel
theorem dX6_askShape_11 : decode cX6_askShape 11 = .ok (.aload_n 0, 1) := by decide +kernel
theorem dX6_askShape_12 : decode cX6_askShape 12 = .ok (.bipush 115, 2) := by decide +kernel
theorem dX6_askShape_14 : decode cX6_askShape 14 = .ok (.iload_n 2, 1) := by decide +kernel
theorem dX6_askShape_15 : decode cX6_askShape 15 = .ok (.aload_n 1, 1) := by decide +kernel
theorem dX6_askShape_16 : decode cX6_askShape 16 = .ok (.bipush 115, 2) := by decide +kernel
theorem dX6_askShape_18 : decode cX6_askShape 18 = .ok (.iload_n 2, 1) := by decide +kernel
theorem dX6_askShape_19 : decode cX6_askShape 19 = .ok (.invokevirtual 137, 3) := by decide +kernel
theorem dX6_askShape_22 : decode cX6_askShape 22 = .ok (.invokevirtual 141, 3) := by decide +kernel
theorem dX6_askShape_25 : decode cX6_askShape 25 = .ok (.aload_n 0, 1) := by decide +kernel
theorem dX6_askShape_26 : decode cX6_askShape 26 = .ok (.aload_n 1, 1) := by decide +kernel
theorem dX6_askShape_27 : decode cX6_askShape 27 = .ok (.iload_n 2, 1) := by decide +kernel
theorem dX6_askShape_28 : decode cX6_askShape 28 = .ok (.bipush 11, 2) := by decide +kernel
theorem dX6_askShape_30 : decode cX6_askShape 30 = .ok (.invokevirtual 149, 3) := by decide +kernel
theorem dX6_askShape_33 : decode cX6_askShape 33 = .ok (.return_, 1) := by decide +kernel
theorem dX6_ask_0 : decode cX6_ask 0 = .ok (.aload_n 0, 1) := by decide +kernel
theorem dX6_ask_1 : decode cX6_ask 1 = .ok (.getfield 18, 3) := by decide +kernel
theorem dX6_ask_4 : decode cX6_ask 4 = .ok (.aload_n 0, 1) := by decide +kernel
theorem dX6_ask_5 : decode cX6_ask 5 = .ok (.getfield 65, 3) := by decide +kernel
theorem dX6_ask_8 : decode cX6_ask 8 = .ok (.iload_n 1, 1) := by decide +kernel
theorem dX6_ask_9 : decode cX6_ask 9 = .ok (.iastore, 1) := by decide +kernel
theorem dX6_ask_10 : decode cX6_ask 10 = .ok (.aload_n 0, 1) := by decide +kernel
theorem dX6_ask_11 : decode cX6_ask 11 = .ok (.getfield 21, 3) := by decide +kernel
theorem dX6_ask_14 : decode cX6_ask 14 = .ok (.aload_n 0, 1) := by decide +kernel
theorem dX6_ask_15 : decode cX6_ask 15 = .ok (.getfield 65, 3) := by decide +kernel
theorem dX6_ask_18 : decode cX6_ask 18 = .ok (.aload_n 0, 1) := by decide +kernel
theorem dX6_ask_19 : decode cX6_ask 19 = .ok (.getfield 62, 3) := by decide +kernel
theorem dX6_ask_22 : decode cX6_ask 22 = .ok (.iastore, 1) := by decide +kernel
theorem dX6_ask_23 : decode cX6_ask 23 = .ok (.aload_n 0, 1) := by decide +kernel
theorem dX6_ask_24 : decode cX6_ask 24 = .ok (.getfield 24, 3) := by decide +kernel
theorem dX6_ask_27 : decode cX6_ask 27 = .ok (.aload_n 0, 1) := by decide +kernel
theorem dX6_ask_28 : decode cX6_ask 28 = .ok (.getfield 65, 3) := by decide +kernel
theorem dX6_ask_31 : decode cX6_ask 31 = .ok (.iload_n 2, 1) := by decide +kernel
theorem dX6_ask_32 : decode cX6_ask 32 = .ok (.iastore, 1) := by decide +kernel
theorem dX6_ask_33 : decode cX6_ask 33 = .ok (.aload_n 0, 1) := by decide +kernel
theorem dX6_ask_34 : decode cX6_ask 34 = .ok (.getfield 27, 3) := by decide +kernel
theorem dX6_ask_37 : decode cX6_ask 37 = .ok (.aload_n 0, 1) := by decide +kernel
theorem dX6_ask_38 : decode cX6_ask 38 = .ok (.getfield 65, 3) := by decide +kernel
theorem dX6_ask_41 : decode cX6_ask 41 = .ok (.iload_n 3, 1) := by decide +kernel
theorem dX6_ask_42 : decode cX6_ask 42 = .ok (.iastore, 1) := by decide +kernel
theorem dX6_ask_43 : decode cX6_ask 43 = .ok (.aload_n 0, 1) := by decide +kernel
theorem dX6_ask_44 : decode cX6_ask 44 = .ok (.dup, 1) := by decide +kernel
theorem dX6_ask_45 : decode cX6_ask 45 = .ok (.getfield 65, 3) := by decide +kernel
theorem dX6_ask_48 : decode cX6_ask 48 = .ok (.iconst 1, 1) := by decide +kernel
theorem dX6_ask_49 : decode cX6_ask 49 = .ok (.iadd, 1) := by decide +kernel
theorem dX6_ask_50 : decode cX6_ask 50 = .ok (.putfield 65, 3) := by decide +kernel
theorem dX6_ask_53 : decode cX6_ask 53 = .ok (.return_, 1) := by decide +kernel
theorem dX6_isKnown_0 : decode cX6_isKnown 0 = .ok (.aload_n 0, 1) := by decide +kernel
theorem dX6_isKnown_1 : decode cX6_isKnown 1 = .ok (.getfield 30, 3) := by decide +kernel
theorem dX6_isKnown_4 : decode cX6_isKnown 4 = .ok (.aload_n 1, 1) := by decide +kernel
theorem dX6_isKnown_5 : decode cX6_isKnown 5 = .ok (.getfield 68, 3) := by decide +kernel
theorem dX6_isKnown_8 : decode cX6_isKnown 8 = .ok (.getfield 72, 3) := by decide +kernel
theorem dX6_isKnown_11 : decode cX6_isKnown 11 = .ok (.aload_n 1, 1) := by decide +kernel
theorem dX6_isKnown_12 : decode cX6_isKnown 12 = .ok (.iload_n 2, 1) := by decide +kernel
theorem dX6_isKnown_13 : decode cX6_isKnown 13 = .ok (.invokevirtual 128, 3) := by decide +kernel
theorem dX6_isKnown_16 : decode cX6_isKnown 16 = .ok (.iaload, 1) := by decide +kernel
theorem dX6_isKnown_17 : decode cX6_isKnown 17 = .ok (.iaload, 1) := by decide +kernel
theorem dX6_isKnown_18 : decode cX6_isKnown 18 = .ok (.iload_n 3, 1) := by decide +kernel
theorem dX6_isKnown_19 : decode cX6_isKnown 19 = .ok (.iand, 1) := by decide +kernel
theorem dX6_isKnown_20 : decode cX6_isKnown 20 = .ok (.ifCond .eq 7, 3) := by decide +kernel
theorem dX6_isKnown_23 : decode cX6_isKnown 23 = .ok (.iconst 1, 1) := by decide +kernel
theorem dX6_isKnown_24 : decode cX6_isKnown 24 = .ok (.goto 4, 3) := by decide +kernel
theorem dX6_isKnown_27 : decode cX6_isKnown 27 = .ok (.iconst 0, 1) := by decide +kernel
theorem dX6_isKnown_28 : decode cX6_isKnown 28 = .ok (.ireturn, 1) := by decide +kernel
theorem dX6_learn_0 : decode cX6_learn 0 = .ok (.aload_n 0, 1) := by decide +kernel
theorem dX6_learn_1 : decode cX6_learn 1 = .ok (.getfield 30, 3) := by decide +kernel
theorem dX6_learn_4 : decode cX6_learn 4 = .ok (.aload_n 1, 1) := by decide +kernel
theorem dX6_learn_5 : decode cX6_learn 5 = .ok (.getfield 68, 3) := by decide +kernel
theorem dX6_learn_8 : decode cX6_learn 8 = .ok (.getfield 72, 3) := by decide +kernel
theorem dX6_learn_11 : decode cX6_learn 11 = .ok (.aload_n 1, 1) := by decide +kernel
theorem dX6_learn_12 : decode cX6_learn 12 = .ok (.iload_n 2, 1) := by decide +kernel
theorem dX6_learn_13 : decode cX6_learn 13 = .ok (.invokevirtual 128, 3) := by decide +kernel
theorem dX6_learn_16 : decode cX6_learn 16 = .ok (.iaload, 1) := by decide +kernel
theorem dX6_learn_17 : decode cX6_learn 17 = .ok (.dup2, 1) := by decide +kernel
theorem dX6_learn_18 : decode cX6_learn 18 = .ok (.iaload, 1) := by decide +kernel
theorem dX6_learn_19 : decode cX6_learn 19 = .ok (.iload_n 3, 1) := by decide +kernel
theorem dX6_learn_20 : decode cX6_learn 20 = .ok (.ior, 1) := by decide +kernel
theorem dX6_learn_21 : decode cX6_learn 21 = .ok (.iastore, 1) := by decide +kernel
theorem dX6_learn_22 : decode cX6_learn 22 = .ok (.return_, 1) := by decide +kernel
theorem dX6_forgetOtherShapes_0 : decode cX6_forgetOtherShapes 0 = .ok (.aload_n 1, 1) := by decide +kernel
theorem dX6_forgetOtherShapes_1 : decode cX6_forgetOtherShapes 1 = .ok (.getfield 152, 3) := by decide +kernel
theorem dX6_forgetOtherShapes_4 : decode cX6_forgetOtherShapes 4 = .ok (.aload_n 1, 1) := by decide +kernel
theorem dX6_forgetOtherShapes_5 : decode cX6_forgetOtherShapes 5 = .ok (.iconst 2, 1) := by decide +kernel
theorem dX6_forgetOtherShapes_6 : decode cX6_forgetOtherShapes 6 = .ok (.invokevirtual 156, 3) := by decide +kernel
theorem dX6_forgetOtherShapes_9 : decode cX6_forgetOtherShapes 9 = .ok (.aload_n 1, 1) := by decide +kernel
theorem dX6_forgetOtherShapes_10 : decode cX6_forgetOtherShapes 10 = .ok (.getfield 159, 3) := by decide +kernel
theorem dX6_forgetOtherShapes_13 : decode cX6_forgetOtherShapes 13 = .ok (.invokevirtual 162, 3) := by decide +kernel
theorem dX6_forgetOtherShapes_16 : decode cX6_forgetOtherShapes 16 = .ok (.ifCond .eq 4, 3) := by decide +kernel
theorem dX6_forgetOtherShapes_19 : decode cX6_forgetOtherShapes 19 = .ok (.return_, 1) := by decide +kernel
theorem dX6_forgetOtherShapes_20 : decode cX6_forgetOtherShapes 20 = .ok (.iconst 0, 1) := by decide +kernel
theorem dX6_forgetOtherShapes_21 : decode cX6_forgetOtherShapes 21 = .ok (.istore_n 2, 1) := by decide +kernel
theorem dX6_forgetOtherShapes_22 : decode cX6_forgetOtherShapes 22 = .ok (.iload_n 2, 1) := by decide +kernel
theorem dX6_forgetOtherShapes_23 : decode cX6_forgetOtherShapes 23 = .ok (.aload_n 0, 1) := by decide +kernel
theorem dX6_forgetOtherShapes_24 : decode cX6_forgetOtherShapes 24 = .ok (.getfield 77, 3) := by decide +kernel
theorem dX6_forgetOtherShapes_27 : decode cX6_forgetOtherShapes 27 = .ok (.if_icmp .ge 20, 3) := by decide +kernel
theorem dX6_forgetOtherShapes_30 : decode cX6_forgetOtherShapes 30 = .ok (.aload_n 0, 1) := by decide +kernel
theorem dX6_forgetOtherShapes_31 : decode cX6_forgetOtherShapes 31 = .ok (.getfield 30, 3) := by decide +kernel
theorem dX6_forgetOtherShapes_34 : decode cX6_forgetOtherShapes 34 = .ok (.iload_n 2, 1) := by decide +kernel
theorem dX6_forgetOtherShapes_35 : decode cX6_forgetOtherShapes 35 = .ok (.dup2, 1) := by decide +kernel
theorem dX6_forgetOtherShapes_36 : decode cX6_forgetOtherShapes 36 = .ok (.iaload, 1) := by decide +kernel
theorem dX6_forgetOtherShapes_37 : decode cX6_forgetOtherShapes 37 = .ok (.bipush (-9), 2) := by decide +kernel
theorem dX6_forgetOtherShapes_39 : decode cX6_forgetOtherShapes 39 = .ok (.iand, 1) := by decide +kernel
theorem dX6_forgetOtherShapes_40 : decode cX6_forgetOtherShapes 40 = .ok (.iastore, 1) := by decide +kernel
theorem dX6_forgetOtherShapes_41 : decode cX6_forgetOtherShapes 41 = .ok (.iinc 2 1, 3) := by decide +kernel
theorem dX6_forgetOtherShapes_44 : decode cX6_forgetOtherShapes 44 = .ok (.goto (-22), 3) := by decide +kernel
theorem dX6_forgetOtherShapes_47 : decode cX6_forgetOtherShapes 47 = .ok (.aload_n 0, 1) := by decide +kernel
theorem dX6_forgetOtherShapes_48 : decode cX6_forgetOtherShapes 48 = .ok (.aload_n 1, 1) := by decide +kernel
theorem dX6_forgetOtherShapes_49 : decode cX6_forgetOtherShapes 49 = .ok (.iconst 2, 1) := by decide +kernel
theorem dX6_forgetOtherShapes_50 : decode cX6_forgetOtherShapes 50 = .ok (.bipush 8, 2) := by decide +kernel
theorem dX6_forgetOtherShapes_52 : decode cX6_forgetOtherShapes 52 = .ok (.invokevirtual 149, 3) := by decide +kernel
theorem dX6_forgetOtherShapes_55 : decode cX6_forgetOtherShapes 55 = .ok (.return_, 1) := by decide +kernel
theorem dX6_noteBehind_0 : decode cX6_noteBehind 0 = .ok (.ldc 167, 2) := by decide +kernel
theorem dX6_noteBehind_2 : decode cX6_noteBehind 2 = .ok (.iload_n 2, 1) := by decide +kernel
theorem dX6_noteBehind_3 : decode cX6_noteBehind 3 = .ok (.invokevirtual 122, 3) := by decide +kernel
theorem dX6_noteBehind_6 : decode cX6_noteBehind 6 = .ok (.ifCond .lt 23, 3) := by decide +kernel
theorem dX6_noteBehind_9 : decode cX6_noteBehind 9 = .ok (.aload_n 0, 1) := by decide +kernel
theorem dX6_noteBehind_10 : decode cX6_noteBehind 10 = .ok (.aload_n 1, 1) := by decide +kernel
theorem dX6_noteBehind_11 : decode cX6_noteBehind 11 = .ok (.getfield 68, 3) := by decide +kernel
theorem dX6_noteBehind_14 : decode cX6_noteBehind 14 = .ok (.aload_n 1, 1) := by decide +kernel
theorem dX6_noteBehind_15 : decode cX6_noteBehind 15 = .ok (.iconst 1, 1) := by decide +kernel
theorem dX6_noteBehind_16 : decode cX6_noteBehind 16 = .ok (.invokevirtual 128, 3) := by decide +kernel
theorem dX6_noteBehind_19 : decode cX6_noteBehind 19 = .ok (.aload_n 0, 1) := by decide +kernel
theorem dX6_noteBehind_20 : decode cX6_noteBehind 20 = .ok (.getfield 91, 3) := by decide +kernel
theorem dX6_noteBehind_23 : decode cX6_noteBehind 23 = .ok (.invokevirtual 169, 3) := by decide +kernel
theorem dX6_noteBehind_26 : decode cX6_noteBehind 26 = .ok (.goto 64, 3) := by decide +kernel
theorem dX6_noteBehind_29 : decode cX6_noteBehind 29 = .ok (.iload_n 2, 1) := by decide +kernel
theorem dX6_noteBehind_30 : decode cX6_noteBehind 30 = .ok (.bipush 99, 2) := by decide +kernel
theorem dX6_noteBehind_32 : decode cX6_noteBehind 32 = .ok (.if_icmp .eq 9, 3) := by decide +kernel
theorem dX6_noteBehind_35 : decode cX6_noteBehind 35 = .ok (.iload_n 2, 1) := by decide +kernel
theorem dX6_noteBehind_36 : decode cX6_noteBehind 36 = .ok (.bipush 109, 2) := by decide +kernel
theorem dX6_noteBehind_38 : decode cX6_noteBehind 38 = .ok (.if_icmp .ne 52, 3) := by decide +kernel
theorem dX6_noteBehind_41 : decode cX6_noteBehind 41 = .ok (.aload_n 1, 1) := by decide +kernel
theorem dX6_noteBehind_42 : decode cX6_noteBehind 42 = .ok (.getfield 40, 3) := by decide +kernel
theorem dX6_noteBehind_45 : decode cX6_noteBehind 45 = .ok (.iconst 1, 1) := by decide +kernel
theorem dX6_noteBehind_46 : decode cX6_noteBehind 46 = .ok (.isub, 1) := by decide +kernel
theorem dX6_noteBehind_47 : decode cX6_noteBehind 47 = .ok (.istore_n 3, 1) := by decide +kernel
theorem dX6_noteBehind_48 : decode cX6_noteBehind 48 = .ok (.aload_n 1, 1) := by decide +kernel
theorem dX6_noteBehind_49 : decode cX6_noteBehind 49 = .ok (.getfield 173, 3) := by decide +kernel
theorem dX6_noteBehind_52 : decode cX6_noteBehind 52 = .ok (.getfield 177, 3) := by decide +kernel
theorem dX6_noteBehind_55 : decode cX6_noteBehind 55 = .ok (.aload_n 1, 1) := by decide +kernel
theorem dX6_noteBehind_56 : decode cX6_noteBehind 56 = .ok (.invokevirtual 182, 3) := by decide +kernel
theorem dX6_noteBehind_59 : decode cX6_noteBehind 59 = .ok (.iaload, 1) := by decide +kernel
theorem dX6_noteBehind_60 : decode cX6_noteBehind 60 = .ok (.istore 4, 2) := by decide +kernel
theorem dX6_noteBehind_62 : decode cX6_noteBehind 62 = .ok (.iload 4, 2) := by decide +kernel
theorem dX6_noteBehind_64 : decode cX6_noteBehind 64 = .ok (.bipush 6, 2) := by decide +kernel
theorem dX6_noteBehind_66 : decode cX6_noteBehind 66 = .ok (.if_icmp .ge 24, 3) := by decide +kernel
theorem dX6_noteBehind_69 : decode cX6_noteBehind 69 = .ok (.aload_n 0, 1) := by decide +kernel
theorem dX6_noteBehind_70 : decode cX6_noteBehind 70 = .ok (.aload_n 1, 1) := by decide +kernel
theorem dX6_noteBehind_71 : decode cX6_noteBehind 71 = .ok (.getfield 68, 3) := by decide +kernel
theorem dX6_noteBehind_74 : decode cX6_noteBehind 74 = .ok (.iload_n 3, 1) := by decide +kernel
theorem dX6_noteBehind_75 : decode cX6_noteBehind 75 = .ok (.iload 4, 2) := by decide +kernel
theorem dX6_noteBehind_77 : decode cX6_noteBehind 77 = .ok (.invokestatic 185, 3) := by decide +kernel
theorem dX6_noteBehind_80 : decode cX6_noteBehind 80 = .ok (.iconst 3, 1) := by decide +kernel
theorem dX6_noteBehind_81 : decode cX6_noteBehind 81 = .ok (.invokevirtual 169, 3) := by decide +kernel
theorem dX6_noteBehind_84 : decode cX6_noteBehind 84 = .ok (.iinc 4 1, 3) := by decide +kernel
theorem dX6_noteBehind_87 : decode cX6_noteBehind 87 = .ok (.goto (-25), 3) := by decide +kernel
theorem dX6_noteBehind_90 : decode cX6_noteBehind 90 = .ok (.return_, 1) := by decide +kernel
theorem dX6_giveFacts_0 : decode cX6_giveFacts 0 = .ok (.aload_n 1, 1) := by decide +kernel
theorem dX6_giveFacts_1 : decode cX6_giveFacts 1 = .ok (.getfield 72, 3) := by decide +kernel
theorem dX6_giveFacts_4 : decode cX6_giveFacts 4 = .ok (.iload_n 2, 1) := by decide +kernel
theorem dX6_giveFacts_5 : decode cX6_giveFacts 5 = .ok (.aload_n 0, 1) := by decide +kernel
theorem dX6_giveFacts_6 : decode cX6_giveFacts 6 = .ok (.getfield 77, 3) := by decide +kernel
theorem dX6_giveFacts_9 : decode cX6_giveFacts 9 = .ok (.iastore, 1) := by decide +kernel
theorem dX6_giveFacts_10 : decode cX6_giveFacts 10 = .ok (.aload_n 0, 1) := by decide +kernel
theorem dX6_giveFacts_11 : decode cX6_giveFacts 11 = .ok (.getfield 30, 3) := by decide +kernel
theorem dX6_giveFacts_14 : decode cX6_giveFacts 14 = .ok (.aload_n 0, 1) := by decide +kernel
theorem dX6_giveFacts_15 : decode cX6_giveFacts 15 = .ok (.getfield 77, 3) := by decide +kernel
theorem dX6_giveFacts_18 : decode cX6_giveFacts 18 = .ok (.iload_n 3, 1) := by decide +kernel
theorem dX6_giveFacts_19 : decode cX6_giveFacts 19 = .ok (.iastore, 1) := by decide +kernel
theorem dX6_giveFacts_20 : decode cX6_giveFacts 20 = .ok (.aload_n 0, 1) := by decide +kernel
theorem dX6_giveFacts_21 : decode cX6_giveFacts 21 = .ok (.dup, 1) := by decide +kernel
theorem dX6_giveFacts_22 : decode cX6_giveFacts 22 = .ok (.getfield 77, 3) := by decide +kernel
theorem dX6_giveFacts_25 : decode cX6_giveFacts 25 = .ok (.iconst 1, 1) := by decide +kernel
theorem dX6_giveFacts_26 : decode cX6_giveFacts 26 = .ok (.iadd, 1) := by decide +kernel
theorem dX6_giveFacts_27 : decode cX6_giveFacts 27 = .ok (.putfield 77, 3) := by decide +kernel
theorem dX6_giveFacts_30 : decode cX6_giveFacts 30 = .ok (.return_, 1) := by decide +kernel
theorem dX7_init_0 : decode cX7_init 0 = .ok (.aload_n 0, 1) := by decide +kernel
theorem dX7_init_1 : decode cX7_init 1 = .ok (.invokespecial 3, 3) := by decide +kernel
theorem dX7_init_4 : decode cX7_init 4 = .ok (.aload_n 0, 1) := by decide +kernel
theorem dX7_init_5 : decode cX7_init 5 = .ok (.bipush 60, 2) := by decide +kernel
theorem dX7_init_7 : decode cX7_init 7 = .ok (.newarray .int, 2) := by decide +kernel
theorem dX7_init_9 : decode cX7_init 9 = .ok (.putfield 9, 3) := by decide +kernel
theorem dX7_init_12 : decode cX7_init 12 = .ok (.aload_n 0, 1) := by decide +kernel
theorem dX7_init_13 : decode cX7_init 13 = .ok (.bipush 60, 2) := by decide +kernel
theorem dX7_init_15 : decode cX7_init 15 = .ok (.newarray .int, 2) := by decide +kernel
theorem dX7_init_17 : decode cX7_init 17 = .ok (.putfield 15, 3) := by decide +kernel
theorem dX7_init_20 : decode cX7_init 20 = .ok (.aload_n 0, 1) := by decide +kernel
theorem dX7_init_21 : decode cX7_init 21 = .ok (.bipush 60, 2) := by decide +kernel
theorem dX7_init_23 : decode cX7_init 23 = .ok (.newarray .int, 2) := by decide +kernel
theorem dX7_init_25 : decode cX7_init 25 = .ok (.putfield 18, 3) := by decide +kernel
theorem dX7_init_28 : decode cX7_init 28 = .ok (.aload_n 0, 1) := by decide +kernel
theorem dX7_init_29 : decode cX7_init 29 = .ok (.sipush 360, 3) := by decide +kernel
theorem dX7_init_32 : decode cX7_init 32 = .ok (.newarray .int, 2) := by decide +kernel
theorem dX7_init_34 : decode cX7_init 34 = .ok (.putfield 21, 3) := by decide +kernel
theorem dX7_init_37 : decode cX7_init 37 = .ok (.aload_n 0, 1) := by decide +kernel
theorem dX7_init_38 : decode cX7_init 38 = .ok (.sipush 360, 3) := by decide +kernel
theorem dX7_init_41 : decode cX7_init 41 = .ok (.newarray .int, 2) := by decide +kernel
theorem dX7_init_43 : decode cX7_init 43 = .ok (.putfield 24, 3) := by decide +kernel
theorem dX7_init_46 : decode cX7_init 46 = .ok (.aload_n 0, 1) := by decide +kernel
theorem dX7_init_47 : decode cX7_init 47 = .ok (.iconst 5, 1) := by decide +kernel
theorem dX7_init_48 : decode cX7_init 48 = .ok (.newarray .int, 2) := by decide +kernel
theorem dX7_init_50 : decode cX7_init 50 = .ok (.putfield 27, 3) := by decide +kernel
theorem dX7_init_53 : decode cX7_init 53 = .ok (.return_, 1) := by decide +kernel
theorem dX7_has_0 : decode cX7_has 0 = .ok (.aload_n 0, 1) := by decide +kernel
theorem dX7_has_1 : decode cX7_has 1 = .ok (.getfield 18, 3) := by decide +kernel
theorem dX7_has_4 : decode cX7_has 4 = .ok (.iload_n 1, 1) := by decide +kernel
theorem dX7_has_5 : decode cX7_has 5 = .ok (.iaload, 1) := by decide +kernel
theorem dX7_has_6 : decode cX7_has 6 = .ok (.iload_n 2, 1) := by decide +kernel
theorem dX7_has_7 : decode cX7_has 7 = .ok (.ishr, 1) := by decide +kernel
theorem dX7_has_8 : decode cX7_has 8 = .ok (.iconst 1, 1) := by decide +kernel
theorem dX7_has_9 : decode cX7_has 9 = .ok (.iand, 1) := by decide +kernel
theorem dX7_has_10 : decode cX7_has 10 = .ok (.ifCond .eq 7, 3) := by decide +kernel
theorem dX7_has_13 : decode cX7_has 13 = .ok (.iconst 1, 1) := by decide +kernel
theorem dX7_has_14 : decode cX7_has 14 = .ok (.goto 4, 3) := by decide +kernel
theorem dX7_has_17 : decode cX7_has 17 = .ok (.iconst 0, 1) := by decide +kernel
theorem dX7_has_18 : decode cX7_has 18 = .ok (.ireturn, 1) := by decide +kernel
theorem dX7_addEmpty_0 : decode cX7_addEmpty 0 = .ok (.aload_n 0, 1) := by decide +kernel
theorem dX7_addEmpty_1 : decode cX7_addEmpty 1 = .ok (.getfield 30, 3) := by decide +kernel
theorem dX7_addEmpty_4 : decode cX7_addEmpty 4 = .ok (.istore_n 2, 1) := by decide +kernel
theorem dX7_addEmpty_5 : decode cX7_addEmpty 5 = .ok (.aload_n 0, 1) := by decide +kernel
theorem dX7_addEmpty_6 : decode cX7_addEmpty 6 = .ok (.getfield 9, 3) := by decide +kernel
theorem dX7_addEmpty_9 : decode cX7_addEmpty 9 = .ok (.iload_n 2, 1) := by decide +kernel
theorem dX7_addEmpty_10 : decode cX7_addEmpty 10 = .ok (.iload_n 1, 1) := by decide +kernel
theorem dX7_addEmpty_11 : decode cX7_addEmpty 11 = .ok (.iastore, 1) := by decide +kernel
theorem dX7_addEmpty_12 : decode cX7_addEmpty 12 = .ok (.aload_n 0, 1) := by decide +kernel
theorem dX7_addEmpty_13 : decode cX7_addEmpty 13 = .ok (.getfield 15, 3) := by decide +kernel
theorem dX7_addEmpty_16 : decode cX7_addEmpty 16 = .ok (.iload_n 2, 1) := by decide +kernel
theorem dX7_addEmpty_17 : decode cX7_addEmpty 17 = .ok (.iconst 0, 1) := by decide +kernel
theorem dX7_addEmpty_18 : decode cX7_addEmpty 18 = .ok (.iastore, 1) := by decide +kernel
theorem dX7_addEmpty_19 : decode cX7_addEmpty 19 = .ok (.aload_n 0, 1) := by decide +kernel
theorem dX7_addEmpty_20 : decode cX7_addEmpty 20 = .ok (.getfield 18, 3) := by decide +kernel
theorem dX7_addEmpty_23 : decode cX7_addEmpty 23 = .ok (.iload_n 2, 1) := by decide +kernel
theorem dX7_addEmpty_24 : decode cX7_addEmpty 24 = .ok (.iconst 0, 1) := by decide +kernel
theorem dX7_addEmpty_25 : decode cX7_addEmpty 25 = .ok (.iastore, 1) := by decide +kernel
theorem dX7_addEmpty_26 : decode cX7_addEmpty 26 = .ok (.iconst 0, 1) := by decide +kernel
theorem dX7_addEmpty_27 : decode cX7_addEmpty 27 = .ok (.istore_n 3, 1) := by decide +kernel
theorem dX7_addEmpty_28 : decode cX7_addEmpty 28 = .ok (.iload_n 3, 1) := by decide +kernel
theorem dX7_addEmpty_29 : decode cX7_addEmpty 29 = .ok (.bipush 6, 2) := by decide +kernel
theorem dX7_addEmpty_31 : decode cX7_addEmpty 31 = .ok (.if_icmp .ge 21, 3) := by decide +kernel
theorem dX7_addEmpty_34 : decode cX7_addEmpty 34 = .ok (.aload_n 0, 1) := by decide +kernel
theorem dX7_addEmpty_35 : decode cX7_addEmpty 35 = .ok (.getfield 24, 3) := by decide +kernel
theorem dX7_addEmpty_38 : decode cX7_addEmpty 38 = .ok (.iload_n 2, 1) := by decide +kernel
theorem dX7_addEmpty_39 : decode cX7_addEmpty 39 = .ok (.bipush 6, 2) := by decide +kernel
theorem dX7_addEmpty_41 : decode cX7_addEmpty 41 = .ok (.imul, 1) := by decide +kernel
theorem dX7_addEmpty_42 : decode cX7_addEmpty 42 = .ok (.iload_n 3, 1) := by decide +kernel
theorem dX7_addEmpty_43 : decode cX7_addEmpty 43 = .ok (.iadd, 1) := by decide +kernel
theorem dX7_addEmpty_44 : decode cX7_addEmpty 44 = .ok (.iconst (-1), 1) := by decide +kernel
theorem dX7_addEmpty_45 : decode cX7_addEmpty 45 = .ok (.iastore, 1) := by decide +kernel
theorem dX7_addEmpty_46 : decode cX7_addEmpty 46 = .ok (.iinc 3 1, 3) := by decide +kernel
theorem dX7_addEmpty_49 : decode cX7_addEmpty 49 = .ok (.goto (-21), 3) := by decide +kernel
theorem dX7_addEmpty_52 : decode cX7_addEmpty 52 = .ok (.aload_n 0, 1) := by decide +kernel
theorem dX7_addEmpty_53 : decode cX7_addEmpty 53 = .ok (.dup, 1) := by decide +kernel
theorem dX7_addEmpty_54 : decode cX7_addEmpty 54 = .ok (.getfield 30, 3) := by decide +kernel
theorem dX7_addEmpty_57 : decode cX7_addEmpty 57 = .ok (.iconst 1, 1) := by decide +kernel
theorem dX7_addEmpty_58 : decode cX7_addEmpty 58 = .ok (.iadd, 1) := by decide +kernel
theorem dX7_addEmpty_59 : decode cX7_addEmpty 59 = .ok (.putfield 30, 3) := by decide +kernel
theorem dX7_addEmpty_62 : decode cX7_addEmpty 62 = .ok (.iload_n 2, 1) := by decide +kernel
theorem dX7_addEmpty_63 : decode cX7_addEmpty 63 = .ok (.ireturn, 1) := by decide +kernel
theorem dX7_canPut_0 : decode cX7_canPut 0 = .ok (.aload_n 0, 1) := by decide +kernel
theorem dX7_canPut_1 : decode cX7_canPut 1 = .ok (.iload_n 1, 1) := by decide +kernel
theorem dX7_canPut_2 : decode cX7_canPut 2 = .ok (.iload_n 2, 1) := by decide +kernel
theorem dX7_canPut_3 : decode cX7_canPut 3 = .ok (.invokevirtual 34, 3) := by decide +kernel
theorem dX7_canPut_6 : decode cX7_canPut 6 = .ok (.ifCond .ne 27, 3) := by decide +kernel
theorem dX7_canPut_9 : decode cX7_canPut 9 = .ok (.aload_n 0, 1) := by decide +kernel
theorem dX7_canPut_10 : decode cX7_canPut 10 = .ok (.getfield 24, 3) := by decide +kernel
theorem dX7_canPut_13 : decode cX7_canPut 13 = .ok (.iload_n 1, 1) := by decide +kernel
theorem dX7_canPut_14 : decode cX7_canPut 14 = .ok (.bipush 6, 2) := by decide +kernel
theorem dX7_canPut_16 : decode cX7_canPut 16 = .ok (.imul, 1) := by decide +kernel
theorem dX7_canPut_17 : decode cX7_canPut 17 = .ok (.iload_n 2, 1) := by decide +kernel
theorem dX7_canPut_18 : decode cX7_canPut 18 = .ok (.iadd, 1) := by decide +kernel
theorem dX7_canPut_19 : decode cX7_canPut 19 = .ok (.iaload, 1) := by decide +kernel
theorem dX7_canPut_20 : decode cX7_canPut 20 = .ok (.iconst (-1), 1) := by decide +kernel
theorem dX7_canPut_21 : decode cX7_canPut 21 = .ok (.if_icmp .ne 12, 3) := by decide +kernel
theorem dX7_canPut_24 : decode cX7_canPut 24 = .ok (.aload_n 0, 1) := by decide +kernel
theorem dX7_canPut_25 : decode cX7_canPut 25 = .ok (.getfield 30, 3) := by decide +kernel
theorem dX7_canPut_28 : decode cX7_canPut 28 = .ok (.bipush 60, 2) := by decide +kernel
theorem dX7_canPut_30 : decode cX7_canPut 30 = .ok (.if_icmp .ge 7, 3) := by decide +kernel
theorem dX7_canPut_33 : decode cX7_canPut 33 = .ok (.iconst 1, 1) := by decide +kernel
theorem dX7_canPut_34 : decode cX7_canPut 34 = .ok (.goto 4, 3) := by decide +kernel
theorem dX7_canPut_37 : decode cX7_canPut 37 = .ok (.iconst 0, 1) := by decide +kernel
theorem dX7_canPut_38 : decode cX7_canPut 38 = .ok (.ireturn, 1) := by decide +kernel
theorem dX7_behindPut_0 : decode cX7_behindPut 0 = .ok (.aload_n 0, 1) := by decide +kernel
theorem dX7_behindPut_1 : decode cX7_behindPut 1 = .ok (.iload_n 1, 1) := by decide +kernel
theorem dX7_behindPut_2 : decode cX7_behindPut 2 = .ok (.iload_n 2, 1) := by decide +kernel
theorem dX7_behindPut_3 : decode cX7_behindPut 3 = .ok (.invokevirtual 34, 3) := by decide +kernel
theorem dX7_behindPut_6 : decode cX7_behindPut 6 = .ok (.ifCond .eq 5, 3) := by decide +kernel
theorem dX7_behindPut_9 : decode cX7_behindPut 9 = .ok (.iload_n 1, 1) := by decide +kernel
theorem dX7_behindPut_10 : decode cX7_behindPut 10 = .ok (.ireturn, 1) := by decide +kernel
theorem dX7_behindPut_11 : decode cX7_behindPut 11 = .ok (.aload_n 0, 1) := by decide +kernel
theorem dX7_behindPut_12 : decode cX7_behindPut 12 = .ok (.getfield 24, 3) := by decide +kernel
theorem dX7_behindPut_15 : decode cX7_behindPut 15 = .ok (.iload_n 1, 1) := by decide +kernel
theorem dX7_behindPut_16 : decode cX7_behindPut 16 = .ok (.bipush 6, 2) := by decide +kernel
theorem dX7_behindPut_18 : decode cX7_behindPut 18 = .ok (.imul, 1) := by decide +kernel
theorem dX7_behindPut_19 : decode cX7_behindPut 19 = .ok (.iload_n 2, 1) := by decide +kernel
theorem dX7_behindPut_20 : decode cX7_behindPut 20 = .ok (.iadd, 1) := by decide +kernel
theorem dX7_behindPut_21 : decode cX7_behindPut 21 = .ok (.iaload, 1) := by decide +kernel
theorem dX7_behindPut_22 : decode cX7_behindPut 22 = .ok (.iconst (-1), 1) := by decide +kernel
theorem dX7_behindPut_23 : decode cX7_behindPut 23 = .ok (.if_icmp .ne 20, 3) := by decide +kernel
theorem dX7_behindPut_26 : decode cX7_behindPut 26 = .ok (.aload_n 0, 1) := by decide +kernel
theorem dX7_behindPut_27 : decode cX7_behindPut 27 = .ok (.getfield 24, 3) := by decide +kernel
theorem dX7_behindPut_30 : decode cX7_behindPut 30 = .ok (.iload_n 1, 1) := by decide +kernel
theorem dX7_behindPut_31 : decode cX7_behindPut 31 = .ok (.bipush 6, 2) := by decide +kernel
theorem dX7_behindPut_33 : decode cX7_behindPut 33 = .ok (.imul, 1) := by decide +kernel
theorem dX7_behindPut_34 : decode cX7_behindPut 34 = .ok (.iload_n 2, 1) := by decide +kernel
theorem dX7_behindPut_35 : decode cX7_behindPut 35 = .ok (.iadd, 1) := by decide +kernel
theorem dX7_behindPut_36 : decode cX7_behindPut 36 = .ok (.aload_n 0, 1) := by decide +kernel
theorem dX7_behindPut_37 : decode cX7_behindPut 37 = .ok (.iload_n 1, 1) := by decide +kernel
theorem dX7_behindPut_38 : decode cX7_behindPut 38 = .ok (.iload_n 2, 1) := by decide +kernel
theorem dX7_behindPut_39 : decode cX7_behindPut 39 = .ok (.invokevirtual 38, 3) := by decide +kernel
theorem dX7_behindPut_42 : decode cX7_behindPut 42 = .ok (.iastore, 1) := by decide +kernel
theorem dX7_behindPut_43 : decode cX7_behindPut 43 = .ok (.aload_n 0, 1) := by decide +kernel
theorem dX7_behindPut_44 : decode cX7_behindPut 44 = .ok (.getfield 24, 3) := by decide +kernel
theorem dX7_behindPut_47 : decode cX7_behindPut 47 = .ok (.iload_n 1, 1) := by decide +kernel
theorem dX7_behindPut_48 : decode cX7_behindPut 48 = .ok (.bipush 6, 2) := by decide +kernel
theorem dX7_behindPut_50 : decode cX7_behindPut 50 = .ok (.imul, 1) := by decide +kernel
theorem dX7_behindPut_51 : decode cX7_behindPut 51 = .ok (.iload_n 2, 1) := by decide +kernel
theorem dX7_behindPut_52 : decode cX7_behindPut 52 = .ok (.iadd, 1) := by decide +kernel
theorem dX7_behindPut_53 : decode cX7_behindPut 53 = .ok (.iaload, 1) := by decide +kernel
theorem dX7_behindPut_54 : decode cX7_behindPut 54 = .ok (.ireturn, 1) := by decide +kernel
theorem dX7_addLonger_0 : decode cX7_addLonger 0 = .ok (.aload_n 0, 1) := by decide +kernel
theorem dX7_addLonger_1 : decode cX7_addLonger 1 = .ok (.aload_n 0, 1) := by decide +kernel
theorem dX7_addLonger_2 : decode cX7_addLonger 2 = .ok (.getfield 9, 3) := by decide +kernel
theorem dX7_addLonger_5 : decode cX7_addLonger 5 = .ok (.iload_n 1, 1) := by decide +kernel
theorem dX7_addLonger_6 : decode cX7_addLonger 6 = .ok (.iaload, 1) := by decide +kernel
theorem dX7_addLonger_7 : decode cX7_addLonger 7 = .ok (.invokevirtual 42, 3) := by decide +kernel
theorem dX7_addLonger_10 : decode cX7_addLonger 10 = .ok (.istore_n 3, 1) := by decide +kernel
theorem dX7_addLonger_11 : decode cX7_addLonger 11 = .ok (.iconst 0, 1) := by decide +kernel
theorem dX7_addLonger_12 : decode cX7_addLonger 12 = .ok (.istore 4, 2) := by decide +kernel
theorem dX7_addLonger_14 : decode cX7_addLonger 14 = .ok (.iload 4, 2) := by decide +kernel
theorem dX7_addLonger_16 : decode cX7_addLonger 16 = .ok (.aload_n 0, 1) := by decide +kernel
theorem dX7_addLonger_17 : decode cX7_addLonger 17 = .ok (.getfield 15, 3) := by decide +kernel
theorem dX7_addLonger_20 : decode cX7_addLonger 20 = .ok (.iload_n 1, 1) := by decide +kernel
theorem dX7_addLonger_21 : decode cX7_addLonger 21 = .ok (.iaload, 1) := by decide +kernel
theorem dX7_addLonger_22 : decode cX7_addLonger 22 = .ok (.if_icmp .ge 33, 3) := by decide +kernel
theorem dX7_addLonger_25 : decode cX7_addLonger 25 = .ok (.aload_n 0, 1) := by decide +kernel
theorem dX7_addLonger_26 : decode cX7_addLonger 26 = .ok (.getfield 21, 3) := by decide +kernel
theorem dX7_addLonger_29 : decode cX7_addLonger 29 = .ok (.iload_n 3, 1) := by decide +kernel
theorem dX7_addLonger_30 : decode cX7_addLonger 30 = .ok (.bipush 6, 2) := by decide +kernel
theorem dX7_addLonger_32 : decode cX7_addLonger 32 = .ok (.imul, 1) := by decide +kernel
theorem dX7_addLonger_33 : decode cX7_addLonger 33 = .ok (.iload 4, 2) := by decide +kernel
theorem dX7_addLonger_35 : decode cX7_addLonger 35 = .ok (.iadd, 1) := by decide +kernel
theorem dX7_addLonger_36 : decode cX7_addLonger 36 = .ok (.aload_n 0, 1) := by decide +kernel
theorem dX7_addLonger_37 : decode cX7_addLonger 37 = .ok (.getfield 21, 3) := by decide +kernel
theorem dX7_addLonger_40 : decode cX7_addLonger 40 = .ok (.iload_n 1, 1) := by decide +kernel
theorem dX7_addLonger_41 : decode cX7_addLonger 41 = .ok (.bipush 6, 2) := by decide +kernel
theorem dX7_addLonger_43 : decode cX7_addLonger 43 = .ok (.imul, 1) := by decide +kernel
theorem dX7_addLonger_44 : decode cX7_addLonger 44 = .ok (.iload 4, 2) := by decide +kernel
theorem dX7_addLonger_46 : decode cX7_addLonger 46 = .ok (.iadd, 1) := by decide +kernel
theorem dX7_addLonger_47 : decode cX7_addLonger 47 = .ok (.iaload, 1) := by decide +kernel
theorem dX7_addLonger_48 : decode cX7_addLonger 48 = .ok (.iastore, 1) := by decide +kernel
theorem dX7_addLonger_49 : decode cX7_addLonger 49 = .ok (.iinc 4 1, 3) := by decide +kernel
theorem dX7_addLonger_52 : decode cX7_addLonger 52 = .ok (.goto (-38), 3) := by decide +kernel
theorem dX7_addLonger_55 : decode cX7_addLonger 55 = .ok (.aload_n 0, 1) := by decide +kernel
theorem dX7_addLonger_56 : decode cX7_addLonger 56 = .ok (.getfield 21, 3) := by decide +kernel
theorem dX7_addLonger_59 : decode cX7_addLonger 59 = .ok (.iload_n 3, 1) := by decide +kernel
theorem dX7_addLonger_60 : decode cX7_addLonger 60 = .ok (.bipush 6, 2) := by decide +kernel
theorem dX7_addLonger_62 : decode cX7_addLonger 62 = .ok (.imul, 1) := by decide +kernel
theorem dX7_addLonger_63 : decode cX7_addLonger 63 = .ok (.aload_n 0, 1) := by decide +kernel
theorem dX7_addLonger_64 : decode cX7_addLonger 64 = .ok (.getfield 15, 3) := by decide +kernel
theorem dX7_addLonger_67 : decode cX7_addLonger 67 = .ok (.iload_n 1, 1) := by decide +kernel
theorem dX7_addLonger_68 : decode cX7_addLonger 68 = .ok (.iaload, 1) := by decide +kernel
theorem dX7_addLonger_69 : decode cX7_addLonger 69 = .ok (.iadd, 1) := by decide +kernel
theorem dX7_addLonger_70 : decode cX7_addLonger 70 = .ok (.iload_n 2, 1) := by decide +kernel
theorem dX7_addLonger_71 : decode cX7_addLonger 71 = .ok (.iastore, 1) := by decide +kernel
theorem dX7_addLonger_72 : decode cX7_addLonger 72 = .ok (.aload_n 0, 1) := by decide +kernel
theorem dX7_addLonger_73 : decode cX7_addLonger 73 = .ok (.getfield 15, 3) := by decide +kernel
theorem dX7_addLonger_76 : decode cX7_addLonger 76 = .ok (.iload_n 3, 1) := by decide +kernel
theorem dX7_addLonger_77 : decode cX7_addLonger 77 = .ok (.aload_n 0, 1) := by decide +kernel
theorem dX7_addLonger_78 : decode cX7_addLonger 78 = .ok (.getfield 15, 3) := by decide +kernel
theorem dX7_addLonger_81 : decode cX7_addLonger 81 = .ok (.iload_n 1, 1) := by decide +kernel
theorem dX7_addLonger_82 : decode cX7_addLonger 82 = .ok (.iaload, 1) := by decide +kernel
theorem dX7_addLonger_83 : decode cX7_addLonger 83 = .ok (.iconst 1, 1) := by decide +kernel
theorem dX7_addLonger_84 : decode cX7_addLonger 84 = .ok (.iadd, 1) := by decide +kernel
theorem dX7_addLonger_85 : decode cX7_addLonger 85 = .ok (.iastore, 1) := by decide +kernel
theorem dX7_addLonger_86 : decode cX7_addLonger 86 = .ok (.aload_n 0, 1) := by decide +kernel
theorem dX7_addLonger_87 : decode cX7_addLonger 87 = .ok (.getfield 18, 3) := by decide +kernel
theorem dX7_addLonger_90 : decode cX7_addLonger 90 = .ok (.iload_n 3, 1) := by decide +kernel
theorem dX7_addLonger_91 : decode cX7_addLonger 91 = .ok (.aload_n 0, 1) := by decide +kernel
theorem dX7_addLonger_92 : decode cX7_addLonger 92 = .ok (.getfield 18, 3) := by decide +kernel
theorem dX7_addLonger_95 : decode cX7_addLonger 95 = .ok (.iload_n 1, 1) := by decide +kernel
theorem dX7_addLonger_96 : decode cX7_addLonger 96 = .ok (.iaload, 1) := by decide +kernel
theorem dX7_addLonger_97 : decode cX7_addLonger 97 = .ok (.iconst 1, 1) := by decide +kernel
theorem dX7_addLonger_98 : decode cX7_addLonger 98 = .ok (.iload_n 2, 1) := by decide +kernel
theorem dX7_addLonger_99 : decode cX7_addLonger 99 = .ok (.ishl, 1) := by decide +kernel
theorem dX7_addLonger_100 : decode cX7_addLonger 100 = .ok (.ior, 1) := by decide +kernel
theorem dX7_addLonger_101 : decode cX7_addLonger 101 = .ok (.iastore, 1) := by decide +kernel
theorem dX7_addLonger_102 : decode cX7_addLonger 102 = .ok (.iload_n 3, 1) := by decide +kernel
theorem dX7_addLonger_103 : decode cX7_addLonger 103 = .ok (.ireturn, 1) := by decide +kernel
theorem dX7_takeBack_0 : decode cX7_takeBack 0 = .ok (.iconst 0, 1) := by decide +kernel
theorem dX7_takeBack_1 : decode cX7_takeBack 1 = .ok (.istore_n 2, 1) := by decide +kernel
theorem dX7_takeBack_2 : decode cX7_takeBack 2 = .ok (.iload_n 2, 1) := by decide +kernel
theorem dX7_takeBack_3 : decode cX7_takeBack 3 = .ok (.iload_n 1, 1) := by decide +kernel
theorem dX7_takeBack_4 : decode cX7_takeBack 4 = .ok (.bipush 6, 2) := by decide +kernel
theorem dX7_takeBack_6 : decode cX7_takeBack 6 = .ok (.imul, 1) := by decide +kernel
theorem dX7_takeBack_7 : decode cX7_takeBack 7 = .ok (.if_icmp .ge 26, 3) := by decide +kernel
theorem dX7_takeBack_10 : decode cX7_takeBack 10 = .ok (.aload_n 0, 1) := by decide +kernel
theorem dX7_takeBack_11 : decode cX7_takeBack 11 = .ok (.getfield 24, 3) := by decide +kernel
theorem dX7_takeBack_14 : decode cX7_takeBack 14 = .ok (.iload_n 2, 1) := by decide +kernel
theorem dX7_takeBack_15 : decode cX7_takeBack 15 = .ok (.iaload, 1) := by decide +kernel
theorem dX7_takeBack_16 : decode cX7_takeBack 16 = .ok (.iload_n 1, 1) := by decide +kernel
theorem dX7_takeBack_17 : decode cX7_takeBack 17 = .ok (.if_icmp .lt 10, 3) := by decide +kernel
theorem dX7_takeBack_20 : decode cX7_takeBack 20 = .ok (.aload_n 0, 1) := by decide +kernel
theorem dX7_takeBack_21 : decode cX7_takeBack 21 = .ok (.getfield 24, 3) := by decide +kernel
theorem dX7_takeBack_24 : decode cX7_takeBack 24 = .ok (.iload_n 2, 1) := by decide +kernel
theorem dX7_takeBack_25 : decode cX7_takeBack 25 = .ok (.iconst (-1), 1) := by decide +kernel
theorem dX7_takeBack_26 : decode cX7_takeBack 26 = .ok (.iastore, 1) := by decide +kernel
theorem dX7_takeBack_27 : decode cX7_takeBack 27 = .ok (.iinc 2 1, 3) := by decide +kernel
theorem dX7_takeBack_30 : decode cX7_takeBack 30 = .ok (.goto (-28), 3) := by decide +kernel
theorem dX7_takeBack_33 : decode cX7_takeBack 33 = .ok (.aload_n 0, 1) := by decide +kernel
theorem dX7_takeBack_34 : decode cX7_takeBack 34 = .ok (.iload_n 1, 1) := by decide +kernel
theorem dX7_takeBack_35 : decode cX7_takeBack 35 = .ok (.putfield 30, 3) := by decide +kernel
theorem dX7_takeBack_38 : decode cX7_takeBack 38 = .ok (.return_, 1) := by decide +kernel
theorem dX8_init_0 : decode cX8_init 0 = .ok (.aload_n 0, 1) := by decide +kernel
theorem dX8_init_1 : decode cX8_init 1 = .ok (.invokespecial 3, 3) := by decide +kernel
theorem dX8_init_4 : decode cX8_init 4 = .ok (.aload_n 0, 1) := by decide +kernel
theorem dX8_init_5 : decode cX8_init 5 = .ok (.sipush 549, 3) := by decide +kernel
theorem dX8_init_8 : decode cX8_init 8 = .ok (.newarray .char, 2) := by decide +kernel
theorem dX8_init_10 : decode cX8_init 10 = .ok (.putfield 9, 3) := by decide +kernel
theorem dX8_init_13 : decode cX8_init 13 = .ok (.aload_n 0, 1) := by decide +kernel
theorem dX8_init_14 : decode cX8_init 14 = .ok (.sipush 549, 3) := by decide +kernel
theorem dX8_init_17 : decode cX8_init 17 = .ok (.newarray .int, 2) := by decide +kernel
theorem dX8_init_19 : decode cX8_init 19 = .ok (.putfield 15, 3) := by decide +kernel
theorem dX8_init_22 : decode cX8_init 22 = .ok (.aload_n 0, 1) := by decide +kernel
theorem dX8_init_23 : decode cX8_init 23 = .ok (.sipush 549, 3) := by decide +kernel
theorem dX8_init_26 : decode cX8_init 26 = .ok (.newarray .double, 2) := by decide +kernel
theorem dX8_init_28 : decode cX8_init 28 = .ok (.putfield 19, 3) := by decide +kernel
theorem dX8_init_31 : decode cX8_init 31 = .ok (.aload_n 0, 1) := by decide +kernel
theorem dX8_init_32 : decode cX8_init 32 = .ok (.sipush 549, 3) := by decide +kernel
theorem dX8_init_35 : decode cX8_init 35 = .ok (.newarray .int, 2) := by decide +kernel
theorem dX8_init_37 : decode cX8_init 37 = .ok (.putfield 23, 3) := by decide +kernel
theorem dX8_init_40 : decode cX8_init 40 = .ok (.return_, 1) := by decide +kernel
theorem dX8_put_0 : decode cX8_put 0 = .ok (.aload_n 0, 1) := by decide +kernel
theorem dX8_put_1 : decode cX8_put 1 = .ok (.getfield 9, 3) := by decide +kernel
theorem dX8_put_4 : decode cX8_put 4 = .ok (.iload_n 1, 1) := by decide +kernel
theorem dX8_put_5 : decode cX8_put 5 = .ok (.iload_n 2, 1) := by decide +kernel
theorem dX8_put_6 : decode cX8_put 6 = .ok (.castore, 1) := by decide +kernel
theorem dX8_put_7 : decode cX8_put 7 = .ok (.aload_n 0, 1) := by decide +kernel
theorem dX8_put_8 : decode cX8_put 8 = .ok (.getfield 15, 3) := by decide +kernel
theorem dX8_put_11 : decode cX8_put 11 = .ok (.iload_n 1, 1) := by decide +kernel
theorem dX8_put_12 : decode cX8_put 12 = .ok (.iload_n 3, 1) := by decide +kernel
theorem dX8_put_13 : decode cX8_put 13 = .ok (.iastore, 1) := by decide +kernel
theorem dX8_put_14 : decode cX8_put 14 = .ok (.aload_n 0, 1) := by decide +kernel
theorem dX8_put_15 : decode cX8_put 15 = .ok (.getfield 19, 3) := by decide +kernel
theorem dX8_put_18 : decode cX8_put 18 = .ok (.iload_n 1, 1) := by decide +kernel
theorem dX8_put_19 : decode cX8_put 19 = .ok (.dconst 0, 1) := by decide +kernel
theorem dX8_put_20 : decode cX8_put 20 = .ok (.dastore, 1) := by decide +kernel
theorem dX8_put_21 : decode cX8_put 21 = .ok (.return_, 1) := by decide +kernel
theorem dX8_putReal_0 : decode cX8_putReal 0 = .ok (.aload_n 0, 1) := by decide +kernel
theorem dX8_putReal_1 : decode cX8_putReal 1 = .ok (.iload_n 1, 1) := by decide +kernel
theorem dX8_putReal_2 : decode cX8_putReal 2 = .ok (.bipush 102, 2) := by decide +kernel
theorem dX8_putReal_4 : decode cX8_putReal 4 = .ok (.iconst 0, 1) := by decide +kernel
theorem dX8_putReal_5 : decode cX8_putReal 5 = .ok (.invokevirtual 26, 3) := by decide +kernel
theorem dX8_putReal_8 : decode cX8_putReal 8 = .ok (.aload_n 0, 1) := by decide +kernel
theorem dX8_putReal_9 : decode cX8_putReal 9 = .ok (.getfield 19, 3) := by decide +kernel
theorem dX8_putReal_12 : decode cX8_putReal 12 = .ok (.iload_n 1, 1) := by decide +kernel
theorem dX8_putReal_13 : decode cX8_putReal 13 = .ok (.dload_n 2, 1) := by decide +kernel
theorem dX8_putReal_14 : decode cX8_putReal 14 = .ok (.dastore, 1) := by decide +kernel
theorem dX8_putReal_15 : decode cX8_putReal 15 = .ok (.return_, 1) := by decide +kernel
theorem dX8_move_0 : decode cX8_move 0 = .ok (.aload_n 0, 1) := by decide +kernel
theorem dX8_move_1 : decode cX8_move 1 = .ok (.getfield 9, 3) := by decide +kernel
theorem dX8_move_4 : decode cX8_move 4 = .ok (.iload_n 2, 1) := by decide +kernel
theorem dX8_move_5 : decode cX8_move 5 = .ok (.aload_n 0, 1) := by decide +kernel
theorem dX8_move_6 : decode cX8_move 6 = .ok (.getfield 9, 3) := by decide +kernel
theorem dX8_move_9 : decode cX8_move 9 = .ok (.iload_n 1, 1) := by decide +kernel
theorem dX8_move_10 : decode cX8_move 10 = .ok (.caload, 1) := by decide +kernel
theorem dX8_move_11 : decode cX8_move 11 = .ok (.castore, 1) := by decide +kernel
theorem dX8_move_12 : decode cX8_move 12 = .ok (.aload_n 0, 1) := by decide +kernel
theorem dX8_move_13 : decode cX8_move 13 = .ok (.getfield 15, 3) := by decide +kernel
theorem dX8_move_16 : decode cX8_move 16 = .ok (.iload_n 2, 1) := by decide +kernel
theorem dX8_move_17 : decode cX8_move 17 = .ok (.aload_n 0, 1) := by decide +kernel
theorem dX8_move_18 : decode cX8_move 18 = .ok (.getfield 15, 3) := by decide +kernel
theorem dX8_move_21 : decode cX8_move 21 = .ok (.iload_n 1, 1) := by decide +kernel
theorem dX8_move_22 : decode cX8_move 22 = .ok (.iaload, 1) := by decide +kernel
theorem dX8_move_23 : decode cX8_move 23 = .ok (.iastore, 1) := by decide +kernel
theorem dX8_move_24 : decode cX8_move 24 = .ok (.aload_n 0, 1) := by decide +kernel
theorem dX8_move_25 : decode cX8_move 25 = .ok (.getfield 19, 3) := by decide +kernel
