theorem dX8_move_28 : decode cX8_move 28 = .ok (.iload_n 2, 1) := by decide +kernel
theorem dX8_move_29 : decode cX8_move 29 = .ok (.aload_n 0, 1) := by decide +kernel
theorem dX8_move_30 : decode cX8_move 30 = .ok (.getfield 19, 3) := by decide +kernel
theorem dX8_move_33 : decode cX8_move 33 = .ok (.iload_n 1, 1) := by decide +kernel
theorem dX8_move_34 : decode cX8_move 34 = .ok (.daload, 1) := by decide +kernel
theorem dX8_move_35 : decode cX8_move 35 = .ok (.dastore, 1) := by decide +kernel
theorem dX8_move_36 : decode cX8_move 36 = .ok (.aload_n 0, 1) := by decide +kernel
theorem dX8_move_37 : decode cX8_move 37 = .ok (.getfield 23, 3) := by decide +kernel
theorem dX8_move_40 : decode cX8_move 40 = .ok (.iload_n 2, 1) := by decide +kernel
theorem dX8_move_41 : decode cX8_move 41 = .ok (.aload_n 0, 1) := by decide +kernel
theorem dX8_move_42 : decode cX8_move 42 = .ok (.getfield 23, 3) := by decide +kernel
theorem dX8_move_45 : decode cX8_move 45 = .ok (.iload_n 1, 1) := by decide +kernel
theorem dX8_move_46 : decode cX8_move 46 = .ok (.iaload, 1) := by decide +kernel
theorem dX8_move_47 : decode cX8_move 47 = .ok (.iastore, 1) := by decide +kernel
theorem dX8_move_48 : decode cX8_move 48 = .ok (.return_, 1) := by decide +kernel
theorem dX8_isNumber_0 : decode cX8_isNumber 0 = .ok (.aload_n 0, 1) := by decide +kernel
theorem dX8_isNumber_1 : decode cX8_isNumber 1 = .ok (.getfield 9, 3) := by decide +kernel
theorem dX8_isNumber_4 : decode cX8_isNumber 4 = .ok (.iload_n 1, 1) := by decide +kernel
theorem dX8_isNumber_5 : decode cX8_isNumber 5 = .ok (.caload, 1) := by decide +kernel
theorem dX8_isNumber_6 : decode cX8_isNumber 6 = .ok (.bipush 105, 2) := by decide +kernel
theorem dX8_isNumber_8 : decode cX8_isNumber 8 = .ok (.if_icmp .eq 14, 3) := by decide +kernel
theorem dX8_isNumber_11 : decode cX8_isNumber 11 = .ok (.aload_n 0, 1) := by decide +kernel
theorem dX8_isNumber_12 : decode cX8_isNumber 12 = .ok (.getfield 9, 3) := by decide +kernel
theorem dX8_isNumber_15 : decode cX8_isNumber 15 = .ok (.iload_n 1, 1) := by decide +kernel
theorem dX8_isNumber_16 : decode cX8_isNumber 16 = .ok (.caload, 1) := by decide +kernel
theorem dX8_isNumber_17 : decode cX8_isNumber 17 = .ok (.bipush 102, 2) := by decide +kernel
theorem dX8_isNumber_19 : decode cX8_isNumber 19 = .ok (.if_icmp .ne 7, 3) := by decide +kernel
theorem dX8_isNumber_22 : decode cX8_isNumber 22 = .ok (.iconst 1, 1) := by decide +kernel
theorem dX8_isNumber_23 : decode cX8_isNumber 23 = .ok (.goto 4, 3) := by decide +kernel
theorem dX8_isNumber_26 : decode cX8_isNumber 26 = .ok (.iconst 0, 1) := by decide +kernel
theorem dX8_isNumber_27 : decode cX8_isNumber 27 = .ok (.ireturn, 1) := by decide +kernel
theorem dX8_areIntegers_0 : decode cX8_areIntegers 0 = .ok (.aload_n 0, 1) := by decide +kernel
theorem dX8_areIntegers_1 : decode cX8_areIntegers 1 = .ok (.getfield 9, 3) := by decide +kernel
theorem dX8_areIntegers_4 : decode cX8_areIntegers 4 = .ok (.iload_n 1, 1) := by decide +kernel
theorem dX8_areIntegers_5 : decode cX8_areIntegers 5 = .ok (.caload, 1) := by decide +kernel
theorem dX8_areIntegers_6 : decode cX8_areIntegers 6 = .ok (.bipush 105, 2) := by decide +kernel
theorem dX8_areIntegers_8 : decode cX8_areIntegers 8 = .ok (.if_icmp .ne 18, 3) := by decide +kernel
theorem dX8_areIntegers_11 : decode cX8_areIntegers 11 = .ok (.aload_n 0, 1) := by decide +kernel
theorem dX8_areIntegers_12 : decode cX8_areIntegers 12 = .ok (.getfield 9, 3) := by decide +kernel
theorem dX8_areIntegers_15 : decode cX8_areIntegers 15 = .ok (.iload_n 2, 1) := by decide +kernel
theorem dX8_areIntegers_16 : decode cX8_areIntegers 16 = .ok (.caload, 1) := by decide +kernel
theorem dX8_areIntegers_17 : decode cX8_areIntegers 17 = .ok (.bipush 105, 2) := by decide +kernel
theorem dX8_areIntegers_19 : decode cX8_areIntegers 19 = .ok (.if_icmp .ne 7, 3) := by decide +kernel
theorem dX8_areIntegers_22 : decode cX8_areIntegers 22 = .ok (.iconst 1, 1) := by decide +kernel
theorem dX8_areIntegers_23 : decode cX8_areIntegers 23 = .ok (.goto 4, 3) := by decide +kernel
theorem dX8_areIntegers_26 : decode cX8_areIntegers 26 = .ok (.iconst 0, 1) := by decide +kernel
theorem dX8_areIntegers_27 : decode cX8_areIntegers 27 = .ok (.ireturn, 1) := by decide +kernel
theorem dX8_isUndefined_0 : decode cX8_isUndefined 0 = .ok (.aload_n 0, 1) := by decide +kernel
theorem dX8_isUndefined_1 : decode cX8_isUndefined 1 = .ok (.getfield 9, 3) := by decide +kernel
theorem dX8_isUndefined_4 : decode cX8_isUndefined 4 = .ok (.iload_n 1, 1) := by decide +kernel
theorem dX8_isUndefined_5 : decode cX8_isUndefined 5 = .ok (.caload, 1) := by decide +kernel
theorem dX8_isUndefined_6 : decode cX8_isUndefined 6 = .ok (.bipush 102, 2) := by decide +kernel
theorem dX8_isUndefined_8 : decode cX8_isUndefined 8 = .ok (.if_icmp .ne 17, 3) := by decide +kernel
theorem dX8_isUndefined_11 : decode cX8_isUndefined 11 = .ok (.aload_n 0, 1) := by decide +kernel
theorem dX8_isUndefined_12 : decode cX8_isUndefined 12 = .ok (.getfield 15, 3) := by decide +kernel
theorem dX8_isUndefined_15 : decode cX8_isUndefined 15 = .ok (.iload_n 1, 1) := by decide +kernel
theorem dX8_isUndefined_16 : decode cX8_isUndefined 16 = .ok (.iaload, 1) := by decide +kernel
theorem dX8_isUndefined_17 : decode cX8_isUndefined 17 = .ok (.iconst 1, 1) := by decide +kernel
theorem dX8_isUndefined_18 : decode cX8_isUndefined 18 = .ok (.if_icmp .ne 7, 3) := by decide +kernel
theorem dX8_isUndefined_21 : decode cX8_isUndefined 21 = .ok (.iconst 1, 1) := by decide +kernel
theorem dX8_isUndefined_22 : decode cX8_isUndefined 22 = .ok (.goto 4, 3) := by decide +kernel
theorem dX8_isUndefined_25 : decode cX8_isUndefined 25 = .ok (.iconst 0, 1) := by decide +kernel
theorem dX8_isUndefined_26 : decode cX8_isUndefined 26 = .ok (.ireturn, 1) := by decide +kernel
theorem dX8_realAt_0 : decode cX8_realAt 0 = .ok (.aload_n 0, 1) := by decide +kernel
theorem dX8_realAt_1 : decode cX8_realAt 1 = .ok (.getfield 9, 3) := by decide +kernel
theorem dX8_realAt_4 : decode cX8_realAt 4 = .ok (.iload_n 1, 1) := by decide +kernel
theorem dX8_realAt_5 : decode cX8_realAt 5 = .ok (.caload, 1) := by decide +kernel
theorem dX8_realAt_6 : decode cX8_realAt 6 = .ok (.bipush 105, 2) := by decide +kernel
theorem dX8_realAt_8 : decode cX8_realAt 8 = .ok (.if_icmp .ne 13, 3) := by decide +kernel
theorem dX8_realAt_11 : decode cX8_realAt 11 = .ok (.aload_n 0, 1) := by decide +kernel
theorem dX8_realAt_12 : decode cX8_realAt 12 = .ok (.getfield 15, 3) := by decide +kernel
theorem dX8_realAt_15 : decode cX8_realAt 15 = .ok (.iload_n 1, 1) := by decide +kernel
theorem dX8_realAt_16 : decode cX8_realAt 16 = .ok (.iaload, 1) := by decide +kernel
theorem dX8_realAt_17 : decode cX8_realAt 17 = .ok (.i2d, 1) := by decide +kernel
theorem dX8_realAt_18 : decode cX8_realAt 18 = .ok (.goto 9, 3) := by decide +kernel
theorem dX8_realAt_21 : decode cX8_realAt 21 = .ok (.aload_n 0, 1) := by decide +kernel
theorem dX8_realAt_22 : decode cX8_realAt 22 = .ok (.getfield 19, 3) := by decide +kernel
theorem dX8_realAt_25 : decode cX8_realAt 25 = .ok (.iload_n 1, 1) := by decide +kernel
theorem dX8_realAt_26 : decode cX8_realAt 26 = .ok (.daload, 1) := by decide +kernel
theorem dX8_realAt_27 : decode cX8_realAt 27 = .ok (.dreturn, 1) := by decide +kernel
theorem dX8_isNull_0 : decode cX8_isNull 0 = .ok (.aload_n 0, 1) := by decide +kernel
theorem dX8_isNull_1 : decode cX8_isNull 1 = .ok (.getfield 9, 3) := by decide +kernel
theorem dX8_isNull_4 : decode cX8_isNull 4 = .ok (.iload_n 1, 1) := by decide +kernel
theorem dX8_isNull_5 : decode cX8_isNull 5 = .ok (.caload, 1) := by decide +kernel
theorem dX8_isNull_6 : decode cX8_isNull 6 = .ok (.lookupswitch 66 #[(102, 41), (105, 26)], 26) := by decide +kernel
theorem dX8_isNull_32 : decode cX8_isNull 32 = .ok (.aload_n 0, 1) := by decide +kernel
theorem dX8_isNull_33 : decode cX8_isNull 33 = .ok (.getfield 15, 3) := by decide +kernel
theorem dX8_isNull_36 : decode cX8_isNull 36 = .ok (.iload_n 1, 1) := by decide +kernel
theorem dX8_isNull_37 : decode cX8_isNull 37 = .ok (.iaload, 1) := by decide +kernel
theorem dX8_isNull_38 : decode cX8_isNull 38 = .ok (.ifCond .ne 7, 3) := by decide +kernel
theorem dX8_isNull_41 : decode cX8_isNull 41 = .ok (.iconst 1, 1) := by decide +kernel
theorem dX8_isNull_42 : decode cX8_isNull 42 = .ok (.goto 4, 3) := by decide +kernel
theorem dX8_isNull_45 : decode cX8_isNull 45 = .ok (.iconst 0, 1) := by decide +kernel
theorem dX8_isNull_46 : decode cX8_isNull 46 = .ok (.ireturn, 1) := by decide +kernel
theorem dX8_isNull_47 : decode cX8_isNull 47 = .ok (.aload_n 0, 1) := by decide +kernel
theorem dX8_isNull_48 : decode cX8_isNull 48 = .ok (.iload_n 1, 1) := by decide +kernel
theorem dX8_isNull_49 : decode cX8_isNull 49 = .ok (.invokevirtual 30, 3) := by decide +kernel
theorem dX8_isNull_52 : decode cX8_isNull 52 = .ok (.ifCond .ne 18, 3) := by decide +kernel
theorem dX8_isNull_55 : decode cX8_isNull 55 = .ok (.aload_n 0, 1) := by decide +kernel
theorem dX8_isNull_56 : decode cX8_isNull 56 = .ok (.getfield 19, 3) := by decide +kernel
theorem dX8_isNull_59 : decode cX8_isNull 59 = .ok (.iload_n 1, 1) := by decide +kernel
theorem dX8_isNull_60 : decode cX8_isNull 60 = .ok (.daload, 1) := by decide +kernel
theorem dX8_isNull_61 : decode cX8_isNull 61 = .ok (.dconst 0, 1) := by decide +kernel
theorem dX8_isNull_62 : decode cX8_isNull 62 = .ok (.dcmp .l, 1) := by decide +kernel
theorem dX8_isNull_63 : decode cX8_isNull 63 = .ok (.ifCond .ne 7, 3) := by decide +kernel
theorem dX8_isNull_66 : decode cX8_isNull 66 = .ok (.iconst 1, 1) := by decide +kernel
theorem dX8_isNull_67 : decode cX8_isNull 67 = .ok (.goto 4, 3) := by decide +kernel
theorem dX8_isNull_70 : decode cX8_isNull 70 = .ok (.iconst 0, 1) := by decide +kernel
theorem dX8_isNull_71 : decode cX8_isNull 71 = .ok (.ireturn, 1) := by decide +kernel
theorem dX8_isNull_72 : decode cX8_isNull 72 = .ok (.aload_n 0, 1) := by decide +kernel
theorem dX8_isNull_73 : decode cX8_isNull 73 = .ok (.getfield 9, 3) := by decide +kernel
theorem dX8_isNull_76 : decode cX8_isNull 76 = .ok (.iload_n 1, 1) := by decide +kernel
theorem dX8_isNull_77 : decode cX8_isNull 77 = .ok (.caload, 1) := by decide +kernel
theorem dX8_isNull_78 : decode cX8_isNull 78 = .ok (.bipush 110, 2) := by decide +kernel
theorem dX8_isNull_80 : decode cX8_isNull 80 = .ok (.if_icmp .ne 7, 3) := by decide +kernel
theorem dX8_isNull_83 : decode cX8_isNull 83 = .ok (.iconst 1, 1) := by decide +kernel
theorem dX8_isNull_84 : decode cX8_isNull 84 = .ok (.goto 4, 3) := by decide +kernel
theorem dX8_isNull_87 : decode cX8_isNull 87 = .ok (.iconst 0, 1) := by decide +kernel
theorem dX8_isNull_88 : decode cX8_isNull 88 = .ok (.ireturn, 1) := by decide +kernel
theorem dX8_bitsAt_0 : decode cX8_bitsAt 0 = .ok (.aload_n 0, 1) := by decide +kernel
theorem dX8_bitsAt_1 : decode cX8_bitsAt 1 = .ok (.iload_n 1, 1) := by decide +kernel
theorem dX8_bitsAt_2 : decode cX8_bitsAt 2 = .ok (.invokevirtual 30, 3) := by decide +kernel
theorem dX8_bitsAt_5 : decode cX8_bitsAt 5 = .ok (.ifCond .eq 7, 3) := by decide +kernel
theorem dX8_bitsAt_8 : decode cX8_bitsAt 8 = .ok (.ldc2_w 34, 3) := by decide +kernel
theorem dX8_bitsAt_11 : decode cX8_bitsAt 11 = .ok (.lreturn, 1) := by decide +kernel
theorem dX8_bitsAt_12 : decode cX8_bitsAt 12 = .ok (.aload_n 0, 1) := by decide +kernel
theorem dX8_bitsAt_13 : decode cX8_bitsAt 13 = .ok (.getfield 9, 3) := by decide +kernel
theorem dX8_bitsAt_16 : decode cX8_bitsAt 16 = .ok (.iload_n 1, 1) := by decide +kernel
theorem dX8_bitsAt_17 : decode cX8_bitsAt 17 = .ok (.caload, 1) := by decide +kernel
theorem dX8_bitsAt_18 : decode cX8_bitsAt 18 = .ok (.bipush 102, 2) := by decide +kernel
theorem dX8_bitsAt_20 : decode cX8_bitsAt 20 = .ok (.if_icmp .ne 15, 3) := by decide +kernel
theorem dX8_bitsAt_23 : decode cX8_bitsAt 23 = .ok (.aload_n 0, 1) := by decide +kernel
theorem dX8_bitsAt_24 : decode cX8_bitsAt 24 = .ok (.getfield 19, 3) := by decide +kernel
theorem dX8_bitsAt_27 : decode cX8_bitsAt 27 = .ok (.iload_n 1, 1) := by decide +kernel
theorem dX8_bitsAt_28 : decode cX8_bitsAt 28 = .ok (.daload, 1) := by decide +kernel
theorem dX8_bitsAt_29 : decode cX8_bitsAt 29 = .ok (.invokestatic 36, 3) := by decide +kernel
theorem dX8_bitsAt_32 : decode cX8_bitsAt 32 = .ok (.goto 10, 3) := by decide +kernel
theorem dX8_bitsAt_35 : decode cX8_bitsAt 35 = .ok (.aload_n 0, 1) := by decide +kernel
theorem dX8_bitsAt_36 : decode cX8_bitsAt 36 = .ok (.getfield 15, 3) := by decide +kernel
theorem dX8_bitsAt_39 : decode cX8_bitsAt 39 = .ok (.iload_n 1, 1) := by decide +kernel
theorem dX8_bitsAt_40 : decode cX8_bitsAt 40 = .ok (.iaload, 1) := by decide +kernel
theorem dX8_bitsAt_41 : decode cX8_bitsAt 41 = .ok (.i2l, 1) := by decide +kernel
theorem dX8_bitsAt_42 : decode cX8_bitsAt 42 = .ok (.lreturn, 1) := by decide +kernel
theorem dX8_hasNearest_0 : decode cX8_hasNearest 0 = .ok (.aload_n 0, 1) := by decide +kernel
theorem dX8_hasNearest_1 : decode cX8_hasNearest 1 = .ok (.getfield 9, 3) := by decide +kernel
theorem dX8_hasNearest_4 : decode cX8_hasNearest 4 = .ok (.iload_n 1, 1) := by decide +kernel
theorem dX8_hasNearest_5 : decode cX8_hasNearest 5 = .ok (.caload, 1) := by decide +kernel
theorem dX8_hasNearest_6 : decode cX8_hasNearest 6 = .ok (.bipush 105, 2) := by decide +kernel
theorem dX8_hasNearest_8 : decode cX8_hasNearest 8 = .ok (.if_icmp .eq 23, 3) := by decide +kernel
theorem dX8_hasNearest_11 : decode cX8_hasNearest 11 = .ok (.aload_n 0, 1) := by decide +kernel
theorem dX8_hasNearest_12 : decode cX8_hasNearest 12 = .ok (.iload_n 1, 1) := by decide +kernel
theorem dX8_hasNearest_13 : decode cX8_hasNearest 13 = .ok (.invokevirtual 30, 3) := by decide +kernel
theorem dX8_hasNearest_16 : decode cX8_hasNearest 16 = .ok (.ifCond .ne 19, 3) := by decide +kernel
theorem dX8_hasNearest_19 : decode cX8_hasNearest 19 = .ok (.aload_n 0, 1) := by decide +kernel
theorem dX8_hasNearest_20 : decode cX8_hasNearest 20 = .ok (.getfield 19, 3) := by decide +kernel
theorem dX8_hasNearest_23 : decode cX8_hasNearest 23 = .ok (.iload_n 1, 1) := by decide +kernel
theorem dX8_hasNearest_24 : decode cX8_hasNearest 24 = .ok (.daload, 1) := by decide +kernel
theorem dX8_hasNearest_25 : decode cX8_hasNearest 25 = .ok (.invokestatic 42, 3) := by decide +kernel
theorem dX8_hasNearest_28 : decode cX8_hasNearest 28 = .ok (.ifCond .eq 7, 3) := by decide +kernel
theorem dX8_hasNearest_31 : decode cX8_hasNearest 31 = .ok (.iconst 1, 1) := by decide +kernel
theorem dX8_hasNearest_32 : decode cX8_hasNearest 32 = .ok (.goto 4, 3) := by decide +kernel
theorem dX8_hasNearest_35 : decode cX8_hasNearest 35 = .ok (.iconst 0, 1) := by decide +kernel
theorem dX8_hasNearest_36 : decode cX8_hasNearest 36 = .ok (.ireturn, 1) := by decide +kernel
theorem dX8_round_0 : decode cX8_round 0 = .ok (.aload_n 0, 1) := by decide +kernel
theorem dX8_round_1 : decode cX8_round 1 = .ok (.getfield 9, 3) := by decide +kernel
theorem dX8_round_4 : decode cX8_round 4 = .ok (.iload_n 1, 1) := by decide +kernel
theorem dX8_round_5 : decode cX8_round 5 = .ok (.caload, 1) := by decide +kernel
theorem dX8_round_6 : decode cX8_round 6 = .ok (.bipush 102, 2) := by decide +kernel
theorem dX8_round_8 : decode cX8_round 8 = .ok (.if_icmp .ne 19, 3) := by decide +kernel
theorem dX8_round_11 : decode cX8_round 11 = .ok (.aload_n 0, 1) := by decide +kernel
theorem dX8_round_12 : decode cX8_round 12 = .ok (.iload_n 1, 1) := by decide +kernel
theorem dX8_round_13 : decode cX8_round 13 = .ok (.bipush 105, 2) := by decide +kernel
theorem dX8_round_15 : decode cX8_round 15 = .ok (.aload_n 0, 1) := by decide +kernel
theorem dX8_round_16 : decode cX8_round 16 = .ok (.getfield 19, 3) := by decide +kernel
theorem dX8_round_19 : decode cX8_round 19 = .ok (.iload_n 1, 1) := by decide +kernel
theorem dX8_round_20 : decode cX8_round 20 = .ok (.daload, 1) := by decide +kernel
theorem dX8_round_21 : decode cX8_round 21 = .ok (.invokestatic 46, 3) := by decide +kernel
theorem dX8_round_24 : decode cX8_round 24 = .ok (.invokevirtual 26, 3) := by decide +kernel
theorem dX8_round_27 : decode cX8_round 27 = .ok (.return_, 1) := by decide +kernel
theorem dX8_areEqual_0 : decode cX8_areEqual 0 = .ok (.aload_n 0, 1) := by decide +kernel
theorem dX8_areEqual_1 : decode cX8_areEqual 1 = .ok (.iload_n 1, 1) := by decide +kernel
theorem dX8_areEqual_2 : decode cX8_areEqual 2 = .ok (.invokevirtual 50, 3) := by decide +kernel
theorem dX8_areEqual_5 : decode cX8_areEqual 5 = .ok (.ifCond .eq 47, 3) := by decide +kernel
theorem dX8_areEqual_8 : decode cX8_areEqual 8 = .ok (.aload_n 0, 1) := by decide +kernel
theorem dX8_areEqual_9 : decode cX8_areEqual 9 = .ok (.iload_n 2, 1) := by decide +kernel
theorem dX8_areEqual_10 : decode cX8_areEqual 10 = .ok (.invokevirtual 50, 3) := by decide +kernel
theorem dX8_areEqual_13 : decode cX8_areEqual 13 = .ok (.ifCond .eq 39, 3) := by decide +kernel
theorem dX8_areEqual_16 : decode cX8_areEqual 16 = .ok (.aload_n 0, 1) := by decide +kernel
theorem dX8_areEqual_17 : decode cX8_areEqual 17 = .ok (.iload_n 1, 1) := by decide +kernel
theorem dX8_areEqual_18 : decode cX8_areEqual 18 = .ok (.invokevirtual 30, 3) := by decide +kernel
theorem dX8_areEqual_21 : decode cX8_areEqual 21 = .ok (.ifCond .ne 29, 3) := by decide +kernel
theorem dX8_areEqual_24 : decode cX8_areEqual 24 = .ok (.aload_n 0, 1) := by decide +kernel
theorem dX8_areEqual_25 : decode cX8_areEqual 25 = .ok (.iload_n 2, 1) := by decide +kernel
theorem dX8_areEqual_26 : decode cX8_areEqual 26 = .ok (.invokevirtual 30, 3) := by decide +kernel
theorem dX8_areEqual_29 : decode cX8_areEqual 29 = .ok (.ifCond .ne 21, 3) := by decide +kernel
theorem dX8_areEqual_32 : decode cX8_areEqual 32 = .ok (.aload_n 0, 1) := by decide +kernel
theorem dX8_areEqual_33 : decode cX8_areEqual 33 = .ok (.iload_n 1, 1) := by decide +kernel
theorem dX8_areEqual_34 : decode cX8_areEqual 34 = .ok (.invokevirtual 53, 3) := by decide +kernel
theorem dX8_areEqual_37 : decode cX8_areEqual 37 = .ok (.aload_n 0, 1) := by decide +kernel
theorem dX8_areEqual_38 : decode cX8_areEqual 38 = .ok (.iload_n 2, 1) := by decide +kernel
theorem dX8_areEqual_39 : decode cX8_areEqual 39 = .ok (.invokevirtual 53, 3) := by decide +kernel
theorem dX8_areEqual_42 : decode cX8_areEqual 42 = .ok (.dcmp .l, 1) := by decide +kernel
theorem dX8_areEqual_43 : decode cX8_areEqual 43 = .ok (.ifCond .ne 7, 3) := by decide +kernel
theorem dX8_areEqual_46 : decode cX8_areEqual 46 = .ok (.iconst 1, 1) := by decide +kernel
theorem dX8_areEqual_47 : decode cX8_areEqual 47 = .ok (.goto 4, 3) := by decide +kernel
theorem dX8_areEqual_50 : decode cX8_areEqual 50 = .ok (.iconst 0, 1) := by decide +kernel
theorem dX8_areEqual_51 : decode cX8_areEqual 51 = .ok (.ireturn, 1) := by decide +kernel
theorem dX8_areEqual_52 : decode cX8_areEqual 52 = .ok (.aload_n 0, 1) := by decide +kernel
theorem dX8_areEqual_53 : decode cX8_areEqual 53 = .ok (.getfield 9, 3) := by decide +kernel
theorem dX8_areEqual_56 : decode cX8_areEqual 56 = .ok (.iload_n 1, 1) := by decide +kernel
theorem dX8_areEqual_57 : decode cX8_areEqual 57 = .ok (.caload, 1) := by decide +kernel
theorem dX8_areEqual_58 : decode cX8_areEqual 58 = .ok (.aload_n 0, 1) := by decide +kernel
theorem dX8_areEqual_59 : decode cX8_areEqual 59 = .ok (.getfield 9, 3) := by decide +kernel
theorem dX8_areEqual_62 : decode cX8_areEqual 62 = .ok (.iload_n 2, 1) := by decide +kernel
theorem dX8_areEqual_63 : decode cX8_areEqual 63 = .ok (.caload, 1) := by decide +kernel
theorem dX8_areEqual_64 : decode cX8_areEqual 64 = .ok (.if_icmp .ne 22, 3) := by decide +kernel
theorem dX8_areEqual_67 : decode cX8_areEqual 67 = .ok (.aload_n 0, 1) := by decide +kernel
theorem dX8_areEqual_68 : decode cX8_areEqual 68 = .ok (.getfield 15, 3) := by decide +kernel
theorem dX8_areEqual_71 : decode cX8_areEqual 71 = .ok (.iload_n 1, 1) := by decide +kernel
theorem dX8_areEqual_72 : decode cX8_areEqual 72 = .ok (.iaload, 1) := by decide +kernel
theorem dX8_areEqual_73 : decode cX8_areEqual 73 = .ok (.aload_n 0, 1) := by decide +kernel
theorem dX8_areEqual_74 : decode cX8_areEqual 74 = .ok (.getfield 15, 3) := by decide +kernel
theorem dX8_areEqual_77 : decode cX8_areEqual 77 = .ok (.iload_n 2, 1) := by decide +kernel
theorem dX8_areEqual_78 : decode cX8_areEqual 78 = .ok (.iaload, 1) := by decide +kernel
theorem dX8_areEqual_79 : decode cX8_areEqual 79 = .ok (.if_icmp .ne 7, 3) := by decide +kernel
theorem dX8_areEqual_82 : decode cX8_areEqual 82 = .ok (.iconst 1, 1) := by decide +kernel
theorem dX8_areEqual_83 : decode cX8_areEqual 83 = .ok (.goto 4, 3) := by decide +kernel
theorem dX8_areEqual_86 : decode cX8_areEqual 86 = .ok (.iconst 0, 1) := by decide +kernel
theorem dX8_areEqual_87 : decode cX8_areEqual 87 = .ok (.ireturn, 1) := by decide +kernel
theorem dX8_givesInteger_0 : decode cX8_givesInteger 0 = .ok (.aload_n 0, 1) := by decide +kernel
theorem dX8_givesInteger_1 : decode cX8_givesInteger 1 = .ok (.iload_n 2, 1) := by decide +kernel
theorem dX8_givesInteger_2 : decode cX8_givesInteger 2 = .ok (.iload_n 3, 1) := by decide +kernel
theorem dX8_givesInteger_3 : decode cX8_givesInteger 3 = .ok (.invokevirtual 57, 3) := by decide +kernel
theorem dX8_givesInteger_6 : decode cX8_givesInteger 6 = .ok (.ifCond .eq 31, 3) := by decide +kernel
theorem dX8_givesInteger_9 : decode cX8_givesInteger 9 = .ok (.iload_n 1, 1) := by decide +kernel
theorem dX8_givesInteger_10 : decode cX8_givesInteger 10 = .ok (.aload_n 0, 1) := by decide +kernel
theorem dX8_givesInteger_11 : decode cX8_givesInteger 11 = .ok (.getfield 15, 3) := by decide +kernel
theorem dX8_givesInteger_14 : decode cX8_givesInteger 14 = .ok (.iload_n 2, 1) := by decide +kernel
theorem dX8_givesInteger_15 : decode cX8_givesInteger 15 = .ok (.iaload, 1) := by decide +kernel
theorem dX8_givesInteger_16 : decode cX8_givesInteger 16 = .ok (.i2l, 1) := by decide +kernel
theorem dX8_givesInteger_17 : decode cX8_givesInteger 17 = .ok (.aload_n 0, 1) := by decide +kernel
theorem dX8_givesInteger_18 : decode cX8_givesInteger 18 = .ok (.getfield 15, 3) := by decide +kernel
theorem dX8_givesInteger_21 : decode cX8_givesInteger 21 = .ok (.iload_n 3, 1) := by decide +kernel
theorem dX8_givesInteger_22 : decode cX8_givesInteger 22 = .ok (.iaload, 1) := by decide +kernel
theorem dX8_givesInteger_23 : decode cX8_givesInteger 23 = .ok (.i2l, 1) := by decide +kernel
theorem dX8_givesInteger_24 : decode cX8_givesInteger 24 = .ok (.invokestatic 61, 3) := by decide +kernel
theorem dX8_givesInteger_27 : decode cX8_givesInteger 27 = .ok (.invokestatic 65, 3) := by decide +kernel
theorem dX8_givesInteger_30 : decode cX8_givesInteger 30 = .ok (.ifCond .eq 7, 3) := by decide +kernel
theorem dX8_givesInteger_33 : decode cX8_givesInteger 33 = .ok (.iconst 1, 1) := by decide +kernel
theorem dX8_givesInteger_34 : decode cX8_givesInteger 34 = .ok (.goto 4, 3) := by decide +kernel
theorem dX8_givesInteger_37 : decode cX8_givesInteger 37 = .ok (.iconst 0, 1) := by decide +kernel
theorem dX8_givesInteger_38 : decode cX8_givesInteger 38 = .ok (.ireturn, 1) := by decide +kernel
theorem dX8_combine_0 : decode cX8_combine 0 = .ok (.iload_n 1, 1) := by decide +kernel
theorem dX8_combine_1 : decode cX8_combine 1 = .ok (.bipush 61, 2) := by decide +kernel
theorem dX8_combine_3 : decode cX8_combine 3 = .ok (.if_icmp .ne 27, 3) := by decide +kernel
theorem dX8_combine_6 : decode cX8_combine 6 = .ok (.aload_n 0, 1) := by decide +kernel
theorem dX8_combine_7 : decode cX8_combine 7 = .ok (.iload_n 2, 1) := by decide +kernel
theorem dX8_combine_8 : decode cX8_combine 8 = .ok (.bipush 105, 2) := by decide +kernel
theorem dX8_combine_10 : decode cX8_combine 10 = .ok (.aload_n 0, 1) := by decide +kernel
theorem dX8_combine_11 : decode cX8_combine 11 = .ok (.iload_n 2, 1) := by decide +kernel
theorem dX8_combine_12 : decode cX8_combine 12 = .ok (.iload_n 3, 1) := by decide +kernel
theorem dX8_combine_13 : decode cX8_combine 13 = .ok (.invokevirtual 69, 3) := by decide +kernel
theorem dX8_combine_16 : decode cX8_combine 16 = .ok (.ifCond .eq 7, 3) := by decide +kernel
theorem dX8_combine_19 : decode cX8_combine 19 = .ok (.iconst 1, 1) := by decide +kernel
theorem dX8_combine_20 : decode cX8_combine 20 = .ok (.goto 4, 3) := by decide +kernel
theorem dX8_combine_23 : decode cX8_combine 23 = .ok (.iconst 0, 1) := by decide +kernel
theorem dX8_combine_24 : decode cX8_combine 24 = .ok (.invokevirtual 26, 3) := by decide +kernel
theorem dX8_combine_27 : decode cX8_combine 27 = .ok (.goto 79, 3) := by decide +kernel
theorem dX8_combine_30 : decode cX8_combine 30 = .ok (.aload_n 0, 1) := by decide +kernel
theorem dX8_combine_31 : decode cX8_combine 31 = .ok (.iload_n 1, 1) := by decide +kernel
theorem dX8_combine_32 : decode cX8_combine 32 = .ok (.iload_n 2, 1) := by decide +kernel
theorem dX8_combine_33 : decode cX8_combine 33 = .ok (.iload_n 3, 1) := by decide +kernel
theorem dX8_combine_34 : decode cX8_combine 34 = .ok (.invokevirtual 72, 3) := by decide +kernel
theorem dX8_combine_37 : decode cX8_combine 37 = .ok (.ifCond .eq 32, 3) := by decide +kernel
theorem dX8_combine_40 : decode cX8_combine 40 = .ok (.aload_n 0, 1) := by decide +kernel
theorem dX8_combine_41 : decode cX8_combine 41 = .ok (.iload_n 2, 1) := by decide +kernel
theorem dX8_combine_42 : decode cX8_combine 42 = .ok (.bipush 105, 2) := by decide +kernel
theorem dX8_combine_44 : decode cX8_combine 44 = .ok (.iload_n 1, 1) := by decide +kernel
theorem dX8_combine_45 : decode cX8_combine 45 = .ok (.aload_n 0, 1) := by decide +kernel
theorem dX8_combine_46 : decode cX8_combine 46 = .ok (.getfield 15, 3) := by decide +kernel
theorem dX8_combine_49 : decode cX8_combine 49 = .ok (.iload_n 2, 1) := by decide +kernel
theorem dX8_combine_50 : decode cX8_combine 50 = .ok (.iaload, 1) := by decide +kernel
theorem dX8_combine_51 : decode cX8_combine 51 = .ok (.i2l, 1) := by decide +kernel
theorem dX8_combine_52 : decode cX8_combine 52 = .ok (.aload_n 0, 1) := by decide +kernel
theorem dX8_combine_53 : decode cX8_combine 53 = .ok (.getfield 15, 3) := by decide +kernel
theorem dX8_combine_56 : decode cX8_combine 56 = .ok (.iload_n 3, 1) := by decide +kernel
theorem dX8_combine_57 : decode cX8_combine 57 = .ok (.iaload, 1) := by decide +kernel
theorem dX8_combine_58 : decode cX8_combine 58 = .ok (.i2l, 1) := by decide +kernel
theorem dX8_combine_59 : decode cX8_combine 59 = .ok (.invokestatic 61, 3) := by decide +kernel
theorem dX8_combine_62 : decode cX8_combine 62 = .ok (.l2i, 1) := by decide +kernel
theorem dX8_combine_63 : decode cX8_combine 63 = .ok (.invokevirtual 26, 3) := by decide +kernel
theorem dX8_combine_66 : decode cX8_combine 66 = .ok (.goto 40, 3) := by decide +kernel
theorem dX8_combine_69 : decode cX8_combine 69 = .ok (.iload_n 1, 1) := by decide +kernel
theorem dX8_combine_70 : decode cX8_combine 70 = .ok (.bipush 60, 2) := by decide +kernel
theorem dX8_combine_72 : decode cX8_combine 72 = .ok (.if_icmp .ne 27, 3) := by decide +kernel
theorem dX8_combine_75 : decode cX8_combine 75 = .ok (.aload_n 0, 1) := by decide +kernel
theorem dX8_combine_76 : decode cX8_combine 76 = .ok (.iload_n 2, 1) := by decide +kernel
theorem dX8_combine_77 : decode cX8_combine 77 = .ok (.bipush 105, 2) := by decide +kernel
theorem dX8_combine_79 : decode cX8_combine 79 = .ok (.aload_n 0, 1) := by decide +kernel
theorem dX8_combine_80 : decode cX8_combine 80 = .ok (.iload_n 2, 1) := by decide +kernel
theorem dX8_combine_81 : decode cX8_combine 81 = .ok (.iload_n 3, 1) := by decide +kernel
theorem dX8_combine_82 : decode cX8_combine 82 = .ok (.invokevirtual 76, 3) := by decide +kernel
theorem dX8_combine_85 : decode cX8_combine 85 = .ok (.ifCond .eq 7, 3) := by decide +kernel
theorem dX8_combine_88 : decode cX8_combine 88 = .ok (.iconst 1, 1) := by decide +kernel
theorem dX8_combine_89 : decode cX8_combine 89 = .ok (.goto 4, 3) := by decide +kernel
theorem dX8_combine_92 : decode cX8_combine 92 = .ok (.iconst 0, 1) := by decide +kernel
theorem dX8_combine_93 : decode cX8_combine 93 = .ok (.invokevirtual 26, 3) := by decide +kernel
theorem dX8_combine_96 : decode cX8_combine 96 = .ok (.goto 10, 3) := by decide +kernel
theorem dX8_combine_99 : decode cX8_combine 99 = .ok (.aload_n 0, 1) := by decide +kernel
theorem dX8_combine_100 : decode cX8_combine 100 = .ok (.iload_n 1, 1) := by decide +kernel
theorem dX8_combine_101 : decode cX8_combine 101 = .ok (.iload_n 2, 1) := by decide +kernel
theorem dX8_combine_102 : decode cX8_combine 102 = .ok (.iload_n 3, 1) := by decide +kernel
theorem dX8_combine_103 : decode cX8_combine 103 = .ok (.invokevirtual 79, 3) := by decide +kernel
theorem dX8_combine_106 : decode cX8_combine 106 = .ok (.return_, 1) := by decide +kernel
theorem dX8_isLess_0 : decode cX8_isLess 0 = .ok (.aload_n 0, 1) := by decide +kernel
theorem dX8_isLess_1 : decode cX8_isLess 1 = .ok (.iload_n 1, 1) := by decide +kernel
theorem dX8_isLess_2 : decode cX8_isLess 2 = .ok (.invokevirtual 30, 3) := by decide +kernel
theorem dX8_isLess_5 : decode cX8_isLess 5 = .ok (.ifCond .ne 29, 3) := by decide +kernel
theorem dX8_isLess_8 : decode cX8_isLess 8 = .ok (.aload_n 0, 1) := by decide +kernel
theorem dX8_isLess_9 : decode cX8_isLess 9 = .ok (.iload_n 2, 1) := by decide +kernel
theorem dX8_isLess_10 : decode cX8_isLess 10 = .ok (.invokevirtual 30, 3) := by decide +kernel
theorem dX8_isLess_13 : decode cX8_isLess 13 = .ok (.ifCond .ne 21, 3) := by decide +kernel
theorem dX8_isLess_16 : decode cX8_isLess 16 = .ok (.aload_n 0, 1) := by decide +kernel
theorem dX8_isLess_17 : decode cX8_isLess 17 = .ok (.iload_n 1, 1) := by decide +kernel
theorem dX8_isLess_18 : decode cX8_isLess 18 = .ok (.invokevirtual 53, 3) := by decide +kernel
theorem dX8_isLess_21 : decode cX8_isLess 21 = .ok (.aload_n 0, 1) := by decide +kernel
theorem dX8_isLess_22 : decode cX8_isLess 22 = .ok (.iload_n 2, 1) := by decide +kernel
theorem dX8_isLess_23 : decode cX8_isLess 23 = .ok (.invokevirtual 53, 3) := by decide +kernel
theorem dX8_isLess_26 : decode cX8_isLess 26 = .ok (.dcmp .g, 1) := by decide +kernel
theorem dX8_isLess_27 : decode cX8_isLess 27 = .ok (.ifCond .ge 7, 3) := by decide +kernel
theorem dX8_isLess_30 : decode cX8_isLess 30 = .ok (.iconst 1, 1) := by decide +kernel
theorem dX8_isLess_31 : decode cX8_isLess 31 = .ok (.goto 4, 3) := by decide +kernel
theorem dX8_isLess_34 : decode cX8_isLess 34 = .ok (.iconst 0, 1) := by decide +kernel
theorem dX8_isLess_35 : decode cX8_isLess 35 = .ok (.ireturn, 1) := by decide +kernel
theorem dX8_combineReals_0 : decode cX8_combineReals 0 = .ok (.aload_n 0, 1) := by decide +kernel
theorem dX8_combineReals_1 : decode cX8_combineReals 1 = .ok (.iload_n 2, 1) := by decide +kernel
theorem dX8_combineReals_2 : decode cX8_combineReals 2 = .ok (.invokevirtual 53, 3) := by decide +kernel
theorem dX8_combineReals_5 : decode cX8_combineReals 5 = .ok (.dstore 4, 2) := by decide +kernel
theorem dX8_combineReals_7 : decode cX8_combineReals 7 = .ok (.aload_n 0, 1) := by decide +kernel
theorem dX8_combineReals_8 : decode cX8_combineReals 8 = .ok (.iload_n 3, 1) := by decide +kernel
theorem dX8_combineReals_9 : decode cX8_combineReals 9 = .ok (.invokevirtual 53, 3) := by decide +kernel
theorem dX8_combineReals_12 : decode cX8_combineReals 12 = .ok (.dstore 6, 2) := by decide +kernel
theorem dX8_combineReals_14 : decode cX8_combineReals 14 = .ok (.aload_n 0, 1) := by decide +kernel
theorem dX8_combineReals_15 : decode cX8_combineReals 15 = .ok (.iload_n 2, 1) := by decide +kernel
theorem dX8_combineReals_16 : decode cX8_combineReals 16 = .ok (.invokevirtual 30, 3) := by decide +kernel
theorem dX8_combineReals_19 : decode cX8_combineReals 19 = .ok (.ifCond .ne 22, 3) := by decide +kernel
theorem dX8_combineReals_22 : decode cX8_combineReals 22 = .ok (.aload_n 0, 1) := by decide +kernel
theorem dX8_combineReals_23 : decode cX8_combineReals 23 = .ok (.iload_n 3, 1) := by decide +kernel
theorem dX8_combineReals_24 : decode cX8_combineReals 24 = .ok (.invokevirtual 30, 3) := by decide +kernel
theorem dX8_combineReals_27 : decode cX8_combineReals 27 = .ok (.ifCond .ne 14, 3) := by decide +kernel
theorem dX8_combineReals_30 : decode cX8_combineReals 30 = .ok (.iload_n 1, 1) := by decide +kernel
theorem dX8_combineReals_31 : decode cX8_combineReals 31 = .ok (.dload 4, 2) := by decide +kernel
theorem dX8_combineReals_33 : decode cX8_combineReals 33 = .ok (.dload 6, 2) := by decide +kernel
theorem dX8_combineReals_35 : decode cX8_combineReals 35 = .ok (.invokestatic 83, 3) := by decide +kernel
theorem dX8_combineReals_38 : decode cX8_combineReals 38 = .ok (.ifCond .eq 14, 3) := by decide +kernel
theorem dX8_combineReals_41 : decode cX8_combineReals 41 = .ok (.aload_n 0, 1) := by decide +kernel
theorem dX8_combineReals_42 : decode cX8_combineReals 42 = .ok (.iload_n 2, 1) := by decide +kernel
theorem dX8_combineReals_43 : decode cX8_combineReals 43 = .ok (.bipush 102, 2) := by decide +kernel
theorem dX8_combineReals_45 : decode cX8_combineReals 45 = .ok (.iconst 1, 1) := by decide +kernel
theorem dX8_combineReals_46 : decode cX8_combineReals 46 = .ok (.invokevirtual 26, 3) := by decide +kernel
theorem dX8_combineReals_49 : decode cX8_combineReals 49 = .ok (.goto 16, 3) := by decide +kernel
theorem dX8_combineReals_52 : decode cX8_combineReals 52 = .ok (.aload_n 0, 1) := by decide +kernel
theorem dX8_combineReals_53 : decode cX8_combineReals 53 = .ok (.iload_n 2, 1) := by decide +kernel
theorem dX8_combineReals_54 : decode cX8_combineReals 54 = .ok (.iload_n 1, 1) := by decide +kernel
theorem dX8_combineReals_55 : decode cX8_combineReals 55 = .ok (.dload 4, 2) := by decide +kernel
theorem dX8_combineReals_57 : decode cX8_combineReals 57 = .ok (.dload 6, 2) := by decide +kernel
theorem dX8_combineReals_59 : decode cX8_combineReals 59 = .ok (.invokestatic 86, 3) := by decide +kernel
theorem dX8_combineReals_62 : decode cX8_combineReals 62 = .ok (.invokevirtual 90, 3) := by decide +kernel
theorem dX8_combineReals_65 : decode cX8_combineReals 65 = .ok (.return_, 1) := by decide +kernel
theorem dX8_isSame_0 : decode cX8_isSame 0 = .ok (.aload_n 0, 1) := by decide +kernel
theorem dX8_isSame_1 : decode cX8_isSame 1 = .ok (.getfield 9, 3) := by decide +kernel
theorem dX8_isSame_4 : decode cX8_isSame 4 = .ok (.iload_n 1, 1) := by decide +kernel
theorem dX8_isSame_5 : decode cX8_isSame 5 = .ok (.caload, 1) := by decide +kernel
theorem dX8_isSame_6 : decode cX8_isSame 6 = .ok (.aload_n 2, 1) := by decide +kernel
theorem dX8_isSame_7 : decode cX8_isSame 7 = .ok (.getfield 9, 3) := by decide +kernel
theorem dX8_isSame_10 : decode cX8_isSame 10 = .ok (.iload_n 1, 1) := by decide +kernel
theorem dX8_isSame_11 : decode cX8_isSame 11 = .ok (.caload, 1) := by decide +kernel
theorem dX8_isSame_12 : decode cX8_isSame 12 = .ok (.if_icmp .ne 59, 3) := by decide +kernel
theorem dX8_isSame_15 : decode cX8_isSame 15 = .ok (.aload_n 0, 1) := by decide +kernel
theorem dX8_isSame_16 : decode cX8_isSame 16 = .ok (.getfield 15, 3) := by decide +kernel
theorem dX8_isSame_19 : decode cX8_isSame 19 = .ok (.iload_n 1, 1) := by decide +kernel
theorem dX8_isSame_20 : decode cX8_isSame 20 = .ok (.iaload, 1) := by decide +kernel
theorem dX8_isSame_21 : decode cX8_isSame 21 = .ok (.aload_n 2, 1) := by decide +kernel
theorem dX8_isSame_22 : decode cX8_isSame 22 = .ok (.getfield 15, 3) := by decide +kernel
theorem dX8_isSame_25 : decode cX8_isSame 25 = .ok (.iload_n 1, 1) := by decide +kernel
theorem dX8_isSame_26 : decode cX8_isSame 26 = .ok (.iaload, 1) := by decide +kernel
theorem dX8_isSame_27 : decode cX8_isSame 27 = .ok (.if_icmp .ne 44, 3) := by decide +kernel
theorem dX8_isSame_30 : decode cX8_isSame 30 = .ok (.aload_n 0, 1) := by decide +kernel
theorem dX8_isSame_31 : decode cX8_isSame 31 = .ok (.getfield 19, 3) := by decide +kernel
theorem dX8_isSame_34 : decode cX8_isSame 34 = .ok (.iload_n 1, 1) := by decide +kernel
theorem dX8_isSame_35 : decode cX8_isSame 35 = .ok (.daload, 1) := by decide +kernel
theorem dX8_isSame_36 : decode cX8_isSame 36 = .ok (.aload_n 2, 1) := by decide +kernel
theorem dX8_isSame_37 : decode cX8_isSame 37 = .ok (.getfield 19, 3) := by decide +kernel
theorem dX8_isSame_40 : decode cX8_isSame 40 = .ok (.iload_n 1, 1) := by decide +kernel
theorem dX8_isSame_41 : decode cX8_isSame 41 = .ok (.daload, 1) := by decide +kernel
theorem dX8_isSame_42 : decode cX8_isSame 42 = .ok (.dcmp .l, 1) := by decide +kernel
theorem dX8_isSame_43 : decode cX8_isSame 43 = .ok (.ifCond .ne 28, 3) := by decide +kernel
theorem dX8_isSame_46 : decode cX8_isSame 46 = .ok (.aload_n 0, 1) := by decide +kernel
theorem dX8_isSame_47 : decode cX8_isSame 47 = .ok (.getfield 19, 3) := by decide +kernel
theorem dX8_isSame_50 : decode cX8_isSame 50 = .ok (.iload_n 1, 1) := by decide +kernel
theorem dX8_isSame_51 : decode cX8_isSame 51 = .ok (.daload, 1) := by decide +kernel
theorem dX8_isSame_52 : decode cX8_isSame 52 = .ok (.invokestatic 94, 3) := by decide +kernel
theorem dX8_isSame_55 : decode cX8_isSame 55 = .ok (.aload_n 2, 1) := by decide +kernel
theorem dX8_isSame_56 : decode cX8_isSame 56 = .ok (.getfield 19, 3) := by decide +kernel
theorem dX8_isSame_59 : decode cX8_isSame 59 = .ok (.iload_n 1, 1) := by decide +kernel
theorem dX8_isSame_60 : decode cX8_isSame 60 = .ok (.daload, 1) := by decide +kernel
theorem dX8_isSame_61 : decode cX8_isSame 61 = .ok (.invokestatic 94, 3) := by decide +kernel
theorem dX8_isSame_64 : decode cX8_isSame 64 = .ok (.if_icmp .ne 7, 3) := by decide +kernel
theorem dX8_isSame_67 : decode cX8_isSame 67 = .ok (.iconst 1, 1) := by decide +kernel
theorem dX8_isSame_68 : decode cX8_isSame 68 = .ok (.goto 4, 3) := by decide +kernel
theorem dX8_isSame_71 : decode cX8_isSame 71 = .ok (.iconst 0, 1) := by decide +kernel
theorem dX8_isSame_72 : decode cX8_isSame 72 = .ok (.ireturn, 1) := by decide +kernel
theorem dX9_init_0 : decode cX9_init 0 = .ok (.aload_n 0, 1) := by decide +kernel
theorem dX9_init_1 : decode cX9_init 1 = .ok (.invokespecial 3, 3) := by decide +kernel
theorem dX9_init_4 : decode cX9_init 4 = .ok (.aload_n 0, 1) := by decide +kernel
theorem dX9_init_5 : decode cX9_init 5 = .ok (.aload_n 1, 1) := by decide +kernel
theorem dX9_init_6 : decode cX9_init 6 = .ok (.getfield 9, 3) := by decide +kernel
theorem dX9_init_9 : decode cX9_init 9 = .ok (.putfield 15, 3) := by decide +kernel
theorem dX9_init_12 : decode cX9_init 12 = .ok (.aload_n 0, 1) := by decide +kernel
theorem dX9_init_13 : decode cX9_init 13 = .ok (.aload_n 1, 1) := by decide +kernel
theorem dX9_init_14 : decode cX9_init 14 = .ok (.getfield 18, 3) := by decide +kernel
theorem dX9_init_17 : decode cX9_init 17 = .ok (.putfield 21, 3) := by decide +kernel
theorem dX9_init_20 : decode cX9_init 20 = .ok (.aload_n 0, 1) := by decide +kernel
theorem dX9_init_21 : decode cX9_init 21 = .ok (.aload_n 1, 1) := by decide +kernel
theorem dX9_init_22 : decode cX9_init 22 = .ok (.getfield 22, 3) := by decide +kernel
theorem dX9_init_25 : decode cX9_init 25 = .ok (.aload_n 0, 1) := by decide +kernel
theorem dX9_init_26 : decode cX9_init 26 = .ok (.getfield 15, 3) := by decide +kernel
theorem dX9_init_29 : decode cX9_init 29 = .ok (.invokestatic 26, 3) := by decide +kernel
theorem dX9_init_32 : decode cX9_init 32 = .ok (.putfield 32, 3) := by decide +kernel
theorem dX9_init_35 : decode cX9_init 35 = .ok (.aload_n 0, 1) := by decide +kernel
theorem dX9_init_36 : decode cX9_init 36 = .ok (.aload_n 1, 1) := by decide +kernel
theorem dX9_init_37 : decode cX9_init 37 = .ok (.getfield 33, 3) := by decide +kernel
theorem dX9_init_40 : decode cX9_init 40 = .ok (.aload_n 0, 1) := by decide +kernel
theorem dX9_init_41 : decode cX9_init 41 = .ok (.getfield 15, 3) := by decide +kernel
theorem dX9_init_44 : decode cX9_init 44 = .ok (.iconst 1, 1) := by decide +kernel
theorem dX9_init_45 : decode cX9_init 45 = .ok (.iadd, 1) := by decide +kernel
theorem dX9_init_46 : decode cX9_init 46 = .ok (.invokestatic 26, 3) := by decide +kernel
theorem dX9_init_49 : decode cX9_init 49 = .ok (.putfield 36, 3) := by decide +kernel
theorem dX9_init_52 : decode cX9_init 52 = .ok (.aload_n 0, 1) := by decide +kernel
theorem dX9_init_53 : decode cX9_init 53 = .ok (.getfield 36, 3) := by decide +kernel
theorem dX9_init_56 : decode cX9_init 56 = .ok (.aload_n 0, 1) := by decide +kernel
theorem dX9_init_57 : decode cX9_init 57 = .ok (.getfield 15, 3) := by decide +kernel
theorem dX9_init_60 : decode cX9_init 60 = .ok (.aload_n 0, 1) := by decide +kernel
theorem dX9_init_61 : decode cX9_init 61 = .ok (.getfield 21, 3) := by decide +kernel
theorem dX9_init_64 : decode cX9_init 64 = .ok (.iastore, 1) := by decide +kernel
theorem dX9_init_65 : decode cX9_init 65 = .ok (.aload_n 0, 1) := by decide +kernel
theorem dX9_init_66 : decode cX9_init 66 = .ok (.aload_n 1, 1) := by decide +kernel
theorem dX9_init_67 : decode cX9_init 67 = .ok (.getfield 37, 3) := by decide +kernel
theorem dX9_init_70 : decode cX9_init 70 = .ok (.aload_n 0, 1) := by decide +kernel
theorem dX9_init_71 : decode cX9_init 71 = .ok (.getfield 21, 3) := by decide +kernel
theorem dX9_init_74 : decode cX9_init 74 = .ok (.invokestatic 26, 3) := by decide +kernel
theorem dX9_init_77 : decode cX9_init 77 = .ok (.putfield 40, 3) := by decide +kernel
theorem dX9_init_80 : decode cX9_init 80 = .ok (.aload_n 0, 1) := by decide +kernel
theorem dX9_init_81 : decode cX9_init 81 = .ok (.aload_n 1, 1) := by decide +kernel
theorem dX9_init_82 : decode cX9_init 82 = .ok (.getfield 41, 3) := by decide +kernel
theorem dX9_init_85 : decode cX9_init 85 = .ok (.aload_n 0, 1) := by decide +kernel
theorem dX9_init_86 : decode cX9_init 86 = .ok (.getfield 21, 3) := by decide +kernel
theorem dX9_init_89 : decode cX9_init 89 = .ok (.invokestatic 26, 3) := by decide +kernel
theorem dX9_init_92 : decode cX9_init 92 = .ok (.putfield 44, 3) := by decide +kernel
theorem dX9_init_95 : decode cX9_init 95 = .ok (.aload_n 0, 1) := by decide +kernel
theorem dX9_init_96 : decode cX9_init 96 = .ok (.aload_n 1, 1) := by decide +kernel
theorem dX9_init_97 : decode cX9_init 97 = .ok (.getfield 45, 3) := by decide +kernel
theorem dX9_init_100 : decode cX9_init 100 = .ok (.aload_n 0, 1) := by decide +kernel
theorem dX9_init_101 : decode cX9_init 101 = .ok (.getfield 21, 3) := by decide +kernel
theorem dX9_init_104 : decode cX9_init 104 = .ok (.invokestatic 26, 3) := by decide +kernel
theorem dX9_init_107 : decode cX9_init 107 = .ok (.putfield 48, 3) := by decide +kernel
theorem dX9_init_110 : decode cX9_init 110 = .ok (.aload_n 0, 1) := by decide +kernel
theorem dX9_init_111 : decode cX9_init 111 = .ok (.aload_n 1, 1) := by decide +kernel
theorem dX9_init_112 : decode cX9_init 112 = .ok (.getfield 49, 3) := by decide +kernel
theorem dX9_init_115 : decode cX9_init 115 = .ok (.aload_n 0, 1) := by decide +kernel
theorem dX9_init_116 : decode cX9_init 116 = .ok (.getfield 21, 3) := by decide +kernel
theorem dX9_init_119 : decode cX9_init 119 = .ok (.invokestatic 26, 3) := by decide +kernel
theorem dX9_init_122 : decode cX9_init 122 = .ok (.putfield 52, 3) := by decide +kernel
theorem dX9_init_125 : decode cX9_init 125 = .ok (.aload_n 0, 1) := by decide +kernel
theorem dX9_init_126 : decode cX9_init 126 = .ok (.aload_n 0, 1) := by decide +kernel
theorem dX9_init_127 : decode cX9_init 127 = .ok (.getfield 21, 3) := by decide +kernel
theorem dX9_init_130 : decode cX9_init 130 = .ok (.newarray .int, 2) := by decide +kernel
theorem dX9_init_132 : decode cX9_init 132 = .ok (.putfield 53, 3) := by decide +kernel
theorem dX9_init_135 : decode cX9_init 135 = .ok (.aload_n 0, 1) := by decide +kernel
theorem dX9_init_136 : decode cX9_init 136 = .ok (.aload_n 0, 1) := by decide +kernel
theorem dX9_init_137 : decode cX9_init 137 = .ok (.getfield 21, 3) := by decide +kernel
theorem dX9_init_140 : decode cX9_init 140 = .ok (.newarray .int, 2) := by decide +kernel
theorem dX9_init_142 : decode cX9_init 142 = .ok (.putfield 56, 3) := by decide +kernel
theorem dX9_init_145 : decode cX9_init 145 = .ok (.aload_n 0, 1) := by decide +kernel
theorem dX9_init_146 : decode cX9_init 146 = .ok (.aload_n 0, 1) := by decide +kernel
theorem dX9_init_147 : decode cX9_init 147 = .ok (.getfield 21, 3) := by decide +kernel
theorem dX9_init_150 : decode cX9_init 150 = .ok (.newarray .int, 2) := by decide +kernel
theorem dX9_init_152 : decode cX9_init 152 = .ok (.putfield 59, 3) := by decide +kernel
theorem dX9_init_155 : decode cX9_init 155 = .ok (.aload_n 0, 1) := by decide +kernel
theorem dX9_init_156 : decode cX9_init 156 = .ok (.aload_n 0, 1) := by decide +kernel
theorem dX9_init_157 : decode cX9_init 157 = .ok (.getfield 21, 3) := by decide +kernel
theorem dX9_init_160 : decode cX9_init 160 = .ok (.newarray .int, 2) := by decide +kernel
theorem dX9_init_162 : decode cX9_init 162 = .ok (.putfield 62, 3) := by decide +kernel
theorem dX9_init_165 : decode cX9_init 165 = .ok (.aload_n 0, 1) := by decide +kernel
theorem dX9_init_166 : decode cX9_init 166 = .ok (.getfield 62, 3) := by decide +kernel
theorem dX9_init_169 : decode cX9_init 169 = .ok (.iconst (-1), 1) := by decide +kernel
theorem dX9_init_170 : decode cX9_init 170 = .ok (.invokestatic 65, 3) := by decide +kernel
theorem dX9_init_173 : decode cX9_init 173 = .ok (.aload_n 0, 1) := by decide +kernel
theorem dX9_init_174 : decode cX9_init 174 = .ok (.iload_n 2, 1) := by decide +kernel
theorem dX9_init_175 : decode cX9_init 175 = .ok (.putfield 69, 3) := by decide +kernel
theorem dX9_init_178 : decode cX9_init 178 = .ok (.aload_n 0, 1) := by decide +kernel
theorem dX9_init_179 : decode cX9_init 179 = .ok (.aload_n 1, 1) := by decide +kernel
theorem dX9_init_180 : decode cX9_init 180 = .ok (.getfield 72, 3) := by decide +kernel
theorem dX9_init_183 : decode cX9_init 183 = .ok (.putfield 75, 3) := by decide +kernel
theorem dX9_init_186 : decode cX9_init 186 = .ok (.aload_n 0, 1) := by decide +kernel
theorem dX9_init_187 : decode cX9_init 187 = .ok (.iconst 1, 1) := by decide +kernel
theorem dX9_init_188 : decode cX9_init 188 = .ok (.putfield 76, 3) := by decide +kernel
theorem dX9_init_191 : decode cX9_init 191 = .ok (.return_, 1) := by decide +kernel
theorem dX9_bars_0 : decode cX9_bars 0 = .ok (.aload_n 0, 1) := by decide +kernel
theorem dX9_bars_1 : decode cX9_bars 1 = .ok (.getfield 59, 3) := by decide +kernel
theorem dX9_bars_4 : decode cX9_bars 4 = .ok (.iload_n 1, 1) := by decide +kernel
theorem dX9_bars_5 : decode cX9_bars 5 = .ok (.iaload, 1) := by decide +kernel
theorem dX9_bars_6 : decode cX9_bars 6 = .ok (.iconst 2, 1) := by decide +kernel
theorem dX9_bars_7 : decode cX9_bars 7 = .ok (.if_icmp .lt 7, 3) := by decide +kernel
theorem dX9_bars_10 : decode cX9_bars 10 = .ok (.iconst 1, 1) := by decide +kernel
theorem dX9_bars_11 : decode cX9_bars 11 = .ok (.goto 4, 3) := by decide +kernel
theorem dX9_bars_14 : decode cX9_bars 14 = .ok (.iconst 0, 1) := by decide +kernel
theorem dX9_bars_15 : decode cX9_bars 15 = .ok (.ireturn, 1) := by decide +kernel
theorem dX9_breakOff_0 : decode cX9_breakOff 0 = .ok (.aload_n 0, 1) := by decide +kernel
theorem dX9_breakOff_1 : decode cX9_breakOff 1 = .ok (.getfield 56, 3) := by decide +kernel
theorem dX9_breakOff_4 : decode cX9_breakOff 4 = .ok (.iload_n 1, 1) := by decide +kernel
theorem dX9_breakOff_5 : decode cX9_breakOff 5 = .ok (.iconst 0, 1) := by decide +kernel
theorem dX9_breakOff_6 : decode cX9_breakOff 6 = .ok (.iastore, 1) := by decide +kernel
theorem dX9_breakOff_7 : decode cX9_breakOff 7 = .ok (.aload_n 0, 1) := by decide +kernel
theorem dX9_breakOff_8 : decode cX9_breakOff 8 = .ok (.getfield 59, 3) := by decide +kernel
theorem dX9_breakOff_11 : decode cX9_breakOff 11 = .ok (.iload_n 1, 1) := by decide +kernel
theorem dX9_breakOff_12 : decode cX9_breakOff 12 = .ok (.dup2, 1) := by decide +kernel
theorem dX9_breakOff_13 : decode cX9_breakOff 13 = .ok (.iaload, 1) := by decide +kernel
theorem dX9_breakOff_14 : decode cX9_breakOff 14 = .ok (.iconst 1, 1) := by decide +kernel
theorem dX9_breakOff_15 : decode cX9_breakOff 15 = .ok (.iadd, 1) := by decide +kernel
theorem dX9_breakOff_16 : decode cX9_breakOff 16 = .ok (.iastore, 1) := by decide +kernel
theorem dX9_breakOff_17 : decode cX9_breakOff 17 = .ok (.return_, 1) := by decide +kernel
theorem dX10_init_0 : decode cX10_init 0 = .ok (.aload_n 0, 1) := by decide +kernel
theorem dX10_init_1 : decode cX10_init 1 = .ok (.invokespecial 3, 3) := by decide +kernel
theorem dX10_init_4 : decode cX10_init 4 = .ok (.aload_n 0, 1) := by decide +kernel
theorem dX10_init_5 : decode cX10_init 5 = .ok (.aload_n 2, 1) := by decide +kernel
theorem dX10_init_6 : decode cX10_init 6 = .ok (.putfield 9, 3) := by decide +kernel
theorem dX10_init_9 : decode cX10_init 9 = .ok (.aload_n 0, 1) := by decide +kernel
theorem dX10_init_10 : decode cX10_init 10 = .ok (.new 15, 3) := by decide +kernel
theorem dX10_init_13 : decode cX10_init 13 = .ok (.dup, 1) := by decide +kernel
theorem dX10_init_14 : decode cX10_init 14 = .ok (.invokespecial 17, 3) := by decide +kernel
theorem dX10_init_17 : decode cX10_init 17 = .ok (.putfield 18, 3) := by decide +kernel
theorem dX10_init_20 : decode cX10_init 20 = .ok (.aload_n 0, 1) := by decide +kernel
theorem dX10_init_21 : decode cX10_init 21 = .ok (.new 22, 3) := by decide +kernel
theorem dX10_init_24 : decode cX10_init 24 = .ok (.dup, 1) := by decide +kernel
theorem dX10_init_25 : decode cX10_init 25 = .ok (.invokespecial 24, 3) := by decide +kernel
theorem dX10_init_28 : decode cX10_init 28 = .ok (.putfield 25, 3) := by decide +kernel
theorem dX10_init_31 : decode cX10_init 31 = .ok (.aload_n 0, 1) := by decide +kernel
theorem dX10_init_32 : decode cX10_init 32 = .ok (.new 29, 3) := by decide +kernel
theorem dX10_init_35 : decode cX10_init 35 = .ok (.dup, 1) := by decide +kernel
theorem dX10_init_36 : decode cX10_init 36 = .ok (.invokespecial 31, 3) := by decide +kernel
theorem dX10_init_39 : decode cX10_init 39 = .ok (.putfield 32, 3) := by decide +kernel
theorem dX10_init_42 : decode cX10_init 42 = .ok (.aload_n 0, 1) := by decide +kernel
theorem dX10_init_43 : decode cX10_init 43 = .ok (.new 36, 3) := by decide +kernel
theorem dX10_init_46 : decode cX10_init 46 = .ok (.dup, 1) := by decide +kernel
theorem dX10_init_47 : decode cX10_init 47 = .ok (.aload_n 0, 1) := by decide +kernel
theorem dX10_init_48 : decode cX10_init 48 = .ok (.getfield 32, 3) := by decide +kernel
theorem dX10_init_51 : decode cX10_init 51 = .ok (.iconst (-1), 1) := by decide +kernel
theorem dX10_init_52 : decode cX10_init 52 = .ok (.invokespecial 38, 3) := by decide +kernel
theorem dX10_init_55 : decode cX10_init 55 = .ok (.putfield 41, 3) := by decide +kernel
theorem dX10_init_58 : decode cX10_init 58 = .ok (.aload_n 0, 1) := by decide +kernel
theorem dX10_init_59 : decode cX10_init 59 = .ok (.new 45, 3) := by decide +kernel
theorem dX10_init_62 : decode cX10_init 62 = .ok (.dup, 1) := by decide +kernel
theorem dX10_init_63 : decode cX10_init 63 = .ok (.aload_n 1, 1) := by decide +kernel
theorem dX10_init_64 : decode cX10_init 64 = .ok (.aload_n 0, 1) := by decide +kernel
theorem dX10_init_65 : decode cX10_init 65 = .ok (.getfield 25, 3) := by decide +kernel
theorem dX10_init_68 : decode cX10_init 68 = .ok (.aload_n 0, 1) := by decide +kernel
theorem dX10_init_69 : decode cX10_init 69 = .ok (.getfield 41, 3) := by decide +kernel
theorem dX10_init_72 : decode cX10_init 72 = .ok (.invokespecial 47, 3) := by decide +kernel
theorem dX10_init_75 : decode cX10_init 75 = .ok (.putfield 50, 3) := by decide +kernel
theorem dX10_init_78 : decode cX10_init 78 = .ok (.aload_n 0, 1) := by decide +kernel
theorem dX10_init_79 : decode cX10_init 79 = .ok (.iconst 3, 1) := by decide +kernel
theorem dX10_init_80 : decode cX10_init 80 = .ok (.putfield 54, 3) := by decide +kernel
theorem dX10_init_83 : decode cX10_init 83 = .ok (.aload_n 0, 1) := by decide +kernel
theorem dX10_init_84 : decode cX10_init 84 = .ok (.iconst 2, 1) := by decide +kernel
theorem dX10_init_85 : decode cX10_init 85 = .ok (.putfield 58, 3) := by decide +kernel
theorem dX10_init_88 : decode cX10_init 88 = .ok (.return_, 1) := by decide +kernel
theorem dX10_begin_0 : decode cX10_begin 0 = .ok (.aload_n 0, 1) := by decide +kernel
theorem dX10_begin_1 : decode cX10_begin 1 = .ok (.iconst 0, 1) := by decide +kernel
theorem dX10_begin_2 : decode cX10_begin 2 = .ok (.putfield 61, 3) := by decide +kernel
theorem dX10_begin_5 : decode cX10_begin 5 = .ok (.aload_n 0, 1) := by decide +kernel
theorem dX10_begin_6 : decode cX10_begin 6 = .ok (.iconst 0, 1) := by decide +kernel
theorem dX10_begin_7 : decode cX10_begin 7 = .ok (.putfield 64, 3) := by decide +kernel
theorem dX10_begin_10 : decode cX10_begin 10 = .ok (.return_, 1) := by decide +kernel
theorem dX10_turnInTrace_0 : decode cX10_turnInTrace 0 = .ok (.aload_n 0, 1) := by decide +kernel
theorem dX10_turnInTrace_1 : decode cX10_turnInTrace 1 = .ok (.getfield 9, 3) := by decide +kernel
theorem dX10_turnInTrace_4 : decode cX10_turnInTrace 4 = .ok (.invokevirtual 68, 3) := by decide +kernel
theorem dX10_turnInTrace_7 : decode cX10_turnInTrace 7 = .ok (.ifCond .ne 15, 3) := by decide +kernel
theorem dX10_turnInTrace_10 : decode cX10_turnInTrace 10 = .ok (.aload_n 0, 1) := by decide +kernel
theorem dX10_turnInTrace_11 : decode cX10_turnInTrace 11 = .ok (.getfield 9, 3) := by decide +kernel
theorem dX10_turnInTrace_14 : decode cX10_turnInTrace 14 = .ok (.invokevirtual 74, 3) := by decide +kernel
theorem dX10_turnInTrace_17 : decode cX10_turnInTrace 17 = .ok (.bipush 45, 2) := by decide +kernel
theorem dX10_turnInTrace_19 : decode cX10_turnInTrace 19 = .ok (.if_icmp .eq 9, 3) := by decide +kernel
theorem dX10_turnInTrace_22 : decode cX10_turnInTrace 22 = .ok (.aload_n 0, 1) := by decide +kernel
theorem dX10_turnInTrace_23 : decode cX10_turnInTrace 23 = .ok (.iconst 0, 1) := by decide +kernel
theorem dX10_turnInTrace_24 : decode cX10_turnInTrace 24 = .ok (.putfield 64, 3) := by decide +kernel
theorem dX10_turnInTrace_27 : decode cX10_turnInTrace 27 = .ok (.return_, 1) := by decide +kernel
theorem dX10_turnInTrace_28 : decode cX10_turnInTrace 28 = .ok (.aload_n 0, 1) := by decide +kernel
theorem dX10_turnInTrace_29 : decode cX10_turnInTrace 29 = .ok (.getfield 41, 3) := by decide +kernel
theorem dX10_turnInTrace_32 : decode cX10_turnInTrace 32 = .ok (.getfield 78, 3) := by decide +kernel
theorem dX10_turnInTrace_35 : decode cX10_turnInTrace 35 = .ok (.aload_n 0, 1) := by decide +kernel
theorem dX10_turnInTrace_36 : decode cX10_turnInTrace 36 = .ok (.getfield 82, 3) := by decide +kernel
theorem dX10_turnInTrace_39 : decode cX10_turnInTrace 39 = .ok (.iaload, 1) := by decide +kernel
theorem dX10_turnInTrace_40 : decode cX10_turnInTrace 40 = .ok (.istore_n 1, 1) := by decide +kernel
theorem dX10_turnInTrace_41 : decode cX10_turnInTrace 41 = .ok (.iload_n 1, 1) := by decide +kernel
theorem dX10_turnInTrace_42 : decode cX10_turnInTrace 42 = .ok (.aload_n 0, 1) := by decide +kernel
theorem dX10_turnInTrace_43 : decode cX10_turnInTrace 43 = .ok (.getfield 41, 3) := by decide +kernel
theorem dX10_turnInTrace_46 : decode cX10_turnInTrace 46 = .ok (.getfield 78, 3) := by decide +kernel
theorem dX10_turnInTrace_49 : decode cX10_turnInTrace 49 = .ok (.aload_n 0, 1) := by decide +kernel
theorem dX10_turnInTrace_50 : decode cX10_turnInTrace 50 = .ok (.getfield 82, 3) := by decide +kernel
theorem dX10_turnInTrace_53 : decode cX10_turnInTrace 53 = .ok (.iconst 1, 1) := by decide +kernel
theorem dX10_turnInTrace_54 : decode cX10_turnInTrace 54 = .ok (.iadd, 1) := by decide +kernel
theorem dX10_turnInTrace_55 : decode cX10_turnInTrace 55 = .ok (.iaload, 1) := by decide +kernel
theorem dX10_turnInTrace_56 : decode cX10_turnInTrace 56 = .ok (.if_icmp .ge 55, 3) := by decide +kernel
theorem dX10_turnInTrace_59 : decode cX10_turnInTrace 59 = .ok (.aload_n 0, 1) := by decide +kernel
theorem dX10_turnInTrace_60 : decode cX10_turnInTrace 60 = .ok (.getfield 9, 3) := by decide +kernel
theorem dX10_turnInTrace_63 : decode cX10_turnInTrace 63 = .ok (.aload_n 0, 1) := by decide +kernel
theorem dX10_turnInTrace_64 : decode cX10_turnInTrace 64 = .ok (.getfield 41, 3) := by decide +kernel
theorem dX10_turnInTrace_67 : decode cX10_turnInTrace 67 = .ok (.getfield 85, 3) := by decide +kernel
theorem dX10_turnInTrace_70 : decode cX10_turnInTrace 70 = .ok (.iload_n 1, 1) := by decide +kernel
theorem dX10_turnInTrace_71 : decode cX10_turnInTrace 71 = .ok (.iaload, 1) := by decide +kernel
theorem dX10_turnInTrace_72 : decode cX10_turnInTrace 72 = .ok (.i2c, 1) := by decide +kernel
theorem dX10_turnInTrace_73 : decode cX10_turnInTrace 73 = .ok (.aload_n 0, 1) := by decide +kernel
theorem dX10_turnInTrace_74 : decode cX10_turnInTrace 74 = .ok (.getfield 41, 3) := by decide +kernel
theorem dX10_turnInTrace_77 : decode cX10_turnInTrace 77 = .ok (.getfield 88, 3) := by decide +kernel
theorem dX10_turnInTrace_80 : decode cX10_turnInTrace 80 = .ok (.iload_n 1, 1) := by decide +kernel
theorem dX10_turnInTrace_81 : decode cX10_turnInTrace 81 = .ok (.iaload, 1) := by decide +kernel
theorem dX10_turnInTrace_82 : decode cX10_turnInTrace 82 = .ok (.invokevirtual 91, 3) := by decide +kernel
theorem dX10_turnInTrace_85 : decode cX10_turnInTrace 85 = .ok (.istore_n 2, 1) := by decide +kernel
theorem dX10_turnInTrace_86 : decode cX10_turnInTrace 86 = .ok (.iload_n 2, 1) := by decide +kernel
theorem dX10_turnInTrace_87 : decode cX10_turnInTrace 87 = .ok (.aload_n 0, 1) := by decide +kernel
theorem dX10_turnInTrace_88 : decode cX10_turnInTrace 88 = .ok (.getfield 41, 3) := by decide +kernel
theorem dX10_turnInTrace_91 : decode cX10_turnInTrace 91 = .ok (.getfield 95, 3) := by decide +kernel
theorem dX10_turnInTrace_94 : decode cX10_turnInTrace 94 = .ok (.iload_n 1, 1) := by decide +kernel
theorem dX10_turnInTrace_95 : decode cX10_turnInTrace 95 = .ok (.iaload, 1) := by decide +kernel
theorem dX10_turnInTrace_96 : decode cX10_turnInTrace 96 = .ok (.if_icmp .eq 9, 3) := by decide +kernel
theorem dX10_turnInTrace_99 : decode cX10_turnInTrace 99 = .ok (.aload_n 0, 1) := by decide +kernel
theorem dX10_turnInTrace_100 : decode cX10_turnInTrace 100 = .ok (.iload_n 1, 1) := by decide +kernel
theorem dX10_turnInTrace_101 : decode cX10_turnInTrace 101 = .ok (.invokevirtual 98, 3) := by decide +kernel
theorem dX10_turnInTrace_104 : decode cX10_turnInTrace 104 = .ok (.return_, 1) := by decide +kernel
theorem dX10_turnInTrace_105 : decode cX10_turnInTrace 105 = .ok (.iinc 1 1, 3) := by decide +kernel
theorem dX10_turnInTrace_108 : decode cX10_turnInTrace 108 = .ok (.goto (-67), 3) := by decide +kernel
theorem dX10_turnInTrace_111 : decode cX10_turnInTrace 111 = .ok (.aload_n 0, 1) := by decide +kernel
theorem dX10_turnInTrace_112 : decode cX10_turnInTrace 112 = .ok (.getfield 9, 3) := by decide +kernel
theorem dX10_turnInTrace_115 : decode cX10_turnInTrace 115 = .ok (.invokevirtual 102, 3) := by decide +kernel
theorem dX10_turnInTrace_118 : decode cX10_turnInTrace 118 = .ok (.pop, 1) := by decide +kernel
theorem dX10_turnInTrace_119 : decode cX10_turnInTrace 119 = .ok (.aload_n 0, 1) := by decide +kernel
theorem dX10_turnInTrace_120 : decode cX10_turnInTrace 120 = .ok (.dup, 1) := by decide +kernel
theorem dX10_turnInTrace_121 : decode cX10_turnInTrace 121 = .ok (.getfield 61, 3) := by decide +kernel
theorem dX10_turnInTrace_124 : decode cX10_turnInTrace 124 = .ok (.iconst 1, 1) := by decide +kernel
theorem dX10_turnInTrace_125 : decode cX10_turnInTrace 125 = .ok (.iadd, 1) := by decide +kernel
theorem dX10_turnInTrace_126 : decode cX10_turnInTrace 126 = .ok (.putfield 61, 3) := by decide +kernel
theorem dX10_turnInTrace_129 : decode cX10_turnInTrace 129 = .ok (.aload_n 0, 1) := by decide +kernel
theorem dX10_turnInTrace_130 : decode cX10_turnInTrace 130 = .ok (.dup, 1) := by decide +kernel
theorem dX10_turnInTrace_131 : decode cX10_turnInTrace 131 = .ok (.getfield 82, 3) := by decide +kernel
theorem dX10_turnInTrace_134 : decode cX10_turnInTrace 134 = .ok (.iconst 1, 1) := by decide +kernel
theorem dX10_turnInTrace_135 : decode cX10_turnInTrace 135 = .ok (.iadd, 1) := by decide +kernel
theorem dX10_turnInTrace_136 : decode cX10_turnInTrace 136 = .ok (.putfield 82, 3) := by decide +kernel
theorem dX10_turnInTrace_139 : decode cX10_turnInTrace 139 = .ok (.aload_n 0, 1) := by decide +kernel
theorem dX10_turnInTrace_140 : decode cX10_turnInTrace 140 = .ok (.getfield 82, 3) := by decide +kernel
theorem dX10_turnInTrace_143 : decode cX10_turnInTrace 143 = .ok (.aload_n 0, 1) := by decide +kernel
theorem dX10_turnInTrace_144 : decode cX10_turnInTrace 144 = .ok (.getfield 41, 3) := by decide +kernel
theorem dX10_turnInTrace_147 : decode cX10_turnInTrace 147 = .ok (.getfield 105, 3) := by decide +kernel
theorem dX10_turnInTrace_150 : decode cX10_turnInTrace 150 = .ok (.if_icmp .lt 14, 3) := by decide +kernel
theorem dX10_turnInTrace_153 : decode cX10_turnInTrace 153 = .ok (.aload_n 0, 1) := by decide +kernel
theorem dX10_turnInTrace_154 : decode cX10_turnInTrace 154 = .ok (.aload_n 0, 1) := by decide +kernel
theorem dX10_turnInTrace_155 : decode cX10_turnInTrace 155 = .ok (.getfield 41, 3) := by decide +kernel
theorem dX10_turnInTrace_158 : decode cX10_turnInTrace 158 = .ok (.getfield 108, 3) := by decide +kernel
theorem dX10_turnInTrace_161 : decode cX10_turnInTrace 161 = .ok (.invokevirtual 111, 3) := by decide +kernel
theorem dX10_turnInTrace_164 : decode cX10_turnInTrace 164 = .ok (.return_, 1) := by decide +kernel
theorem dX10_enter_0 : decode cX10_enter 0 = .ok (.aload_n 0, 1) := by decide +kernel
theorem dX10_enter_1 : decode cX10_enter 1 = .ok (.getfield 50, 3) := by decide +kernel
theorem dX10_enter_4 : decode cX10_enter 4 = .ok (.getfield 114, 3) := by decide +kernel
theorem dX10_enter_7 : decode cX10_enter 7 = .ok (.iload_n 1, 1) := by decide +kernel
theorem dX10_enter_8 : decode cX10_enter 8 = .ok (.aaload, 1) := by decide +kernel
theorem dX10_enter_9 : decode cX10_enter 9 = .ok (.astore_n 2, 1) := by decide +kernel
theorem dX10_enter_10 : decode cX10_enter 10 = .ok (.aload_n 0, 1) := by decide +kernel
theorem dX10_enter_11 : decode cX10_enter 11 = .ok (.getfield 50, 3) := by decide +kernel
theorem dX10_enter_14 : decode cX10_enter 14 = .ok (.dup, 1) := by decide +kernel
theorem dX10_enter_15 : decode cX10_enter 15 = .ok (.getfield 118, 3) := by decide +kernel
theorem dX10_enter_18 : decode cX10_enter 18 = .ok (.iconst 1, 1) := by decide +kernel
theorem dX10_enter_19 : decode cX10_enter 19 = .ok (.iadd, 1) := by decide +kernel
theorem dX10_enter_20 : decode cX10_enter 20 = .ok (.putfield 118, 3) := by decide +kernel
theorem dX10_enter_23 : decode cX10_enter 23 = .ok (.aload_n 2, 1) := by decide +kernel
theorem dX10_enter_24 : decode cX10_enter 24 = .ok (.aload_n 0, 1) := by decide +kernel
theorem dX10_enter_25 : decode cX10_enter 25 = .ok (.getfield 50, 3) := by decide +kernel
theorem dX10_enter_28 : decode cX10_enter 28 = .ok (.getfield 118, 3) := by decide +kernel
theorem dX10_enter_31 : decode cX10_enter 31 = .ok (.putfield 121, 3) := by decide +kernel
theorem dX10_enter_34 : decode cX10_enter 34 = .ok (.aload_n 0, 1) := by decide +kernel
theorem dX10_enter_35 : decode cX10_enter 35 = .ok (.aload_n 0, 1) := by decide +kernel
theorem dX10_enter_36 : decode cX10_enter 36 = .ok (.getfield 9, 3) := by decide +kernel
theorem dX10_enter_39 : decode cX10_enter 39 = .ok (.getfield 124, 3) := by decide +kernel
theorem dX10_enter_42 : decode cX10_enter 42 = .ok (.putfield 127, 3) := by decide +kernel
theorem dX10_enter_45 : decode cX10_enter 45 = .ok (.aload_n 0, 1) := by decide +kernel
theorem dX10_enter_46 : decode cX10_enter 46 = .ok (.iload_n 1, 1) := by decide +kernel
theorem dX10_enter_47 : decode cX10_enter 47 = .ok (.invokevirtual 130, 3) := by decide +kernel
theorem dX10_enter_50 : decode cX10_enter 50 = .ok (.return_, 1) := by decide +kernel
theorem dX10_follow_0 : decode cX10_follow 0 = .ok (.aload_n 0, 1) := by decide +kernel
theorem dX10_follow_1 : decode cX10_follow 1 = .ok (.iload_n 1, 1) := by decide +kernel
theorem dX10_follow_2 : decode cX10_follow 2 = .ok (.putfield 133, 3) := by decide +kernel
theorem dX10_follow_5 : decode cX10_follow 5 = .ok (.aload_n 0, 1) := by decide +kernel
theorem dX10_follow_6 : decode cX10_follow 6 = .ok (.aload_n 0, 1) := by decide +kernel
theorem dX10_follow_7 : decode cX10_follow 7 = .ok (.getfield 50, 3) := by decide +kernel
theorem dX10_follow_10 : decode cX10_follow 10 = .ok (.getfield 114, 3) := by decide +kernel
theorem dX10_follow_13 : decode cX10_follow 13 = .ok (.iload_n 1, 1) := by decide +kernel
theorem dX10_follow_14 : decode cX10_follow 14 = .ok (.aaload, 1) := by decide +kernel
theorem dX10_follow_15 : decode cX10_follow 15 = .ok (.putfield 41, 3) := by decide +kernel
theorem dX10_follow_18 : decode cX10_follow 18 = .ok (.aload_n 0, 1) := by decide +kernel
theorem dX10_follow_19 : decode cX10_follow 19 = .ok (.getfield 41, 3) := by decide +kernel
theorem dX10_follow_22 : decode cX10_follow 22 = .ok (.dup, 1) := by decide +kernel
theorem dX10_follow_23 : decode cX10_follow 23 = .ok (.getfield 136, 3) := by decide +kernel
theorem dX10_follow_26 : decode cX10_follow 26 = .ok (.iconst 1, 1) := by decide +kernel
theorem dX10_follow_27 : decode cX10_follow 27 = .ok (.iadd, 1) := by decide +kernel
theorem dX10_follow_28 : decode cX10_follow 28 = .ok (.putfield 136, 3) := by decide +kernel
theorem dX10_follow_31 : decode cX10_follow 31 = .ok (.aload_n 0, 1) := by decide +kernel
theorem dX10_follow_32 : decode cX10_follow 32 = .ok (.iconst 0, 1) := by decide +kernel
theorem dX10_follow_33 : decode cX10_follow 33 = .ok (.putfield 82, 3) := by decide +kernel
theorem dX10_follow_36 : decode cX10_follow 36 = .ok (.aload_n 0, 1) := by decide +kernel
theorem dX10_follow_37 : decode cX10_follow 37 = .ok (.iconst 1, 1) := by decide +kernel
theorem dX10_follow_38 : decode cX10_follow 38 = .ok (.putfield 64, 3) := by decide +kernel
theorem dX10_follow_41 : decode cX10_follow 41 = .ok (.return_, 1) := by decide +kernel
theorem dX10_exitAt_0 : decode cX10_exitAt 0 = .ok (.aload_n 0, 1) := by decide +kernel
theorem dX10_exitAt_1 : decode cX10_exitAt 1 = .ok (.getfield 41, 3) := by decide +kernel
theorem dX10_exitAt_4 : decode cX10_exitAt 4 = .ok (.getfield 139, 3) := by decide +kernel
theorem dX10_exitAt_7 : decode cX10_exitAt 7 = .ok (.iload_n 1, 1) := by decide +kernel
theorem dX10_exitAt_8 : decode cX10_exitAt 8 = .ok (.dup2, 1) := by decide +kernel
theorem dX10_exitAt_9 : decode cX10_exitAt 9 = .ok (.iaload, 1) := by decide +kernel
theorem dX10_exitAt_10 : decode cX10_exitAt 10 = .ok (.iconst 1, 1) := by decide +kernel
theorem dX10_exitAt_11 : decode cX10_exitAt 11 = .ok (.iadd, 1) := by decide +kernel
theorem dX10_exitAt_12 : decode cX10_exitAt 12 = .ok (.iastore, 1) := by decide +kernel
theorem dX10_exitAt_13 : decode cX10_exitAt 13 = .ok (.aload_n 0, 1) := by decide +kernel
theorem dX10_exitAt_14 : decode cX10_exitAt 14 = .ok (.getfield 41, 3) := by decide +kernel
theorem dX10_exitAt_17 : decode cX10_exitAt 17 = .ok (.getfield 142, 3) := by decide +kernel
theorem dX10_exitAt_20 : decode cX10_exitAt 20 = .ok (.iload_n 1, 1) := by decide +kernel
theorem dX10_exitAt_21 : decode cX10_exitAt 21 = .ok (.iaload, 1) := by decide +kernel
theorem dX10_exitAt_22 : decode cX10_exitAt 22 = .ok (.iconst (-1), 1) := by decide +kernel
theorem dX10_exitAt_23 : decode cX10_exitAt 23 = .ok (.if_icmp .eq 17, 3) := by decide +kernel
theorem dX10_exitAt_26 : decode cX10_exitAt 26 = .ok (.aload_n 0, 1) := by decide +kernel
theorem dX10_exitAt_27 : decode cX10_exitAt 27 = .ok (.aload_n 0, 1) := by decide +kernel
theorem dX10_exitAt_28 : decode cX10_exitAt 28 = .ok (.getfield 41, 3) := by decide +kernel
theorem dX10_exitAt_31 : decode cX10_exitAt 31 = .ok (.getfield 142, 3) := by decide +kernel
theorem dX10_exitAt_34 : decode cX10_exitAt 34 = .ok (.iload_n 1, 1) := by decide +kernel
theorem dX10_exitAt_35 : decode cX10_exitAt 35 = .ok (.iaload, 1) := by decide +kernel
theorem dX10_exitAt_36 : decode cX10_exitAt 36 = .ok (.invokevirtual 130, 3) := by decide +kernel
theorem dX10_exitAt_39 : decode cX10_exitAt 39 = .ok (.return_, 1) := by decide +kernel
theorem dX10_exitAt_40 : decode cX10_exitAt 40 = .ok (.aload_n 0, 1) := by decide +kernel
theorem dX10_exitAt_41 : decode cX10_exitAt 41 = .ok (.getfield 41, 3) := by decide +kernel
theorem dX10_exitAt_44 : decode cX10_exitAt 44 = .ok (.getfield 145, 3) := by decide +kernel
theorem dX10_exitAt_47 : decode cX10_exitAt 47 = .ok (.iload_n 1, 1) := by decide +kernel
theorem dX10_exitAt_48 : decode cX10_exitAt 48 = .ok (.dup2, 1) := by decide +kernel
theorem dX10_exitAt_49 : decode cX10_exitAt 49 = .ok (.iaload, 1) := by decide +kernel
theorem dX10_exitAt_50 : decode cX10_exitAt 50 = .ok (.iconst 1, 1) := by decide +kernel
theorem dX10_exitAt_51 : decode cX10_exitAt 51 = .ok (.iadd, 1) := by decide +kernel
theorem dX10_exitAt_52 : decode cX10_exitAt 52 = .ok (.iastore, 1) := by decide +kernel
theorem dX10_exitAt_53 : decode cX10_exitAt 53 = .ok (.aload_n 0, 1) := by decide +kernel
theorem dX10_exitAt_54 : decode cX10_exitAt 54 = .ok (.iconst 0, 1) := by decide +kernel
theorem dX10_exitAt_55 : decode cX10_exitAt 55 = .ok (.putfield 64, 3) := by decide +kernel
theorem dX10_exitAt_58 : decode cX10_exitAt 58 = .ok (.aload_n 0, 1) := by decide +kernel
theorem dX10_exitAt_59 : decode cX10_exitAt 59 = .ok (.getfield 41, 3) := by decide +kernel
theorem dX10_exitAt_62 : decode cX10_exitAt 62 = .ok (.getfield 145, 3) := by decide +kernel
theorem dX10_exitAt_65 : decode cX10_exitAt 65 = .ok (.iload_n 1, 1) := by decide +kernel
theorem dX10_exitAt_66 : decode cX10_exitAt 66 = .ok (.iaload, 1) := by decide +kernel
theorem dX10_exitAt_67 : decode cX10_exitAt 67 = .ok (.aload_n 0, 1) := by decide +kernel
theorem dX10_exitAt_68 : decode cX10_exitAt 68 = .ok (.getfield 58, 3) := by decide +kernel
theorem dX10_exitAt_71 : decode cX10_exitAt 71 = .ok (.if_icmp .lt 38, 3) := by decide +kernel
theorem dX10_exitAt_74 : decode cX10_exitAt 74 = .ok (.aload_n 0, 1) := by decide +kernel
theorem dX10_exitAt_75 : decode cX10_exitAt 75 = .ok (.getfield 41, 3) := by decide +kernel
theorem dX10_exitAt_78 : decode cX10_exitAt 78 = .ok (.iload_n 1, 1) := by decide +kernel
theorem dX10_exitAt_79 : decode cX10_exitAt 79 = .ok (.invokevirtual 148, 3) := by decide +kernel
theorem dX10_exitAt_82 : decode cX10_exitAt 82 = .ok (.ifCond .ne 27, 3) := by decide +kernel
theorem dX10_exitAt_85 : decode cX10_exitAt 85 = .ok (.aload_n 0, 1) := by decide +kernel
theorem dX10_exitAt_86 : decode cX10_exitAt 86 = .ok (.getfield 32, 3) := by decide +kernel
theorem dX10_exitAt_89 : decode cX10_exitAt 89 = .ok (.aload_n 0, 1) := by decide +kernel
theorem dX10_exitAt_90 : decode cX10_exitAt 90 = .ok (.getfield 9, 3) := by decide +kernel
theorem dX10_exitAt_93 : decode cX10_exitAt 93 = .ok (.aload_n 0, 1) := by decide +kernel
theorem dX10_exitAt_94 : decode cX10_exitAt 94 = .ok (.getfield 41, 3) := by decide +kernel
theorem dX10_exitAt_97 : decode cX10_exitAt 97 = .ok (.aload_n 0, 1) := by decide +kernel
theorem dX10_exitAt_98 : decode cX10_exitAt 98 = .ok (.getfield 133, 3) := by decide +kernel
theorem dX10_exitAt_101 : decode cX10_exitAt 101 = .ok (.iload_n 1, 1) := by decide +kernel
theorem dX10_exitAt_102 : decode cX10_exitAt 102 = .ok (.aload_n 0, 1) := by decide +kernel
theorem dX10_exitAt_103 : decode cX10_exitAt 103 = .ok (.getfield 127, 3) := by decide +kernel
theorem dX10_exitAt_106 : decode cX10_exitAt 106 = .ok (.invokevirtual 152, 3) := by decide +kernel
theorem dX10_exitAt_109 : decode cX10_exitAt 109 = .ok (.return_, 1) := by decide +kernel
theorem dX10_canExecute_0 : decode cX10_canExecute 0 = .ok (.aload_n 0, 1) := by decide +kernel
theorem dX10_canExecute_1 : decode cX10_canExecute 1 = .ok (.getfield 9, 3) := by decide +kernel
theorem dX10_canExecute_4 : decode cX10_canExecute 4 = .ok (.invokevirtual 68, 3) := by decide +kernel
theorem dX10_canExecute_7 : decode cX10_canExecute 7 = .ok (.ifCond .eq 12, 3) := by decide +kernel
theorem dX10_canExecute_10 : decode cX10_canExecute 10 = .ok (.aload_n 0, 1) := by decide +kernel
theorem dX10_canExecute_11 : decode cX10_canExecute 11 = .ok (.getfield 9, 3) := by decide +kernel
theorem dX10_canExecute_14 : decode cX10_canExecute 14 = .ok (.invokevirtual 156, 3) := by decide +kernel
theorem dX10_canExecute_17 : decode cX10_canExecute 17 = .ok (.iconst 0, 1) := by decide +kernel
theorem dX10_canExecute_18 : decode cX10_canExecute 18 = .ok (.ireturn, 1) := by decide +kernel
theorem dX10_canExecute_19 : decode cX10_canExecute 19 = .ok (.aload_n 0, 1) := by decide +kernel
theorem dX10_canExecute_20 : decode cX10_canExecute 20 = .ok (.getfield 32, 3) := by decide +kernel
theorem dX10_canExecute_23 : decode cX10_canExecute 23 = .ok (.invokevirtual 159, 3) := by decide +kernel
theorem dX10_canExecute_26 : decode cX10_canExecute 26 = .ok (.ifCond .eq 7, 3) := by decide +kernel
theorem dX10_canExecute_29 : decode cX10_canExecute 29 = .ok (.aload_n 0, 1) := by decide +kernel
theorem dX10_canExecute_30 : decode cX10_canExecute 30 = .ok (.invokevirtual 162, 3) := by decide +kernel
theorem dX10_canExecute_33 : decode cX10_canExecute 33 = .ok (.aload_n 0, 1) := by decide +kernel
theorem dX10_canExecute_34 : decode cX10_canExecute 34 = .ok (.getfield 9, 3) := by decide +kernel
theorem dX10_canExecute_37 : decode cX10_canExecute 37 = .ok (.invokevirtual 74, 3) := by decide +kernel
theorem dX10_canExecute_40 : decode cX10_canExecute 40 = .ok (.istore_n 1, 1) := by decide +kernel
theorem dX10_canExecute_41 : decode cX10_canExecute 41 = .ok (.iload_n 1, 1) := by decide +kernel
theorem dX10_canExecute_42 : decode cX10_canExecute 42 = .ok (.bipush 45, 2) := by decide +kernel
theorem dX10_canExecute_44 : decode cX10_canExecute 44 = .ok (.if_icmp .ne 5, 3) := by decide +kernel
theorem dX10_canExecute_47 : decode cX10_canExecute 47 = .ok (.iconst 1, 1) := by decide +kernel
theorem dX10_canExecute_48 : decode cX10_canExecute 48 = .ok (.ireturn, 1) := by decide +kernel
theorem dX10_canExecute_49 : decode cX10_canExecute 49 = .ok (.aload_n 0, 1) := by decide +kernel
theorem dX10_canExecute_50 : decode cX10_canExecute 50 = .ok (.invokevirtual 162, 3) := by decide +kernel
theorem dX10_canExecute_53 : decode cX10_canExecute 53 = .ok (.aload_n 0, 1) := by decide +kernel
theorem dX10_canExecute_54 : decode cX10_canExecute 54 = .ok (.getfield 9, 3) := by decide +kernel
theorem dX10_canExecute_57 : decode cX10_canExecute 57 = .ok (.iload_n 1, 1) := by decide +kernel
theorem dX10_canExecute_58 : decode cX10_canExecute 58 = .ok (.invokevirtual 165, 3) := by decide +kernel
theorem dX10_canExecute_61 : decode cX10_canExecute 61 = .ok (.iconst 0, 1) := by decide +kernel
theorem dX10_canExecute_62 : decode cX10_canExecute 62 = .ok (.ireturn, 1) := by decide +kernel
theorem dX10_executeOutside_0 : decode cX10_executeOutside 0 = .ok (.aload_n 0, 1) := by decide +kernel
theorem dX10_executeOutside_1 : decode cX10_executeOutside 1 = .ok (.getfield 9, 3) := by decide +kernel
theorem dX10_executeOutside_4 : decode cX10_executeOutside 4 = .ok (.getfield 169, 3) := by decide +kernel
theorem dX10_executeOutside_7 : decode cX10_executeOutside 7 = .ok (.istore_n 1, 1) := by decide +kernel
theorem dX10_executeOutside_8 : decode cX10_executeOutside 8 = .ok (.iload_n 1, 1) := by decide +kernel
theorem dX10_executeOutside_9 : decode cX10_executeOutside 9 = .ok (.bipush 114, 2) := by decide +kernel
theorem dX10_executeOutside_11 : decode cX10_executeOutside 11 = .ok (.if_icmp .ne 24, 3) := by decide +kernel
theorem dX10_executeOutside_14 : decode cX10_executeOutside 14 = .ok (.aload_n 0, 1) := by decide +kernel
theorem dX10_executeOutside_15 : decode cX10_executeOutside 15 = .ok (.getfield 9, 3) := by decide +kernel
theorem dX10_executeOutside_18 : decode cX10_executeOutside 18 = .ok (.getfield 124, 3) := by decide +kernel
theorem dX10_executeOutside_21 : decode cX10_executeOutside 21 = .ok (.aload_n 0, 1) := by decide +kernel
theorem dX10_executeOutside_22 : decode cX10_executeOutside 22 = .ok (.getfield 32, 3) := by decide +kernel
theorem dX10_executeOutside_25 : decode cX10_executeOutside 25 = .ok (.getfield 173, 3) := by decide +kernel
theorem dX10_executeOutside_28 : decode cX10_executeOutside 28 = .ok (.if_icmp .ne 7, 3) := by decide +kernel
theorem dX10_executeOutside_31 : decode cX10_executeOutside 31 = .ok (.aload_n 0, 1) := by decide +kernel
theorem dX10_executeOutside_32 : decode cX10_executeOutside 32 = .ok (.invokevirtual 162, 3) := by decide +kernel
theorem dX10_executeOutside_35 : decode cX10_executeOutside 35 = .ok (.aload_n 0, 1) := by decide +kernel
theorem dX10_executeOutside_36 : decode cX10_executeOutside 36 = .ok (.iload_n 1, 1) := by decide +kernel
theorem dX10_executeOutside_37 : decode cX10_executeOutside 37 = .ok (.invokevirtual 174, 3) := by decide +kernel
theorem dX10_executeOutside_40 : decode cX10_executeOutside 40 = .ok (.aload_n 0, 1) := by decide +kernel
theorem dX10_executeOutside_41 : decode cX10_executeOutside 41 = .ok (.getfield 32, 3) := by decide +kernel
theorem dX10_executeOutside_44 : decode cX10_executeOutside 44 = .ok (.getfield 177, 3) := by decide +kernel
theorem dX10_executeOutside_47 : decode cX10_executeOutside 47 = .ok (.ifCond .eq 14, 3) := by decide +kernel
theorem dX10_executeOutside_50 : decode cX10_executeOutside 50 = .ok (.aload_n 0, 1) := by decide +kernel
theorem dX10_executeOutside_51 : decode cX10_executeOutside 51 = .ok (.getfield 32, 3) := by decide +kernel
theorem dX10_executeOutside_54 : decode cX10_executeOutside 54 = .ok (.aload_n 0, 1) := by decide +kernel
theorem dX10_executeOutside_55 : decode cX10_executeOutside 55 = .ok (.getfield 9, 3) := by decide +kernel
theorem dX10_executeOutside_58 : decode cX10_executeOutside 58 = .ok (.invokevirtual 180, 3) := by decide +kernel
theorem dX10_executeOutside_61 : decode cX10_executeOutside 61 = .ok (.aload_n 0, 1) := by decide +kernel
theorem dX10_executeOutside_62 : decode cX10_executeOutside 62 = .ok (.getfield 9, 3) := by decide +kernel
theorem dX10_executeOutside_65 : decode cX10_executeOutside 65 = .ok (.invokevirtual 102, 3) := by decide +kernel
theorem dX10_executeOutside_68 : decode cX10_executeOutside 68 = .ok (.istore_n 2, 1) := by decide +kernel
theorem dX10_executeOutside_69 : decode cX10_executeOutside 69 = .ok (.aload_n 0, 1) := by decide +kernel
theorem dX10_executeOutside_70 : decode cX10_executeOutside 70 = .ok (.getfield 32, 3) := by decide +kernel
theorem dX10_executeOutside_73 : decode cX10_executeOutside 73 = .ok (.getfield 177, 3) := by decide +kernel
theorem dX10_executeOutside_76 : decode cX10_executeOutside 76 = .ok (.ifCond .eq 15, 3) := by decide +kernel
theorem dX10_executeOutside_79 : decode cX10_executeOutside 79 = .ok (.aload_n 0, 1) := by decide +kernel
theorem dX10_executeOutside_80 : decode cX10_executeOutside 80 = .ok (.getfield 32, 3) := by decide +kernel
theorem dX10_executeOutside_83 : decode cX10_executeOutside 83 = .ok (.aload_n 0, 1) := by decide +kernel
theorem dX10_executeOutside_84 : decode cX10_executeOutside 84 = .ok (.getfield 9, 3) := by decide +kernel
theorem dX10_executeOutside_87 : decode cX10_executeOutside 87 = .ok (.iload_n 1, 1) := by decide +kernel
theorem dX10_executeOutside_88 : decode cX10_executeOutside 88 = .ok (.invokevirtual 184, 3) := by decide +kernel
theorem dX10_executeOutside_91 : decode cX10_executeOutside 91 = .ok (.iload_n 2, 1) := by decide +kernel
theorem dX10_executeOutside_92 : decode cX10_executeOutside 92 = .ok (.ifCond .eq 14, 3) := by decide +kernel
theorem dX10_executeOutside_95 : decode cX10_executeOutside 95 = .ok (.aload_n 0, 1) := by decide +kernel
theorem dX10_executeOutside_96 : decode cX10_executeOutside 96 = .ok (.aload_n 0, 1) := by decide +kernel
theorem dX10_executeOutside_97 : decode cX10_executeOutside 97 = .ok (.getfield 9, 3) := by decide +kernel
theorem dX10_executeOutside_100 : decode cX10_executeOutside 100 = .ok (.invokevirtual 188, 3) := by decide +kernel
theorem dX10_executeOutside_103 : decode cX10_executeOutside 103 = .ok (.invokevirtual 192, 3) := by decide +kernel
theorem dX10_executeOutside_106 : decode cX10_executeOutside 106 = .ok (.return_, 1) := by decide +kernel
theorem dX10_meetCache_0 : decode cX10_meetCache 0 = .ok (.iload_n 1, 1) := by decide +kernel
theorem dX10_meetCache_1 : decode cX10_meetCache 1 = .ok (.bipush 103, 2) := by decide +kernel
theorem dX10_meetCache_3 : decode cX10_meetCache 3 = .ok (.if_icmp .ne 28, 3) := by decide +kernel
theorem dX10_meetCache_6 : decode cX10_meetCache 6 = .ok (.aload_n 0, 1) := by decide +kernel
theorem dX10_meetCache_7 : decode cX10_meetCache 7 = .ok (.getfield 18, 3) := by decide +kernel
theorem dX10_meetCache_10 : decode cX10_meetCache 10 = .ok (.aload_n 0, 1) := by decide +kernel
theorem dX10_meetCache_11 : decode cX10_meetCache 11 = .ok (.getfield 9, 3) := by decide +kernel
theorem dX10_meetCache_14 : decode cX10_meetCache 14 = .ok (.invokevirtual 188, 3) := by decide +kernel
theorem dX10_meetCache_17 : decode cX10_meetCache 17 = .ok (.aload_n 0, 1) := by decide +kernel
theorem dX10_meetCache_18 : decode cX10_meetCache 18 = .ok (.getfield 9, 3) := by decide +kernel
theorem dX10_meetCache_21 : decode cX10_meetCache 21 = .ok (.iconst 1, 1) := by decide +kernel
theorem dX10_meetCache_22 : decode cX10_meetCache 22 = .ok (.invokevirtual 195, 3) := by decide +kernel
theorem dX10_meetCache_25 : decode cX10_meetCache 25 = .ok (.invokevirtual 199, 3) := by decide +kernel
theorem dX10_meetCache_28 : decode cX10_meetCache 28 = .ok (.goto 61, 3) := by decide +kernel
theorem dX10_meetCache_31 : decode cX10_meetCache 31 = .ok (.iload_n 1, 1) := by decide +kernel
theorem dX10_meetCache_32 : decode cX10_meetCache 32 = .ok (.bipush 112, 2) := by decide +kernel
theorem dX10_meetCache_34 : decode cX10_meetCache 34 = .ok (.if_icmp .ne 28, 3) := by decide +kernel
theorem dX10_meetCache_37 : decode cX10_meetCache 37 = .ok (.aload_n 0, 1) := by decide +kernel
theorem dX10_meetCache_38 : decode cX10_meetCache 38 = .ok (.getfield 18, 3) := by decide +kernel
theorem dX10_meetCache_41 : decode cX10_meetCache 41 = .ok (.aload_n 0, 1) := by decide +kernel
theorem dX10_meetCache_42 : decode cX10_meetCache 42 = .ok (.getfield 9, 3) := by decide +kernel
theorem dX10_meetCache_45 : decode cX10_meetCache 45 = .ok (.invokevirtual 188, 3) := by decide +kernel
theorem dX10_meetCache_48 : decode cX10_meetCache 48 = .ok (.aload_n 0, 1) := by decide +kernel
theorem dX10_meetCache_49 : decode cX10_meetCache 49 = .ok (.getfield 9, 3) := by decide +kernel
theorem dX10_meetCache_52 : decode cX10_meetCache 52 = .ok (.iconst 2, 1) := by decide +kernel
theorem dX10_meetCache_53 : decode cX10_meetCache 53 = .ok (.invokevirtual 195, 3) := by decide +kernel
theorem dX10_meetCache_56 : decode cX10_meetCache 56 = .ok (.invokevirtual 199, 3) := by decide +kernel
theorem dX10_meetCache_59 : decode cX10_meetCache 59 = .ok (.goto 30, 3) := by decide +kernel
theorem dX10_meetCache_62 : decode cX10_meetCache 62 = .ok (.iload_n 1, 1) := by decide +kernel
theorem dX10_meetCache_63 : decode cX10_meetCache 63 = .ok (.bipush 109, 2) := by decide +kernel
theorem dX10_meetCache_65 : decode cX10_meetCache 65 = .ok (.if_icmp .ne 24, 3) := by decide +kernel
theorem dX10_meetCache_68 : decode cX10_meetCache 68 = .ok (.aload_n 0, 1) := by decide +kernel
theorem dX10_meetCache_69 : decode cX10_meetCache 69 = .ok (.getfield 18, 3) := by decide +kernel
theorem dX10_meetCache_72 : decode cX10_meetCache 72 = .ok (.aload_n 0, 1) := by decide +kernel
theorem dX10_meetCache_73 : decode cX10_meetCache 73 = .ok (.getfield 9, 3) := by decide +kernel
theorem dX10_meetCache_76 : decode cX10_meetCache 76 = .ok (.invokevirtual 188, 3) := by decide +kernel
theorem dX10_meetCache_79 : decode cX10_meetCache 79 = .ok (.aload_n 0, 1) := by decide +kernel
theorem dX10_meetCache_80 : decode cX10_meetCache 80 = .ok (.getfield 9, 3) := by decide +kernel
theorem dX10_meetCache_83 : decode cX10_meetCache 83 = .ok (.invokevirtual 203, 3) := by decide +kernel
theorem dX10_meetCache_86 : decode cX10_meetCache 86 = .ok (.invokevirtual 199, 3) := by decide +kernel
theorem dX10_meetCache_89 : decode cX10_meetCache 89 = .ok (.return_, 1) := by decide +kernel
theorem dX10_arrive_0 : decode cX10_arrive 0 = .ok (.aload_n 0, 1) := by decide +kernel
theorem dX10_arrive_1 : decode cX10_arrive 1 = .ok (.getfield 32, 3) := by decide +kernel
theorem dX10_arrive_4 : decode cX10_arrive 4 = .ok (.getfield 177, 3) := by decide +kernel
theorem dX10_arrive_7 : decode cX10_arrive 7 = .ok (.ifCond .eq 22, 3) := by decide +kernel
theorem dX10_arrive_10 : decode cX10_arrive 10 = .ok (.aload_n 0, 1) := by decide +kernel
theorem dX10_arrive_11 : decode cX10_arrive 11 = .ok (.getfield 32, 3) := by decide +kernel
theorem dX10_arrive_14 : decode cX10_arrive 14 = .ok (.aload_n 0, 1) := by decide +kernel
theorem dX10_arrive_15 : decode cX10_arrive 15 = .ok (.getfield 9, 3) := by decide +kernel
theorem dX10_arrive_18 : decode cX10_arrive 18 = .ok (.invokevirtual 206, 3) := by decide +kernel
theorem dX10_arrive_21 : decode cX10_arrive 21 = .ok (.ifCond .eq 8, 3) := by decide +kernel
theorem dX10_arrive_24 : decode cX10_arrive 24 = .ok (.aload_n 0, 1) := by decide +kernel
theorem dX10_arrive_25 : decode cX10_arrive 25 = .ok (.invokevirtual 210, 3) := by decide +kernel
theorem dX10_arrive_28 : decode cX10_arrive 28 = .ok (.return_, 1) := by decide +kernel
theorem dX10_arrive_29 : decode cX10_arrive 29 = .ok (.aload_n 0, 1) := by decide +kernel
theorem dX10_arrive_30 : decode cX10_arrive 30 = .ok (.invokevirtual 162, 3) := by decide +kernel
theorem dX10_arrive_33 : decode cX10_arrive 33 = .ok (.aload_n 0, 1) := by decide +kernel
theorem dX10_arrive_34 : decode cX10_arrive 34 = .ok (.getfield 25, 3) := by decide +kernel
theorem dX10_arrive_37 : decode cX10_arrive 37 = .ok (.getfield 213, 3) := by decide +kernel
theorem dX10_arrive_40 : decode cX10_arrive 40 = .ok (.iload_n 1, 1) := by decide +kernel
theorem dX10_arrive_41 : decode cX10_arrive 41 = .ok (.iaload, 1) := by decide +kernel
theorem dX10_arrive_42 : decode cX10_arrive 42 = .ok (.iconst (-1), 1) := by decide +kernel
theorem dX10_arrive_43 : decode cX10_arrive 43 = .ok (.if_icmp .eq 17, 3) := by decide +kernel
theorem dX10_arrive_46 : decode cX10_arrive 46 = .ok (.aload_n 0, 1) := by decide +kernel
theorem dX10_arrive_47 : decode cX10_arrive 47 = .ok (.aload_n 0, 1) := by decide +kernel
theorem dX10_arrive_48 : decode cX10_arrive 48 = .ok (.getfield 25, 3) := by decide +kernel
theorem dX10_arrive_51 : decode cX10_arrive 51 = .ok (.getfield 213, 3) := by decide +kernel
theorem dX10_arrive_54 : decode cX10_arrive 54 = .ok (.iload_n 1, 1) := by decide +kernel
theorem dX10_arrive_55 : decode cX10_arrive 55 = .ok (.iaload, 1) := by decide +kernel
theorem dX10_arrive_56 : decode cX10_arrive 56 = .ok (.invokevirtual 111, 3) := by decide +kernel
theorem dX10_arrive_59 : decode cX10_arrive 59 = .ok (.return_, 1) := by decide +kernel
theorem dX10_arrive_60 : decode cX10_arrive 60 = .ok (.aload_n 0, 1) := by decide +kernel
theorem dX10_arrive_61 : decode cX10_arrive 61 = .ok (.getfield 25, 3) := by decide +kernel
theorem dX10_arrive_64 : decode cX10_arrive 64 = .ok (.getfield 216, 3) := by decide +kernel
theorem dX10_arrive_67 : decode cX10_arrive 67 = .ok (.iload_n 1, 1) := by decide +kernel
theorem dX10_arrive_68 : decode cX10_arrive 68 = .ok (.dup2, 1) := by decide +kernel
theorem dX10_arrive_69 : decode cX10_arrive 69 = .ok (.iaload, 1) := by decide +kernel
theorem dX10_arrive_70 : decode cX10_arrive 70 = .ok (.iconst 1, 1) := by decide +kernel
theorem dX10_arrive_71 : decode cX10_arrive 71 = .ok (.iadd, 1) := by decide +kernel
theorem dX10_arrive_72 : decode cX10_arrive 72 = .ok (.iastore, 1) := by decide +kernel
theorem dX10_arrive_73 : decode cX10_arrive 73 = .ok (.aload_n 0, 1) := by decide +kernel
theorem dX10_arrive_74 : decode cX10_arrive 74 = .ok (.getfield 25, 3) := by decide +kernel
theorem dX10_arrive_77 : decode cX10_arrive 77 = .ok (.getfield 216, 3) := by decide +kernel
theorem dX10_arrive_80 : decode cX10_arrive 80 = .ok (.iload_n 1, 1) := by decide +kernel
theorem dX10_arrive_81 : decode cX10_arrive 81 = .ok (.iaload, 1) := by decide +kernel
theorem dX10_arrive_82 : decode cX10_arrive 82 = .ok (.aload_n 0, 1) := by decide +kernel
theorem dX10_arrive_83 : decode cX10_arrive 83 = .ok (.getfield 54, 3) := by decide +kernel
theorem dX10_arrive_86 : decode cX10_arrive 86 = .ok (.if_icmp .lt 26, 3) := by decide +kernel
theorem dX10_arrive_89 : decode cX10_arrive 89 = .ok (.aload_n 0, 1) := by decide +kernel
theorem dX10_arrive_90 : decode cX10_arrive 90 = .ok (.getfield 25, 3) := by decide +kernel
theorem dX10_arrive_93 : decode cX10_arrive 93 = .ok (.iload_n 1, 1) := by decide +kernel
theorem dX10_arrive_94 : decode cX10_arrive 94 = .ok (.invokevirtual 219, 3) := by decide +kernel
theorem dX10_arrive_97 : decode cX10_arrive 97 = .ok (.ifCond .ne 15, 3) := by decide +kernel
theorem dX10_arrive_100 : decode cX10_arrive 100 = .ok (.aload_n 0, 1) := by decide +kernel
theorem dX10_arrive_101 : decode cX10_arrive 101 = .ok (.getfield 32, 3) := by decide +kernel
theorem dX10_arrive_104 : decode cX10_arrive 104 = .ok (.aload_n 0, 1) := by decide +kernel
theorem dX10_arrive_105 : decode cX10_arrive 105 = .ok (.getfield 9, 3) := by decide +kernel
theorem dX10_arrive_108 : decode cX10_arrive 108 = .ok (.iload_n 1, 1) := by decide +kernel
theorem dX10_arrive_109 : decode cX10_arrive 109 = .ok (.invokevirtual 220, 3) := by decide +kernel
theorem dX10_arrive_112 : decode cX10_arrive 112 = .ok (.return_, 1) := by decide +kernel
theorem dX10_finish_0 : decode cX10_finish 0 = .ok (.aload_n 0, 1) := by decide +kernel
theorem dX10_finish_1 : decode cX10_finish 1 = .ok (.getfield 32, 3) := by decide +kernel
theorem dX10_finish_4 : decode cX10_finish 4 = .ok (.getfield 224, 3) := by decide +kernel
theorem dX10_finish_7 : decode cX10_finish 7 = .ok (.iconst (-1), 1) := by decide +kernel
theorem dX10_finish_8 : decode cX10_finish 8 = .ok (.if_icmp .ne 7, 3) := by decide +kernel
theorem dX10_finish_11 : decode cX10_finish 11 = .ok (.iconst (-1), 1) := by decide +kernel
theorem dX10_finish_12 : decode cX10_finish 12 = .ok (.goto 21, 3) := by decide +kernel
theorem dX10_finish_15 : decode cX10_finish 15 = .ok (.aload_n 0, 1) := by decide +kernel
theorem dX10_finish_16 : decode cX10_finish 16 = .ok (.getfield 50, 3) := by decide +kernel
theorem dX10_finish_19 : decode cX10_finish 19 = .ok (.getfield 114, 3) := by decide +kernel
theorem dX10_finish_22 : decode cX10_finish 22 = .ok (.aload_n 0, 1) := by decide +kernel
theorem dX10_finish_23 : decode cX10_finish 23 = .ok (.getfield 32, 3) := by decide +kernel
theorem dX10_finish_26 : decode cX10_finish 26 = .ok (.getfield 224, 3) := by decide +kernel
theorem dX10_finish_29 : decode cX10_finish 29 = .ok (.aaload, 1) := by decide +kernel
theorem dX10_finish_30 : decode cX10_finish 30 = .ok (.getfield 108, 3) := by decide +kernel
theorem dX10_finish_33 : decode cX10_finish 33 = .ok (.istore_n 1, 1) := by decide +kernel
theorem dX10_finish_34 : decode cX10_finish 34 = .ok (.aload_n 0, 1) := by decide +kernel
theorem dX10_finish_35 : decode cX10_finish 35 = .ok (.getfield 50, 3) := by decide +kernel
theorem dX10_finish_38 : decode cX10_finish 38 = .ok (.invokevirtual 227, 3) := by decide +kernel
theorem dX10_finish_41 : decode cX10_finish 41 = .ok (.ifCond .ne 21, 3) := by decide +kernel
theorem dX10_finish_44 : decode cX10_finish 44 = .ok (.aload_n 0, 1) := by decide +kernel
theorem dX10_finish_45 : decode cX10_finish 45 = .ok (.getfield 50, 3) := by decide +kernel
theorem dX10_finish_48 : decode cX10_finish 48 = .ok (.aload_n 0, 1) := by decide +kernel
theorem dX10_finish_49 : decode cX10_finish 49 = .ok (.getfield 32, 3) := by decide +kernel
theorem dX10_finish_52 : decode cX10_finish 52 = .ok (.getfield 228, 3) := by decide +kernel
theorem dX10_finish_55 : decode cX10_finish 55 = .ok (.iload_n 1, 1) := by decide +kernel
theorem dX10_finish_56 : decode cX10_finish 56 = .ok (.invokevirtual 229, 3) := by decide +kernel
theorem dX10_finish_59 : decode cX10_finish 59 = .ok (.ifCond .ne 8, 3) := by decide +kernel
theorem dX10_finish_62 : decode cX10_finish 62 = .ok (.aload_n 0, 1) := by decide +kernel
theorem dX10_finish_63 : decode cX10_finish 63 = .ok (.invokevirtual 162, 3) := by decide +kernel
theorem dX10_finish_66 : decode cX10_finish 66 = .ok (.return_, 1) := by decide +kernel
theorem dX10_finish_67 : decode cX10_finish 67 = .ok (.aload_n 0, 1) := by decide +kernel
theorem dX10_finish_68 : decode cX10_finish 68 = .ok (.getfield 50, 3) := by decide +kernel
theorem dX10_finish_71 : decode cX10_finish 71 = .ok (.getfield 233, 3) := by decide +kernel
theorem dX10_finish_74 : decode cX10_finish 74 = .ok (.istore_n 2, 1) := by decide +kernel
theorem dX10_finish_75 : decode cX10_finish 75 = .ok (.aload_n 0, 1) := by decide +kernel
theorem dX10_finish_76 : decode cX10_finish 76 = .ok (.getfield 50, 3) := by decide +kernel
theorem dX10_finish_79 : decode cX10_finish 79 = .ok (.getfield 114, 3) := by decide +kernel
theorem dX10_finish_82 : decode cX10_finish 82 = .ok (.iload_n 2, 1) := by decide +kernel
theorem dX10_finish_83 : decode cX10_finish 83 = .ok (.new 36, 3) := by decide +kernel
theorem dX10_finish_86 : decode cX10_finish 86 = .ok (.dup, 1) := by decide +kernel
theorem dX10_finish_87 : decode cX10_finish 87 = .ok (.aload_n 0, 1) := by decide +kernel
theorem dX10_finish_88 : decode cX10_finish 88 = .ok (.getfield 32, 3) := by decide +kernel
theorem dX10_finish_91 : decode cX10_finish 91 = .ok (.iload_n 1, 1) := by decide +kernel
theorem dX10_finish_92 : decode cX10_finish 92 = .ok (.iconst (-1), 1) := by decide +kernel
theorem dX10_finish_93 : decode cX10_finish 93 = .ok (.if_icmp .ne 7, 3) := by decide +kernel
theorem dX10_finish_96 : decode cX10_finish 96 = .ok (.iload_n 2, 1) := by decide +kernel
theorem dX10_finish_97 : decode cX10_finish 97 = .ok (.goto 4, 3) := by decide +kernel
theorem dX10_finish_100 : decode cX10_finish 100 = .ok (.iload_n 1, 1) := by decide +kernel
theorem dX10_finish_101 : decode cX10_finish 101 = .ok (.invokespecial 38, 3) := by decide +kernel
theorem dX10_finish_104 : decode cX10_finish 104 = .ok (.aastore, 1) := by decide +kernel
theorem dX10_finish_105 : decode cX10_finish 105 = .ok (.aload_n 0, 1) := by decide +kernel
theorem dX10_finish_106 : decode cX10_finish 106 = .ok (.getfield 50, 3) := by decide +kernel
theorem dX10_finish_109 : decode cX10_finish 109 = .ok (.dup, 1) := by decide +kernel
theorem dX10_finish_110 : decode cX10_finish 110 = .ok (.getfield 233, 3) := by decide +kernel
theorem dX10_finish_113 : decode cX10_finish 113 = .ok (.iconst 1, 1) := by decide +kernel
theorem dX10_finish_114 : decode cX10_finish 114 = .ok (.iadd, 1) := by decide +kernel
theorem dX10_finish_115 : decode cX10_finish 115 = .ok (.putfield 233, 3) := by decide +kernel
theorem dX10_finish_118 : decode cX10_finish 118 = .ok (.iload_n 1, 1) := by decide +kernel
theorem dX10_finish_119 : decode cX10_finish 119 = .ok (.iconst (-1), 1) := by decide +kernel
theorem dX10_finish_120 : decode cX10_finish 120 = .ok (.if_icmp .ne 22, 3) := by decide +kernel
theorem dX10_finish_123 : decode cX10_finish 123 = .ok (.aload_n 0, 1) := by decide +kernel
theorem dX10_finish_124 : decode cX10_finish 124 = .ok (.getfield 25, 3) := by decide +kernel
theorem dX10_finish_127 : decode cX10_finish 127 = .ok (.getfield 213, 3) := by decide +kernel
theorem dX10_finish_130 : decode cX10_finish 130 = .ok (.aload_n 0, 1) := by decide +kernel
theorem dX10_finish_131 : decode cX10_finish 131 = .ok (.getfield 32, 3) := by decide +kernel
theorem dX10_finish_134 : decode cX10_finish 134 = .ok (.getfield 236, 3) := by decide +kernel
theorem dX10_finish_137 : decode cX10_finish 137 = .ok (.iload_n 2, 1) := by decide +kernel
theorem dX10_finish_138 : decode cX10_finish 138 = .ok (.iastore, 1) := by decide +kernel
theorem dX10_finish_139 : decode cX10_finish 139 = .ok (.goto 30, 3) := by decide +kernel
theorem dX10_finish_142 : decode cX10_finish 142 = .ok (.aload_n 0, 1) := by decide +kernel
theorem dX10_finish_143 : decode cX10_finish 143 = .ok (.getfield 50, 3) := by decide +kernel
theorem dX10_finish_146 : decode cX10_finish 146 = .ok (.getfield 114, 3) := by decide +kernel
theorem dX10_finish_149 : decode cX10_finish 149 = .ok (.aload_n 0, 1) := by decide +kernel
theorem dX10_finish_150 : decode cX10_finish 150 = .ok (.getfield 32, 3) := by decide +kernel
theorem dX10_finish_153 : decode cX10_finish 153 = .ok (.getfield 224, 3) := by decide +kernel
theorem dX10_finish_156 : decode cX10_finish 156 = .ok (.aaload, 1) := by decide +kernel
theorem dX10_finish_157 : decode cX10_finish 157 = .ok (.getfield 142, 3) := by decide +kernel
theorem dX10_finish_160 : decode cX10_finish 160 = .ok (.aload_n 0, 1) := by decide +kernel
theorem dX10_finish_161 : decode cX10_finish 161 = .ok (.getfield 32, 3) := by decide +kernel
theorem dX10_finish_164 : decode cX10_finish 164 = .ok (.getfield 239, 3) := by decide +kernel
theorem dX10_finish_167 : decode cX10_finish 167 = .ok (.iload_n 2, 1) := by decide +kernel
theorem dX10_finish_168 : decode cX10_finish 168 = .ok (.iastore, 1) := by decide +kernel
theorem dX10_finish_169 : decode cX10_finish 169 = .ok (.aload_n 0, 1) := by decide +kernel
theorem dX10_finish_170 : decode cX10_finish 170 = .ok (.getfield 32, 3) := by decide +kernel
theorem dX10_finish_173 : decode cX10_finish 173 = .ok (.iconst 0, 1) := by decide +kernel
theorem dX10_finish_174 : decode cX10_finish 174 = .ok (.putfield 177, 3) := by decide +kernel
theorem dX10_finish_177 : decode cX10_finish 177 = .ok (.aload_n 0, 1) := by decide +kernel
theorem dX10_finish_178 : decode cX10_finish 178 = .ok (.iload_n 1, 1) := by decide +kernel
theorem dX10_finish_179 : decode cX10_finish 179 = .ok (.iconst (-1), 1) := by decide +kernel
theorem dX10_finish_180 : decode cX10_finish 180 = .ok (.if_icmp .ne 7, 3) := by decide +kernel
theorem dX10_finish_183 : decode cX10_finish 183 = .ok (.iload_n 2, 1) := by decide +kernel
theorem dX10_finish_184 : decode cX10_finish 184 = .ok (.goto 4, 3) := by decide +kernel
theorem dX10_finish_187 : decode cX10_finish 187 = .ok (.iload_n 1, 1) := by decide +kernel
theorem dX10_finish_188 : decode cX10_finish 188 = .ok (.invokevirtual 111, 3) := by decide +kernel
theorem dX10_finish_191 : decode cX10_finish 191 = .ok (.return_, 1) := by decide +kernel
theorem dX10_breakOff_0 : decode cX10_breakOff 0 = .ok (.aload_n 0, 1) := by decide +kernel
theorem dX10_breakOff_1 : decode cX10_breakOff 1 = .ok (.getfield 32, 3) := by decide +kernel
theorem dX10_breakOff_4 : decode cX10_breakOff 4 = .ok (.getfield 177, 3) := by decide +kernel
theorem dX10_breakOff_7 : decode cX10_breakOff 7 = .ok (.ifCond .ne 4, 3) := by decide +kernel
theorem dX10_breakOff_10 : decode cX10_breakOff 10 = .ok (.return_, 1) := by decide +kernel
theorem dX10_breakOff_11 : decode cX10_breakOff 11 = .ok (.aload_n 0, 1) := by decide +kernel
theorem dX10_breakOff_12 : decode cX10_breakOff 12 = .ok (.getfield 32, 3) := by decide +kernel
theorem dX10_breakOff_15 : decode cX10_breakOff 15 = .ok (.iconst 0, 1) := by decide +kernel
theorem dX10_breakOff_16 : decode cX10_breakOff 16 = .ok (.putfield 177, 3) := by decide +kernel
theorem dX10_breakOff_19 : decode cX10_breakOff 19 = .ok (.aload_n 0, 1) := by decide +kernel
theorem dX10_breakOff_20 : decode cX10_breakOff 20 = .ok (.getfield 32, 3) := by decide +kernel
theorem dX10_breakOff_23 : decode cX10_breakOff 23 = .ok (.getfield 224, 3) := by decide +kernel
theorem dX10_breakOff_26 : decode cX10_breakOff 26 = .ok (.iconst (-1), 1) := by decide +kernel
theorem dX10_breakOff_27 : decode cX10_breakOff 27 = .ok (.if_icmp .ne 20, 3) := by decide +kernel
theorem dX10_breakOff_30 : decode cX10_breakOff 30 = .ok (.aload_n 0, 1) := by decide +kernel
theorem dX10_breakOff_31 : decode cX10_breakOff 31 = .ok (.getfield 25, 3) := by decide +kernel
theorem dX10_breakOff_34 : decode cX10_breakOff 34 = .ok (.aload_n 0, 1) := by decide +kernel
theorem dX10_breakOff_35 : decode cX10_breakOff 35 = .ok (.getfield 32, 3) := by decide +kernel
theorem dX10_breakOff_38 : decode cX10_breakOff 38 = .ok (.getfield 236, 3) := by decide +kernel
theorem dX10_breakOff_41 : decode cX10_breakOff 41 = .ok (.invokevirtual 242, 3) := by decide +kernel
theorem dX10_breakOff_44 : decode cX10_breakOff 44 = .ok (.goto 28, 3) := by decide +kernel
theorem dX10_breakOff_47 : decode cX10_breakOff 47 = .ok (.aload_n 0, 1) := by decide +kernel
theorem dX10_breakOff_48 : decode cX10_breakOff 48 = .ok (.getfield 50, 3) := by decide +kernel
theorem dX10_breakOff_51 : decode cX10_breakOff 51 = .ok (.getfield 114, 3) := by decide +kernel
theorem dX10_breakOff_54 : decode cX10_breakOff 54 = .ok (.aload_n 0, 1) := by decide +kernel
theorem dX10_breakOff_55 : decode cX10_breakOff 55 = .ok (.getfield 32, 3) := by decide +kernel
theorem dX10_breakOff_58 : decode cX10_breakOff 58 = .ok (.getfield 224, 3) := by decide +kernel
theorem dX10_breakOff_61 : decode cX10_breakOff 61 = .ok (.aaload, 1) := by decide +kernel
theorem dX10_breakOff_62 : decode cX10_breakOff 62 = .ok (.aload_n 0, 1) := by decide +kernel
theorem dX10_breakOff_63 : decode cX10_breakOff 63 = .ok (.getfield 32, 3) := by decide +kernel
theorem dX10_breakOff_66 : decode cX10_breakOff 66 = .ok (.getfield 239, 3) := by decide +kernel
theorem dX10_breakOff_69 : decode cX10_breakOff 69 = .ok (.invokevirtual 244, 3) := by decide +kernel
theorem dX10_breakOff_72 : decode cX10_breakOff 72 = .ok (.return_, 1) := by decide +kernel
theorem dX11_init_0 : decode cX11_init 0 = .ok (.aload_n 0, 1) := by decide +kernel
theorem dX11_init_1 : decode cX11_init 1 = .ok (.invokespecial 3, 3) := by decide +kernel
theorem dX11_init_4 : decode cX11_init 4 = .ok (.aload_n 0, 1) := by decide +kernel
theorem dX11_init_5 : decode cX11_init 5 = .ok (.new 9, 3) := by decide +kernel
theorem dX11_init_8 : decode cX11_init 8 = .ok (.dup, 1) := by decide +kernel
theorem dX11_init_9 : decode cX11_init 9 = .ok (.invokespecial 11, 3) := by decide +kernel
theorem dX11_init_12 : decode cX11_init 12 = .ok (.putfield 12, 3) := by decide +kernel
theorem dX11_init_15 : decode cX11_init 15 = .ok (.aload_n 0, 1) := by decide +kernel
theorem dX11_init_16 : decode cX11_init 16 = .ok (.new 16, 3) := by decide +kernel
theorem dX11_init_19 : decode cX11_init 19 = .ok (.dup, 1) := by decide +kernel
theorem dX11_init_20 : decode cX11_init 20 = .ok (.invokespecial 18, 3) := by decide +kernel
theorem dX11_init_23 : decode cX11_init 23 = .ok (.putfield 19, 3) := by decide +kernel
theorem dX11_init_26 : decode cX11_init 26 = .ok (.aload_n 0, 1) := by decide +kernel
theorem dX11_init_27 : decode cX11_init 27 = .ok (.new 23, 3) := by decide +kernel
theorem dX11_init_30 : decode cX11_init 30 = .ok (.dup, 1) := by decide +kernel
theorem dX11_init_31 : decode cX11_init 31 = .ok (.aload_n 0, 1) := by decide +kernel
theorem dX11_init_32 : decode cX11_init 32 = .ok (.getfield 12, 3) := by decide +kernel
theorem dX11_init_35 : decode cX11_init 35 = .ok (.aload_n 0, 1) := by decide +kernel
theorem dX11_init_36 : decode cX11_init 36 = .ok (.getfield 19, 3) := by decide +kernel
theorem dX11_init_39 : decode cX11_init 39 = .ok (.invokespecial 25, 3) := by decide +kernel
theorem dX11_init_42 : decode cX11_init 42 = .ok (.putfield 28, 3) := by decide +kernel
theorem dX11_init_45 : decode cX11_init 45 = .ok (.aload_n 0, 1) := by decide +kernel
theorem dX11_init_46 : decode cX11_init 46 = .ok (.new 23, 3) := by decide +kernel
theorem dX11_init_49 : decode cX11_init 49 = .ok (.dup, 1) := by decide +kernel
theorem dX11_init_50 : decode cX11_init 50 = .ok (.aload_n 0, 1) := by decide +kernel
theorem dX11_init_51 : decode cX11_init 51 = .ok (.getfield 12, 3) := by decide +kernel
theorem dX11_init_54 : decode cX11_init 54 = .ok (.aload_n 0, 1) := by decide +kernel
theorem dX11_init_55 : decode cX11_init 55 = .ok (.getfield 19, 3) := by decide +kernel
theorem dX11_init_58 : decode cX11_init 58 = .ok (.invokespecial 25, 3) := by decide +kernel
theorem dX11_init_61 : decode cX11_init 61 = .ok (.putfield 32, 3) := by decide +kernel
theorem dX11_init_64 : decode cX11_init 64 = .ok (.aload_n 0, 1) := by decide +kernel
theorem dX11_init_65 : decode cX11_init 65 = .ok (.new 35, 3) := by decide +kernel
theorem dX11_init_68 : decode cX11_init 68 = .ok (.dup, 1) := by decide +kernel
theorem dX11_init_69 : decode cX11_init 69 = .ok (.aload_n 0, 1) := by decide +kernel
theorem dX11_init_70 : decode cX11_init 70 = .ok (.getfield 12, 3) := by decide +kernel
theorem dX11_init_73 : decode cX11_init 73 = .ok (.aload_n 0, 1) := by decide +kernel
theorem dX11_init_74 : decode cX11_init 74 = .ok (.getfield 28, 3) := by decide +kernel
theorem dX11_init_77 : decode cX11_init 77 = .ok (.invokespecial 37, 3) := by decide +kernel
theorem dX11_init_80 : decode cX11_init 80 = .ok (.putfield 40, 3) := by decide +kernel
theorem dX11_init_83 : decode cX11_init 83 = .ok (.aload_n 0, 1) := by decide +kernel
theorem dX11_init_84 : decode cX11_init 84 = .ok (.iconst 1, 1) := by decide +kernel
theorem dX11_init_85 : decode cX11_init 85 = .ok (.putfield 44, 3) := by decide +kernel
theorem dX11_init_88 : decode cX11_init 88 = .ok (.return_, 1) := by decide +kernel
theorem dX11_addFunction_0 : decode cX11_addFunction 0 = .ok (.iload_n 1, 1) := by decide +kernel
theorem dX11_addFunction_1 : decode cX11_addFunction 1 = .ok (.ifCond .lt 8, 3) := by decide +kernel
theorem dX11_addFunction_4 : decode cX11_addFunction 4 = .ok (.iload_n 1, 1) := by decide +kernel
theorem dX11_addFunction_5 : decode cX11_addFunction 5 = .ok (.iconst 3, 1) := by decide +kernel
theorem dX11_addFunction_6 : decode cX11_addFunction 6 = .ok (.if_icmp .le 13, 3) := by decide +kernel
theorem dX11_addFunction_9 : decode cX11_addFunction 9 = .ok (.new 48, 3) := by decide +kernel
theorem dX11_addFunction_12 : decode cX11_addFunction 12 = .ok (.dup, 1) := by decide +kernel
theorem dX11_addFunction_13 : decode cX11_addFunction 13 = .ok (.ldc 50, 2) := by decide +kernel
theorem dX11_addFunction_15 : decode cX11_addFunction 15 = .ok (.invokespecial 52, 3) := by decide +kernel
theorem dX11_addFunction_18 : decode cX11_addFunction 18 = .ok (.athrow, 1) := by decide +kernel
theorem dX11_addFunction_19 : decode cX11_addFunction 19 = .ok (.aload_n 0, 1) := by decide +kernel
theorem dX11_addFunction_20 : decode cX11_addFunction 20 = .ok (.getfield 12, 3) := by decide +kernel
theorem dX11_addFunction_23 : decode cX11_addFunction 23 = .ok (.getfield 55, 3) := by decide +kernel
theorem dX11_addFunction_26 : decode cX11_addFunction 26 = .ok (.bipush 8, 2) := by decide +kernel
theorem dX11_addFunction_28 : decode cX11_addFunction 28 = .ok (.if_icmp .lt 13, 3) := by decide +kernel
theorem dX11_addFunction_31 : decode cX11_addFunction 31 = .ok (.new 59, 3) := by decide +kernel
theorem dX11_addFunction_34 : decode cX11_addFunction 34 = .ok (.dup, 1) := by decide +kernel
theorem dX11_addFunction_35 : decode cX11_addFunction 35 = .ok (.ldc 61, 2) := by decide +kernel
theorem dX11_addFunction_37 : decode cX11_addFunction 37 = .ok (.invokespecial 63, 3) := by decide +kernel
theorem dX11_addFunction_40 : decode cX11_addFunction 40 = .ok (.athrow, 1) := by decide +kernel
theorem dX11_addFunction_41 : decode cX11_addFunction 41 = .ok (.aload_n 0, 1) := by decide +kernel
theorem dX11_addFunction_42 : decode cX11_addFunction 42 = .ok (.getfield 12, 3) := by decide +kernel
theorem dX11_addFunction_45 : decode cX11_addFunction 45 = .ok (.iload_n 1, 1) := by decide +kernel
theorem dX11_addFunction_46 : decode cX11_addFunction 46 = .ok (.invokevirtual 64, 3) := by decide +kernel
theorem dX11_addFunction_49 : decode cX11_addFunction 49 = .ok (.ireturn, 1) := by decide +kernel
theorem dX11_code_0 : decode cX11_code 0 = .ok (.aload_n 0, 1) := by decide +kernel
theorem dX11_code_1 : decode cX11_code 1 = .ok (.iload_n 1, 1) := by decide +kernel
theorem dX11_code_2 : decode cX11_code 2 = .ok (.invokevirtual 68, 3) := by decide +kernel
theorem dX11_code_5 : decode cX11_code 5 = .ok (.ldc 72, 2) := by decide +kernel
theorem dX11_code_7 : decode cX11_code 7 = .ok (.iload_n 2, 1) := by decide +kernel
theorem dX11_code_8 : decode cX11_code 8 = .ok (.invokevirtual 74, 3) := by decide +kernel
theorem dX11_code_11 : decode cX11_code 11 = .ok (.ifCond .ge 13, 3) := by decide +kernel
theorem dX11_code_14 : decode cX11_code 14 = .ok (.new 48, 3) := by decide +kernel
theorem dX11_code_17 : decode cX11_code 17 = .ok (.dup, 1) := by decide +kernel
theorem dX11_code_18 : decode cX11_code 18 = .ok (.ldc 79, 2) := by decide +kernel
theorem dX11_code_20 : decode cX11_code 20 = .ok (.invokespecial 52, 3) := by decide +kernel
theorem dX11_code_23 : decode cX11_code 23 = .ok (.athrow, 1) := by decide +kernel
theorem dX11_code_24 : decode cX11_code 24 = .ok (.aload_n 0, 1) := by decide +kernel
theorem dX11_code_25 : decode cX11_code 25 = .ok (.getfield 12, 3) := by decide +kernel
theorem dX11_code_28 : decode cX11_code 28 = .ok (.iload_n 2, 1) := by decide +kernel
theorem dX11_code_29 : decode cX11_code 29 = .ok (.iload_n 3, 1) := by decide +kernel
theorem dX11_code_30 : decode cX11_code 30 = .ok (.invokevirtual 81, 3) := by decide +kernel
theorem dX11_code_33 : decode cX11_code 33 = .ok (.ifCond .ne 13, 3) := by decide +kernel
theorem dX11_code_36 : decode cX11_code 36 = .ok (.new 48, 3) := by decide +kernel
theorem dX11_code_39 : decode cX11_code 39 = .ok (.dup, 1) := by decide +kernel
theorem dX11_code_40 : decode cX11_code 40 = .ok (.ldc 85, 2) := by decide +kernel
theorem dX11_code_42 : decode cX11_code 42 = .ok (.invokespecial 52, 3) := by decide +kernel
theorem dX11_code_45 : decode cX11_code 45 = .ok (.athrow, 1) := by decide +kernel
theorem dX11_code_46 : decode cX11_code 46 = .ok (.aload_n 0, 1) := by decide +kernel
theorem dX11_code_47 : decode cX11_code 47 = .ok (.getfield 12, 3) := by decide +kernel
theorem dX11_code_50 : decode cX11_code 50 = .ok (.getfield 87, 3) := by decide +kernel
theorem dX11_code_53 : decode cX11_code 53 = .ok (.iload_n 1, 1) := by decide +kernel
theorem dX11_code_54 : decode cX11_code 54 = .ok (.iaload, 1) := by decide +kernel
theorem dX11_code_55 : decode cX11_code 55 = .ok (.bipush 40, 2) := by decide +kernel
theorem dX11_code_57 : decode cX11_code 57 = .ok (.if_icmp .lt 13, 3) := by decide +kernel
theorem dX11_code_60 : decode cX11_code 60 = .ok (.new 59, 3) := by decide +kernel
theorem dX11_code_63 : decode cX11_code 63 = .ok (.dup, 1) := by decide +kernel
theorem dX11_code_64 : decode cX11_code 64 = .ok (.ldc 91, 2) := by decide +kernel
theorem dX11_code_66 : decode cX11_code 66 = .ok (.invokespecial 63, 3) := by decide +kernel
theorem dX11_code_69 : decode cX11_code 69 = .ok (.athrow, 1) := by decide +kernel
theorem dX11_code_70 : decode cX11_code 70 = .ok (.aload_n 0, 1) := by decide +kernel
theorem dX11_code_71 : decode cX11_code 71 = .ok (.getfield 12, 3) := by decide +kernel
theorem dX11_code_74 : decode cX11_code 74 = .ok (.iload_n 1, 1) := by decide +kernel
theorem dX11_code_75 : decode cX11_code 75 = .ok (.iload_n 2, 1) := by decide +kernel
theorem dX11_code_76 : decode cX11_code 76 = .ok (.iload_n 3, 1) := by decide +kernel
theorem dX11_code_77 : decode cX11_code 77 = .ok (.invokevirtual 93, 3) := by decide +kernel
theorem dX11_code_80 : decode cX11_code 80 = .ok (.ireturn, 1) := by decide +kernel
theorem dX11_setHandler_0 : decode cX11_setHandler 0 = .ok (.aload_n 0, 1) := by decide +kernel
theorem dX11_setHandler_1 : decode cX11_setHandler 1 = .ok (.iload_n 1, 1) := by decide +kernel
theorem dX11_setHandler_2 : decode cX11_setHandler 2 = .ok (.invokevirtual 68, 3) := by decide +kernel
theorem dX11_setHandler_5 : decode cX11_setHandler 5 = .ok (.aload_n 0, 1) := by decide +kernel
theorem dX11_setHandler_6 : decode cX11_setHandler 6 = .ok (.iload_n 2, 1) := by decide +kernel
theorem dX11_setHandler_7 : decode cX11_setHandler 7 = .ok (.invokevirtual 97, 3) := by decide +kernel
theorem dX11_setHandler_10 : decode cX11_setHandler 10 = .ok (.aload_n 0, 1) := by decide +kernel
theorem dX11_setHandler_11 : decode cX11_setHandler 11 = .ok (.getfield 12, 3) := by decide +kernel
theorem dX11_setHandler_14 : decode cX11_setHandler 14 = .ok (.getfield 100, 3) := by decide +kernel
theorem dX11_setHandler_17 : decode cX11_setHandler 17 = .ok (.iload_n 1, 1) := by decide +kernel
theorem dX11_setHandler_18 : decode cX11_setHandler 18 = .ok (.iaload, 1) := by decide +kernel
theorem dX11_setHandler_19 : decode cX11_setHandler 19 = .ok (.istore_n 3, 1) := by decide +kernel
theorem dX11_setHandler_20 : decode cX11_setHandler 20 = .ok (.aload_n 0, 1) := by decide +kernel
theorem dX11_setHandler_21 : decode cX11_setHandler 21 = .ok (.getfield 12, 3) := by decide +kernel
theorem dX11_setHandler_24 : decode cX11_setHandler 24 = .ok (.getfield 100, 3) := by decide +kernel
theorem dX11_setHandler_27 : decode cX11_setHandler 27 = .ok (.iload_n 1, 1) := by decide +kernel
theorem dX11_setHandler_28 : decode cX11_setHandler 28 = .ok (.iload_n 2, 1) := by decide +kernel
theorem dX11_setHandler_29 : decode cX11_setHandler 29 = .ok (.iastore, 1) := by decide +kernel
theorem dX11_setHandler_30 : decode cX11_setHandler 30 = .ok (.iload_n 3, 1) := by decide +kernel
theorem dX11_setHandler_31 : decode cX11_setHandler 31 = .ok (.ireturn, 1) := by decide +kernel
theorem dX11_addClass_0 : decode cX11_addClass 0 = .ok (.iload_n 1, 1) := by decide +kernel
theorem dX11_addClass_1 : decode cX11_addClass 1 = .ok (.iconst (-1), 1) := by decide +kernel
theorem dX11_addClass_2 : decode cX11_addClass 2 = .ok (.if_icmp .eq 24, 3) := by decide +kernel
theorem dX11_addClass_5 : decode cX11_addClass 5 = .ok (.aload_n 0, 1) := by decide +kernel
theorem dX11_addClass_6 : decode cX11_addClass 6 = .ok (.getfield 12, 3) := by decide +kernel
theorem dX11_addClass_9 : decode cX11_addClass 9 = .ok (.iload_n 1, 1) := by decide +kernel
theorem dX11_addClass_10 : decode cX11_addClass 10 = .ok (.invokevirtual 103, 3) := by decide +kernel
theorem dX11_addClass_13 : decode cX11_addClass 13 = .ok (.ifCond .ne 13, 3) := by decide +kernel
theorem dX11_addClass_16 : decode cX11_addClass 16 = .ok (.new 107, 3) := by decide +kernel
theorem dX11_addClass_19 : decode cX11_addClass 19 = .ok (.dup, 1) := by decide +kernel
theorem dX11_addClass_20 : decode cX11_addClass 20 = .ok (.ldc 109, 2) := by decide +kernel
theorem dX11_addClass_22 : decode cX11_addClass 22 = .ok (.invokespecial 111, 3) := by decide +kernel
theorem dX11_addClass_25 : decode cX11_addClass 25 = .ok (.athrow, 1) := by decide +kernel
theorem dX11_addClass_26 : decode cX11_addClass 26 = .ok (.aload_n 0, 1) := by decide +kernel
theorem dX11_addClass_27 : decode cX11_addClass 27 = .ok (.getfield 12, 3) := by decide +kernel
theorem dX11_addClass_30 : decode cX11_addClass 30 = .ok (.getfield 112, 3) := by decide +kernel
theorem dX11_addClass_33 : decode cX11_addClass 33 = .ok (.iconst 5, 1) := by decide +kernel
theorem dX11_addClass_34 : decode cX11_addClass 34 = .ok (.if_icmp .lt 13, 3) := by decide +kernel
theorem dX11_addClass_37 : decode cX11_addClass 37 = .ok (.new 59, 3) := by decide +kernel
theorem dX11_addClass_40 : decode cX11_addClass 40 = .ok (.dup, 1) := by decide +kernel
theorem dX11_addClass_41 : decode cX11_addClass 41 = .ok (.ldc 115, 2) := by decide +kernel
theorem dX11_addClass_43 : decode cX11_addClass 43 = .ok (.invokespecial 63, 3) := by decide +kernel
theorem dX11_addClass_46 : decode cX11_addClass 46 = .ok (.athrow, 1) := by decide +kernel
theorem dX11_addClass_47 : decode cX11_addClass 47 = .ok (.aload_n 0, 1) := by decide +kernel
theorem dX11_addClass_48 : decode cX11_addClass 48 = .ok (.getfield 19, 3) := by decide +kernel
theorem dX11_addClass_51 : decode cX11_addClass 51 = .ok (.getfield 117, 3) := by decide +kernel
theorem dX11_addClass_54 : decode cX11_addClass 54 = .ok (.bipush 60, 2) := by decide +kernel
theorem dX11_addClass_56 : decode cX11_addClass 56 = .ok (.if_icmp .lt 13, 3) := by decide +kernel
theorem dX11_addClass_59 : decode cX11_addClass 59 = .ok (.new 120, 3) := by decide +kernel
theorem dX11_addClass_62 : decode cX11_addClass 62 = .ok (.dup, 1) := by decide +kernel
theorem dX11_addClass_63 : decode cX11_addClass 63 = .ok (.ldc 122, 2) := by decide +kernel
theorem dX11_addClass_65 : decode cX11_addClass 65 = .ok (.invokespecial 124, 3) := by decide +kernel
theorem dX11_addClass_68 : decode cX11_addClass 68 = .ok (.athrow, 1) := by decide +kernel
theorem dX11_addClass_69 : decode cX11_addClass 69 = .ok (.aload_n 0, 1) := by decide +kernel
theorem dX11_addClass_70 : decode cX11_addClass 70 = .ok (.getfield 12, 3) := by decide +kernel
theorem dX11_addClass_73 : decode cX11_addClass 73 = .ok (.iload_n 1, 1) := by decide +kernel
theorem dX11_addClass_74 : decode cX11_addClass 74 = .ok (.invokevirtual 125, 3) := by decide +kernel
theorem dX11_addClass_77 : decode cX11_addClass 77 = .ok (.istore_n 2, 1) := by decide +kernel
theorem dX11_addClass_78 : decode cX11_addClass 78 = .ok (.aload_n 0, 1) := by decide +kernel
theorem dX11_addClass_79 : decode cX11_addClass 79 = .ok (.getfield 19, 3) := by decide +kernel
theorem dX11_addClass_82 : decode cX11_addClass 82 = .ok (.getfield 128, 3) := by decide +kernel
theorem dX11_addClass_85 : decode cX11_addClass 85 = .ok (.iload_n 2, 1) := by decide +kernel
theorem dX11_addClass_86 : decode cX11_addClass 86 = .ok (.aload_n 0, 1) := by decide +kernel
theorem dX11_addClass_87 : decode cX11_addClass 87 = .ok (.getfield 19, 3) := by decide +kernel
theorem dX11_addClass_90 : decode cX11_addClass 90 = .ok (.iload_n 2, 1) := by decide +kernel
theorem dX11_addClass_91 : decode cX11_addClass 91 = .ok (.invokevirtual 131, 3) := by decide +kernel
theorem dX11_addClass_94 : decode cX11_addClass 94 = .ok (.iastore, 1) := by decide +kernel
theorem dX11_addClass_95 : decode cX11_addClass 95 = .ok (.iload_n 2, 1) := by decide +kernel
theorem dX11_addClass_96 : decode cX11_addClass 96 = .ok (.ireturn, 1) := by decide +kernel
theorem dX11_setMethod_0 : decode cX11_setMethod 0 = .ok (.aload_n 0, 1) := by decide +kernel
theorem dX11_setMethod_1 : decode cX11_setMethod 1 = .ok (.getfield 12, 3) := by decide +kernel
theorem dX11_setMethod_4 : decode cX11_setMethod 4 = .ok (.iload_n 1, 1) := by decide +kernel
theorem dX11_setMethod_5 : decode cX11_setMethod 5 = .ok (.invokevirtual 103, 3) := by decide +kernel
theorem dX11_setMethod_8 : decode cX11_setMethod 8 = .ok (.ifCond .ne 13, 3) := by decide +kernel
theorem dX11_setMethod_11 : decode cX11_setMethod 11 = .ok (.new 107, 3) := by decide +kernel
theorem dX11_setMethod_14 : decode cX11_setMethod 14 = .ok (.dup, 1) := by decide +kernel
theorem dX11_setMethod_15 : decode cX11_setMethod 15 = .ok (.ldc 134, 2) := by decide +kernel
theorem dX11_setMethod_17 : decode cX11_setMethod 17 = .ok (.invokespecial 111, 3) := by decide +kernel
theorem dX11_setMethod_20 : decode cX11_setMethod 20 = .ok (.athrow, 1) := by decide +kernel
theorem dX11_setMethod_21 : decode cX11_setMethod 21 = .ok (.iload_n 2, 1) := by decide +kernel
theorem dX11_setMethod_22 : decode cX11_setMethod 22 = .ok (.invokestatic 136, 3) := by decide +kernel
theorem dX11_setMethod_25 : decode cX11_setMethod 25 = .ok (.ifCond .ne 13, 3) := by decide +kernel
theorem dX11_setMethod_28 : decode cX11_setMethod 28 = .ok (.new 48, 3) := by decide +kernel
theorem dX11_setMethod_31 : decode cX11_setMethod 31 = .ok (.dup, 1) := by decide +kernel
theorem dX11_setMethod_32 : decode cX11_setMethod 32 = .ok (.ldc 139, 2) := by decide +kernel
theorem dX11_setMethod_34 : decode cX11_setMethod 34 = .ok (.invokespecial 52, 3) := by decide +kernel
theorem dX11_setMethod_37 : decode cX11_setMethod 37 = .ok (.athrow, 1) := by decide +kernel
theorem dX11_setMethod_38 : decode cX11_setMethod 38 = .ok (.aload_n 0, 1) := by decide +kernel
theorem dX11_setMethod_39 : decode cX11_setMethod 39 = .ok (.getfield 12, 3) := by decide +kernel
theorem dX11_setMethod_42 : decode cX11_setMethod 42 = .ok (.iload_n 3, 1) := by decide +kernel
theorem dX11_setMethod_43 : decode cX11_setMethod 43 = .ok (.invokevirtual 141, 3) := by decide +kernel
theorem dX11_setMethod_46 : decode cX11_setMethod 46 = .ok (.ifCond .ne 13, 3) := by decide +kernel
theorem dX11_setMethod_49 : decode cX11_setMethod 49 = .ok (.new 144, 3) := by decide +kernel
theorem dX11_setMethod_52 : decode cX11_setMethod 52 = .ok (.dup, 1) := by decide +kernel
theorem dX11_setMethod_53 : decode cX11_setMethod 53 = .ok (.ldc 146, 2) := by decide +kernel
theorem dX11_setMethod_55 : decode cX11_setMethod 55 = .ok (.invokespecial 148, 3) := by decide +kernel
theorem dX11_setMethod_58 : decode cX11_setMethod 58 = .ok (.athrow, 1) := by decide +kernel
theorem dX11_setMethod_59 : decode cX11_setMethod 59 = .ok (.aload_n 0, 1) := by decide +kernel
theorem dX11_setMethod_60 : decode cX11_setMethod 60 = .ok (.getfield 12, 3) := by decide +kernel
theorem dX11_setMethod_63 : decode cX11_setMethod 63 = .ok (.getfield 149, 3) := by decide +kernel
theorem dX11_setMethod_66 : decode cX11_setMethod 66 = .ok (.iload_n 3, 1) := by decide +kernel
theorem dX11_setMethod_67 : decode cX11_setMethod 67 = .ok (.iaload, 1) := by decide +kernel
theorem dX11_setMethod_68 : decode cX11_setMethod 68 = .ok (.iconst 1, 1) := by decide +kernel
theorem dX11_setMethod_69 : decode cX11_setMethod 69 = .ok (.if_icmp .eq 13, 3) := by decide +kernel
theorem dX11_setMethod_72 : decode cX11_setMethod 72 = .ok (.new 120, 3) := by decide +kernel
theorem dX11_setMethod_75 : decode cX11_setMethod 75 = .ok (.dup, 1) := by decide +kernel
theorem dX11_setMethod_76 : decode cX11_setMethod 76 = .ok (.ldc 152, 2) := by decide +kernel
theorem dX11_setMethod_78 : decode cX11_setMethod 78 = .ok (.invokespecial 124, 3) := by decide +kernel
theorem dX11_setMethod_81 : decode cX11_setMethod 81 = .ok (.athrow, 1) := by decide +kernel
theorem dX11_setMethod_82 : decode cX11_setMethod 82 = .ok (.aload_n 0, 1) := by decide +kernel
theorem dX11_setMethod_83 : decode cX11_setMethod 83 = .ok (.getfield 12, 3) := by decide +kernel
theorem dX11_setMethod_86 : decode cX11_setMethod 86 = .ok (.getfield 154, 3) := by decide +kernel
theorem dX11_setMethod_89 : decode cX11_setMethod 89 = .ok (.iload_n 1, 1) := by decide +kernel
theorem dX11_setMethod_90 : decode cX11_setMethod 90 = .ok (.bipush 6, 2) := by decide +kernel
theorem dX11_setMethod_92 : decode cX11_setMethod 92 = .ok (.imul, 1) := by decide +kernel
theorem dX11_setMethod_93 : decode cX11_setMethod 93 = .ok (.iload_n 2, 1) := by decide +kernel
theorem dX11_setMethod_94 : decode cX11_setMethod 94 = .ok (.iadd, 1) := by decide +kernel
theorem dX11_setMethod_95 : decode cX11_setMethod 95 = .ok (.iload_n 3, 1) := by decide +kernel
theorem dX11_setMethod_96 : decode cX11_setMethod 96 = .ok (.iastore, 1) := by decide +kernel
theorem dX11_setMethod_97 : decode cX11_setMethod 97 = .ok (.aload_n 0, 1) := by decide +kernel
theorem dX11_setMethod_98 : decode cX11_setMethod 98 = .ok (.getfield 40, 3) := by decide +kernel
theorem dX11_setMethod_101 : decode cX11_setMethod 101 = .ok (.getfield 157, 3) := by decide +kernel
theorem dX11_setMethod_104 : decode cX11_setMethod 104 = .ok (.aload_n 0, 1) := by decide +kernel
theorem dX11_setMethod_105 : decode cX11_setMethod 105 = .ok (.getfield 12, 3) := by decide +kernel
theorem dX11_setMethod_108 : decode cX11_setMethod 108 = .ok (.invokevirtual 161, 3) := by decide +kernel
theorem dX11_setMethod_111 : decode cX11_setMethod 111 = .ok (.aload_n 0, 1) := by decide +kernel
theorem dX11_setMethod_112 : decode cX11_setMethod 112 = .ok (.getfield 40, 3) := by decide +kernel
theorem dX11_setMethod_115 : decode cX11_setMethod 115 = .ok (.getfield 167, 3) := by decide +kernel
theorem dX11_setMethod_118 : decode cX11_setMethod 118 = .ok (.bipush 109, 2) := by decide +kernel
theorem dX11_setMethod_120 : decode cX11_setMethod 120 = .ok (.iconst 0, 1) := by decide +kernel
theorem dX11_setMethod_121 : decode cX11_setMethod 121 = .ok (.invokevirtual 171, 3) := by decide +kernel
theorem dX11_setMethod_124 : decode cX11_setMethod 124 = .ok (.ireturn, 1) := by decide +kernel
theorem dX11_setCell_0 : decode cX11_setCell 0 = .ok (.iload_n 1, 1) := by decide +kernel
theorem dX11_setCell_1 : decode cX11_setCell 1 = .ok (.ifCond .lt 9, 3) := by decide +kernel
theorem dX11_setCell_4 : decode cX11_setCell 4 = .ok (.iload_n 1, 1) := by decide +kernel
theorem dX11_setCell_5 : decode cX11_setCell 5 = .ok (.bipush 8, 2) := by decide +kernel
theorem dX11_setCell_7 : decode cX11_setCell 7 = .ok (.if_icmp .lt 13, 3) := by decide +kernel
theorem dX11_setCell_10 : decode cX11_setCell 10 = .ok (.new 48, 3) := by decide +kernel
theorem dX11_setCell_13 : decode cX11_setCell 13 = .ok (.dup, 1) := by decide +kernel
theorem dX11_setCell_14 : decode cX11_setCell 14 = .ok (.ldc 177, 2) := by decide +kernel
theorem dX11_setCell_16 : decode cX11_setCell 16 = .ok (.invokespecial 52, 3) := by decide +kernel
theorem dX11_setCell_19 : decode cX11_setCell 19 = .ok (.athrow, 1) := by decide +kernel
theorem dX11_setCell_20 : decode cX11_setCell 20 = .ok (.aload_n 0, 1) := by decide +kernel
theorem dX11_setCell_21 : decode cX11_setCell 21 = .ok (.getfield 12, 3) := by decide +kernel
theorem dX11_setCell_24 : decode cX11_setCell 24 = .ok (.getfield 179, 3) := by decide +kernel
theorem dX11_setCell_27 : decode cX11_setCell 27 = .ok (.iload_n 1, 1) := by decide +kernel
theorem dX11_setCell_28 : decode cX11_setCell 28 = .ok (.iaload, 1) := by decide +kernel
theorem dX11_setCell_29 : decode cX11_setCell 29 = .ok (.iload_n 2, 1) := by decide +kernel
theorem dX11_setCell_30 : decode cX11_setCell 30 = .ok (.if_icmp .ne 5, 3) := by decide +kernel
theorem dX11_setCell_33 : decode cX11_setCell 33 = .ok (.iconst 0, 1) := by decide +kernel
theorem dX11_setCell_34 : decode cX11_setCell 34 = .ok (.ireturn, 1) := by decide +kernel
theorem dX11_setCell_35 : decode cX11_setCell 35 = .ok (.aload_n 0, 1) := by decide +kernel
theorem dX11_setCell_36 : decode cX11_setCell 36 = .ok (.getfield 12, 3) := by decide +kernel
theorem dX11_setCell_39 : decode cX11_setCell 39 = .ok (.getfield 179, 3) := by decide +kernel
theorem dX11_setCell_42 : decode cX11_setCell 42 = .ok (.iload_n 1, 1) := by decide +kernel
theorem dX11_setCell_43 : decode cX11_setCell 43 = .ok (.iload_n 2, 1) := by decide +kernel
theorem dX11_setCell_44 : decode cX11_setCell 44 = .ok (.iastore, 1) := by decide +kernel
theorem dX11_setCell_45 : decode cX11_setCell 45 = .ok (.aload_n 0, 1) := by decide +kernel
theorem dX11_setCell_46 : decode cX11_setCell 46 = .ok (.getfield 40, 3) := by decide +kernel
theorem dX11_setCell_49 : decode cX11_setCell 49 = .ok (.getfield 167, 3) := by decide +kernel
theorem dX11_setCell_52 : decode cX11_setCell 52 = .ok (.bipush 107, 2) := by decide +kernel
theorem dX11_setCell_54 : decode cX11_setCell 54 = .ok (.iload_n 1, 1) := by decide +kernel
theorem dX11_setCell_55 : decode cX11_setCell 55 = .ok (.invokevirtual 171, 3) := by decide +kernel
theorem dX11_setCell_58 : decode cX11_setCell 58 = .ok (.ireturn, 1) := by decide +kernel
theorem dX11_setLimits_0 : decode cX11_setLimits 0 = .ok (.iload_n 1, 1) := by decide +kernel
theorem dX11_setLimits_1 : decode cX11_setLimits 1 = .ok (.iconst 2, 1) := by decide +kernel
theorem dX11_setLimits_2 : decode cX11_setLimits 2 = .ok (.if_icmp .lt 33, 3) := by decide +kernel
theorem dX11_setLimits_5 : decode cX11_setLimits 5 = .ok (.iload_n 1, 1) := by decide +kernel
theorem dX11_setLimits_6 : decode cX11_setLimits 6 = .ok (.bipush 50, 2) := by decide +kernel
theorem dX11_setLimits_8 : decode cX11_setLimits 8 = .ok (.if_icmp .gt 27, 3) := by decide +kernel
theorem dX11_setLimits_11 : decode cX11_setLimits 11 = .ok (.iload_n 2, 1) := by decide +kernel
theorem dX11_setLimits_12 : decode cX11_setLimits 12 = .ok (.iconst 1, 1) := by decide +kernel
theorem dX11_setLimits_13 : decode cX11_setLimits 13 = .ok (.if_icmp .lt 22, 3) := by decide +kernel
theorem dX11_setLimits_16 : decode cX11_setLimits 16 = .ok (.iload_n 2, 1) := by decide +kernel
theorem dX11_setLimits_17 : decode cX11_setLimits 17 = .ok (.bipush 20, 2) := by decide +kernel
theorem dX11_setLimits_19 : decode cX11_setLimits 19 = .ok (.if_icmp .gt 16, 3) := by decide +kernel
theorem dX11_setLimits_22 : decode cX11_setLimits 22 = .ok (.iload_n 3, 1) := by decide +kernel
theorem dX11_setLimits_23 : decode cX11_setLimits 23 = .ok (.bipush 10, 2) := by decide +kernel
theorem dX11_setLimits_25 : decode cX11_setLimits 25 = .ok (.if_icmp .lt 10, 3) := by decide +kernel
theorem dX11_setLimits_28 : decode cX11_setLimits 28 = .ok (.iload_n 3, 1) := by decide +kernel
theorem dX11_setLimits_29 : decode cX11_setLimits 29 = .ok (.sipush 200, 3) := by decide +kernel
theorem dX11_setLimits_32 : decode cX11_setLimits 32 = .ok (.if_icmp .le 13, 3) := by decide +kernel
theorem dX11_setLimits_35 : decode cX11_setLimits 35 = .ok (.new 48, 3) := by decide +kernel
theorem dX11_setLimits_38 : decode cX11_setLimits 38 = .ok (.dup, 1) := by decide +kernel
theorem dX11_setLimits_39 : decode cX11_setLimits 39 = .ok (.ldc 182, 2) := by decide +kernel
theorem dX11_setLimits_41 : decode cX11_setLimits 41 = .ok (.invokespecial 52, 3) := by decide +kernel
theorem dX11_setLimits_44 : decode cX11_setLimits 44 = .ok (.athrow, 1) := by decide +kernel
theorem dX11_setLimits_45 : decode cX11_setLimits 45 = .ok (.aload_n 0, 1) := by decide +kernel
theorem dX11_setLimits_46 : decode cX11_setLimits 46 = .ok (.getfield 40, 3) := by decide +kernel
theorem dX11_setLimits_49 : decode cX11_setLimits 49 = .ok (.iload_n 1, 1) := by decide +kernel
theorem dX11_setLimits_50 : decode cX11_setLimits 50 = .ok (.putfield 184, 3) := by decide +kernel
theorem dX11_setLimits_53 : decode cX11_setLimits 53 = .ok (.aload_n 0, 1) := by decide +kernel
theorem dX11_setLimits_54 : decode cX11_setLimits 54 = .ok (.getfield 40, 3) := by decide +kernel
theorem dX11_setLimits_57 : decode cX11_setLimits 57 = .ok (.iload_n 2, 1) := by decide +kernel
theorem dX11_setLimits_58 : decode cX11_setLimits 58 = .ok (.putfield 187, 3) := by decide +kernel
theorem dX11_setLimits_61 : decode cX11_setLimits 61 = .ok (.aload_n 0, 1) := by decide +kernel
theorem dX11_setLimits_62 : decode cX11_setLimits 62 = .ok (.getfield 40, 3) := by decide +kernel
theorem dX11_setLimits_65 : decode cX11_setLimits 65 = .ok (.getfield 167, 3) := by decide +kernel
theorem dX11_setLimits_68 : decode cX11_setLimits 68 = .ok (.iload_n 3, 1) := by decide +kernel
theorem dX11_setLimits_69 : decode cX11_setLimits 69 = .ok (.putfield 190, 3) := by decide +kernel
theorem dX11_setLimits_72 : decode cX11_setLimits 72 = .ok (.aload_n 0, 1) := by decide +kernel
theorem dX11_setLimits_73 : decode cX11_setLimits 73 = .ok (.getfield 40, 3) := by decide +kernel
theorem dX11_setLimits_76 : decode cX11_setLimits 76 = .ok (.getfield 167, 3) := by decide +kernel
theorem dX11_setLimits_79 : decode cX11_setLimits 79 = .ok (.invokevirtual 193, 3) := by decide +kernel
theorem dX11_setLimits_82 : decode cX11_setLimits 82 = .ok (.ireturn, 1) := by decide +kernel
theorem dX11_run_0 : decode cX11_run 0 = .ok (.aload_n 0, 1) := by decide +kernel
theorem dX11_run_1 : decode cX11_run 1 = .ok (.iload_n 1, 1) := by decide +kernel
theorem dX11_run_2 : decode cX11_run 2 = .ok (.invokevirtual 68, 3) := by decide +kernel
theorem dX11_run_5 : decode cX11_run 5 = .ok (.aload_n 0, 1) := by decide +kernel
theorem dX11_run_6 : decode cX11_run 6 = .ok (.getfield 12, 3) := by decide +kernel
theorem dX11_run_9 : decode cX11_run 9 = .ok (.getfield 149, 3) := by decide +kernel
theorem dX11_run_12 : decode cX11_run 12 = .ok (.iload_n 1, 1) := by decide +kernel
theorem dX11_run_13 : decode cX11_run 13 = .ok (.iaload, 1) := by decide +kernel
theorem dX11_run_14 : decode cX11_run 14 = .ok (.ifCond .ne 13, 3) := by decide +kernel
theorem dX11_run_17 : decode cX11_run 17 = .ok (.new 120, 3) := by decide +kernel
theorem dX11_run_20 : decode cX11_run 20 = .ok (.dup, 1) := by decide +kernel
theorem dX11_run_21 : decode cX11_run 21 = .ok (.ldc 197, 2) := by decide +kernel
theorem dX11_run_23 : decode cX11_run 23 = .ok (.invokespecial 124, 3) := by decide +kernel
theorem dX11_run_26 : decode cX11_run 26 = .ok (.athrow, 1) := by decide +kernel
theorem dX11_run_27 : decode cX11_run 27 = .ok (.aload_n 0, 1) := by decide +kernel
theorem dX11_run_28 : decode cX11_run 28 = .ok (.getfield 19, 3) := by decide +kernel
theorem dX11_run_31 : decode cX11_run 31 = .ok (.getfield 117, 3) := by decide +kernel
theorem dX11_run_34 : decode cX11_run 34 = .ok (.istore_n 3, 1) := by decide +kernel
theorem dX11_run_35 : decode cX11_run 35 = .ok (.aload_n 0, 1) := by decide +kernel
theorem dX11_run_36 : decode cX11_run 36 = .ok (.getfield 32, 3) := by decide +kernel
theorem dX11_run_39 : decode cX11_run 39 = .ok (.iload_n 1, 1) := by decide +kernel
theorem dX11_run_40 : decode cX11_run 40 = .ok (.iload_n 2, 1) := by decide +kernel
theorem dX11_run_41 : decode cX11_run 41 = .ok (.invokevirtual 199, 3) := by decide +kernel
theorem dX11_run_44 : decode cX11_run 44 = .ok (.aload_n 0, 1) := by decide +kernel
theorem dX11_run_45 : decode cX11_run 45 = .ok (.getfield 32, 3) := by decide +kernel
theorem dX11_run_48 : decode cX11_run 48 = .ok (.invokevirtual 203, 3) := by decide +kernel
theorem dX11_run_51 : decode cX11_run 51 = .ok (.aload_n 0, 1) := by decide +kernel
theorem dX11_run_52 : decode cX11_run 52 = .ok (.getfield 19, 3) := by decide +kernel
theorem dX11_run_55 : decode cX11_run 55 = .ok (.iload_n 3, 1) := by decide +kernel
theorem dX11_run_56 : decode cX11_run 56 = .ok (.invokevirtual 206, 3) := by decide +kernel
theorem dX11_run_59 : decode cX11_run 59 = .ok (.aload_n 0, 1) := by decide +kernel
theorem dX11_run_60 : decode cX11_run 60 = .ok (.getfield 28, 3) := by decide +kernel
theorem dX11_run_63 : decode cX11_run 63 = .ok (.iload_n 1, 1) := by decide +kernel
theorem dX11_run_64 : decode cX11_run 64 = .ok (.iload_n 2, 1) := by decide +kernel
theorem dX11_run_65 : decode cX11_run 65 = .ok (.invokevirtual 199, 3) := by decide +kernel
theorem dX11_run_68 : decode cX11_run 68 = .ok (.aload_n 0, 1) := by decide +kernel
theorem dX11_run_69 : decode cX11_run 69 = .ok (.getfield 40, 3) := by decide +kernel
theorem dX11_run_72 : decode cX11_run 72 = .ok (.invokevirtual 209, 3) := by decide +kernel
theorem dX11_run_75 : decode cX11_run 75 = .ok (.iconst 0, 1) := by decide +kernel
theorem dX11_run_76 : decode cX11_run 76 = .ok (.istore 4, 2) := by decide +kernel
theorem dX11_run_78 : decode cX11_run 78 = .ok (.iload 4, 2) := by decide +kernel
theorem dX11_run_80 : decode cX11_run 80 = .ok (.ldc 211, 2) := by decide +kernel
theorem dX11_run_82 : decode cX11_run 82 = .ok (.if_icmp .ge 56, 3) := by decide +kernel
theorem dX11_run_85 : decode cX11_run 85 = .ok (.aload_n 0, 1) := by decide +kernel
theorem dX11_run_86 : decode cX11_run 86 = .ok (.getfield 28, 3) := by decide +kernel
theorem dX11_run_89 : decode cX11_run 89 = .ok (.invokevirtual 212, 3) := by decide +kernel
theorem dX11_run_92 : decode cX11_run 92 = .ok (.ifCond .eq 46, 3) := by decide +kernel
theorem dX11_run_95 : decode cX11_run 95 = .ok (.aload_n 0, 1) := by decide +kernel
theorem dX11_run_96 : decode cX11_run 96 = .ok (.getfield 40, 3) := by decide +kernel
theorem dX11_run_99 : decode cX11_run 99 = .ok (.getfield 216, 3) := by decide +kernel
theorem dX11_run_102 : decode cX11_run 102 = .ok (.ifCond .eq 13, 3) := by decide +kernel
theorem dX11_run_105 : decode cX11_run 105 = .ok (.aload_n 0, 1) := by decide +kernel
theorem dX11_run_106 : decode cX11_run 106 = .ok (.getfield 40, 3) := by decide +kernel
theorem dX11_run_109 : decode cX11_run 109 = .ok (.invokevirtual 219, 3) := by decide +kernel
theorem dX11_run_112 : decode cX11_run 112 = .ok (.goto 20, 3) := by decide +kernel
theorem dX11_run_115 : decode cX11_run 115 = .ok (.aload_n 0, 1) := by decide +kernel
theorem dX11_run_116 : decode cX11_run 116 = .ok (.getfield 40, 3) := by decide +kernel
theorem dX11_run_119 : decode cX11_run 119 = .ok (.invokevirtual 222, 3) := by decide +kernel
theorem dX11_run_122 : decode cX11_run 122 = .ok (.ifCond .eq 10, 3) := by decide +kernel
theorem dX11_run_125 : decode cX11_run 125 = .ok (.aload_n 0, 1) := by decide +kernel
theorem dX11_run_126 : decode cX11_run 126 = .ok (.getfield 40, 3) := by decide +kernel
theorem dX11_run_129 : decode cX11_run 129 = .ok (.invokevirtual 225, 3) := by decide +kernel
theorem dX11_run_132 : decode cX11_run 132 = .ok (.iinc 4 1, 3) := by decide +kernel
theorem dX11_run_135 : decode cX11_run 135 = .ok (.goto (-57), 3) := by decide +kernel
theorem dX11_run_138 : decode cX11_run 138 = .ok (.aload_n 0, 1) := by decide +kernel
theorem dX11_run_139 : decode cX11_run 139 = .ok (.getfield 40, 3) := by decide +kernel
theorem dX11_run_142 : decode cX11_run 142 = .ok (.invokevirtual 228, 3) := by decide +kernel
theorem dX11_run_145 : decode cX11_run 145 = .ok (.aload_n 0, 1) := by decide +kernel
theorem dX11_run_146 : decode cX11_run 146 = .ok (.aload_n 0, 1) := by decide +kernel
theorem dX11_run_147 : decode cX11_run 147 = .ok (.getfield 28, 3) := by decide +kernel
theorem dX11_run_150 : decode cX11_run 150 = .ok (.aload_n 0, 1) := by decide +kernel
theorem dX11_run_151 : decode cX11_run 151 = .ok (.getfield 32, 3) := by decide +kernel
theorem dX11_run_154 : decode cX11_run 154 = .ok (.invokevirtual 231, 3) := by decide +kernel
theorem dX11_run_157 : decode cX11_run 157 = .ok (.putfield 44, 3) := by decide +kernel
theorem dX11_run_160 : decode cX11_run 160 = .ok (.aload_n 0, 1) := by decide +kernel
theorem dX11_run_161 : decode cX11_run 161 = .ok (.getfield 28, 3) := by decide +kernel
theorem dX11_run_164 : decode cX11_run 164 = .ok (.getfield 235, 3) := by decide +kernel
theorem dX11_run_167 : decode cX11_run 167 = .ok (.ireturn, 1) := by decide +kernel
theorem dX11_outcome_0 : decode cX11_outcome 0 = .ok (.aload_n 0, 1) := by decide +kernel
theorem dX11_outcome_1 : decode cX11_outcome 1 = .ok (.getfield 28, 3) := by decide +kernel
theorem dX11_outcome_4 : decode cX11_outcome 4 = .ok (.getfield 238, 3) := by decide +kernel
theorem dX11_outcome_7 : decode cX11_outcome 7 = .ok (.ireturn, 1) := by decide +kernel
theorem dX11_resultKind_0 : decode cX11_resultKind 0 = .ok (.aload_n 0, 1) := by decide +kernel
theorem dX11_resultKind_1 : decode cX11_resultKind 1 = .ok (.bipush 118, 2) := by decide +kernel
theorem dX11_resultKind_3 : decode cX11_resultKind 3 = .ok (.invokevirtual 242, 3) := by decide +kernel
theorem dX11_resultKind_6 : decode cX11_resultKind 6 = .ok (.aload_n 0, 1) := by decide +kernel
theorem dX11_resultKind_7 : decode cX11_resultKind 7 = .ok (.getfield 28, 3) := by decide +kernel
theorem dX11_resultKind_10 : decode cX11_resultKind 10 = .ok (.getfield 246, 3) := by decide +kernel
theorem dX11_resultKind_13 : decode cX11_resultKind 13 = .ok (.getfield 250, 3) := by decide +kernel
theorem dX11_resultKind_16 : decode cX11_resultKind 16 = .ok (.sipush 548, 3) := by decide +kernel
theorem dX11_resultKind_19 : decode cX11_resultKind 19 = .ok (.caload, 1) := by decide +kernel
theorem dX11_resultKind_20 : decode cX11_resultKind 20 = .ok (.ireturn, 1) := by decide +kernel
theorem dX11_result_0 : decode cX11_result 0 = .ok (.aload_n 0, 1) := by decide +kernel
theorem dX11_result_1 : decode cX11_result 1 = .ok (.bipush 118, 2) := by decide +kernel
theorem dX11_result_3 : decode cX11_result 3 = .ok (.invokevirtual 242, 3) := by decide +kernel
theorem dX11_result_6 : decode cX11_result 6 = .ok (.aload_n 0, 1) := by decide +kernel
theorem dX11_result_7 : decode cX11_result 7 = .ok (.getfield 28, 3) := by decide +kernel
theorem dX11_result_10 : decode cX11_result 10 = .ok (.getfield 246, 3) := by decide +kernel
theorem dX11_result_13 : decode cX11_result 13 = .ok (.sipush 548, 3) := by decide +kernel
theorem dX11_result_16 : decode cX11_result 16 = .ok (.invokevirtual 256, 3) := by decide +kernel
theorem dX11_result_19 : decode cX11_result 19 = .ok (.lreturn, 1) := by decide +kernel
theorem dX11_failure_0 : decode cX11_failure 0 = .ok (.aload_n 0, 1) := by decide +kernel
theorem dX11_failure_1 : decode cX11_failure 1 = .ok (.bipush 120, 2) := by decide +kernel
theorem dX11_failure_3 : decode cX11_failure 3 = .ok (.invokevirtual 242, 3) := by decide +kernel
theorem dX11_failure_6 : decode cX11_failure 6 = .ok (.aload_n 0, 1) := by decide +kernel
theorem dX11_failure_7 : decode cX11_failure 7 = .ok (.getfield 28, 3) := by decide +kernel
theorem dX11_failure_10 : decode cX11_failure 10 = .ok (.getfield 260, 3) := by decide +kernel
theorem dX11_failure_13 : decode cX11_failure 13 = .ok (.ireturn, 1) := by decide +kernel
theorem dX11_line_0 : decode cX11_line 0 = .ok (.aload_n 0, 1) := by decide +kernel
theorem dX11_line_1 : decode cX11_line 1 = .ok (.bipush 120, 2) := by decide +kernel
theorem dX11_line_3 : decode cX11_line 3 = .ok (.invokevirtual 242, 3) := by decide +kernel
theorem dX11_line_6 : decode cX11_line 6 = .ok (.aload_n 0, 1) := by decide +kernel
theorem dX11_line_7 : decode cX11_line 7 = .ok (.getfield 28, 3) := by decide +kernel
theorem dX11_line_10 : decode cX11_line 10 = .ok (.getfield 263, 3) := by decide +kernel
theorem dX11_line_13 : decode cX11_line 13 = .ok (.ireturn, 1) := by decide +kernel
theorem dX11_told_0 : decode cX11_told 0 = .ok (.aload_n 0, 1) := by decide +kernel
theorem dX11_told_1 : decode cX11_told 1 = .ok (.getfield 28, 3) := by decide +kernel
theorem dX11_told_4 : decode cX11_told 4 = .ok (.getfield 266, 3) := by decide +kernel
theorem dX11_told_7 : decode cX11_told 7 = .ok (.ireturn, 1) := by decide +kernel
theorem dX11_toldKind_0 : decode cX11_toldKind 0 = .ok (.aload_n 0, 1) := by decide +kernel
theorem dX11_toldKind_1 : decode cX11_toldKind 1 = .ok (.iload_n 1, 1) := by decide +kernel
theorem dX11_toldKind_2 : decode cX11_toldKind 2 = .ok (.invokevirtual 269, 3) := by decide +kernel
theorem dX11_toldKind_5 : decode cX11_toldKind 5 = .ok (.aload_n 0, 1) := by decide +kernel
theorem dX11_toldKind_6 : decode cX11_toldKind 6 = .ok (.getfield 28, 3) := by decide +kernel
theorem dX11_toldKind_9 : decode cX11_toldKind 9 = .ok (.getfield 246, 3) := by decide +kernel
theorem dX11_toldKind_12 : decode cX11_toldKind 12 = .ok (.getfield 250, 3) := by decide +kernel
theorem dX11_toldKind_15 : decode cX11_toldKind 15 = .ok (.sipush 528, 3) := by decide +kernel
theorem dX11_toldKind_18 : decode cX11_toldKind 18 = .ok (.iload_n 1, 1) := by decide +kernel
theorem dX11_toldKind_19 : decode cX11_toldKind 19 = .ok (.iadd, 1) := by decide +kernel
theorem dX11_toldKind_20 : decode cX11_toldKind 20 = .ok (.caload, 1) := by decide +kernel
theorem dX11_toldKind_21 : decode cX11_toldKind 21 = .ok (.ireturn, 1) := by decide +kernel
theorem dX11_toldAt_0 : decode cX11_toldAt 0 = .ok (.aload_n 0, 1) := by decide +kernel
theorem dX11_toldAt_1 : decode cX11_toldAt 1 = .ok (.iload_n 1, 1) := by decide +kernel
theorem dX11_toldAt_2 : decode cX11_toldAt 2 = .ok (.invokevirtual 269, 3) := by decide +kernel
theorem dX11_toldAt_5 : decode cX11_toldAt 5 = .ok (.aload_n 0, 1) := by decide +kernel
theorem dX11_toldAt_6 : decode cX11_toldAt 6 = .ok (.getfield 28, 3) := by decide +kernel
theorem dX11_toldAt_9 : decode cX11_toldAt 9 = .ok (.getfield 246, 3) := by decide +kernel
theorem dX11_toldAt_12 : decode cX11_toldAt 12 = .ok (.sipush 528, 3) := by decide +kernel
theorem dX11_toldAt_15 : decode cX11_toldAt 15 = .ok (.iload_n 1, 1) := by decide +kernel
theorem dX11_toldAt_16 : decode cX11_toldAt 16 = .ok (.iadd, 1) := by decide +kernel
theorem dX11_toldAt_17 : decode cX11_toldAt 17 = .ok (.invokevirtual 256, 3) := by decide +kernel
theorem dX11_toldAt_20 : decode cX11_toldAt 20 = .ok (.lreturn, 1) := by decide +kernel
theorem dX11_objects_0 : decode cX11_objects 0 = .ok (.aload_n 0, 1) := by decide +kernel
theorem dX11_objects_1 : decode cX11_objects 1 = .ok (.getfield 28, 3) := by decide +kernel
theorem dX11_objects_4 : decode cX11_objects 4 = .ok (.getfield 272, 3) := by decide +kernel
theorem dX11_objects_7 : decode cX11_objects 7 = .ok (.ireturn, 1) := by decide +kernel
theorem dX11_shapeOf_0 : decode cX11_shapeOf 0 = .ok (.aload_n 0, 1) := by decide +kernel
theorem dX11_shapeOf_1 : decode cX11_shapeOf 1 = .ok (.iload_n 1, 1) := by decide +kernel
theorem dX11_shapeOf_2 : decode cX11_shapeOf 2 = .ok (.invokevirtual 275, 3) := by decide +kernel
theorem dX11_shapeOf_5 : decode cX11_shapeOf 5 = .ok (.aload_n 0, 1) := by decide +kernel
theorem dX11_shapeOf_6 : decode cX11_shapeOf 6 = .ok (.getfield 28, 3) := by decide +kernel
theorem dX11_shapeOf_9 : decode cX11_shapeOf 9 = .ok (.getfield 278, 3) := by decide +kernel
theorem dX11_shapeOf_12 : decode cX11_shapeOf 12 = .ok (.iload_n 1, 1) := by decide +kernel
theorem dX11_shapeOf_13 : decode cX11_shapeOf 13 = .ok (.iaload, 1) := by decide +kernel
theorem dX11_shapeOf_14 : decode cX11_shapeOf 14 = .ok (.ireturn, 1) := by decide +kernel
theorem dX11_field_0 : decode cX11_field 0 = .ok (.aload_n 0, 1) := by decide +kernel
theorem dX11_field_1 : decode cX11_field 1 = .ok (.iload_n 1, 1) := by decide +kernel
theorem dX11_field_2 : decode cX11_field 2 = .ok (.invokevirtual 275, 3) := by decide +kernel
theorem dX11_field_5 : decode cX11_field 5 = .ok (.iload_n 2, 1) := by decide +kernel
theorem dX11_field_6 : decode cX11_field 6 = .ok (.invokestatic 136, 3) := by decide +kernel
theorem dX11_field_9 : decode cX11_field 9 = .ok (.ifCond .eq 23, 3) := by decide +kernel
theorem dX11_field_12 : decode cX11_field 12 = .ok (.aload_n 0, 1) := by decide +kernel
theorem dX11_field_13 : decode cX11_field 13 = .ok (.getfield 19, 3) := by decide +kernel
theorem dX11_field_16 : decode cX11_field 16 = .ok (.aload_n 0, 1) := by decide +kernel
theorem dX11_field_17 : decode cX11_field 17 = .ok (.getfield 28, 3) := by decide +kernel
theorem dX11_field_20 : decode cX11_field 20 = .ok (.getfield 278, 3) := by decide +kernel
theorem dX11_field_23 : decode cX11_field 23 = .ok (.iload_n 1, 1) := by decide +kernel
theorem dX11_field_24 : decode cX11_field 24 = .ok (.iaload, 1) := by decide +kernel
theorem dX11_field_25 : decode cX11_field 25 = .ok (.iload_n 2, 1) := by decide +kernel
theorem dX11_field_26 : decode cX11_field 26 = .ok (.invokevirtual 281, 3) := by decide +kernel
theorem dX11_field_29 : decode cX11_field 29 = .ok (.ifCond .ne 14, 3) := by decide +kernel
theorem dX11_field_32 : decode cX11_field 32 = .ok (.new 144, 3) := by decide +kernel
theorem dX11_field_35 : decode cX11_field 35 = .ok (.dup, 1) := by decide +kernel
theorem dX11_field_36 : decode cX11_field 36 = .ok (.ldc_w 285, 3) := by decide +kernel
theorem dX11_field_39 : decode cX11_field 39 = .ok (.invokespecial 148, 3) := by decide +kernel
theorem dX11_field_42 : decode cX11_field 42 = .ok (.athrow, 1) := by decide +kernel
theorem dX11_field_43 : decode cX11_field 43 = .ok (.aload_n 0, 1) := by decide +kernel
theorem dX11_field_44 : decode cX11_field 44 = .ok (.getfield 28, 3) := by decide +kernel
theorem dX11_field_47 : decode cX11_field 47 = .ok (.getfield 246, 3) := by decide +kernel
theorem dX11_field_50 : decode cX11_field 50 = .ok (.iload_n 1, 1) := by decide +kernel
theorem dX11_field_51 : decode cX11_field 51 = .ok (.iload_n 2, 1) := by decide +kernel
theorem dX11_field_52 : decode cX11_field 52 = .ok (.invokestatic 287, 3) := by decide +kernel
theorem dX11_field_55 : decode cX11_field 55 = .ok (.invokevirtual 256, 3) := by decide +kernel
theorem dX11_field_58 : decode cX11_field 58 = .ok (.lreturn, 1) := by decide +kernel
theorem dX11_shapes_0 : decode cX11_shapes 0 = .ok (.aload_n 0, 1) := by decide +kernel
theorem dX11_shapes_1 : decode cX11_shapes 1 = .ok (.getfield 19, 3) := by decide +kernel
theorem dX11_shapes_4 : decode cX11_shapes 4 = .ok (.getfield 117, 3) := by decide +kernel
theorem dX11_shapes_7 : decode cX11_shapes 7 = .ok (.ireturn, 1) := by decide +kernel
theorem dX11_fields_0 : decode cX11_fields 0 = .ok (.aload_n 0, 1) := by decide +kernel
theorem dX11_fields_1 : decode cX11_fields 1 = .ok (.iload_n 1, 1) := by decide +kernel
theorem dX11_fields_2 : decode cX11_fields 2 = .ok (.invokevirtual 291, 3) := by decide +kernel
