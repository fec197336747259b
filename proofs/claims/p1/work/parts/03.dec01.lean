theorem dX0_init_0 : decode cX0_init 0 = .ok (.aload_n 0, 1) := by decide +kernel
theorem dX0_init_1 : decode cX0_init 1 = .ok (.invokespecial 3, 3) := by decide +kernel
theorem dX0_init_4 : decode cX0_init 4 = .ok (.aload_n 0, 1) := by decide +kernel
theorem dX0_init_5 : decode cX0_init 5 = .ok (.sipush 960, 3) := by decide +kernel
theorem dX0_init_8 : decode cX0_init 8 = .ok (.newarray .int, 2) := by decide +kernel
theorem dX0_init_10 : decode cX0_init 10 = .ok (.putfield 9, 3) := by decide +kernel
theorem dX0_init_13 : decode cX0_init 13 = .ok (.aload_n 0, 1) := by decide +kernel
theorem dX0_init_14 : decode cX0_init 14 = .ok (.sipush 320, 3) := by decide +kernel
theorem dX0_init_17 : decode cX0_init 17 = .ok (.newarray .int, 2) := by decide +kernel
theorem dX0_init_19 : decode cX0_init 19 = .ok (.putfield 15, 3) := by decide +kernel
theorem dX0_init_22 : decode cX0_init 22 = .ok (.aload_n 0, 1) := by decide +kernel
theorem dX0_init_23 : decode cX0_init 23 = .ok (.sipush 320, 3) := by decide +kernel
theorem dX0_init_26 : decode cX0_init 26 = .ok (.newarray .int, 2) := by decide +kernel
theorem dX0_init_28 : decode cX0_init 28 = .ok (.putfield 18, 3) := by decide +kernel
theorem dX0_init_31 : decode cX0_init 31 = .ok (.aload_n 0, 1) := by decide +kernel
theorem dX0_init_32 : decode cX0_init 32 = .ok (.sipush 320, 3) := by decide +kernel
theorem dX0_init_35 : decode cX0_init 35 = .ok (.newarray .int, 2) := by decide +kernel
theorem dX0_init_37 : decode cX0_init 37 = .ok (.putfield 21, 3) := by decide +kernel
theorem dX0_init_40 : decode cX0_init 40 = .ok (.return_, 1) := by decide +kernel
theorem dX0_stateAt_0 : decode cX0_stateAt 0 = .ok (.aload_n 0, 1) := by decide +kernel
theorem dX0_stateAt_1 : decode cX0_stateAt 1 = .ok (.getfield 15, 3) := by decide +kernel
theorem dX0_stateAt_4 : decode cX0_stateAt 4 = .ok (.iload_n 1, 1) := by decide +kernel
theorem dX0_stateAt_5 : decode cX0_stateAt 5 = .ok (.iaload, 1) := by decide +kernel
theorem dX0_stateAt_6 : decode cX0_stateAt 6 = .ok (.iconst (-1), 1) := by decide +kernel
theorem dX0_stateAt_7 : decode cX0_stateAt 7 = .ok (.if_icmp .ne 6, 3) := by decide +kernel
theorem dX0_stateAt_10 : decode cX0_stateAt 10 = .ok (.bipush 120, 2) := by decide +kernel
theorem dX0_stateAt_12 : decode cX0_stateAt 12 = .ok (.ireturn, 1) := by decide +kernel
theorem dX0_stateAt_13 : decode cX0_stateAt 13 = .ok (.aload_n 0, 1) := by decide +kernel
theorem dX0_stateAt_14 : decode cX0_stateAt 14 = .ok (.getfield 15, 3) := by decide +kernel
theorem dX0_stateAt_17 : decode cX0_stateAt 17 = .ok (.iload_n 1, 1) := by decide +kernel
theorem dX0_stateAt_18 : decode cX0_stateAt 18 = .ok (.iaload, 1) := by decide +kernel
theorem dX0_stateAt_19 : decode cX0_stateAt 19 = .ok (.ifCond .ne 8, 3) := by decide +kernel
theorem dX0_stateAt_22 : decode cX0_stateAt 22 = .ok (.bipush 101, 2) := by decide +kernel
theorem dX0_stateAt_24 : decode cX0_stateAt 24 = .ok (.goto 13, 3) := by decide +kernel
theorem dX0_stateAt_27 : decode cX0_stateAt 27 = .ok (.bipush 48, 2) := by decide +kernel
theorem dX0_stateAt_29 : decode cX0_stateAt 29 = .ok (.aload_n 0, 1) := by decide +kernel
theorem dX0_stateAt_30 : decode cX0_stateAt 30 = .ok (.getfield 15, 3) := by decide +kernel
theorem dX0_stateAt_33 : decode cX0_stateAt 33 = .ok (.iload_n 1, 1) := by decide +kernel
theorem dX0_stateAt_34 : decode cX0_stateAt 34 = .ok (.iaload, 1) := by decide +kernel
theorem dX0_stateAt_35 : decode cX0_stateAt 35 = .ok (.iadd, 1) := by decide +kernel
theorem dX0_stateAt_36 : decode cX0_stateAt 36 = .ok (.i2c, 1) := by decide +kernel
theorem dX0_stateAt_37 : decode cX0_stateAt 37 = .ok (.ireturn, 1) := by decide +kernel
theorem dX0_meet_0 : decode cX0_meet 0 = .ok (.aload_n 0, 1) := by decide +kernel
theorem dX0_meet_1 : decode cX0_meet 1 = .ok (.getfield 15, 3) := by decide +kernel
theorem dX0_meet_4 : decode cX0_meet 4 = .ok (.iload_n 1, 1) := by decide +kernel
theorem dX0_meet_5 : decode cX0_meet 5 = .ok (.iaload, 1) := by decide +kernel
theorem dX0_meet_6 : decode cX0_meet 6 = .ok (.iconst (-1), 1) := by decide +kernel
theorem dX0_meet_7 : decode cX0_meet 7 = .ok (.if_icmp .ne 4, 3) := by decide +kernel
theorem dX0_meet_10 : decode cX0_meet 10 = .ok (.return_, 1) := by decide +kernel
theorem dX0_meet_11 : decode cX0_meet 11 = .ok (.aload_n 0, 1) := by decide +kernel
theorem dX0_meet_12 : decode cX0_meet 12 = .ok (.iload_n 1, 1) := by decide +kernel
theorem dX0_meet_13 : decode cX0_meet 13 = .ok (.iload_n 2, 1) := by decide +kernel
theorem dX0_meet_14 : decode cX0_meet 14 = .ok (.invokevirtual 24, 3) := by decide +kernel
theorem dX0_meet_17 : decode cX0_meet 17 = .ok (.ifCond .eq 14, 3) := by decide +kernel
theorem dX0_meet_20 : decode cX0_meet 20 = .ok (.aload_n 0, 1) := by decide +kernel
theorem dX0_meet_21 : decode cX0_meet 21 = .ok (.getfield 18, 3) := by decide +kernel
theorem dX0_meet_24 : decode cX0_meet 24 = .ok (.iload_n 1, 1) := by decide +kernel
theorem dX0_meet_25 : decode cX0_meet 25 = .ok (.dup2, 1) := by decide +kernel
theorem dX0_meet_26 : decode cX0_meet 26 = .ok (.iaload, 1) := by decide +kernel
theorem dX0_meet_27 : decode cX0_meet 27 = .ok (.iconst 1, 1) := by decide +kernel
theorem dX0_meet_28 : decode cX0_meet 28 = .ok (.iadd, 1) := by decide +kernel
theorem dX0_meet_29 : decode cX0_meet 29 = .ok (.iastore, 1) := by decide +kernel
theorem dX0_meet_30 : decode cX0_meet 30 = .ok (.return_, 1) := by decide +kernel
theorem dX0_meet_31 : decode cX0_meet 31 = .ok (.aload_n 0, 1) := by decide +kernel
theorem dX0_meet_32 : decode cX0_meet 32 = .ok (.getfield 21, 3) := by decide +kernel
theorem dX0_meet_35 : decode cX0_meet 35 = .ok (.iload_n 1, 1) := by decide +kernel
theorem dX0_meet_36 : decode cX0_meet 36 = .ok (.dup2, 1) := by decide +kernel
theorem dX0_meet_37 : decode cX0_meet 37 = .ok (.iaload, 1) := by decide +kernel
theorem dX0_meet_38 : decode cX0_meet 38 = .ok (.iconst 1, 1) := by decide +kernel
theorem dX0_meet_39 : decode cX0_meet 39 = .ok (.iadd, 1) := by decide +kernel
theorem dX0_meet_40 : decode cX0_meet 40 = .ok (.iastore, 1) := by decide +kernel
theorem dX0_meet_41 : decode cX0_meet 41 = .ok (.aload_n 0, 1) := by decide +kernel
theorem dX0_meet_42 : decode cX0_meet 42 = .ok (.getfield 15, 3) := by decide +kernel
theorem dX0_meet_45 : decode cX0_meet 45 = .ok (.iload_n 1, 1) := by decide +kernel
theorem dX0_meet_46 : decode cX0_meet 46 = .ok (.iaload, 1) := by decide +kernel
theorem dX0_meet_47 : decode cX0_meet 47 = .ok (.iconst 3, 1) := by decide +kernel
theorem dX0_meet_48 : decode cX0_meet 48 = .ok (.if_icmp .lt 13, 3) := by decide +kernel
theorem dX0_meet_51 : decode cX0_meet 51 = .ok (.aload_n 0, 1) := by decide +kernel
theorem dX0_meet_52 : decode cX0_meet 52 = .ok (.getfield 15, 3) := by decide +kernel
theorem dX0_meet_55 : decode cX0_meet 55 = .ok (.iload_n 1, 1) := by decide +kernel
theorem dX0_meet_56 : decode cX0_meet 56 = .ok (.iconst (-1), 1) := by decide +kernel
theorem dX0_meet_57 : decode cX0_meet 57 = .ok (.iastore, 1) := by decide +kernel
theorem dX0_meet_58 : decode cX0_meet 58 = .ok (.goto 29, 3) := by decide +kernel
theorem dX0_meet_61 : decode cX0_meet 61 = .ok (.aload_n 0, 1) := by decide +kernel
theorem dX0_meet_62 : decode cX0_meet 62 = .ok (.getfield 9, 3) := by decide +kernel
theorem dX0_meet_65 : decode cX0_meet 65 = .ok (.iload_n 1, 1) := by decide +kernel
theorem dX0_meet_66 : decode cX0_meet 66 = .ok (.iconst 3, 1) := by decide +kernel
theorem dX0_meet_67 : decode cX0_meet 67 = .ok (.imul, 1) := by decide +kernel
theorem dX0_meet_68 : decode cX0_meet 68 = .ok (.aload_n 0, 1) := by decide +kernel
theorem dX0_meet_69 : decode cX0_meet 69 = .ok (.getfield 15, 3) := by decide +kernel
theorem dX0_meet_72 : decode cX0_meet 72 = .ok (.iload_n 1, 1) := by decide +kernel
theorem dX0_meet_73 : decode cX0_meet 73 = .ok (.iaload, 1) := by decide +kernel
theorem dX0_meet_74 : decode cX0_meet 74 = .ok (.iadd, 1) := by decide +kernel
theorem dX0_meet_75 : decode cX0_meet 75 = .ok (.iload_n 2, 1) := by decide +kernel
theorem dX0_meet_76 : decode cX0_meet 76 = .ok (.iastore, 1) := by decide +kernel
theorem dX0_meet_77 : decode cX0_meet 77 = .ok (.aload_n 0, 1) := by decide +kernel
theorem dX0_meet_78 : decode cX0_meet 78 = .ok (.getfield 15, 3) := by decide +kernel
theorem dX0_meet_81 : decode cX0_meet 81 = .ok (.iload_n 1, 1) := by decide +kernel
theorem dX0_meet_82 : decode cX0_meet 82 = .ok (.dup2, 1) := by decide +kernel
theorem dX0_meet_83 : decode cX0_meet 83 = .ok (.iaload, 1) := by decide +kernel
theorem dX0_meet_84 : decode cX0_meet 84 = .ok (.iconst 1, 1) := by decide +kernel
theorem dX0_meet_85 : decode cX0_meet 85 = .ok (.iadd, 1) := by decide +kernel
theorem dX0_meet_86 : decode cX0_meet 86 = .ok (.iastore, 1) := by decide +kernel
theorem dX0_meet_87 : decode cX0_meet 87 = .ok (.return_, 1) := by decide +kernel
theorem dX0_keeps_0 : decode cX0_keeps 0 = .ok (.iconst 0, 1) := by decide +kernel
theorem dX0_keeps_1 : decode cX0_keeps 1 = .ok (.istore_n 3, 1) := by decide +kernel
theorem dX0_keeps_2 : decode cX0_keeps 2 = .ok (.iload_n 3, 1) := by decide +kernel
theorem dX0_keeps_3 : decode cX0_keeps 3 = .ok (.aload_n 0, 1) := by decide +kernel
theorem dX0_keeps_4 : decode cX0_keeps 4 = .ok (.getfield 15, 3) := by decide +kernel
theorem dX0_keeps_7 : decode cX0_keeps 7 = .ok (.iload_n 1, 1) := by decide +kernel
theorem dX0_keeps_8 : decode cX0_keeps 8 = .ok (.iaload, 1) := by decide +kernel
theorem dX0_keeps_9 : decode cX0_keeps 9 = .ok (.if_icmp .ge 25, 3) := by decide +kernel
theorem dX0_keeps_12 : decode cX0_keeps 12 = .ok (.aload_n 0, 1) := by decide +kernel
theorem dX0_keeps_13 : decode cX0_keeps 13 = .ok (.getfield 9, 3) := by decide +kernel
theorem dX0_keeps_16 : decode cX0_keeps 16 = .ok (.iload_n 1, 1) := by decide +kernel
theorem dX0_keeps_17 : decode cX0_keeps 17 = .ok (.iconst 3, 1) := by decide +kernel
theorem dX0_keeps_18 : decode cX0_keeps 18 = .ok (.imul, 1) := by decide +kernel
theorem dX0_keeps_19 : decode cX0_keeps 19 = .ok (.iload_n 3, 1) := by decide +kernel
theorem dX0_keeps_20 : decode cX0_keeps 20 = .ok (.iadd, 1) := by decide +kernel
theorem dX0_keeps_21 : decode cX0_keeps 21 = .ok (.iaload, 1) := by decide +kernel
theorem dX0_keeps_22 : decode cX0_keeps 22 = .ok (.iload_n 2, 1) := by decide +kernel
theorem dX0_keeps_23 : decode cX0_keeps 23 = .ok (.if_icmp .ne 5, 3) := by decide +kernel
theorem dX0_keeps_26 : decode cX0_keeps 26 = .ok (.iconst 1, 1) := by decide +kernel
theorem dX0_keeps_27 : decode cX0_keeps 27 = .ok (.ireturn, 1) := by decide +kernel
theorem dX0_keeps_28 : decode cX0_keeps 28 = .ok (.iinc 3 1, 3) := by decide +kernel
theorem dX0_keeps_31 : decode cX0_keeps 31 = .ok (.goto (-29), 3) := by decide +kernel
theorem dX0_keeps_34 : decode cX0_keeps 34 = .ok (.iconst 0, 1) := by decide +kernel
theorem dX0_keeps_35 : decode cX0_keeps 35 = .ok (.ireturn, 1) := by decide +kernel
theorem dX0_emptyMethods_0 : decode cX0_emptyMethods 0 = .ok (.iconst 0, 1) := by decide +kernel
theorem dX0_emptyMethods_1 : decode cX0_emptyMethods 1 = .ok (.istore_n 2, 1) := by decide +kernel
theorem dX0_emptyMethods_2 : decode cX0_emptyMethods 2 = .ok (.iload_n 2, 1) := by decide +kernel
theorem dX0_emptyMethods_3 : decode cX0_emptyMethods 3 = .ok (.sipush 320, 3) := by decide +kernel
theorem dX0_emptyMethods_6 : decode cX0_emptyMethods 6 = .ok (.if_icmp .ge 37, 3) := by decide +kernel
theorem dX0_emptyMethods_9 : decode cX0_emptyMethods 9 = .ok (.aload_n 1, 1) := by decide +kernel
theorem dX0_emptyMethods_10 : decode cX0_emptyMethods 10 = .ok (.getfield 28, 3) := by decide +kernel
theorem dX0_emptyMethods_13 : decode cX0_emptyMethods 13 = .ok (.iload_n 2, 1) := by decide +kernel
theorem dX0_emptyMethods_14 : decode cX0_emptyMethods 14 = .ok (.caload, 1) := by decide +kernel
theorem dX0_emptyMethods_15 : decode cX0_emptyMethods 15 = .ok (.bipush 109, 2) := by decide +kernel
theorem dX0_emptyMethods_17 : decode cX0_emptyMethods 17 = .ok (.if_icmp .ne 20, 3) := by decide +kernel
theorem dX0_emptyMethods_20 : decode cX0_emptyMethods 20 = .ok (.aload_n 0, 1) := by decide +kernel
theorem dX0_emptyMethods_21 : decode cX0_emptyMethods 21 = .ok (.getfield 15, 3) := by decide +kernel
theorem dX0_emptyMethods_24 : decode cX0_emptyMethods 24 = .ok (.iload_n 2, 1) := by decide +kernel
theorem dX0_emptyMethods_25 : decode cX0_emptyMethods 25 = .ok (.iaload, 1) := by decide +kernel
theorem dX0_emptyMethods_26 : decode cX0_emptyMethods 26 = .ok (.iconst (-1), 1) := by decide +kernel
theorem dX0_emptyMethods_27 : decode cX0_emptyMethods 27 = .ok (.if_icmp .eq 10, 3) := by decide +kernel
theorem dX0_emptyMethods_30 : decode cX0_emptyMethods 30 = .ok (.aload_n 0, 1) := by decide +kernel
theorem dX0_emptyMethods_31 : decode cX0_emptyMethods 31 = .ok (.getfield 15, 3) := by decide +kernel
theorem dX0_emptyMethods_34 : decode cX0_emptyMethods 34 = .ok (.iload_n 2, 1) := by decide +kernel
theorem dX0_emptyMethods_35 : decode cX0_emptyMethods 35 = .ok (.iconst 0, 1) := by decide +kernel
theorem dX0_emptyMethods_36 : decode cX0_emptyMethods 36 = .ok (.iastore, 1) := by decide +kernel
theorem dX0_emptyMethods_37 : decode cX0_emptyMethods 37 = .ok (.iinc 2 1, 3) := by decide +kernel
theorem dX0_emptyMethods_40 : decode cX0_emptyMethods 40 = .ok (.goto (-38), 3) := by decide +kernel
theorem dX0_emptyMethods_43 : decode cX0_emptyMethods 43 = .ok (.return_, 1) := by decide +kernel
theorem dX0_areSmall_0 : decode cX0_areSmall 0 = .ok (.iconst 1, 1) := by decide +kernel
theorem dX0_areSmall_1 : decode cX0_areSmall 1 = .ok (.istore_n 1, 1) := by decide +kernel
theorem dX0_areSmall_2 : decode cX0_areSmall 2 = .ok (.iconst 0, 1) := by decide +kernel
theorem dX0_areSmall_3 : decode cX0_areSmall 3 = .ok (.istore_n 2, 1) := by decide +kernel
theorem dX0_areSmall_4 : decode cX0_areSmall 4 = .ok (.iload_n 2, 1) := by decide +kernel
theorem dX0_areSmall_5 : decode cX0_areSmall 5 = .ok (.sipush 320, 3) := by decide +kernel
theorem dX0_areSmall_8 : decode cX0_areSmall 8 = .ok (.if_icmp .ge 29, 3) := by decide +kernel
theorem dX0_areSmall_11 : decode cX0_areSmall 11 = .ok (.iload_n 1, 1) := by decide +kernel
theorem dX0_areSmall_12 : decode cX0_areSmall 12 = .ok (.ifCond .eq 17, 3) := by decide +kernel
theorem dX0_areSmall_15 : decode cX0_areSmall 15 = .ok (.aload_n 0, 1) := by decide +kernel
theorem dX0_areSmall_16 : decode cX0_areSmall 16 = .ok (.getfield 15, 3) := by decide +kernel
theorem dX0_areSmall_19 : decode cX0_areSmall 19 = .ok (.iload_n 2, 1) := by decide +kernel
theorem dX0_areSmall_20 : decode cX0_areSmall 20 = .ok (.iaload, 1) := by decide +kernel
theorem dX0_areSmall_21 : decode cX0_areSmall 21 = .ok (.iconst 3, 1) := by decide +kernel
theorem dX0_areSmall_22 : decode cX0_areSmall 22 = .ok (.if_icmp .gt 7, 3) := by decide +kernel
theorem dX0_areSmall_25 : decode cX0_areSmall 25 = .ok (.iconst 1, 1) := by decide +kernel
theorem dX0_areSmall_26 : decode cX0_areSmall 26 = .ok (.goto 4, 3) := by decide +kernel
theorem dX0_areSmall_29 : decode cX0_areSmall 29 = .ok (.iconst 0, 1) := by decide +kernel
theorem dX0_areSmall_30 : decode cX0_areSmall 30 = .ok (.istore_n 1, 1) := by decide +kernel
theorem dX0_areSmall_31 : decode cX0_areSmall 31 = .ok (.iinc 2 1, 3) := by decide +kernel
theorem dX0_areSmall_34 : decode cX0_areSmall 34 = .ok (.goto (-30), 3) := by decide +kernel
theorem dX0_areSmall_37 : decode cX0_areSmall 37 = .ok (.iload_n 1, 1) := by decide +kernel
theorem dX0_areSmall_38 : decode cX0_areSmall 38 = .ok (.ireturn, 1) := by decide +kernel
theorem dX1_init_0 : decode cX1_init 0 = .ok (.aload_n 0, 1) := by decide +kernel
theorem dX1_init_1 : decode cX1_init 1 = .ok (.invokespecial 3, 3) := by decide +kernel
theorem dX1_init_4 : decode cX1_init 4 = .ok (.aload_n 0, 1) := by decide +kernel
theorem dX1_init_5 : decode cX1_init 5 = .ok (.aload_n 1, 1) := by decide +kernel
theorem dX1_init_6 : decode cX1_init 6 = .ok (.putfield 9, 3) := by decide +kernel
theorem dX1_init_9 : decode cX1_init 9 = .ok (.aload_n 0, 1) := by decide +kernel
theorem dX1_init_10 : decode cX1_init 10 = .ok (.aload_n 2, 1) := by decide +kernel
theorem dX1_init_11 : decode cX1_init 11 = .ok (.putfield 15, 3) := by decide +kernel
theorem dX1_init_14 : decode cX1_init 14 = .ok (.aload_n 0, 1) := by decide +kernel
theorem dX1_init_15 : decode cX1_init 15 = .ok (.bipush 20, 2) := by decide +kernel
theorem dX1_init_17 : decode cX1_init 17 = .ok (.anewarray 19, 3) := by decide +kernel
theorem dX1_init_20 : decode cX1_init 20 = .ok (.putfield 21, 3) := by decide +kernel
theorem dX1_init_23 : decode cX1_init 23 = .ok (.iconst 0, 1) := by decide +kernel
theorem dX1_init_24 : decode cX1_init 24 = .ok (.istore 4, 2) := by decide +kernel
theorem dX1_init_26 : decode cX1_init 26 = .ok (.iload 4, 2) := by decide +kernel
theorem dX1_init_28 : decode cX1_init 28 = .ok (.bipush 20, 2) := by decide +kernel
theorem dX1_init_30 : decode cX1_init 30 = .ok (.if_icmp .ge 17, 3) := by decide +kernel
theorem dX1_init_33 : decode cX1_init 33 = .ok (.aload_n 0, 1) := by decide +kernel
theorem dX1_init_34 : decode cX1_init 34 = .ok (.getfield 21, 3) := by decide +kernel
theorem dX1_init_37 : decode cX1_init 37 = .ok (.iload 4, 2) := by decide +kernel
theorem dX1_init_39 : decode cX1_init 39 = .ok (.aload_n 3, 1) := by decide +kernel
theorem dX1_init_40 : decode cX1_init 40 = .ok (.aastore, 1) := by decide +kernel
theorem dX1_init_41 : decode cX1_init 41 = .ok (.iinc 4 1, 3) := by decide +kernel
theorem dX1_init_44 : decode cX1_init 44 = .ok (.goto (-18), 3) := by decide +kernel
theorem dX1_init_47 : decode cX1_init 47 = .ok (.aload_n 0, 1) := by decide +kernel
theorem dX1_init_48 : decode cX1_init 48 = .ok (.bipush 80, 2) := by decide +kernel
theorem dX1_init_50 : decode cX1_init 50 = .ok (.putfield 25, 3) := by decide +kernel
theorem dX1_init_53 : decode cX1_init 53 = .ok (.return_, 1) := by decide +kernel
theorem dX1_isFull_0 : decode cX1_isFull 0 = .ok (.aload_n 0, 1) := by decide +kernel
theorem dX1_isFull_1 : decode cX1_isFull 1 = .ok (.getfield 29, 3) := by decide +kernel
theorem dX1_isFull_4 : decode cX1_isFull 4 = .ok (.bipush 20, 2) := by decide +kernel
theorem dX1_isFull_6 : decode cX1_isFull 6 = .ok (.if_icmp .lt 7, 3) := by decide +kernel
theorem dX1_isFull_9 : decode cX1_isFull 9 = .ok (.iconst 1, 1) := by decide +kernel
theorem dX1_isFull_10 : decode cX1_isFull 10 = .ok (.goto 4, 3) := by decide +kernel
theorem dX1_isFull_13 : decode cX1_isFull 13 = .ok (.iconst 0, 1) := by decide +kernel
theorem dX1_isFull_14 : decode cX1_isFull 14 = .ok (.ireturn, 1) := by decide +kernel
theorem dX1_size_0 : decode cX1_size 0 = .ok (.iconst 0, 1) := by decide +kernel
theorem dX1_size_1 : decode cX1_size 1 = .ok (.istore_n 1, 1) := by decide +kernel
theorem dX1_size_2 : decode cX1_size 2 = .ok (.iconst 0, 1) := by decide +kernel
theorem dX1_size_3 : decode cX1_size 3 = .ok (.istore_n 2, 1) := by decide +kernel
theorem dX1_size_4 : decode cX1_size 4 = .ok (.iload_n 2, 1) := by decide +kernel
theorem dX1_size_5 : decode cX1_size 5 = .ok (.aload_n 0, 1) := by decide +kernel
theorem dX1_size_6 : decode cX1_size 6 = .ok (.getfield 29, 3) := by decide +kernel
theorem dX1_size_9 : decode cX1_size 9 = .ok (.if_icmp .ge 37, 3) := by decide +kernel
theorem dX1_size_12 : decode cX1_size 12 = .ok (.iload_n 1, 1) := by decide +kernel
theorem dX1_size_13 : decode cX1_size 13 = .ok (.aload_n 0, 1) := by decide +kernel
theorem dX1_size_14 : decode cX1_size 14 = .ok (.getfield 21, 3) := by decide +kernel
theorem dX1_size_17 : decode cX1_size 17 = .ok (.iload_n 2, 1) := by decide +kernel
theorem dX1_size_18 : decode cX1_size 18 = .ok (.aaload, 1) := by decide +kernel
theorem dX1_size_19 : decode cX1_size 19 = .ok (.getfield 32, 3) := by decide +kernel
theorem dX1_size_22 : decode cX1_size 22 = .ok (.ifCond .eq 15, 3) := by decide +kernel
theorem dX1_size_25 : decode cX1_size 25 = .ok (.aload_n 0, 1) := by decide +kernel
theorem dX1_size_26 : decode cX1_size 26 = .ok (.getfield 21, 3) := by decide +kernel
theorem dX1_size_29 : decode cX1_size 29 = .ok (.iload_n 2, 1) := by decide +kernel
theorem dX1_size_30 : decode cX1_size 30 = .ok (.aaload, 1) := by decide +kernel
theorem dX1_size_31 : decode cX1_size 31 = .ok (.getfield 36, 3) := by decide +kernel
theorem dX1_size_34 : decode cX1_size 34 = .ok (.goto 4, 3) := by decide +kernel
theorem dX1_size_37 : decode cX1_size 37 = .ok (.iconst 0, 1) := by decide +kernel
theorem dX1_size_38 : decode cX1_size 38 = .ok (.iadd, 1) := by decide +kernel
theorem dX1_size_39 : decode cX1_size 39 = .ok (.istore_n 1, 1) := by decide +kernel
theorem dX1_size_40 : decode cX1_size 40 = .ok (.iinc 2 1, 3) := by decide +kernel
theorem dX1_size_43 : decode cX1_size 43 = .ok (.goto (-39), 3) := by decide +kernel
theorem dX1_size_46 : decode cX1_size 46 = .ok (.iload_n 1, 1) := by decide +kernel
theorem dX1_size_47 : decode cX1_size 47 = .ok (.ireturn, 1) := by decide +kernel
theorem dX1_countThere_0 : decode cX1_countThere 0 = .ok (.iconst 0, 1) := by decide +kernel
theorem dX1_countThere_1 : decode cX1_countThere 1 = .ok (.istore_n 1, 1) := by decide +kernel
theorem dX1_countThere_2 : decode cX1_countThere 2 = .ok (.iconst 0, 1) := by decide +kernel
theorem dX1_countThere_3 : decode cX1_countThere 3 = .ok (.istore_n 2, 1) := by decide +kernel
theorem dX1_countThere_4 : decode cX1_countThere 4 = .ok (.iload_n 2, 1) := by decide +kernel
theorem dX1_countThere_5 : decode cX1_countThere 5 = .ok (.aload_n 0, 1) := by decide +kernel
theorem dX1_countThere_6 : decode cX1_countThere 6 = .ok (.getfield 29, 3) := by decide +kernel
theorem dX1_countThere_9 : decode cX1_countThere 9 = .ok (.if_icmp .ge 29, 3) := by decide +kernel
theorem dX1_countThere_12 : decode cX1_countThere 12 = .ok (.iload_n 1, 1) := by decide +kernel
theorem dX1_countThere_13 : decode cX1_countThere 13 = .ok (.aload_n 0, 1) := by decide +kernel
theorem dX1_countThere_14 : decode cX1_countThere 14 = .ok (.getfield 21, 3) := by decide +kernel
theorem dX1_countThere_17 : decode cX1_countThere 17 = .ok (.iload_n 2, 1) := by decide +kernel
theorem dX1_countThere_18 : decode cX1_countThere 18 = .ok (.aaload, 1) := by decide +kernel
theorem dX1_countThere_19 : decode cX1_countThere 19 = .ok (.getfield 32, 3) := by decide +kernel
theorem dX1_countThere_22 : decode cX1_countThere 22 = .ok (.ifCond .eq 7, 3) := by decide +kernel
theorem dX1_countThere_25 : decode cX1_countThere 25 = .ok (.iconst 1, 1) := by decide +kernel
theorem dX1_countThere_26 : decode cX1_countThere 26 = .ok (.goto 4, 3) := by decide +kernel
theorem dX1_countThere_29 : decode cX1_countThere 29 = .ok (.iconst 0, 1) := by decide +kernel
theorem dX1_countThere_30 : decode cX1_countThere 30 = .ok (.iadd, 1) := by decide +kernel
theorem dX1_countThere_31 : decode cX1_countThere 31 = .ok (.istore_n 1, 1) := by decide +kernel
theorem dX1_countThere_32 : decode cX1_countThere 32 = .ok (.iinc 2 1, 3) := by decide +kernel
theorem dX1_countThere_35 : decode cX1_countThere 35 = .ok (.goto (-31), 3) := by decide +kernel
theorem dX1_countThere_38 : decode cX1_countThere 38 = .ok (.iload_n 1, 1) := by decide +kernel
theorem dX1_countThere_39 : decode cX1_countThere 39 = .ok (.ireturn, 1) := by decide +kernel
theorem dX1_guardsThere_0 : decode cX1_guardsThere 0 = .ok (.iconst 0, 1) := by decide +kernel
theorem dX1_guardsThere_1 : decode cX1_guardsThere 1 = .ok (.istore_n 1, 1) := by decide +kernel
theorem dX1_guardsThere_2 : decode cX1_guardsThere 2 = .ok (.iconst 0, 1) := by decide +kernel
theorem dX1_guardsThere_3 : decode cX1_guardsThere 3 = .ok (.istore_n 2, 1) := by decide +kernel
theorem dX1_guardsThere_4 : decode cX1_guardsThere 4 = .ok (.iload_n 2, 1) := by decide +kernel
theorem dX1_guardsThere_5 : decode cX1_guardsThere 5 = .ok (.aload_n 0, 1) := by decide +kernel
theorem dX1_guardsThere_6 : decode cX1_guardsThere 6 = .ok (.getfield 29, 3) := by decide +kernel
theorem dX1_guardsThere_9 : decode cX1_guardsThere 9 = .ok (.if_icmp .ge 37, 3) := by decide +kernel
theorem dX1_guardsThere_12 : decode cX1_guardsThere 12 = .ok (.iload_n 1, 1) := by decide +kernel
theorem dX1_guardsThere_13 : decode cX1_guardsThere 13 = .ok (.aload_n 0, 1) := by decide +kernel
theorem dX1_guardsThere_14 : decode cX1_guardsThere 14 = .ok (.getfield 21, 3) := by decide +kernel
theorem dX1_guardsThere_17 : decode cX1_guardsThere 17 = .ok (.iload_n 2, 1) := by decide +kernel
theorem dX1_guardsThere_18 : decode cX1_guardsThere 18 = .ok (.aaload, 1) := by decide +kernel
theorem dX1_guardsThere_19 : decode cX1_guardsThere 19 = .ok (.getfield 32, 3) := by decide +kernel
theorem dX1_guardsThere_22 : decode cX1_guardsThere 22 = .ok (.ifCond .eq 15, 3) := by decide +kernel
theorem dX1_guardsThere_25 : decode cX1_guardsThere 25 = .ok (.aload_n 0, 1) := by decide +kernel
theorem dX1_guardsThere_26 : decode cX1_guardsThere 26 = .ok (.getfield 21, 3) := by decide +kernel
theorem dX1_guardsThere_29 : decode cX1_guardsThere 29 = .ok (.iload_n 2, 1) := by decide +kernel
theorem dX1_guardsThere_30 : decode cX1_guardsThere 30 = .ok (.aaload, 1) := by decide +kernel
theorem dX1_guardsThere_31 : decode cX1_guardsThere 31 = .ok (.getfield 39, 3) := by decide +kernel
theorem dX1_guardsThere_34 : decode cX1_guardsThere 34 = .ok (.goto 4, 3) := by decide +kernel
theorem dX1_guardsThere_37 : decode cX1_guardsThere 37 = .ok (.iconst 0, 1) := by decide +kernel
theorem dX1_guardsThere_38 : decode cX1_guardsThere 38 = .ok (.iadd, 1) := by decide +kernel
theorem dX1_guardsThere_39 : decode cX1_guardsThere 39 = .ok (.istore_n 1, 1) := by decide +kernel
theorem dX1_guardsThere_40 : decode cX1_guardsThere 40 = .ok (.iinc 2 1, 3) := by decide +kernel
theorem dX1_guardsThere_43 : decode cX1_guardsThere 43 = .ok (.goto (-39), 3) := by decide +kernel
theorem dX1_guardsThere_46 : decode cX1_guardsThere 46 = .ok (.iload_n 1, 1) := by decide +kernel
theorem dX1_guardsThere_47 : decode cX1_guardsThere 47 = .ok (.ireturn, 1) := by decide +kernel
theorem dX1_hasRoots_0 : decode cX1_hasRoots 0 = .ok (.iconst 1, 1) := by decide +kernel
theorem dX1_hasRoots_1 : decode cX1_hasRoots 1 = .ok (.istore_n 1, 1) := by decide +kernel
theorem dX1_hasRoots_2 : decode cX1_hasRoots 2 = .ok (.iconst 0, 1) := by decide +kernel
theorem dX1_hasRoots_3 : decode cX1_hasRoots 3 = .ok (.istore_n 2, 1) := by decide +kernel
theorem dX1_hasRoots_4 : decode cX1_hasRoots 4 = .ok (.iload_n 2, 1) := by decide +kernel
theorem dX1_hasRoots_5 : decode cX1_hasRoots 5 = .ok (.aload_n 0, 1) := by decide +kernel
theorem dX1_hasRoots_6 : decode cX1_hasRoots 6 = .ok (.getfield 29, 3) := by decide +kernel
theorem dX1_hasRoots_9 : decode cX1_hasRoots 9 = .ok (.if_icmp .ge 51, 3) := by decide +kernel
theorem dX1_hasRoots_12 : decode cX1_hasRoots 12 = .ok (.iload_n 1, 1) := by decide +kernel
theorem dX1_hasRoots_13 : decode cX1_hasRoots 13 = .ok (.ifCond .eq 39, 3) := by decide +kernel
theorem dX1_hasRoots_16 : decode cX1_hasRoots 16 = .ok (.aload_n 0, 1) := by decide +kernel
theorem dX1_hasRoots_17 : decode cX1_hasRoots 17 = .ok (.getfield 21, 3) := by decide +kernel
theorem dX1_hasRoots_20 : decode cX1_hasRoots 20 = .ok (.iload_n 2, 1) := by decide +kernel
theorem dX1_hasRoots_21 : decode cX1_hasRoots 21 = .ok (.aaload, 1) := by decide +kernel
theorem dX1_hasRoots_22 : decode cX1_hasRoots 22 = .ok (.getfield 32, 3) := by decide +kernel
theorem dX1_hasRoots_25 : decode cX1_hasRoots 25 = .ok (.ifCond .eq 23, 3) := by decide +kernel
theorem dX1_hasRoots_28 : decode cX1_hasRoots 28 = .ok (.aload_n 0, 1) := by decide +kernel
theorem dX1_hasRoots_29 : decode cX1_hasRoots 29 = .ok (.getfield 21, 3) := by decide +kernel
theorem dX1_hasRoots_32 : decode cX1_hasRoots 32 = .ok (.aload_n 0, 1) := by decide +kernel
theorem dX1_hasRoots_33 : decode cX1_hasRoots 33 = .ok (.getfield 21, 3) := by decide +kernel
theorem dX1_hasRoots_36 : decode cX1_hasRoots 36 = .ok (.iload_n 2, 1) := by decide +kernel
theorem dX1_hasRoots_37 : decode cX1_hasRoots 37 = .ok (.aaload, 1) := by decide +kernel
theorem dX1_hasRoots_38 : decode cX1_hasRoots 38 = .ok (.getfield 42, 3) := by decide +kernel
theorem dX1_hasRoots_41 : decode cX1_hasRoots 41 = .ok (.aaload, 1) := by decide +kernel
theorem dX1_hasRoots_42 : decode cX1_hasRoots 42 = .ok (.getfield 32, 3) := by decide +kernel
theorem dX1_hasRoots_45 : decode cX1_hasRoots 45 = .ok (.ifCond .eq 7, 3) := by decide +kernel
theorem dX1_hasRoots_48 : decode cX1_hasRoots 48 = .ok (.iconst 1, 1) := by decide +kernel
theorem dX1_hasRoots_49 : decode cX1_hasRoots 49 = .ok (.goto 4, 3) := by decide +kernel
theorem dX1_hasRoots_52 : decode cX1_hasRoots 52 = .ok (.iconst 0, 1) := by decide +kernel
theorem dX1_hasRoots_53 : decode cX1_hasRoots 53 = .ok (.istore_n 1, 1) := by decide +kernel
theorem dX1_hasRoots_54 : decode cX1_hasRoots 54 = .ok (.iinc 2 1, 3) := by decide +kernel
theorem dX1_hasRoots_57 : decode cX1_hasRoots 57 = .ok (.goto (-53), 3) := by decide +kernel
theorem dX1_hasRoots_60 : decode cX1_hasRoots 60 = .ok (.iload_n 1, 1) := by decide +kernel
theorem dX1_hasRoots_61 : decode cX1_hasRoots 61 = .ok (.ireturn, 1) := by decide +kernel
theorem dX1_shrink_0 : decode cX1_shrink 0 = .ok (.iconst 0, 1) := by decide +kernel
theorem dX1_shrink_1 : decode cX1_shrink 1 = .ok (.istore_n 1, 1) := by decide +kernel
theorem dX1_shrink_2 : decode cX1_shrink 2 = .ok (.iload_n 1, 1) := by decide +kernel
theorem dX1_shrink_3 : decode cX1_shrink 3 = .ok (.bipush 20, 2) := by decide +kernel
theorem dX1_shrink_5 : decode cX1_shrink 5 = .ok (.if_icmp .ge 29, 3) := by decide +kernel
theorem dX1_shrink_8 : decode cX1_shrink 8 = .ok (.aload_n 0, 1) := by decide +kernel
theorem dX1_shrink_9 : decode cX1_shrink 9 = .ok (.invokevirtual 45, 3) := by decide +kernel
theorem dX1_shrink_12 : decode cX1_shrink 12 = .ok (.aload_n 0, 1) := by decide +kernel
theorem dX1_shrink_13 : decode cX1_shrink 13 = .ok (.getfield 25, 3) := by decide +kernel
theorem dX1_shrink_16 : decode cX1_shrink 16 = .ok (.if_icmp .le 18, 3) := by decide +kernel
theorem dX1_shrink_19 : decode cX1_shrink 19 = .ok (.aload_n 0, 1) := by decide +kernel
theorem dX1_shrink_20 : decode cX1_shrink 20 = .ok (.aload_n 0, 1) := by decide +kernel
theorem dX1_shrink_21 : decode cX1_shrink 21 = .ok (.iconst (-1), 1) := by decide +kernel
theorem dX1_shrink_22 : decode cX1_shrink 22 = .ok (.invokevirtual 49, 3) := by decide +kernel
theorem dX1_shrink_25 : decode cX1_shrink 25 = .ok (.invokevirtual 53, 3) := by decide +kernel
theorem dX1_shrink_28 : decode cX1_shrink 28 = .ok (.iinc 1 1, 3) := by decide +kernel
theorem dX1_shrink_31 : decode cX1_shrink 31 = .ok (.goto (-29), 3) := by decide +kernel
theorem dX1_shrink_34 : decode cX1_shrink 34 = .ok (.iload_n 1, 1) := by decide +kernel
theorem dX1_shrink_35 : decode cX1_shrink 35 = .ok (.ireturn, 1) := by decide +kernel
theorem dX1_makeRoom_0 : decode cX1_makeRoom 0 = .ok (.iconst 0, 1) := by decide +kernel
theorem dX1_makeRoom_1 : decode cX1_makeRoom 1 = .ok (.istore_n 3, 1) := by decide +kernel
theorem dX1_makeRoom_2 : decode cX1_makeRoom 2 = .ok (.iload_n 3, 1) := by decide +kernel
theorem dX1_makeRoom_3 : decode cX1_makeRoom 3 = .ok (.bipush 20, 2) := by decide +kernel
theorem dX1_makeRoom_5 : decode cX1_makeRoom 5 = .ok (.if_icmp .ge 31, 3) := by decide +kernel
theorem dX1_makeRoom_8 : decode cX1_makeRoom 8 = .ok (.aload_n 0, 1) := by decide +kernel
theorem dX1_makeRoom_9 : decode cX1_makeRoom 9 = .ok (.invokevirtual 45, 3) := by decide +kernel
theorem dX1_makeRoom_12 : decode cX1_makeRoom 12 = .ok (.iload_n 1, 1) := by decide +kernel
theorem dX1_makeRoom_13 : decode cX1_makeRoom 13 = .ok (.iadd, 1) := by decide +kernel
theorem dX1_makeRoom_14 : decode cX1_makeRoom 14 = .ok (.aload_n 0, 1) := by decide +kernel
theorem dX1_makeRoom_15 : decode cX1_makeRoom 15 = .ok (.getfield 25, 3) := by decide +kernel
theorem dX1_makeRoom_18 : decode cX1_makeRoom 18 = .ok (.if_icmp .le 18, 3) := by decide +kernel
theorem dX1_makeRoom_21 : decode cX1_makeRoom 21 = .ok (.aload_n 0, 1) := by decide +kernel
theorem dX1_makeRoom_22 : decode cX1_makeRoom 22 = .ok (.aload_n 0, 1) := by decide +kernel
theorem dX1_makeRoom_23 : decode cX1_makeRoom 23 = .ok (.iload_n 2, 1) := by decide +kernel
theorem dX1_makeRoom_24 : decode cX1_makeRoom 24 = .ok (.invokevirtual 49, 3) := by decide +kernel
theorem dX1_makeRoom_27 : decode cX1_makeRoom 27 = .ok (.invokevirtual 53, 3) := by decide +kernel
theorem dX1_makeRoom_30 : decode cX1_makeRoom 30 = .ok (.iinc 3 1, 3) := by decide +kernel
theorem dX1_makeRoom_33 : decode cX1_makeRoom 33 = .ok (.goto (-31), 3) := by decide +kernel
theorem dX1_makeRoom_36 : decode cX1_makeRoom 36 = .ok (.aload_n 0, 1) := by decide +kernel
theorem dX1_makeRoom_37 : decode cX1_makeRoom 37 = .ok (.invokevirtual 45, 3) := by decide +kernel
theorem dX1_makeRoom_40 : decode cX1_makeRoom 40 = .ok (.iload_n 1, 1) := by decide +kernel
theorem dX1_makeRoom_41 : decode cX1_makeRoom 41 = .ok (.iadd, 1) := by decide +kernel
theorem dX1_makeRoom_42 : decode cX1_makeRoom 42 = .ok (.aload_n 0, 1) := by decide +kernel
theorem dX1_makeRoom_43 : decode cX1_makeRoom 43 = .ok (.getfield 25, 3) := by decide +kernel
theorem dX1_makeRoom_46 : decode cX1_makeRoom 46 = .ok (.if_icmp .gt 7, 3) := by decide +kernel
theorem dX1_makeRoom_49 : decode cX1_makeRoom 49 = .ok (.iconst 1, 1) := by decide +kernel
theorem dX1_makeRoom_50 : decode cX1_makeRoom 50 = .ok (.goto 4, 3) := by decide +kernel
theorem dX1_makeRoom_53 : decode cX1_makeRoom 53 = .ok (.iconst 0, 1) := by decide +kernel
theorem dX1_makeRoom_54 : decode cX1_makeRoom 54 = .ok (.ireturn, 1) := by decide +kernel
theorem dX1_leastLatelyEntered_0 : decode cX1_leastLatelyEntered 0 = .ok (.iconst (-1), 1) := by decide +kernel
theorem dX1_leastLatelyEntered_1 : decode cX1_leastLatelyEntered 1 = .ok (.istore_n 2, 1) := by decide +kernel
theorem dX1_leastLatelyEntered_2 : decode cX1_leastLatelyEntered 2 = .ok (.iconst 0, 1) := by decide +kernel
theorem dX1_leastLatelyEntered_3 : decode cX1_leastLatelyEntered 3 = .ok (.istore_n 3, 1) := by decide +kernel
theorem dX1_leastLatelyEntered_4 : decode cX1_leastLatelyEntered 4 = .ok (.iload_n 3, 1) := by decide +kernel
theorem dX1_leastLatelyEntered_5 : decode cX1_leastLatelyEntered 5 = .ok (.aload_n 0, 1) := by decide +kernel
theorem dX1_leastLatelyEntered_6 : decode cX1_leastLatelyEntered 6 = .ok (.getfield 29, 3) := by decide +kernel
theorem dX1_leastLatelyEntered_9 : decode cX1_leastLatelyEntered 9 = .ok (.if_icmp .ge 79, 3) := by decide +kernel
theorem dX1_leastLatelyEntered_12 : decode cX1_leastLatelyEntered 12 = .ok (.aload_n 0, 1) := by decide +kernel
theorem dX1_leastLatelyEntered_13 : decode cX1_leastLatelyEntered 13 = .ok (.getfield 21, 3) := by decide +kernel
theorem dX1_leastLatelyEntered_16 : decode cX1_leastLatelyEntered 16 = .ok (.iload_n 3, 1) := by decide +kernel
theorem dX1_leastLatelyEntered_17 : decode cX1_leastLatelyEntered 17 = .ok (.aaload, 1) := by decide +kernel
theorem dX1_leastLatelyEntered_18 : decode cX1_leastLatelyEntered 18 = .ok (.getfield 32, 3) := by decide +kernel
theorem dX1_leastLatelyEntered_21 : decode cX1_leastLatelyEntered 21 = .ok (.ifCond .eq 25, 3) := by decide +kernel
theorem dX1_leastLatelyEntered_24 : decode cX1_leastLatelyEntered 24 = .ok (.aload_n 0, 1) := by decide +kernel
theorem dX1_leastLatelyEntered_25 : decode cX1_leastLatelyEntered 25 = .ok (.getfield 21, 3) := by decide +kernel
theorem dX1_leastLatelyEntered_28 : decode cX1_leastLatelyEntered 28 = .ok (.iload_n 3, 1) := by decide +kernel
theorem dX1_leastLatelyEntered_29 : decode cX1_leastLatelyEntered 29 = .ok (.aaload, 1) := by decide +kernel
theorem dX1_leastLatelyEntered_30 : decode cX1_leastLatelyEntered 30 = .ok (.getfield 42, 3) := by decide +kernel
theorem dX1_leastLatelyEntered_33 : decode cX1_leastLatelyEntered 33 = .ok (.iload_n 3, 1) := by decide +kernel
theorem dX1_leastLatelyEntered_34 : decode cX1_leastLatelyEntered 34 = .ok (.if_icmp .ne 12, 3) := by decide +kernel
theorem dX1_leastLatelyEntered_37 : decode cX1_leastLatelyEntered 37 = .ok (.iload_n 3, 1) := by decide +kernel
theorem dX1_leastLatelyEntered_38 : decode cX1_leastLatelyEntered 38 = .ok (.iload_n 1, 1) := by decide +kernel
theorem dX1_leastLatelyEntered_39 : decode cX1_leastLatelyEntered 39 = .ok (.if_icmp .eq 7, 3) := by decide +kernel
theorem dX1_leastLatelyEntered_42 : decode cX1_leastLatelyEntered 42 = .ok (.iconst 1, 1) := by decide +kernel
theorem dX1_leastLatelyEntered_43 : decode cX1_leastLatelyEntered 43 = .ok (.goto 4, 3) := by decide +kernel
theorem dX1_leastLatelyEntered_46 : decode cX1_leastLatelyEntered 46 = .ok (.iconst 0, 1) := by decide +kernel
theorem dX1_leastLatelyEntered_47 : decode cX1_leastLatelyEntered 47 = .ok (.istore 4, 2) := by decide +kernel
theorem dX1_leastLatelyEntered_49 : decode cX1_leastLatelyEntered 49 = .ok (.iload 4, 2) := by decide +kernel
theorem dX1_leastLatelyEntered_51 : decode cX1_leastLatelyEntered 51 = .ok (.ifCond .eq 31, 3) := by decide +kernel
theorem dX1_leastLatelyEntered_54 : decode cX1_leastLatelyEntered 54 = .ok (.iload_n 2, 1) := by decide +kernel
theorem dX1_leastLatelyEntered_55 : decode cX1_leastLatelyEntered 55 = .ok (.iconst (-1), 1) := by decide +kernel
theorem dX1_leastLatelyEntered_56 : decode cX1_leastLatelyEntered 56 = .ok (.if_icmp .eq 24, 3) := by decide +kernel
theorem dX1_leastLatelyEntered_59 : decode cX1_leastLatelyEntered 59 = .ok (.aload_n 0, 1) := by decide +kernel
theorem dX1_leastLatelyEntered_60 : decode cX1_leastLatelyEntered 60 = .ok (.getfield 21, 3) := by decide +kernel
theorem dX1_leastLatelyEntered_63 : decode cX1_leastLatelyEntered 63 = .ok (.iload_n 3, 1) := by decide +kernel
theorem dX1_leastLatelyEntered_64 : decode cX1_leastLatelyEntered 64 = .ok (.aaload, 1) := by decide +kernel
theorem dX1_leastLatelyEntered_65 : decode cX1_leastLatelyEntered 65 = .ok (.getfield 57, 3) := by decide +kernel
theorem dX1_leastLatelyEntered_68 : decode cX1_leastLatelyEntered 68 = .ok (.aload_n 0, 1) := by decide +kernel
theorem dX1_leastLatelyEntered_69 : decode cX1_leastLatelyEntered 69 = .ok (.getfield 21, 3) := by decide +kernel
theorem dX1_leastLatelyEntered_72 : decode cX1_leastLatelyEntered 72 = .ok (.iload_n 2, 1) := by decide +kernel
theorem dX1_leastLatelyEntered_73 : decode cX1_leastLatelyEntered 73 = .ok (.aaload, 1) := by decide +kernel
theorem dX1_leastLatelyEntered_74 : decode cX1_leastLatelyEntered 74 = .ok (.getfield 57, 3) := by decide +kernel
theorem dX1_leastLatelyEntered_77 : decode cX1_leastLatelyEntered 77 = .ok (.if_icmp .ge 5, 3) := by decide +kernel
theorem dX1_leastLatelyEntered_80 : decode cX1_leastLatelyEntered 80 = .ok (.iload_n 3, 1) := by decide +kernel
theorem dX1_leastLatelyEntered_81 : decode cX1_leastLatelyEntered 81 = .ok (.istore_n 2, 1) := by decide +kernel
theorem dX1_leastLatelyEntered_82 : decode cX1_leastLatelyEntered 82 = .ok (.iinc 3 1, 3) := by decide +kernel
theorem dX1_leastLatelyEntered_85 : decode cX1_leastLatelyEntered 85 = .ok (.goto (-81), 3) := by decide +kernel
theorem dX1_leastLatelyEntered_88 : decode cX1_leastLatelyEntered 88 = .ok (.iload_n 2, 1) := by decide +kernel
theorem dX1_leastLatelyEntered_89 : decode cX1_leastLatelyEntered 89 = .ok (.ireturn, 1) := by decide +kernel
theorem dX1_throwThoseWith_0 : decode cX1_throwThoseWith 0 = .ok (.iconst 0, 1) := by decide +kernel
theorem dX1_throwThoseWith_1 : decode cX1_throwThoseWith 1 = .ok (.istore_n 3, 1) := by decide +kernel
theorem dX1_throwThoseWith_2 : decode cX1_throwThoseWith 2 = .ok (.iconst 0, 1) := by decide +kernel
theorem dX1_throwThoseWith_3 : decode cX1_throwThoseWith 3 = .ok (.istore 4, 2) := by decide +kernel
theorem dX1_throwThoseWith_5 : decode cX1_throwThoseWith 5 = .ok (.iload 4, 2) := by decide +kernel
theorem dX1_throwThoseWith_7 : decode cX1_throwThoseWith 7 = .ok (.aload_n 0, 1) := by decide +kernel
theorem dX1_throwThoseWith_8 : decode cX1_throwThoseWith 8 = .ok (.getfield 29, 3) := by decide +kernel
theorem dX1_throwThoseWith_11 : decode cX1_throwThoseWith 11 = .ok (.if_icmp .ge 55, 3) := by decide +kernel
theorem dX1_throwThoseWith_14 : decode cX1_throwThoseWith 14 = .ok (.aload_n 0, 1) := by decide +kernel
theorem dX1_throwThoseWith_15 : decode cX1_throwThoseWith 15 = .ok (.getfield 21, 3) := by decide +kernel
theorem dX1_throwThoseWith_18 : decode cX1_throwThoseWith 18 = .ok (.iload 4, 2) := by decide +kernel
theorem dX1_throwThoseWith_20 : decode cX1_throwThoseWith 20 = .ok (.aaload, 1) := by decide +kernel
theorem dX1_throwThoseWith_21 : decode cX1_throwThoseWith 21 = .ok (.getfield 32, 3) := by decide +kernel
theorem dX1_throwThoseWith_24 : decode cX1_throwThoseWith 24 = .ok (.ifCond .eq 36, 3) := by decide +kernel
theorem dX1_throwThoseWith_27 : decode cX1_throwThoseWith 27 = .ok (.aload_n 0, 1) := by decide +kernel
theorem dX1_throwThoseWith_28 : decode cX1_throwThoseWith 28 = .ok (.aload_n 0, 1) := by decide +kernel
theorem dX1_throwThoseWith_29 : decode cX1_throwThoseWith 29 = .ok (.getfield 21, 3) := by decide +kernel
theorem dX1_throwThoseWith_32 : decode cX1_throwThoseWith 32 = .ok (.iload 4, 2) := by decide +kernel
theorem dX1_throwThoseWith_34 : decode cX1_throwThoseWith 34 = .ok (.aaload, 1) := by decide +kernel
theorem dX1_throwThoseWith_35 : decode cX1_throwThoseWith 35 = .ok (.iload_n 1, 1) := by decide +kernel
theorem dX1_throwThoseWith_36 : decode cX1_throwThoseWith 36 = .ok (.iload_n 2, 1) := by decide +kernel
theorem dX1_throwThoseWith_37 : decode cX1_throwThoseWith 37 = .ok (.invokevirtual 60, 3) := by decide +kernel
theorem dX1_throwThoseWith_40 : decode cX1_throwThoseWith 40 = .ok (.ifCond .eq 20, 3) := by decide +kernel
theorem dX1_throwThoseWith_43 : decode cX1_throwThoseWith 43 = .ok (.aload_n 0, 1) := by decide +kernel
theorem dX1_throwThoseWith_44 : decode cX1_throwThoseWith 44 = .ok (.aload_n 0, 1) := by decide +kernel
theorem dX1_throwThoseWith_45 : decode cX1_throwThoseWith 45 = .ok (.getfield 21, 3) := by decide +kernel
theorem dX1_throwThoseWith_48 : decode cX1_throwThoseWith 48 = .ok (.iload 4, 2) := by decide +kernel
theorem dX1_throwThoseWith_50 : decode cX1_throwThoseWith 50 = .ok (.aaload, 1) := by decide +kernel
theorem dX1_throwThoseWith_51 : decode cX1_throwThoseWith 51 = .ok (.getfield 42, 3) := by decide +kernel
theorem dX1_throwThoseWith_54 : decode cX1_throwThoseWith 54 = .ok (.invokevirtual 53, 3) := by decide +kernel
theorem dX1_throwThoseWith_57 : decode cX1_throwThoseWith 57 = .ok (.iinc 3 1, 3) := by decide +kernel
theorem dX1_throwThoseWith_60 : decode cX1_throwThoseWith 60 = .ok (.iinc 4 1, 3) := by decide +kernel
theorem dX1_throwThoseWith_63 : decode cX1_throwThoseWith 63 = .ok (.goto (-58), 3) := by decide +kernel
theorem dX1_throwThoseWith_66 : decode cX1_throwThoseWith 66 = .ok (.iload_n 3, 1) := by decide +kernel
theorem dX1_throwThoseWith_67 : decode cX1_throwThoseWith 67 = .ok (.ireturn, 1) := by decide +kernel
theorem dX1_hasStep_0 : decode cX1_hasStep 0 = .ok (.iconst 0, 1) := by decide +kernel
theorem dX1_hasStep_1 : decode cX1_hasStep 1 = .ok (.istore 4, 2) := by decide +kernel
theorem dX1_hasStep_3 : decode cX1_hasStep 3 = .ok (.iconst 0, 1) := by decide +kernel
theorem dX1_hasStep_4 : decode cX1_hasStep 4 = .ok (.istore 5, 2) := by decide +kernel
theorem dX1_hasStep_6 : decode cX1_hasStep 6 = .ok (.iload 5, 2) := by decide +kernel
theorem dX1_hasStep_8 : decode cX1_hasStep 8 = .ok (.aload_n 1, 1) := by decide +kernel
theorem dX1_hasStep_9 : decode cX1_hasStep 9 = .ok (.getfield 36, 3) := by decide +kernel
theorem dX1_hasStep_12 : decode cX1_hasStep 12 = .ok (.if_icmp .ge 67, 3) := by decide +kernel
theorem dX1_hasStep_15 : decode cX1_hasStep 15 = .ok (.aload_n 1, 1) := by decide +kernel
theorem dX1_hasStep_16 : decode cX1_hasStep 16 = .ok (.getfield 64, 3) := by decide +kernel
theorem dX1_hasStep_19 : decode cX1_hasStep 19 = .ok (.iload 5, 2) := by decide +kernel
theorem dX1_hasStep_21 : decode cX1_hasStep 21 = .ok (.iaload, 1) := by decide +kernel
theorem dX1_hasStep_22 : decode cX1_hasStep 22 = .ok (.invokestatic 68, 3) := by decide +kernel
theorem dX1_hasStep_25 : decode cX1_hasStep 25 = .ok (.istore 6, 2) := by decide +kernel
theorem dX1_hasStep_27 : decode cX1_hasStep 27 = .ok (.iload 4, 2) := by decide +kernel
theorem dX1_hasStep_29 : decode cX1_hasStep 29 = .ok (.ifCond .ne 37, 3) := by decide +kernel
theorem dX1_hasStep_32 : decode cX1_hasStep 32 = .ok (.aload_n 0, 1) := by decide +kernel
theorem dX1_hasStep_33 : decode cX1_hasStep 33 = .ok (.getfield 9, 3) := by decide +kernel
theorem dX1_hasStep_36 : decode cX1_hasStep 36 = .ok (.getfield 71, 3) := by decide +kernel
theorem dX1_hasStep_39 : decode cX1_hasStep 39 = .ok (.iload 6, 2) := by decide +kernel
theorem dX1_hasStep_41 : decode cX1_hasStep 41 = .ok (.caload, 1) := by decide +kernel
theorem dX1_hasStep_42 : decode cX1_hasStep 42 = .ok (.iload_n 2, 1) := by decide +kernel
theorem dX1_hasStep_43 : decode cX1_hasStep 43 = .ok (.if_icmp .ne 27, 3) := by decide +kernel
theorem dX1_hasStep_46 : decode cX1_hasStep 46 = .ok (.iload_n 2, 1) := by decide +kernel
theorem dX1_hasStep_47 : decode cX1_hasStep 47 = .ok (.bipush 109, 2) := by decide +kernel
theorem dX1_hasStep_49 : decode cX1_hasStep 49 = .ok (.if_icmp .eq 17, 3) := by decide +kernel
theorem dX1_hasStep_52 : decode cX1_hasStep 52 = .ok (.aload_n 0, 1) := by decide +kernel
theorem dX1_hasStep_53 : decode cX1_hasStep 53 = .ok (.getfield 9, 3) := by decide +kernel
theorem dX1_hasStep_56 : decode cX1_hasStep 56 = .ok (.getfield 77, 3) := by decide +kernel
theorem dX1_hasStep_59 : decode cX1_hasStep 59 = .ok (.iload 6, 2) := by decide +kernel
theorem dX1_hasStep_61 : decode cX1_hasStep 61 = .ok (.iaload, 1) := by decide +kernel
theorem dX1_hasStep_62 : decode cX1_hasStep 62 = .ok (.iload_n 3, 1) := by decide +kernel
theorem dX1_hasStep_63 : decode cX1_hasStep 63 = .ok (.if_icmp .ne 7, 3) := by decide +kernel
theorem dX1_hasStep_66 : decode cX1_hasStep 66 = .ok (.iconst 1, 1) := by decide +kernel
theorem dX1_hasStep_67 : decode cX1_hasStep 67 = .ok (.goto 4, 3) := by decide +kernel
theorem dX1_hasStep_70 : decode cX1_hasStep 70 = .ok (.iconst 0, 1) := by decide +kernel
theorem dX1_hasStep_71 : decode cX1_hasStep 71 = .ok (.istore 4, 2) := by decide +kernel
theorem dX1_hasStep_73 : decode cX1_hasStep 73 = .ok (.iinc 5 1, 3) := by decide +kernel
theorem dX1_hasStep_76 : decode cX1_hasStep 76 = .ok (.goto (-70), 3) := by decide +kernel
theorem dX1_hasStep_79 : decode cX1_hasStep 79 = .ok (.iload 4, 2) := by decide +kernel
theorem dX1_hasStep_81 : decode cX1_hasStep 81 = .ok (.ireturn, 1) := by decide +kernel
theorem dX1_throwTree_0 : decode cX1_throwTree 0 = .ok (.iload_n 1, 1) := by decide +kernel
theorem dX1_throwTree_1 : decode cX1_throwTree 1 = .ok (.iconst (-1), 1) := by decide +kernel
theorem dX1_throwTree_2 : decode cX1_throwTree 2 = .ok (.if_icmp .ne 4, 3) := by decide +kernel
theorem dX1_throwTree_5 : decode cX1_throwTree 5 = .ok (.return_, 1) := by decide +kernel
theorem dX1_throwTree_6 : decode cX1_throwTree 6 = .ok (.iconst 0, 1) := by decide +kernel
theorem dX1_throwTree_7 : decode cX1_throwTree 7 = .ok (.istore_n 2, 1) := by decide +kernel
theorem dX1_throwTree_8 : decode cX1_throwTree 8 = .ok (.iload_n 2, 1) := by decide +kernel
theorem dX1_throwTree_9 : decode cX1_throwTree 9 = .ok (.aload_n 0, 1) := by decide +kernel
theorem dX1_throwTree_10 : decode cX1_throwTree 10 = .ok (.getfield 29, 3) := by decide +kernel
theorem dX1_throwTree_13 : decode cX1_throwTree 13 = .ok (.if_icmp .ge 32, 3) := by decide +kernel
theorem dX1_throwTree_16 : decode cX1_throwTree 16 = .ok (.aload_n 0, 1) := by decide +kernel
theorem dX1_throwTree_17 : decode cX1_throwTree 17 = .ok (.getfield 21, 3) := by decide +kernel
theorem dX1_throwTree_20 : decode cX1_throwTree 20 = .ok (.iload_n 2, 1) := by decide +kernel
theorem dX1_throwTree_21 : decode cX1_throwTree 21 = .ok (.aaload, 1) := by decide +kernel
theorem dX1_throwTree_22 : decode cX1_throwTree 22 = .ok (.getfield 42, 3) := by decide +kernel
theorem dX1_throwTree_25 : decode cX1_throwTree 25 = .ok (.iload_n 1, 1) := by decide +kernel
theorem dX1_throwTree_26 : decode cX1_throwTree 26 = .ok (.if_icmp .ne 13, 3) := by decide +kernel
theorem dX1_throwTree_29 : decode cX1_throwTree 29 = .ok (.aload_n 0, 1) := by decide +kernel
theorem dX1_throwTree_30 : decode cX1_throwTree 30 = .ok (.getfield 21, 3) := by decide +kernel
theorem dX1_throwTree_33 : decode cX1_throwTree 33 = .ok (.iload_n 2, 1) := by decide +kernel
theorem dX1_throwTree_34 : decode cX1_throwTree 34 = .ok (.aaload, 1) := by decide +kernel
theorem dX1_throwTree_35 : decode cX1_throwTree 35 = .ok (.iconst 0, 1) := by decide +kernel
theorem dX1_throwTree_36 : decode cX1_throwTree 36 = .ok (.putfield 32, 3) := by decide +kernel
theorem dX1_throwTree_39 : decode cX1_throwTree 39 = .ok (.iinc 2 1, 3) := by decide +kernel
theorem dX1_throwTree_42 : decode cX1_throwTree 42 = .ok (.goto (-34), 3) := by decide +kernel
theorem dX1_throwTree_45 : decode cX1_throwTree 45 = .ok (.aload_n 0, 1) := by decide +kernel
theorem dX1_throwTree_46 : decode cX1_throwTree 46 = .ok (.getfield 21, 3) := by decide +kernel
theorem dX1_throwTree_49 : decode cX1_throwTree 49 = .ok (.iload_n 1, 1) := by decide +kernel
theorem dX1_throwTree_50 : decode cX1_throwTree 50 = .ok (.aaload, 1) := by decide +kernel
theorem dX1_throwTree_51 : decode cX1_throwTree 51 = .ok (.getfield 80, 3) := by decide +kernel
theorem dX1_throwTree_54 : decode cX1_throwTree 54 = .ok (.istore_n 2, 1) := by decide +kernel
theorem dX1_throwTree_55 : decode cX1_throwTree 55 = .ok (.aload_n 0, 1) := by decide +kernel
theorem dX1_throwTree_56 : decode cX1_throwTree 56 = .ok (.getfield 15, 3) := by decide +kernel
theorem dX1_throwTree_59 : decode cX1_throwTree 59 = .ok (.getfield 83, 3) := by decide +kernel
theorem dX1_throwTree_62 : decode cX1_throwTree 62 = .ok (.iload_n 2, 1) := by decide +kernel
theorem dX1_throwTree_63 : decode cX1_throwTree 63 = .ok (.iconst (-1), 1) := by decide +kernel
theorem dX1_throwTree_64 : decode cX1_throwTree 64 = .ok (.iastore, 1) := by decide +kernel
theorem dX1_throwTree_65 : decode cX1_throwTree 65 = .ok (.aload_n 0, 1) := by decide +kernel
theorem dX1_throwTree_66 : decode cX1_throwTree 66 = .ok (.getfield 15, 3) := by decide +kernel
theorem dX1_throwTree_69 : decode cX1_throwTree 69 = .ok (.getfield 88, 3) := by decide +kernel
theorem dX1_throwTree_72 : decode cX1_throwTree 72 = .ok (.iload_n 2, 1) := by decide +kernel
theorem dX1_throwTree_73 : decode cX1_throwTree 73 = .ok (.iconst 0, 1) := by decide +kernel
theorem dX1_throwTree_74 : decode cX1_throwTree 74 = .ok (.iastore, 1) := by decide +kernel
theorem dX1_throwTree_75 : decode cX1_throwTree 75 = .ok (.return_, 1) := by decide +kernel
theorem dX2_init_0 : decode cX2_init 0 = .ok (.aload_n 0, 1) := by decide +kernel
theorem dX2_init_1 : decode cX2_init 1 = .ok (.invokespecial 3, 3) := by decide +kernel
theorem dX2_init_4 : decode cX2_init 4 = .ok (.aload_n 0, 1) := by decide +kernel
theorem dX2_init_5 : decode cX2_init 5 = .ok (.sipush 320, 3) := by decide +kernel
theorem dX2_init_8 : decode cX2_init 8 = .ok (.newarray .int, 2) := by decide +kernel
theorem dX2_init_10 : decode cX2_init 10 = .ok (.putfield 9, 3) := by decide +kernel
theorem dX2_init_13 : decode cX2_init 13 = .ok (.aload_n 0, 1) := by decide +kernel
theorem dX2_init_14 : decode cX2_init 14 = .ok (.sipush 320, 3) := by decide +kernel
theorem dX2_init_17 : decode cX2_init 17 = .ok (.newarray .int, 2) := by decide +kernel
theorem dX2_init_19 : decode cX2_init 19 = .ok (.putfield 15, 3) := by decide +kernel
theorem dX2_init_22 : decode cX2_init 22 = .ok (.aload_n 0, 1) := by decide +kernel
theorem dX2_init_23 : decode cX2_init 23 = .ok (.sipush 320, 3) := by decide +kernel
theorem dX2_init_26 : decode cX2_init 26 = .ok (.newarray .int, 2) := by decide +kernel
theorem dX2_init_28 : decode cX2_init 28 = .ok (.putfield 18, 3) := by decide +kernel
theorem dX2_init_31 : decode cX2_init 31 = .ok (.aload_n 0, 1) := by decide +kernel
theorem dX2_init_32 : decode cX2_init 32 = .ok (.getfield 18, 3) := by decide +kernel
theorem dX2_init_35 : decode cX2_init 35 = .ok (.iconst (-1), 1) := by decide +kernel
theorem dX2_init_36 : decode cX2_init 36 = .ok (.invokestatic 21, 3) := by decide +kernel
theorem dX2_init_39 : decode cX2_init 39 = .ok (.return_, 1) := by decide +kernel
theorem dX2_bars_0 : decode cX2_bars 0 = .ok (.aload_n 0, 1) := by decide +kernel
theorem dX2_bars_1 : decode cX2_bars 1 = .ok (.getfield 15, 3) := by decide +kernel
theorem dX2_bars_4 : decode cX2_bars 4 = .ok (.iload_n 1, 1) := by decide +kernel
theorem dX2_bars_5 : decode cX2_bars 5 = .ok (.iaload, 1) := by decide +kernel
theorem dX2_bars_6 : decode cX2_bars 6 = .ok (.iconst 2, 1) := by decide +kernel
theorem dX2_bars_7 : decode cX2_bars 7 = .ok (.if_icmp .lt 7, 3) := by decide +kernel
theorem dX2_bars_10 : decode cX2_bars 10 = .ok (.iconst 1, 1) := by decide +kernel
theorem dX2_bars_11 : decode cX2_bars 11 = .ok (.goto 4, 3) := by decide +kernel
theorem dX2_bars_14 : decode cX2_bars 14 = .ok (.iconst 0, 1) := by decide +kernel
theorem dX2_bars_15 : decode cX2_bars 15 = .ok (.ireturn, 1) := by decide +kernel
theorem dX2_breakOff_0 : decode cX2_breakOff 0 = .ok (.aload_n 0, 1) := by decide +kernel
theorem dX2_breakOff_1 : decode cX2_breakOff 1 = .ok (.getfield 9, 3) := by decide +kernel
theorem dX2_breakOff_4 : decode cX2_breakOff 4 = .ok (.iload_n 1, 1) := by decide +kernel
theorem dX2_breakOff_5 : decode cX2_breakOff 5 = .ok (.iconst 0, 1) := by decide +kernel
theorem dX2_breakOff_6 : decode cX2_breakOff 6 = .ok (.iastore, 1) := by decide +kernel
theorem dX2_breakOff_7 : decode cX2_breakOff 7 = .ok (.aload_n 0, 1) := by decide +kernel
theorem dX2_breakOff_8 : decode cX2_breakOff 8 = .ok (.getfield 15, 3) := by decide +kernel
theorem dX2_breakOff_11 : decode cX2_breakOff 11 = .ok (.iload_n 1, 1) := by decide +kernel
theorem dX2_breakOff_12 : decode cX2_breakOff 12 = .ok (.dup2, 1) := by decide +kernel
theorem dX2_breakOff_13 : decode cX2_breakOff 13 = .ok (.iaload, 1) := by decide +kernel
theorem dX2_breakOff_14 : decode cX2_breakOff 14 = .ok (.iconst 1, 1) := by decide +kernel
theorem dX2_breakOff_15 : decode cX2_breakOff 15 = .ok (.iadd, 1) := by decide +kernel
theorem dX2_breakOff_16 : decode cX2_breakOff 16 = .ok (.iastore, 1) := by decide +kernel
theorem dX2_breakOff_17 : decode cX2_breakOff 17 = .ok (.return_, 1) := by decide +kernel
theorem dX3_init_0 : decode cX3_init 0 = .ok (.aload_n 0, 1) := by decide +kernel
theorem dX3_init_1 : decode cX3_init 1 = .ok (.invokespecial 3, 3) := by decide +kernel
theorem dX3_init_4 : decode cX3_init 4 = .ok (.aload_n 0, 1) := by decide +kernel
theorem dX3_init_5 : decode cX3_init 5 = .ok (.aload_n 1, 1) := by decide +kernel
theorem dX3_init_6 : decode cX3_init 6 = .ok (.putfield 9, 3) := by decide +kernel
theorem dX3_init_9 : decode cX3_init 9 = .ok (.aload_n 0, 1) := by decide +kernel
theorem dX3_init_10 : decode cX3_init 10 = .ok (.aload_n 2, 1) := by decide +kernel
theorem dX3_init_11 : decode cX3_init 11 = .ok (.putfield 15, 3) := by decide +kernel
theorem dX3_init_14 : decode cX3_init 14 = .ok (.aload_n 0, 1) := by decide +kernel
theorem dX3_init_15 : decode cX3_init 15 = .ok (.new 19, 3) := by decide +kernel
theorem dX3_init_18 : decode cX3_init 18 = .ok (.dup, 1) := by decide +kernel
theorem dX3_init_19 : decode cX3_init 19 = .ok (.invokespecial 21, 3) := by decide +kernel
theorem dX3_init_22 : decode cX3_init 22 = .ok (.putfield 22, 3) := by decide +kernel
theorem dX3_init_25 : decode cX3_init 25 = .ok (.aload_n 0, 1) := by decide +kernel
theorem dX3_init_26 : decode cX3_init 26 = .ok (.bipush 12, 2) := by decide +kernel
theorem dX3_init_28 : decode cX3_init 28 = .ok (.newarray .int, 2) := by decide +kernel
theorem dX3_init_30 : decode cX3_init 30 = .ok (.putfield 26, 3) := by decide +kernel
theorem dX3_init_33 : decode cX3_init 33 = .ok (.aload_n 0, 1) := by decide +kernel
theorem dX3_init_34 : decode cX3_init 34 = .ok (.bipush 12, 2) := by decide +kernel
theorem dX3_init_36 : decode cX3_init 36 = .ok (.newarray .int, 2) := by decide +kernel
theorem dX3_init_38 : decode cX3_init 38 = .ok (.putfield 30, 3) := by decide +kernel
theorem dX3_init_41 : decode cX3_init 41 = .ok (.aload_n 0, 1) := by decide +kernel
theorem dX3_init_42 : decode cX3_init 42 = .ok (.bipush 12, 2) := by decide +kernel
theorem dX3_init_44 : decode cX3_init 44 = .ok (.newarray .int, 2) := by decide +kernel
theorem dX3_init_46 : decode cX3_init 46 = .ok (.putfield 33, 3) := by decide +kernel
theorem dX3_init_49 : decode cX3_init 49 = .ok (.aload_n 0, 1) := by decide +kernel
theorem dX3_init_50 : decode cX3_init 50 = .ok (.bipush 60, 2) := by decide +kernel
theorem dX3_init_52 : decode cX3_init 52 = .ok (.newarray .int, 2) := by decide +kernel
theorem dX3_init_54 : decode cX3_init 54 = .ok (.putfield 36, 3) := by decide +kernel
theorem dX3_init_57 : decode cX3_init 57 = .ok (.aload_n 0, 1) := by decide +kernel
theorem dX3_init_58 : decode cX3_init 58 = .ok (.bipush 45, 2) := by decide +kernel
theorem dX3_init_60 : decode cX3_init 60 = .ok (.putfield 39, 3) := by decide +kernel
theorem dX3_init_63 : decode cX3_init 63 = .ok (.aload_n 0, 1) := by decide +kernel
theorem dX3_init_64 : decode cX3_init 64 = .ok (.bipush 45, 2) := by decide +kernel
theorem dX3_init_66 : decode cX3_init 66 = .ok (.putfield 43, 3) := by decide +kernel
theorem dX3_init_69 : decode cX3_init 69 = .ok (.return_, 1) := by decide +kernel
theorem dX3_begin_0 : decode cX3_begin 0 = .ok (.aload_n 0, 1) := by decide +kernel
theorem dX3_begin_1 : decode cX3_begin 1 = .ok (.iconst 0, 1) := by decide +kernel
theorem dX3_begin_2 : decode cX3_begin 2 = .ok (.putfield 46, 3) := by decide +kernel
theorem dX3_begin_5 : decode cX3_begin 5 = .ok (.aload_n 0, 1) := by decide +kernel
theorem dX3_begin_6 : decode cX3_begin 6 = .ok (.iconst 0, 1) := by decide +kernel
theorem dX3_begin_7 : decode cX3_begin 7 = .ok (.putfield 50, 3) := by decide +kernel
theorem dX3_begin_10 : decode cX3_begin 10 = .ok (.aload_n 0, 1) := by decide +kernel
theorem dX3_begin_11 : decode cX3_begin 11 = .ok (.iconst 0, 1) := by decide +kernel
theorem dX3_begin_12 : decode cX3_begin 12 = .ok (.putfield 53, 3) := by decide +kernel
theorem dX3_begin_15 : decode cX3_begin 15 = .ok (.aload_n 0, 1) := by decide +kernel
theorem dX3_begin_16 : decode cX3_begin 16 = .ok (.iconst 0, 1) := by decide +kernel
theorem dX3_begin_17 : decode cX3_begin 17 = .ok (.putfield 56, 3) := by decide +kernel
theorem dX3_begin_20 : decode cX3_begin 20 = .ok (.aload_n 0, 1) := by decide +kernel
theorem dX3_begin_21 : decode cX3_begin 21 = .ok (.bipush 45, 2) := by decide +kernel
theorem dX3_begin_23 : decode cX3_begin 23 = .ok (.putfield 39, 3) := by decide +kernel
theorem dX3_begin_26 : decode cX3_begin 26 = .ok (.aload_n 0, 1) := by decide +kernel
theorem dX3_begin_27 : decode cX3_begin 27 = .ok (.bipush 45, 2) := by decide +kernel
theorem dX3_begin_29 : decode cX3_begin 29 = .ok (.putfield 43, 3) := by decide +kernel
theorem dX3_begin_32 : decode cX3_begin 32 = .ok (.aload_n 0, 1) := by decide +kernel
theorem dX3_begin_33 : decode cX3_begin 33 = .ok (.iconst 0, 1) := by decide +kernel
theorem dX3_begin_34 : decode cX3_begin 34 = .ok (.putfield 59, 3) := by decide +kernel
theorem dX3_begin_37 : decode cX3_begin 37 = .ok (.aload_n 0, 1) := by decide +kernel
theorem dX3_begin_38 : decode cX3_begin 38 = .ok (.iload_n 1, 1) := by decide +kernel
theorem dX3_begin_39 : decode cX3_begin 39 = .ok (.invokevirtual 62, 3) := by decide +kernel
theorem dX3_begin_42 : decode cX3_begin 42 = .ok (.aload_n 0, 1) := by decide +kernel
theorem dX3_begin_43 : decode cX3_begin 43 = .ok (.getfield 22, 3) := by decide +kernel
theorem dX3_begin_46 : decode cX3_begin 46 = .ok (.iconst 0, 1) := by decide +kernel
theorem dX3_begin_47 : decode cX3_begin 47 = .ok (.iconst 0, 1) := by decide +kernel
theorem dX3_begin_48 : decode cX3_begin 48 = .ok (.invokestatic 66, 3) := by decide +kernel
theorem dX3_begin_51 : decode cX3_begin 51 = .ok (.bipush 105, 2) := by decide +kernel
theorem dX3_begin_53 : decode cX3_begin 53 = .ok (.iload_n 2, 1) := by decide +kernel
theorem dX3_begin_54 : decode cX3_begin 54 = .ok (.invokevirtual 70, 3) := by decide +kernel
theorem dX3_begin_57 : decode cX3_begin 57 = .ok (.return_, 1) := by decide +kernel
theorem dX3_runOut_0 : decode cX3_runOut 0 = .ok (.iconst 0, 1) := by decide +kernel
theorem dX3_runOut_1 : decode cX3_runOut 1 = .ok (.istore_n 1, 1) := by decide +kernel
theorem dX3_runOut_2 : decode cX3_runOut 2 = .ok (.iload_n 1, 1) := by decide +kernel
theorem dX3_runOut_3 : decode cX3_runOut 3 = .ok (.ldc 74, 2) := by decide +kernel
theorem dX3_runOut_5 : decode cX3_runOut 5 = .ok (.if_icmp .ge 54, 3) := by decide +kernel
theorem dX3_runOut_8 : decode cX3_runOut 8 = .ok (.aload_n 0, 1) := by decide +kernel
theorem dX3_runOut_9 : decode cX3_runOut 9 = .ok (.invokevirtual 75, 3) := by decide +kernel
theorem dX3_runOut_12 : decode cX3_runOut 12 = .ok (.ifCond .eq 47, 3) := by decide +kernel
theorem dX3_runOut_15 : decode cX3_runOut 15 = .ok (.aload_n 0, 1) := by decide +kernel
theorem dX3_runOut_16 : decode cX3_runOut 16 = .ok (.invokevirtual 79, 3) := by decide +kernel
theorem dX3_runOut_19 : decode cX3_runOut 19 = .ok (.ifCond .eq 10, 3) := by decide +kernel
theorem dX3_runOut_22 : decode cX3_runOut 22 = .ok (.aload_n 0, 1) := by decide +kernel
theorem dX3_runOut_23 : decode cX3_runOut 23 = .ok (.invokevirtual 82, 3) := by decide +kernel
theorem dX3_runOut_26 : decode cX3_runOut 26 = .ok (.goto 27, 3) := by decide +kernel
theorem dX3_runOut_29 : decode cX3_runOut 29 = .ok (.aload_n 0, 1) := by decide +kernel
theorem dX3_runOut_30 : decode cX3_runOut 30 = .ok (.invokevirtual 85, 3) := by decide +kernel
theorem dX3_runOut_33 : decode cX3_runOut 33 = .ok (.istore_n 2, 1) := by decide +kernel
theorem dX3_runOut_34 : decode cX3_runOut 34 = .ok (.iload_n 2, 1) := by decide +kernel
theorem dX3_runOut_35 : decode cX3_runOut 35 = .ok (.bipush 45, 2) := by decide +kernel
theorem dX3_runOut_37 : decode cX3_runOut 37 = .ok (.if_icmp .eq 11, 3) := by decide +kernel
theorem dX3_runOut_40 : decode cX3_runOut 40 = .ok (.aload_n 0, 1) := by decide +kernel
theorem dX3_runOut_41 : decode cX3_runOut 41 = .ok (.iload_n 2, 1) := by decide +kernel
theorem dX3_runOut_42 : decode cX3_runOut 42 = .ok (.invokevirtual 89, 3) := by decide +kernel
theorem dX3_runOut_45 : decode cX3_runOut 45 = .ok (.goto 8, 3) := by decide +kernel
theorem dX3_runOut_48 : decode cX3_runOut 48 = .ok (.aload_n 0, 1) := by decide +kernel
theorem dX3_runOut_49 : decode cX3_runOut 49 = .ok (.invokevirtual 93, 3) := by decide +kernel
theorem dX3_runOut_52 : decode cX3_runOut 52 = .ok (.pop, 1) := by decide +kernel
theorem dX3_runOut_53 : decode cX3_runOut 53 = .ok (.iinc 1 1, 3) := by decide +kernel
theorem dX3_runOut_56 : decode cX3_runOut 56 = .ok (.goto (-54), 3) := by decide +kernel
theorem dX3_runOut_59 : decode cX3_runOut 59 = .ok (.return_, 1) := by decide +kernel
theorem dX3_isRunning_0 : decode cX3_isRunning 0 = .ok (.aload_n 0, 1) := by decide +kernel
theorem dX3_isRunning_1 : decode cX3_isRunning 1 = .ok (.getfield 39, 3) := by decide +kernel
theorem dX3_isRunning_4 : decode cX3_isRunning 4 = .ok (.bipush 45, 2) := by decide +kernel
theorem dX3_isRunning_6 : decode cX3_isRunning 6 = .ok (.if_icmp .ne 7, 3) := by decide +kernel
theorem dX3_isRunning_9 : decode cX3_isRunning 9 = .ok (.iconst 1, 1) := by decide +kernel
theorem dX3_isRunning_10 : decode cX3_isRunning 10 = .ok (.goto 4, 3) := by decide +kernel
theorem dX3_isRunning_13 : decode cX3_isRunning 13 = .ok (.iconst 0, 1) := by decide +kernel
theorem dX3_isRunning_14 : decode cX3_isRunning 14 = .ok (.ireturn, 1) := by decide +kernel
theorem dX3_isAtLimit_0 : decode cX3_isAtLimit 0 = .ok (.aload_n 0, 1) := by decide +kernel
theorem dX3_isAtLimit_1 : decode cX3_isAtLimit 1 = .ok (.getfield 56, 3) := by decide +kernel
theorem dX3_isAtLimit_4 : decode cX3_isAtLimit 4 = .ok (.sipush 1000, 3) := by decide +kernel
theorem dX3_isAtLimit_7 : decode cX3_isAtLimit 7 = .ok (.if_icmp .lt 7, 3) := by decide +kernel
theorem dX3_isAtLimit_10 : decode cX3_isAtLimit 10 = .ok (.iconst 1, 1) := by decide +kernel
theorem dX3_isAtLimit_11 : decode cX3_isAtLimit 11 = .ok (.goto 4, 3) := by decide +kernel
theorem dX3_isAtLimit_14 : decode cX3_isAtLimit 14 = .ok (.iconst 0, 1) := by decide +kernel
theorem dX3_isAtLimit_15 : decode cX3_isAtLimit 15 = .ok (.ireturn, 1) := by decide +kernel
theorem dX3_endAtLimit_0 : decode cX3_endAtLimit 0 = .ok (.aload_n 0, 1) := by decide +kernel
theorem dX3_endAtLimit_1 : decode cX3_endAtLimit 1 = .ok (.bipush 108, 2) := by decide +kernel
theorem dX3_endAtLimit_3 : decode cX3_endAtLimit 3 = .ok (.aload_n 0, 1) := by decide +kernel
theorem dX3_endAtLimit_4 : decode cX3_endAtLimit 4 = .ok (.invokevirtual 96, 3) := by decide +kernel
theorem dX3_endAtLimit_7 : decode cX3_endAtLimit 7 = .ok (.invokevirtual 100, 3) := by decide +kernel
theorem dX3_endAtLimit_10 : decode cX3_endAtLimit 10 = .ok (.return_, 1) := by decide +kernel
theorem dX3_endWith_0 : decode cX3_endWith 0 = .ok (.aload_n 0, 1) := by decide +kernel
theorem dX3_endWith_1 : decode cX3_endWith 1 = .ok (.bipush 120, 2) := by decide +kernel
theorem dX3_endWith_3 : decode cX3_endWith 3 = .ok (.putfield 39, 3) := by decide +kernel
theorem dX3_endWith_6 : decode cX3_endWith 6 = .ok (.aload_n 0, 1) := by decide +kernel
theorem dX3_endWith_7 : decode cX3_endWith 7 = .ok (.iload_n 1, 1) := by decide +kernel
theorem dX3_endWith_8 : decode cX3_endWith 8 = .ok (.putfield 43, 3) := by decide +kernel
theorem dX3_endWith_11 : decode cX3_endWith 11 = .ok (.aload_n 0, 1) := by decide +kernel
theorem dX3_endWith_12 : decode cX3_endWith 12 = .ok (.iload_n 2, 1) := by decide +kernel
theorem dX3_endWith_13 : decode cX3_endWith 13 = .ok (.putfield 59, 3) := by decide +kernel
theorem dX3_endWith_16 : decode cX3_endWith 16 = .ok (.return_, 1) := by decide +kernel
theorem dX3_addFrame_0 : decode cX3_addFrame 0 = .ok (.aload_n 0, 1) := by decide +kernel
theorem dX3_addFrame_1 : decode cX3_addFrame 1 = .ok (.getfield 26, 3) := by decide +kernel
theorem dX3_addFrame_4 : decode cX3_addFrame 4 = .ok (.aload_n 0, 1) := by decide +kernel
theorem dX3_addFrame_5 : decode cX3_addFrame 5 = .ok (.getfield 46, 3) := by decide +kernel
theorem dX3_addFrame_8 : decode cX3_addFrame 8 = .ok (.iload_n 1, 1) := by decide +kernel
theorem dX3_addFrame_9 : decode cX3_addFrame 9 = .ok (.iastore, 1) := by decide +kernel
theorem dX3_addFrame_10 : decode cX3_addFrame 10 = .ok (.aload_n 0, 1) := by decide +kernel
theorem dX3_addFrame_11 : decode cX3_addFrame 11 = .ok (.getfield 30, 3) := by decide +kernel
theorem dX3_addFrame_14 : decode cX3_addFrame 14 = .ok (.aload_n 0, 1) := by decide +kernel
theorem dX3_addFrame_15 : decode cX3_addFrame 15 = .ok (.getfield 46, 3) := by decide +kernel
theorem dX3_addFrame_18 : decode cX3_addFrame 18 = .ok (.iconst 0, 1) := by decide +kernel
theorem dX3_addFrame_19 : decode cX3_addFrame 19 = .ok (.iastore, 1) := by decide +kernel
theorem dX3_addFrame_20 : decode cX3_addFrame 20 = .ok (.aload_n 0, 1) := by decide +kernel
theorem dX3_addFrame_21 : decode cX3_addFrame 21 = .ok (.getfield 33, 3) := by decide +kernel
theorem dX3_addFrame_24 : decode cX3_addFrame 24 = .ok (.aload_n 0, 1) := by decide +kernel
theorem dX3_addFrame_25 : decode cX3_addFrame 25 = .ok (.getfield 46, 3) := by decide +kernel
theorem dX3_addFrame_28 : decode cX3_addFrame 28 = .ok (.iconst 0, 1) := by decide +kernel
theorem dX3_addFrame_29 : decode cX3_addFrame 29 = .ok (.iastore, 1) := by decide +kernel
theorem dX3_addFrame_30 : decode cX3_addFrame 30 = .ok (.iconst 0, 1) := by decide +kernel
theorem dX3_addFrame_31 : decode cX3_addFrame 31 = .ok (.istore_n 2, 1) := by decide +kernel
theorem dX3_addFrame_32 : decode cX3_addFrame 32 = .ok (.iload_n 2, 1) := by decide +kernel
theorem dX3_addFrame_33 : decode cX3_addFrame 33 = .ok (.bipush 6, 2) := by decide +kernel
theorem dX3_addFrame_35 : decode cX3_addFrame 35 = .ok (.if_icmp .ge 27, 3) := by decide +kernel
theorem dX3_addFrame_38 : decode cX3_addFrame 38 = .ok (.aload_n 0, 1) := by decide +kernel
theorem dX3_addFrame_39 : decode cX3_addFrame 39 = .ok (.getfield 22, 3) := by decide +kernel
theorem dX3_addFrame_42 : decode cX3_addFrame 42 = .ok (.aload_n 0, 1) := by decide +kernel
theorem dX3_addFrame_43 : decode cX3_addFrame 43 = .ok (.getfield 46, 3) := by decide +kernel
theorem dX3_addFrame_46 : decode cX3_addFrame 46 = .ok (.iload_n 2, 1) := by decide +kernel
theorem dX3_addFrame_47 : decode cX3_addFrame 47 = .ok (.invokestatic 66, 3) := by decide +kernel
theorem dX3_addFrame_50 : decode cX3_addFrame 50 = .ok (.bipush 110, 2) := by decide +kernel
theorem dX3_addFrame_52 : decode cX3_addFrame 52 = .ok (.iconst 0, 1) := by decide +kernel
theorem dX3_addFrame_53 : decode cX3_addFrame 53 = .ok (.invokevirtual 70, 3) := by decide +kernel
theorem dX3_addFrame_56 : decode cX3_addFrame 56 = .ok (.iinc 2 1, 3) := by decide +kernel
theorem dX3_addFrame_59 : decode cX3_addFrame 59 = .ok (.goto (-27), 3) := by decide +kernel
theorem dX3_addFrame_62 : decode cX3_addFrame 62 = .ok (.aload_n 0, 1) := by decide +kernel
theorem dX3_addFrame_63 : decode cX3_addFrame 63 = .ok (.dup, 1) := by decide +kernel
theorem dX3_addFrame_64 : decode cX3_addFrame 64 = .ok (.getfield 46, 3) := by decide +kernel
theorem dX3_addFrame_67 : decode cX3_addFrame 67 = .ok (.iconst 1, 1) := by decide +kernel
theorem dX3_addFrame_68 : decode cX3_addFrame 68 = .ok (.iadd, 1) := by decide +kernel
theorem dX3_addFrame_69 : decode cX3_addFrame 69 = .ok (.putfield 46, 3) := by decide +kernel
theorem dX3_addFrame_72 : decode cX3_addFrame 72 = .ok (.return_, 1) := by decide +kernel
theorem dX3_functionAhead_0 : decode cX3_functionAhead 0 = .ok (.aload_n 0, 1) := by decide +kernel
theorem dX3_functionAhead_1 : decode cX3_functionAhead 1 = .ok (.getfield 26, 3) := by decide +kernel
theorem dX3_functionAhead_4 : decode cX3_functionAhead 4 = .ok (.aload_n 0, 1) := by decide +kernel
theorem dX3_functionAhead_5 : decode cX3_functionAhead 5 = .ok (.getfield 46, 3) := by decide +kernel
theorem dX3_functionAhead_8 : decode cX3_functionAhead 8 = .ok (.iconst 1, 1) := by decide +kernel
theorem dX3_functionAhead_9 : decode cX3_functionAhead 9 = .ok (.isub, 1) := by decide +kernel
theorem dX3_functionAhead_10 : decode cX3_functionAhead 10 = .ok (.iaload, 1) := by decide +kernel
theorem dX3_functionAhead_11 : decode cX3_functionAhead 11 = .ok (.ireturn, 1) := by decide +kernel
theorem dX3_indexAhead_0 : decode cX3_indexAhead 0 = .ok (.aload_n 0, 1) := by decide +kernel
theorem dX3_indexAhead_1 : decode cX3_indexAhead 1 = .ok (.getfield 30, 3) := by decide +kernel
theorem dX3_indexAhead_4 : decode cX3_indexAhead 4 = .ok (.aload_n 0, 1) := by decide +kernel
theorem dX3_indexAhead_5 : decode cX3_indexAhead 5 = .ok (.getfield 46, 3) := by decide +kernel
theorem dX3_indexAhead_8 : decode cX3_indexAhead 8 = .ok (.iconst 1, 1) := by decide +kernel
theorem dX3_indexAhead_9 : decode cX3_indexAhead 9 = .ok (.isub, 1) := by decide +kernel
theorem dX3_indexAhead_10 : decode cX3_indexAhead 10 = .ok (.iaload, 1) := by decide +kernel
theorem dX3_indexAhead_11 : decode cX3_indexAhead 11 = .ok (.ireturn, 1) := by decide +kernel
theorem dX3_siteAhead_0 : decode cX3_siteAhead 0 = .ok (.aload_n 0, 1) := by decide +kernel
theorem dX3_siteAhead_1 : decode cX3_siteAhead 1 = .ok (.invokevirtual 104, 3) := by decide +kernel
theorem dX3_siteAhead_4 : decode cX3_siteAhead 4 = .ok (.aload_n 0, 1) := by decide +kernel
theorem dX3_siteAhead_5 : decode cX3_siteAhead 5 = .ok (.invokevirtual 107, 3) := by decide +kernel
theorem dX3_siteAhead_8 : decode cX3_siteAhead 8 = .ok (.invokestatic 110, 3) := by decide +kernel
theorem dX3_siteAhead_11 : decode cX3_siteAhead 11 = .ok (.ireturn, 1) := by decide +kernel
theorem dX3_lineAhead_0 : decode cX3_lineAhead 0 = .ok (.aload_n 0, 1) := by decide +kernel
theorem dX3_lineAhead_1 : decode cX3_lineAhead 1 = .ok (.invokevirtual 104, 3) := by decide +kernel
theorem dX3_lineAhead_4 : decode cX3_lineAhead 4 = .ok (.bipush 100, 2) := by decide +kernel
theorem dX3_lineAhead_6 : decode cX3_lineAhead 6 = .ok (.imul, 1) := by decide +kernel
theorem dX3_lineAhead_7 : decode cX3_lineAhead 7 = .ok (.aload_n 0, 1) := by decide +kernel
theorem dX3_lineAhead_8 : decode cX3_lineAhead 8 = .ok (.invokevirtual 107, 3) := by decide +kernel
theorem dX3_lineAhead_11 : decode cX3_lineAhead 11 = .ok (.iadd, 1) := by decide +kernel
theorem dX3_lineAhead_12 : decode cX3_lineAhead 12 = .ok (.ireturn, 1) := by decide +kernel
theorem dX3_fromTop_0 : decode cX3_fromTop 0 = .ok (.aload_n 0, 1) := by decide +kernel
theorem dX3_fromTop_1 : decode cX3_fromTop 1 = .ok (.getfield 46, 3) := by decide +kernel
theorem dX3_fromTop_4 : decode cX3_fromTop 4 = .ok (.iconst 1, 1) := by decide +kernel
theorem dX3_fromTop_5 : decode cX3_fromTop 5 = .ok (.isub, 1) := by decide +kernel
theorem dX3_fromTop_6 : decode cX3_fromTop 6 = .ok (.istore_n 2, 1) := by decide +kernel
theorem dX3_fromTop_7 : decode cX3_fromTop 7 = .ok (.iload_n 2, 1) := by decide +kernel
theorem dX3_fromTop_8 : decode cX3_fromTop 8 = .ok (.bipush 14, 2) := by decide +kernel
theorem dX3_fromTop_10 : decode cX3_fromTop 10 = .ok (.imul, 1) := by decide +kernel
theorem dX3_fromTop_11 : decode cX3_fromTop 11 = .ok (.bipush 6, 2) := by decide +kernel
theorem dX3_fromTop_13 : decode cX3_fromTop 13 = .ok (.iadd, 1) := by decide +kernel
theorem dX3_fromTop_14 : decode cX3_fromTop 14 = .ok (.aload_n 0, 1) := by decide +kernel
theorem dX3_fromTop_15 : decode cX3_fromTop 15 = .ok (.getfield 33, 3) := by decide +kernel
theorem dX3_fromTop_18 : decode cX3_fromTop 18 = .ok (.iload_n 2, 1) := by decide +kernel
theorem dX3_fromTop_19 : decode cX3_fromTop 19 = .ok (.iaload, 1) := by decide +kernel
theorem dX3_fromTop_20 : decode cX3_fromTop 20 = .ok (.iadd, 1) := by decide +kernel
theorem dX3_fromTop_21 : decode cX3_fromTop 21 = .ok (.iload_n 1, 1) := by decide +kernel
theorem dX3_fromTop_22 : decode cX3_fromTop 22 = .ok (.isub, 1) := by decide +kernel
theorem dX3_fromTop_23 : decode cX3_fromTop 23 = .ok (.ireturn, 1) := by decide +kernel
theorem dX3_shapeFromTop_0 : decode cX3_shapeFromTop 0 = .ok (.aload_n 0, 1) := by decide +kernel
theorem dX3_shapeFromTop_1 : decode cX3_shapeFromTop 1 = .ok (.getfield 36, 3) := by decide +kernel
theorem dX3_shapeFromTop_4 : decode cX3_shapeFromTop 4 = .ok (.aload_n 0, 1) := by decide +kernel
theorem dX3_shapeFromTop_5 : decode cX3_shapeFromTop 5 = .ok (.getfield 22, 3) := by decide +kernel
theorem dX3_shapeFromTop_8 : decode cX3_shapeFromTop 8 = .ok (.getfield 113, 3) := by decide +kernel
theorem dX3_shapeFromTop_11 : decode cX3_shapeFromTop 11 = .ok (.aload_n 0, 1) := by decide +kernel
theorem dX3_shapeFromTop_12 : decode cX3_shapeFromTop 12 = .ok (.iload_n 1, 1) := by decide +kernel
theorem dX3_shapeFromTop_13 : decode cX3_shapeFromTop 13 = .ok (.invokevirtual 116, 3) := by decide +kernel
theorem dX3_shapeFromTop_16 : decode cX3_shapeFromTop 16 = .ok (.iaload, 1) := by decide +kernel
theorem dX3_shapeFromTop_17 : decode cX3_shapeFromTop 17 = .ok (.iaload, 1) := by decide +kernel
theorem dX3_shapeFromTop_18 : decode cX3_shapeFromTop 18 = .ok (.ireturn, 1) := by decide +kernel
theorem dX3_classFromTop_0 : decode cX3_classFromTop 0 = .ok (.aload_n 0, 1) := by decide +kernel
theorem dX3_classFromTop_1 : decode cX3_classFromTop 1 = .ok (.getfield 15, 3) := by decide +kernel
theorem dX3_classFromTop_4 : decode cX3_classFromTop 4 = .ok (.getfield 120, 3) := by decide +kernel
theorem dX3_classFromTop_7 : decode cX3_classFromTop 7 = .ok (.aload_n 0, 1) := by decide +kernel
theorem dX3_classFromTop_8 : decode cX3_classFromTop 8 = .ok (.iconst 1, 1) := by decide +kernel
theorem dX3_classFromTop_9 : decode cX3_classFromTop 9 = .ok (.invokevirtual 125, 3) := by decide +kernel
theorem dX3_classFromTop_12 : decode cX3_classFromTop 12 = .ok (.iaload, 1) := by decide +kernel
theorem dX3_classFromTop_13 : decode cX3_classFromTop 13 = .ok (.ireturn, 1) := by decide +kernel
theorem dX3_failureAhead_0 : decode cX3_failureAhead 0 = .ok (.aload_n 0, 1) := by decide +kernel
theorem dX3_failureAhead_1 : decode cX3_failureAhead 1 = .ok (.getfield 9, 3) := by decide +kernel
theorem dX3_failureAhead_4 : decode cX3_failureAhead 4 = .ok (.aload_n 0, 1) := by decide +kernel
theorem dX3_failureAhead_5 : decode cX3_failureAhead 5 = .ok (.invokevirtual 104, 3) := by decide +kernel
theorem dX3_failureAhead_8 : decode cX3_failureAhead 8 = .ok (.aload_n 0, 1) := by decide +kernel
theorem dX3_failureAhead_9 : decode cX3_failureAhead 9 = .ok (.invokevirtual 107, 3) := by decide +kernel
theorem dX3_failureAhead_12 : decode cX3_failureAhead 12 = .ok (.invokevirtual 128, 3) := by decide +kernel
theorem dX3_failureAhead_15 : decode cX3_failureAhead 15 = .ok (.ifCond .ne 6, 3) := by decide +kernel
theorem dX3_failureAhead_18 : decode cX3_failureAhead 18 = .ok (.bipush 101, 2) := by decide +kernel
theorem dX3_failureAhead_20 : decode cX3_failureAhead 20 = .ok (.ireturn, 1) := by decide +kernel
theorem dX3_failureAhead_21 : decode cX3_failureAhead 21 = .ok (.aload_n 0, 1) := by decide +kernel
theorem dX3_failureAhead_22 : decode cX3_failureAhead 22 = .ok (.aload_n 0, 1) := by decide +kernel
theorem dX3_failureAhead_23 : decode cX3_failureAhead 23 = .ok (.getfield 9, 3) := by decide +kernel
theorem dX3_failureAhead_26 : decode cX3_failureAhead 26 = .ok (.getfield 134, 3) := by decide +kernel
theorem dX3_failureAhead_29 : decode cX3_failureAhead 29 = .ok (.aload_n 0, 1) := by decide +kernel
theorem dX3_failureAhead_30 : decode cX3_failureAhead 30 = .ok (.invokevirtual 138, 3) := by decide +kernel
theorem dX3_failureAhead_33 : decode cX3_failureAhead 33 = .ok (.caload, 1) := by decide +kernel
theorem dX3_failureAhead_34 : decode cX3_failureAhead 34 = .ok (.putfield 141, 3) := by decide +kernel
theorem dX3_failureAhead_37 : decode cX3_failureAhead 37 = .ok (.aload_n 0, 1) := by decide +kernel
theorem dX3_failureAhead_38 : decode cX3_failureAhead 38 = .ok (.aload_n 0, 1) := by decide +kernel
theorem dX3_failureAhead_39 : decode cX3_failureAhead 39 = .ok (.getfield 9, 3) := by decide +kernel
theorem dX3_failureAhead_42 : decode cX3_failureAhead 42 = .ok (.getfield 144, 3) := by decide +kernel
theorem dX3_failureAhead_45 : decode cX3_failureAhead 45 = .ok (.aload_n 0, 1) := by decide +kernel
theorem dX3_failureAhead_46 : decode cX3_failureAhead 46 = .ok (.invokevirtual 138, 3) := by decide +kernel
theorem dX3_failureAhead_49 : decode cX3_failureAhead 49 = .ok (.iaload, 1) := by decide +kernel
theorem dX3_failureAhead_50 : decode cX3_failureAhead 50 = .ok (.putfield 147, 3) := by decide +kernel
theorem dX3_failureAhead_53 : decode cX3_failureAhead 53 = .ok (.aload_n 0, 1) := by decide +kernel
theorem dX3_failureAhead_54 : decode cX3_failureAhead 54 = .ok (.aload_n 0, 1) := by decide +kernel
theorem dX3_failureAhead_55 : decode cX3_failureAhead 55 = .ok (.getfield 141, 3) := by decide +kernel
theorem dX3_failureAhead_58 : decode cX3_failureAhead 58 = .ok (.aload_n 0, 1) := by decide +kernel
theorem dX3_failureAhead_59 : decode cX3_failureAhead 59 = .ok (.getfield 147, 3) := by decide +kernel
theorem dX3_failureAhead_62 : decode cX3_failureAhead 62 = .ok (.invokevirtual 150, 3) := by decide +kernel
theorem dX3_failureAhead_65 : decode cX3_failureAhead 65 = .ok (.ifCond .eq 6, 3) := by decide +kernel
theorem dX3_failureAhead_68 : decode cX3_failureAhead 68 = .ok (.bipush 115, 2) := by decide +kernel
theorem dX3_failureAhead_70 : decode cX3_failureAhead 70 = .ok (.ireturn, 1) := by decide +kernel
theorem dX3_failureAhead_71 : decode cX3_failureAhead 71 = .ok (.aload_n 0, 1) := by decide +kernel
theorem dX3_failureAhead_72 : decode cX3_failureAhead 72 = .ok (.aload_n 0, 1) := by decide +kernel
theorem dX3_failureAhead_73 : decode cX3_failureAhead 73 = .ok (.getfield 141, 3) := by decide +kernel
theorem dX3_failureAhead_76 : decode cX3_failureAhead 76 = .ok (.invokevirtual 154, 3) := by decide +kernel
theorem dX3_failureAhead_79 : decode cX3_failureAhead 79 = .ok (.ifCond .eq 6, 3) := by decide +kernel
theorem dX3_failureAhead_82 : decode cX3_failureAhead 82 = .ok (.bipush 107, 2) := by decide +kernel
theorem dX3_failureAhead_84 : decode cX3_failureAhead 84 = .ok (.ireturn, 1) := by decide +kernel
theorem dX3_failureAhead_85 : decode cX3_failureAhead 85 = .ok (.aload_n 0, 1) := by decide +kernel
theorem dX3_failureAhead_86 : decode cX3_failureAhead 86 = .ok (.aload_n 0, 1) := by decide +kernel
theorem dX3_failureAhead_87 : decode cX3_failureAhead 87 = .ok (.getfield 141, 3) := by decide +kernel
theorem dX3_failureAhead_90 : decode cX3_failureAhead 90 = .ok (.aload_n 0, 1) := by decide +kernel
theorem dX3_failureAhead_91 : decode cX3_failureAhead 91 = .ok (.getfield 147, 3) := by decide +kernel
theorem dX3_failureAhead_94 : decode cX3_failureAhead 94 = .ok (.invokevirtual 158, 3) := by decide +kernel
theorem dX3_failureAhead_97 : decode cX3_failureAhead 97 = .ok (.ireturn, 1) := by decide +kernel
theorem dX3_failsByStack_0 : decode cX3_failsByStack 0 = .ok (.aload_n 0, 1) := by decide +kernel
theorem dX3_failsByStack_1 : decode cX3_failsByStack 1 = .ok (.getfield 33, 3) := by decide +kernel
theorem dX3_failsByStack_4 : decode cX3_failsByStack 4 = .ok (.aload_n 0, 1) := by decide +kernel
theorem dX3_failsByStack_5 : decode cX3_failsByStack 5 = .ok (.getfield 46, 3) := by decide +kernel
theorem dX3_failsByStack_8 : decode cX3_failsByStack 8 = .ok (.iconst 1, 1) := by decide +kernel
theorem dX3_failsByStack_9 : decode cX3_failsByStack 9 = .ok (.isub, 1) := by decide +kernel
theorem dX3_failsByStack_10 : decode cX3_failsByStack 10 = .ok (.iaload, 1) := by decide +kernel
theorem dX3_failsByStack_11 : decode cX3_failsByStack 11 = .ok (.istore_n 3, 1) := by decide +kernel
theorem dX3_failsByStack_12 : decode cX3_failsByStack 12 = .ok (.aload_n 0, 1) := by decide +kernel
theorem dX3_failsByStack_13 : decode cX3_failsByStack 13 = .ok (.iload_n 1, 1) := by decide +kernel
theorem dX3_failsByStack_14 : decode cX3_failsByStack 14 = .ok (.iload_n 2, 1) := by decide +kernel
theorem dX3_failsByStack_15 : decode cX3_failsByStack 15 = .ok (.invokevirtual 162, 3) := by decide +kernel
theorem dX3_failsByStack_18 : decode cX3_failsByStack 18 = .ok (.istore 4, 2) := by decide +kernel
theorem dX3_failsByStack_20 : decode cX3_failsByStack 20 = .ok (.iload_n 3, 1) := by decide +kernel
theorem dX3_failsByStack_21 : decode cX3_failsByStack 21 = .ok (.iload 4, 2) := by decide +kernel
theorem dX3_failsByStack_23 : decode cX3_failsByStack 23 = .ok (.if_icmp .lt 18, 3) := by decide +kernel
theorem dX3_failsByStack_26 : decode cX3_failsByStack 26 = .ok (.iload_n 3, 1) := by decide +kernel
theorem dX3_failsByStack_27 : decode cX3_failsByStack 27 = .ok (.iload 4, 2) := by decide +kernel
theorem dX3_failsByStack_29 : decode cX3_failsByStack 29 = .ok (.isub, 1) := by decide +kernel
theorem dX3_failsByStack_30 : decode cX3_failsByStack 30 = .ok (.aload_n 0, 1) := by decide +kernel
theorem dX3_failsByStack_31 : decode cX3_failsByStack 31 = .ok (.iload_n 1, 1) := by decide +kernel
theorem dX3_failsByStack_32 : decode cX3_failsByStack 32 = .ok (.invokevirtual 166, 3) := by decide +kernel
theorem dX3_failsByStack_35 : decode cX3_failsByStack 35 = .ok (.iadd, 1) := by decide +kernel
theorem dX3_failsByStack_36 : decode cX3_failsByStack 36 = .ok (.bipush 8, 2) := by decide +kernel
theorem dX3_failsByStack_38 : decode cX3_failsByStack 38 = .ok (.if_icmp .le 5, 3) := by decide +kernel
theorem dX3_failsByStack_41 : decode cX3_failsByStack 41 = .ok (.iconst 1, 1) := by decide +kernel
theorem dX3_failsByStack_42 : decode cX3_failsByStack 42 = .ok (.ireturn, 1) := by decide +kernel
theorem dX3_failsByStack_43 : decode cX3_failsByStack 43 = .ok (.iload_n 1, 1) := by decide +kernel
theorem dX3_failsByStack_44 : decode cX3_failsByStack 44 = .ok (.bipush 114, 2) := by decide +kernel
theorem dX3_failsByStack_46 : decode cX3_failsByStack 46 = .ok (.if_icmp .ne 31, 3) := by decide +kernel
theorem dX3_failsByStack_49 : decode cX3_failsByStack 49 = .ok (.aload_n 0, 1) := by decide +kernel
theorem dX3_failsByStack_50 : decode cX3_failsByStack 50 = .ok (.getfield 46, 3) := by decide +kernel
theorem dX3_failsByStack_53 : decode cX3_failsByStack 53 = .ok (.iconst 1, 1) := by decide +kernel
theorem dX3_failsByStack_54 : decode cX3_failsByStack 54 = .ok (.if_icmp .le 23, 3) := by decide +kernel
theorem dX3_failsByStack_57 : decode cX3_failsByStack 57 = .ok (.aload_n 0, 1) := by decide +kernel
theorem dX3_failsByStack_58 : decode cX3_failsByStack 58 = .ok (.getfield 33, 3) := by decide +kernel
theorem dX3_failsByStack_61 : decode cX3_failsByStack 61 = .ok (.aload_n 0, 1) := by decide +kernel
theorem dX3_failsByStack_62 : decode cX3_failsByStack 62 = .ok (.getfield 46, 3) := by decide +kernel
theorem dX3_failsByStack_65 : decode cX3_failsByStack 65 = .ok (.iconst 2, 1) := by decide +kernel
theorem dX3_failsByStack_66 : decode cX3_failsByStack 66 = .ok (.isub, 1) := by decide +kernel
theorem dX3_failsByStack_67 : decode cX3_failsByStack 67 = .ok (.iaload, 1) := by decide +kernel
theorem dX3_failsByStack_68 : decode cX3_failsByStack 68 = .ok (.bipush 8, 2) := by decide +kernel
theorem dX3_failsByStack_70 : decode cX3_failsByStack 70 = .ok (.if_icmp .lt 7, 3) := by decide +kernel
theorem dX3_failsByStack_73 : decode cX3_failsByStack 73 = .ok (.iconst 1, 1) := by decide +kernel
theorem dX3_failsByStack_74 : decode cX3_failsByStack 74 = .ok (.goto 4, 3) := by decide +kernel
theorem dX3_failsByStack_77 : decode cX3_failsByStack 77 = .ok (.iconst 0, 1) := by decide +kernel
theorem dX3_failsByStack_78 : decode cX3_failsByStack 78 = .ok (.ireturn, 1) := by decide +kernel
theorem dX3_takes_0 : decode cX3_takes 0 = .ok (.iload_n 1, 1) := by decide +kernel
theorem dX3_takes_1 : decode cX3_takes 1 = .ok (.tableswitch 85 99 112 #[75, 85, 85, 85, 85, 85, 71, 71, 71, 71, 85, 71, 85, 73], 71) := by decide +kernel
theorem dX3_takes_72 : decode cX3_takes 72 = .ok (.iconst 0, 1) := by decide +kernel
theorem dX3_takes_73 : decode cX3_takes 73 = .ok (.ireturn, 1) := by decide +kernel
theorem dX3_takes_74 : decode cX3_takes 74 = .ok (.iconst 2, 1) := by decide +kernel
theorem dX3_takes_75 : decode cX3_takes 75 = .ok (.ireturn, 1) := by decide +kernel
theorem dX3_takes_76 : decode cX3_takes 76 = .ok (.aload_n 0, 1) := by decide +kernel
theorem dX3_takes_77 : decode cX3_takes 77 = .ok (.getfield 9, 3) := by decide +kernel
theorem dX3_takes_80 : decode cX3_takes 80 = .ok (.getfield 170, 3) := by decide +kernel
theorem dX3_takes_83 : decode cX3_takes 83 = .ok (.iload_n 2, 1) := by decide +kernel
theorem dX3_takes_84 : decode cX3_takes 84 = .ok (.iaload, 1) := by decide +kernel
theorem dX3_takes_85 : decode cX3_takes 85 = .ok (.ireturn, 1) := by decide +kernel
theorem dX3_takes_86 : decode cX3_takes 86 = .ok (.ldc 173, 2) := by decide +kernel
theorem dX3_takes_88 : decode cX3_takes 88 = .ok (.iload_n 1, 1) := by decide +kernel
theorem dX3_takes_89 : decode cX3_takes 89 = .ok (.invokevirtual 175, 3) := by decide +kernel
theorem dX3_takes_92 : decode cX3_takes 92 = .ok (.ifCond .lt 7, 3) := by decide +kernel
theorem dX3_takes_95 : decode cX3_takes 95 = .ok (.iconst 2, 1) := by decide +kernel
theorem dX3_takes_96 : decode cX3_takes 96 = .ok (.goto 4, 3) := by decide +kernel
theorem dX3_takes_99 : decode cX3_takes 99 = .ok (.iconst 1, 1) := by decide +kernel
theorem dX3_takes_100 : decode cX3_takes 100 = .ok (.ireturn, 1) := by decide +kernel
theorem dX3_pushes_0 : decode cX3_pushes 0 = .ok (.iload_n 1, 1) := by decide +kernel
theorem dX3_pushes_1 : decode cX3_pushes 1 = .ok (.tableswitch 115 99 122 #[111, 111, 115, 115, 115, 115, 115, 111, 115, 115, 111, 115, 115, 111, 115, 111, 111, 111, 113, 115, 115, 115, 115, 111], 111) := by decide +kernel
theorem dX3_pushes_112 : decode cX3_pushes 112 = .ok (.iconst 0, 1) := by decide +kernel
theorem dX3_pushes_113 : decode cX3_pushes 113 = .ok (.ireturn, 1) := by decide +kernel
theorem dX3_pushes_114 : decode cX3_pushes 114 = .ok (.iconst 2, 1) := by decide +kernel
theorem dX3_pushes_115 : decode cX3_pushes 115 = .ok (.ireturn, 1) := by decide +kernel
theorem dX3_pushes_116 : decode cX3_pushes 116 = .ok (.iconst 1, 1) := by decide +kernel
theorem dX3_pushes_117 : decode cX3_pushes 117 = .ok (.ireturn, 1) := by decide +kernel
theorem dX3_failsByKind_0 : decode cX3_failsByKind 0 = .ok (.iload_n 1, 1) := by decide +kernel
theorem dX3_failsByKind_1 : decode cX3_failsByKind 1 = .ok (.lookupswitch 112 #[(103, 64), (109, 64), (112, 88), (119, 43)], 43) := by decide +kernel
theorem dX3_failsByKind_44 : decode cX3_failsByKind 44 = .ok (.aload_n 0, 1) := by decide +kernel
theorem dX3_failsByKind_45 : decode cX3_failsByKind 45 = .ok (.getfield 22, 3) := by decide +kernel
theorem dX3_failsByKind_48 : decode cX3_failsByKind 48 = .ok (.aload_n 0, 1) := by decide +kernel
theorem dX3_failsByKind_49 : decode cX3_failsByKind 49 = .ok (.iconst 1, 1) := by decide +kernel
theorem dX3_failsByKind_50 : decode cX3_failsByKind 50 = .ok (.invokevirtual 116, 3) := by decide +kernel
theorem dX3_failsByKind_53 : decode cX3_failsByKind 53 = .ok (.invokevirtual 180, 3) := by decide +kernel
theorem dX3_failsByKind_56 : decode cX3_failsByKind 56 = .ok (.ifCond .ne 7, 3) := by decide +kernel
theorem dX3_failsByKind_59 : decode cX3_failsByKind 59 = .ok (.iconst 1, 1) := by decide +kernel
theorem dX3_failsByKind_60 : decode cX3_failsByKind 60 = .ok (.goto 4, 3) := by decide +kernel
theorem dX3_failsByKind_63 : decode cX3_failsByKind 63 = .ok (.iconst 0, 1) := by decide +kernel
theorem dX3_failsByKind_64 : decode cX3_failsByKind 64 = .ok (.ireturn, 1) := by decide +kernel
theorem dX3_failsByKind_65 : decode cX3_failsByKind 65 = .ok (.aload_n 0, 1) := by decide +kernel
theorem dX3_failsByKind_66 : decode cX3_failsByKind 66 = .ok (.getfield 22, 3) := by decide +kernel
theorem dX3_failsByKind_69 : decode cX3_failsByKind 69 = .ok (.getfield 184, 3) := by decide +kernel
theorem dX3_failsByKind_72 : decode cX3_failsByKind 72 = .ok (.aload_n 0, 1) := by decide +kernel
theorem dX3_failsByKind_73 : decode cX3_failsByKind 73 = .ok (.iconst 1, 1) := by decide +kernel
theorem dX3_failsByKind_74 : decode cX3_failsByKind 74 = .ok (.invokevirtual 116, 3) := by decide +kernel
theorem dX3_failsByKind_77 : decode cX3_failsByKind 77 = .ok (.caload, 1) := by decide +kernel
theorem dX3_failsByKind_78 : decode cX3_failsByKind 78 = .ok (.bipush 111, 2) := by decide +kernel
theorem dX3_failsByKind_80 : decode cX3_failsByKind 80 = .ok (.if_icmp .eq 7, 3) := by decide +kernel
theorem dX3_failsByKind_83 : decode cX3_failsByKind 83 = .ok (.iconst 1, 1) := by decide +kernel
theorem dX3_failsByKind_84 : decode cX3_failsByKind 84 = .ok (.goto 4, 3) := by decide +kernel
theorem dX3_failsByKind_87 : decode cX3_failsByKind 87 = .ok (.iconst 0, 1) := by decide +kernel
theorem dX3_failsByKind_88 : decode cX3_failsByKind 88 = .ok (.ireturn, 1) := by decide +kernel
theorem dX3_failsByKind_89 : decode cX3_failsByKind 89 = .ok (.aload_n 0, 1) := by decide +kernel
theorem dX3_failsByKind_90 : decode cX3_failsByKind 90 = .ok (.getfield 22, 3) := by decide +kernel
theorem dX3_failsByKind_93 : decode cX3_failsByKind 93 = .ok (.getfield 184, 3) := by decide +kernel
theorem dX3_failsByKind_96 : decode cX3_failsByKind 96 = .ok (.aload_n 0, 1) := by decide +kernel
theorem dX3_failsByKind_97 : decode cX3_failsByKind 97 = .ok (.iconst 2, 1) := by decide +kernel
theorem dX3_failsByKind_98 : decode cX3_failsByKind 98 = .ok (.invokevirtual 116, 3) := by decide +kernel
theorem dX3_failsByKind_101 : decode cX3_failsByKind 101 = .ok (.caload, 1) := by decide +kernel
theorem dX3_failsByKind_102 : decode cX3_failsByKind 102 = .ok (.bipush 111, 2) := by decide +kernel
theorem dX3_failsByKind_104 : decode cX3_failsByKind 104 = .ok (.if_icmp .eq 7, 3) := by decide +kernel
theorem dX3_failsByKind_107 : decode cX3_failsByKind 107 = .ok (.iconst 1, 1) := by decide +kernel
theorem dX3_failsByKind_108 : decode cX3_failsByKind 108 = .ok (.goto 4, 3) := by decide +kernel
theorem dX3_failsByKind_111 : decode cX3_failsByKind 111 = .ok (.iconst 0, 1) := by decide +kernel
theorem dX3_failsByKind_112 : decode cX3_failsByKind 112 = .ok (.ireturn, 1) := by decide +kernel
theorem dX3_failsByKind_113 : decode cX3_failsByKind 113 = .ok (.ldc 187, 2) := by decide +kernel
theorem dX3_failsByKind_115 : decode cX3_failsByKind 115 = .ok (.iload_n 1, 1) := by decide +kernel
theorem dX3_failsByKind_116 : decode cX3_failsByKind 116 = .ok (.invokevirtual 175, 3) := by decide +kernel
theorem dX3_failsByKind_119 : decode cX3_failsByKind 119 = .ok (.ifCond .lt 37, 3) := by decide +kernel
theorem dX3_failsByKind_122 : decode cX3_failsByKind 122 = .ok (.aload_n 0, 1) := by decide +kernel
theorem dX3_failsByKind_123 : decode cX3_failsByKind 123 = .ok (.getfield 22, 3) := by decide +kernel
theorem dX3_failsByKind_126 : decode cX3_failsByKind 126 = .ok (.aload_n 0, 1) := by decide +kernel
theorem dX3_failsByKind_127 : decode cX3_failsByKind 127 = .ok (.iconst 2, 1) := by decide +kernel
theorem dX3_failsByKind_128 : decode cX3_failsByKind 128 = .ok (.invokevirtual 116, 3) := by decide +kernel
theorem dX3_failsByKind_131 : decode cX3_failsByKind 131 = .ok (.invokevirtual 180, 3) := by decide +kernel
theorem dX3_failsByKind_134 : decode cX3_failsByKind 134 = .ok (.ifCond .eq 18, 3) := by decide +kernel
theorem dX3_failsByKind_137 : decode cX3_failsByKind 137 = .ok (.aload_n 0, 1) := by decide +kernel
theorem dX3_failsByKind_138 : decode cX3_failsByKind 138 = .ok (.getfield 22, 3) := by decide +kernel
theorem dX3_failsByKind_141 : decode cX3_failsByKind 141 = .ok (.aload_n 0, 1) := by decide +kernel
theorem dX3_failsByKind_142 : decode cX3_failsByKind 142 = .ok (.iconst 1, 1) := by decide +kernel
theorem dX3_failsByKind_143 : decode cX3_failsByKind 143 = .ok (.invokevirtual 116, 3) := by decide +kernel
theorem dX3_failsByKind_146 : decode cX3_failsByKind 146 = .ok (.invokevirtual 180, 3) := by decide +kernel
theorem dX3_failsByKind_149 : decode cX3_failsByKind 149 = .ok (.ifCond .ne 7, 3) := by decide +kernel
theorem dX3_failsByKind_152 : decode cX3_failsByKind 152 = .ok (.iconst 1, 1) := by decide +kernel
theorem dX3_failsByKind_153 : decode cX3_failsByKind 153 = .ok (.goto 4, 3) := by decide +kernel
theorem dX3_failsByKind_156 : decode cX3_failsByKind 156 = .ok (.iconst 0, 1) := by decide +kernel
theorem dX3_failsByKind_157 : decode cX3_failsByKind 157 = .ok (.ireturn, 1) := by decide +kernel
theorem dX3_failureByValue_0 : decode cX3_failureByValue 0 = .ok (.iload_n 1, 1) := by decide +kernel
theorem dX3_failureByValue_1 : decode cX3_failureByValue 1 = .ok (.lookupswitch 209 #[(37, 75), (47, 75), (99, 187), (103, 113), (109, 161), (110, 192), (112, 137), (119, 90)], 75) := by decide +kernel
theorem dX3_failureByValue_76 : decode cX3_failureByValue 76 = .ok (.aload_n 0, 1) := by decide +kernel
theorem dX3_failureByValue_77 : decode cX3_failureByValue 77 = .ok (.invokevirtual 189, 3) := by decide +kernel
theorem dX3_failureByValue_80 : decode cX3_failureByValue 80 = .ok (.ifCond .eq 8, 3) := by decide +kernel
theorem dX3_failureByValue_83 : decode cX3_failureByValue 83 = .ok (.bipush 48, 2) := by decide +kernel
theorem dX3_failureByValue_85 : decode cX3_failureByValue 85 = .ok (.goto 5, 3) := by decide +kernel
theorem dX3_failureByValue_88 : decode cX3_failureByValue 88 = .ok (.bipush 45, 2) := by decide +kernel
theorem dX3_failureByValue_90 : decode cX3_failureByValue 90 = .ok (.ireturn, 1) := by decide +kernel
theorem dX3_failureByValue_91 : decode cX3_failureByValue 91 = .ok (.aload_n 0, 1) := by decide +kernel
theorem dX3_failureByValue_92 : decode cX3_failureByValue 92 = .ok (.getfield 22, 3) := by decide +kernel
theorem dX3_failureByValue_95 : decode cX3_failureByValue 95 = .ok (.aload_n 0, 1) := by decide +kernel
theorem dX3_failureByValue_96 : decode cX3_failureByValue 96 = .ok (.iconst 1, 1) := by decide +kernel
theorem dX3_failureByValue_97 : decode cX3_failureByValue 97 = .ok (.invokevirtual 116, 3) := by decide +kernel
theorem dX3_failureByValue_100 : decode cX3_failureByValue 100 = .ok (.invokevirtual 192, 3) := by decide +kernel
theorem dX3_failureByValue_103 : decode cX3_failureByValue 103 = .ok (.ifCond .eq 8, 3) := by decide +kernel
theorem dX3_failureByValue_106 : decode cX3_failureByValue 106 = .ok (.bipush 45, 2) := by decide +kernel
theorem dX3_failureByValue_108 : decode cX3_failureByValue 108 = .ok (.goto 5, 3) := by decide +kernel
theorem dX3_failureByValue_111 : decode cX3_failureByValue 111 = .ok (.bipush 119, 2) := by decide +kernel
theorem dX3_failureByValue_113 : decode cX3_failureByValue 113 = .ok (.ireturn, 1) := by decide +kernel
theorem dX3_failureByValue_114 : decode cX3_failureByValue 114 = .ok (.aload_n 0, 1) := by decide +kernel
theorem dX3_failureByValue_115 : decode cX3_failureByValue 115 = .ok (.getfield 15, 3) := by decide +kernel
theorem dX3_failureByValue_118 : decode cX3_failureByValue 118 = .ok (.aload_n 0, 1) := by decide +kernel
theorem dX3_failureByValue_119 : decode cX3_failureByValue 119 = .ok (.iconst 1, 1) := by decide +kernel
theorem dX3_failureByValue_120 : decode cX3_failureByValue 120 = .ok (.invokevirtual 125, 3) := by decide +kernel
theorem dX3_failureByValue_123 : decode cX3_failureByValue 123 = .ok (.iload_n 2, 1) := by decide +kernel
theorem dX3_failureByValue_124 : decode cX3_failureByValue 124 = .ok (.invokevirtual 195, 3) := by decide +kernel
theorem dX3_failureByValue_127 : decode cX3_failureByValue 127 = .ok (.ifCond .eq 8, 3) := by decide +kernel
theorem dX3_failureByValue_130 : decode cX3_failureByValue 130 = .ok (.bipush 45, 2) := by decide +kernel
theorem dX3_failureByValue_132 : decode cX3_failureByValue 132 = .ok (.goto 5, 3) := by decide +kernel
theorem dX3_failureByValue_135 : decode cX3_failureByValue 135 = .ok (.bipush 102, 2) := by decide +kernel
theorem dX3_failureByValue_137 : decode cX3_failureByValue 137 = .ok (.ireturn, 1) := by decide +kernel
theorem dX3_failureByValue_138 : decode cX3_failureByValue 138 = .ok (.aload_n 0, 1) := by decide +kernel
theorem dX3_failureByValue_139 : decode cX3_failureByValue 139 = .ok (.getfield 15, 3) := by decide +kernel
theorem dX3_failureByValue_142 : decode cX3_failureByValue 142 = .ok (.aload_n 0, 1) := by decide +kernel
theorem dX3_failureByValue_143 : decode cX3_failureByValue 143 = .ok (.iconst 2, 1) := by decide +kernel
theorem dX3_failureByValue_144 : decode cX3_failureByValue 144 = .ok (.invokevirtual 125, 3) := by decide +kernel
theorem dX3_failureByValue_147 : decode cX3_failureByValue 147 = .ok (.iload_n 2, 1) := by decide +kernel
theorem dX3_failureByValue_148 : decode cX3_failureByValue 148 = .ok (.invokevirtual 198, 3) := by decide +kernel
theorem dX3_failureByValue_151 : decode cX3_failureByValue 151 = .ok (.ifCond .eq 8, 3) := by decide +kernel
theorem dX3_failureByValue_154 : decode cX3_failureByValue 154 = .ok (.bipush 45, 2) := by decide +kernel
theorem dX3_failureByValue_156 : decode cX3_failureByValue 156 = .ok (.goto 5, 3) := by decide +kernel
theorem dX3_failureByValue_159 : decode cX3_failureByValue 159 = .ok (.bipush 102, 2) := by decide +kernel
theorem dX3_failureByValue_161 : decode cX3_failureByValue 161 = .ok (.ireturn, 1) := by decide +kernel
theorem dX3_failureByValue_162 : decode cX3_failureByValue 162 = .ok (.aload_n 0, 1) := by decide +kernel
theorem dX3_failureByValue_163 : decode cX3_failureByValue 163 = .ok (.getfield 9, 3) := by decide +kernel
theorem dX3_failureByValue_166 : decode cX3_failureByValue 166 = .ok (.aload_n 0, 1) := by decide +kernel
theorem dX3_failureByValue_167 : decode cX3_failureByValue 167 = .ok (.invokevirtual 201, 3) := by decide +kernel
theorem dX3_failureByValue_170 : decode cX3_failureByValue 170 = .ok (.iload_n 2, 1) := by decide +kernel
theorem dX3_failureByValue_171 : decode cX3_failureByValue 171 = .ok (.invokevirtual 204, 3) := by decide +kernel
theorem dX3_failureByValue_174 : decode cX3_failureByValue 174 = .ok (.iconst (-1), 1) := by decide +kernel
theorem dX3_failureByValue_175 : decode cX3_failureByValue 175 = .ok (.if_icmp .ne 8, 3) := by decide +kernel
theorem dX3_failureByValue_178 : decode cX3_failureByValue 178 = .ok (.bipush 109, 2) := by decide +kernel
theorem dX3_failureByValue_180 : decode cX3_failureByValue 180 = .ok (.goto 7, 3) := by decide +kernel
theorem dX3_failureByValue_183 : decode cX3_failureByValue 183 = .ok (.aload_n 0, 1) := by decide +kernel
theorem dX3_failureByValue_184 : decode cX3_failureByValue 184 = .ok (.invokevirtual 207, 3) := by decide +kernel
theorem dX3_failureByValue_187 : decode cX3_failureByValue 187 = .ok (.ireturn, 1) := by decide +kernel
theorem dX3_failureByValue_188 : decode cX3_failureByValue 188 = .ok (.aload_n 0, 1) := by decide +kernel
theorem dX3_failureByValue_189 : decode cX3_failureByValue 189 = .ok (.invokevirtual 207, 3) := by decide +kernel
theorem dX3_failureByValue_192 : decode cX3_failureByValue 192 = .ok (.ireturn, 1) := by decide +kernel
theorem dX3_failureByValue_193 : decode cX3_failureByValue 193 = .ok (.aload_n 0, 1) := by decide +kernel
theorem dX3_failureByValue_194 : decode cX3_failureByValue 194 = .ok (.getfield 50, 3) := by decide +kernel
theorem dX3_failureByValue_197 : decode cX3_failureByValue 197 = .ok (.bipush 60, 2) := by decide +kernel
theorem dX3_failureByValue_199 : decode cX3_failureByValue 199 = .ok (.if_icmp .lt 8, 3) := by decide +kernel
theorem dX3_failureByValue_202 : decode cX3_failureByValue 202 = .ok (.bipush 111, 2) := by decide +kernel
theorem dX3_failureByValue_204 : decode cX3_failureByValue 204 = .ok (.goto 5, 3) := by decide +kernel
theorem dX3_failureByValue_207 : decode cX3_failureByValue 207 = .ok (.bipush 45, 2) := by decide +kernel
theorem dX3_failureByValue_209 : decode cX3_failureByValue 209 = .ok (.ireturn, 1) := by decide +kernel
theorem dX3_failureByValue_210 : decode cX3_failureByValue 210 = .ok (.bipush 45, 2) := by decide +kernel
theorem dX3_failureByValue_212 : decode cX3_failureByValue 212 = .ok (.ireturn, 1) := by decide +kernel
theorem dX3_dividesByZero_0 : decode cX3_dividesByZero 0 = .ok (.aload_n 0, 1) := by decide +kernel
theorem dX3_dividesByZero_1 : decode cX3_dividesByZero 1 = .ok (.getfield 22, 3) := by decide +kernel
theorem dX3_dividesByZero_4 : decode cX3_dividesByZero 4 = .ok (.aload_n 0, 1) := by decide +kernel
theorem dX3_dividesByZero_5 : decode cX3_dividesByZero 5 = .ok (.iconst 2, 1) := by decide +kernel
theorem dX3_dividesByZero_6 : decode cX3_dividesByZero 6 = .ok (.invokevirtual 116, 3) := by decide +kernel
theorem dX3_dividesByZero_9 : decode cX3_dividesByZero 9 = .ok (.aload_n 0, 1) := by decide +kernel
theorem dX3_dividesByZero_10 : decode cX3_dividesByZero 10 = .ok (.iconst 1, 1) := by decide +kernel
theorem dX3_dividesByZero_11 : decode cX3_dividesByZero 11 = .ok (.invokevirtual 116, 3) := by decide +kernel
theorem dX3_dividesByZero_14 : decode cX3_dividesByZero 14 = .ok (.invokevirtual 210, 3) := by decide +kernel
theorem dX3_dividesByZero_17 : decode cX3_dividesByZero 17 = .ok (.ifCond .eq 23, 3) := by decide +kernel
theorem dX3_dividesByZero_20 : decode cX3_dividesByZero 20 = .ok (.aload_n 0, 1) := by decide +kernel
theorem dX3_dividesByZero_21 : decode cX3_dividesByZero 21 = .ok (.getfield 22, 3) := by decide +kernel
theorem dX3_dividesByZero_24 : decode cX3_dividesByZero 24 = .ok (.getfield 113, 3) := by decide +kernel
theorem dX3_dividesByZero_27 : decode cX3_dividesByZero 27 = .ok (.aload_n 0, 1) := by decide +kernel
theorem dX3_dividesByZero_28 : decode cX3_dividesByZero 28 = .ok (.iconst 1, 1) := by decide +kernel
theorem dX3_dividesByZero_29 : decode cX3_dividesByZero 29 = .ok (.invokevirtual 116, 3) := by decide +kernel
theorem dX3_dividesByZero_32 : decode cX3_dividesByZero 32 = .ok (.iaload, 1) := by decide +kernel
theorem dX3_dividesByZero_33 : decode cX3_dividesByZero 33 = .ok (.ifCond .ne 7, 3) := by decide +kernel
theorem dX3_dividesByZero_36 : decode cX3_dividesByZero 36 = .ok (.iconst 1, 1) := by decide +kernel
theorem dX3_dividesByZero_37 : decode cX3_dividesByZero 37 = .ok (.goto 4, 3) := by decide +kernel
theorem dX3_dividesByZero_40 : decode cX3_dividesByZero 40 = .ok (.iconst 0, 1) := by decide +kernel
theorem dX3_dividesByZero_41 : decode cX3_dividesByZero 41 = .ok (.ireturn, 1) := by decide +kernel
theorem dX3_failureByDepth_0 : decode cX3_failureByDepth 0 = .ok (.aload_n 0, 1) := by decide +kernel
theorem dX3_failureByDepth_1 : decode cX3_failureByDepth 1 = .ok (.getfield 46, 3) := by decide +kernel
theorem dX3_failureByDepth_4 : decode cX3_failureByDepth 4 = .ok (.bipush 12, 2) := by decide +kernel
theorem dX3_failureByDepth_6 : decode cX3_failureByDepth 6 = .ok (.if_icmp .lt 8, 3) := by decide +kernel
theorem dX3_failureByDepth_9 : decode cX3_failureByDepth 9 = .ok (.bipush 100, 2) := by decide +kernel
theorem dX3_failureByDepth_11 : decode cX3_failureByDepth 11 = .ok (.goto 5, 3) := by decide +kernel
theorem dX3_failureByDepth_14 : decode cX3_failureByDepth 14 = .ok (.bipush 45, 2) := by decide +kernel
theorem dX3_failureByDepth_16 : decode cX3_failureByDepth 16 = .ok (.ireturn, 1) := by decide +kernel
theorem dX3_failWith_0 : decode cX3_failWith 0 = .ok (.aload_n 0, 1) := by decide +kernel
theorem dX3_failWith_1 : decode cX3_failWith 1 = .ok (.dup, 1) := by decide +kernel
theorem dX3_failWith_2 : decode cX3_failWith 2 = .ok (.getfield 56, 3) := by decide +kernel
theorem dX3_failWith_5 : decode cX3_failWith 5 = .ok (.iconst 1, 1) := by decide +kernel
theorem dX3_failWith_6 : decode cX3_failWith 6 = .ok (.iadd, 1) := by decide +kernel
theorem dX3_failWith_7 : decode cX3_failWith 7 = .ok (.putfield 56, 3) := by decide +kernel
theorem dX3_failWith_10 : decode cX3_failWith 10 = .ok (.aload_n 0, 1) := by decide +kernel
theorem dX3_failWith_11 : decode cX3_failWith 11 = .ok (.getfield 46, 3) := by decide +kernel
theorem dX3_failWith_14 : decode cX3_failWith 14 = .ok (.iconst 1, 1) := by decide +kernel
theorem dX3_failWith_15 : decode cX3_failWith 15 = .ok (.isub, 1) := by decide +kernel
theorem dX3_failWith_16 : decode cX3_failWith 16 = .ok (.istore_n 2, 1) := by decide +kernel
theorem dX3_failWith_17 : decode cX3_failWith 17 = .ok (.iload_n 2, 1) := by decide +kernel
theorem dX3_failWith_18 : decode cX3_failWith 18 = .ok (.ifCond .lt 27, 3) := by decide +kernel
theorem dX3_failWith_21 : decode cX3_failWith 21 = .ok (.aload_n 0, 1) := by decide +kernel
theorem dX3_failWith_22 : decode cX3_failWith 22 = .ok (.getfield 9, 3) := by decide +kernel
theorem dX3_failWith_25 : decode cX3_failWith 25 = .ok (.getfield 213, 3) := by decide +kernel
theorem dX3_failWith_28 : decode cX3_failWith 28 = .ok (.aload_n 0, 1) := by decide +kernel
theorem dX3_failWith_29 : decode cX3_failWith 29 = .ok (.getfield 26, 3) := by decide +kernel
theorem dX3_failWith_32 : decode cX3_failWith 32 = .ok (.iload_n 2, 1) := by decide +kernel
theorem dX3_failWith_33 : decode cX3_failWith 33 = .ok (.iaload, 1) := by decide +kernel
theorem dX3_failWith_34 : decode cX3_failWith 34 = .ok (.iaload, 1) := by decide +kernel
theorem dX3_failWith_35 : decode cX3_failWith 35 = .ok (.iconst (-1), 1) := by decide +kernel
theorem dX3_failWith_36 : decode cX3_failWith 36 = .ok (.if_icmp .ne 9, 3) := by decide +kernel
theorem dX3_failWith_39 : decode cX3_failWith 39 = .ok (.iinc 2 (-1), 3) := by decide +kernel
theorem dX3_failWith_42 : decode cX3_failWith 42 = .ok (.goto (-25), 3) := by decide +kernel
theorem dX3_failWith_45 : decode cX3_failWith 45 = .ok (.iload_n 2, 1) := by decide +kernel
theorem dX3_failWith_46 : decode cX3_failWith 46 = .ok (.ifCond .ge 13, 3) := by decide +kernel
theorem dX3_failWith_49 : decode cX3_failWith 49 = .ok (.aload_n 0, 1) := by decide +kernel
theorem dX3_failWith_50 : decode cX3_failWith 50 = .ok (.iload_n 1, 1) := by decide +kernel
theorem dX3_failWith_51 : decode cX3_failWith 51 = .ok (.aload_n 0, 1) := by decide +kernel
theorem dX3_failWith_52 : decode cX3_failWith 52 = .ok (.invokevirtual 96, 3) := by decide +kernel
theorem dX3_failWith_55 : decode cX3_failWith 55 = .ok (.invokevirtual 100, 3) := by decide +kernel
theorem dX3_failWith_58 : decode cX3_failWith 58 = .ok (.return_, 1) := by decide +kernel
theorem dX3_failWith_59 : decode cX3_failWith 59 = .ok (.aload_n 0, 1) := by decide +kernel
theorem dX3_failWith_60 : decode cX3_failWith 60 = .ok (.iload_n 2, 1) := by decide +kernel
theorem dX3_failWith_61 : decode cX3_failWith 61 = .ok (.iconst 1, 1) := by decide +kernel
theorem dX3_failWith_62 : decode cX3_failWith 62 = .ok (.iadd, 1) := by decide +kernel
theorem dX3_failWith_63 : decode cX3_failWith 63 = .ok (.putfield 46, 3) := by decide +kernel
theorem dX3_failWith_66 : decode cX3_failWith 66 = .ok (.aload_n 0, 1) := by decide +kernel
theorem dX3_failWith_67 : decode cX3_failWith 67 = .ok (.getfield 30, 3) := by decide +kernel
theorem dX3_failWith_70 : decode cX3_failWith 70 = .ok (.iload_n 2, 1) := by decide +kernel
theorem dX3_failWith_71 : decode cX3_failWith 71 = .ok (.aload_n 0, 1) := by decide +kernel
theorem dX3_failWith_72 : decode cX3_failWith 72 = .ok (.getfield 9, 3) := by decide +kernel
theorem dX3_failWith_75 : decode cX3_failWith 75 = .ok (.getfield 213, 3) := by decide +kernel
theorem dX3_failWith_78 : decode cX3_failWith 78 = .ok (.aload_n 0, 1) := by decide +kernel
theorem dX3_failWith_79 : decode cX3_failWith 79 = .ok (.getfield 26, 3) := by decide +kernel
theorem dX3_failWith_82 : decode cX3_failWith 82 = .ok (.iload_n 2, 1) := by decide +kernel
theorem dX3_failWith_83 : decode cX3_failWith 83 = .ok (.iaload, 1) := by decide +kernel
theorem dX3_failWith_84 : decode cX3_failWith 84 = .ok (.iaload, 1) := by decide +kernel
theorem dX3_failWith_85 : decode cX3_failWith 85 = .ok (.iastore, 1) := by decide +kernel
theorem dX3_failWith_86 : decode cX3_failWith 86 = .ok (.aload_n 0, 1) := by decide +kernel
theorem dX3_failWith_87 : decode cX3_failWith 87 = .ok (.getfield 33, 3) := by decide +kernel
theorem dX3_failWith_90 : decode cX3_failWith 90 = .ok (.iload_n 2, 1) := by decide +kernel
theorem dX3_failWith_91 : decode cX3_failWith 91 = .ok (.iconst 0, 1) := by decide +kernel
theorem dX3_failWith_92 : decode cX3_failWith 92 = .ok (.iastore, 1) := by decide +kernel
theorem dX3_failWith_93 : decode cX3_failWith 93 = .ok (.aload_n 0, 1) := by decide +kernel
theorem dX3_failWith_94 : decode cX3_failWith 94 = .ok (.bipush 105, 2) := by decide +kernel
theorem dX3_failWith_96 : decode cX3_failWith 96 = .ok (.iload_n 1, 1) := by decide +kernel
theorem dX3_failWith_97 : decode cX3_failWith 97 = .ok (.invokevirtual 216, 3) := by decide +kernel
theorem dX3_failWith_100 : decode cX3_failWith 100 = .ok (.return_, 1) := by decide +kernel
theorem dX3_execute_0 : decode cX3_execute 0 = .ok (.aload_n 0, 1) := by decide +kernel
theorem dX3_execute_1 : decode cX3_execute 1 = .ok (.getfield 46, 3) := by decide +kernel
theorem dX3_execute_4 : decode cX3_execute 4 = .ok (.iconst 1, 1) := by decide +kernel
theorem dX3_execute_5 : decode cX3_execute 5 = .ok (.isub, 1) := by decide +kernel
theorem dX3_execute_6 : decode cX3_execute 6 = .ok (.istore_n 1, 1) := by decide +kernel
theorem dX3_execute_7 : decode cX3_execute 7 = .ok (.aload_n 0, 1) := by decide +kernel
theorem dX3_execute_8 : decode cX3_execute 8 = .ok (.getfield 30, 3) := by decide +kernel
theorem dX3_execute_11 : decode cX3_execute 11 = .ok (.iload_n 1, 1) := by decide +kernel
theorem dX3_execute_12 : decode cX3_execute 12 = .ok (.iaload, 1) := by decide +kernel
theorem dX3_execute_13 : decode cX3_execute 13 = .ok (.istore_n 2, 1) := by decide +kernel
theorem dX3_execute_14 : decode cX3_execute 14 = .ok (.aload_n 0, 1) := by decide +kernel
theorem dX3_execute_15 : decode cX3_execute 15 = .ok (.getfield 147, 3) := by decide +kernel
theorem dX3_execute_18 : decode cX3_execute 18 = .ok (.istore_n 3, 1) := by decide +kernel
theorem dX3_execute_19 : decode cX3_execute 19 = .ok (.aload_n 0, 1) := by decide +kernel
theorem dX3_execute_20 : decode cX3_execute 20 = .ok (.dup, 1) := by decide +kernel
theorem dX3_execute_21 : decode cX3_execute 21 = .ok (.getfield 56, 3) := by decide +kernel
theorem dX3_execute_24 : decode cX3_execute 24 = .ok (.iconst 1, 1) := by decide +kernel
theorem dX3_execute_25 : decode cX3_execute 25 = .ok (.iadd, 1) := by decide +kernel
theorem dX3_execute_26 : decode cX3_execute 26 = .ok (.putfield 56, 3) := by decide +kernel
theorem dX3_execute_29 : decode cX3_execute 29 = .ok (.aload_n 0, 1) := by decide +kernel
theorem dX3_execute_30 : decode cX3_execute 30 = .ok (.getfield 30, 3) := by decide +kernel
theorem dX3_execute_33 : decode cX3_execute 33 = .ok (.iload_n 1, 1) := by decide +kernel
theorem dX3_execute_34 : decode cX3_execute 34 = .ok (.iload_n 2, 1) := by decide +kernel
theorem dX3_execute_35 : decode cX3_execute 35 = .ok (.iconst 1, 1) := by decide +kernel
theorem dX3_execute_36 : decode cX3_execute 36 = .ok (.iadd, 1) := by decide +kernel
theorem dX3_execute_37 : decode cX3_execute 37 = .ok (.iastore, 1) := by decide +kernel
theorem dX3_execute_38 : decode cX3_execute 38 = .ok (.aload_n 0, 1) := by decide +kernel
theorem dX3_execute_39 : decode cX3_execute 39 = .ok (.getfield 141, 3) := by decide +kernel
theorem dX3_execute_42 : decode cX3_execute 42 = .ok (.tableswitch 187 99 122 #[135, 187, 187, 187, 176, 187, 187, 110, 187, 187, 151, 176, 187, 176, 187, 170, 187, 187, 187, 187, 187, 187, 187, 128], 110) := by decide +kernel
theorem dX3_execute_152 : decode cX3_execute 152 = .ok (.aload_n 0, 1) := by decide +kernel
theorem dX3_execute_153 : decode cX3_execute 153 = .ok (.getfield 30, 3) := by decide +kernel
theorem dX3_execute_156 : decode cX3_execute 156 = .ok (.iload_n 1, 1) := by decide +kernel
theorem dX3_execute_157 : decode cX3_execute 157 = .ok (.iload_n 3, 1) := by decide +kernel
theorem dX3_execute_158 : decode cX3_execute 158 = .ok (.iastore, 1) := by decide +kernel
theorem dX3_execute_159 : decode cX3_execute 159 = .ok (.iload_n 3, 1) := by decide +kernel
theorem dX3_execute_160 : decode cX3_execute 160 = .ok (.iload_n 2, 1) := by decide +kernel
theorem dX3_execute_161 : decode cX3_execute 161 = .ok (.if_icmp .gt 7, 3) := by decide +kernel
theorem dX3_execute_164 : decode cX3_execute 164 = .ok (.iconst 1, 1) := by decide +kernel
theorem dX3_execute_165 : decode cX3_execute 165 = .ok (.goto 4, 3) := by decide +kernel
theorem dX3_execute_168 : decode cX3_execute 168 = .ok (.iconst 0, 1) := by decide +kernel
theorem dX3_execute_169 : decode cX3_execute 169 = .ok (.ireturn, 1) := by decide +kernel
theorem dX3_execute_170 : decode cX3_execute 170 = .ok (.aload_n 0, 1) := by decide +kernel
theorem dX3_execute_171 : decode cX3_execute 171 = .ok (.iload_n 3, 1) := by decide +kernel
theorem dX3_execute_172 : decode cX3_execute 172 = .ok (.iload_n 2, 1) := by decide +kernel
theorem dX3_execute_173 : decode cX3_execute 173 = .ok (.invokevirtual 219, 3) := by decide +kernel
theorem dX3_execute_176 : decode cX3_execute 176 = .ok (.ireturn, 1) := by decide +kernel
theorem dX3_execute_177 : decode cX3_execute 177 = .ok (.aload_n 0, 1) := by decide +kernel
theorem dX3_execute_178 : decode cX3_execute 178 = .ok (.iload_n 3, 1) := by decide +kernel
theorem dX3_execute_179 : decode cX3_execute 179 = .ok (.aload_n 0, 1) := by decide +kernel
theorem dX3_execute_180 : decode cX3_execute 180 = .ok (.getfield 9, 3) := by decide +kernel
theorem dX3_execute_183 : decode cX3_execute 183 = .ok (.getfield 170, 3) := by decide +kernel
theorem dX3_execute_186 : decode cX3_execute 186 = .ok (.iload_n 3, 1) := by decide +kernel
theorem dX3_execute_187 : decode cX3_execute 187 = .ok (.iaload, 1) := by decide +kernel
theorem dX3_execute_188 : decode cX3_execute 188 = .ok (.invokevirtual 222, 3) := by decide +kernel
theorem dX3_execute_191 : decode cX3_execute 191 = .ok (.iconst 0, 1) := by decide +kernel
theorem dX3_execute_192 : decode cX3_execute 192 = .ok (.ireturn, 1) := by decide +kernel
theorem dX3_execute_193 : decode cX3_execute 193 = .ok (.aload_n 0, 1) := by decide +kernel
theorem dX3_execute_194 : decode cX3_execute 194 = .ok (.aload_n 0, 1) := by decide +kernel
theorem dX3_execute_195 : decode cX3_execute 195 = .ok (.getfield 9, 3) := by decide +kernel
theorem dX3_execute_198 : decode cX3_execute 198 = .ok (.aload_n 0, 1) := by decide +kernel
theorem dX3_execute_199 : decode cX3_execute 199 = .ok (.invokevirtual 201, 3) := by decide +kernel
theorem dX3_execute_202 : decode cX3_execute 202 = .ok (.iload_n 3, 1) := by decide +kernel
theorem dX3_execute_203 : decode cX3_execute 203 = .ok (.invokevirtual 204, 3) := by decide +kernel
theorem dX3_execute_206 : decode cX3_execute 206 = .ok (.iconst 1, 1) := by decide +kernel
theorem dX3_execute_207 : decode cX3_execute 207 = .ok (.invokevirtual 222, 3) := by decide +kernel
theorem dX3_execute_210 : decode cX3_execute 210 = .ok (.iconst 0, 1) := by decide +kernel
theorem dX3_execute_211 : decode cX3_execute 211 = .ok (.ireturn, 1) := by decide +kernel
theorem dX3_execute_212 : decode cX3_execute 212 = .ok (.aload_n 0, 1) := by decide +kernel
theorem dX3_execute_213 : decode cX3_execute 213 = .ok (.invokevirtual 226, 3) := by decide +kernel
theorem dX3_execute_216 : decode cX3_execute 216 = .ok (.iconst 0, 1) := by decide +kernel
theorem dX3_execute_217 : decode cX3_execute 217 = .ok (.ireturn, 1) := by decide +kernel
theorem dX3_execute_218 : decode cX3_execute 218 = .ok (.aload_n 0, 1) := by decide +kernel
theorem dX3_execute_219 : decode cX3_execute 219 = .ok (.aload_n 0, 1) := by decide +kernel
theorem dX3_execute_220 : decode cX3_execute 220 = .ok (.getfield 141, 3) := by decide +kernel
theorem dX3_execute_223 : decode cX3_execute 223 = .ok (.iload_n 3, 1) := by decide +kernel
theorem dX3_execute_224 : decode cX3_execute 224 = .ok (.invokevirtual 229, 3) := by decide +kernel
theorem dX3_execute_227 : decode cX3_execute 227 = .ok (.iconst 0, 1) := by decide +kernel
theorem dX3_execute_228 : decode cX3_execute 228 = .ok (.ireturn, 1) := by decide +kernel
theorem dX3_execute_229 : decode cX3_execute 229 = .ok (.aload_n 0, 1) := by decide +kernel
theorem dX3_execute_230 : decode cX3_execute 230 = .ok (.aload_n 0, 1) := by decide +kernel
theorem dX3_execute_231 : decode cX3_execute 231 = .ok (.getfield 141, 3) := by decide +kernel
theorem dX3_execute_234 : decode cX3_execute 234 = .ok (.iload_n 3, 1) := by decide +kernel
theorem dX3_execute_235 : decode cX3_execute 235 = .ok (.invokevirtual 232, 3) := by decide +kernel
theorem dX3_execute_238 : decode cX3_execute 238 = .ok (.iconst 0, 1) := by decide +kernel
theorem dX3_execute_239 : decode cX3_execute 239 = .ok (.ireturn, 1) := by decide +kernel
theorem dX3_useStack_0 : decode cX3_useStack 0 = .ok (.iload_n 1, 1) := by decide +kernel
theorem dX3_useStack_1 : decode cX3_useStack 1 = .ok (.tableswitch 194 100 119 #[166, 194, 194, 194, 194, 95, 194, 103, 119, 194, 194, 194, 194, 194, 194, 144, 172, 134, 194, 181], 95) := by decide +kernel
theorem dX3_useStack_96 : decode cX3_useStack 96 = .ok (.aload_n 0, 1) := by decide +kernel
theorem dX3_useStack_97 : decode cX3_useStack 97 = .ok (.bipush 105, 2) := by decide +kernel
theorem dX3_useStack_99 : decode cX3_useStack 99 = .ok (.iload_n 2, 1) := by decide +kernel
theorem dX3_useStack_100 : decode cX3_useStack 100 = .ok (.invokevirtual 216, 3) := by decide +kernel
theorem dX3_useStack_103 : decode cX3_useStack 103 = .ok (.return_, 1) := by decide +kernel
theorem dX3_useStack_104 : decode cX3_useStack 104 = .ok (.aload_n 0, 1) := by decide +kernel
theorem dX3_useStack_105 : decode cX3_useStack 105 = .ok (.bipush 105, 2) := by decide +kernel
theorem dX3_useStack_107 : decode cX3_useStack 107 = .ok (.aload_n 0, 1) := by decide +kernel
theorem dX3_useStack_108 : decode cX3_useStack 108 = .ok (.getfield 9, 3) := by decide +kernel
theorem dX3_useStack_111 : decode cX3_useStack 111 = .ok (.getfield 235, 3) := by decide +kernel
theorem dX3_useStack_114 : decode cX3_useStack 114 = .ok (.iload_n 2, 1) := by decide +kernel
theorem dX3_useStack_115 : decode cX3_useStack 115 = .ok (.iaload, 1) := by decide +kernel
theorem dX3_useStack_116 : decode cX3_useStack 116 = .ok (.invokevirtual 216, 3) := by decide +kernel
theorem dX3_useStack_119 : decode cX3_useStack 119 = .ok (.return_, 1) := by decide +kernel
theorem dX3_useStack_120 : decode cX3_useStack 120 = .ok (.aload_n 0, 1) := by decide +kernel
theorem dX3_useStack_121 : decode cX3_useStack 121 = .ok (.aload_n 0, 1) := by decide +kernel
theorem dX3_useStack_122 : decode cX3_useStack 122 = .ok (.getfield 46, 3) := by decide +kernel
theorem dX3_useStack_125 : decode cX3_useStack 125 = .ok (.iconst 1, 1) := by decide +kernel
theorem dX3_useStack_126 : decode cX3_useStack 126 = .ok (.isub, 1) := by decide +kernel
theorem dX3_useStack_127 : decode cX3_useStack 127 = .ok (.iload_n 2, 1) := by decide +kernel
theorem dX3_useStack_128 : decode cX3_useStack 128 = .ok (.invokestatic 66, 3) := by decide +kernel
theorem dX3_useStack_131 : decode cX3_useStack 131 = .ok (.invokevirtual 238, 3) := by decide +kernel
theorem dX3_useStack_134 : decode cX3_useStack 134 = .ok (.return_, 1) := by decide +kernel
theorem dX3_useStack_135 : decode cX3_useStack 135 = .ok (.aload_n 0, 1) := by decide +kernel
theorem dX3_useStack_136 : decode cX3_useStack 136 = .ok (.aload_n 0, 1) := by decide +kernel
theorem dX3_useStack_137 : decode cX3_useStack 137 = .ok (.iconst 1, 1) := by decide +kernel
theorem dX3_useStack_138 : decode cX3_useStack 138 = .ok (.invokevirtual 116, 3) := by decide +kernel
theorem dX3_useStack_141 : decode cX3_useStack 141 = .ok (.invokevirtual 238, 3) := by decide +kernel
theorem dX3_useStack_144 : decode cX3_useStack 144 = .ok (.return_, 1) := by decide +kernel
theorem dX3_useStack_145 : decode cX3_useStack 145 = .ok (.aload_n 0, 1) := by decide +kernel
theorem dX3_useStack_146 : decode cX3_useStack 146 = .ok (.getfield 22, 3) := by decide +kernel
theorem dX3_useStack_149 : decode cX3_useStack 149 = .ok (.aload_n 0, 1) := by decide +kernel
theorem dX3_useStack_150 : decode cX3_useStack 150 = .ok (.invokevirtual 241, 3) := by decide +kernel
theorem dX3_useStack_153 : decode cX3_useStack 153 = .ok (.aload_n 0, 1) := by decide +kernel
theorem dX3_useStack_154 : decode cX3_useStack 154 = .ok (.getfield 46, 3) := by decide +kernel
theorem dX3_useStack_157 : decode cX3_useStack 157 = .ok (.iconst 1, 1) := by decide +kernel
theorem dX3_useStack_158 : decode cX3_useStack 158 = .ok (.isub, 1) := by decide +kernel
theorem dX3_useStack_159 : decode cX3_useStack 159 = .ok (.iload_n 2, 1) := by decide +kernel
theorem dX3_useStack_160 : decode cX3_useStack 160 = .ok (.invokestatic 66, 3) := by decide +kernel
theorem dX3_useStack_163 : decode cX3_useStack 163 = .ok (.invokevirtual 244, 3) := by decide +kernel
theorem dX3_useStack_166 : decode cX3_useStack 166 = .ok (.return_, 1) := by decide +kernel
theorem dX3_useStack_167 : decode cX3_useStack 167 = .ok (.aload_n 0, 1) := by decide +kernel
theorem dX3_useStack_168 : decode cX3_useStack 168 = .ok (.invokevirtual 241, 3) := by decide +kernel
theorem dX3_useStack_171 : decode cX3_useStack 171 = .ok (.pop, 1) := by decide +kernel
theorem dX3_useStack_172 : decode cX3_useStack 172 = .ok (.return_, 1) := by decide +kernel
theorem dX3_useStack_173 : decode cX3_useStack 173 = .ok (.aload_n 0, 1) := by decide +kernel
theorem dX3_useStack_174 : decode cX3_useStack 174 = .ok (.aload_n 0, 1) := by decide +kernel
theorem dX3_useStack_175 : decode cX3_useStack 175 = .ok (.invokevirtual 241, 3) := by decide +kernel
theorem dX3_useStack_178 : decode cX3_useStack 178 = .ok (.invokevirtual 247, 3) := by decide +kernel
theorem dX3_useStack_181 : decode cX3_useStack 181 = .ok (.return_, 1) := by decide +kernel
theorem dX3_useStack_182 : decode cX3_useStack 182 = .ok (.aload_n 0, 1) := by decide +kernel
theorem dX3_useStack_183 : decode cX3_useStack 183 = .ok (.getfield 22, 3) := by decide +kernel
theorem dX3_useStack_186 : decode cX3_useStack 186 = .ok (.aload_n 0, 1) := by decide +kernel
theorem dX3_useStack_187 : decode cX3_useStack 187 = .ok (.iconst 1, 1) := by decide +kernel
theorem dX3_useStack_188 : decode cX3_useStack 188 = .ok (.invokevirtual 116, 3) := by decide +kernel
theorem dX3_useStack_191 : decode cX3_useStack 191 = .ok (.invokevirtual 250, 3) := by decide +kernel
theorem dX3_useStack_194 : decode cX3_useStack 194 = .ok (.return_, 1) := by decide +kernel
theorem dX3_useStack_195 : decode cX3_useStack 195 = .ok (.aload_n 0, 1) := by decide +kernel
theorem dX3_useStack_196 : decode cX3_useStack 196 = .ok (.getfield 22, 3) := by decide +kernel
theorem dX3_useStack_199 : decode cX3_useStack 199 = .ok (.iload_n 1, 1) := by decide +kernel
theorem dX3_useStack_200 : decode cX3_useStack 200 = .ok (.aload_n 0, 1) := by decide +kernel
theorem dX3_useStack_201 : decode cX3_useStack 201 = .ok (.iconst 2, 1) := by decide +kernel
theorem dX3_useStack_202 : decode cX3_useStack 202 = .ok (.invokevirtual 116, 3) := by decide +kernel
theorem dX3_useStack_205 : decode cX3_useStack 205 = .ok (.aload_n 0, 1) := by decide +kernel
theorem dX3_useStack_206 : decode cX3_useStack 206 = .ok (.iconst 1, 1) := by decide +kernel
theorem dX3_useStack_207 : decode cX3_useStack 207 = .ok (.invokevirtual 116, 3) := by decide +kernel
theorem dX3_useStack_210 : decode cX3_useStack 210 = .ok (.invokevirtual 253, 3) := by decide +kernel
theorem dX3_useStack_213 : decode cX3_useStack 213 = .ok (.aload_n 0, 1) := by decide +kernel
theorem dX3_useStack_214 : decode cX3_useStack 214 = .ok (.invokevirtual 241, 3) := by decide +kernel
theorem dX3_useStack_217 : decode cX3_useStack 217 = .ok (.pop, 1) := by decide +kernel
theorem dX3_useStack_218 : decode cX3_useStack 218 = .ok (.return_, 1) := by decide +kernel
theorem dX3_useObject_0 : decode cX3_useObject 0 = .ok (.iload_n 1, 1) := by decide +kernel
theorem dX3_useObject_1 : decode cX3_useObject 1 = .ok (.bipush 110, 2) := by decide +kernel
theorem dX3_useObject_3 : decode cX3_useObject 3 = .ok (.if_icmp .ne 44, 3) := by decide +kernel
theorem dX3_useObject_6 : decode cX3_useObject 6 = .ok (.aload_n 0, 1) := by decide +kernel
theorem dX3_useObject_7 : decode cX3_useObject 7 = .ok (.getfield 36, 3) := by decide +kernel
theorem dX3_useObject_10 : decode cX3_useObject 10 = .ok (.aload_n 0, 1) := by decide +kernel
theorem dX3_useObject_11 : decode cX3_useObject 11 = .ok (.getfield 50, 3) := by decide +kernel
theorem dX3_useObject_14 : decode cX3_useObject 14 = .ok (.aload_n 0, 1) := by decide +kernel
theorem dX3_useObject_15 : decode cX3_useObject 15 = .ok (.getfield 15, 3) := by decide +kernel
theorem dX3_useObject_18 : decode cX3_useObject 18 = .ok (.getfield 257, 3) := by decide +kernel
theorem dX3_useObject_21 : decode cX3_useObject 21 = .ok (.iload_n 2, 1) := by decide +kernel
theorem dX3_useObject_22 : decode cX3_useObject 22 = .ok (.iaload, 1) := by decide +kernel
theorem dX3_useObject_23 : decode cX3_useObject 23 = .ok (.iastore, 1) := by decide +kernel
theorem dX3_useObject_24 : decode cX3_useObject 24 = .ok (.aload_n 0, 1) := by decide +kernel
theorem dX3_useObject_25 : decode cX3_useObject 25 = .ok (.bipush 111, 2) := by decide +kernel
theorem dX3_useObject_27 : decode cX3_useObject 27 = .ok (.aload_n 0, 1) := by decide +kernel
theorem dX3_useObject_28 : decode cX3_useObject 28 = .ok (.getfield 50, 3) := by decide +kernel
theorem dX3_useObject_31 : decode cX3_useObject 31 = .ok (.invokevirtual 216, 3) := by decide +kernel
theorem dX3_useObject_34 : decode cX3_useObject 34 = .ok (.aload_n 0, 1) := by decide +kernel
theorem dX3_useObject_35 : decode cX3_useObject 35 = .ok (.dup, 1) := by decide +kernel
theorem dX3_useObject_36 : decode cX3_useObject 36 = .ok (.getfield 50, 3) := by decide +kernel
theorem dX3_useObject_39 : decode cX3_useObject 39 = .ok (.iconst 1, 1) := by decide +kernel
theorem dX3_useObject_40 : decode cX3_useObject 40 = .ok (.iadd, 1) := by decide +kernel
theorem dX3_useObject_41 : decode cX3_useObject 41 = .ok (.putfield 50, 3) := by decide +kernel
theorem dX3_useObject_44 : decode cX3_useObject 44 = .ok (.goto 96, 3) := by decide +kernel
theorem dX3_useObject_47 : decode cX3_useObject 47 = .ok (.iload_n 1, 1) := by decide +kernel
theorem dX3_useObject_48 : decode cX3_useObject 48 = .ok (.bipush 103, 2) := by decide +kernel
theorem dX3_useObject_50 : decode cX3_useObject 50 = .ok (.if_icmp .ne 35, 3) := by decide +kernel
theorem dX3_useObject_53 : decode cX3_useObject 53 = .ok (.aload_n 0, 1) := by decide +kernel
theorem dX3_useObject_54 : decode cX3_useObject 54 = .ok (.getfield 22, 3) := by decide +kernel
theorem dX3_useObject_57 : decode cX3_useObject 57 = .ok (.aload_n 0, 1) := by decide +kernel
theorem dX3_useObject_58 : decode cX3_useObject 58 = .ok (.getfield 22, 3) := by decide +kernel
theorem dX3_useObject_61 : decode cX3_useObject 61 = .ok (.getfield 113, 3) := by decide +kernel
theorem dX3_useObject_64 : decode cX3_useObject 64 = .ok (.aload_n 0, 1) := by decide +kernel
theorem dX3_useObject_65 : decode cX3_useObject 65 = .ok (.iconst 1, 1) := by decide +kernel
theorem dX3_useObject_66 : decode cX3_useObject 66 = .ok (.invokevirtual 116, 3) := by decide +kernel
theorem dX3_useObject_69 : decode cX3_useObject 69 = .ok (.iaload, 1) := by decide +kernel
theorem dX3_useObject_70 : decode cX3_useObject 70 = .ok (.iload_n 2, 1) := by decide +kernel
theorem dX3_useObject_71 : decode cX3_useObject 71 = .ok (.invokestatic 260, 3) := by decide +kernel
theorem dX3_useObject_74 : decode cX3_useObject 74 = .ok (.aload_n 0, 1) := by decide +kernel
theorem dX3_useObject_75 : decode cX3_useObject 75 = .ok (.iconst 1, 1) := by decide +kernel
theorem dX3_useObject_76 : decode cX3_useObject 76 = .ok (.invokevirtual 116, 3) := by decide +kernel
theorem dX3_useObject_79 : decode cX3_useObject 79 = .ok (.invokevirtual 244, 3) := by decide +kernel
theorem dX3_useObject_82 : decode cX3_useObject 82 = .ok (.goto 58, 3) := by decide +kernel
theorem dX3_useObject_85 : decode cX3_useObject 85 = .ok (.aload_n 0, 1) := by decide +kernel
theorem dX3_useObject_86 : decode cX3_useObject 86 = .ok (.invokevirtual 241, 3) := by decide +kernel
theorem dX3_useObject_89 : decode cX3_useObject 89 = .ok (.istore_n 3, 1) := by decide +kernel
theorem dX3_useObject_90 : decode cX3_useObject 90 = .ok (.aload_n 0, 1) := by decide +kernel
theorem dX3_useObject_91 : decode cX3_useObject 91 = .ok (.getfield 22, 3) := by decide +kernel
theorem dX3_useObject_94 : decode cX3_useObject 94 = .ok (.getfield 113, 3) := by decide +kernel
theorem dX3_useObject_97 : decode cX3_useObject 97 = .ok (.aload_n 0, 1) := by decide +kernel
theorem dX3_useObject_98 : decode cX3_useObject 98 = .ok (.invokevirtual 241, 3) := by decide +kernel
theorem dX3_useObject_101 : decode cX3_useObject 101 = .ok (.iaload, 1) := by decide +kernel
theorem dX3_useObject_102 : decode cX3_useObject 102 = .ok (.istore 4, 2) := by decide +kernel
theorem dX3_useObject_104 : decode cX3_useObject 104 = .ok (.aload_n 0, 1) := by decide +kernel
theorem dX3_useObject_105 : decode cX3_useObject 105 = .ok (.getfield 36, 3) := by decide +kernel
theorem dX3_useObject_108 : decode cX3_useObject 108 = .ok (.iload 4, 2) := by decide +kernel
theorem dX3_useObject_110 : decode cX3_useObject 110 = .ok (.aload_n 0, 1) := by decide +kernel
theorem dX3_useObject_111 : decode cX3_useObject 111 = .ok (.getfield 15, 3) := by decide +kernel
theorem dX3_useObject_114 : decode cX3_useObject 114 = .ok (.aload_n 0, 1) := by decide +kernel
theorem dX3_useObject_115 : decode cX3_useObject 115 = .ok (.getfield 36, 3) := by decide +kernel
theorem dX3_useObject_118 : decode cX3_useObject 118 = .ok (.iload 4, 2) := by decide +kernel
theorem dX3_useObject_120 : decode cX3_useObject 120 = .ok (.iaload, 1) := by decide +kernel
theorem dX3_useObject_121 : decode cX3_useObject 121 = .ok (.iload_n 2, 1) := by decide +kernel
theorem dX3_useObject_122 : decode cX3_useObject 122 = .ok (.invokevirtual 263, 3) := by decide +kernel
theorem dX3_useObject_125 : decode cX3_useObject 125 = .ok (.iastore, 1) := by decide +kernel
theorem dX3_useObject_126 : decode cX3_useObject 126 = .ok (.aload_n 0, 1) := by decide +kernel
theorem dX3_useObject_127 : decode cX3_useObject 127 = .ok (.getfield 22, 3) := by decide +kernel
theorem dX3_useObject_130 : decode cX3_useObject 130 = .ok (.iload_n 3, 1) := by decide +kernel
theorem dX3_useObject_131 : decode cX3_useObject 131 = .ok (.iload 4, 2) := by decide +kernel
theorem dX3_useObject_133 : decode cX3_useObject 133 = .ok (.iload_n 2, 1) := by decide +kernel
theorem dX3_useObject_134 : decode cX3_useObject 134 = .ok (.invokestatic 260, 3) := by decide +kernel
theorem dX3_useObject_137 : decode cX3_useObject 137 = .ok (.invokevirtual 244, 3) := by decide +kernel
theorem dX3_useObject_140 : decode cX3_useObject 140 = .ok (.return_, 1) := by decide +kernel
theorem dX3_take_0 : decode cX3_take 0 = .ok (.aload_n 0, 1) := by decide +kernel
theorem dX3_take_1 : decode cX3_take 1 = .ok (.getfield 33, 3) := by decide +kernel
theorem dX3_take_4 : decode cX3_take 4 = .ok (.aload_n 0, 1) := by decide +kernel
theorem dX3_take_5 : decode cX3_take 5 = .ok (.getfield 46, 3) := by decide +kernel
theorem dX3_take_8 : decode cX3_take 8 = .ok (.iconst 1, 1) := by decide +kernel
theorem dX3_take_9 : decode cX3_take 9 = .ok (.isub, 1) := by decide +kernel
theorem dX3_take_10 : decode cX3_take 10 = .ok (.dup2, 1) := by decide +kernel
theorem dX3_take_11 : decode cX3_take 11 = .ok (.iaload, 1) := by decide +kernel
theorem dX3_take_12 : decode cX3_take 12 = .ok (.iconst 1, 1) := by decide +kernel
theorem dX3_take_13 : decode cX3_take 13 = .ok (.isub, 1) := by decide +kernel
theorem dX3_take_14 : decode cX3_take 14 = .ok (.iastore, 1) := by decide +kernel
theorem dX3_take_15 : decode cX3_take 15 = .ok (.aload_n 0, 1) := by decide +kernel
theorem dX3_take_16 : decode cX3_take 16 = .ok (.iconst 0, 1) := by decide +kernel
theorem dX3_take_17 : decode cX3_take 17 = .ok (.invokevirtual 116, 3) := by decide +kernel
theorem dX3_take_20 : decode cX3_take 20 = .ok (.ireturn, 1) := by decide +kernel
theorem dX3_pushPut_0 : decode cX3_pushPut 0 = .ok (.aload_n 0, 1) := by decide +kernel
theorem dX3_pushPut_1 : decode cX3_pushPut 1 = .ok (.getfield 33, 3) := by decide +kernel
theorem dX3_pushPut_4 : decode cX3_pushPut 4 = .ok (.aload_n 0, 1) := by decide +kernel
theorem dX3_pushPut_5 : decode cX3_pushPut 5 = .ok (.getfield 46, 3) := by decide +kernel
theorem dX3_pushPut_8 : decode cX3_pushPut 8 = .ok (.iconst 1, 1) := by decide +kernel
theorem dX3_pushPut_9 : decode cX3_pushPut 9 = .ok (.isub, 1) := by decide +kernel
theorem dX3_pushPut_10 : decode cX3_pushPut 10 = .ok (.dup2, 1) := by decide +kernel
theorem dX3_pushPut_11 : decode cX3_pushPut 11 = .ok (.iaload, 1) := by decide +kernel
theorem dX3_pushPut_12 : decode cX3_pushPut 12 = .ok (.iconst 1, 1) := by decide +kernel
theorem dX3_pushPut_13 : decode cX3_pushPut 13 = .ok (.iadd, 1) := by decide +kernel
theorem dX3_pushPut_14 : decode cX3_pushPut 14 = .ok (.iastore, 1) := by decide +kernel
theorem dX3_pushPut_15 : decode cX3_pushPut 15 = .ok (.aload_n 0, 1) := by decide +kernel
theorem dX3_pushPut_16 : decode cX3_pushPut 16 = .ok (.getfield 22, 3) := by decide +kernel
theorem dX3_pushPut_19 : decode cX3_pushPut 19 = .ok (.aload_n 0, 1) := by decide +kernel
theorem dX3_pushPut_20 : decode cX3_pushPut 20 = .ok (.iconst 1, 1) := by decide +kernel
theorem dX3_pushPut_21 : decode cX3_pushPut 21 = .ok (.invokevirtual 116, 3) := by decide +kernel
theorem dX3_pushPut_24 : decode cX3_pushPut 24 = .ok (.iload_n 1, 1) := by decide +kernel
theorem dX3_pushPut_25 : decode cX3_pushPut 25 = .ok (.iload_n 2, 1) := by decide +kernel
theorem dX3_pushPut_26 : decode cX3_pushPut 26 = .ok (.invokevirtual 70, 3) := by decide +kernel
theorem dX3_pushPut_29 : decode cX3_pushPut 29 = .ok (.return_, 1) := by decide +kernel
theorem dX3_pushMoved_0 : decode cX3_pushMoved 0 = .ok (.aload_n 0, 1) := by decide +kernel
theorem dX3_pushMoved_1 : decode cX3_pushMoved 1 = .ok (.getfield 33, 3) := by decide +kernel
theorem dX3_pushMoved_4 : decode cX3_pushMoved 4 = .ok (.aload_n 0, 1) := by decide +kernel
theorem dX3_pushMoved_5 : decode cX3_pushMoved 5 = .ok (.getfield 46, 3) := by decide +kernel
theorem dX3_pushMoved_8 : decode cX3_pushMoved 8 = .ok (.iconst 1, 1) := by decide +kernel
theorem dX3_pushMoved_9 : decode cX3_pushMoved 9 = .ok (.isub, 1) := by decide +kernel
theorem dX3_pushMoved_10 : decode cX3_pushMoved 10 = .ok (.dup2, 1) := by decide +kernel
theorem dX3_pushMoved_11 : decode cX3_pushMoved 11 = .ok (.iaload, 1) := by decide +kernel
theorem dX3_pushMoved_12 : decode cX3_pushMoved 12 = .ok (.iconst 1, 1) := by decide +kernel
theorem dX3_pushMoved_13 : decode cX3_pushMoved 13 = .ok (.iadd, 1) := by decide +kernel
theorem dX3_pushMoved_14 : decode cX3_pushMoved 14 = .ok (.iastore, 1) := by decide +kernel
theorem dX3_pushMoved_15 : decode cX3_pushMoved 15 = .ok (.aload_n 0, 1) := by decide +kernel
theorem dX3_pushMoved_16 : decode cX3_pushMoved 16 = .ok (.getfield 22, 3) := by decide +kernel
theorem dX3_pushMoved_19 : decode cX3_pushMoved 19 = .ok (.iload_n 1, 1) := by decide +kernel
theorem dX3_pushMoved_20 : decode cX3_pushMoved 20 = .ok (.aload_n 0, 1) := by decide +kernel
theorem dX3_pushMoved_21 : decode cX3_pushMoved 21 = .ok (.iconst 1, 1) := by decide +kernel
theorem dX3_pushMoved_22 : decode cX3_pushMoved 22 = .ok (.invokevirtual 116, 3) := by decide +kernel
theorem dX3_pushMoved_25 : decode cX3_pushMoved 25 = .ok (.invokevirtual 244, 3) := by decide +kernel
theorem dX3_pushMoved_28 : decode cX3_pushMoved 28 = .ok (.return_, 1) := by decide +kernel
theorem dX3_tell_0 : decode cX3_tell 0 = .ok (.aload_n 0, 1) := by decide +kernel
theorem dX3_tell_1 : decode cX3_tell 1 = .ok (.getfield 53, 3) := by decide +kernel
theorem dX3_tell_4 : decode cX3_tell 4 = .ok (.bipush 20, 2) := by decide +kernel
theorem dX3_tell_6 : decode cX3_tell 6 = .ok (.if_icmp .ge 29, 3) := by decide +kernel
theorem dX3_tell_9 : decode cX3_tell 9 = .ok (.aload_n 0, 1) := by decide +kernel
theorem dX3_tell_10 : decode cX3_tell 10 = .ok (.getfield 22, 3) := by decide +kernel
theorem dX3_tell_13 : decode cX3_tell 13 = .ok (.iload_n 1, 1) := by decide +kernel
theorem dX3_tell_14 : decode cX3_tell 14 = .ok (.sipush 528, 3) := by decide +kernel
theorem dX3_tell_17 : decode cX3_tell 17 = .ok (.aload_n 0, 1) := by decide +kernel
theorem dX3_tell_18 : decode cX3_tell 18 = .ok (.getfield 53, 3) := by decide +kernel
theorem dX3_tell_21 : decode cX3_tell 21 = .ok (.iadd, 1) := by decide +kernel
theorem dX3_tell_22 : decode cX3_tell 22 = .ok (.invokevirtual 244, 3) := by decide +kernel
theorem dX3_tell_25 : decode cX3_tell 25 = .ok (.aload_n 0, 1) := by decide +kernel
theorem dX3_tell_26 : decode cX3_tell 26 = .ok (.dup, 1) := by decide +kernel
theorem dX3_tell_27 : decode cX3_tell 27 = .ok (.getfield 53, 3) := by decide +kernel
theorem dX3_tell_30 : decode cX3_tell 30 = .ok (.iconst 1, 1) := by decide +kernel
theorem dX3_tell_31 : decode cX3_tell 31 = .ok (.iadd, 1) := by decide +kernel
theorem dX3_tell_32 : decode cX3_tell 32 = .ok (.putfield 53, 3) := by decide +kernel
theorem dX3_tell_35 : decode cX3_tell 35 = .ok (.return_, 1) := by decide +kernel
theorem dX3_jumpsAtNull_0 : decode cX3_jumpsAtNull 0 = .ok (.aload_n 0, 1) := by decide +kernel
theorem dX3_jumpsAtNull_1 : decode cX3_jumpsAtNull 1 = .ok (.getfield 22, 3) := by decide +kernel
theorem dX3_jumpsAtNull_4 : decode cX3_jumpsAtNull 4 = .ok (.aload_n 0, 1) := by decide +kernel
theorem dX3_jumpsAtNull_5 : decode cX3_jumpsAtNull 5 = .ok (.invokevirtual 241, 3) := by decide +kernel
theorem dX3_jumpsAtNull_8 : decode cX3_jumpsAtNull 8 = .ok (.invokevirtual 266, 3) := by decide +kernel
theorem dX3_jumpsAtNull_11 : decode cX3_jumpsAtNull 11 = .ok (.ifCond .ne 5, 3) := by decide +kernel
theorem dX3_jumpsAtNull_14 : decode cX3_jumpsAtNull 14 = .ok (.iconst 0, 1) := by decide +kernel
theorem dX3_jumpsAtNull_15 : decode cX3_jumpsAtNull 15 = .ok (.ireturn, 1) := by decide +kernel
theorem dX3_jumpsAtNull_16 : decode cX3_jumpsAtNull 16 = .ok (.aload_n 0, 1) := by decide +kernel
theorem dX3_jumpsAtNull_17 : decode cX3_jumpsAtNull 17 = .ok (.getfield 30, 3) := by decide +kernel
theorem dX3_jumpsAtNull_20 : decode cX3_jumpsAtNull 20 = .ok (.aload_n 0, 1) := by decide +kernel
theorem dX3_jumpsAtNull_21 : decode cX3_jumpsAtNull 21 = .ok (.getfield 46, 3) := by decide +kernel
theorem dX3_jumpsAtNull_24 : decode cX3_jumpsAtNull 24 = .ok (.iconst 1, 1) := by decide +kernel
theorem dX3_jumpsAtNull_25 : decode cX3_jumpsAtNull 25 = .ok (.isub, 1) := by decide +kernel
theorem dX3_jumpsAtNull_26 : decode cX3_jumpsAtNull 26 = .ok (.iload_n 1, 1) := by decide +kernel
theorem dX3_jumpsAtNull_27 : decode cX3_jumpsAtNull 27 = .ok (.iastore, 1) := by decide +kernel
theorem dX3_jumpsAtNull_28 : decode cX3_jumpsAtNull 28 = .ok (.iload_n 1, 1) := by decide +kernel
theorem dX3_jumpsAtNull_29 : decode cX3_jumpsAtNull 29 = .ok (.iload_n 2, 1) := by decide +kernel
theorem dX3_jumpsAtNull_30 : decode cX3_jumpsAtNull 30 = .ok (.if_icmp .gt 7, 3) := by decide +kernel
theorem dX3_jumpsAtNull_33 : decode cX3_jumpsAtNull 33 = .ok (.iconst 1, 1) := by decide +kernel
theorem dX3_jumpsAtNull_34 : decode cX3_jumpsAtNull 34 = .ok (.goto 4, 3) := by decide +kernel
theorem dX3_jumpsAtNull_37 : decode cX3_jumpsAtNull 37 = .ok (.iconst 0, 1) := by decide +kernel
theorem dX3_jumpsAtNull_38 : decode cX3_jumpsAtNull 38 = .ok (.ireturn, 1) := by decide +kernel
theorem dX3_call_0 : decode cX3_call 0 = .ok (.aload_n 0, 1) := by decide +kernel
theorem dX3_call_1 : decode cX3_call 1 = .ok (.getfield 46, 3) := by decide +kernel
theorem dX3_call_4 : decode cX3_call 4 = .ok (.iconst 1, 1) := by decide +kernel
theorem dX3_call_5 : decode cX3_call 5 = .ok (.isub, 1) := by decide +kernel
theorem dX3_call_6 : decode cX3_call 6 = .ok (.istore_n 3, 1) := by decide +kernel
theorem dX3_call_7 : decode cX3_call 7 = .ok (.aload_n 0, 1) := by decide +kernel
theorem dX3_call_8 : decode cX3_call 8 = .ok (.getfield 33, 3) := by decide +kernel
theorem dX3_call_11 : decode cX3_call 11 = .ok (.iload_n 3, 1) := by decide +kernel
theorem dX3_call_12 : decode cX3_call 12 = .ok (.dup2, 1) := by decide +kernel
theorem dX3_call_13 : decode cX3_call 13 = .ok (.iaload, 1) := by decide +kernel
theorem dX3_call_14 : decode cX3_call 14 = .ok (.iload_n 2, 1) := by decide +kernel
theorem dX3_call_15 : decode cX3_call 15 = .ok (.isub, 1) := by decide +kernel
theorem dX3_call_16 : decode cX3_call 16 = .ok (.iastore, 1) := by decide +kernel
theorem dX3_call_17 : decode cX3_call 17 = .ok (.aload_n 0, 1) := by decide +kernel
theorem dX3_call_18 : decode cX3_call 18 = .ok (.iload_n 1, 1) := by decide +kernel
theorem dX3_call_19 : decode cX3_call 19 = .ok (.invokevirtual 62, 3) := by decide +kernel
theorem dX3_call_22 : decode cX3_call 22 = .ok (.iconst 0, 1) := by decide +kernel
theorem dX3_call_23 : decode cX3_call 23 = .ok (.istore 4, 2) := by decide +kernel
theorem dX3_call_25 : decode cX3_call 25 = .ok (.iload 4, 2) := by decide +kernel
theorem dX3_call_27 : decode cX3_call 27 = .ok (.iload_n 2, 1) := by decide +kernel
theorem dX3_call_28 : decode cX3_call 28 = .ok (.if_icmp .ge 41, 3) := by decide +kernel
theorem dX3_call_31 : decode cX3_call 31 = .ok (.aload_n 0, 1) := by decide +kernel
theorem dX3_call_32 : decode cX3_call 32 = .ok (.getfield 22, 3) := by decide +kernel
theorem dX3_call_35 : decode cX3_call 35 = .ok (.iload_n 3, 1) := by decide +kernel
theorem dX3_call_36 : decode cX3_call 36 = .ok (.bipush 14, 2) := by decide +kernel
theorem dX3_call_38 : decode cX3_call 38 = .ok (.imul, 1) := by decide +kernel
theorem dX3_call_39 : decode cX3_call 39 = .ok (.bipush 6, 2) := by decide +kernel
theorem dX3_call_41 : decode cX3_call 41 = .ok (.iadd, 1) := by decide +kernel
theorem dX3_call_42 : decode cX3_call 42 = .ok (.aload_n 0, 1) := by decide +kernel
theorem dX3_call_43 : decode cX3_call 43 = .ok (.getfield 33, 3) := by decide +kernel
theorem dX3_call_46 : decode cX3_call 46 = .ok (.iload_n 3, 1) := by decide +kernel
theorem dX3_call_47 : decode cX3_call 47 = .ok (.iaload, 1) := by decide +kernel
theorem dX3_call_48 : decode cX3_call 48 = .ok (.iadd, 1) := by decide +kernel
theorem dX3_call_49 : decode cX3_call 49 = .ok (.iload 4, 2) := by decide +kernel
theorem dX3_call_51 : decode cX3_call 51 = .ok (.iadd, 1) := by decide +kernel
theorem dX3_call_52 : decode cX3_call 52 = .ok (.iload_n 3, 1) := by decide +kernel
theorem dX3_call_53 : decode cX3_call 53 = .ok (.iconst 1, 1) := by decide +kernel
theorem dX3_call_54 : decode cX3_call 54 = .ok (.iadd, 1) := by decide +kernel
theorem dX3_call_55 : decode cX3_call 55 = .ok (.iload 4, 2) := by decide +kernel
theorem dX3_call_57 : decode cX3_call 57 = .ok (.invokestatic 66, 3) := by decide +kernel
theorem dX3_call_60 : decode cX3_call 60 = .ok (.invokevirtual 244, 3) := by decide +kernel
theorem dX3_call_63 : decode cX3_call 63 = .ok (.iinc 4 1, 3) := by decide +kernel
theorem dX3_call_66 : decode cX3_call 66 = .ok (.goto (-41), 3) := by decide +kernel
theorem dX3_call_69 : decode cX3_call 69 = .ok (.return_, 1) := by decide +kernel
theorem dX3_giveBack_0 : decode cX3_giveBack 0 = .ok (.aload_n 0, 1) := by decide +kernel
theorem dX3_giveBack_1 : decode cX3_giveBack 1 = .ok (.invokevirtual 241, 3) := by decide +kernel
theorem dX3_giveBack_4 : decode cX3_giveBack 4 = .ok (.istore_n 1, 1) := by decide +kernel
theorem dX3_giveBack_5 : decode cX3_giveBack 5 = .ok (.aload_n 0, 1) := by decide +kernel
theorem dX3_giveBack_6 : decode cX3_giveBack 6 = .ok (.dup, 1) := by decide +kernel
theorem dX3_giveBack_7 : decode cX3_giveBack 7 = .ok (.getfield 46, 3) := by decide +kernel
theorem dX3_giveBack_10 : decode cX3_giveBack 10 = .ok (.iconst 1, 1) := by decide +kernel
theorem dX3_giveBack_11 : decode cX3_giveBack 11 = .ok (.isub, 1) := by decide +kernel
theorem dX3_giveBack_12 : decode cX3_giveBack 12 = .ok (.putfield 46, 3) := by decide +kernel
theorem dX3_giveBack_15 : decode cX3_giveBack 15 = .ok (.aload_n 0, 1) := by decide +kernel
theorem dX3_giveBack_16 : decode cX3_giveBack 16 = .ok (.getfield 46, 3) := by decide +kernel
theorem dX3_giveBack_19 : decode cX3_giveBack 19 = .ok (.ifCond .ne 23, 3) := by decide +kernel
theorem dX3_giveBack_22 : decode cX3_giveBack 22 = .ok (.aload_n 0, 1) := by decide +kernel
theorem dX3_giveBack_23 : decode cX3_giveBack 23 = .ok (.getfield 22, 3) := by decide +kernel
theorem dX3_giveBack_26 : decode cX3_giveBack 26 = .ok (.iload_n 1, 1) := by decide +kernel
theorem dX3_giveBack_27 : decode cX3_giveBack 27 = .ok (.sipush 548, 3) := by decide +kernel
theorem dX3_giveBack_30 : decode cX3_giveBack 30 = .ok (.invokevirtual 244, 3) := by decide +kernel
theorem dX3_giveBack_33 : decode cX3_giveBack 33 = .ok (.aload_n 0, 1) := by decide +kernel
theorem dX3_giveBack_34 : decode cX3_giveBack 34 = .ok (.bipush 118, 2) := by decide +kernel
theorem dX3_giveBack_36 : decode cX3_giveBack 36 = .ok (.putfield 39, 3) := by decide +kernel
theorem dX3_giveBack_39 : decode cX3_giveBack 39 = .ok (.goto 8, 3) := by decide +kernel
theorem dX3_giveBack_42 : decode cX3_giveBack 42 = .ok (.aload_n 0, 1) := by decide +kernel
theorem dX3_giveBack_43 : decode cX3_giveBack 43 = .ok (.iload_n 1, 1) := by decide +kernel
theorem dX3_giveBack_44 : decode cX3_giveBack 44 = .ok (.invokevirtual 238, 3) := by decide +kernel
theorem dX3_giveBack_47 : decode cX3_giveBack 47 = .ok (.return_, 1) := by decide +kernel
theorem dX3_answerTo_0 : decode cX3_answerTo 0 = .ok (.aload_n 0, 1) := by decide +kernel
theorem dX3_answerTo_1 : decode cX3_answerTo 1 = .ok (.iload_n 2, 1) := by decide +kernel
theorem dX3_answerTo_2 : decode cX3_answerTo 2 = .ok (.invokevirtual 116, 3) := by decide +kernel
theorem dX3_answerTo_5 : decode cX3_answerTo 5 = .ok (.istore_n 3, 1) := by decide +kernel
theorem dX3_answerTo_6 : decode cX3_answerTo 6 = .ok (.iload_n 1, 1) := by decide +kernel
theorem dX3_answerTo_7 : decode cX3_answerTo 7 = .ok (.lookupswitch 75 #[(107, 33), (111, 43), (115, 69)], 33) := by decide +kernel
theorem dX3_answerTo_40 : decode cX3_answerTo 40 = .ok (.aload_n 0, 1) := by decide +kernel
theorem dX3_answerTo_41 : decode cX3_answerTo 41 = .ok (.getfield 22, 3) := by decide +kernel
theorem dX3_answerTo_44 : decode cX3_answerTo 44 = .ok (.getfield 184, 3) := by decide +kernel
theorem dX3_answerTo_47 : decode cX3_answerTo 47 = .ok (.iload_n 3, 1) := by decide +kernel
theorem dX3_answerTo_48 : decode cX3_answerTo 48 = .ok (.caload, 1) := by decide +kernel
theorem dX3_answerTo_49 : decode cX3_answerTo 49 = .ok (.ireturn, 1) := by decide +kernel
theorem dX3_answerTo_50 : decode cX3_answerTo 50 = .ok (.aload_n 0, 1) := by decide +kernel
theorem dX3_answerTo_51 : decode cX3_answerTo 51 = .ok (.getfield 22, 3) := by decide +kernel
theorem dX3_answerTo_54 : decode cX3_answerTo 54 = .ok (.aload_n 0, 1) := by decide +kernel
theorem dX3_answerTo_55 : decode cX3_answerTo 55 = .ok (.getfield 141, 3) := by decide +kernel
theorem dX3_answerTo_58 : decode cX3_answerTo 58 = .ok (.iload_n 3, 1) := by decide +kernel
theorem dX3_answerTo_59 : decode cX3_answerTo 59 = .ok (.aload_n 0, 1) := by decide +kernel
theorem dX3_answerTo_60 : decode cX3_answerTo 60 = .ok (.iconst 1, 1) := by decide +kernel
theorem dX3_answerTo_61 : decode cX3_answerTo 61 = .ok (.invokevirtual 116, 3) := by decide +kernel
theorem dX3_answerTo_64 : decode cX3_answerTo 64 = .ok (.invokevirtual 269, 3) := by decide +kernel
theorem dX3_answerTo_67 : decode cX3_answerTo 67 = .ok (.ifCond .eq 7, 3) := by decide +kernel
theorem dX3_answerTo_70 : decode cX3_answerTo 70 = .ok (.iconst 1, 1) := by decide +kernel
theorem dX3_answerTo_71 : decode cX3_answerTo 71 = .ok (.goto 4, 3) := by decide +kernel
theorem dX3_answerTo_74 : decode cX3_answerTo 74 = .ok (.iconst 0, 1) := by decide +kernel
theorem dX3_answerTo_75 : decode cX3_answerTo 75 = .ok (.ireturn, 1) := by decide +kernel
theorem dX3_answerTo_76 : decode cX3_answerTo 76 = .ok (.aload_n 0, 1) := by decide +kernel
theorem dX3_answerTo_77 : decode cX3_answerTo 77 = .ok (.iload_n 2, 1) := by decide +kernel
theorem dX3_answerTo_78 : decode cX3_answerTo 78 = .ok (.invokevirtual 125, 3) := by decide +kernel
theorem dX3_answerTo_81 : decode cX3_answerTo 81 = .ok (.ireturn, 1) := by decide +kernel
theorem dX3_answerTo_82 : decode cX3_answerTo 82 = .ok (.aload_n 0, 1) := by decide +kernel
