theorem dX11_fields_5 : decode cX11_fields 5 = .ok (.aload_n 0, 1) := by decide +kernel
theorem dX11_fields_6 : decode cX11_fields 6 = .ok (.getfield 19, 3) := by decide +kernel
theorem dX11_fields_9 : decode cX11_fields 9 = .ok (.getfield 294, 3) := by decide +kernel
theorem dX11_fields_12 : decode cX11_fields 12 = .ok (.iload_n 1, 1) := by decide +kernel
theorem dX11_fields_13 : decode cX11_fields 13 = .ok (.iaload, 1) := by decide +kernel
theorem dX11_fields_14 : decode cX11_fields 14 = .ok (.ireturn, 1) := by decide +kernel
theorem dX11_fieldAt_0 : decode cX11_fieldAt 0 = .ok (.aload_n 0, 1) := by decide +kernel
theorem dX11_fieldAt_1 : decode cX11_fieldAt 1 = .ok (.iload_n 1, 1) := by decide +kernel
theorem dX11_fieldAt_2 : decode cX11_fieldAt 2 = .ok (.invokevirtual 291, 3) := by decide +kernel
theorem dX11_fieldAt_5 : decode cX11_fieldAt 5 = .ok (.iload_n 2, 1) := by decide +kernel
theorem dX11_fieldAt_6 : decode cX11_fieldAt 6 = .ok (.ifCond .lt 16, 3) := by decide +kernel
theorem dX11_fieldAt_9 : decode cX11_fieldAt 9 = .ok (.iload_n 2, 1) := by decide +kernel
theorem dX11_fieldAt_10 : decode cX11_fieldAt 10 = .ok (.aload_n 0, 1) := by decide +kernel
theorem dX11_fieldAt_11 : decode cX11_fieldAt 11 = .ok (.getfield 19, 3) := by decide +kernel
theorem dX11_fieldAt_14 : decode cX11_fieldAt 14 = .ok (.getfield 294, 3) := by decide +kernel
theorem dX11_fieldAt_17 : decode cX11_fieldAt 17 = .ok (.iload_n 1, 1) := by decide +kernel
theorem dX11_fieldAt_18 : decode cX11_fieldAt 18 = .ok (.iaload, 1) := by decide +kernel
theorem dX11_fieldAt_19 : decode cX11_fieldAt 19 = .ok (.if_icmp .lt 14, 3) := by decide +kernel
theorem dX11_fieldAt_22 : decode cX11_fieldAt 22 = .ok (.new 144, 3) := by decide +kernel
theorem dX11_fieldAt_25 : decode cX11_fieldAt 25 = .ok (.dup, 1) := by decide +kernel
theorem dX11_fieldAt_26 : decode cX11_fieldAt 26 = .ok (.ldc_w 297, 3) := by decide +kernel
theorem dX11_fieldAt_29 : decode cX11_fieldAt 29 = .ok (.invokespecial 148, 3) := by decide +kernel
theorem dX11_fieldAt_32 : decode cX11_fieldAt 32 = .ok (.athrow, 1) := by decide +kernel
theorem dX11_fieldAt_33 : decode cX11_fieldAt 33 = .ok (.aload_n 0, 1) := by decide +kernel
theorem dX11_fieldAt_34 : decode cX11_fieldAt 34 = .ok (.getfield 19, 3) := by decide +kernel
theorem dX11_fieldAt_37 : decode cX11_fieldAt 37 = .ok (.getfield 299, 3) := by decide +kernel
theorem dX11_fieldAt_40 : decode cX11_fieldAt 40 = .ok (.iload_n 1, 1) := by decide +kernel
theorem dX11_fieldAt_41 : decode cX11_fieldAt 41 = .ok (.bipush 6, 2) := by decide +kernel
theorem dX11_fieldAt_43 : decode cX11_fieldAt 43 = .ok (.imul, 1) := by decide +kernel
theorem dX11_fieldAt_44 : decode cX11_fieldAt 44 = .ok (.iload_n 2, 1) := by decide +kernel
theorem dX11_fieldAt_45 : decode cX11_fieldAt 45 = .ok (.iadd, 1) := by decide +kernel
theorem dX11_fieldAt_46 : decode cX11_fieldAt 46 = .ok (.iaload, 1) := by decide +kernel
theorem dX11_fieldAt_47 : decode cX11_fieldAt 47 = .ok (.ireturn, 1) := by decide +kernel
theorem dX11_nextShape_0 : decode cX11_nextShape 0 = .ok (.aload_n 0, 1) := by decide +kernel
theorem dX11_nextShape_1 : decode cX11_nextShape 1 = .ok (.iload_n 1, 1) := by decide +kernel
theorem dX11_nextShape_2 : decode cX11_nextShape 2 = .ok (.invokevirtual 291, 3) := by decide +kernel
theorem dX11_nextShape_5 : decode cX11_nextShape 5 = .ok (.iload_n 2, 1) := by decide +kernel
theorem dX11_nextShape_6 : decode cX11_nextShape 6 = .ok (.invokestatic 136, 3) := by decide +kernel
theorem dX11_nextShape_9 : decode cX11_nextShape 9 = .ok (.ifCond .eq 21, 3) := by decide +kernel
theorem dX11_nextShape_12 : decode cX11_nextShape 12 = .ok (.aload_n 0, 1) := by decide +kernel
theorem dX11_nextShape_13 : decode cX11_nextShape 13 = .ok (.getfield 19, 3) := by decide +kernel
theorem dX11_nextShape_16 : decode cX11_nextShape 16 = .ok (.getfield 302, 3) := by decide +kernel
theorem dX11_nextShape_19 : decode cX11_nextShape 19 = .ok (.iload_n 1, 1) := by decide +kernel
theorem dX11_nextShape_20 : decode cX11_nextShape 20 = .ok (.bipush 6, 2) := by decide +kernel
theorem dX11_nextShape_22 : decode cX11_nextShape 22 = .ok (.imul, 1) := by decide +kernel
theorem dX11_nextShape_23 : decode cX11_nextShape 23 = .ok (.iload_n 2, 1) := by decide +kernel
theorem dX11_nextShape_24 : decode cX11_nextShape 24 = .ok (.iadd, 1) := by decide +kernel
theorem dX11_nextShape_25 : decode cX11_nextShape 25 = .ok (.iaload, 1) := by decide +kernel
theorem dX11_nextShape_26 : decode cX11_nextShape 26 = .ok (.iconst (-1), 1) := by decide +kernel
theorem dX11_nextShape_27 : decode cX11_nextShape 27 = .ok (.if_icmp .ne 14, 3) := by decide +kernel
theorem dX11_nextShape_30 : decode cX11_nextShape 30 = .ok (.new 144, 3) := by decide +kernel
theorem dX11_nextShape_33 : decode cX11_nextShape 33 = .ok (.dup, 1) := by decide +kernel
theorem dX11_nextShape_34 : decode cX11_nextShape 34 = .ok (.ldc_w 305, 3) := by decide +kernel
theorem dX11_nextShape_37 : decode cX11_nextShape 37 = .ok (.invokespecial 148, 3) := by decide +kernel
theorem dX11_nextShape_40 : decode cX11_nextShape 40 = .ok (.athrow, 1) := by decide +kernel
theorem dX11_nextShape_41 : decode cX11_nextShape 41 = .ok (.aload_n 0, 1) := by decide +kernel
theorem dX11_nextShape_42 : decode cX11_nextShape 42 = .ok (.getfield 19, 3) := by decide +kernel
theorem dX11_nextShape_45 : decode cX11_nextShape 45 = .ok (.getfield 302, 3) := by decide +kernel
theorem dX11_nextShape_48 : decode cX11_nextShape 48 = .ok (.iload_n 1, 1) := by decide +kernel
theorem dX11_nextShape_49 : decode cX11_nextShape 49 = .ok (.bipush 6, 2) := by decide +kernel
theorem dX11_nextShape_51 : decode cX11_nextShape 51 = .ok (.imul, 1) := by decide +kernel
theorem dX11_nextShape_52 : decode cX11_nextShape 52 = .ok (.iload_n 2, 1) := by decide +kernel
theorem dX11_nextShape_53 : decode cX11_nextShape 53 = .ok (.iadd, 1) := by decide +kernel
theorem dX11_nextShape_54 : decode cX11_nextShape 54 = .ok (.iaload, 1) := by decide +kernel
theorem dX11_nextShape_55 : decode cX11_nextShape 55 = .ok (.ireturn, 1) := by decide +kernel
theorem dX11_cacheState_0 : decode cX11_cacheState 0 = .ok (.aload_n 0, 1) := by decide +kernel
theorem dX11_cacheState_1 : decode cX11_cacheState 1 = .ok (.getfield 40, 3) := by decide +kernel
theorem dX11_cacheState_4 : decode cX11_cacheState 4 = .ok (.getfield 157, 3) := by decide +kernel
theorem dX11_cacheState_7 : decode cX11_cacheState 7 = .ok (.aload_n 0, 1) := by decide +kernel
theorem dX11_cacheState_8 : decode cX11_cacheState 8 = .ok (.iload_n 1, 1) := by decide +kernel
theorem dX11_cacheState_9 : decode cX11_cacheState 9 = .ok (.iload_n 2, 1) := by decide +kernel
theorem dX11_cacheState_10 : decode cX11_cacheState 10 = .ok (.invokevirtual 307, 3) := by decide +kernel
theorem dX11_cacheState_13 : decode cX11_cacheState 13 = .ok (.invokevirtual 310, 3) := by decide +kernel
theorem dX11_cacheState_16 : decode cX11_cacheState 16 = .ok (.ireturn, 1) := by decide +kernel
theorem dX11_hits_0 : decode cX11_hits 0 = .ok (.aload_n 0, 1) := by decide +kernel
theorem dX11_hits_1 : decode cX11_hits 1 = .ok (.getfield 40, 3) := by decide +kernel
theorem dX11_hits_4 : decode cX11_hits 4 = .ok (.getfield 157, 3) := by decide +kernel
theorem dX11_hits_7 : decode cX11_hits 7 = .ok (.getfield 314, 3) := by decide +kernel
theorem dX11_hits_10 : decode cX11_hits 10 = .ok (.aload_n 0, 1) := by decide +kernel
theorem dX11_hits_11 : decode cX11_hits 11 = .ok (.iload_n 1, 1) := by decide +kernel
theorem dX11_hits_12 : decode cX11_hits 12 = .ok (.iload_n 2, 1) := by decide +kernel
theorem dX11_hits_13 : decode cX11_hits 13 = .ok (.invokevirtual 307, 3) := by decide +kernel
theorem dX11_hits_16 : decode cX11_hits 16 = .ok (.iaload, 1) := by decide +kernel
theorem dX11_hits_17 : decode cX11_hits 17 = .ok (.ireturn, 1) := by decide +kernel
theorem dX11_misses_0 : decode cX11_misses 0 = .ok (.aload_n 0, 1) := by decide +kernel
theorem dX11_misses_1 : decode cX11_misses 1 = .ok (.getfield 40, 3) := by decide +kernel
theorem dX11_misses_4 : decode cX11_misses 4 = .ok (.getfield 157, 3) := by decide +kernel
theorem dX11_misses_7 : decode cX11_misses 7 = .ok (.getfield 317, 3) := by decide +kernel
theorem dX11_misses_10 : decode cX11_misses 10 = .ok (.aload_n 0, 1) := by decide +kernel
theorem dX11_misses_11 : decode cX11_misses 11 = .ok (.iload_n 1, 1) := by decide +kernel
theorem dX11_misses_12 : decode cX11_misses 12 = .ok (.iload_n 2, 1) := by decide +kernel
theorem dX11_misses_13 : decode cX11_misses 13 = .ok (.invokevirtual 307, 3) := by decide +kernel
theorem dX11_misses_16 : decode cX11_misses 16 = .ok (.iaload, 1) := by decide +kernel
theorem dX11_misses_17 : decode cX11_misses 17 = .ok (.ireturn, 1) := by decide +kernel
theorem dX11_counter_0 : decode cX11_counter 0 = .ok (.aload_n 0, 1) := by decide +kernel
theorem dX11_counter_1 : decode cX11_counter 1 = .ok (.iload_n 1, 1) := by decide +kernel
theorem dX11_counter_2 : decode cX11_counter 2 = .ok (.invokevirtual 68, 3) := by decide +kernel
theorem dX11_counter_5 : decode cX11_counter 5 = .ok (.aload_n 0, 1) := by decide +kernel
theorem dX11_counter_6 : decode cX11_counter 6 = .ok (.iload_n 2, 1) := by decide +kernel
theorem dX11_counter_7 : decode cX11_counter 7 = .ok (.invokevirtual 97, 3) := by decide +kernel
theorem dX11_counter_10 : decode cX11_counter 10 = .ok (.aload_n 0, 1) := by decide +kernel
theorem dX11_counter_11 : decode cX11_counter 11 = .ok (.getfield 40, 3) := by decide +kernel
theorem dX11_counter_14 : decode cX11_counter 14 = .ok (.getfield 320, 3) := by decide +kernel
theorem dX11_counter_17 : decode cX11_counter 17 = .ok (.getfield 324, 3) := by decide +kernel
theorem dX11_counter_20 : decode cX11_counter 20 = .ok (.iload_n 1, 1) := by decide +kernel
theorem dX11_counter_21 : decode cX11_counter 21 = .ok (.iload_n 2, 1) := by decide +kernel
theorem dX11_counter_22 : decode cX11_counter 22 = .ok (.invokestatic 329, 3) := by decide +kernel
theorem dX11_counter_25 : decode cX11_counter 25 = .ok (.iaload, 1) := by decide +kernel
theorem dX11_counter_26 : decode cX11_counter 26 = .ok (.ireturn, 1) := by decide +kernel
theorem dX11_isBarred_0 : decode cX11_isBarred 0 = .ok (.aload_n 0, 1) := by decide +kernel
theorem dX11_isBarred_1 : decode cX11_isBarred 1 = .ok (.iload_n 1, 1) := by decide +kernel
theorem dX11_isBarred_2 : decode cX11_isBarred 2 = .ok (.invokevirtual 68, 3) := by decide +kernel
theorem dX11_isBarred_5 : decode cX11_isBarred 5 = .ok (.aload_n 0, 1) := by decide +kernel
theorem dX11_isBarred_6 : decode cX11_isBarred 6 = .ok (.iload_n 2, 1) := by decide +kernel
theorem dX11_isBarred_7 : decode cX11_isBarred 7 = .ok (.invokevirtual 97, 3) := by decide +kernel
theorem dX11_isBarred_10 : decode cX11_isBarred 10 = .ok (.aload_n 0, 1) := by decide +kernel
theorem dX11_isBarred_11 : decode cX11_isBarred 11 = .ok (.getfield 40, 3) := by decide +kernel
theorem dX11_isBarred_14 : decode cX11_isBarred 14 = .ok (.getfield 320, 3) := by decide +kernel
theorem dX11_isBarred_17 : decode cX11_isBarred 17 = .ok (.iload_n 1, 1) := by decide +kernel
theorem dX11_isBarred_18 : decode cX11_isBarred 18 = .ok (.iload_n 2, 1) := by decide +kernel
theorem dX11_isBarred_19 : decode cX11_isBarred 19 = .ok (.invokestatic 329, 3) := by decide +kernel
theorem dX11_isBarred_22 : decode cX11_isBarred 22 = .ok (.invokevirtual 332, 3) := by decide +kernel
theorem dX11_isBarred_25 : decode cX11_isBarred 25 = .ok (.ireturn, 1) := by decide +kernel
theorem dX11_traces_0 : decode cX11_traces 0 = .ok (.aload_n 0, 1) := by decide +kernel
theorem dX11_traces_1 : decode cX11_traces 1 = .ok (.getfield 40, 3) := by decide +kernel
theorem dX11_traces_4 : decode cX11_traces 4 = .ok (.getfield 167, 3) := by decide +kernel
theorem dX11_traces_7 : decode cX11_traces 7 = .ok (.getfield 335, 3) := by decide +kernel
theorem dX11_traces_10 : decode cX11_traces 10 = .ok (.ireturn, 1) := by decide +kernel
theorem dX11_isThere_0 : decode cX11_isThere 0 = .ok (.aload_n 0, 1) := by decide +kernel
theorem dX11_isThere_1 : decode cX11_isThere 1 = .ok (.iload_n 1, 1) := by decide +kernel
theorem dX11_isThere_2 : decode cX11_isThere 2 = .ok (.invokevirtual 336, 3) := by decide +kernel
theorem dX11_isThere_5 : decode cX11_isThere 5 = .ok (.getfield 340, 3) := by decide +kernel
theorem dX11_isThere_8 : decode cX11_isThere 8 = .ok (.ireturn, 1) := by decide +kernel
theorem dX11_steps_0 : decode cX11_steps 0 = .ok (.aload_n 0, 1) := by decide +kernel
theorem dX11_steps_1 : decode cX11_steps 1 = .ok (.iload_n 1, 1) := by decide +kernel
theorem dX11_steps_2 : decode cX11_steps 2 = .ok (.invokevirtual 336, 3) := by decide +kernel
theorem dX11_steps_5 : decode cX11_steps 5 = .ok (.getfield 345, 3) := by decide +kernel
theorem dX11_steps_8 : decode cX11_steps 8 = .ok (.ireturn, 1) := by decide +kernel
theorem dX11_lineAt_0 : decode cX11_lineAt 0 = .ok (.aload_n 0, 1) := by decide +kernel
theorem dX11_lineAt_1 : decode cX11_lineAt 1 = .ok (.iload_n 1, 1) := by decide +kernel
theorem dX11_lineAt_2 : decode cX11_lineAt 2 = .ok (.invokevirtual 336, 3) := by decide +kernel
theorem dX11_lineAt_5 : decode cX11_lineAt 5 = .ok (.astore_n 3, 1) := by decide +kernel
theorem dX11_lineAt_6 : decode cX11_lineAt 6 = .ok (.iload_n 2, 1) := by decide +kernel
theorem dX11_lineAt_7 : decode cX11_lineAt 7 = .ok (.ifCond .lt 11, 3) := by decide +kernel
theorem dX11_lineAt_10 : decode cX11_lineAt 10 = .ok (.iload_n 2, 1) := by decide +kernel
theorem dX11_lineAt_11 : decode cX11_lineAt 11 = .ok (.aload_n 3, 1) := by decide +kernel
theorem dX11_lineAt_12 : decode cX11_lineAt 12 = .ok (.getfield 345, 3) := by decide +kernel
theorem dX11_lineAt_15 : decode cX11_lineAt 15 = .ok (.if_icmp .lt 14, 3) := by decide +kernel
theorem dX11_lineAt_18 : decode cX11_lineAt 18 = .ok (.new 144, 3) := by decide +kernel
theorem dX11_lineAt_21 : decode cX11_lineAt 21 = .ok (.dup, 1) := by decide +kernel
theorem dX11_lineAt_22 : decode cX11_lineAt 22 = .ok (.ldc_w 348, 3) := by decide +kernel
theorem dX11_lineAt_25 : decode cX11_lineAt 25 = .ok (.invokespecial 148, 3) := by decide +kernel
theorem dX11_lineAt_28 : decode cX11_lineAt 28 = .ok (.athrow, 1) := by decide +kernel
theorem dX11_lineAt_29 : decode cX11_lineAt 29 = .ok (.aload_n 3, 1) := by decide +kernel
theorem dX11_lineAt_30 : decode cX11_lineAt 30 = .ok (.getfield 350, 3) := by decide +kernel
theorem dX11_lineAt_33 : decode cX11_lineAt 33 = .ok (.iload_n 2, 1) := by decide +kernel
theorem dX11_lineAt_34 : decode cX11_lineAt 34 = .ok (.iaload, 1) := by decide +kernel
theorem dX11_lineAt_35 : decode cX11_lineAt 35 = .ok (.ireturn, 1) := by decide +kernel
theorem dX11_guards_0 : decode cX11_guards 0 = .ok (.aload_n 0, 1) := by decide +kernel
theorem dX11_guards_1 : decode cX11_guards 1 = .ok (.iload_n 1, 1) := by decide +kernel
theorem dX11_guards_2 : decode cX11_guards 2 = .ok (.invokevirtual 336, 3) := by decide +kernel
theorem dX11_guards_5 : decode cX11_guards 5 = .ok (.getfield 353, 3) := by decide +kernel
theorem dX11_guards_8 : decode cX11_guards 8 = .ok (.ireturn, 1) := by decide +kernel
theorem dX11_guardAt_0 : decode cX11_guardAt 0 = .ok (.aload_n 0, 1) := by decide +kernel
theorem dX11_guardAt_1 : decode cX11_guardAt 1 = .ok (.iload_n 1, 1) := by decide +kernel
theorem dX11_guardAt_2 : decode cX11_guardAt 2 = .ok (.iload_n 2, 1) := by decide +kernel
theorem dX11_guardAt_3 : decode cX11_guardAt 3 = .ok (.invokevirtual 356, 3) := by decide +kernel
theorem dX11_guardAt_6 : decode cX11_guardAt 6 = .ok (.getfield 360, 3) := by decide +kernel
theorem dX11_guardAt_9 : decode cX11_guardAt 9 = .ok (.iload_n 2, 1) := by decide +kernel
theorem dX11_guardAt_10 : decode cX11_guardAt 10 = .ok (.iaload, 1) := by decide +kernel
theorem dX11_guardAt_11 : decode cX11_guardAt 11 = .ok (.i2c, 1) := by decide +kernel
theorem dX11_guardAt_12 : decode cX11_guardAt 12 = .ok (.ireturn, 1) := by decide +kernel
theorem dX11_guardStep_0 : decode cX11_guardStep 0 = .ok (.aload_n 0, 1) := by decide +kernel
theorem dX11_guardStep_1 : decode cX11_guardStep 1 = .ok (.iload_n 1, 1) := by decide +kernel
theorem dX11_guardStep_2 : decode cX11_guardStep 2 = .ok (.iload_n 2, 1) := by decide +kernel
theorem dX11_guardStep_3 : decode cX11_guardStep 3 = .ok (.invokevirtual 356, 3) := by decide +kernel
theorem dX11_guardStep_6 : decode cX11_guardStep 6 = .ok (.getfield 363, 3) := by decide +kernel
theorem dX11_guardStep_9 : decode cX11_guardStep 9 = .ok (.iload_n 2, 1) := by decide +kernel
theorem dX11_guardStep_10 : decode cX11_guardStep 10 = .ok (.iaload, 1) := by decide +kernel
theorem dX11_guardStep_11 : decode cX11_guardStep 11 = .ok (.ireturn, 1) := by decide +kernel
theorem dX11_exits_0 : decode cX11_exits 0 = .ok (.aload_n 0, 1) := by decide +kernel
theorem dX11_exits_1 : decode cX11_exits 1 = .ok (.iload_n 1, 1) := by decide +kernel
theorem dX11_exits_2 : decode cX11_exits 2 = .ok (.iload_n 2, 1) := by decide +kernel
theorem dX11_exits_3 : decode cX11_exits 3 = .ok (.invokevirtual 356, 3) := by decide +kernel
theorem dX11_exits_6 : decode cX11_exits 6 = .ok (.getfield 366, 3) := by decide +kernel
theorem dX11_exits_9 : decode cX11_exits 9 = .ok (.iload_n 2, 1) := by decide +kernel
theorem dX11_exits_10 : decode cX11_exits 10 = .ok (.iaload, 1) := by decide +kernel
theorem dX11_exits_11 : decode cX11_exits 11 = .ok (.ireturn, 1) := by decide +kernel
theorem dX11_sideOf_0 : decode cX11_sideOf 0 = .ok (.aload_n 0, 1) := by decide +kernel
theorem dX11_sideOf_1 : decode cX11_sideOf 1 = .ok (.iload_n 1, 1) := by decide +kernel
theorem dX11_sideOf_2 : decode cX11_sideOf 2 = .ok (.iload_n 2, 1) := by decide +kernel
theorem dX11_sideOf_3 : decode cX11_sideOf 3 = .ok (.invokevirtual 356, 3) := by decide +kernel
theorem dX11_sideOf_6 : decode cX11_sideOf 6 = .ok (.getfield 369, 3) := by decide +kernel
theorem dX11_sideOf_9 : decode cX11_sideOf 9 = .ok (.iload_n 2, 1) := by decide +kernel
theorem dX11_sideOf_10 : decode cX11_sideOf 10 = .ok (.iaload, 1) := by decide +kernel
theorem dX11_sideOf_11 : decode cX11_sideOf 11 = .ok (.istore_n 3, 1) := by decide +kernel
theorem dX11_sideOf_12 : decode cX11_sideOf 12 = .ok (.iload_n 3, 1) := by decide +kernel
theorem dX11_sideOf_13 : decode cX11_sideOf 13 = .ok (.iconst (-1), 1) := by decide +kernel
theorem dX11_sideOf_14 : decode cX11_sideOf 14 = .ok (.if_icmp .ne 14, 3) := by decide +kernel
theorem dX11_sideOf_17 : decode cX11_sideOf 17 = .ok (.new 144, 3) := by decide +kernel
theorem dX11_sideOf_20 : decode cX11_sideOf 20 = .ok (.dup, 1) := by decide +kernel
theorem dX11_sideOf_21 : decode cX11_sideOf 21 = .ok (.ldc_w 372, 3) := by decide +kernel
theorem dX11_sideOf_24 : decode cX11_sideOf 24 = .ok (.invokespecial 148, 3) := by decide +kernel
theorem dX11_sideOf_27 : decode cX11_sideOf 27 = .ok (.athrow, 1) := by decide +kernel
theorem dX11_sideOf_28 : decode cX11_sideOf 28 = .ok (.iload_n 3, 1) := by decide +kernel
theorem dX11_sideOf_29 : decode cX11_sideOf 29 = .ok (.ireturn, 1) := by decide +kernel
theorem dX11_rootOf_0 : decode cX11_rootOf 0 = .ok (.aload_n 0, 1) := by decide +kernel
theorem dX11_rootOf_1 : decode cX11_rootOf 1 = .ok (.iload_n 1, 1) := by decide +kernel
theorem dX11_rootOf_2 : decode cX11_rootOf 2 = .ok (.invokevirtual 336, 3) := by decide +kernel
theorem dX11_rootOf_5 : decode cX11_rootOf 5 = .ok (.getfield 374, 3) := by decide +kernel
theorem dX11_rootOf_8 : decode cX11_rootOf 8 = .ok (.ireturn, 1) := by decide +kernel
theorem dX11_begun_0 : decode cX11_begun 0 = .ok (.aload_n 0, 1) := by decide +kernel
theorem dX11_begun_1 : decode cX11_begun 1 = .ok (.iload_n 1, 1) := by decide +kernel
theorem dX11_begun_2 : decode cX11_begun 2 = .ok (.invokevirtual 336, 3) := by decide +kernel
theorem dX11_begun_5 : decode cX11_begun 5 = .ok (.getfield 377, 3) := by decide +kernel
theorem dX11_begun_8 : decode cX11_begun 8 = .ok (.ireturn, 1) := by decide +kernel
theorem dX11_inTraces_0 : decode cX11_inTraces 0 = .ok (.aload_n 0, 1) := by decide +kernel
theorem dX11_inTraces_1 : decode cX11_inTraces 1 = .ok (.getfield 40, 3) := by decide +kernel
theorem dX11_inTraces_4 : decode cX11_inTraces 4 = .ok (.getfield 380, 3) := by decide +kernel
theorem dX11_inTraces_7 : decode cX11_inTraces 7 = .ok (.ireturn, 1) := by decide +kernel
theorem dX11_codeSize_0 : decode cX11_codeSize 0 = .ok (.aload_n 0, 1) := by decide +kernel
theorem dX11_codeSize_1 : decode cX11_codeSize 1 = .ok (.getfield 40, 3) := by decide +kernel
theorem dX11_codeSize_4 : decode cX11_codeSize 4 = .ok (.getfield 167, 3) := by decide +kernel
theorem dX11_codeSize_7 : decode cX11_codeSize 7 = .ok (.invokevirtual 383, 3) := by decide +kernel
theorem dX11_codeSize_10 : decode cX11_codeSize 10 = .ok (.ireturn, 1) := by decide +kernel
theorem dX11_agrees_0 : decode cX11_agrees 0 = .ok (.aload_n 0, 1) := by decide +kernel
theorem dX11_agrees_1 : decode cX11_agrees 1 = .ok (.getfield 44, 3) := by decide +kernel
theorem dX11_agrees_4 : decode cX11_agrees 4 = .ok (.ireturn, 1) := by decide +kernel
theorem dX11_tracedShare_0 : decode cX11_tracedShare 0 = .ok (.aload_n 0, 1) := by decide +kernel
theorem dX11_tracedShare_1 : decode cX11_tracedShare 1 = .ok (.getfield 28, 3) := by decide +kernel
theorem dX11_tracedShare_4 : decode cX11_tracedShare 4 = .ok (.getfield 235, 3) := by decide +kernel
theorem dX11_tracedShare_7 : decode cX11_tracedShare 7 = .ok (.ifCond .ne 14, 3) := by decide +kernel
theorem dX11_tracedShare_10 : decode cX11_tracedShare 10 = .ok (.new 386, 3) := by decide +kernel
theorem dX11_tracedShare_13 : decode cX11_tracedShare 13 = .ok (.dup, 1) := by decide +kernel
theorem dX11_tracedShare_14 : decode cX11_tracedShare 14 = .ok (.ldc_w 388, 3) := by decide +kernel
theorem dX11_tracedShare_17 : decode cX11_tracedShare 17 = .ok (.invokespecial 390, 3) := by decide +kernel
theorem dX11_tracedShare_20 : decode cX11_tracedShare 20 = .ok (.athrow, 1) := by decide +kernel
theorem dX11_tracedShare_21 : decode cX11_tracedShare 21 = .ok (.aload_n 0, 1) := by decide +kernel
theorem dX11_tracedShare_22 : decode cX11_tracedShare 22 = .ok (.getfield 40, 3) := by decide +kernel
theorem dX11_tracedShare_25 : decode cX11_tracedShare 25 = .ok (.getfield 380, 3) := by decide +kernel
theorem dX11_tracedShare_28 : decode cX11_tracedShare 28 = .ok (.i2f, 1) := by decide +kernel
theorem dX11_tracedShare_29 : decode cX11_tracedShare 29 = .ok (.aload_n 0, 1) := by decide +kernel
theorem dX11_tracedShare_30 : decode cX11_tracedShare 30 = .ok (.getfield 28, 3) := by decide +kernel
theorem dX11_tracedShare_33 : decode cX11_tracedShare 33 = .ok (.getfield 235, 3) := by decide +kernel
theorem dX11_tracedShare_36 : decode cX11_tracedShare 36 = .ok (.i2f, 1) := by decide +kernel
theorem dX11_tracedShare_37 : decode cX11_tracedShare 37 = .ok (.fdiv, 1) := by decide +kernel
theorem dX11_tracedShare_38 : decode cX11_tracedShare 38 = .ok (.freturn, 1) := by decide +kernel
theorem dX11_meanGuards_0 : decode cX11_meanGuards 0 = .ok (.aload_n 0, 1) := by decide +kernel
theorem dX11_meanGuards_1 : decode cX11_meanGuards 1 = .ok (.getfield 40, 3) := by decide +kernel
theorem dX11_meanGuards_4 : decode cX11_meanGuards 4 = .ok (.getfield 167, 3) := by decide +kernel
theorem dX11_meanGuards_7 : decode cX11_meanGuards 7 = .ok (.invokevirtual 391, 3) := by decide +kernel
theorem dX11_meanGuards_10 : decode cX11_meanGuards 10 = .ok (.istore_n 1, 1) := by decide +kernel
theorem dX11_meanGuards_11 : decode cX11_meanGuards 11 = .ok (.iload_n 1, 1) := by decide +kernel
theorem dX11_meanGuards_12 : decode cX11_meanGuards 12 = .ok (.ifCond .ne 14, 3) := by decide +kernel
theorem dX11_meanGuards_15 : decode cX11_meanGuards 15 = .ok (.new 386, 3) := by decide +kernel
theorem dX11_meanGuards_18 : decode cX11_meanGuards 18 = .ok (.dup, 1) := by decide +kernel
theorem dX11_meanGuards_19 : decode cX11_meanGuards 19 = .ok (.ldc_w 394, 3) := by decide +kernel
theorem dX11_meanGuards_22 : decode cX11_meanGuards 22 = .ok (.invokespecial 390, 3) := by decide +kernel
theorem dX11_meanGuards_25 : decode cX11_meanGuards 25 = .ok (.athrow, 1) := by decide +kernel
theorem dX11_meanGuards_26 : decode cX11_meanGuards 26 = .ok (.aload_n 0, 1) := by decide +kernel
theorem dX11_meanGuards_27 : decode cX11_meanGuards 27 = .ok (.getfield 40, 3) := by decide +kernel
theorem dX11_meanGuards_30 : decode cX11_meanGuards 30 = .ok (.getfield 167, 3) := by decide +kernel
theorem dX11_meanGuards_33 : decode cX11_meanGuards 33 = .ok (.invokevirtual 396, 3) := by decide +kernel
theorem dX11_meanGuards_36 : decode cX11_meanGuards 36 = .ok (.i2d, 1) := by decide +kernel
theorem dX11_meanGuards_37 : decode cX11_meanGuards 37 = .ok (.iload_n 1, 1) := by decide +kernel
theorem dX11_meanGuards_38 : decode cX11_meanGuards 38 = .ok (.i2d, 1) := by decide +kernel
theorem dX11_meanGuards_39 : decode cX11_meanGuards 39 = .ok (.ddiv, 1) := by decide +kernel
theorem dX11_meanGuards_40 : decode cX11_meanGuards 40 = .ok (.dreturn, 1) := by decide +kernel
theorem dX11_isSound_0 : decode cX11_isSound 0 = .ok (.aload_n 0, 1) := by decide +kernel
theorem dX11_isSound_1 : decode cX11_isSound 1 = .ok (.getfield 44, 3) := by decide +kernel
theorem dX11_isSound_4 : decode cX11_isSound 4 = .ok (.ifCond .eq 56, 3) := by decide +kernel
theorem dX11_isSound_7 : decode cX11_isSound 7 = .ok (.aload_n 0, 1) := by decide +kernel
theorem dX11_isSound_8 : decode cX11_isSound 8 = .ok (.getfield 40, 3) := by decide +kernel
theorem dX11_isSound_11 : decode cX11_isSound 11 = .ok (.getfield 167, 3) := by decide +kernel
theorem dX11_isSound_14 : decode cX11_isSound 14 = .ok (.invokevirtual 383, 3) := by decide +kernel
theorem dX11_isSound_17 : decode cX11_isSound 17 = .ok (.aload_n 0, 1) := by decide +kernel
theorem dX11_isSound_18 : decode cX11_isSound 18 = .ok (.getfield 40, 3) := by decide +kernel
theorem dX11_isSound_21 : decode cX11_isSound 21 = .ok (.getfield 167, 3) := by decide +kernel
theorem dX11_isSound_24 : decode cX11_isSound 24 = .ok (.getfield 190, 3) := by decide +kernel
theorem dX11_isSound_27 : decode cX11_isSound 27 = .ok (.if_icmp .gt 33, 3) := by decide +kernel
theorem dX11_isSound_30 : decode cX11_isSound 30 = .ok (.aload_n 0, 1) := by decide +kernel
theorem dX11_isSound_31 : decode cX11_isSound 31 = .ok (.getfield 40, 3) := by decide +kernel
theorem dX11_isSound_34 : decode cX11_isSound 34 = .ok (.getfield 167, 3) := by decide +kernel
theorem dX11_isSound_37 : decode cX11_isSound 37 = .ok (.invokevirtual 399, 3) := by decide +kernel
theorem dX11_isSound_40 : decode cX11_isSound 40 = .ok (.ifCond .eq 20, 3) := by decide +kernel
theorem dX11_isSound_43 : decode cX11_isSound 43 = .ok (.aload_n 0, 1) := by decide +kernel
theorem dX11_isSound_44 : decode cX11_isSound 44 = .ok (.getfield 40, 3) := by decide +kernel
theorem dX11_isSound_47 : decode cX11_isSound 47 = .ok (.getfield 157, 3) := by decide +kernel
theorem dX11_isSound_50 : decode cX11_isSound 50 = .ok (.invokevirtual 402, 3) := by decide +kernel
theorem dX11_isSound_53 : decode cX11_isSound 53 = .ok (.ifCond .eq 7, 3) := by decide +kernel
theorem dX11_isSound_56 : decode cX11_isSound 56 = .ok (.iconst 1, 1) := by decide +kernel
theorem dX11_isSound_57 : decode cX11_isSound 57 = .ok (.goto 4, 3) := by decide +kernel
theorem dX11_isSound_60 : decode cX11_isSound 60 = .ok (.iconst 0, 1) := by decide +kernel
theorem dX11_isSound_61 : decode cX11_isSound 61 = .ok (.ireturn, 1) := by decide +kernel
theorem dX11_needFunction_0 : decode cX11_needFunction 0 = .ok (.aload_n 0, 1) := by decide +kernel
theorem dX11_needFunction_1 : decode cX11_needFunction 1 = .ok (.getfield 12, 3) := by decide +kernel
theorem dX11_needFunction_4 : decode cX11_needFunction 4 = .ok (.iload_n 1, 1) := by decide +kernel
theorem dX11_needFunction_5 : decode cX11_needFunction 5 = .ok (.invokevirtual 141, 3) := by decide +kernel
theorem dX11_needFunction_8 : decode cX11_needFunction 8 = .ok (.ifCond .ne 13, 3) := by decide +kernel
theorem dX11_needFunction_11 : decode cX11_needFunction 11 = .ok (.new 107, 3) := by decide +kernel
theorem dX11_needFunction_14 : decode cX11_needFunction 14 = .ok (.dup, 1) := by decide +kernel
theorem dX11_needFunction_15 : decode cX11_needFunction 15 = .ok (.ldc 146, 2) := by decide +kernel
theorem dX11_needFunction_17 : decode cX11_needFunction 17 = .ok (.invokespecial 111, 3) := by decide +kernel
theorem dX11_needFunction_20 : decode cX11_needFunction 20 = .ok (.athrow, 1) := by decide +kernel
theorem dX11_needFunction_21 : decode cX11_needFunction 21 = .ok (.return_, 1) := by decide +kernel
theorem dX11_needIndex_0 : decode cX11_needIndex 0 = .ok (.iload_n 1, 1) := by decide +kernel
theorem dX11_needIndex_1 : decode cX11_needIndex 1 = .ok (.ifCond .lt 9, 3) := by decide +kernel
theorem dX11_needIndex_4 : decode cX11_needIndex 4 = .ok (.iload_n 1, 1) := by decide +kernel
theorem dX11_needIndex_5 : decode cX11_needIndex 5 = .ok (.bipush 40, 2) := by decide +kernel
theorem dX11_needIndex_7 : decode cX11_needIndex 7 = .ok (.if_icmp .lt 14, 3) := by decide +kernel
theorem dX11_needIndex_10 : decode cX11_needIndex 10 = .ok (.new 48, 3) := by decide +kernel
theorem dX11_needIndex_13 : decode cX11_needIndex 13 = .ok (.dup, 1) := by decide +kernel
theorem dX11_needIndex_14 : decode cX11_needIndex 14 = .ok (.ldc_w 405, 3) := by decide +kernel
theorem dX11_needIndex_17 : decode cX11_needIndex 17 = .ok (.invokespecial 52, 3) := by decide +kernel
theorem dX11_needIndex_20 : decode cX11_needIndex 20 = .ok (.athrow, 1) := by decide +kernel
theorem dX11_needIndex_21 : decode cX11_needIndex 21 = .ok (.return_, 1) := by decide +kernel
theorem dX11_needEnding_0 : decode cX11_needEnding 0 = .ok (.aload_n 0, 1) := by decide +kernel
theorem dX11_needEnding_1 : decode cX11_needEnding 1 = .ok (.getfield 28, 3) := by decide +kernel
theorem dX11_needEnding_4 : decode cX11_needEnding 4 = .ok (.getfield 238, 3) := by decide +kernel
theorem dX11_needEnding_7 : decode cX11_needEnding 7 = .ok (.iload_n 1, 1) := by decide +kernel
theorem dX11_needEnding_8 : decode cX11_needEnding 8 = .ok (.if_icmp .eq 14, 3) := by decide +kernel
theorem dX11_needEnding_11 : decode cX11_needEnding 11 = .ok (.new 144, 3) := by decide +kernel
theorem dX11_needEnding_14 : decode cX11_needEnding 14 = .ok (.dup, 1) := by decide +kernel
theorem dX11_needEnding_15 : decode cX11_needEnding 15 = .ok (.ldc_w 407, 3) := by decide +kernel
theorem dX11_needEnding_18 : decode cX11_needEnding 18 = .ok (.invokespecial 148, 3) := by decide +kernel
theorem dX11_needEnding_21 : decode cX11_needEnding 21 = .ok (.athrow, 1) := by decide +kernel
theorem dX11_needEnding_22 : decode cX11_needEnding 22 = .ok (.return_, 1) := by decide +kernel
theorem dX11_needTold_0 : decode cX11_needTold 0 = .ok (.iload_n 1, 1) := by decide +kernel
theorem dX11_needTold_1 : decode cX11_needTold 1 = .ok (.ifCond .lt 14, 3) := by decide +kernel
theorem dX11_needTold_4 : decode cX11_needTold 4 = .ok (.iload_n 1, 1) := by decide +kernel
theorem dX11_needTold_5 : decode cX11_needTold 5 = .ok (.aload_n 0, 1) := by decide +kernel
theorem dX11_needTold_6 : decode cX11_needTold 6 = .ok (.getfield 28, 3) := by decide +kernel
theorem dX11_needTold_9 : decode cX11_needTold 9 = .ok (.getfield 266, 3) := by decide +kernel
theorem dX11_needTold_12 : decode cX11_needTold 12 = .ok (.if_icmp .lt 14, 3) := by decide +kernel
theorem dX11_needTold_15 : decode cX11_needTold 15 = .ok (.new 107, 3) := by decide +kernel
theorem dX11_needTold_18 : decode cX11_needTold 18 = .ok (.dup, 1) := by decide +kernel
theorem dX11_needTold_19 : decode cX11_needTold 19 = .ok (.ldc_w 409, 3) := by decide +kernel
theorem dX11_needTold_22 : decode cX11_needTold 22 = .ok (.invokespecial 111, 3) := by decide +kernel
theorem dX11_needTold_25 : decode cX11_needTold 25 = .ok (.athrow, 1) := by decide +kernel
theorem dX11_needTold_26 : decode cX11_needTold 26 = .ok (.return_, 1) := by decide +kernel
theorem dX11_needObject_0 : decode cX11_needObject 0 = .ok (.iload_n 1, 1) := by decide +kernel
theorem dX11_needObject_1 : decode cX11_needObject 1 = .ok (.ifCond .lt 14, 3) := by decide +kernel
theorem dX11_needObject_4 : decode cX11_needObject 4 = .ok (.iload_n 1, 1) := by decide +kernel
theorem dX11_needObject_5 : decode cX11_needObject 5 = .ok (.aload_n 0, 1) := by decide +kernel
theorem dX11_needObject_6 : decode cX11_needObject 6 = .ok (.getfield 28, 3) := by decide +kernel
theorem dX11_needObject_9 : decode cX11_needObject 9 = .ok (.getfield 272, 3) := by decide +kernel
theorem dX11_needObject_12 : decode cX11_needObject 12 = .ok (.if_icmp .lt 14, 3) := by decide +kernel
theorem dX11_needObject_15 : decode cX11_needObject 15 = .ok (.new 107, 3) := by decide +kernel
theorem dX11_needObject_18 : decode cX11_needObject 18 = .ok (.dup, 1) := by decide +kernel
theorem dX11_needObject_19 : decode cX11_needObject 19 = .ok (.ldc_w 411, 3) := by decide +kernel
theorem dX11_needObject_22 : decode cX11_needObject 22 = .ok (.invokespecial 111, 3) := by decide +kernel
theorem dX11_needObject_25 : decode cX11_needObject 25 = .ok (.athrow, 1) := by decide +kernel
theorem dX11_needObject_26 : decode cX11_needObject 26 = .ok (.return_, 1) := by decide +kernel
theorem dX11_needShape_0 : decode cX11_needShape 0 = .ok (.iload_n 1, 1) := by decide +kernel
theorem dX11_needShape_1 : decode cX11_needShape 1 = .ok (.ifCond .lt 14, 3) := by decide +kernel
theorem dX11_needShape_4 : decode cX11_needShape 4 = .ok (.iload_n 1, 1) := by decide +kernel
theorem dX11_needShape_5 : decode cX11_needShape 5 = .ok (.aload_n 0, 1) := by decide +kernel
theorem dX11_needShape_6 : decode cX11_needShape 6 = .ok (.getfield 19, 3) := by decide +kernel
theorem dX11_needShape_9 : decode cX11_needShape 9 = .ok (.getfield 117, 3) := by decide +kernel
theorem dX11_needShape_12 : decode cX11_needShape 12 = .ok (.if_icmp .lt 14, 3) := by decide +kernel
theorem dX11_needShape_15 : decode cX11_needShape 15 = .ok (.new 107, 3) := by decide +kernel
theorem dX11_needShape_18 : decode cX11_needShape 18 = .ok (.dup, 1) := by decide +kernel
theorem dX11_needShape_19 : decode cX11_needShape 19 = .ok (.ldc_w 413, 3) := by decide +kernel
theorem dX11_needShape_22 : decode cX11_needShape 22 = .ok (.invokespecial 111, 3) := by decide +kernel
theorem dX11_needShape_25 : decode cX11_needShape 25 = .ok (.athrow, 1) := by decide +kernel
theorem dX11_needShape_26 : decode cX11_needShape 26 = .ok (.return_, 1) := by decide +kernel
theorem dX11_cacheSite_0 : decode cX11_cacheSite 0 = .ok (.aload_n 0, 1) := by decide +kernel
theorem dX11_cacheSite_1 : decode cX11_cacheSite 1 = .ok (.iload_n 1, 1) := by decide +kernel
theorem dX11_cacheSite_2 : decode cX11_cacheSite 2 = .ok (.invokevirtual 68, 3) := by decide +kernel
theorem dX11_cacheSite_5 : decode cX11_cacheSite 5 = .ok (.aload_n 0, 1) := by decide +kernel
theorem dX11_cacheSite_6 : decode cX11_cacheSite 6 = .ok (.getfield 12, 3) := by decide +kernel
theorem dX11_cacheSite_9 : decode cX11_cacheSite 9 = .ok (.iload_n 1, 1) := by decide +kernel
theorem dX11_cacheSite_10 : decode cX11_cacheSite 10 = .ok (.iload_n 2, 1) := by decide +kernel
theorem dX11_cacheSite_11 : decode cX11_cacheSite 11 = .ok (.invokevirtual 415, 3) := by decide +kernel
theorem dX11_cacheSite_14 : decode cX11_cacheSite 14 = .ok (.ifCond .eq 25, 3) := by decide +kernel
theorem dX11_cacheSite_17 : decode cX11_cacheSite 17 = .ok (.ldc_w 418, 3) := by decide +kernel
theorem dX11_cacheSite_20 : decode cX11_cacheSite 20 = .ok (.aload_n 0, 1) := by decide +kernel
theorem dX11_cacheSite_21 : decode cX11_cacheSite 21 = .ok (.getfield 12, 3) := by decide +kernel
theorem dX11_cacheSite_24 : decode cX11_cacheSite 24 = .ok (.getfield 420, 3) := by decide +kernel
theorem dX11_cacheSite_27 : decode cX11_cacheSite 27 = .ok (.iload_n 1, 1) := by decide +kernel
theorem dX11_cacheSite_28 : decode cX11_cacheSite 28 = .ok (.iload_n 2, 1) := by decide +kernel
theorem dX11_cacheSite_29 : decode cX11_cacheSite 29 = .ok (.invokestatic 329, 3) := by decide +kernel
theorem dX11_cacheSite_32 : decode cX11_cacheSite 32 = .ok (.caload, 1) := by decide +kernel
theorem dX11_cacheSite_33 : decode cX11_cacheSite 33 = .ok (.invokevirtual 74, 3) := by decide +kernel
theorem dX11_cacheSite_36 : decode cX11_cacheSite 36 = .ok (.ifCond .ge 14, 3) := by decide +kernel
theorem dX11_cacheSite_39 : decode cX11_cacheSite 39 = .ok (.new 144, 3) := by decide +kernel
theorem dX11_cacheSite_42 : decode cX11_cacheSite 42 = .ok (.dup, 1) := by decide +kernel
theorem dX11_cacheSite_43 : decode cX11_cacheSite 43 = .ok (.ldc_w 423, 3) := by decide +kernel
theorem dX11_cacheSite_46 : decode cX11_cacheSite 46 = .ok (.invokespecial 148, 3) := by decide +kernel
theorem dX11_cacheSite_49 : decode cX11_cacheSite 49 = .ok (.athrow, 1) := by decide +kernel
theorem dX11_cacheSite_50 : decode cX11_cacheSite 50 = .ok (.iload_n 1, 1) := by decide +kernel
theorem dX11_cacheSite_51 : decode cX11_cacheSite 51 = .ok (.iload_n 2, 1) := by decide +kernel
theorem dX11_cacheSite_52 : decode cX11_cacheSite 52 = .ok (.invokestatic 329, 3) := by decide +kernel
theorem dX11_cacheSite_55 : decode cX11_cacheSite 55 = .ok (.ireturn, 1) := by decide +kernel
theorem dX11_traceAt_0 : decode cX11_traceAt 0 = .ok (.iload_n 1, 1) := by decide +kernel
theorem dX11_traceAt_1 : decode cX11_traceAt 1 = .ok (.ifCond .lt 17, 3) := by decide +kernel
theorem dX11_traceAt_4 : decode cX11_traceAt 4 = .ok (.iload_n 1, 1) := by decide +kernel
theorem dX11_traceAt_5 : decode cX11_traceAt 5 = .ok (.aload_n 0, 1) := by decide +kernel
theorem dX11_traceAt_6 : decode cX11_traceAt 6 = .ok (.getfield 40, 3) := by decide +kernel
theorem dX11_traceAt_9 : decode cX11_traceAt 9 = .ok (.getfield 167, 3) := by decide +kernel
theorem dX11_traceAt_12 : decode cX11_traceAt 12 = .ok (.getfield 335, 3) := by decide +kernel
theorem dX11_traceAt_15 : decode cX11_traceAt 15 = .ok (.if_icmp .lt 14, 3) := by decide +kernel
theorem dX11_traceAt_18 : decode cX11_traceAt 18 = .ok (.new 107, 3) := by decide +kernel
theorem dX11_traceAt_21 : decode cX11_traceAt 21 = .ok (.dup, 1) := by decide +kernel
theorem dX11_traceAt_22 : decode cX11_traceAt 22 = .ok (.ldc_w 425, 3) := by decide +kernel
theorem dX11_traceAt_25 : decode cX11_traceAt 25 = .ok (.invokespecial 111, 3) := by decide +kernel
theorem dX11_traceAt_28 : decode cX11_traceAt 28 = .ok (.athrow, 1) := by decide +kernel
theorem dX11_traceAt_29 : decode cX11_traceAt 29 = .ok (.aload_n 0, 1) := by decide +kernel
theorem dX11_traceAt_30 : decode cX11_traceAt 30 = .ok (.getfield 40, 3) := by decide +kernel
theorem dX11_traceAt_33 : decode cX11_traceAt 33 = .ok (.getfield 167, 3) := by decide +kernel
theorem dX11_traceAt_36 : decode cX11_traceAt 36 = .ok (.getfield 427, 3) := by decide +kernel
theorem dX11_traceAt_39 : decode cX11_traceAt 39 = .ok (.iload_n 1, 1) := by decide +kernel
theorem dX11_traceAt_40 : decode cX11_traceAt 40 = .ok (.aaload, 1) := by decide +kernel
theorem dX11_traceAt_41 : decode cX11_traceAt 41 = .ok (.areturn, 1) := by decide +kernel
theorem dX11_traceWithGuard_0 : decode cX11_traceWithGuard 0 = .ok (.aload_n 0, 1) := by decide +kernel
theorem dX11_traceWithGuard_1 : decode cX11_traceWithGuard 1 = .ok (.iload_n 1, 1) := by decide +kernel
theorem dX11_traceWithGuard_2 : decode cX11_traceWithGuard 2 = .ok (.invokevirtual 336, 3) := by decide +kernel
theorem dX11_traceWithGuard_5 : decode cX11_traceWithGuard 5 = .ok (.astore_n 3, 1) := by decide +kernel
theorem dX11_traceWithGuard_6 : decode cX11_traceWithGuard 6 = .ok (.iload_n 2, 1) := by decide +kernel
theorem dX11_traceWithGuard_7 : decode cX11_traceWithGuard 7 = .ok (.ifCond .lt 11, 3) := by decide +kernel
theorem dX11_traceWithGuard_10 : decode cX11_traceWithGuard 10 = .ok (.iload_n 2, 1) := by decide +kernel
theorem dX11_traceWithGuard_11 : decode cX11_traceWithGuard 11 = .ok (.aload_n 3, 1) := by decide +kernel
theorem dX11_traceWithGuard_12 : decode cX11_traceWithGuard 12 = .ok (.getfield 353, 3) := by decide +kernel
theorem dX11_traceWithGuard_15 : decode cX11_traceWithGuard 15 = .ok (.if_icmp .lt 14, 3) := by decide +kernel
theorem dX11_traceWithGuard_18 : decode cX11_traceWithGuard 18 = .ok (.new 107, 3) := by decide +kernel
theorem dX11_traceWithGuard_21 : decode cX11_traceWithGuard 21 = .ok (.dup, 1) := by decide +kernel
theorem dX11_traceWithGuard_22 : decode cX11_traceWithGuard 22 = .ok (.ldc_w 431, 3) := by decide +kernel
theorem dX11_traceWithGuard_25 : decode cX11_traceWithGuard 25 = .ok (.invokespecial 111, 3) := by decide +kernel
theorem dX11_traceWithGuard_28 : decode cX11_traceWithGuard 28 = .ok (.athrow, 1) := by decide +kernel
theorem dX11_traceWithGuard_29 : decode cX11_traceWithGuard 29 = .ok (.aload_n 3, 1) := by decide +kernel
theorem dX11_traceWithGuard_30 : decode cX11_traceWithGuard 30 = .ok (.areturn, 1) := by decide +kernel
theorem dX11_isName_0 : decode cX11_isName 0 = .ok (.iload_n 0, 1) := by decide +kernel
theorem dX11_isName_1 : decode cX11_isName 1 = .ok (.ifCond .lt 13, 3) := by decide +kernel
theorem dX11_isName_4 : decode cX11_isName 4 = .ok (.iload_n 0, 1) := by decide +kernel
theorem dX11_isName_5 : decode cX11_isName 5 = .ok (.bipush 6, 2) := by decide +kernel
theorem dX11_isName_7 : decode cX11_isName 7 = .ok (.if_icmp .ge 7, 3) := by decide +kernel
theorem dX11_isName_10 : decode cX11_isName 10 = .ok (.iconst 1, 1) := by decide +kernel
theorem dX11_isName_11 : decode cX11_isName 11 = .ok (.goto 4, 3) := by decide +kernel
theorem dX11_isName_14 : decode cX11_isName 14 = .ok (.iconst 0, 1) := by decide +kernel
theorem dX11_isName_15 : decode cX11_isName 15 = .ok (.ireturn, 1) := by decide +kernel
theorem dX11_siteOf_0 : decode cX11_siteOf 0 = .ok (.iload_n 0, 1) := by decide +kernel
theorem dX11_siteOf_1 : decode cX11_siteOf 1 = .ok (.bipush 40, 2) := by decide +kernel
theorem dX11_siteOf_3 : decode cX11_siteOf 3 = .ok (.imul, 1) := by decide +kernel
theorem dX11_siteOf_4 : decode cX11_siteOf 4 = .ok (.iload_n 1, 1) := by decide +kernel
theorem dX11_siteOf_5 : decode cX11_siteOf 5 = .ok (.iadd, 1) := by decide +kernel
theorem dX11_siteOf_6 : decode cX11_siteOf 6 = .ok (.ireturn, 1) := by decide +kernel
theorem dX11_siteOfLine_0 : decode cX11_siteOfLine 0 = .ok (.iload_n 0, 1) := by decide +kernel
theorem dX11_siteOfLine_1 : decode cX11_siteOfLine 1 = .ok (.bipush 100, 2) := by decide +kernel
theorem dX11_siteOfLine_3 : decode cX11_siteOfLine 3 = .ok (.idiv, 1) := by decide +kernel
theorem dX11_siteOfLine_4 : decode cX11_siteOfLine 4 = .ok (.iload_n 0, 1) := by decide +kernel
theorem dX11_siteOfLine_5 : decode cX11_siteOfLine 5 = .ok (.bipush 100, 2) := by decide +kernel
theorem dX11_siteOfLine_7 : decode cX11_siteOfLine 7 = .ok (.irem, 1) := by decide +kernel
theorem dX11_siteOfLine_8 : decode cX11_siteOfLine 8 = .ok (.invokestatic 329, 3) := by decide +kernel
theorem dX11_siteOfLine_11 : decode cX11_siteOfLine 11 = .ok (.ireturn, 1) := by decide +kernel
theorem dX11_localPlace_0 : decode cX11_localPlace 0 = .ok (.iload_n 0, 1) := by decide +kernel
theorem dX11_localPlace_1 : decode cX11_localPlace 1 = .ok (.bipush 14, 2) := by decide +kernel
theorem dX11_localPlace_3 : decode cX11_localPlace 3 = .ok (.imul, 1) := by decide +kernel
theorem dX11_localPlace_4 : decode cX11_localPlace 4 = .ok (.iload_n 1, 1) := by decide +kernel
theorem dX11_localPlace_5 : decode cX11_localPlace 5 = .ok (.iadd, 1) := by decide +kernel
theorem dX11_localPlace_6 : decode cX11_localPlace 6 = .ok (.ireturn, 1) := by decide +kernel
theorem dX11_fieldPlace_0 : decode cX11_fieldPlace 0 = .ok (.sipush 168, 3) := by decide +kernel
theorem dX11_fieldPlace_3 : decode cX11_fieldPlace 3 = .ok (.iload_n 0, 1) := by decide +kernel
theorem dX11_fieldPlace_4 : decode cX11_fieldPlace 4 = .ok (.bipush 6, 2) := by decide +kernel
theorem dX11_fieldPlace_6 : decode cX11_fieldPlace 6 = .ok (.imul, 1) := by decide +kernel
theorem dX11_fieldPlace_7 : decode cX11_fieldPlace 7 = .ok (.iadd, 1) := by decide +kernel
theorem dX11_fieldPlace_8 : decode cX11_fieldPlace 8 = .ok (.iload_n 1, 1) := by decide +kernel
theorem dX11_fieldPlace_9 : decode cX11_fieldPlace 9 = .ok (.iadd, 1) := by decide +kernel
theorem dX11_fieldPlace_10 : decode cX11_fieldPlace 10 = .ok (.ireturn, 1) := by decide +kernel
theorem dX12_init_0 : decode cX12_init 0 = .ok (.aload_n 0, 1) := by decide +kernel
theorem dX12_init_1 : decode cX12_init 1 = .ok (.invokespecial 1, 3) := by decide +kernel
theorem dX12_init_4 : decode cX12_init 4 = .ok (.aload_n 0, 1) := by decide +kernel
theorem dX12_init_5 : decode cX12_init 5 = .ok (.bipush 8, 2) := by decide +kernel
theorem dX12_init_7 : decode cX12_init 7 = .ok (.newarray .int, 2) := by decide +kernel
theorem dX12_init_9 : decode cX12_init 9 = .ok (.putfield 7, 3) := by decide +kernel
theorem dX12_init_12 : decode cX12_init 12 = .ok (.aload_n 0, 1) := by decide +kernel
theorem dX12_init_13 : decode cX12_init 13 = .ok (.bipush 8, 2) := by decide +kernel
theorem dX12_init_15 : decode cX12_init 15 = .ok (.newarray .int, 2) := by decide +kernel
theorem dX12_init_17 : decode cX12_init 17 = .ok (.putfield 13, 3) := by decide +kernel
theorem dX12_init_20 : decode cX12_init 20 = .ok (.aload_n 0, 1) := by decide +kernel
theorem dX12_init_21 : decode cX12_init 21 = .ok (.sipush 320, 3) := by decide +kernel
theorem dX12_init_24 : decode cX12_init 24 = .ok (.newarray .char, 2) := by decide +kernel
theorem dX12_init_26 : decode cX12_init 26 = .ok (.putfield 16, 3) := by decide +kernel
theorem dX12_init_29 : decode cX12_init 29 = .ok (.aload_n 0, 1) := by decide +kernel
theorem dX12_init_30 : decode cX12_init 30 = .ok (.sipush 320, 3) := by decide +kernel
theorem dX12_init_33 : decode cX12_init 33 = .ok (.newarray .int, 2) := by decide +kernel
theorem dX12_init_35 : decode cX12_init 35 = .ok (.putfield 20, 3) := by decide +kernel
theorem dX12_init_38 : decode cX12_init 38 = .ok (.aload_n 0, 1) := by decide +kernel
theorem dX12_init_39 : decode cX12_init 39 = .ok (.bipush 8, 2) := by decide +kernel
theorem dX12_init_41 : decode cX12_init 41 = .ok (.newarray .int, 2) := by decide +kernel
theorem dX12_init_43 : decode cX12_init 43 = .ok (.putfield 23, 3) := by decide +kernel
theorem dX12_init_46 : decode cX12_init 46 = .ok (.aload_n 0, 1) := by decide +kernel
theorem dX12_init_47 : decode cX12_init 47 = .ok (.bipush 8, 2) := by decide +kernel
theorem dX12_init_49 : decode cX12_init 49 = .ok (.newarray .int, 2) := by decide +kernel
theorem dX12_init_51 : decode cX12_init 51 = .ok (.putfield 26, 3) := by decide +kernel
theorem dX12_init_54 : decode cX12_init 54 = .ok (.aload_n 0, 1) := by decide +kernel
theorem dX12_init_55 : decode cX12_init 55 = .ok (.iconst 5, 1) := by decide +kernel
theorem dX12_init_56 : decode cX12_init 56 = .ok (.newarray .int, 2) := by decide +kernel
theorem dX12_init_58 : decode cX12_init 58 = .ok (.putfield 29, 3) := by decide +kernel
theorem dX12_init_61 : decode cX12_init 61 = .ok (.aload_n 0, 1) := by decide +kernel
theorem dX12_init_62 : decode cX12_init 62 = .ok (.bipush 30, 2) := by decide +kernel
theorem dX12_init_64 : decode cX12_init 64 = .ok (.newarray .int, 2) := by decide +kernel
theorem dX12_init_66 : decode cX12_init 66 = .ok (.putfield 32, 3) := by decide +kernel
theorem dX12_init_69 : decode cX12_init 69 = .ok (.aload_n 0, 1) := by decide +kernel
theorem dX12_init_70 : decode cX12_init 70 = .ok (.iconst 5, 1) := by decide +kernel
theorem dX12_init_71 : decode cX12_init 71 = .ok (.newarray .int, 2) := by decide +kernel
theorem dX12_init_73 : decode cX12_init 73 = .ok (.putfield 35, 3) := by decide +kernel
theorem dX12_init_76 : decode cX12_init 76 = .ok (.aload_n 0, 1) := by decide +kernel
theorem dX12_init_77 : decode cX12_init 77 = .ok (.bipush 60, 2) := by decide +kernel
theorem dX12_init_79 : decode cX12_init 79 = .ok (.newarray .int, 2) := by decide +kernel
theorem dX12_init_81 : decode cX12_init 81 = .ok (.putfield 38, 3) := by decide +kernel
theorem dX12_init_84 : decode cX12_init 84 = .ok (.aload_n 0, 1) := by decide +kernel
theorem dX12_init_85 : decode cX12_init 85 = .ok (.bipush 60, 2) := by decide +kernel
theorem dX12_init_87 : decode cX12_init 87 = .ok (.newarray .int, 2) := by decide +kernel
theorem dX12_init_89 : decode cX12_init 89 = .ok (.putfield 41, 3) := by decide +kernel
theorem dX12_init_92 : decode cX12_init 92 = .ok (.aload_n 0, 1) := by decide +kernel
theorem dX12_init_93 : decode cX12_init 93 = .ok (.sipush 360, 3) := by decide +kernel
theorem dX12_init_96 : decode cX12_init 96 = .ok (.newarray .int, 2) := by decide +kernel
theorem dX12_init_98 : decode cX12_init 98 = .ok (.putfield 44, 3) := by decide +kernel
theorem dX12_init_101 : decode cX12_init 101 = .ok (.aload_n 0, 1) := by decide +kernel
theorem dX12_init_102 : decode cX12_init 102 = .ok (.sipush 360, 3) := by decide +kernel
theorem dX12_init_105 : decode cX12_init 105 = .ok (.newarray .int, 2) := by decide +kernel
theorem dX12_init_107 : decode cX12_init 107 = .ok (.putfield 47, 3) := by decide +kernel
theorem dX12_init_110 : decode cX12_init 110 = .ok (.aload_n 0, 1) := by decide +kernel
theorem dX12_init_111 : decode cX12_init 111 = .ok (.sipush 320, 3) := by decide +kernel
theorem dX12_init_114 : decode cX12_init 114 = .ok (.newarray .int, 2) := by decide +kernel
theorem dX12_init_116 : decode cX12_init 116 = .ok (.putfield 50, 3) := by decide +kernel
theorem dX12_init_119 : decode cX12_init 119 = .ok (.aload_n 0, 1) := by decide +kernel
theorem dX12_init_120 : decode cX12_init 120 = .ok (.sipush 960, 3) := by decide +kernel
theorem dX12_init_123 : decode cX12_init 123 = .ok (.newarray .int, 2) := by decide +kernel
theorem dX12_init_125 : decode cX12_init 125 = .ok (.putfield 53, 3) := by decide +kernel
theorem dX12_init_128 : decode cX12_init 128 = .ok (.aload_n 0, 1) := by decide +kernel
theorem dX12_init_129 : decode cX12_init 129 = .ok (.sipush 320, 3) := by decide +kernel
theorem dX12_init_132 : decode cX12_init 132 = .ok (.newarray .int, 2) := by decide +kernel
theorem dX12_init_134 : decode cX12_init 134 = .ok (.putfield 56, 3) := by decide +kernel
theorem dX12_init_137 : decode cX12_init 137 = .ok (.aload_n 0, 1) := by decide +kernel
theorem dX12_init_138 : decode cX12_init 138 = .ok (.sipush 320, 3) := by decide +kernel
theorem dX12_init_141 : decode cX12_init 141 = .ok (.newarray .int, 2) := by decide +kernel
theorem dX12_init_143 : decode cX12_init 143 = .ok (.putfield 59, 3) := by decide +kernel
theorem dX12_init_146 : decode cX12_init 146 = .ok (.aload_n 0, 1) := by decide +kernel
theorem dX12_init_147 : decode cX12_init 147 = .ok (.sipush 320, 3) := by decide +kernel
theorem dX12_init_150 : decode cX12_init 150 = .ok (.newarray .int, 2) := by decide +kernel
theorem dX12_init_152 : decode cX12_init 152 = .ok (.putfield 62, 3) := by decide +kernel
theorem dX12_init_155 : decode cX12_init 155 = .ok (.aload_n 0, 1) := by decide +kernel
theorem dX12_init_156 : decode cX12_init 156 = .ok (.sipush 320, 3) := by decide +kernel
theorem dX12_init_159 : decode cX12_init 159 = .ok (.newarray .int, 2) := by decide +kernel
theorem dX12_init_161 : decode cX12_init 161 = .ok (.putfield 65, 3) := by decide +kernel
theorem dX12_init_164 : decode cX12_init 164 = .ok (.aload_n 0, 1) := by decide +kernel
theorem dX12_init_165 : decode cX12_init 165 = .ok (.iconst 3, 1) := by decide +kernel
theorem dX12_init_166 : decode cX12_init 166 = .ok (.putfield 68, 3) := by decide +kernel
theorem dX12_init_169 : decode cX12_init 169 = .ok (.aload_n 0, 1) := by decide +kernel
theorem dX12_init_170 : decode cX12_init 170 = .ok (.iconst 2, 1) := by decide +kernel
theorem dX12_init_171 : decode cX12_init 171 = .ok (.putfield 72, 3) := by decide +kernel
theorem dX12_init_174 : decode cX12_init 174 = .ok (.aload_n 0, 1) := by decide +kernel
theorem dX12_init_175 : decode cX12_init 175 = .ok (.bipush 80, 2) := by decide +kernel
theorem dX12_init_177 : decode cX12_init 177 = .ok (.putfield 75, 3) := by decide +kernel
theorem dX12_init_180 : decode cX12_init 180 = .ok (.aload_n 0, 1) := by decide +kernel
theorem dX12_init_181 : decode cX12_init 181 = .ok (.bipush 20, 2) := by decide +kernel
theorem dX12_init_183 : decode cX12_init 183 = .ok (.newarray .boolean, 2) := by decide +kernel
theorem dX12_init_185 : decode cX12_init 185 = .ok (.putfield 78, 3) := by decide +kernel
theorem dX12_init_188 : decode cX12_init 188 = .ok (.aload_n 0, 1) := by decide +kernel
theorem dX12_init_189 : decode cX12_init 189 = .ok (.bipush 20, 2) := by decide +kernel
theorem dX12_init_191 : decode cX12_init 191 = .ok (.newarray .int, 2) := by decide +kernel
theorem dX12_init_193 : decode cX12_init 193 = .ok (.putfield 82, 3) := by decide +kernel
theorem dX12_init_196 : decode cX12_init 196 = .ok (.aload_n 0, 1) := by decide +kernel
theorem dX12_init_197 : decode cX12_init 197 = .ok (.sipush 600, 3) := by decide +kernel
theorem dX12_init_200 : decode cX12_init 200 = .ok (.newarray .int, 2) := by decide +kernel
theorem dX12_init_202 : decode cX12_init 202 = .ok (.putfield 85, 3) := by decide +kernel
theorem dX12_init_205 : decode cX12_init 205 = .ok (.aload_n 0, 1) := by decide +kernel
theorem dX12_init_206 : decode cX12_init 206 = .ok (.bipush 20, 2) := by decide +kernel
theorem dX12_init_208 : decode cX12_init 208 = .ok (.newarray .int, 2) := by decide +kernel
theorem dX12_init_210 : decode cX12_init 210 = .ok (.putfield 88, 3) := by decide +kernel
theorem dX12_init_213 : decode cX12_init 213 = .ok (.aload_n 0, 1) := by decide +kernel
theorem dX12_init_214 : decode cX12_init 214 = .ok (.bipush 20, 2) := by decide +kernel
theorem dX12_init_216 : decode cX12_init 216 = .ok (.newarray .int, 2) := by decide +kernel
theorem dX12_init_218 : decode cX12_init 218 = .ok (.putfield 91, 3) := by decide +kernel
theorem dX12_init_221 : decode cX12_init 221 = .ok (.aload_n 0, 1) := by decide +kernel
theorem dX12_init_222 : decode cX12_init 222 = .ok (.bipush 20, 2) := by decide +kernel
theorem dX12_init_224 : decode cX12_init 224 = .ok (.newarray .int, 2) := by decide +kernel
theorem dX12_init_226 : decode cX12_init 226 = .ok (.putfield 94, 3) := by decide +kernel
theorem dX12_init_229 : decode cX12_init 229 = .ok (.aload_n 0, 1) := by decide +kernel
theorem dX12_init_230 : decode cX12_init 230 = .ok (.bipush 20, 2) := by decide +kernel
theorem dX12_init_232 : decode cX12_init 232 = .ok (.newarray .int, 2) := by decide +kernel
theorem dX12_init_234 : decode cX12_init 234 = .ok (.putfield 97, 3) := by decide +kernel
theorem dX12_init_237 : decode cX12_init 237 = .ok (.aload_n 0, 1) := by decide +kernel
theorem dX12_init_238 : decode cX12_init 238 = .ok (.bipush 20, 2) := by decide +kernel
theorem dX12_init_240 : decode cX12_init 240 = .ok (.newarray .int, 2) := by decide +kernel
theorem dX12_init_242 : decode cX12_init 242 = .ok (.putfield 100, 3) := by decide +kernel
theorem dX12_init_245 : decode cX12_init 245 = .ok (.aload_n 0, 1) := by decide +kernel
theorem dX12_init_246 : decode cX12_init 246 = .ok (.sipush 2400, 3) := by decide +kernel
theorem dX12_init_249 : decode cX12_init 249 = .ok (.newarray .char, 2) := by decide +kernel
theorem dX12_init_251 : decode cX12_init 251 = .ok (.putfield 103, 3) := by decide +kernel
theorem dX12_init_254 : decode cX12_init 254 = .ok (.aload_n 0, 1) := by decide +kernel
theorem dX12_init_255 : decode cX12_init 255 = .ok (.sipush 2400, 3) := by decide +kernel
theorem dX12_init_258 : decode cX12_init 258 = .ok (.newarray .int, 2) := by decide +kernel
theorem dX12_init_260 : decode cX12_init 260 = .ok (.putfield 106, 3) := by decide +kernel
theorem dX12_init_263 : decode cX12_init 263 = .ok (.aload_n 0, 1) := by decide +kernel
theorem dX12_init_264 : decode cX12_init 264 = .ok (.sipush 2400, 3) := by decide +kernel
theorem dX12_init_267 : decode cX12_init 267 = .ok (.newarray .int, 2) := by decide +kernel
theorem dX12_init_269 : decode cX12_init 269 = .ok (.putfield 109, 3) := by decide +kernel
theorem dX12_init_272 : decode cX12_init 272 = .ok (.aload_n 0, 1) := by decide +kernel
theorem dX12_init_273 : decode cX12_init 273 = .ok (.sipush 2400, 3) := by decide +kernel
theorem dX12_init_276 : decode cX12_init 276 = .ok (.newarray .int, 2) := by decide +kernel
theorem dX12_init_278 : decode cX12_init 278 = .ok (.putfield 112, 3) := by decide +kernel
theorem dX12_init_281 : decode cX12_init 281 = .ok (.aload_n 0, 1) := by decide +kernel
theorem dX12_init_282 : decode cX12_init 282 = .ok (.sipush 2400, 3) := by decide +kernel
theorem dX12_init_285 : decode cX12_init 285 = .ok (.newarray .int, 2) := by decide +kernel
theorem dX12_init_287 : decode cX12_init 287 = .ok (.putfield 115, 3) := by decide +kernel
theorem dX12_init_290 : decode cX12_init 290 = .ok (.aload_n 0, 1) := by decide +kernel
theorem dX12_init_291 : decode cX12_init 291 = .ok (.sipush 2400, 3) := by decide +kernel
theorem dX12_init_294 : decode cX12_init 294 = .ok (.newarray .int, 2) := by decide +kernel
theorem dX12_init_296 : decode cX12_init 296 = .ok (.putfield 118, 3) := by decide +kernel
theorem dX12_init_299 : decode cX12_init 299 = .ok (.aload_n 0, 1) := by decide +kernel
theorem dX12_init_300 : decode cX12_init 300 = .ok (.sipush 2400, 3) := by decide +kernel
theorem dX12_init_303 : decode cX12_init 303 = .ok (.newarray .int, 2) := by decide +kernel
theorem dX12_init_305 : decode cX12_init 305 = .ok (.putfield 121, 3) := by decide +kernel
theorem dX12_init_308 : decode cX12_init 308 = .ok (.aload_n 0, 1) := by decide +kernel
theorem dX12_init_309 : decode cX12_init 309 = .ok (.sipush 2400, 3) := by decide +kernel
theorem dX12_init_312 : decode cX12_init 312 = .ok (.newarray .int, 2) := by decide +kernel
theorem dX12_init_314 : decode cX12_init 314 = .ok (.putfield 124, 3) := by decide +kernel
theorem dX12_init_317 : decode cX12_init 317 = .ok (.aload_n 0, 1) := by decide +kernel
theorem dX12_init_318 : decode cX12_init 318 = .ok (.sipush 168, 3) := by decide +kernel
theorem dX12_init_321 : decode cX12_init 321 = .ok (.newarray .char, 2) := by decide +kernel
theorem dX12_init_323 : decode cX12_init 323 = .ok (.putfield 127, 3) := by decide +kernel
theorem dX12_init_326 : decode cX12_init 326 = .ok (.aload_n 0, 1) := by decide +kernel
theorem dX12_init_327 : decode cX12_init 327 = .ok (.sipush 168, 3) := by decide +kernel
theorem dX12_init_330 : decode cX12_init 330 = .ok (.newarray .int, 2) := by decide +kernel
theorem dX12_init_332 : decode cX12_init 332 = .ok (.putfield 130, 3) := by decide +kernel
theorem dX12_init_335 : decode cX12_init 335 = .ok (.aload_n 0, 1) := by decide +kernel
theorem dX12_init_336 : decode cX12_init 336 = .ok (.sipush 168, 3) := by decide +kernel
theorem dX12_init_339 : decode cX12_init 339 = .ok (.newarray .double, 2) := by decide +kernel
theorem dX12_init_341 : decode cX12_init 341 = .ok (.putfield 133, 3) := by decide +kernel
theorem dX12_init_344 : decode cX12_init 344 = .ok (.aload_n 0, 1) := by decide +kernel
theorem dX12_init_345 : decode cX12_init 345 = .ok (.sipush 168, 3) := by decide +kernel
theorem dX12_init_348 : decode cX12_init 348 = .ok (.newarray .int, 2) := by decide +kernel
theorem dX12_init_350 : decode cX12_init 350 = .ok (.putfield 137, 3) := by decide +kernel
theorem dX12_init_353 : decode cX12_init 353 = .ok (.aload_n 0, 1) := by decide +kernel
theorem dX12_init_354 : decode cX12_init 354 = .ok (.bipush 12, 2) := by decide +kernel
theorem dX12_init_356 : decode cX12_init 356 = .ok (.newarray .int, 2) := by decide +kernel
theorem dX12_init_358 : decode cX12_init 358 = .ok (.putfield 140, 3) := by decide +kernel
theorem dX12_init_361 : decode cX12_init 361 = .ok (.aload_n 0, 1) := by decide +kernel
theorem dX12_init_362 : decode cX12_init 362 = .ok (.bipush 12, 2) := by decide +kernel
theorem dX12_init_364 : decode cX12_init 364 = .ok (.newarray .int, 2) := by decide +kernel
theorem dX12_init_366 : decode cX12_init 366 = .ok (.putfield 143, 3) := by decide +kernel
theorem dX12_init_369 : decode cX12_init 369 = .ok (.aload_n 0, 1) := by decide +kernel
theorem dX12_init_370 : decode cX12_init 370 = .ok (.bipush 12, 2) := by decide +kernel
theorem dX12_init_372 : decode cX12_init 372 = .ok (.newarray .int, 2) := by decide +kernel
theorem dX12_init_374 : decode cX12_init 374 = .ok (.putfield 146, 3) := by decide +kernel
theorem dX12_init_377 : decode cX12_init 377 = .ok (.aload_n 0, 1) := by decide +kernel
theorem dX12_init_378 : decode cX12_init 378 = .ok (.bipush 60, 2) := by decide +kernel
theorem dX12_init_380 : decode cX12_init 380 = .ok (.newarray .int, 2) := by decide +kernel
theorem dX12_init_382 : decode cX12_init 382 = .ok (.putfield 149, 3) := by decide +kernel
theorem dX12_init_385 : decode cX12_init 385 = .ok (.aload_n 0, 1) := by decide +kernel
theorem dX12_init_386 : decode cX12_init 386 = .ok (.sipush 360, 3) := by decide +kernel
theorem dX12_init_389 : decode cX12_init 389 = .ok (.newarray .char, 2) := by decide +kernel
theorem dX12_init_391 : decode cX12_init 391 = .ok (.putfield 152, 3) := by decide +kernel
theorem dX12_init_394 : decode cX12_init 394 = .ok (.aload_n 0, 1) := by decide +kernel
theorem dX12_init_395 : decode cX12_init 395 = .ok (.sipush 360, 3) := by decide +kernel
theorem dX12_init_398 : decode cX12_init 398 = .ok (.newarray .int, 2) := by decide +kernel
theorem dX12_init_400 : decode cX12_init 400 = .ok (.putfield 155, 3) := by decide +kernel
theorem dX12_init_403 : decode cX12_init 403 = .ok (.aload_n 0, 1) := by decide +kernel
theorem dX12_init_404 : decode cX12_init 404 = .ok (.sipush 360, 3) := by decide +kernel
theorem dX12_init_407 : decode cX12_init 407 = .ok (.newarray .double, 2) := by decide +kernel
theorem dX12_init_409 : decode cX12_init 409 = .ok (.putfield 158, 3) := by decide +kernel
theorem dX12_init_412 : decode cX12_init 412 = .ok (.aload_n 0, 1) := by decide +kernel
theorem dX12_init_413 : decode cX12_init 413 = .ok (.bipush 20, 2) := by decide +kernel
theorem dX12_init_415 : decode cX12_init 415 = .ok (.newarray .char, 2) := by decide +kernel
theorem dX12_init_417 : decode cX12_init 417 = .ok (.putfield 161, 3) := by decide +kernel
theorem dX12_init_420 : decode cX12_init 420 = .ok (.aload_n 0, 1) := by decide +kernel
theorem dX12_init_421 : decode cX12_init 421 = .ok (.bipush 20, 2) := by decide +kernel
theorem dX12_init_423 : decode cX12_init 423 = .ok (.newarray .long, 2) := by decide +kernel
theorem dX12_init_425 : decode cX12_init 425 = .ok (.putfield 164, 3) := by decide +kernel
theorem dX12_init_428 : decode cX12_init 428 = .ok (.aload_n 0, 1) := by decide +kernel
theorem dX12_init_429 : decode cX12_init 429 = .ok (.bipush 45, 2) := by decide +kernel
theorem dX12_init_431 : decode cX12_init 431 = .ok (.putfield 168, 3) := by decide +kernel
theorem dX12_init_434 : decode cX12_init 434 = .ok (.aload_n 0, 1) := by decide +kernel
theorem dX12_init_435 : decode cX12_init 435 = .ok (.iconst (-1), 1) := by decide +kernel
theorem dX12_init_436 : decode cX12_init 436 = .ok (.putfield 172, 3) := by decide +kernel
theorem dX12_init_439 : decode cX12_init 439 = .ok (.aload_n 0, 1) := by decide +kernel
theorem dX12_init_440 : decode cX12_init 440 = .ok (.bipush 30, 2) := by decide +kernel
theorem dX12_init_442 : decode cX12_init 442 = .ok (.newarray .int, 2) := by decide +kernel
theorem dX12_init_444 : decode cX12_init 444 = .ok (.putfield 175, 3) := by decide +kernel
theorem dX12_init_447 : decode cX12_init 447 = .ok (.aload_n 0, 1) := by decide +kernel
theorem dX12_init_448 : decode cX12_init 448 = .ok (.bipush 120, 2) := by decide +kernel
theorem dX12_init_450 : decode cX12_init 450 = .ok (.newarray .char, 2) := by decide +kernel
theorem dX12_init_452 : decode cX12_init 452 = .ok (.putfield 178, 3) := by decide +kernel
theorem dX12_init_455 : decode cX12_init 455 = .ok (.aload_n 0, 1) := by decide +kernel
theorem dX12_init_456 : decode cX12_init 456 = .ok (.bipush 120, 2) := by decide +kernel
theorem dX12_init_458 : decode cX12_init 458 = .ok (.newarray .int, 2) := by decide +kernel
theorem dX12_init_460 : decode cX12_init 460 = .ok (.putfield 181, 3) := by decide +kernel
theorem dX12_init_463 : decode cX12_init 463 = .ok (.aload_n 0, 1) := by decide +kernel
theorem dX12_init_464 : decode cX12_init 464 = .ok (.bipush 120, 2) := by decide +kernel
theorem dX12_init_466 : decode cX12_init 466 = .ok (.newarray .int, 2) := by decide +kernel
theorem dX12_init_468 : decode cX12_init 468 = .ok (.putfield 184, 3) := by decide +kernel
theorem dX12_init_471 : decode cX12_init 471 = .ok (.aload_n 0, 1) := by decide +kernel
theorem dX12_init_472 : decode cX12_init 472 = .ok (.bipush 120, 2) := by decide +kernel
theorem dX12_init_474 : decode cX12_init 474 = .ok (.newarray .int, 2) := by decide +kernel
theorem dX12_init_476 : decode cX12_init 476 = .ok (.putfield 187, 3) := by decide +kernel
theorem dX12_init_479 : decode cX12_init 479 = .ok (.aload_n 0, 1) := by decide +kernel
theorem dX12_init_480 : decode cX12_init 480 = .ok (.sipush 600, 3) := by decide +kernel
theorem dX12_init_483 : decode cX12_init 483 = .ok (.newarray .char, 2) := by decide +kernel
theorem dX12_init_485 : decode cX12_init 485 = .ok (.putfield 190, 3) := by decide +kernel
theorem dX12_init_488 : decode cX12_init 488 = .ok (.aload_n 0, 1) := by decide +kernel
theorem dX12_init_489 : decode cX12_init 489 = .ok (.sipush 600, 3) := by decide +kernel
theorem dX12_init_492 : decode cX12_init 492 = .ok (.newarray .boolean, 2) := by decide +kernel
theorem dX12_init_494 : decode cX12_init 494 = .ok (.putfield 193, 3) := by decide +kernel
theorem dX12_init_497 : decode cX12_init 497 = .ok (.aload_n 0, 1) := by decide +kernel
theorem dX12_init_498 : decode cX12_init 498 = .ok (.sipush 600, 3) := by decide +kernel
theorem dX12_init_501 : decode cX12_init 501 = .ok (.newarray .int, 2) := by decide +kernel
theorem dX12_init_503 : decode cX12_init 503 = .ok (.putfield 196, 3) := by decide +kernel
theorem dX12_init_506 : decode cX12_init 506 = .ok (.aload_n 0, 1) := by decide +kernel
theorem dX12_init_507 : decode cX12_init 507 = .ok (.sipush 600, 3) := by decide +kernel
theorem dX12_init_510 : decode cX12_init 510 = .ok (.newarray .int, 2) := by decide +kernel
theorem dX12_init_512 : decode cX12_init 512 = .ok (.putfield 199, 3) := by decide +kernel
theorem dX12_init_515 : decode cX12_init 515 = .ok (.iconst 0, 1) := by decide +kernel
theorem dX12_init_516 : decode cX12_init 516 = .ok (.istore_n 1, 1) := by decide +kernel
theorem dX12_init_517 : decode cX12_init 517 = .ok (.iload_n 1, 1) := by decide +kernel
theorem dX12_init_518 : decode cX12_init 518 = .ok (.bipush 30, 2) := by decide +kernel
theorem dX12_init_520 : decode cX12_init 520 = .ok (.if_icmp .ge 16, 3) := by decide +kernel
theorem dX12_init_523 : decode cX12_init 523 = .ok (.aload_n 0, 1) := by decide +kernel
theorem dX12_init_524 : decode cX12_init 524 = .ok (.getfield 32, 3) := by decide +kernel
theorem dX12_init_527 : decode cX12_init 527 = .ok (.iload_n 1, 1) := by decide +kernel
theorem dX12_init_528 : decode cX12_init 528 = .ok (.iconst (-1), 1) := by decide +kernel
theorem dX12_init_529 : decode cX12_init 529 = .ok (.iastore, 1) := by decide +kernel
theorem dX12_init_530 : decode cX12_init 530 = .ok (.iinc 1 1, 3) := by decide +kernel
theorem dX12_init_533 : decode cX12_init 533 = .ok (.goto (-16), 3) := by decide +kernel
theorem dX12_init_536 : decode cX12_init 536 = .ok (.iconst 0, 1) := by decide +kernel
theorem dX12_init_537 : decode cX12_init 537 = .ok (.istore_n 1, 1) := by decide +kernel
theorem dX12_init_538 : decode cX12_init 538 = .ok (.iload_n 1, 1) := by decide +kernel
theorem dX12_init_539 : decode cX12_init 539 = .ok (.sipush 360, 3) := by decide +kernel
theorem dX12_init_542 : decode cX12_init 542 = .ok (.if_icmp .ge 16, 3) := by decide +kernel
theorem dX12_init_545 : decode cX12_init 545 = .ok (.aload_n 0, 1) := by decide +kernel
theorem dX12_init_546 : decode cX12_init 546 = .ok (.getfield 47, 3) := by decide +kernel
theorem dX12_init_549 : decode cX12_init 549 = .ok (.iload_n 1, 1) := by decide +kernel
theorem dX12_init_550 : decode cX12_init 550 = .ok (.iconst (-1), 1) := by decide +kernel
theorem dX12_init_551 : decode cX12_init 551 = .ok (.iastore, 1) := by decide +kernel
theorem dX12_init_552 : decode cX12_init 552 = .ok (.iinc 1 1, 3) := by decide +kernel
theorem dX12_init_555 : decode cX12_init 555 = .ok (.goto (-17), 3) := by decide +kernel
theorem dX12_init_558 : decode cX12_init 558 = .ok (.iconst 0, 1) := by decide +kernel
theorem dX12_init_559 : decode cX12_init 559 = .ok (.istore_n 1, 1) := by decide +kernel
theorem dX12_init_560 : decode cX12_init 560 = .ok (.iload_n 1, 1) := by decide +kernel
theorem dX12_init_561 : decode cX12_init 561 = .ok (.bipush 8, 2) := by decide +kernel
theorem dX12_init_563 : decode cX12_init 563 = .ok (.if_icmp .ge 16, 3) := by decide +kernel
theorem dX12_init_566 : decode cX12_init 566 = .ok (.aload_n 0, 1) := by decide +kernel
theorem dX12_init_567 : decode cX12_init 567 = .ok (.getfield 23, 3) := by decide +kernel
theorem dX12_init_570 : decode cX12_init 570 = .ok (.iload_n 1, 1) := by decide +kernel
theorem dX12_init_571 : decode cX12_init 571 = .ok (.iconst (-1), 1) := by decide +kernel
theorem dX12_init_572 : decode cX12_init 572 = .ok (.iastore, 1) := by decide +kernel
theorem dX12_init_573 : decode cX12_init 573 = .ok (.iinc 1 1, 3) := by decide +kernel
theorem dX12_init_576 : decode cX12_init 576 = .ok (.goto (-16), 3) := by decide +kernel
theorem dX12_init_579 : decode cX12_init 579 = .ok (.return_, 1) := by decide +kernel
theorem dX12_thrown_0 : decode cX12_thrown 0 = .ok (.aload_n 0, 1) := by decide +kernel
theorem dX12_thrown_1 : decode cX12_thrown 1 = .ok (.getfield 202, 3) := by decide +kernel
theorem dX12_thrown_4 : decode cX12_thrown 4 = .ok (.ireturn, 1) := by decide +kernel
theorem dX12_in_0 : decode cX12_in 0 = .ok (.iload_n 0, 1) := by decide +kernel
theorem dX12_in_1 : decode cX12_in 1 = .ok (.iload_n 1, 1) := by decide +kernel
theorem dX12_in_2 : decode cX12_in 2 = .ok (.if_icmp .lt 12, 3) := by decide +kernel
theorem dX12_in_5 : decode cX12_in 5 = .ok (.iload_n 0, 1) := by decide +kernel
theorem dX12_in_6 : decode cX12_in 6 = .ok (.iload_n 2, 1) := by decide +kernel
theorem dX12_in_7 : decode cX12_in 7 = .ok (.if_icmp .gt 7, 3) := by decide +kernel
theorem dX12_in_10 : decode cX12_in 10 = .ok (.iconst 1, 1) := by decide +kernel
theorem dX12_in_11 : decode cX12_in 11 = .ok (.goto 4, 3) := by decide +kernel
theorem dX12_in_14 : decode cX12_in 14 = .ok (.iconst 0, 1) := by decide +kernel
theorem dX12_in_15 : decode cX12_in 15 = .ok (.ireturn, 1) := by decide +kernel
theorem dX12_fails_0 : decode cX12_fails 0 = .ok (.aload_n 0, 1) := by decide +kernel
theorem dX12_fails_1 : decode cX12_fails 1 = .ok (.iload_n 1, 1) := by decide +kernel
theorem dX12_fails_2 : decode cX12_fails 2 = .ok (.putfield 202, 3) := by decide +kernel
theorem dX12_fails_5 : decode cX12_fails 5 = .ok (.iconst 0, 1) := by decide +kernel
theorem dX12_fails_6 : decode cX12_fails 6 = .ok (.ireturn, 1) := by decide +kernel
theorem dX12_isFunction_0 : decode cX12_isFunction 0 = .ok (.iload_n 1, 1) := by decide +kernel
theorem dX12_isFunction_1 : decode cX12_isFunction 1 = .ok (.iconst 0, 1) := by decide +kernel
theorem dX12_isFunction_2 : decode cX12_isFunction 2 = .ok (.aload_n 0, 1) := by decide +kernel
theorem dX12_isFunction_3 : decode cX12_isFunction 3 = .ok (.getfield 205, 3) := by decide +kernel
theorem dX12_isFunction_6 : decode cX12_isFunction 6 = .ok (.iconst 1, 1) := by decide +kernel
theorem dX12_isFunction_7 : decode cX12_isFunction 7 = .ok (.isub, 1) := by decide +kernel
theorem dX12_isFunction_8 : decode cX12_isFunction 8 = .ok (.invokestatic 208, 3) := by decide +kernel
theorem dX12_isFunction_11 : decode cX12_isFunction 11 = .ok (.ireturn, 1) := by decide +kernel
theorem dX12_addFunction_0 : decode cX12_addFunction 0 = .ok (.aload_n 0, 1) := by decide +kernel
theorem dX12_addFunction_1 : decode cX12_addFunction 1 = .ok (.iconst 0, 1) := by decide +kernel
theorem dX12_addFunction_2 : decode cX12_addFunction 2 = .ok (.putfield 202, 3) := by decide +kernel
theorem dX12_addFunction_5 : decode cX12_addFunction 5 = .ok (.iload_n 1, 1) := by decide +kernel
theorem dX12_addFunction_6 : decode cX12_addFunction 6 = .ok (.iconst 0, 1) := by decide +kernel
theorem dX12_addFunction_7 : decode cX12_addFunction 7 = .ok (.iconst 3, 1) := by decide +kernel
theorem dX12_addFunction_8 : decode cX12_addFunction 8 = .ok (.invokestatic 208, 3) := by decide +kernel
theorem dX12_addFunction_11 : decode cX12_addFunction 11 = .ok (.ifCond .ne 9, 3) := by decide +kernel
theorem dX12_addFunction_14 : decode cX12_addFunction 14 = .ok (.aload_n 0, 1) := by decide +kernel
theorem dX12_addFunction_15 : decode cX12_addFunction 15 = .ok (.iconst 1, 1) := by decide +kernel
theorem dX12_addFunction_16 : decode cX12_addFunction 16 = .ok (.invokevirtual 212, 3) := by decide +kernel
theorem dX12_addFunction_19 : decode cX12_addFunction 19 = .ok (.ireturn, 1) := by decide +kernel
theorem dX12_addFunction_20 : decode cX12_addFunction 20 = .ok (.aload_n 0, 1) := by decide +kernel
theorem dX12_addFunction_21 : decode cX12_addFunction 21 = .ok (.getfield 205, 3) := by decide +kernel
theorem dX12_addFunction_24 : decode cX12_addFunction 24 = .ok (.bipush 8, 2) := by decide +kernel
theorem dX12_addFunction_26 : decode cX12_addFunction 26 = .ok (.if_icmp .ne 9, 3) := by decide +kernel
theorem dX12_addFunction_29 : decode cX12_addFunction 29 = .ok (.aload_n 0, 1) := by decide +kernel
theorem dX12_addFunction_30 : decode cX12_addFunction 30 = .ok (.iconst 2, 1) := by decide +kernel
theorem dX12_addFunction_31 : decode cX12_addFunction 31 = .ok (.invokevirtual 212, 3) := by decide +kernel
theorem dX12_addFunction_34 : decode cX12_addFunction 34 = .ok (.ireturn, 1) := by decide +kernel
theorem dX12_addFunction_35 : decode cX12_addFunction 35 = .ok (.aload_n 0, 1) := by decide +kernel
theorem dX12_addFunction_36 : decode cX12_addFunction 36 = .ok (.getfield 7, 3) := by decide +kernel
theorem dX12_addFunction_39 : decode cX12_addFunction 39 = .ok (.aload_n 0, 1) := by decide +kernel
theorem dX12_addFunction_40 : decode cX12_addFunction 40 = .ok (.getfield 205, 3) := by decide +kernel
theorem dX12_addFunction_43 : decode cX12_addFunction 43 = .ok (.iload_n 1, 1) := by decide +kernel
theorem dX12_addFunction_44 : decode cX12_addFunction 44 = .ok (.iastore, 1) := by decide +kernel
theorem dX12_addFunction_45 : decode cX12_addFunction 45 = .ok (.aload_n 0, 1) := by decide +kernel
theorem dX12_addFunction_46 : decode cX12_addFunction 46 = .ok (.dup, 1) := by decide +kernel
theorem dX12_addFunction_47 : decode cX12_addFunction 47 = .ok (.getfield 205, 3) := by decide +kernel
theorem dX12_addFunction_50 : decode cX12_addFunction 50 = .ok (.iconst 1, 1) := by decide +kernel
theorem dX12_addFunction_51 : decode cX12_addFunction 51 = .ok (.iadd, 1) := by decide +kernel
theorem dX12_addFunction_52 : decode cX12_addFunction 52 = .ok (.putfield 205, 3) := by decide +kernel
theorem dX12_addFunction_55 : decode cX12_addFunction 55 = .ok (.aload_n 0, 1) := by decide +kernel
theorem dX12_addFunction_56 : decode cX12_addFunction 56 = .ok (.getfield 205, 3) := by decide +kernel
theorem dX12_addFunction_59 : decode cX12_addFunction 59 = .ok (.iconst 1, 1) := by decide +kernel
theorem dX12_addFunction_60 : decode cX12_addFunction 60 = .ok (.isub, 1) := by decide +kernel
theorem dX12_addFunction_61 : decode cX12_addFunction 61 = .ok (.ireturn, 1) := by decide +kernel
theorem dX12_isCode_0 : decode cX12_isCode 0 = .ok (.iload_n 1, 1) := by decide +kernel
theorem dX12_isCode_1 : decode cX12_isCode 1 = .ok (.bipush 105, 2) := by decide +kernel
theorem dX12_isCode_3 : decode cX12_isCode 3 = .ok (.if_icmp .ne 5, 3) := by decide +kernel
theorem dX12_isCode_6 : decode cX12_isCode 6 = .ok (.iconst 1, 1) := by decide +kernel
theorem dX12_isCode_7 : decode cX12_isCode 7 = .ok (.ireturn, 1) := by decide +kernel
theorem dX12_isCode_8 : decode cX12_isCode 8 = .ok (.iload_n 1, 1) := by decide +kernel
theorem dX12_isCode_9 : decode cX12_isCode 9 = .ok (.bipush 107, 2) := by decide +kernel
theorem dX12_isCode_11 : decode cX12_isCode 11 = .ok (.if_icmp .ne 11, 3) := by decide +kernel
theorem dX12_isCode_14 : decode cX12_isCode 14 = .ok (.iload_n 2, 1) := by decide +kernel
theorem dX12_isCode_15 : decode cX12_isCode 15 = .ok (.iconst 0, 1) := by decide +kernel
theorem dX12_isCode_16 : decode cX12_isCode 16 = .ok (.bipush 7, 2) := by decide +kernel
theorem dX12_isCode_18 : decode cX12_isCode 18 = .ok (.invokestatic 208, 3) := by decide +kernel
theorem dX12_isCode_21 : decode cX12_isCode 21 = .ok (.ireturn, 1) := by decide +kernel
theorem dX12_isCode_22 : decode cX12_isCode 22 = .ok (.iload_n 1, 1) := by decide +kernel
theorem dX12_isCode_23 : decode cX12_isCode 23 = .ok (.bipush 108, 2) := by decide +kernel
theorem dX12_isCode_25 : decode cX12_isCode 25 = .ok (.if_icmp .eq 27, 3) := by decide +kernel
theorem dX12_isCode_28 : decode cX12_isCode 28 = .ok (.iload_n 1, 1) := by decide +kernel
theorem dX12_isCode_29 : decode cX12_isCode 29 = .ok (.bipush 115, 2) := by decide +kernel
theorem dX12_isCode_31 : decode cX12_isCode 31 = .ok (.if_icmp .eq 21, 3) := by decide +kernel
theorem dX12_isCode_34 : decode cX12_isCode 34 = .ok (.iload_n 1, 1) := by decide +kernel
theorem dX12_isCode_35 : decode cX12_isCode 35 = .ok (.bipush 103, 2) := by decide +kernel
theorem dX12_isCode_37 : decode cX12_isCode 37 = .ok (.if_icmp .eq 15, 3) := by decide +kernel
theorem dX12_isCode_40 : decode cX12_isCode 40 = .ok (.iload_n 1, 1) := by decide +kernel
theorem dX12_isCode_41 : decode cX12_isCode 41 = .ok (.bipush 112, 2) := by decide +kernel
theorem dX12_isCode_43 : decode cX12_isCode 43 = .ok (.if_icmp .eq 9, 3) := by decide +kernel
theorem dX12_isCode_46 : decode cX12_isCode 46 = .ok (.iload_n 1, 1) := by decide +kernel
theorem dX12_isCode_47 : decode cX12_isCode 47 = .ok (.bipush 109, 2) := by decide +kernel
theorem dX12_isCode_49 : decode cX12_isCode 49 = .ok (.if_icmp .ne 10, 3) := by decide +kernel
theorem dX12_isCode_52 : decode cX12_isCode 52 = .ok (.iload_n 2, 1) := by decide +kernel
theorem dX12_isCode_53 : decode cX12_isCode 53 = .ok (.iconst 0, 1) := by decide +kernel
theorem dX12_isCode_54 : decode cX12_isCode 54 = .ok (.iconst 5, 1) := by decide +kernel
theorem dX12_isCode_55 : decode cX12_isCode 55 = .ok (.invokestatic 208, 3) := by decide +kernel
theorem dX12_isCode_58 : decode cX12_isCode 58 = .ok (.ireturn, 1) := by decide +kernel
theorem dX12_isCode_59 : decode cX12_isCode 59 = .ok (.iload_n 1, 1) := by decide +kernel
theorem dX12_isCode_60 : decode cX12_isCode 60 = .ok (.bipush 106, 2) := by decide +kernel
theorem dX12_isCode_62 : decode cX12_isCode 62 = .ok (.if_icmp .eq 9, 3) := by decide +kernel
theorem dX12_isCode_65 : decode cX12_isCode 65 = .ok (.iload_n 1, 1) := by decide +kernel
theorem dX12_isCode_66 : decode cX12_isCode 66 = .ok (.bipush 122, 2) := by decide +kernel
theorem dX12_isCode_68 : decode cX12_isCode 68 = .ok (.if_icmp .ne 11, 3) := by decide +kernel
theorem dX12_isCode_71 : decode cX12_isCode 71 = .ok (.iload_n 2, 1) := by decide +kernel
theorem dX12_isCode_72 : decode cX12_isCode 72 = .ok (.iconst 0, 1) := by decide +kernel
theorem dX12_isCode_73 : decode cX12_isCode 73 = .ok (.bipush 39, 2) := by decide +kernel
theorem dX12_isCode_75 : decode cX12_isCode 75 = .ok (.invokestatic 208, 3) := by decide +kernel
theorem dX12_isCode_78 : decode cX12_isCode 78 = .ok (.ireturn, 1) := by decide +kernel
theorem dX12_isCode_79 : decode cX12_isCode 79 = .ok (.iload_n 1, 1) := by decide +kernel
theorem dX12_isCode_80 : decode cX12_isCode 80 = .ok (.bipush 110, 2) := by decide +kernel
theorem dX12_isCode_82 : decode cX12_isCode 82 = .ok (.if_icmp .ne 15, 3) := by decide +kernel
theorem dX12_isCode_85 : decode cX12_isCode 85 = .ok (.iload_n 2, 1) := by decide +kernel
theorem dX12_isCode_86 : decode cX12_isCode 86 = .ok (.iconst 0, 1) := by decide +kernel
theorem dX12_isCode_87 : decode cX12_isCode 87 = .ok (.aload_n 0, 1) := by decide +kernel
theorem dX12_isCode_88 : decode cX12_isCode 88 = .ok (.getfield 216, 3) := by decide +kernel
theorem dX12_isCode_91 : decode cX12_isCode 91 = .ok (.iconst 1, 1) := by decide +kernel
theorem dX12_isCode_92 : decode cX12_isCode 92 = .ok (.isub, 1) := by decide +kernel
theorem dX12_isCode_93 : decode cX12_isCode 93 = .ok (.invokestatic 208, 3) := by decide +kernel
theorem dX12_isCode_96 : decode cX12_isCode 96 = .ok (.ireturn, 1) := by decide +kernel
theorem dX12_isCode_97 : decode cX12_isCode 97 = .ok (.iload_n 1, 1) := by decide +kernel
theorem dX12_isCode_98 : decode cX12_isCode 98 = .ok (.bipush 99, 2) := by decide +kernel
theorem dX12_isCode_100 : decode cX12_isCode 100 = .ok (.if_icmp .ne 15, 3) := by decide +kernel
theorem dX12_isCode_103 : decode cX12_isCode 103 = .ok (.iload_n 2, 1) := by decide +kernel
theorem dX12_isCode_104 : decode cX12_isCode 104 = .ok (.iconst 0, 1) := by decide +kernel
theorem dX12_isCode_105 : decode cX12_isCode 105 = .ok (.aload_n 0, 1) := by decide +kernel
theorem dX12_isCode_106 : decode cX12_isCode 106 = .ok (.getfield 205, 3) := by decide +kernel
theorem dX12_isCode_109 : decode cX12_isCode 109 = .ok (.iconst 1, 1) := by decide +kernel
theorem dX12_isCode_110 : decode cX12_isCode 110 = .ok (.isub, 1) := by decide +kernel
theorem dX12_isCode_111 : decode cX12_isCode 111 = .ok (.invokestatic 208, 3) := by decide +kernel
theorem dX12_isCode_114 : decode cX12_isCode 114 = .ok (.ireturn, 1) := by decide +kernel
theorem dX12_isCode_115 : decode cX12_isCode 115 = .ok (.iload_n 1, 1) := by decide +kernel
theorem dX12_isCode_116 : decode cX12_isCode 116 = .ok (.bipush 117, 2) := by decide +kernel
theorem dX12_isCode_118 : decode cX12_isCode 118 = .ok (.if_icmp .eq 34, 3) := by decide +kernel
theorem dX12_isCode_121 : decode cX12_isCode 121 = .ok (.iload_n 1, 1) := by decide +kernel
theorem dX12_isCode_122 : decode cX12_isCode 122 = .ok (.bipush 100, 2) := by decide +kernel
theorem dX12_isCode_124 : decode cX12_isCode 124 = .ok (.if_icmp .eq 28, 3) := by decide +kernel
theorem dX12_isCode_127 : decode cX12_isCode 127 = .ok (.iload_n 1, 1) := by decide +kernel
theorem dX12_isCode_128 : decode cX12_isCode 128 = .ok (.bipush 119, 2) := by decide +kernel
theorem dX12_isCode_130 : decode cX12_isCode 130 = .ok (.if_icmp .eq 22, 3) := by decide +kernel
theorem dX12_isCode_133 : decode cX12_isCode 133 = .ok (.iload_n 1, 1) := by decide +kernel
theorem dX12_isCode_134 : decode cX12_isCode 134 = .ok (.bipush 114, 2) := by decide +kernel
theorem dX12_isCode_136 : decode cX12_isCode 136 = .ok (.if_icmp .eq 16, 3) := by decide +kernel
theorem dX12_isCode_139 : decode cX12_isCode 139 = .ok (.iload_n 1, 1) := by decide +kernel
theorem dX12_isCode_140 : decode cX12_isCode 140 = .ok (.bipush 116, 2) := by decide +kernel
theorem dX12_isCode_142 : decode cX12_isCode 142 = .ok (.if_icmp .eq 10, 3) := by decide +kernel
theorem dX12_isCode_145 : decode cX12_isCode 145 = .ok (.iload_n 1, 1) := by decide +kernel
theorem dX12_isCode_146 : decode cX12_isCode 146 = .ok (.invokestatic 219, 3) := by decide +kernel
theorem dX12_isCode_149 : decode cX12_isCode 149 = .ok (.ifCond .eq 7, 3) := by decide +kernel
theorem dX12_isCode_152 : decode cX12_isCode 152 = .ok (.iconst 1, 1) := by decide +kernel
theorem dX12_isCode_153 : decode cX12_isCode 153 = .ok (.goto 4, 3) := by decide +kernel
theorem dX12_isCode_156 : decode cX12_isCode 156 = .ok (.iconst 0, 1) := by decide +kernel
theorem dX12_isCode_157 : decode cX12_isCode 157 = .ok (.istore_n 3, 1) := by decide +kernel
theorem dX12_isCode_158 : decode cX12_isCode 158 = .ok (.iload_n 3, 1) := by decide +kernel
theorem dX12_isCode_159 : decode cX12_isCode 159 = .ok (.ifCond .eq 11, 3) := by decide +kernel
theorem dX12_isCode_162 : decode cX12_isCode 162 = .ok (.iload_n 2, 1) := by decide +kernel
theorem dX12_isCode_163 : decode cX12_isCode 163 = .ok (.ifCond .ne 7, 3) := by decide +kernel
theorem dX12_isCode_166 : decode cX12_isCode 166 = .ok (.iconst 1, 1) := by decide +kernel
theorem dX12_isCode_167 : decode cX12_isCode 167 = .ok (.goto 4, 3) := by decide +kernel
theorem dX12_isCode_170 : decode cX12_isCode 170 = .ok (.iconst 0, 1) := by decide +kernel
theorem dX12_isCode_171 : decode cX12_isCode 171 = .ok (.ireturn, 1) := by decide +kernel
theorem dX12_isPair_0 : decode cX12_isPair 0 = .ok (.iload_n 0, 1) := by decide +kernel
theorem dX12_isPair_1 : decode cX12_isPair 1 = .ok (.bipush 43, 2) := by decide +kernel
theorem dX12_isPair_3 : decode cX12_isPair 3 = .ok (.if_icmp .eq 39, 3) := by decide +kernel
theorem dX12_isPair_6 : decode cX12_isPair 6 = .ok (.iload_n 0, 1) := by decide +kernel
theorem dX12_isPair_7 : decode cX12_isPair 7 = .ok (.bipush 45, 2) := by decide +kernel
theorem dX12_isPair_9 : decode cX12_isPair 9 = .ok (.if_icmp .eq 33, 3) := by decide +kernel
theorem dX12_isPair_12 : decode cX12_isPair 12 = .ok (.iload_n 0, 1) := by decide +kernel
theorem dX12_isPair_13 : decode cX12_isPair 13 = .ok (.bipush 42, 2) := by decide +kernel
theorem dX12_isPair_15 : decode cX12_isPair 15 = .ok (.if_icmp .eq 27, 3) := by decide +kernel
theorem dX12_isPair_18 : decode cX12_isPair 18 = .ok (.iload_n 0, 1) := by decide +kernel
theorem dX12_isPair_19 : decode cX12_isPair 19 = .ok (.bipush 47, 2) := by decide +kernel
theorem dX12_isPair_21 : decode cX12_isPair 21 = .ok (.if_icmp .eq 21, 3) := by decide +kernel
theorem dX12_isPair_24 : decode cX12_isPair 24 = .ok (.iload_n 0, 1) := by decide +kernel
theorem dX12_isPair_25 : decode cX12_isPair 25 = .ok (.bipush 37, 2) := by decide +kernel
theorem dX12_isPair_27 : decode cX12_isPair 27 = .ok (.if_icmp .eq 15, 3) := by decide +kernel
theorem dX12_isPair_30 : decode cX12_isPair 30 = .ok (.iload_n 0, 1) := by decide +kernel
theorem dX12_isPair_31 : decode cX12_isPair 31 = .ok (.bipush 60, 2) := by decide +kernel
theorem dX12_isPair_33 : decode cX12_isPair 33 = .ok (.if_icmp .eq 9, 3) := by decide +kernel
theorem dX12_isPair_36 : decode cX12_isPair 36 = .ok (.iload_n 0, 1) := by decide +kernel
theorem dX12_isPair_37 : decode cX12_isPair 37 = .ok (.bipush 61, 2) := by decide +kernel
theorem dX12_isPair_39 : decode cX12_isPair 39 = .ok (.if_icmp .ne 7, 3) := by decide +kernel
theorem dX12_isPair_42 : decode cX12_isPair 42 = .ok (.iconst 1, 1) := by decide +kernel
theorem dX12_isPair_43 : decode cX12_isPair 43 = .ok (.goto 4, 3) := by decide +kernel
theorem dX12_isPair_46 : decode cX12_isPair 46 = .ok (.iconst 0, 1) := by decide +kernel
theorem dX12_isPair_47 : decode cX12_isPair 47 = .ok (.ireturn, 1) := by decide +kernel
theorem dX12_code_0 : decode cX12_code 0 = .ok (.aload_n 0, 1) := by decide +kernel
theorem dX12_code_1 : decode cX12_code 1 = .ok (.iconst 0, 1) := by decide +kernel
theorem dX12_code_2 : decode cX12_code 2 = .ok (.putfield 202, 3) := by decide +kernel
theorem dX12_code_5 : decode cX12_code 5 = .ok (.aload_n 0, 1) := by decide +kernel
theorem dX12_code_6 : decode cX12_code 6 = .ok (.iload_n 1, 1) := by decide +kernel
theorem dX12_code_7 : decode cX12_code 7 = .ok (.invokevirtual 223, 3) := by decide +kernel
theorem dX12_code_10 : decode cX12_code 10 = .ok (.ifCond .ne 9, 3) := by decide +kernel
theorem dX12_code_13 : decode cX12_code 13 = .ok (.aload_n 0, 1) := by decide +kernel
theorem dX12_code_14 : decode cX12_code 14 = .ok (.iconst 1, 1) := by decide +kernel
theorem dX12_code_15 : decode cX12_code 15 = .ok (.invokevirtual 212, 3) := by decide +kernel
theorem dX12_code_18 : decode cX12_code 18 = .ok (.ireturn, 1) := by decide +kernel
theorem dX12_code_19 : decode cX12_code 19 = .ok (.aload_n 0, 1) := by decide +kernel
theorem dX12_code_20 : decode cX12_code 20 = .ok (.iload_n 2, 1) := by decide +kernel
theorem dX12_code_21 : decode cX12_code 21 = .ok (.iload_n 3, 1) := by decide +kernel
theorem dX12_code_22 : decode cX12_code 22 = .ok (.invokevirtual 227, 3) := by decide +kernel
theorem dX12_code_25 : decode cX12_code 25 = .ok (.ifCond .ne 9, 3) := by decide +kernel
theorem dX12_code_28 : decode cX12_code 28 = .ok (.aload_n 0, 1) := by decide +kernel
theorem dX12_code_29 : decode cX12_code 29 = .ok (.iconst 2, 1) := by decide +kernel
theorem dX12_code_30 : decode cX12_code 30 = .ok (.invokevirtual 212, 3) := by decide +kernel
theorem dX12_code_33 : decode cX12_code 33 = .ok (.ireturn, 1) := by decide +kernel
theorem dX12_code_34 : decode cX12_code 34 = .ok (.aload_n 0, 1) := by decide +kernel
theorem dX12_code_35 : decode cX12_code 35 = .ok (.getfield 13, 3) := by decide +kernel
theorem dX12_code_38 : decode cX12_code 38 = .ok (.iload_n 1, 1) := by decide +kernel
theorem dX12_code_39 : decode cX12_code 39 = .ok (.iaload, 1) := by decide +kernel
theorem dX12_code_40 : decode cX12_code 40 = .ok (.bipush 40, 2) := by decide +kernel
theorem dX12_code_42 : decode cX12_code 42 = .ok (.if_icmp .ne 9, 3) := by decide +kernel
theorem dX12_code_45 : decode cX12_code 45 = .ok (.aload_n 0, 1) := by decide +kernel
theorem dX12_code_46 : decode cX12_code 46 = .ok (.iconst 3, 1) := by decide +kernel
theorem dX12_code_47 : decode cX12_code 47 = .ok (.invokevirtual 212, 3) := by decide +kernel
theorem dX12_code_50 : decode cX12_code 50 = .ok (.ireturn, 1) := by decide +kernel
theorem dX12_code_51 : decode cX12_code 51 = .ok (.aload_n 0, 1) := by decide +kernel
theorem dX12_code_52 : decode cX12_code 52 = .ok (.getfield 16, 3) := by decide +kernel
theorem dX12_code_55 : decode cX12_code 55 = .ok (.bipush 40, 2) := by decide +kernel
theorem dX12_code_57 : decode cX12_code 57 = .ok (.iload_n 1, 1) := by decide +kernel
theorem dX12_code_58 : decode cX12_code 58 = .ok (.imul, 1) := by decide +kernel
theorem dX12_code_59 : decode cX12_code 59 = .ok (.aload_n 0, 1) := by decide +kernel
theorem dX12_code_60 : decode cX12_code 60 = .ok (.getfield 13, 3) := by decide +kernel
theorem dX12_code_63 : decode cX12_code 63 = .ok (.iload_n 1, 1) := by decide +kernel
theorem dX12_code_64 : decode cX12_code 64 = .ok (.iaload, 1) := by decide +kernel
theorem dX12_code_65 : decode cX12_code 65 = .ok (.iadd, 1) := by decide +kernel
theorem dX12_code_66 : decode cX12_code 66 = .ok (.iload_n 2, 1) := by decide +kernel
theorem dX12_code_67 : decode cX12_code 67 = .ok (.castore, 1) := by decide +kernel
theorem dX12_code_68 : decode cX12_code 68 = .ok (.aload_n 0, 1) := by decide +kernel
theorem dX12_code_69 : decode cX12_code 69 = .ok (.getfield 20, 3) := by decide +kernel
theorem dX12_code_72 : decode cX12_code 72 = .ok (.bipush 40, 2) := by decide +kernel
theorem dX12_code_74 : decode cX12_code 74 = .ok (.iload_n 1, 1) := by decide +kernel
theorem dX12_code_75 : decode cX12_code 75 = .ok (.imul, 1) := by decide +kernel
theorem dX12_code_76 : decode cX12_code 76 = .ok (.aload_n 0, 1) := by decide +kernel
theorem dX12_code_77 : decode cX12_code 77 = .ok (.getfield 13, 3) := by decide +kernel
theorem dX12_code_80 : decode cX12_code 80 = .ok (.iload_n 1, 1) := by decide +kernel
theorem dX12_code_81 : decode cX12_code 81 = .ok (.iaload, 1) := by decide +kernel
theorem dX12_code_82 : decode cX12_code 82 = .ok (.iadd, 1) := by decide +kernel
theorem dX12_code_83 : decode cX12_code 83 = .ok (.iload_n 3, 1) := by decide +kernel
theorem dX12_code_84 : decode cX12_code 84 = .ok (.iastore, 1) := by decide +kernel
theorem dX12_code_85 : decode cX12_code 85 = .ok (.aload_n 0, 1) := by decide +kernel
theorem dX12_code_86 : decode cX12_code 86 = .ok (.getfield 13, 3) := by decide +kernel
theorem dX12_code_89 : decode cX12_code 89 = .ok (.iload_n 1, 1) := by decide +kernel
theorem dX12_code_90 : decode cX12_code 90 = .ok (.dup2, 1) := by decide +kernel
theorem dX12_code_91 : decode cX12_code 91 = .ok (.iaload, 1) := by decide +kernel
theorem dX12_code_92 : decode cX12_code 92 = .ok (.iconst 1, 1) := by decide +kernel
theorem dX12_code_93 : decode cX12_code 93 = .ok (.iadd, 1) := by decide +kernel
theorem dX12_code_94 : decode cX12_code 94 = .ok (.iastore, 1) := by decide +kernel
theorem dX12_code_95 : decode cX12_code 95 = .ok (.aload_n 0, 1) := by decide +kernel
theorem dX12_code_96 : decode cX12_code 96 = .ok (.getfield 13, 3) := by decide +kernel
theorem dX12_code_99 : decode cX12_code 99 = .ok (.iload_n 1, 1) := by decide +kernel
theorem dX12_code_100 : decode cX12_code 100 = .ok (.iaload, 1) := by decide +kernel
theorem dX12_code_101 : decode cX12_code 101 = .ok (.ireturn, 1) := by decide +kernel
theorem dX12_setHandler_0 : decode cX12_setHandler 0 = .ok (.aload_n 0, 1) := by decide +kernel
theorem dX12_setHandler_1 : decode cX12_setHandler 1 = .ok (.iconst 0, 1) := by decide +kernel
theorem dX12_setHandler_2 : decode cX12_setHandler 2 = .ok (.putfield 202, 3) := by decide +kernel
theorem dX12_setHandler_5 : decode cX12_setHandler 5 = .ok (.aload_n 0, 1) := by decide +kernel
theorem dX12_setHandler_6 : decode cX12_setHandler 6 = .ok (.iload_n 1, 1) := by decide +kernel
theorem dX12_setHandler_7 : decode cX12_setHandler 7 = .ok (.invokevirtual 223, 3) := by decide +kernel
theorem dX12_setHandler_10 : decode cX12_setHandler 10 = .ok (.ifCond .ne 9, 3) := by decide +kernel
theorem dX12_setHandler_13 : decode cX12_setHandler 13 = .ok (.aload_n 0, 1) := by decide +kernel
theorem dX12_setHandler_14 : decode cX12_setHandler 14 = .ok (.iconst 1, 1) := by decide +kernel
theorem dX12_setHandler_15 : decode cX12_setHandler 15 = .ok (.invokevirtual 212, 3) := by decide +kernel
theorem dX12_setHandler_18 : decode cX12_setHandler 18 = .ok (.ireturn, 1) := by decide +kernel
theorem dX12_setHandler_19 : decode cX12_setHandler 19 = .ok (.iload_n 2, 1) := by decide +kernel
theorem dX12_setHandler_20 : decode cX12_setHandler 20 = .ok (.iconst 0, 1) := by decide +kernel
theorem dX12_setHandler_21 : decode cX12_setHandler 21 = .ok (.bipush 39, 2) := by decide +kernel
theorem dX12_setHandler_23 : decode cX12_setHandler 23 = .ok (.invokestatic 208, 3) := by decide +kernel
theorem dX12_setHandler_26 : decode cX12_setHandler 26 = .ok (.ifCond .ne 9, 3) := by decide +kernel
theorem dX12_setHandler_29 : decode cX12_setHandler 29 = .ok (.aload_n 0, 1) := by decide +kernel
theorem dX12_setHandler_30 : decode cX12_setHandler 30 = .ok (.iconst 2, 1) := by decide +kernel
theorem dX12_setHandler_31 : decode cX12_setHandler 31 = .ok (.invokevirtual 212, 3) := by decide +kernel
theorem dX12_setHandler_34 : decode cX12_setHandler 34 = .ok (.ireturn, 1) := by decide +kernel
theorem dX12_setHandler_35 : decode cX12_setHandler 35 = .ok (.aload_n 0, 1) := by decide +kernel
theorem dX12_setHandler_36 : decode cX12_setHandler 36 = .ok (.getfield 23, 3) := by decide +kernel
theorem dX12_setHandler_39 : decode cX12_setHandler 39 = .ok (.iload_n 1, 1) := by decide +kernel
theorem dX12_setHandler_40 : decode cX12_setHandler 40 = .ok (.iaload, 1) := by decide +kernel
theorem dX12_setHandler_41 : decode cX12_setHandler 41 = .ok (.istore_n 3, 1) := by decide +kernel
theorem dX12_setHandler_42 : decode cX12_setHandler 42 = .ok (.aload_n 0, 1) := by decide +kernel
theorem dX12_setHandler_43 : decode cX12_setHandler 43 = .ok (.getfield 23, 3) := by decide +kernel
theorem dX12_setHandler_46 : decode cX12_setHandler 46 = .ok (.iload_n 1, 1) := by decide +kernel
theorem dX12_setHandler_47 : decode cX12_setHandler 47 = .ok (.iload_n 2, 1) := by decide +kernel
theorem dX12_setHandler_48 : decode cX12_setHandler 48 = .ok (.iastore, 1) := by decide +kernel
theorem dX12_setHandler_49 : decode cX12_setHandler 49 = .ok (.iload_n 3, 1) := by decide +kernel
theorem dX12_setHandler_50 : decode cX12_setHandler 50 = .ok (.ireturn, 1) := by decide +kernel
theorem dX12_newShape_0 : decode cX12_newShape 0 = .ok (.aload_n 0, 1) := by decide +kernel
theorem dX12_newShape_1 : decode cX12_newShape 1 = .ok (.getfield 38, 3) := by decide +kernel
theorem dX12_newShape_4 : decode cX12_newShape 4 = .ok (.aload_n 0, 1) := by decide +kernel
theorem dX12_newShape_5 : decode cX12_newShape 5 = .ok (.getfield 231, 3) := by decide +kernel
theorem dX12_newShape_8 : decode cX12_newShape 8 = .ok (.iload_n 1, 1) := by decide +kernel
theorem dX12_newShape_9 : decode cX12_newShape 9 = .ok (.iastore, 1) := by decide +kernel
theorem dX12_newShape_10 : decode cX12_newShape 10 = .ok (.aload_n 0, 1) := by decide +kernel
theorem dX12_newShape_11 : decode cX12_newShape 11 = .ok (.getfield 41, 3) := by decide +kernel
theorem dX12_newShape_14 : decode cX12_newShape 14 = .ok (.aload_n 0, 1) := by decide +kernel
theorem dX12_newShape_15 : decode cX12_newShape 15 = .ok (.getfield 231, 3) := by decide +kernel
theorem dX12_newShape_18 : decode cX12_newShape 18 = .ok (.iconst 0, 1) := by decide +kernel
theorem dX12_newShape_19 : decode cX12_newShape 19 = .ok (.iastore, 1) := by decide +kernel
theorem dX12_newShape_20 : decode cX12_newShape 20 = .ok (.aload_n 0, 1) := by decide +kernel
theorem dX12_newShape_21 : decode cX12_newShape 21 = .ok (.dup, 1) := by decide +kernel
theorem dX12_newShape_22 : decode cX12_newShape 22 = .ok (.getfield 231, 3) := by decide +kernel
theorem dX12_newShape_25 : decode cX12_newShape 25 = .ok (.iconst 1, 1) := by decide +kernel
theorem dX12_newShape_26 : decode cX12_newShape 26 = .ok (.iadd, 1) := by decide +kernel
theorem dX12_newShape_27 : decode cX12_newShape 27 = .ok (.putfield 231, 3) := by decide +kernel
theorem dX12_newShape_30 : decode cX12_newShape 30 = .ok (.aload_n 0, 1) := by decide +kernel
theorem dX12_newShape_31 : decode cX12_newShape 31 = .ok (.getfield 231, 3) := by decide +kernel
theorem dX12_newShape_34 : decode cX12_newShape 34 = .ok (.iconst 1, 1) := by decide +kernel
theorem dX12_newShape_35 : decode cX12_newShape 35 = .ok (.isub, 1) := by decide +kernel
theorem dX12_newShape_36 : decode cX12_newShape 36 = .ok (.ireturn, 1) := by decide +kernel
theorem dX12_addClass_0 : decode cX12_addClass 0 = .ok (.aload_n 0, 1) := by decide +kernel
theorem dX12_addClass_1 : decode cX12_addClass 1 = .ok (.iconst 0, 1) := by decide +kernel
theorem dX12_addClass_2 : decode cX12_addClass 2 = .ok (.putfield 202, 3) := by decide +kernel
theorem dX12_addClass_5 : decode cX12_addClass 5 = .ok (.iload_n 1, 1) := by decide +kernel
theorem dX12_addClass_6 : decode cX12_addClass 6 = .ok (.iconst (-1), 1) := by decide +kernel
theorem dX12_addClass_7 : decode cX12_addClass 7 = .ok (.aload_n 0, 1) := by decide +kernel
theorem dX12_addClass_8 : decode cX12_addClass 8 = .ok (.getfield 216, 3) := by decide +kernel
theorem dX12_addClass_11 : decode cX12_addClass 11 = .ok (.iconst 1, 1) := by decide +kernel
theorem dX12_addClass_12 : decode cX12_addClass 12 = .ok (.isub, 1) := by decide +kernel
theorem dX12_addClass_13 : decode cX12_addClass 13 = .ok (.invokestatic 208, 3) := by decide +kernel
theorem dX12_addClass_16 : decode cX12_addClass 16 = .ok (.ifCond .ne 9, 3) := by decide +kernel
theorem dX12_addClass_19 : decode cX12_addClass 19 = .ok (.aload_n 0, 1) := by decide +kernel
theorem dX12_addClass_20 : decode cX12_addClass 20 = .ok (.iconst 1, 1) := by decide +kernel
theorem dX12_addClass_21 : decode cX12_addClass 21 = .ok (.invokevirtual 212, 3) := by decide +kernel
theorem dX12_addClass_24 : decode cX12_addClass 24 = .ok (.ireturn, 1) := by decide +kernel
theorem dX12_addClass_25 : decode cX12_addClass 25 = .ok (.aload_n 0, 1) := by decide +kernel
theorem dX12_addClass_26 : decode cX12_addClass 26 = .ok (.getfield 216, 3) := by decide +kernel
theorem dX12_addClass_29 : decode cX12_addClass 29 = .ok (.iconst 5, 1) := by decide +kernel
theorem dX12_addClass_30 : decode cX12_addClass 30 = .ok (.if_icmp .ne 9, 3) := by decide +kernel
theorem dX12_addClass_33 : decode cX12_addClass 33 = .ok (.aload_n 0, 1) := by decide +kernel
theorem dX12_addClass_34 : decode cX12_addClass 34 = .ok (.iconst 2, 1) := by decide +kernel
theorem dX12_addClass_35 : decode cX12_addClass 35 = .ok (.invokevirtual 212, 3) := by decide +kernel
theorem dX12_addClass_38 : decode cX12_addClass 38 = .ok (.ireturn, 1) := by decide +kernel
theorem dX12_addClass_39 : decode cX12_addClass 39 = .ok (.aload_n 0, 1) := by decide +kernel
theorem dX12_addClass_40 : decode cX12_addClass 40 = .ok (.getfield 231, 3) := by decide +kernel
theorem dX12_addClass_43 : decode cX12_addClass 43 = .ok (.bipush 60, 2) := by decide +kernel
theorem dX12_addClass_45 : decode cX12_addClass 45 = .ok (.if_icmp .ne 9, 3) := by decide +kernel
theorem dX12_addClass_48 : decode cX12_addClass 48 = .ok (.aload_n 0, 1) := by decide +kernel
theorem dX12_addClass_49 : decode cX12_addClass 49 = .ok (.iconst 3, 1) := by decide +kernel
theorem dX12_addClass_50 : decode cX12_addClass 50 = .ok (.invokevirtual 212, 3) := by decide +kernel
theorem dX12_addClass_53 : decode cX12_addClass 53 = .ok (.ireturn, 1) := by decide +kernel
theorem dX12_addClass_54 : decode cX12_addClass 54 = .ok (.aload_n 0, 1) := by decide +kernel
theorem dX12_addClass_55 : decode cX12_addClass 55 = .ok (.getfield 29, 3) := by decide +kernel
theorem dX12_addClass_58 : decode cX12_addClass 58 = .ok (.aload_n 0, 1) := by decide +kernel
theorem dX12_addClass_59 : decode cX12_addClass 59 = .ok (.getfield 216, 3) := by decide +kernel
theorem dX12_addClass_62 : decode cX12_addClass 62 = .ok (.iload_n 1, 1) := by decide +kernel
theorem dX12_addClass_63 : decode cX12_addClass 63 = .ok (.iastore, 1) := by decide +kernel
theorem dX12_addClass_64 : decode cX12_addClass 64 = .ok (.aload_n 0, 1) := by decide +kernel
theorem dX12_addClass_65 : decode cX12_addClass 65 = .ok (.getfield 35, 3) := by decide +kernel
theorem dX12_addClass_68 : decode cX12_addClass 68 = .ok (.aload_n 0, 1) := by decide +kernel
theorem dX12_addClass_69 : decode cX12_addClass 69 = .ok (.getfield 216, 3) := by decide +kernel
theorem dX12_addClass_72 : decode cX12_addClass 72 = .ok (.aload_n 0, 1) := by decide +kernel
theorem dX12_addClass_73 : decode cX12_addClass 73 = .ok (.aload_n 0, 1) := by decide +kernel
theorem dX12_addClass_74 : decode cX12_addClass 74 = .ok (.getfield 216, 3) := by decide +kernel
theorem dX12_addClass_77 : decode cX12_addClass 77 = .ok (.invokevirtual 234, 3) := by decide +kernel
theorem dX12_addClass_80 : decode cX12_addClass 80 = .ok (.iastore, 1) := by decide +kernel
theorem dX12_addClass_81 : decode cX12_addClass 81 = .ok (.aload_n 0, 1) := by decide +kernel
theorem dX12_addClass_82 : decode cX12_addClass 82 = .ok (.dup, 1) := by decide +kernel
theorem dX12_addClass_83 : decode cX12_addClass 83 = .ok (.getfield 216, 3) := by decide +kernel
theorem dX12_addClass_86 : decode cX12_addClass 86 = .ok (.iconst 1, 1) := by decide +kernel
theorem dX12_addClass_87 : decode cX12_addClass 87 = .ok (.iadd, 1) := by decide +kernel
theorem dX12_addClass_88 : decode cX12_addClass 88 = .ok (.putfield 216, 3) := by decide +kernel
theorem dX12_addClass_91 : decode cX12_addClass 91 = .ok (.aload_n 0, 1) := by decide +kernel
theorem dX12_addClass_92 : decode cX12_addClass 92 = .ok (.getfield 216, 3) := by decide +kernel
theorem dX12_addClass_95 : decode cX12_addClass 95 = .ok (.iconst 1, 1) := by decide +kernel
theorem dX12_addClass_96 : decode cX12_addClass 96 = .ok (.isub, 1) := by decide +kernel
theorem dX12_addClass_97 : decode cX12_addClass 97 = .ok (.ireturn, 1) := by decide +kernel
theorem dX12_setMethod_0 : decode cX12_setMethod 0 = .ok (.aload_n 0, 1) := by decide +kernel
theorem dX12_setMethod_1 : decode cX12_setMethod 1 = .ok (.iconst 0, 1) := by decide +kernel
theorem dX12_setMethod_2 : decode cX12_setMethod 2 = .ok (.putfield 202, 3) := by decide +kernel
theorem dX12_setMethod_5 : decode cX12_setMethod 5 = .ok (.iload_n 1, 1) := by decide +kernel
theorem dX12_setMethod_6 : decode cX12_setMethod 6 = .ok (.iconst 0, 1) := by decide +kernel
theorem dX12_setMethod_7 : decode cX12_setMethod 7 = .ok (.aload_n 0, 1) := by decide +kernel
theorem dX12_setMethod_8 : decode cX12_setMethod 8 = .ok (.getfield 216, 3) := by decide +kernel
theorem dX12_setMethod_11 : decode cX12_setMethod 11 = .ok (.iconst 1, 1) := by decide +kernel
theorem dX12_setMethod_12 : decode cX12_setMethod 12 = .ok (.isub, 1) := by decide +kernel
theorem dX12_setMethod_13 : decode cX12_setMethod 13 = .ok (.invokestatic 208, 3) := by decide +kernel
theorem dX12_setMethod_16 : decode cX12_setMethod 16 = .ok (.ifCond .ne 9, 3) := by decide +kernel
theorem dX12_setMethod_19 : decode cX12_setMethod 19 = .ok (.aload_n 0, 1) := by decide +kernel
theorem dX12_setMethod_20 : decode cX12_setMethod 20 = .ok (.iconst 1, 1) := by decide +kernel
theorem dX12_setMethod_21 : decode cX12_setMethod 21 = .ok (.invokevirtual 212, 3) := by decide +kernel
theorem dX12_setMethod_24 : decode cX12_setMethod 24 = .ok (.ireturn, 1) := by decide +kernel
theorem dX12_setMethod_25 : decode cX12_setMethod 25 = .ok (.iload_n 2, 1) := by decide +kernel
theorem dX12_setMethod_26 : decode cX12_setMethod 26 = .ok (.iconst 0, 1) := by decide +kernel
theorem dX12_setMethod_27 : decode cX12_setMethod 27 = .ok (.iconst 5, 1) := by decide +kernel
theorem dX12_setMethod_28 : decode cX12_setMethod 28 = .ok (.invokestatic 208, 3) := by decide +kernel
theorem dX12_setMethod_31 : decode cX12_setMethod 31 = .ok (.ifCond .ne 9, 3) := by decide +kernel
theorem dX12_setMethod_34 : decode cX12_setMethod 34 = .ok (.aload_n 0, 1) := by decide +kernel
theorem dX12_setMethod_35 : decode cX12_setMethod 35 = .ok (.iconst 2, 1) := by decide +kernel
theorem dX12_setMethod_36 : decode cX12_setMethod 36 = .ok (.invokevirtual 212, 3) := by decide +kernel
theorem dX12_setMethod_39 : decode cX12_setMethod 39 = .ok (.ireturn, 1) := by decide +kernel
theorem dX12_setMethod_40 : decode cX12_setMethod 40 = .ok (.aload_n 0, 1) := by decide +kernel
theorem dX12_setMethod_41 : decode cX12_setMethod 41 = .ok (.iload_n 3, 1) := by decide +kernel
theorem dX12_setMethod_42 : decode cX12_setMethod 42 = .ok (.invokevirtual 223, 3) := by decide +kernel
theorem dX12_setMethod_45 : decode cX12_setMethod 45 = .ok (.ifCond .ne 9, 3) := by decide +kernel
theorem dX12_setMethod_48 : decode cX12_setMethod 48 = .ok (.aload_n 0, 1) := by decide +kernel
theorem dX12_setMethod_49 : decode cX12_setMethod 49 = .ok (.iconst 3, 1) := by decide +kernel
theorem dX12_setMethod_50 : decode cX12_setMethod 50 = .ok (.invokevirtual 212, 3) := by decide +kernel
theorem dX12_setMethod_53 : decode cX12_setMethod 53 = .ok (.ireturn, 1) := by decide +kernel
theorem dX12_setMethod_54 : decode cX12_setMethod 54 = .ok (.aload_n 0, 1) := by decide +kernel
theorem dX12_setMethod_55 : decode cX12_setMethod 55 = .ok (.getfield 7, 3) := by decide +kernel
theorem dX12_setMethod_58 : decode cX12_setMethod 58 = .ok (.iload_n 3, 1) := by decide +kernel
theorem dX12_setMethod_59 : decode cX12_setMethod 59 = .ok (.iaload, 1) := by decide +kernel
theorem dX12_setMethod_60 : decode cX12_setMethod 60 = .ok (.iconst 1, 1) := by decide +kernel
theorem dX12_setMethod_61 : decode cX12_setMethod 61 = .ok (.if_icmp .eq 9, 3) := by decide +kernel
theorem dX12_setMethod_64 : decode cX12_setMethod 64 = .ok (.aload_n 0, 1) := by decide +kernel
theorem dX12_setMethod_65 : decode cX12_setMethod 65 = .ok (.iconst 4, 1) := by decide +kernel
theorem dX12_setMethod_66 : decode cX12_setMethod 66 = .ok (.invokevirtual 212, 3) := by decide +kernel
theorem dX12_setMethod_69 : decode cX12_setMethod 69 = .ok (.ireturn, 1) := by decide +kernel
theorem dX12_setMethod_70 : decode cX12_setMethod 70 = .ok (.aload_n 0, 1) := by decide +kernel
theorem dX12_setMethod_71 : decode cX12_setMethod 71 = .ok (.getfield 32, 3) := by decide +kernel
theorem dX12_setMethod_74 : decode cX12_setMethod 74 = .ok (.bipush 6, 2) := by decide +kernel
theorem dX12_setMethod_76 : decode cX12_setMethod 76 = .ok (.iload_n 1, 1) := by decide +kernel
theorem dX12_setMethod_77 : decode cX12_setMethod 77 = .ok (.imul, 1) := by decide +kernel
theorem dX12_setMethod_78 : decode cX12_setMethod 78 = .ok (.iload_n 2, 1) := by decide +kernel
theorem dX12_setMethod_79 : decode cX12_setMethod 79 = .ok (.iadd, 1) := by decide +kernel
theorem dX12_setMethod_80 : decode cX12_setMethod 80 = .ok (.iload_n 3, 1) := by decide +kernel
theorem dX12_setMethod_81 : decode cX12_setMethod 81 = .ok (.iastore, 1) := by decide +kernel
theorem dX12_setMethod_82 : decode cX12_setMethod 82 = .ok (.iconst 0, 1) := by decide +kernel
theorem dX12_setMethod_83 : decode cX12_setMethod 83 = .ok (.istore 4, 2) := by decide +kernel
theorem dX12_setMethod_85 : decode cX12_setMethod 85 = .ok (.iload 4, 2) := by decide +kernel
theorem dX12_setMethod_87 : decode cX12_setMethod 87 = .ok (.sipush 320, 3) := by decide +kernel
theorem dX12_setMethod_90 : decode cX12_setMethod 90 = .ok (.if_icmp .ge 50, 3) := by decide +kernel
theorem dX12_setMethod_93 : decode cX12_setMethod 93 = .ok (.aload_n 0, 1) := by decide +kernel
theorem dX12_setMethod_94 : decode cX12_setMethod 94 = .ok (.getfield 50, 3) := by decide +kernel
theorem dX12_setMethod_97 : decode cX12_setMethod 97 = .ok (.iload 4, 2) := by decide +kernel
theorem dX12_setMethod_99 : decode cX12_setMethod 99 = .ok (.aload_n 0, 1) := by decide +kernel
theorem dX12_setMethod_100 : decode cX12_setMethod 100 = .ok (.getfield 16, 3) := by decide +kernel
theorem dX12_setMethod_103 : decode cX12_setMethod 103 = .ok (.iload 4, 2) := by decide +kernel
theorem dX12_setMethod_105 : decode cX12_setMethod 105 = .ok (.caload, 1) := by decide +kernel
theorem dX12_setMethod_106 : decode cX12_setMethod 106 = .ok (.bipush 109, 2) := by decide +kernel
theorem dX12_setMethod_108 : decode cX12_setMethod 108 = .ok (.if_icmp .ne 18, 3) := by decide +kernel
theorem dX12_setMethod_111 : decode cX12_setMethod 111 = .ok (.aload_n 0, 1) := by decide +kernel
theorem dX12_setMethod_112 : decode cX12_setMethod 112 = .ok (.getfield 50, 3) := by decide +kernel
theorem dX12_setMethod_115 : decode cX12_setMethod 115 = .ok (.iload 4, 2) := by decide +kernel
theorem dX12_setMethod_117 : decode cX12_setMethod 117 = .ok (.iaload, 1) := by decide +kernel
theorem dX12_setMethod_118 : decode cX12_setMethod 118 = .ok (.iconst (-1), 1) := by decide +kernel
theorem dX12_setMethod_119 : decode cX12_setMethod 119 = .ok (.if_icmp .eq 7, 3) := by decide +kernel
theorem dX12_setMethod_122 : decode cX12_setMethod 122 = .ok (.iconst 0, 1) := by decide +kernel
theorem dX12_setMethod_123 : decode cX12_setMethod 123 = .ok (.goto 10, 3) := by decide +kernel
theorem dX12_setMethod_126 : decode cX12_setMethod 126 = .ok (.aload_n 0, 1) := by decide +kernel
theorem dX12_setMethod_127 : decode cX12_setMethod 127 = .ok (.getfield 50, 3) := by decide +kernel
theorem dX12_setMethod_130 : decode cX12_setMethod 130 = .ok (.iload 4, 2) := by decide +kernel
theorem dX12_setMethod_132 : decode cX12_setMethod 132 = .ok (.iaload, 1) := by decide +kernel
theorem dX12_setMethod_133 : decode cX12_setMethod 133 = .ok (.iastore, 1) := by decide +kernel
theorem dX12_setMethod_134 : decode cX12_setMethod 134 = .ok (.iinc 4 1, 3) := by decide +kernel
theorem dX12_setMethod_137 : decode cX12_setMethod 137 = .ok (.goto (-52), 3) := by decide +kernel
theorem dX12_setMethod_140 : decode cX12_setMethod 140 = .ok (.aload_n 0, 1) := by decide +kernel
theorem dX12_setMethod_141 : decode cX12_setMethod 141 = .ok (.bipush 109, 2) := by decide +kernel
theorem dX12_setMethod_143 : decode cX12_setMethod 143 = .ok (.iconst (-1), 1) := by decide +kernel
theorem dX12_setMethod_144 : decode cX12_setMethod 144 = .ok (.invokevirtual 237, 3) := by decide +kernel
theorem dX12_setMethod_147 : decode cX12_setMethod 147 = .ok (.ireturn, 1) := by decide +kernel
theorem dX12_setCell_0 : decode cX12_setCell 0 = .ok (.aload_n 0, 1) := by decide +kernel
theorem dX12_setCell_1 : decode cX12_setCell 1 = .ok (.iconst 0, 1) := by decide +kernel
theorem dX12_setCell_2 : decode cX12_setCell 2 = .ok (.putfield 202, 3) := by decide +kernel
theorem dX12_setCell_5 : decode cX12_setCell 5 = .ok (.iload_n 1, 1) := by decide +kernel
theorem dX12_setCell_6 : decode cX12_setCell 6 = .ok (.iconst 0, 1) := by decide +kernel
theorem dX12_setCell_7 : decode cX12_setCell 7 = .ok (.bipush 7, 2) := by decide +kernel
theorem dX12_setCell_9 : decode cX12_setCell 9 = .ok (.invokestatic 208, 3) := by decide +kernel
theorem dX12_setCell_12 : decode cX12_setCell 12 = .ok (.ifCond .ne 9, 3) := by decide +kernel
theorem dX12_setCell_15 : decode cX12_setCell 15 = .ok (.aload_n 0, 1) := by decide +kernel
theorem dX12_setCell_16 : decode cX12_setCell 16 = .ok (.iconst 1, 1) := by decide +kernel
theorem dX12_setCell_17 : decode cX12_setCell 17 = .ok (.invokevirtual 212, 3) := by decide +kernel
theorem dX12_setCell_20 : decode cX12_setCell 20 = .ok (.ireturn, 1) := by decide +kernel
theorem dX12_setCell_21 : decode cX12_setCell 21 = .ok (.aload_n 0, 1) := by decide +kernel
theorem dX12_setCell_22 : decode cX12_setCell 22 = .ok (.getfield 26, 3) := by decide +kernel
theorem dX12_setCell_25 : decode cX12_setCell 25 = .ok (.iload_n 1, 1) := by decide +kernel
theorem dX12_setCell_26 : decode cX12_setCell 26 = .ok (.iaload, 1) := by decide +kernel
theorem dX12_setCell_27 : decode cX12_setCell 27 = .ok (.iload_n 2, 1) := by decide +kernel
theorem dX12_setCell_28 : decode cX12_setCell 28 = .ok (.if_icmp .eq 7, 3) := by decide +kernel
theorem dX12_setCell_31 : decode cX12_setCell 31 = .ok (.iconst 1, 1) := by decide +kernel
theorem dX12_setCell_32 : decode cX12_setCell 32 = .ok (.goto 4, 3) := by decide +kernel
theorem dX12_setCell_35 : decode cX12_setCell 35 = .ok (.iconst 0, 1) := by decide +kernel
theorem dX12_setCell_36 : decode cX12_setCell 36 = .ok (.istore_n 3, 1) := by decide +kernel
theorem dX12_setCell_37 : decode cX12_setCell 37 = .ok (.aload_n 0, 1) := by decide +kernel
theorem dX12_setCell_38 : decode cX12_setCell 38 = .ok (.getfield 26, 3) := by decide +kernel
theorem dX12_setCell_41 : decode cX12_setCell 41 = .ok (.iload_n 1, 1) := by decide +kernel
theorem dX12_setCell_42 : decode cX12_setCell 42 = .ok (.iload_n 2, 1) := by decide +kernel
theorem dX12_setCell_43 : decode cX12_setCell 43 = .ok (.iastore, 1) := by decide +kernel
theorem dX12_setCell_44 : decode cX12_setCell 44 = .ok (.iload_n 3, 1) := by decide +kernel
theorem dX12_setCell_45 : decode cX12_setCell 45 = .ok (.ifCond .eq 13, 3) := by decide +kernel
theorem dX12_setCell_48 : decode cX12_setCell 48 = .ok (.aload_n 0, 1) := by decide +kernel
theorem dX12_setCell_49 : decode cX12_setCell 49 = .ok (.bipush 107, 2) := by decide +kernel
theorem dX12_setCell_51 : decode cX12_setCell 51 = .ok (.iload_n 1, 1) := by decide +kernel
theorem dX12_setCell_52 : decode cX12_setCell 52 = .ok (.invokevirtual 237, 3) := by decide +kernel
theorem dX12_setCell_55 : decode cX12_setCell 55 = .ok (.goto 4, 3) := by decide +kernel
theorem dX12_setCell_58 : decode cX12_setCell 58 = .ok (.iconst 0, 1) := by decide +kernel
theorem dX12_setCell_59 : decode cX12_setCell 59 = .ok (.ireturn, 1) := by decide +kernel
theorem dX12_setLimits_0 : decode cX12_setLimits 0 = .ok (.aload_n 0, 1) := by decide +kernel
theorem dX12_setLimits_1 : decode cX12_setLimits 1 = .ok (.iconst 0, 1) := by decide +kernel
theorem dX12_setLimits_2 : decode cX12_setLimits 2 = .ok (.putfield 202, 3) := by decide +kernel
theorem dX12_setLimits_5 : decode cX12_setLimits 5 = .ok (.iload_n 1, 1) := by decide +kernel
theorem dX12_setLimits_6 : decode cX12_setLimits 6 = .ok (.iconst 2, 1) := by decide +kernel
theorem dX12_setLimits_7 : decode cX12_setLimits 7 = .ok (.bipush 50, 2) := by decide +kernel
theorem dX12_setLimits_9 : decode cX12_setLimits 9 = .ok (.invokestatic 208, 3) := by decide +kernel
theorem dX12_setLimits_12 : decode cX12_setLimits 12 = .ok (.ifCond .eq 25, 3) := by decide +kernel
theorem dX12_setLimits_15 : decode cX12_setLimits 15 = .ok (.iload_n 2, 1) := by decide +kernel
theorem dX12_setLimits_16 : decode cX12_setLimits 16 = .ok (.iconst 1, 1) := by decide +kernel
theorem dX12_setLimits_17 : decode cX12_setLimits 17 = .ok (.bipush 20, 2) := by decide +kernel
theorem dX12_setLimits_19 : decode cX12_setLimits 19 = .ok (.invokestatic 208, 3) := by decide +kernel
theorem dX12_setLimits_22 : decode cX12_setLimits 22 = .ok (.ifCond .eq 15, 3) := by decide +kernel
theorem dX12_setLimits_25 : decode cX12_setLimits 25 = .ok (.iload_n 3, 1) := by decide +kernel
theorem dX12_setLimits_26 : decode cX12_setLimits 26 = .ok (.bipush 10, 2) := by decide +kernel
theorem dX12_setLimits_28 : decode cX12_setLimits 28 = .ok (.sipush 200, 3) := by decide +kernel
theorem dX12_setLimits_31 : decode cX12_setLimits 31 = .ok (.invokestatic 208, 3) := by decide +kernel
theorem dX12_setLimits_34 : decode cX12_setLimits 34 = .ok (.ifCond .ne 9, 3) := by decide +kernel
theorem dX12_setLimits_37 : decode cX12_setLimits 37 = .ok (.aload_n 0, 1) := by decide +kernel
theorem dX12_setLimits_38 : decode cX12_setLimits 38 = .ok (.iconst 1, 1) := by decide +kernel
theorem dX12_setLimits_39 : decode cX12_setLimits 39 = .ok (.invokevirtual 212, 3) := by decide +kernel
theorem dX12_setLimits_42 : decode cX12_setLimits 42 = .ok (.ireturn, 1) := by decide +kernel
theorem dX12_setLimits_43 : decode cX12_setLimits 43 = .ok (.aload_n 0, 1) := by decide +kernel
theorem dX12_setLimits_44 : decode cX12_setLimits 44 = .ok (.iload_n 1, 1) := by decide +kernel
theorem dX12_setLimits_45 : decode cX12_setLimits 45 = .ok (.putfield 68, 3) := by decide +kernel
theorem dX12_setLimits_48 : decode cX12_setLimits 48 = .ok (.aload_n 0, 1) := by decide +kernel
theorem dX12_setLimits_49 : decode cX12_setLimits 49 = .ok (.iload_n 2, 1) := by decide +kernel
theorem dX12_setLimits_50 : decode cX12_setLimits 50 = .ok (.putfield 72, 3) := by decide +kernel
theorem dX12_setLimits_53 : decode cX12_setLimits 53 = .ok (.aload_n 0, 1) := by decide +kernel
theorem dX12_setLimits_54 : decode cX12_setLimits 54 = .ok (.iload_n 3, 1) := by decide +kernel
theorem dX12_setLimits_55 : decode cX12_setLimits 55 = .ok (.putfield 75, 3) := by decide +kernel
theorem dX12_setLimits_58 : decode cX12_setLimits 58 = .ok (.iconst 0, 1) := by decide +kernel
theorem dX12_setLimits_59 : decode cX12_setLimits 59 = .ok (.istore 4, 2) := by decide +kernel
theorem dX12_setLimits_61 : decode cX12_setLimits 61 = .ok (.aload_n 0, 1) := by decide +kernel
theorem dX12_setLimits_62 : decode cX12_setLimits 62 = .ok (.invokevirtual 241, 3) := by decide +kernel
theorem dX12_setLimits_65 : decode cX12_setLimits 65 = .ok (.aload_n 0, 1) := by decide +kernel
theorem dX12_setLimits_66 : decode cX12_setLimits 66 = .ok (.getfield 75, 3) := by decide +kernel
theorem dX12_setLimits_69 : decode cX12_setLimits 69 = .ok (.if_icmp .le 18, 3) := by decide +kernel
theorem dX12_setLimits_72 : decode cX12_setLimits 72 = .ok (.aload_n 0, 1) := by decide +kernel
theorem dX12_setLimits_73 : decode cX12_setLimits 73 = .ok (.aload_n 0, 1) := by decide +kernel
theorem dX12_setLimits_74 : decode cX12_setLimits 74 = .ok (.iconst (-1), 1) := by decide +kernel
theorem dX12_setLimits_75 : decode cX12_setLimits 75 = .ok (.invokevirtual 245, 3) := by decide +kernel
theorem dX12_setLimits_78 : decode cX12_setLimits 78 = .ok (.invokevirtual 248, 3) := by decide +kernel
theorem dX12_setLimits_81 : decode cX12_setLimits 81 = .ok (.iinc 4 1, 3) := by decide +kernel
theorem dX12_setLimits_84 : decode cX12_setLimits 84 = .ok (.goto (-23), 3) := by decide +kernel
theorem dX12_setLimits_87 : decode cX12_setLimits 87 = .ok (.iload 4, 2) := by decide +kernel
theorem dX12_setLimits_89 : decode cX12_setLimits 89 = .ok (.ireturn, 1) := by decide +kernel
theorem dX12_methodOf_0 : decode cX12_methodOf 0 = .ok (.iload_n 1, 1) := by decide +kernel
theorem dX12_methodOf_1 : decode cX12_methodOf 1 = .ok (.istore_n 3, 1) := by decide +kernel
theorem dX12_methodOf_2 : decode cX12_methodOf 2 = .ok (.iload_n 3, 1) := by decide +kernel
theorem dX12_methodOf_3 : decode cX12_methodOf 3 = .ok (.iconst (-1), 1) := by decide +kernel
theorem dX12_methodOf_4 : decode cX12_methodOf 4 = .ok (.if_icmp .eq 40, 3) := by decide +kernel
theorem dX12_methodOf_7 : decode cX12_methodOf 7 = .ok (.aload_n 0, 1) := by decide +kernel
theorem dX12_methodOf_8 : decode cX12_methodOf 8 = .ok (.getfield 32, 3) := by decide +kernel
theorem dX12_methodOf_11 : decode cX12_methodOf 11 = .ok (.bipush 6, 2) := by decide +kernel
theorem dX12_methodOf_13 : decode cX12_methodOf 13 = .ok (.iload_n 3, 1) := by decide +kernel
theorem dX12_methodOf_14 : decode cX12_methodOf 14 = .ok (.imul, 1) := by decide +kernel
theorem dX12_methodOf_15 : decode cX12_methodOf 15 = .ok (.iload_n 2, 1) := by decide +kernel
theorem dX12_methodOf_16 : decode cX12_methodOf 16 = .ok (.iadd, 1) := by decide +kernel
theorem dX12_methodOf_17 : decode cX12_methodOf 17 = .ok (.iaload, 1) := by decide +kernel
theorem dX12_methodOf_18 : decode cX12_methodOf 18 = .ok (.iconst (-1), 1) := by decide +kernel
theorem dX12_methodOf_19 : decode cX12_methodOf 19 = .ok (.if_icmp .eq 15, 3) := by decide +kernel
theorem dX12_methodOf_22 : decode cX12_methodOf 22 = .ok (.aload_n 0, 1) := by decide +kernel
theorem dX12_methodOf_23 : decode cX12_methodOf 23 = .ok (.getfield 32, 3) := by decide +kernel
theorem dX12_methodOf_26 : decode cX12_methodOf 26 = .ok (.bipush 6, 2) := by decide +kernel
theorem dX12_methodOf_28 : decode cX12_methodOf 28 = .ok (.iload_n 3, 1) := by decide +kernel
theorem dX12_methodOf_29 : decode cX12_methodOf 29 = .ok (.imul, 1) := by decide +kernel
theorem dX12_methodOf_30 : decode cX12_methodOf 30 = .ok (.iload_n 2, 1) := by decide +kernel
theorem dX12_methodOf_31 : decode cX12_methodOf 31 = .ok (.iadd, 1) := by decide +kernel
theorem dX12_methodOf_32 : decode cX12_methodOf 32 = .ok (.iaload, 1) := by decide +kernel
theorem dX12_methodOf_33 : decode cX12_methodOf 33 = .ok (.ireturn, 1) := by decide +kernel
theorem dX12_methodOf_34 : decode cX12_methodOf 34 = .ok (.aload_n 0, 1) := by decide +kernel
theorem dX12_methodOf_35 : decode cX12_methodOf 35 = .ok (.getfield 29, 3) := by decide +kernel
theorem dX12_methodOf_38 : decode cX12_methodOf 38 = .ok (.iload_n 3, 1) := by decide +kernel
theorem dX12_methodOf_39 : decode cX12_methodOf 39 = .ok (.iaload, 1) := by decide +kernel
theorem dX12_methodOf_40 : decode cX12_methodOf 40 = .ok (.istore_n 3, 1) := by decide +kernel
theorem dX12_methodOf_41 : decode cX12_methodOf 41 = .ok (.goto (-39), 3) := by decide +kernel
theorem dX12_methodOf_44 : decode cX12_methodOf 44 = .ok (.iconst (-1), 1) := by decide +kernel
theorem dX12_methodOf_45 : decode cX12_methodOf 45 = .ok (.ireturn, 1) := by decide +kernel
theorem dX12_hasField_0 : decode cX12_hasField 0 = .ok (.iconst 0, 1) := by decide +kernel
theorem dX12_hasField_1 : decode cX12_hasField 1 = .ok (.istore_n 3, 1) := by decide +kernel
theorem dX12_hasField_2 : decode cX12_hasField 2 = .ok (.iload_n 3, 1) := by decide +kernel
theorem dX12_hasField_3 : decode cX12_hasField 3 = .ok (.aload_n 0, 1) := by decide +kernel
theorem dX12_hasField_4 : decode cX12_hasField 4 = .ok (.getfield 41, 3) := by decide +kernel
theorem dX12_hasField_7 : decode cX12_hasField 7 = .ok (.iload_n 1, 1) := by decide +kernel
theorem dX12_hasField_8 : decode cX12_hasField 8 = .ok (.iaload, 1) := by decide +kernel
theorem dX12_hasField_9 : decode cX12_hasField 9 = .ok (.if_icmp .ge 26, 3) := by decide +kernel
theorem dX12_hasField_12 : decode cX12_hasField 12 = .ok (.aload_n 0, 1) := by decide +kernel
theorem dX12_hasField_13 : decode cX12_hasField 13 = .ok (.getfield 44, 3) := by decide +kernel
theorem dX12_hasField_16 : decode cX12_hasField 16 = .ok (.bipush 6, 2) := by decide +kernel
theorem dX12_hasField_18 : decode cX12_hasField 18 = .ok (.iload_n 1, 1) := by decide +kernel
theorem dX12_hasField_19 : decode cX12_hasField 19 = .ok (.imul, 1) := by decide +kernel
theorem dX12_hasField_20 : decode cX12_hasField 20 = .ok (.iload_n 3, 1) := by decide +kernel
theorem dX12_hasField_21 : decode cX12_hasField 21 = .ok (.iadd, 1) := by decide +kernel
theorem dX12_hasField_22 : decode cX12_hasField 22 = .ok (.iaload, 1) := by decide +kernel
theorem dX12_hasField_23 : decode cX12_hasField 23 = .ok (.iload_n 2, 1) := by decide +kernel
theorem dX12_hasField_24 : decode cX12_hasField 24 = .ok (.if_icmp .ne 5, 3) := by decide +kernel
theorem dX12_hasField_27 : decode cX12_hasField 27 = .ok (.iconst 1, 1) := by decide +kernel
theorem dX12_hasField_28 : decode cX12_hasField 28 = .ok (.ireturn, 1) := by decide +kernel
theorem dX12_hasField_29 : decode cX12_hasField 29 = .ok (.iinc 3 1, 3) := by decide +kernel
theorem dX12_hasField_32 : decode cX12_hasField 32 = .ok (.goto (-30), 3) := by decide +kernel
theorem dX12_hasField_35 : decode cX12_hasField 35 = .ok (.iconst 0, 1) := by decide +kernel
theorem dX12_hasField_36 : decode cX12_hasField 36 = .ok (.ireturn, 1) := by decide +kernel
theorem dX12_shapeBehind_0 : decode cX12_shapeBehind 0 = .ok (.aload_n 0, 1) := by decide +kernel
theorem dX12_shapeBehind_1 : decode cX12_shapeBehind 1 = .ok (.iload_n 1, 1) := by decide +kernel
theorem dX12_shapeBehind_2 : decode cX12_shapeBehind 2 = .ok (.iload_n 2, 1) := by decide +kernel
theorem dX12_shapeBehind_3 : decode cX12_shapeBehind 3 = .ok (.invokevirtual 252, 3) := by decide +kernel
theorem dX12_shapeBehind_6 : decode cX12_shapeBehind 6 = .ok (.ifCond .eq 5, 3) := by decide +kernel
theorem dX12_shapeBehind_9 : decode cX12_shapeBehind 9 = .ok (.iload_n 1, 1) := by decide +kernel
theorem dX12_shapeBehind_10 : decode cX12_shapeBehind 10 = .ok (.ireturn, 1) := by decide +kernel
theorem dX12_shapeBehind_11 : decode cX12_shapeBehind 11 = .ok (.aload_n 0, 1) := by decide +kernel
theorem dX12_shapeBehind_12 : decode cX12_shapeBehind 12 = .ok (.getfield 47, 3) := by decide +kernel
theorem dX12_shapeBehind_15 : decode cX12_shapeBehind 15 = .ok (.bipush 6, 2) := by decide +kernel
theorem dX12_shapeBehind_17 : decode cX12_shapeBehind 17 = .ok (.iload_n 1, 1) := by decide +kernel
theorem dX12_shapeBehind_18 : decode cX12_shapeBehind 18 = .ok (.imul, 1) := by decide +kernel
theorem dX12_shapeBehind_19 : decode cX12_shapeBehind 19 = .ok (.iload_n 2, 1) := by decide +kernel
theorem dX12_shapeBehind_20 : decode cX12_shapeBehind 20 = .ok (.iadd, 1) := by decide +kernel
theorem dX12_shapeBehind_21 : decode cX12_shapeBehind 21 = .ok (.iaload, 1) := by decide +kernel
theorem dX12_shapeBehind_22 : decode cX12_shapeBehind 22 = .ok (.iconst (-1), 1) := by decide +kernel
theorem dX12_shapeBehind_23 : decode cX12_shapeBehind 23 = .ok (.if_icmp .ne 101, 3) := by decide +kernel
theorem dX12_shapeBehind_26 : decode cX12_shapeBehind 26 = .ok (.aload_n 0, 1) := by decide +kernel
theorem dX12_shapeBehind_27 : decode cX12_shapeBehind 27 = .ok (.aload_n 0, 1) := by decide +kernel
theorem dX12_shapeBehind_28 : decode cX12_shapeBehind 28 = .ok (.getfield 38, 3) := by decide +kernel
theorem dX12_shapeBehind_31 : decode cX12_shapeBehind 31 = .ok (.iload_n 1, 1) := by decide +kernel
theorem dX12_shapeBehind_32 : decode cX12_shapeBehind 32 = .ok (.iaload, 1) := by decide +kernel
theorem dX12_shapeBehind_33 : decode cX12_shapeBehind 33 = .ok (.invokevirtual 234, 3) := by decide +kernel
theorem dX12_shapeBehind_36 : decode cX12_shapeBehind 36 = .ok (.istore_n 3, 1) := by decide +kernel
theorem dX12_shapeBehind_37 : decode cX12_shapeBehind 37 = .ok (.iconst 0, 1) := by decide +kernel
theorem dX12_shapeBehind_38 : decode cX12_shapeBehind 38 = .ok (.istore 4, 2) := by decide +kernel
theorem dX12_shapeBehind_40 : decode cX12_shapeBehind 40 = .ok (.iload 4, 2) := by decide +kernel
theorem dX12_shapeBehind_42 : decode cX12_shapeBehind 42 = .ok (.aload_n 0, 1) := by decide +kernel
theorem dX12_shapeBehind_43 : decode cX12_shapeBehind 43 = .ok (.getfield 41, 3) := by decide +kernel
theorem dX12_shapeBehind_46 : decode cX12_shapeBehind 46 = .ok (.iload_n 1, 1) := by decide +kernel
theorem dX12_shapeBehind_47 : decode cX12_shapeBehind 47 = .ok (.iaload, 1) := by decide +kernel
theorem dX12_shapeBehind_48 : decode cX12_shapeBehind 48 = .ok (.if_icmp .ge 33, 3) := by decide +kernel
theorem dX12_shapeBehind_51 : decode cX12_shapeBehind 51 = .ok (.aload_n 0, 1) := by decide +kernel
theorem dX12_shapeBehind_52 : decode cX12_shapeBehind 52 = .ok (.getfield 44, 3) := by decide +kernel
theorem dX12_shapeBehind_55 : decode cX12_shapeBehind 55 = .ok (.bipush 6, 2) := by decide +kernel
theorem dX12_shapeBehind_57 : decode cX12_shapeBehind 57 = .ok (.iload_n 3, 1) := by decide +kernel
theorem dX12_shapeBehind_58 : decode cX12_shapeBehind 58 = .ok (.imul, 1) := by decide +kernel
theorem dX12_shapeBehind_59 : decode cX12_shapeBehind 59 = .ok (.iload 4, 2) := by decide +kernel
theorem dX12_shapeBehind_61 : decode cX12_shapeBehind 61 = .ok (.iadd, 1) := by decide +kernel
theorem dX12_shapeBehind_62 : decode cX12_shapeBehind 62 = .ok (.aload_n 0, 1) := by decide +kernel
theorem dX12_shapeBehind_63 : decode cX12_shapeBehind 63 = .ok (.getfield 44, 3) := by decide +kernel
theorem dX12_shapeBehind_66 : decode cX12_shapeBehind 66 = .ok (.bipush 6, 2) := by decide +kernel
theorem dX12_shapeBehind_68 : decode cX12_shapeBehind 68 = .ok (.iload_n 1, 1) := by decide +kernel
theorem dX12_shapeBehind_69 : decode cX12_shapeBehind 69 = .ok (.imul, 1) := by decide +kernel
theorem dX12_shapeBehind_70 : decode cX12_shapeBehind 70 = .ok (.iload 4, 2) := by decide +kernel
theorem dX12_shapeBehind_72 : decode cX12_shapeBehind 72 = .ok (.iadd, 1) := by decide +kernel
theorem dX12_shapeBehind_73 : decode cX12_shapeBehind 73 = .ok (.iaload, 1) := by decide +kernel
theorem dX12_shapeBehind_74 : decode cX12_shapeBehind 74 = .ok (.iastore, 1) := by decide +kernel
theorem dX12_shapeBehind_75 : decode cX12_shapeBehind 75 = .ok (.iinc 4 1, 3) := by decide +kernel
theorem dX12_shapeBehind_78 : decode cX12_shapeBehind 78 = .ok (.goto (-38), 3) := by decide +kernel
theorem dX12_shapeBehind_81 : decode cX12_shapeBehind 81 = .ok (.aload_n 0, 1) := by decide +kernel
theorem dX12_shapeBehind_82 : decode cX12_shapeBehind 82 = .ok (.getfield 41, 3) := by decide +kernel
theorem dX12_shapeBehind_85 : decode cX12_shapeBehind 85 = .ok (.iload_n 3, 1) := by decide +kernel
theorem dX12_shapeBehind_86 : decode cX12_shapeBehind 86 = .ok (.aload_n 0, 1) := by decide +kernel
theorem dX12_shapeBehind_87 : decode cX12_shapeBehind 87 = .ok (.getfield 41, 3) := by decide +kernel
theorem dX12_shapeBehind_90 : decode cX12_shapeBehind 90 = .ok (.iload_n 1, 1) := by decide +kernel
theorem dX12_shapeBehind_91 : decode cX12_shapeBehind 91 = .ok (.iaload, 1) := by decide +kernel
theorem dX12_shapeBehind_92 : decode cX12_shapeBehind 92 = .ok (.iconst 1, 1) := by decide +kernel
theorem dX12_shapeBehind_93 : decode cX12_shapeBehind 93 = .ok (.iadd, 1) := by decide +kernel
theorem dX12_shapeBehind_94 : decode cX12_shapeBehind 94 = .ok (.iastore, 1) := by decide +kernel
theorem dX12_shapeBehind_95 : decode cX12_shapeBehind 95 = .ok (.aload_n 0, 1) := by decide +kernel
theorem dX12_shapeBehind_96 : decode cX12_shapeBehind 96 = .ok (.getfield 44, 3) := by decide +kernel
theorem dX12_shapeBehind_99 : decode cX12_shapeBehind 99 = .ok (.bipush 6, 2) := by decide +kernel
theorem dX12_shapeBehind_101 : decode cX12_shapeBehind 101 = .ok (.iload_n 3, 1) := by decide +kernel
theorem dX12_shapeBehind_102 : decode cX12_shapeBehind 102 = .ok (.imul, 1) := by decide +kernel
theorem dX12_shapeBehind_103 : decode cX12_shapeBehind 103 = .ok (.aload_n 0, 1) := by decide +kernel
theorem dX12_shapeBehind_104 : decode cX12_shapeBehind 104 = .ok (.getfield 41, 3) := by decide +kernel
theorem dX12_shapeBehind_107 : decode cX12_shapeBehind 107 = .ok (.iload_n 1, 1) := by decide +kernel
theorem dX12_shapeBehind_108 : decode cX12_shapeBehind 108 = .ok (.iaload, 1) := by decide +kernel
theorem dX12_shapeBehind_109 : decode cX12_shapeBehind 109 = .ok (.iadd, 1) := by decide +kernel
theorem dX12_shapeBehind_110 : decode cX12_shapeBehind 110 = .ok (.iload_n 2, 1) := by decide +kernel
theorem dX12_shapeBehind_111 : decode cX12_shapeBehind 111 = .ok (.iastore, 1) := by decide +kernel
theorem dX12_shapeBehind_112 : decode cX12_shapeBehind 112 = .ok (.aload_n 0, 1) := by decide +kernel
theorem dX12_shapeBehind_113 : decode cX12_shapeBehind 113 = .ok (.getfield 47, 3) := by decide +kernel
theorem dX12_shapeBehind_116 : decode cX12_shapeBehind 116 = .ok (.bipush 6, 2) := by decide +kernel
theorem dX12_shapeBehind_118 : decode cX12_shapeBehind 118 = .ok (.iload_n 1, 1) := by decide +kernel
theorem dX12_shapeBehind_119 : decode cX12_shapeBehind 119 = .ok (.imul, 1) := by decide +kernel
theorem dX12_shapeBehind_120 : decode cX12_shapeBehind 120 = .ok (.iload_n 2, 1) := by decide +kernel
theorem dX12_shapeBehind_121 : decode cX12_shapeBehind 121 = .ok (.iadd, 1) := by decide +kernel
theorem dX12_shapeBehind_122 : decode cX12_shapeBehind 122 = .ok (.iload_n 3, 1) := by decide +kernel
theorem dX12_shapeBehind_123 : decode cX12_shapeBehind 123 = .ok (.iastore, 1) := by decide +kernel
theorem dX12_shapeBehind_124 : decode cX12_shapeBehind 124 = .ok (.aload_n 0, 1) := by decide +kernel
theorem dX12_shapeBehind_125 : decode cX12_shapeBehind 125 = .ok (.getfield 47, 3) := by decide +kernel
theorem dX12_shapeBehind_128 : decode cX12_shapeBehind 128 = .ok (.bipush 6, 2) := by decide +kernel
theorem dX12_shapeBehind_130 : decode cX12_shapeBehind 130 = .ok (.iload_n 1, 1) := by decide +kernel
theorem dX12_shapeBehind_131 : decode cX12_shapeBehind 131 = .ok (.imul, 1) := by decide +kernel
theorem dX12_shapeBehind_132 : decode cX12_shapeBehind 132 = .ok (.iload_n 2, 1) := by decide +kernel
theorem dX12_shapeBehind_133 : decode cX12_shapeBehind 133 = .ok (.iadd, 1) := by decide +kernel
theorem dX12_shapeBehind_134 : decode cX12_shapeBehind 134 = .ok (.iaload, 1) := by decide +kernel
theorem dX12_shapeBehind_135 : decode cX12_shapeBehind 135 = .ok (.ireturn, 1) := by decide +kernel
theorem dX12_size_0 : decode cX12_size 0 = .ok (.iconst 0, 1) := by decide +kernel
theorem dX12_size_1 : decode cX12_size 1 = .ok (.istore_n 1, 1) := by decide +kernel
theorem dX12_size_2 : decode cX12_size 2 = .ok (.iconst 0, 1) := by decide +kernel
theorem dX12_size_3 : decode cX12_size 3 = .ok (.istore_n 2, 1) := by decide +kernel
theorem dX12_size_4 : decode cX12_size 4 = .ok (.iload_n 2, 1) := by decide +kernel
theorem dX12_size_5 : decode cX12_size 5 = .ok (.aload_n 0, 1) := by decide +kernel
theorem dX12_size_6 : decode cX12_size 6 = .ok (.getfield 256, 3) := by decide +kernel
theorem dX12_size_9 : decode cX12_size 9 = .ok (.if_icmp .ge 31, 3) := by decide +kernel
theorem dX12_size_12 : decode cX12_size 12 = .ok (.iload_n 1, 1) := by decide +kernel
theorem dX12_size_13 : decode cX12_size 13 = .ok (.aload_n 0, 1) := by decide +kernel
theorem dX12_size_14 : decode cX12_size 14 = .ok (.getfield 78, 3) := by decide +kernel
theorem dX12_size_17 : decode cX12_size 17 = .ok (.iload_n 2, 1) := by decide +kernel
theorem dX12_size_18 : decode cX12_size 18 = .ok (.baload, 1) := by decide +kernel
theorem dX12_size_19 : decode cX12_size 19 = .ok (.ifCond .eq 12, 3) := by decide +kernel
theorem dX12_size_22 : decode cX12_size 22 = .ok (.aload_n 0, 1) := by decide +kernel
theorem dX12_size_23 : decode cX12_size 23 = .ok (.getfield 82, 3) := by decide +kernel
theorem dX12_size_26 : decode cX12_size 26 = .ok (.iload_n 2, 1) := by decide +kernel
theorem dX12_size_27 : decode cX12_size 27 = .ok (.iaload, 1) := by decide +kernel
theorem dX12_size_28 : decode cX12_size 28 = .ok (.goto 4, 3) := by decide +kernel
theorem dX12_size_31 : decode cX12_size 31 = .ok (.iconst 0, 1) := by decide +kernel
theorem dX12_size_32 : decode cX12_size 32 = .ok (.iadd, 1) := by decide +kernel
theorem dX12_size_33 : decode cX12_size 33 = .ok (.istore_n 1, 1) := by decide +kernel
theorem dX12_size_34 : decode cX12_size 34 = .ok (.iinc 2 1, 3) := by decide +kernel
theorem dX12_size_37 : decode cX12_size 37 = .ok (.goto (-33), 3) := by decide +kernel
theorem dX12_size_40 : decode cX12_size 40 = .ok (.iload_n 1, 1) := by decide +kernel
theorem dX12_size_41 : decode cX12_size 41 = .ok (.ireturn, 1) := by decide +kernel
theorem dX12_oldest_0 : decode cX12_oldest 0 = .ok (.iconst (-1), 1) := by decide +kernel
theorem dX12_oldest_1 : decode cX12_oldest 1 = .ok (.istore_n 2, 1) := by decide +kernel
theorem dX12_oldest_2 : decode cX12_oldest 2 = .ok (.iconst 0, 1) := by decide +kernel
theorem dX12_oldest_3 : decode cX12_oldest 3 = .ok (.istore_n 3, 1) := by decide +kernel
theorem dX12_oldest_4 : decode cX12_oldest 4 = .ok (.iload_n 3, 1) := by decide +kernel
theorem dX12_oldest_5 : decode cX12_oldest 5 = .ok (.aload_n 0, 1) := by decide +kernel
theorem dX12_oldest_6 : decode cX12_oldest 6 = .ok (.getfield 256, 3) := by decide +kernel
theorem dX12_oldest_9 : decode cX12_oldest 9 = .ok (.if_icmp .ge 71, 3) := by decide +kernel
theorem dX12_oldest_12 : decode cX12_oldest 12 = .ok (.aload_n 0, 1) := by decide +kernel
theorem dX12_oldest_13 : decode cX12_oldest 13 = .ok (.getfield 78, 3) := by decide +kernel
theorem dX12_oldest_16 : decode cX12_oldest 16 = .ok (.iload_n 3, 1) := by decide +kernel
theorem dX12_oldest_17 : decode cX12_oldest 17 = .ok (.baload, 1) := by decide +kernel
theorem dX12_oldest_18 : decode cX12_oldest 18 = .ok (.ifCond .eq 22, 3) := by decide +kernel
theorem dX12_oldest_21 : decode cX12_oldest 21 = .ok (.aload_n 0, 1) := by decide +kernel
theorem dX12_oldest_22 : decode cX12_oldest 22 = .ok (.getfield 91, 3) := by decide +kernel
theorem dX12_oldest_25 : decode cX12_oldest 25 = .ok (.iload_n 3, 1) := by decide +kernel
theorem dX12_oldest_26 : decode cX12_oldest 26 = .ok (.iaload, 1) := by decide +kernel
theorem dX12_oldest_27 : decode cX12_oldest 27 = .ok (.iload_n 3, 1) := by decide +kernel
theorem dX12_oldest_28 : decode cX12_oldest 28 = .ok (.if_icmp .ne 12, 3) := by decide +kernel
theorem dX12_oldest_31 : decode cX12_oldest 31 = .ok (.iload_n 3, 1) := by decide +kernel
theorem dX12_oldest_32 : decode cX12_oldest 32 = .ok (.iload_n 1, 1) := by decide +kernel
theorem dX12_oldest_33 : decode cX12_oldest 33 = .ok (.if_icmp .eq 7, 3) := by decide +kernel
theorem dX12_oldest_36 : decode cX12_oldest 36 = .ok (.iconst 1, 1) := by decide +kernel
theorem dX12_oldest_37 : decode cX12_oldest 37 = .ok (.goto 4, 3) := by decide +kernel
theorem dX12_oldest_40 : decode cX12_oldest 40 = .ok (.iconst 0, 1) := by decide +kernel
theorem dX12_oldest_41 : decode cX12_oldest 41 = .ok (.istore 4, 2) := by decide +kernel
theorem dX12_oldest_43 : decode cX12_oldest 43 = .ok (.iload 4, 2) := by decide +kernel
theorem dX12_oldest_45 : decode cX12_oldest 45 = .ok (.ifCond .eq 27, 3) := by decide +kernel
theorem dX12_oldest_48 : decode cX12_oldest 48 = .ok (.iload_n 2, 1) := by decide +kernel
theorem dX12_oldest_49 : decode cX12_oldest 49 = .ok (.iconst (-1), 1) := by decide +kernel
theorem dX12_oldest_50 : decode cX12_oldest 50 = .ok (.if_icmp .eq 18, 3) := by decide +kernel
theorem dX12_oldest_53 : decode cX12_oldest 53 = .ok (.aload_n 0, 1) := by decide +kernel
theorem dX12_oldest_54 : decode cX12_oldest 54 = .ok (.getfield 100, 3) := by decide +kernel
theorem dX12_oldest_57 : decode cX12_oldest 57 = .ok (.iload_n 3, 1) := by decide +kernel
theorem dX12_oldest_58 : decode cX12_oldest 58 = .ok (.iaload, 1) := by decide +kernel
theorem dX12_oldest_59 : decode cX12_oldest 59 = .ok (.aload_n 0, 1) := by decide +kernel
theorem dX12_oldest_60 : decode cX12_oldest 60 = .ok (.getfield 100, 3) := by decide +kernel
theorem dX12_oldest_63 : decode cX12_oldest 63 = .ok (.iload_n 2, 1) := by decide +kernel
theorem dX12_oldest_64 : decode cX12_oldest 64 = .ok (.iaload, 1) := by decide +kernel
theorem dX12_oldest_65 : decode cX12_oldest 65 = .ok (.if_icmp .ge 7, 3) := by decide +kernel
theorem dX12_oldest_68 : decode cX12_oldest 68 = .ok (.iload_n 3, 1) := by decide +kernel
theorem dX12_oldest_69 : decode cX12_oldest 69 = .ok (.goto 4, 3) := by decide +kernel
theorem dX12_oldest_72 : decode cX12_oldest 72 = .ok (.iload_n 2, 1) := by decide +kernel
theorem dX12_oldest_73 : decode cX12_oldest 73 = .ok (.istore_n 2, 1) := by decide +kernel
theorem dX12_oldest_74 : decode cX12_oldest 74 = .ok (.iinc 3 1, 3) := by decide +kernel
theorem dX12_oldest_77 : decode cX12_oldest 77 = .ok (.goto (-73), 3) := by decide +kernel
theorem dX12_oldest_80 : decode cX12_oldest 80 = .ok (.iload_n 2, 1) := by decide +kernel
theorem dX12_oldest_81 : decode cX12_oldest 81 = .ok (.ireturn, 1) := by decide +kernel
theorem dX12_throwAway_0 : decode cX12_throwAway 0 = .ok (.iconst 0, 1) := by decide +kernel
theorem dX12_throwAway_1 : decode cX12_throwAway 1 = .ok (.istore_n 2, 1) := by decide +kernel
theorem dX12_throwAway_2 : decode cX12_throwAway 2 = .ok (.iload_n 2, 1) := by decide +kernel
theorem dX12_throwAway_3 : decode cX12_throwAway 3 = .ok (.aload_n 0, 1) := by decide +kernel
theorem dX12_throwAway_4 : decode cX12_throwAway 4 = .ok (.getfield 256, 3) := by decide +kernel
theorem dX12_throwAway_7 : decode cX12_throwAway 7 = .ok (.if_icmp .ge 39, 3) := by decide +kernel
theorem dX12_throwAway_10 : decode cX12_throwAway 10 = .ok (.aload_n 0, 1) := by decide +kernel
theorem dX12_throwAway_11 : decode cX12_throwAway 11 = .ok (.getfield 78, 3) := by decide +kernel
theorem dX12_throwAway_14 : decode cX12_throwAway 14 = .ok (.iload_n 2, 1) := by decide +kernel
theorem dX12_throwAway_15 : decode cX12_throwAway 15 = .ok (.aload_n 0, 1) := by decide +kernel
theorem dX12_throwAway_16 : decode cX12_throwAway 16 = .ok (.getfield 78, 3) := by decide +kernel
theorem dX12_throwAway_19 : decode cX12_throwAway 19 = .ok (.iload_n 2, 1) := by decide +kernel
theorem dX12_throwAway_20 : decode cX12_throwAway 20 = .ok (.baload, 1) := by decide +kernel
theorem dX12_throwAway_21 : decode cX12_throwAway 21 = .ok (.ifCond .eq 17, 3) := by decide +kernel
theorem dX12_throwAway_24 : decode cX12_throwAway 24 = .ok (.aload_n 0, 1) := by decide +kernel
theorem dX12_throwAway_25 : decode cX12_throwAway 25 = .ok (.getfield 91, 3) := by decide +kernel
theorem dX12_throwAway_28 : decode cX12_throwAway 28 = .ok (.iload_n 2, 1) := by decide +kernel
theorem dX12_throwAway_29 : decode cX12_throwAway 29 = .ok (.iaload, 1) := by decide +kernel
theorem dX12_throwAway_30 : decode cX12_throwAway 30 = .ok (.iload_n 1, 1) := by decide +kernel
theorem dX12_throwAway_31 : decode cX12_throwAway 31 = .ok (.if_icmp .eq 7, 3) := by decide +kernel
theorem dX12_throwAway_34 : decode cX12_throwAway 34 = .ok (.iconst 1, 1) := by decide +kernel
theorem dX12_throwAway_35 : decode cX12_throwAway 35 = .ok (.goto 4, 3) := by decide +kernel
theorem dX12_throwAway_38 : decode cX12_throwAway 38 = .ok (.iconst 0, 1) := by decide +kernel
theorem dX12_throwAway_39 : decode cX12_throwAway 39 = .ok (.bastore, 1) := by decide +kernel
theorem dX12_throwAway_40 : decode cX12_throwAway 40 = .ok (.iinc 2 1, 3) := by decide +kernel
theorem dX12_throwAway_43 : decode cX12_throwAway 43 = .ok (.goto (-41), 3) := by decide +kernel
theorem dX12_throwAway_46 : decode cX12_throwAway 46 = .ok (.aload_n 0, 1) := by decide +kernel
theorem dX12_throwAway_47 : decode cX12_throwAway 47 = .ok (.getfield 62, 3) := by decide +kernel
theorem dX12_throwAway_50 : decode cX12_throwAway 50 = .ok (.aload_n 0, 1) := by decide +kernel
theorem dX12_throwAway_51 : decode cX12_throwAway 51 = .ok (.getfield 94, 3) := by decide +kernel
theorem dX12_throwAway_54 : decode cX12_throwAway 54 = .ok (.iload_n 1, 1) := by decide +kernel
theorem dX12_throwAway_55 : decode cX12_throwAway 55 = .ok (.iaload, 1) := by decide +kernel
theorem dX12_throwAway_56 : decode cX12_throwAway 56 = .ok (.iconst 0, 1) := by decide +kernel
theorem dX12_throwAway_57 : decode cX12_throwAway 57 = .ok (.iastore, 1) := by decide +kernel
theorem dX12_throwAway_58 : decode cX12_throwAway 58 = .ok (.return_, 1) := by decide +kernel
theorem dX12_throwsWith_0 : decode cX12_throwsWith 0 = .ok (.iconst 0, 1) := by decide +kernel
theorem dX12_throwsWith_1 : decode cX12_throwsWith 1 = .ok (.istore_n 3, 1) := by decide +kernel
theorem dX12_throwsWith_2 : decode cX12_throwsWith 2 = .ok (.iconst 0, 1) := by decide +kernel
theorem dX12_throwsWith_3 : decode cX12_throwsWith 3 = .ok (.istore 4, 2) := by decide +kernel
theorem dX12_throwsWith_5 : decode cX12_throwsWith 5 = .ok (.iload 4, 2) := by decide +kernel
theorem dX12_throwsWith_7 : decode cX12_throwsWith 7 = .ok (.aload_n 0, 1) := by decide +kernel
theorem dX12_throwsWith_8 : decode cX12_throwsWith 8 = .ok (.getfield 256, 3) := by decide +kernel
theorem dX12_throwsWith_11 : decode cX12_throwsWith 11 = .ok (.if_icmp .ge 139, 3) := by decide +kernel
theorem dX12_throwsWith_14 : decode cX12_throwsWith 14 = .ok (.iconst 0, 1) := by decide +kernel
theorem dX12_throwsWith_15 : decode cX12_throwsWith 15 = .ok (.istore 5, 2) := by decide +kernel
theorem dX12_throwsWith_17 : decode cX12_throwsWith 17 = .ok (.iconst 0, 1) := by decide +kernel
theorem dX12_throwsWith_18 : decode cX12_throwsWith 18 = .ok (.istore 6, 2) := by decide +kernel
theorem dX12_throwsWith_20 : decode cX12_throwsWith 20 = .ok (.iload 6, 2) := by decide +kernel
theorem dX12_throwsWith_22 : decode cX12_throwsWith 22 = .ok (.aload_n 0, 1) := by decide +kernel
theorem dX12_throwsWith_23 : decode cX12_throwsWith 23 = .ok (.getfield 82, 3) := by decide +kernel
theorem dX12_throwsWith_26 : decode cX12_throwsWith 26 = .ok (.iload 4, 2) := by decide +kernel
theorem dX12_throwsWith_28 : decode cX12_throwsWith 28 = .ok (.iaload, 1) := by decide +kernel
theorem dX12_throwsWith_29 : decode cX12_throwsWith 29 = .ok (.if_icmp .ge 96, 3) := by decide +kernel
theorem dX12_throwsWith_32 : decode cX12_throwsWith 32 = .ok (.aload_n 0, 1) := by decide +kernel
theorem dX12_throwsWith_33 : decode cX12_throwsWith 33 = .ok (.getfield 78, 3) := by decide +kernel
theorem dX12_throwsWith_36 : decode cX12_throwsWith 36 = .ok (.iload 4, 2) := by decide +kernel
theorem dX12_throwsWith_38 : decode cX12_throwsWith 38 = .ok (.baload, 1) := by decide +kernel
theorem dX12_throwsWith_39 : decode cX12_throwsWith 39 = .ok (.ifCond .eq 86, 3) := by decide +kernel
theorem dX12_throwsWith_42 : decode cX12_throwsWith 42 = .ok (.bipush 40, 2) := by decide +kernel
theorem dX12_throwsWith_44 : decode cX12_throwsWith 44 = .ok (.aload_n 0, 1) := by decide +kernel
theorem dX12_throwsWith_45 : decode cX12_throwsWith 45 = .ok (.getfield 85, 3) := by decide +kernel
theorem dX12_throwsWith_48 : decode cX12_throwsWith 48 = .ok (.bipush 30, 2) := by decide +kernel
theorem dX12_throwsWith_50 : decode cX12_throwsWith 50 = .ok (.iload 4, 2) := by decide +kernel
theorem dX12_throwsWith_52 : decode cX12_throwsWith 52 = .ok (.imul, 1) := by decide +kernel
theorem dX12_throwsWith_53 : decode cX12_throwsWith 53 = .ok (.iload 6, 2) := by decide +kernel
theorem dX12_throwsWith_55 : decode cX12_throwsWith 55 = .ok (.iadd, 1) := by decide +kernel
theorem dX12_throwsWith_56 : decode cX12_throwsWith 56 = .ok (.iaload, 1) := by decide +kernel
theorem dX12_throwsWith_57 : decode cX12_throwsWith 57 = .ok (.bipush 100, 2) := by decide +kernel
theorem dX12_throwsWith_59 : decode cX12_throwsWith 59 = .ok (.idiv, 1) := by decide +kernel
theorem dX12_throwsWith_60 : decode cX12_throwsWith 60 = .ok (.imul, 1) := by decide +kernel
theorem dX12_throwsWith_61 : decode cX12_throwsWith 61 = .ok (.aload_n 0, 1) := by decide +kernel
theorem dX12_throwsWith_62 : decode cX12_throwsWith 62 = .ok (.getfield 85, 3) := by decide +kernel
theorem dX12_throwsWith_65 : decode cX12_throwsWith 65 = .ok (.bipush 30, 2) := by decide +kernel
theorem dX12_throwsWith_67 : decode cX12_throwsWith 67 = .ok (.iload 4, 2) := by decide +kernel
theorem dX12_throwsWith_69 : decode cX12_throwsWith 69 = .ok (.imul, 1) := by decide +kernel
theorem dX12_throwsWith_70 : decode cX12_throwsWith 70 = .ok (.iload 6, 2) := by decide +kernel
theorem dX12_throwsWith_72 : decode cX12_throwsWith 72 = .ok (.iadd, 1) := by decide +kernel
theorem dX12_throwsWith_73 : decode cX12_throwsWith 73 = .ok (.iaload, 1) := by decide +kernel
theorem dX12_throwsWith_74 : decode cX12_throwsWith 74 = .ok (.bipush 100, 2) := by decide +kernel
theorem dX12_throwsWith_76 : decode cX12_throwsWith 76 = .ok (.irem, 1) := by decide +kernel
theorem dX12_throwsWith_77 : decode cX12_throwsWith 77 = .ok (.iadd, 1) := by decide +kernel
theorem dX12_throwsWith_78 : decode cX12_throwsWith 78 = .ok (.istore 7, 2) := by decide +kernel
theorem dX12_throwsWith_80 : decode cX12_throwsWith 80 = .ok (.iload 5, 2) := by decide +kernel
theorem dX12_throwsWith_82 : decode cX12_throwsWith 82 = .ok (.ifCond .ne 30, 3) := by decide +kernel
theorem dX12_throwsWith_85 : decode cX12_throwsWith 85 = .ok (.aload_n 0, 1) := by decide +kernel
theorem dX12_throwsWith_86 : decode cX12_throwsWith 86 = .ok (.getfield 16, 3) := by decide +kernel
theorem dX12_throwsWith_89 : decode cX12_throwsWith 89 = .ok (.iload 7, 2) := by decide +kernel
theorem dX12_throwsWith_91 : decode cX12_throwsWith 91 = .ok (.caload, 1) := by decide +kernel
theorem dX12_throwsWith_92 : decode cX12_throwsWith 92 = .ok (.iload_n 1, 1) := by decide +kernel
theorem dX12_throwsWith_93 : decode cX12_throwsWith 93 = .ok (.if_icmp .ne 23, 3) := by decide +kernel
theorem dX12_throwsWith_96 : decode cX12_throwsWith 96 = .ok (.iload_n 2, 1) := by decide +kernel
theorem dX12_throwsWith_97 : decode cX12_throwsWith 97 = .ok (.iconst (-1), 1) := by decide +kernel
theorem dX12_throwsWith_98 : decode cX12_throwsWith 98 = .ok (.if_icmp .eq 14, 3) := by decide +kernel
theorem dX12_throwsWith_101 : decode cX12_throwsWith 101 = .ok (.aload_n 0, 1) := by decide +kernel
theorem dX12_throwsWith_102 : decode cX12_throwsWith 102 = .ok (.getfield 20, 3) := by decide +kernel
theorem dX12_throwsWith_105 : decode cX12_throwsWith 105 = .ok (.iload 7, 2) := by decide +kernel
theorem dX12_throwsWith_107 : decode cX12_throwsWith 107 = .ok (.iaload, 1) := by decide +kernel
theorem dX12_throwsWith_108 : decode cX12_throwsWith 108 = .ok (.iload_n 2, 1) := by decide +kernel
theorem dX12_throwsWith_109 : decode cX12_throwsWith 109 = .ok (.if_icmp .ne 7, 3) := by decide +kernel
