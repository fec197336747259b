theorem dX12_run_85 : decode cX12_run 85 = .ok (.if_icmp .ge 48, 3) := by decide +kernel
theorem dX12_run_88 : decode cX12_run 88 = .ok (.aload_n 0, 1) := by decide +kernel
theorem dX12_run_89 : decode cX12_run 89 = .ok (.getfield 127, 3) := by decide +kernel
theorem dX12_run_92 : decode cX12_run 92 = .ok (.iload_n 3, 1) := by decide +kernel
theorem dX12_run_93 : decode cX12_run 93 = .ok (.iload_n 3, 1) := by decide +kernel
theorem dX12_run_94 : decode cX12_run 94 = .ok (.ifCond .ne 8, 3) := by decide +kernel
theorem dX12_run_97 : decode cX12_run 97 = .ok (.bipush 105, 2) := by decide +kernel
theorem dX12_run_99 : decode cX12_run 99 = .ok (.goto 5, 3) := by decide +kernel
theorem dX12_run_102 : decode cX12_run 102 = .ok (.bipush 110, 2) := by decide +kernel
theorem dX12_run_104 : decode cX12_run 104 = .ok (.castore, 1) := by decide +kernel
theorem dX12_run_105 : decode cX12_run 105 = .ok (.aload_n 0, 1) := by decide +kernel
theorem dX12_run_106 : decode cX12_run 106 = .ok (.getfield 130, 3) := by decide +kernel
theorem dX12_run_109 : decode cX12_run 109 = .ok (.iload_n 3, 1) := by decide +kernel
theorem dX12_run_110 : decode cX12_run 110 = .ok (.iload_n 3, 1) := by decide +kernel
theorem dX12_run_111 : decode cX12_run 111 = .ok (.ifCond .ne 7, 3) := by decide +kernel
theorem dX12_run_114 : decode cX12_run 114 = .ok (.iload_n 2, 1) := by decide +kernel
theorem dX12_run_115 : decode cX12_run 115 = .ok (.goto 4, 3) := by decide +kernel
theorem dX12_run_118 : decode cX12_run 118 = .ok (.iconst 0, 1) := by decide +kernel
theorem dX12_run_119 : decode cX12_run 119 = .ok (.iastore, 1) := by decide +kernel
theorem dX12_run_120 : decode cX12_run 120 = .ok (.aload_n 0, 1) := by decide +kernel
theorem dX12_run_121 : decode cX12_run 121 = .ok (.getfield 133, 3) := by decide +kernel
theorem dX12_run_124 : decode cX12_run 124 = .ok (.iload_n 3, 1) := by decide +kernel
theorem dX12_run_125 : decode cX12_run 125 = .ok (.dconst 0, 1) := by decide +kernel
theorem dX12_run_126 : decode cX12_run 126 = .ok (.dastore, 1) := by decide +kernel
theorem dX12_run_127 : decode cX12_run 127 = .ok (.iinc 3 1, 3) := by decide +kernel
theorem dX12_run_130 : decode cX12_run 130 = .ok (.goto (-48), 3) := by decide +kernel
theorem dX12_run_133 : decode cX12_run 133 = .ok (.aload_n 0, 1) := by decide +kernel
theorem dX12_run_134 : decode cX12_run 134 = .ok (.iconst 1, 1) := by decide +kernel
theorem dX12_run_135 : decode cX12_run 135 = .ok (.putfield 412, 3) := by decide +kernel
theorem dX12_run_138 : decode cX12_run 138 = .ok (.aload_n 0, 1) := by decide +kernel
theorem dX12_run_139 : decode cX12_run 139 = .ok (.iconst 0, 1) := by decide +kernel
theorem dX12_run_140 : decode cX12_run 140 = .ok (.putfield 353, 3) := by decide +kernel
theorem dX12_run_143 : decode cX12_run 143 = .ok (.aload_n 0, 1) := by decide +kernel
theorem dX12_run_144 : decode cX12_run 144 = .ok (.iconst (-1), 1) := by decide +kernel
theorem dX12_run_145 : decode cX12_run 145 = .ok (.putfield 172, 3) := by decide +kernel
theorem dX12_run_148 : decode cX12_run 148 = .ok (.aload_n 0, 1) := by decide +kernel
theorem dX12_run_149 : decode cX12_run 149 = .ok (.getfield 412, 3) := by decide +kernel
theorem dX12_run_152 : decode cX12_run 152 = .ok (.ifCond .eq 44, 3) := by decide +kernel
theorem dX12_run_155 : decode cX12_run 155 = .ok (.aload_n 0, 1) := by decide +kernel
theorem dX12_run_156 : decode cX12_run 156 = .ok (.getfield 436, 3) := by decide +kernel
theorem dX12_run_159 : decode cX12_run 159 = .ok (.sipush 1000, 3) := by decide +kernel
theorem dX12_run_162 : decode cX12_run 162 = .ok (.if_icmp .ne 12, 3) := by decide +kernel
theorem dX12_run_165 : decode cX12_run 165 = .ok (.aload_n 0, 1) := by decide +kernel
theorem dX12_run_166 : decode cX12_run 166 = .ok (.bipush 108, 2) := by decide +kernel
theorem dX12_run_168 : decode cX12_run 168 = .ok (.invokevirtual 466, 3) := by decide +kernel
theorem dX12_run_171 : decode cX12_run 171 = .ok (.goto (-23), 3) := by decide +kernel
theorem dX12_run_174 : decode cX12_run 174 = .ok (.aload_n 0, 1) := by decide +kernel
theorem dX12_run_175 : decode cX12_run 175 = .ok (.getfield 172, 3) := by decide +kernel
theorem dX12_run_178 : decode cX12_run 178 = .ok (.iconst (-1), 1) := by decide +kernel
theorem dX12_run_179 : decode cX12_run 179 = .ok (.if_icmp .eq 10, 3) := by decide +kernel
theorem dX12_run_182 : decode cX12_run 182 = .ok (.aload_n 0, 1) := by decide +kernel
theorem dX12_run_183 : decode cX12_run 183 = .ok (.invokevirtual 508, 3) := by decide +kernel
theorem dX12_run_186 : decode cX12_run 186 = .ok (.goto (-38), 3) := by decide +kernel
theorem dX12_run_189 : decode cX12_run 189 = .ok (.aload_n 0, 1) := by decide +kernel
theorem dX12_run_190 : decode cX12_run 190 = .ok (.invokevirtual 511, 3) := by decide +kernel
theorem dX12_run_193 : decode cX12_run 193 = .ok (.goto (-45), 3) := by decide +kernel
theorem dX12_run_196 : decode cX12_run 196 = .ok (.aload_n 0, 1) := by decide +kernel
theorem dX12_run_197 : decode cX12_run 197 = .ok (.invokevirtual 369, 3) := by decide +kernel
theorem dX12_run_200 : decode cX12_run 200 = .ok (.aload_n 0, 1) := by decide +kernel
theorem dX12_run_201 : decode cX12_run 201 = .ok (.iconst (-1), 1) := by decide +kernel
theorem dX12_run_202 : decode cX12_run 202 = .ok (.putfield 172, 3) := by decide +kernel
theorem dX12_run_205 : decode cX12_run 205 = .ok (.aload_n 0, 1) := by decide +kernel
theorem dX12_run_206 : decode cX12_run 206 = .ok (.getfield 436, 3) := by decide +kernel
theorem dX12_run_209 : decode cX12_run 209 = .ok (.ireturn, 1) := by decide +kernel
theorem dX12_outcome_0 : decode cX12_outcome 0 = .ok (.aload_n 0, 1) := by decide +kernel
theorem dX12_outcome_1 : decode cX12_outcome 1 = .ok (.iconst 0, 1) := by decide +kernel
theorem dX12_outcome_2 : decode cX12_outcome 2 = .ok (.putfield 202, 3) := by decide +kernel
theorem dX12_outcome_5 : decode cX12_outcome 5 = .ok (.aload_n 0, 1) := by decide +kernel
theorem dX12_outcome_6 : decode cX12_outcome 6 = .ok (.getfield 168, 3) := by decide +kernel
theorem dX12_outcome_9 : decode cX12_outcome 9 = .ok (.ireturn, 1) := by decide +kernel
theorem dX12_resultKind_0 : decode cX12_resultKind 0 = .ok (.aload_n 0, 1) := by decide +kernel
theorem dX12_resultKind_1 : decode cX12_resultKind 1 = .ok (.aload_n 0, 1) := by decide +kernel
theorem dX12_resultKind_2 : decode cX12_resultKind 2 = .ok (.getfield 168, 3) := by decide +kernel
theorem dX12_resultKind_5 : decode cX12_resultKind 5 = .ok (.bipush 118, 2) := by decide +kernel
theorem dX12_resultKind_7 : decode cX12_resultKind 7 = .ok (.if_icmp .ne 7, 3) := by decide +kernel
theorem dX12_resultKind_10 : decode cX12_resultKind 10 = .ok (.iconst 0, 1) := by decide +kernel
theorem dX12_resultKind_11 : decode cX12_resultKind 11 = .ok (.goto 4, 3) := by decide +kernel
theorem dX12_resultKind_14 : decode cX12_resultKind 14 = .ok (.iconst 1, 1) := by decide +kernel
theorem dX12_resultKind_15 : decode cX12_resultKind 15 = .ok (.putfield 202, 3) := by decide +kernel
theorem dX12_resultKind_18 : decode cX12_resultKind 18 = .ok (.aload_n 0, 1) := by decide +kernel
theorem dX12_resultKind_19 : decode cX12_resultKind 19 = .ok (.getfield 202, 3) := by decide +kernel
theorem dX12_resultKind_22 : decode cX12_resultKind 22 = .ok (.ifCond .le 7, 3) := by decide +kernel
theorem dX12_resultKind_25 : decode cX12_resultKind 25 = .ok (.iconst 0, 1) := by decide +kernel
theorem dX12_resultKind_26 : decode cX12_resultKind 26 = .ok (.goto 7, 3) := by decide +kernel
theorem dX12_resultKind_29 : decode cX12_resultKind 29 = .ok (.aload_n 0, 1) := by decide +kernel
theorem dX12_resultKind_30 : decode cX12_resultKind 30 = .ok (.getfield 415, 3) := by decide +kernel
theorem dX12_resultKind_33 : decode cX12_resultKind 33 = .ok (.ireturn, 1) := by decide +kernel
theorem dX12_result_0 : decode cX12_result 0 = .ok (.aload_n 0, 1) := by decide +kernel
theorem dX12_result_1 : decode cX12_result 1 = .ok (.aload_n 0, 1) := by decide +kernel
theorem dX12_result_2 : decode cX12_result 2 = .ok (.getfield 168, 3) := by decide +kernel
theorem dX12_result_5 : decode cX12_result 5 = .ok (.bipush 118, 2) := by decide +kernel
theorem dX12_result_7 : decode cX12_result 7 = .ok (.if_icmp .ne 7, 3) := by decide +kernel
theorem dX12_result_10 : decode cX12_result 10 = .ok (.iconst 0, 1) := by decide +kernel
theorem dX12_result_11 : decode cX12_result 11 = .ok (.goto 4, 3) := by decide +kernel
theorem dX12_result_14 : decode cX12_result 14 = .ok (.iconst 1, 1) := by decide +kernel
theorem dX12_result_15 : decode cX12_result 15 = .ok (.putfield 202, 3) := by decide +kernel
theorem dX12_result_18 : decode cX12_result 18 = .ok (.aload_n 0, 1) := by decide +kernel
theorem dX12_result_19 : decode cX12_result 19 = .ok (.getfield 202, 3) := by decide +kernel
theorem dX12_result_22 : decode cX12_result 22 = .ok (.ifCond .le 7, 3) := by decide +kernel
theorem dX12_result_25 : decode cX12_result 25 = .ok (.lconst 0, 1) := by decide +kernel
theorem dX12_result_26 : decode cX12_result 26 = .ok (.goto 7, 3) := by decide +kernel
theorem dX12_result_29 : decode cX12_result 29 = .ok (.aload_n 0, 1) := by decide +kernel
theorem dX12_result_30 : decode cX12_result 30 = .ok (.getfield 422, 3) := by decide +kernel
theorem dX12_result_33 : decode cX12_result 33 = .ok (.lreturn, 1) := by decide +kernel
theorem dX12_failure_0 : decode cX12_failure 0 = .ok (.aload_n 0, 1) := by decide +kernel
theorem dX12_failure_1 : decode cX12_failure 1 = .ok (.aload_n 0, 1) := by decide +kernel
theorem dX12_failure_2 : decode cX12_failure 2 = .ok (.getfield 168, 3) := by decide +kernel
theorem dX12_failure_5 : decode cX12_failure 5 = .ok (.bipush 120, 2) := by decide +kernel
theorem dX12_failure_7 : decode cX12_failure 7 = .ok (.if_icmp .ne 7, 3) := by decide +kernel
theorem dX12_failure_10 : decode cX12_failure 10 = .ok (.iconst 0, 1) := by decide +kernel
theorem dX12_failure_11 : decode cX12_failure 11 = .ok (.goto 4, 3) := by decide +kernel
theorem dX12_failure_14 : decode cX12_failure 14 = .ok (.iconst 1, 1) := by decide +kernel
theorem dX12_failure_15 : decode cX12_failure 15 = .ok (.putfield 202, 3) := by decide +kernel
theorem dX12_failure_18 : decode cX12_failure 18 = .ok (.aload_n 0, 1) := by decide +kernel
theorem dX12_failure_19 : decode cX12_failure 19 = .ok (.getfield 202, 3) := by decide +kernel
theorem dX12_failure_22 : decode cX12_failure 22 = .ok (.ifCond .le 7, 3) := by decide +kernel
theorem dX12_failure_25 : decode cX12_failure 25 = .ok (.iconst 0, 1) := by decide +kernel
theorem dX12_failure_26 : decode cX12_failure 26 = .ok (.goto 7, 3) := by decide +kernel
theorem dX12_failure_29 : decode cX12_failure 29 = .ok (.aload_n 0, 1) := by decide +kernel
theorem dX12_failure_30 : decode cX12_failure 30 = .ok (.getfield 460, 3) := by decide +kernel
theorem dX12_failure_33 : decode cX12_failure 33 = .ok (.ireturn, 1) := by decide +kernel
theorem dX12_line_0 : decode cX12_line 0 = .ok (.aload_n 0, 1) := by decide +kernel
theorem dX12_line_1 : decode cX12_line 1 = .ok (.iconst 0, 1) := by decide +kernel
theorem dX12_line_2 : decode cX12_line 2 = .ok (.putfield 202, 3) := by decide +kernel
theorem dX12_line_5 : decode cX12_line 5 = .ok (.aload_n 0, 1) := by decide +kernel
theorem dX12_line_6 : decode cX12_line 6 = .ok (.getfield 168, 3) := by decide +kernel
theorem dX12_line_9 : decode cX12_line 9 = .ok (.bipush 120, 2) := by decide +kernel
theorem dX12_line_11 : decode cX12_line 11 = .ok (.if_icmp .ne 10, 3) := by decide +kernel
theorem dX12_line_14 : decode cX12_line 14 = .ok (.aload_n 0, 1) := by decide +kernel
theorem dX12_line_15 : decode cX12_line 15 = .ok (.getfield 463, 3) := by decide +kernel
theorem dX12_line_18 : decode cX12_line 18 = .ok (.goto 8, 3) := by decide +kernel
theorem dX12_line_21 : decode cX12_line 21 = .ok (.aload_n 0, 1) := by decide +kernel
theorem dX12_line_22 : decode cX12_line 22 = .ok (.iconst 1, 1) := by decide +kernel
theorem dX12_line_23 : decode cX12_line 23 = .ok (.invokevirtual 212, 3) := by decide +kernel
theorem dX12_line_26 : decode cX12_line 26 = .ok (.ireturn, 1) := by decide +kernel
theorem dX12_told__0 : decode cX12_told_ 0 = .ok (.aload_n 0, 1) := by decide +kernel
theorem dX12_told__1 : decode cX12_told_ 1 = .ok (.iconst 0, 1) := by decide +kernel
theorem dX12_told__2 : decode cX12_told_ 2 = .ok (.putfield 202, 3) := by decide +kernel
theorem dX12_told__5 : decode cX12_told_ 5 = .ok (.aload_n 0, 1) := by decide +kernel
theorem dX12_told__6 : decode cX12_told_ 6 = .ok (.getfield 426, 3) := by decide +kernel
theorem dX12_told__9 : decode cX12_told_ 9 = .ok (.ireturn, 1) := by decide +kernel
theorem dX12_toldKind_0 : decode cX12_toldKind 0 = .ok (.aload_n 0, 1) := by decide +kernel
theorem dX12_toldKind_1 : decode cX12_toldKind 1 = .ok (.iload_n 1, 1) := by decide +kernel
theorem dX12_toldKind_2 : decode cX12_toldKind 2 = .ok (.iconst 0, 1) := by decide +kernel
theorem dX12_toldKind_3 : decode cX12_toldKind 3 = .ok (.aload_n 0, 1) := by decide +kernel
theorem dX12_toldKind_4 : decode cX12_toldKind 4 = .ok (.getfield 426, 3) := by decide +kernel
theorem dX12_toldKind_7 : decode cX12_toldKind 7 = .ok (.iconst 1, 1) := by decide +kernel
theorem dX12_toldKind_8 : decode cX12_toldKind 8 = .ok (.isub, 1) := by decide +kernel
theorem dX12_toldKind_9 : decode cX12_toldKind 9 = .ok (.invokestatic 208, 3) := by decide +kernel
theorem dX12_toldKind_12 : decode cX12_toldKind 12 = .ok (.ifCond .eq 7, 3) := by decide +kernel
theorem dX12_toldKind_15 : decode cX12_toldKind 15 = .ok (.iconst 0, 1) := by decide +kernel
theorem dX12_toldKind_16 : decode cX12_toldKind 16 = .ok (.goto 4, 3) := by decide +kernel
theorem dX12_toldKind_19 : decode cX12_toldKind 19 = .ok (.iconst 1, 1) := by decide +kernel
theorem dX12_toldKind_20 : decode cX12_toldKind 20 = .ok (.putfield 202, 3) := by decide +kernel
theorem dX12_toldKind_23 : decode cX12_toldKind 23 = .ok (.aload_n 0, 1) := by decide +kernel
theorem dX12_toldKind_24 : decode cX12_toldKind 24 = .ok (.getfield 202, 3) := by decide +kernel
theorem dX12_toldKind_27 : decode cX12_toldKind 27 = .ok (.ifCond .le 7, 3) := by decide +kernel
theorem dX12_toldKind_30 : decode cX12_toldKind 30 = .ok (.iconst 0, 1) := by decide +kernel
theorem dX12_toldKind_31 : decode cX12_toldKind 31 = .ok (.goto 9, 3) := by decide +kernel
theorem dX12_toldKind_34 : decode cX12_toldKind 34 = .ok (.aload_n 0, 1) := by decide +kernel
theorem dX12_toldKind_35 : decode cX12_toldKind 35 = .ok (.getfield 161, 3) := by decide +kernel
theorem dX12_toldKind_38 : decode cX12_toldKind 38 = .ok (.iload_n 1, 1) := by decide +kernel
theorem dX12_toldKind_39 : decode cX12_toldKind 39 = .ok (.caload, 1) := by decide +kernel
theorem dX12_toldKind_40 : decode cX12_toldKind 40 = .ok (.ireturn, 1) := by decide +kernel
theorem dX12_toldAt_0 : decode cX12_toldAt 0 = .ok (.aload_n 0, 1) := by decide +kernel
theorem dX12_toldAt_1 : decode cX12_toldAt 1 = .ok (.iload_n 1, 1) := by decide +kernel
theorem dX12_toldAt_2 : decode cX12_toldAt 2 = .ok (.iconst 0, 1) := by decide +kernel
theorem dX12_toldAt_3 : decode cX12_toldAt 3 = .ok (.aload_n 0, 1) := by decide +kernel
theorem dX12_toldAt_4 : decode cX12_toldAt 4 = .ok (.getfield 426, 3) := by decide +kernel
theorem dX12_toldAt_7 : decode cX12_toldAt 7 = .ok (.iconst 1, 1) := by decide +kernel
theorem dX12_toldAt_8 : decode cX12_toldAt 8 = .ok (.isub, 1) := by decide +kernel
theorem dX12_toldAt_9 : decode cX12_toldAt 9 = .ok (.invokestatic 208, 3) := by decide +kernel
theorem dX12_toldAt_12 : decode cX12_toldAt 12 = .ok (.ifCond .eq 7, 3) := by decide +kernel
theorem dX12_toldAt_15 : decode cX12_toldAt 15 = .ok (.iconst 0, 1) := by decide +kernel
theorem dX12_toldAt_16 : decode cX12_toldAt 16 = .ok (.goto 4, 3) := by decide +kernel
theorem dX12_toldAt_19 : decode cX12_toldAt 19 = .ok (.iconst 1, 1) := by decide +kernel
theorem dX12_toldAt_20 : decode cX12_toldAt 20 = .ok (.putfield 202, 3) := by decide +kernel
theorem dX12_toldAt_23 : decode cX12_toldAt 23 = .ok (.aload_n 0, 1) := by decide +kernel
theorem dX12_toldAt_24 : decode cX12_toldAt 24 = .ok (.getfield 202, 3) := by decide +kernel
theorem dX12_toldAt_27 : decode cX12_toldAt 27 = .ok (.ifCond .le 7, 3) := by decide +kernel
theorem dX12_toldAt_30 : decode cX12_toldAt 30 = .ok (.lconst 0, 1) := by decide +kernel
theorem dX12_toldAt_31 : decode cX12_toldAt 31 = .ok (.goto 9, 3) := by decide +kernel
theorem dX12_toldAt_34 : decode cX12_toldAt 34 = .ok (.aload_n 0, 1) := by decide +kernel
theorem dX12_toldAt_35 : decode cX12_toldAt 35 = .ok (.getfield 164, 3) := by decide +kernel
theorem dX12_toldAt_38 : decode cX12_toldAt 38 = .ok (.iload_n 1, 1) := by decide +kernel
theorem dX12_toldAt_39 : decode cX12_toldAt 39 = .ok (.laload, 1) := by decide +kernel
theorem dX12_toldAt_40 : decode cX12_toldAt 40 = .ok (.lreturn, 1) := by decide +kernel
theorem dX12_objects_0 : decode cX12_objects 0 = .ok (.aload_n 0, 1) := by decide +kernel
theorem dX12_objects_1 : decode cX12_objects 1 = .ok (.iconst 0, 1) := by decide +kernel
theorem dX12_objects_2 : decode cX12_objects 2 = .ok (.putfield 202, 3) := by decide +kernel
theorem dX12_objects_5 : decode cX12_objects 5 = .ok (.aload_n 0, 1) := by decide +kernel
theorem dX12_objects_6 : decode cX12_objects 6 = .ok (.getfield 398, 3) := by decide +kernel
theorem dX12_objects_9 : decode cX12_objects 9 = .ok (.ireturn, 1) := by decide +kernel
theorem dX12_shapeOf_0 : decode cX12_shapeOf 0 = .ok (.aload_n 0, 1) := by decide +kernel
theorem dX12_shapeOf_1 : decode cX12_shapeOf 1 = .ok (.iconst 0, 1) := by decide +kernel
theorem dX12_shapeOf_2 : decode cX12_shapeOf 2 = .ok (.putfield 202, 3) := by decide +kernel
theorem dX12_shapeOf_5 : decode cX12_shapeOf 5 = .ok (.iload_n 1, 1) := by decide +kernel
theorem dX12_shapeOf_6 : decode cX12_shapeOf 6 = .ok (.iconst 0, 1) := by decide +kernel
theorem dX12_shapeOf_7 : decode cX12_shapeOf 7 = .ok (.aload_n 0, 1) := by decide +kernel
theorem dX12_shapeOf_8 : decode cX12_shapeOf 8 = .ok (.getfield 398, 3) := by decide +kernel
theorem dX12_shapeOf_11 : decode cX12_shapeOf 11 = .ok (.iconst 1, 1) := by decide +kernel
theorem dX12_shapeOf_12 : decode cX12_shapeOf 12 = .ok (.isub, 1) := by decide +kernel
theorem dX12_shapeOf_13 : decode cX12_shapeOf 13 = .ok (.invokestatic 208, 3) := by decide +kernel
theorem dX12_shapeOf_16 : decode cX12_shapeOf 16 = .ok (.ifCond .eq 12, 3) := by decide +kernel
theorem dX12_shapeOf_19 : decode cX12_shapeOf 19 = .ok (.aload_n 0, 1) := by decide +kernel
theorem dX12_shapeOf_20 : decode cX12_shapeOf 20 = .ok (.getfield 149, 3) := by decide +kernel
theorem dX12_shapeOf_23 : decode cX12_shapeOf 23 = .ok (.iload_n 1, 1) := by decide +kernel
theorem dX12_shapeOf_24 : decode cX12_shapeOf 24 = .ok (.iaload, 1) := by decide +kernel
theorem dX12_shapeOf_25 : decode cX12_shapeOf 25 = .ok (.goto 8, 3) := by decide +kernel
theorem dX12_shapeOf_28 : decode cX12_shapeOf 28 = .ok (.aload_n 0, 1) := by decide +kernel
theorem dX12_shapeOf_29 : decode cX12_shapeOf 29 = .ok (.iconst 1, 1) := by decide +kernel
theorem dX12_shapeOf_30 : decode cX12_shapeOf 30 = .ok (.invokevirtual 212, 3) := by decide +kernel
theorem dX12_shapeOf_33 : decode cX12_shapeOf 33 = .ok (.ireturn, 1) := by decide +kernel
theorem dX12_field_0 : decode cX12_field 0 = .ok (.aload_n 0, 1) := by decide +kernel
theorem dX12_field_1 : decode cX12_field 1 = .ok (.iload_n 1, 1) := by decide +kernel
theorem dX12_field_2 : decode cX12_field 2 = .ok (.iconst 0, 1) := by decide +kernel
theorem dX12_field_3 : decode cX12_field 3 = .ok (.aload_n 0, 1) := by decide +kernel
theorem dX12_field_4 : decode cX12_field 4 = .ok (.getfield 398, 3) := by decide +kernel
theorem dX12_field_7 : decode cX12_field 7 = .ok (.iconst 1, 1) := by decide +kernel
theorem dX12_field_8 : decode cX12_field 8 = .ok (.isub, 1) := by decide +kernel
theorem dX12_field_9 : decode cX12_field 9 = .ok (.invokestatic 208, 3) := by decide +kernel
theorem dX12_field_12 : decode cX12_field 12 = .ok (.ifCond .ne 7, 3) := by decide +kernel
theorem dX12_field_15 : decode cX12_field 15 = .ok (.iconst 1, 1) := by decide +kernel
theorem dX12_field_16 : decode cX12_field 16 = .ok (.goto 31, 3) := by decide +kernel
theorem dX12_field_19 : decode cX12_field 19 = .ok (.iload_n 2, 1) := by decide +kernel
theorem dX12_field_20 : decode cX12_field 20 = .ok (.iconst 0, 1) := by decide +kernel
theorem dX12_field_21 : decode cX12_field 21 = .ok (.iconst 5, 1) := by decide +kernel
theorem dX12_field_22 : decode cX12_field 22 = .ok (.invokestatic 208, 3) := by decide +kernel
theorem dX12_field_25 : decode cX12_field 25 = .ok (.ifCond .eq 17, 3) := by decide +kernel
theorem dX12_field_28 : decode cX12_field 28 = .ok (.aload_n 0, 1) := by decide +kernel
theorem dX12_field_29 : decode cX12_field 29 = .ok (.aload_n 0, 1) := by decide +kernel
theorem dX12_field_30 : decode cX12_field 30 = .ok (.getfield 149, 3) := by decide +kernel
theorem dX12_field_33 : decode cX12_field 33 = .ok (.iload_n 1, 1) := by decide +kernel
theorem dX12_field_34 : decode cX12_field 34 = .ok (.iaload, 1) := by decide +kernel
theorem dX12_field_35 : decode cX12_field 35 = .ok (.iload_n 2, 1) := by decide +kernel
theorem dX12_field_36 : decode cX12_field 36 = .ok (.invokevirtual 252, 3) := by decide +kernel
theorem dX12_field_39 : decode cX12_field 39 = .ok (.ifCond .ne 7, 3) := by decide +kernel
theorem dX12_field_42 : decode cX12_field 42 = .ok (.iconst 2, 1) := by decide +kernel
theorem dX12_field_43 : decode cX12_field 43 = .ok (.goto 4, 3) := by decide +kernel
theorem dX12_field_46 : decode cX12_field 46 = .ok (.iconst 0, 1) := by decide +kernel
theorem dX12_field_47 : decode cX12_field 47 = .ok (.putfield 202, 3) := by decide +kernel
theorem dX12_field_50 : decode cX12_field 50 = .ok (.aload_n 0, 1) := by decide +kernel
theorem dX12_field_51 : decode cX12_field 51 = .ok (.getfield 202, 3) := by decide +kernel
theorem dX12_field_54 : decode cX12_field 54 = .ok (.ifCond .le 7, 3) := by decide +kernel
theorem dX12_field_57 : decode cX12_field 57 = .ok (.lconst 0, 1) := by decide +kernel
theorem dX12_field_58 : decode cX12_field 58 = .ok (.goto 39, 3) := by decide +kernel
theorem dX12_field_61 : decode cX12_field 61 = .ok (.aload_n 0, 1) := by decide +kernel
theorem dX12_field_62 : decode cX12_field 62 = .ok (.getfield 152, 3) := by decide +kernel
theorem dX12_field_65 : decode cX12_field 65 = .ok (.bipush 6, 2) := by decide +kernel
theorem dX12_field_67 : decode cX12_field 67 = .ok (.iload_n 1, 1) := by decide +kernel
theorem dX12_field_68 : decode cX12_field 68 = .ok (.imul, 1) := by decide +kernel
theorem dX12_field_69 : decode cX12_field 69 = .ok (.iload_n 2, 1) := by decide +kernel
theorem dX12_field_70 : decode cX12_field 70 = .ok (.iadd, 1) := by decide +kernel
theorem dX12_field_71 : decode cX12_field 71 = .ok (.caload, 1) := by decide +kernel
theorem dX12_field_72 : decode cX12_field 72 = .ok (.aload_n 0, 1) := by decide +kernel
theorem dX12_field_73 : decode cX12_field 73 = .ok (.getfield 155, 3) := by decide +kernel
theorem dX12_field_76 : decode cX12_field 76 = .ok (.bipush 6, 2) := by decide +kernel
theorem dX12_field_78 : decode cX12_field 78 = .ok (.iload_n 1, 1) := by decide +kernel
theorem dX12_field_79 : decode cX12_field 79 = .ok (.imul, 1) := by decide +kernel
theorem dX12_field_80 : decode cX12_field 80 = .ok (.iload_n 2, 1) := by decide +kernel
theorem dX12_field_81 : decode cX12_field 81 = .ok (.iadd, 1) := by decide +kernel
theorem dX12_field_82 : decode cX12_field 82 = .ok (.iaload, 1) := by decide +kernel
theorem dX12_field_83 : decode cX12_field 83 = .ok (.aload_n 0, 1) := by decide +kernel
theorem dX12_field_84 : decode cX12_field 84 = .ok (.getfield 158, 3) := by decide +kernel
theorem dX12_field_87 : decode cX12_field 87 = .ok (.bipush 6, 2) := by decide +kernel
theorem dX12_field_89 : decode cX12_field 89 = .ok (.iload_n 1, 1) := by decide +kernel
theorem dX12_field_90 : decode cX12_field 90 = .ok (.imul, 1) := by decide +kernel
theorem dX12_field_91 : decode cX12_field 91 = .ok (.iload_n 2, 1) := by decide +kernel
theorem dX12_field_92 : decode cX12_field 92 = .ok (.iadd, 1) := by decide +kernel
theorem dX12_field_93 : decode cX12_field 93 = .ok (.daload, 1) := by decide +kernel
theorem dX12_field_94 : decode cX12_field 94 = .ok (.invokestatic 418, 3) := by decide +kernel
theorem dX12_field_97 : decode cX12_field 97 = .ok (.lreturn, 1) := by decide +kernel
theorem dX12_shapes_0 : decode cX12_shapes 0 = .ok (.aload_n 0, 1) := by decide +kernel
theorem dX12_shapes_1 : decode cX12_shapes 1 = .ok (.iconst 0, 1) := by decide +kernel
theorem dX12_shapes_2 : decode cX12_shapes 2 = .ok (.putfield 202, 3) := by decide +kernel
theorem dX12_shapes_5 : decode cX12_shapes 5 = .ok (.aload_n 0, 1) := by decide +kernel
theorem dX12_shapes_6 : decode cX12_shapes 6 = .ok (.getfield 231, 3) := by decide +kernel
theorem dX12_shapes_9 : decode cX12_shapes 9 = .ok (.ireturn, 1) := by decide +kernel
theorem dX12_fields_0 : decode cX12_fields 0 = .ok (.aload_n 0, 1) := by decide +kernel
theorem dX12_fields_1 : decode cX12_fields 1 = .ok (.iconst 0, 1) := by decide +kernel
theorem dX12_fields_2 : decode cX12_fields 2 = .ok (.putfield 202, 3) := by decide +kernel
theorem dX12_fields_5 : decode cX12_fields 5 = .ok (.iload_n 1, 1) := by decide +kernel
theorem dX12_fields_6 : decode cX12_fields 6 = .ok (.iconst 0, 1) := by decide +kernel
theorem dX12_fields_7 : decode cX12_fields 7 = .ok (.aload_n 0, 1) := by decide +kernel
theorem dX12_fields_8 : decode cX12_fields 8 = .ok (.getfield 231, 3) := by decide +kernel
theorem dX12_fields_11 : decode cX12_fields 11 = .ok (.iconst 1, 1) := by decide +kernel
theorem dX12_fields_12 : decode cX12_fields 12 = .ok (.isub, 1) := by decide +kernel
theorem dX12_fields_13 : decode cX12_fields 13 = .ok (.invokestatic 208, 3) := by decide +kernel
theorem dX12_fields_16 : decode cX12_fields 16 = .ok (.ifCond .eq 12, 3) := by decide +kernel
theorem dX12_fields_19 : decode cX12_fields 19 = .ok (.aload_n 0, 1) := by decide +kernel
theorem dX12_fields_20 : decode cX12_fields 20 = .ok (.getfield 41, 3) := by decide +kernel
theorem dX12_fields_23 : decode cX12_fields 23 = .ok (.iload_n 1, 1) := by decide +kernel
theorem dX12_fields_24 : decode cX12_fields 24 = .ok (.iaload, 1) := by decide +kernel
theorem dX12_fields_25 : decode cX12_fields 25 = .ok (.goto 8, 3) := by decide +kernel
theorem dX12_fields_28 : decode cX12_fields 28 = .ok (.aload_n 0, 1) := by decide +kernel
theorem dX12_fields_29 : decode cX12_fields 29 = .ok (.iconst 1, 1) := by decide +kernel
theorem dX12_fields_30 : decode cX12_fields 30 = .ok (.invokevirtual 212, 3) := by decide +kernel
theorem dX12_fields_33 : decode cX12_fields 33 = .ok (.ireturn, 1) := by decide +kernel
theorem dX12_fieldAt_0 : decode cX12_fieldAt 0 = .ok (.aload_n 0, 1) := by decide +kernel
theorem dX12_fieldAt_1 : decode cX12_fieldAt 1 = .ok (.iconst 0, 1) := by decide +kernel
theorem dX12_fieldAt_2 : decode cX12_fieldAt 2 = .ok (.putfield 202, 3) := by decide +kernel
theorem dX12_fieldAt_5 : decode cX12_fieldAt 5 = .ok (.iload_n 1, 1) := by decide +kernel
theorem dX12_fieldAt_6 : decode cX12_fieldAt 6 = .ok (.iconst 0, 1) := by decide +kernel
theorem dX12_fieldAt_7 : decode cX12_fieldAt 7 = .ok (.aload_n 0, 1) := by decide +kernel
theorem dX12_fieldAt_8 : decode cX12_fieldAt 8 = .ok (.getfield 231, 3) := by decide +kernel
theorem dX12_fieldAt_11 : decode cX12_fieldAt 11 = .ok (.iconst 1, 1) := by decide +kernel
theorem dX12_fieldAt_12 : decode cX12_fieldAt 12 = .ok (.isub, 1) := by decide +kernel
theorem dX12_fieldAt_13 : decode cX12_fieldAt 13 = .ok (.invokestatic 208, 3) := by decide +kernel
theorem dX12_fieldAt_16 : decode cX12_fieldAt 16 = .ok (.ifCond .ne 9, 3) := by decide +kernel
theorem dX12_fieldAt_19 : decode cX12_fieldAt 19 = .ok (.aload_n 0, 1) := by decide +kernel
theorem dX12_fieldAt_20 : decode cX12_fieldAt 20 = .ok (.iconst 1, 1) := by decide +kernel
theorem dX12_fieldAt_21 : decode cX12_fieldAt 21 = .ok (.invokevirtual 212, 3) := by decide +kernel
theorem dX12_fieldAt_24 : decode cX12_fieldAt 24 = .ok (.ireturn, 1) := by decide +kernel
theorem dX12_fieldAt_25 : decode cX12_fieldAt 25 = .ok (.iload_n 2, 1) := by decide +kernel
theorem dX12_fieldAt_26 : decode cX12_fieldAt 26 = .ok (.iconst 0, 1) := by decide +kernel
theorem dX12_fieldAt_27 : decode cX12_fieldAt 27 = .ok (.aload_n 0, 1) := by decide +kernel
theorem dX12_fieldAt_28 : decode cX12_fieldAt 28 = .ok (.getfield 41, 3) := by decide +kernel
theorem dX12_fieldAt_31 : decode cX12_fieldAt 31 = .ok (.iload_n 1, 1) := by decide +kernel
theorem dX12_fieldAt_32 : decode cX12_fieldAt 32 = .ok (.iaload, 1) := by decide +kernel
theorem dX12_fieldAt_33 : decode cX12_fieldAt 33 = .ok (.iconst 1, 1) := by decide +kernel
theorem dX12_fieldAt_34 : decode cX12_fieldAt 34 = .ok (.isub, 1) := by decide +kernel
theorem dX12_fieldAt_35 : decode cX12_fieldAt 35 = .ok (.invokestatic 208, 3) := by decide +kernel
theorem dX12_fieldAt_38 : decode cX12_fieldAt 38 = .ok (.ifCond .eq 17, 3) := by decide +kernel
theorem dX12_fieldAt_41 : decode cX12_fieldAt 41 = .ok (.aload_n 0, 1) := by decide +kernel
theorem dX12_fieldAt_42 : decode cX12_fieldAt 42 = .ok (.getfield 44, 3) := by decide +kernel
theorem dX12_fieldAt_45 : decode cX12_fieldAt 45 = .ok (.bipush 6, 2) := by decide +kernel
theorem dX12_fieldAt_47 : decode cX12_fieldAt 47 = .ok (.iload_n 1, 1) := by decide +kernel
theorem dX12_fieldAt_48 : decode cX12_fieldAt 48 = .ok (.imul, 1) := by decide +kernel
theorem dX12_fieldAt_49 : decode cX12_fieldAt 49 = .ok (.iload_n 2, 1) := by decide +kernel
theorem dX12_fieldAt_50 : decode cX12_fieldAt 50 = .ok (.iadd, 1) := by decide +kernel
theorem dX12_fieldAt_51 : decode cX12_fieldAt 51 = .ok (.iaload, 1) := by decide +kernel
theorem dX12_fieldAt_52 : decode cX12_fieldAt 52 = .ok (.goto 8, 3) := by decide +kernel
theorem dX12_fieldAt_55 : decode cX12_fieldAt 55 = .ok (.aload_n 0, 1) := by decide +kernel
theorem dX12_fieldAt_56 : decode cX12_fieldAt 56 = .ok (.iconst 2, 1) := by decide +kernel
theorem dX12_fieldAt_57 : decode cX12_fieldAt 57 = .ok (.invokevirtual 212, 3) := by decide +kernel
theorem dX12_fieldAt_60 : decode cX12_fieldAt 60 = .ok (.ireturn, 1) := by decide +kernel
theorem dX12_nextShape_0 : decode cX12_nextShape 0 = .ok (.aload_n 0, 1) := by decide +kernel
theorem dX12_nextShape_1 : decode cX12_nextShape 1 = .ok (.iconst 0, 1) := by decide +kernel
theorem dX12_nextShape_2 : decode cX12_nextShape 2 = .ok (.putfield 202, 3) := by decide +kernel
theorem dX12_nextShape_5 : decode cX12_nextShape 5 = .ok (.iload_n 1, 1) := by decide +kernel
theorem dX12_nextShape_6 : decode cX12_nextShape 6 = .ok (.iconst 0, 1) := by decide +kernel
theorem dX12_nextShape_7 : decode cX12_nextShape 7 = .ok (.aload_n 0, 1) := by decide +kernel
theorem dX12_nextShape_8 : decode cX12_nextShape 8 = .ok (.getfield 231, 3) := by decide +kernel
theorem dX12_nextShape_11 : decode cX12_nextShape 11 = .ok (.iconst 1, 1) := by decide +kernel
theorem dX12_nextShape_12 : decode cX12_nextShape 12 = .ok (.isub, 1) := by decide +kernel
theorem dX12_nextShape_13 : decode cX12_nextShape 13 = .ok (.invokestatic 208, 3) := by decide +kernel
theorem dX12_nextShape_16 : decode cX12_nextShape 16 = .ok (.ifCond .ne 9, 3) := by decide +kernel
theorem dX12_nextShape_19 : decode cX12_nextShape 19 = .ok (.aload_n 0, 1) := by decide +kernel
theorem dX12_nextShape_20 : decode cX12_nextShape 20 = .ok (.iconst 1, 1) := by decide +kernel
theorem dX12_nextShape_21 : decode cX12_nextShape 21 = .ok (.invokevirtual 212, 3) := by decide +kernel
theorem dX12_nextShape_24 : decode cX12_nextShape 24 = .ok (.ireturn, 1) := by decide +kernel
theorem dX12_nextShape_25 : decode cX12_nextShape 25 = .ok (.iload_n 2, 1) := by decide +kernel
theorem dX12_nextShape_26 : decode cX12_nextShape 26 = .ok (.iconst 0, 1) := by decide +kernel
theorem dX12_nextShape_27 : decode cX12_nextShape 27 = .ok (.iconst 5, 1) := by decide +kernel
theorem dX12_nextShape_28 : decode cX12_nextShape 28 = .ok (.invokestatic 208, 3) := by decide +kernel
theorem dX12_nextShape_31 : decode cX12_nextShape 31 = .ok (.ifCond .eq 32, 3) := by decide +kernel
theorem dX12_nextShape_34 : decode cX12_nextShape 34 = .ok (.aload_n 0, 1) := by decide +kernel
theorem dX12_nextShape_35 : decode cX12_nextShape 35 = .ok (.getfield 47, 3) := by decide +kernel
theorem dX12_nextShape_38 : decode cX12_nextShape 38 = .ok (.bipush 6, 2) := by decide +kernel
theorem dX12_nextShape_40 : decode cX12_nextShape 40 = .ok (.iload_n 1, 1) := by decide +kernel
theorem dX12_nextShape_41 : decode cX12_nextShape 41 = .ok (.imul, 1) := by decide +kernel
theorem dX12_nextShape_42 : decode cX12_nextShape 42 = .ok (.iload_n 2, 1) := by decide +kernel
theorem dX12_nextShape_43 : decode cX12_nextShape 43 = .ok (.iadd, 1) := by decide +kernel
theorem dX12_nextShape_44 : decode cX12_nextShape 44 = .ok (.iaload, 1) := by decide +kernel
theorem dX12_nextShape_45 : decode cX12_nextShape 45 = .ok (.iconst (-1), 1) := by decide +kernel
theorem dX12_nextShape_46 : decode cX12_nextShape 46 = .ok (.if_icmp .eq 17, 3) := by decide +kernel
theorem dX12_nextShape_49 : decode cX12_nextShape 49 = .ok (.aload_n 0, 1) := by decide +kernel
theorem dX12_nextShape_50 : decode cX12_nextShape 50 = .ok (.getfield 47, 3) := by decide +kernel
theorem dX12_nextShape_53 : decode cX12_nextShape 53 = .ok (.bipush 6, 2) := by decide +kernel
theorem dX12_nextShape_55 : decode cX12_nextShape 55 = .ok (.iload_n 1, 1) := by decide +kernel
theorem dX12_nextShape_56 : decode cX12_nextShape 56 = .ok (.imul, 1) := by decide +kernel
theorem dX12_nextShape_57 : decode cX12_nextShape 57 = .ok (.iload_n 2, 1) := by decide +kernel
theorem dX12_nextShape_58 : decode cX12_nextShape 58 = .ok (.iadd, 1) := by decide +kernel
theorem dX12_nextShape_59 : decode cX12_nextShape 59 = .ok (.iaload, 1) := by decide +kernel
theorem dX12_nextShape_60 : decode cX12_nextShape 60 = .ok (.goto 8, 3) := by decide +kernel
theorem dX12_nextShape_63 : decode cX12_nextShape 63 = .ok (.aload_n 0, 1) := by decide +kernel
theorem dX12_nextShape_64 : decode cX12_nextShape 64 = .ok (.iconst 2, 1) := by decide +kernel
theorem dX12_nextShape_65 : decode cX12_nextShape 65 = .ok (.invokevirtual 212, 3) := by decide +kernel
theorem dX12_nextShape_68 : decode cX12_nextShape 68 = .ok (.ireturn, 1) := by decide +kernel
theorem dX12_cache_0 : decode cX12_cache 0 = .ok (.aload_n 0, 1) := by decide +kernel
theorem dX12_cache_1 : decode cX12_cache 1 = .ok (.iconst 0, 1) := by decide +kernel
theorem dX12_cache_2 : decode cX12_cache 2 = .ok (.putfield 202, 3) := by decide +kernel
theorem dX12_cache_5 : decode cX12_cache 5 = .ok (.aload_n 0, 1) := by decide +kernel
theorem dX12_cache_6 : decode cX12_cache 6 = .ok (.iload_n 1, 1) := by decide +kernel
theorem dX12_cache_7 : decode cX12_cache 7 = .ok (.invokevirtual 223, 3) := by decide +kernel
theorem dX12_cache_10 : decode cX12_cache 10 = .ok (.ifCond .ne 10, 3) := by decide +kernel
theorem dX12_cache_13 : decode cX12_cache 13 = .ok (.aload_n 0, 1) := by decide +kernel
theorem dX12_cache_14 : decode cX12_cache 14 = .ok (.iconst 1, 1) := by decide +kernel
theorem dX12_cache_15 : decode cX12_cache 15 = .ok (.putfield 202, 3) := by decide +kernel
theorem dX12_cache_18 : decode cX12_cache 18 = .ok (.iconst (-1), 1) := by decide +kernel
theorem dX12_cache_19 : decode cX12_cache 19 = .ok (.ireturn, 1) := by decide +kernel
theorem dX12_cache_20 : decode cX12_cache 20 = .ok (.iload_n 2, 1) := by decide +kernel
theorem dX12_cache_21 : decode cX12_cache 21 = .ok (.iconst 0, 1) := by decide +kernel
theorem dX12_cache_22 : decode cX12_cache 22 = .ok (.aload_n 0, 1) := by decide +kernel
theorem dX12_cache_23 : decode cX12_cache 23 = .ok (.getfield 13, 3) := by decide +kernel
theorem dX12_cache_26 : decode cX12_cache 26 = .ok (.iload_n 1, 1) := by decide +kernel
theorem dX12_cache_27 : decode cX12_cache 27 = .ok (.iaload, 1) := by decide +kernel
theorem dX12_cache_28 : decode cX12_cache 28 = .ok (.iconst 1, 1) := by decide +kernel
theorem dX12_cache_29 : decode cX12_cache 29 = .ok (.isub, 1) := by decide +kernel
theorem dX12_cache_30 : decode cX12_cache 30 = .ok (.invokestatic 208, 3) := by decide +kernel
theorem dX12_cache_33 : decode cX12_cache 33 = .ok (.ifCond .eq 17, 3) := by decide +kernel
theorem dX12_cache_36 : decode cX12_cache 36 = .ok (.aload_n 0, 1) := by decide +kernel
theorem dX12_cache_37 : decode cX12_cache 37 = .ok (.getfield 16, 3) := by decide +kernel
theorem dX12_cache_40 : decode cX12_cache 40 = .ok (.bipush 40, 2) := by decide +kernel
theorem dX12_cache_42 : decode cX12_cache 42 = .ok (.iload_n 1, 1) := by decide +kernel
theorem dX12_cache_43 : decode cX12_cache 43 = .ok (.imul, 1) := by decide +kernel
theorem dX12_cache_44 : decode cX12_cache 44 = .ok (.iload_n 2, 1) := by decide +kernel
theorem dX12_cache_45 : decode cX12_cache 45 = .ok (.iadd, 1) := by decide +kernel
theorem dX12_cache_46 : decode cX12_cache 46 = .ok (.caload, 1) := by decide +kernel
theorem dX12_cache_47 : decode cX12_cache 47 = .ok (.goto 5, 3) := by decide +kernel
theorem dX12_cache_50 : decode cX12_cache 50 = .ok (.bipush 32, 2) := by decide +kernel
theorem dX12_cache_52 : decode cX12_cache 52 = .ok (.istore_n 3, 1) := by decide +kernel
theorem dX12_cache_53 : decode cX12_cache 53 = .ok (.aload_n 0, 1) := by decide +kernel
theorem dX12_cache_54 : decode cX12_cache 54 = .ok (.iload_n 3, 1) := by decide +kernel
theorem dX12_cache_55 : decode cX12_cache 55 = .ok (.bipush 103, 2) := by decide +kernel
theorem dX12_cache_57 : decode cX12_cache 57 = .ok (.if_icmp .eq 15, 3) := by decide +kernel
theorem dX12_cache_60 : decode cX12_cache 60 = .ok (.iload_n 3, 1) := by decide +kernel
theorem dX12_cache_61 : decode cX12_cache 61 = .ok (.bipush 112, 2) := by decide +kernel
theorem dX12_cache_63 : decode cX12_cache 63 = .ok (.if_icmp .eq 9, 3) := by decide +kernel
theorem dX12_cache_66 : decode cX12_cache 66 = .ok (.iload_n 3, 1) := by decide +kernel
theorem dX12_cache_67 : decode cX12_cache 67 = .ok (.bipush 109, 2) := by decide +kernel
theorem dX12_cache_69 : decode cX12_cache 69 = .ok (.if_icmp .ne 7, 3) := by decide +kernel
theorem dX12_cache_72 : decode cX12_cache 72 = .ok (.iconst 0, 1) := by decide +kernel
theorem dX12_cache_73 : decode cX12_cache 73 = .ok (.goto 4, 3) := by decide +kernel
theorem dX12_cache_76 : decode cX12_cache 76 = .ok (.iconst 2, 1) := by decide +kernel
theorem dX12_cache_77 : decode cX12_cache 77 = .ok (.putfield 202, 3) := by decide +kernel
theorem dX12_cache_80 : decode cX12_cache 80 = .ok (.aload_n 0, 1) := by decide +kernel
theorem dX12_cache_81 : decode cX12_cache 81 = .ok (.getfield 202, 3) := by decide +kernel
theorem dX12_cache_84 : decode cX12_cache 84 = .ok (.ifCond .le 7, 3) := by decide +kernel
theorem dX12_cache_87 : decode cX12_cache 87 = .ok (.iconst (-1), 1) := by decide +kernel
theorem dX12_cache_88 : decode cX12_cache 88 = .ok (.goto 9, 3) := by decide +kernel
theorem dX12_cache_91 : decode cX12_cache 91 = .ok (.bipush 40, 2) := by decide +kernel
theorem dX12_cache_93 : decode cX12_cache 93 = .ok (.iload_n 1, 1) := by decide +kernel
theorem dX12_cache_94 : decode cX12_cache 94 = .ok (.imul, 1) := by decide +kernel
theorem dX12_cache_95 : decode cX12_cache 95 = .ok (.iload_n 2, 1) := by decide +kernel
theorem dX12_cache_96 : decode cX12_cache 96 = .ok (.iadd, 1) := by decide +kernel
theorem dX12_cache_97 : decode cX12_cache 97 = .ok (.ireturn, 1) := by decide +kernel
theorem dX12_cacheState_0 : decode cX12_cacheState 0 = .ok (.aload_n 0, 1) := by decide +kernel
theorem dX12_cacheState_1 : decode cX12_cacheState 1 = .ok (.iload_n 1, 1) := by decide +kernel
theorem dX12_cacheState_2 : decode cX12_cacheState 2 = .ok (.iload_n 2, 1) := by decide +kernel
theorem dX12_cacheState_3 : decode cX12_cacheState 3 = .ok (.invokevirtual 514, 3) := by decide +kernel
theorem dX12_cacheState_6 : decode cX12_cacheState 6 = .ok (.istore_n 3, 1) := by decide +kernel
theorem dX12_cacheState_7 : decode cX12_cacheState 7 = .ok (.iload_n 3, 1) := by decide +kernel
theorem dX12_cacheState_8 : decode cX12_cacheState 8 = .ok (.iconst (-1), 1) := by decide +kernel
theorem dX12_cacheState_9 : decode cX12_cacheState 9 = .ok (.if_icmp .ne 5, 3) := by decide +kernel
theorem dX12_cacheState_12 : decode cX12_cacheState 12 = .ok (.iconst 0, 1) := by decide +kernel
theorem dX12_cacheState_13 : decode cX12_cacheState 13 = .ok (.ireturn, 1) := by decide +kernel
theorem dX12_cacheState_14 : decode cX12_cacheState 14 = .ok (.aload_n 0, 1) := by decide +kernel
theorem dX12_cacheState_15 : decode cX12_cacheState 15 = .ok (.getfield 50, 3) := by decide +kernel
theorem dX12_cacheState_18 : decode cX12_cacheState 18 = .ok (.iload_n 3, 1) := by decide +kernel
theorem dX12_cacheState_19 : decode cX12_cacheState 19 = .ok (.iaload, 1) := by decide +kernel
theorem dX12_cacheState_20 : decode cX12_cacheState 20 = .ok (.iconst (-1), 1) := by decide +kernel
theorem dX12_cacheState_21 : decode cX12_cacheState 21 = .ok (.if_icmp .ne 8, 3) := by decide +kernel
theorem dX12_cacheState_24 : decode cX12_cacheState 24 = .ok (.bipush 120, 2) := by decide +kernel
theorem dX12_cacheState_26 : decode cX12_cacheState 26 = .ok (.goto 27, 3) := by decide +kernel
theorem dX12_cacheState_29 : decode cX12_cacheState 29 = .ok (.aload_n 0, 1) := by decide +kernel
theorem dX12_cacheState_30 : decode cX12_cacheState 30 = .ok (.getfield 50, 3) := by decide +kernel
theorem dX12_cacheState_33 : decode cX12_cacheState 33 = .ok (.iload_n 3, 1) := by decide +kernel
theorem dX12_cacheState_34 : decode cX12_cacheState 34 = .ok (.iaload, 1) := by decide +kernel
theorem dX12_cacheState_35 : decode cX12_cacheState 35 = .ok (.ifCond .ne 8, 3) := by decide +kernel
theorem dX12_cacheState_38 : decode cX12_cacheState 38 = .ok (.bipush 101, 2) := by decide +kernel
theorem dX12_cacheState_40 : decode cX12_cacheState 40 = .ok (.goto 13, 3) := by decide +kernel
theorem dX12_cacheState_43 : decode cX12_cacheState 43 = .ok (.bipush 48, 2) := by decide +kernel
theorem dX12_cacheState_45 : decode cX12_cacheState 45 = .ok (.aload_n 0, 1) := by decide +kernel
theorem dX12_cacheState_46 : decode cX12_cacheState 46 = .ok (.getfield 50, 3) := by decide +kernel
theorem dX12_cacheState_49 : decode cX12_cacheState 49 = .ok (.iload_n 3, 1) := by decide +kernel
theorem dX12_cacheState_50 : decode cX12_cacheState 50 = .ok (.iaload, 1) := by decide +kernel
theorem dX12_cacheState_51 : decode cX12_cacheState 51 = .ok (.iadd, 1) := by decide +kernel
theorem dX12_cacheState_52 : decode cX12_cacheState 52 = .ok (.i2c, 1) := by decide +kernel
theorem dX12_cacheState_53 : decode cX12_cacheState 53 = .ok (.ireturn, 1) := by decide +kernel
theorem dX12_hits_0 : decode cX12_hits 0 = .ok (.aload_n 0, 1) := by decide +kernel
theorem dX12_hits_1 : decode cX12_hits 1 = .ok (.iload_n 1, 1) := by decide +kernel
theorem dX12_hits_2 : decode cX12_hits 2 = .ok (.iload_n 2, 1) := by decide +kernel
theorem dX12_hits_3 : decode cX12_hits 3 = .ok (.invokevirtual 514, 3) := by decide +kernel
theorem dX12_hits_6 : decode cX12_hits 6 = .ok (.istore_n 3, 1) := by decide +kernel
theorem dX12_hits_7 : decode cX12_hits 7 = .ok (.iload_n 3, 1) := by decide +kernel
theorem dX12_hits_8 : decode cX12_hits 8 = .ok (.iconst (-1), 1) := by decide +kernel
theorem dX12_hits_9 : decode cX12_hits 9 = .ok (.if_icmp .ne 7, 3) := by decide +kernel
theorem dX12_hits_12 : decode cX12_hits 12 = .ok (.iconst 0, 1) := by decide +kernel
theorem dX12_hits_13 : decode cX12_hits 13 = .ok (.goto 9, 3) := by decide +kernel
theorem dX12_hits_16 : decode cX12_hits 16 = .ok (.aload_n 0, 1) := by decide +kernel
theorem dX12_hits_17 : decode cX12_hits 17 = .ok (.getfield 56, 3) := by decide +kernel
theorem dX12_hits_20 : decode cX12_hits 20 = .ok (.iload_n 3, 1) := by decide +kernel
theorem dX12_hits_21 : decode cX12_hits 21 = .ok (.iaload, 1) := by decide +kernel
theorem dX12_hits_22 : decode cX12_hits 22 = .ok (.ireturn, 1) := by decide +kernel
theorem dX12_misses_0 : decode cX12_misses 0 = .ok (.aload_n 0, 1) := by decide +kernel
theorem dX12_misses_1 : decode cX12_misses 1 = .ok (.iload_n 1, 1) := by decide +kernel
theorem dX12_misses_2 : decode cX12_misses 2 = .ok (.iload_n 2, 1) := by decide +kernel
theorem dX12_misses_3 : decode cX12_misses 3 = .ok (.invokevirtual 514, 3) := by decide +kernel
theorem dX12_misses_6 : decode cX12_misses 6 = .ok (.istore_n 3, 1) := by decide +kernel
theorem dX12_misses_7 : decode cX12_misses 7 = .ok (.iload_n 3, 1) := by decide +kernel
theorem dX12_misses_8 : decode cX12_misses 8 = .ok (.iconst (-1), 1) := by decide +kernel
theorem dX12_misses_9 : decode cX12_misses 9 = .ok (.if_icmp .ne 7, 3) := by decide +kernel
theorem dX12_misses_12 : decode cX12_misses 12 = .ok (.iconst 0, 1) := by decide +kernel
theorem dX12_misses_13 : decode cX12_misses 13 = .ok (.goto 9, 3) := by decide +kernel
theorem dX12_misses_16 : decode cX12_misses 16 = .ok (.aload_n 0, 1) := by decide +kernel
theorem dX12_misses_17 : decode cX12_misses 17 = .ok (.getfield 59, 3) := by decide +kernel
theorem dX12_misses_20 : decode cX12_misses 20 = .ok (.iload_n 3, 1) := by decide +kernel
theorem dX12_misses_21 : decode cX12_misses 21 = .ok (.iaload, 1) := by decide +kernel
theorem dX12_misses_22 : decode cX12_misses 22 = .ok (.ireturn, 1) := by decide +kernel
theorem dX12_isHead_0 : decode cX12_isHead 0 = .ok (.aload_n 0, 1) := by decide +kernel
theorem dX12_isHead_1 : decode cX12_isHead 1 = .ok (.aload_n 0, 1) := by decide +kernel
theorem dX12_isHead_2 : decode cX12_isHead 2 = .ok (.iload_n 1, 1) := by decide +kernel
theorem dX12_isHead_3 : decode cX12_isHead 3 = .ok (.invokevirtual 223, 3) := by decide +kernel
theorem dX12_isHead_6 : decode cX12_isHead 6 = .ok (.ifCond .ne 7, 3) := by decide +kernel
theorem dX12_isHead_9 : decode cX12_isHead 9 = .ok (.iconst 1, 1) := by decide +kernel
theorem dX12_isHead_10 : decode cX12_isHead 10 = .ok (.goto 18, 3) := by decide +kernel
theorem dX12_isHead_13 : decode cX12_isHead 13 = .ok (.iload_n 2, 1) := by decide +kernel
theorem dX12_isHead_14 : decode cX12_isHead 14 = .ok (.iconst 0, 1) := by decide +kernel
theorem dX12_isHead_15 : decode cX12_isHead 15 = .ok (.bipush 39, 2) := by decide +kernel
theorem dX12_isHead_17 : decode cX12_isHead 17 = .ok (.invokestatic 208, 3) := by decide +kernel
theorem dX12_isHead_20 : decode cX12_isHead 20 = .ok (.ifCond .ne 7, 3) := by decide +kernel
theorem dX12_isHead_23 : decode cX12_isHead 23 = .ok (.iconst 2, 1) := by decide +kernel
theorem dX12_isHead_24 : decode cX12_isHead 24 = .ok (.goto 4, 3) := by decide +kernel
theorem dX12_isHead_27 : decode cX12_isHead 27 = .ok (.iconst 0, 1) := by decide +kernel
theorem dX12_isHead_28 : decode cX12_isHead 28 = .ok (.putfield 202, 3) := by decide +kernel
theorem dX12_isHead_31 : decode cX12_isHead 31 = .ok (.aload_n 0, 1) := by decide +kernel
theorem dX12_isHead_32 : decode cX12_isHead 32 = .ok (.getfield 202, 3) := by decide +kernel
theorem dX12_isHead_35 : decode cX12_isHead 35 = .ok (.ifCond .ne 7, 3) := by decide +kernel
theorem dX12_isHead_38 : decode cX12_isHead 38 = .ok (.iconst 1, 1) := by decide +kernel
theorem dX12_isHead_39 : decode cX12_isHead 39 = .ok (.goto 4, 3) := by decide +kernel
theorem dX12_isHead_42 : decode cX12_isHead 42 = .ok (.iconst 0, 1) := by decide +kernel
theorem dX12_isHead_43 : decode cX12_isHead 43 = .ok (.ireturn, 1) := by decide +kernel
theorem dX12_counter_0 : decode cX12_counter 0 = .ok (.aload_n 0, 1) := by decide +kernel
theorem dX12_counter_1 : decode cX12_counter 1 = .ok (.iload_n 1, 1) := by decide +kernel
theorem dX12_counter_2 : decode cX12_counter 2 = .ok (.iload_n 2, 1) := by decide +kernel
theorem dX12_counter_3 : decode cX12_counter 3 = .ok (.invokevirtual 517, 3) := by decide +kernel
theorem dX12_counter_6 : decode cX12_counter 6 = .ok (.ifCond .eq 17, 3) := by decide +kernel
theorem dX12_counter_9 : decode cX12_counter 9 = .ok (.aload_n 0, 1) := by decide +kernel
theorem dX12_counter_10 : decode cX12_counter 10 = .ok (.getfield 62, 3) := by decide +kernel
theorem dX12_counter_13 : decode cX12_counter 13 = .ok (.bipush 40, 2) := by decide +kernel
theorem dX12_counter_15 : decode cX12_counter 15 = .ok (.iload_n 1, 1) := by decide +kernel
theorem dX12_counter_16 : decode cX12_counter 16 = .ok (.imul, 1) := by decide +kernel
theorem dX12_counter_17 : decode cX12_counter 17 = .ok (.iload_n 2, 1) := by decide +kernel
theorem dX12_counter_18 : decode cX12_counter 18 = .ok (.iadd, 1) := by decide +kernel
theorem dX12_counter_19 : decode cX12_counter 19 = .ok (.iaload, 1) := by decide +kernel
theorem dX12_counter_20 : decode cX12_counter 20 = .ok (.goto 4, 3) := by decide +kernel
theorem dX12_counter_23 : decode cX12_counter 23 = .ok (.iconst 0, 1) := by decide +kernel
theorem dX12_counter_24 : decode cX12_counter 24 = .ok (.ireturn, 1) := by decide +kernel
theorem dX12_isBarred_0 : decode cX12_isBarred 0 = .ok (.aload_n 0, 1) := by decide +kernel
theorem dX12_isBarred_1 : decode cX12_isBarred 1 = .ok (.iload_n 1, 1) := by decide +kernel
theorem dX12_isBarred_2 : decode cX12_isBarred 2 = .ok (.iload_n 2, 1) := by decide +kernel
theorem dX12_isBarred_3 : decode cX12_isBarred 3 = .ok (.invokevirtual 517, 3) := by decide +kernel
theorem dX12_isBarred_6 : decode cX12_isBarred 6 = .ok (.ifCond .eq 22, 3) := by decide +kernel
theorem dX12_isBarred_9 : decode cX12_isBarred 9 = .ok (.aload_n 0, 1) := by decide +kernel
theorem dX12_isBarred_10 : decode cX12_isBarred 10 = .ok (.getfield 65, 3) := by decide +kernel
theorem dX12_isBarred_13 : decode cX12_isBarred 13 = .ok (.bipush 40, 2) := by decide +kernel
theorem dX12_isBarred_15 : decode cX12_isBarred 15 = .ok (.iload_n 1, 1) := by decide +kernel
theorem dX12_isBarred_16 : decode cX12_isBarred 16 = .ok (.imul, 1) := by decide +kernel
theorem dX12_isBarred_17 : decode cX12_isBarred 17 = .ok (.iload_n 2, 1) := by decide +kernel
theorem dX12_isBarred_18 : decode cX12_isBarred 18 = .ok (.iadd, 1) := by decide +kernel
theorem dX12_isBarred_19 : decode cX12_isBarred 19 = .ok (.iaload, 1) := by decide +kernel
theorem dX12_isBarred_20 : decode cX12_isBarred 20 = .ok (.iconst 2, 1) := by decide +kernel
theorem dX12_isBarred_21 : decode cX12_isBarred 21 = .ok (.if_icmp .lt 7, 3) := by decide +kernel
theorem dX12_isBarred_24 : decode cX12_isBarred 24 = .ok (.iconst 1, 1) := by decide +kernel
theorem dX12_isBarred_25 : decode cX12_isBarred 25 = .ok (.goto 4, 3) := by decide +kernel
theorem dX12_isBarred_28 : decode cX12_isBarred 28 = .ok (.iconst 0, 1) := by decide +kernel
theorem dX12_isBarred_29 : decode cX12_isBarred 29 = .ok (.ireturn, 1) := by decide +kernel
theorem dX12_traces_0 : decode cX12_traces 0 = .ok (.aload_n 0, 1) := by decide +kernel
theorem dX12_traces_1 : decode cX12_traces 1 = .ok (.iconst 0, 1) := by decide +kernel
theorem dX12_traces_2 : decode cX12_traces 2 = .ok (.putfield 202, 3) := by decide +kernel
theorem dX12_traces_5 : decode cX12_traces 5 = .ok (.aload_n 0, 1) := by decide +kernel
theorem dX12_traces_6 : decode cX12_traces 6 = .ok (.getfield 256, 3) := by decide +kernel
theorem dX12_traces_9 : decode cX12_traces 9 = .ok (.ireturn, 1) := by decide +kernel
theorem dX12_isTrace_0 : decode cX12_isTrace 0 = .ok (.aload_n 0, 1) := by decide +kernel
theorem dX12_isTrace_1 : decode cX12_isTrace 1 = .ok (.iload_n 1, 1) := by decide +kernel
theorem dX12_isTrace_2 : decode cX12_isTrace 2 = .ok (.iconst 0, 1) := by decide +kernel
theorem dX12_isTrace_3 : decode cX12_isTrace 3 = .ok (.aload_n 0, 1) := by decide +kernel
theorem dX12_isTrace_4 : decode cX12_isTrace 4 = .ok (.getfield 256, 3) := by decide +kernel
theorem dX12_isTrace_7 : decode cX12_isTrace 7 = .ok (.iconst 1, 1) := by decide +kernel
theorem dX12_isTrace_8 : decode cX12_isTrace 8 = .ok (.isub, 1) := by decide +kernel
theorem dX12_isTrace_9 : decode cX12_isTrace 9 = .ok (.invokestatic 208, 3) := by decide +kernel
theorem dX12_isTrace_12 : decode cX12_isTrace 12 = .ok (.ifCond .eq 7, 3) := by decide +kernel
theorem dX12_isTrace_15 : decode cX12_isTrace 15 = .ok (.iconst 0, 1) := by decide +kernel
theorem dX12_isTrace_16 : decode cX12_isTrace 16 = .ok (.goto 4, 3) := by decide +kernel
theorem dX12_isTrace_19 : decode cX12_isTrace 19 = .ok (.iconst 1, 1) := by decide +kernel
theorem dX12_isTrace_20 : decode cX12_isTrace 20 = .ok (.putfield 202, 3) := by decide +kernel
theorem dX12_isTrace_23 : decode cX12_isTrace 23 = .ok (.aload_n 0, 1) := by decide +kernel
theorem dX12_isTrace_24 : decode cX12_isTrace 24 = .ok (.getfield 202, 3) := by decide +kernel
theorem dX12_isTrace_27 : decode cX12_isTrace 27 = .ok (.ifCond .ne 7, 3) := by decide +kernel
theorem dX12_isTrace_30 : decode cX12_isTrace 30 = .ok (.iconst 1, 1) := by decide +kernel
theorem dX12_isTrace_31 : decode cX12_isTrace 31 = .ok (.goto 4, 3) := by decide +kernel
theorem dX12_isTrace_34 : decode cX12_isTrace 34 = .ok (.iconst 0, 1) := by decide +kernel
theorem dX12_isTrace_35 : decode cX12_isTrace 35 = .ok (.ireturn, 1) := by decide +kernel
theorem dX12_isGuard_0 : decode cX12_isGuard 0 = .ok (.aload_n 0, 1) := by decide +kernel
theorem dX12_isGuard_1 : decode cX12_isGuard 1 = .ok (.iload_n 1, 1) := by decide +kernel
theorem dX12_isGuard_2 : decode cX12_isGuard 2 = .ok (.iconst 0, 1) := by decide +kernel
theorem dX12_isGuard_3 : decode cX12_isGuard 3 = .ok (.aload_n 0, 1) := by decide +kernel
theorem dX12_isGuard_4 : decode cX12_isGuard 4 = .ok (.getfield 256, 3) := by decide +kernel
theorem dX12_isGuard_7 : decode cX12_isGuard 7 = .ok (.iconst 1, 1) := by decide +kernel
theorem dX12_isGuard_8 : decode cX12_isGuard 8 = .ok (.isub, 1) := by decide +kernel
theorem dX12_isGuard_9 : decode cX12_isGuard 9 = .ok (.invokestatic 208, 3) := by decide +kernel
theorem dX12_isGuard_12 : decode cX12_isGuard 12 = .ok (.ifCond .eq 23, 3) := by decide +kernel
theorem dX12_isGuard_15 : decode cX12_isGuard 15 = .ok (.iload_n 2, 1) := by decide +kernel
theorem dX12_isGuard_16 : decode cX12_isGuard 16 = .ok (.iconst 0, 1) := by decide +kernel
theorem dX12_isGuard_17 : decode cX12_isGuard 17 = .ok (.aload_n 0, 1) := by decide +kernel
theorem dX12_isGuard_18 : decode cX12_isGuard 18 = .ok (.getfield 88, 3) := by decide +kernel
theorem dX12_isGuard_21 : decode cX12_isGuard 21 = .ok (.iload_n 1, 1) := by decide +kernel
theorem dX12_isGuard_22 : decode cX12_isGuard 22 = .ok (.iaload, 1) := by decide +kernel
theorem dX12_isGuard_23 : decode cX12_isGuard 23 = .ok (.iconst 1, 1) := by decide +kernel
theorem dX12_isGuard_24 : decode cX12_isGuard 24 = .ok (.isub, 1) := by decide +kernel
theorem dX12_isGuard_25 : decode cX12_isGuard 25 = .ok (.invokestatic 208, 3) := by decide +kernel
theorem dX12_isGuard_28 : decode cX12_isGuard 28 = .ok (.ifCond .eq 7, 3) := by decide +kernel
theorem dX12_isGuard_31 : decode cX12_isGuard 31 = .ok (.iconst 0, 1) := by decide +kernel
theorem dX12_isGuard_32 : decode cX12_isGuard 32 = .ok (.goto 4, 3) := by decide +kernel
theorem dX12_isGuard_35 : decode cX12_isGuard 35 = .ok (.iconst 1, 1) := by decide +kernel
theorem dX12_isGuard_36 : decode cX12_isGuard 36 = .ok (.putfield 202, 3) := by decide +kernel
theorem dX12_isGuard_39 : decode cX12_isGuard 39 = .ok (.aload_n 0, 1) := by decide +kernel
theorem dX12_isGuard_40 : decode cX12_isGuard 40 = .ok (.getfield 202, 3) := by decide +kernel
theorem dX12_isGuard_43 : decode cX12_isGuard 43 = .ok (.ifCond .ne 7, 3) := by decide +kernel
theorem dX12_isGuard_46 : decode cX12_isGuard 46 = .ok (.iconst 1, 1) := by decide +kernel
theorem dX12_isGuard_47 : decode cX12_isGuard 47 = .ok (.goto 4, 3) := by decide +kernel
theorem dX12_isGuard_50 : decode cX12_isGuard 50 = .ok (.iconst 0, 1) := by decide +kernel
theorem dX12_isGuard_51 : decode cX12_isGuard 51 = .ok (.ireturn, 1) := by decide +kernel
theorem dX12_isThere_0 : decode cX12_isThere 0 = .ok (.aload_n 0, 1) := by decide +kernel
theorem dX12_isThere_1 : decode cX12_isThere 1 = .ok (.iload_n 1, 1) := by decide +kernel
theorem dX12_isThere_2 : decode cX12_isThere 2 = .ok (.invokevirtual 520, 3) := by decide +kernel
theorem dX12_isThere_5 : decode cX12_isThere 5 = .ok (.ifCond .eq 16, 3) := by decide +kernel
theorem dX12_isThere_8 : decode cX12_isThere 8 = .ok (.aload_n 0, 1) := by decide +kernel
theorem dX12_isThere_9 : decode cX12_isThere 9 = .ok (.getfield 78, 3) := by decide +kernel
theorem dX12_isThere_12 : decode cX12_isThere 12 = .ok (.iload_n 1, 1) := by decide +kernel
theorem dX12_isThere_13 : decode cX12_isThere 13 = .ok (.baload, 1) := by decide +kernel
theorem dX12_isThere_14 : decode cX12_isThere 14 = .ok (.ifCond .eq 7, 3) := by decide +kernel
theorem dX12_isThere_17 : decode cX12_isThere 17 = .ok (.iconst 1, 1) := by decide +kernel
theorem dX12_isThere_18 : decode cX12_isThere 18 = .ok (.goto 4, 3) := by decide +kernel
theorem dX12_isThere_21 : decode cX12_isThere 21 = .ok (.iconst 0, 1) := by decide +kernel
theorem dX12_isThere_22 : decode cX12_isThere 22 = .ok (.ireturn, 1) := by decide +kernel
theorem dX12_steps_0 : decode cX12_steps 0 = .ok (.aload_n 0, 1) := by decide +kernel
theorem dX12_steps_1 : decode cX12_steps 1 = .ok (.iload_n 1, 1) := by decide +kernel
theorem dX12_steps_2 : decode cX12_steps 2 = .ok (.invokevirtual 520, 3) := by decide +kernel
theorem dX12_steps_5 : decode cX12_steps 5 = .ok (.ifCond .eq 12, 3) := by decide +kernel
theorem dX12_steps_8 : decode cX12_steps 8 = .ok (.aload_n 0, 1) := by decide +kernel
theorem dX12_steps_9 : decode cX12_steps 9 = .ok (.getfield 82, 3) := by decide +kernel
theorem dX12_steps_12 : decode cX12_steps 12 = .ok (.iload_n 1, 1) := by decide +kernel
theorem dX12_steps_13 : decode cX12_steps 13 = .ok (.iaload, 1) := by decide +kernel
theorem dX12_steps_14 : decode cX12_steps 14 = .ok (.goto 4, 3) := by decide +kernel
theorem dX12_steps_17 : decode cX12_steps 17 = .ok (.iconst 0, 1) := by decide +kernel
theorem dX12_steps_18 : decode cX12_steps 18 = .ok (.ireturn, 1) := by decide +kernel
theorem dX12_lineAt_0 : decode cX12_lineAt 0 = .ok (.aload_n 0, 1) := by decide +kernel
theorem dX12_lineAt_1 : decode cX12_lineAt 1 = .ok (.iload_n 1, 1) := by decide +kernel
theorem dX12_lineAt_2 : decode cX12_lineAt 2 = .ok (.invokevirtual 520, 3) := by decide +kernel
theorem dX12_lineAt_5 : decode cX12_lineAt 5 = .ok (.ifCond .ne 5, 3) := by decide +kernel
theorem dX12_lineAt_8 : decode cX12_lineAt 8 = .ok (.iconst 0, 1) := by decide +kernel
theorem dX12_lineAt_9 : decode cX12_lineAt 9 = .ok (.ireturn, 1) := by decide +kernel
theorem dX12_lineAt_10 : decode cX12_lineAt 10 = .ok (.iload_n 2, 1) := by decide +kernel
theorem dX12_lineAt_11 : decode cX12_lineAt 11 = .ok (.iconst 0, 1) := by decide +kernel
theorem dX12_lineAt_12 : decode cX12_lineAt 12 = .ok (.aload_n 0, 1) := by decide +kernel
theorem dX12_lineAt_13 : decode cX12_lineAt 13 = .ok (.getfield 82, 3) := by decide +kernel
theorem dX12_lineAt_16 : decode cX12_lineAt 16 = .ok (.iload_n 1, 1) := by decide +kernel
theorem dX12_lineAt_17 : decode cX12_lineAt 17 = .ok (.iaload, 1) := by decide +kernel
theorem dX12_lineAt_18 : decode cX12_lineAt 18 = .ok (.iconst 1, 1) := by decide +kernel
theorem dX12_lineAt_19 : decode cX12_lineAt 19 = .ok (.isub, 1) := by decide +kernel
theorem dX12_lineAt_20 : decode cX12_lineAt 20 = .ok (.invokestatic 208, 3) := by decide +kernel
theorem dX12_lineAt_23 : decode cX12_lineAt 23 = .ok (.ifCond .eq 17, 3) := by decide +kernel
theorem dX12_lineAt_26 : decode cX12_lineAt 26 = .ok (.aload_n 0, 1) := by decide +kernel
theorem dX12_lineAt_27 : decode cX12_lineAt 27 = .ok (.getfield 85, 3) := by decide +kernel
theorem dX12_lineAt_30 : decode cX12_lineAt 30 = .ok (.bipush 30, 2) := by decide +kernel
theorem dX12_lineAt_32 : decode cX12_lineAt 32 = .ok (.iload_n 1, 1) := by decide +kernel
theorem dX12_lineAt_33 : decode cX12_lineAt 33 = .ok (.imul, 1) := by decide +kernel
theorem dX12_lineAt_34 : decode cX12_lineAt 34 = .ok (.iload_n 2, 1) := by decide +kernel
theorem dX12_lineAt_35 : decode cX12_lineAt 35 = .ok (.iadd, 1) := by decide +kernel
theorem dX12_lineAt_36 : decode cX12_lineAt 36 = .ok (.iaload, 1) := by decide +kernel
theorem dX12_lineAt_37 : decode cX12_lineAt 37 = .ok (.goto 8, 3) := by decide +kernel
theorem dX12_lineAt_40 : decode cX12_lineAt 40 = .ok (.aload_n 0, 1) := by decide +kernel
theorem dX12_lineAt_41 : decode cX12_lineAt 41 = .ok (.iconst 2, 1) := by decide +kernel
theorem dX12_lineAt_42 : decode cX12_lineAt 42 = .ok (.invokevirtual 212, 3) := by decide +kernel
theorem dX12_lineAt_45 : decode cX12_lineAt 45 = .ok (.ireturn, 1) := by decide +kernel
theorem dX12_guards__0 : decode cX12_guards_ 0 = .ok (.aload_n 0, 1) := by decide +kernel
theorem dX12_guards__1 : decode cX12_guards_ 1 = .ok (.iload_n 1, 1) := by decide +kernel
theorem dX12_guards__2 : decode cX12_guards_ 2 = .ok (.invokevirtual 520, 3) := by decide +kernel
theorem dX12_guards__5 : decode cX12_guards_ 5 = .ok (.ifCond .eq 12, 3) := by decide +kernel
theorem dX12_guards__8 : decode cX12_guards_ 8 = .ok (.aload_n 0, 1) := by decide +kernel
theorem dX12_guards__9 : decode cX12_guards_ 9 = .ok (.getfield 88, 3) := by decide +kernel
theorem dX12_guards__12 : decode cX12_guards_ 12 = .ok (.iload_n 1, 1) := by decide +kernel
theorem dX12_guards__13 : decode cX12_guards_ 13 = .ok (.iaload, 1) := by decide +kernel
theorem dX12_guards__14 : decode cX12_guards_ 14 = .ok (.goto 4, 3) := by decide +kernel
theorem dX12_guards__17 : decode cX12_guards_ 17 = .ok (.iconst 0, 1) := by decide +kernel
theorem dX12_guards__18 : decode cX12_guards_ 18 = .ok (.ireturn, 1) := by decide +kernel
theorem dX12_guardAt_0 : decode cX12_guardAt 0 = .ok (.aload_n 0, 1) := by decide +kernel
theorem dX12_guardAt_1 : decode cX12_guardAt 1 = .ok (.iload_n 1, 1) := by decide +kernel
theorem dX12_guardAt_2 : decode cX12_guardAt 2 = .ok (.iload_n 2, 1) := by decide +kernel
theorem dX12_guardAt_3 : decode cX12_guardAt 3 = .ok (.invokevirtual 523, 3) := by decide +kernel
theorem dX12_guardAt_6 : decode cX12_guardAt 6 = .ok (.ifCond .eq 17, 3) := by decide +kernel
theorem dX12_guardAt_9 : decode cX12_guardAt 9 = .ok (.aload_n 0, 1) := by decide +kernel
theorem dX12_guardAt_10 : decode cX12_guardAt 10 = .ok (.getfield 103, 3) := by decide +kernel
theorem dX12_guardAt_13 : decode cX12_guardAt 13 = .ok (.bipush 120, 2) := by decide +kernel
theorem dX12_guardAt_15 : decode cX12_guardAt 15 = .ok (.iload_n 1, 1) := by decide +kernel
theorem dX12_guardAt_16 : decode cX12_guardAt 16 = .ok (.imul, 1) := by decide +kernel
theorem dX12_guardAt_17 : decode cX12_guardAt 17 = .ok (.iload_n 2, 1) := by decide +kernel
theorem dX12_guardAt_18 : decode cX12_guardAt 18 = .ok (.iadd, 1) := by decide +kernel
theorem dX12_guardAt_19 : decode cX12_guardAt 19 = .ok (.caload, 1) := by decide +kernel
theorem dX12_guardAt_20 : decode cX12_guardAt 20 = .ok (.goto 4, 3) := by decide +kernel
theorem dX12_guardAt_23 : decode cX12_guardAt 23 = .ok (.iconst 0, 1) := by decide +kernel
theorem dX12_guardAt_24 : decode cX12_guardAt 24 = .ok (.ireturn, 1) := by decide +kernel
theorem dX12_guardStep_0 : decode cX12_guardStep 0 = .ok (.aload_n 0, 1) := by decide +kernel
theorem dX12_guardStep_1 : decode cX12_guardStep 1 = .ok (.iload_n 1, 1) := by decide +kernel
theorem dX12_guardStep_2 : decode cX12_guardStep 2 = .ok (.iload_n 2, 1) := by decide +kernel
theorem dX12_guardStep_3 : decode cX12_guardStep 3 = .ok (.invokevirtual 523, 3) := by decide +kernel
theorem dX12_guardStep_6 : decode cX12_guardStep 6 = .ok (.ifCond .eq 17, 3) := by decide +kernel
theorem dX12_guardStep_9 : decode cX12_guardStep 9 = .ok (.aload_n 0, 1) := by decide +kernel
theorem dX12_guardStep_10 : decode cX12_guardStep 10 = .ok (.getfield 106, 3) := by decide +kernel
theorem dX12_guardStep_13 : decode cX12_guardStep 13 = .ok (.bipush 120, 2) := by decide +kernel
theorem dX12_guardStep_15 : decode cX12_guardStep 15 = .ok (.iload_n 1, 1) := by decide +kernel
theorem dX12_guardStep_16 : decode cX12_guardStep 16 = .ok (.imul, 1) := by decide +kernel
theorem dX12_guardStep_17 : decode cX12_guardStep 17 = .ok (.iload_n 2, 1) := by decide +kernel
theorem dX12_guardStep_18 : decode cX12_guardStep 18 = .ok (.iadd, 1) := by decide +kernel
theorem dX12_guardStep_19 : decode cX12_guardStep 19 = .ok (.iaload, 1) := by decide +kernel
theorem dX12_guardStep_20 : decode cX12_guardStep 20 = .ok (.goto 4, 3) := by decide +kernel
theorem dX12_guardStep_23 : decode cX12_guardStep 23 = .ok (.iconst 0, 1) := by decide +kernel
theorem dX12_guardStep_24 : decode cX12_guardStep 24 = .ok (.ireturn, 1) := by decide +kernel
theorem dX12_exits_0 : decode cX12_exits 0 = .ok (.aload_n 0, 1) := by decide +kernel
theorem dX12_exits_1 : decode cX12_exits 1 = .ok (.iload_n 1, 1) := by decide +kernel
theorem dX12_exits_2 : decode cX12_exits 2 = .ok (.iload_n 2, 1) := by decide +kernel
theorem dX12_exits_3 : decode cX12_exits 3 = .ok (.invokevirtual 523, 3) := by decide +kernel
theorem dX12_exits_6 : decode cX12_exits 6 = .ok (.ifCond .eq 17, 3) := by decide +kernel
theorem dX12_exits_9 : decode cX12_exits 9 = .ok (.aload_n 0, 1) := by decide +kernel
theorem dX12_exits_10 : decode cX12_exits 10 = .ok (.getfield 115, 3) := by decide +kernel
theorem dX12_exits_13 : decode cX12_exits 13 = .ok (.bipush 120, 2) := by decide +kernel
theorem dX12_exits_15 : decode cX12_exits 15 = .ok (.iload_n 1, 1) := by decide +kernel
theorem dX12_exits_16 : decode cX12_exits 16 = .ok (.imul, 1) := by decide +kernel
theorem dX12_exits_17 : decode cX12_exits 17 = .ok (.iload_n 2, 1) := by decide +kernel
theorem dX12_exits_18 : decode cX12_exits 18 = .ok (.iadd, 1) := by decide +kernel
theorem dX12_exits_19 : decode cX12_exits 19 = .ok (.iaload, 1) := by decide +kernel
theorem dX12_exits_20 : decode cX12_exits 20 = .ok (.goto 4, 3) := by decide +kernel
theorem dX12_exits_23 : decode cX12_exits 23 = .ok (.iconst 0, 1) := by decide +kernel
theorem dX12_exits_24 : decode cX12_exits 24 = .ok (.ireturn, 1) := by decide +kernel
theorem dX12_sideOf_0 : decode cX12_sideOf 0 = .ok (.aload_n 0, 1) := by decide +kernel
theorem dX12_sideOf_1 : decode cX12_sideOf 1 = .ok (.iload_n 1, 1) := by decide +kernel
theorem dX12_sideOf_2 : decode cX12_sideOf 2 = .ok (.iload_n 2, 1) := by decide +kernel
theorem dX12_sideOf_3 : decode cX12_sideOf 3 = .ok (.invokevirtual 523, 3) := by decide +kernel
theorem dX12_sideOf_6 : decode cX12_sideOf 6 = .ok (.ifCond .ne 5, 3) := by decide +kernel
theorem dX12_sideOf_9 : decode cX12_sideOf 9 = .ok (.iconst 0, 1) := by decide +kernel
theorem dX12_sideOf_10 : decode cX12_sideOf 10 = .ok (.ireturn, 1) := by decide +kernel
theorem dX12_sideOf_11 : decode cX12_sideOf 11 = .ok (.aload_n 0, 1) := by decide +kernel
theorem dX12_sideOf_12 : decode cX12_sideOf 12 = .ok (.getfield 124, 3) := by decide +kernel
theorem dX12_sideOf_15 : decode cX12_sideOf 15 = .ok (.bipush 120, 2) := by decide +kernel
theorem dX12_sideOf_17 : decode cX12_sideOf 17 = .ok (.iload_n 1, 1) := by decide +kernel
theorem dX12_sideOf_18 : decode cX12_sideOf 18 = .ok (.imul, 1) := by decide +kernel
theorem dX12_sideOf_19 : decode cX12_sideOf 19 = .ok (.iload_n 2, 1) := by decide +kernel
theorem dX12_sideOf_20 : decode cX12_sideOf 20 = .ok (.iadd, 1) := by decide +kernel
theorem dX12_sideOf_21 : decode cX12_sideOf 21 = .ok (.iaload, 1) := by decide +kernel
theorem dX12_sideOf_22 : decode cX12_sideOf 22 = .ok (.istore_n 3, 1) := by decide +kernel
theorem dX12_sideOf_23 : decode cX12_sideOf 23 = .ok (.iload_n 3, 1) := by decide +kernel
theorem dX12_sideOf_24 : decode cX12_sideOf 24 = .ok (.iconst (-1), 1) := by decide +kernel
theorem dX12_sideOf_25 : decode cX12_sideOf 25 = .ok (.if_icmp .ne 11, 3) := by decide +kernel
theorem dX12_sideOf_28 : decode cX12_sideOf 28 = .ok (.aload_n 0, 1) := by decide +kernel
theorem dX12_sideOf_29 : decode cX12_sideOf 29 = .ok (.iconst 2, 1) := by decide +kernel
theorem dX12_sideOf_30 : decode cX12_sideOf 30 = .ok (.invokevirtual 212, 3) := by decide +kernel
theorem dX12_sideOf_33 : decode cX12_sideOf 33 = .ok (.goto 4, 3) := by decide +kernel
theorem dX12_sideOf_36 : decode cX12_sideOf 36 = .ok (.iload_n 3, 1) := by decide +kernel
theorem dX12_sideOf_37 : decode cX12_sideOf 37 = .ok (.ireturn, 1) := by decide +kernel
theorem dX12_rootOf_0 : decode cX12_rootOf 0 = .ok (.aload_n 0, 1) := by decide +kernel
theorem dX12_rootOf_1 : decode cX12_rootOf 1 = .ok (.iload_n 1, 1) := by decide +kernel
theorem dX12_rootOf_2 : decode cX12_rootOf 2 = .ok (.invokevirtual 520, 3) := by decide +kernel
theorem dX12_rootOf_5 : decode cX12_rootOf 5 = .ok (.ifCond .eq 12, 3) := by decide +kernel
theorem dX12_rootOf_8 : decode cX12_rootOf 8 = .ok (.aload_n 0, 1) := by decide +kernel
theorem dX12_rootOf_9 : decode cX12_rootOf 9 = .ok (.getfield 91, 3) := by decide +kernel
theorem dX12_rootOf_12 : decode cX12_rootOf 12 = .ok (.iload_n 1, 1) := by decide +kernel
theorem dX12_rootOf_13 : decode cX12_rootOf 13 = .ok (.iaload, 1) := by decide +kernel
theorem dX12_rootOf_14 : decode cX12_rootOf 14 = .ok (.goto 4, 3) := by decide +kernel
theorem dX12_rootOf_17 : decode cX12_rootOf 17 = .ok (.iconst 0, 1) := by decide +kernel
theorem dX12_rootOf_18 : decode cX12_rootOf 18 = .ok (.ireturn, 1) := by decide +kernel
theorem dX12_begun_0 : decode cX12_begun 0 = .ok (.aload_n 0, 1) := by decide +kernel
theorem dX12_begun_1 : decode cX12_begun 1 = .ok (.iload_n 1, 1) := by decide +kernel
theorem dX12_begun_2 : decode cX12_begun 2 = .ok (.invokevirtual 520, 3) := by decide +kernel
theorem dX12_begun_5 : decode cX12_begun 5 = .ok (.ifCond .eq 12, 3) := by decide +kernel
theorem dX12_begun_8 : decode cX12_begun 8 = .ok (.aload_n 0, 1) := by decide +kernel
theorem dX12_begun_9 : decode cX12_begun 9 = .ok (.getfield 97, 3) := by decide +kernel
theorem dX12_begun_12 : decode cX12_begun 12 = .ok (.iload_n 1, 1) := by decide +kernel
theorem dX12_begun_13 : decode cX12_begun 13 = .ok (.iaload, 1) := by decide +kernel
theorem dX12_begun_14 : decode cX12_begun 14 = .ok (.goto 4, 3) := by decide +kernel
theorem dX12_begun_17 : decode cX12_begun 17 = .ok (.iconst 0, 1) := by decide +kernel
theorem dX12_begun_18 : decode cX12_begun 18 = .ok (.ireturn, 1) := by decide +kernel
theorem dX12_inTraces_0 : decode cX12_inTraces 0 = .ok (.aload_n 0, 1) := by decide +kernel
theorem dX12_inTraces_1 : decode cX12_inTraces 1 = .ok (.iconst 0, 1) := by decide +kernel
theorem dX12_inTraces_2 : decode cX12_inTraces 2 = .ok (.putfield 202, 3) := by decide +kernel
theorem dX12_inTraces_5 : decode cX12_inTraces 5 = .ok (.aload_n 0, 1) := by decide +kernel
theorem dX12_inTraces_6 : decode cX12_inTraces 6 = .ok (.getfield 505, 3) := by decide +kernel
theorem dX12_inTraces_9 : decode cX12_inTraces 9 = .ok (.ireturn, 1) := by decide +kernel
theorem dX12_codeSize_0 : decode cX12_codeSize 0 = .ok (.aload_n 0, 1) := by decide +kernel
theorem dX12_codeSize_1 : decode cX12_codeSize 1 = .ok (.iconst 0, 1) := by decide +kernel
theorem dX12_codeSize_2 : decode cX12_codeSize 2 = .ok (.putfield 202, 3) := by decide +kernel
theorem dX12_codeSize_5 : decode cX12_codeSize 5 = .ok (.aload_n 0, 1) := by decide +kernel
theorem dX12_codeSize_6 : decode cX12_codeSize 6 = .ok (.invokevirtual 241, 3) := by decide +kernel
theorem dX12_codeSize_9 : decode cX12_codeSize 9 = .ok (.ireturn, 1) := by decide +kernel
theorem dX12_agrees_0 : decode cX12_agrees 0 = .ok (.aload_n 0, 1) := by decide +kernel
theorem dX12_agrees_1 : decode cX12_agrees 1 = .ok (.iconst 0, 1) := by decide +kernel
theorem dX12_agrees_2 : decode cX12_agrees 2 = .ok (.putfield 202, 3) := by decide +kernel
theorem dX12_agrees_5 : decode cX12_agrees 5 = .ok (.iconst 1, 1) := by decide +kernel
theorem dX12_agrees_6 : decode cX12_agrees 6 = .ok (.ireturn, 1) := by decide +kernel
theorem dX12_tracedShare_0 : decode cX12_tracedShare 0 = .ok (.aload_n 0, 1) := by decide +kernel
theorem dX12_tracedShare_1 : decode cX12_tracedShare 1 = .ok (.aload_n 0, 1) := by decide +kernel
theorem dX12_tracedShare_2 : decode cX12_tracedShare 2 = .ok (.getfield 436, 3) := by decide +kernel
theorem dX12_tracedShare_5 : decode cX12_tracedShare 5 = .ok (.ifCond .ne 7, 3) := by decide +kernel
theorem dX12_tracedShare_8 : decode cX12_tracedShare 8 = .ok (.iconst 1, 1) := by decide +kernel
theorem dX12_tracedShare_9 : decode cX12_tracedShare 9 = .ok (.goto 4, 3) := by decide +kernel
theorem dX12_tracedShare_12 : decode cX12_tracedShare 12 = .ok (.iconst 0, 1) := by decide +kernel
theorem dX12_tracedShare_13 : decode cX12_tracedShare 13 = .ok (.putfield 202, 3) := by decide +kernel
theorem dX12_tracedShare_16 : decode cX12_tracedShare 16 = .ok (.aload_n 0, 1) := by decide +kernel
theorem dX12_tracedShare_17 : decode cX12_tracedShare 17 = .ok (.getfield 202, 3) := by decide +kernel
theorem dX12_tracedShare_20 : decode cX12_tracedShare 20 = .ok (.ifCond .le 7, 3) := by decide +kernel
theorem dX12_tracedShare_23 : decode cX12_tracedShare 23 = .ok (.fconst 0, 1) := by decide +kernel
theorem dX12_tracedShare_24 : decode cX12_tracedShare 24 = .ok (.goto 14, 3) := by decide +kernel
theorem dX12_tracedShare_27 : decode cX12_tracedShare 27 = .ok (.aload_n 0, 1) := by decide +kernel
theorem dX12_tracedShare_28 : decode cX12_tracedShare 28 = .ok (.getfield 505, 3) := by decide +kernel
theorem dX12_tracedShare_31 : decode cX12_tracedShare 31 = .ok (.i2f, 1) := by decide +kernel
theorem dX12_tracedShare_32 : decode cX12_tracedShare 32 = .ok (.aload_n 0, 1) := by decide +kernel
theorem dX12_tracedShare_33 : decode cX12_tracedShare 33 = .ok (.getfield 436, 3) := by decide +kernel
theorem dX12_tracedShare_36 : decode cX12_tracedShare 36 = .ok (.i2f, 1) := by decide +kernel
theorem dX12_tracedShare_37 : decode cX12_tracedShare 37 = .ok (.fdiv, 1) := by decide +kernel
theorem dX12_tracedShare_38 : decode cX12_tracedShare 38 = .ok (.freturn, 1) := by decide +kernel
theorem dX12_meanGuards_0 : decode cX12_meanGuards 0 = .ok (.iconst 0, 1) := by decide +kernel
theorem dX12_meanGuards_1 : decode cX12_meanGuards 1 = .ok (.istore_n 1, 1) := by decide +kernel
theorem dX12_meanGuards_2 : decode cX12_meanGuards 2 = .ok (.iconst 0, 1) := by decide +kernel
theorem dX12_meanGuards_3 : decode cX12_meanGuards 3 = .ok (.istore_n 2, 1) := by decide +kernel
theorem dX12_meanGuards_4 : decode cX12_meanGuards 4 = .ok (.iconst 0, 1) := by decide +kernel
theorem dX12_meanGuards_5 : decode cX12_meanGuards 5 = .ok (.istore_n 3, 1) := by decide +kernel
theorem dX12_meanGuards_6 : decode cX12_meanGuards 6 = .ok (.iload_n 3, 1) := by decide +kernel
theorem dX12_meanGuards_7 : decode cX12_meanGuards 7 = .ok (.aload_n 0, 1) := by decide +kernel
theorem dX12_meanGuards_8 : decode cX12_meanGuards 8 = .ok (.getfield 256, 3) := by decide +kernel
theorem dX12_meanGuards_11 : decode cX12_meanGuards 11 = .ok (.if_icmp .ge 48, 3) := by decide +kernel
theorem dX12_meanGuards_14 : decode cX12_meanGuards 14 = .ok (.iload_n 1, 1) := by decide +kernel
theorem dX12_meanGuards_15 : decode cX12_meanGuards 15 = .ok (.aload_n 0, 1) := by decide +kernel
theorem dX12_meanGuards_16 : decode cX12_meanGuards 16 = .ok (.getfield 78, 3) := by decide +kernel
theorem dX12_meanGuards_19 : decode cX12_meanGuards 19 = .ok (.iload_n 3, 1) := by decide +kernel
theorem dX12_meanGuards_20 : decode cX12_meanGuards 20 = .ok (.baload, 1) := by decide +kernel
theorem dX12_meanGuards_21 : decode cX12_meanGuards 21 = .ok (.ifCond .eq 7, 3) := by decide +kernel
theorem dX12_meanGuards_24 : decode cX12_meanGuards 24 = .ok (.iconst 1, 1) := by decide +kernel
theorem dX12_meanGuards_25 : decode cX12_meanGuards 25 = .ok (.goto 4, 3) := by decide +kernel
theorem dX12_meanGuards_28 : decode cX12_meanGuards 28 = .ok (.iconst 0, 1) := by decide +kernel
theorem dX12_meanGuards_29 : decode cX12_meanGuards 29 = .ok (.iadd, 1) := by decide +kernel
theorem dX12_meanGuards_30 : decode cX12_meanGuards 30 = .ok (.istore_n 1, 1) := by decide +kernel
theorem dX12_meanGuards_31 : decode cX12_meanGuards 31 = .ok (.iload_n 2, 1) := by decide +kernel
theorem dX12_meanGuards_32 : decode cX12_meanGuards 32 = .ok (.aload_n 0, 1) := by decide +kernel
theorem dX12_meanGuards_33 : decode cX12_meanGuards 33 = .ok (.getfield 78, 3) := by decide +kernel
theorem dX12_meanGuards_36 : decode cX12_meanGuards 36 = .ok (.iload_n 3, 1) := by decide +kernel
theorem dX12_meanGuards_37 : decode cX12_meanGuards 37 = .ok (.baload, 1) := by decide +kernel
theorem dX12_meanGuards_38 : decode cX12_meanGuards 38 = .ok (.ifCond .eq 12, 3) := by decide +kernel
theorem dX12_meanGuards_41 : decode cX12_meanGuards 41 = .ok (.aload_n 0, 1) := by decide +kernel
theorem dX12_meanGuards_42 : decode cX12_meanGuards 42 = .ok (.getfield 88, 3) := by decide +kernel
theorem dX12_meanGuards_45 : decode cX12_meanGuards 45 = .ok (.iload_n 3, 1) := by decide +kernel
theorem dX12_meanGuards_46 : decode cX12_meanGuards 46 = .ok (.iaload, 1) := by decide +kernel
theorem dX12_meanGuards_47 : decode cX12_meanGuards 47 = .ok (.goto 4, 3) := by decide +kernel
theorem dX12_meanGuards_50 : decode cX12_meanGuards 50 = .ok (.iconst 0, 1) := by decide +kernel
theorem dX12_meanGuards_51 : decode cX12_meanGuards 51 = .ok (.iadd, 1) := by decide +kernel
theorem dX12_meanGuards_52 : decode cX12_meanGuards 52 = .ok (.istore_n 2, 1) := by decide +kernel
theorem dX12_meanGuards_53 : decode cX12_meanGuards 53 = .ok (.iinc 3 1, 3) := by decide +kernel
theorem dX12_meanGuards_56 : decode cX12_meanGuards 56 = .ok (.goto (-50), 3) := by decide +kernel
theorem dX12_meanGuards_59 : decode cX12_meanGuards 59 = .ok (.aload_n 0, 1) := by decide +kernel
theorem dX12_meanGuards_60 : decode cX12_meanGuards 60 = .ok (.iload_n 1, 1) := by decide +kernel
theorem dX12_meanGuards_61 : decode cX12_meanGuards 61 = .ok (.ifCond .ne 7, 3) := by decide +kernel
theorem dX12_meanGuards_64 : decode cX12_meanGuards 64 = .ok (.iconst 1, 1) := by decide +kernel
theorem dX12_meanGuards_65 : decode cX12_meanGuards 65 = .ok (.goto 4, 3) := by decide +kernel
theorem dX12_meanGuards_68 : decode cX12_meanGuards 68 = .ok (.iconst 0, 1) := by decide +kernel
theorem dX12_meanGuards_69 : decode cX12_meanGuards 69 = .ok (.putfield 202, 3) := by decide +kernel
theorem dX12_meanGuards_72 : decode cX12_meanGuards 72 = .ok (.aload_n 0, 1) := by decide +kernel
theorem dX12_meanGuards_73 : decode cX12_meanGuards 73 = .ok (.getfield 202, 3) := by decide +kernel
theorem dX12_meanGuards_76 : decode cX12_meanGuards 76 = .ok (.ifCond .le 7, 3) := by decide +kernel
theorem dX12_meanGuards_79 : decode cX12_meanGuards 79 = .ok (.dconst 0, 1) := by decide +kernel
theorem dX12_meanGuards_80 : decode cX12_meanGuards 80 = .ok (.goto 8, 3) := by decide +kernel
theorem dX12_meanGuards_83 : decode cX12_meanGuards 83 = .ok (.iload_n 2, 1) := by decide +kernel
theorem dX12_meanGuards_84 : decode cX12_meanGuards 84 = .ok (.i2d, 1) := by decide +kernel
theorem dX12_meanGuards_85 : decode cX12_meanGuards 85 = .ok (.iload_n 1, 1) := by decide +kernel
theorem dX12_meanGuards_86 : decode cX12_meanGuards 86 = .ok (.i2d, 1) := by decide +kernel
theorem dX12_meanGuards_87 : decode cX12_meanGuards 87 = .ok (.ddiv, 1) := by decide +kernel
theorem dX12_meanGuards_88 : decode cX12_meanGuards 88 = .ok (.dreturn, 1) := by decide +kernel
theorem dX12_isSound_0 : decode cX12_isSound 0 = .ok (.aload_n 0, 1) := by decide +kernel
theorem dX12_isSound_1 : decode cX12_isSound 1 = .ok (.iconst 0, 1) := by decide +kernel
theorem dX12_isSound_2 : decode cX12_isSound 2 = .ok (.putfield 202, 3) := by decide +kernel
theorem dX12_isSound_5 : decode cX12_isSound 5 = .ok (.aload_n 0, 1) := by decide +kernel
theorem dX12_isSound_6 : decode cX12_isSound 6 = .ok (.invokevirtual 241, 3) := by decide +kernel
theorem dX12_isSound_9 : decode cX12_isSound 9 = .ok (.aload_n 0, 1) := by decide +kernel
theorem dX12_isSound_10 : decode cX12_isSound 10 = .ok (.getfield 75, 3) := by decide +kernel
theorem dX12_isSound_13 : decode cX12_isSound 13 = .ok (.if_icmp .gt 7, 3) := by decide +kernel
theorem dX12_isSound_16 : decode cX12_isSound 16 = .ok (.iconst 1, 1) := by decide +kernel
theorem dX12_isSound_17 : decode cX12_isSound 17 = .ok (.goto 4, 3) := by decide +kernel
theorem dX12_isSound_20 : decode cX12_isSound 20 = .ok (.iconst 0, 1) := by decide +kernel
theorem dX12_isSound_21 : decode cX12_isSound 21 = .ok (.ireturn, 1) := by decide +kernel
theorem dJ11_isValidCodePoint_9a6ad_0 : decode cJ11_isValidCodePoint_9a6ad 0 = .ok (.iload_n 0, 1) := by decide +kernel
theorem dJ11_isValidCodePoint_9a6ad_1 : decode cJ11_isValidCodePoint_9a6ad 1 = .ok (.bipush 16, 2) := by decide +kernel
theorem dJ11_isValidCodePoint_9a6ad_3 : decode cJ11_isValidCodePoint_9a6ad 3 = .ok (.iushr, 1) := by decide +kernel
theorem dJ11_isValidCodePoint_9a6ad_4 : decode cJ11_isValidCodePoint_9a6ad 4 = .ok (.istore_n 1, 1) := by decide +kernel
theorem dJ11_isValidCodePoint_9a6ad_5 : decode cJ11_isValidCodePoint_9a6ad 5 = .ok (.iload_n 1, 1) := by decide +kernel
theorem dJ11_isValidCodePoint_9a6ad_6 : decode cJ11_isValidCodePoint_9a6ad 6 = .ok (.bipush 17, 2) := by decide +kernel
theorem dJ11_isValidCodePoint_9a6ad_8 : decode cJ11_isValidCodePoint_9a6ad 8 = .ok (.if_icmp .ge 7, 3) := by decide +kernel
theorem dJ11_isValidCodePoint_9a6ad_11 : decode cJ11_isValidCodePoint_9a6ad 11 = .ok (.iconst 1, 1) := by decide +kernel
theorem dJ11_isValidCodePoint_9a6ad_12 : decode cJ11_isValidCodePoint_9a6ad 12 = .ok (.goto 4, 3) := by decide +kernel
theorem dJ11_isValidCodePoint_9a6ad_15 : decode cJ11_isValidCodePoint_9a6ad 15 = .ok (.iconst 0, 1) := by decide +kernel
theorem dJ11_isValidCodePoint_9a6ad_16 : decode cJ11_isValidCodePoint_9a6ad 16 = .ok (.ireturn, 1) := by decide +kernel
theorem dJ11_highSurrogate_5068e_0 : decode cJ11_highSurrogate_5068e 0 = .ok (.iload_n 0, 1) := by decide +kernel
theorem dJ11_highSurrogate_5068e_1 : decode cJ11_highSurrogate_5068e 1 = .ok (.bipush 10, 2) := by decide +kernel
theorem dJ11_highSurrogate_5068e_3 : decode cJ11_highSurrogate_5068e 3 = .ok (.iushr, 1) := by decide +kernel
theorem dJ11_highSurrogate_5068e_4 : decode cJ11_highSurrogate_5068e 4 = .ok (.ldc 110, 2) := by decide +kernel
theorem dJ11_highSurrogate_5068e_6 : decode cJ11_highSurrogate_5068e 6 = .ok (.iadd, 1) := by decide +kernel
theorem dJ11_highSurrogate_5068e_7 : decode cJ11_highSurrogate_5068e 7 = .ok (.i2c, 1) := by decide +kernel
theorem dJ11_highSurrogate_5068e_8 : decode cJ11_highSurrogate_5068e 8 = .ok (.ireturn, 1) := by decide +kernel
theorem dJ11_lowSurrogate_5068e_0 : decode cJ11_lowSurrogate_5068e 0 = .ok (.iload_n 0, 1) := by decide +kernel
theorem dJ11_lowSurrogate_5068e_1 : decode cJ11_lowSurrogate_5068e 1 = .ok (.sipush 1023, 3) := by decide +kernel
theorem dJ11_lowSurrogate_5068e_4 : decode cJ11_lowSurrogate_5068e 4 = .ok (.iand, 1) := by decide +kernel
theorem dJ11_lowSurrogate_5068e_5 : decode cJ11_lowSurrogate_5068e 5 = .ok (.ldc 76, 2) := by decide +kernel
theorem dJ11_lowSurrogate_5068e_7 : decode cJ11_lowSurrogate_5068e 7 = .ok (.iadd, 1) := by decide +kernel
theorem dJ11_lowSurrogate_5068e_8 : decode cJ11_lowSurrogate_5068e 8 = .ok (.i2c, 1) := by decide +kernel
theorem dJ11_lowSurrogate_5068e_9 : decode cJ11_lowSurrogate_5068e 9 = .ok (.ireturn, 1) := by decide +kernel
theorem dJ9_rint_294c1_0 : decode cJ9_rint_294c1 0 = .ok (.dload_n 0, 1) := by decide +kernel
theorem dJ9_rint_294c1_1 : decode cJ9_rint_294c1 1 = .ok (.invokestatic 59, 3) := by decide +kernel
theorem dJ9_rint_294c1_4 : decode cJ9_rint_294c1 4 = .ok (.dreturn, 1) := by decide +kernel
theorem dJ9_abs_294c1_0 : decode cJ9_abs_294c1 0 = .ok (.dload_n 0, 1) := by decide +kernel
theorem dJ9_abs_294c1_1 : decode cJ9_abs_294c1 1 = .ok (.invokestatic 79, 3) := by decide +kernel
theorem dJ9_abs_294c1_4 : decode cJ9_abs_294c1 4 = .ok (.ldc2_w 135, 3) := by decide +kernel
theorem dJ9_abs_294c1_7 : decode cJ9_abs_294c1 7 = .ok (.land, 1) := by decide +kernel
theorem dJ9_abs_294c1_8 : decode cJ9_abs_294c1 8 = .ok (.invokestatic 166, 3) := by decide +kernel
theorem dJ9_abs_294c1_11 : decode cJ9_abs_294c1 11 = .ok (.dreturn, 1) := by decide +kernel
theorem dJ9_max_7cf53_0 : decode cJ9_max_7cf53 0 = .ok (.iload_n 0, 1) := by decide +kernel
theorem dJ9_max_7cf53_1 : decode cJ9_max_7cf53 1 = .ok (.iload_n 1, 1) := by decide +kernel
theorem dJ9_max_7cf53_2 : decode cJ9_max_7cf53 2 = .ok (.if_icmp .lt 7, 3) := by decide +kernel
theorem dJ9_max_7cf53_5 : decode cJ9_max_7cf53 5 = .ok (.iload_n 0, 1) := by decide +kernel
theorem dJ9_max_7cf53_6 : decode cJ9_max_7cf53 6 = .ok (.goto 4, 3) := by decide +kernel
theorem dJ9_max_7cf53_9 : decode cJ9_max_7cf53 9 = .ok (.iload_n 1, 1) := by decide +kernel
theorem dJ9_max_7cf53_10 : decode cJ9_max_7cf53 10 = .ok (.ireturn, 1) := by decide +kernel
theorem dJ9_min_7cf53_0 : decode cJ9_min_7cf53 0 = .ok (.iload_n 0, 1) := by decide +kernel
theorem dJ9_min_7cf53_1 : decode cJ9_min_7cf53 1 = .ok (.iload_n 1, 1) := by decide +kernel
theorem dJ9_min_7cf53_2 : decode cJ9_min_7cf53 2 = .ok (.if_icmp .gt 7, 3) := by decide +kernel
theorem dJ9_min_7cf53_5 : decode cJ9_min_7cf53 5 = .ok (.iload_n 0, 1) := by decide +kernel
theorem dJ9_min_7cf53_6 : decode cJ9_min_7cf53 6 = .ok (.goto 4, 3) := by decide +kernel
theorem dJ9_min_7cf53_9 : decode cJ9_min_7cf53 9 = .ok (.iload_n 1, 1) := by decide +kernel
theorem dJ9_min_7cf53_10 : decode cJ9_min_7cf53 10 = .ok (.ireturn, 1) := by decide +kernel
theorem dJ9_copySign_eb370_0 : decode cJ9_copySign_eb370 0 = .ok (.dload_n 2, 1) := by decide +kernel
theorem dJ9_copySign_eb370_1 : decode cJ9_copySign_eb370 1 = .ok (.invokestatic 79, 3) := by decide +kernel
theorem dJ9_copySign_eb370_4 : decode cJ9_copySign_eb370 4 = .ok (.ldc2_w 128, 3) := by decide +kernel
theorem dJ9_copySign_eb370_7 : decode cJ9_copySign_eb370 7 = .ok (.land, 1) := by decide +kernel
theorem dJ9_copySign_eb370_8 : decode cJ9_copySign_eb370 8 = .ok (.dload_n 0, 1) := by decide +kernel
theorem dJ9_copySign_eb370_9 : decode cJ9_copySign_eb370 9 = .ok (.invokestatic 79, 3) := by decide +kernel
theorem dJ9_copySign_eb370_12 : decode cJ9_copySign_eb370 12 = .ok (.ldc2_w 135, 3) := by decide +kernel
theorem dJ9_copySign_eb370_15 : decode cJ9_copySign_eb370 15 = .ok (.land, 1) := by decide +kernel
theorem dJ9_copySign_eb370_16 : decode cJ9_copySign_eb370 16 = .ok (.lor, 1) := by decide +kernel
theorem dJ9_copySign_eb370_17 : decode cJ9_copySign_eb370 17 = .ok (.invokestatic 166, 3) := by decide +kernel
theorem dJ9_copySign_eb370_20 : decode cJ9_copySign_eb370 20 = .ok (.dreturn, 1) := by decide +kernel
theorem dJ0_length_8abf5_0 : decode cJ0_length_8abf5 0 = .ok (.aload_n 0, 1) := by decide +kernel
theorem dJ0_length_8abf5_1 : decode cJ0_length_8abf5 1 = .ok (.getfield 9, 3) := by decide +kernel
theorem dJ0_length_8abf5_4 : decode cJ0_length_8abf5 4 = .ok (.arraylength, 1) := by decide +kernel
theorem dJ0_length_8abf5_5 : decode cJ0_length_8abf5 5 = .ok (.aload_n 0, 1) := by decide +kernel
theorem dJ0_length_8abf5_6 : decode cJ0_length_8abf5 6 = .ok (.invokevirtual 335, 3) := by decide +kernel
theorem dJ0_length_8abf5_9 : decode cJ0_length_8abf5 9 = .ok (.ishr, 1) := by decide +kernel
theorem dJ0_length_8abf5_10 : decode cJ0_length_8abf5 10 = .ok (.ireturn, 1) := by decide +kernel
theorem dJ0_indexOf_0f7a4_0 : decode cJ0_indexOf_0f7a4 0 = .ok (.aload_n 0, 1) := by decide +kernel
theorem dJ0_indexOf_0f7a4_1 : decode cJ0_indexOf_0f7a4 1 = .ok (.iload_n 1, 1) := by decide +kernel
theorem dJ0_indexOf_0f7a4_2 : decode cJ0_indexOf_0f7a4 2 = .ok (.iconst 0, 1) := by decide +kernel
theorem dJ0_indexOf_0f7a4_3 : decode cJ0_indexOf_0f7a4 3 = .ok (.invokevirtual 633, 3) := by decide +kernel
theorem dJ0_indexOf_0f7a4_6 : decode cJ0_indexOf_0f7a4 6 = .ok (.ireturn, 1) := by decide +kernel
theorem dJ0_indexOf_7cf53_0 : decode cJ0_indexOf_7cf53 0 = .ok (.aload_n 0, 1) := by decide +kernel
theorem dJ0_indexOf_7cf53_1 : decode cJ0_indexOf_7cf53 1 = .ok (.invokevirtual 492, 3) := by decide +kernel
theorem dJ0_indexOf_7cf53_4 : decode cJ0_indexOf_7cf53 4 = .ok (.ifCond .eq 19, 3) := by decide +kernel
theorem dJ0_indexOf_7cf53_7 : decode cJ0_indexOf_7cf53 7 = .ok (.aload_n 0, 1) := by decide +kernel
theorem dJ0_indexOf_7cf53_8 : decode cJ0_indexOf_7cf53 8 = .ok (.getfield 9, 3) := by decide +kernel
theorem dJ0_indexOf_7cf53_11 : decode cJ0_indexOf_7cf53 11 = .ok (.iload_n 1, 1) := by decide +kernel
theorem dJ0_indexOf_7cf53_12 : decode cJ0_indexOf_7cf53 12 = .ok (.iload_n 2, 1) := by decide +kernel
theorem dJ0_indexOf_7cf53_13 : decode cJ0_indexOf_7cf53 13 = .ok (.aload_n 0, 1) := by decide +kernel
theorem dJ0_indexOf_7cf53_14 : decode cJ0_indexOf_7cf53 14 = .ok (.invokevirtual 505, 3) := by decide +kernel
theorem dJ0_indexOf_7cf53_17 : decode cJ0_indexOf_7cf53 17 = .ok (.invokestatic 637, 3) := by decide +kernel
theorem dJ0_indexOf_7cf53_20 : decode cJ0_indexOf_7cf53 20 = .ok (.goto 16, 3) := by decide +kernel
theorem dJ0_indexOf_7cf53_23 : decode cJ0_indexOf_7cf53 23 = .ok (.aload_n 0, 1) := by decide +kernel
theorem dJ0_indexOf_7cf53_24 : decode cJ0_indexOf_7cf53 24 = .ok (.getfield 9, 3) := by decide +kernel
theorem dJ0_indexOf_7cf53_27 : decode cJ0_indexOf_7cf53 27 = .ok (.iload_n 1, 1) := by decide +kernel
theorem dJ0_indexOf_7cf53_28 : decode cJ0_indexOf_7cf53 28 = .ok (.iload_n 2, 1) := by decide +kernel
theorem dJ0_indexOf_7cf53_29 : decode cJ0_indexOf_7cf53 29 = .ok (.aload_n 0, 1) := by decide +kernel
theorem dJ0_indexOf_7cf53_30 : decode cJ0_indexOf_7cf53 30 = .ok (.invokevirtual 505, 3) := by decide +kernel
theorem dJ0_indexOf_7cf53_33 : decode cJ0_indexOf_7cf53 33 = .ok (.invokestatic 640, 3) := by decide +kernel
theorem dJ0_indexOf_7cf53_36 : decode cJ0_indexOf_7cf53 36 = .ok (.ireturn, 1) := by decide +kernel
theorem dJ0_coder_7d493_0 : decode cJ0_coder_7d493 0 = .ok (.getstatic 38, 3) := by decide +kernel
theorem dJ0_coder_7d493_3 : decode cJ0_coder_7d493 3 = .ok (.ifCond .eq 10, 3) := by decide +kernel
theorem dJ0_coder_7d493_6 : decode cJ0_coder_7d493 6 = .ok (.aload_n 0, 1) := by decide +kernel
theorem dJ0_coder_7d493_7 : decode cJ0_coder_7d493 7 = .ok (.getfield 15, 3) := by decide +kernel
theorem dJ0_coder_7d493_10 : decode cJ0_coder_7d493 10 = .ok (.goto 4, 3) := by decide +kernel
theorem dJ0_coder_7d493_13 : decode cJ0_coder_7d493 13 = .ok (.iconst 1, 1) := by decide +kernel
theorem dJ0_coder_7d493_14 : decode cJ0_coder_7d493 14 = .ok (.ireturn, 1) := by decide +kernel
theorem dJ0_isLatin1_aae02_0 : decode cJ0_isLatin1_aae02 0 = .ok (.getstatic 38, 3) := by decide +kernel
theorem dJ0_isLatin1_aae02_3 : decode cJ0_isLatin1_aae02 3 = .ok (.ifCond .eq 14, 3) := by decide +kernel
theorem dJ0_isLatin1_aae02_6 : decode cJ0_isLatin1_aae02 6 = .ok (.aload_n 0, 1) := by decide +kernel
theorem dJ0_isLatin1_aae02_7 : decode cJ0_isLatin1_aae02 7 = .ok (.getfield 15, 3) := by decide +kernel
theorem dJ0_isLatin1_aae02_10 : decode cJ0_isLatin1_aae02 10 = .ok (.ifCond .ne 7, 3) := by decide +kernel
theorem dJ0_isLatin1_aae02_13 : decode cJ0_isLatin1_aae02 13 = .ok (.iconst 1, 1) := by decide +kernel
theorem dJ0_isLatin1_aae02_14 : decode cJ0_isLatin1_aae02 14 = .ok (.goto 4, 3) := by decide +kernel
theorem dJ0_isLatin1_aae02_17 : decode cJ0_isLatin1_aae02 17 = .ok (.iconst 0, 1) := by decide +kernel
theorem dJ0_isLatin1_aae02_18 : decode cJ0_isLatin1_aae02 18 = .ok (.ireturn, 1) := by decide +kernel
theorem dJ0_checkBoundsBeginEnd_23922_0 : decode cJ0_checkBoundsBeginEnd_23922 0 = .ok (.iload_n 0, 1) := by decide +kernel
theorem dJ0_checkBoundsBeginEnd_23922_1 : decode cJ0_checkBoundsBeginEnd_23922 1 = .ok (.iload_n 1, 1) := by decide +kernel
theorem dJ0_checkBoundsBeginEnd_23922_2 : decode cJ0_checkBoundsBeginEnd_23922 2 = .ok (.iload_n 2, 1) := by decide +kernel
theorem dJ0_checkBoundsBeginEnd_23922_3 : decode cJ0_checkBoundsBeginEnd_23922 3 = .ok (.getstatic 1053, 3) := by decide +kernel
theorem dJ0_checkBoundsBeginEnd_23922_6 : decode cJ0_checkBoundsBeginEnd_23922 6 = .ok (.invokestatic 1062, 3) := by decide +kernel
theorem dJ0_checkBoundsBeginEnd_23922_9 : decode cJ0_checkBoundsBeginEnd_23922 9 = .ok (.pop, 1) := by decide +kernel
theorem dJ0_checkBoundsBeginEnd_23922_10 : decode cJ0_checkBoundsBeginEnd_23922 10 = .ok (.return_, 1) := by decide +kernel
theorem dJ1_canEncode_9a6ad_0 : decode cJ1_canEncode_9a6ad 0 = .ok (.iload_n 0, 1) := by decide +kernel
theorem dJ1_canEncode_9a6ad_1 : decode cJ1_canEncode_9a6ad 1 = .ok (.ifCond .lt 14, 3) := by decide +kernel
theorem dJ1_canEncode_9a6ad_4 : decode cJ1_canEncode_9a6ad 4 = .ok (.iload_n 0, 1) := by decide +kernel
theorem dJ1_canEncode_9a6ad_5 : decode cJ1_canEncode_9a6ad 5 = .ok (.sipush 255, 3) := by decide +kernel
theorem dJ1_canEncode_9a6ad_8 : decode cJ1_canEncode_9a6ad 8 = .ok (.if_icmp .gt 7, 3) := by decide +kernel
theorem dJ1_canEncode_9a6ad_11 : decode cJ1_canEncode_9a6ad 11 = .ok (.iconst 1, 1) := by decide +kernel
theorem dJ1_canEncode_9a6ad_12 : decode cJ1_canEncode_9a6ad 12 = .ok (.goto 4, 3) := by decide +kernel
theorem dJ1_canEncode_9a6ad_15 : decode cJ1_canEncode_9a6ad 15 = .ok (.iconst 0, 1) := by decide +kernel
theorem dJ1_canEncode_9a6ad_16 : decode cJ1_canEncode_9a6ad 16 = .ok (.ireturn, 1) := by decide +kernel
theorem dJ1_indexOf_4cfef_0 : decode cJ1_indexOf_4cfef 0 = .ok (.iload_n 1, 1) := by decide +kernel
theorem dJ1_indexOf_4cfef_1 : decode cJ1_indexOf_4cfef 1 = .ok (.invokestatic 88, 3) := by decide +kernel
theorem dJ1_indexOf_4cfef_4 : decode cJ1_indexOf_4cfef 4 = .ok (.ifCond .ne 5, 3) := by decide +kernel
theorem dJ1_indexOf_4cfef_7 : decode cJ1_indexOf_4cfef 7 = .ok (.iconst (-1), 1) := by decide +kernel
theorem dJ1_indexOf_4cfef_8 : decode cJ1_indexOf_4cfef 8 = .ok (.ireturn, 1) := by decide +kernel
theorem dJ1_indexOf_4cfef_9 : decode cJ1_indexOf_4cfef 9 = .ok (.iload_n 2, 1) := by decide +kernel
theorem dJ1_indexOf_4cfef_10 : decode cJ1_indexOf_4cfef 10 = .ok (.iconst 0, 1) := by decide +kernel
theorem dJ1_indexOf_4cfef_11 : decode cJ1_indexOf_4cfef 11 = .ok (.invokestatic 92, 3) := by decide +kernel
theorem dJ1_indexOf_4cfef_14 : decode cJ1_indexOf_4cfef 14 = .ok (.istore_n 2, 1) := by decide +kernel
theorem dJ1_indexOf_4cfef_15 : decode cJ1_indexOf_4cfef 15 = .ok (.iload_n 3, 1) := by decide +kernel
theorem dJ1_indexOf_4cfef_16 : decode cJ1_indexOf_4cfef 16 = .ok (.aload_n 0, 1) := by decide +kernel
theorem dJ1_indexOf_4cfef_17 : decode cJ1_indexOf_4cfef 17 = .ok (.arraylength, 1) := by decide +kernel
theorem dJ1_indexOf_4cfef_18 : decode cJ1_indexOf_4cfef 18 = .ok (.invokestatic 38, 3) := by decide +kernel
theorem dJ1_indexOf_4cfef_21 : decode cJ1_indexOf_4cfef 21 = .ok (.istore_n 3, 1) := by decide +kernel
theorem dJ1_indexOf_4cfef_22 : decode cJ1_indexOf_4cfef 22 = .ok (.iload_n 2, 1) := by decide +kernel
theorem dJ1_indexOf_4cfef_23 : decode cJ1_indexOf_4cfef 23 = .ok (.iload_n 3, 1) := by decide +kernel
theorem dJ1_indexOf_4cfef_24 : decode cJ1_indexOf_4cfef 24 = .ok (.if_icmp .lt 5, 3) := by decide +kernel
theorem dJ1_indexOf_4cfef_27 : decode cJ1_indexOf_4cfef 27 = .ok (.iconst (-1), 1) := by decide +kernel
theorem dJ1_indexOf_4cfef_28 : decode cJ1_indexOf_4cfef 28 = .ok (.ireturn, 1) := by decide +kernel
theorem dJ1_indexOf_4cfef_29 : decode cJ1_indexOf_4cfef 29 = .ok (.aload_n 0, 1) := by decide +kernel
theorem dJ1_indexOf_4cfef_30 : decode cJ1_indexOf_4cfef 30 = .ok (.iload_n 1, 1) := by decide +kernel
theorem dJ1_indexOf_4cfef_31 : decode cJ1_indexOf_4cfef 31 = .ok (.iload_n 2, 1) := by decide +kernel
theorem dJ1_indexOf_4cfef_32 : decode cJ1_indexOf_4cfef 32 = .ok (.iload_n 3, 1) := by decide +kernel
theorem dJ1_indexOf_4cfef_33 : decode cJ1_indexOf_4cfef 33 = .ok (.invokestatic 95, 3) := by decide +kernel
theorem dJ1_indexOf_4cfef_36 : decode cJ1_indexOf_4cfef 36 = .ok (.ireturn, 1) := by decide +kernel
theorem dJ1_indexOfChar_4cfef_0 : decode cJ1_indexOfChar_4cfef 0 = .ok (.iload_n 1, 1) := by decide +kernel
theorem dJ1_indexOfChar_4cfef_1 : decode cJ1_indexOfChar_4cfef 1 = .ok (.i2b, 1) := by decide +kernel
theorem dJ1_indexOfChar_4cfef_2 : decode cJ1_indexOfChar_4cfef 2 = .ok (.istore 4, 2) := by decide +kernel
theorem dJ1_indexOfChar_4cfef_4 : decode cJ1_indexOfChar_4cfef 4 = .ok (.iload_n 2, 1) := by decide +kernel
theorem dJ1_indexOfChar_4cfef_5 : decode cJ1_indexOfChar_4cfef 5 = .ok (.istore 5, 2) := by decide +kernel
theorem dJ1_indexOfChar_4cfef_7 : decode cJ1_indexOfChar_4cfef 7 = .ok (.iload 5, 2) := by decide +kernel
theorem dJ1_indexOfChar_4cfef_9 : decode cJ1_indexOfChar_4cfef 9 = .ok (.iload_n 3, 1) := by decide +kernel
theorem dJ1_indexOfChar_4cfef_10 : decode cJ1_indexOfChar_4cfef 10 = .ok (.if_icmp .ge 21, 3) := by decide +kernel
theorem dJ1_indexOfChar_4cfef_13 : decode cJ1_indexOfChar_4cfef 13 = .ok (.aload_n 0, 1) := by decide +kernel
theorem dJ1_indexOfChar_4cfef_14 : decode cJ1_indexOfChar_4cfef 14 = .ok (.iload 5, 2) := by decide +kernel
theorem dJ1_indexOfChar_4cfef_16 : decode cJ1_indexOfChar_4cfef 16 = .ok (.baload, 1) := by decide +kernel
theorem dJ1_indexOfChar_4cfef_17 : decode cJ1_indexOfChar_4cfef 17 = .ok (.iload 4, 2) := by decide +kernel
theorem dJ1_indexOfChar_4cfef_19 : decode cJ1_indexOfChar_4cfef 19 = .ok (.if_icmp .ne 6, 3) := by decide +kernel
theorem dJ1_indexOfChar_4cfef_22 : decode cJ1_indexOfChar_4cfef 22 = .ok (.iload 5, 2) := by decide +kernel
theorem dJ1_indexOfChar_4cfef_24 : decode cJ1_indexOfChar_4cfef 24 = .ok (.ireturn, 1) := by decide +kernel
theorem dJ1_indexOfChar_4cfef_25 : decode cJ1_indexOfChar_4cfef 25 = .ok (.iinc 5 1, 3) := by decide +kernel
theorem dJ1_indexOfChar_4cfef_28 : decode cJ1_indexOfChar_4cfef 28 = .ok (.goto (-21), 3) := by decide +kernel
theorem dJ1_indexOfChar_4cfef_31 : decode cJ1_indexOfChar_4cfef 31 = .ok (.iconst (-1), 1) := by decide +kernel
theorem dJ1_indexOfChar_4cfef_32 : decode cJ1_indexOfChar_4cfef 32 = .ok (.ireturn, 1) := by decide +kernel
theorem dJ2_getChar_3b067_0 : decode cJ2_getChar_3b067 0 = .ok (.getstatic 44, 3) := by decide +kernel
theorem dJ2_getChar_3b067_3 : decode cJ2_getChar_3b067 3 = .ok (.ifCond .ne 25, 3) := by decide +kernel
theorem dJ2_getChar_3b067_6 : decode cJ2_getChar_3b067 6 = .ok (.iload_n 1, 1) := by decide +kernel
theorem dJ2_getChar_3b067_7 : decode cJ2_getChar_3b067 7 = .ok (.ifCond .lt 11, 3) := by decide +kernel
theorem dJ2_getChar_3b067_10 : decode cJ2_getChar_3b067 10 = .ok (.iload_n 1, 1) := by decide +kernel
theorem dJ2_getChar_3b067_11 : decode cJ2_getChar_3b067 11 = .ok (.aload_n 0, 1) := by decide +kernel
theorem dJ2_getChar_3b067_12 : decode cJ2_getChar_3b067 12 = .ok (.invokestatic 48, 3) := by decide +kernel
theorem dJ2_getChar_3b067_15 : decode cJ2_getChar_3b067 15 = .ok (.if_icmp .lt 13, 3) := by decide +kernel
theorem dJ2_getChar_3b067_18 : decode cJ2_getChar_3b067 18 = .ok (.new 52, 3) := by decide +kernel
theorem dJ2_getChar_3b067_21 : decode cJ2_getChar_3b067 21 = .ok (.dup, 1) := by decide +kernel
theorem dJ2_getChar_3b067_22 : decode cJ2_getChar_3b067 22 = .ok (.ldc 54, 2) := by decide +kernel
theorem dJ2_getChar_3b067_24 : decode cJ2_getChar_3b067 24 = .ok (.invokespecial 56, 3) := by decide +kernel
theorem dJ2_getChar_3b067_27 : decode cJ2_getChar_3b067 27 = .ok (.athrow, 1) := by decide +kernel
theorem dJ2_getChar_3b067_28 : decode cJ2_getChar_3b067 28 = .ok (.iload_n 1, 1) := by decide +kernel
theorem dJ2_getChar_3b067_29 : decode cJ2_getChar_3b067 29 = .ok (.iconst 1, 1) := by decide +kernel
theorem dJ2_getChar_3b067_30 : decode cJ2_getChar_3b067 30 = .ok (.ishl, 1) := by decide +kernel
theorem dJ2_getChar_3b067_31 : decode cJ2_getChar_3b067 31 = .ok (.istore_n 1, 1) := by decide +kernel
theorem dJ2_getChar_3b067_32 : decode cJ2_getChar_3b067 32 = .ok (.aload_n 0, 1) := by decide +kernel
theorem dJ2_getChar_3b067_33 : decode cJ2_getChar_3b067 33 = .ok (.iload_n 1, 1) := by decide +kernel
theorem dJ2_getChar_3b067_34 : decode cJ2_getChar_3b067 34 = .ok (.iinc 1 1, 3) := by decide +kernel
theorem dJ2_getChar_3b067_37 : decode cJ2_getChar_3b067 37 = .ok (.baload, 1) := by decide +kernel
theorem dJ2_getChar_3b067_38 : decode cJ2_getChar_3b067 38 = .ok (.sipush 255, 3) := by decide +kernel
theorem dJ2_getChar_3b067_41 : decode cJ2_getChar_3b067 41 = .ok (.iand, 1) := by decide +kernel
theorem dJ2_getChar_3b067_42 : decode cJ2_getChar_3b067 42 = .ok (.getstatic 59, 3) := by decide +kernel
theorem dJ2_getChar_3b067_45 : decode cJ2_getChar_3b067 45 = .ok (.ishl, 1) := by decide +kernel
theorem dJ2_getChar_3b067_46 : decode cJ2_getChar_3b067 46 = .ok (.aload_n 0, 1) := by decide +kernel
theorem dJ2_getChar_3b067_47 : decode cJ2_getChar_3b067 47 = .ok (.iload_n 1, 1) := by decide +kernel
theorem dJ2_getChar_3b067_48 : decode cJ2_getChar_3b067 48 = .ok (.baload, 1) := by decide +kernel
theorem dJ2_getChar_3b067_49 : decode cJ2_getChar_3b067 49 = .ok (.sipush 255, 3) := by decide +kernel
theorem dJ2_getChar_3b067_52 : decode cJ2_getChar_3b067 52 = .ok (.iand, 1) := by decide +kernel
theorem dJ2_getChar_3b067_53 : decode cJ2_getChar_3b067 53 = .ok (.getstatic 63, 3) := by decide +kernel
theorem dJ2_getChar_3b067_56 : decode cJ2_getChar_3b067 56 = .ok (.ishl, 1) := by decide +kernel
theorem dJ2_getChar_3b067_57 : decode cJ2_getChar_3b067 57 = .ok (.ior, 1) := by decide +kernel
theorem dJ2_getChar_3b067_58 : decode cJ2_getChar_3b067 58 = .ok (.i2c, 1) := by decide +kernel
theorem dJ2_getChar_3b067_59 : decode cJ2_getChar_3b067 59 = .ok (.ireturn, 1) := by decide +kernel
theorem dJ2_length_9d52b_0 : decode cJ2_length_9d52b 0 = .ok (.aload_n 0, 1) := by decide +kernel
theorem dJ2_length_9d52b_1 : decode cJ2_length_9d52b 1 = .ok (.arraylength, 1) := by decide +kernel
theorem dJ2_length_9d52b_2 : decode cJ2_length_9d52b 2 = .ok (.iconst 1, 1) := by decide +kernel
theorem dJ2_length_9d52b_3 : decode cJ2_length_9d52b 3 = .ok (.ishr, 1) := by decide +kernel
theorem dJ2_length_9d52b_4 : decode cJ2_length_9d52b 4 = .ok (.ireturn, 1) := by decide +kernel
theorem dJ2_indexOf_4cfef_0 : decode cJ2_indexOf_4cfef 0 = .ok (.iload_n 2, 1) := by decide +kernel
theorem dJ2_indexOf_4cfef_1 : decode cJ2_indexOf_4cfef 1 = .ok (.iconst 0, 1) := by decide +kernel
theorem dJ2_indexOf_4cfef_2 : decode cJ2_indexOf_4cfef 2 = .ok (.invokestatic 224, 3) := by decide +kernel
theorem dJ2_indexOf_4cfef_5 : decode cJ2_indexOf_4cfef 5 = .ok (.istore_n 2, 1) := by decide +kernel
theorem dJ2_indexOf_4cfef_6 : decode cJ2_indexOf_4cfef 6 = .ok (.iload_n 3, 1) := by decide +kernel
theorem dJ2_indexOf_4cfef_7 : decode cJ2_indexOf_4cfef 7 = .ok (.aload_n 0, 1) := by decide +kernel
theorem dJ2_indexOf_4cfef_8 : decode cJ2_indexOf_4cfef 8 = .ok (.arraylength, 1) := by decide +kernel
theorem dJ2_indexOf_4cfef_9 : decode cJ2_indexOf_4cfef 9 = .ok (.iconst 1, 1) := by decide +kernel
theorem dJ2_indexOf_4cfef_10 : decode cJ2_indexOf_4cfef 10 = .ok (.ishr, 1) := by decide +kernel
theorem dJ2_indexOf_4cfef_11 : decode cJ2_indexOf_4cfef 11 = .ok (.invokestatic 183, 3) := by decide +kernel
theorem dJ2_indexOf_4cfef_14 : decode cJ2_indexOf_4cfef 14 = .ok (.istore_n 3, 1) := by decide +kernel
theorem dJ2_indexOf_4cfef_15 : decode cJ2_indexOf_4cfef 15 = .ok (.iload_n 2, 1) := by decide +kernel
theorem dJ2_indexOf_4cfef_16 : decode cJ2_indexOf_4cfef 16 = .ok (.iload_n 3, 1) := by decide +kernel
theorem dJ2_indexOf_4cfef_17 : decode cJ2_indexOf_4cfef 17 = .ok (.if_icmp .lt 5, 3) := by decide +kernel
theorem dJ2_indexOf_4cfef_20 : decode cJ2_indexOf_4cfef 20 = .ok (.iconst (-1), 1) := by decide +kernel
theorem dJ2_indexOf_4cfef_21 : decode cJ2_indexOf_4cfef 21 = .ok (.ireturn, 1) := by decide +kernel
theorem dJ2_indexOf_4cfef_22 : decode cJ2_indexOf_4cfef 22 = .ok (.iload_n 1, 1) := by decide +kernel
theorem dJ2_indexOf_4cfef_23 : decode cJ2_indexOf_4cfef 23 = .ok (.ldc 227, 2) := by decide +kernel
theorem dJ2_indexOf_4cfef_25 : decode cJ2_indexOf_4cfef 25 = .ok (.if_icmp .ge 11, 3) := by decide +kernel
theorem dJ2_indexOf_4cfef_28 : decode cJ2_indexOf_4cfef 28 = .ok (.aload_n 0, 1) := by decide +kernel
theorem dJ2_indexOf_4cfef_29 : decode cJ2_indexOf_4cfef 29 = .ok (.iload_n 1, 1) := by decide +kernel
theorem dJ2_indexOf_4cfef_30 : decode cJ2_indexOf_4cfef 30 = .ok (.iload_n 2, 1) := by decide +kernel
theorem dJ2_indexOf_4cfef_31 : decode cJ2_indexOf_4cfef 31 = .ok (.iload_n 3, 1) := by decide +kernel
theorem dJ2_indexOf_4cfef_32 : decode cJ2_indexOf_4cfef 32 = .ok (.invokestatic 228, 3) := by decide +kernel
theorem dJ2_indexOf_4cfef_35 : decode cJ2_indexOf_4cfef 35 = .ok (.ireturn, 1) := by decide +kernel
theorem dJ2_indexOf_4cfef_36 : decode cJ2_indexOf_4cfef 36 = .ok (.aload_n 0, 1) := by decide +kernel
theorem dJ2_indexOf_4cfef_37 : decode cJ2_indexOf_4cfef 37 = .ok (.iload_n 1, 1) := by decide +kernel
theorem dJ2_indexOf_4cfef_38 : decode cJ2_indexOf_4cfef 38 = .ok (.iload_n 2, 1) := by decide +kernel
theorem dJ2_indexOf_4cfef_39 : decode cJ2_indexOf_4cfef 39 = .ok (.iload_n 3, 1) := by decide +kernel
theorem dJ2_indexOf_4cfef_40 : decode cJ2_indexOf_4cfef 40 = .ok (.invokestatic 232, 3) := by decide +kernel
theorem dJ2_indexOf_4cfef_43 : decode cJ2_indexOf_4cfef 43 = .ok (.ireturn, 1) := by decide +kernel
theorem dJ2_indexOfChar_4cfef_0 : decode cJ2_indexOfChar_4cfef 0 = .ok (.iload_n 2, 1) := by decide +kernel
theorem dJ2_indexOfChar_4cfef_1 : decode cJ2_indexOfChar_4cfef 1 = .ok (.iload_n 3, 1) := by decide +kernel
theorem dJ2_indexOfChar_4cfef_2 : decode cJ2_indexOfChar_4cfef 2 = .ok (.aload_n 0, 1) := by decide +kernel
theorem dJ2_indexOfChar_4cfef_3 : decode cJ2_indexOfChar_4cfef 3 = .ok (.invokestatic 96, 3) := by decide +kernel
theorem dJ2_indexOfChar_4cfef_6 : decode cJ2_indexOfChar_4cfef 6 = .ok (.aload_n 0, 1) := by decide +kernel
theorem dJ2_indexOfChar_4cfef_7 : decode cJ2_indexOfChar_4cfef 7 = .ok (.iload_n 1, 1) := by decide +kernel
theorem dJ2_indexOfChar_4cfef_8 : decode cJ2_indexOfChar_4cfef 8 = .ok (.iload_n 2, 1) := by decide +kernel
theorem dJ2_indexOfChar_4cfef_9 : decode cJ2_indexOfChar_4cfef 9 = .ok (.iload_n 3, 1) := by decide +kernel
theorem dJ2_indexOfChar_4cfef_10 : decode cJ2_indexOfChar_4cfef 10 = .ok (.invokestatic 244, 3) := by decide +kernel
theorem dJ2_indexOfChar_4cfef_13 : decode cJ2_indexOfChar_4cfef 13 = .ok (.ireturn, 1) := by decide +kernel
theorem dJ2_indexOfCharUnsafe_4cfef_0 : decode cJ2_indexOfCharUnsafe_4cfef 0 = .ok (.iload_n 2, 1) := by decide +kernel
theorem dJ2_indexOfCharUnsafe_4cfef_1 : decode cJ2_indexOfCharUnsafe_4cfef 1 = .ok (.istore 4, 2) := by decide +kernel
theorem dJ2_indexOfCharUnsafe_4cfef_3 : decode cJ2_indexOfCharUnsafe_4cfef 3 = .ok (.iload 4, 2) := by decide +kernel
theorem dJ2_indexOfCharUnsafe_4cfef_5 : decode cJ2_indexOfCharUnsafe_4cfef 5 = .ok (.iload_n 3, 1) := by decide +kernel
theorem dJ2_indexOfCharUnsafe_4cfef_6 : decode cJ2_indexOfCharUnsafe_4cfef 6 = .ok (.if_icmp .ge 22, 3) := by decide +kernel
theorem dJ2_indexOfCharUnsafe_4cfef_9 : decode cJ2_indexOfCharUnsafe_4cfef 9 = .ok (.aload_n 0, 1) := by decide +kernel
theorem dJ2_indexOfCharUnsafe_4cfef_10 : decode cJ2_indexOfCharUnsafe_4cfef 10 = .ok (.iload 4, 2) := by decide +kernel
theorem dJ2_indexOfCharUnsafe_4cfef_12 : decode cJ2_indexOfCharUnsafe_4cfef 12 = .ok (.invokestatic 71, 3) := by decide +kernel
theorem dJ2_indexOfCharUnsafe_4cfef_15 : decode cJ2_indexOfCharUnsafe_4cfef 15 = .ok (.iload_n 1, 1) := by decide +kernel
theorem dJ2_indexOfCharUnsafe_4cfef_16 : decode cJ2_indexOfCharUnsafe_4cfef 16 = .ok (.if_icmp .ne 6, 3) := by decide +kernel
theorem dJ2_indexOfCharUnsafe_4cfef_19 : decode cJ2_indexOfCharUnsafe_4cfef 19 = .ok (.iload 4, 2) := by decide +kernel
theorem dJ2_indexOfCharUnsafe_4cfef_21 : decode cJ2_indexOfCharUnsafe_4cfef 21 = .ok (.ireturn, 1) := by decide +kernel
theorem dJ2_indexOfCharUnsafe_4cfef_22 : decode cJ2_indexOfCharUnsafe_4cfef 22 = .ok (.iinc 4 1, 3) := by decide +kernel
theorem dJ2_indexOfCharUnsafe_4cfef_25 : decode cJ2_indexOfCharUnsafe_4cfef 25 = .ok (.goto (-22), 3) := by decide +kernel
theorem dJ2_indexOfCharUnsafe_4cfef_28 : decode cJ2_indexOfCharUnsafe_4cfef 28 = .ok (.iconst (-1), 1) := by decide +kernel
theorem dJ2_indexOfCharUnsafe_4cfef_29 : decode cJ2_indexOfCharUnsafe_4cfef 29 = .ok (.ireturn, 1) := by decide +kernel
theorem dJ2_indexOfSupplementary_4cfef_0 : decode cJ2_indexOfSupplementary_4cfef 0 = .ok (.iload_n 1, 1) := by decide +kernel
theorem dJ2_indexOfSupplementary_4cfef_1 : decode cJ2_indexOfSupplementary_4cfef 1 = .ok (.invokestatic 164, 3) := by decide +kernel
theorem dJ2_indexOfSupplementary_4cfef_4 : decode cJ2_indexOfSupplementary_4cfef 4 = .ok (.ifCond .eq 65, 3) := by decide +kernel
theorem dJ2_indexOfSupplementary_4cfef_7 : decode cJ2_indexOfSupplementary_4cfef 7 = .ok (.iload_n 1, 1) := by decide +kernel
theorem dJ2_indexOfSupplementary_4cfef_8 : decode cJ2_indexOfSupplementary_4cfef 8 = .ok (.invokestatic 157, 3) := by decide +kernel
theorem dJ2_indexOfSupplementary_4cfef_11 : decode cJ2_indexOfSupplementary_4cfef 11 = .ok (.istore 4, 2) := by decide +kernel
theorem dJ2_indexOfSupplementary_4cfef_13 : decode cJ2_indexOfSupplementary_4cfef 13 = .ok (.iload_n 1, 1) := by decide +kernel
theorem dJ2_indexOfSupplementary_4cfef_14 : decode cJ2_indexOfSupplementary_4cfef 14 = .ok (.invokestatic 161, 3) := by decide +kernel
theorem dJ2_indexOfSupplementary_4cfef_17 : decode cJ2_indexOfSupplementary_4cfef 17 = .ok (.istore 5, 2) := by decide +kernel
theorem dJ2_indexOfSupplementary_4cfef_19 : decode cJ2_indexOfSupplementary_4cfef 19 = .ok (.iload_n 2, 1) := by decide +kernel
theorem dJ2_indexOfSupplementary_4cfef_20 : decode cJ2_indexOfSupplementary_4cfef 20 = .ok (.iload_n 3, 1) := by decide +kernel
theorem dJ2_indexOfSupplementary_4cfef_21 : decode cJ2_indexOfSupplementary_4cfef 21 = .ok (.aload_n 0, 1) := by decide +kernel
theorem dJ2_indexOfSupplementary_4cfef_22 : decode cJ2_indexOfSupplementary_4cfef 22 = .ok (.invokestatic 96, 3) := by decide +kernel
theorem dJ2_indexOfSupplementary_4cfef_25 : decode cJ2_indexOfSupplementary_4cfef 25 = .ok (.iload_n 2, 1) := by decide +kernel
theorem dJ2_indexOfSupplementary_4cfef_26 : decode cJ2_indexOfSupplementary_4cfef 26 = .ok (.istore 6, 2) := by decide +kernel
theorem dJ2_indexOfSupplementary_4cfef_28 : decode cJ2_indexOfSupplementary_4cfef 28 = .ok (.iload 6, 2) := by decide +kernel
theorem dJ2_indexOfSupplementary_4cfef_30 : decode cJ2_indexOfSupplementary_4cfef 30 = .ok (.iload_n 3, 1) := by decide +kernel
theorem dJ2_indexOfSupplementary_4cfef_31 : decode cJ2_indexOfSupplementary_4cfef 31 = .ok (.iconst 1, 1) := by decide +kernel
theorem dJ2_indexOfSupplementary_4cfef_32 : decode cJ2_indexOfSupplementary_4cfef 32 = .ok (.isub, 1) := by decide +kernel
theorem dJ2_indexOfSupplementary_4cfef_33 : decode cJ2_indexOfSupplementary_4cfef 33 = .ok (.if_icmp .ge 36, 3) := by decide +kernel
theorem dJ2_indexOfSupplementary_4cfef_36 : decode cJ2_indexOfSupplementary_4cfef 36 = .ok (.aload_n 0, 1) := by decide +kernel
theorem dJ2_indexOfSupplementary_4cfef_37 : decode cJ2_indexOfSupplementary_4cfef 37 = .ok (.iload 6, 2) := by decide +kernel
theorem dJ2_indexOfSupplementary_4cfef_39 : decode cJ2_indexOfSupplementary_4cfef 39 = .ok (.invokestatic 71, 3) := by decide +kernel
theorem dJ2_indexOfSupplementary_4cfef_42 : decode cJ2_indexOfSupplementary_4cfef 42 = .ok (.iload 4, 2) := by decide +kernel
theorem dJ2_indexOfSupplementary_4cfef_44 : decode cJ2_indexOfSupplementary_4cfef 44 = .ok (.if_icmp .ne 19, 3) := by decide +kernel
theorem dJ2_indexOfSupplementary_4cfef_47 : decode cJ2_indexOfSupplementary_4cfef 47 = .ok (.aload_n 0, 1) := by decide +kernel
theorem dJ2_indexOfSupplementary_4cfef_48 : decode cJ2_indexOfSupplementary_4cfef 48 = .ok (.iload 6, 2) := by decide +kernel
theorem dJ2_indexOfSupplementary_4cfef_50 : decode cJ2_indexOfSupplementary_4cfef 50 = .ok (.iconst 1, 1) := by decide +kernel
theorem dJ2_indexOfSupplementary_4cfef_51 : decode cJ2_indexOfSupplementary_4cfef 51 = .ok (.iadd, 1) := by decide +kernel
theorem dJ2_indexOfSupplementary_4cfef_52 : decode cJ2_indexOfSupplementary_4cfef 52 = .ok (.invokestatic 71, 3) := by decide +kernel
theorem dJ2_indexOfSupplementary_4cfef_55 : decode cJ2_indexOfSupplementary_4cfef 55 = .ok (.iload 5, 2) := by decide +kernel
theorem dJ2_indexOfSupplementary_4cfef_57 : decode cJ2_indexOfSupplementary_4cfef 57 = .ok (.if_icmp .ne 6, 3) := by decide +kernel
theorem dJ2_indexOfSupplementary_4cfef_60 : decode cJ2_indexOfSupplementary_4cfef 60 = .ok (.iload 6, 2) := by decide +kernel
theorem dJ2_indexOfSupplementary_4cfef_62 : decode cJ2_indexOfSupplementary_4cfef 62 = .ok (.ireturn, 1) := by decide +kernel
theorem dJ2_indexOfSupplementary_4cfef_63 : decode cJ2_indexOfSupplementary_4cfef 63 = .ok (.iinc 6 1, 3) := by decide +kernel
theorem dJ2_indexOfSupplementary_4cfef_66 : decode cJ2_indexOfSupplementary_4cfef 66 = .ok (.goto (-38), 3) := by decide +kernel
theorem dJ2_indexOfSupplementary_4cfef_69 : decode cJ2_indexOfSupplementary_4cfef 69 = .ok (.iconst (-1), 1) := by decide +kernel
theorem dJ2_indexOfSupplementary_4cfef_70 : decode cJ2_indexOfSupplementary_4cfef 70 = .ok (.ireturn, 1) := by decide +kernel
theorem dJ2_checkBoundsBeginEnd_d044e_0 : decode cJ2_checkBoundsBeginEnd_d044e 0 = .ok (.iload_n 0, 1) := by decide +kernel
theorem dJ2_checkBoundsBeginEnd_d044e_1 : decode cJ2_checkBoundsBeginEnd_d044e 1 = .ok (.iload_n 1, 1) := by decide +kernel
theorem dJ2_checkBoundsBeginEnd_d044e_2 : decode cJ2_checkBoundsBeginEnd_d044e 2 = .ok (.aload_n 2, 1) := by decide +kernel
theorem dJ2_checkBoundsBeginEnd_d044e_3 : decode cJ2_checkBoundsBeginEnd_d044e 3 = .ok (.invokestatic 48, 3) := by decide +kernel
theorem dJ2_checkBoundsBeginEnd_d044e_6 : decode cJ2_checkBoundsBeginEnd_d044e 6 = .ok (.invokestatic 241, 3) := by decide +kernel
theorem dJ2_checkBoundsBeginEnd_d044e_9 : decode cJ2_checkBoundsBeginEnd_d044e 9 = .ok (.return_, 1) := by decide +kernel
theorem dJ7_fill_53178_0 : decode cJ7_fill_53178 0 = .ok (.iconst 0, 1) := by decide +kernel
theorem dJ7_fill_53178_1 : decode cJ7_fill_53178 1 = .ok (.istore_n 2, 1) := by decide +kernel
theorem dJ7_fill_53178_2 : decode cJ7_fill_53178 2 = .ok (.aload_n 0, 1) := by decide +kernel
theorem dJ7_fill_53178_3 : decode cJ7_fill_53178 3 = .ok (.arraylength, 1) := by decide +kernel
theorem dJ7_fill_53178_4 : decode cJ7_fill_53178 4 = .ok (.istore_n 3, 1) := by decide +kernel
theorem dJ7_fill_53178_5 : decode cJ7_fill_53178 5 = .ok (.iload_n 2, 1) := by decide +kernel
theorem dJ7_fill_53178_6 : decode cJ7_fill_53178 6 = .ok (.iload_n 3, 1) := by decide +kernel
theorem dJ7_fill_53178_7 : decode cJ7_fill_53178 7 = .ok (.if_icmp .ge 13, 3) := by decide +kernel
theorem dJ7_fill_53178_10 : decode cJ7_fill_53178 10 = .ok (.aload_n 0, 1) := by decide +kernel
theorem dJ7_fill_53178_11 : decode cJ7_fill_53178 11 = .ok (.iload_n 2, 1) := by decide +kernel
theorem dJ7_fill_53178_12 : decode cJ7_fill_53178 12 = .ok (.iload_n 1, 1) := by decide +kernel
theorem dJ7_fill_53178_13 : decode cJ7_fill_53178 13 = .ok (.iastore, 1) := by decide +kernel
theorem dJ7_fill_53178_14 : decode cJ7_fill_53178 14 = .ok (.iinc 2 1, 3) := by decide +kernel
theorem dJ7_fill_53178_17 : decode cJ7_fill_53178 17 = .ok (.goto (-12), 3) := by decide +kernel
theorem dJ7_fill_53178_20 : decode cJ7_fill_53178 20 = .ok (.return_, 1) := by decide +kernel
theorem dJ7_copyOf_59c91_0 : decode cJ7_copyOf_59c91 0 = .ok (.iload_n 1, 1) := by decide +kernel
theorem dJ7_copyOf_59c91_1 : decode cJ7_copyOf_59c91 1 = .ok (.aload_n 0, 1) := by decide +kernel
theorem dJ7_copyOf_59c91_2 : decode cJ7_copyOf_59c91 2 = .ok (.arraylength, 1) := by decide +kernel
theorem dJ7_copyOf_59c91_3 : decode cJ7_copyOf_59c91 3 = .ok (.if_icmp .ne 11, 3) := by decide +kernel
theorem dJ7_copyOf_59c91_6 : decode cJ7_copyOf_59c91 6 = .ok (.aload_n 0, 1) := by decide +kernel
theorem dJ7_copyOf_59c91_7 : decode cJ7_copyOf_59c91 7 = .ok (.invokevirtual 316, 3) := by decide +kernel
theorem dJ7_copyOf_59c91_10 : decode cJ7_copyOf_59c91 10 = .ok (.checkcast 317, 3) := by decide +kernel
theorem dJ7_copyOf_59c91_13 : decode cJ7_copyOf_59c91 13 = .ok (.areturn, 1) := by decide +kernel
theorem dJ7_copyOf_59c91_14 : decode cJ7_copyOf_59c91 14 = .ok (.iload_n 1, 1) := by decide +kernel
theorem dJ7_copyOf_59c91_15 : decode cJ7_copyOf_59c91 15 = .ok (.newarray .int, 2) := by decide +kernel
theorem dJ7_copyOf_59c91_17 : decode cJ7_copyOf_59c91 17 = .ok (.astore_n 2, 1) := by decide +kernel
theorem dJ7_copyOf_59c91_18 : decode cJ7_copyOf_59c91 18 = .ok (.aload_n 0, 1) := by decide +kernel
theorem dJ7_copyOf_59c91_19 : decode cJ7_copyOf_59c91 19 = .ok (.iconst 0, 1) := by decide +kernel
theorem dJ7_copyOf_59c91_20 : decode cJ7_copyOf_59c91 20 = .ok (.aload_n 2, 1) := by decide +kernel
theorem dJ7_copyOf_59c91_21 : decode cJ7_copyOf_59c91 21 = .ok (.iconst 0, 1) := by decide +kernel
theorem dJ7_copyOf_59c91_22 : decode cJ7_copyOf_59c91 22 = .ok (.aload_n 0, 1) := by decide +kernel
theorem dJ7_copyOf_59c91_23 : decode cJ7_copyOf_59c91 23 = .ok (.arraylength, 1) := by decide +kernel
theorem dJ7_copyOf_59c91_24 : decode cJ7_copyOf_59c91 24 = .ok (.iload_n 1, 1) := by decide +kernel
theorem dJ7_copyOf_59c91_25 : decode cJ7_copyOf_59c91 25 = .ok (.invokestatic 304, 3) := by decide +kernel
theorem dJ7_copyOf_59c91_28 : decode cJ7_copyOf_59c91 28 = .ok (.invokestatic 150, 3) := by decide +kernel
theorem dJ7_copyOf_59c91_31 : decode cJ7_copyOf_59c91 31 = .ok (.aload_n 2, 1) := by decide +kernel
theorem dJ7_copyOf_59c91_32 : decode cJ7_copyOf_59c91 32 = .ok (.areturn, 1) := by decide +kernel
theorem dJ3_checkFromToIndex_8c36e_0 : decode cJ3_checkFromToIndex_8c36e 0 = .ok (.iload_n 0, 1) := by decide +kernel
theorem dJ3_checkFromToIndex_8c36e_1 : decode cJ3_checkFromToIndex_8c36e 1 = .ok (.ifCond .lt 13, 3) := by decide +kernel
theorem dJ3_checkFromToIndex_8c36e_4 : decode cJ3_checkFromToIndex_8c36e 4 = .ok (.iload_n 0, 1) := by decide +kernel
theorem dJ3_checkFromToIndex_8c36e_5 : decode cJ3_checkFromToIndex_8c36e 5 = .ok (.iload_n 1, 1) := by decide +kernel
theorem dJ3_checkFromToIndex_8c36e_6 : decode cJ3_checkFromToIndex_8c36e 6 = .ok (.if_icmp .gt 8, 3) := by decide +kernel
theorem dJ3_checkFromToIndex_8c36e_9 : decode cJ3_checkFromToIndex_8c36e 9 = .ok (.iload_n 1, 1) := by decide +kernel
theorem dJ3_checkFromToIndex_8c36e_10 : decode cJ3_checkFromToIndex_8c36e 10 = .ok (.iload_n 2, 1) := by decide +kernel
theorem dJ3_checkFromToIndex_8c36e_11 : decode cJ3_checkFromToIndex_8c36e 11 = .ok (.if_icmp .le 11, 3) := by decide +kernel
theorem dJ3_checkFromToIndex_8c36e_14 : decode cJ3_checkFromToIndex_8c36e 14 = .ok (.aload_n 3, 1) := by decide +kernel
theorem dJ3_checkFromToIndex_8c36e_15 : decode cJ3_checkFromToIndex_8c36e 15 = .ok (.iload_n 0, 1) := by decide +kernel
theorem dJ3_checkFromToIndex_8c36e_16 : decode cJ3_checkFromToIndex_8c36e 16 = .ok (.iload_n 1, 1) := by decide +kernel
theorem dJ3_checkFromToIndex_8c36e_17 : decode cJ3_checkFromToIndex_8c36e 17 = .ok (.iload_n 2, 1) := by decide +kernel
theorem dJ3_checkFromToIndex_8c36e_18 : decode cJ3_checkFromToIndex_8c36e 18 = .ok (.invokestatic 99, 3) := by decide +kernel
theorem dJ3_checkFromToIndex_8c36e_21 : decode cJ3_checkFromToIndex_8c36e 21 = .ok (.athrow, 1) := by decide +kernel
theorem dJ3_checkFromToIndex_8c36e_22 : decode cJ3_checkFromToIndex_8c36e 22 = .ok (.iload_n 0, 1) := by decide +kernel
theorem dJ3_checkFromToIndex_8c36e_23 : decode cJ3_checkFromToIndex_8c36e 23 = .ok (.ireturn, 1) := by decide +kernel
theorem dL_addFunction_0 : decode cL_addFunction 0 = .ok (.aload_n 2, 1) := by decide +kernel
theorem dL_addFunction_1 : decode cL_addFunction 1 = .ok (.iconst 0, 1) := by decide +kernel
theorem dL_addFunction_2 : decode cL_addFunction 2 = .ok (.aload_n 0, 1) := by decide +kernel
theorem dL_addFunction_3 : decode cL_addFunction 3 = .ok (.iload_n 1, 1) := by decide +kernel
theorem dL_addFunction_4 : decode cL_addFunction 4 = .ok (.invokevirtual 7, 3) := by decide +kernel
theorem dL_addFunction_7 : decode cL_addFunction 7 = .ok (.i2l, 1) := by decide +kernel
theorem dL_addFunction_8 : decode cL_addFunction 8 = .ok (.lastore, 1) := by decide +kernel
theorem dL_addFunction_9 : decode cL_addFunction 9 = .ok (.goto 9, 3) := by decide +kernel
theorem dL_addFunction_12 : decode cL_addFunction 12 = .ok (.astore_n 3, 1) := by decide +kernel
theorem dL_addFunction_13 : decode cL_addFunction 13 = .ok (.iconst 1, 1) := by decide +kernel
theorem dL_addFunction_14 : decode cL_addFunction 14 = .ok (.ireturn, 1) := by decide +kernel
theorem dL_addFunction_15 : decode cL_addFunction 15 = .ok (.astore_n 3, 1) := by decide +kernel
theorem dL_addFunction_16 : decode cL_addFunction 16 = .ok (.iconst 2, 1) := by decide +kernel
theorem dL_addFunction_17 : decode cL_addFunction 17 = .ok (.ireturn, 1) := by decide +kernel
theorem dL_addFunction_18 : decode cL_addFunction 18 = .ok (.iconst 0, 1) := by decide +kernel
theorem dL_addFunction_19 : decode cL_addFunction 19 = .ok (.ireturn, 1) := by decide +kernel
theorem dL_code_0 : decode cL_code 0 = .ok (.aload 4, 2) := by decide +kernel
theorem dL_code_2 : decode cL_code 2 = .ok (.iconst 0, 1) := by decide +kernel
theorem dL_code_3 : decode cL_code 3 = .ok (.aload_n 0, 1) := by decide +kernel
theorem dL_code_4 : decode cL_code 4 = .ok (.iload_n 1, 1) := by decide +kernel
theorem dL_code_5 : decode cL_code 5 = .ok (.iload_n 2, 1) := by decide +kernel
theorem dL_code_6 : decode cL_code 6 = .ok (.iload_n 3, 1) := by decide +kernel
theorem dL_code_7 : decode cL_code 7 = .ok (.invokevirtual 17, 3) := by decide +kernel
theorem dL_code_10 : decode cL_code 10 = .ok (.i2l, 1) := by decide +kernel
theorem dL_code_11 : decode cL_code 11 = .ok (.lastore, 1) := by decide +kernel
theorem dL_code_12 : decode cL_code 12 = .ok (.goto 15, 3) := by decide +kernel
theorem dL_code_15 : decode cL_code 15 = .ok (.astore 5, 2) := by decide +kernel
theorem dL_code_17 : decode cL_code 17 = .ok (.iconst 1, 1) := by decide +kernel
theorem dL_code_18 : decode cL_code 18 = .ok (.ireturn, 1) := by decide +kernel
theorem dL_code_19 : decode cL_code 19 = .ok (.astore 5, 2) := by decide +kernel
theorem dL_code_21 : decode cL_code 21 = .ok (.iconst 2, 1) := by decide +kernel
theorem dL_code_22 : decode cL_code 22 = .ok (.ireturn, 1) := by decide +kernel
theorem dL_code_23 : decode cL_code 23 = .ok (.astore 5, 2) := by decide +kernel
theorem dL_code_25 : decode cL_code 25 = .ok (.iconst 3, 1) := by decide +kernel
theorem dL_code_26 : decode cL_code 26 = .ok (.ireturn, 1) := by decide +kernel
theorem dL_code_27 : decode cL_code 27 = .ok (.iconst 0, 1) := by decide +kernel
theorem dL_code_28 : decode cL_code 28 = .ok (.ireturn, 1) := by decide +kernel
theorem dL_setHandler_0 : decode cL_setHandler 0 = .ok (.aload_n 3, 1) := by decide +kernel
theorem dL_setHandler_1 : decode cL_setHandler 1 = .ok (.iconst 0, 1) := by decide +kernel
theorem dL_setHandler_2 : decode cL_setHandler 2 = .ok (.aload_n 0, 1) := by decide +kernel
theorem dL_setHandler_3 : decode cL_setHandler 3 = .ok (.iload_n 1, 1) := by decide +kernel
theorem dL_setHandler_4 : decode cL_setHandler 4 = .ok (.iload_n 2, 1) := by decide +kernel
theorem dL_setHandler_5 : decode cL_setHandler 5 = .ok (.invokevirtual 23, 3) := by decide +kernel
theorem dL_setHandler_8 : decode cL_setHandler 8 = .ok (.i2l, 1) := by decide +kernel
theorem dL_setHandler_9 : decode cL_setHandler 9 = .ok (.lastore, 1) := by decide +kernel
theorem dL_setHandler_10 : decode cL_setHandler 10 = .ok (.goto 11, 3) := by decide +kernel
theorem dL_setHandler_13 : decode cL_setHandler 13 = .ok (.astore 4, 2) := by decide +kernel
theorem dL_setHandler_15 : decode cL_setHandler 15 = .ok (.iconst 1, 1) := by decide +kernel
theorem dL_setHandler_16 : decode cL_setHandler 16 = .ok (.ireturn, 1) := by decide +kernel
theorem dL_setHandler_17 : decode cL_setHandler 17 = .ok (.astore 4, 2) := by decide +kernel
theorem dL_setHandler_19 : decode cL_setHandler 19 = .ok (.iconst 2, 1) := by decide +kernel
theorem dL_setHandler_20 : decode cL_setHandler 20 = .ok (.ireturn, 1) := by decide +kernel
theorem dL_setHandler_21 : decode cL_setHandler 21 = .ok (.iconst 0, 1) := by decide +kernel
theorem dL_setHandler_22 : decode cL_setHandler 22 = .ok (.ireturn, 1) := by decide +kernel
theorem dL_addClass_0 : decode cL_addClass 0 = .ok (.aload_n 2, 1) := by decide +kernel
theorem dL_addClass_1 : decode cL_addClass 1 = .ok (.iconst 0, 1) := by decide +kernel
theorem dL_addClass_2 : decode cL_addClass 2 = .ok (.aload_n 0, 1) := by decide +kernel
theorem dL_addClass_3 : decode cL_addClass 3 = .ok (.iload_n 1, 1) := by decide +kernel
theorem dL_addClass_4 : decode cL_addClass 4 = .ok (.invokevirtual 27, 3) := by decide +kernel
theorem dL_addClass_7 : decode cL_addClass 7 = .ok (.i2l, 1) := by decide +kernel
theorem dL_addClass_8 : decode cL_addClass 8 = .ok (.lastore, 1) := by decide +kernel
theorem dL_addClass_9 : decode cL_addClass 9 = .ok (.goto 12, 3) := by decide +kernel
theorem dL_addClass_12 : decode cL_addClass 12 = .ok (.astore_n 3, 1) := by decide +kernel
theorem dL_addClass_13 : decode cL_addClass 13 = .ok (.iconst 1, 1) := by decide +kernel
theorem dL_addClass_14 : decode cL_addClass 14 = .ok (.ireturn, 1) := by decide +kernel
theorem dL_addClass_15 : decode cL_addClass 15 = .ok (.astore_n 3, 1) := by decide +kernel
theorem dL_addClass_16 : decode cL_addClass 16 = .ok (.iconst 2, 1) := by decide +kernel
theorem dL_addClass_17 : decode cL_addClass 17 = .ok (.ireturn, 1) := by decide +kernel
theorem dL_addClass_18 : decode cL_addClass 18 = .ok (.astore_n 3, 1) := by decide +kernel
theorem dL_addClass_19 : decode cL_addClass 19 = .ok (.iconst 3, 1) := by decide +kernel
theorem dL_addClass_20 : decode cL_addClass 20 = .ok (.ireturn, 1) := by decide +kernel
theorem dL_addClass_21 : decode cL_addClass 21 = .ok (.iconst 0, 1) := by decide +kernel
theorem dL_addClass_22 : decode cL_addClass 22 = .ok (.ireturn, 1) := by decide +kernel
theorem dL_setMethod_0 : decode cL_setMethod 0 = .ok (.aload 4, 2) := by decide +kernel
theorem dL_setMethod_2 : decode cL_setMethod 2 = .ok (.iconst 0, 1) := by decide +kernel
theorem dL_setMethod_3 : decode cL_setMethod 3 = .ok (.aload_n 0, 1) := by decide +kernel
theorem dL_setMethod_4 : decode cL_setMethod 4 = .ok (.iload_n 1, 1) := by decide +kernel
theorem dL_setMethod_5 : decode cL_setMethod 5 = .ok (.iload_n 2, 1) := by decide +kernel
theorem dL_setMethod_6 : decode cL_setMethod 6 = .ok (.iload_n 3, 1) := by decide +kernel
theorem dL_setMethod_7 : decode cL_setMethod 7 = .ok (.invokevirtual 32, 3) := by decide +kernel
theorem dL_setMethod_10 : decode cL_setMethod 10 = .ok (.i2l, 1) := by decide +kernel
theorem dL_setMethod_11 : decode cL_setMethod 11 = .ok (.lastore, 1) := by decide +kernel
theorem dL_setMethod_12 : decode cL_setMethod 12 = .ok (.goto 19, 3) := by decide +kernel
theorem dL_setMethod_15 : decode cL_setMethod 15 = .ok (.astore 5, 2) := by decide +kernel
theorem dL_setMethod_17 : decode cL_setMethod 17 = .ok (.iconst 1, 1) := by decide +kernel
theorem dL_setMethod_18 : decode cL_setMethod 18 = .ok (.ireturn, 1) := by decide +kernel
theorem dL_setMethod_19 : decode cL_setMethod 19 = .ok (.astore 5, 2) := by decide +kernel
theorem dL_setMethod_21 : decode cL_setMethod 21 = .ok (.iconst 2, 1) := by decide +kernel
theorem dL_setMethod_22 : decode cL_setMethod 22 = .ok (.ireturn, 1) := by decide +kernel
theorem dL_setMethod_23 : decode cL_setMethod 23 = .ok (.astore 5, 2) := by decide +kernel
theorem dL_setMethod_25 : decode cL_setMethod 25 = .ok (.iconst 3, 1) := by decide +kernel
theorem dL_setMethod_26 : decode cL_setMethod 26 = .ok (.ireturn, 1) := by decide +kernel
theorem dL_setMethod_27 : decode cL_setMethod 27 = .ok (.astore 5, 2) := by decide +kernel
theorem dL_setMethod_29 : decode cL_setMethod 29 = .ok (.iconst 4, 1) := by decide +kernel
theorem dL_setMethod_30 : decode cL_setMethod 30 = .ok (.ireturn, 1) := by decide +kernel
theorem dL_setMethod_31 : decode cL_setMethod 31 = .ok (.iconst 0, 1) := by decide +kernel
theorem dL_setMethod_32 : decode cL_setMethod 32 = .ok (.ireturn, 1) := by decide +kernel
theorem dL_setCell_0 : decode cL_setCell 0 = .ok (.aload_n 3, 1) := by decide +kernel
theorem dL_setCell_1 : decode cL_setCell 1 = .ok (.iconst 0, 1) := by decide +kernel
theorem dL_setCell_2 : decode cL_setCell 2 = .ok (.aload_n 0, 1) := by decide +kernel
theorem dL_setCell_3 : decode cL_setCell 3 = .ok (.iload_n 1, 1) := by decide +kernel
theorem dL_setCell_4 : decode cL_setCell 4 = .ok (.iload_n 2, 1) := by decide +kernel
theorem dL_setCell_5 : decode cL_setCell 5 = .ok (.invokevirtual 38, 3) := by decide +kernel
theorem dL_setCell_8 : decode cL_setCell 8 = .ok (.i2l, 1) := by decide +kernel
theorem dL_setCell_9 : decode cL_setCell 9 = .ok (.lastore, 1) := by decide +kernel
theorem dL_setCell_10 : decode cL_setCell 10 = .ok (.goto 7, 3) := by decide +kernel
theorem dL_setCell_13 : decode cL_setCell 13 = .ok (.astore 4, 2) := by decide +kernel
theorem dL_setCell_15 : decode cL_setCell 15 = .ok (.iconst 1, 1) := by decide +kernel
theorem dL_setCell_16 : decode cL_setCell 16 = .ok (.ireturn, 1) := by decide +kernel
theorem dL_setCell_17 : decode cL_setCell 17 = .ok (.iconst 0, 1) := by decide +kernel
theorem dL_setCell_18 : decode cL_setCell 18 = .ok (.ireturn, 1) := by decide +kernel
theorem dL_setLimits_0 : decode cL_setLimits 0 = .ok (.aload 4, 2) := by decide +kernel
theorem dL_setLimits_2 : decode cL_setLimits 2 = .ok (.iconst 0, 1) := by decide +kernel
theorem dL_setLimits_3 : decode cL_setLimits 3 = .ok (.aload_n 0, 1) := by decide +kernel
theorem dL_setLimits_4 : decode cL_setLimits 4 = .ok (.iload_n 1, 1) := by decide +kernel
theorem dL_setLimits_5 : decode cL_setLimits 5 = .ok (.iload_n 2, 1) := by decide +kernel
theorem dL_setLimits_6 : decode cL_setLimits 6 = .ok (.iload_n 3, 1) := by decide +kernel
theorem dL_setLimits_7 : decode cL_setLimits 7 = .ok (.invokevirtual 41, 3) := by decide +kernel
theorem dL_setLimits_10 : decode cL_setLimits 10 = .ok (.i2l, 1) := by decide +kernel
theorem dL_setLimits_11 : decode cL_setLimits 11 = .ok (.lastore, 1) := by decide +kernel
theorem dL_setLimits_12 : decode cL_setLimits 12 = .ok (.goto 7, 3) := by decide +kernel
theorem dL_setLimits_15 : decode cL_setLimits 15 = .ok (.astore 5, 2) := by decide +kernel
theorem dL_setLimits_17 : decode cL_setLimits 17 = .ok (.iconst 1, 1) := by decide +kernel
theorem dL_setLimits_18 : decode cL_setLimits 18 = .ok (.ireturn, 1) := by decide +kernel
theorem dL_setLimits_19 : decode cL_setLimits 19 = .ok (.iconst 0, 1) := by decide +kernel
theorem dL_setLimits_20 : decode cL_setLimits 20 = .ok (.ireturn, 1) := by decide +kernel
theorem dL_run_0 : decode cL_run 0 = .ok (.aload_n 3, 1) := by decide +kernel
theorem dL_run_1 : decode cL_run 1 = .ok (.iconst 0, 1) := by decide +kernel
theorem dL_run_2 : decode cL_run 2 = .ok (.aload_n 0, 1) := by decide +kernel
theorem dL_run_3 : decode cL_run 3 = .ok (.iload_n 1, 1) := by decide +kernel
theorem dL_run_4 : decode cL_run 4 = .ok (.iload_n 2, 1) := by decide +kernel
theorem dL_run_5 : decode cL_run 5 = .ok (.invokevirtual 44, 3) := by decide +kernel
theorem dL_run_8 : decode cL_run 8 = .ok (.i2l, 1) := by decide +kernel
theorem dL_run_9 : decode cL_run 9 = .ok (.lastore, 1) := by decide +kernel
theorem dL_run_10 : decode cL_run 10 = .ok (.goto 11, 3) := by decide +kernel
theorem dL_run_13 : decode cL_run 13 = .ok (.astore 4, 2) := by decide +kernel
theorem dL_run_15 : decode cL_run 15 = .ok (.iconst 1, 1) := by decide +kernel
theorem dL_run_16 : decode cL_run 16 = .ok (.ireturn, 1) := by decide +kernel
theorem dL_run_17 : decode cL_run 17 = .ok (.astore 4, 2) := by decide +kernel
theorem dL_run_19 : decode cL_run 19 = .ok (.iconst 2, 1) := by decide +kernel
theorem dL_run_20 : decode cL_run 20 = .ok (.ireturn, 1) := by decide +kernel
theorem dL_run_21 : decode cL_run 21 = .ok (.iconst 0, 1) := by decide +kernel
theorem dL_run_22 : decode cL_run 22 = .ok (.ireturn, 1) := by decide +kernel
theorem dL_resultKind_0 : decode cL_resultKind 0 = .ok (.aload_n 1, 1) := by decide +kernel
theorem dL_resultKind_1 : decode cL_resultKind 1 = .ok (.iconst 0, 1) := by decide +kernel
theorem dL_resultKind_2 : decode cL_resultKind 2 = .ok (.aload_n 0, 1) := by decide +kernel
theorem dL_resultKind_3 : decode cL_resultKind 3 = .ok (.invokevirtual 47, 3) := by decide +kernel
theorem dL_resultKind_6 : decode cL_resultKind 6 = .ok (.i2l, 1) := by decide +kernel
theorem dL_resultKind_7 : decode cL_resultKind 7 = .ok (.lastore, 1) := by decide +kernel
theorem dL_resultKind_8 : decode cL_resultKind 8 = .ok (.goto 6, 3) := by decide +kernel
theorem dL_resultKind_11 : decode cL_resultKind 11 = .ok (.astore_n 2, 1) := by decide +kernel
theorem dL_resultKind_12 : decode cL_resultKind 12 = .ok (.iconst 1, 1) := by decide +kernel
theorem dL_resultKind_13 : decode cL_resultKind 13 = .ok (.ireturn, 1) := by decide +kernel
theorem dL_resultKind_14 : decode cL_resultKind 14 = .ok (.iconst 0, 1) := by decide +kernel
theorem dL_resultKind_15 : decode cL_resultKind 15 = .ok (.ireturn, 1) := by decide +kernel
theorem dL_result_0 : decode cL_result 0 = .ok (.aload_n 1, 1) := by decide +kernel
theorem dL_result_1 : decode cL_result 1 = .ok (.iconst 0, 1) := by decide +kernel
theorem dL_result_2 : decode cL_result 2 = .ok (.aload_n 0, 1) := by decide +kernel
theorem dL_result_3 : decode cL_result 3 = .ok (.invokevirtual 51, 3) := by decide +kernel
theorem dL_result_6 : decode cL_result 6 = .ok (.lastore, 1) := by decide +kernel
theorem dL_result_7 : decode cL_result 7 = .ok (.goto 6, 3) := by decide +kernel
theorem dL_result_10 : decode cL_result 10 = .ok (.astore_n 2, 1) := by decide +kernel
theorem dL_result_11 : decode cL_result 11 = .ok (.iconst 1, 1) := by decide +kernel
theorem dL_result_12 : decode cL_result 12 = .ok (.ireturn, 1) := by decide +kernel
theorem dL_result_13 : decode cL_result 13 = .ok (.iconst 0, 1) := by decide +kernel
theorem dL_result_14 : decode cL_result 14 = .ok (.ireturn, 1) := by decide +kernel
theorem dL_failure_0 : decode cL_failure 0 = .ok (.aload_n 1, 1) := by decide +kernel
theorem dL_failure_1 : decode cL_failure 1 = .ok (.iconst 0, 1) := by decide +kernel
theorem dL_failure_2 : decode cL_failure 2 = .ok (.aload_n 0, 1) := by decide +kernel
theorem dL_failure_3 : decode cL_failure 3 = .ok (.invokevirtual 55, 3) := by decide +kernel
theorem dL_failure_6 : decode cL_failure 6 = .ok (.i2l, 1) := by decide +kernel
theorem dL_failure_7 : decode cL_failure 7 = .ok (.lastore, 1) := by decide +kernel
theorem dL_failure_8 : decode cL_failure 8 = .ok (.goto 6, 3) := by decide +kernel
theorem dL_failure_11 : decode cL_failure 11 = .ok (.astore_n 2, 1) := by decide +kernel
theorem dL_failure_12 : decode cL_failure 12 = .ok (.iconst 1, 1) := by decide +kernel
theorem dL_failure_13 : decode cL_failure 13 = .ok (.ireturn, 1) := by decide +kernel
theorem dL_failure_14 : decode cL_failure 14 = .ok (.iconst 0, 1) := by decide +kernel
theorem dL_failure_15 : decode cL_failure 15 = .ok (.ireturn, 1) := by decide +kernel
theorem dL_line_0 : decode cL_line 0 = .ok (.aload_n 1, 1) := by decide +kernel
theorem dL_line_1 : decode cL_line 1 = .ok (.iconst 0, 1) := by decide +kernel
theorem dL_line_2 : decode cL_line 2 = .ok (.aload_n 0, 1) := by decide +kernel
theorem dL_line_3 : decode cL_line 3 = .ok (.invokevirtual 58, 3) := by decide +kernel
theorem dL_line_6 : decode cL_line 6 = .ok (.i2l, 1) := by decide +kernel
theorem dL_line_7 : decode cL_line 7 = .ok (.lastore, 1) := by decide +kernel
theorem dL_line_8 : decode cL_line 8 = .ok (.goto 6, 3) := by decide +kernel
theorem dL_line_11 : decode cL_line 11 = .ok (.astore_n 2, 1) := by decide +kernel
theorem dL_line_12 : decode cL_line 12 = .ok (.iconst 1, 1) := by decide +kernel
theorem dL_line_13 : decode cL_line 13 = .ok (.ireturn, 1) := by decide +kernel
theorem dL_line_14 : decode cL_line 14 = .ok (.iconst 0, 1) := by decide +kernel
theorem dL_line_15 : decode cL_line 15 = .ok (.ireturn, 1) := by decide +kernel
theorem dL_toldKind_0 : decode cL_toldKind 0 = .ok (.aload_n 2, 1) := by decide +kernel
theorem dL_toldKind_1 : decode cL_toldKind 1 = .ok (.iconst 0, 1) := by decide +kernel
theorem dL_toldKind_2 : decode cL_toldKind 2 = .ok (.aload_n 0, 1) := by decide +kernel
theorem dL_toldKind_3 : decode cL_toldKind 3 = .ok (.iload_n 1, 1) := by decide +kernel
theorem dL_toldKind_4 : decode cL_toldKind 4 = .ok (.invokevirtual 62, 3) := by decide +kernel
theorem dL_toldKind_7 : decode cL_toldKind 7 = .ok (.i2l, 1) := by decide +kernel
theorem dL_toldKind_8 : decode cL_toldKind 8 = .ok (.lastore, 1) := by decide +kernel
theorem dL_toldKind_9 : decode cL_toldKind 9 = .ok (.goto 6, 3) := by decide +kernel
theorem dL_toldKind_12 : decode cL_toldKind 12 = .ok (.astore_n 3, 1) := by decide +kernel
theorem dL_toldKind_13 : decode cL_toldKind 13 = .ok (.iconst 1, 1) := by decide +kernel
theorem dL_toldKind_14 : decode cL_toldKind 14 = .ok (.ireturn, 1) := by decide +kernel
theorem dL_toldKind_15 : decode cL_toldKind 15 = .ok (.iconst 0, 1) := by decide +kernel
theorem dL_toldKind_16 : decode cL_toldKind 16 = .ok (.ireturn, 1) := by decide +kernel
theorem dL_toldAt_0 : decode cL_toldAt 0 = .ok (.aload_n 2, 1) := by decide +kernel
theorem dL_toldAt_1 : decode cL_toldAt 1 = .ok (.iconst 0, 1) := by decide +kernel
theorem dL_toldAt_2 : decode cL_toldAt 2 = .ok (.aload_n 0, 1) := by decide +kernel
theorem dL_toldAt_3 : decode cL_toldAt 3 = .ok (.iload_n 1, 1) := by decide +kernel
theorem dL_toldAt_4 : decode cL_toldAt 4 = .ok (.invokevirtual 66, 3) := by decide +kernel
theorem dL_toldAt_7 : decode cL_toldAt 7 = .ok (.lastore, 1) := by decide +kernel
theorem dL_toldAt_8 : decode cL_toldAt 8 = .ok (.goto 6, 3) := by decide +kernel
theorem dL_toldAt_11 : decode cL_toldAt 11 = .ok (.astore_n 3, 1) := by decide +kernel
theorem dL_toldAt_12 : decode cL_toldAt 12 = .ok (.iconst 1, 1) := by decide +kernel
theorem dL_toldAt_13 : decode cL_toldAt 13 = .ok (.ireturn, 1) := by decide +kernel
theorem dL_toldAt_14 : decode cL_toldAt 14 = .ok (.iconst 0, 1) := by decide +kernel
theorem dL_toldAt_15 : decode cL_toldAt 15 = .ok (.ireturn, 1) := by decide +kernel
theorem dL_shapeOf_0 : decode cL_shapeOf 0 = .ok (.aload_n 2, 1) := by decide +kernel
theorem dL_shapeOf_1 : decode cL_shapeOf 1 = .ok (.iconst 0, 1) := by decide +kernel
theorem dL_shapeOf_2 : decode cL_shapeOf 2 = .ok (.aload_n 0, 1) := by decide +kernel
theorem dL_shapeOf_3 : decode cL_shapeOf 3 = .ok (.iload_n 1, 1) := by decide +kernel
theorem dL_shapeOf_4 : decode cL_shapeOf 4 = .ok (.invokevirtual 70, 3) := by decide +kernel
theorem dL_shapeOf_7 : decode cL_shapeOf 7 = .ok (.i2l, 1) := by decide +kernel
theorem dL_shapeOf_8 : decode cL_shapeOf 8 = .ok (.lastore, 1) := by decide +kernel
theorem dL_shapeOf_9 : decode cL_shapeOf 9 = .ok (.goto 6, 3) := by decide +kernel
theorem dL_shapeOf_12 : decode cL_shapeOf 12 = .ok (.astore_n 3, 1) := by decide +kernel
theorem dL_shapeOf_13 : decode cL_shapeOf 13 = .ok (.iconst 1, 1) := by decide +kernel
theorem dL_shapeOf_14 : decode cL_shapeOf 14 = .ok (.ireturn, 1) := by decide +kernel
theorem dL_shapeOf_15 : decode cL_shapeOf 15 = .ok (.iconst 0, 1) := by decide +kernel
theorem dL_shapeOf_16 : decode cL_shapeOf 16 = .ok (.ireturn, 1) := by decide +kernel
theorem dL_field_0 : decode cL_field 0 = .ok (.aload_n 3, 1) := by decide +kernel
theorem dL_field_1 : decode cL_field 1 = .ok (.iconst 0, 1) := by decide +kernel
theorem dL_field_2 : decode cL_field 2 = .ok (.aload_n 0, 1) := by decide +kernel
theorem dL_field_3 : decode cL_field 3 = .ok (.iload_n 1, 1) := by decide +kernel
theorem dL_field_4 : decode cL_field 4 = .ok (.iload_n 2, 1) := by decide +kernel
theorem dL_field_5 : decode cL_field 5 = .ok (.invokevirtual 73, 3) := by decide +kernel
theorem dL_field_8 : decode cL_field 8 = .ok (.lastore, 1) := by decide +kernel
theorem dL_field_9 : decode cL_field 9 = .ok (.goto 11, 3) := by decide +kernel
theorem dL_field_12 : decode cL_field 12 = .ok (.astore 4, 2) := by decide +kernel
theorem dL_field_14 : decode cL_field 14 = .ok (.iconst 1, 1) := by decide +kernel
theorem dL_field_15 : decode cL_field 15 = .ok (.ireturn, 1) := by decide +kernel
theorem dL_field_16 : decode cL_field 16 = .ok (.astore 4, 2) := by decide +kernel
theorem dL_field_18 : decode cL_field 18 = .ok (.iconst 2, 1) := by decide +kernel
theorem dL_field_19 : decode cL_field 19 = .ok (.ireturn, 1) := by decide +kernel
theorem dL_field_20 : decode cL_field 20 = .ok (.iconst 0, 1) := by decide +kernel
theorem dL_field_21 : decode cL_field 21 = .ok (.ireturn, 1) := by decide +kernel
theorem dL_fields_0 : decode cL_fields 0 = .ok (.aload_n 2, 1) := by decide +kernel
theorem dL_fields_1 : decode cL_fields 1 = .ok (.iconst 0, 1) := by decide +kernel
theorem dL_fields_2 : decode cL_fields 2 = .ok (.aload_n 0, 1) := by decide +kernel
theorem dL_fields_3 : decode cL_fields 3 = .ok (.iload_n 1, 1) := by decide +kernel
theorem dL_fields_4 : decode cL_fields 4 = .ok (.invokevirtual 77, 3) := by decide +kernel
theorem dL_fields_7 : decode cL_fields 7 = .ok (.i2l, 1) := by decide +kernel
theorem dL_fields_8 : decode cL_fields 8 = .ok (.lastore, 1) := by decide +kernel
theorem dL_fields_9 : decode cL_fields 9 = .ok (.goto 6, 3) := by decide +kernel
theorem dL_fields_12 : decode cL_fields 12 = .ok (.astore_n 3, 1) := by decide +kernel
theorem dL_fields_13 : decode cL_fields 13 = .ok (.iconst 1, 1) := by decide +kernel
theorem dL_fields_14 : decode cL_fields 14 = .ok (.ireturn, 1) := by decide +kernel
theorem dL_fields_15 : decode cL_fields 15 = .ok (.iconst 0, 1) := by decide +kernel
theorem dL_fields_16 : decode cL_fields 16 = .ok (.ireturn, 1) := by decide +kernel
theorem dL_fieldAt_0 : decode cL_fieldAt 0 = .ok (.aload_n 3, 1) := by decide +kernel
theorem dL_fieldAt_1 : decode cL_fieldAt 1 = .ok (.iconst 0, 1) := by decide +kernel
theorem dL_fieldAt_2 : decode cL_fieldAt 2 = .ok (.aload_n 0, 1) := by decide +kernel
theorem dL_fieldAt_3 : decode cL_fieldAt 3 = .ok (.iload_n 1, 1) := by decide +kernel
theorem dL_fieldAt_4 : decode cL_fieldAt 4 = .ok (.iload_n 2, 1) := by decide +kernel
theorem dL_fieldAt_5 : decode cL_fieldAt 5 = .ok (.invokevirtual 80, 3) := by decide +kernel
theorem dL_fieldAt_8 : decode cL_fieldAt 8 = .ok (.i2l, 1) := by decide +kernel
theorem dL_fieldAt_9 : decode cL_fieldAt 9 = .ok (.lastore, 1) := by decide +kernel
theorem dL_fieldAt_10 : decode cL_fieldAt 10 = .ok (.goto 11, 3) := by decide +kernel
theorem dL_fieldAt_13 : decode cL_fieldAt 13 = .ok (.astore 4, 2) := by decide +kernel
theorem dL_fieldAt_15 : decode cL_fieldAt 15 = .ok (.iconst 1, 1) := by decide +kernel
theorem dL_fieldAt_16 : decode cL_fieldAt 16 = .ok (.ireturn, 1) := by decide +kernel
theorem dL_fieldAt_17 : decode cL_fieldAt 17 = .ok (.astore 4, 2) := by decide +kernel
theorem dL_fieldAt_19 : decode cL_fieldAt 19 = .ok (.iconst 2, 1) := by decide +kernel
theorem dL_fieldAt_20 : decode cL_fieldAt 20 = .ok (.ireturn, 1) := by decide +kernel
theorem dL_fieldAt_21 : decode cL_fieldAt 21 = .ok (.iconst 0, 1) := by decide +kernel
theorem dL_fieldAt_22 : decode cL_fieldAt 22 = .ok (.ireturn, 1) := by decide +kernel
theorem dL_nextShape_0 : decode cL_nextShape 0 = .ok (.aload_n 3, 1) := by decide +kernel
theorem dL_nextShape_1 : decode cL_nextShape 1 = .ok (.iconst 0, 1) := by decide +kernel
theorem dL_nextShape_2 : decode cL_nextShape 2 = .ok (.aload_n 0, 1) := by decide +kernel
theorem dL_nextShape_3 : decode cL_nextShape 3 = .ok (.iload_n 1, 1) := by decide +kernel
theorem dL_nextShape_4 : decode cL_nextShape 4 = .ok (.iload_n 2, 1) := by decide +kernel
theorem dL_nextShape_5 : decode cL_nextShape 5 = .ok (.invokevirtual 83, 3) := by decide +kernel
theorem dL_nextShape_8 : decode cL_nextShape 8 = .ok (.i2l, 1) := by decide +kernel
theorem dL_nextShape_9 : decode cL_nextShape 9 = .ok (.lastore, 1) := by decide +kernel
theorem dL_nextShape_10 : decode cL_nextShape 10 = .ok (.goto 11, 3) := by decide +kernel
theorem dL_nextShape_13 : decode cL_nextShape 13 = .ok (.astore 4, 2) := by decide +kernel
theorem dL_nextShape_15 : decode cL_nextShape 15 = .ok (.iconst 1, 1) := by decide +kernel
theorem dL_nextShape_16 : decode cL_nextShape 16 = .ok (.ireturn, 1) := by decide +kernel
theorem dL_nextShape_17 : decode cL_nextShape 17 = .ok (.astore 4, 2) := by decide +kernel
theorem dL_nextShape_19 : decode cL_nextShape 19 = .ok (.iconst 2, 1) := by decide +kernel
theorem dL_nextShape_20 : decode cL_nextShape 20 = .ok (.ireturn, 1) := by decide +kernel
theorem dL_nextShape_21 : decode cL_nextShape 21 = .ok (.iconst 0, 1) := by decide +kernel
theorem dL_nextShape_22 : decode cL_nextShape 22 = .ok (.ireturn, 1) := by decide +kernel
theorem dL_cacheState_0 : decode cL_cacheState 0 = .ok (.aload_n 3, 1) := by decide +kernel
theorem dL_cacheState_1 : decode cL_cacheState 1 = .ok (.iconst 0, 1) := by decide +kernel
theorem dL_cacheState_2 : decode cL_cacheState 2 = .ok (.aload_n 0, 1) := by decide +kernel
theorem dL_cacheState_3 : decode cL_cacheState 3 = .ok (.iload_n 1, 1) := by decide +kernel
theorem dL_cacheState_4 : decode cL_cacheState 4 = .ok (.iload_n 2, 1) := by decide +kernel
theorem dL_cacheState_5 : decode cL_cacheState 5 = .ok (.invokevirtual 86, 3) := by decide +kernel
theorem dL_cacheState_8 : decode cL_cacheState 8 = .ok (.i2l, 1) := by decide +kernel
theorem dL_cacheState_9 : decode cL_cacheState 9 = .ok (.lastore, 1) := by decide +kernel
theorem dL_cacheState_10 : decode cL_cacheState 10 = .ok (.goto 11, 3) := by decide +kernel
theorem dL_cacheState_13 : decode cL_cacheState 13 = .ok (.astore 4, 2) := by decide +kernel
theorem dL_cacheState_15 : decode cL_cacheState 15 = .ok (.iconst 1, 1) := by decide +kernel
theorem dL_cacheState_16 : decode cL_cacheState 16 = .ok (.ireturn, 1) := by decide +kernel
theorem dL_cacheState_17 : decode cL_cacheState 17 = .ok (.astore 4, 2) := by decide +kernel
theorem dL_cacheState_19 : decode cL_cacheState 19 = .ok (.iconst 2, 1) := by decide +kernel
theorem dL_cacheState_20 : decode cL_cacheState 20 = .ok (.ireturn, 1) := by decide +kernel
theorem dL_cacheState_21 : decode cL_cacheState 21 = .ok (.iconst 0, 1) := by decide +kernel
theorem dL_cacheState_22 : decode cL_cacheState 22 = .ok (.ireturn, 1) := by decide +kernel
theorem dL_hits_0 : decode cL_hits 0 = .ok (.aload_n 3, 1) := by decide +kernel
theorem dL_hits_1 : decode cL_hits 1 = .ok (.iconst 0, 1) := by decide +kernel
theorem dL_hits_2 : decode cL_hits 2 = .ok (.aload_n 0, 1) := by decide +kernel
theorem dL_hits_3 : decode cL_hits 3 = .ok (.iload_n 1, 1) := by decide +kernel
theorem dL_hits_4 : decode cL_hits 4 = .ok (.iload_n 2, 1) := by decide +kernel
theorem dL_hits_5 : decode cL_hits 5 = .ok (.invokevirtual 90, 3) := by decide +kernel
theorem dL_hits_8 : decode cL_hits 8 = .ok (.i2l, 1) := by decide +kernel
theorem dL_hits_9 : decode cL_hits 9 = .ok (.lastore, 1) := by decide +kernel
theorem dL_hits_10 : decode cL_hits 10 = .ok (.goto 11, 3) := by decide +kernel
theorem dL_hits_13 : decode cL_hits 13 = .ok (.astore 4, 2) := by decide +kernel
theorem dL_hits_15 : decode cL_hits 15 = .ok (.iconst 1, 1) := by decide +kernel
theorem dL_hits_16 : decode cL_hits 16 = .ok (.ireturn, 1) := by decide +kernel
theorem dL_hits_17 : decode cL_hits 17 = .ok (.astore 4, 2) := by decide +kernel
theorem dL_hits_19 : decode cL_hits 19 = .ok (.iconst 2, 1) := by decide +kernel
theorem dL_hits_20 : decode cL_hits 20 = .ok (.ireturn, 1) := by decide +kernel
theorem dL_hits_21 : decode cL_hits 21 = .ok (.iconst 0, 1) := by decide +kernel
theorem dL_hits_22 : decode cL_hits 22 = .ok (.ireturn, 1) := by decide +kernel
theorem dL_misses_0 : decode cL_misses 0 = .ok (.aload_n 3, 1) := by decide +kernel
theorem dL_misses_1 : decode cL_misses 1 = .ok (.iconst 0, 1) := by decide +kernel
theorem dL_misses_2 : decode cL_misses 2 = .ok (.aload_n 0, 1) := by decide +kernel
theorem dL_misses_3 : decode cL_misses 3 = .ok (.iload_n 1, 1) := by decide +kernel
theorem dL_misses_4 : decode cL_misses 4 = .ok (.iload_n 2, 1) := by decide +kernel
theorem dL_misses_5 : decode cL_misses 5 = .ok (.invokevirtual 93, 3) := by decide +kernel
theorem dL_misses_8 : decode cL_misses 8 = .ok (.i2l, 1) := by decide +kernel
theorem dL_misses_9 : decode cL_misses 9 = .ok (.lastore, 1) := by decide +kernel
theorem dL_misses_10 : decode cL_misses 10 = .ok (.goto 11, 3) := by decide +kernel
theorem dL_misses_13 : decode cL_misses 13 = .ok (.astore 4, 2) := by decide +kernel
theorem dL_misses_15 : decode cL_misses 15 = .ok (.iconst 1, 1) := by decide +kernel
theorem dL_misses_16 : decode cL_misses 16 = .ok (.ireturn, 1) := by decide +kernel
theorem dL_misses_17 : decode cL_misses 17 = .ok (.astore 4, 2) := by decide +kernel
theorem dL_misses_19 : decode cL_misses 19 = .ok (.iconst 2, 1) := by decide +kernel
theorem dL_misses_20 : decode cL_misses 20 = .ok (.ireturn, 1) := by decide +kernel
theorem dL_misses_21 : decode cL_misses 21 = .ok (.iconst 0, 1) := by decide +kernel
theorem dL_misses_22 : decode cL_misses 22 = .ok (.ireturn, 1) := by decide +kernel
theorem dL_counter_0 : decode cL_counter 0 = .ok (.aload_n 3, 1) := by decide +kernel
theorem dL_counter_1 : decode cL_counter 1 = .ok (.iconst 0, 1) := by decide +kernel
theorem dL_counter_2 : decode cL_counter 2 = .ok (.aload_n 0, 1) := by decide +kernel
theorem dL_counter_3 : decode cL_counter 3 = .ok (.iload_n 1, 1) := by decide +kernel
theorem dL_counter_4 : decode cL_counter 4 = .ok (.iload_n 2, 1) := by decide +kernel
theorem dL_counter_5 : decode cL_counter 5 = .ok (.invokevirtual 96, 3) := by decide +kernel
theorem dL_counter_8 : decode cL_counter 8 = .ok (.i2l, 1) := by decide +kernel
theorem dL_counter_9 : decode cL_counter 9 = .ok (.lastore, 1) := by decide +kernel
theorem dL_counter_10 : decode cL_counter 10 = .ok (.goto 11, 3) := by decide +kernel
theorem dL_counter_13 : decode cL_counter 13 = .ok (.astore 4, 2) := by decide +kernel
theorem dL_counter_15 : decode cL_counter 15 = .ok (.iconst 1, 1) := by decide +kernel
theorem dL_counter_16 : decode cL_counter 16 = .ok (.ireturn, 1) := by decide +kernel
theorem dL_counter_17 : decode cL_counter 17 = .ok (.astore 4, 2) := by decide +kernel
theorem dL_counter_19 : decode cL_counter 19 = .ok (.iconst 2, 1) := by decide +kernel
theorem dL_counter_20 : decode cL_counter 20 = .ok (.ireturn, 1) := by decide +kernel
theorem dL_counter_21 : decode cL_counter 21 = .ok (.iconst 0, 1) := by decide +kernel
theorem dL_counter_22 : decode cL_counter 22 = .ok (.ireturn, 1) := by decide +kernel
theorem dL_isBarred_0 : decode cL_isBarred 0 = .ok (.aload_n 3, 1) := by decide +kernel
theorem dL_isBarred_1 : decode cL_isBarred 1 = .ok (.iconst 0, 1) := by decide +kernel
theorem dL_isBarred_2 : decode cL_isBarred 2 = .ok (.aload_n 0, 1) := by decide +kernel
