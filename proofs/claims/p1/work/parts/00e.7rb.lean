/-! ===== the steps of c, m, t, r ===== -/
section MRB
theorem c_methodOf_l {M S : Mem} {n nc : Nat} (hn : n < 6) (hw : WfP S nc) (h9 : ∀ c, mI M 9 c = mI S 76 c) (h10 : ∀ c, mI M 10 c = mI S 77 c) : ∀ (b c u k N : Nat), c < b → c < nc → c + u < 5 → c + 2 ≤ k → c + 2 ≤ N → d_X5_methodOf_5 (nI n) N (nI c, nI u) M = some (mOf S n k (nI c), M) := by
  have hw5 := hw.1
  have hw2 := hw.2
  intro b
  induction b with
  | zero => intro c u k N h; omega
  | succ b ih =>
    intro c u k N hb hc hcu hk hN
    obtain ⟨N, rfl, hN1⟩ := ex_pred (show 0 < N by omega)
    obtain ⟨k, rfl, hk1⟩ := ex_pred (show 0 < k by omega)
    rw [st_X5_methodOf_5]
    unfold d_X5_methodOf_5b mOf
    have g10 := h10 (6 * c + n)
    have g9 := h9 c
    by_cases h : mI S 77 (6 * c + n) = -nI 1
    · rw [h] at g10
      rcases hw2 c hc with e | ⟨q, hq, e⟩
      · rw [e] at g9
        have e2 : d_X5_methodOf_5 (nI n) N (-nI 1, nI (u + 1)) M = some (-nI 1, M) := by
          obtain ⟨N2, hN2, -⟩ := ex_pred (show 0 < N by omega)
          rw [hN2, st_X5_methodOf_5]
          unfold d_X5_methodOf_5b
          by_cases z : 5 ≤ u + 1
          · simp (disch := first | omega | (simp (disch := omega) only [← Nat.add_assoc, Nat.add_sub_cancel, Nat.sub_zero, as21, as31, as32, and_self, and_true, true_and, l_0, l_1, l_2, l_3, l_4, l_5, l_6, l_7, l_8, l_9, l_10, l_11, l_12, l_13, l_14, l_15, l_16, l_17, l_18, l_19, l_20, l_21, l_22, l_23, l_24, l_25, l_26, l_27, l_28, l_29, l_30, l_31, l_32, l_33, l_34, l_35, l_36, l_37, l_38, l_39, l_40, l_41, l_42, l_43, l_44, l_45, l_47, l_48, l_50, l_52, l_60, l_61, l_63, l_80, l_99, l_100, l_101, l_102, l_103, l_105, l_106, l_107, l_108, l_109, l_110, l_111, l_112, l_114, l_115, l_116, l_117, l_118, l_119, l_120, l_122, l_168, l_200, l_320, l_360, l_528, l_548, l_1000, l_1023, l_2000, l_3000, l_1000000, qadd, qmulc, qsub, qdiv, qcl, qinT, qchT, qleT, qleF, qltT, qltF, qeqT, qeqF, qneg_ne, bo0, bo1, qneg_ne', qneg_lt, mI_eq, mD_eq, mL_eq, mR_eq, mI_at, mD_at, mL_at, mI_ne, mD_ne, mL_ne, mR_ne, not_false_eq_true, not_true_eq_false, or_true, true_or, or_false, false_or, or_self, false_and, and_false, eq_self, mI_sL, mI_sD, mI_sR, mI_tk, mL_sI, mL_sD, mL_sR, mL_tk, mD_sI, mD_sL, mD_sR, mD_tk, mR_sI, mR_sL, mR_sD, mR_tk, mT_sI, mT_sL, mT_sD, mT_sR, mT_tk, mK_sI, mK_sL, mK_sD, mK_sR, mK_tk, mN_sI, mN_sL, mN_sD, mN_sR, mN_tk, nx_sI, nx_sL, nx_sD, nx_sR, uC_sI, uC_sL, uC_sD, uC_sR, uS_sI, uS_sL, uS_sD, uS_sR, nx_tk, uC_tk, uS_tk]; done) | fail) only [↓okk_pos, ↓okk_T, ↓bnd_eq, ↓obind, ↓bind_okk, ↓bind_bnd, ↓bind_ite, ↓bind_bind, ↓reduceIte, ← Nat.add_assoc, Nat.add_sub_cancel, Nat.sub_zero, as21, as31, as32, and_self, and_true, true_and, l_0, l_1, l_2, l_3, l_4, l_5, l_6, l_7, l_8, l_9, l_10, l_11, l_12, l_13, l_14, l_15, l_16, l_17, l_18, l_19, l_20, l_21, l_22, l_23, l_24, l_25, l_26, l_27, l_28, l_29, l_30, l_31, l_32, l_33, l_34, l_35, l_36, l_37, l_38, l_39, l_40, l_41, l_42, l_43, l_44, l_45, l_47, l_48, l_50, l_52, l_60, l_61, l_63, l_80, l_99, l_100, l_101, l_102, l_103, l_105, l_106, l_107, l_108, l_109, l_110, l_111, l_112, l_114, l_115, l_116, l_117, l_118, l_119, l_120, l_122, l_168, l_200, l_320, l_360, l_528, l_548, l_1000, l_1023, l_2000, l_3000, l_1000000, qadd, qmulc, qsub, qdiv, qcl, qinT, qchT, qleT, qleF, qltT, qltF, qeqT, qeqF, qneg_ne, bo0, bo1, qneg_ne', qneg_lt, mI_eq, mD_eq, mL_eq, mR_eq, mI_at, mD_at, mL_at, mI_ne, mD_ne, mL_ne, mR_ne, not_false_eq_true, not_true_eq_false, or_true, true_or, or_false, false_or, or_self, false_and, and_false, eq_self, mI_sL, mI_sD, mI_sR, mI_tk, mL_sI, mL_sD, mL_sR, mL_tk, mD_sI, mD_sL, mD_sR, mD_tk, mR_sI, mR_sL, mR_sD, mR_tk, mT_sI, mT_sL, mT_sD, mT_sR, mT_tk, mK_sI, mK_sL, mK_sD, mK_sR, mK_tk, mN_sI, mN_sL, mN_sD, mN_sR, mN_tk, nx_sI, nx_sL, nx_sD, nx_sR, uC_sI, uC_sL, uC_sD, uC_sR, uS_sI, uS_sL, uS_sD, uS_sR, nx_tk, uC_tk, uS_tk]
          · simp (disch := first | omega | (simp (disch := omega) only [← Nat.add_assoc, Nat.add_sub_cancel, Nat.sub_zero, as21, as31, as32, and_self, and_true, true_and, l_0, l_1, l_2, l_3, l_4, l_5, l_6, l_7, l_8, l_9, l_10, l_11, l_12, l_13, l_14, l_15, l_16, l_17, l_18, l_19, l_20, l_21, l_22, l_23, l_24, l_25, l_26, l_27, l_28, l_29, l_30, l_31, l_32, l_33, l_34, l_35, l_36, l_37, l_38, l_39, l_40, l_41, l_42, l_43, l_44, l_45, l_47, l_48, l_50, l_52, l_60, l_61, l_63, l_80, l_99, l_100, l_101, l_102, l_103, l_105, l_106, l_107, l_108, l_109, l_110, l_111, l_112, l_114, l_115, l_116, l_117, l_118, l_119, l_120, l_122, l_168, l_200, l_320, l_360, l_528, l_548, l_1000, l_1023, l_2000, l_3000, l_1000000, qadd, qmulc, qsub, qdiv, qcl, qinT, qchT, qleT, qleF, qltT, qltF, qeqT, qeqF, qneg_ne, bo0, bo1, qneg_ne', qneg_lt, mI_eq, mD_eq, mL_eq, mR_eq, mI_at, mD_at, mL_at, mI_ne, mD_ne, mL_ne, mR_ne, not_false_eq_true, not_true_eq_false, or_true, true_or, or_false, false_or, or_self, false_and, and_false, eq_self, mI_sL, mI_sD, mI_sR, mI_tk, mL_sI, mL_sD, mL_sR, mL_tk, mD_sI, mD_sL, mD_sR, mD_tk, mR_sI, mR_sL, mR_sD, mR_tk, mT_sI, mT_sL, mT_sD, mT_sR, mT_tk, mK_sI, mK_sL, mK_sD, mK_sR, mK_tk, mN_sI, mN_sL, mN_sD, mN_sR, mN_tk, nx_sI, nx_sL, nx_sD, nx_sR, uC_sI, uC_sL, uC_sD, uC_sR, uS_sI, uS_sL, uS_sD, uS_sR, nx_tk, uC_tk, uS_tk]; done) | fail) only [↓okk_pos, ↓okk_T, ↓bnd_eq, ↓obind, ↓bind_okk, ↓bind_bnd, ↓bind_ite, ↓bind_bind, ↓reduceIte, ← Nat.add_assoc, Nat.add_sub_cancel, Nat.sub_zero, as21, as31, as32, and_self, and_true, true_and, l_0, l_1, l_2, l_3, l_4, l_5, l_6, l_7, l_8, l_9, l_10, l_11, l_12, l_13, l_14, l_15, l_16, l_17, l_18, l_19, l_20, l_21, l_22, l_23, l_24, l_25, l_26, l_27, l_28, l_29, l_30, l_31, l_32, l_33, l_34, l_35, l_36, l_37, l_38, l_39, l_40, l_41, l_42, l_43, l_44, l_45, l_47, l_48, l_50, l_52, l_60, l_61, l_63, l_80, l_99, l_100, l_101, l_102, l_103, l_105, l_106, l_107, l_108, l_109, l_110, l_111, l_112, l_114, l_115, l_116, l_117, l_118, l_119, l_120, l_122, l_168, l_200, l_320, l_360, l_528, l_548, l_1000, l_1023, l_2000, l_3000, l_1000000, qadd, qmulc, qsub, qdiv, qcl, qinT, qchT, qleT, qleF, qltT, qltF, qeqT, qeqF, qneg_ne, bo0, bo1, qneg_ne', qneg_lt, mI_eq, mD_eq, mL_eq, mR_eq, mI_at, mD_at, mL_at, mI_ne, mD_ne, mL_ne, mR_ne, not_false_eq_true, not_true_eq_false, or_true, true_or, or_false, false_or, or_self, false_and, and_false, eq_self, mI_sL, mI_sD, mI_sR, mI_tk, mL_sI, mL_sD, mL_sR, mL_tk, mD_sI, mD_sL, mD_sR, mD_tk, mR_sI, mR_sL, mR_sD, mR_tk, mT_sI, mT_sL, mT_sD, mT_sR, mT_tk, mK_sI, mK_sL, mK_sD, mK_sR, mK_tk, mN_sI, mN_sL, mN_sD, mN_sR, mN_tk, nx_sI, nx_sL, nx_sD, nx_sR, uC_sI, uC_sL, uC_sD, uC_sR, uS_sI, uS_sL, uS_sD, uS_sR, nx_tk, uC_tk, uS_tk]
        simp (disch := first | omega | (simp (disch := omega) only [← Nat.add_assoc, Nat.add_sub_cancel, Nat.sub_zero, as21, as31, as32, and_self, and_true, true_and, l_0, l_1, l_2, l_3, l_4, l_5, l_6, l_7, l_8, l_9, l_10, l_11, l_12, l_13, l_14, l_15, l_16, l_17, l_18, l_19, l_20, l_21, l_22, l_23, l_24, l_25, l_26, l_27, l_28, l_29, l_30, l_31, l_32, l_33, l_34, l_35, l_36, l_37, l_38, l_39, l_40, l_41, l_42, l_43, l_44, l_45, l_47, l_48, l_50, l_52, l_60, l_61, l_63, l_80, l_99, l_100, l_101, l_102, l_103, l_105, l_106, l_107, l_108, l_109, l_110, l_111, l_112, l_114, l_115, l_116, l_117, l_118, l_119, l_120, l_122, l_168, l_200, l_320, l_360, l_528, l_548, l_1000, l_1023, l_2000, l_3000, l_1000000, qadd, qmulc, qsub, qdiv, qcl, qinT, qchT, qleT, qleF, qltT, qltF, qeqT, qeqF, qneg_ne, bo0, bo1, qneg_ne', qneg_lt, mI_eq, mD_eq, mL_eq, mR_eq, mI_at, mD_at, mL_at, mI_ne, mD_ne, mL_ne, mR_ne, not_false_eq_true, not_true_eq_false, or_true, true_or, or_false, false_or, or_self, false_and, and_false, eq_self, mI_sL, mI_sD, mI_sR, mI_tk, mL_sI, mL_sD, mL_sR, mL_tk, mD_sI, mD_sL, mD_sR, mD_tk, mR_sI, mR_sL, mR_sD, mR_tk, mT_sI, mT_sL, mT_sD, mT_sR, mT_tk, mK_sI, mK_sL, mK_sD, mK_sR, mK_tk, mN_sI, mN_sL, mN_sD, mN_sR, mN_tk, nx_sI, nx_sL, nx_sD, nx_sR, uC_sI, uC_sL, uC_sD, uC_sR, uS_sI, uS_sL, uS_sD, uS_sR, nx_tk, uC_tk, uS_tk, g9, g10, h, e, e2, mOf_m]; done) | fail) only [↓okk_pos, ↓okk_T, ↓bnd_eq, ↓obind, ↓bind_okk, ↓bind_bnd, ↓bind_ite, ↓bind_bind, ↓reduceIte, ← Nat.add_assoc, Nat.add_sub_cancel, Nat.sub_zero, as21, as31, as32, and_self, and_true, true_and, l_0, l_1, l_2, l_3, l_4, l_5, l_6, l_7, l_8, l_9, l_10, l_11, l_12, l_13, l_14, l_15, l_16, l_17, l_18, l_19, l_20, l_21, l_22, l_23, l_24, l_25, l_26, l_27, l_28, l_29, l_30, l_31, l_32, l_33, l_34, l_35, l_36, l_37, l_38, l_39, l_40, l_41, l_42, l_43, l_44, l_45, l_47, l_48, l_50, l_52, l_60, l_61, l_63, l_80, l_99, l_100, l_101, l_102, l_103, l_105, l_106, l_107, l_108, l_109, l_110, l_111, l_112, l_114, l_115, l_116, l_117, l_118, l_119, l_120, l_122, l_168, l_200, l_320, l_360, l_528, l_548, l_1000, l_1023, l_2000, l_3000, l_1000000, qadd, qmulc, qsub, qdiv, qcl, qinT, qchT, qleT, qleF, qltT, qltF, qeqT, qeqF, qneg_ne, bo0, bo1, qneg_ne', qneg_lt, mI_eq, mD_eq, mL_eq, mR_eq, mI_at, mD_at, mL_at, mI_ne, mD_ne, mL_ne, mR_ne, not_false_eq_true, not_true_eq_false, or_true, true_or, or_false, false_or, or_self, false_and, and_false, eq_self, mI_sL, mI_sD, mI_sR, mI_tk, mL_sI, mL_sD, mL_sR, mL_tk, mD_sI, mD_sL, mD_sR, mD_tk, mR_sI, mR_sL, mR_sD, mR_tk, mT_sI, mT_sL, mT_sD, mT_sR, mT_tk, mK_sI, mK_sL, mK_sD, mK_sR, mK_tk, mN_sI, mN_sL, mN_sD, mN_sR, mN_tk, nx_sI, nx_sL, nx_sD, nx_sR, uC_sI, uC_sL, uC_sD, uC_sR, uS_sI, uS_sL, uS_sD, uS_sR, nx_tk, uC_tk, uS_tk, g9, g10, h, e, e2, mOf_m]
      · rw [e] at g9
        have e2 := ih q (u + 1) k N (by omega) (by omega) (by omega) (by omega) (by omega)
        simp (disch := first | omega | (simp (disch := omega) only [← Nat.add_assoc, Nat.add_sub_cancel, Nat.sub_zero, as21, as31, as32, and_self, and_true, true_and, l_0, l_1, l_2, l_3, l_4, l_5, l_6, l_7, l_8, l_9, l_10, l_11, l_12, l_13, l_14, l_15, l_16, l_17, l_18, l_19, l_20, l_21, l_22, l_23, l_24, l_25, l_26, l_27, l_28, l_29, l_30, l_31, l_32, l_33, l_34, l_35, l_36, l_37, l_38, l_39, l_40, l_41, l_42, l_43, l_44, l_45, l_47, l_48, l_50, l_52, l_60, l_61, l_63, l_80, l_99, l_100, l_101, l_102, l_103, l_105, l_106, l_107, l_108, l_109, l_110, l_111, l_112, l_114, l_115, l_116, l_117, l_118, l_119, l_120, l_122, l_168, l_200, l_320, l_360, l_528, l_548, l_1000, l_1023, l_2000, l_3000, l_1000000, qadd, qmulc, qsub, qdiv, qcl, qinT, qchT, qleT, qleF, qltT, qltF, qeqT, qeqF, qneg_ne, bo0, bo1, qneg_ne', qneg_lt, mI_eq, mD_eq, mL_eq, mR_eq, mI_at, mD_at, mL_at, mI_ne, mD_ne, mL_ne, mR_ne, not_false_eq_true, not_true_eq_false, or_true, true_or, or_false, false_or, or_self, false_and, and_false, eq_self, mI_sL, mI_sD, mI_sR, mI_tk, mL_sI, mL_sD, mL_sR, mL_tk, mD_sI, mD_sL, mD_sR, mD_tk, mR_sI, mR_sL, mR_sD, mR_tk, mT_sI, mT_sL, mT_sD, mT_sR, mT_tk, mK_sI, mK_sL, mK_sD, mK_sR, mK_tk, mN_sI, mN_sL, mN_sD, mN_sR, mN_tk, nx_sI, nx_sL, nx_sD, nx_sR, uC_sI, uC_sL, uC_sD, uC_sR, uS_sI, uS_sL, uS_sD, uS_sR, nx_tk, uC_tk, uS_tk, g9, g10, h, e, e2]; done) | fail) only [↓okk_pos, ↓okk_T, ↓bnd_eq, ↓obind, ↓bind_okk, ↓bind_bnd, ↓bind_ite, ↓bind_bind, ↓reduceIte, ← Nat.add_assoc, Nat.add_sub_cancel, Nat.sub_zero, as21, as31, as32, and_self, and_true, true_and, l_0, l_1, l_2, l_3, l_4, l_5, l_6, l_7, l_8, l_9, l_10, l_11, l_12, l_13, l_14, l_15, l_16, l_17, l_18, l_19, l_20, l_21, l_22, l_23, l_24, l_25, l_26, l_27, l_28, l_29, l_30, l_31, l_32, l_33, l_34, l_35, l_36, l_37, l_38, l_39, l_40, l_41, l_42, l_43, l_44, l_45, l_47, l_48, l_50, l_52, l_60, l_61, l_63, l_80, l_99, l_100, l_101, l_102, l_103, l_105, l_106, l_107, l_108, l_109, l_110, l_111, l_112, l_114, l_115, l_116, l_117, l_118, l_119, l_120, l_122, l_168, l_200, l_320, l_360, l_528, l_548, l_1000, l_1023, l_2000, l_3000, l_1000000, qadd, qmulc, qsub, qdiv, qcl, qinT, qchT, qleT, qleF, qltT, qltF, qeqT, qeqF, qneg_ne, bo0, bo1, qneg_ne', qneg_lt, mI_eq, mD_eq, mL_eq, mR_eq, mI_at, mD_at, mL_at, mI_ne, mD_ne, mL_ne, mR_ne, not_false_eq_true, not_true_eq_false, or_true, true_or, or_false, false_or, or_self, false_and, and_false, eq_self, mI_sL, mI_sD, mI_sR, mI_tk, mL_sI, mL_sD, mL_sR, mL_tk, mD_sI, mD_sL, mD_sR, mD_tk, mR_sI, mR_sL, mR_sD, mR_tk, mT_sI, mT_sL, mT_sD, mT_sR, mT_tk, mK_sI, mK_sL, mK_sD, mK_sR, mK_tk, mN_sI, mN_sL, mN_sD, mN_sR, mN_tk, nx_sI, nx_sL, nx_sD, nx_sR, uC_sI, uC_sL, uC_sD, uC_sR, uS_sI, uS_sL, uS_sD, uS_sR, nx_tk, uC_tk, uS_tk, g9, g10, h, e, e2]
    · have g11 : ¬ mI M 10 (6 * c + n) = -nI 1 := by rw [g10]; exact h
      simp (disch := first | omega | (simp (disch := omega) only [← Nat.add_assoc, Nat.add_sub_cancel, Nat.sub_zero, as21, as31, as32, and_self, and_true, true_and, l_0, l_1, l_2, l_3, l_4, l_5, l_6, l_7, l_8, l_9, l_10, l_11, l_12, l_13, l_14, l_15, l_16, l_17, l_18, l_19, l_20, l_21, l_22, l_23, l_24, l_25, l_26, l_27, l_28, l_29, l_30, l_31, l_32, l_33, l_34, l_35, l_36, l_37, l_38, l_39, l_40, l_41, l_42, l_43, l_44, l_45, l_47, l_48, l_50, l_52, l_60, l_61, l_63, l_80, l_99, l_100, l_101, l_102, l_103, l_105, l_106, l_107, l_108, l_109, l_110, l_111, l_112, l_114, l_115, l_116, l_117, l_118, l_119, l_120, l_122, l_168, l_200, l_320, l_360, l_528, l_548, l_1000, l_1023, l_2000, l_3000, l_1000000, qadd, qmulc, qsub, qdiv, qcl, qinT, qchT, qleT, qleF, qltT, qltF, qeqT, qeqF, qneg_ne, bo0, bo1, qneg_ne', qneg_lt, mI_eq, mD_eq, mL_eq, mR_eq, mI_at, mD_at, mL_at, mI_ne, mD_ne, mL_ne, mR_ne, not_false_eq_true, not_true_eq_false, or_true, true_or, or_false, false_or, or_self, false_and, and_false, eq_self, mI_sL, mI_sD, mI_sR, mI_tk, mL_sI, mL_sD, mL_sR, mL_tk, mD_sI, mD_sL, mD_sR, mD_tk, mR_sI, mR_sL, mR_sD, mR_tk, mT_sI, mT_sL, mT_sD, mT_sR, mT_tk, mK_sI, mK_sL, mK_sD, mK_sR, mK_tk, mN_sI, mN_sL, mN_sD, mN_sR, mN_tk, nx_sI, nx_sL, nx_sD, nx_sR, uC_sI, uC_sL, uC_sD, uC_sR, uS_sI, uS_sL, uS_sD, uS_sR, nx_tk, uC_tk, uS_tk, g10, g11, h]; done) | fail) only [↓okk_pos, ↓okk_T, ↓bnd_eq, ↓obind, ↓bind_okk, ↓bind_bnd, ↓bind_ite, ↓bind_bind, ↓reduceIte, ← Nat.add_assoc, Nat.add_sub_cancel, Nat.sub_zero, as21, as31, as32, and_self, and_true, true_and, l_0, l_1, l_2, l_3, l_4, l_5, l_6, l_7, l_8, l_9, l_10, l_11, l_12, l_13, l_14, l_15, l_16, l_17, l_18, l_19, l_20, l_21, l_22, l_23, l_24, l_25, l_26, l_27, l_28, l_29, l_30, l_31, l_32, l_33, l_34, l_35, l_36, l_37, l_38, l_39, l_40, l_41, l_42, l_43, l_44, l_45, l_47, l_48, l_50, l_52, l_60, l_61, l_63, l_80, l_99, l_100, l_101, l_102, l_103, l_105, l_106, l_107, l_108, l_109, l_110, l_111, l_112, l_114, l_115, l_116, l_117, l_118, l_119, l_120, l_122, l_168, l_200, l_320, l_360, l_528, l_548, l_1000, l_1023, l_2000, l_3000, l_1000000, qadd, qmulc, qsub, qdiv, qcl, qinT, qchT, qleT, qleF, qltT, qltF, qeqT, qeqF, qneg_ne, bo0, bo1, qneg_ne', qneg_lt, mI_eq, mD_eq, mL_eq, mR_eq, mI_at, mD_at, mL_at, mI_ne, mD_ne, mL_ne, mR_ne, not_false_eq_true, not_true_eq_false, or_true, true_or, or_false, false_or, or_self, false_and, and_false, eq_self, mI_sL, mI_sD, mI_sR, mI_tk, mL_sI, mL_sD, mL_sR, mL_tk, mD_sI, mD_sL, mD_sR, mD_tk, mR_sI, mR_sL, mR_sD, mR_tk, mT_sI, mT_sL, mT_sD, mT_sR, mT_tk, mK_sI, mK_sL, mK_sD, mK_sR, mK_tk, mN_sI, mN_sL, mN_sD, mN_sR, mN_tk, nx_sI, nx_sL, nx_sD, nx_sR, uC_sI, uC_sL, uC_sD, uC_sR, uS_sI, uS_sL, uS_sD, uS_sR, nx_tk, uC_tk, uS_tk, g10, g11, h]
theorem c_methodOf {M S : Mem} {n nc c : Nat} (hn : n < 6) (hw : WfP S nc) (hc : c < nc) (h9 : ∀ c, mI M 9 c = mI S 76 c) (h10 : ∀ c, mI M 10 c = mI S 77 c) : d_X5_methodOf (nI c) (nI n) M = some (mOf S n 7 (nI c), M) := by
  have := hw.1
  exact c_methodOf_l hn hw h9 h10 6 c 0 7 fuel (by omega) hc (by omega) (by omega) (by have := fuel_big; omega)
theorem mOf_ok {S : Mem} {nf nc n : Nat} (hn : n < 6) (hw : WP S nf nc) : ∀ (b c k : Nat), c < b → c < nc → mOf S n k (nI c) = -nI 1 ∨ ∃ g, g < nf ∧ mOf S n k (nI c) = nI g ∧ mI S 70 g = nI 1 := by
  obtain ⟨-, -, -, ⟨hw5, hw2⟩, -, hm⟩ := hw
  intro b
  induction b with
  | zero => intro c k h; omega
  | succ b ih =>
    intro c k hb hc
    cases k with
    | zero => exact Or.inl rfl
    | succ k =>
      unfold mOf
      rw [if_neg (by rw [qneg_ne (by omega)]; exact id), qcl (by omega)]
      by_cases h : mI S 77 (6 * c + n) = -nI 1
      · rw [if_pos h]
        rcases hw2 c hc with e | ⟨q, hq, e⟩
        · rw [e]; exact Or.inl (mOf_m S n k)
        · rw [e]; exact ih q k (by omega) (by omega)
      · rw [if_neg h]
        exact (hm c n hc hn)
theorem mOf_e {S E : Mem} (h76 : ∀ p, mI E 76 p = mI S 76 p) (h77 : ∀ p, mI E 77 p = mI S 77 p) (n : Nat) : ∀ k c, mOf E n k c = mOf S n k c
  | 0, _ => rfl
  | k + 1, c => by unfold mOf; rw [h76, h77, mOf_e h76 h77 n k]
theorem WfP_e {S E : Mem} {nc : Nat} (h : WfP S nc) (h76 : ∀ p, mI E 76 p = mI S 76 p) : WfP E nc := by
  unfold WfP at h ⊢
  simp only [h76]; exact h
theorem sl_c {M S : Mem} {o d ns ob nc nf f i e : Nat} (ho : isO o) (hR : RC M S o d ns) (hW : WW S d ob ns nc nf) (hf : mI S 109 d = nI f) (hf1 : f < 8) (hi : mI S 110 d = nI i) (hi1 : i < 40) (he : mI S 69 57 = nI e) (he1 : e < 1000) (hc : mI S 72 (40 * f + i) = nI 99) (gc : mI M o 7 = nI 99) {a : Nat} (ha : mI S 73 (40 * f + i) = nI a) (ga : mI M o 8 = nI a) {t m : Nat} (ha1 : a < nf) (hm : mI S 70 a = nI m) (hm3 : m ≤ 3) (hh : mI S 111 d = nI (t + m)) (hh1 : t + m ≤ 8) {v : Nat} {r : Bool} (hd2 : d + 1 < 12) (hr : mI S 69 71 = if r then nI 1 else nI 0) (hv : mI S 69 83 = nI v) (hv1 : r = true → v < 500) : ∃ N E, d_X3_execute o M = some (nI 0, N) ∧ d_X12_executes S = some ((), E) ∧ RC N E o (d + 1) ns ∧ WW E (d + 1) ob ns nc nf ∧ ST M S N E o := by
  have hR0 := hR
  have hW0 := hW
  obtain ⟨hRV, hRF, hRT, hRO, hRA, hRS, hPR⟩ := hR0
  obtain ⟨hWA, hWV, hWC, hWO, hWF, hWS, hWP, hWE⟩ := hW0
  have hd := hWA.1
  have hd1 := hWA.2.1
  have gd := hRA.1
  obtain ⟨gf0, gi0, gh0⟩ := hRA.2 d (Nat.le_refl _)
  have gi := gi0.trans hi
  have gh := gh0.trans hh
  have ge := hRO.2.1.trans he
  have hnf := hWP.2.1
  have gm : mI M 3 a = nI m := (hPR.1 a).1.trans hm
  have hch : ∀ k, k < m → isCh (mI S 105 (14 * d + 6 + t + k)) = True := fun k hk => hWC.1 _ (by omega)
  have gch : ∀ k, k < m → isCh (mI M (o + 2) (14 * d + 6 + t + k)) = True := fun k hk => by rw [(hRV (14 * d + 6 + t + k) (by omega)).kind]; exact hch k hk
  have c1 := cx_c ho gd hd1 gi hi1 ge gc ga (by omega) gm hm3 hd2 gh hh1 gch
  have c2 := ex_c hd hd1 hf hf1 hi hi1 he hc ha (by omega) hm hm3 hh hh1 hd2 hr hv hv1 hch
  obtain ⟨h5, h6, h7⟩ := call_step (r := r) ho hR hW hd2 hh hh1 hm3 hi1 he1 ha1
  exact ⟨_, _, c1, c2, h5, h6, h7⟩
theorem sl_m {M S : Mem} {o d ns ob nc nf f i e : Nat} (ho : isO o) (hR : RC M S o d ns) (hW : WW S d ob ns nc nf) (hf : mI S 109 d = nI f) (hf1 : f < 8) (hi : mI S 110 d = nI i) (hi1 : i < 40) (he : mI S 69 57 = nI e) (he1 : e < 1000) (hc : mI S 72 (40 * f + i) = nI 109) (gc : mI M o 7 = nI 109) {a : Nat} (ha : mI S 73 (40 * f + i) = nI a) (ga : mI M o 8 = nI a) {t q0 s cl g : Nat} (ha1 : a < 6) (hh : mI S 111 d = nI (t + 1)) (hh1 : t + 1 ≤ 8) (hk9 : mI S 105 (14 * d + 6 + t) = nI 111) (hq9 : mI S 106 (14 * d + 6 + t) = nI q0) (hq1 : q0 < ob) (hs : mI S 112 q0 = nI s) (hs1 : s < ns) (hcl : mI S 79 s = nI cl) (hcl1 : cl < nc) (hg : mOf S a 7 (nI cl) = nI g) (hg1 : g < nf) {v : Nat} {r : Bool} (hd2 : d + 1 < 12) (hr : mI S 69 71 = if r then nI 1 else nI 0) (hv : mI S 69 83 = nI v) (hv1 : r = true → v < 500) : ∃ N E, d_X3_execute o M = some (nI 0, N) ∧ d_X12_executes S = some ((), E) ∧ RC N E o (d + 1) ns ∧ WW E (d + 1) ob ns nc nf ∧ ST M S N E o := by
  have hR0 := hR
  have hW0 := hW
  obtain ⟨hRV, hRF, hRT, hRO, hRA, hRS, hPR⟩ := hR0
  obtain ⟨hWA, hWV, hWC, hWO, hWF, hWS, hWP, hWE⟩ := hW0
  have hd := hWA.1
  have hd1 := hWA.2.1
  have gd := hRA.1
  obtain ⟨gf0, gi0, gh0⟩ := hRA.2 d (Nat.le_refl _)
  have gi := gi0.trans hi
  have gh := gh0.trans hh
  have ge := hRO.2.1.trans he
  have hob := hWO.2.1
  have hns := hWS.2.1
  have hv9 := hRV (14 * d + 6 + t) (by omega)
  rw [hk9] at hv9
  obtain ⟨w1, w2, -, -⟩ := hv9.oth (by decide)
  rw [hq9] at w2
  have gs : mI M (o + 9) q0 = nI s := (hRO.2.2.2 q0 (by omega)).trans hs
  have gcl : mI M 12 s = nI cl := (hRS.2.2 s hs1).1.trans hcl
  have hgC : ∀ X : Mem, (∀ c, mI X 9 c = mI M 9 c) → (∀ c, mI X 10 c = mI M 10 c) → d_X5_methodOf (nI cl) (nI a) X = some (nI g, X) := fun X z1 z2 => by
    rw [← hg]
    exact c_methodOf (S := S) ha1 hWP.2.2.2.1 hcl1 (fun c => (z1 c).trans (hPR.1 c).2.2.2.2.2.2.1) (fun c => (z2 c).trans (hPR.1 c).2.2.2.2.2.2.2)
  have hgM : ∀ X : Mem, (∀ c, mI X 76 c = mI S 76 c) → (∀ c, mI X 77 c = mI S 77 c) → d_X12_methodOf (nI cl) (nI a) X = some (nI g, X) := fun X z1 z2 => by
    rw [← hg, ← mOf_e z1 z2 a 7 (nI cl)]
    exact m_methodOf ha1 (WfP_e hWP.2.2.2.1 z1) hcl1
  have c1 := cx_m ho gd hd1 gi hi1 ge gc ga w2 (by omega) gs (by omega) gcl hgC hd2 gh hh1 (by rw [(hRV (14 * d + 6 + t) (by omega)).kind]; exact hWC.1 _ (by omega))
  have c2 := ex_m hd hd1 hf hf1 hi hi1 he hc ha hh hh1 hq9 (by omega) hs (by omega) hcl hgM hd2 hr hv hv1 (hWC.1 _ (by omega))
  obtain ⟨h5, h6, h7⟩ := call_step (r := r) (m := 1) ho hR hW hd2 hh hh1 (by omega) hi1 he1 hg1
  exact ⟨_, _, c1, c2, h5, h6, h7⟩
end MRB
