/-! ===== a run begins: the relation ===== -/
section MT3
theorem begin_both {M S : Mem} {o ns ob nc nf f : Nat} {x : Int32} (ho : isO o) (hR : RZ M S o ns) (hW : WZ S ob ns nc nf) (hf : f < nf) : RC (bgN M o f x) (rnM S f x) o 0 ns ∧ WW (rnM S f x) 0 0 ns nc nf := by
  have ho2 : o = 18 ∨ o = 28 := ho
  obtain ⟨hRV, hRF, hRT, hRO, hRS, hPR⟩ := hR
  obtain ⟨hWC, hWO, hWF, hWS, hWP, hWE⟩ := hW
  have NI : ∀ a j, a ≠ o ∧ ((a ≠ o + 2 ∧ a ≠ o + 3) ∨ 6 ≤ j) ∧ ((a ≠ o + 6 ∧ a ≠ o + 7 ∧ a ≠ o + 8) ∨ j ≠ 0) → mI (bgN M o f x) a j = mI M a j := by
    intro a j h
    unfold bgN puC afM bg0
    rw [mI_sD, mI_ne (by omega), mI_ne (by omega), mI_ne (by omega), afF_I, if_neg (by omega), if_neg (by omega)]
    rw [mI_ne (by omega), mI_ne (by omega), mI_ne (by omega), mI_ne (by omega), mI_ne (by omega), mI_ne (by omega), mI_ne (by omega), mI_ne (by omega), mI_ne (by omega), mI_ne (by omega)]
  have ND : ∀ a j, a ≠ o + 4 ∨ 6 ≤ j → mD (bgN M o f x) a j = mD M a j := by
    intro a j h
    unfold bgN puC afM bg0
    rw [mD_ne (by omega), mD_sI, mD_sI, mD_sI, afF_R, if_neg (by omega)]
    rfl
  have Nv : ∀ j, j < 6 → mI (bgN M o f x) (o + 2) j = (if j = 0 then nI 105 else nI 110) ∧ mI (bgN M o f x) (o + 3) j = (if j = 0 then x else nI 0) ∧ mD (bgN M o f x) (o + 4) j = FP.dconst0 := by
    intro j hj
    unfold bgN puC afM bg0
    by_cases z : j = 0
    · subst z
      rw [if_pos rfl, if_pos rfl, mI_sD, mI_ne (by omega), mI_eq, mI_sD, mI_eq, mD_eq]
      exact ⟨rfl, rfl, rfl⟩
    · rw [if_neg z, if_neg z, mI_sD, mI_ne (by omega), mI_ne (by omega), mI_ne (by omega), afF_I, if_pos (by omega), mI_sD, mI_ne (by omega), mI_ne (by omega), mI_ne (by omega), afF_I, if_neg (by omega), if_pos (by omega), mD_ne (by omega), mD_sI, mD_sI, mD_sI, afF_R, if_pos (by omega)]
      exact ⟨rfl, rfl, rfl⟩
  have No : ∀ j, mI (bgN M o f x) o j = if j = 9 then nI 1 else mI (bg0 M o) o j := by
    intro j
    unfold bgN puC afM
    by_cases z : j = 9
    · subst z
      rw [if_pos rfl, mI_sD, mI_ne (by omega), mI_ne (by omega), mI_eq]
    · rw [if_neg z, mI_sD, mI_ne (by omega), mI_ne (by omega), mI_ne (by omega), afF_I, if_neg (by omega), if_neg (by omega), mI_ne (by omega), mI_ne (by omega), mI_ne (by omega)]
  have N6 : mI (bgN M o f x) (o + 6) 0 = nI f ∧ mI (bgN M o f x) (o + 7) 0 = nI 0 ∧ mI (bgN M o f x) (o + 8) 0 = nI 0 := by
    unfold bgN puC afM
    refine ⟨?_, ?_, ?_⟩
    · rw [mI_sD, mI_ne (by omega), mI_ne (by omega), mI_ne (by omega), afF_I, if_neg (by omega), if_neg (by omega), mI_ne (by omega), mI_ne (by omega), mI_eq]
    · rw [mI_sD, mI_ne (by omega), mI_ne (by omega), mI_ne (by omega), afF_I, if_neg (by omega), if_neg (by omega), mI_ne (by omega), mI_eq]
    · rw [mI_sD, mI_ne (by omega), mI_ne (by omega), mI_ne (by omega), afF_I, if_neg (by omega), if_neg (by omega), mI_eq]
  have EI : ∀ a j, (a ≠ 69 ∨ (j ≠ 67 ∧ j ≠ 71 ∧ j ≠ 68)) ∧ ((a ≠ 105 ∧ a ≠ 106) ∨ 6 ≤ j) → mI (rnM S f x) a j = mI (rn0 S f) a j := by
    intro a j h
    unfold rnM rn9
    rw [mI_ne (by omega), mI_ne (by omega), mI_ne (by omega), rn_I (by omega)]
  have E0 : ∀ a j, (a ≠ 69 ∨ (j ≠ 0 ∧ j ≠ 52 ∧ j ≠ 57 ∧ j ≠ 58 ∧ j ≠ 59 ∧ j ≠ 48)) ∧ ((a ≠ 109 ∧ a ≠ 110 ∧ a ≠ 111) ∨ j ≠ 0) → mI (rn0 S f) a j = mI S a j := by
    intro a j h
    unfold rn0
    rw [mI_ne (by omega), mI_ne (by omega), mI_ne (by omega), mI_ne (by omega), mI_ne (by omega), mI_ne (by omega), mI_ne (by omega), mI_ne (by omega), mI_ne (by omega)]
  have ED : ∀ a j, a ≠ 107 ∨ 6 ≤ j → mD (rnM S f x) a j = mD S a j := by
    intro a j h
    unfold rnM rn9
    rw [mD_sI, mD_sI, mD_sI, rn_D (by omega)]
    rfl
  have Ev : ∀ j, j < 6 → mI (rnM S f x) 105 j = (if j = 0 then nI 105 else nI 110) ∧ mI (rnM S f x) 106 j = (if j = 0 then x else nI 0) ∧ mD (rnM S f x) 107 j = FP.dconst0 := by
    intro j hj
    unfold rnM rn9
    rw [mI_ne (by omega), mI_ne (by omega), mI_ne (by omega), mI_ne (by omega), mI_ne (by omega), mI_ne (by omega), mD_sI, mD_sI, mD_sI]
    exact rn_v hj
  have EE : ∀ a j, (a ≠ 69 ∨ (j ≠ 0 ∧ j ≠ 52 ∧ j ≠ 57 ∧ j ≠ 58 ∧ j ≠ 59 ∧ j ≠ 48 ∧ j ≠ 67 ∧ j ≠ 71 ∧ j ≠ 68)) ∧ ((a ≠ 109 ∧ a ≠ 110 ∧ a ≠ 111) ∨ j ≠ 0) ∧ ((a ≠ 105 ∧ a ≠ 106) ∨ 6 ≤ j) → mI (rnM S f x) a j = mI S a j := fun a j h => (EI a j (by omega)).trans (E0 a j (by omega))
  have EL : ∀ a j, mL (rnM S f x) a j = mL S a j := fun a j => rfl
  have NL : ∀ a j, mL (bgN M o f x) a j = mL M a j := fun a j => by unfold bgN puC afM; rw [mL_sD, mL_sI, mL_sI, mL_sI, afF_L]; rfl
  have e48 : mI (rnM S f x) 69 48 = nI 0 := by rw [EI _ _ (by omega)]; unfold rn0; simp (disch := omega) only [← Nat.add_assoc, Nat.add_sub_cancel, Nat.sub_zero, as21, as31, as32, and_self, and_true, true_and, l_0, l_1, l_2, l_3, l_4, l_5, l_6, l_7, l_8, l_9, l_10, l_11, l_12, l_13, l_14, l_15, l_16, l_17, l_18, l_19, l_20, l_21, l_22, l_23, l_24, l_25, l_26, l_27, l_28, l_29, l_30, l_31, l_32, l_33, l_34, l_35, l_36, l_37, l_38, l_39, l_40, l_41, l_42, l_43, l_44, l_45, l_47, l_48, l_50, l_52, l_60, l_61, l_63, l_80, l_99, l_100, l_101, l_102, l_103, l_105, l_106, l_107, l_108, l_109, l_110, l_111, l_112, l_114, l_115, l_116, l_117, l_118, l_119, l_120, l_122, l_168, l_200, l_320, l_360, l_528, l_548, l_1000, l_1023, l_2000, l_3000, l_1000000, qadd, qmul, qsub, qdiv, qcl, qinT, qchT, qleT, qleF, qltT, qltF, qeqT, qeqF, qneg_ne, bo0, bo1, qneg_ne', qneg_lt, mI_eq, mD_eq, mL_eq, mR_eq, mI_at, mD_at, mL_at, mI_ne, mD_ne, mL_ne, mR_ne, not_false_eq_true, not_true_eq_false, or_true, true_or, or_false, false_or, or_self, false_and, and_false, eq_self, mI_sL, mI_sD, mI_sR, mI_tk, mL_sI, mL_sD, mL_sR, mL_tk, mD_sI, mD_sL, mD_sR, mD_tk, mR_sI, mR_sL, mR_sD, mR_tk, mT_sI, mT_sL, mT_sD, mT_sR, mT_tk, mK_sI, mK_sL, mK_sD, mK_sR, mK_tk, mN_sI, mN_sL, mN_sD, mN_sR, mN_tk, nx_sI, nx_sL, nx_sD, nx_sR, uC_sI, uC_sL, uC_sD, uC_sR, uS_sI, uS_sL, uS_sD, uS_sR, nx_tk, uC_tk, uS_tk]
  have e52 : mI (rnM S f x) 69 52 = nI 0 := by rw [EI _ _ (by omega)]; unfold rn0; simp (disch := omega) only [← Nat.add_assoc, Nat.add_sub_cancel, Nat.sub_zero, as21, as31, as32, and_self, and_true, true_and, l_0, l_1, l_2, l_3, l_4, l_5, l_6, l_7, l_8, l_9, l_10, l_11, l_12, l_13, l_14, l_15, l_16, l_17, l_18, l_19, l_20, l_21, l_22, l_23, l_24, l_25, l_26, l_27, l_28, l_29, l_30, l_31, l_32, l_33, l_34, l_35, l_36, l_37, l_38, l_39, l_40, l_41, l_42, l_43, l_44, l_45, l_47, l_48, l_50, l_52, l_60, l_61, l_63, l_80, l_99, l_100, l_101, l_102, l_103, l_105, l_106, l_107, l_108, l_109, l_110, l_111, l_112, l_114, l_115, l_116, l_117, l_118, l_119, l_120, l_122, l_168, l_200, l_320, l_360, l_528, l_548, l_1000, l_1023, l_2000, l_3000, l_1000000, qadd, qmul, qsub, qdiv, qcl, qinT, qchT, qleT, qleF, qltT, qltF, qeqT, qeqF, qneg_ne, bo0, bo1, qneg_ne', qneg_lt, mI_eq, mD_eq, mL_eq, mR_eq, mI_at, mD_at, mL_at, mI_ne, mD_ne, mL_ne, mR_ne, not_false_eq_true, not_true_eq_false, or_true, true_or, or_false, false_or, or_self, false_and, and_false, eq_self, mI_sL, mI_sD, mI_sR, mI_tk, mL_sI, mL_sD, mL_sR, mL_tk, mD_sI, mD_sL, mD_sR, mD_tk, mR_sI, mR_sL, mR_sD, mR_tk, mT_sI, mT_sL, mT_sD, mT_sR, mT_tk, mK_sI, mK_sL, mK_sD, mK_sR, mK_tk, mN_sI, mN_sL, mN_sD, mN_sR, mN_tk, nx_sI, nx_sL, nx_sD, nx_sR, uC_sI, uC_sL, uC_sD, uC_sR, uS_sI, uS_sL, uS_sD, uS_sR, nx_tk, uC_tk, uS_tk]
  have e57 : mI (rnM S f x) 69 57 = nI 0 := by rw [EI _ _ (by omega)]; unfold rn0; simp (disch := omega) only [← Nat.add_assoc, Nat.add_sub_cancel, Nat.sub_zero, as21, as31, as32, and_self, and_true, true_and, l_0, l_1, l_2, l_3, l_4, l_5, l_6, l_7, l_8, l_9, l_10, l_11, l_12, l_13, l_14, l_15, l_16, l_17, l_18, l_19, l_20, l_21, l_22, l_23, l_24, l_25, l_26, l_27, l_28, l_29, l_30, l_31, l_32, l_33, l_34, l_35, l_36, l_37, l_38, l_39, l_40, l_41, l_42, l_43, l_44, l_45, l_47, l_48, l_50, l_52, l_60, l_61, l_63, l_80, l_99, l_100, l_101, l_102, l_103, l_105, l_106, l_107, l_108, l_109, l_110, l_111, l_112, l_114, l_115, l_116, l_117, l_118, l_119, l_120, l_122, l_168, l_200, l_320, l_360, l_528, l_548, l_1000, l_1023, l_2000, l_3000, l_1000000, qadd, qmul, qsub, qdiv, qcl, qinT, qchT, qleT, qleF, qltT, qltF, qeqT, qeqF, qneg_ne, bo0, bo1, qneg_ne', qneg_lt, mI_eq, mD_eq, mL_eq, mR_eq, mI_at, mD_at, mL_at, mI_ne, mD_ne, mL_ne, mR_ne, not_false_eq_true, not_true_eq_false, or_true, true_or, or_false, false_or, or_self, false_and, and_false, eq_self, mI_sL, mI_sD, mI_sR, mI_tk, mL_sI, mL_sD, mL_sR, mL_tk, mD_sI, mD_sL, mD_sR, mD_tk, mR_sI, mR_sL, mR_sD, mR_tk, mT_sI, mT_sL, mT_sD, mT_sR, mT_tk, mK_sI, mK_sL, mK_sD, mK_sR, mK_tk, mN_sI, mN_sL, mN_sD, mN_sR, mN_tk, nx_sI, nx_sL, nx_sD, nx_sR, uC_sI, uC_sL, uC_sD, uC_sR, uS_sI, uS_sL, uS_sD, uS_sR, nx_tk, uC_tk, uS_tk]
  have e59 : mI (rnM S f x) 69 59 = nI 0 := by rw [EI _ _ (by omega)]; unfold rn0; simp (disch := omega) only [← Nat.add_assoc, Nat.add_sub_cancel, Nat.sub_zero, as21, as31, as32, and_self, and_true, true_and, l_0, l_1, l_2, l_3, l_4, l_5, l_6, l_7, l_8, l_9, l_10, l_11, l_12, l_13, l_14, l_15, l_16, l_17, l_18, l_19, l_20, l_21, l_22, l_23, l_24, l_25, l_26, l_27, l_28, l_29, l_30, l_31, l_32, l_33, l_34, l_35, l_36, l_37, l_38, l_39, l_40, l_41, l_42, l_43, l_44, l_45, l_47, l_48, l_50, l_52, l_60, l_61, l_63, l_80, l_99, l_100, l_101, l_102, l_103, l_105, l_106, l_107, l_108, l_109, l_110, l_111, l_112, l_114, l_115, l_116, l_117, l_118, l_119, l_120, l_122, l_168, l_200, l_320, l_360, l_528, l_548, l_1000, l_1023, l_2000, l_3000, l_1000000, qadd, qmul, qsub, qdiv, qcl, qinT, qchT, qleT, qleF, qltT, qltF, qeqT, qeqF, qneg_ne, bo0, bo1, qneg_ne', qneg_lt, mI_eq, mD_eq, mL_eq, mR_eq, mI_at, mD_at, mL_at, mI_ne, mD_ne, mL_ne, mR_ne, not_false_eq_true, not_true_eq_false, or_true, true_or, or_false, false_or, or_self, false_and, and_false, eq_self, mI_sL, mI_sD, mI_sR, mI_tk, mL_sI, mL_sD, mL_sR, mL_tk, mD_sI, mD_sL, mD_sR, mD_tk, mR_sI, mR_sL, mR_sD, mR_tk, mT_sI, mT_sL, mT_sD, mT_sR, mT_tk, mK_sI, mK_sL, mK_sD, mK_sR, mK_tk, mN_sI, mN_sL, mN_sD, mN_sR, mN_tk, nx_sI, nx_sL, nx_sD, nx_sR, uC_sI, uC_sL, uC_sD, uC_sR, uS_sI, uS_sL, uS_sD, uS_sR, nx_tk, uC_tk, uS_tk]
  have e109 : mI (rnM S f x) 109 0 = nI f := by rw [EI _ _ (by omega)]; unfold rn0; simp (disch := omega) only [← Nat.add_assoc, Nat.add_sub_cancel, Nat.sub_zero, as21, as31, as32, and_self, and_true, true_and, l_0, l_1, l_2, l_3, l_4, l_5, l_6, l_7, l_8, l_9, l_10, l_11, l_12, l_13, l_14, l_15, l_16, l_17, l_18, l_19, l_20, l_21, l_22, l_23, l_24, l_25, l_26, l_27, l_28, l_29, l_30, l_31, l_32, l_33, l_34, l_35, l_36, l_37, l_38, l_39, l_40, l_41, l_42, l_43, l_44, l_45, l_47, l_48, l_50, l_52, l_60, l_61, l_63, l_80, l_99, l_100, l_101, l_102, l_103, l_105, l_106, l_107, l_108, l_109, l_110, l_111, l_112, l_114, l_115, l_116, l_117, l_118, l_119, l_120, l_122, l_168, l_200, l_320, l_360, l_528, l_548, l_1000, l_1023, l_2000, l_3000, l_1000000, qadd, qmul, qsub, qdiv, qcl, qinT, qchT, qleT, qleF, qltT, qltF, qeqT, qeqF, qneg_ne, bo0, bo1, qneg_ne', qneg_lt, mI_eq, mD_eq, mL_eq, mR_eq, mI_at, mD_at, mL_at, mI_ne, mD_ne, mL_ne, mR_ne, not_false_eq_true, not_true_eq_false, or_true, true_or, or_false, false_or, or_self, false_and, and_false, eq_self, mI_sL, mI_sD, mI_sR, mI_tk, mL_sI, mL_sD, mL_sR, mL_tk, mD_sI, mD_sL, mD_sR, mD_tk, mR_sI, mR_sL, mR_sD, mR_tk, mT_sI, mT_sL, mT_sD, mT_sR, mT_tk, mK_sI, mK_sL, mK_sD, mK_sR, mK_tk, mN_sI, mN_sL, mN_sD, mN_sR, mN_tk, nx_sI, nx_sL, nx_sD, nx_sR, uC_sI, uC_sL, uC_sD, uC_sR, uS_sI, uS_sL, uS_sD, uS_sR, nx_tk, uC_tk, uS_tk]
  have e110 : mI (rnM S f x) 110 0 = nI 0 := by rw [EI _ _ (by omega)]; unfold rn0; simp (disch := omega) only [← Nat.add_assoc, Nat.add_sub_cancel, Nat.sub_zero, as21, as31, as32, and_self, and_true, true_and, l_0, l_1, l_2, l_3, l_4, l_5, l_6, l_7, l_8, l_9, l_10, l_11, l_12, l_13, l_14, l_15, l_16, l_17, l_18, l_19, l_20, l_21, l_22, l_23, l_24, l_25, l_26, l_27, l_28, l_29, l_30, l_31, l_32, l_33, l_34, l_35, l_36, l_37, l_38, l_39, l_40, l_41, l_42, l_43, l_44, l_45, l_47, l_48, l_50, l_52, l_60, l_61, l_63, l_80, l_99, l_100, l_101, l_102, l_103, l_105, l_106, l_107, l_108, l_109, l_110, l_111, l_112, l_114, l_115, l_116, l_117, l_118, l_119, l_120, l_122, l_168, l_200, l_320, l_360, l_528, l_548, l_1000, l_1023, l_2000, l_3000, l_1000000, qadd, qmul, qsub, qdiv, qcl, qinT, qchT, qleT, qleF, qltT, qltF, qeqT, qeqF, qneg_ne, bo0, bo1, qneg_ne', qneg_lt, mI_eq, mD_eq, mL_eq, mR_eq, mI_at, mD_at, mL_at, mI_ne, mD_ne, mL_ne, mR_ne, not_false_eq_true, not_true_eq_false, or_true, true_or, or_false, false_or, or_self, false_and, and_false, eq_self, mI_sL, mI_sD, mI_sR, mI_tk, mL_sI, mL_sD, mL_sR, mL_tk, mD_sI, mD_sL, mD_sR, mD_tk, mR_sI, mR_sL, mR_sD, mR_tk, mT_sI, mT_sL, mT_sD, mT_sR, mT_tk, mK_sI, mK_sL, mK_sD, mK_sR, mK_tk, mN_sI, mN_sL, mN_sD, mN_sR, mN_tk, nx_sI, nx_sL, nx_sD, nx_sR, uC_sI, uC_sL, uC_sD, uC_sR, uS_sI, uS_sL, uS_sD, uS_sR, nx_tk, uC_tk, uS_tk]
  have e111 : mI (rnM S f x) 111 0 = nI 0 := by rw [EI _ _ (by omega)]; unfold rn0; simp (disch := omega) only [← Nat.add_assoc, Nat.add_sub_cancel, Nat.sub_zero, as21, as31, as32, and_self, and_true, true_and, l_0, l_1, l_2, l_3, l_4, l_5, l_6, l_7, l_8, l_9, l_10, l_11, l_12, l_13, l_14, l_15, l_16, l_17, l_18, l_19, l_20, l_21, l_22, l_23, l_24, l_25, l_26, l_27, l_28, l_29, l_30, l_31, l_32, l_33, l_34, l_35, l_36, l_37, l_38, l_39, l_40, l_41, l_42, l_43, l_44, l_45, l_47, l_48, l_50, l_52, l_60, l_61, l_63, l_80, l_99, l_100, l_101, l_102, l_103, l_105, l_106, l_107, l_108, l_109, l_110, l_111, l_112, l_114, l_115, l_116, l_117, l_118, l_119, l_120, l_122, l_168, l_200, l_320, l_360, l_528, l_548, l_1000, l_1023, l_2000, l_3000, l_1000000, qadd, qmul, qsub, qdiv, qcl, qinT, qchT, qleT, qleF, qltT, qltF, qeqT, qeqF, qneg_ne, bo0, bo1, qneg_ne', qneg_lt, mI_eq, mD_eq, mL_eq, mR_eq, mI_at, mD_at, mL_at, mI_ne, mD_ne, mL_ne, mR_ne, not_false_eq_true, not_true_eq_false, or_true, true_or, or_false, false_or, or_self, false_and, and_false, eq_self, mI_sL, mI_sD, mI_sR, mI_tk, mL_sI, mL_sD, mL_sR, mL_tk, mD_sI, mD_sL, mD_sR, mD_tk, mR_sI, mR_sL, mR_sD, mR_tk, mT_sI, mT_sL, mT_sD, mT_sR, mT_tk, mK_sI, mK_sL, mK_sD, mK_sR, mK_tk, mN_sI, mN_sL, mN_sD, mN_sR, mN_tk, nx_sI, nx_sL, nx_sD, nx_sR, uC_sI, uC_sL, uC_sD, uC_sR, uS_sI, uS_sL, uS_sD, uS_sR, nx_tk, uC_tk, uS_tk]
  have n10 : mI (bgN M o f x) o 10 = nI 0 := by rw [No, if_neg (by omega)]; unfold bg0; simp (disch := omega) only [← Nat.add_assoc, Nat.add_sub_cancel, Nat.sub_zero, as21, as31, as32, and_self, and_true, true_and, l_0, l_1, l_2, l_3, l_4, l_5, l_6, l_7, l_8, l_9, l_10, l_11, l_12, l_13, l_14, l_15, l_16, l_17, l_18, l_19, l_20, l_21, l_22, l_23, l_24, l_25, l_26, l_27, l_28, l_29, l_30, l_31, l_32, l_33, l_34, l_35, l_36, l_37, l_38, l_39, l_40, l_41, l_42, l_43, l_44, l_45, l_47, l_48, l_50, l_52, l_60, l_61, l_63, l_80, l_99, l_100, l_101, l_102, l_103, l_105, l_106, l_107, l_108, l_109, l_110, l_111, l_112, l_114, l_115, l_116, l_117, l_118, l_119, l_120, l_122, l_168, l_200, l_320, l_360, l_528, l_548, l_1000, l_1023, l_2000, l_3000, l_1000000, qadd, qmul, qsub, qdiv, qcl, qinT, qchT, qleT, qleF, qltT, qltF, qeqT, qeqF, qneg_ne, bo0, bo1, qneg_ne', qneg_lt, mI_eq, mD_eq, mL_eq, mR_eq, mI_at, mD_at, mL_at, mI_ne, mD_ne, mL_ne, mR_ne, not_false_eq_true, not_true_eq_false, or_true, true_or, or_false, false_or, or_self, false_and, and_false, eq_self, mI_sL, mI_sD, mI_sR, mI_tk, mL_sI, mL_sD, mL_sR, mL_tk, mD_sI, mD_sL, mD_sR, mD_tk, mR_sI, mR_sL, mR_sD, mR_tk, mT_sI, mT_sL, mT_sD, mT_sR, mT_tk, mK_sI, mK_sL, mK_sD, mK_sR, mK_tk, mN_sI, mN_sL, mN_sD, mN_sR, mN_tk, nx_sI, nx_sL, nx_sD, nx_sR, uC_sI, uC_sL, uC_sD, uC_sR, uS_sI, uS_sL, uS_sD, uS_sR, nx_tk, uC_tk, uS_tk]
  have n11 : mI (bgN M o f x) o 11 = nI 0 := by rw [No, if_neg (by omega)]; unfold bg0; simp (disch := omega) only [← Nat.add_assoc, Nat.add_sub_cancel, Nat.sub_zero, as21, as31, as32, and_self, and_true, true_and, l_0, l_1, l_2, l_3, l_4, l_5, l_6, l_7, l_8, l_9, l_10, l_11, l_12, l_13, l_14, l_15, l_16, l_17, l_18, l_19, l_20, l_21, l_22, l_23, l_24, l_25, l_26, l_27, l_28, l_29, l_30, l_31, l_32, l_33, l_34, l_35, l_36, l_37, l_38, l_39, l_40, l_41, l_42, l_43, l_44, l_45, l_47, l_48, l_50, l_52, l_60, l_61, l_63, l_80, l_99, l_100, l_101, l_102, l_103, l_105, l_106, l_107, l_108, l_109, l_110, l_111, l_112, l_114, l_115, l_116, l_117, l_118, l_119, l_120, l_122, l_168, l_200, l_320, l_360, l_528, l_548, l_1000, l_1023, l_2000, l_3000, l_1000000, qadd, qmul, qsub, qdiv, qcl, qinT, qchT, qleT, qleF, qltT, qltF, qeqT, qeqF, qneg_ne, bo0, bo1, qneg_ne', qneg_lt, mI_eq, mD_eq, mL_eq, mR_eq, mI_at, mD_at, mL_at, mI_ne, mD_ne, mL_ne, mR_ne, not_false_eq_true, not_true_eq_false, or_true, true_or, or_false, false_or, or_self, false_and, and_false, eq_self, mI_sL, mI_sD, mI_sR, mI_tk, mL_sI, mL_sD, mL_sR, mL_tk, mD_sI, mD_sL, mD_sR, mD_tk, mR_sI, mR_sL, mR_sD, mR_tk, mT_sI, mT_sL, mT_sD, mT_sR, mT_tk, mK_sI, mK_sL, mK_sD, mK_sR, mK_tk, mN_sI, mN_sL, mN_sD, mN_sR, mN_tk, nx_sI, nx_sL, nx_sD, nx_sR, uC_sI, uC_sL, uC_sD, uC_sR, uS_sI, uS_sL, uS_sD, uS_sR, nx_tk, uC_tk, uS_tk]
  have n12 : mI (bgN M o f x) o 12 = nI 0 := by rw [No, if_neg (by omega)]; unfold bg0; simp (disch := omega) only [← Nat.add_assoc, Nat.add_sub_cancel, Nat.sub_zero, as21, as31, as32, and_self, and_true, true_and, l_0, l_1, l_2, l_3, l_4, l_5, l_6, l_7, l_8, l_9, l_10, l_11, l_12, l_13, l_14, l_15, l_16, l_17, l_18, l_19, l_20, l_21, l_22, l_23, l_24, l_25, l_26, l_27, l_28, l_29, l_30, l_31, l_32, l_33, l_34, l_35, l_36, l_37, l_38, l_39, l_40, l_41, l_42, l_43, l_44, l_45, l_47, l_48, l_50, l_52, l_60, l_61, l_63, l_80, l_99, l_100, l_101, l_102, l_103, l_105, l_106, l_107, l_108, l_109, l_110, l_111, l_112, l_114, l_115, l_116, l_117, l_118, l_119, l_120, l_122, l_168, l_200, l_320, l_360, l_528, l_548, l_1000, l_1023, l_2000, l_3000, l_1000000, qadd, qmul, qsub, qdiv, qcl, qinT, qchT, qleT, qleF, qltT, qltF, qeqT, qeqF, qneg_ne, bo0, bo1, qneg_ne', qneg_lt, mI_eq, mD_eq, mL_eq, mR_eq, mI_at, mD_at, mL_at, mI_ne, mD_ne, mL_ne, mR_ne, not_false_eq_true, not_true_eq_false, or_true, true_or, or_false, false_or, or_self, false_and, and_false, eq_self, mI_sL, mI_sD, mI_sR, mI_tk, mL_sI, mL_sD, mL_sR, mL_tk, mD_sI, mD_sL, mD_sR, mD_tk, mR_sI, mR_sL, mR_sD, mR_tk, mT_sI, mT_sL, mT_sD, mT_sR, mT_tk, mK_sI, mK_sL, mK_sD, mK_sR, mK_tk, mN_sI, mN_sL, mN_sD, mN_sR, mN_tk, nx_sI, nx_sL, nx_sD, nx_sR, uC_sI, uC_sL, uC_sD, uC_sR, uS_sI, uS_sL, uS_sD, uS_sR, nx_tk, uC_tk, uS_tk]
  refine ⟨⟨fun p hp => ?_, fun p hp => ?_, ⟨fun i hi => ?_, ?_⟩, ⟨n10.trans e52.symm, n12.trans e57.symm, n11.trans e59.symm, fun k hk => ?_⟩, ⟨by rw [No, if_pos rfl], fun g hg => ?_⟩, ?_, ?_⟩, ⟨e48, by omega, fun g hg => ?_⟩, fun g hg j hj => ?_, ⟨fun p hp => ?_, fun p hp => ?_⟩, ⟨e52, by omega, fun k hk => absurd hk (by omega)⟩, fun k n hk => absurd hk (by omega), ?_, ?_, ?_⟩
  · by_cases z : p < 6
    · obtain ⟨a1, a2, a3⟩ := Nv p z
      obtain ⟨b1, b2, b3⟩ := Ev p z
      rw [a1, a2, a3, b1, b2, b3]
      by_cases y : p = 0
      · rw [if_pos y, if_pos y]; exact Vr.mkI x
      · rw [if_neg y, if_neg y]; exact ⟨rfl, .inl ⟨by decide, rfl, rfl, rfl⟩⟩
    · rw [NI _ p (by omega), NI _ p (by omega), ND _ p (by omega), EE 105 p (by omega), EE 106 p (by omega), ED 107 p (by omega)]
      exact hRV p hp
  · rw [NI _ _ (by omega), NI _ _ (by omega), ND _ _ (by omega), EE 113 p (by omega), EE 114 p (by omega), ED 115 p (by omega)]
    exact hRF p hp
  · rw [NI _ _ (by omega), NI _ _ (by omega), ND _ _ (by omega), EE 116 i (by omega), EL]
    exact hRT.1 i hi
  · rw [NI _ _ (by omega), NI _ _ (by omega), ND _ _ (by omega), EE 69 63 (by omega), EL]
    exact hRT.2
  · rw [NI _ k (by omega), EE 112 k (by omega)]; exact hRO.2.2.2 k hk
  · obtain rfl : g = 0 := by omega
    exact ⟨N6.1.trans e109.symm, N6.2.1.trans e110.symm, N6.2.2.trans e111.symm⟩
  · exact RS_e hRS (fun a p _ _ => NI a p (by omega)) (fun p => EE 78 p (by omega)) (fun p => EE 79 p (by omega)) (fun p => EE 80 p (by omega)) (fun p => EE 81 p (by omega)) (fun p => EE 82 p (by omega))
  · exact PR_e hPR (fun a p _ _ => NI a p (by omega)) (EE 69 1 (by omega)) (EE 69 8 (by omega)) (fun a p _ _ => EE a p (by omega))
  · obtain rfl : g = 0 := by omega
    exact ⟨⟨f, hf, e109⟩, ⟨0, by omega, e110⟩, ⟨0, by omega, e111⟩⟩
  · obtain rfl : g = 0 := by omega
    rw [e111, qcl (by omega)] at hj
    obtain ⟨b1, b2, -⟩ := Ev j (by omega)
    rw [Nat.mul_zero, Nat.zero_add, b1, b2]
    by_cases y : j = 0
    · rw [if_pos y]; exact .inl rfl
    · rw [if_neg y, if_neg y]; exact .inr (.inr (.inl ⟨rfl, rfl⟩))
  · by_cases z : p < 6
    · rw [(Ev p z).1]
      by_cases y : p = 0
      · rw [if_pos y]; exact isCh_105
      · rw [if_neg y]; exact isCh_110
    · rw [EE 105 p (by omega)]; exact hWC.1 p hp
  · rw [EE 113 p (by omega)]; exact hWC.2 p hp
  · exact WS_e hWS (EE 69 12 (by omega)) (fun p => EE 78 p (by omega)) (fun p => EE 79 p (by omega)) (fun p => EE 80 p (by omega)) (fun p => EE 81 p (by omega)) (fun p => EE 82 p (by omega))
  · exact WP_e hWP (EE 69 1 (by omega)) (EE 69 8 (by omega)) (fun a p _ _ => EE a p (by omega))
  · exact ⟨⟨0, by omega, e57⟩, ⟨0, by omega, e59⟩⟩
end MT3
