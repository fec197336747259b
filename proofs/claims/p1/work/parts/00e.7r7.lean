/-! ===== a field is put ===== -/
section MR7
theorem sbM_congr {A B : Mem} {s n t z : Nat} (hst : s < t) (hn : n < 6) (hz : z < 6) (h : ∀ a j, 11 ≤ a → a ≤ 16 → mI A a j = mI B a j) {a j : Nat} (hj : mI A a j = mI B a j) : mI (sbM A s n t z) a j = mI (sbM B s n t z) a j := by
  by_cases c1 : a = 12 ∧ j = t
  · obtain ⟨rfl, rfl⟩ := c1; rw [sbM_12, sbM_12]; exact h _ _ (by omega) (by omega)
  by_cases c2 : a = 13 ∧ j = t
  · obtain ⟨rfl, rfl⟩ := c2; rw [sbM_13, sbM_13]
  by_cases c3 : a = 14 ∧ j = t
  · obtain ⟨rfl, rfl⟩ := c3; rw [sbM_14, sbM_14, h _ _ (by omega) (by omega)]
  by_cases c4 : a = 11 ∧ j = 6
  · obtain ⟨rfl, rfl⟩ := c4; rw [sbM_11, sbM_11]
  by_cases c5 : a = 15 ∧ 6 * t ≤ j ∧ j < 6 * t + z
  · obtain ⟨rfl, q1, q2⟩ := c5
    obtain ⟨k, rfl⟩ : ∃ k, j = 6 * t + k := ⟨j - 6 * t, by omega⟩
    rw [sbM_15 A hst (by omega) (by omega), sbM_15 B hst (by omega) (by omega)]; exact h _ _ (by omega) (by omega)
  by_cases c6 : a = 15 ∧ j = 6 * t + z
  · obtain ⟨rfl, rfl⟩ := c6; rw [sbM_15z, sbM_15z]
  by_cases c7 : a = 16 ∧ j = 6 * s + n
  · obtain ⟨rfl, rfl⟩ := c7; rw [sbM_16, sbM_16]
  by_cases c8 : a = 16 ∧ 6 * t ≤ j ∧ j < 6 * t + 6
  · obtain ⟨rfl, q1, q2⟩ := c8
    obtain ⟨k, rfl⟩ : ∃ k, j = 6 * t + k := ⟨j - 6 * t, by omega⟩
    rw [sbM_16n A hst hn (by omega), sbM_16n B hst hn (by omega)]
  by_cases c9 : a = 16 ∧ 6 * t + 6 ≤ j
  · obtain ⟨rfl, q1⟩ := c9
    have e : ∀ X : Mem, mI (sbM X s n t z) 16 j = mI X 16 j := fun X => by
      unfold sbM aeM
      rw [mI_ne (by omega), mI_ne (by omega), mI_ne (by omega), mI_ne (by omega), coF_n _ _ _ (by decide), mI_ne (by omega), nfF_16, if_neg (by omega), mI_ne (by omega), mI_ne (by omega), mI_ne (by omega)]
    rw [e, e]; exact hj
  rw [sbM_o (by omega), sbM_o (by omega)]; exact hj
theorem shM_congr {A B : Mem} {s n t z : Nat} (hst : s < t) (hz : z < 6) (h : ∀ a j, 79 ≤ a → a ≤ 82 → mI A a j = mI B a j) {a j : Nat} (hj : mI A a j = mI B a j) : mI (shM A s n t z) a j = mI (shM B s n t z) a j := by
  by_cases c1 : a = 79 ∧ j = t
  · obtain ⟨rfl, rfl⟩ := c1; rw [shM_79, shM_79]; exact h _ _ (by omega) (by omega)
  by_cases c2 : a = 80 ∧ j = t
  · obtain ⟨rfl, rfl⟩ := c2; rw [shM_80, shM_80]
  by_cases c4 : a = 69 ∧ j = 12
  · obtain ⟨rfl, rfl⟩ := c4; rw [shM_12, shM_12]
  by_cases c5 : a = 81 ∧ 6 * t ≤ j ∧ j < 6 * t + z
  · obtain ⟨rfl, q1, q2⟩ := c5
    obtain ⟨k, rfl⟩ : ∃ k, j = 6 * t + k := ⟨j - 6 * t, by omega⟩
    rw [shM_81 A hst (by omega) (by omega), shM_81 B hst (by omega) (by omega)]; exact h _ _ (by omega) (by omega)
  by_cases c6 : a = 81 ∧ j = 6 * t + z
  · obtain ⟨rfl, rfl⟩ := c6; rw [shM_81z, shM_81z]
  by_cases c7 : a = 82 ∧ j = 6 * s + n
  · obtain ⟨rfl, rfl⟩ := c7; rw [shM_82, shM_82]
  rw [shM_o (by omega), shM_o (by omega)]; exact hj
theorem fld_put {M S : Mem} {o d ns ob nc nf q0 a s s2 pv : Nat} (ho : isO o) (hR : RC M S o d ns) (hW : WW S d ob ns nc nf) (hq : q0 < ob) (ha : a < 6) (hs : mI S 112 q0 = nI s) (hs1 : s < ns) (hs2 : s2 < ns) (hpv : pv < 168) (hsh : ∀ m, m < 6 → hasF S s2 m → m = a ∨ hasF S s m) (hk : kO ob (mI S 105 pv) (mI S 106 pv)) :
    RC (mvC (sI M (o + 9) q0 (nI s2)) o pv (168 + 6 * q0 + a)) (flM (sI S 112 q0 (nI s2)) (6 * q0 + a) (mI S 105 pv) (mI S 106 pv) (mD S 107 pv)) o d ns ∧ WW (flM (sI S 112 q0 (nI s2)) (6 * q0 + a) (mI S 105 pv) (mI S 106 pv) (mD S 107 pv)) d ob ns nc nf := by
  obtain ⟨hRV, hRF, hRT, hRO, hRA, hRS, hPR⟩ := hR
  obtain ⟨hWA, hWV, hWC, hWO, hWF, hWS, hWP, hWE⟩ := hW
  have ho2 : o = 18 ∨ o = 28 := ho
  have hob := hWO.2.1
  have hv := hRV pv hpv
  have hc := hWC.1 pv hpv
  have N1 : ∀ a2 j, (a2 ≠ o + 9 ∨ j ≠ q0) ∧ (a2 ≠ o + 2 ∨ j ≠ 168 + 6 * q0 + a) ∧ (a2 ≠ o + 3 ∨ j ≠ 168 + 6 * q0 + a) ∧ (a2 ≠ o + 5 ∨ j ≠ 168 + 6 * q0 + a) → mI (mvC (sI M (o + 9) q0 (nI s2)) o pv (168 + 6 * q0 + a)) a2 j = mI M a2 j := fun a2 j hz => by unfold mvC; simp (disch := omega) only [← Nat.add_assoc, Nat.add_sub_cancel, Nat.sub_zero, as21, as31, as32, and_self, and_true, true_and, l_0, l_1, l_2, l_3, l_4, l_5, l_6, l_7, l_8, l_9, l_10, l_11, l_12, l_13, l_14, l_15, l_16, l_17, l_18, l_19, l_20, l_21, l_22, l_23, l_24, l_25, l_26, l_27, l_28, l_29, l_30, l_31, l_32, l_33, l_34, l_35, l_36, l_37, l_38, l_39, l_40, l_41, l_42, l_43, l_44, l_45, l_47, l_48, l_50, l_52, l_60, l_61, l_63, l_80, l_99, l_100, l_101, l_102, l_103, l_105, l_106, l_107, l_108, l_109, l_110, l_111, l_112, l_114, l_115, l_116, l_117, l_118, l_119, l_120, l_122, l_168, l_200, l_320, l_360, l_528, l_548, l_1000, l_1023, l_2000, l_3000, l_1000000, qadd, qmul, qsub, qdiv, qcl, qinT, qchT, qleT, qleF, qltT, qltF, qeqT, qeqF, qneg_ne, bo0, bo1, qneg_ne', qneg_lt, mI_eq, mD_eq, mL_eq, mR_eq, mI_at, mD_at, mL_at, mI_ne, mD_ne, mL_ne, mR_ne, not_false_eq_true, not_true_eq_false, or_true, true_or, or_false, false_or, or_self, false_and, and_false, eq_self, mI_sL, mI_sD, mI_sR, mI_tk, mL_sI, mL_sD, mL_sR, mL_tk, mD_sI, mD_sL, mD_sR, mD_tk, mR_sI, mR_sL, mR_sD, mR_tk, mT_sI, mT_sL, mT_sD, mT_sR, mT_tk, mK_sI, mK_sL, mK_sD, mK_sR, mK_tk, mN_sI, mN_sL, mN_sD, mN_sR, mN_tk, nx_sI, nx_sL, nx_sD, nx_sR, uC_sI, uC_sL, uC_sD, uC_sR, uS_sI, uS_sL, uS_sD, uS_sR, nx_tk, uC_tk, uS_tk]
  have N2 : ∀ a2 j, (a2 ≠ o + 4 ∨ j ≠ 168 + 6 * q0 + a) → mD (mvC (sI M (o + 9) q0 (nI s2)) o pv (168 + 6 * q0 + a)) a2 j = mD M a2 j := fun a2 j hz => by unfold mvC; simp (disch := omega) only [← Nat.add_assoc, Nat.add_sub_cancel, Nat.sub_zero, as21, as31, as32, and_self, and_true, true_and, l_0, l_1, l_2, l_3, l_4, l_5, l_6, l_7, l_8, l_9, l_10, l_11, l_12, l_13, l_14, l_15, l_16, l_17, l_18, l_19, l_20, l_21, l_22, l_23, l_24, l_25, l_26, l_27, l_28, l_29, l_30, l_31, l_32, l_33, l_34, l_35, l_36, l_37, l_38, l_39, l_40, l_41, l_42, l_43, l_44, l_45, l_47, l_48, l_50, l_52, l_60, l_61, l_63, l_80, l_99, l_100, l_101, l_102, l_103, l_105, l_106, l_107, l_108, l_109, l_110, l_111, l_112, l_114, l_115, l_116, l_117, l_118, l_119, l_120, l_122, l_168, l_200, l_320, l_360, l_528, l_548, l_1000, l_1023, l_2000, l_3000, l_1000000, qadd, qmul, qsub, qdiv, qcl, qinT, qchT, qleT, qleF, qltT, qltF, qeqT, qeqF, qneg_ne, bo0, bo1, qneg_ne', qneg_lt, mI_eq, mD_eq, mL_eq, mR_eq, mI_at, mD_at, mL_at, mI_ne, mD_ne, mL_ne, mR_ne, not_false_eq_true, not_true_eq_false, or_true, true_or, or_false, false_or, or_self, false_and, and_false, eq_self, mI_sL, mI_sD, mI_sR, mI_tk, mL_sI, mL_sD, mL_sR, mL_tk, mD_sI, mD_sL, mD_sR, mD_tk, mR_sI, mR_sL, mR_sD, mR_tk, mT_sI, mT_sL, mT_sD, mT_sR, mT_tk, mK_sI, mK_sL, mK_sD, mK_sR, mK_tk, mN_sI, mN_sL, mN_sD, mN_sR, mN_tk, nx_sI, nx_sL, nx_sD, nx_sR, uC_sI, uC_sL, uC_sD, uC_sR, uS_sI, uS_sL, uS_sD, uS_sR, nx_tk, uC_tk, uS_tk]
  have N3 : mI (mvC (sI M (o + 9) q0 (nI s2)) o pv (168 + 6 * q0 + a)) (o + 9) q0 = nI s2 := by unfold mvC; simp (disch := omega) only [← Nat.add_assoc, Nat.add_sub_cancel, Nat.sub_zero, as21, as31, as32, and_self, and_true, true_and, l_0, l_1, l_2, l_3, l_4, l_5, l_6, l_7, l_8, l_9, l_10, l_11, l_12, l_13, l_14, l_15, l_16, l_17, l_18, l_19, l_20, l_21, l_22, l_23, l_24, l_25, l_26, l_27, l_28, l_29, l_30, l_31, l_32, l_33, l_34, l_35, l_36, l_37, l_38, l_39, l_40, l_41, l_42, l_43, l_44, l_45, l_47, l_48, l_50, l_52, l_60, l_61, l_63, l_80, l_99, l_100, l_101, l_102, l_103, l_105, l_106, l_107, l_108, l_109, l_110, l_111, l_112, l_114, l_115, l_116, l_117, l_118, l_119, l_120, l_122, l_168, l_200, l_320, l_360, l_528, l_548, l_1000, l_1023, l_2000, l_3000, l_1000000, qadd, qmul, qsub, qdiv, qcl, qinT, qchT, qleT, qleF, qltT, qltF, qeqT, qeqF, qneg_ne, bo0, bo1, qneg_ne', qneg_lt, mI_eq, mD_eq, mL_eq, mR_eq, mI_at, mD_at, mL_at, mI_ne, mD_ne, mL_ne, mR_ne, not_false_eq_true, not_true_eq_false, or_true, true_or, or_false, false_or, or_self, false_and, and_false, eq_self, mI_sL, mI_sD, mI_sR, mI_tk, mL_sI, mL_sD, mL_sR, mL_tk, mD_sI, mD_sL, mD_sR, mD_tk, mR_sI, mR_sL, mR_sD, mR_tk, mT_sI, mT_sL, mT_sD, mT_sR, mT_tk, mK_sI, mK_sL, mK_sD, mK_sR, mK_tk, mN_sI, mN_sL, mN_sD, mN_sR, mN_tk, nx_sI, nx_sL, nx_sD, nx_sR, uC_sI, uC_sL, uC_sD, uC_sR, uS_sI, uS_sL, uS_sD, uS_sR, nx_tk, uC_tk, uS_tk]
  have N4 : mI (mvC (sI M (o + 9) q0 (nI s2)) o pv (168 + 6 * q0 + a)) (o + 2) (168 + 6 * q0 + a) = mI M (o + 2) pv := by unfold mvC; simp (disch := omega) only [← Nat.add_assoc, Nat.add_sub_cancel, Nat.sub_zero, as21, as31, as32, and_self, and_true, true_and, l_0, l_1, l_2, l_3, l_4, l_5, l_6, l_7, l_8, l_9, l_10, l_11, l_12, l_13, l_14, l_15, l_16, l_17, l_18, l_19, l_20, l_21, l_22, l_23, l_24, l_25, l_26, l_27, l_28, l_29, l_30, l_31, l_32, l_33, l_34, l_35, l_36, l_37, l_38, l_39, l_40, l_41, l_42, l_43, l_44, l_45, l_47, l_48, l_50, l_52, l_60, l_61, l_63, l_80, l_99, l_100, l_101, l_102, l_103, l_105, l_106, l_107, l_108, l_109, l_110, l_111, l_112, l_114, l_115, l_116, l_117, l_118, l_119, l_120, l_122, l_168, l_200, l_320, l_360, l_528, l_548, l_1000, l_1023, l_2000, l_3000, l_1000000, qadd, qmul, qsub, qdiv, qcl, qinT, qchT, qleT, qleF, qltT, qltF, qeqT, qeqF, qneg_ne, bo0, bo1, qneg_ne', qneg_lt, mI_eq, mD_eq, mL_eq, mR_eq, mI_at, mD_at, mL_at, mI_ne, mD_ne, mL_ne, mR_ne, not_false_eq_true, not_true_eq_false, or_true, true_or, or_false, false_or, or_self, false_and, and_false, eq_self, mI_sL, mI_sD, mI_sR, mI_tk, mL_sI, mL_sD, mL_sR, mL_tk, mD_sI, mD_sL, mD_sR, mD_tk, mR_sI, mR_sL, mR_sD, mR_tk, mT_sI, mT_sL, mT_sD, mT_sR, mT_tk, mK_sI, mK_sL, mK_sD, mK_sR, mK_tk, mN_sI, mN_sL, mN_sD, mN_sR, mN_tk, nx_sI, nx_sL, nx_sD, nx_sR, uC_sI, uC_sL, uC_sD, uC_sR, uS_sI, uS_sL, uS_sD, uS_sR, nx_tk, uC_tk, uS_tk]
  have N5 : mI (mvC (sI M (o + 9) q0 (nI s2)) o pv (168 + 6 * q0 + a)) (o + 3) (168 + 6 * q0 + a) = mI M (o + 3) pv := by unfold mvC; simp (disch := omega) only [← Nat.add_assoc, Nat.add_sub_cancel, Nat.sub_zero, as21, as31, as32, and_self, and_true, true_and, l_0, l_1, l_2, l_3, l_4, l_5, l_6, l_7, l_8, l_9, l_10, l_11, l_12, l_13, l_14, l_15, l_16, l_17, l_18, l_19, l_20, l_21, l_22, l_23, l_24, l_25, l_26, l_27, l_28, l_29, l_30, l_31, l_32, l_33, l_34, l_35, l_36, l_37, l_38, l_39, l_40, l_41, l_42, l_43, l_44, l_45, l_47, l_48, l_50, l_52, l_60, l_61, l_63, l_80, l_99, l_100, l_101, l_102, l_103, l_105, l_106, l_107, l_108, l_109, l_110, l_111, l_112, l_114, l_115, l_116, l_117, l_118, l_119, l_120, l_122, l_168, l_200, l_320, l_360, l_528, l_548, l_1000, l_1023, l_2000, l_3000, l_1000000, qadd, qmul, qsub, qdiv, qcl, qinT, qchT, qleT, qleF, qltT, qltF, qeqT, qeqF, qneg_ne, bo0, bo1, qneg_ne', qneg_lt, mI_eq, mD_eq, mL_eq, mR_eq, mI_at, mD_at, mL_at, mI_ne, mD_ne, mL_ne, mR_ne, not_false_eq_true, not_true_eq_false, or_true, true_or, or_false, false_or, or_self, false_and, and_false, eq_self, mI_sL, mI_sD, mI_sR, mI_tk, mL_sI, mL_sD, mL_sR, mL_tk, mD_sI, mD_sL, mD_sR, mD_tk, mR_sI, mR_sL, mR_sD, mR_tk, mT_sI, mT_sL, mT_sD, mT_sR, mT_tk, mK_sI, mK_sL, mK_sD, mK_sR, mK_tk, mN_sI, mN_sL, mN_sD, mN_sR, mN_tk, nx_sI, nx_sL, nx_sD, nx_sR, uC_sI, uC_sL, uC_sD, uC_sR, uS_sI, uS_sL, uS_sD, uS_sR, nx_tk, uC_tk, uS_tk]
  have N6 : mD (mvC (sI M (o + 9) q0 (nI s2)) o pv (168 + 6 * q0 + a)) (o + 4) (168 + 6 * q0 + a) = mD M (o + 4) pv := by unfold mvC; simp (disch := omega) only [← Nat.add_assoc, Nat.add_sub_cancel, Nat.sub_zero, as21, as31, as32, and_self, and_true, true_and, l_0, l_1, l_2, l_3, l_4, l_5, l_6, l_7, l_8, l_9, l_10, l_11, l_12, l_13, l_14, l_15, l_16, l_17, l_18, l_19, l_20, l_21, l_22, l_23, l_24, l_25, l_26, l_27, l_28, l_29, l_30, l_31, l_32, l_33, l_34, l_35, l_36, l_37, l_38, l_39, l_40, l_41, l_42, l_43, l_44, l_45, l_47, l_48, l_50, l_52, l_60, l_61, l_63, l_80, l_99, l_100, l_101, l_102, l_103, l_105, l_106, l_107, l_108, l_109, l_110, l_111, l_112, l_114, l_115, l_116, l_117, l_118, l_119, l_120, l_122, l_168, l_200, l_320, l_360, l_528, l_548, l_1000, l_1023, l_2000, l_3000, l_1000000, qadd, qmul, qsub, qdiv, qcl, qinT, qchT, qleT, qleF, qltT, qltF, qeqT, qeqF, qneg_ne, bo0, bo1, qneg_ne', qneg_lt, mI_eq, mD_eq, mL_eq, mR_eq, mI_at, mD_at, mL_at, mI_ne, mD_ne, mL_ne, mR_ne, not_false_eq_true, not_true_eq_false, or_true, true_or, or_false, false_or, or_self, false_and, and_false, eq_self, mI_sL, mI_sD, mI_sR, mI_tk, mL_sI, mL_sD, mL_sR, mL_tk, mD_sI, mD_sL, mD_sR, mD_tk, mR_sI, mR_sL, mR_sD, mR_tk, mT_sI, mT_sL, mT_sD, mT_sR, mT_tk, mK_sI, mK_sL, mK_sD, mK_sR, mK_tk, mN_sI, mN_sL, mN_sD, mN_sR, mN_tk, nx_sI, nx_sL, nx_sD, nx_sR, uC_sI, uC_sL, uC_sD, uC_sR, uS_sI, uS_sL, uS_sD, uS_sR, nx_tk, uC_tk, uS_tk]
  have EL : ∀ a2 j, mL (flM (sI S 112 q0 (nI s2)) (6 * q0 + a) (mI S 105 pv) (mI S 106 pv) (mD S 107 pv)) a2 j = mL S a2 j := fun a2 j => rfl
  have E1 : ∀ a2 j, (a2 ≠ 112 ∨ j ≠ q0) ∧ (a2 ≠ 113 ∨ j ≠ 6 * q0 + a) ∧ (a2 ≠ 114 ∨ j ≠ 6 * q0 + a) → mI (flM (sI S 112 q0 (nI s2)) (6 * q0 + a) (mI S 105 pv) (mI S 106 pv) (mD S 107 pv)) a2 j = mI S a2 j := fun a2 j hz => by unfold flM; simp (disch := omega) only [← Nat.add_assoc, Nat.add_sub_cancel, Nat.sub_zero, as21, as31, as32, and_self, and_true, true_and, l_0, l_1, l_2, l_3, l_4, l_5, l_6, l_7, l_8, l_9, l_10, l_11, l_12, l_13, l_14, l_15, l_16, l_17, l_18, l_19, l_20, l_21, l_22, l_23, l_24, l_25, l_26, l_27, l_28, l_29, l_30, l_31, l_32, l_33, l_34, l_35, l_36, l_37, l_38, l_39, l_40, l_41, l_42, l_43, l_44, l_45, l_47, l_48, l_50, l_52, l_60, l_61, l_63, l_80, l_99, l_100, l_101, l_102, l_103, l_105, l_106, l_107, l_108, l_109, l_110, l_111, l_112, l_114, l_115, l_116, l_117, l_118, l_119, l_120, l_122, l_168, l_200, l_320, l_360, l_528, l_548, l_1000, l_1023, l_2000, l_3000, l_1000000, qadd, qmul, qsub, qdiv, qcl, qinT, qchT, qleT, qleF, qltT, qltF, qeqT, qeqF, qneg_ne, bo0, bo1, qneg_ne', qneg_lt, mI_eq, mD_eq, mL_eq, mR_eq, mI_at, mD_at, mL_at, mI_ne, mD_ne, mL_ne, mR_ne, not_false_eq_true, not_true_eq_false, or_true, true_or, or_false, false_or, or_self, false_and, and_false, eq_self, mI_sL, mI_sD, mI_sR, mI_tk, mL_sI, mL_sD, mL_sR, mL_tk, mD_sI, mD_sL, mD_sR, mD_tk, mR_sI, mR_sL, mR_sD, mR_tk, mT_sI, mT_sL, mT_sD, mT_sR, mT_tk, mK_sI, mK_sL, mK_sD, mK_sR, mK_tk, mN_sI, mN_sL, mN_sD, mN_sR, mN_tk, nx_sI, nx_sL, nx_sD, nx_sR, uC_sI, uC_sL, uC_sD, uC_sR, uS_sI, uS_sL, uS_sD, uS_sR, nx_tk, uC_tk, uS_tk]
  have E2 : ∀ a2 j, (a2 ≠ 115 ∨ j ≠ 6 * q0 + a) → mD (flM (sI S 112 q0 (nI s2)) (6 * q0 + a) (mI S 105 pv) (mI S 106 pv) (mD S 107 pv)) a2 j = mD S a2 j := fun a2 j hz => by unfold flM; simp (disch := omega) only [← Nat.add_assoc, Nat.add_sub_cancel, Nat.sub_zero, as21, as31, as32, and_self, and_true, true_and, l_0, l_1, l_2, l_3, l_4, l_5, l_6, l_7, l_8, l_9, l_10, l_11, l_12, l_13, l_14, l_15, l_16, l_17, l_18, l_19, l_20, l_21, l_22, l_23, l_24, l_25, l_26, l_27, l_28, l_29, l_30, l_31, l_32, l_33, l_34, l_35, l_36, l_37, l_38, l_39, l_40, l_41, l_42, l_43, l_44, l_45, l_47, l_48, l_50, l_52, l_60, l_61, l_63, l_80, l_99, l_100, l_101, l_102, l_103, l_105, l_106, l_107, l_108, l_109, l_110, l_111, l_112, l_114, l_115, l_116, l_117, l_118, l_119, l_120, l_122, l_168, l_200, l_320, l_360, l_528, l_548, l_1000, l_1023, l_2000, l_3000, l_1000000, qadd, qmul, qsub, qdiv, qcl, qinT, qchT, qleT, qleF, qltT, qltF, qeqT, qeqF, qneg_ne, bo0, bo1, qneg_ne', qneg_lt, mI_eq, mD_eq, mL_eq, mR_eq, mI_at, mD_at, mL_at, mI_ne, mD_ne, mL_ne, mR_ne, not_false_eq_true, not_true_eq_false, or_true, true_or, or_false, false_or, or_self, false_and, and_false, eq_self, mI_sL, mI_sD, mI_sR, mI_tk, mL_sI, mL_sD, mL_sR, mL_tk, mD_sI, mD_sL, mD_sR, mD_tk, mR_sI, mR_sL, mR_sD, mR_tk, mT_sI, mT_sL, mT_sD, mT_sR, mT_tk, mK_sI, mK_sL, mK_sD, mK_sR, mK_tk, mN_sI, mN_sL, mN_sD, mN_sR, mN_tk, nx_sI, nx_sL, nx_sD, nx_sR, uC_sI, uC_sL, uC_sD, uC_sR, uS_sI, uS_sL, uS_sD, uS_sR, nx_tk, uC_tk, uS_tk]
  have E3 : mI (flM (sI S 112 q0 (nI s2)) (6 * q0 + a) (mI S 105 pv) (mI S 106 pv) (mD S 107 pv)) 112 q0 = nI s2 := by unfold flM; simp (disch := omega) only [← Nat.add_assoc, Nat.add_sub_cancel, Nat.sub_zero, as21, as31, as32, and_self, and_true, true_and, l_0, l_1, l_2, l_3, l_4, l_5, l_6, l_7, l_8, l_9, l_10, l_11, l_12, l_13, l_14, l_15, l_16, l_17, l_18, l_19, l_20, l_21, l_22, l_23, l_24, l_25, l_26, l_27, l_28, l_29, l_30, l_31, l_32, l_33, l_34, l_35, l_36, l_37, l_38, l_39, l_40, l_41, l_42, l_43, l_44, l_45, l_47, l_48, l_50, l_52, l_60, l_61, l_63, l_80, l_99, l_100, l_101, l_102, l_103, l_105, l_106, l_107, l_108, l_109, l_110, l_111, l_112, l_114, l_115, l_116, l_117, l_118, l_119, l_120, l_122, l_168, l_200, l_320, l_360, l_528, l_548, l_1000, l_1023, l_2000, l_3000, l_1000000, qadd, qmul, qsub, qdiv, qcl, qinT, qchT, qleT, qleF, qltT, qltF, qeqT, qeqF, qneg_ne, bo0, bo1, qneg_ne', qneg_lt, mI_eq, mD_eq, mL_eq, mR_eq, mI_at, mD_at, mL_at, mI_ne, mD_ne, mL_ne, mR_ne, not_false_eq_true, not_true_eq_false, or_true, true_or, or_false, false_or, or_self, false_and, and_false, eq_self, mI_sL, mI_sD, mI_sR, mI_tk, mL_sI, mL_sD, mL_sR, mL_tk, mD_sI, mD_sL, mD_sR, mD_tk, mR_sI, mR_sL, mR_sD, mR_tk, mT_sI, mT_sL, mT_sD, mT_sR, mT_tk, mK_sI, mK_sL, mK_sD, mK_sR, mK_tk, mN_sI, mN_sL, mN_sD, mN_sR, mN_tk, nx_sI, nx_sL, nx_sD, nx_sR, uC_sI, uC_sL, uC_sD, uC_sR, uS_sI, uS_sL, uS_sD, uS_sR, nx_tk, uC_tk, uS_tk]
  have E4 : mI (flM (sI S 112 q0 (nI s2)) (6 * q0 + a) (mI S 105 pv) (mI S 106 pv) (mD S 107 pv)) 113 (6 * q0 + a) = mI S 105 pv := by unfold flM; simp (disch := omega) only [← Nat.add_assoc, Nat.add_sub_cancel, Nat.sub_zero, as21, as31, as32, and_self, and_true, true_and, l_0, l_1, l_2, l_3, l_4, l_5, l_6, l_7, l_8, l_9, l_10, l_11, l_12, l_13, l_14, l_15, l_16, l_17, l_18, l_19, l_20, l_21, l_22, l_23, l_24, l_25, l_26, l_27, l_28, l_29, l_30, l_31, l_32, l_33, l_34, l_35, l_36, l_37, l_38, l_39, l_40, l_41, l_42, l_43, l_44, l_45, l_47, l_48, l_50, l_52, l_60, l_61, l_63, l_80, l_99, l_100, l_101, l_102, l_103, l_105, l_106, l_107, l_108, l_109, l_110, l_111, l_112, l_114, l_115, l_116, l_117, l_118, l_119, l_120, l_122, l_168, l_200, l_320, l_360, l_528, l_548, l_1000, l_1023, l_2000, l_3000, l_1000000, qadd, qmul, qsub, qdiv, qcl, qinT, qchT, qleT, qleF, qltT, qltF, qeqT, qeqF, qneg_ne, bo0, bo1, qneg_ne', qneg_lt, mI_eq, mD_eq, mL_eq, mR_eq, mI_at, mD_at, mL_at, mI_ne, mD_ne, mL_ne, mR_ne, not_false_eq_true, not_true_eq_false, or_true, true_or, or_false, false_or, or_self, false_and, and_false, eq_self, mI_sL, mI_sD, mI_sR, mI_tk, mL_sI, mL_sD, mL_sR, mL_tk, mD_sI, mD_sL, mD_sR, mD_tk, mR_sI, mR_sL, mR_sD, mR_tk, mT_sI, mT_sL, mT_sD, mT_sR, mT_tk, mK_sI, mK_sL, mK_sD, mK_sR, mK_tk, mN_sI, mN_sL, mN_sD, mN_sR, mN_tk, nx_sI, nx_sL, nx_sD, nx_sR, uC_sI, uC_sL, uC_sD, uC_sR, uS_sI, uS_sL, uS_sD, uS_sR, nx_tk, uC_tk, uS_tk]
  have E5 : mI (flM (sI S 112 q0 (nI s2)) (6 * q0 + a) (mI S 105 pv) (mI S 106 pv) (mD S 107 pv)) 114 (6 * q0 + a) = mI S 106 pv := by unfold flM; simp (disch := omega) only [← Nat.add_assoc, Nat.add_sub_cancel, Nat.sub_zero, as21, as31, as32, and_self, and_true, true_and, l_0, l_1, l_2, l_3, l_4, l_5, l_6, l_7, l_8, l_9, l_10, l_11, l_12, l_13, l_14, l_15, l_16, l_17, l_18, l_19, l_20, l_21, l_22, l_23, l_24, l_25, l_26, l_27, l_28, l_29, l_30, l_31, l_32, l_33, l_34, l_35, l_36, l_37, l_38, l_39, l_40, l_41, l_42, l_43, l_44, l_45, l_47, l_48, l_50, l_52, l_60, l_61, l_63, l_80, l_99, l_100, l_101, l_102, l_103, l_105, l_106, l_107, l_108, l_109, l_110, l_111, l_112, l_114, l_115, l_116, l_117, l_118, l_119, l_120, l_122, l_168, l_200, l_320, l_360, l_528, l_548, l_1000, l_1023, l_2000, l_3000, l_1000000, qadd, qmul, qsub, qdiv, qcl, qinT, qchT, qleT, qleF, qltT, qltF, qeqT, qeqF, qneg_ne, bo0, bo1, qneg_ne', qneg_lt, mI_eq, mD_eq, mL_eq, mR_eq, mI_at, mD_at, mL_at, mI_ne, mD_ne, mL_ne, mR_ne, not_false_eq_true, not_true_eq_false, or_true, true_or, or_false, false_or, or_self, false_and, and_false, eq_self, mI_sL, mI_sD, mI_sR, mI_tk, mL_sI, mL_sD, mL_sR, mL_tk, mD_sI, mD_sL, mD_sR, mD_tk, mR_sI, mR_sL, mR_sD, mR_tk, mT_sI, mT_sL, mT_sD, mT_sR, mT_tk, mK_sI, mK_sL, mK_sD, mK_sR, mK_tk, mN_sI, mN_sL, mN_sD, mN_sR, mN_tk, nx_sI, nx_sL, nx_sD, nx_sR, uC_sI, uC_sL, uC_sD, uC_sR, uS_sI, uS_sL, uS_sD, uS_sR, nx_tk, uC_tk, uS_tk]
  have E6 : mD (flM (sI S 112 q0 (nI s2)) (6 * q0 + a) (mI S 105 pv) (mI S 106 pv) (mD S 107 pv)) 115 (6 * q0 + a) = mD S 107 pv := by unfold flM; simp (disch := omega) only [← Nat.add_assoc, Nat.add_sub_cancel, Nat.sub_zero, as21, as31, as32, and_self, and_true, true_and, l_0, l_1, l_2, l_3, l_4, l_5, l_6, l_7, l_8, l_9, l_10, l_11, l_12, l_13, l_14, l_15, l_16, l_17, l_18, l_19, l_20, l_21, l_22, l_23, l_24, l_25, l_26, l_27, l_28, l_29, l_30, l_31, l_32, l_33, l_34, l_35, l_36, l_37, l_38, l_39, l_40, l_41, l_42, l_43, l_44, l_45, l_47, l_48, l_50, l_52, l_60, l_61, l_63, l_80, l_99, l_100, l_101, l_102, l_103, l_105, l_106, l_107, l_108, l_109, l_110, l_111, l_112, l_114, l_115, l_116, l_117, l_118, l_119, l_120, l_122, l_168, l_200, l_320, l_360, l_528, l_548, l_1000, l_1023, l_2000, l_3000, l_1000000, qadd, qmul, qsub, qdiv, qcl, qinT, qchT, qleT, qleF, qltT, qltF, qeqT, qeqF, qneg_ne, bo0, bo1, qneg_ne', qneg_lt, mI_eq, mD_eq, mL_eq, mR_eq, mI_at, mD_at, mL_at, mI_ne, mD_ne, mL_ne, mR_ne, not_false_eq_true, not_true_eq_false, or_true, true_or, or_false, false_or, or_self, false_and, and_false, eq_self, mI_sL, mI_sD, mI_sR, mI_tk, mL_sI, mL_sD, mL_sR, mL_tk, mD_sI, mD_sL, mD_sR, mD_tk, mR_sI, mR_sL, mR_sD, mR_tk, mT_sI, mT_sL, mT_sD, mT_sR, mT_tk, mK_sI, mK_sL, mK_sD, mK_sR, mK_tk, mN_sI, mN_sL, mN_sD, mN_sR, mN_tk, nx_sI, nx_sL, nx_sD, nx_sR, uC_sI, uC_sL, uC_sD, uC_sR, uS_sI, uS_sL, uS_sD, uS_sR, nx_tk, uC_tk, uS_tk]
  generalize flM (sI S 112 q0 (nI s2)) (6 * q0 + a) (mI S 105 pv) (mI S 106 pv) (mD S 107 pv) = E at *
  generalize mvC (sI M (o + 9) q0 (nI s2)) o pv (168 + 6 * q0 + a) = N at *
  refine ⟨⟨?_, ?_, ?_, ?_, ?_, ?_, ?_⟩, ?_, ?_, ?_, ?_, ?_, ?_, ?_, ?_⟩
  · intro p hp
    rw [N1 _ p (by omega), N1 _ p (by omega), N2 _ p (by omega), E1 105 p (by omega), E1 106 p (by omega), E2 107 p (by omega)]
    exact hRV p hp
  · intro p hp
    by_cases e : p = 6 * q0 + a
    · subst e
      rw [← Nat.add_assoc, N4, N5, N6, E4, E5, E6]; exact hv
    · rw [N1 _ _ (by omega), N1 _ _ (by omega), N2 _ _ (by omega), E1 113 p (by omega), E1 114 p (by omega), E2 115 p (by omega)]
      exact hRF p hp
  · refine ⟨fun i hi => ?_, ?_⟩
    · rw [N1 _ _ (by omega), N1 _ _ (by omega), N2 _ _ (by omega), E1 116 i (by omega), EL]
      exact hRT.1 i hi
    · rw [N1 _ _ (by omega), N1 _ _ (by omega), N2 _ _ (by omega), E1 69 63 (by omega), EL]
      exact hRT.2
  · unfold RO at hRO ⊢
    rw [N1 o 10 (by omega), N1 o 12 (by omega), N1 o 11 (by omega), E1 69 52 (by omega), E1 69 57 (by omega), E1 69 59 (by omega)]
    refine ⟨hRO.1, hRO.2.1, hRO.2.2.1, fun k hk => ?_⟩
    by_cases e : k = q0
    · subst e; exact N3.trans E3.symm
    · rw [N1 _ k (by omega), E1 112 k (by omega)]; exact hRO.2.2.2 k hk
  · refine ⟨by rw [N1 o 9 (by omega)]; exact hRA.1, fun f hf => ?_⟩
    rw [N1 _ f (by omega), N1 _ f (by omega), N1 _ f (by omega), E1 109 f (by omega), E1 110 f (by omega), E1 111 f (by omega)]
    exact hRA.2 f hf
  · exact RS_e hRS (fun a p _ _ => N1 a p (by omega)) (fun p => E1 78 p (by omega)) (fun p => E1 79 p (by omega)) (fun p => E1 80 p (by omega)) (fun p => E1 81 p (by omega)) (fun p => E1 82 p (by omega))
  · exact PR_e hPR (fun a p _ _ => N1 a p (by omega)) (E1 69 1 (by omega)) (E1 69 8 (by omega)) (fun a p _ _ => E1 a p (by omega))
  · refine ⟨(E1 69 48 (by omega)).trans hWA.1, hWA.2.1, fun f hf => ?_⟩
    rw [E1 109 f (by omega), E1 110 f (by omega), E1 111 f (by omega)]
    exact hWA.2.2 f hf
  · exact WV_n hWV (fun f => E1 111 f (by omega)) (fun p => E1 105 p (by omega)) (fun p => E1 106 p (by omega)) (Nat.le_refl _)
  · refine ⟨fun p hp => by rw [E1 105 p (by omega)]; exact hWC.1 p hp, fun p hp => ?_⟩
    by_cases e : p = 6 * q0 + a
    · subst e; rw [E4]; exact hc
    · rw [E1 113 p (by omega)]; exact hWC.2 p hp
  · refine ⟨(E1 69 52 (by omega)).trans hWO.1, hWO.2.1, fun k hk => ?_⟩
    by_cases e : k = q0
    · subst e; exact ⟨s2, hs2, E3⟩
    · rw [E1 112 k (by omega)]; exact hWO.2.2 k hk
  · intro k m hk2 hm hF
    have hns := hWS.2.1
    rw [hasF_s (fun s => E1 80 s (by omega)) (fun p => E1 81 p (by omega))] at hF
    by_cases e : k = q0
    · subst e
      rw [E3, qcl (by omega)] at hF
      by_cases e2 : m = a
      · subst e2; rw [E4, E5]; exact hk
      · rw [E1 113 _ (by omega), E1 114 _ (by omega)]
        refine hWF k m hk2 hm ?_
        rw [hs, qcl (by omega)]
        exact (hsh m hm hF).resolve_left e2
    · rw [E1 112 k (by omega)] at hF
      rw [E1 113 _ (by omega), E1 114 _ (by omega)]
      exact hWF k m hk2 hm hF
  · exact WS_e hWS (E1 69 12 (by omega)) (fun p => E1 78 p (by omega)) (fun p => E1 79 p (by omega)) (fun p => E1 80 p (by omega)) (fun p => E1 81 p (by omega)) (fun p => E1 82 p (by omega))
  · exact WP_e hWP (E1 69 1 (by omega)) (E1 69 8 (by omega)) (fun a p _ _ => E1 a p (by omega))
  · unfold WE at hWE ⊢
    rw [E1 69 57 (by omega), E1 69 59 (by omega)]
    exact hWE
end MR7
