/-! ===== facts behind a step of the class ===== -/
section MH2
def CPf (M N : Mem) (p q : Nat) : Prop := mI N 23 q = mI M 23 p ∧ ∀ j, j ≠ q → j < 168 → mI N 23 j = mI M 23 j
def NOf (M N : Mem) (q : Nat) : Prop := ∀ j, j ≠ q → j < 168 → mI N 23 j = mI M 23 j
theorem cx_inj {M N N2 : Mem} {z z2 : Int32} (h1 : d_X3_execute 18 M = some (z, N)) (h2 : d_X3_execute 18 M = some (z2, N2)) : N2 = N := congrArg Prod.snd (Option.some.inj (h2.symm.trans h1))
theorem cf_l {M S N2 : Mem} {d ns ob nc nf f i e : Nat} {z : Int32} (hR : RC M S 18 d ns) (hW : WW S d ob ns nc nf) (hf : mI S 109 d = nI f) (hf1 : f < 8) (hi : mI S 110 d = nI i) (hi1 : i < 40) (he : mI S 69 57 = nI e) (gc : mI M 18 7 = nI 108) {a : Nat} (ga : mI M 18 8 = nI a) {h : Nat} (hh : mI S 111 d = nI (h)) (hh1 : h < 8) (ha1 : a < 6) (hx : d_X3_execute 18 M = some (z, N2)) : CPf M N2 (14 * d + a) (14 * d + 6 + h) := by
  have ho : isO 18 := .inl rfl
  obtain ⟨hRV, hRF, hRT, hRO, hRA, hRS, hPR⟩ := id hR
  obtain ⟨hWA, hWV, hWC, hWO, hWF, hWS, hWP, hWE⟩ := id hW
  have hd := hWA.1
  have hd1 := hWA.2.1
  have gd := hRA.1
  obtain ⟨gf0, gi0, gh0⟩ := hRA.2 d (Nat.le_refl _)
  have gi := gi0.trans hi
  have gh := gh0.trans hh
  have ge := hRO.2.1.trans he
  have c1 := cx_l ho gd hd1 gi hi1 ge gc ga gh hh1 ha1 (by rw [(hRV (14 * d + a) (by omega)).kind]; exact hWC.1 _ (by omega))
  obtain rfl := cx_inj hx c1
  refine ⟨?_, fun j h1 h2 => ?_⟩
  all_goals simp (disch := omega) only [← Nat.add_assoc, Nat.add_sub_cancel, Nat.sub_zero, as21, as31, as32, and_self, and_true, true_and, l_0, l_1, l_2, l_3, l_4, l_5, l_6, l_7, l_8, l_9, l_10, l_11, l_12, l_13, l_14, l_15, l_16, l_17, l_18, l_19, l_20, l_21, l_22, l_23, l_24, l_25, l_26, l_27, l_28, l_29, l_30, l_31, l_32, l_33, l_34, l_35, l_36, l_37, l_38, l_39, l_40, l_41, l_42, l_43, l_44, l_45, l_47, l_48, l_50, l_52, l_60, l_61, l_63, l_80, l_99, l_100, l_101, l_102, l_103, l_105, l_106, l_107, l_108, l_109, l_110, l_111, l_112, l_114, l_115, l_116, l_117, l_118, l_119, l_120, l_122, l_168, l_200, l_320, l_360, l_528, l_548, l_1000, l_1023, l_2000, l_3000, l_1000000, qadd, qmul, qsub, qdiv, qcl, qinT, qchT, qleT, qleF, qltT, qltF, qeqT, qeqF, qneg_ne, bo0, bo1, qneg_ne', qneg_lt, mI_eq, mD_eq, mL_eq, mR_eq, mI_at, mD_at, mL_at, mI_ne, mD_ne, mL_ne, mR_ne, not_false_eq_true, not_true_eq_false, or_true, true_or, or_false, false_or, or_self, false_and, and_false, eq_self, mI_sL, mI_sD, mI_sR, mI_tk, mL_sI, mL_sD, mL_sR, mL_tk, mD_sI, mD_sL, mD_sR, mD_tk, mR_sI, mR_sL, mR_sD, mR_tk, mT_sI, mT_sL, mT_sD, mT_sR, mT_tk, mK_sI, mK_sL, mK_sD, mK_sR, mK_tk, mN_sI, mN_sL, mN_sD, mN_sR, mN_tk, nx_sI, nx_sL, nx_sD, nx_sR, uC_sI, uC_sL, uC_sD, uC_sR, uS_sI, uS_sL, uS_sD, uS_sR, nx_tk, uC_tk, uS_tk, xC, mvC, puC]
theorem cf_s {M S N2 : Mem} {d ns ob nc nf f i e : Nat} {z : Int32} (hR : RC M S 18 d ns) (hW : WW S d ob ns nc nf) (hf : mI S 109 d = nI f) (hf1 : f < 8) (hi : mI S 110 d = nI i) (hi1 : i < 40) (he : mI S 69 57 = nI e) (gc : mI M 18 7 = nI 115) {a : Nat} (ga : mI M 18 8 = nI a) {t : Nat} (hh : mI S 111 d = nI (t + 1)) (hh1 : t < 8) (ha1 : a < 6) (hx : d_X3_execute 18 M = some (z, N2)) : CPf M N2 (14 * d + 6 + t) (14 * d + a) := by
  have ho : isO 18 := .inl rfl
  obtain ⟨hRV, hRF, hRT, hRO, hRA, hRS, hPR⟩ := id hR
  obtain ⟨hWA, hWV, hWC, hWO, hWF, hWS, hWP, hWE⟩ := id hW
  have hd := hWA.1
  have hd1 := hWA.2.1
  have gd := hRA.1
  obtain ⟨gf0, gi0, gh0⟩ := hRA.2 d (Nat.le_refl _)
  have gi := gi0.trans hi
  have gh := gh0.trans hh
  have ge := hRO.2.1.trans he
  have c1 := cx_s ho gd hd1 gi hi1 ge gc ga gh hh1 ha1 (by rw [(hRV (14 * d + 6 + t) (by omega)).kind]; exact hWC.1 _ (by omega))
  obtain rfl := cx_inj hx c1
  refine ⟨?_, fun j h1 h2 => ?_⟩
  all_goals simp (disch := omega) only [← Nat.add_assoc, Nat.add_sub_cancel, Nat.sub_zero, as21, as31, as32, and_self, and_true, true_and, l_0, l_1, l_2, l_3, l_4, l_5, l_6, l_7, l_8, l_9, l_10, l_11, l_12, l_13, l_14, l_15, l_16, l_17, l_18, l_19, l_20, l_21, l_22, l_23, l_24, l_25, l_26, l_27, l_28, l_29, l_30, l_31, l_32, l_33, l_34, l_35, l_36, l_37, l_38, l_39, l_40, l_41, l_42, l_43, l_44, l_45, l_47, l_48, l_50, l_52, l_60, l_61, l_63, l_80, l_99, l_100, l_101, l_102, l_103, l_105, l_106, l_107, l_108, l_109, l_110, l_111, l_112, l_114, l_115, l_116, l_117, l_118, l_119, l_120, l_122, l_168, l_200, l_320, l_360, l_528, l_548, l_1000, l_1023, l_2000, l_3000, l_1000000, qadd, qmul, qsub, qdiv, qcl, qinT, qchT, qleT, qleF, qltT, qltF, qeqT, qeqF, qneg_ne, bo0, bo1, qneg_ne', qneg_lt, mI_eq, mD_eq, mL_eq, mR_eq, mI_at, mD_at, mL_at, mI_ne, mD_ne, mL_ne, mR_ne, not_false_eq_true, not_true_eq_false, or_true, true_or, or_false, false_or, or_self, false_and, and_false, eq_self, mI_sL, mI_sD, mI_sR, mI_tk, mL_sI, mL_sD, mL_sR, mL_tk, mD_sI, mD_sL, mD_sR, mD_tk, mR_sI, mR_sL, mR_sD, mR_tk, mT_sI, mT_sL, mT_sD, mT_sR, mT_tk, mK_sI, mK_sL, mK_sD, mK_sR, mK_tk, mN_sI, mN_sL, mN_sD, mN_sR, mN_tk, nx_sI, nx_sL, nx_sD, nx_sR, uC_sI, uC_sL, uC_sD, uC_sR, uS_sI, uS_sL, uS_sD, uS_sR, nx_tk, uC_tk, uS_tk, xC, mvC, puC]
theorem cf_u {M S N2 : Mem} {d ns ob nc nf f i e : Nat} {z : Int32} (hR : RC M S 18 d ns) (hW : WW S d ob ns nc nf) (hf : mI S 109 d = nI f) (hf1 : f < 8) (hi : mI S 110 d = nI i) (hi1 : i < 40) (he : mI S 69 57 = nI e) (gc : mI M 18 7 = nI 117) {t : Nat} (hh : mI S 111 d = nI (t + 1)) (hh1 : t + 1 < 8) (hx : d_X3_execute 18 M = some (z, N2)) : CPf M N2 (14 * d + 6 + t) (14 * d + 6 + t + 1) := by
  have ho : isO 18 := .inl rfl
  obtain ⟨hRV, hRF, hRT, hRO, hRA, hRS, hPR⟩ := id hR
  obtain ⟨hWA, hWV, hWC, hWO, hWF, hWS, hWP, hWE⟩ := id hW
  have hd := hWA.1
  have hd1 := hWA.2.1
  have gd := hRA.1
  obtain ⟨gf0, gi0, gh0⟩ := hRA.2 d (Nat.le_refl _)
  have gi := gi0.trans hi
  have gh := gh0.trans hh
  have ge := hRO.2.1.trans he
  have c1 := cx_u ho gd hd1 gi hi1 ge gc gh hh1 (by rw [(hRV (14 * d + 6 + t) (by omega)).kind]; exact hWC.1 _ (by omega))
  obtain rfl := cx_inj hx c1
  refine ⟨?_, fun j h1 h2 => ?_⟩
  all_goals simp (disch := omega) only [← Nat.add_assoc, Nat.add_sub_cancel, Nat.sub_zero, as21, as31, as32, and_self, and_true, true_and, l_0, l_1, l_2, l_3, l_4, l_5, l_6, l_7, l_8, l_9, l_10, l_11, l_12, l_13, l_14, l_15, l_16, l_17, l_18, l_19, l_20, l_21, l_22, l_23, l_24, l_25, l_26, l_27, l_28, l_29, l_30, l_31, l_32, l_33, l_34, l_35, l_36, l_37, l_38, l_39, l_40, l_41, l_42, l_43, l_44, l_45, l_47, l_48, l_50, l_52, l_60, l_61, l_63, l_80, l_99, l_100, l_101, l_102, l_103, l_105, l_106, l_107, l_108, l_109, l_110, l_111, l_112, l_114, l_115, l_116, l_117, l_118, l_119, l_120, l_122, l_168, l_200, l_320, l_360, l_528, l_548, l_1000, l_1023, l_2000, l_3000, l_1000000, qadd, qmul, qsub, qdiv, qcl, qinT, qchT, qleT, qleF, qltT, qltF, qeqT, qeqF, qneg_ne, bo0, bo1, qneg_ne', qneg_lt, mI_eq, mD_eq, mL_eq, mR_eq, mI_at, mD_at, mL_at, mI_ne, mD_ne, mL_ne, mR_ne, not_false_eq_true, not_true_eq_false, or_true, true_or, or_false, false_or, or_self, false_and, and_false, eq_self, mI_sL, mI_sD, mI_sR, mI_tk, mL_sI, mL_sD, mL_sR, mL_tk, mD_sI, mD_sL, mD_sR, mD_tk, mR_sI, mR_sL, mR_sD, mR_tk, mT_sI, mT_sL, mT_sD, mT_sR, mT_tk, mK_sI, mK_sL, mK_sD, mK_sR, mK_tk, mN_sI, mN_sL, mN_sD, mN_sR, mN_tk, nx_sI, nx_sL, nx_sD, nx_sR, uC_sI, uC_sL, uC_sD, uC_sR, uS_sI, uS_sL, uS_sD, uS_sR, nx_tk, uC_tk, uS_tk, xC, mvC, puC]
theorem cf_d {M S N2 : Mem} {d ns ob nc nf f i e : Nat} {z : Int32} (hR : RC M S 18 d ns) (hW : WW S d ob ns nc nf) (hf : mI S 109 d = nI f) (hf1 : f < 8) (hi : mI S 110 d = nI i) (hi1 : i < 40) (he : mI S 69 57 = nI e) (gc : mI M 18 7 = nI 100) {t : Nat} (hh : mI S 111 d = nI (t + 1)) (hh1 : t < 8) (hx : d_X3_execute 18 M = some (z, N2)) : NOf M N2 200 := by
  have ho : isO 18 := .inl rfl
  obtain ⟨hRV, hRF, hRT, hRO, hRA, hRS, hPR⟩ := id hR
  obtain ⟨hWA, hWV, hWC, hWO, hWF, hWS, hWP, hWE⟩ := id hW
  have hd := hWA.1
  have hd1 := hWA.2.1
  have gd := hRA.1
  obtain ⟨gf0, gi0, gh0⟩ := hRA.2 d (Nat.le_refl _)
  have gi := gi0.trans hi
  have gh := gh0.trans hh
  have ge := hRO.2.1.trans he
  have c1 := cx_d ho gd hd1 gi hi1 ge gc gh hh1
  obtain rfl := cx_inj hx c1
  intro j h1 h2
  simp (disch := omega) only [← Nat.add_assoc, Nat.add_sub_cancel, Nat.sub_zero, as21, as31, as32, and_self, and_true, true_and, l_0, l_1, l_2, l_3, l_4, l_5, l_6, l_7, l_8, l_9, l_10, l_11, l_12, l_13, l_14, l_15, l_16, l_17, l_18, l_19, l_20, l_21, l_22, l_23, l_24, l_25, l_26, l_27, l_28, l_29, l_30, l_31, l_32, l_33, l_34, l_35, l_36, l_37, l_38, l_39, l_40, l_41, l_42, l_43, l_44, l_45, l_47, l_48, l_50, l_52, l_60, l_61, l_63, l_80, l_99, l_100, l_101, l_102, l_103, l_105, l_106, l_107, l_108, l_109, l_110, l_111, l_112, l_114, l_115, l_116, l_117, l_118, l_119, l_120, l_122, l_168, l_200, l_320, l_360, l_528, l_548, l_1000, l_1023, l_2000, l_3000, l_1000000, qadd, qmul, qsub, qdiv, qcl, qinT, qchT, qleT, qleF, qltT, qltF, qeqT, qeqF, qneg_ne, bo0, bo1, qneg_ne', qneg_lt, mI_eq, mD_eq, mL_eq, mR_eq, mI_at, mD_at, mL_at, mI_ne, mD_ne, mL_ne, mR_ne, not_false_eq_true, not_true_eq_false, or_true, true_or, or_false, false_or, or_self, false_and, and_false, eq_self, mI_sL, mI_sD, mI_sR, mI_tk, mL_sI, mL_sD, mL_sR, mL_tk, mD_sI, mD_sL, mD_sR, mD_tk, mR_sI, mR_sL, mR_sD, mR_tk, mT_sI, mT_sL, mT_sD, mT_sR, mT_tk, mK_sI, mK_sL, mK_sD, mK_sR, mK_tk, mN_sI, mN_sL, mN_sD, mN_sR, mN_tk, nx_sI, nx_sL, nx_sD, nx_sR, uC_sI, uC_sL, uC_sD, uC_sR, uS_sI, uS_sL, uS_sD, uS_sR, nx_tk, uC_tk, uS_tk, xC, mvC, puC]
theorem cf_j {M S N2 : Mem} {d ns ob nc nf f i e : Nat} {z : Int32} (hR : RC M S 18 d ns) (hW : WW S d ob ns nc nf) (hf : mI S 109 d = nI f) (hf1 : f < 8) (hi : mI S 110 d = nI i) (hi1 : i < 40) (he : mI S 69 57 = nI e) (gc : mI M 18 7 = nI 106) {a : Nat} (ga : mI M 18 8 = nI a) {h : Nat} (hh : mI S 111 d = nI h) (ha1 : a < 40) (hx : d_X3_execute 18 M = some (z, N2)) : NOf M N2 200 := by
  have ho : isO 18 := .inl rfl
  obtain ⟨hRV, hRF, hRT, hRO, hRA, hRS, hPR⟩ := id hR
  obtain ⟨hWA, hWV, hWC, hWO, hWF, hWS, hWP, hWE⟩ := id hW
  have hd := hWA.1
  have hd1 := hWA.2.1
  have gd := hRA.1
  obtain ⟨gf0, gi0, gh0⟩ := hRA.2 d (Nat.le_refl _)
  have gi := gi0.trans hi
  have gh := gh0.trans hh
  have ge := hRO.2.1.trans he
  by_cases hb : a ≤ i
  · have c1 := cx_j1 ho gd hd1 gi hi1 ge gc ga ha1 hb
    obtain rfl := cx_inj hx c1
    intro j h1 h2
    simp (disch := omega) only [← Nat.add_assoc, Nat.add_sub_cancel, Nat.sub_zero, as21, as31, as32, and_self, and_true, true_and, l_0, l_1, l_2, l_3, l_4, l_5, l_6, l_7, l_8, l_9, l_10, l_11, l_12, l_13, l_14, l_15, l_16, l_17, l_18, l_19, l_20, l_21, l_22, l_23, l_24, l_25, l_26, l_27, l_28, l_29, l_30, l_31, l_32, l_33, l_34, l_35, l_36, l_37, l_38, l_39, l_40, l_41, l_42, l_43, l_44, l_45, l_47, l_48, l_50, l_52, l_60, l_61, l_63, l_80, l_99, l_100, l_101, l_102, l_103, l_105, l_106, l_107, l_108, l_109, l_110, l_111, l_112, l_114, l_115, l_116, l_117, l_118, l_119, l_120, l_122, l_168, l_200, l_320, l_360, l_528, l_548, l_1000, l_1023, l_2000, l_3000, l_1000000, qadd, qmul, qsub, qdiv, qcl, qinT, qchT, qleT, qleF, qltT, qltF, qeqT, qeqF, qneg_ne, bo0, bo1, qneg_ne', qneg_lt, mI_eq, mD_eq, mL_eq, mR_eq, mI_at, mD_at, mL_at, mI_ne, mD_ne, mL_ne, mR_ne, not_false_eq_true, not_true_eq_false, or_true, true_or, or_false, false_or, or_self, false_and, and_false, eq_self, mI_sL, mI_sD, mI_sR, mI_tk, mL_sI, mL_sD, mL_sR, mL_tk, mD_sI, mD_sL, mD_sR, mD_tk, mR_sI, mR_sL, mR_sD, mR_tk, mT_sI, mT_sL, mT_sD, mT_sR, mT_tk, mK_sI, mK_sL, mK_sD, mK_sR, mK_tk, mN_sI, mN_sL, mN_sD, mN_sR, mN_tk, nx_sI, nx_sL, nx_sD, nx_sR, uC_sI, uC_sL, uC_sD, uC_sR, uS_sI, uS_sL, uS_sD, uS_sR, nx_tk, uC_tk, uS_tk, xC, mvC, puC]
  · have c1 := cx_j0 ho gd hd1 gi hi1 ge gc ga ha1 (by omega)
    obtain rfl := cx_inj hx c1
    intro j h1 h2
    simp (disch := omega) only [← Nat.add_assoc, Nat.add_sub_cancel, Nat.sub_zero, as21, as31, as32, and_self, and_true, true_and, l_0, l_1, l_2, l_3, l_4, l_5, l_6, l_7, l_8, l_9, l_10, l_11, l_12, l_13, l_14, l_15, l_16, l_17, l_18, l_19, l_20, l_21, l_22, l_23, l_24, l_25, l_26, l_27, l_28, l_29, l_30, l_31, l_32, l_33, l_34, l_35, l_36, l_37, l_38, l_39, l_40, l_41, l_42, l_43, l_44, l_45, l_47, l_48, l_50, l_52, l_60, l_61, l_63, l_80, l_99, l_100, l_101, l_102, l_103, l_105, l_106, l_107, l_108, l_109, l_110, l_111, l_112, l_114, l_115, l_116, l_117, l_118, l_119, l_120, l_122, l_168, l_200, l_320, l_360, l_528, l_548, l_1000, l_1023, l_2000, l_3000, l_1000000, qadd, qmul, qsub, qdiv, qcl, qinT, qchT, qleT, qleF, qltT, qltF, qeqT, qeqF, qneg_ne, bo0, bo1, qneg_ne', qneg_lt, mI_eq, mD_eq, mL_eq, mR_eq, mI_at, mD_at, mL_at, mI_ne, mD_ne, mL_ne, mR_ne, not_false_eq_true, not_true_eq_false, or_true, true_or, or_false, false_or, or_self, false_and, and_false, eq_self, mI_sL, mI_sD, mI_sR, mI_tk, mL_sI, mL_sD, mL_sR, mL_tk, mD_sI, mD_sL, mD_sR, mD_tk, mR_sI, mR_sL, mR_sD, mR_tk, mT_sI, mT_sL, mT_sD, mT_sR, mT_tk, mK_sI, mK_sL, mK_sD, mK_sR, mK_tk, mN_sI, mN_sL, mN_sD, mN_sR, mN_tk, nx_sI, nx_sL, nx_sD, nx_sR, uC_sI, uC_sL, uC_sD, uC_sR, uS_sI, uS_sL, uS_sD, uS_sR, nx_tk, uC_tk, uS_tk, xC, mvC, puC]
theorem cf_z {M S N2 : Mem} {d ns ob nc nf f i e : Nat} {z : Int32} (hR : RC M S 18 d ns) (hW : WW S d ob ns nc nf) (hf : mI S 109 d = nI f) (hf1 : f < 8) (hi : mI S 110 d = nI i) (hi1 : i < 40) (he : mI S 69 57 = nI e) (gc : mI M 18 7 = nI 122) {a : Nat} (ga : mI M 18 8 = nI a) {t : Nat} (hh : mI S 111 d = nI (t + 1)) (hh1 : t < 8) (ha1 : a < 40) (hx : d_X3_execute 18 M = some (z, N2)) : NOf M N2 200 := by
  have ho : isO 18 := .inl rfl
  obtain ⟨hRV, hRF, hRT, hRO, hRA, hRS, hPR⟩ := id hR
  obtain ⟨hWA, hWV, hWC, hWO, hWF, hWS, hWP, hWE⟩ := id hW
  have hd := hWA.1
  have hd1 := hWA.2.1
  have gd := hRA.1
  obtain ⟨gf0, gi0, gh0⟩ := hRA.2 d (Nat.le_refl _)
  have gi := gi0.trans hi
  have gh := gh0.trans hh
  have ge := hRO.2.1.trans he
  by_cases hz9 : isNl (mI S 105 (14 * d + 6 + t)) (mI S 106 (14 * d + 6 + t)) (mD S 107 (14 * d + 6 + t))
  · by_cases hb : a ≤ i
    · have c1 := cx_z1 ho gd hd1 gi hi1 ge gc ga gh hh1 ha1 hb (hRV (14 * d + 6 + t) (by omega)) hz9
      obtain rfl := cx_inj hx c1
      intro j h1 h2
      simp (disch := omega) only [← Nat.add_assoc, Nat.add_sub_cancel, Nat.sub_zero, as21, as31, as32, and_self, and_true, true_and, l_0, l_1, l_2, l_3, l_4, l_5, l_6, l_7, l_8, l_9, l_10, l_11, l_12, l_13, l_14, l_15, l_16, l_17, l_18, l_19, l_20, l_21, l_22, l_23, l_24, l_25, l_26, l_27, l_28, l_29, l_30, l_31, l_32, l_33, l_34, l_35, l_36, l_37, l_38, l_39, l_40, l_41, l_42, l_43, l_44, l_45, l_47, l_48, l_50, l_52, l_60, l_61, l_63, l_80, l_99, l_100, l_101, l_102, l_103, l_105, l_106, l_107, l_108, l_109, l_110, l_111, l_112, l_114, l_115, l_116, l_117, l_118, l_119, l_120, l_122, l_168, l_200, l_320, l_360, l_528, l_548, l_1000, l_1023, l_2000, l_3000, l_1000000, qadd, qmul, qsub, qdiv, qcl, qinT, qchT, qleT, qleF, qltT, qltF, qeqT, qeqF, qneg_ne, bo0, bo1, qneg_ne', qneg_lt, mI_eq, mD_eq, mL_eq, mR_eq, mI_at, mD_at, mL_at, mI_ne, mD_ne, mL_ne, mR_ne, not_false_eq_true, not_true_eq_false, or_true, true_or, or_false, false_or, or_self, false_and, and_false, eq_self, mI_sL, mI_sD, mI_sR, mI_tk, mL_sI, mL_sD, mL_sR, mL_tk, mD_sI, mD_sL, mD_sR, mD_tk, mR_sI, mR_sL, mR_sD, mR_tk, mT_sI, mT_sL, mT_sD, mT_sR, mT_tk, mK_sI, mK_sL, mK_sD, mK_sR, mK_tk, mN_sI, mN_sL, mN_sD, mN_sR, mN_tk, nx_sI, nx_sL, nx_sD, nx_sR, uC_sI, uC_sL, uC_sD, uC_sR, uS_sI, uS_sL, uS_sD, uS_sR, nx_tk, uC_tk, uS_tk, xC, mvC, puC]
    · have c1 := cx_z2 ho gd hd1 gi hi1 ge gc ga gh hh1 ha1 (by omega) (hRV (14 * d + 6 + t) (by omega)) hz9
      obtain rfl := cx_inj hx c1
      intro j h1 h2
      simp (disch := omega) only [← Nat.add_assoc, Nat.add_sub_cancel, Nat.sub_zero, as21, as31, as32, and_self, and_true, true_and, l_0, l_1, l_2, l_3, l_4, l_5, l_6, l_7, l_8, l_9, l_10, l_11, l_12, l_13, l_14, l_15, l_16, l_17, l_18, l_19, l_20, l_21, l_22, l_23, l_24, l_25, l_26, l_27, l_28, l_29, l_30, l_31, l_32, l_33, l_34, l_35, l_36, l_37, l_38, l_39, l_40, l_41, l_42, l_43, l_44, l_45, l_47, l_48, l_50, l_52, l_60, l_61, l_63, l_80, l_99, l_100, l_101, l_102, l_103, l_105, l_106, l_107, l_108, l_109, l_110, l_111, l_112, l_114, l_115, l_116, l_117, l_118, l_119, l_120, l_122, l_168, l_200, l_320, l_360, l_528, l_548, l_1000, l_1023, l_2000, l_3000, l_1000000, qadd, qmul, qsub, qdiv, qcl, qinT, qchT, qleT, qleF, qltT, qltF, qeqT, qeqF, qneg_ne, bo0, bo1, qneg_ne', qneg_lt, mI_eq, mD_eq, mL_eq, mR_eq, mI_at, mD_at, mL_at, mI_ne, mD_ne, mL_ne, mR_ne, not_false_eq_true, not_true_eq_false, or_true, true_or, or_false, false_or, or_self, false_and, and_false, eq_self, mI_sL, mI_sD, mI_sR, mI_tk, mL_sI, mL_sD, mL_sR, mL_tk, mD_sI, mD_sL, mD_sR, mD_tk, mR_sI, mR_sL, mR_sD, mR_tk, mT_sI, mT_sL, mT_sD, mT_sR, mT_tk, mK_sI, mK_sL, mK_sD, mK_sR, mK_tk, mN_sI, mN_sL, mN_sD, mN_sR, mN_tk, nx_sI, nx_sL, nx_sD, nx_sR, uC_sI, uC_sL, uC_sD, uC_sR, uS_sI, uS_sL, uS_sD, uS_sR, nx_tk, uC_tk, uS_tk, xC, mvC, puC]
  · have c1 := cx_z0 ho gd hd1 gi hi1 ge gc ga gh hh1 ha1 (hRV (14 * d + 6 + t) (by omega)) hz9
    obtain rfl := cx_inj hx c1
    intro j h1 h2
    simp (disch := omega) only [← Nat.add_assoc, Nat.add_sub_cancel, Nat.sub_zero, as21, as31, as32, and_self, and_true, true_and, l_0, l_1, l_2, l_3, l_4, l_5, l_6, l_7, l_8, l_9, l_10, l_11, l_12, l_13, l_14, l_15, l_16, l_17, l_18, l_19, l_20, l_21, l_22, l_23, l_24, l_25, l_26, l_27, l_28, l_29, l_30, l_31, l_32, l_33, l_34, l_35, l_36, l_37, l_38, l_39, l_40, l_41, l_42, l_43, l_44, l_45, l_47, l_48, l_50, l_52, l_60, l_61, l_63, l_80, l_99, l_100, l_101, l_102, l_103, l_105, l_106, l_107, l_108, l_109, l_110, l_111, l_112, l_114, l_115, l_116, l_117, l_118, l_119, l_120, l_122, l_168, l_200, l_320, l_360, l_528, l_548, l_1000, l_1023, l_2000, l_3000, l_1000000, qadd, qmul, qsub, qdiv, qcl, qinT, qchT, qleT, qleF, qltT, qltF, qeqT, qeqF, qneg_ne, bo0, bo1, qneg_ne', qneg_lt, mI_eq, mD_eq, mL_eq, mR_eq, mI_at, mD_at, mL_at, mI_ne, mD_ne, mL_ne, mR_ne, not_false_eq_true, not_true_eq_false, or_true, true_or, or_false, false_or, or_self, false_and, and_false, eq_self, mI_sL, mI_sD, mI_sR, mI_tk, mL_sI, mL_sD, mL_sR, mL_tk, mD_sI, mD_sL, mD_sR, mD_tk, mR_sI, mR_sL, mR_sD, mR_tk, mT_sI, mT_sL, mT_sD, mT_sR, mT_tk, mK_sI, mK_sL, mK_sD, mK_sR, mK_tk, mN_sI, mN_sL, mN_sD, mN_sR, mN_tk, nx_sI, nx_sL, nx_sD, nx_sR, uC_sI, uC_sL, uC_sD, uC_sR, uS_sI, uS_sL, uS_sD, uS_sR, nx_tk, uC_tk, uS_tk, xC, mvC, puC]
theorem cf_t {M S N2 : Mem} {d ns ob nc nf f i e : Nat} {z : Int32} (hR : RC M S 18 d ns) (hW : WW S d ob ns nc nf) (hf : mI S 109 d = nI f) (hf1 : f < 8) (hi : mI S 110 d = nI i) (hi1 : i < 40) (he : mI S 69 57 = nI e) (gc : mI M 18 7 = nI 116) {t : Nat} (hh : mI S 111 d = nI (t + 1)) (hh1 : t < 8) (hx : d_X3_execute 18 M = some (z, N2)) : NOf M N2 200 := by
  have ho : isO 18 := .inl rfl
  obtain ⟨hRV, hRF, hRT, hRO, hRA, hRS, hPR⟩ := id hR
  obtain ⟨hWA, hWV, hWC, hWO, hWF, hWS, hWP, hWE⟩ := id hW
  have hd := hWA.1
  have hd1 := hWA.2.1
  have gd := hRA.1
  obtain ⟨gf0, gi0, gh0⟩ := hRA.2 d (Nat.le_refl _)
  have gi := gi0.trans hi
  have gh := gh0.trans hh
  have ge := hRO.2.1.trans he
  obtain ⟨tn, tn1, htn⟩ := hWE.2
  by_cases q : tn = 20
  · have c1 := cx_t0 ho gd hd1 gi hi1 ge gc gh hh1 (hRO.2.2.1.trans htn) q
    obtain rfl := cx_inj hx c1
    intro j h1 h2
    simp (disch := omega) only [← Nat.add_assoc, Nat.add_sub_cancel, Nat.sub_zero, as21, as31, as32, and_self, and_true, true_and, l_0, l_1, l_2, l_3, l_4, l_5, l_6, l_7, l_8, l_9, l_10, l_11, l_12, l_13, l_14, l_15, l_16, l_17, l_18, l_19, l_20, l_21, l_22, l_23, l_24, l_25, l_26, l_27, l_28, l_29, l_30, l_31, l_32, l_33, l_34, l_35, l_36, l_37, l_38, l_39, l_40, l_41, l_42, l_43, l_44, l_45, l_47, l_48, l_50, l_52, l_60, l_61, l_63, l_80, l_99, l_100, l_101, l_102, l_103, l_105, l_106, l_107, l_108, l_109, l_110, l_111, l_112, l_114, l_115, l_116, l_117, l_118, l_119, l_120, l_122, l_168, l_200, l_320, l_360, l_528, l_548, l_1000, l_1023, l_2000, l_3000, l_1000000, qadd, qmul, qsub, qdiv, qcl, qinT, qchT, qleT, qleF, qltT, qltF, qeqT, qeqF, qneg_ne, bo0, bo1, qneg_ne', qneg_lt, mI_eq, mD_eq, mL_eq, mR_eq, mI_at, mD_at, mL_at, mI_ne, mD_ne, mL_ne, mR_ne, not_false_eq_true, not_true_eq_false, or_true, true_or, or_false, false_or, or_self, false_and, and_false, eq_self, mI_sL, mI_sD, mI_sR, mI_tk, mL_sI, mL_sD, mL_sR, mL_tk, mD_sI, mD_sL, mD_sR, mD_tk, mR_sI, mR_sL, mR_sD, mR_tk, mT_sI, mT_sL, mT_sD, mT_sR, mT_tk, mK_sI, mK_sL, mK_sD, mK_sR, mK_tk, mN_sI, mN_sL, mN_sD, mN_sR, mN_tk, nx_sI, nx_sL, nx_sD, nx_sR, uC_sI, uC_sL, uC_sD, uC_sR, uS_sI, uS_sL, uS_sD, uS_sR, nx_tk, uC_tk, uS_tk, xC, mvC, puC]
  · have c1 := cx_t1 ho gd hd1 gi hi1 ge gc gh hh1 (hRO.2.2.1.trans htn) (by omega) (by rw [(hRV (14 * d + 6 + t) (by omega)).kind]; exact hWC.1 _ (by omega))
    obtain rfl := cx_inj hx c1
    intro j h1 h2
    simp (disch := omega) only [← Nat.add_assoc, Nat.add_sub_cancel, Nat.sub_zero, as21, as31, as32, and_self, and_true, true_and, l_0, l_1, l_2, l_3, l_4, l_5, l_6, l_7, l_8, l_9, l_10, l_11, l_12, l_13, l_14, l_15, l_16, l_17, l_18, l_19, l_20, l_21, l_22, l_23, l_24, l_25, l_26, l_27, l_28, l_29, l_30, l_31, l_32, l_33, l_34, l_35, l_36, l_37, l_38, l_39, l_40, l_41, l_42, l_43, l_44, l_45, l_47, l_48, l_50, l_52, l_60, l_61, l_63, l_80, l_99, l_100, l_101, l_102, l_103, l_105, l_106, l_107, l_108, l_109, l_110, l_111, l_112, l_114, l_115, l_116, l_117, l_118, l_119, l_120, l_122, l_168, l_200, l_320, l_360, l_528, l_548, l_1000, l_1023, l_2000, l_3000, l_1000000, qadd, qmul, qsub, qdiv, qcl, qinT, qchT, qleT, qleF, qltT, qltF, qeqT, qeqF, qneg_ne, bo0, bo1, qneg_ne', qneg_lt, mI_eq, mD_eq, mL_eq, mR_eq, mI_at, mD_at, mL_at, mI_ne, mD_ne, mL_ne, mR_ne, not_false_eq_true, not_true_eq_false, or_true, true_or, or_false, false_or, or_self, false_and, and_false, eq_self, mI_sL, mI_sD, mI_sR, mI_tk, mL_sI, mL_sD, mL_sR, mL_tk, mD_sI, mD_sL, mD_sR, mD_tk, mR_sI, mR_sL, mR_sD, mR_tk, mT_sI, mT_sL, mT_sD, mT_sR, mT_tk, mK_sI, mK_sL, mK_sD, mK_sR, mK_tk, mN_sI, mN_sL, mN_sD, mN_sR, mN_tk, nx_sI, nx_sL, nx_sD, nx_sR, uC_sI, uC_sL, uC_sD, uC_sR, uS_sI, uS_sL, uS_sD, uS_sR, nx_tk, uC_tk, uS_tk, xC, mvC, puC]
theorem cf_i {M S N2 : Mem} {d ns ob nc nf f i e : Nat} {z : Int32} (hR : RC M S 18 d ns) (hW : WW S d ob ns nc nf) (hf : mI S 109 d = nI f) (hf1 : f < 8) (hi : mI S 110 d = nI i) (hi1 : i < 40) (he : mI S 69 57 = nI e) (gc : mI M 18 7 = nI 105) {h : Nat} (hh : mI S 111 d = nI (h)) (hh1 : h < 8) (hx : d_X3_execute 18 M = some (z, N2)) : NOf M N2 (14 * d + 6 + h) := by
  have ho : isO 18 := .inl rfl
  obtain ⟨hRV, hRF, hRT, hRO, hRA, hRS, hPR⟩ := id hR
  obtain ⟨hWA, hWV, hWC, hWO, hWF, hWS, hWP, hWE⟩ := id hW
  have hd := hWA.1
  have hd1 := hWA.2.1
  have gd := hRA.1
  obtain ⟨gf0, gi0, gh0⟩ := hRA.2 d (Nat.le_refl _)
  have gi := gi0.trans hi
  have gh := gh0.trans hh
  have ge := hRO.2.1.trans he
  have c1 := cx_i ho gd hd1 gi hi1 ge gc gh hh1
  obtain rfl := cx_inj hx c1
  intro j h1 h2
  simp (disch := omega) only [← Nat.add_assoc, Nat.add_sub_cancel, Nat.sub_zero, as21, as31, as32, and_self, and_true, true_and, l_0, l_1, l_2, l_3, l_4, l_5, l_6, l_7, l_8, l_9, l_10, l_11, l_12, l_13, l_14, l_15, l_16, l_17, l_18, l_19, l_20, l_21, l_22, l_23, l_24, l_25, l_26, l_27, l_28, l_29, l_30, l_31, l_32, l_33, l_34, l_35, l_36, l_37, l_38, l_39, l_40, l_41, l_42, l_43, l_44, l_45, l_47, l_48, l_50, l_52, l_60, l_61, l_63, l_80, l_99, l_100, l_101, l_102, l_103, l_105, l_106, l_107, l_108, l_109, l_110, l_111, l_112, l_114, l_115, l_116, l_117, l_118, l_119, l_120, l_122, l_168, l_200, l_320, l_360, l_528, l_548, l_1000, l_1023, l_2000, l_3000, l_1000000, qadd, qmul, qsub, qdiv, qcl, qinT, qchT, qleT, qleF, qltT, qltF, qeqT, qeqF, qneg_ne, bo0, bo1, qneg_ne', qneg_lt, mI_eq, mD_eq, mL_eq, mR_eq, mI_at, mD_at, mL_at, mI_ne, mD_ne, mL_ne, mR_ne, not_false_eq_true, not_true_eq_false, or_true, true_or, or_false, false_or, or_self, false_and, and_false, eq_self, mI_sL, mI_sD, mI_sR, mI_tk, mL_sI, mL_sD, mL_sR, mL_tk, mD_sI, mD_sL, mD_sR, mD_tk, mR_sI, mR_sL, mR_sD, mR_tk, mT_sI, mT_sL, mT_sD, mT_sR, mT_tk, mK_sI, mK_sL, mK_sD, mK_sR, mK_tk, mN_sI, mN_sL, mN_sD, mN_sR, mN_tk, nx_sI, nx_sL, nx_sD, nx_sR, uC_sI, uC_sL, uC_sD, uC_sR, uS_sI, uS_sL, uS_sD, uS_sR, nx_tk, uC_tk, uS_tk, xC, mvC, puC]
theorem cf_k {M S N2 : Mem} {d ns ob nc nf f i e : Nat} {z : Int32} (hR : RC M S 18 d ns) (hW : WW S d ob ns nc nf) (hf : mI S 109 d = nI f) (hf1 : f < 8) (hi : mI S 110 d = nI i) (hi1 : i < 40) (he : mI S 69 57 = nI e) (gc : mI M 18 7 = nI 107) {a : Nat} (ga : mI M 18 8 = nI a) {h : Nat} (hh : mI S 111 d = nI (h)) (hh1 : h < 8) (ha1 : a < 8) (hx : d_X3_execute 18 M = some (z, N2)) : NOf M N2 (14 * d + 6 + h) := by
  have ho : isO 18 := .inl rfl
  obtain ⟨hRV, hRF, hRT, hRO, hRA, hRS, hPR⟩ := id hR
  obtain ⟨hWA, hWV, hWC, hWO, hWF, hWS, hWP, hWE⟩ := id hW
  have hd := hWA.1
  have hd1 := hWA.2.1
  have gd := hRA.1
  obtain ⟨gf0, gi0, gh0⟩ := hRA.2 d (Nat.le_refl _)
  have gi := gi0.trans hi
  have gh := gh0.trans hh
  have ge := hRO.2.1.trans he
  have c1 := cx_k ho gd hd1 gi hi1 ge gc ga gh hh1 ha1
  obtain rfl := cx_inj hx c1
  intro j h1 h2
  simp (disch := omega) only [← Nat.add_assoc, Nat.add_sub_cancel, Nat.sub_zero, as21, as31, as32, and_self, and_true, true_and, l_0, l_1, l_2, l_3, l_4, l_5, l_6, l_7, l_8, l_9, l_10, l_11, l_12, l_13, l_14, l_15, l_16, l_17, l_18, l_19, l_20, l_21, l_22, l_23, l_24, l_25, l_26, l_27, l_28, l_29, l_30, l_31, l_32, l_33, l_34, l_35, l_36, l_37, l_38, l_39, l_40, l_41, l_42, l_43, l_44, l_45, l_47, l_48, l_50, l_52, l_60, l_61, l_63, l_80, l_99, l_100, l_101, l_102, l_103, l_105, l_106, l_107, l_108, l_109, l_110, l_111, l_112, l_114, l_115, l_116, l_117, l_118, l_119, l_120, l_122, l_168, l_200, l_320, l_360, l_528, l_548, l_1000, l_1023, l_2000, l_3000, l_1000000, qadd, qmul, qsub, qdiv, qcl, qinT, qchT, qleT, qleF, qltT, qltF, qeqT, qeqF, qneg_ne, bo0, bo1, qneg_ne', qneg_lt, mI_eq, mD_eq, mL_eq, mR_eq, mI_at, mD_at, mL_at, mI_ne, mD_ne, mL_ne, mR_ne, not_false_eq_true, not_true_eq_false, or_true, true_or, or_false, false_or, or_self, false_and, and_false, eq_self, mI_sL, mI_sD, mI_sR, mI_tk, mL_sI, mL_sD, mL_sR, mL_tk, mD_sI, mD_sL, mD_sR, mD_tk, mR_sI, mR_sL, mR_sD, mR_tk, mT_sI, mT_sL, mT_sD, mT_sR, mT_tk, mK_sI, mK_sL, mK_sD, mK_sR, mK_tk, mN_sI, mN_sL, mN_sD, mN_sR, mN_tk, nx_sI, nx_sL, nx_sD, nx_sR, uC_sI, uC_sL, uC_sD, uC_sR, uS_sI, uS_sL, uS_sD, uS_sR, nx_tk, uC_tk, uS_tk, xC, mvC, puC]
theorem cf_n {M S N2 : Mem} {d ns ob nc nf f i e : Nat} {z : Int32} (hR : RC M S 18 d ns) (hW : WW S d ob ns nc nf) (hf : mI S 109 d = nI f) (hf1 : f < 8) (hi : mI S 110 d = nI i) (hi1 : i < 40) (he : mI S 69 57 = nI e) (gc : mI M 18 7 = nI 110) {a : Nat} (ga : mI M 18 8 = nI a) {h : Nat} (hh : mI S 111 d = nI (h)) (hh1 : h < 8) (ha1 : a < 5) (ho1 : ob < 60) (hx : d_X3_execute 18 M = some (z, N2)) : NOf M N2 (14 * d + 6 + h) := by
  have ho : isO 18 := .inl rfl
  obtain ⟨hRV, hRF, hRT, hRO, hRA, hRS, hPR⟩ := id hR
  obtain ⟨hWA, hWV, hWC, hWO, hWF, hWS, hWP, hWE⟩ := id hW
  have hd := hWA.1
  have hd1 := hWA.2.1
  have gd := hRA.1
  obtain ⟨gf0, gi0, gh0⟩ := hRA.2 d (Nat.le_refl _)
  have gi := gi0.trans hi
  have gh := gh0.trans hh
  have ge := hRO.2.1.trans he
  have c1 := cx_n ho gd hd1 gi hi1 ge gc ga gh hh1 (hRO.1.trans hWO.1) ho1 ha1
  obtain rfl := cx_inj hx c1
  intro j h1 h2
  simp (disch := omega) only [← Nat.add_assoc, Nat.add_sub_cancel, Nat.sub_zero, as21, as31, as32, and_self, and_true, true_and, l_0, l_1, l_2, l_3, l_4, l_5, l_6, l_7, l_8, l_9, l_10, l_11, l_12, l_13, l_14, l_15, l_16, l_17, l_18, l_19, l_20, l_21, l_22, l_23, l_24, l_25, l_26, l_27, l_28, l_29, l_30, l_31, l_32, l_33, l_34, l_35, l_36, l_37, l_38, l_39, l_40, l_41, l_42, l_43, l_44, l_45, l_47, l_48, l_50, l_52, l_60, l_61, l_63, l_80, l_99, l_100, l_101, l_102, l_103, l_105, l_106, l_107, l_108, l_109, l_110, l_111, l_112, l_114, l_115, l_116, l_117, l_118, l_119, l_120, l_122, l_168, l_200, l_320, l_360, l_528, l_548, l_1000, l_1023, l_2000, l_3000, l_1000000, qadd, qmul, qsub, qdiv, qcl, qinT, qchT, qleT, qleF, qltT, qltF, qeqT, qeqF, qneg_ne, bo0, bo1, qneg_ne', qneg_lt, mI_eq, mD_eq, mL_eq, mR_eq, mI_at, mD_at, mL_at, mI_ne, mD_ne, mL_ne, mR_ne, not_false_eq_true, not_true_eq_false, or_true, true_or, or_false, false_or, or_self, false_and, and_false, eq_self, mI_sL, mI_sD, mI_sR, mI_tk, mL_sI, mL_sD, mL_sR, mL_tk, mD_sI, mD_sL, mD_sR, mD_tk, mR_sI, mR_sL, mR_sD, mR_tk, mT_sI, mT_sL, mT_sD, mT_sR, mT_tk, mK_sI, mK_sL, mK_sD, mK_sR, mK_tk, mN_sI, mN_sL, mN_sD, mN_sR, mN_tk, nx_sI, nx_sL, nx_sD, nx_sR, uC_sI, uC_sL, uC_sD, uC_sR, uS_sI, uS_sL, uS_sD, uS_sR, nx_tk, uC_tk, uS_tk, xC, mvC, puC]
theorem cf_add {M S N2 : Mem} {d ns ob nc nf f i e : Nat} {z : Int32} (hR : RC M S 18 d ns) (hW : WW S d ob ns nc nf) (hf : mI S 109 d = nI f) (hf1 : f < 8) (hi : mI S 110 d = nI i) (hi1 : i < 40) (he : mI S 69 57 = nI e) (gc : mI M 18 7 = nI 43) {t : Nat} (hh : mI S 111 d = nI (t + 2)) (hh1 : t < 7) (b1 : isNb (mI S 105 (14 * d + 6 + t))) (b2 : isNb (mI S 105 (14 * d + 6 + t + 1))) (hx : d_X3_execute 18 M = some (z, N2)) : NOf M N2 (14 * d + 6 + t) := by
  have ho : isO 18 := .inl rfl
  obtain ⟨hRV, hRF, hRT, hRO, hRA, hRS, hPR⟩ := id hR
  obtain ⟨hWA, hWV, hWC, hWO, hWF, hWS, hWP, hWE⟩ := id hW
  have hd := hWA.1
  have hd1 := hWA.2.1
  have gd := hRA.1
  obtain ⟨gf0, gi0, gh0⟩ := hRA.2 d (Nat.le_refl _)
  have gi := gi0.trans hi
  have gh := gh0.trans hh
  have ge := hRO.2.1.trans he
  have c1 := cx_add ho gd hd1 gi hi1 ge gc gh hh1 (hRV (14 * d + 6 + t) (by omega)) (hRV (14 * d + 6 + t + 1) (by omega)) b1 b2
  obtain rfl := cx_inj hx c1
  intro j h1 h2
  rw [mI_ne (by omega), pvC_o _ _ _ _ (by omega)]
  simp (disch := omega) only [← Nat.add_assoc, Nat.add_sub_cancel, Nat.sub_zero, as21, as31, as32, and_self, and_true, true_and, l_0, l_1, l_2, l_3, l_4, l_5, l_6, l_7, l_8, l_9, l_10, l_11, l_12, l_13, l_14, l_15, l_16, l_17, l_18, l_19, l_20, l_21, l_22, l_23, l_24, l_25, l_26, l_27, l_28, l_29, l_30, l_31, l_32, l_33, l_34, l_35, l_36, l_37, l_38, l_39, l_40, l_41, l_42, l_43, l_44, l_45, l_47, l_48, l_50, l_52, l_60, l_61, l_63, l_80, l_99, l_100, l_101, l_102, l_103, l_105, l_106, l_107, l_108, l_109, l_110, l_111, l_112, l_114, l_115, l_116, l_117, l_118, l_119, l_120, l_122, l_168, l_200, l_320, l_360, l_528, l_548, l_1000, l_1023, l_2000, l_3000, l_1000000, qadd, qmul, qsub, qdiv, qcl, qinT, qchT, qleT, qleF, qltT, qltF, qeqT, qeqF, qneg_ne, bo0, bo1, qneg_ne', qneg_lt, mI_eq, mD_eq, mL_eq, mR_eq, mI_at, mD_at, mL_at, mI_ne, mD_ne, mL_ne, mR_ne, not_false_eq_true, not_true_eq_false, or_true, true_or, or_false, false_or, or_self, false_and, and_false, eq_self, mI_sL, mI_sD, mI_sR, mI_tk, mL_sI, mL_sD, mL_sR, mL_tk, mD_sI, mD_sL, mD_sR, mD_tk, mR_sI, mR_sL, mR_sD, mR_tk, mT_sI, mT_sL, mT_sD, mT_sR, mT_tk, mK_sI, mK_sL, mK_sD, mK_sR, mK_tk, mN_sI, mN_sL, mN_sD, mN_sR, mN_tk, nx_sI, nx_sL, nx_sD, nx_sR, uC_sI, uC_sL, uC_sD, uC_sR, uS_sI, uS_sL, uS_sD, uS_sR, nx_tk, uC_tk, uS_tk, xC]
theorem cf_sub {M S N2 : Mem} {d ns ob nc nf f i e : Nat} {z : Int32} (hR : RC M S 18 d ns) (hW : WW S d ob ns nc nf) (hf : mI S 109 d = nI f) (hf1 : f < 8) (hi : mI S 110 d = nI i) (hi1 : i < 40) (he : mI S 69 57 = nI e) (gc : mI M 18 7 = nI 45) {t : Nat} (hh : mI S 111 d = nI (t + 2)) (hh1 : t < 7) (b1 : isNb (mI S 105 (14 * d + 6 + t))) (b2 : isNb (mI S 105 (14 * d + 6 + t + 1))) (hx : d_X3_execute 18 M = some (z, N2)) : NOf M N2 (14 * d + 6 + t) := by
  have ho : isO 18 := .inl rfl
  obtain ⟨hRV, hRF, hRT, hRO, hRA, hRS, hPR⟩ := id hR
  obtain ⟨hWA, hWV, hWC, hWO, hWF, hWS, hWP, hWE⟩ := id hW
  have hd := hWA.1
  have hd1 := hWA.2.1
  have gd := hRA.1
  obtain ⟨gf0, gi0, gh0⟩ := hRA.2 d (Nat.le_refl _)
  have gi := gi0.trans hi
  have gh := gh0.trans hh
  have ge := hRO.2.1.trans he
  have c1 := cx_sub ho gd hd1 gi hi1 ge gc gh hh1 (hRV (14 * d + 6 + t) (by omega)) (hRV (14 * d + 6 + t + 1) (by omega)) b1 b2
  obtain rfl := cx_inj hx c1
  intro j h1 h2
  rw [mI_ne (by omega), pvC_o _ _ _ _ (by omega)]
  simp (disch := omega) only [← Nat.add_assoc, Nat.add_sub_cancel, Nat.sub_zero, as21, as31, as32, and_self, and_true, true_and, l_0, l_1, l_2, l_3, l_4, l_5, l_6, l_7, l_8, l_9, l_10, l_11, l_12, l_13, l_14, l_15, l_16, l_17, l_18, l_19, l_20, l_21, l_22, l_23, l_24, l_25, l_26, l_27, l_28, l_29, l_30, l_31, l_32, l_33, l_34, l_35, l_36, l_37, l_38, l_39, l_40, l_41, l_42, l_43, l_44, l_45, l_47, l_48, l_50, l_52, l_60, l_61, l_63, l_80, l_99, l_100, l_101, l_102, l_103, l_105, l_106, l_107, l_108, l_109, l_110, l_111, l_112, l_114, l_115, l_116, l_117, l_118, l_119, l_120, l_122, l_168, l_200, l_320, l_360, l_528, l_548, l_1000, l_1023, l_2000, l_3000, l_1000000, qadd, qmul, qsub, qdiv, qcl, qinT, qchT, qleT, qleF, qltT, qltF, qeqT, qeqF, qneg_ne, bo0, bo1, qneg_ne', qneg_lt, mI_eq, mD_eq, mL_eq, mR_eq, mI_at, mD_at, mL_at, mI_ne, mD_ne, mL_ne, mR_ne, not_false_eq_true, not_true_eq_false, or_true, true_or, or_false, false_or, or_self, false_and, and_false, eq_self, mI_sL, mI_sD, mI_sR, mI_tk, mL_sI, mL_sD, mL_sR, mL_tk, mD_sI, mD_sL, mD_sR, mD_tk, mR_sI, mR_sL, mR_sD, mR_tk, mT_sI, mT_sL, mT_sD, mT_sR, mT_tk, mK_sI, mK_sL, mK_sD, mK_sR, mK_tk, mN_sI, mN_sL, mN_sD, mN_sR, mN_tk, nx_sI, nx_sL, nx_sD, nx_sR, uC_sI, uC_sL, uC_sD, uC_sR, uS_sI, uS_sL, uS_sD, uS_sR, nx_tk, uC_tk, uS_tk, xC]
theorem cf_mul {M S N2 : Mem} {d ns ob nc nf f i e : Nat} {z : Int32} (hR : RC M S 18 d ns) (hW : WW S d ob ns nc nf) (hf : mI S 109 d = nI f) (hf1 : f < 8) (hi : mI S 110 d = nI i) (hi1 : i < 40) (he : mI S 69 57 = nI e) (gc : mI M 18 7 = nI 42) {t : Nat} (hh : mI S 111 d = nI (t + 2)) (hh1 : t < 7) (b1 : isNb (mI S 105 (14 * d + 6 + t))) (b2 : isNb (mI S 105 (14 * d + 6 + t + 1))) (hx : d_X3_execute 18 M = some (z, N2)) : NOf M N2 (14 * d + 6 + t) := by
  have ho : isO 18 := .inl rfl
  obtain ⟨hRV, hRF, hRT, hRO, hRA, hRS, hPR⟩ := id hR
  obtain ⟨hWA, hWV, hWC, hWO, hWF, hWS, hWP, hWE⟩ := id hW
  have hd := hWA.1
  have hd1 := hWA.2.1
  have gd := hRA.1
  obtain ⟨gf0, gi0, gh0⟩ := hRA.2 d (Nat.le_refl _)
  have gi := gi0.trans hi
  have gh := gh0.trans hh
  have ge := hRO.2.1.trans he
  have c1 := cx_mul ho gd hd1 gi hi1 ge gc gh hh1 (hRV (14 * d + 6 + t) (by omega)) (hRV (14 * d + 6 + t + 1) (by omega)) b1 b2
  obtain rfl := cx_inj hx c1
  intro j h1 h2
  rw [mI_ne (by omega), pvC_o _ _ _ _ (by omega)]
  simp (disch := omega) only [← Nat.add_assoc, Nat.add_sub_cancel, Nat.sub_zero, as21, as31, as32, and_self, and_true, true_and, l_0, l_1, l_2, l_3, l_4, l_5, l_6, l_7, l_8, l_9, l_10, l_11, l_12, l_13, l_14, l_15, l_16, l_17, l_18, l_19, l_20, l_21, l_22, l_23, l_24, l_25, l_26, l_27, l_28, l_29, l_30, l_31, l_32, l_33, l_34, l_35, l_36, l_37, l_38, l_39, l_40, l_41, l_42, l_43, l_44, l_45, l_47, l_48, l_50, l_52, l_60, l_61, l_63, l_80, l_99, l_100, l_101, l_102, l_103, l_105, l_106, l_107, l_108, l_109, l_110, l_111, l_112, l_114, l_115, l_116, l_117, l_118, l_119, l_120, l_122, l_168, l_200, l_320, l_360, l_528, l_548, l_1000, l_1023, l_2000, l_3000, l_1000000, qadd, qmul, qsub, qdiv, qcl, qinT, qchT, qleT, qleF, qltT, qltF, qeqT, qeqF, qneg_ne, bo0, bo1, qneg_ne', qneg_lt, mI_eq, mD_eq, mL_eq, mR_eq, mI_at, mD_at, mL_at, mI_ne, mD_ne, mL_ne, mR_ne, not_false_eq_true, not_true_eq_false, or_true, true_or, or_false, false_or, or_self, false_and, and_false, eq_self, mI_sL, mI_sD, mI_sR, mI_tk, mL_sI, mL_sD, mL_sR, mL_tk, mD_sI, mD_sL, mD_sR, mD_tk, mR_sI, mR_sL, mR_sD, mR_tk, mT_sI, mT_sL, mT_sD, mT_sR, mT_tk, mK_sI, mK_sL, mK_sD, mK_sR, mK_tk, mN_sI, mN_sL, mN_sD, mN_sR, mN_tk, nx_sI, nx_sL, nx_sD, nx_sR, uC_sI, uC_sL, uC_sD, uC_sR, uS_sI, uS_sL, uS_sD, uS_sR, nx_tk, uC_tk, uS_tk, xC]
theorem cf_div {M S N2 : Mem} {d ns ob nc nf f i e : Nat} {z : Int32} (hR : RC M S 18 d ns) (hW : WW S d ob ns nc nf) (hf : mI S 109 d = nI f) (hf1 : f < 8) (hi : mI S 110 d = nI i) (hi1 : i < 40) (he : mI S 69 57 = nI e) (gc : mI M 18 7 = nI 47) {t : Nat} (hh : mI S 111 d = nI (t + 2)) (hh1 : t < 7) (b1 : isNb (mI S 105 (14 * d + 6 + t))) (b2 : isNb (mI S 105 (14 * d + 6 + t + 1))) (hz9 : mI S 105 (14 * d + 6 + t) = nI 105 → mI S 105 (14 * d + 6 + t + 1) = nI 105 → ¬ mI S 106 (14 * d + 6 + t + 1) = nI 0) (hx : d_X3_execute 18 M = some (z, N2)) : NOf M N2 (14 * d + 6 + t) := by
  have ho : isO 18 := .inl rfl
  obtain ⟨hRV, hRF, hRT, hRO, hRA, hRS, hPR⟩ := id hR
  obtain ⟨hWA, hWV, hWC, hWO, hWF, hWS, hWP, hWE⟩ := id hW
  have hd := hWA.1
  have hd1 := hWA.2.1
  have gd := hRA.1
  obtain ⟨gf0, gi0, gh0⟩ := hRA.2 d (Nat.le_refl _)
  have gi := gi0.trans hi
  have gh := gh0.trans hh
  have ge := hRO.2.1.trans he
  have c1 := cx_div ho gd hd1 gi hi1 ge gc gh hh1 (hRV (14 * d + 6 + t) (by omega)) (hRV (14 * d + 6 + t + 1) (by omega)) b1 b2 hz9
  obtain rfl := cx_inj hx c1
  intro j h1 h2
  rw [mI_ne (by omega), pvC_o _ _ _ _ (by omega)]
  simp (disch := omega) only [← Nat.add_assoc, Nat.add_sub_cancel, Nat.sub_zero, as21, as31, as32, and_self, and_true, true_and, l_0, l_1, l_2, l_3, l_4, l_5, l_6, l_7, l_8, l_9, l_10, l_11, l_12, l_13, l_14, l_15, l_16, l_17, l_18, l_19, l_20, l_21, l_22, l_23, l_24, l_25, l_26, l_27, l_28, l_29, l_30, l_31, l_32, l_33, l_34, l_35, l_36, l_37, l_38, l_39, l_40, l_41, l_42, l_43, l_44, l_45, l_47, l_48, l_50, l_52, l_60, l_61, l_63, l_80, l_99, l_100, l_101, l_102, l_103, l_105, l_106, l_107, l_108, l_109, l_110, l_111, l_112, l_114, l_115, l_116, l_117, l_118, l_119, l_120, l_122, l_168, l_200, l_320, l_360, l_528, l_548, l_1000, l_1023, l_2000, l_3000, l_1000000, qadd, qmul, qsub, qdiv, qcl, qinT, qchT, qleT, qleF, qltT, qltF, qeqT, qeqF, qneg_ne, bo0, bo1, qneg_ne', qneg_lt, mI_eq, mD_eq, mL_eq, mR_eq, mI_at, mD_at, mL_at, mI_ne, mD_ne, mL_ne, mR_ne, not_false_eq_true, not_true_eq_false, or_true, true_or, or_false, false_or, or_self, false_and, and_false, eq_self, mI_sL, mI_sD, mI_sR, mI_tk, mL_sI, mL_sD, mL_sR, mL_tk, mD_sI, mD_sL, mD_sR, mD_tk, mR_sI, mR_sL, mR_sD, mR_tk, mT_sI, mT_sL, mT_sD, mT_sR, mT_tk, mK_sI, mK_sL, mK_sD, mK_sR, mK_tk, mN_sI, mN_sL, mN_sD, mN_sR, mN_tk, nx_sI, nx_sL, nx_sD, nx_sR, uC_sI, uC_sL, uC_sD, uC_sR, uS_sI, uS_sL, uS_sD, uS_sR, nx_tk, uC_tk, uS_tk, xC]
theorem cf_rem {M S N2 : Mem} {d ns ob nc nf f i e : Nat} {z : Int32} (hR : RC M S 18 d ns) (hW : WW S d ob ns nc nf) (hf : mI S 109 d = nI f) (hf1 : f < 8) (hi : mI S 110 d = nI i) (hi1 : i < 40) (he : mI S 69 57 = nI e) (gc : mI M 18 7 = nI 37) {t : Nat} (hh : mI S 111 d = nI (t + 2)) (hh1 : t < 7) (b1 : isNb (mI S 105 (14 * d + 6 + t))) (b2 : isNb (mI S 105 (14 * d + 6 + t + 1))) (hz9 : mI S 105 (14 * d + 6 + t) = nI 105 → mI S 105 (14 * d + 6 + t + 1) = nI 105 → ¬ mI S 106 (14 * d + 6 + t + 1) = nI 0) (hx : d_X3_execute 18 M = some (z, N2)) : NOf M N2 (14 * d + 6 + t) := by
  have ho : isO 18 := .inl rfl
  obtain ⟨hRV, hRF, hRT, hRO, hRA, hRS, hPR⟩ := id hR
  obtain ⟨hWA, hWV, hWC, hWO, hWF, hWS, hWP, hWE⟩ := id hW
  have hd := hWA.1
  have hd1 := hWA.2.1
  have gd := hRA.1
  obtain ⟨gf0, gi0, gh0⟩ := hRA.2 d (Nat.le_refl _)
  have gi := gi0.trans hi
  have gh := gh0.trans hh
  have ge := hRO.2.1.trans he
  have c1 := cx_rem ho gd hd1 gi hi1 ge gc gh hh1 (hRV (14 * d + 6 + t) (by omega)) (hRV (14 * d + 6 + t + 1) (by omega)) b1 b2 hz9
  obtain rfl := cx_inj hx c1
  intro j h1 h2
  rw [mI_ne (by omega), pvC_o _ _ _ _ (by omega)]
  simp (disch := omega) only [← Nat.add_assoc, Nat.add_sub_cancel, Nat.sub_zero, as21, as31, as32, and_self, and_true, true_and, l_0, l_1, l_2, l_3, l_4, l_5, l_6, l_7, l_8, l_9, l_10, l_11, l_12, l_13, l_14, l_15, l_16, l_17, l_18, l_19, l_20, l_21, l_22, l_23, l_24, l_25, l_26, l_27, l_28, l_29, l_30, l_31, l_32, l_33, l_34, l_35, l_36, l_37, l_38, l_39, l_40, l_41, l_42, l_43, l_44, l_45, l_47, l_48, l_50, l_52, l_60, l_61, l_63, l_80, l_99, l_100, l_101, l_102, l_103, l_105, l_106, l_107, l_108, l_109, l_110, l_111, l_112, l_114, l_115, l_116, l_117, l_118, l_119, l_120, l_122, l_168, l_200, l_320, l_360, l_528, l_548, l_1000, l_1023, l_2000, l_3000, l_1000000, qadd, qmul, qsub, qdiv, qcl, qinT, qchT, qleT, qleF, qltT, qltF, qeqT, qeqF, qneg_ne, bo0, bo1, qneg_ne', qneg_lt, mI_eq, mD_eq, mL_eq, mR_eq, mI_at, mD_at, mL_at, mI_ne, mD_ne, mL_ne, mR_ne, not_false_eq_true, not_true_eq_false, or_true, true_or, or_false, false_or, or_self, false_and, and_false, eq_self, mI_sL, mI_sD, mI_sR, mI_tk, mL_sI, mL_sD, mL_sR, mL_tk, mD_sI, mD_sL, mD_sR, mD_tk, mR_sI, mR_sL, mR_sD, mR_tk, mT_sI, mT_sL, mT_sD, mT_sR, mT_tk, mK_sI, mK_sL, mK_sD, mK_sR, mK_tk, mN_sI, mN_sL, mN_sD, mN_sR, mN_tk, nx_sI, nx_sL, nx_sD, nx_sR, uC_sI, uC_sL, uC_sD, uC_sR, uS_sI, uS_sL, uS_sD, uS_sR, nx_tk, uC_tk, uS_tk, xC]
theorem cf_lt {M S N2 : Mem} {d ns ob nc nf f i e : Nat} {z : Int32} (hR : RC M S 18 d ns) (hW : WW S d ob ns nc nf) (hf : mI S 109 d = nI f) (hf1 : f < 8) (hi : mI S 110 d = nI i) (hi1 : i < 40) (he : mI S 69 57 = nI e) (gc : mI M 18 7 = nI 60) {t : Nat} (hh : mI S 111 d = nI (t + 2)) (hh1 : t < 7) (b1 : isNb (mI S 105 (14 * d + 6 + t))) (b2 : isNb (mI S 105 (14 * d + 6 + t + 1))) (hx : d_X3_execute 18 M = some (z, N2)) : NOf M N2 (14 * d + 6 + t) := by
  have ho : isO 18 := .inl rfl
  obtain ⟨hRV, hRF, hRT, hRO, hRA, hRS, hPR⟩ := id hR
  obtain ⟨hWA, hWV, hWC, hWO, hWF, hWS, hWP, hWE⟩ := id hW
  have hd := hWA.1
  have hd1 := hWA.2.1
  have gd := hRA.1
  obtain ⟨gf0, gi0, gh0⟩ := hRA.2 d (Nat.le_refl _)
  have gi := gi0.trans hi
  have gh := gh0.trans hh
  have ge := hRO.2.1.trans he
  have c1 := cx_lt ho gd hd1 gi hi1 ge gc gh hh1 (hRV (14 * d + 6 + t) (by omega)) (hRV (14 * d + 6 + t + 1) (by omega)) b1 b2
  obtain rfl := cx_inj hx c1
  intro j h1 h2
  rw [mI_ne (by omega), pvC_o _ _ _ _ (by omega)]
  simp (disch := omega) only [← Nat.add_assoc, Nat.add_sub_cancel, Nat.sub_zero, as21, as31, as32, and_self, and_true, true_and, l_0, l_1, l_2, l_3, l_4, l_5, l_6, l_7, l_8, l_9, l_10, l_11, l_12, l_13, l_14, l_15, l_16, l_17, l_18, l_19, l_20, l_21, l_22, l_23, l_24, l_25, l_26, l_27, l_28, l_29, l_30, l_31, l_32, l_33, l_34, l_35, l_36, l_37, l_38, l_39, l_40, l_41, l_42, l_43, l_44, l_45, l_47, l_48, l_50, l_52, l_60, l_61, l_63, l_80, l_99, l_100, l_101, l_102, l_103, l_105, l_106, l_107, l_108, l_109, l_110, l_111, l_112, l_114, l_115, l_116, l_117, l_118, l_119, l_120, l_122, l_168, l_200, l_320, l_360, l_528, l_548, l_1000, l_1023, l_2000, l_3000, l_1000000, qadd, qmul, qsub, qdiv, qcl, qinT, qchT, qleT, qleF, qltT, qltF, qeqT, qeqF, qneg_ne, bo0, bo1, qneg_ne', qneg_lt, mI_eq, mD_eq, mL_eq, mR_eq, mI_at, mD_at, mL_at, mI_ne, mD_ne, mL_ne, mR_ne, not_false_eq_true, not_true_eq_false, or_true, true_or, or_false, false_or, or_self, false_and, and_false, eq_self, mI_sL, mI_sD, mI_sR, mI_tk, mL_sI, mL_sD, mL_sR, mL_tk, mD_sI, mD_sL, mD_sR, mD_tk, mR_sI, mR_sL, mR_sD, mR_tk, mT_sI, mT_sL, mT_sD, mT_sR, mT_tk, mK_sI, mK_sL, mK_sD, mK_sR, mK_tk, mN_sI, mN_sL, mN_sD, mN_sR, mN_tk, nx_sI, nx_sL, nx_sD, nx_sR, uC_sI, uC_sL, uC_sD, uC_sR, uS_sI, uS_sL, uS_sD, uS_sR, nx_tk, uC_tk, uS_tk, xC]
theorem cf_eq {M S N2 : Mem} {d ns ob nc nf f i e : Nat} {z : Int32} (hR : RC M S 18 d ns) (hW : WW S d ob ns nc nf) (hf : mI S 109 d = nI f) (hf1 : f < 8) (hi : mI S 110 d = nI i) (hi1 : i < 40) (he : mI S 69 57 = nI e) (gc : mI M 18 7 = nI 61) {t : Nat} (hh : mI S 111 d = nI (t + 2)) (hh1 : t < 7) (hx : d_X3_execute 18 M = some (z, N2)) : NOf M N2 (14 * d + 6 + t) := by
  have ho : isO 18 := .inl rfl
  obtain ⟨hRV, hRF, hRT, hRO, hRA, hRS, hPR⟩ := id hR
  obtain ⟨hWA, hWV, hWC, hWO, hWF, hWS, hWP, hWE⟩ := id hW
  have hd := hWA.1
  have hd1 := hWA.2.1
  have gd := hRA.1
  obtain ⟨gf0, gi0, gh0⟩ := hRA.2 d (Nat.le_refl _)
  have gi := gi0.trans hi
  have gh := gh0.trans hh
  have ge := hRO.2.1.trans he
  have k1 := hWV d (Nat.le_refl _) (6 + t) (by rw [hh, qcl (by omega)]; omega)
  have k2 := hWV d (Nat.le_refl _) (6 + t + 1) (by rw [hh, qcl (by omega)]; omega)
  simp only [← Nat.add_assoc] at k1 k2
  have c1 := cx_eq ho gd hd1 gi hi1 ge gc gh hh1 (hRV (14 * d + 6 + t) (by omega)) (hRV (14 * d + 6 + t + 1) (by omega)) (kO_z k1) (kO_z k2)
  obtain rfl := cx_inj hx c1
  intro j h1 h2
  rw [mI_ne (by omega), pvC_o _ _ _ _ (by omega)]
  simp (disch := omega) only [← Nat.add_assoc, Nat.add_sub_cancel, Nat.sub_zero, as21, as31, as32, and_self, and_true, true_and, l_0, l_1, l_2, l_3, l_4, l_5, l_6, l_7, l_8, l_9, l_10, l_11, l_12, l_13, l_14, l_15, l_16, l_17, l_18, l_19, l_20, l_21, l_22, l_23, l_24, l_25, l_26, l_27, l_28, l_29, l_30, l_31, l_32, l_33, l_34, l_35, l_36, l_37, l_38, l_39, l_40, l_41, l_42, l_43, l_44, l_45, l_47, l_48, l_50, l_52, l_60, l_61, l_63, l_80, l_99, l_100, l_101, l_102, l_103, l_105, l_106, l_107, l_108, l_109, l_110, l_111, l_112, l_114, l_115, l_116, l_117, l_118, l_119, l_120, l_122, l_168, l_200, l_320, l_360, l_528, l_548, l_1000, l_1023, l_2000, l_3000, l_1000000, qadd, qmul, qsub, qdiv, qcl, qinT, qchT, qleT, qleF, qltT, qltF, qeqT, qeqF, qneg_ne, bo0, bo1, qneg_ne', qneg_lt, mI_eq, mD_eq, mL_eq, mR_eq, mI_at, mD_at, mL_at, mI_ne, mD_ne, mL_ne, mR_ne, not_false_eq_true, not_true_eq_false, or_true, true_or, or_false, false_or, or_self, false_and, and_false, eq_self, mI_sL, mI_sD, mI_sR, mI_tk, mL_sI, mL_sD, mL_sR, mL_tk, mD_sI, mD_sL, mD_sR, mD_tk, mR_sI, mR_sL, mR_sD, mR_tk, mT_sI, mT_sL, mT_sD, mT_sR, mT_tk, mK_sI, mK_sL, mK_sD, mK_sR, mK_tk, mN_sI, mN_sL, mN_sD, mN_sR, mN_tk, nx_sI, nx_sL, nx_sD, nx_sR, uC_sI, uC_sL, uC_sD, uC_sR, uS_sI, uS_sL, uS_sD, uS_sR, nx_tk, uC_tk, uS_tk, xC]
theorem cf_w {M S N2 : Mem} {d ns ob nc nf f i e : Nat} {z : Int32} (hR : RC M S 18 d ns) (hW : WW S d ob ns nc nf) (hf : mI S 109 d = nI f) (hf1 : f < 8) (hi : mI S 110 d = nI i) (hi1 : i < 40) (he : mI S 69 57 = nI e) (gc : mI M 18 7 = nI 119) {t : Nat} (hh : mI S 111 d = nI (t + 1)) (hh1 : t < 8) (b1 : isNb (mI S 105 (14 * d + 6 + t))) (hf9 : mI S 105 (14 * d + 6 + t) = nI 102 → ¬ farW (mD S 107 (14 * d + 6 + t))) (hx : d_X3_execute 18 M = some (z, N2)) : NOf M N2 (14 * d + 6 + t) := by
  have ho : isO 18 := .inl rfl
  obtain ⟨hRV, hRF, hRT, hRO, hRA, hRS, hPR⟩ := id hR
  obtain ⟨hWA, hWV, hWC, hWO, hWF, hWS, hWP, hWE⟩ := id hW
  have hd := hWA.1
  have hd1 := hWA.2.1
  have gd := hRA.1
  obtain ⟨gf0, gi0, gh0⟩ := hRA.2 d (Nat.le_refl _)
  have gi := gi0.trans hi
  have gh := gh0.trans hh
  have ge := hRO.2.1.trans he
  rcases b1 with k1 | k1
  · have c1 := cx_w0 ho gd hd1 gi hi1 ge gc gh hh1 (hRV (14 * d + 6 + t) (by omega)) k1
    obtain rfl := cx_inj hx c1
    intro j h1 h2
    simp (disch := omega) only [← Nat.add_assoc, Nat.add_sub_cancel, Nat.sub_zero, as21, as31, as32, and_self, and_true, true_and, l_0, l_1, l_2, l_3, l_4, l_5, l_6, l_7, l_8, l_9, l_10, l_11, l_12, l_13, l_14, l_15, l_16, l_17, l_18, l_19, l_20, l_21, l_22, l_23, l_24, l_25, l_26, l_27, l_28, l_29, l_30, l_31, l_32, l_33, l_34, l_35, l_36, l_37, l_38, l_39, l_40, l_41, l_42, l_43, l_44, l_45, l_47, l_48, l_50, l_52, l_60, l_61, l_63, l_80, l_99, l_100, l_101, l_102, l_103, l_105, l_106, l_107, l_108, l_109, l_110, l_111, l_112, l_114, l_115, l_116, l_117, l_118, l_119, l_120, l_122, l_168, l_200, l_320, l_360, l_528, l_548, l_1000, l_1023, l_2000, l_3000, l_1000000, qadd, qmul, qsub, qdiv, qcl, qinT, qchT, qleT, qleF, qltT, qltF, qeqT, qeqF, qneg_ne, bo0, bo1, qneg_ne', qneg_lt, mI_eq, mD_eq, mL_eq, mR_eq, mI_at, mD_at, mL_at, mI_ne, mD_ne, mL_ne, mR_ne, not_false_eq_true, not_true_eq_false, or_true, true_or, or_false, false_or, or_self, false_and, and_false, eq_self, mI_sL, mI_sD, mI_sR, mI_tk, mL_sI, mL_sD, mL_sR, mL_tk, mD_sI, mD_sL, mD_sR, mD_tk, mR_sI, mR_sL, mR_sD, mR_tk, mT_sI, mT_sL, mT_sD, mT_sR, mT_tk, mK_sI, mK_sL, mK_sD, mK_sR, mK_tk, mN_sI, mN_sL, mN_sD, mN_sR, mN_tk, nx_sI, nx_sL, nx_sD, nx_sR, uC_sI, uC_sL, uC_sD, uC_sR, uS_sI, uS_sL, uS_sD, uS_sR, nx_tk, uC_tk, uS_tk, xC, mvC, puC]
  · have c1 := cx_w1 ho gd hd1 gi hi1 ge gc gh hh1 (hRV (14 * d + 6 + t) (by omega)) k1 (hf9 k1)
    obtain rfl := cx_inj hx c1
    intro j h1 h2
    simp (disch := omega) only [← Nat.add_assoc, Nat.add_sub_cancel, Nat.sub_zero, as21, as31, as32, and_self, and_true, true_and, l_0, l_1, l_2, l_3, l_4, l_5, l_6, l_7, l_8, l_9, l_10, l_11, l_12, l_13, l_14, l_15, l_16, l_17, l_18, l_19, l_20, l_21, l_22, l_23, l_24, l_25, l_26, l_27, l_28, l_29, l_30, l_31, l_32, l_33, l_34, l_35, l_36, l_37, l_38, l_39, l_40, l_41, l_42, l_43, l_44, l_45, l_47, l_48, l_50, l_52, l_60, l_61, l_63, l_80, l_99, l_100, l_101, l_102, l_103, l_105, l_106, l_107, l_108, l_109, l_110, l_111, l_112, l_114, l_115, l_116, l_117, l_118, l_119, l_120, l_122, l_168, l_200, l_320, l_360, l_528, l_548, l_1000, l_1023, l_2000, l_3000, l_1000000, qadd, qmul, qsub, qdiv, qcl, qinT, qchT, qleT, qleF, qltT, qltF, qeqT, qeqF, qneg_ne, bo0, bo1, qneg_ne', qneg_lt, mI_eq, mD_eq, mL_eq, mR_eq, mI_at, mD_at, mL_at, mI_ne, mD_ne, mL_ne, mR_ne, not_false_eq_true, not_true_eq_false, or_true, true_or, or_false, false_or, or_self, false_and, and_false, eq_self, mI_sL, mI_sD, mI_sR, mI_tk, mL_sI, mL_sD, mL_sR, mL_tk, mD_sI, mD_sL, mD_sR, mD_tk, mR_sI, mR_sL, mR_sD, mR_tk, mT_sI, mT_sL, mT_sD, mT_sR, mT_tk, mK_sI, mK_sL, mK_sD, mK_sR, mK_tk, mN_sI, mN_sL, mN_sD, mN_sR, mN_tk, nx_sI, nx_sL, nx_sD, nx_sR, uC_sI, uC_sL, uC_sD, uC_sR, uS_sI, uS_sL, uS_sD, uS_sR, nx_tk, uC_tk, uS_tk, xC, mvC, puC]
theorem cf_g {M S N2 : Mem} {d ns ob nc nf f i e : Nat} {z : Int32} (hR : RC M S 18 d ns) (hW : WW S d ob ns nc nf) (hf : mI S 109 d = nI f) (hf1 : f < 8) (hi : mI S 110 d = nI i) (hi1 : i < 40) (he : mI S 69 57 = nI e) (gc : mI M 18 7 = nI 103) {a : Nat} (ga : mI M 18 8 = nI a) {t : Nat} (hh : mI S 111 d = nI (t + 1)) (hh1 : t < 8) (ha1 : a < 6) {q0 s cl : Nat} (hO : OT S (14 * d + 6 + t) ob ns nc q0 s cl) (hF : hasF S s a) (hx : d_X3_execute 18 M = some (z, N2)) : NOf M N2 (14 * d + 6 + t) := by
  have ho : isO 18 := .inl rfl
  obtain ⟨hRV, hRF, hRT, hRO, hRA, hRS, hPR⟩ := id hR
  obtain ⟨hWA, hWV, hWC, hWO, hWF, hWS, hWP, hWE⟩ := id hW
  have hd := hWA.1
  have hd1 := hWA.2.1
  have gd := hRA.1
  obtain ⟨gf0, gi0, gh0⟩ := hRA.2 d (Nat.le_refl _)
  have gi := gi0.trans hi
  have gh := gh0.trans hh
  have ge := hRO.2.1.trans he
  obtain ⟨o1, o2, o3, o4, o5, o6, o7⟩ := hO
  have hob := hWO.2.1
  have hns := hWS.2.1
  have hv9 := hRV (14 * d + 6 + t) (by omega)
  rw [o1] at hv9
  obtain ⟨w1, w2, -, -⟩ := hv9.oth (by decide)
  rw [o2] at w2
  have hff := hRF (6 * q0 + a) (by omega)
  rw [← Nat.add_assoc] at hff
  have c1 := cx_g ho gd hd1 gi hi1 ge gc ga gh hh1 w2 (by omega) ha1 (by rw [hff.kind]; exact hWC.2 _ (by omega))
  obtain rfl := cx_inj hx c1
  intro j h1 h2
  simp (disch := omega) only [← Nat.add_assoc, Nat.add_sub_cancel, Nat.sub_zero, as21, as31, as32, and_self, and_true, true_and, l_0, l_1, l_2, l_3, l_4, l_5, l_6, l_7, l_8, l_9, l_10, l_11, l_12, l_13, l_14, l_15, l_16, l_17, l_18, l_19, l_20, l_21, l_22, l_23, l_24, l_25, l_26, l_27, l_28, l_29, l_30, l_31, l_32, l_33, l_34, l_35, l_36, l_37, l_38, l_39, l_40, l_41, l_42, l_43, l_44, l_45, l_47, l_48, l_50, l_52, l_60, l_61, l_63, l_80, l_99, l_100, l_101, l_102, l_103, l_105, l_106, l_107, l_108, l_109, l_110, l_111, l_112, l_114, l_115, l_116, l_117, l_118, l_119, l_120, l_122, l_168, l_200, l_320, l_360, l_528, l_548, l_1000, l_1023, l_2000, l_3000, l_1000000, qadd, qmul, qsub, qdiv, qcl, qinT, qchT, qleT, qleF, qltT, qltF, qeqT, qeqF, qneg_ne, bo0, bo1, qneg_ne', qneg_lt, mI_eq, mD_eq, mL_eq, mR_eq, mI_at, mD_at, mL_at, mI_ne, mD_ne, mL_ne, mR_ne, not_false_eq_true, not_true_eq_false, or_true, true_or, or_false, false_or, or_self, false_and, and_false, eq_self, mI_sL, mI_sD, mI_sR, mI_tk, mL_sI, mL_sD, mL_sR, mL_tk, mD_sI, mD_sL, mD_sR, mD_tk, mR_sI, mR_sL, mR_sD, mR_tk, mT_sI, mT_sL, mT_sD, mT_sR, mT_tk, mK_sI, mK_sL, mK_sD, mK_sR, mK_tk, mN_sI, mN_sL, mN_sD, mN_sR, mN_tk, nx_sI, nx_sL, nx_sD, nx_sR, uC_sI, uC_sL, uC_sD, uC_sR, uS_sI, uS_sL, uS_sD, uS_sR, nx_tk, uC_tk, uS_tk, xC, mvC, puC]
theorem mvF_5 (M : Mem) (o fr q : Nat) : ∀ K, fr + K ≤ q → ∀ k, k < K → mI (mvF M o fr q K) (o + 5) (q + k) = mI M (o + 5) (fr + k)
  | 0, _, k, hk => by omega
  | K + 1, h, k, hk => by
    unfold mvF mvC
    by_cases e : k = K
    · subst e
      rw [mI_eq]
      exact mvF_n M o fr q (by omega) k
    · have ih := mvF_5 M o fr q K (by omega) k (by omega)
      simp (disch := omega) only [← Nat.add_assoc, Nat.add_sub_cancel, Nat.sub_zero, as21, as31, as32, and_self, and_true, true_and, l_0, l_1, l_2, l_3, l_4, l_5, l_6, l_7, l_8, l_9, l_10, l_11, l_12, l_13, l_14, l_15, l_16, l_17, l_18, l_19, l_20, l_21, l_22, l_23, l_24, l_25, l_26, l_27, l_28, l_29, l_30, l_31, l_32, l_33, l_34, l_35, l_36, l_37, l_38, l_39, l_40, l_41, l_42, l_43, l_44, l_45, l_47, l_48, l_50, l_52, l_60, l_61, l_63, l_80, l_99, l_100, l_101, l_102, l_103, l_105, l_106, l_107, l_108, l_109, l_110, l_111, l_112, l_114, l_115, l_116, l_117, l_118, l_119, l_120, l_122, l_168, l_200, l_320, l_360, l_528, l_548, l_1000, l_1023, l_2000, l_3000, l_1000000, qadd, qmul, qsub, qdiv, qcl, qinT, qchT, qleT, qleF, qltT, qltF, qeqT, qeqF, qneg_ne, bo0, bo1, qneg_ne', qneg_lt, mI_eq, mD_eq, mL_eq, mR_eq, mI_at, mD_at, mL_at, mI_ne, mD_ne, mL_ne, mR_ne, not_false_eq_true, not_true_eq_false, or_true, true_or, or_false, false_or, or_self, false_and, and_false, eq_self, mI_sL, mI_sD, mI_sR, mI_tk, mL_sI, mL_sD, mL_sR, mL_tk, mD_sI, mD_sL, mD_sR, mD_tk, mR_sI, mR_sL, mR_sD, mR_tk, mT_sI, mT_sL, mT_sD, mT_sR, mT_tk, mK_sI, mK_sL, mK_sD, mK_sR, mK_tk, mN_sI, mN_sL, mN_sD, mN_sR, mN_tk, nx_sI, nx_sL, nx_sD, nx_sR, uC_sI, uC_sL, uC_sD, uC_sR, uS_sI, uS_sL, uS_sD, uS_sR, nx_tk, uC_tk, uS_tk]
      exact ih
theorem clM_5 {M : Mem} {o d t g m : Nat} (ht : t + m ≤ 8) : (∀ k, k < m → mI (clM M o d t g m) (o + 5) (14 * (d + 1) + k) = mI M (o + 5) (14 * d + 6 + t + k)) ∧ ∀ j, j < 14 * (d + 1) → mI (clM M o d t g m) (o + 5) j = mI M (o + 5) j := by
  have e : ∀ j, mI (afM (sI M (o + 8) d (nI t)) o (d + 1) g) (o + 5) j = mI M (o + 5) j := fun j => by unfold afM; rw [mI_ne (by omega), afF_n _ _ _ (by omega)]; simp (disch := omega) only [← Nat.add_assoc, Nat.add_sub_cancel, Nat.sub_zero, as21, as31, as32, and_self, and_true, true_and, l_0, l_1, l_2, l_3, l_4, l_5, l_6, l_7, l_8, l_9, l_10, l_11, l_12, l_13, l_14, l_15, l_16, l_17, l_18, l_19, l_20, l_21, l_22, l_23, l_24, l_25, l_26, l_27, l_28, l_29, l_30, l_31, l_32, l_33, l_34, l_35, l_36, l_37, l_38, l_39, l_40, l_41, l_42, l_43, l_44, l_45, l_47, l_48, l_50, l_52, l_60, l_61, l_63, l_80, l_99, l_100, l_101, l_102, l_103, l_105, l_106, l_107, l_108, l_109, l_110, l_111, l_112, l_114, l_115, l_116, l_117, l_118, l_119, l_120, l_122, l_168, l_200, l_320, l_360, l_528, l_548, l_1000, l_1023, l_2000, l_3000, l_1000000, qadd, qmul, qsub, qdiv, qcl, qinT, qchT, qleT, qleF, qltT, qltF, qeqT, qeqF, qneg_ne, bo0, bo1, qneg_ne', qneg_lt, mI_eq, mD_eq, mL_eq, mR_eq, mI_at, mD_at, mL_at, mI_ne, mD_ne, mL_ne, mR_ne, not_false_eq_true, not_true_eq_false, or_true, true_or, or_false, false_or, or_self, false_and, and_false, eq_self, mI_sL, mI_sD, mI_sR, mI_tk, mL_sI, mL_sD, mL_sR, mL_tk, mD_sI, mD_sL, mD_sR, mD_tk, mR_sI, mR_sL, mR_sD, mR_tk, mT_sI, mT_sL, mT_sD, mT_sR, mT_tk, mK_sI, mK_sL, mK_sD, mK_sR, mK_tk, mN_sI, mN_sL, mN_sD, mN_sR, mN_tk, nx_sI, nx_sL, nx_sD, nx_sR, uC_sI, uC_sL, uC_sD, uC_sR, uS_sI, uS_sL, uS_sD, uS_sR, nx_tk, uC_tk, uS_tk]
  refine ⟨fun k hk => ?_, fun j hj => ?_⟩
  · unfold clM; rw [mvF_5 _ _ _ _ _ (by omega) k hk, e]
  · unfold clM; rw [mvF_n _ _ _ _ (Or.inr hj), e]
theorem cf_c {M S N2 : Mem} {d ns ob nc nf f i e : Nat} {z : Int32} (hR : RC M S 18 d ns) (hW : WW S d ob ns nc nf) (hf : mI S 109 d = nI f) (hf1 : f < 8) (hi : mI S 110 d = nI i) (hi1 : i < 40) (he : mI S 69 57 = nI e) (gc : mI M 18 7 = nI 99) {a : Nat} (ga : mI M 18 8 = nI a) {t m : Nat} (hh : mI S 111 d = nI (t + m)) (hh1 : t + m ≤ 8) (ha1 : a < nf) (hm : mI S 70 a = nI m) (hm3 : m ≤ 3) (hd2 : d + 1 < 12) (hx : d_X3_execute 18 M = some (z, N2)) : (∀ k, k < m → mI N2 23 (14 * (d + 1) + k) = mI M 23 (14 * d + 6 + t + k)) ∧ ∀ j, j < 14 * (d + 1) → mI N2 23 j = mI M 23 j := by
  have ho : isO 18 := .inl rfl
  obtain ⟨hRV, hRF, hRT, hRO, hRA, hRS, hPR⟩ := id hR
  obtain ⟨hWA, hWV, hWC, hWO, hWF, hWS, hWP, hWE⟩ := id hW
  have hd := hWA.1
  have hd1 := hWA.2.1
  have gd := hRA.1
  obtain ⟨gf0, gi0, gh0⟩ := hRA.2 d (Nat.le_refl _)
  have gi := gi0.trans hi
  have gh := gh0.trans hh
  have ge := hRO.2.1.trans he
  have hnf := hWP.2.1
  have c1 := cx_c ho gd hd1 gi hi1 ge gc ga (by omega) ((hPR.1 a).1.trans hm) hm3 hd2 gh hh1 (fun k hk => by rw [(hRV (14 * d + 6 + t + k) (by omega)).kind]; exact hWC.1 _ (by omega))
  obtain rfl := cx_inj hx c1
  have := clM_5 (M := xC M 18 d i e) (o := 18) (d := d) (t := t) (g := a) (m := m) hh1
  unfold xC at this ⊢
  simp (disch := omega) only [← Nat.add_assoc, Nat.add_sub_cancel, Nat.sub_zero, as21, as31, as32, and_self, and_true, true_and, l_0, l_1, l_2, l_3, l_4, l_5, l_6, l_7, l_8, l_9, l_10, l_11, l_12, l_13, l_14, l_15, l_16, l_17, l_18, l_19, l_20, l_21, l_22, l_23, l_24, l_25, l_26, l_27, l_28, l_29, l_30, l_31, l_32, l_33, l_34, l_35, l_36, l_37, l_38, l_39, l_40, l_41, l_42, l_43, l_44, l_45, l_47, l_48, l_50, l_52, l_60, l_61, l_63, l_80, l_99, l_100, l_101, l_102, l_103, l_105, l_106, l_107, l_108, l_109, l_110, l_111, l_112, l_114, l_115, l_116, l_117, l_118, l_119, l_120, l_122, l_168, l_200, l_320, l_360, l_528, l_548, l_1000, l_1023, l_2000, l_3000, l_1000000, qadd, qmul, qsub, qdiv, qcl, qinT, qchT, qleT, qleF, qltT, qltF, qeqT, qeqF, qneg_ne, bo0, bo1, qneg_ne', qneg_lt, mI_eq, mD_eq, mL_eq, mR_eq, mI_at, mD_at, mL_at, mI_ne, mD_ne, mL_ne, mR_ne, not_false_eq_true, not_true_eq_false, or_true, true_or, or_false, false_or, or_self, false_and, and_false, eq_self, mI_sL, mI_sD, mI_sR, mI_tk, mL_sI, mL_sD, mL_sR, mL_tk, mD_sI, mD_sL, mD_sR, mD_tk, mR_sI, mR_sL, mR_sD, mR_tk, mT_sI, mT_sL, mT_sD, mT_sR, mT_tk, mK_sI, mK_sL, mK_sD, mK_sR, mK_tk, mN_sI, mN_sL, mN_sD, mN_sR, mN_tk, nx_sI, nx_sL, nx_sD, nx_sR, uC_sI, uC_sL, uC_sD, uC_sR, uS_sI, uS_sL, uS_sD, uS_sR, nx_tk, uC_tk, uS_tk] at this
  exact this
theorem cf_m {M S N2 : Mem} {d ns ob nc nf f i e : Nat} {z : Int32} (hR : RC M S 18 d ns) (hW : WW S d ob ns nc nf) (hf : mI S 109 d = nI f) (hf1 : f < 8) (hi : mI S 110 d = nI i) (hi1 : i < 40) (he : mI S 69 57 = nI e) (gc : mI M 18 7 = nI 109) {a : Nat} (ga : mI M 18 8 = nI a) {t : Nat} (hh : mI S 111 d = nI (t + 1)) (hh1 : t < 8) (ha1 : a < 6) {q0 s cl : Nat} (hO : OT S (14 * d + 6 + t) ob ns nc q0 s cl) (hd2 : d + 1 < 12) {g : Nat} (hg : mOf S a 7 (nI cl) = nI g) (hx : d_X3_execute 18 M = some (z, N2)) : (∀ k, k < 1 → mI N2 23 (14 * (d + 1) + k) = mI M 23 (14 * d + 6 + t + k)) ∧ ∀ j, j < 14 * (d + 1) → mI N2 23 j = mI M 23 j := by
  have ho : isO 18 := .inl rfl
  obtain ⟨hRV, hRF, hRT, hRO, hRA, hRS, hPR⟩ := id hR
  obtain ⟨hWA, hWV, hWC, hWO, hWF, hWS, hWP, hWE⟩ := id hW
  have hd := hWA.1
  have hd1 := hWA.2.1
  have gd := hRA.1
  obtain ⟨gf0, gi0, gh0⟩ := hRA.2 d (Nat.le_refl _)
  have gi := gi0.trans hi
  have gh := gh0.trans hh
  have ge := hRO.2.1.trans he
  obtain ⟨o1, o2, o3, o4, o5, o6, o7⟩ := hO
  have hob := hWO.2.1
  have hns := hWS.2.1
  have hv9 := hRV (14 * d + 6 + t) (by omega)
  rw [o1] at hv9
  obtain ⟨w1, w2, -, -⟩ := hv9.oth (by decide)
  rw [o2] at w2
  have gs : mI M 27 q0 = nI s := (hRO.2.2.2 q0 (by omega)).trans o4
  have gcl : mI M 12 s = nI cl := (hRS.2.2 s o5).1.trans o6
  have hgC : ∀ X : Mem, (∀ c, mI X 9 c = mI M 9 c) → (∀ c, mI X 10 c = mI M 10 c) → d_X5_methodOf (nI cl) (nI a) X = some (nI g, X) := fun X z1 z2 => by
    rw [← hg]
    exact c_methodOf (S := S) ha1 hWP.2.2.2.1 o7 (fun c => (z1 c).trans (hPR.1 c).2.2.2.2.2.2.1) (fun c => (z2 c).trans (hPR.1 c).2.2.2.2.2.2.2)
  have c1 := cx_m ho gd hd1 gi hi1 ge gc ga w2 (by omega) gs (by omega) gcl hgC hd2 gh (by omega) (by rw [(hRV (14 * d + 6 + t) (by omega)).kind]; exact hWC.1 _ (by omega))
  obtain rfl := cx_inj hx c1
  have := clM_5 (M := xC M 18 d i e) (o := 18) (d := d) (t := t) (g := g) (m := 1) (by omega)
  unfold xC at this ⊢
  simp (disch := omega) only [← Nat.add_assoc, Nat.add_sub_cancel, Nat.sub_zero, as21, as31, as32, and_self, and_true, true_and, l_0, l_1, l_2, l_3, l_4, l_5, l_6, l_7, l_8, l_9, l_10, l_11, l_12, l_13, l_14, l_15, l_16, l_17, l_18, l_19, l_20, l_21, l_22, l_23, l_24, l_25, l_26, l_27, l_28, l_29, l_30, l_31, l_32, l_33, l_34, l_35, l_36, l_37, l_38, l_39, l_40, l_41, l_42, l_43, l_44, l_45, l_47, l_48, l_50, l_52, l_60, l_61, l_63, l_80, l_99, l_100, l_101, l_102, l_103, l_105, l_106, l_107, l_108, l_109, l_110, l_111, l_112, l_114, l_115, l_116, l_117, l_118, l_119, l_120, l_122, l_168, l_200, l_320, l_360, l_528, l_548, l_1000, l_1023, l_2000, l_3000, l_1000000, qadd, qmul, qsub, qdiv, qcl, qinT, qchT, qleT, qleF, qltT, qltF, qeqT, qeqF, qneg_ne, bo0, bo1, qneg_ne', qneg_lt, mI_eq, mD_eq, mL_eq, mR_eq, mI_at, mD_at, mL_at, mI_ne, mD_ne, mL_ne, mR_ne, not_false_eq_true, not_true_eq_false, or_true, true_or, or_false, false_or, or_self, false_and, and_false, eq_self, mI_sL, mI_sD, mI_sR, mI_tk, mL_sI, mL_sD, mL_sR, mL_tk, mD_sI, mD_sL, mD_sR, mD_tk, mR_sI, mR_sL, mR_sD, mR_tk, mT_sI, mT_sL, mT_sD, mT_sR, mT_tk, mK_sI, mK_sL, mK_sD, mK_sR, mK_tk, mN_sI, mN_sL, mN_sD, mN_sR, mN_tk, nx_sI, nx_sL, nx_sD, nx_sR, uC_sI, uC_sL, uC_sD, uC_sR, uS_sI, uS_sL, uS_sD, uS_sR, nx_tk, uC_tk, uS_tk] at this
  exact this
theorem cf_r {M S N2 : Mem} {d ns ob nc nf f i e : Nat} {z : Int32} (hR : RC M S 18 d ns) (hW : WW S d ob ns nc nf) (hf : mI S 109 d = nI f) (hf1 : f < 8) (hi : mI S 110 d = nI i) (hi1 : i < 40) (he : mI S 69 57 = nI e) (gc : mI M 18 7 = nI 114) {t c u : Nat} (hh : mI S 111 d = nI (t + 1)) (hh1 : t < 8) (hdc : d = c + 1) (hu : mI S 111 c = nI u) (hu1 : u < 8) (hx : d_X3_execute 18 M = some (z, N2)) : CPf M N2 (14 * d + 6 + t) (14 * c + 6 + u) := by
  have ho : isO 18 := .inl rfl
  obtain ⟨hRV, hRF, hRT, hRO, hRA, hRS, hPR⟩ := id hR
  obtain ⟨hWA, hWV, hWC, hWO, hWF, hWS, hWP, hWE⟩ := id hW
  have hd := hWA.1
  have hd1 := hWA.2.1
  have gd := hRA.1
  obtain ⟨gf0, gi0, gh0⟩ := hRA.2 d (Nat.le_refl _)
  have gi := gi0.trans hi
  have gh := gh0.trans hh
  have ge := hRO.2.1.trans he
  subst hdc
  have gu : mI M (18 + 8) c = nI u := (hRA.2 c (by omega)).2.2.trans hu
  have c1 := cx_r1 ho gd hd1 gi hi1 ge gc rfl gh hh1 gu hu1 (by rw [(hRV (14 * (c + 1) + 6 + t) (by omega)).kind]; exact hWC.1 _ (by omega))
  obtain rfl := cx_inj hx c1
  refine ⟨?_, fun j h1 h2 => ?_⟩
  all_goals simp (disch := omega) only [← Nat.add_assoc, Nat.add_sub_cancel, Nat.sub_zero, as21, as31, as32, and_self, and_true, true_and, l_0, l_1, l_2, l_3, l_4, l_5, l_6, l_7, l_8, l_9, l_10, l_11, l_12, l_13, l_14, l_15, l_16, l_17, l_18, l_19, l_20, l_21, l_22, l_23, l_24, l_25, l_26, l_27, l_28, l_29, l_30, l_31, l_32, l_33, l_34, l_35, l_36, l_37, l_38, l_39, l_40, l_41, l_42, l_43, l_44, l_45, l_47, l_48, l_50, l_52, l_60, l_61, l_63, l_80, l_99, l_100, l_101, l_102, l_103, l_105, l_106, l_107, l_108, l_109, l_110, l_111, l_112, l_114, l_115, l_116, l_117, l_118, l_119, l_120, l_122, l_168, l_200, l_320, l_360, l_528, l_548, l_1000, l_1023, l_2000, l_3000, l_1000000, qadd, qmul, qsub, qdiv, qcl, qinT, qchT, qleT, qleF, qltT, qltF, qeqT, qeqF, qneg_ne, bo0, bo1, qneg_ne', qneg_lt, mI_eq, mD_eq, mL_eq, mR_eq, mI_at, mD_at, mL_at, mI_ne, mD_ne, mL_ne, mR_ne, not_false_eq_true, not_true_eq_false, or_true, true_or, or_false, false_or, or_self, false_and, and_false, eq_self, mI_sL, mI_sD, mI_sR, mI_tk, mL_sI, mL_sD, mL_sR, mL_tk, mD_sI, mD_sL, mD_sR, mD_tk, mR_sI, mR_sL, mR_sD, mR_tk, mT_sI, mT_sL, mT_sD, mT_sR, mT_tk, mK_sI, mK_sL, mK_sD, mK_sR, mK_tk, mN_sI, mN_sL, mN_sD, mN_sR, mN_tk, nx_sI, nx_sL, nx_sD, nx_sR, uC_sI, uC_sL, uC_sD, uC_sR, uS_sI, uS_sL, uS_sD, uS_sR, nx_tk, uC_tk, uS_tk, xC, mvC, puC]
theorem bp_ex {M S Y : Mem} {d ns ob nc nf s a : Nat} (hR : RC M S 18 d ns) (hW : WW S d ob ns nc nf) (hY : ∀ b j, 10 < b → b < 18 → mI Y b j = mI M b j) (hs1 : s < ns) (ha1 : a < 6) (hroom : hasF S s a ∨ ¬ mI S 82 (6 * s + a) = -nI 1 ∨ ns < 60) : ∃ s2 X, d_X7_behindPut (nI s) (nI a) Y = some (nI s2, X) ∧ (∀ b j, (b < 11 ∨ 17 < b) → mI X b j = mI Y b j) ∧ ∀ b j, mD X b j = mD Y b j := by
  obtain ⟨hRV, hRF, hRT, hRO, hRA, hRS, hPR⟩ := id hR
  obtain ⟨hWA, hWV, hWC, hWO, hWF, hWS, hWP, hWE⟩ := id hW
  have hns := hWS.2.1
  have hM : hM Y s a ↔ hasF S s a := (hM_e (hY 14 s (by omega) (by omega))).trans ((hRS.2.2 s hs1).2.2.2.2 a ha1)
  have e16 : mI Y 16 (6 * s + a) = mI S 82 (6 * s + a) := (hY 16 _ (by omega) (by omega)).trans ((hRS.2.2 s hs1).2.2.1 a ha1)
  by_cases hF : hasF S s a
  · exact ⟨s, Y, c_behind_has (by omega) (hM.mpr hF), fun _ _ _ => rfl, fun _ _ => rfl⟩
  · by_cases hfo : mI S 82 (6 * s + a) = -nI 1
    · have hn : ns < 60 := (hroom.resolve_left hF).resolve_left (fun y => y hfo)
      have hz := (hWS.2.2.2.2 s hs1).1
      have e13 : mI Y 13 s = nI (cN S s) := (hY 13 s (by omega) (by omega)).trans ((hRS.2.2 s hs1).2.1.trans hz)
      have e11 : mI Y 11 6 = nI ns := (hY 11 6 (by omega) (by omega)).trans hRS.1
      exact ⟨ns, _, c_behind_new hs1 ha1 e13 (cN_lt ha1 hF) (fun y => hF (hM.mp y)) (e16.trans hfo) e11 hn, fun b j hb => sbM_o (by omega), fun b j => sbM_D _ _ _ _ _ b j⟩
    · obtain ⟨s2, hlt, hs2, hfo2, -⟩ := ((hWS.2.2.2.2 s hs1).2.2.2 a ha1).resolve_left hfo
      have hc1 := c_behind_fol (M := Y) (s := s) (n := a) (by omega) ha1 (fun y => hF (hM.mp y)) (by rw [e16]; exact hfo)
      rw [e16, hfo2] at hc1
      exact ⟨s2, Y, hc1, fun _ _ _ => rfl, fun _ _ => rfl⟩
theorem cf_p {M S N2 : Mem} {d ns ob nc nf f i e : Nat} {z : Int32} (hR : RC M S 18 d ns) (hW : WW S d ob ns nc nf) (hf : mI S 109 d = nI f) (hf1 : f < 8) (hi : mI S 110 d = nI i) (hi1 : i < 40) (he : mI S 69 57 = nI e) (gc : mI M 18 7 = nI 112) {a : Nat} (ga : mI M 18 8 = nI a) {t : Nat} (hh : mI S 111 d = nI (t + 2)) (hh1 : t < 7) (ha1 : a < 6) {q0 s cl : Nat} (hO : OT S (14 * d + 6 + t) ob ns nc q0 s cl) (hroom : hasF S s a ∨ ¬ mI S 82 (6 * s + a) = -nI 1 ∨ ns < 60) (hx : d_X3_execute 18 M = some (z, N2)) : NOf M N2 200 := by
  have ho : isO 18 := .inl rfl
  obtain ⟨hRV, hRF, hRT, hRO, hRA, hRS, hPR⟩ := id hR
  obtain ⟨hWA, hWV, hWC, hWO, hWF, hWS, hWP, hWE⟩ := id hW
  have hd := hWA.1
  have hd1 := hWA.2.1
  have gd := hRA.1
  obtain ⟨gf0, gi0, gh0⟩ := hRA.2 d (Nat.le_refl _)
  have gi := gi0.trans hi
  have gh := gh0.trans hh
  have ge := hRO.2.1.trans he
  obtain ⟨o1, o2, o3, o4, o5, o6, o7⟩ := hO
  have hob := hWO.2.1
  have hns := hWS.2.1
  have hv9 := hRV (14 * d + 6 + t) (by omega)
  rw [o1] at hv9
  obtain ⟨w1, w2, -, -⟩ := hv9.oth (by decide)
  rw [o2] at w2
  have gs : mI M (18 + 9) q0 = nI s := (hRO.2.2.2 q0 (by omega)).trans o4
  obtain ⟨s2, X, x1, x2, x3⟩ := bp_ex (Y := sI (sI (xC M 18 d i e) 26 d (nI (t + 1))) 26 d (nI t)) hR hW (fun b j h1 h2 => by unfold xC; simp (disch := omega) only [← Nat.add_assoc, Nat.add_sub_cancel, Nat.sub_zero, as21, as31, as32, and_self, and_true, true_and, l_0, l_1, l_2, l_3, l_4, l_5, l_6, l_7, l_8, l_9, l_10, l_11, l_12, l_13, l_14, l_15, l_16, l_17, l_18, l_19, l_20, l_21, l_22, l_23, l_24, l_25, l_26, l_27, l_28, l_29, l_30, l_31, l_32, l_33, l_34, l_35, l_36, l_37, l_38, l_39, l_40, l_41, l_42, l_43, l_44, l_45, l_47, l_48, l_50, l_52, l_60, l_61, l_63, l_80, l_99, l_100, l_101, l_102, l_103, l_105, l_106, l_107, l_108, l_109, l_110, l_111, l_112, l_114, l_115, l_116, l_117, l_118, l_119, l_120, l_122, l_168, l_200, l_320, l_360, l_528, l_548, l_1000, l_1023, l_2000, l_3000, l_1000000, qadd, qmul, qsub, qdiv, qcl, qinT, qchT, qleT, qleF, qltT, qltF, qeqT, qeqF, qneg_ne, bo0, bo1, qneg_ne', qneg_lt, mI_eq, mD_eq, mL_eq, mR_eq, mI_at, mD_at, mL_at, mI_ne, mD_ne, mL_ne, mR_ne, not_false_eq_true, not_true_eq_false, or_true, true_or, or_false, false_or, or_self, false_and, and_false, eq_self, mI_sL, mI_sD, mI_sR, mI_tk, mL_sI, mL_sD, mL_sR, mL_tk, mD_sI, mD_sL, mD_sR, mD_tk, mR_sI, mR_sL, mR_sD, mR_tk, mT_sI, mT_sL, mT_sD, mT_sR, mT_tk, mK_sI, mK_sL, mK_sD, mK_sR, mK_tk, mN_sI, mN_sL, mN_sD, mN_sR, mN_tk, nx_sI, nx_sL, nx_sD, nx_sR, uC_sI, uC_sL, uC_sD, uC_sR, uS_sI, uS_sL, uS_sD, uS_sR, nx_tk, uC_tk, uS_tk]) o5 ha1 hroom
  have c1 := cx_p (X := X) (s2 := s2) ho gd hd1 gi hi1 ge gc ga gh hh1 w2 (by omega) gs ha1 (by rw [(hRV (14 * d + 6 + t + 1) (by omega)).kind]; exact hWC.1 _ (by omega)) x1 x2 (fun b j => (x3 b j).trans (by unfold xC; simp (disch := omega) only [← Nat.add_assoc, Nat.add_sub_cancel, Nat.sub_zero, as21, as31, as32, and_self, and_true, true_and, l_0, l_1, l_2, l_3, l_4, l_5, l_6, l_7, l_8, l_9, l_10, l_11, l_12, l_13, l_14, l_15, l_16, l_17, l_18, l_19, l_20, l_21, l_22, l_23, l_24, l_25, l_26, l_27, l_28, l_29, l_30, l_31, l_32, l_33, l_34, l_35, l_36, l_37, l_38, l_39, l_40, l_41, l_42, l_43, l_44, l_45, l_47, l_48, l_50, l_52, l_60, l_61, l_63, l_80, l_99, l_100, l_101, l_102, l_103, l_105, l_106, l_107, l_108, l_109, l_110, l_111, l_112, l_114, l_115, l_116, l_117, l_118, l_119, l_120, l_122, l_168, l_200, l_320, l_360, l_528, l_548, l_1000, l_1023, l_2000, l_3000, l_1000000, qadd, qmul, qsub, qdiv, qcl, qinT, qchT, qleT, qleF, qltT, qltF, qeqT, qeqF, qneg_ne, bo0, bo1, qneg_ne', qneg_lt, mI_eq, mD_eq, mL_eq, mR_eq, mI_at, mD_at, mL_at, mI_ne, mD_ne, mL_ne, mR_ne, not_false_eq_true, not_true_eq_false, or_true, true_or, or_false, false_or, or_self, false_and, and_false, eq_self, mI_sL, mI_sD, mI_sR, mI_tk, mL_sI, mL_sD, mL_sR, mL_tk, mD_sI, mD_sL, mD_sR, mD_tk, mR_sI, mR_sL, mR_sD, mR_tk, mT_sI, mT_sL, mT_sD, mT_sR, mT_tk, mK_sI, mK_sL, mK_sD, mK_sR, mK_tk, mN_sI, mN_sL, mN_sD, mN_sR, mN_tk, nx_sI, nx_sL, nx_sD, nx_sR, uC_sI, uC_sL, uC_sD, uC_sR, uS_sI, uS_sL, uS_sD, uS_sR, nx_tk, uC_tk, uS_tk]))
  obtain rfl := cx_inj hx c1
  intro j h1 h2
  unfold mvC
  simp (disch := omega) only [← Nat.add_assoc, Nat.add_sub_cancel, Nat.sub_zero, as21, as31, as32, and_self, and_true, true_and, l_0, l_1, l_2, l_3, l_4, l_5, l_6, l_7, l_8, l_9, l_10, l_11, l_12, l_13, l_14, l_15, l_16, l_17, l_18, l_19, l_20, l_21, l_22, l_23, l_24, l_25, l_26, l_27, l_28, l_29, l_30, l_31, l_32, l_33, l_34, l_35, l_36, l_37, l_38, l_39, l_40, l_41, l_42, l_43, l_44, l_45, l_47, l_48, l_50, l_52, l_60, l_61, l_63, l_80, l_99, l_100, l_101, l_102, l_103, l_105, l_106, l_107, l_108, l_109, l_110, l_111, l_112, l_114, l_115, l_116, l_117, l_118, l_119, l_120, l_122, l_168, l_200, l_320, l_360, l_528, l_548, l_1000, l_1023, l_2000, l_3000, l_1000000, qadd, qmul, qsub, qdiv, qcl, qinT, qchT, qleT, qleF, qltT, qltF, qeqT, qeqF, qneg_ne, bo0, bo1, qneg_ne', qneg_lt, mI_eq, mD_eq, mL_eq, mR_eq, mI_at, mD_at, mL_at, mI_ne, mD_ne, mL_ne, mR_ne, not_false_eq_true, not_true_eq_false, or_true, true_or, or_false, false_or, or_self, false_and, and_false, eq_self, mI_sL, mI_sD, mI_sR, mI_tk, mL_sI, mL_sD, mL_sR, mL_tk, mD_sI, mD_sL, mD_sR, mD_tk, mR_sI, mR_sL, mR_sD, mR_tk, mT_sI, mT_sL, mT_sD, mT_sR, mT_tk, mK_sI, mK_sL, mK_sD, mK_sR, mK_tk, mN_sI, mN_sL, mN_sD, mN_sR, mN_tk, nx_sI, nx_sL, nx_sD, nx_sR, uC_sI, uC_sL, uC_sD, uC_sR, uS_sI, uS_sL, uS_sD, uS_sR, nx_tk, uC_tk, uS_tk]
  rw [x2 _ _ (by omega)]
  unfold xC
  simp (disch := omega) only [← Nat.add_assoc, Nat.add_sub_cancel, Nat.sub_zero, as21, as31, as32, and_self, and_true, true_and, l_0, l_1, l_2, l_3, l_4, l_5, l_6, l_7, l_8, l_9, l_10, l_11, l_12, l_13, l_14, l_15, l_16, l_17, l_18, l_19, l_20, l_21, l_22, l_23, l_24, l_25, l_26, l_27, l_28, l_29, l_30, l_31, l_32, l_33, l_34, l_35, l_36, l_37, l_38, l_39, l_40, l_41, l_42, l_43, l_44, l_45, l_47, l_48, l_50, l_52, l_60, l_61, l_63, l_80, l_99, l_100, l_101, l_102, l_103, l_105, l_106, l_107, l_108, l_109, l_110, l_111, l_112, l_114, l_115, l_116, l_117, l_118, l_119, l_120, l_122, l_168, l_200, l_320, l_360, l_528, l_548, l_1000, l_1023, l_2000, l_3000, l_1000000, qadd, qmul, qsub, qdiv, qcl, qinT, qchT, qleT, qleF, qltT, qltF, qeqT, qeqF, qneg_ne, bo0, bo1, qneg_ne', qneg_lt, mI_eq, mD_eq, mL_eq, mR_eq, mI_at, mD_at, mL_at, mI_ne, mD_ne, mL_ne, mR_ne, not_false_eq_true, not_true_eq_false, or_true, true_or, or_false, false_or, or_self, false_and, and_false, eq_self, mI_sL, mI_sD, mI_sR, mI_tk, mL_sI, mL_sD, mL_sR, mL_tk, mD_sI, mD_sL, mD_sR, mD_tk, mR_sI, mR_sL, mR_sD, mR_tk, mT_sI, mT_sL, mT_sD, mT_sR, mT_tk, mK_sI, mK_sL, mK_sD, mK_sR, mK_tk, mN_sI, mN_sL, mN_sD, mN_sR, mN_tk, nx_sI, nx_sL, nx_sD, nx_sR, uC_sI, uC_sL, uC_sD, uC_sR, uS_sI, uS_sL, uS_sD, uS_sR, nx_tk, uC_tk, uS_tk]
end MH2
