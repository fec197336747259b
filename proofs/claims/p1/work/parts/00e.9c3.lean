/-! ===== what both recorders know behind a step ===== -/
section MH3
def gfM (M : Mem) (p fc : Nat) (m : Int32) : Mem := sI (sI (sI M 23 p (nI fc)) 55 fc m) 48 9 (nI (fc + 1))
theorem k_give {M : Mem} {p fc : Nat} {m : Int32} (hp : p < 549) (h9 : mI M 48 9 = nI fc) (hf : fc < 378) : d_X6_giveFacts (nI p) m M = some ((), gfM M p fc m) := by
  unfold d_X6_giveFacts gfM
  simp (disch := first | omega | (simp (disch := omega) only [← Nat.add_assoc, Nat.add_sub_cancel, Nat.sub_zero, as21, as31, as32, and_self, and_true, true_and, l_0, l_1, l_2, l_3, l_4, l_5, l_6, l_7, l_8, l_9, l_10, l_11, l_12, l_13, l_14, l_15, l_16, l_17, l_18, l_19, l_20, l_21, l_22, l_23, l_24, l_25, l_26, l_27, l_28, l_29, l_30, l_31, l_32, l_33, l_34, l_35, l_36, l_37, l_38, l_39, l_40, l_41, l_42, l_43, l_44, l_45, l_47, l_48, l_50, l_52, l_60, l_61, l_63, l_80, l_99, l_100, l_101, l_102, l_103, l_105, l_106, l_107, l_108, l_109, l_110, l_111, l_112, l_114, l_115, l_116, l_117, l_118, l_119, l_120, l_122, l_168, l_200, l_320, l_360, l_528, l_548, l_1000, l_1023, l_2000, l_3000, l_1000000, qadd, qmul, qsub, qdiv, qcl, qinT, qchT, qleT, qleF, qltT, qltF, qeqT, qeqF, qneg_ne, bo0, bo1, qneg_ne', qneg_lt, mI_eq, mD_eq, mL_eq, mR_eq, mI_at, mD_at, mL_at, mI_ne, mD_ne, mL_ne, mR_ne, not_false_eq_true, not_true_eq_false, or_true, true_or, or_false, false_or, or_self, false_and, and_false, eq_self, mI_sL, mI_sD, mI_sR, mI_tk, mL_sI, mL_sD, mL_sR, mL_tk, mD_sI, mD_sL, mD_sR, mD_tk, mR_sI, mR_sL, mR_sD, mR_tk, mT_sI, mT_sL, mT_sD, mT_sR, mT_tk, mK_sI, mK_sL, mK_sD, mK_sR, mK_tk, mN_sI, mN_sL, mN_sD, mN_sR, mN_tk, nx_sI, nx_sL, nx_sD, nx_sR, uC_sI, uC_sL, uC_sD, uC_sR, uS_sI, uS_sL, uS_sD, uS_sR, nx_tk, uC_tk, uS_tk, h9]; done) | fail) only [↓okk_pos, ↓okk_T, ↓bnd_eq, ↓obind, ↓bind_okk, ↓bind_bnd, ↓bind_ite, ↓bind_bind, ↓reduceIte, ← Nat.add_assoc, Nat.add_sub_cancel, Nat.sub_zero, as21, as31, as32, and_self, and_true, true_and, l_0, l_1, l_2, l_3, l_4, l_5, l_6, l_7, l_8, l_9, l_10, l_11, l_12, l_13, l_14, l_15, l_16, l_17, l_18, l_19, l_20, l_21, l_22, l_23, l_24, l_25, l_26, l_27, l_28, l_29, l_30, l_31, l_32, l_33, l_34, l_35, l_36, l_37, l_38, l_39, l_40, l_41, l_42, l_43, l_44, l_45, l_47, l_48, l_50, l_52, l_60, l_61, l_63, l_80, l_99, l_100, l_101, l_102, l_103, l_105, l_106, l_107, l_108, l_109, l_110, l_111, l_112, l_114, l_115, l_116, l_117, l_118, l_119, l_120, l_122, l_168, l_200, l_320, l_360, l_528, l_548, l_1000, l_1023, l_2000, l_3000, l_1000000, qadd, qmul, qsub, qdiv, qcl, qinT, qchT, qleT, qleF, qltT, qltF, qeqT, qeqF, qneg_ne, bo0, bo1, qneg_ne', qneg_lt, mI_eq, mD_eq, mL_eq, mR_eq, mI_at, mD_at, mL_at, mI_ne, mD_ne, mL_ne, mR_ne, not_false_eq_true, not_true_eq_false, or_true, true_or, or_false, false_or, or_self, false_and, and_false, eq_self, mI_sL, mI_sD, mI_sR, mI_tk, mL_sI, mL_sD, mL_sR, mL_tk, mD_sI, mD_sL, mD_sR, mD_tk, mR_sI, mR_sL, mR_sD, mR_tk, mT_sI, mT_sL, mT_sD, mT_sR, mT_tk, mK_sI, mK_sL, mK_sD, mK_sR, mK_tk, mN_sI, mN_sL, mN_sD, mN_sR, mN_tk, nx_sI, nx_sL, nx_sD, nx_sR, uC_sI, uC_sL, uC_sD, uC_sR, uS_sI, uS_sL, uS_sD, uS_sR, nx_tk, uC_tk, uS_tk, h9]
theorem rx_mv {M M2 S F : Mem} {v fc g k : Nat} {φ : Nat → Nat} (h : RECX M S v fc φ g k) (hM : ∀ a j, 47 < a → a < 56 → mI M2 a j = mI M a j) (hS : ∀ a j, (a = 69 ∧ (j = 76 ∨ j = 78)) ∨ (118 < a ∧ a < 123) → mI F a j = mI S a j) (hv : mI F 69 83 = nI v) (hb : ∀ u, u < v → kb F u = kb S u) : RECX M2 F v fc φ g k := by
  obtain ⟨h1, h2, h3, h4, h5, h6, h7, h8, h9⟩ := h
  refine ⟨hv, (hM _ _ (by omega) (by omega)).trans h2, (hS _ _ (by omega)).trans h3, (hM _ _ (by omega) (by omega)).trans h4, (hS _ _ (by omega)).trans h5, (hM _ _ (by omega) (by omega)).trans h6, h7, fun u hu => ⟨(h8 u hu).1, ?_⟩, fun i hi => ?_⟩
  · rw [hM _ _ (by omega) (by omega), hb u hu]; exact (h8 u hu).2
  · have := h9 i hi
    unfold GA at this ⊢
    rw [hM 51 _ (by omega) (by omega), hM 52 _ (by omega) (by omega), hM 53 _ (by omega) (by omega), hM 54 _ (by omega) (by omega), hS 119 _ (by omega), hS 120 _ (by omega), hS 121 _ (by omega), hS 122 _ (by omega)]
    exact this
theorem rx_nw {M S : Mem} {v fc g k p : Nat} {φ : Nat → Nat} {m : Int32} (h : RECX M S v fc φ g k) {F : Mem} (hv : mI F 69 83 = nI (v + 1)) (hS : ∀ a j, (a = 69 ∧ (j = 76 ∨ j = 78)) ∨ (118 < a ∧ a < 123) → mI F a j = mI S a j) (hb : ∀ u, u < v → kb F u = kb S u) (hm : kb F v = m) : RECX (gfM M p fc m) F (v + 1) (fc + 1) (fun u => if u = v then fc else φ u) g k := by
  obtain ⟨h1, h2, h3, h4, h5, h6, h7, h8, h9⟩ := h
  refine ⟨hv, ?_, (hS _ _ (by omega)).trans h3, ?_, (hS _ _ (by omega)).trans h5, ?_, fun u1 u2 y1 y2 y3 => ?_, fun u hu => ?_, fun i hi => ?_⟩
  · unfold gfM; simp (disch := omega) only [← Nat.add_assoc, Nat.add_sub_cancel, Nat.sub_zero, as21, as31, as32, and_self, and_true, true_and, l_0, l_1, l_2, l_3, l_4, l_5, l_6, l_7, l_8, l_9, l_10, l_11, l_12, l_13, l_14, l_15, l_16, l_17, l_18, l_19, l_20, l_21, l_22, l_23, l_24, l_25, l_26, l_27, l_28, l_29, l_30, l_31, l_32, l_33, l_34, l_35, l_36, l_37, l_38, l_39, l_40, l_41, l_42, l_43, l_44, l_45, l_47, l_48, l_50, l_52, l_60, l_61, l_63, l_80, l_99, l_100, l_101, l_102, l_103, l_105, l_106, l_107, l_108, l_109, l_110, l_111, l_112, l_114, l_115, l_116, l_117, l_118, l_119, l_120, l_122, l_168, l_200, l_320, l_360, l_528, l_548, l_1000, l_1023, l_2000, l_3000, l_1000000, qadd, qmul, qsub, qdiv, qcl, qinT, qchT, qleT, qleF, qltT, qltF, qeqT, qeqF, qneg_ne, bo0, bo1, qneg_ne', qneg_lt, mI_eq, mD_eq, mL_eq, mR_eq, mI_at, mD_at, mL_at, mI_ne, mD_ne, mL_ne, mR_ne, not_false_eq_true, not_true_eq_false, or_true, true_or, or_false, false_or, or_self, false_and, and_false, eq_self, mI_sL, mI_sD, mI_sR, mI_tk, mL_sI, mL_sD, mL_sR, mL_tk, mD_sI, mD_sL, mD_sR, mD_tk, mR_sI, mR_sL, mR_sD, mR_tk, mT_sI, mT_sL, mT_sD, mT_sR, mT_tk, mK_sI, mK_sL, mK_sD, mK_sR, mK_tk, mN_sI, mN_sL, mN_sD, mN_sR, mN_tk, nx_sI, nx_sL, nx_sD, nx_sR, uC_sI, uC_sL, uC_sD, uC_sR, uS_sI, uS_sL, uS_sD, uS_sR, nx_tk, uC_tk, uS_tk]
  · unfold gfM; simp (disch := omega) only [← Nat.add_assoc, Nat.add_sub_cancel, Nat.sub_zero, as21, as31, as32, and_self, and_true, true_and, l_0, l_1, l_2, l_3, l_4, l_5, l_6, l_7, l_8, l_9, l_10, l_11, l_12, l_13, l_14, l_15, l_16, l_17, l_18, l_19, l_20, l_21, l_22, l_23, l_24, l_25, l_26, l_27, l_28, l_29, l_30, l_31, l_32, l_33, l_34, l_35, l_36, l_37, l_38, l_39, l_40, l_41, l_42, l_43, l_44, l_45, l_47, l_48, l_50, l_52, l_60, l_61, l_63, l_80, l_99, l_100, l_101, l_102, l_103, l_105, l_106, l_107, l_108, l_109, l_110, l_111, l_112, l_114, l_115, l_116, l_117, l_118, l_119, l_120, l_122, l_168, l_200, l_320, l_360, l_528, l_548, l_1000, l_1023, l_2000, l_3000, l_1000000, qadd, qmul, qsub, qdiv, qcl, qinT, qchT, qleT, qleF, qltT, qltF, qeqT, qeqF, qneg_ne, bo0, bo1, qneg_ne', qneg_lt, mI_eq, mD_eq, mL_eq, mR_eq, mI_at, mD_at, mL_at, mI_ne, mD_ne, mL_ne, mR_ne, not_false_eq_true, not_true_eq_false, or_true, true_or, or_false, false_or, or_self, false_and, and_false, eq_self, mI_sL, mI_sD, mI_sR, mI_tk, mL_sI, mL_sD, mL_sR, mL_tk, mD_sI, mD_sL, mD_sR, mD_tk, mR_sI, mR_sL, mR_sD, mR_tk, mT_sI, mT_sL, mT_sD, mT_sR, mT_tk, mK_sI, mK_sL, mK_sD, mK_sR, mK_tk, mN_sI, mN_sL, mN_sD, mN_sR, mN_tk, nx_sI, nx_sL, nx_sD, nx_sR, uC_sI, uC_sL, uC_sD, uC_sR, uS_sI, uS_sL, uS_sD, uS_sR, nx_tk, uC_tk, uS_tk]; exact h4
  · unfold gfM; simp (disch := omega) only [← Nat.add_assoc, Nat.add_sub_cancel, Nat.sub_zero, as21, as31, as32, and_self, and_true, true_and, l_0, l_1, l_2, l_3, l_4, l_5, l_6, l_7, l_8, l_9, l_10, l_11, l_12, l_13, l_14, l_15, l_16, l_17, l_18, l_19, l_20, l_21, l_22, l_23, l_24, l_25, l_26, l_27, l_28, l_29, l_30, l_31, l_32, l_33, l_34, l_35, l_36, l_37, l_38, l_39, l_40, l_41, l_42, l_43, l_44, l_45, l_47, l_48, l_50, l_52, l_60, l_61, l_63, l_80, l_99, l_100, l_101, l_102, l_103, l_105, l_106, l_107, l_108, l_109, l_110, l_111, l_112, l_114, l_115, l_116, l_117, l_118, l_119, l_120, l_122, l_168, l_200, l_320, l_360, l_528, l_548, l_1000, l_1023, l_2000, l_3000, l_1000000, qadd, qmul, qsub, qdiv, qcl, qinT, qchT, qleT, qleF, qltT, qltF, qeqT, qeqF, qneg_ne, bo0, bo1, qneg_ne', qneg_lt, mI_eq, mD_eq, mL_eq, mR_eq, mI_at, mD_at, mL_at, mI_ne, mD_ne, mL_ne, mR_ne, not_false_eq_true, not_true_eq_false, or_true, true_or, or_false, false_or, or_self, false_and, and_false, eq_self, mI_sL, mI_sD, mI_sR, mI_tk, mL_sI, mL_sD, mL_sR, mL_tk, mD_sI, mD_sL, mD_sR, mD_tk, mR_sI, mR_sL, mR_sD, mR_tk, mT_sI, mT_sL, mT_sD, mT_sR, mT_tk, mK_sI, mK_sL, mK_sD, mK_sR, mK_tk, mN_sI, mN_sL, mN_sD, mN_sR, mN_tk, nx_sI, nx_sL, nx_sD, nx_sR, uC_sI, uC_sL, uC_sD, uC_sR, uS_sI, uS_sL, uS_sD, uS_sR, nx_tk, uC_tk, uS_tk]; exact h6
  · by_cases e1 : u1 = v <;> by_cases e2 : u2 = v
    · omega
    · exfalso
      have y3' : (if u1 = v then fc else φ u1) = (if u2 = v then fc else φ u2) := y3
      rw [if_pos e1, if_neg e2] at y3'
      have := (h8 u2 (by omega)).1
      omega
    · exfalso
      have y3' : (if u1 = v then fc else φ u1) = (if u2 = v then fc else φ u2) := y3
      rw [if_neg e1, if_pos e2] at y3'
      have := (h8 u1 (by omega)).1
      omega
    · have y3' : (if u1 = v then fc else φ u1) = (if u2 = v then fc else φ u2) := y3
      rw [if_neg e1, if_neg e2] at y3'
      exact h7 u1 u2 (by omega) (by omega) y3'
  · show (if u = v then fc else φ u) < fc + 1 ∧ mI (gfM M p fc m) 55 (if u = v then fc else φ u) = kb F u
    by_cases e : u = v
    · subst e
      rw [if_pos rfl, hm]
      refine ⟨by omega, ?_⟩
      unfold gfM; simp (disch := omega) only [← Nat.add_assoc, Nat.add_sub_cancel, Nat.sub_zero, as21, as31, as32, and_self, and_true, true_and, l_0, l_1, l_2, l_3, l_4, l_5, l_6, l_7, l_8, l_9, l_10, l_11, l_12, l_13, l_14, l_15, l_16, l_17, l_18, l_19, l_20, l_21, l_22, l_23, l_24, l_25, l_26, l_27, l_28, l_29, l_30, l_31, l_32, l_33, l_34, l_35, l_36, l_37, l_38, l_39, l_40, l_41, l_42, l_43, l_44, l_45, l_47, l_48, l_50, l_52, l_60, l_61, l_63, l_80, l_99, l_100, l_101, l_102, l_103, l_105, l_106, l_107, l_108, l_109, l_110, l_111, l_112, l_114, l_115, l_116, l_117, l_118, l_119, l_120, l_122, l_168, l_200, l_320, l_360, l_528, l_548, l_1000, l_1023, l_2000, l_3000, l_1000000, qadd, qmul, qsub, qdiv, qcl, qinT, qchT, qleT, qleF, qltT, qltF, qeqT, qeqF, qneg_ne, bo0, bo1, qneg_ne', qneg_lt, mI_eq, mD_eq, mL_eq, mR_eq, mI_at, mD_at, mL_at, mI_ne, mD_ne, mL_ne, mR_ne, not_false_eq_true, not_true_eq_false, or_true, true_or, or_false, false_or, or_self, false_and, and_false, eq_self, mI_sL, mI_sD, mI_sR, mI_tk, mL_sI, mL_sD, mL_sR, mL_tk, mD_sI, mD_sL, mD_sR, mD_tk, mR_sI, mR_sL, mR_sD, mR_tk, mT_sI, mT_sL, mT_sD, mT_sR, mT_tk, mK_sI, mK_sL, mK_sD, mK_sR, mK_tk, mN_sI, mN_sL, mN_sD, mN_sR, mN_tk, nx_sI, nx_sL, nx_sD, nx_sR, uC_sI, uC_sL, uC_sD, uC_sR, uS_sI, uS_sL, uS_sD, uS_sR, nx_tk, uC_tk, uS_tk]
    · rw [if_neg e]
      obtain ⟨a1, a2⟩ := h8 u (by omega)
      refine ⟨by omega, ?_⟩
      unfold gfM
      rw [mI_ne (by omega), mI_ne (by omega), mI_ne (by omega), a2, hb u (by omega)]
  · have := h9 i hi
    unfold GA at this ⊢
    rw [hS 119 _ (by omega), hS 120 _ (by omega), hS 121 _ (by omega), hS 122 _ (by omega)]
    unfold gfM
    simp (disch := omega) only [← Nat.add_assoc, Nat.add_sub_cancel, Nat.sub_zero, as21, as31, as32, and_self, and_true, true_and, l_0, l_1, l_2, l_3, l_4, l_5, l_6, l_7, l_8, l_9, l_10, l_11, l_12, l_13, l_14, l_15, l_16, l_17, l_18, l_19, l_20, l_21, l_22, l_23, l_24, l_25, l_26, l_27, l_28, l_29, l_30, l_31, l_32, l_33, l_34, l_35, l_36, l_37, l_38, l_39, l_40, l_41, l_42, l_43, l_44, l_45, l_47, l_48, l_50, l_52, l_60, l_61, l_63, l_80, l_99, l_100, l_101, l_102, l_103, l_105, l_106, l_107, l_108, l_109, l_110, l_111, l_112, l_114, l_115, l_116, l_117, l_118, l_119, l_120, l_122, l_168, l_200, l_320, l_360, l_528, l_548, l_1000, l_1023, l_2000, l_3000, l_1000000, qadd, qmul, qsub, qdiv, qcl, qinT, qchT, qleT, qleF, qltT, qltF, qeqT, qeqF, qneg_ne, bo0, bo1, qneg_ne', qneg_lt, mI_eq, mD_eq, mL_eq, mR_eq, mI_at, mD_at, mL_at, mI_ne, mD_ne, mL_ne, mR_ne, not_false_eq_true, not_true_eq_false, or_true, true_or, or_false, false_or, or_self, false_and, and_false, eq_self, mI_sL, mI_sD, mI_sR, mI_tk, mL_sI, mL_sD, mL_sR, mL_tk, mD_sI, mD_sL, mD_sR, mD_tk, mR_sI, mR_sL, mR_sD, mR_tk, mT_sI, mT_sL, mT_sD, mT_sR, mT_tk, mK_sI, mK_sL, mK_sD, mK_sR, mK_tk, mN_sI, mN_sL, mN_sD, mN_sR, mN_tk, nx_sI, nx_sL, nx_sD, nx_sR, uC_sI, uC_sL, uC_sD, uC_sR, uS_sI, uS_sL, uS_sD, uS_sR, nx_tk, uC_tk, uS_tk]
    exact this
theorem hN_le {S : Mem} {d nf f : Nat} (h : WA S d nf) (hf : f ≤ d) : hN S f ≤ 8 := by
  obtain ⟨x, h1, h2⟩ := (h.2.2 f hf).2.2
  rw [hN_e (S := S) h2 (by omega)]; omega
/-- one place changes -/
theorem rfp_one {M M2 S F : Mem} {b d q i h h0 v v2 : Nat} {φ φ2 : Nat → Nat} (hL : RFP M S b d φ v) (hP : PEf S F d q i h) (h8 : h ≤ 8) (hh : mI S 111 d = nI h0) (h08 : h0 ≤ 8) (hd : d < 12) (hH : ∀ f, f ≤ d → hN S f ≤ 8) (hv : v ≤ v2) (hφ : ∀ u, u < v → φ2 u = φ u) (hM : ∀ j, j ≠ q → j < 168 → mI M2 23 j = mI M 23 j) (hold : ∀ j, j < 6 + h → 14 * d + j ≠ q → j < 6 + h0) (hnew : q < 168 → ∃ u, u < v2 ∧ mI F 108 q = nI u ∧ mI M2 23 q = nI (φ2 u)) : RFP M2 F b d φ2 v2 := by
  obtain ⟨a1, a2, a3, a4, a5, a6⟩ := hP
  intro f hbf hfd j hj
  have hj8 : j < 6 + 8 := by
    by_cases ef : f = d
    · subst ef
      rw [hN_e (S := S) a5 h8] at hj
      omega
    · have := hH f hfd
      unfold hN at hj this
      rw [(a3 f ef).2] at hj
      omega
  by_cases e : 14 * f + j = q
  · rw [e]; exact hnew (by omega)
  · have hold2 : j < 6 + hN S f := by
      by_cases ef : f = d
      · subst ef
        rw [hN_e (S := S) a5 h8] at hj
        rw [hN_e (S := S) hh h08]
        exact hold j hj e
      · unfold hN at hj ⊢
        rw [(a3 f ef).2] at hj
        exact hj
    obtain ⟨u, u1, u2, u3⟩ := hL f hbf hfd j hold2
    refine ⟨u, by omega, (a6 _ e).2.2.2.trans u2, ?_⟩
    rw [hφ u u1, hM _ e (by omega)]
    exact u3
/-- a call -/
theorem rfp_cl {M M2 S F : Mem} {b d t i g m v v2 : Nat} {φ φ2 : Nat → Nat} (hL : RFP M S b d φ v) (hP : CL S F d t i g m) (hm : m ≤ 3) (hh : mI S 111 d = nI (t + m)) (h8 : t + m ≤ 8) (hH : ∀ f, f ≤ d → hN S f ≤ 8) (hbd : b ≤ d) (hv : v ≤ v2) (hφ : ∀ u, u < v → φ2 u = φ u) (hM1 : ∀ k, k < m → mI M2 23 (14 * (d + 1) + k) = mI M 23 (14 * d + 6 + t + k)) (hM2 : ∀ j, j < 14 * (d + 1) → mI M2 23 j = mI M 23 j) (hnew : ∀ k, m ≤ k → k < 6 → ∃ u, u < v2 ∧ mI F 108 (14 * (d + 1) + k) = nI u ∧ mI M2 23 (14 * (d + 1) + k) = nI (φ2 u)) : RFP M2 F b (d + 1) φ2 v2 := by
  obtain ⟨a1, a2, a3, a4, a5, a6, a7, a8, a9, a10, a11, a12⟩ := hP
  intro f hbf hfd j hj
  by_cases ef : f = d + 1
  · subst ef
    rw [hN_e (S := S) a8 (by omega)] at hj
    by_cases e : j < m
    · obtain ⟨u, u1, u2, u3⟩ := hL d hbd (Nat.le_refl _) (6 + t + j) (by rw [hN_e (S := S) hh h8]; omega)
      rw [show 14 * d + (6 + t + j) = 14 * d + 6 + t + j by omega] at u2 u3
      refine ⟨u, by omega, (a10 j e).2.2.2.trans u2, ?_⟩
      rw [hφ u u1, hM1 j e]
      exact u3
    · exact hnew j (by omega) (by omega)
  · have h9 : j < 6 + hN S f := by
      by_cases ed : f = d
      · subst ed
        rw [hN_e (S := S) a6 (by omega)] at hj
        rw [hN_e (S := S) hh h8]
        omega
      · unfold hN at hj ⊢
        rw [(a4 f ed ef).2] at hj
        exact hj
    have := hH f (by omega)
    obtain ⟨u, u1, u2, u3⟩ := hL f hbf (by omega) j h9
    refine ⟨u, by omega, (a9 _ (by omega)).2.2.2.trans u2, ?_⟩
    rw [hφ u u1, hM2 _ (by omega)]
    exact u3
/-- a return -/
theorem rfp_rt {M M2 S F : Mem} {b c t u0 v : Nat} {φ : Nat → Nat} (hL : RFP M S b (c + 1) φ v) (hP : RTn S F c t u0) (hh : mI S 111 (c + 1) = nI (t + 1)) (ht : t < 8) (hu : mI S 111 c = nI u0) (hu8 : u0 < 8) (hc : c + 1 < 12) (hH : ∀ f, f ≤ c + 1 → hN S f ≤ 8) (hbc : b ≤ c + 1) (hM : CPf M M2 (14 * (c + 1) + 6 + t) (14 * c + 6 + u0)) : RFP M2 F b c φ v := by
  obtain ⟨a1, a2, a3, a4, a5, a6, a7, a8⟩ := hP
  intro f hbf hfd j hj
  have hj8 : j < 14 := by
    by_cases ef : f = c
    · subst ef
      rw [hN_e (S := S) a4 (by omega)] at hj
      omega
    · have := hH f (by omega)
      unfold hN at hj this
      rw [a3 f ef] at hj
      omega
  by_cases e : 14 * f + j = 14 * c + 6 + u0
  · rw [e]
    obtain ⟨u, u1, u2, u3⟩ := hL (c + 1) hbc (Nat.le_refl _) (6 + t) (by rw [hN_e (S := S) hh (by omega)]; omega)
    rw [← Nat.add_assoc] at u2 u3
    exact ⟨u, u1, a6.2.2.2.trans u2, hM.1.trans u3⟩
  · have h9 : j < 6 + hN S f := by
      by_cases ed : f = c
      · subst ed
        rw [hN_e (S := S) a4 (by omega)] at hj
        rw [hN_e (S := S) hu (by omega)]
        omega
      · unfold hN at hj ⊢
        rw [a3 f ed] at hj
        exact hj
    obtain ⟨u, u1, u2, u3⟩ := hL f hbf (by omega) j h9
    exact ⟨u, u1, (a5 _ e).2.2.2.trans u2, (hM.2 _ e (by omega)).trans u3⟩
/-- the facts of a new frame's other locals -/
def gfF (M : Mem) (q m fc : Nat) : Nat → Mem
  | 0 => M
  | k + 1 => if k < m then gfF M q m fc k else gfM (gfF M q m fc k) (q + k) (fc + (k - m)) (nI 3)
theorem gfF_n {M : Mem} {q m fc a j : Nat} (h : a ≠ 23 ∧ a ≠ 55 ∧ (a ≠ 48 ∨ j ≠ 9)) : ∀ k, mI (gfF M q m fc k) a j = mI M a j
  | 0 => rfl
  | k + 1 => by
    unfold gfF
    split
    · exact gfF_n h k
    · unfold gfM
      rw [mI_ne (by omega), mI_ne (by omega), mI_ne (by omega)]
      exact gfF_n h k
theorem gfF_D {M : Mem} {q m fc a j : Nat} : ∀ k, mD (gfF M q m fc k) a j = mD M a j ∧ mL (gfF M q m fc k) a j = mL M a j
  | 0 => ⟨rfl, rfl⟩
  | k + 1 => by
    unfold gfF
    split
    · exact gfF_D k
    · exact gfF_D k
theorem gfF_t {M : Mem} {q m fc : Nat} : ∀ k, (gfF M q m fc k).2.2.2 = M.2.2.2
  | 0 => rfl
  | k + 1 => by
    unfold gfF
    split
    · exact gfF_t k
    · exact gfF_t k
theorem gfF_9 {M : Mem} {q m fc : Nat} (h : mI M 48 9 = nI fc) : ∀ k, mI (gfF M q m fc k) 48 9 = nI (fc + (k - m))
  | 0 => by rw [show 0 - m = 0 by omega]; exact h
  | k + 1 => by
    unfold gfF
    split
    · rw [show k + 1 - m = k - m by omega]; exact gfF_9 h k
    · unfold gfM; rw [mI_eq]; exact nI_c (by omega)
theorem gfF_lo {M : Mem} {q m fc j : Nat} : ∀ k, (j < q + m ∨ q + k ≤ j) → mI (gfF M q m fc k) 23 j = mI M 23 j
  | 0, _ => rfl
  | k + 1, h => by
    unfold gfF
    split
    · exact gfF_lo k (by omega)
    · unfold gfM
      rw [mI_ne (by omega), mI_ne (by omega), mI_ne (by omega)]
      exact gfF_lo k (by omega)
theorem gfF_at {M : Mem} {q m fc : Nat} : ∀ k i, m ≤ i → i < k → mI (gfF M q m fc k) 23 (q + i) = nI (fc + (i - m))
  | 0, i, _, h => absurd h (by omega)
  | k + 1, i, h1, h2 => by
    unfold gfF
    rw [if_neg (by omega)]
    by_cases e : i = k
    · subst e; unfold gfM; rw [mI_ne (by omega), mI_ne (by omega), mI_eq]
    · unfold gfM
      rw [mI_ne (by omega), mI_ne (by omega), mI_ne (by omega)]
      exact gfF_at k i h1 (by omega)
theorem nb_loop {M : Mem} {d m fc : Nat} (hd : d < 12) (h9 : mI M 48 9 = nI fc) (hf : fc + 6 < 378) : ∀ (j k N : Nat), 6 = k + j → m ≤ k → j < N → d_X6_noteBehind_62 (nI d) N (nI k) (gfF M (14 * d) m fc k) = some ((), gfF M (14 * d) m fc 6) := by
  intro j
  induction j with
  | zero =>
    intro k N hk hm hN
    obtain ⟨n, rfl, hn⟩ := ex_pred hN
    obtain rfl : k = 6 := by omega
    rw [st_X6_noteBehind_62]
    unfold d_X6_noteBehind_62b
    simp (disch := first | omega | (simp (disch := omega) only [← Nat.add_assoc, Nat.add_sub_cancel, Nat.sub_zero, as21, as31, as32, and_self, and_true, true_and, l_0, l_1, l_2, l_3, l_4, l_5, l_6, l_7, l_8, l_9, l_10, l_11, l_12, l_13, l_14, l_15, l_16, l_17, l_18, l_19, l_20, l_21, l_22, l_23, l_24, l_25, l_26, l_27, l_28, l_29, l_30, l_31, l_32, l_33, l_34, l_35, l_36, l_37, l_38, l_39, l_40, l_41, l_42, l_43, l_44, l_45, l_47, l_48, l_50, l_52, l_60, l_61, l_63, l_80, l_99, l_100, l_101, l_102, l_103, l_105, l_106, l_107, l_108, l_109, l_110, l_111, l_112, l_114, l_115, l_116, l_117, l_118, l_119, l_120, l_122, l_168, l_200, l_320, l_360, l_528, l_548, l_1000, l_1023, l_2000, l_3000, l_1000000, qadd, qmul, qsub, qdiv, qcl, qinT, qchT, qleT, qleF, qltT, qltF, qeqT, qeqF, qneg_ne, bo0, bo1, qneg_ne', qneg_lt, mI_eq, mD_eq, mL_eq, mR_eq, mI_at, mD_at, mL_at, mI_ne, mD_ne, mL_ne, mR_ne, not_false_eq_true, not_true_eq_false, or_true, true_or, or_false, false_or, or_self, false_and, and_false, eq_self, mI_sL, mI_sD, mI_sR, mI_tk, mL_sI, mL_sD, mL_sR, mL_tk, mD_sI, mD_sL, mD_sR, mD_tk, mR_sI, mR_sL, mR_sD, mR_tk, mT_sI, mT_sL, mT_sD, mT_sR, mT_tk, mK_sI, mK_sL, mK_sD, mK_sR, mK_tk, mN_sI, mN_sL, mN_sD, mN_sR, mN_tk, nx_sI, nx_sL, nx_sD, nx_sR, uC_sI, uC_sL, uC_sD, uC_sR, uS_sI, uS_sL, uS_sD, uS_sR, nx_tk, uC_tk, uS_tk]; done) | fail) only [↓okk_pos, ↓okk_T, ↓bnd_eq, ↓obind, ↓bind_okk, ↓bind_bnd, ↓bind_ite, ↓bind_bind, ↓reduceIte, ← Nat.add_assoc, Nat.add_sub_cancel, Nat.sub_zero, as21, as31, as32, and_self, and_true, true_and, l_0, l_1, l_2, l_3, l_4, l_5, l_6, l_7, l_8, l_9, l_10, l_11, l_12, l_13, l_14, l_15, l_16, l_17, l_18, l_19, l_20, l_21, l_22, l_23, l_24, l_25, l_26, l_27, l_28, l_29, l_30, l_31, l_32, l_33, l_34, l_35, l_36, l_37, l_38, l_39, l_40, l_41, l_42, l_43, l_44, l_45, l_47, l_48, l_50, l_52, l_60, l_61, l_63, l_80, l_99, l_100, l_101, l_102, l_103, l_105, l_106, l_107, l_108, l_109, l_110, l_111, l_112, l_114, l_115, l_116, l_117, l_118, l_119, l_120, l_122, l_168, l_200, l_320, l_360, l_528, l_548, l_1000, l_1023, l_2000, l_3000, l_1000000, qadd, qmul, qsub, qdiv, qcl, qinT, qchT, qleT, qleF, qltT, qltF, qeqT, qeqF, qneg_ne, bo0, bo1, qneg_ne', qneg_lt, mI_eq, mD_eq, mL_eq, mR_eq, mI_at, mD_at, mL_at, mI_ne, mD_ne, mL_ne, mR_ne, not_false_eq_true, not_true_eq_false, or_true, true_or, or_false, false_or, or_self, false_and, and_false, eq_self, mI_sL, mI_sD, mI_sR, mI_tk, mL_sI, mL_sD, mL_sR, mL_tk, mD_sI, mD_sL, mD_sR, mD_tk, mR_sI, mR_sL, mR_sD, mR_tk, mT_sI, mT_sL, mT_sD, mT_sR, mT_tk, mK_sI, mK_sL, mK_sD, mK_sR, mK_tk, mN_sI, mN_sL, mN_sD, mN_sR, mN_tk, nx_sI, nx_sL, nx_sD, nx_sR, uC_sI, uC_sL, uC_sD, uC_sR, uS_sI, uS_sL, uS_sD, uS_sR, nx_tk, uC_tk, uS_tk]
  | succ j ih =>
    intro k N hk hm hN
    obtain ⟨n, rfl, hn⟩ := ex_pred hN
    have i1 := ih (k + 1) n (by omega) (by omega) (by omega)
    have e0 : d_X11_localPlace (nI d) (nI k) (gfF M (14 * d) m fc k) = some (nI (14 * d + k), gfF M (14 * d) m fc k) := by
      unfold d_X11_localPlace
      simp (disch := first | omega | (simp (disch := omega) only [← Nat.add_assoc, Nat.add_sub_cancel, Nat.sub_zero, as21, as31, as32, and_self, and_true, true_and, l_0, l_1, l_2, l_3, l_4, l_5, l_6, l_7, l_8, l_9, l_10, l_11, l_12, l_13, l_14, l_15, l_16, l_17, l_18, l_19, l_20, l_21, l_22, l_23, l_24, l_25, l_26, l_27, l_28, l_29, l_30, l_31, l_32, l_33, l_34, l_35, l_36, l_37, l_38, l_39, l_40, l_41, l_42, l_43, l_44, l_45, l_47, l_48, l_50, l_52, l_60, l_61, l_63, l_80, l_99, l_100, l_101, l_102, l_103, l_105, l_106, l_107, l_108, l_109, l_110, l_111, l_112, l_114, l_115, l_116, l_117, l_118, l_119, l_120, l_122, l_168, l_200, l_320, l_360, l_528, l_548, l_1000, l_1023, l_2000, l_3000, l_1000000, qadd, qmul, qsub, qdiv, qcl, qinT, qchT, qleT, qleF, qltT, qltF, qeqT, qeqF, qneg_ne, bo0, bo1, qneg_ne', qneg_lt, mI_eq, mD_eq, mL_eq, mR_eq, mI_at, mD_at, mL_at, mI_ne, mD_ne, mL_ne, mR_ne, not_false_eq_true, not_true_eq_false, or_true, true_or, or_false, false_or, or_self, false_and, and_false, eq_self, mI_sL, mI_sD, mI_sR, mI_tk, mL_sI, mL_sD, mL_sR, mL_tk, mD_sI, mD_sL, mD_sR, mD_tk, mR_sI, mR_sL, mR_sD, mR_tk, mT_sI, mT_sL, mT_sD, mT_sR, mT_tk, mK_sI, mK_sL, mK_sD, mK_sR, mK_tk, mN_sI, mN_sL, mN_sD, mN_sR, mN_tk, nx_sI, nx_sL, nx_sD, nx_sR, uC_sI, uC_sL, uC_sD, uC_sR, uS_sI, uS_sL, uS_sD, uS_sR, nx_tk, uC_tk, uS_tk]; done) | fail) only [↓okk_pos, ↓okk_T, ↓bnd_eq, ↓obind, ↓bind_okk, ↓bind_bnd, ↓bind_ite, ↓bind_bind, ↓reduceIte, ← Nat.add_assoc, Nat.add_sub_cancel, Nat.sub_zero, as21, as31, as32, and_self, and_true, true_and, l_0, l_1, l_2, l_3, l_4, l_5, l_6, l_7, l_8, l_9, l_10, l_11, l_12, l_13, l_14, l_15, l_16, l_17, l_18, l_19, l_20, l_21, l_22, l_23, l_24, l_25, l_26, l_27, l_28, l_29, l_30, l_31, l_32, l_33, l_34, l_35, l_36, l_37, l_38, l_39, l_40, l_41, l_42, l_43, l_44, l_45, l_47, l_48, l_50, l_52, l_60, l_61, l_63, l_80, l_99, l_100, l_101, l_102, l_103, l_105, l_106, l_107, l_108, l_109, l_110, l_111, l_112, l_114, l_115, l_116, l_117, l_118, l_119, l_120, l_122, l_168, l_200, l_320, l_360, l_528, l_548, l_1000, l_1023, l_2000, l_3000, l_1000000, qadd, qmul, qsub, qdiv, qcl, qinT, qchT, qleT, qleF, qltT, qltF, qeqT, qeqF, qneg_ne, bo0, bo1, qneg_ne', qneg_lt, mI_eq, mD_eq, mL_eq, mR_eq, mI_at, mD_at, mL_at, mI_ne, mD_ne, mL_ne, mR_ne, not_false_eq_true, not_true_eq_false, or_true, true_or, or_false, false_or, or_self, false_and, and_false, eq_self, mI_sL, mI_sD, mI_sR, mI_tk, mL_sI, mL_sD, mL_sR, mL_tk, mD_sI, mD_sL, mD_sR, mD_tk, mR_sI, mR_sL, mR_sD, mR_tk, mT_sI, mT_sL, mT_sD, mT_sR, mT_tk, mK_sI, mK_sL, mK_sD, mK_sR, mK_tk, mN_sI, mN_sL, mN_sD, mN_sR, mN_tk, nx_sI, nx_sL, nx_sD, nx_sR, uC_sI, uC_sL, uC_sD, uC_sR, uS_sI, uS_sL, uS_sD, uS_sR, nx_tk, uC_tk, uS_tk]
      try rw [Nat.mul_comm d 14]
    have e1 := k_give (M := gfF M (14 * d) m fc k) (p := 14 * d + k) (m := nI 3) (by omega) (gfF_9 h9 k) (by omega)
    have e2 : gfM (gfF M (14 * d) m fc k) (14 * d + k) (fc + (k - m)) (nI 3) = gfF M (14 * d) m fc (k + 1) := by
      show _ = ite _ _ _
      rw [if_neg (by omega)]
    rw [e2] at e1
    rw [st_X6_noteBehind_62]
    unfold d_X6_noteBehind_62b
    simp (disch := first | omega | (simp (disch := omega) only [← Nat.add_assoc, Nat.add_sub_cancel, Nat.sub_zero, as21, as31, as32, and_self, and_true, true_and, l_0, l_1, l_2, l_3, l_4, l_5, l_6, l_7, l_8, l_9, l_10, l_11, l_12, l_13, l_14, l_15, l_16, l_17, l_18, l_19, l_20, l_21, l_22, l_23, l_24, l_25, l_26, l_27, l_28, l_29, l_30, l_31, l_32, l_33, l_34, l_35, l_36, l_37, l_38, l_39, l_40, l_41, l_42, l_43, l_44, l_45, l_47, l_48, l_50, l_52, l_60, l_61, l_63, l_80, l_99, l_100, l_101, l_102, l_103, l_105, l_106, l_107, l_108, l_109, l_110, l_111, l_112, l_114, l_115, l_116, l_117, l_118, l_119, l_120, l_122, l_168, l_200, l_320, l_360, l_528, l_548, l_1000, l_1023, l_2000, l_3000, l_1000000, qadd, qmul, qsub, qdiv, qcl, qinT, qchT, qleT, qleF, qltT, qltF, qeqT, qeqF, qneg_ne, bo0, bo1, qneg_ne', qneg_lt, mI_eq, mD_eq, mL_eq, mR_eq, mI_at, mD_at, mL_at, mI_ne, mD_ne, mL_ne, mR_ne, not_false_eq_true, not_true_eq_false, or_true, true_or, or_false, false_or, or_self, false_and, and_false, eq_self, mI_sL, mI_sD, mI_sR, mI_tk, mL_sI, mL_sD, mL_sR, mL_tk, mD_sI, mD_sL, mD_sR, mD_tk, mR_sI, mR_sL, mR_sD, mR_tk, mT_sI, mT_sL, mT_sD, mT_sR, mT_tk, mK_sI, mK_sL, mK_sD, mK_sR, mK_tk, mN_sI, mN_sL, mN_sD, mN_sR, mN_tk, nx_sI, nx_sL, nx_sD, nx_sR, uC_sI, uC_sL, uC_sD, uC_sR, uS_sI, uS_sL, uS_sD, uS_sR, nx_tk, uC_tk, uS_tk, e0, e1, i1]; done) | fail) only [↓okk_pos, ↓okk_T, ↓bnd_eq, ↓obind, ↓bind_okk, ↓bind_bnd, ↓bind_ite, ↓bind_bind, ↓reduceIte, ← Nat.add_assoc, Nat.add_sub_cancel, Nat.sub_zero, as21, as31, as32, and_self, and_true, true_and, l_0, l_1, l_2, l_3, l_4, l_5, l_6, l_7, l_8, l_9, l_10, l_11, l_12, l_13, l_14, l_15, l_16, l_17, l_18, l_19, l_20, l_21, l_22, l_23, l_24, l_25, l_26, l_27, l_28, l_29, l_30, l_31, l_32, l_33, l_34, l_35, l_36, l_37, l_38, l_39, l_40, l_41, l_42, l_43, l_44, l_45, l_47, l_48, l_50, l_52, l_60, l_61, l_63, l_80, l_99, l_100, l_101, l_102, l_103, l_105, l_106, l_107, l_108, l_109, l_110, l_111, l_112, l_114, l_115, l_116, l_117, l_118, l_119, l_120, l_122, l_168, l_200, l_320, l_360, l_528, l_548, l_1000, l_1023, l_2000, l_3000, l_1000000, qadd, qmul, qsub, qdiv, qcl, qinT, qchT, qleT, qleF, qltT, qltF, qeqT, qeqF, qneg_ne, bo0, bo1, qneg_ne', qneg_lt, mI_eq, mD_eq, mL_eq, mR_eq, mI_at, mD_at, mL_at, mI_ne, mD_ne, mL_ne, mR_ne, not_false_eq_true, not_true_eq_false, or_true, true_or, or_false, false_or, or_self, false_and, and_false, eq_self, mI_sL, mI_sD, mI_sR, mI_tk, mL_sI, mL_sD, mL_sR, mL_tk, mD_sI, mD_sL, mD_sR, mD_tk, mR_sI, mR_sL, mR_sD, mR_tk, mT_sI, mT_sL, mT_sD, mT_sR, mT_tk, mK_sI, mK_sL, mK_sD, mK_sR, mK_tk, mN_sI, mN_sL, mN_sD, mN_sR, mN_tk, nx_sI, nx_sL, nx_sD, nx_sR, uC_sI, uC_sL, uC_sD, uC_sR, uS_sI, uS_sL, uS_sD, uS_sR, nx_tk, uC_tk, uS_tk, e0, e1, i1]
end MH3
