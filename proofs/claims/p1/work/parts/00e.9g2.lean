/-! ===== a recording begins: what it knows ===== -/
section ML2
/-- the frames above the bases are alike -/
def FRS (S T : Mem) (bS bR n : Nat) : Prop := ∀ j, j ≤ n → mI S 109 (bS + j) = mI T 109 (bR + j) ∧ mI S 110 (bS + j) = mI T 110 (bR + j) ∧ (1 ≤ j → hN S (bS + j) = hN T (bR + j))
theorem FRS.symm {S T : Mem} {bS bR n : Nat} (h : FRS S T bS bR n) : FRS T S bR bS n := fun j hj => ⟨(h j hj).1.symm, (h j hj).2.1.symm, fun k => ((h j hj).2.2 k).symm⟩
theorem FRS.trans {A B C : Mem} {bA bB bC n : Nat} (h : FRS A B bA bB n) (k : FRS B C bB bC n) : FRS A C bA bC n := fun j hj => ⟨(h j hj).1.trans (k j hj).1, (h j hj).2.1.trans (k j hj).2.1, fun q => ((h j hj).2.2 q).trans ((k j hj).2.2 q)⟩
theorem Sat.frs {S R : Mem} {bS bR n oS oR v : Nat} {eS eR : Nat → Nat} {val rval : Nat → Vl} (h : Sat S R bS bR n eS eR oS oR v val rval) : FRS S R bS bR n := fun j hj => by
  obtain ⟨⟨f1, f2, f3, f4⟩, -⟩ := h
  obtain ⟨g1, g2, g3, g4, g5⟩ := f4 j hj
  exact ⟨g1, g2, fun q => by have := f3 j q; omega⟩
theorem sat0 {S T R0 : Mem} {bS bR n v obS nsS ncS nfS obR nsR ncR nfR : Nat} {φ : Nat → Nat} (hI : INVR R0 T bR (bR + n + 1) 0 v φ) (hT : ∀ f, mI R0 111 f = mI T 111 f) (hWS : WW S (bS + n) obS nsS ncS nfS) (hWT : WW T (bR + n) obR nsR ncR nfR) (hF : FRS S T bS bR n) (oS oR : Nat) : ∃ eS eR val rval, Sat S T bS bR n eS eR oS oR v val rval := by
  obtain ⟨i1, i2, i3, i4, i5, i6, i7⟩ := hI
  refine ⟨fun j => if j = 0 then hN S bS else 0, fun j => if j = 0 then hN T bR else 0, fun u => vS S (if φ u / 14 = bR ∧ 6 ≤ φ u % 14 then 14 * bS + (φ u % 14 + hN S bS - hN T bR) else 14 * (φ u / 14 - bR + bS) + φ u % 14), fun u => vS T (φ u), ⟨hWS.1.1, hWT.1.1, fun j hj => ?_, fun j hj => ?_⟩, i4, fun j k l hj hc => ?_, fun u hu => ?_⟩
  · show ite _ _ _ = ite _ _ _
    rw [if_neg (by omega), if_neg (by omega)]
  · obtain ⟨h1, h2, h3⟩ := hF j hj
    have a1 := hN_le hWS.1 (f := bS + j) (by omega)
    have a2 := hN_le hWT.1 (f := bR + j) (by omega)
    refine ⟨h1, h2, ?_, a1, a2⟩
    show hN S (bS + j) + ite _ _ _ = hN T (bR + j) + ite _ _ _
    by_cases e : j = 0
    · subst e; rw [if_pos rfl, if_pos rfl]; simp only [Nat.add_zero]; omega
    · rw [if_neg e, if_neg e, h3 (by omega)]
  · have a1 := hN_le hWS.1 (f := bS + j) (by omega)
    have a2 := hN_le hWT.1 (f := bR + j) (by omega)
    have eN : hN R0 (bR + j) = hN T (bR + j) := by unfold hN; rw [hT]
    have hc2 : (k < 6 ∧ l = k) ∨ (6 ≤ k ∧ 6 ≤ l ∧ k < 6 + hN T (bR + j) ∧ l < 6 + hN S (bS + j) ∧ l + (if j = 0 then hN T bR else 0) = k + (if j = 0 then hN S bS else 0)) := hc
    have hk14 : k < 14 := by omega
    obtain ⟨u, u1, u2⟩ := i7 (14 * (bR + j) + k) ⟨bR + j, k, by omega, by omega, rfl, .inl (by omega)⟩
    obtain ⟨-, b1, -⟩ := i6 u u1
    rw [u2] at b1
    refine ⟨u, u1, b1, ?_, ?_⟩
    · show vS S _ = vS S (ite _ _ _)
      rw [u2]
      congr 1
      have d1 : (14 * (bR + j) + k) / 14 = bR + j := by omega
      have d2 : (14 * (bR + j) + k) % 14 = k := by omega
      rw [d1, d2]
      by_cases e : j = 0
      · subst e
        rw [if_pos rfl, if_pos rfl] at hc2
        simp only [Nat.add_zero] at *
        by_cases e2 : 6 ≤ k
        · rw [if_pos ⟨trivial, e2⟩]; omega
        · rw [if_neg (fun q => e2 q.2)]; omega
      · rw [if_neg e, if_neg e] at hc2
        rw [if_neg (by omega)]
        omega
    · show vS T _ = vS T (φ u)
      rw [u2]
  · obtain ⟨-, -, k1, k2, k3, k4⟩ := i6 u hu
    exact Kn_none k1 k2 k3 k4
/-- the class's recorder begins -/
def bfF (M : Mem) : Nat → Mem
  | 0 => M
  | k + 1 => sI (sI (bfF M k) 23 k (nI k)) 55 k (nI 0)
theorem bfF_n {M : Mem} {a j : Nat} (h : a ≠ 23 ∧ a ≠ 55) : ∀ k, mI (bfF M k) a j = mI M a j
  | 0 => rfl
  | k + 1 => by unfold bfF; rw [mI_ne (by omega), mI_ne (by omega)]; exact bfF_n h k
theorem bfF_lo {M : Mem} {j : Nat} : ∀ k, j < k → mI (bfF M k) 23 j = nI j ∧ mI (bfF M k) 55 j = nI 0
  | 0, h => absurd h (by omega)
  | k + 1, h => by
    unfold bfF
    by_cases e : j = k
    · subst e; exact ⟨by rw [mI_ne (by omega), mI_eq], mI_eq _ _ _ _⟩
    · rw [mI_ne (by omega), mI_ne (by omega), mI_ne (by omega), mI_ne (by omega)]
      exact bfF_lo k (by omega)
theorem bfF_D {M : Mem} {a j : Nat} : ∀ k, mD (bfF M k) a j = mD M a j ∧ mL (bfF M k) a j = mL M a j ∧ (bfF M k).2.2.2 = M.2.2.2
  | 0 => ⟨rfl, rfl, rfl⟩
  | k + 1 => bfF_D k
theorem bf_loop {M : Mem} : ∀ (j k N : Nat), 168 = k + j → j < N → d_X6_begin_28 N (nI k) (bfF M k) = some ((), sI (bfF M 168) 48 9 (nI 168)) := by
  intro j
  induction j with
  | zero =>
    intro k N hk hN
    obtain ⟨n, rfl, hn⟩ := ex_pred hN
    obtain rfl : k = 168 := by omega
    rw [st_X6_begin_28]
    unfold d_X6_begin_28b
    simp (disch := first | omega | (simp (disch := omega) only [← Nat.add_assoc, Nat.add_sub_cancel, Nat.sub_zero, as21, as31, as32, and_self, and_true, true_and, l_0, l_1, l_2, l_3, l_4, l_5, l_6, l_7, l_8, l_9, l_10, l_11, l_12, l_13, l_14, l_15, l_16, l_17, l_18, l_19, l_20, l_21, l_22, l_23, l_24, l_25, l_26, l_27, l_28, l_29, l_30, l_31, l_32, l_33, l_34, l_35, l_36, l_37, l_38, l_39, l_40, l_41, l_42, l_43, l_44, l_45, l_47, l_48, l_50, l_52, l_60, l_61, l_63, l_80, l_99, l_100, l_101, l_102, l_103, l_105, l_106, l_107, l_108, l_109, l_110, l_111, l_112, l_114, l_115, l_116, l_117, l_118, l_119, l_120, l_122, l_168, l_200, l_320, l_360, l_528, l_548, l_1000, l_1023, l_2000, l_3000, l_1000000, qadd, qmul, qsub, qdiv, qcl, qinT, qchT, qleT, qleF, qltT, qltF, qeqT, qeqF, qneg_ne, bo0, bo1, qneg_ne', qneg_lt, mI_eq, mD_eq, mL_eq, mR_eq, mI_at, mD_at, mL_at, mI_ne, mD_ne, mL_ne, mR_ne, not_false_eq_true, not_true_eq_false, or_true, true_or, or_false, false_or, or_self, false_and, and_false, eq_self, mI_sL, mI_sD, mI_sR, mI_tk, mL_sI, mL_sD, mL_sR, mL_tk, mD_sI, mD_sL, mD_sR, mD_tk, mR_sI, mR_sL, mR_sD, mR_tk, mT_sI, mT_sL, mT_sD, mT_sR, mT_tk, mK_sI, mK_sL, mK_sD, mK_sR, mK_tk, mN_sI, mN_sL, mN_sD, mN_sR, mN_tk, nx_sI, nx_sL, nx_sD, nx_sR, uC_sI, uC_sL, uC_sD, uC_sR, uS_sI, uS_sL, uS_sD, uS_sR, nx_tk, uC_tk, uS_tk, l_168]; done) | fail) only [↓okk_pos, ↓okk_T, ↓bnd_eq, ↓obind, ↓bind_okk, ↓bind_bnd, ↓bind_ite, ↓bind_bind, ↓reduceIte, ← Nat.add_assoc, Nat.add_sub_cancel, Nat.sub_zero, as21, as31, as32, and_self, and_true, true_and, l_0, l_1, l_2, l_3, l_4, l_5, l_6, l_7, l_8, l_9, l_10, l_11, l_12, l_13, l_14, l_15, l_16, l_17, l_18, l_19, l_20, l_21, l_22, l_23, l_24, l_25, l_26, l_27, l_28, l_29, l_30, l_31, l_32, l_33, l_34, l_35, l_36, l_37, l_38, l_39, l_40, l_41, l_42, l_43, l_44, l_45, l_47, l_48, l_50, l_52, l_60, l_61, l_63, l_80, l_99, l_100, l_101, l_102, l_103, l_105, l_106, l_107, l_108, l_109, l_110, l_111, l_112, l_114, l_115, l_116, l_117, l_118, l_119, l_120, l_122, l_168, l_200, l_320, l_360, l_528, l_548, l_1000, l_1023, l_2000, l_3000, l_1000000, qadd, qmul, qsub, qdiv, qcl, qinT, qchT, qleT, qleF, qltT, qltF, qeqT, qeqF, qneg_ne, bo0, bo1, qneg_ne', qneg_lt, mI_eq, mD_eq, mL_eq, mR_eq, mI_at, mD_at, mL_at, mI_ne, mD_ne, mL_ne, mR_ne, not_false_eq_true, not_true_eq_false, or_true, true_or, or_false, false_or, or_self, false_and, and_false, eq_self, mI_sL, mI_sD, mI_sR, mI_tk, mL_sI, mL_sD, mL_sR, mL_tk, mD_sI, mD_sL, mD_sR, mD_tk, mR_sI, mR_sL, mR_sD, mR_tk, mT_sI, mT_sL, mT_sD, mT_sR, mT_tk, mK_sI, mK_sL, mK_sD, mK_sR, mK_tk, mN_sI, mN_sL, mN_sD, mN_sR, mN_tk, nx_sI, nx_sL, nx_sD, nx_sR, uC_sI, uC_sL, uC_sD, uC_sR, uS_sI, uS_sL, uS_sD, uS_sR, nx_tk, uC_tk, uS_tk, l_168]
  | succ j ih =>
    intro k N hk hN
    obtain ⟨n, rfl, hn⟩ := ex_pred hN
    have i1 := ih (k + 1) n (by omega) (by omega)
    have e2 : sI (sI (bfF M k) 23 k (nI k)) 55 k (nI 0) = bfF M (k + 1) := rfl
    rw [st_X6_begin_28]
    unfold d_X6_begin_28b
    simp (disch := first | omega | (simp (disch := omega) only [← Nat.add_assoc, Nat.add_sub_cancel, Nat.sub_zero, as21, as31, as32, and_self, and_true, true_and, l_0, l_1, l_2, l_3, l_4, l_5, l_6, l_7, l_8, l_9, l_10, l_11, l_12, l_13, l_14, l_15, l_16, l_17, l_18, l_19, l_20, l_21, l_22, l_23, l_24, l_25, l_26, l_27, l_28, l_29, l_30, l_31, l_32, l_33, l_34, l_35, l_36, l_37, l_38, l_39, l_40, l_41, l_42, l_43, l_44, l_45, l_47, l_48, l_50, l_52, l_60, l_61, l_63, l_80, l_99, l_100, l_101, l_102, l_103, l_105, l_106, l_107, l_108, l_109, l_110, l_111, l_112, l_114, l_115, l_116, l_117, l_118, l_119, l_120, l_122, l_168, l_200, l_320, l_360, l_528, l_548, l_1000, l_1023, l_2000, l_3000, l_1000000, qadd, qmul, qsub, qdiv, qcl, qinT, qchT, qleT, qleF, qltT, qltF, qeqT, qeqF, qneg_ne, bo0, bo1, qneg_ne', qneg_lt, mI_eq, mD_eq, mL_eq, mR_eq, mI_at, mD_at, mL_at, mI_ne, mD_ne, mL_ne, mR_ne, not_false_eq_true, not_true_eq_false, or_true, true_or, or_false, false_or, or_self, false_and, and_false, eq_self, mI_sL, mI_sD, mI_sR, mI_tk, mL_sI, mL_sD, mL_sR, mL_tk, mD_sI, mD_sL, mD_sR, mD_tk, mR_sI, mR_sL, mR_sD, mR_tk, mT_sI, mT_sL, mT_sD, mT_sR, mT_tk, mK_sI, mK_sL, mK_sD, mK_sR, mK_tk, mN_sI, mN_sL, mN_sD, mN_sR, mN_tk, nx_sI, nx_sL, nx_sD, nx_sR, uC_sI, uC_sL, uC_sD, uC_sR, uS_sI, uS_sL, uS_sD, uS_sR, nx_tk, uC_tk, uS_tk, e2, i1, l_168]; done) | fail) only [↓okk_pos, ↓okk_T, ↓bnd_eq, ↓obind, ↓bind_okk, ↓bind_bnd, ↓bind_ite, ↓bind_bind, ↓reduceIte, ← Nat.add_assoc, Nat.add_sub_cancel, Nat.sub_zero, as21, as31, as32, and_self, and_true, true_and, l_0, l_1, l_2, l_3, l_4, l_5, l_6, l_7, l_8, l_9, l_10, l_11, l_12, l_13, l_14, l_15, l_16, l_17, l_18, l_19, l_20, l_21, l_22, l_23, l_24, l_25, l_26, l_27, l_28, l_29, l_30, l_31, l_32, l_33, l_34, l_35, l_36, l_37, l_38, l_39, l_40, l_41, l_42, l_43, l_44, l_45, l_47, l_48, l_50, l_52, l_60, l_61, l_63, l_80, l_99, l_100, l_101, l_102, l_103, l_105, l_106, l_107, l_108, l_109, l_110, l_111, l_112, l_114, l_115, l_116, l_117, l_118, l_119, l_120, l_122, l_168, l_200, l_320, l_360, l_528, l_548, l_1000, l_1023, l_2000, l_3000, l_1000000, qadd, qmul, qsub, qdiv, qcl, qinT, qchT, qleT, qleF, qltT, qltF, qeqT, qeqF, qneg_ne, bo0, bo1, qneg_ne', qneg_lt, mI_eq, mD_eq, mL_eq, mR_eq, mI_at, mD_at, mL_at, mI_ne, mD_ne, mL_ne, mR_ne, not_false_eq_true, not_true_eq_false, or_true, true_or, or_false, false_or, or_self, false_and, and_false, eq_self, mI_sL, mI_sD, mI_sR, mI_tk, mL_sI, mL_sD, mL_sR, mL_tk, mD_sI, mD_sL, mD_sR, mD_tk, mR_sI, mR_sL, mR_sD, mR_tk, mT_sI, mT_sL, mT_sD, mT_sR, mT_tk, mK_sI, mK_sL, mK_sD, mK_sR, mK_tk, mN_sI, mN_sL, mN_sD, mN_sR, mN_tk, nx_sI, nx_sL, nx_sD, nx_sR, uC_sI, uC_sL, uC_sD, uC_sR, uS_sI, uS_sL, uS_sD, uS_sR, nx_tk, uC_tk, uS_tk, e2, i1, l_168]
def bgM (M : Mem) (x2 x3 : Int32) : Mem := sI (sI (sI (sI (sI M 48 10 (nI 1)) 48 11 x2) 48 12 x3) 48 7 (nI 0)) 48 8 (nI 0)
def bgT (M : Mem) (x2 x3 : Int32) : Mem := sI (bfF (bgM M x2 x3) 168) 48 9 (nI 168)
theorem k_begin (M : Mem) (x2 x3 : Int32) : d_X6_begin x2 x3 M = some ((), bgT M x2 x3) := by
  have e1 := bf_loop (M := bgM M x2 x3) 168 0 fuel (by omega) (by have := fuel_big; omega)
  have e0 : bfF (bgM M x2 x3) 0 = bgM M x2 x3 := rfl
  rw [e0] at e1
  unfold bgT
  unfold d_X6_begin
  unfold bgM at e1 ⊢
  simp (disch := first | omega | (simp (disch := omega) only [← Nat.add_assoc, Nat.add_sub_cancel, Nat.sub_zero, as21, as31, as32, and_self, and_true, true_and, l_0, l_1, l_2, l_3, l_4, l_5, l_6, l_7, l_8, l_9, l_10, l_11, l_12, l_13, l_14, l_15, l_16, l_17, l_18, l_19, l_20, l_21, l_22, l_23, l_24, l_25, l_26, l_27, l_28, l_29, l_30, l_31, l_32, l_33, l_34, l_35, l_36, l_37, l_38, l_39, l_40, l_41, l_42, l_43, l_44, l_45, l_47, l_48, l_50, l_52, l_60, l_61, l_63, l_80, l_99, l_100, l_101, l_102, l_103, l_105, l_106, l_107, l_108, l_109, l_110, l_111, l_112, l_114, l_115, l_116, l_117, l_118, l_119, l_120, l_122, l_168, l_200, l_320, l_360, l_528, l_548, l_1000, l_1023, l_2000, l_3000, l_1000000, qadd, qmul, qsub, qdiv, qcl, qinT, qchT, qleT, qleF, qltT, qltF, qeqT, qeqF, qneg_ne, bo0, bo1, qneg_ne', qneg_lt, mI_eq, mD_eq, mL_eq, mR_eq, mI_at, mD_at, mL_at, mI_ne, mD_ne, mL_ne, mR_ne, not_false_eq_true, not_true_eq_false, or_true, true_or, or_false, false_or, or_self, false_and, and_false, eq_self, mI_sL, mI_sD, mI_sR, mI_tk, mL_sI, mL_sD, mL_sR, mL_tk, mD_sI, mD_sL, mD_sR, mD_tk, mR_sI, mR_sL, mR_sD, mR_tk, mT_sI, mT_sL, mT_sD, mT_sR, mT_tk, mK_sI, mK_sL, mK_sD, mK_sR, mK_tk, mN_sI, mN_sL, mN_sD, mN_sR, mN_tk, nx_sI, nx_sL, nx_sD, nx_sR, uC_sI, uC_sL, uC_sD, uC_sR, uS_sI, uS_sL, uS_sD, uS_sR, nx_tk, uC_tk, uS_tk, e1]; done) | fail) only [↓okk_pos, ↓okk_T, ↓bnd_eq, ↓obind, ↓bind_okk, ↓bind_bnd, ↓bind_ite, ↓bind_bind, ↓reduceIte, ← Nat.add_assoc, Nat.add_sub_cancel, Nat.sub_zero, as21, as31, as32, and_self, and_true, true_and, l_0, l_1, l_2, l_3, l_4, l_5, l_6, l_7, l_8, l_9, l_10, l_11, l_12, l_13, l_14, l_15, l_16, l_17, l_18, l_19, l_20, l_21, l_22, l_23, l_24, l_25, l_26, l_27, l_28, l_29, l_30, l_31, l_32, l_33, l_34, l_35, l_36, l_37, l_38, l_39, l_40, l_41, l_42, l_43, l_44, l_45, l_47, l_48, l_50, l_52, l_60, l_61, l_63, l_80, l_99, l_100, l_101, l_102, l_103, l_105, l_106, l_107, l_108, l_109, l_110, l_111, l_112, l_114, l_115, l_116, l_117, l_118, l_119, l_120, l_122, l_168, l_200, l_320, l_360, l_528, l_548, l_1000, l_1023, l_2000, l_3000, l_1000000, qadd, qmul, qsub, qdiv, qcl, qinT, qchT, qleT, qleF, qltT, qltF, qeqT, qeqF, qneg_ne, bo0, bo1, qneg_ne', qneg_lt, mI_eq, mD_eq, mL_eq, mR_eq, mI_at, mD_at, mL_at, mI_ne, mD_ne, mL_ne, mR_ne, not_false_eq_true, not_true_eq_false, or_true, true_or, or_false, false_or, or_self, false_and, and_false, eq_self, mI_sL, mI_sD, mI_sR, mI_tk, mL_sI, mL_sD, mL_sR, mL_tk, mD_sI, mD_sL, mD_sR, mD_tk, mR_sI, mR_sL, mR_sD, mR_tk, mT_sI, mT_sL, mT_sD, mT_sR, mT_tk, mK_sI, mK_sL, mK_sD, mK_sR, mK_tk, mN_sI, mN_sL, mN_sD, mN_sR, mN_tk, nx_sI, nx_sL, nx_sD, nx_sR, uC_sI, uC_sL, uC_sD, uC_sR, uS_sI, uS_sL, uS_sD, uS_sR, nx_tk, uC_tk, uS_tk, e1]
theorem bgT_n {M : Mem} {x2 x3 : Int32} {a j : Nat} (h : a ≠ 23 ∧ a ≠ 55 ∧ (a ≠ 48 ∨ (j < 7 ∨ 12 < j))) : mI (bgT M x2 x3) a j = mI M a j := by
  unfold bgT
  rw [mI_ne (by omega), bfF_n ⟨h.1, h.2.1⟩]
  unfold bgM
  simp (disch := omega) only [← Nat.add_assoc, Nat.add_sub_cancel, Nat.sub_zero, as21, as31, as32, and_self, and_true, true_and, l_0, l_1, l_2, l_3, l_4, l_5, l_6, l_7, l_8, l_9, l_10, l_11, l_12, l_13, l_14, l_15, l_16, l_17, l_18, l_19, l_20, l_21, l_22, l_23, l_24, l_25, l_26, l_27, l_28, l_29, l_30, l_31, l_32, l_33, l_34, l_35, l_36, l_37, l_38, l_39, l_40, l_41, l_42, l_43, l_44, l_45, l_47, l_48, l_50, l_52, l_60, l_61, l_63, l_80, l_99, l_100, l_101, l_102, l_103, l_105, l_106, l_107, l_108, l_109, l_110, l_111, l_112, l_114, l_115, l_116, l_117, l_118, l_119, l_120, l_122, l_168, l_200, l_320, l_360, l_528, l_548, l_1000, l_1023, l_2000, l_3000, l_1000000, qadd, qmul, qsub, qdiv, qcl, qinT, qchT, qleT, qleF, qltT, qltF, qeqT, qeqF, qneg_ne, bo0, bo1, qneg_ne', qneg_lt, mI_eq, mD_eq, mL_eq, mR_eq, mI_at, mD_at, mL_at, mI_ne, mD_ne, mL_ne, mR_ne, not_false_eq_true, not_true_eq_false, or_true, true_or, or_false, false_or, or_self, false_and, and_false, eq_self, mI_sL, mI_sD, mI_sR, mI_tk, mL_sI, mL_sD, mL_sR, mL_tk, mD_sI, mD_sL, mD_sR, mD_tk, mR_sI, mR_sL, mR_sD, mR_tk, mT_sI, mT_sL, mT_sD, mT_sR, mT_tk, mK_sI, mK_sL, mK_sD, mK_sR, mK_tk, mN_sI, mN_sL, mN_sD, mN_sR, mN_tk, nx_sI, nx_sL, nx_sD, nx_sR, uC_sI, uC_sL, uC_sD, uC_sR, uS_sI, uS_sL, uS_sD, uS_sR, nx_tk, uC_tk, uS_tk]
theorem bgT_s {M : Mem} {x2 x3 : Int32} : mI (bgT M x2 x3) 48 7 = nI 0 ∧ mI (bgT M x2 x3) 48 8 = nI 0 ∧ mI (bgT M x2 x3) 48 9 = nI 168 ∧ mI (bgT M x2 x3) 48 10 = nI 1 ∧ mI (bgT M x2 x3) 48 11 = x2 ∧ mI (bgT M x2 x3) 48 12 = x3 ∧ ∀ p, p < 168 → mI (bgT M x2 x3) 23 p = nI p ∧ mI (bgT M x2 x3) 55 p = nI 0 := by
  unfold bgT
  refine ⟨?_, ?_, mI_eq _ _ _ _, ?_, ?_, ?_, fun p hp => ?_⟩
  · rw [mI_ne (by omega), bfF_n (by omega)]; unfold bgM; simp (disch := omega) only [← Nat.add_assoc, Nat.add_sub_cancel, Nat.sub_zero, as21, as31, as32, and_self, and_true, true_and, l_0, l_1, l_2, l_3, l_4, l_5, l_6, l_7, l_8, l_9, l_10, l_11, l_12, l_13, l_14, l_15, l_16, l_17, l_18, l_19, l_20, l_21, l_22, l_23, l_24, l_25, l_26, l_27, l_28, l_29, l_30, l_31, l_32, l_33, l_34, l_35, l_36, l_37, l_38, l_39, l_40, l_41, l_42, l_43, l_44, l_45, l_47, l_48, l_50, l_52, l_60, l_61, l_63, l_80, l_99, l_100, l_101, l_102, l_103, l_105, l_106, l_107, l_108, l_109, l_110, l_111, l_112, l_114, l_115, l_116, l_117, l_118, l_119, l_120, l_122, l_168, l_200, l_320, l_360, l_528, l_548, l_1000, l_1023, l_2000, l_3000, l_1000000, qadd, qmul, qsub, qdiv, qcl, qinT, qchT, qleT, qleF, qltT, qltF, qeqT, qeqF, qneg_ne, bo0, bo1, qneg_ne', qneg_lt, mI_eq, mD_eq, mL_eq, mR_eq, mI_at, mD_at, mL_at, mI_ne, mD_ne, mL_ne, mR_ne, not_false_eq_true, not_true_eq_false, or_true, true_or, or_false, false_or, or_self, false_and, and_false, eq_self, mI_sL, mI_sD, mI_sR, mI_tk, mL_sI, mL_sD, mL_sR, mL_tk, mD_sI, mD_sL, mD_sR, mD_tk, mR_sI, mR_sL, mR_sD, mR_tk, mT_sI, mT_sL, mT_sD, mT_sR, mT_tk, mK_sI, mK_sL, mK_sD, mK_sR, mK_tk, mN_sI, mN_sL, mN_sD, mN_sR, mN_tk, nx_sI, nx_sL, nx_sD, nx_sR, uC_sI, uC_sL, uC_sD, uC_sR, uS_sI, uS_sL, uS_sD, uS_sR, nx_tk, uC_tk, uS_tk]
  · rw [mI_ne (by omega), bfF_n (by omega)]; unfold bgM; simp (disch := omega) only [← Nat.add_assoc, Nat.add_sub_cancel, Nat.sub_zero, as21, as31, as32, and_self, and_true, true_and, l_0, l_1, l_2, l_3, l_4, l_5, l_6, l_7, l_8, l_9, l_10, l_11, l_12, l_13, l_14, l_15, l_16, l_17, l_18, l_19, l_20, l_21, l_22, l_23, l_24, l_25, l_26, l_27, l_28, l_29, l_30, l_31, l_32, l_33, l_34, l_35, l_36, l_37, l_38, l_39, l_40, l_41, l_42, l_43, l_44, l_45, l_47, l_48, l_50, l_52, l_60, l_61, l_63, l_80, l_99, l_100, l_101, l_102, l_103, l_105, l_106, l_107, l_108, l_109, l_110, l_111, l_112, l_114, l_115, l_116, l_117, l_118, l_119, l_120, l_122, l_168, l_200, l_320, l_360, l_528, l_548, l_1000, l_1023, l_2000, l_3000, l_1000000, qadd, qmul, qsub, qdiv, qcl, qinT, qchT, qleT, qleF, qltT, qltF, qeqT, qeqF, qneg_ne, bo0, bo1, qneg_ne', qneg_lt, mI_eq, mD_eq, mL_eq, mR_eq, mI_at, mD_at, mL_at, mI_ne, mD_ne, mL_ne, mR_ne, not_false_eq_true, not_true_eq_false, or_true, true_or, or_false, false_or, or_self, false_and, and_false, eq_self, mI_sL, mI_sD, mI_sR, mI_tk, mL_sI, mL_sD, mL_sR, mL_tk, mD_sI, mD_sL, mD_sR, mD_tk, mR_sI, mR_sL, mR_sD, mR_tk, mT_sI, mT_sL, mT_sD, mT_sR, mT_tk, mK_sI, mK_sL, mK_sD, mK_sR, mK_tk, mN_sI, mN_sL, mN_sD, mN_sR, mN_tk, nx_sI, nx_sL, nx_sD, nx_sR, uC_sI, uC_sL, uC_sD, uC_sR, uS_sI, uS_sL, uS_sD, uS_sR, nx_tk, uC_tk, uS_tk]
  · rw [mI_ne (by omega), bfF_n (by omega)]; unfold bgM; simp (disch := omega) only [← Nat.add_assoc, Nat.add_sub_cancel, Nat.sub_zero, as21, as31, as32, and_self, and_true, true_and, l_0, l_1, l_2, l_3, l_4, l_5, l_6, l_7, l_8, l_9, l_10, l_11, l_12, l_13, l_14, l_15, l_16, l_17, l_18, l_19, l_20, l_21, l_22, l_23, l_24, l_25, l_26, l_27, l_28, l_29, l_30, l_31, l_32, l_33, l_34, l_35, l_36, l_37, l_38, l_39, l_40, l_41, l_42, l_43, l_44, l_45, l_47, l_48, l_50, l_52, l_60, l_61, l_63, l_80, l_99, l_100, l_101, l_102, l_103, l_105, l_106, l_107, l_108, l_109, l_110, l_111, l_112, l_114, l_115, l_116, l_117, l_118, l_119, l_120, l_122, l_168, l_200, l_320, l_360, l_528, l_548, l_1000, l_1023, l_2000, l_3000, l_1000000, qadd, qmul, qsub, qdiv, qcl, qinT, qchT, qleT, qleF, qltT, qltF, qeqT, qeqF, qneg_ne, bo0, bo1, qneg_ne', qneg_lt, mI_eq, mD_eq, mL_eq, mR_eq, mI_at, mD_at, mL_at, mI_ne, mD_ne, mL_ne, mR_ne, not_false_eq_true, not_true_eq_false, or_true, true_or, or_false, false_or, or_self, false_and, and_false, eq_self, mI_sL, mI_sD, mI_sR, mI_tk, mL_sI, mL_sD, mL_sR, mL_tk, mD_sI, mD_sL, mD_sR, mD_tk, mR_sI, mR_sL, mR_sD, mR_tk, mT_sI, mT_sL, mT_sD, mT_sR, mT_tk, mK_sI, mK_sL, mK_sD, mK_sR, mK_tk, mN_sI, mN_sL, mN_sD, mN_sR, mN_tk, nx_sI, nx_sL, nx_sD, nx_sR, uC_sI, uC_sL, uC_sD, uC_sR, uS_sI, uS_sL, uS_sD, uS_sR, nx_tk, uC_tk, uS_tk]
  · rw [mI_ne (by omega), bfF_n (by omega)]; unfold bgM; simp (disch := omega) only [← Nat.add_assoc, Nat.add_sub_cancel, Nat.sub_zero, as21, as31, as32, and_self, and_true, true_and, l_0, l_1, l_2, l_3, l_4, l_5, l_6, l_7, l_8, l_9, l_10, l_11, l_12, l_13, l_14, l_15, l_16, l_17, l_18, l_19, l_20, l_21, l_22, l_23, l_24, l_25, l_26, l_27, l_28, l_29, l_30, l_31, l_32, l_33, l_34, l_35, l_36, l_37, l_38, l_39, l_40, l_41, l_42, l_43, l_44, l_45, l_47, l_48, l_50, l_52, l_60, l_61, l_63, l_80, l_99, l_100, l_101, l_102, l_103, l_105, l_106, l_107, l_108, l_109, l_110, l_111, l_112, l_114, l_115, l_116, l_117, l_118, l_119, l_120, l_122, l_168, l_200, l_320, l_360, l_528, l_548, l_1000, l_1023, l_2000, l_3000, l_1000000, qadd, qmul, qsub, qdiv, qcl, qinT, qchT, qleT, qleF, qltT, qltF, qeqT, qeqF, qneg_ne, bo0, bo1, qneg_ne', qneg_lt, mI_eq, mD_eq, mL_eq, mR_eq, mI_at, mD_at, mL_at, mI_ne, mD_ne, mL_ne, mR_ne, not_false_eq_true, not_true_eq_false, or_true, true_or, or_false, false_or, or_self, false_and, and_false, eq_self, mI_sL, mI_sD, mI_sR, mI_tk, mL_sI, mL_sD, mL_sR, mL_tk, mD_sI, mD_sL, mD_sR, mD_tk, mR_sI, mR_sL, mR_sD, mR_tk, mT_sI, mT_sL, mT_sD, mT_sR, mT_tk, mK_sI, mK_sL, mK_sD, mK_sR, mK_tk, mN_sI, mN_sL, mN_sD, mN_sR, mN_tk, nx_sI, nx_sL, nx_sD, nx_sR, uC_sI, uC_sL, uC_sD, uC_sR, uS_sI, uS_sL, uS_sD, uS_sR, nx_tk, uC_tk, uS_tk]
  · rw [mI_ne (by omega), bfF_n (by omega)]; unfold bgM; simp (disch := omega) only [← Nat.add_assoc, Nat.add_sub_cancel, Nat.sub_zero, as21, as31, as32, and_self, and_true, true_and, l_0, l_1, l_2, l_3, l_4, l_5, l_6, l_7, l_8, l_9, l_10, l_11, l_12, l_13, l_14, l_15, l_16, l_17, l_18, l_19, l_20, l_21, l_22, l_23, l_24, l_25, l_26, l_27, l_28, l_29, l_30, l_31, l_32, l_33, l_34, l_35, l_36, l_37, l_38, l_39, l_40, l_41, l_42, l_43, l_44, l_45, l_47, l_48, l_50, l_52, l_60, l_61, l_63, l_80, l_99, l_100, l_101, l_102, l_103, l_105, l_106, l_107, l_108, l_109, l_110, l_111, l_112, l_114, l_115, l_116, l_117, l_118, l_119, l_120, l_122, l_168, l_200, l_320, l_360, l_528, l_548, l_1000, l_1023, l_2000, l_3000, l_1000000, qadd, qmul, qsub, qdiv, qcl, qinT, qchT, qleT, qleF, qltT, qltF, qeqT, qeqF, qneg_ne, bo0, bo1, qneg_ne', qneg_lt, mI_eq, mD_eq, mL_eq, mR_eq, mI_at, mD_at, mL_at, mI_ne, mD_ne, mL_ne, mR_ne, not_false_eq_true, not_true_eq_false, or_true, true_or, or_false, false_or, or_self, false_and, and_false, eq_self, mI_sL, mI_sD, mI_sR, mI_tk, mL_sI, mL_sD, mL_sR, mL_tk, mD_sI, mD_sL, mD_sR, mD_tk, mR_sI, mR_sL, mR_sD, mR_tk, mT_sI, mT_sL, mT_sD, mT_sR, mT_tk, mK_sI, mK_sL, mK_sD, mK_sR, mK_tk, mN_sI, mN_sL, mN_sD, mN_sR, mN_tk, nx_sI, nx_sL, nx_sD, nx_sR, uC_sI, uC_sL, uC_sD, uC_sR, uS_sI, uS_sL, uS_sD, uS_sR, nx_tk, uC_tk, uS_tk]
  · rw [mI_ne (by omega), mI_ne (by omega)]; exact bfF_lo 168 hp
/-- both recorders begin -/
theorem rx_begin {M T R0 : Mem} {b d v : Nat} {φ : Nat → Nat} {x2 x3 : Int32} (hI : INVR R0 T b (d + 1) 0 v φ) (h6 : mI T 69 76 = nI 0) (h8 : mI T 69 78 = nI 0) (hd : d < 12) (hH : ∀ f, f ≤ d → hN R0 f ≤ 8) (hT : ∀ f, mI R0 111 f = mI T 111 f) : RECX (bgT M x2 x3) T v 168 φ 0 0 ∧ RFP (bgT M x2 x3) T b d φ v ∧ v ≤ 168 := by
  obtain ⟨i1, i2, i3, i4, i5, i6, i7⟩ := hI
  obtain ⟨s7, s8, s9, s10, s11, s12, sp⟩ := bgT_s (M := M) (x2 := x2) (x3 := x3)
  have hlt : ∀ u, u < v → φ u < 168 := fun u hu => by
    obtain ⟨g, j, g1, g2, g3, g4⟩ := (i6 u hu).1
    have := hH g (by omega)
    omega
  refine ⟨⟨i4, s9, h6, s7, h8, s8, fun u1 u2 y1 y2 y3 => ?_, fun u hu => ⟨hlt u hu, ?_⟩, fun i hi => absurd hi (by omega)⟩, fun f h1 h2 j hj => ?_, by omega⟩
  · have a1 := (i6 u1 y1).2.1
    have a2 := (i6 u2 y2).2.1
    rw [y3] at a1
    exact qinj (by omega) (by omega) (a1.symm.trans a2)
  · rw [(sp _ (hlt u hu)).2]
    obtain ⟨-, -, k1, k2, k3, k4⟩ := i6 u hu
    unfold kb nkP
    simp only [k1, k2, k3, k4]
    decide
  · have eN : hN R0 f = hN T f := by unfold hN; rw [hT]
    rw [← eN] at hj
    obtain ⟨u, u1, u2⟩ := i7 (14 * f + j) ⟨f, j, h1, hj, rfl, .inl (by omega)⟩
    obtain ⟨-, a1, -⟩ := i6 u u1
    rw [u2] at a1
    have hl := hlt u u1
    rw [u2] at hl
    exact ⟨u, u1, a1, by rw [u2]; exact (sp _ hl).1⟩
end ML2
