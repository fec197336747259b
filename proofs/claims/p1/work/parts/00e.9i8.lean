/-! ===== leaving a trace by a guard ===== -/
section MO8
theorem rc_23 {M N S E : Mem} {d ns : Nat} (hR : RC M S 18 d ns) (n1 : ∀ a j, a < 38 → a ≠ 23 → mI N a j = mI M a j) (n2 : ∀ a j, a < 38 → mD N a j = mD M a j) (hB : SW S E) : RC N E 18 d ns := by
  have hR2 := rc_sw hR (NB.refl M) hB
  obtain ⟨hRV, hRF, hRT, hRO, hRA, hRS, hPR⟩ := hR2
  refine ⟨fun p hp => ?_, fun p hp => ?_, ⟨fun i hi => ?_, ?_⟩, ?_, ⟨?_, fun f hf => ?_⟩, ?_, ?_⟩
  · rw [n1 _ _ (by omega) (by omega), n1 _ _ (by omega) (by omega), n2 _ _ (by omega)]; exact hRV p hp
  · rw [n1 _ _ (by omega) (by omega), n1 _ _ (by omega) (by omega), n2 _ _ (by omega)]; exact hRF p hp
  · rw [n1 _ _ (by omega) (by omega), n1 _ _ (by omega) (by omega), n2 _ _ (by omega)]; exact hRT.1 i hi
  · rw [n1 _ _ (by omega) (by omega), n1 _ _ (by omega) (by omega), n2 _ _ (by omega)]; exact hRT.2
  · unfold RO at hRO ⊢
    rw [n1 18 10 (by omega) (by omega), n1 18 12 (by omega) (by omega), n1 18 11 (by omega) (by omega)]
    exact ⟨hRO.1, hRO.2.1, hRO.2.2.1, fun k hk => by rw [n1 _ _ (by omega) (by omega)]; exact hRO.2.2.2 k hk⟩
  · rw [n1 18 9 (by omega) (by omega)]; exact hRA.1
  · rw [n1 _ _ (by omega) (by omega), n1 _ _ (by omega) (by omega), n1 _ _ (by omega) (by omega)]; exact hRA.2 f hf
  · exact RS_e hRS (fun a p h1 h2 => n1 a p (by omega) (by omega)) (fun p => rfl) (fun p => rfl) (fun p => rfl) (fun p => rfl) (fun p => rfl)
  · exact PR_e hPR (fun a p h1 h2 => n1 a p (by omega) (by omega)) rfl rfl (fun a p _ _ => rfl)
theorem foM_n {M : Mem} {b t a j : Nat} (h : (a ≠ b ∨ j ≠ 15) ∧ a ≠ 38) (hb : 129 ≤ b) : mI (foM M b t) a j = mI M a j := by unfold foM; simp (disch := omega) only [← Nat.add_assoc, Nat.add_sub_cancel, Nat.sub_zero, as21, as31, as32, and_self, and_true, true_and, l_0, l_1, l_2, l_3, l_4, l_5, l_6, l_7, l_8, l_9, l_10, l_11, l_12, l_13, l_14, l_15, l_16, l_17, l_18, l_19, l_20, l_21, l_22, l_23, l_24, l_25, l_26, l_27, l_28, l_29, l_30, l_31, l_32, l_33, l_34, l_35, l_36, l_37, l_38, l_39, l_40, l_41, l_42, l_43, l_44, l_45, l_47, l_48, l_50, l_52, l_60, l_61, l_63, l_80, l_99, l_100, l_101, l_102, l_103, l_105, l_106, l_107, l_108, l_109, l_110, l_111, l_112, l_114, l_115, l_116, l_117, l_118, l_119, l_120, l_122, l_168, l_200, l_320, l_360, l_528, l_548, l_1000, l_1023, l_2000, l_3000, l_1000000, qadd, qmul, qsub, qdiv, qcl, qinT, qchT, qleT, qleF, qltT, qltF, qeqT, qeqF, qneg_ne, bo0, bo1, qneg_ne', qneg_lt, mI_eq, mD_eq, mL_eq, mR_eq, mI_at, mD_at, mL_at, mI_ne, mD_ne, mL_ne, mR_ne, not_false_eq_true, not_true_eq_false, or_true, true_or, or_false, false_or, or_self, false_and, and_false, eq_self, mI_sL, mI_sD, mI_sR, mI_tk, mL_sI, mL_sD, mL_sR, mL_tk, mD_sI, mD_sL, mD_sR, mD_tk, mR_sI, mR_sL, mR_sD, mR_tk, mT_sI, mT_sL, mT_sD, mT_sR, mT_tk, mK_sI, mK_sL, mK_sD, mK_sR, mK_tk, mN_sI, mN_sL, mN_sD, mN_sR, mN_tk, nx_sI, nx_sL, nx_sD, nx_sR, uC_sI, uC_sL, uC_sD, uC_sR, uS_sI, uS_sL, uS_sD, uS_sR, nx_tk, uC_tk, uS_tk]
theorem foM_s {M : Mem} {b t : Nat} (hb : 129 ≤ b) : mI (foM M b t) b 15 = mI M b 15 + nI 1 ∧ mI (foM M b t) 38 8 = nI 1 ∧ mI (foM M b t) 38 10 = nI t ∧ mI (foM M b t) 38 11 = nI 0 ∧ mI (foM M b t) 38 12 = mI M 38 12 ∧ ∀ j, j < 8 → mI (foM M b t) 38 j = mI M 38 j := by
  unfold foM
  refine ⟨?_, ?_, ?_, ?_, ?_, fun j hj => ?_⟩ <;> simp (disch := omega) only [← Nat.add_assoc, Nat.add_sub_cancel, Nat.sub_zero, as21, as31, as32, and_self, and_true, true_and, l_0, l_1, l_2, l_3, l_4, l_5, l_6, l_7, l_8, l_9, l_10, l_11, l_12, l_13, l_14, l_15, l_16, l_17, l_18, l_19, l_20, l_21, l_22, l_23, l_24, l_25, l_26, l_27, l_28, l_29, l_30, l_31, l_32, l_33, l_34, l_35, l_36, l_37, l_38, l_39, l_40, l_41, l_42, l_43, l_44, l_45, l_47, l_48, l_50, l_52, l_60, l_61, l_63, l_80, l_99, l_100, l_101, l_102, l_103, l_105, l_106, l_107, l_108, l_109, l_110, l_111, l_112, l_114, l_115, l_116, l_117, l_118, l_119, l_120, l_122, l_168, l_200, l_320, l_360, l_528, l_548, l_1000, l_1023, l_2000, l_3000, l_1000000, qadd, qmul, qsub, qdiv, qcl, qinT, qchT, qleT, qleF, qltT, qltF, qeqT, qeqF, qneg_ne, bo0, bo1, qneg_ne', qneg_lt, mI_eq, mD_eq, mL_eq, mR_eq, mI_at, mD_at, mL_at, mI_ne, mD_ne, mL_ne, mR_ne, not_false_eq_true, not_true_eq_false, or_true, true_or, or_false, false_or, or_self, false_and, and_false, eq_self, mI_sL, mI_sD, mI_sR, mI_tk, mL_sI, mL_sD, mL_sR, mL_tk, mD_sI, mD_sL, mD_sR, mD_tk, mR_sI, mR_sL, mR_sD, mR_tk, mT_sI, mT_sL, mT_sD, mT_sR, mT_tk, mK_sI, mK_sL, mK_sD, mK_sR, mK_tk, mN_sI, mN_sL, mN_sD, mN_sR, mN_tk, nx_sI, nx_sL, nx_sD, nx_sR, uC_sI, uC_sL, uC_sD, uC_sR, uS_sI, uS_sL, uS_sD, uS_sR, nx_tk, uC_tk, uS_tk]
theorem foM_R {M : Mem} {b t : Nat} : mR (foM M b t) 38 9 = some b ∧ (∀ a j, (a ≠ 38 ∨ j ≠ 9) → mR (foM M b t) a j = mR M a j) ∧ (∀ a, mT (foM M b t) a = mT M a) ∧ nx (foM M b t) = nx M ∧ (∀ a j, mD (foM M b t) a j = mD M a j ∧ mL (foM M b t) a j = mL M a j) := by
  refine ⟨?_, fun a j h => ?_, fun a => rfl, rfl, fun a j => ⟨rfl, rfl⟩⟩
  · unfold foM
    rw [mR_sI, mR_sI, mR_sI, mR_eq]
  · unfold foM
    rw [mR_sI, mR_sI, mR_sI, mR_ne h]
    rfl
theorem foR_n {S : Mem} {t a j : Nat} (h : (a ≠ 69 ∨ (j ≠ 68 ∧ j ≠ 69)) ∧ (a ≠ 95 ∨ j ≠ t)) : mI (foR S t) a j = mI S a j := by unfold foR; simp (disch := omega) only [← Nat.add_assoc, Nat.add_sub_cancel, Nat.sub_zero, as21, as31, as32, and_self, and_true, true_and, l_0, l_1, l_2, l_3, l_4, l_5, l_6, l_7, l_8, l_9, l_10, l_11, l_12, l_13, l_14, l_15, l_16, l_17, l_18, l_19, l_20, l_21, l_22, l_23, l_24, l_25, l_26, l_27, l_28, l_29, l_30, l_31, l_32, l_33, l_34, l_35, l_36, l_37, l_38, l_39, l_40, l_41, l_42, l_43, l_44, l_45, l_47, l_48, l_50, l_52, l_60, l_61, l_63, l_80, l_99, l_100, l_101, l_102, l_103, l_105, l_106, l_107, l_108, l_109, l_110, l_111, l_112, l_114, l_115, l_116, l_117, l_118, l_119, l_120, l_122, l_168, l_200, l_320, l_360, l_528, l_548, l_1000, l_1023, l_2000, l_3000, l_1000000, qadd, qmul, qsub, qdiv, qcl, qinT, qchT, qleT, qleF, qltT, qltF, qeqT, qeqF, qneg_ne, bo0, bo1, qneg_ne', qneg_lt, mI_eq, mD_eq, mL_eq, mR_eq, mI_at, mD_at, mL_at, mI_ne, mD_ne, mL_ne, mR_ne, not_false_eq_true, not_true_eq_false, or_true, true_or, or_false, false_or, or_self, false_and, and_false, eq_self, mI_sL, mI_sD, mI_sR, mI_tk, mL_sI, mL_sD, mL_sR, mL_tk, mD_sI, mD_sL, mD_sR, mD_tk, mR_sI, mR_sL, mR_sD, mR_tk, mT_sI, mT_sL, mT_sD, mT_sR, mT_tk, mK_sI, mK_sL, mK_sD, mK_sR, mK_tk, mN_sI, mN_sL, mN_sD, mN_sR, mN_tk, nx_sI, nx_sL, nx_sD, nx_sR, uC_sI, uC_sL, uC_sD, uC_sR, uS_sI, uS_sL, uS_sD, uS_sR, nx_tk, uC_tk, uS_tk]
/-- both follow a side -/
theorem follow_both {M S : Mem} {B : Nat → Nat} {cnt t td : Nat} (hF : FOR M S B cnt) (hH : HDR M S cnt) (ht : t < cnt) (g12 : mI M 38 12 = nI (td + 1)) (h70 : mI S 69 70 = nI td) : d_X10_follow (nI t) M = some ((), foM M (B t) t) ∧ FOR (foM M (B t) t) (foR S t) B cnt ∧ HDR (foM M (B t) t) (foR S t) cnt ∧ WTR (foM M (B t) t) (foR S t) B t 0 td ∧ NB M (foM M (B t) t) ∧ SW S (foR S t) := by
  obtain ⟨a1, a2, a3, a4, ⟨a5, aY⟩, a6, a7⟩ := id hF
  obtain ⟨⟨st, gm, fg, hT⟩, -⟩ := a7 t ht
  have hO := hT.1
  have hb := hO.2.2.1
  obtain ⟨c15, c8, c10, c11, c12, c5⟩ := foM_s (M := M) (t := t) hb
  obtain ⟨r1, r2, r3, r4, r5⟩ := foM_R (M := M) (b := B t) (t := t)
  refine ⟨k_follow (by omega) hO.1 hO.2.1 hb, ?_, ?_, ?_, ⟨fun a j h => foM_n (by omega) hb, fun a j _ => (r5 a j).1⟩, ⟨fun a j h1 h2 h3 h4 => foR_n (by omega), fun a j h => rfl, fun a j => rfl⟩⟩
  · refine FOR_g hF (foM_n (by omega) hb) (foR_n (by omega)) ?_ ?_ (by rw [r4]; exact Nat.le_refl _) (fun y => LYR_e y (by rw [r4]; exact Nat.le_refl _) (fun j => r2 48 j (by omega)) r3) (fun y => FRE_e y (fun t9 h9 => ⟨foR_n (by omega), foR_n (by omega)⟩) (fun j h9 => ⟨foR_n (by omega), foR_n (by omega), foR_n (by omega)⟩)) (fun t2 st2 gm2 fg2 ht2 hT2 => ?_) (fun t2 ht2 => ?_) (fun j => foR_n (by omega)) (fun j => foR_n (by omega))
    · rw [foM_n (by omega) hb, foR_n (by omega)]; exact a4
    · rw [foM_n (by omega) hb, foR_n (by omega)]; exact a5
    · have hb2 := hT2.1.2.2.1
      have hne : t2 ≠ t → B t2 + 11 ≤ B t ∨ B t + 11 ≤ B t2 := fun q => B_ne hF ht2 ht q
      have c := hT2.2.2.2.1
      refine TRC_g hT2 (TRO_e hT2.1 (fun a j h => r2 a j (by omega)) r3) (fun a j h1 h2 h3 => ?_) (fun j => ⟨foR_n (by omega), foR_n (by omega), foR_n (by omega), foR_n (by omega), foR_n (by omega), foR_n (by omega), foR_n (by omega), foR_n (by omega), foR_n (by omega)⟩) ?_ (fun g hg => ?_)
      · by_cases e : a = B t
        · have : t2 = t := by
            by_cases q : t2 = t
            · exact q
            · have := hne q; omega
          subst this
          exact foM_n (by omega) hb
        · exact foM_n (by omega) hb
      · by_cases e : t2 = t
        · subst e
          refine ⟨?_, ?_, ?_⟩
          · rw [foM_n (by omega) hb, foR_n (by omega)]; exact c.2.2.1
          · rw [c15, c.2.2.2.1]; unfold foR; simp (disch := omega) only [← Nat.add_assoc, Nat.add_sub_cancel, Nat.sub_zero, as21, as31, as32, and_self, and_true, true_and, l_0, l_1, l_2, l_3, l_4, l_5, l_6, l_7, l_8, l_9, l_10, l_11, l_12, l_13, l_14, l_15, l_16, l_17, l_18, l_19, l_20, l_21, l_22, l_23, l_24, l_25, l_26, l_27, l_28, l_29, l_30, l_31, l_32, l_33, l_34, l_35, l_36, l_37, l_38, l_39, l_40, l_41, l_42, l_43, l_44, l_45, l_47, l_48, l_50, l_52, l_60, l_61, l_63, l_80, l_99, l_100, l_101, l_102, l_103, l_105, l_106, l_107, l_108, l_109, l_110, l_111, l_112, l_114, l_115, l_116, l_117, l_118, l_119, l_120, l_122, l_168, l_200, l_320, l_360, l_528, l_548, l_1000, l_1023, l_2000, l_3000, l_1000000, qadd, qmul, qsub, qdiv, qcl, qinT, qchT, qleT, qleF, qltT, qltF, qeqT, qeqF, qneg_ne, bo0, bo1, qneg_ne', qneg_lt, mI_eq, mD_eq, mL_eq, mR_eq, mI_at, mD_at, mL_at, mI_ne, mD_ne, mL_ne, mR_ne, not_false_eq_true, not_true_eq_false, or_true, true_or, or_false, false_or, or_self, false_and, and_false, eq_self, mI_sL, mI_sD, mI_sR, mI_tk, mL_sI, mL_sD, mL_sR, mL_tk, mD_sI, mD_sL, mD_sR, mD_tk, mR_sI, mR_sL, mR_sD, mR_tk, mT_sI, mT_sL, mT_sD, mT_sR, mT_tk, mK_sI, mK_sL, mK_sD, mK_sR, mK_tk, mN_sI, mN_sL, mN_sD, mN_sR, mN_tk, nx_sI, nx_sL, nx_sD, nx_sR, uC_sI, uC_sL, uC_sD, uC_sR, uS_sI, uS_sL, uS_sD, uS_sR, nx_tk, uC_tk, uS_tk]
          · rw [foM_n (by omega) hb, foR_n (by omega)]; exact c.2.2.2.2
        · have := hne e
          rw [foM_n (by omega) hb, foM_n (by omega) hb, foM_n (by omega) hb, foR_n (by omega), foR_n (by omega), foR_n (by omega)]
          exact c.2.2
      · obtain ⟨-, -, -, -, g5, g6, g7, g8, -⟩ := hT2.2.2.2.2.2.1 g hg
        have hd7 : ∀ i, 7 ≤ i → i ≤ 10 → B t2 + i ≠ B t := fun i i1 i2 => by
          by_cases q : t2 = t
          · subst q; omega
          · have := hne q; omega
        rw [foM_n ⟨.inl (hd7 7 (by omega) (by omega)), by omega⟩ hb, foM_n ⟨.inl (hd7 8 (by omega) (by omega)), by omega⟩ hb, foM_n ⟨.inl (hd7 9 (by omega) (by omega)), by omega⟩ hb, foM_n ⟨.inl (hd7 10 (by omega) (by omega)), by omega⟩ hb, foR_n (by omega), foR_n (by omega), foR_n (by omega), foR_n (by omega)]
        exact ⟨g5, g6, g7, g8⟩
    · rw [foR_n (by omega)]
      exact ⟨(a7 t2 ht2).2.1, fun r _ _ h => by rw [foR_n (by omega)]; exact h⟩
  · exact HDR_x hH (fun a j h1 h2 => foM_n (by omega) hb) (fun a j h => foR_n (by omega))
  · refine ⟨c8, r1, c10, ?_, c11, ?_, c12.trans g12, (foR_n (by omega)).trans h70⟩
    · unfold foR; simp (disch := omega) only [← Nat.add_assoc, Nat.add_sub_cancel, Nat.sub_zero, as21, as31, as32, and_self, and_true, true_and, l_0, l_1, l_2, l_3, l_4, l_5, l_6, l_7, l_8, l_9, l_10, l_11, l_12, l_13, l_14, l_15, l_16, l_17, l_18, l_19, l_20, l_21, l_22, l_23, l_24, l_25, l_26, l_27, l_28, l_29, l_30, l_31, l_32, l_33, l_34, l_35, l_36, l_37, l_38, l_39, l_40, l_41, l_42, l_43, l_44, l_45, l_47, l_48, l_50, l_52, l_60, l_61, l_63, l_80, l_99, l_100, l_101, l_102, l_103, l_105, l_106, l_107, l_108, l_109, l_110, l_111, l_112, l_114, l_115, l_116, l_117, l_118, l_119, l_120, l_122, l_168, l_200, l_320, l_360, l_528, l_548, l_1000, l_1023, l_2000, l_3000, l_1000000, qadd, qmul, qsub, qdiv, qcl, qinT, qchT, qleT, qleF, qltT, qltF, qeqT, qeqF, qneg_ne, bo0, bo1, qneg_ne', qneg_lt, mI_eq, mD_eq, mL_eq, mR_eq, mI_at, mD_at, mL_at, mI_ne, mD_ne, mL_ne, mR_ne, not_false_eq_true, not_true_eq_false, or_true, true_or, or_false, false_or, or_self, false_and, and_false, eq_self, mI_sL, mI_sD, mI_sR, mI_tk, mL_sI, mL_sD, mL_sR, mL_tk, mD_sI, mD_sL, mD_sR, mD_tk, mR_sI, mR_sL, mR_sD, mR_tk, mT_sI, mT_sL, mT_sD, mT_sR, mT_tk, mK_sI, mK_sL, mK_sD, mK_sR, mK_tk, mN_sI, mN_sL, mN_sD, mN_sR, mN_tk, nx_sI, nx_sL, nx_sD, nx_sR, uC_sI, uC_sL, uC_sD, uC_sR, uS_sI, uS_sL, uS_sD, uS_sR, nx_tk, uC_tk, uS_tk]
    · unfold foR; simp (disch := omega) only [← Nat.add_assoc, Nat.add_sub_cancel, Nat.sub_zero, as21, as31, as32, and_self, and_true, true_and, l_0, l_1, l_2, l_3, l_4, l_5, l_6, l_7, l_8, l_9, l_10, l_11, l_12, l_13, l_14, l_15, l_16, l_17, l_18, l_19, l_20, l_21, l_22, l_23, l_24, l_25, l_26, l_27, l_28, l_29, l_30, l_31, l_32, l_33, l_34, l_35, l_36, l_37, l_38, l_39, l_40, l_41, l_42, l_43, l_44, l_45, l_47, l_48, l_50, l_52, l_60, l_61, l_63, l_80, l_99, l_100, l_101, l_102, l_103, l_105, l_106, l_107, l_108, l_109, l_110, l_111, l_112, l_114, l_115, l_116, l_117, l_118, l_119, l_120, l_122, l_168, l_200, l_320, l_360, l_528, l_548, l_1000, l_1023, l_2000, l_3000, l_1000000, qadd, qmul, qsub, qdiv, qcl, qinT, qchT, qleT, qleF, qltT, qltF, qeqT, qeqF, qneg_ne, bo0, bo1, qneg_ne', qneg_lt, mI_eq, mD_eq, mL_eq, mR_eq, mI_at, mD_at, mL_at, mI_ne, mD_ne, mL_ne, mR_ne, not_false_eq_true, not_true_eq_false, or_true, true_or, or_false, false_or, or_self, false_and, and_false, eq_self, mI_sL, mI_sD, mI_sR, mI_tk, mL_sI, mL_sD, mL_sR, mL_tk, mD_sI, mD_sL, mD_sR, mD_tk, mR_sI, mR_sL, mR_sD, mR_tk, mT_sI, mT_sL, mT_sD, mT_sR, mT_tk, mK_sI, mK_sL, mK_sD, mK_sR, mK_tk, mN_sI, mN_sL, mN_sD, mN_sR, mN_tk, nx_sI, nx_sL, nx_sD, nx_sR, uC_sI, uC_sL, uC_sD, uC_sR, uS_sI, uS_sL, uS_sD, uS_sR, nx_tk, uC_tk, uS_tk]
/-- behind a guard that does not hold -/
def EXB (M S N E : Mem) (B : Nat → Nat) (cnt t q td d : Nat) : Prop := (∃ s, s < cnt ∧ mI S 104 (120 * t + q) = nI s ∧ WTR N E B s 0 td ∧ RTN N E) ∨ (mI S 104 (120 * t + q) = -nI 1 ∧ mI N 38 8 = nI 0 ∧ mI E 69 68 = -nI 1 ∧ (RTN N E ∨ (RTG N E B cnt td ∧ mI N 48 13 = nI t ∧ mI N 48 14 = nI q ∧ mI E 69 74 = mI S 94 t ∧ ∃ v φ R0, INVR R0 E td (d + 1) 0 v φ ∧ (∀ f, mI R0 111 f = mI E 111 f) ∧ RECX N E v 168 φ 0 0 ∧ RFP N E td d φ v ∧ v ≤ 168)))
theorem exit_side {M S : Mem} {B fg : Nat → Nat} {cnt t q st gm at_ td d ns ob nc nf s : Nat} (hF : FOR M S B cnt) (hH : HDR M S cnt) (ht : t < cnt) (hT : TRC M S B t st gm fg) (hq : q < gm) (hW : WTR M S B t at_ td) (hN : RTN M S) (hR : RC M S 18 d ns) (hWW : WW S d ob ns nc nf) (hs : s < cnt) (h104 : mI S 104 (120 * t + q) = nI s) : ∃ N E, d_X10_exitAt (nI q) M = some ((), N) ∧ d_X12_leavesBy (nI (120 * t + q)) S = some ((), E) ∧ FOR N E B cnt ∧ HDR N E cnt ∧ RC N E 18 d ns ∧ WW E d ob ns nc nf ∧ SW S E ∧ CAX M S N E ∧ EXB M S N E B cnt t q td d := by
  obtain ⟨w1, w2, w3, w4, w5, w6, w7, w8⟩ := hW
  obtain ⟨b1, b2, b3, b4⟩ := bump hF hH ht hT hq (.inl rfl)
  have hO := hT.1
  have hb := hO.2.2.1
  have hg120 := hT.2.2.1.2.2
  have hcnt := hF.2.2.1
  obtain ⟨f1, f2, f3, f4, f5, f6⟩ := follow_both (t := s) (td := td) b2 b3 hs (by rw [mI_ne (by omega)]; exact w7) (by rw [mI_ne (by omega)]; exact w8)
  have g10 : mI M (B t + 10) q = nI s := ((hT.2.2.2.2.2.1 q hq).2.2.2.2.2.2.2.1).trans h104
  obtain ⟨ra, ka⟩ := hO.2.2.2.1 6 (by omega)
  obtain ⟨rb, kb_⟩ := hO.2.2.2.1 9 (by omega)
  have ra2 : mR M (B t) 8 = some (B t + 7) := ra
  have ka2 : mK M (B t + 7) = 21 := ka
  have rb2 : mR M (B t) 11 = some (B t + 10) := rb
  have kb2 : mK M (B t + 10) = 21 := kb_
  have na : mN M (B t + 7) = gm := hO.2.2.2.2.2.2 6 (by omega) (by omega)
  have nb : mN M (B t + 10) = gm := hO.2.2.2.2.2.2 9 (by omega) (by omega)
  have hk9 := hO.2.1
  have hSW1 : SW S (sI S (94 + 7) (120 * t + q) (mI S (94 + 7) (120 * t + q) + nI 1)) := ⟨fun a j h1 h2 h3 h4 => mI_ne (by omega), fun a j h => rfl, fun a j => rfl⟩
  have hNB1 : NB M (sI M (B t + 7) q (mI M (B t + 7) q + nI 1)) := ⟨fun a j h => mI_ne (by omega), fun a j h => rfl⟩
  refine ⟨_, _, ?_, ?_, f2, f3, rc_sw hR (hNB1.trans f5) (hSW1.trans f6), ww_sw hWW (hSW1.trans f6), hSW1.trans f6, ⟨⟨⟨fun a j h1 h2 => ⟨?_, ?_, ?_⟩, rfl⟩, ⟨fun a j h1 => ⟨?_, rfl, rfl⟩, rfl⟩, fun j _ => ?_⟩, fun a j h1 h2 => ?_, fun j h1 => ?_, fun a j h1 h2 h3 h4 h5 h6 h7 h8 h9 => ?_, fun j h1 => ?_⟩, .inl ⟨s, hs, h104, f4, ?_, ?_⟩⟩
  · unfold d_X10_exitAt
    simp (disch := first | omega | (simp (disch := omega) only [← Nat.add_assoc, Nat.add_sub_cancel, Nat.sub_zero, as21, as31, as32, and_self, and_true, true_and, l_0, l_1, l_2, l_3, l_4, l_5, l_6, l_7, l_8, l_9, l_10, l_11, l_12, l_13, l_14, l_15, l_16, l_17, l_18, l_19, l_20, l_21, l_22, l_23, l_24, l_25, l_26, l_27, l_28, l_29, l_30, l_31, l_32, l_33, l_34, l_35, l_36, l_37, l_38, l_39, l_40, l_41, l_42, l_43, l_44, l_45, l_47, l_48, l_50, l_52, l_60, l_61, l_63, l_80, l_99, l_100, l_101, l_102, l_103, l_105, l_106, l_107, l_108, l_109, l_110, l_111, l_112, l_114, l_115, l_116, l_117, l_118, l_119, l_120, l_122, l_168, l_200, l_320, l_360, l_528, l_548, l_1000, l_1023, l_2000, l_3000, l_1000000, qadd, qmul, qsub, qdiv, qcl, qinT, qchT, qleT, qleF, qltT, qltF, qeqT, qeqF, qneg_ne, bo0, bo1, qneg_ne', qneg_lt, mI_eq, mD_eq, mL_eq, mR_eq, mI_at, mD_at, mL_at, mI_ne, mD_ne, mL_ne, mR_ne, not_false_eq_true, not_true_eq_false, or_true, true_or, or_false, false_or, or_self, false_and, and_false, eq_self, mI_sL, mI_sD, mI_sR, mI_tk, mL_sI, mL_sD, mL_sR, mL_tk, mD_sI, mD_sL, mD_sR, mD_tk, mR_sI, mR_sL, mR_sD, mR_tk, mT_sI, mT_sL, mT_sD, mT_sR, mT_tk, mK_sI, mK_sL, mK_sD, mK_sR, mK_tk, mN_sI, mN_sL, mN_sD, mN_sR, mN_tk, nx_sI, nx_sL, nx_sD, nx_sR, uC_sI, uC_sL, uC_sD, uC_sR, uS_sI, uS_sL, uS_sD, uS_sR, nx_tk, uC_tk, uS_tk, w2, hk9, ra2, ka2, na, rb2, kb2, nb, g10, f1]; done) | fail) only [↓okk_pos, ↓okk_T, ↓bnd_eq, ↓obind, ↓bind_okk, ↓bind_bnd, ↓bind_ite, ↓bind_bind, ↓reduceIte, ← Nat.add_assoc, Nat.add_sub_cancel, Nat.sub_zero, as21, as31, as32, and_self, and_true, true_and, l_0, l_1, l_2, l_3, l_4, l_5, l_6, l_7, l_8, l_9, l_10, l_11, l_12, l_13, l_14, l_15, l_16, l_17, l_18, l_19, l_20, l_21, l_22, l_23, l_24, l_25, l_26, l_27, l_28, l_29, l_30, l_31, l_32, l_33, l_34, l_35, l_36, l_37, l_38, l_39, l_40, l_41, l_42, l_43, l_44, l_45, l_47, l_48, l_50, l_52, l_60, l_61, l_63, l_80, l_99, l_100, l_101, l_102, l_103, l_105, l_106, l_107, l_108, l_109, l_110, l_111, l_112, l_114, l_115, l_116, l_117, l_118, l_119, l_120, l_122, l_168, l_200, l_320, l_360, l_528, l_548, l_1000, l_1023, l_2000, l_3000, l_1000000, qadd, qmul, qsub, qdiv, qcl, qinT, qchT, qleT, qleF, qltT, qltF, qeqT, qeqF, qneg_ne, bo0, bo1, qneg_ne', qneg_lt, mI_eq, mD_eq, mL_eq, mR_eq, mI_at, mD_at, mL_at, mI_ne, mD_ne, mL_ne, mR_ne, not_false_eq_true, not_true_eq_false, or_true, true_or, or_false, false_or, or_self, false_and, and_false, eq_self, mI_sL, mI_sD, mI_sR, mI_tk, mL_sI, mL_sD, mL_sR, mL_tk, mD_sI, mD_sL, mD_sR, mD_tk, mR_sI, mR_sL, mR_sD, mR_tk, mT_sI, mT_sL, mT_sD, mT_sR, mT_tk, mK_sI, mK_sL, mK_sD, mK_sR, mK_tk, mN_sI, mN_sL, mN_sD, mN_sR, mN_tk, nx_sI, nx_sL, nx_sD, nx_sR, uC_sI, uC_sL, uC_sD, uC_sR, uS_sI, uS_sL, uS_sD, uS_sR, nx_tk, uC_tk, uS_tk, w2, hk9, ra2, ka2, na, rb2, kb2, nb, g10, f1]
  · unfold d_X12_leavesBy foR
    simp (disch := first | omega | (simp (disch := omega) only [← Nat.add_assoc, Nat.add_sub_cancel, Nat.sub_zero, as21, as31, as32, and_self, and_true, true_and, l_0, l_1, l_2, l_3, l_4, l_5, l_6, l_7, l_8, l_9, l_10, l_11, l_12, l_13, l_14, l_15, l_16, l_17, l_18, l_19, l_20, l_21, l_22, l_23, l_24, l_25, l_26, l_27, l_28, l_29, l_30, l_31, l_32, l_33, l_34, l_35, l_36, l_37, l_38, l_39, l_40, l_41, l_42, l_43, l_44, l_45, l_47, l_48, l_50, l_52, l_60, l_61, l_63, l_80, l_99, l_100, l_101, l_102, l_103, l_105, l_106, l_107, l_108, l_109, l_110, l_111, l_112, l_114, l_115, l_116, l_117, l_118, l_119, l_120, l_122, l_168, l_200, l_320, l_360, l_528, l_548, l_1000, l_1023, l_2000, l_3000, l_1000000, qadd, qmul, qsub, qdiv, qcl, qinT, qchT, qleT, qleF, qltT, qltF, qeqT, qeqF, qneg_ne, bo0, bo1, qneg_ne', qneg_lt, mI_eq, mD_eq, mL_eq, mR_eq, mI_at, mD_at, mL_at, mI_ne, mD_ne, mL_ne, mR_ne, not_false_eq_true, not_true_eq_false, or_true, true_or, or_false, false_or, or_self, false_and, and_false, eq_self, mI_sL, mI_sD, mI_sR, mI_tk, mL_sI, mL_sD, mL_sR, mL_tk, mD_sI, mD_sL, mD_sR, mD_tk, mR_sI, mR_sL, mR_sD, mR_tk, mT_sI, mT_sL, mT_sD, mT_sR, mT_tk, mK_sI, mK_sL, mK_sD, mK_sR, mK_tk, mN_sI, mN_sL, mN_sD, mN_sR, mN_tk, nx_sI, nx_sL, nx_sD, nx_sR, uC_sI, uC_sL, uC_sD, uC_sR, uS_sI, uS_sL, uS_sD, uS_sR, nx_tk, uC_tk, uS_tk, h104]; done) | fail) only [↓okk_pos, ↓okk_T, ↓bnd_eq, ↓obind, ↓bind_okk, ↓bind_bnd, ↓bind_ite, ↓bind_bind, ↓reduceIte, ← Nat.add_assoc, Nat.add_sub_cancel, Nat.sub_zero, as21, as31, as32, and_self, and_true, true_and, l_0, l_1, l_2, l_3, l_4, l_5, l_6, l_7, l_8, l_9, l_10, l_11, l_12, l_13, l_14, l_15, l_16, l_17, l_18, l_19, l_20, l_21, l_22, l_23, l_24, l_25, l_26, l_27, l_28, l_29, l_30, l_31, l_32, l_33, l_34, l_35, l_36, l_37, l_38, l_39, l_40, l_41, l_42, l_43, l_44, l_45, l_47, l_48, l_50, l_52, l_60, l_61, l_63, l_80, l_99, l_100, l_101, l_102, l_103, l_105, l_106, l_107, l_108, l_109, l_110, l_111, l_112, l_114, l_115, l_116, l_117, l_118, l_119, l_120, l_122, l_168, l_200, l_320, l_360, l_528, l_548, l_1000, l_1023, l_2000, l_3000, l_1000000, qadd, qmul, qsub, qdiv, qcl, qinT, qchT, qleT, qleF, qltT, qltF, qeqT, qeqF, qneg_ne, bo0, bo1, qneg_ne', qneg_lt, mI_eq, mD_eq, mL_eq, mR_eq, mI_at, mD_at, mL_at, mI_ne, mD_ne, mL_ne, mR_ne, not_false_eq_true, not_true_eq_false, or_true, true_or, or_false, false_or, or_self, false_and, and_false, eq_self, mI_sL, mI_sD, mI_sR, mI_tk, mL_sI, mL_sD, mL_sR, mL_tk, mD_sI, mD_sL, mD_sR, mD_tk, mR_sI, mR_sL, mR_sD, mR_tk, mT_sI, mT_sL, mT_sD, mT_sR, mT_tk, mK_sI, mK_sL, mK_sD, mK_sR, mK_tk, mN_sI, mN_sL, mN_sD, mN_sR, mN_tk, nx_sI, nx_sL, nx_sD, nx_sR, uC_sI, uC_sL, uC_sD, uC_sR, uS_sI, uS_sL, uS_sD, uS_sR, nx_tk, uC_tk, uS_tk, h104]
  · obtain ⟨⟨st9, gm9, fg9, hT9⟩, -⟩ := hF.2.2.2.2.2.2 s hs
    have hb9 := hT9.1.2.2.1
    rw [foM_n (by omega) hb9, mI_ne (by omega)]
  · exact ((foM_R (M := sI M (B t + 7) q (mI M (B t + 7) q + nI 1)) (b := B s) (t := s)).2.2.2.2 a j).1
  · exact ((foM_R (M := sI M (B t + 7) q (mI M (B t + 7) q + nI 1)) (b := B s) (t := s)).2.2.2.2 a j).2
  · rw [foR_n (by omega), mI_ne (by omega)]
  · obtain ⟨⟨st9, gm9, fg9, hT9⟩, -⟩ := hF.2.2.2.2.2.2 s hs
    have hb9 := hT9.1.2.2.1
    rw [foM_n (by omega) hb9, mI_ne (by omega)]
  · obtain ⟨⟨st9, gm9, fg9, hT9⟩, -⟩ := hF.2.2.2.2.2.2 s hs
    have hb9 := hT9.1.2.2.1
    rw [foM_n (by omega) hb9, mI_ne (by omega)]
  · obtain ⟨⟨st9, gm9, fg9, hT9⟩, -⟩ := hF.2.2.2.2.2.2 s hs
    rw [(foM_s hT9.1.2.2.1).2.2.2.2.2 j h1, mI_ne (by omega)]
  · rw [foR_n (by omega), mI_ne (by omega)]
  · rw [foR_n (by omega), mI_ne (by omega)]
  · obtain ⟨⟨st9, gm9, fg9, hT9⟩, -⟩ := hF.2.2.2.2.2.2 s hs
    rw [foM_n (by omega) hT9.1.2.2.1, mI_ne (by omega)]; exact hN.1
  · rw [foR_n (by omega), mI_ne (by omega)]; exact hN.2
end MO8
