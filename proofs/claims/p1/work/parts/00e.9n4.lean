/-! ===== turns: the limit, and failing ===== -/
section MU4
theorem nm_of {M N : Mem} (h : NB M N) : NM M N 18 := ⟨fun a j x => h.1 a j (by omega), fun a j x => h.2 a j (by omega)⟩
theorem br_of {M S : Mem} {B : Nat → Nat} {cnt d : Nat} {H : Nat → Nat → Mem} {b : Nat → Nat} {fg : Nat → Nat → Nat} {k : Nat} (h : MRC M S B cnt d H b fg k) : ∃ bb, RTG M S B cnt bb := by
  obtain ⟨bb, v, fc, φ, fgR, HR, GR, FR, h1, h2, -⟩ := h
  exact ⟨bb, h2⟩
/-- the end of the run, behind which the class may still break off -/
theorem end_of {M S N E : Mem} {B : Nat → Nat} {cnt d ns ob nc nf ns2 ob2 : Nat} {H G F : Nat → Nat → Mem} {b : Nat → Nat} {fg : Nat → Nat → Nat} (hB : BAS M S B cnt d ns ob nc nf H G F b fg) (hm : RTN M S ∨ ∃ bb, RTG M S B cnt bb) (hz : MZ M N) (h48 : ∀ j, mI N 48 j = mI M 48 j) (hR : RZ N E 18 ns2) (hW : WZ E ob2 ns2 nc nf) (hX : XE N E 18) (hE : ∀ a j, ((82 < a ∧ a < 105) ∨ (a = 69 ∧ (j = 23 ∨ j = 24 ∨ j = 25 ∨ j = 26 ∨ j = 35 ∨ j = 58 ∨ j = 71))) → mI E a j = mI (brM S) a j) (hG : GRW S E ns ns2) : END N E cnt ns2 ob2 nc nf := by
  obtain ⟨-, hWW, hF, hH, hL, hC, hCW, hI, hnx⟩ := hB
  obtain ⟨z1, z2, z3, z4⟩ := id hz
  have hFN : FOR N S B cnt := FOR_x hF (fun a j x => z1 a j (by omega)) z3 hz.mT (Nat.le_of_eq hz.nx.symm) (fun _ _ _ _ => rfl) (fun _ _ => rfl)
  have hHN : HDR N S cnt := HDR_x hH (fun a j x y => z1 a j (by omega)) (fun _ _ _ => rfl)
  have hmN : RTN N S ∨ ∃ bb, RTG N S B cnt bb := by
    rcases hm with h | ⟨bb, h⟩
    · exact .inl ⟨(h48 10).trans h.1, h.2⟩
    · exact .inr ⟨bb, rtg_x h hFN (fun j _ _ => h48 j) (fun _ _ _ => rfl) (fun _ _ => ⟨rfl, rfl⟩)⟩
  obtain ⟨N2, b1, b2, b3, b4, b5, b6, b7, b8, b9, ⟨⟨x1, -⟩, x3, x4, x5, x6⟩, b11, b12⟩ := brk_any hFN hHN hmN
  have hnm := nm_of b7
  have k : ∀ a j, 82 < a → a < 105 → a ≠ 95 → a ≠ 96 → a ≠ 101 → a ≠ 102 → a ≠ 103 → a ≠ 87 → a ≠ 88 → mI E a j = mI S a j := fun a j c1 c2 c3 c4 c5 c6 c7 c8 c9 => (hE a j (by omega)).trans (x5 a j c1 c2 c3 c4 c5 c6 c7 c8 c9)
  have hnx2 : nx N2 = nx M := (congrArg (fun z => z.2.1) x1.2).trans hz.nx
  refine ⟨N2, b1, x1, ⟨B, H, G, F, b, fg, rz_nm (.inl rfl) hR hnm, hW, ?_, FOR_x b4 (fun _ _ _ => rfl) (fun _ _ _ => rfl) (fun _ => rfl) (Nat.le_refl _) (fun a j c1 c2 => hE a j (by omega)) (fun j c => hE 69 j (by omega)), HDR_x b5 (fun _ _ _ _ => rfl) (fun a j c => hE a j (by omega)), ⟨?_, ?_, ?_⟩, fun j => ?_, fun j hj => ?_, his_grw hI (fun a j x => k a j (by omega) (by omega) (by omega) (by omega) (by omega) (by omega) (by omega) (by omega) (by omega)) (fun t _ x => (k 89 t (by omega) (by omega) (by omega) (by omega) (by omega) (by omega) (by omega) (by omega) (by omega)).symm.trans x) hWW.2.2.2.2.2.1 hWW.2.2.2.2.2.2.1 hG, ⟨b6.1, (hE 69 71 (by omega)).trans b6.2⟩, by rw [hnx2]; exact hnx⟩, hnm⟩
  · obtain ⟨y1, y2, y3⟩ := hX
    refine ⟨y1, (hnm.1 18 13 (by omega)).trans y2, ?_⟩
    rcases y3 with y3 | ⟨y3, y4, y5, y6⟩
    · exact .inl y3
    · exact .inr ⟨y3, (hnm.1 18 14 (by omega)).trans y4, (hnm.1 18 15 (by omega)).trans y5, y6⟩
  · exact (b11 5).trans ((z2 5 (by omega)).trans (hL.1.trans ((hE 69 23 (by omega)).trans (x6 23 (by omega))).symm))
  · exact (b11 6).trans ((z2 6 (by omega)).trans (hL.2.1.trans ((hE 69 24 (by omega)).trans (x6 24 (by omega))).symm))
  · exact (b11 7).trans ((z2 7 (by omega)).trans (hL.2.2.trans ((hE 69 58 (by omega)).trans (x6 58 (by omega))).symm))
  · rw [x3 40 j (by omega) (by omega), x3 41 j (by omega) (by omega), x3 42 j (by omega) (by omega), x3 43 j (by omega) (by omega), z1 40 j (by omega), z1 41 j (by omega), z1 42 j (by omega), z1 43 j (by omega), k 83 j (by omega) (by omega) (by omega) (by omega) (by omega) (by omega) (by omega) (by omega) (by omega), k 84 j (by omega) (by omega) (by omega) (by omega) (by omega) (by omega) (by omega) (by omega) (by omega), k 85 j (by omega) (by omega) (by omega) (by omega) (by omega) (by omega) (by omega) (by omega) (by omega), k 86 j (by omega) (by omega) (by omega) (by omega) (by omega) (by omega) (by omega) (by omega) (by omega)]; exact hC j
  · rw [k 83 j (by omega) (by omega) (by omega) (by omega) (by omega) (by omega) (by omega) (by omega) (by omega)]; exact hCW j hj
/-- at the limit -/
theorem turn_limit {M S P : Mem} {cnt d ns ob nc nf μ : Nat} (hS : SIM M S cnt d ns ob nc nf μ) (hP : RC P S 28 d ns) (hXP : XR P S 28) (he : mI S 69 57 = nI 1000) : TRN M S P cnt ns nc nf μ := by
  obtain ⟨⟨xr1, xr2⟩, B, H, G, F, b, fg, e, x, hB, hM, he2, he1, hμ⟩ := hS
  obtain rfl : e = 1000 := qinj (by omega) (by omega) (he2.symm.trans he)
  have hB0 := id hB
  obtain ⟨hR, hW, hF, hH, hL, hC, hCW, hI, hnx⟩ := hB0
  have hns := hW.2.2.2.2.2.1.2.1
  have m12 : mI M 18 12 = nI 1000 := hR.2.2.2.1.2.1.trans he
  have hcl : (mI M 38 8 = nI 1 ∧ 2 < x ∧ RTN M S) ∨ (mI M 38 8 = nI 0 ∧ (RTN M S ∨ ∃ bb, RTG M S B cnt bb)) := by
    rcases hM with ⟨t, hx, st, at_, td, n, eS, eR, oS, oR, v, val, rval, ⟨q1, -⟩, hw, hno, -⟩ | ⟨-, hm⟩ | ⟨-, k, hm⟩ | ⟨-, h38, hno, -⟩
    · have := hF.2.2.1
      exact .inl ⟨hw.1, by omega, hno⟩
    · exact .inr ⟨hm.1, .inl hm.2.2⟩
    · exact .inr ⟨hm.choose_spec.choose_spec.choose_spec.choose_spec.choose_spec.choose_spec.choose_spec.choose_spec.1.1, .inr (br_of hm)⟩
    · exact .inr ⟨h38, .inl hno⟩
  rcases hcl with ⟨h38, hx2, hno⟩ | ⟨h38, hm⟩
  · have hz : MZ M (sI M 38 8 (nI 0)) := ⟨fun a j y => mI_ne (by omega), fun j y => mI_ne (by omega), fun _ _ _ => rfl, rfl⟩
    have hT : d_X10_turnInTrace M = some ((), sI M 38 8 (nI 0)) := by
      unfold d_X10_turnInTrace
      simp (disch := first | omega | (simp (disch := omega) only [← Nat.add_assoc, Nat.add_sub_cancel, Nat.sub_zero, as21, as31, as32, and_self, and_true, true_and, l_0, l_1, l_2, l_3, l_4, l_5, l_6, l_7, l_8, l_9, l_10, l_11, l_12, l_13, l_14, l_15, l_16, l_17, l_18, l_19, l_20, l_21, l_22, l_23, l_24, l_25, l_26, l_27, l_28, l_29, l_30, l_31, l_32, l_33, l_34, l_35, l_36, l_37, l_38, l_39, l_40, l_41, l_42, l_43, l_44, l_45, l_47, l_48, l_50, l_52, l_60, l_61, l_63, l_80, l_99, l_100, l_101, l_102, l_103, l_105, l_106, l_107, l_108, l_109, l_110, l_111, l_112, l_114, l_115, l_116, l_117, l_118, l_119, l_120, l_122, l_168, l_200, l_320, l_360, l_528, l_548, l_1000, l_1023, l_2000, l_3000, l_1000000, qadd, qmul, qsub, qdiv, qcl, qinT, qchT, qleT, qleF, qltT, qltF, qeqT, qeqF, qneg_ne, bo0, bo1, qneg_ne', qneg_lt, mI_eq, mD_eq, mL_eq, mR_eq, mI_at, mD_at, mL_at, mI_ne, mD_ne, mL_ne, mR_ne, not_false_eq_true, not_true_eq_false, or_true, true_or, or_false, false_or, or_self, false_and, and_false, eq_self, mI_sL, mI_sD, mI_sR, mI_tk, mL_sI, mL_sD, mL_sR, mL_tk, mD_sI, mD_sL, mD_sR, mD_tk, mR_sI, mR_sL, mR_sD, mR_tk, mT_sI, mT_sL, mT_sD, mT_sR, mT_tk, mK_sI, mK_sL, mK_sD, mK_sR, mK_tk, mN_sI, mN_sL, mN_sD, mN_sR, mN_tk, nx_sI, nx_sL, nx_sD, nx_sR, uC_sI, uC_sL, uC_sD, uC_sR, uS_sI, uS_sL, uS_sD, uS_sR, nx_tk, uC_tk, uS_tk, m12]; done) | fail) only [↓okk_pos, ↓okk_T, ↓bnd_eq, ↓obind, ↓bind_okk, ↓bind_bnd, ↓bind_ite, ↓bind_bind, ↓reduceIte, ↓bq_X3_isAtLimit, ← Nat.add_assoc, Nat.add_sub_cancel, Nat.sub_zero, as21, as31, as32, and_self, and_true, true_and, l_0, l_1, l_2, l_3, l_4, l_5, l_6, l_7, l_8, l_9, l_10, l_11, l_12, l_13, l_14, l_15, l_16, l_17, l_18, l_19, l_20, l_21, l_22, l_23, l_24, l_25, l_26, l_27, l_28, l_29, l_30, l_31, l_32, l_33, l_34, l_35, l_36, l_37, l_38, l_39, l_40, l_41, l_42, l_43, l_44, l_45, l_47, l_48, l_50, l_52, l_60, l_61, l_63, l_80, l_99, l_100, l_101, l_102, l_103, l_105, l_106, l_107, l_108, l_109, l_110, l_111, l_112, l_114, l_115, l_116, l_117, l_118, l_119, l_120, l_122, l_168, l_200, l_320, l_360, l_528, l_548, l_1000, l_1023, l_2000, l_3000, l_1000000, qadd, qmul, qsub, qdiv, qcl, qinT, qchT, qleT, qleF, qltT, qltF, qeqT, qeqF, qneg_ne, bo0, bo1, qneg_ne', qneg_lt, mI_eq, mD_eq, mL_eq, mR_eq, mI_at, mD_at, mL_at, mI_ne, mD_ne, mL_ne, mR_ne, not_false_eq_true, not_true_eq_false, or_true, true_or, or_false, false_or, or_self, false_and, and_false, eq_self, mI_sL, mI_sD, mI_sR, mI_tk, mL_sI, mL_sD, mL_sR, mL_tk, mD_sI, mD_sL, mD_sR, mD_tk, mR_sI, mR_sL, mR_sD, mR_tk, mT_sI, mT_sL, mT_sD, mT_sR, mT_tk, mK_sI, mK_sL, mK_sD, mK_sR, mK_tk, mN_sI, mN_sL, mN_sD, mN_sR, mN_tk, nx_sI, nx_sL, nx_sD, nx_sR, uC_sI, uC_sL, uC_sD, uC_sR, uS_sI, uS_sL, uS_sD, uS_sR, nx_tk, uC_tk, uS_tk, m12]
    have hBN := bas_m hB (rc_nm (.inl rfl) hR ⟨fun a j y => mI_ne (by omega), fun _ _ _ => rfl⟩) hz
    exact ⟨sI M 38 8 (nI 0), S, P, cnt, ct_in xr1 h38 hT, .inr rfl, .inr rfl, MF.c ⟨fun a j y1 y2 => ⟨mI_ne (by omega), rfl, rfl⟩, rfl⟩ cnt, FM.refl P 28, ⟨.inr ⟨mI_ne (by omega), mI_ne (by omega)⟩, .inr ⟨rfl, rfl⟩⟩, .inl ⟨d, ns, ob, 1, by omega, GRW.refl S hns, ⟨⟨(mI_ne (by omega)).trans xr1, xr2⟩, B, H, G, F, b, fg, 1000, 1, hBN, .inr (.inr (.inr ⟨rfl, mI_eq _ _ _ _, ⟨(mI_ne (by omega)).trans hno.1, hno.2⟩, he⟩)), he, by omega, by omega⟩, hP, hXP⟩⟩
  · have hwr : WRh S := by
      rcases hm with h | ⟨bb, h⟩
      · exact .inl h.2
      · exact rtg_wrh hF h
    obtain ⟨N, E, n1, e1, r1, w1, x1, f1, m1⟩ := sl_limit (.inl rfl) hR hW he (by omega) hwr
    obtain ⟨Q, E2, n2, e2, r2, w2, x2, f2, m2⟩ := sl_limit (.inr rfl) hP hW he (by omega) hwr
    obtain rfl : E = E2 := congrArg Prod.snd (Option.some.inj (e1.symm.trans e2))
    have p12 : mI P 28 12 = nI 1000 := hP.2.2.2.1.2.1.trans he
    have hG : GRW S E ns ns := GRW.of hns (fn_X12_endsBy e1)
    have hce : d_X10_canExecute M = some (nI 0, N) := by
      unfold d_X10_canExecute
      simp (disch := first | omega | (simp (disch := omega) only [← Nat.add_assoc, Nat.add_sub_cancel, Nat.sub_zero, as21, as31, as32, and_self, and_true, true_and, l_0, l_1, l_2, l_3, l_4, l_5, l_6, l_7, l_8, l_9, l_10, l_11, l_12, l_13, l_14, l_15, l_16, l_17, l_18, l_19, l_20, l_21, l_22, l_23, l_24, l_25, l_26, l_27, l_28, l_29, l_30, l_31, l_32, l_33, l_34, l_35, l_36, l_37, l_38, l_39, l_40, l_41, l_42, l_43, l_44, l_45, l_47, l_48, l_50, l_52, l_60, l_61, l_63, l_80, l_99, l_100, l_101, l_102, l_103, l_105, l_106, l_107, l_108, l_109, l_110, l_111, l_112, l_114, l_115, l_116, l_117, l_118, l_119, l_120, l_122, l_168, l_200, l_320, l_360, l_528, l_548, l_1000, l_1023, l_2000, l_3000, l_1000000, qadd, qmul, qsub, qdiv, qcl, qinT, qchT, qleT, qleF, qltT, qltF, qeqT, qeqF, qneg_ne, bo0, bo1, qneg_ne', qneg_lt, mI_eq, mD_eq, mL_eq, mR_eq, mI_at, mD_at, mL_at, mI_ne, mD_ne, mL_ne, mR_ne, not_false_eq_true, not_true_eq_false, or_true, true_or, or_false, false_or, or_self, false_and, and_false, eq_self, mI_sL, mI_sD, mI_sR, mI_tk, mL_sI, mL_sD, mL_sR, mL_tk, mD_sI, mD_sL, mD_sR, mD_tk, mR_sI, mR_sL, mR_sD, mR_tk, mT_sI, mT_sL, mT_sD, mT_sR, mT_tk, mK_sI, mK_sL, mK_sD, mK_sR, mK_tk, mN_sI, mN_sL, mN_sD, mN_sR, mN_tk, nx_sI, nx_sL, nx_sD, nx_sR, uC_sI, uC_sL, uC_sD, uC_sR, uS_sI, uS_sL, uS_sD, uS_sR, nx_tk, uC_tk, uS_tk, m12, n1]; done) | fail) only [↓okk_pos, ↓okk_T, ↓bnd_eq, ↓obind, ↓bind_okk, ↓bind_bnd, ↓bind_ite, ↓bind_bind, ↓reduceIte, ↓bq_X3_isAtLimit, ← Nat.add_assoc, Nat.add_sub_cancel, Nat.sub_zero, as21, as31, as32, and_self, and_true, true_and, l_0, l_1, l_2, l_3, l_4, l_5, l_6, l_7, l_8, l_9, l_10, l_11, l_12, l_13, l_14, l_15, l_16, l_17, l_18, l_19, l_20, l_21, l_22, l_23, l_24, l_25, l_26, l_27, l_28, l_29, l_30, l_31, l_32, l_33, l_34, l_35, l_36, l_37, l_38, l_39, l_40, l_41, l_42, l_43, l_44, l_45, l_47, l_48, l_50, l_52, l_60, l_61, l_63, l_80, l_99, l_100, l_101, l_102, l_103, l_105, l_106, l_107, l_108, l_109, l_110, l_111, l_112, l_114, l_115, l_116, l_117, l_118, l_119, l_120, l_122, l_168, l_200, l_320, l_360, l_528, l_548, l_1000, l_1023, l_2000, l_3000, l_1000000, qadd, qmul, qsub, qdiv, qcl, qinT, qchT, qleT, qleF, qltT, qltF, qeqT, qeqF, qneg_ne, bo0, bo1, qneg_ne', qneg_lt, mI_eq, mD_eq, mL_eq, mR_eq, mI_at, mD_at, mL_at, mI_ne, mD_ne, mL_ne, mR_ne, not_false_eq_true, not_true_eq_false, or_true, true_or, or_false, false_or, or_self, false_and, and_false, eq_self, mI_sL, mI_sD, mI_sR, mI_tk, mL_sI, mL_sD, mL_sR, mL_tk, mD_sI, mD_sL, mD_sR, mD_tk, mR_sI, mR_sL, mR_sD, mR_tk, mT_sI, mT_sL, mT_sD, mT_sR, mT_tk, mK_sI, mK_sL, mK_sD, mK_sR, mK_tk, mN_sI, mN_sL, mN_sD, mN_sR, mN_tk, nx_sI, nx_sL, nx_sD, nx_sR, uC_sI, uC_sL, uC_sD, uC_sR, uS_sI, uS_sL, uS_sD, uS_sR, nx_tk, uC_tk, uS_tk, m12, n1]
    refine ⟨N, E, Q, cnt, ct_out xr1 h38 hce, .inl (rts_limit xr2 he e1), .inl (pt_limit hXP.1 p12 n2), (fm_mf (.inl rfl) m1).c cnt, m2, ⟨.inl (el13 n1), .inl (el13 n2)⟩, .inr ⟨ns, ob, hG, end_of hB hm (fm_mz m1) (fun j => m1.1 48 j (by omega)) r1.z w1.z x1 (fun a j y => (f1.1 a j (by omega)).trans (mI_ne (by omega))) hG, r2.z, x2⟩⟩
end MU4
