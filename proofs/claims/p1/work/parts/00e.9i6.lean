/-! ===== the guards of a step: the loop of the class ===== -/
section MO6
noncomputable def tailC (M : Mem) : Option (Unit × Mem) :=
    (d_X3_execute 18 M).bind fun y1 =>
    bnd (sI y1.2 38 7 ((mI y1.2 38 7) + (1 : Int32))) fun M1 =>
    bnd (sI M1 38 11 ((mI M1 38 11) + (1 : Int32))) fun M2 =>
    (mR M2 38 9).bind fun r_3 =>
    okk (mK M2 r_3 = 9) <|
    if (mI M2 38 11) < (mI M2 r_3 0) then (
      some ((), M2))
    else (
      (mR M2 38 9).bind fun r_4 =>
      okk (mK M2 r_4 = 9) <|
      (d_X10_enter (mI M2 r_4 12) M2).bind fun y2 =>
      some ((), y2.2))
theorem isCh_nI {x : Int32} (h : isCh x = True) : ∃ n, n < 65536 ∧ x = nI n := by
  obtain ⟨h1, h2⟩ : 0 ≤ x ∧ x ≤ 65535 := of_eq_true h
  obtain ⟨n, hn⟩ := some_nI x
  refine ⟨x.toNatClampNeg, ?_, ?_⟩
  · have a1 := Int32.le_iff_toInt_le.mp h1
    have a2 := Int32.le_iff_toInt_le.mp h2
    have e1 : (0 : Int32).toInt = 0 := rfl
    have e2 : (65535 : Int32).toInt = 65535 := rfl
    rw [e1] at a1
    rw [e2] at a2
    unfold Int32.toNatClampNeg
    omega
  · have a1 := Int32.le_iff_toInt_le.mp h1
    have e1 : (0 : Int32).toInt = 0 := rfl
    rw [e1] at a1
    have a2 := Int32.le_iff_toInt_le.mp h2
    have e2 : (65535 : Int32).toInt = 65535 := rfl
    rw [e2] at a2
    apply Int32.toInt_inj.mp
    have q : (nI x.toNatClampNeg).toInt = (x.toNatClampNeg : Int) := by
      unfold nI
      exact Int32.toInt_ofNat_of_lt (by unfold Int32.toNatClampNeg; omega)
    rw [q]
    unfold Int32.toNatClampNeg
    omega
theorem gl_C {M S : Mem} {B fg : Nat → Nat} {t at_ st gm : Nat} {ok : Nat → Prop} (hT : TRC M S B t st gm fg) (hr : mR M 38 9 = some (B t)) (h11 : mI M 38 11 = nI at_) (hat : at_ < st) (hok : ∀ j, fg at_ ≤ j → j < fg (at_ + 1) → (∀ i, fg at_ ≤ i → i < j → ok i) → CH M (mI S 97 (120 * t + j)) (mI S 99 (120 * t + j)) (mI S 100 (120 * t + j)) (ok j)) : ∀ (j k N : Nat), fg (at_ + 1) = k + j → j < N → fg at_ ≤ k → (∀ i, fg at_ ≤ i → i < k → ok i) → ((∀ i, fg at_ ≤ i → i < fg (at_ + 1) → ok i) → d_X10_turnInTrace_41 N (nI k) M = tailC M) ∧ ∀ q, k ≤ q → q < fg (at_ + 1) → ¬ ok q → (∀ i, fg at_ ≤ i → i < q → ok i) → d_X10_turnInTrace_41 N (nI k) M = (d_X10_exitAt (nI q) M).bind fun y => some ((), y.2) := by
  obtain ⟨hO, ⟨s1, s2, s3, s4⟩, ⟨g1, g2, g3⟩, -, -, hg, f1, f2, f3, f4, f5⟩ := id hT
  obtain ⟨o1, o2, o3, o4, o5, o6, o7⟩ := hO
  obtain ⟨ra, ka⟩ := o4 1 (by omega)
  obtain ⟨rb, kb_⟩ := o4 2 (by omega)
  obtain ⟨rc, kc⟩ := o4 4 (by omega)
  obtain ⟨rd, kd⟩ := o4 5 (by omega)
  have ra2 : mR M (B t) 3 = some (B t + 2) := ra
  have rb2 : mR M (B t) 4 = some (B t + 3) := rb
  have rc2 : mR M (B t) 6 = some (B t + 5) := rc
  have rd2 : mR M (B t) 7 = some (B t + 6) := rd
  have ka2 : mK M (B t + 2) = 21 := ka
  have kb2 : mK M (B t + 3) = 21 := kb_
  have kc2 : mK M (B t + 5) = 21 := kc
  have kd2 : mK M (B t + 6) = 21 := kd
  have nb : mN M (B t + 3) = gm := o7 2 (by omega) (by omega)
  have nc : mN M (B t + 5) = gm := o7 4 (by omega) (by omega)
  have nd : mN M (B t + 6) = gm := o7 5 (by omega) (by omega)
  have hfm : fg (at_ + 1) ≤ gm := by rw [← f2]; exact fg_mono f3 (by omega) (Nat.le_refl _)
  have ffa := f4 (at_ + 1) (by omega)
  intro j
  induction j with
  | zero =>
    intro k N hk hN hlo hpre
    obtain ⟨m, rfl, hm⟩ := ex_pred hN
    obtain rfl : fg (at_ + 1) = k := by omega
    refine ⟨fun _ => ?_, fun q q1 q2 => absurd q2 (by omega)⟩
    rw [st_X10_turnInTrace_41]
    unfold d_X10_turnInTrace_41b tailC
    simp (disch := first | omega | (simp (disch := omega) only [← Nat.add_assoc, Nat.add_sub_cancel, Nat.sub_zero, as21, as31, as32, and_self, and_true, true_and, l_0, l_1, l_2, l_3, l_4, l_5, l_6, l_7, l_8, l_9, l_10, l_11, l_12, l_13, l_14, l_15, l_16, l_17, l_18, l_19, l_20, l_21, l_22, l_23, l_24, l_25, l_26, l_27, l_28, l_29, l_30, l_31, l_32, l_33, l_34, l_35, l_36, l_37, l_38, l_39, l_40, l_41, l_42, l_43, l_44, l_45, l_47, l_48, l_50, l_52, l_60, l_61, l_63, l_80, l_99, l_100, l_101, l_102, l_103, l_105, l_106, l_107, l_108, l_109, l_110, l_111, l_112, l_114, l_115, l_116, l_117, l_118, l_119, l_120, l_122, l_168, l_200, l_320, l_360, l_528, l_548, l_1000, l_1023, l_2000, l_3000, l_1000000, qadd, qmul, qsub, qdiv, qcl, qinT, qchT, qleT, qleF, qltT, qltF, qeqT, qeqF, qneg_ne, bo0, bo1, qneg_ne', qneg_lt, mI_eq, mD_eq, mL_eq, mR_eq, mI_at, mD_at, mL_at, mI_ne, mD_ne, mL_ne, mR_ne, not_false_eq_true, not_true_eq_false, or_true, true_or, or_false, false_or, or_self, false_and, and_false, eq_self, mI_sL, mI_sD, mI_sR, mI_tk, mL_sI, mL_sD, mL_sR, mL_tk, mD_sI, mD_sL, mD_sR, mD_tk, mR_sI, mR_sL, mR_sD, mR_tk, mT_sI, mT_sL, mT_sD, mT_sR, mT_tk, mK_sI, mK_sL, mK_sD, mK_sR, mK_tk, mN_sI, mN_sL, mN_sD, mN_sR, mN_tk, nx_sI, nx_sL, nx_sD, nx_sR, uC_sI, uC_sL, uC_sD, uC_sR, uS_sI, uS_sL, uS_sD, uS_sR, nx_tk, uC_tk, uS_tk, hr, o2, ra2, ka2, h11, o6, ffa]; done) | fail) only [↓okk_pos, ↓okk_T, ↓bnd_eq, ↓obind, ↓bind_okk, ↓bind_bnd, ↓bind_ite, ↓bind_bind, ↓reduceIte, ← Nat.add_assoc, Nat.add_sub_cancel, Nat.sub_zero, as21, as31, as32, and_self, and_true, true_and, l_0, l_1, l_2, l_3, l_4, l_5, l_6, l_7, l_8, l_9, l_10, l_11, l_12, l_13, l_14, l_15, l_16, l_17, l_18, l_19, l_20, l_21, l_22, l_23, l_24, l_25, l_26, l_27, l_28, l_29, l_30, l_31, l_32, l_33, l_34, l_35, l_36, l_37, l_38, l_39, l_40, l_41, l_42, l_43, l_44, l_45, l_47, l_48, l_50, l_52, l_60, l_61, l_63, l_80, l_99, l_100, l_101, l_102, l_103, l_105, l_106, l_107, l_108, l_109, l_110, l_111, l_112, l_114, l_115, l_116, l_117, l_118, l_119, l_120, l_122, l_168, l_200, l_320, l_360, l_528, l_548, l_1000, l_1023, l_2000, l_3000, l_1000000, qadd, qmul, qsub, qdiv, qcl, qinT, qchT, qleT, qleF, qltT, qltF, qeqT, qeqF, qneg_ne, bo0, bo1, qneg_ne', qneg_lt, mI_eq, mD_eq, mL_eq, mR_eq, mI_at, mD_at, mL_at, mI_ne, mD_ne, mL_ne, mR_ne, not_false_eq_true, not_true_eq_false, or_true, true_or, or_false, false_or, or_self, false_and, and_false, eq_self, mI_sL, mI_sD, mI_sR, mI_tk, mL_sI, mL_sD, mL_sR, mL_tk, mD_sI, mD_sL, mD_sR, mD_tk, mR_sI, mR_sL, mR_sD, mR_tk, mT_sI, mT_sL, mT_sD, mT_sR, mT_tk, mK_sI, mK_sL, mK_sD, mK_sR, mK_tk, mN_sI, mN_sL, mN_sD, mN_sR, mN_tk, nx_sI, nx_sL, nx_sD, nx_sR, uC_sI, uC_sL, uC_sD, uC_sR, uS_sI, uS_sL, uS_sD, uS_sR, nx_tk, uC_tk, uS_tk, hr, o2, ra2, ka2, h11, o6, ffa]
  | succ j ih =>
    intro k N hk hN hlo hpre
    obtain ⟨m, rfl, hm⟩ := ex_pred hN
    obtain ⟨y1, y2, y3, y4, -, -, -, -, y9⟩ := hg k (by omega)
    obtain ⟨cn, cn1, cn2⟩ := isCh_nI y9
    have ec := ch_cast cn2 cn1
    obtain ⟨a, ha1, ha2⟩ := hok k hlo (by omega) (fun i i1 i2 => hpre i i1 i2) _ y3
    obtain ⟨yy, hyy⟩ : ∃ yy, mI M (B t + 5) k = yy := ⟨_, rfl⟩
    rw [hyy] at ha1
    generalize mI S 97 (120 * t + k) = cc at *
    generalize mI S 100 (120 * t + k) = zz at *
    by_cases o : ok k
    · have ha3 := ha2.mpr o
      subst ha3
      obtain ⟨i1, i2⟩ := ih (k + 1) m (by omega) (by omega) (by omega) (fun i x1 x2 => by
        by_cases e : i = k
        · subst e; exact o
        · exact hpre i x1 (by omega))
      have step : d_X10_turnInTrace_41 (m + 1) (nI k) M = d_X10_turnInTrace_41 m (nI (k + 1)) M := by
        rw [st_X10_turnInTrace_41]
        unfold d_X10_turnInTrace_41b
        simp (disch := first | omega | (simp (disch := omega) only [← Nat.add_assoc, Nat.add_sub_cancel, Nat.sub_zero, as21, as31, as32, and_self, and_true, true_and, l_0, l_1, l_2, l_3, l_4, l_5, l_6, l_7, l_8, l_9, l_10, l_11, l_12, l_13, l_14, l_15, l_16, l_17, l_18, l_19, l_20, l_21, l_22, l_23, l_24, l_25, l_26, l_27, l_28, l_29, l_30, l_31, l_32, l_33, l_34, l_35, l_36, l_37, l_38, l_39, l_40, l_41, l_42, l_43, l_44, l_45, l_47, l_48, l_50, l_52, l_60, l_61, l_63, l_80, l_99, l_100, l_101, l_102, l_103, l_105, l_106, l_107, l_108, l_109, l_110, l_111, l_112, l_114, l_115, l_116, l_117, l_118, l_119, l_120, l_122, l_168, l_200, l_320, l_360, l_528, l_548, l_1000, l_1023, l_2000, l_3000, l_1000000, qadd, qmul, qsub, qdiv, qcl, qinT, qchT, qleT, qleF, qltT, qltF, qeqT, qeqF, qneg_ne, bo0, bo1, qneg_ne', qneg_lt, mI_eq, mD_eq, mL_eq, mR_eq, mI_at, mD_at, mL_at, mI_ne, mD_ne, mL_ne, mR_ne, not_false_eq_true, not_true_eq_false, or_true, true_or, or_false, false_or, or_self, false_and, and_false, eq_self, mI_sL, mI_sD, mI_sR, mI_tk, mL_sI, mL_sD, mL_sR, mL_tk, mD_sI, mD_sL, mD_sR, mD_tk, mR_sI, mR_sL, mR_sD, mR_tk, mT_sI, mT_sL, mT_sD, mT_sR, mT_tk, mK_sI, mK_sL, mK_sD, mK_sR, mK_tk, mN_sI, mN_sL, mN_sD, mN_sR, mN_tk, nx_sI, nx_sL, nx_sD, nx_sR, uC_sI, uC_sL, uC_sD, uC_sR, uS_sI, uS_sL, uS_sD, uS_sR, nx_tk, uC_tk, uS_tk, hr, o2, ra2, ka2, h11, o6, ffa, rb2, kb2, nb, rc2, kc2, nc, rd2, kd2, nd, y1, y4, ec, hyy, ha1]; done) | fail) only [↓okk_pos, ↓okk_T, ↓bnd_eq, ↓obind, ↓bind_okk, ↓bind_bnd, ↓bind_ite, ↓bind_bind, ↓reduceIte, ← Nat.add_assoc, Nat.add_sub_cancel, Nat.sub_zero, as21, as31, as32, and_self, and_true, true_and, l_0, l_1, l_2, l_3, l_4, l_5, l_6, l_7, l_8, l_9, l_10, l_11, l_12, l_13, l_14, l_15, l_16, l_17, l_18, l_19, l_20, l_21, l_22, l_23, l_24, l_25, l_26, l_27, l_28, l_29, l_30, l_31, l_32, l_33, l_34, l_35, l_36, l_37, l_38, l_39, l_40, l_41, l_42, l_43, l_44, l_45, l_47, l_48, l_50, l_52, l_60, l_61, l_63, l_80, l_99, l_100, l_101, l_102, l_103, l_105, l_106, l_107, l_108, l_109, l_110, l_111, l_112, l_114, l_115, l_116, l_117, l_118, l_119, l_120, l_122, l_168, l_200, l_320, l_360, l_528, l_548, l_1000, l_1023, l_2000, l_3000, l_1000000, qadd, qmul, qsub, qdiv, qcl, qinT, qchT, qleT, qleF, qltT, qltF, qeqT, qeqF, qneg_ne, bo0, bo1, qneg_ne', qneg_lt, mI_eq, mD_eq, mL_eq, mR_eq, mI_at, mD_at, mL_at, mI_ne, mD_ne, mL_ne, mR_ne, not_false_eq_true, not_true_eq_false, or_true, true_or, or_false, false_or, or_self, false_and, and_false, eq_self, mI_sL, mI_sD, mI_sR, mI_tk, mL_sI, mL_sD, mL_sR, mL_tk, mD_sI, mD_sL, mD_sR, mD_tk, mR_sI, mR_sL, mR_sD, mR_tk, mT_sI, mT_sL, mT_sD, mT_sR, mT_tk, mK_sI, mK_sL, mK_sD, mK_sR, mK_tk, mN_sI, mN_sL, mN_sD, mN_sR, mN_tk, nx_sI, nx_sL, nx_sD, nx_sR, uC_sI, uC_sL, uC_sD, uC_sR, uS_sI, uS_sL, uS_sD, uS_sR, nx_tk, uC_tk, uS_tk, hr, o2, ra2, ka2, h11, o6, ffa, rb2, kb2, nb, rc2, kc2, nc, rd2, kd2, nd, y1, y4, ec, hyy, ha1]
      refine ⟨fun z => step.trans (i1 z), fun q q1 q2 q3 q4 => ?_⟩
      by_cases e : q = k
      · subst e; exact absurd o q3
      · exact step.trans (i2 q (by omega) q2 q3 q4)
    · have ha3 : ¬ a = zz := fun y => o (ha2.mp y)
      refine ⟨fun z => absurd (z k hlo (by omega)) o, fun q q1 q2 q3 q4 => ?_⟩
      obtain rfl : q = k := by
        by_cases e : q = k
        · exact e
        · exact absurd (q4 k hlo (by omega)) o
      rw [st_X10_turnInTrace_41]
      unfold d_X10_turnInTrace_41b
      simp (disch := first | omega | (simp (disch := omega) only [← Nat.add_assoc, Nat.add_sub_cancel, Nat.sub_zero, as21, as31, as32, and_self, and_true, true_and, l_0, l_1, l_2, l_3, l_4, l_5, l_6, l_7, l_8, l_9, l_10, l_11, l_12, l_13, l_14, l_15, l_16, l_17, l_18, l_19, l_20, l_21, l_22, l_23, l_24, l_25, l_26, l_27, l_28, l_29, l_30, l_31, l_32, l_33, l_34, l_35, l_36, l_37, l_38, l_39, l_40, l_41, l_42, l_43, l_44, l_45, l_47, l_48, l_50, l_52, l_60, l_61, l_63, l_80, l_99, l_100, l_101, l_102, l_103, l_105, l_106, l_107, l_108, l_109, l_110, l_111, l_112, l_114, l_115, l_116, l_117, l_118, l_119, l_120, l_122, l_168, l_200, l_320, l_360, l_528, l_548, l_1000, l_1023, l_2000, l_3000, l_1000000, qadd, qmul, qsub, qdiv, qcl, qinT, qchT, qleT, qleF, qltT, qltF, qeqT, qeqF, qneg_ne, bo0, bo1, qneg_ne', qneg_lt, mI_eq, mD_eq, mL_eq, mR_eq, mI_at, mD_at, mL_at, mI_ne, mD_ne, mL_ne, mR_ne, not_false_eq_true, not_true_eq_false, or_true, true_or, or_false, false_or, or_self, false_and, and_false, eq_self, mI_sL, mI_sD, mI_sR, mI_tk, mL_sI, mL_sD, mL_sR, mL_tk, mD_sI, mD_sL, mD_sR, mD_tk, mR_sI, mR_sL, mR_sD, mR_tk, mT_sI, mT_sL, mT_sD, mT_sR, mT_tk, mK_sI, mK_sL, mK_sD, mK_sR, mK_tk, mN_sI, mN_sL, mN_sD, mN_sR, mN_tk, nx_sI, nx_sL, nx_sD, nx_sR, uC_sI, uC_sL, uC_sD, uC_sR, uS_sI, uS_sL, uS_sD, uS_sR, nx_tk, uC_tk, uS_tk, hr, o2, ra2, ka2, h11, o6, ffa, rb2, kb2, nb, rc2, kc2, nc, rd2, kd2, nd, y1, y4, ec, hyy, ha1, ha3]; done) | fail) only [↓okk_pos, ↓okk_T, ↓bnd_eq, ↓obind, ↓bind_okk, ↓bind_bnd, ↓bind_ite, ↓bind_bind, ↓reduceIte, ← Nat.add_assoc, Nat.add_sub_cancel, Nat.sub_zero, as21, as31, as32, and_self, and_true, true_and, l_0, l_1, l_2, l_3, l_4, l_5, l_6, l_7, l_8, l_9, l_10, l_11, l_12, l_13, l_14, l_15, l_16, l_17, l_18, l_19, l_20, l_21, l_22, l_23, l_24, l_25, l_26, l_27, l_28, l_29, l_30, l_31, l_32, l_33, l_34, l_35, l_36, l_37, l_38, l_39, l_40, l_41, l_42, l_43, l_44, l_45, l_47, l_48, l_50, l_52, l_60, l_61, l_63, l_80, l_99, l_100, l_101, l_102, l_103, l_105, l_106, l_107, l_108, l_109, l_110, l_111, l_112, l_114, l_115, l_116, l_117, l_118, l_119, l_120, l_122, l_168, l_200, l_320, l_360, l_528, l_548, l_1000, l_1023, l_2000, l_3000, l_1000000, qadd, qmul, qsub, qdiv, qcl, qinT, qchT, qleT, qleF, qltT, qltF, qeqT, qeqF, qneg_ne, bo0, bo1, qneg_ne', qneg_lt, mI_eq, mD_eq, mL_eq, mR_eq, mI_at, mD_at, mL_at, mI_ne, mD_ne, mL_ne, mR_ne, not_false_eq_true, not_true_eq_false, or_true, true_or, or_false, false_or, or_self, false_and, and_false, eq_self, mI_sL, mI_sD, mI_sR, mI_tk, mL_sI, mL_sD, mL_sR, mL_tk, mD_sI, mD_sL, mD_sR, mD_tk, mR_sI, mR_sL, mR_sD, mR_tk, mT_sI, mT_sL, mT_sD, mT_sR, mT_tk, mK_sI, mK_sL, mK_sD, mK_sR, mK_tk, mN_sI, mN_sL, mN_sD, mN_sR, mN_tk, nx_sI, nx_sL, nx_sD, nx_sR, uC_sI, uC_sL, uC_sD, uC_sR, uS_sI, uS_sL, uS_sD, uS_sR, nx_tk, uC_tk, uS_tk, hr, o2, ra2, ka2, h11, o6, ffa, rb2, kb2, nb, rc2, kc2, nc, rd2, kd2, nd, y1, y4, ec, hyy, ha1, ha3]
end MO6
