/-! ===== the guards of a step in both loops ===== -/
section MO5
theorem ch_cast {x : Int32} {n : Nat} (h : x = nI n) (hn : n < 65536) : ((x.toUInt32 % 65536).toInt32) = x := by
  subst h
  apply Int32.toBitVec_inj.mp
  apply BitVec.eq_of_toNat_eq
  have e1 : (nI n).toBitVec.toNat = n := by
    simp only [nI]
    exact Nat.mod_eq_of_lt (by omega)
  have e2 : ((nI n).toUInt32 % 65536).toNat = n := by
    rw [UInt32.toNat_mod]
    have : (nI n).toUInt32.toNat = n := e1
    rw [this]
    exact Nat.mod_eq_of_lt hn
  exact e2.trans e1.symm
/-- every guard belongs to a step -/
theorem fg_find {st gm g : Nat} {fg : Nat → Nat} (h0 : fg 0 = 0) (h1 : fg st = gm) (hg : g < gm) : ∃ k, k < st ∧ fg k ≤ g ∧ g < fg (k + 1) := by
  have : ∀ m, m ≤ st → g < fg m → ∃ k, k < m ∧ fg k ≤ g ∧ g < fg (k + 1) := by
    intro m
    induction m with
    | zero => intro _ h; omega
    | succ m ih =>
      intro hm h
      by_cases q : g < fg m
      · obtain ⟨k, k1, k2⟩ := ih (by omega) q
        exact ⟨k, by omega, k2⟩
      · exact ⟨m, by omega, by omega, h⟩
  exact this st (Nat.le_refl _) (by omega)
theorem fg_mono {st : Nat} {fg : Nat → Nat} (h : ∀ k, k < st → fg k ≤ fg (k + 1)) {a b : Nat} (hab : a ≤ b) (hb : b ≤ st) : fg a ≤ fg b := by
  induction b with
  | zero => rw [show a = 0 by omega]; exact Nat.le_refl _
  | succ b ih =>
    by_cases q : a = b + 1
    · rw [q]; exact Nat.le_refl _
    · have := ih (by omega) (by omega)
      have := h b (by omega)
      omega
theorem step_iff {M S : Mem} {B fg : Nat → Nat} {t st gm k g : Nat} (h : TRC M S B t st gm fg) (hk : k < st) (hg : g < gm) : mI S 98 (120 * t + g) = nI k ↔ fg k ≤ g ∧ g < fg (k + 1) := by
  obtain ⟨-, ⟨-, -, -, s4⟩, -, -, -, -, f1, f2, f3, f4, f5⟩ := h
  refine ⟨fun q => ?_, fun q => f5 k g hk q.1 q.2⟩
  obtain ⟨k2, k21, k22, k23⟩ := fg_find f1 f2 hg
  have := f5 k2 g k21 k22 k23
  obtain rfl : k2 = k := qinj (by omega) (by omega) (this.symm.trans q)
  exact ⟨k22, k23⟩
noncomputable def tailR (M : Mem) : Option (Unit × Mem) :=
  (d_X12_executes M).bind fun y1 =>
    bnd (sI y1.2 69 58 ((mI y1.2 69 58) + (1 : Int32))) fun M1 =>
    bnd (sI M1 69 69 ((mI M1 69 69) + (1 : Int32))) fun M2 =>
    okk (vp_in (mI M2 69 68) 20) <|
    if (mI M2 69 69) = (mI M2 90 (mI M2 69 68).toNatClampNeg) then (
      okk (vp_in (mI M2 69 68) 20) <|
      (d_X12_enters (mI M2 93 (mI M2 69 68).toNatClampNeg) M2).bind fun y2 =>
      some ((), y2.2))
    else (
      some ((), M2))
theorem gl_R {S : Mem} {t at_ gm lo hi : Nat} {ok : Nat → Prop} (h68 : mI S 69 68 = nI t) (ht : t < 20) (h92 : mI S 92 t = nI gm) (hgm : gm ≤ 120) (h69 : mI S 69 69 = nI at_) (hst : ∀ g, g < gm → (mI S 98 (120 * t + g) = nI at_ ↔ lo ≤ g ∧ g < hi)) (hhi : hi ≤ gm) (hok : ∀ j, lo ≤ j → j < hi → (∀ i, lo ≤ i → i < j → ok i) → RHs S (mI S 97 (120 * t + j)) (mI S 99 (120 * t + j)) (mI S 100 (120 * t + j)) (ok j)) : ∀ (j k N : Nat) (S2 : Mem), gm = k + j → j < N → RKS S S2 → (∀ i, lo ≤ i → i < hi → i < k → ok i) → ((∀ i, lo ≤ i → i < hi → ok i) → ∃ S3, RKS S S3 ∧ d_X12_inTrace_15 N (nI k) S2 = tailR S3) ∧ ∀ q, lo ≤ q → q < hi → k ≤ q → ¬ ok q → (∀ i, lo ≤ i → i < q → ok i) → ∃ S3, RKS S S3 ∧ d_X12_inTrace_15 N (nI k) S2 = (d_X12_leavesBy (nI (120 * t + q)) S3).bind fun y => some ((), y.2) := by
  intro j
  induction j with
  | zero =>
    intro k N S2 hk hN hS2 hpre
    obtain ⟨m, rfl, hm⟩ := ex_pred hN
    obtain rfl : gm = k := by omega
    obtain ⟨b1, b2, -⟩ := hS2.sb
    have e68 := (b1 69 68 (by omega) (by omega)).trans h68
    have e92 := (b1 92 t (by omega) (by omega)).trans h92
    refine ⟨fun _ => ⟨S2, hS2, ?_⟩, fun q q1 q2 q3 => absurd q3 (by omega)⟩
    rw [st_X12_inTrace_15]
    unfold d_X12_inTrace_15b tailR
    simp (disch := first | omega | (simp (disch := omega) only [← Nat.add_assoc, Nat.add_sub_cancel, Nat.sub_zero, as21, as31, as32, and_self, and_true, true_and, l_0, l_1, l_2, l_3, l_4, l_5, l_6, l_7, l_8, l_9, l_10, l_11, l_12, l_13, l_14, l_15, l_16, l_17, l_18, l_19, l_20, l_21, l_22, l_23, l_24, l_25, l_26, l_27, l_28, l_29, l_30, l_31, l_32, l_33, l_34, l_35, l_36, l_37, l_38, l_39, l_40, l_41, l_42, l_43, l_44, l_45, l_47, l_48, l_50, l_52, l_60, l_61, l_63, l_80, l_99, l_100, l_101, l_102, l_103, l_105, l_106, l_107, l_108, l_109, l_110, l_111, l_112, l_114, l_115, l_116, l_117, l_118, l_119, l_120, l_122, l_168, l_200, l_320, l_360, l_528, l_548, l_1000, l_1023, l_2000, l_3000, l_1000000, qadd, qmul, qsub, qdiv, qcl, qinT, qchT, qleT, qleF, qltT, qltF, qeqT, qeqF, qneg_ne, bo0, bo1, qneg_ne', qneg_lt, mI_eq, mD_eq, mL_eq, mR_eq, mI_at, mD_at, mL_at, mI_ne, mD_ne, mL_ne, mR_ne, not_false_eq_true, not_true_eq_false, or_true, true_or, or_false, false_or, or_self, false_and, and_false, eq_self, mI_sL, mI_sD, mI_sR, mI_tk, mL_sI, mL_sD, mL_sR, mL_tk, mD_sI, mD_sL, mD_sR, mD_tk, mR_sI, mR_sL, mR_sD, mR_tk, mT_sI, mT_sL, mT_sD, mT_sR, mT_tk, mK_sI, mK_sL, mK_sD, mK_sR, mK_tk, mN_sI, mN_sL, mN_sD, mN_sR, mN_tk, nx_sI, nx_sL, nx_sD, nx_sR, uC_sI, uC_sL, uC_sD, uC_sR, uS_sI, uS_sL, uS_sD, uS_sR, nx_tk, uC_tk, uS_tk, e68, e92]; done) | fail) only [↓okk_pos, ↓okk_T, ↓bnd_eq, ↓obind, ↓bind_okk, ↓bind_bnd, ↓bind_ite, ↓bind_bind, ↓reduceIte, ← Nat.add_assoc, Nat.add_sub_cancel, Nat.sub_zero, as21, as31, as32, and_self, and_true, true_and, l_0, l_1, l_2, l_3, l_4, l_5, l_6, l_7, l_8, l_9, l_10, l_11, l_12, l_13, l_14, l_15, l_16, l_17, l_18, l_19, l_20, l_21, l_22, l_23, l_24, l_25, l_26, l_27, l_28, l_29, l_30, l_31, l_32, l_33, l_34, l_35, l_36, l_37, l_38, l_39, l_40, l_41, l_42, l_43, l_44, l_45, l_47, l_48, l_50, l_52, l_60, l_61, l_63, l_80, l_99, l_100, l_101, l_102, l_103, l_105, l_106, l_107, l_108, l_109, l_110, l_111, l_112, l_114, l_115, l_116, l_117, l_118, l_119, l_120, l_122, l_168, l_200, l_320, l_360, l_528, l_548, l_1000, l_1023, l_2000, l_3000, l_1000000, qadd, qmul, qsub, qdiv, qcl, qinT, qchT, qleT, qleF, qltT, qltF, qeqT, qeqF, qneg_ne, bo0, bo1, qneg_ne', qneg_lt, mI_eq, mD_eq, mL_eq, mR_eq, mI_at, mD_at, mL_at, mI_ne, mD_ne, mL_ne, mR_ne, not_false_eq_true, not_true_eq_false, or_true, true_or, or_false, false_or, or_self, false_and, and_false, eq_self, mI_sL, mI_sD, mI_sR, mI_tk, mL_sI, mL_sD, mL_sR, mL_tk, mD_sI, mD_sL, mD_sR, mD_tk, mR_sI, mR_sL, mR_sD, mR_tk, mT_sI, mT_sL, mT_sD, mT_sR, mT_tk, mK_sI, mK_sL, mK_sD, mK_sR, mK_tk, mN_sI, mN_sL, mN_sD, mN_sR, mN_tk, nx_sI, nx_sL, nx_sD, nx_sR, uC_sI, uC_sL, uC_sD, uC_sR, uS_sI, uS_sL, uS_sD, uS_sR, nx_tk, uC_tk, uS_tk, e68, e92]
  | succ j ih =>
    intro k N S2 hk hN hS2 hpre
    obtain ⟨m, rfl, hm⟩ := ex_pred hN
    obtain ⟨b1, b2, -⟩ := hS2.sb
    have e68 := (b1 69 68 (by omega) (by omega)).trans h68
    have e92 := (b1 92 t (by omega) (by omega)).trans h92
    have e69 := (b1 69 69 (by omega) (by omega)).trans h69
    have e98 := b1 98 (120 * t + k) (by omega) (by omega)
    by_cases hin : lo ≤ k ∧ k < hi
    · have h98 := e98.trans ((hst k (by omega)).mpr hin)
      have hR := hok k hin.1 hin.2 (fun i i1 i2 => hpre i i1 (by omega) i2)
      obtain ⟨S3, r1, r2⟩ := hR S2 hS2 (120 * t + k) (by omega) (b1 97 _ (by omega) (by omega)) (b1 99 _ (by omega) (by omega)) (b1 100 _ (by omega) (by omega))
      have hS3 : RKS S S3 := hS2.step r2
      by_cases o : ok k
      · rw [pBT o] at r1
        obtain ⟨i1, i2⟩ := ih (k + 1) m S3 (by omega) (by omega) hS3 (fun i x1 x2 x3 => by
          by_cases e : i = k
          · subst e; exact o
          · exact hpre i x1 x2 (by omega))
        have step : d_X12_inTrace_15 (m + 1) (nI k) S2 = d_X12_inTrace_15 m (nI (k + 1)) S3 := by
          rw [st_X12_inTrace_15]
          unfold d_X12_inTrace_15b
          simp (disch := first | omega | (simp (disch := omega) only [← Nat.add_assoc, Nat.add_sub_cancel, Nat.sub_zero, as21, as31, as32, and_self, and_true, true_and, l_0, l_1, l_2, l_3, l_4, l_5, l_6, l_7, l_8, l_9, l_10, l_11, l_12, l_13, l_14, l_15, l_16, l_17, l_18, l_19, l_20, l_21, l_22, l_23, l_24, l_25, l_26, l_27, l_28, l_29, l_30, l_31, l_32, l_33, l_34, l_35, l_36, l_37, l_38, l_39, l_40, l_41, l_42, l_43, l_44, l_45, l_47, l_48, l_50, l_52, l_60, l_61, l_63, l_80, l_99, l_100, l_101, l_102, l_103, l_105, l_106, l_107, l_108, l_109, l_110, l_111, l_112, l_114, l_115, l_116, l_117, l_118, l_119, l_120, l_122, l_168, l_200, l_320, l_360, l_528, l_548, l_1000, l_1023, l_2000, l_3000, l_1000000, qadd, qmul, qsub, qdiv, qcl, qinT, qchT, qleT, qleF, qltT, qltF, qeqT, qeqF, qneg_ne, bo0, bo1, qneg_ne', qneg_lt, mI_eq, mD_eq, mL_eq, mR_eq, mI_at, mD_at, mL_at, mI_ne, mD_ne, mL_ne, mR_ne, not_false_eq_true, not_true_eq_false, or_true, true_or, or_false, false_or, or_self, false_and, and_false, eq_self, mI_sL, mI_sD, mI_sR, mI_tk, mL_sI, mL_sD, mL_sR, mL_tk, mD_sI, mD_sL, mD_sR, mD_tk, mR_sI, mR_sL, mR_sD, mR_tk, mT_sI, mT_sL, mT_sD, mT_sR, mT_tk, mK_sI, mK_sL, mK_sD, mK_sR, mK_tk, mN_sI, mN_sL, mN_sD, mN_sR, mN_tk, nx_sI, nx_sL, nx_sD, nx_sR, uC_sI, uC_sL, uC_sD, uC_sR, uS_sI, uS_sL, uS_sD, uS_sR, nx_tk, uC_tk, uS_tk, e68, e92, e69, h98, r1]; done) | fail) only [↓okk_pos, ↓okk_T, ↓bnd_eq, ↓obind, ↓bind_okk, ↓bind_bnd, ↓bind_ite, ↓bind_bind, ↓reduceIte, ↓tq_X12_inTrace_65, ← Nat.add_assoc, Nat.add_sub_cancel, Nat.sub_zero, as21, as31, as32, and_self, and_true, true_and, l_0, l_1, l_2, l_3, l_4, l_5, l_6, l_7, l_8, l_9, l_10, l_11, l_12, l_13, l_14, l_15, l_16, l_17, l_18, l_19, l_20, l_21, l_22, l_23, l_24, l_25, l_26, l_27, l_28, l_29, l_30, l_31, l_32, l_33, l_34, l_35, l_36, l_37, l_38, l_39, l_40, l_41, l_42, l_43, l_44, l_45, l_47, l_48, l_50, l_52, l_60, l_61, l_63, l_80, l_99, l_100, l_101, l_102, l_103, l_105, l_106, l_107, l_108, l_109, l_110, l_111, l_112, l_114, l_115, l_116, l_117, l_118, l_119, l_120, l_122, l_168, l_200, l_320, l_360, l_528, l_548, l_1000, l_1023, l_2000, l_3000, l_1000000, qadd, qmul, qsub, qdiv, qcl, qinT, qchT, qleT, qleF, qltT, qltF, qeqT, qeqF, qneg_ne, bo0, bo1, qneg_ne', qneg_lt, mI_eq, mD_eq, mL_eq, mR_eq, mI_at, mD_at, mL_at, mI_ne, mD_ne, mL_ne, mR_ne, not_false_eq_true, not_true_eq_false, or_true, true_or, or_false, false_or, or_self, false_and, and_false, eq_self, mI_sL, mI_sD, mI_sR, mI_tk, mL_sI, mL_sD, mL_sR, mL_tk, mD_sI, mD_sL, mD_sR, mD_tk, mR_sI, mR_sL, mR_sD, mR_tk, mT_sI, mT_sL, mT_sD, mT_sR, mT_tk, mK_sI, mK_sL, mK_sD, mK_sR, mK_tk, mN_sI, mN_sL, mN_sD, mN_sR, mN_tk, nx_sI, nx_sL, nx_sD, nx_sR, uC_sI, uC_sL, uC_sD, uC_sR, uS_sI, uS_sL, uS_sD, uS_sR, nx_tk, uC_tk, uS_tk, e68, e92, e69, h98, r1]
        refine ⟨fun z => by rw [step]; exact i1 z, fun q q1 q2 q3 q4 q5 => ?_⟩
        by_cases e : q = k
        · subst e; exact absurd o q4
        · rw [step]; exact i2 q q1 q2 (by omega) q4 q5
      · rw [pBF o] at r1
        refine ⟨fun z => absurd (z k hin.1 hin.2) o, fun q q1 q2 q3 q4 q5 => ?_⟩
        obtain rfl : q = k := by
          by_cases e : q = k
          · exact e
          · exact absurd (q5 k hin.1 (by omega)) o
        refine ⟨S3, hS3, ?_⟩
        rw [st_X12_inTrace_15]
        unfold d_X12_inTrace_15b
        simp (disch := first | omega | (simp (disch := omega) only [← Nat.add_assoc, Nat.add_sub_cancel, Nat.sub_zero, as21, as31, as32, and_self, and_true, true_and, l_0, l_1, l_2, l_3, l_4, l_5, l_6, l_7, l_8, l_9, l_10, l_11, l_12, l_13, l_14, l_15, l_16, l_17, l_18, l_19, l_20, l_21, l_22, l_23, l_24, l_25, l_26, l_27, l_28, l_29, l_30, l_31, l_32, l_33, l_34, l_35, l_36, l_37, l_38, l_39, l_40, l_41, l_42, l_43, l_44, l_45, l_47, l_48, l_50, l_52, l_60, l_61, l_63, l_80, l_99, l_100, l_101, l_102, l_103, l_105, l_106, l_107, l_108, l_109, l_110, l_111, l_112, l_114, l_115, l_116, l_117, l_118, l_119, l_120, l_122, l_168, l_200, l_320, l_360, l_528, l_548, l_1000, l_1023, l_2000, l_3000, l_1000000, qadd, qmul, qsub, qdiv, qcl, qinT, qchT, qleT, qleF, qltT, qltF, qeqT, qeqF, qneg_ne, bo0, bo1, qneg_ne', qneg_lt, mI_eq, mD_eq, mL_eq, mR_eq, mI_at, mD_at, mL_at, mI_ne, mD_ne, mL_ne, mR_ne, not_false_eq_true, not_true_eq_false, or_true, true_or, or_false, false_or, or_self, false_and, and_false, eq_self, mI_sL, mI_sD, mI_sR, mI_tk, mL_sI, mL_sD, mL_sR, mL_tk, mD_sI, mD_sL, mD_sR, mD_tk, mR_sI, mR_sL, mR_sD, mR_tk, mT_sI, mT_sL, mT_sD, mT_sR, mT_tk, mK_sI, mK_sL, mK_sD, mK_sR, mK_tk, mN_sI, mN_sL, mN_sD, mN_sR, mN_tk, nx_sI, nx_sL, nx_sD, nx_sR, uC_sI, uC_sL, uC_sD, uC_sR, uS_sI, uS_sL, uS_sD, uS_sR, nx_tk, uC_tk, uS_tk, e68, e92, e69, h98, r1]; done) | fail) only [↓okk_pos, ↓okk_T, ↓bnd_eq, ↓obind, ↓bind_okk, ↓bind_bnd, ↓bind_ite, ↓bind_bind, ↓reduceIte, ← Nat.add_assoc, Nat.add_sub_cancel, Nat.sub_zero, as21, as31, as32, and_self, and_true, true_and, l_0, l_1, l_2, l_3, l_4, l_5, l_6, l_7, l_8, l_9, l_10, l_11, l_12, l_13, l_14, l_15, l_16, l_17, l_18, l_19, l_20, l_21, l_22, l_23, l_24, l_25, l_26, l_27, l_28, l_29, l_30, l_31, l_32, l_33, l_34, l_35, l_36, l_37, l_38, l_39, l_40, l_41, l_42, l_43, l_44, l_45, l_47, l_48, l_50, l_52, l_60, l_61, l_63, l_80, l_99, l_100, l_101, l_102, l_103, l_105, l_106, l_107, l_108, l_109, l_110, l_111, l_112, l_114, l_115, l_116, l_117, l_118, l_119, l_120, l_122, l_168, l_200, l_320, l_360, l_528, l_548, l_1000, l_1023, l_2000, l_3000, l_1000000, qadd, qmul, qsub, qdiv, qcl, qinT, qchT, qleT, qleF, qltT, qltF, qeqT, qeqF, qneg_ne, bo0, bo1, qneg_ne', qneg_lt, mI_eq, mD_eq, mL_eq, mR_eq, mI_at, mD_at, mL_at, mI_ne, mD_ne, mL_ne, mR_ne, not_false_eq_true, not_true_eq_false, or_true, true_or, or_false, false_or, or_self, false_and, and_false, eq_self, mI_sL, mI_sD, mI_sR, mI_tk, mL_sI, mL_sD, mL_sR, mL_tk, mD_sI, mD_sL, mD_sR, mD_tk, mR_sI, mR_sL, mR_sD, mR_tk, mT_sI, mT_sL, mT_sD, mT_sR, mT_tk, mK_sI, mK_sL, mK_sD, mK_sR, mK_tk, mN_sI, mN_sL, mN_sD, mN_sR, mN_tk, nx_sI, nx_sL, nx_sD, nx_sR, uC_sI, uC_sL, uC_sD, uC_sR, uS_sI, uS_sL, uS_sD, uS_sR, nx_tk, uC_tk, uS_tk, e68, e92, e69, h98, r1]
    · have h98 : ¬ mI S2 98 (120 * t + k) = nI at_ := by rw [e98]; exact fun y => hin ((hst k (by omega)).mp y)
      obtain ⟨i1, i2⟩ := ih (k + 1) m S2 (by omega) (by omega) hS2 (fun i x1 x2 x3 => hpre i x1 x2 (by omega))
      have step : d_X12_inTrace_15 (m + 1) (nI k) S2 = d_X12_inTrace_15 m (nI (k + 1)) S2 := by
        rw [st_X12_inTrace_15]
        unfold d_X12_inTrace_15b
        simp (disch := first | omega | (simp (disch := omega) only [← Nat.add_assoc, Nat.add_sub_cancel, Nat.sub_zero, as21, as31, as32, and_self, and_true, true_and, l_0, l_1, l_2, l_3, l_4, l_5, l_6, l_7, l_8, l_9, l_10, l_11, l_12, l_13, l_14, l_15, l_16, l_17, l_18, l_19, l_20, l_21, l_22, l_23, l_24, l_25, l_26, l_27, l_28, l_29, l_30, l_31, l_32, l_33, l_34, l_35, l_36, l_37, l_38, l_39, l_40, l_41, l_42, l_43, l_44, l_45, l_47, l_48, l_50, l_52, l_60, l_61, l_63, l_80, l_99, l_100, l_101, l_102, l_103, l_105, l_106, l_107, l_108, l_109, l_110, l_111, l_112, l_114, l_115, l_116, l_117, l_118, l_119, l_120, l_122, l_168, l_200, l_320, l_360, l_528, l_548, l_1000, l_1023, l_2000, l_3000, l_1000000, qadd, qmul, qsub, qdiv, qcl, qinT, qchT, qleT, qleF, qltT, qltF, qeqT, qeqF, qneg_ne, bo0, bo1, qneg_ne', qneg_lt, mI_eq, mD_eq, mL_eq, mR_eq, mI_at, mD_at, mL_at, mI_ne, mD_ne, mL_ne, mR_ne, not_false_eq_true, not_true_eq_false, or_true, true_or, or_false, false_or, or_self, false_and, and_false, eq_self, mI_sL, mI_sD, mI_sR, mI_tk, mL_sI, mL_sD, mL_sR, mL_tk, mD_sI, mD_sL, mD_sR, mD_tk, mR_sI, mR_sL, mR_sD, mR_tk, mT_sI, mT_sL, mT_sD, mT_sR, mT_tk, mK_sI, mK_sL, mK_sD, mK_sR, mK_tk, mN_sI, mN_sL, mN_sD, mN_sR, mN_tk, nx_sI, nx_sL, nx_sD, nx_sR, uC_sI, uC_sL, uC_sD, uC_sR, uS_sI, uS_sL, uS_sD, uS_sR, nx_tk, uC_tk, uS_tk, e68, e92, e69, h98]; done) | fail) only [↓okk_pos, ↓okk_T, ↓bnd_eq, ↓obind, ↓bind_okk, ↓bind_bnd, ↓bind_ite, ↓bind_bind, ↓reduceIte, ↓tq_X12_inTrace_65, ← Nat.add_assoc, Nat.add_sub_cancel, Nat.sub_zero, as21, as31, as32, and_self, and_true, true_and, l_0, l_1, l_2, l_3, l_4, l_5, l_6, l_7, l_8, l_9, l_10, l_11, l_12, l_13, l_14, l_15, l_16, l_17, l_18, l_19, l_20, l_21, l_22, l_23, l_24, l_25, l_26, l_27, l_28, l_29, l_30, l_31, l_32, l_33, l_34, l_35, l_36, l_37, l_38, l_39, l_40, l_41, l_42, l_43, l_44, l_45, l_47, l_48, l_50, l_52, l_60, l_61, l_63, l_80, l_99, l_100, l_101, l_102, l_103, l_105, l_106, l_107, l_108, l_109, l_110, l_111, l_112, l_114, l_115, l_116, l_117, l_118, l_119, l_120, l_122, l_168, l_200, l_320, l_360, l_528, l_548, l_1000, l_1023, l_2000, l_3000, l_1000000, qadd, qmul, qsub, qdiv, qcl, qinT, qchT, qleT, qleF, qltT, qltF, qeqT, qeqF, qneg_ne, bo0, bo1, qneg_ne', qneg_lt, mI_eq, mD_eq, mL_eq, mR_eq, mI_at, mD_at, mL_at, mI_ne, mD_ne, mL_ne, mR_ne, not_false_eq_true, not_true_eq_false, or_true, true_or, or_false, false_or, or_self, false_and, and_false, eq_self, mI_sL, mI_sD, mI_sR, mI_tk, mL_sI, mL_sD, mL_sR, mL_tk, mD_sI, mD_sL, mD_sR, mD_tk, mR_sI, mR_sL, mR_sD, mR_tk, mT_sI, mT_sL, mT_sD, mT_sR, mT_tk, mK_sI, mK_sL, mK_sD, mK_sR, mK_tk, mN_sI, mN_sL, mN_sD, mN_sR, mN_tk, nx_sI, nx_sL, nx_sD, nx_sR, uC_sI, uC_sL, uC_sD, uC_sR, uS_sI, uS_sL, uS_sD, uS_sR, nx_tk, uC_tk, uS_tk, e68, e92, e69, h98]
      refine ⟨fun z => by rw [step]; exact i1 z, fun q q1 q2 q3 q4 q5 => ?_⟩
      rw [step]
      exact i2 q q1 q2 (by omega) q4 q5
end MO5
