/-! ===== a recorded step of both ===== -/
section MH4
/-- what giving facts touches -/
def NBF (N N3 : Mem) : Prop := (∀ a j, a ≠ 23 → a ≠ 55 → (a ≠ 48 ∨ j ≠ 9) → mI N3 a j = mI N a j) ∧ (∀ a j, mD N3 a j = mD N a j ∧ mL N3 a j = mL N a j) ∧ N3.2.2.2 = N.2.2.2
theorem NBF.refl (N : Mem) : NBF N N := ⟨fun _ _ _ _ _ => rfl, fun _ _ => ⟨rfl, rfl⟩, rfl⟩
theorem NBF.gf (N : Mem) (q fc : Nat) (m : Int32) : NBF N (gfM N q fc m) := ⟨fun a j h1 h2 h3 => by unfold gfM; rw [mI_ne (by omega), mI_ne (by omega), mI_ne (by omega)], fun _ _ => ⟨rfl, rfl⟩, rfl⟩
theorem NBF.gF (N : Mem) (q m fc k : Nat) : NBF N (gfF N q m fc k) := ⟨fun a j h1 h2 h3 => gfF_n ⟨h1, h2, h3⟩ k, fun a j => gfF_D k, gfF_t k⟩
/-- facts do not matter to the machine -/
theorem rc_nb {N N3 F : Mem} {d ns : Nat} (hR : RC N F 18 d ns) (h : NBF N N3) : RC N3 F 18 d ns := by
  obtain ⟨n1, n2, -⟩ := h
  obtain ⟨hRV, hRF, hRT, hRO, hRA, hRS, hPR⟩ := hR
  have e : ∀ a j, a < 23 → mI N3 a j = mI N a j := fun a j h1 => n1 a j (by omega) (by omega) (by omega)
  have e2 : ∀ a j, 23 < a → a < 28 → mI N3 a j = mI N a j := fun a j h1 h2 => n1 a j (by omega) (by omega) (by omega)
  refine ⟨fun p hp => ?_, fun p hp => ?_, ⟨fun i hi => ?_, ?_⟩, ?_, ⟨?_, fun f hf => ?_⟩, ?_, ?_⟩
  · rw [e _ _ (by omega), e _ _ (by omega), (n2 _ _).1]; exact hRV p hp
  · rw [e _ _ (by omega), e _ _ (by omega), (n2 _ _).1]; exact hRF p hp
  · rw [e _ _ (by omega), e _ _ (by omega), (n2 _ _).1]; exact hRT.1 i hi
  · rw [e _ _ (by omega), e _ _ (by omega), (n2 _ _).1]; exact hRT.2
  · unfold RO at hRO ⊢
    rw [e 18 10 (by omega), e 18 12 (by omega), e 18 11 (by omega)]
    exact ⟨hRO.1, hRO.2.1, hRO.2.2.1, fun k hk => by rw [e2 _ _ (by omega) (by omega)]; exact hRO.2.2.2 k hk⟩
  · rw [e 18 9 (by omega)]; exact hRA.1
  · rw [e2 _ _ (by omega) (by omega), e2 _ _ (by omega) (by omega), e2 _ _ (by omega) (by omega)]; exact hRA.2 f hf
  · exact RS_e hRS (fun a p h1 h2 => e a p (by omega)) (fun p => rfl) (fun p => rfl) (fun p => rfl) (fun p => rfl) (fun p => rfl)
  · exact PR_e hPR (fun a p h1 h2 => e a p (by omega)) rfl rfl (fun a p _ _ => rfl)
theorem rfp_fr {M N S E : Mem} {b d v : Nat} {φ : Nat → Nat} (h : RFP M S b d φ v) (hNB : NB M N) (hB : SB S E) : RFP N E b d φ v := by
  intro f h1 h2 j hj
  have e111 : mI E 111 f = mI S 111 f := hB.1 111 f (by omega) (by omega)
  unfold hN at hj
  rw [e111] at hj
  obtain ⟨u, u1, u2, u3⟩ := h f h1 h2 j hj
  exact ⟨u, u1, (hB.1 108 _ (by omega) (by omega)).trans u2, (hNB.1 23 _ (by omega)).trans u3⟩
def RSC (M S : Mem) (c d b f i k g v fc ns ob nc nf : Nat) (a : Int32) (bk : Prop) : Prop := ∃ N E N2 F N3 v' fc' φ' gg d' ns' ob', d_X6_noteAhead M = some ((), N) ∧ d_X12_guards (nI c) S = some ((), E) ∧ d_X3_execute 18 N = some (pB bk, N2) ∧ d_X12_executes (lnR E k f i) = some ((), F) ∧ d_X6_noteBehind (nI c) N2 = some ((), N3) ∧ (RC N3 F 18 d' ns' ∧ WW F d' ob' ns' nc nf ∧ ns ≤ ns' ∧ ob ≤ ob') ∧ (RECX N3 F v' fc' φ' gg (k + 1) ∧ RFP N3 F b d' φ' v' ∧ b ≤ d' ∧ v' ≤ v + 6 ∧ fc' ≤ fc + 6 ∧ v ≤ v' ∧ gg ≤ g + 4) ∧ NAF M N k (nI (100 * f + i)) (nI g) ∧ GDF S E g k gg ∧ d_X12_why (lnR E k f i) = some (nI 0, lnR E k f i) ∧ ST N (lnR E k f i) N2 F 18 ∧ NBF N2 N3 ∧ (bk → d' = d ∧ mI F 110 d = a ∧ mI F 109 d = mI S 109 d)
theorem st_M {N S N2 F : Mem} (h : ST N S N2 F 18) : ∀ a j, 47 < a → a < 56 → mI N2 a j = mI N a j := fun a j h1 h2 => h.2.1.1 a j (by omega)
theorem st_S {N S N2 F : Mem} (h : ST N S N2 F 18) : ∀ a j, (a = 69 ∧ (j = 76 ∨ j = 78)) ∨ (118 < a ∧ a < 123) → mI F a j = mI S a j := fun a j h1 => h.1.1 a j (by omega)
theorem kb_ke {S F : Mem} (h : KE S F) (u : Nat) : kb F u = kb S u := kb_e (h.2 u)
theorem ww_H {S : Mem} {d ob ns nc nf : Nat} (hW : WW S d ob ns nc nf) : ∀ f, f ≤ d → hN S f ≤ 8 := fun f hf => hN_le hW.1 hf
/-- letters after which no facts are given -/
theorem nb_no {N2 : Mem} {c : Nat} (hx : xIdx 5 (nI c) = -nI 1) (h1 : c ≠ 99 ∧ c ≠ 109) (hc : c < 1000) : d_X6_noteBehind (nI c) N2 = some ((), N2) := by
  unfold d_X6_noteBehind
  simp (disch := first | omega | (simp (disch := omega) only [← Nat.add_assoc, Nat.add_sub_cancel, Nat.sub_zero, as21, as31, as32, and_self, and_true, true_and, l_0, l_1, l_2, l_3, l_4, l_5, l_6, l_7, l_8, l_9, l_10, l_11, l_12, l_13, l_14, l_15, l_16, l_17, l_18, l_19, l_20, l_21, l_22, l_23, l_24, l_25, l_26, l_27, l_28, l_29, l_30, l_31, l_32, l_33, l_34, l_35, l_36, l_37, l_38, l_39, l_40, l_41, l_42, l_43, l_44, l_45, l_47, l_48, l_50, l_52, l_60, l_61, l_63, l_80, l_99, l_100, l_101, l_102, l_103, l_105, l_106, l_107, l_108, l_109, l_110, l_111, l_112, l_114, l_115, l_116, l_117, l_118, l_119, l_120, l_122, l_168, l_200, l_320, l_360, l_528, l_548, l_1000, l_1023, l_2000, l_3000, l_1000000, qadd, qmul, qsub, qdiv, qcl, qinT, qchT, qleT, qleF, qltT, qltF, qeqT, qeqF, qneg_ne, bo0, bo1, qneg_ne', qneg_lt, mI_eq, mD_eq, mL_eq, mR_eq, mI_at, mD_at, mL_at, mI_ne, mD_ne, mL_ne, mR_ne, not_false_eq_true, not_true_eq_false, or_true, true_or, or_false, false_or, or_self, false_and, and_false, eq_self, mI_sL, mI_sD, mI_sR, mI_tk, mL_sI, mL_sD, mL_sR, mL_tk, mD_sI, mD_sL, mD_sR, mD_tk, mR_sI, mR_sL, mR_sD, mR_tk, mT_sI, mT_sL, mT_sD, mT_sR, mT_tk, mK_sI, mK_sL, mK_sD, mK_sR, mK_tk, mN_sI, mN_sL, mN_sD, mN_sR, mN_tk, nx_sI, nx_sL, nx_sD, nx_sR, uC_sI, uC_sL, uC_sD, uC_sR, uS_sI, uS_sL, uS_sD, uS_sR, nx_tk, uC_tk, uS_tk, hx, neg_lt0]; done) | fail) only [↓okk_pos, ↓okk_T, ↓bnd_eq, ↓obind, ↓bind_okk, ↓bind_bnd, ↓bind_ite, ↓bind_bind, ↓reduceIte, ← Nat.add_assoc, Nat.add_sub_cancel, Nat.sub_zero, as21, as31, as32, and_self, and_true, true_and, l_0, l_1, l_2, l_3, l_4, l_5, l_6, l_7, l_8, l_9, l_10, l_11, l_12, l_13, l_14, l_15, l_16, l_17, l_18, l_19, l_20, l_21, l_22, l_23, l_24, l_25, l_26, l_27, l_28, l_29, l_30, l_31, l_32, l_33, l_34, l_35, l_36, l_37, l_38, l_39, l_40, l_41, l_42, l_43, l_44, l_45, l_47, l_48, l_50, l_52, l_60, l_61, l_63, l_80, l_99, l_100, l_101, l_102, l_103, l_105, l_106, l_107, l_108, l_109, l_110, l_111, l_112, l_114, l_115, l_116, l_117, l_118, l_119, l_120, l_122, l_168, l_200, l_320, l_360, l_528, l_548, l_1000, l_1023, l_2000, l_3000, l_1000000, qadd, qmul, qsub, qdiv, qcl, qinT, qchT, qleT, qleF, qltT, qltF, qeqT, qeqF, qneg_ne, bo0, bo1, qneg_ne', qneg_lt, mI_eq, mD_eq, mL_eq, mR_eq, mI_at, mD_at, mL_at, mI_ne, mD_ne, mL_ne, mR_ne, not_false_eq_true, not_true_eq_false, or_true, true_or, or_false, false_or, or_self, false_and, and_false, eq_self, mI_sL, mI_sD, mI_sR, mI_tk, mL_sI, mL_sD, mL_sR, mL_tk, mD_sI, mD_sL, mD_sR, mD_tk, mR_sI, mR_sL, mR_sD, mR_tk, mT_sI, mT_sL, mT_sD, mT_sR, mT_tk, mK_sI, mK_sL, mK_sD, mK_sR, mK_tk, mN_sI, mN_sL, mN_sD, mN_sR, mN_tk, nx_sI, nx_sL, nx_sD, nx_sR, uC_sI, uC_sL, uC_sD, uC_sR, uS_sI, uS_sL, uS_sD, uS_sR, nx_tk, uC_tk, uS_tk, hx, neg_lt0]
theorem nb_mk {N2 : Mem} {c d h q fc x : Nat} (hx : xIdx 5 (nI c) = nI x) (hx1 : x < 100) (gd : mI N2 18 9 = nI (d + 1)) (hd1 : d < 12) (gh : mI N2 26 d = nI h) (h8 : h ≤ 8) (hq : q + 1 = 14 * d + 6 + h) (h9 : mI N2 48 9 = nI fc) (hf : fc < 378) : d_X6_noteBehind (nI c) N2 = some ((), gfM N2 q fc (mI N2 48 15)) := by
  have e1 := k_from (p := q) (x := 1) gd hd1 gh h8 hq
  have e2 := k_give (M := N2) (p := q) (m := mI N2 48 15) (by omega) h9 hf
  unfold d_X6_noteBehind
  simp (disch := first | omega | (simp (disch := omega) only [← Nat.add_assoc, Nat.add_sub_cancel, Nat.sub_zero, as21, as31, as32, and_self, and_true, true_and, l_0, l_1, l_2, l_3, l_4, l_5, l_6, l_7, l_8, l_9, l_10, l_11, l_12, l_13, l_14, l_15, l_16, l_17, l_18, l_19, l_20, l_21, l_22, l_23, l_24, l_25, l_26, l_27, l_28, l_29, l_30, l_31, l_32, l_33, l_34, l_35, l_36, l_37, l_38, l_39, l_40, l_41, l_42, l_43, l_44, l_45, l_47, l_48, l_50, l_52, l_60, l_61, l_63, l_80, l_99, l_100, l_101, l_102, l_103, l_105, l_106, l_107, l_108, l_109, l_110, l_111, l_112, l_114, l_115, l_116, l_117, l_118, l_119, l_120, l_122, l_168, l_200, l_320, l_360, l_528, l_548, l_1000, l_1023, l_2000, l_3000, l_1000000, qadd, qmul, qsub, qdiv, qcl, qinT, qchT, qleT, qleF, qltT, qltF, qeqT, qeqF, qneg_ne, bo0, bo1, qneg_ne', qneg_lt, mI_eq, mD_eq, mL_eq, mR_eq, mI_at, mD_at, mL_at, mI_ne, mD_ne, mL_ne, mR_ne, not_false_eq_true, not_true_eq_false, or_true, true_or, or_false, false_or, or_self, false_and, and_false, eq_self, mI_sL, mI_sD, mI_sR, mI_tk, mL_sI, mL_sD, mL_sR, mL_tk, mD_sI, mD_sL, mD_sR, mD_tk, mR_sI, mR_sL, mR_sD, mR_tk, mT_sI, mT_sL, mT_sD, mT_sR, mT_tk, mK_sI, mK_sL, mK_sD, mK_sR, mK_tk, mN_sI, mN_sL, mN_sD, mN_sR, mN_tk, nx_sI, nx_sL, nx_sD, nx_sR, uC_sI, uC_sL, uC_sD, uC_sR, uS_sI, uS_sL, uS_sD, uS_sR, nx_tk, uC_tk, uS_tk, hx, e1, e2]; done) | fail) only [↓okk_pos, ↓okk_T, ↓bnd_eq, ↓obind, ↓bind_okk, ↓bind_bnd, ↓bind_ite, ↓bind_bind, ↓reduceIte, ← Nat.add_assoc, Nat.add_sub_cancel, Nat.sub_zero, as21, as31, as32, and_self, and_true, true_and, l_0, l_1, l_2, l_3, l_4, l_5, l_6, l_7, l_8, l_9, l_10, l_11, l_12, l_13, l_14, l_15, l_16, l_17, l_18, l_19, l_20, l_21, l_22, l_23, l_24, l_25, l_26, l_27, l_28, l_29, l_30, l_31, l_32, l_33, l_34, l_35, l_36, l_37, l_38, l_39, l_40, l_41, l_42, l_43, l_44, l_45, l_47, l_48, l_50, l_52, l_60, l_61, l_63, l_80, l_99, l_100, l_101, l_102, l_103, l_105, l_106, l_107, l_108, l_109, l_110, l_111, l_112, l_114, l_115, l_116, l_117, l_118, l_119, l_120, l_122, l_168, l_200, l_320, l_360, l_528, l_548, l_1000, l_1023, l_2000, l_3000, l_1000000, qadd, qmul, qsub, qdiv, qcl, qinT, qchT, qleT, qleF, qltT, qltF, qeqT, qeqF, qneg_ne, bo0, bo1, qneg_ne', qneg_lt, mI_eq, mD_eq, mL_eq, mR_eq, mI_at, mD_at, mL_at, mI_ne, mD_ne, mL_ne, mR_ne, not_false_eq_true, not_true_eq_false, or_true, true_or, or_false, false_or, or_self, false_and, and_false, eq_self, mI_sL, mI_sD, mI_sR, mI_tk, mL_sI, mL_sD, mL_sR, mL_tk, mD_sI, mD_sL, mD_sR, mD_tk, mR_sI, mR_sL, mR_sD, mR_tk, mT_sI, mT_sL, mT_sD, mT_sR, mT_tk, mK_sI, mK_sL, mK_sD, mK_sR, mK_tk, mN_sI, mN_sL, mN_sD, mN_sR, mN_tk, nx_sI, nx_sL, nx_sD, nx_sR, uC_sI, uC_sL, uC_sD, uC_sR, uS_sI, uS_sL, uS_sD, uS_sR, nx_tk, uC_tk, uS_tk, hx, e1, e2]
theorem nb_cl {N2 : Mem} {c d f m fc : Nat} (hc : c = 99 ∨ c = 109) (hx : xIdx 5 (nI c) = -nI 1) (gd : mI N2 18 9 = nI (d + 1)) (hd1 : d < 12) (gf : mI N2 24 d = nI f) (hf1 : f < 8) (gm : mI N2 3 f = nI m) (hm : m ≤ 6) (h9 : mI N2 48 9 = nI fc) (hf : fc + 6 < 378) : d_X6_noteBehind (nI c) N2 = some ((), gfF N2 (14 * d) m fc 6) := by
  have e0 : ∀ k, k ≤ m → gfF N2 (14 * d) m fc k = N2 := by
    intro k
    induction k with
    | zero => intro _; rfl
    | succ k ih => intro hk; show ite _ _ _ = _; rw [if_pos (by omega)]; exact ih (by omega)
  have e1 := nb_loop (M := N2) (m := m) hd1 h9 hf (6 - m) m fuel (by omega) (Nat.le_refl _) (by have := fuel_big; omega)
  rw [e0 m (Nat.le_refl _)] at e1
  have e2 : d_X6_noteBehind_41 N2 = some ((), gfF N2 (14 * d) m fc 6) := by
    unfold d_X6_noteBehind_41
    simp (disch := first | omega | (simp (disch := omega) only [← Nat.add_assoc, Nat.add_sub_cancel, Nat.sub_zero, as21, as31, as32, and_self, and_true, true_and, l_0, l_1, l_2, l_3, l_4, l_5, l_6, l_7, l_8, l_9, l_10, l_11, l_12, l_13, l_14, l_15, l_16, l_17, l_18, l_19, l_20, l_21, l_22, l_23, l_24, l_25, l_26, l_27, l_28, l_29, l_30, l_31, l_32, l_33, l_34, l_35, l_36, l_37, l_38, l_39, l_40, l_41, l_42, l_43, l_44, l_45, l_47, l_48, l_50, l_52, l_60, l_61, l_63, l_80, l_99, l_100, l_101, l_102, l_103, l_105, l_106, l_107, l_108, l_109, l_110, l_111, l_112, l_114, l_115, l_116, l_117, l_118, l_119, l_120, l_122, l_168, l_200, l_320, l_360, l_528, l_548, l_1000, l_1023, l_2000, l_3000, l_1000000, qadd, qmul, qsub, qdiv, qcl, qinT, qchT, qleT, qleF, qltT, qltF, qeqT, qeqF, qneg_ne, bo0, bo1, qneg_ne', qneg_lt, mI_eq, mD_eq, mL_eq, mR_eq, mI_at, mD_at, mL_at, mI_ne, mD_ne, mL_ne, mR_ne, not_false_eq_true, not_true_eq_false, or_true, true_or, or_false, false_or, or_self, false_and, and_false, eq_self, mI_sL, mI_sD, mI_sR, mI_tk, mL_sI, mL_sD, mL_sR, mL_tk, mD_sI, mD_sL, mD_sR, mD_tk, mR_sI, mR_sL, mR_sD, mR_tk, mT_sI, mT_sL, mT_sD, mT_sR, mT_tk, mK_sI, mK_sL, mK_sD, mK_sR, mK_tk, mN_sI, mN_sL, mN_sD, mN_sR, mN_tk, nx_sI, nx_sL, nx_sD, nx_sR, uC_sI, uC_sL, uC_sD, uC_sR, uS_sI, uS_sL, uS_sD, uS_sR, nx_tk, uC_tk, uS_tk, gd, gf, gm, e1]; done) | fail) only [↓okk_pos, ↓okk_T, ↓bnd_eq, ↓obind, ↓bind_okk, ↓bind_bnd, ↓bind_ite, ↓bind_bind, ↓reduceIte, ↓bq_X3_functionAhead, ← Nat.add_assoc, Nat.add_sub_cancel, Nat.sub_zero, as21, as31, as32, and_self, and_true, true_and, l_0, l_1, l_2, l_3, l_4, l_5, l_6, l_7, l_8, l_9, l_10, l_11, l_12, l_13, l_14, l_15, l_16, l_17, l_18, l_19, l_20, l_21, l_22, l_23, l_24, l_25, l_26, l_27, l_28, l_29, l_30, l_31, l_32, l_33, l_34, l_35, l_36, l_37, l_38, l_39, l_40, l_41, l_42, l_43, l_44, l_45, l_47, l_48, l_50, l_52, l_60, l_61, l_63, l_80, l_99, l_100, l_101, l_102, l_103, l_105, l_106, l_107, l_108, l_109, l_110, l_111, l_112, l_114, l_115, l_116, l_117, l_118, l_119, l_120, l_122, l_168, l_200, l_320, l_360, l_528, l_548, l_1000, l_1023, l_2000, l_3000, l_1000000, qadd, qmul, qsub, qdiv, qcl, qinT, qchT, qleT, qleF, qltT, qltF, qeqT, qeqF, qneg_ne, bo0, bo1, qneg_ne', qneg_lt, mI_eq, mD_eq, mL_eq, mR_eq, mI_at, mD_at, mL_at, mI_ne, mD_ne, mL_ne, mR_ne, not_false_eq_true, not_true_eq_false, or_true, true_or, or_false, false_or, or_self, false_and, and_false, eq_self, mI_sL, mI_sD, mI_sR, mI_tk, mL_sI, mL_sD, mL_sR, mL_tk, mD_sI, mD_sL, mD_sR, mD_tk, mR_sI, mR_sL, mR_sD, mR_tk, mT_sI, mT_sL, mT_sD, mT_sR, mT_tk, mK_sI, mK_sL, mK_sD, mK_sR, mK_tk, mN_sI, mN_sL, mN_sD, mN_sR, mN_tk, nx_sI, nx_sL, nx_sD, nx_sR, uC_sI, uC_sL, uC_sD, uC_sR, uS_sI, uS_sL, uS_sD, uS_sR, nx_tk, uC_tk, uS_tk, gd, gf, gm, e1]
  unfold d_X6_noteBehind
  rcases hc with rfl | rfl
  · simp (disch := first | omega | (simp (disch := omega) only [← Nat.add_assoc, Nat.add_sub_cancel, Nat.sub_zero, as21, as31, as32, and_self, and_true, true_and, l_0, l_1, l_2, l_3, l_4, l_5, l_6, l_7, l_8, l_9, l_10, l_11, l_12, l_13, l_14, l_15, l_16, l_17, l_18, l_19, l_20, l_21, l_22, l_23, l_24, l_25, l_26, l_27, l_28, l_29, l_30, l_31, l_32, l_33, l_34, l_35, l_36, l_37, l_38, l_39, l_40, l_41, l_42, l_43, l_44, l_45, l_47, l_48, l_50, l_52, l_60, l_61, l_63, l_80, l_99, l_100, l_101, l_102, l_103, l_105, l_106, l_107, l_108, l_109, l_110, l_111, l_112, l_114, l_115, l_116, l_117, l_118, l_119, l_120, l_122, l_168, l_200, l_320, l_360, l_528, l_548, l_1000, l_1023, l_2000, l_3000, l_1000000, qadd, qmul, qsub, qdiv, qcl, qinT, qchT, qleT, qleF, qltT, qltF, qeqT, qeqF, qneg_ne, bo0, bo1, qneg_ne', qneg_lt, mI_eq, mD_eq, mL_eq, mR_eq, mI_at, mD_at, mL_at, mI_ne, mD_ne, mL_ne, mR_ne, not_false_eq_true, not_true_eq_false, or_true, true_or, or_false, false_or, or_self, false_and, and_false, eq_self, mI_sL, mI_sD, mI_sR, mI_tk, mL_sI, mL_sD, mL_sR, mL_tk, mD_sI, mD_sL, mD_sR, mD_tk, mR_sI, mR_sL, mR_sD, mR_tk, mT_sI, mT_sL, mT_sD, mT_sR, mT_tk, mK_sI, mK_sL, mK_sD, mK_sR, mK_tk, mN_sI, mN_sL, mN_sD, mN_sR, mN_tk, nx_sI, nx_sL, nx_sD, nx_sR, uC_sI, uC_sL, uC_sD, uC_sR, uS_sI, uS_sL, uS_sD, uS_sR, nx_tk, uC_tk, uS_tk, hx, neg_lt0, e2]; done) | fail) only [↓okk_pos, ↓okk_T, ↓bnd_eq, ↓obind, ↓bind_okk, ↓bind_bnd, ↓bind_ite, ↓bind_bind, ↓reduceIte, ← Nat.add_assoc, Nat.add_sub_cancel, Nat.sub_zero, as21, as31, as32, and_self, and_true, true_and, l_0, l_1, l_2, l_3, l_4, l_5, l_6, l_7, l_8, l_9, l_10, l_11, l_12, l_13, l_14, l_15, l_16, l_17, l_18, l_19, l_20, l_21, l_22, l_23, l_24, l_25, l_26, l_27, l_28, l_29, l_30, l_31, l_32, l_33, l_34, l_35, l_36, l_37, l_38, l_39, l_40, l_41, l_42, l_43, l_44, l_45, l_47, l_48, l_50, l_52, l_60, l_61, l_63, l_80, l_99, l_100, l_101, l_102, l_103, l_105, l_106, l_107, l_108, l_109, l_110, l_111, l_112, l_114, l_115, l_116, l_117, l_118, l_119, l_120, l_122, l_168, l_200, l_320, l_360, l_528, l_548, l_1000, l_1023, l_2000, l_3000, l_1000000, qadd, qmul, qsub, qdiv, qcl, qinT, qchT, qleT, qleF, qltT, qltF, qeqT, qeqF, qneg_ne, bo0, bo1, qneg_ne', qneg_lt, mI_eq, mD_eq, mL_eq, mR_eq, mI_at, mD_at, mL_at, mI_ne, mD_ne, mL_ne, mR_ne, not_false_eq_true, not_true_eq_false, or_true, true_or, or_false, false_or, or_self, false_and, and_false, eq_self, mI_sL, mI_sD, mI_sR, mI_tk, mL_sI, mL_sD, mL_sR, mL_tk, mD_sI, mD_sL, mD_sR, mD_tk, mR_sI, mR_sL, mR_sD, mR_tk, mT_sI, mT_sL, mT_sD, mT_sR, mT_tk, mK_sI, mK_sL, mK_sD, mK_sR, mK_tk, mN_sI, mN_sL, mN_sD, mN_sR, mN_tk, nx_sI, nx_sL, nx_sD, nx_sR, uC_sI, uC_sL, uC_sD, uC_sR, uS_sI, uS_sL, uS_sD, uS_sR, nx_tk, uC_tk, uS_tk, hx, neg_lt0, e2]
  · simp (disch := first | omega | (simp (disch := omega) only [← Nat.add_assoc, Nat.add_sub_cancel, Nat.sub_zero, as21, as31, as32, and_self, and_true, true_and, l_0, l_1, l_2, l_3, l_4, l_5, l_6, l_7, l_8, l_9, l_10, l_11, l_12, l_13, l_14, l_15, l_16, l_17, l_18, l_19, l_20, l_21, l_22, l_23, l_24, l_25, l_26, l_27, l_28, l_29, l_30, l_31, l_32, l_33, l_34, l_35, l_36, l_37, l_38, l_39, l_40, l_41, l_42, l_43, l_44, l_45, l_47, l_48, l_50, l_52, l_60, l_61, l_63, l_80, l_99, l_100, l_101, l_102, l_103, l_105, l_106, l_107, l_108, l_109, l_110, l_111, l_112, l_114, l_115, l_116, l_117, l_118, l_119, l_120, l_122, l_168, l_200, l_320, l_360, l_528, l_548, l_1000, l_1023, l_2000, l_3000, l_1000000, qadd, qmul, qsub, qdiv, qcl, qinT, qchT, qleT, qleF, qltT, qltF, qeqT, qeqF, qneg_ne, bo0, bo1, qneg_ne', qneg_lt, mI_eq, mD_eq, mL_eq, mR_eq, mI_at, mD_at, mL_at, mI_ne, mD_ne, mL_ne, mR_ne, not_false_eq_true, not_true_eq_false, or_true, true_or, or_false, false_or, or_self, false_and, and_false, eq_self, mI_sL, mI_sD, mI_sR, mI_tk, mL_sI, mL_sD, mL_sR, mL_tk, mD_sI, mD_sL, mD_sR, mD_tk, mR_sI, mR_sL, mR_sD, mR_tk, mT_sI, mT_sL, mT_sD, mT_sR, mT_tk, mK_sI, mK_sL, mK_sD, mK_sR, mK_tk, mN_sI, mN_sL, mN_sD, mN_sR, mN_tk, nx_sI, nx_sL, nx_sD, nx_sR, uC_sI, uC_sL, uC_sD, uC_sR, uS_sI, uS_sL, uS_sD, uS_sR, nx_tk, uC_tk, uS_tk, hx, neg_lt0, e2]; done) | fail) only [↓okk_pos, ↓okk_T, ↓bnd_eq, ↓obind, ↓bind_okk, ↓bind_bnd, ↓bind_ite, ↓bind_bind, ↓reduceIte, ← Nat.add_assoc, Nat.add_sub_cancel, Nat.sub_zero, as21, as31, as32, and_self, and_true, true_and, l_0, l_1, l_2, l_3, l_4, l_5, l_6, l_7, l_8, l_9, l_10, l_11, l_12, l_13, l_14, l_15, l_16, l_17, l_18, l_19, l_20, l_21, l_22, l_23, l_24, l_25, l_26, l_27, l_28, l_29, l_30, l_31, l_32, l_33, l_34, l_35, l_36, l_37, l_38, l_39, l_40, l_41, l_42, l_43, l_44, l_45, l_47, l_48, l_50, l_52, l_60, l_61, l_63, l_80, l_99, l_100, l_101, l_102, l_103, l_105, l_106, l_107, l_108, l_109, l_110, l_111, l_112, l_114, l_115, l_116, l_117, l_118, l_119, l_120, l_122, l_168, l_200, l_320, l_360, l_528, l_548, l_1000, l_1023, l_2000, l_3000, l_1000000, qadd, qmul, qsub, qdiv, qcl, qinT, qchT, qleT, qleF, qltT, qltF, qeqT, qeqF, qneg_ne, bo0, bo1, qneg_ne', qneg_lt, mI_eq, mD_eq, mL_eq, mR_eq, mI_at, mD_at, mL_at, mI_ne, mD_ne, mL_ne, mR_ne, not_false_eq_true, not_true_eq_false, or_true, true_or, or_false, false_or, or_self, false_and, and_false, eq_self, mI_sL, mI_sD, mI_sR, mI_tk, mL_sI, mL_sD, mL_sR, mL_tk, mD_sI, mD_sL, mD_sR, mD_tk, mR_sI, mR_sL, mR_sD, mR_tk, mT_sI, mT_sL, mT_sD, mT_sR, mT_tk, mK_sI, mK_sL, mK_sD, mK_sR, mK_tk, mN_sI, mN_sL, mN_sD, mN_sR, mN_tk, nx_sI, nx_sL, nx_sD, nx_sR, uC_sI, uC_sL, uC_sD, uC_sR, uS_sI, uS_sL, uS_sD, uS_sR, nx_tk, uC_tk, uS_tk, hx, neg_lt0, e2]
theorem gfF_55 {M : Mem} {q m fc : Nat} : ∀ k, (∀ j, j < fc → mI (gfF M q m fc k) 55 j = mI M 55 j) ∧ ∀ i, i < k - m → mI (gfF M q m fc k) 55 (fc + i) = nI 3
  | 0 => ⟨fun _ _ => rfl, fun i h => absurd h (by omega)⟩
  | k + 1 => by
    obtain ⟨h1, h2⟩ := @gfF_55 M q m fc k
    unfold gfF
    split
    · exact ⟨h1, fun i hi => h2 i (by omega)⟩
    · refine ⟨fun j hj => ?_, fun i hi => ?_⟩
      · unfold gfM; rw [mI_ne (by omega), mI_ne (by omega), mI_ne (by omega)]; exact h1 j hj
      · by_cases e : i = k - m
        · subst e; unfold gfM; rw [mI_ne (by omega), mI_eq]
        · unfold gfM; rw [mI_ne (by omega), mI_ne (by omega), mI_ne (by omega)]; exact h2 i (by omega)
theorem rx_cl {M S F : Mem} {v fc g k q m : Nat} {φ : Nat → Nat} (h : RECX M S v fc φ g k) (hm : m ≤ 6) (hv : mI F 69 83 = nI (v + (6 - m))) (hS : ∀ a j, (a = 69 ∧ (j = 76 ∨ j = 78)) ∨ (118 < a ∧ a < 123) → mI F a j = mI S a j) (hb : ∀ u, u < v → kb F u = kb S u) (hm3 : ∀ u, v ≤ u → u < v + (6 - m) → kb F u = nI 3) : RECX (gfF M q m fc 6) F (v + (6 - m)) (fc + (6 - m)) (fun u => if u < v then φ u else fc + (u - v)) g k := by
  obtain ⟨h1, h2, h3, h4, h5, h6, h7, h8, h9⟩ := h
  obtain ⟨f1, f2⟩ := @gfF_55 M q m fc 6
  have g : ∀ a j, a ≠ 23 ∧ a ≠ 55 ∧ (a ≠ 48 ∨ j ≠ 9) → mI (gfF M q m fc 6) a j = mI M a j := fun a j z => gfF_n z 6
  refine ⟨hv, gfF_9 h2 6, (hS _ _ (by omega)).trans h3, (g _ _ (by omega)).trans h4, (hS _ _ (by omega)).trans h5, (g _ _ (by omega)).trans h6, fun u1 u2 y1 y2 y3 => ?_, fun u hu => ?_, fun i hi => ?_⟩
  · have y3' : (if u1 < v then φ u1 else fc + (u1 - v)) = (if u2 < v then φ u2 else fc + (u2 - v)) := y3
    by_cases e1 : u1 < v <;> by_cases e2 : u2 < v
    · rw [if_pos e1, if_pos e2] at y3'; exact h7 u1 u2 e1 e2 y3'
    · rw [if_pos e1, if_neg e2] at y3'
      have := (h8 u1 e1).1
      omega
    · rw [if_neg e1, if_pos e2] at y3'
      have := (h8 u2 e2).1
      omega
    · rw [if_neg e1, if_neg e2] at y3'
      omega
  · show (if u < v then φ u else fc + (u - v)) < fc + (6 - m) ∧ mI (gfF M q m fc 6) 55 (if u < v then φ u else fc + (u - v)) = kb F u
    by_cases e : u < v
    · rw [if_pos e]
      obtain ⟨a1, a2⟩ := h8 u e
      exact ⟨by omega, by rw [f1 _ a1, a2, hb u e]⟩
    · rw [if_neg e]
      exact ⟨by omega, by rw [f2 _ (by omega), hm3 u (by omega) hu]⟩
  · have := h9 i hi
    unfold GA at this ⊢
    rw [hS 119 _ (by omega), hS 120 _ (by omega), hS 121 _ (by omega), hS 122 _ (by omega), g 51 _ (by omega), g 52 _ (by omega), g 53 _ (by omega), g 54 _ (by omega)]
    exact this
def kbv (kk kc ks kz : Int32) : Int32 := pk4 (decide (¬ kk = nI 0)) (decide (¬ kz = nI 0 ∨ kk = nI 111 ∨ kk = nI 110)) (decide (¬ kc = nI 0)) (decide (¬ ks = -nI 1))
theorem kb_kn {S F : Mem} {v : Nat} {kk kc ks kz : Int32} (h : KN S F v kk kc ks kz) : kb F v = kbv kk kc ks kz := by
  obtain ⟨h1, h2, h3, h4, h5, h6⟩ := h
  unfold kb kbv nkP
  simp only [h3, h4, h5, h6]
section
variable {M S N E N2 F : Mem} {c d b f i k g gg v fc ns ob ns2 ob2 nc nf : Nat} {φ : Nat → Nat} {a mk : Int32} {bk : Prop}
/-- nothing new -/
theorem rs_ke (n1 : d_X6_noteAhead M = some ((), N)) (n2 : d_X12_guards (nI c) S = some ((), E)) (n3 : RECX N (lnR E k f i) v fc φ gg (k + 1)) (n4 : gg ≤ g + 4) (n6 : NAF M N k (nI (100 * f + i)) (nI g)) (n7 : GDF S E g k gg) (hy : d_X12_why (lnR E k f i) = some (nI 0, lnR E k f i)) (x1 : d_X3_execute 18 N = some (pB bk, N2)) (x2 : d_X12_executes (lnR E k f i) = some ((), F)) {d2 : Nat} (x3 : RC N2 F 18 d2 ns2) (x4 : WW F d2 ob2 ns2 nc nf) (x5 : ST N (lnR E k f i) N2 F 18) (h1 : ns ≤ ns2) (h2 : ob ≤ ob2) (hK : KE (lnR E k f i) F) (hL : RFP N2 F b d2 φ v) (hbd : b ≤ d2) (hb : d_X6_noteBehind (nI c) N2 = some ((), N2)) (hbk : bk → d2 = d ∧ mI F 110 d = a ∧ mI F 109 d = mI S 109 d) : RSC M S c d b f i k g v fc ns ob nc nf a bk :=
  ⟨N, E, N2, F, N2, v, fc, φ, gg, d2, ns2, ob2, n1, n2, x1, x2, hb, ⟨x3, x4, h1, h2⟩, ⟨rx_mv n3 (st_M x5) (st_S x5) (hK.1.trans n3.1) (fun u _ => kb_ke hK u), hL, hbd, by omega, by omega, by omega, n4⟩, n6, n7, hy, x5, NBF.refl _, hbk⟩
/-- a new value -/
theorem rs_nw (n1 : d_X6_noteAhead M = some ((), N)) (n2 : d_X12_guards (nI c) S = some ((), E)) (n3 : RECX N (lnR E k f i) v fc φ gg (k + 1)) (n4 : gg ≤ g + 4) (n5 : mI N 48 15 = mk) (n6 : NAF M N k (nI (100 * f + i)) (nI g)) (n7 : GDF S E g k gg) (hy : d_X12_why (lnR E k f i) = some (nI 0, lnR E k f i)) (x1 : d_X3_execute 18 N = some (pB bk, N2)) (x2 : d_X12_executes (lnR E k f i) = some ((), F)) (x3 : RC N2 F 18 d ns2) (x4 : WW F d ob2 ns2 nc nf) (x5 : ST N (lnR E k f i) N2 F 18) (h1 : ns ≤ ns2) (h2 : ob ≤ ob2) {t h0 i2 x : Nat} {kd nd : Int32} {rd : UInt64} {kk kc ks kz : Int32} (hNW : NW (lnR E k f i) F d (14 * d + 6 + t) kd nd rd i2 (t + 1) kk kc ks kz) (hr : mI (lnR E k f i) 69 71 = nI 1) (hv5 : v < 500) (hfc : fc < 378) (ht : t < 8) (hh : mI S 111 d = nI h0) (h08 : h0 ≤ 8) (hold : t ≤ h0) (hW : WW S d ob ns nc nf) (hL : RFP M S b d φ v) (hbd : b ≤ d) (hF : NOf N N2 (14 * d + 6 + t)) (hx : xIdx 5 (nI c) = nI x) (hx1 : x < 100) (hmk : kbv kk kc ks kz = mk) (hbk : bk → d = d ∧ mI F 110 d = a ∧ mI F 109 d = mI S 109 d) : RSC M S c d b f i k g v fc ns ob nc nf a bk := by
  obtain ⟨p1, p2, p3⟩ := hNW
  obtain ⟨-, v', w1, w2, w3, w4⟩ := p3.resolve_left (fun z => by rw [hr] at z; exact absurd z.1 (by decide))
  obtain rfl : v' = v := qinj (by omega) (by omega) (w2.symm.trans n3.1)
  have hB := n7.sb (f := f) (i := i)
  have hd1 := hW.1.2.1
  have m15 : mI N2 48 15 = mk := (st_M x5 48 15 (by omega) (by omega)).trans n5
  have hb := nb_mk (c := c) (q := 14 * d + 6 + t) (fc := fc) (h := t + 1) hx hx1 x3.2.2.2.2.1.1 hd1 ((x3.2.2.2.2.1.2 d (Nat.le_refl _)).2.2.trans p1.2.2.2.2.1) (by omega) (by omega) ((st_M x5 48 9 (by omega) (by omega)).trans n3.2.1) hfc
  rw [m15] at hb
  have kbu : ∀ u, u < v' → kb F u = kb (lnR E k f i) u := fun u hu => kb_e (w4.2.1 u (by omega))
  have q0 := rx_mv n3 (st_M x5) (S := lnR E k f i) (F := lnR E k f i) (fun _ _ _ => rfl) n3.1 (fun _ _ => rfl)
  have q1 := rx_nw (p := 14 * d + 6 + t) (m := mk) q0 w4.1 (st_S x5) kbu ((kb_kn w4).trans hmk)
  refine ⟨N, E, N2, F, _, v' + 1, fc + 1, _, gg, d, ns2, ob2, n1, n2, x1, x2, hb, ⟨rc_nb x3 (NBF.gf _ _ _ _), x4, h1, h2⟩, ⟨q1, ?_, hbd, by omega, by omega, by omega, n4⟩, n6, n7, hy, x5, NBF.gf _ _ _ _, hbk⟩
  have hL' := rfp_fr hL n6.nb hB
  refine rfp_one (h0 := h0) hL' p1 (by omega) ((hB.1 111 d (by omega) (by omega)).trans hh) h08 hd1 (ww_H (ww_fr hW hB)) (Nat.le_succ _) (fun u hu => if_neg (by omega)) (fun j j1 j2 => ?_) (fun j j1 j2 => by omega) (fun _ => ⟨v', by omega, w3, ?_⟩)
  · unfold gfM; rw [mI_ne (by omega), mI_ne (by omega), mI_ne (by omega)]; exact hF j j1 j2
  · show _ = nI (ite _ _ _)
    rw [if_pos rfl]
    unfold gfM; rw [mI_ne (by omega), mI_ne (by omega), mI_eq]
/-- a call -/
theorem rs_cl (n1 : d_X6_noteAhead M = some ((), N)) (n2 : d_X12_guards (nI c) S = some ((), E)) (n3 : RECX N (lnR E k f i) v fc φ gg (k + 1)) (n4 : gg ≤ g + 4) (n6 : NAF M N k (nI (100 * f + i)) (nI g)) (n7 : GDF S E g k gg) (hy : d_X12_why (lnR E k f i) = some (nI 0, lnR E k f i)) (x1 : d_X3_execute 18 N = some (pB bk, N2)) (x2 : d_X12_executes (lnR E k f i) = some ((), F)) (x3 : RC N2 F 18 (d + 1) ns2) (x4 : WW F (d + 1) ob2 ns2 nc nf) (x5 : ST N (lnR E k f i) N2 F 18) (h1 : ns ≤ ns2) (h2 : ob ≤ ob2) {t m i2 ff : Nat} (hCL : CL (lnR E k f i) F d t i2 ff m) (hr : mI (lnR E k f i) 69 71 = nI 1) (hv5 : v < 500) (hfc : fc + 6 < 378) (hm : m ≤ 3) (hff : ff < nf) (hm70 : mI S 70 ff = nI m) (hh : mI S 111 d = nI (t + m)) (h8 : t + m ≤ 8) (hW : WW S d ob ns nc nf) (hL : RFP M S b d φ v) (hbd : b ≤ d) (hF : (∀ k, k < m → mI N2 23 (14 * (d + 1) + k) = mI N 23 (14 * d + 6 + t + k)) ∧ ∀ j, j < 14 * (d + 1) → mI N2 23 j = mI N 23 j) (hc : c = 99 ∨ c = 109) (hx : xIdx 5 (nI c) = -nI 1) (hbk : ¬ bk) : RSC M S c d b f i k g v fc ns ob nc nf a bk := by
  obtain ⟨a1, a2, a3, a4, a5, a6, a7, a8, a9, a10, a11, a12⟩ := id hCL
  obtain ⟨-, v', w1, w2, w3, w4, w5, w6⟩ := a12.resolve_left (fun z => by rw [hr] at z; exact absurd z.1 (by decide))
  obtain rfl : v' = v := qinj (by omega) (by omega) (w2.symm.trans n3.1)
  have hB := n7.sb (f := f) (i := i)
  have hd1 := x4.1.2.1
  have hnf := hW.2.2.2.2.2.2.1.2.1
  have gm : mI N2 3 ff = nI m := ((x3.2.2.2.2.2.2.1 ff).1).trans ((x5.1.1 70 ff (by omega)).trans ((hB.1 70 ff (by omega) (by omega)).trans hm70))
  have hR2 := x3.2.2.2.2.1
  have hb := nb_cl (d := d + 1) (f := ff) (m := m) (fc := fc) hc hx hR2.1 hd1 ((hR2.2 (d + 1) (Nat.le_refl _)).1.trans a3) (by omega) gm (by omega) ((st_M x5 48 9 (by omega) (by omega)).trans n3.2.1) hfc
  have kbu : ∀ u, u < v' → kb F u = kb (lnR E k f i) u := fun u hu => kb_e (w5 u hu)
  have kb3 : ∀ u, v' ≤ u → u < v' + (6 - m) → kb F u = nI 3 := by
    intro u u1 u2
    obtain ⟨c1, c2, c3, c4⟩ := w6 u u1 u2
    unfold kb nkP
    simp only [c1, c2, c3, c4]
    decide
  have q0 := rx_mv n3 (st_M x5) (S := lnR E k f i) (F := lnR E k f i) (fun _ _ _ => rfl) n3.1 (fun _ _ => rfl)
  have q1 := rx_cl (q := 14 * (d + 1)) (m := m) q0 (by omega) w3 (st_S x5) kbu kb3
  refine ⟨N, E, N2, F, _, v' + (6 - m), fc + (6 - m), _, gg, d + 1, ns2, ob2, n1, n2, x1, x2, hb, ⟨rc_nb x3 (NBF.gF _ _ _ _ _), x4, h1, h2⟩, ⟨q1, ?_, by omega, by omega, by omega, by omega, n4⟩, n6, n7, hy, x5, NBF.gF _ _ _ _ _, fun z => absurd z hbk⟩
  have hL' := rfp_fr hL n6.nb hB
  refine rfp_cl hL' hCL hm ((hB.1 111 d (by omega) (by omega)).trans hh) h8 (ww_H (ww_fr hW hB)) hbd (by omega) (fun u hu => if_pos hu) (fun j hj => ?_) (fun j hj => ?_) (fun j j1 j2 => ⟨v' + (j - m), by omega, w4 j j1 j2, ?_⟩)
  · rw [gfF_lo 6 (by omega)]; exact hF.1 j hj
  · rw [gfF_lo 6 (by omega)]; exact hF.2 j hj
  · show _ = nI (ite _ _ _)
    rw [if_neg (by omega), gfF_at 6 j j1 (by omega)]
    exact nI_c (by omega)
end
end MH4
