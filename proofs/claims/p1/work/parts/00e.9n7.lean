/-! ===== turns: in a trace ===== -/
section MU7
theorem ah_or {M M2 S : Mem} {d ns : Nat} (h : M2 = M ∨ ∃ c a, M2 = ahM M 18 c a) (hR : RC M S 18 d ns) : MZ M M2 ∧ MF M M2 ∧ RC M2 S 18 d ns ∧ (∀ a j, a ≠ 18 ∨ (j ≠ 7 ∧ j ≠ 8) → mI M2 a j = mI M a j) ∧ (∀ a j, mR M2 a j = mR M a j) ∧ NB M2 M2 := by
  rcases h with rfl | ⟨c, a, rfl⟩
  · exact ⟨⟨fun _ _ _ => rfl, fun _ _ => rfl, fun _ _ _ => rfl, rfl⟩, MF.refl _, hR, fun _ _ _ => rfl, fun _ _ => rfl, NB.refl _⟩
  · exact ⟨mz_ah, mf_ah, ah_core (.inl rfl) hR, fun a j y => n48_ah y, fun _ _ => rfl, NB.refl _⟩
theorem fm_ah {P : Mem} {c x : Int32} : FM P (ahM P 28 c x) 28 := ⟨fun a j y => by unfold ahM; rw [mI_ne (by omega), mI_ne (by omega)], fun _ _ _ => ⟨rfl, rfl⟩, rfl⟩
theorem n28_ah {P : Mem} {c x : Int32} : mI (ahM P 28 c x) 28 13 = mI P 28 13 := by unfold ahM; rw [mI_ne (by omega), mI_ne (by omega)]
theorem rks_e {S S3 : Mem} (h : RKS S S3) : (∀ a j, (a ≠ 69 ∨ (j ≠ 88 ∧ j ≠ 89)) → mI S3 a j = mI S a j) ∧ (∀ a j, (a ≠ 69 ∨ j ≠ 90) → mD S3 a j = mD S a j) ∧ ∀ a j, mL S3 a j = mL S a j := by
  rcases h with rfl | ⟨V, rfl⟩
  · exact ⟨fun _ _ _ => rfl, fun _ _ _ => rfl, fun _ _ => rfl⟩
  · unfold rkM gvM
    refine ⟨fun a j q => ?_, fun a j q => ?_, fun a j => rfl⟩
    · show mI (sI (sI S 69 88 V.1) 69 89 V.2.1) a j = _
      rw [mI_ne (by omega), mI_ne (by omega)]
    · exact mD_ne (by omega)
theorem least {P : Nat → Prop} {lo : Nat} : ∀ hi, (∃ j, lo ≤ j ∧ j < hi ∧ ¬ P j) → ∃ q, lo ≤ q ∧ q < hi ∧ ¬ P q ∧ ∀ i, lo ≤ i → i < q → P i := by
  intro hi
  induction hi with
  | zero => rintro ⟨j, -, h, -⟩; exact absurd h (by omega)
  | succ k ih =>
    rintro ⟨j, h1, h2, h3⟩
    by_cases z : ∃ j, lo ≤ j ∧ j < k ∧ ¬ P j
    · obtain ⟨q, q1, q2, q3, q4⟩ := ih z
      exact ⟨q, q1, by omega, q3, q4⟩
    · have hj : j = k := by
        by_cases y : j < k
        · exact absurd ⟨j, h1, y, h3⟩ z
        · omega
      subst hj
      exact ⟨j, h1, h2, h3, fun i i1 i2 => Classical.byContradiction (fun y => z ⟨i, i1, i2, y⟩)⟩
/-- the guards of a step in the history -/
theorem hs_gd {S R G F : Mem} {L : Int32} {ga gs gd gw : Nat → Int32} {b k : Nat} {fg : Nat → Nat} (h : HS0 S L ga gs gd gw b k fg R G F) : mI G 69 78 = nI (fg (k + 1)) ∧ ∀ g, fg k ≤ g → g < fg (k + 1) → ga g = mI G 119 g ∧ gs g = nI k ∧ gd g = mI G 121 g ∧ gw g = mI G 122 g := by
  obtain ⟨n, ob, ns, nc, nf, f, i, e, m, h, c, v, obF, nsF, dF, mS, nfS, nsS, ncS, a, -, -, -, ⟨-, h4, -⟩, -, -, -, -, hg⟩ := h
  exact ⟨h4.2.2.1, hg⟩
theorem wtr_x {M N S E : Mem} {B : Nat → Nat} {t at_ td : Nat} (h : WTR M S B t at_ td) (h1 : ∀ j, 7 < j → j < 13 → mI N 38 j = mI M 38 j) (h2 : mR N 38 9 = mR M 38 9) (h3 : ∀ j, j = 68 ∨ j = 69 ∨ j = 70 → mI E 69 j = mI S 69 j) : WTR N E B t at_ td := by
  obtain ⟨w1, w2, w3, w4, w5, w6, w7, w8⟩ := h
  exact ⟨(h1 8 (by omega) (by omega)).trans w1, h2.trans w2, (h1 10 (by omega) (by omega)).trans w3, (h3 68 (by omega)).trans w4, (h1 11 (by omega) (by omega)).trans w5, (h3 69 (by omega)).trans w6, (h1 12 (by omega) (by omega)).trans w7, (h3 70 (by omega)).trans w8⟩
/-- into trace s, from a state with the frames of its beginning -/
theorem min_0 {N E : Mem} {B : Nat → Nat} {cnt d ns ob nc nf s td n : Nat} {H G F : Nat → Nat → Mem} {b : Nat → Nat} {fg : Nat → Nat → Nat} {X : Mem} {bX : Nat} (hB : BAS N E B cnt d ns ob nc nf H G F b fg) (hs : s < cnt) (h89 : mI E 89 s = nI 1) (hw : WTR N E B s 0 td) (hno : RTN N E) (hd : d = td + n) (hX : FRS E X td bX n) (hX2 : FRS X (H s 0) bX (b s) n) (hH0 : mI (H s 0) 69 48 = nI (b s + n)) (hn : n < 12) : MIN N E B cnt d H b s := by
  obtain ⟨hR, hW, hF, hH, hL, hC, hCW, hI, hnx⟩ := hB
  have hit := hI.1 s hs h89
  obtain ⟨v, φ, ob0, ns0, nc0, nf0, i1, i2, hW0⟩ := hit_begin hit hH0 hn
  obtain ⟨⟨st, gm, fg', hT⟩, -⟩ := hF.2.2.2.2.2.2 s hs
  subst hd
  obtain ⟨eS, eR, val, rval, hsat⟩ := sat0 i1 (fun _ => rfl) hW hW0 (hX.trans hX2) ob ob0
  exact ⟨st, 0, td, n, eS, eR, ob, ob0, v, val, rval, ⟨hs, h89, hT.2.1.2.1, hT.2.1.2.2.1, hT.2.1.2.2.2⟩, hw, hno, ⟨rfl, hsat⟩, ⟨hW.2.2.2.1.1, hW.2.2.2.1.2.1⟩, ⟨hW0.2.2.2.1.1, hW0.2.2.2.1.2.1⟩, by omega⟩
theorem in_turn {M S P : Mem} {cnt d ns ob nc nf μ e t : Nat} {B : Nat → Nat} {H G F : Nat → Nat → Mem} {b : Nat → Nat} {fg : Nat → Nat → Nat} (hXR : XR M S 18) (hB : BAS M S B cnt d ns ob nc nf H G F b fg) (hm : MIN M S B cnt d H b t) (he : mI S 69 57 = nI e) (he1 : e < 1000) (hμ : 50 * (1000 - e) + (23 - t) ≤ μ) (hP : RC P S 28 d ns) (hXP : XR P S 28) : TRN M S P cnt ns nc nf μ := by
  obtain ⟨xr1, xr2⟩ := hXR
  have hB0 := id hB
  obtain ⟨hR, hW, hF, hH, hL, hC, hCW, hI, hnx⟩ := hB0
  obtain ⟨st, at_, td, n, eS, eR, oS, oR, v, val, rval, ⟨ht, h89, h90, hat, hst30⟩, hw, hno, ⟨hdn, hs⟩, ⟨o1, o2⟩, ⟨o3, o4⟩, hv⟩ := hm
  subst hdn
  have h71 := hno.2
  have hns := hW.2.2.2.2.2.1.2.1
  have hob60 := hW.2.2.2.1.2.1
  have hcnt := hF.2.2.1
  have hd12 := hW.1.2.1
  have fb := fuel_big
  obtain ⟨w1, w2, w3, w4, w5, w6, w7, w8⟩ := id hw
  obtain ⟨f, i, h, hf, hf0, hnf8, hi, hi1, hh, hh1⟩ := look_p hW
  have m12 : mI M 18 12 = nI e := hR.2.2.2.1.2.1.trans he
  have p12 : mI P 28 12 = nI e := hP.2.2.2.1.2.1.trans he
  obtain rfl : ob = oS := qinj (by omega) (by omega) (hW.2.2.2.1.1.symm.trans o1)
  rcases look (.inl rfl) hR hW (.inl h71) he he1 hf hf0 hi hi1 hh hh1 with ⟨x, M2, x1, x2, x3, x4, x5⟩ | ⟨m, c, hm, him, hm40, hc9, hc, hy, hfa, hSTP0⟩
  · -- leaving
    obtain ⟨hz2, hMF2, hR2, hM2e, hM2r, -⟩ := ah_or x5 hR
    have x45 : ¬ x = nI 45 := w45_X12_why x3
    have hT : d_X10_turnInTrace M = some ((), sI M2 38 8 (nI 0)) := by
      unfold d_X10_turnInTrace
      simp (disch := first | omega | (simp (disch := omega) only [← Nat.add_assoc, Nat.add_sub_cancel, Nat.sub_zero, as21, as31, as32, and_self, and_true, true_and, l_0, l_1, l_2, l_3, l_4, l_5, l_6, l_7, l_8, l_9, l_10, l_11, l_12, l_13, l_14, l_15, l_16, l_17, l_18, l_19, l_20, l_21, l_22, l_23, l_24, l_25, l_26, l_27, l_28, l_29, l_30, l_31, l_32, l_33, l_34, l_35, l_36, l_37, l_38, l_39, l_40, l_41, l_42, l_43, l_44, l_45, l_47, l_48, l_50, l_52, l_60, l_61, l_63, l_80, l_99, l_100, l_101, l_102, l_103, l_105, l_106, l_107, l_108, l_109, l_110, l_111, l_112, l_114, l_115, l_116, l_117, l_118, l_119, l_120, l_122, l_168, l_200, l_320, l_360, l_528, l_548, l_1000, l_1023, l_2000, l_3000, l_1000000, qadd, qmul, qsub, qdiv, qcl, qinT, qchT, qleT, qleF, qltT, qltF, qeqT, qeqF, qneg_ne, bo0, bo1, qneg_ne', qneg_lt, mI_eq, mD_eq, mL_eq, mR_eq, mI_at, mD_at, mL_at, mI_ne, mD_ne, mL_ne, mR_ne, not_false_eq_true, not_true_eq_false, or_true, true_or, or_false, false_or, or_self, false_and, and_false, eq_self, mI_sL, mI_sD, mI_sR, mI_tk, mL_sI, mL_sD, mL_sR, mL_tk, mD_sI, mD_sL, mD_sR, mD_tk, mR_sI, mR_sL, mR_sD, mR_tk, mT_sI, mT_sL, mT_sD, mT_sR, mT_tk, mK_sI, mK_sL, mK_sD, mK_sR, mK_tk, mN_sI, mN_sL, mN_sD, mN_sR, mN_tk, nx_sI, nx_sL, nx_sD, nx_sR, uC_sI, uC_sL, uC_sD, uC_sR, uS_sI, uS_sL, uS_sD, uS_sR, nx_tk, uC_tk, uS_tk, m12, x4, x45]; done) | fail) only [↓okk_pos, ↓okk_T, ↓bnd_eq, ↓obind, ↓bind_okk, ↓bind_bnd, ↓bind_ite, ↓bind_bind, ↓reduceIte, ↓bq_X3_isAtLimit, ← Nat.add_assoc, Nat.add_sub_cancel, Nat.sub_zero, as21, as31, as32, and_self, and_true, true_and, l_0, l_1, l_2, l_3, l_4, l_5, l_6, l_7, l_8, l_9, l_10, l_11, l_12, l_13, l_14, l_15, l_16, l_17, l_18, l_19, l_20, l_21, l_22, l_23, l_24, l_25, l_26, l_27, l_28, l_29, l_30, l_31, l_32, l_33, l_34, l_35, l_36, l_37, l_38, l_39, l_40, l_41, l_42, l_43, l_44, l_45, l_47, l_48, l_50, l_52, l_60, l_61, l_63, l_80, l_99, l_100, l_101, l_102, l_103, l_105, l_106, l_107, l_108, l_109, l_110, l_111, l_112, l_114, l_115, l_116, l_117, l_118, l_119, l_120, l_122, l_168, l_200, l_320, l_360, l_528, l_548, l_1000, l_1023, l_2000, l_3000, l_1000000, qadd, qmul, qsub, qdiv, qcl, qinT, qchT, qleT, qleF, qltT, qltF, qeqT, qeqF, qneg_ne, bo0, bo1, qneg_ne', qneg_lt, mI_eq, mD_eq, mL_eq, mR_eq, mI_at, mD_at, mL_at, mI_ne, mD_ne, mL_ne, mR_ne, not_false_eq_true, not_true_eq_false, or_true, true_or, or_false, false_or, or_self, false_and, and_false, eq_self, mI_sL, mI_sD, mI_sR, mI_tk, mL_sI, mL_sD, mL_sR, mL_tk, mD_sI, mD_sL, mD_sR, mD_tk, mR_sI, mR_sL, mR_sD, mR_tk, mT_sI, mT_sL, mT_sD, mT_sR, mT_tk, mK_sI, mK_sL, mK_sD, mK_sR, mK_tk, mN_sI, mN_sL, mN_sD, mN_sR, mN_tk, nx_sI, nx_sL, nx_sD, nx_sR, uC_sI, uC_sL, uC_sD, uC_sR, uS_sI, uS_sL, uS_sD, uS_sR, nx_tk, uC_tk, uS_tk, m12, x4, x45]
    have hRT : d_X12_inTrace S = some ((), sI S 69 68 (-nI 1)) := by
      unfold d_X12_inTrace
      simp (disch := first | omega | (simp (disch := omega) only [← Nat.add_assoc, Nat.add_sub_cancel, Nat.sub_zero, as21, as31, as32, and_self, and_true, true_and, l_0, l_1, l_2, l_3, l_4, l_5, l_6, l_7, l_8, l_9, l_10, l_11, l_12, l_13, l_14, l_15, l_16, l_17, l_18, l_19, l_20, l_21, l_22, l_23, l_24, l_25, l_26, l_27, l_28, l_29, l_30, l_31, l_32, l_33, l_34, l_35, l_36, l_37, l_38, l_39, l_40, l_41, l_42, l_43, l_44, l_45, l_47, l_48, l_50, l_52, l_60, l_61, l_63, l_80, l_99, l_100, l_101, l_102, l_103, l_105, l_106, l_107, l_108, l_109, l_110, l_111, l_112, l_114, l_115, l_116, l_117, l_118, l_119, l_120, l_122, l_168, l_200, l_320, l_360, l_528, l_548, l_1000, l_1023, l_2000, l_3000, l_1000000, qadd, qmul, qsub, qdiv, qcl, qinT, qchT, qleT, qleF, qltT, qltF, qeqT, qeqF, qneg_ne, bo0, bo1, qneg_ne', qneg_lt, mI_eq, mD_eq, mL_eq, mR_eq, mI_at, mD_at, mL_at, mI_ne, mD_ne, mL_ne, mR_ne, not_false_eq_true, not_true_eq_false, or_true, true_or, or_false, false_or, or_self, false_and, and_false, eq_self, mI_sL, mI_sD, mI_sR, mI_tk, mL_sI, mL_sD, mL_sR, mL_tk, mD_sI, mD_sL, mD_sR, mD_tk, mR_sI, mR_sL, mR_sD, mR_tk, mT_sI, mT_sL, mT_sD, mT_sR, mT_tk, mK_sI, mK_sL, mK_sD, mK_sR, mK_tk, mN_sI, mN_sL, mN_sD, mN_sR, mN_tk, nx_sI, nx_sL, nx_sD, nx_sR, uC_sI, uC_sL, uC_sD, uC_sR, uS_sI, uS_sL, uS_sD, uS_sR, nx_tk, uC_tk, uS_tk, x3, x2]; done) | fail) only [↓okk_pos, ↓okk_T, ↓bnd_eq, ↓obind, ↓bind_okk, ↓bind_bnd, ↓bind_ite, ↓bind_bind, ↓reduceIte, ← Nat.add_assoc, Nat.add_sub_cancel, Nat.sub_zero, as21, as31, as32, and_self, and_true, true_and, l_0, l_1, l_2, l_3, l_4, l_5, l_6, l_7, l_8, l_9, l_10, l_11, l_12, l_13, l_14, l_15, l_16, l_17, l_18, l_19, l_20, l_21, l_22, l_23, l_24, l_25, l_26, l_27, l_28, l_29, l_30, l_31, l_32, l_33, l_34, l_35, l_36, l_37, l_38, l_39, l_40, l_41, l_42, l_43, l_44, l_45, l_47, l_48, l_50, l_52, l_60, l_61, l_63, l_80, l_99, l_100, l_101, l_102, l_103, l_105, l_106, l_107, l_108, l_109, l_110, l_111, l_112, l_114, l_115, l_116, l_117, l_118, l_119, l_120, l_122, l_168, l_200, l_320, l_360, l_528, l_548, l_1000, l_1023, l_2000, l_3000, l_1000000, qadd, qmul, qsub, qdiv, qcl, qinT, qchT, qleT, qleF, qltT, qltF, qeqT, qeqF, qneg_ne, bo0, bo1, qneg_ne', qneg_lt, mI_eq, mD_eq, mL_eq, mR_eq, mI_at, mD_at, mL_at, mI_ne, mD_ne, mL_ne, mR_ne, not_false_eq_true, not_true_eq_false, or_true, true_or, or_false, false_or, or_self, false_and, and_false, eq_self, mI_sL, mI_sD, mI_sR, mI_tk, mL_sI, mL_sD, mL_sR, mL_tk, mD_sI, mD_sL, mD_sR, mD_tk, mR_sI, mR_sL, mR_sD, mR_tk, mT_sI, mT_sL, mT_sD, mT_sR, mT_tk, mK_sI, mK_sL, mK_sD, mK_sR, mK_tk, mN_sI, mN_sL, mN_sD, mN_sR, mN_tk, nx_sI, nx_sL, nx_sD, nx_sR, uC_sI, uC_sL, uC_sD, uC_sR, uS_sI, uS_sL, uS_sD, uS_sR, nx_tk, uC_tk, uS_tk, x3, x2]
    have hsw : SW S (sI S 69 68 (-nI 1)) := ⟨fun a j y1 y2 y3 y4 => mI_ne (by omega), fun _ _ _ => rfl, fun _ _ => rfl⟩
    have hz : MZ M2 (sI M2 38 8 (nI 0)) := ⟨fun a j y => mI_ne (by omega), fun j y => mI_ne (by omega), fun _ _ _ => rfl, rfl⟩
    have hRN : RC (sI M2 38 8 (nI 0)) S 18 (td + n) ns := rc_nm (.inl rfl) hR2 ⟨fun a j y => mI_ne (by omega), fun _ _ _ => rfl⟩
    have hBN := bas_m (bas_m hB hR2 hz2) hRN hz
    have hgr := sw_grw hns hsw
    have hBE := bas_st hBN ⟨fun _ _ _ => rfl, fun _ _ => rfl, fun _ _ _ => rfl, rfl⟩ (fun a j y => mI_ne (by omega)) (rc_sm hRN (sw_sm hsw)) (ww_sw hW hsw) hgr
    have h57 : mI (sI S 69 68 (-nI 1)) 69 57 = nI e := (mI_ne (by omega)).trans he
    have h67 : mI (sI S 69 68 (-nI 1)) 69 67 = nI 1 := (mI_ne (by omega)).trans xr2
    refine ⟨_, _, P, cnt, ct_in xr1 w1 hT, .inl (rts_in xr2 he he1 w4 (by omega) hRT), .inr rfl, (hMF2.trans ⟨fun a j y1 y2 => ⟨mI_ne (by omega), rfl, rfl⟩, rfl⟩).c cnt, FM.refl P 28, ⟨.inr ⟨(mI_ne (by omega)).trans (hM2e 18 14 (by omega)), (mI_ne (by omega)).trans (hM2e 18 15 (by omega))⟩, .inr ⟨rfl, rfl⟩⟩, .inl ⟨td + n, ns, ob, 50 * (1000 - e) + 2, by omega, hgr, ⟨⟨?_, h67⟩, B, H, G, F, b, fg, e, 2, hBE, .inr (.inl ⟨rfl, mI_eq _ _ _ _, mI_eq _ _ _ _, ?_, ?_⟩), h57, by omega, Nat.le_refl _⟩, rc_sm hP (sw_sm hsw), hXP.1, h67⟩⟩
    · exact (mI_ne (by omega)).trans ((hM2e 18 13 (by omega)).trans xr1)
    · exact (mI_ne (by omega)).trans ((hM2e 48 10 (by omega)).trans hno.1)
    · exact (mI_ne (by omega)).trans h71
  · -- the instruction can be executed
    obtain ⟨hz2, hMF2, hR2, hM2e, hM2r, -⟩ := ah_or (M2 := ahM M 18 (nI c) (mI S 73 (40 * f + i))) (.inr ⟨_, _, rfl⟩) hR
    have g7 : mI (ahM M 18 (nI c) (mI S 73 (40 * f + i))) 18 7 = nI c := ah_7 _ _ _ _
    clear hSTP0
    generalize hMe : ahM M 18 (nI c) (mI S 73 (40 * f + i)) = M2 at *
    have hB2 := bas_m hB hR2 hz2
    have hF2 := hB2.2.2.1
    have hw2 : WTR M2 S B t at_ td := wtr_x hw (fun j _ _ => hM2e 38 j (by omega)) (hM2r 38 9) (fun _ _ => rfl)
    have hno2 : RTN M2 S := ⟨(hM2e 48 10 (by omega)).trans hno.1, h71⟩
    obtain ⟨⟨st', gm, fg', hT⟩, -, ⟨r, hr1, hr2, hr3, hr4, hr5⟩, -⟩ := hF2.2.2.2.2.2.2 t ht
    obtain ⟨u1, u2, u3, u4⟩ := id hT.2.1
    obtain rfl : st' = st := qinj (by omega) (by omega) (u2.symm.trans h90)
    have hHit := hI.1 t ht h89
    obtain ⟨st2, gm2, n0, ⟨k1, k2, k3⟩, ⟨k4, k5⟩, ⟨k6, k7, k8⟩, k9, k10, k11⟩ := id hHit
    obtain rfl : st2 = st' := qinj (by omega) (by omega) (k1.symm.trans h90)
    have hgm := hT.2.2.1.2.2
    obtain rfl : gm2 = gm := qinj (by omega) (by omega) (k4.symm.trans hT.2.2.1.2.1)
    have fge := fg_eq hT k6 k7 k8 (fun k g y1 y2 y3 => ((hs_gd (k9 k y1).1).2 g y2 y3).2.1)
    obtain ⟨hst, hcw⟩ := k9 at_ hat
    obtain ⟨hg78, hgg⟩ := hs_gd hst
    have hfm : fg t (at_ + 1) ≤ gm2 := by rw [← k7]; exact fg_mono k8 (by omega) (Nat.le_refl _)
    have hTRS := his_step hst hW hR2 h71 hy (fun f' i' y0 y00 y1 y2 => by
      obtain rfl : f = f' := qinj (by omega) (by omega) (hf.symm.trans y1)
      obtain rfl : i = i' := qinj (by omega) (by omega) (hi.symm.trans y2)
      exact g7.trans hc.symm) hs o3 o4 (by omega) (by omega)
    obtain ⟨g1, g1a, g1b, hle, ok, hok, hQ⟩ := hTRS
    obtain rfl : g1 = fg t (at_ + 1) := qinj (by
      have := k8 at_ hat
      omega) (by omega) (g1b.symm.trans hg78)
    have fe0 := fge at_ (by omega)
    have fe1 := fge (at_ + 1) (by omega)
    have hokR : ∀ j, fg' at_ ≤ j → j < fg' (at_ + 1) → (∀ i, fg' at_ ≤ i → i < j → ok i) → RHs S (mI S 97 (120 * t + j)) (mI S 99 (120 * t + j)) (mI S 100 (120 * t + j)) (ok j) := fun j y1 y2 y3 => by
      rw [fe0] at y1 y3
      rw [fe1] at y2
      obtain ⟨v1, v2, v3, v4⟩ := hgg j y1 y2
      rw [v1, v3, v4]
      exact (hok j y1 y2 y3).1
    have hokC : ∀ j, fg' at_ ≤ j → j < fg' (at_ + 1) → (∀ i, fg' at_ ≤ i → i < j → ok i) → CH M2 (mI S 97 (120 * t + j)) (mI S 99 (120 * t + j)) (mI S 100 (120 * t + j)) (ok j) := fun j y1 y2 y3 => by
      rw [fe0] at y1 y3
      rw [fe1] at y2
      obtain ⟨v1, v2, v3, v4⟩ := hgg j y1 y2
      rw [v1, v3, v4]
      exact (hok j y1 y2 y3).2
    obtain ⟨glR1, glR2⟩ := gl_R (lo := fg' at_) (hi := fg' (at_ + 1)) w4 (by omega) hT.2.2.1.2.1 hgm w6 (fun g hg => step_iff hT hat hg) (by omega) hokR gm2 0 fuel S (by omega) (by omega) (.inl rfl) (fun i _ _ q => absurd q (by omega))
    obtain ⟨glC1, glC2⟩ := gl_C hT hw2.2.1 hw2.2.2.2.2.1 hat hokC (fg' (at_ + 1) - fg' at_) (fg' at_) fuel (by omega) (by omega) (Nat.le_refl _) (fun i y1 y2 => absurd y2 (by omega))
    have hTc : d_X10_turnInTrace M = d_X10_turnInTrace_41 fuel (nI (fg' at_)) M2 := by
      have b1 := hT.1.2.2.1
      obtain ⟨ra, ka⟩ := hT.1.2.2.2.1 1 (by omega)
      have ra2 : mR M2 (B t) 3 = some (B t + 2) := ra
      have ka2 : mK M2 (B t + 2) = 21 := ka
      have na : mN M2 (B t + 2) = st2 + 1 := hT.1.2.2.2.2.2.1
      have hk9 := hT.1.2.1
      have r9 := hw2.2.1
      have z11 := hw2.2.2.2.2.1
      have zfg := hT.2.2.2.2.2.2.2.2.2.1 at_ (by omega)
      unfold d_X10_turnInTrace
      simp (disch := first | omega | (simp (disch := omega) only [← Nat.add_assoc, Nat.add_sub_cancel, Nat.sub_zero, as21, as31, as32, and_self, and_true, true_and, l_0, l_1, l_2, l_3, l_4, l_5, l_6, l_7, l_8, l_9, l_10, l_11, l_12, l_13, l_14, l_15, l_16, l_17, l_18, l_19, l_20, l_21, l_22, l_23, l_24, l_25, l_26, l_27, l_28, l_29, l_30, l_31, l_32, l_33, l_34, l_35, l_36, l_37, l_38, l_39, l_40, l_41, l_42, l_43, l_44, l_45, l_47, l_48, l_50, l_52, l_60, l_61, l_63, l_80, l_99, l_100, l_101, l_102, l_103, l_105, l_106, l_107, l_108, l_109, l_110, l_111, l_112, l_114, l_115, l_116, l_117, l_118, l_119, l_120, l_122, l_168, l_200, l_320, l_360, l_528, l_548, l_1000, l_1023, l_2000, l_3000, l_1000000, qadd, qmul, qsub, qdiv, qcl, qinT, qchT, qleT, qleF, qltT, qltF, qeqT, qeqF, qneg_ne, bo0, bo1, qneg_ne', qneg_lt, mI_eq, mD_eq, mL_eq, mR_eq, mI_at, mD_at, mL_at, mI_ne, mD_ne, mL_ne, mR_ne, not_false_eq_true, not_true_eq_false, or_true, true_or, or_false, false_or, or_self, false_and, and_false, eq_self, mI_sL, mI_sD, mI_sR, mI_tk, mL_sI, mL_sD, mL_sR, mL_tk, mD_sI, mD_sL, mD_sR, mD_tk, mR_sI, mR_sL, mR_sD, mR_tk, mT_sI, mT_sL, mT_sD, mT_sR, mT_tk, mK_sI, mK_sL, mK_sD, mK_sR, mK_tk, mN_sI, mN_sL, mN_sD, mN_sR, mN_tk, nx_sI, nx_sL, nx_sD, nx_sR, uC_sI, uC_sL, uC_sD, uC_sR, uS_sI, uS_sL, uS_sD, uS_sR, nx_tk, uC_tk, uS_tk, m12, hfa, r9, hk9, ra2, ka2, na, z11, zfg]; done) | fail) only [↓okk_pos, ↓okk_T, ↓bnd_eq, ↓obind, ↓bind_okk, ↓bind_bnd, ↓bind_ite, ↓bind_bind, ↓reduceIte, ↓bq_X3_isAtLimit, ← Nat.add_assoc, Nat.add_sub_cancel, Nat.sub_zero, as21, as31, as32, and_self, and_true, true_and, l_0, l_1, l_2, l_3, l_4, l_5, l_6, l_7, l_8, l_9, l_10, l_11, l_12, l_13, l_14, l_15, l_16, l_17, l_18, l_19, l_20, l_21, l_22, l_23, l_24, l_25, l_26, l_27, l_28, l_29, l_30, l_31, l_32, l_33, l_34, l_35, l_36, l_37, l_38, l_39, l_40, l_41, l_42, l_43, l_44, l_45, l_47, l_48, l_50, l_52, l_60, l_61, l_63, l_80, l_99, l_100, l_101, l_102, l_103, l_105, l_106, l_107, l_108, l_109, l_110, l_111, l_112, l_114, l_115, l_116, l_117, l_118, l_119, l_120, l_122, l_168, l_200, l_320, l_360, l_528, l_548, l_1000, l_1023, l_2000, l_3000, l_1000000, qadd, qmul, qsub, qdiv, qcl, qinT, qchT, qleT, qleF, qltT, qltF, qeqT, qeqF, qneg_ne, bo0, bo1, qneg_ne', qneg_lt, mI_eq, mD_eq, mL_eq, mR_eq, mI_at, mD_at, mL_at, mI_ne, mD_ne, mL_ne, mR_ne, not_false_eq_true, not_true_eq_false, or_true, true_or, or_false, false_or, or_self, false_and, and_false, eq_self, mI_sL, mI_sD, mI_sR, mI_tk, mL_sI, mL_sD, mL_sR, mL_tk, mD_sI, mD_sL, mD_sR, mD_tk, mR_sI, mR_sL, mR_sD, mR_tk, mT_sI, mT_sL, mT_sD, mT_sR, mT_tk, mK_sI, mK_sL, mK_sD, mK_sR, mK_tk, mN_sI, mN_sL, mN_sD, mN_sR, mN_tk, nx_sI, nx_sL, nx_sD, nx_sR, uC_sI, uC_sL, uC_sD, uC_sR, uS_sI, uS_sL, uS_sD, uS_sR, nx_tk, uC_tk, uS_tk, m12, hfa, r9, hk9, ra2, ka2, na, z11, zfg]
    have hTr : d_X12_inTrace S = d_X12_inTrace_15 fuel (nI 0) S := by
      unfold d_X12_inTrace
      simp (disch := first | omega | (simp (disch := omega) only [← Nat.add_assoc, Nat.add_sub_cancel, Nat.sub_zero, as21, as31, as32, and_self, and_true, true_and, l_0, l_1, l_2, l_3, l_4, l_5, l_6, l_7, l_8, l_9, l_10, l_11, l_12, l_13, l_14, l_15, l_16, l_17, l_18, l_19, l_20, l_21, l_22, l_23, l_24, l_25, l_26, l_27, l_28, l_29, l_30, l_31, l_32, l_33, l_34, l_35, l_36, l_37, l_38, l_39, l_40, l_41, l_42, l_43, l_44, l_45, l_47, l_48, l_50, l_52, l_60, l_61, l_63, l_80, l_99, l_100, l_101, l_102, l_103, l_105, l_106, l_107, l_108, l_109, l_110, l_111, l_112, l_114, l_115, l_116, l_117, l_118, l_119, l_120, l_122, l_168, l_200, l_320, l_360, l_528, l_548, l_1000, l_1023, l_2000, l_3000, l_1000000, qadd, qmul, qsub, qdiv, qcl, qinT, qchT, qleT, qleF, qltT, qltF, qeqT, qeqF, qneg_ne, bo0, bo1, qneg_ne', qneg_lt, mI_eq, mD_eq, mL_eq, mR_eq, mI_at, mD_at, mL_at, mI_ne, mD_ne, mL_ne, mR_ne, not_false_eq_true, not_true_eq_false, or_true, true_or, or_false, false_or, or_self, false_and, and_false, eq_self, mI_sL, mI_sD, mI_sR, mI_tk, mL_sI, mL_sD, mL_sR, mL_tk, mD_sI, mD_sL, mD_sR, mD_tk, mR_sI, mR_sL, mR_sD, mR_tk, mT_sI, mT_sL, mT_sD, mT_sR, mT_tk, mK_sI, mK_sL, mK_sD, mK_sR, mK_tk, mN_sI, mN_sL, mN_sD, mN_sR, mN_tk, nx_sI, nx_sL, nx_sD, nx_sR, uC_sI, uC_sL, uC_sD, uC_sR, uS_sI, uS_sL, uS_sD, uS_sR, nx_tk, uC_tk, uS_tk, hy]; done) | fail) only [↓okk_pos, ↓okk_T, ↓bnd_eq, ↓obind, ↓bind_okk, ↓bind_bnd, ↓bind_ite, ↓bind_bind, ↓reduceIte, ← Nat.add_assoc, Nat.add_sub_cancel, Nat.sub_zero, as21, as31, as32, and_self, and_true, true_and, l_0, l_1, l_2, l_3, l_4, l_5, l_6, l_7, l_8, l_9, l_10, l_11, l_12, l_13, l_14, l_15, l_16, l_17, l_18, l_19, l_20, l_21, l_22, l_23, l_24, l_25, l_26, l_27, l_28, l_29, l_30, l_31, l_32, l_33, l_34, l_35, l_36, l_37, l_38, l_39, l_40, l_41, l_42, l_43, l_44, l_45, l_47, l_48, l_50, l_52, l_60, l_61, l_63, l_80, l_99, l_100, l_101, l_102, l_103, l_105, l_106, l_107, l_108, l_109, l_110, l_111, l_112, l_114, l_115, l_116, l_117, l_118, l_119, l_120, l_122, l_168, l_200, l_320, l_360, l_528, l_548, l_1000, l_1023, l_2000, l_3000, l_1000000, qadd, qmul, qsub, qdiv, qcl, qinT, qchT, qleT, qleF, qltT, qltF, qeqT, qeqF, qneg_ne, bo0, bo1, qneg_ne', qneg_lt, mI_eq, mD_eq, mL_eq, mR_eq, mI_at, mD_at, mL_at, mI_ne, mD_ne, mL_ne, mR_ne, not_false_eq_true, not_true_eq_false, or_true, true_or, or_false, false_or, or_self, false_and, and_false, eq_self, mI_sL, mI_sD, mI_sR, mI_tk, mL_sI, mL_sD, mL_sR, mL_tk, mD_sI, mD_sL, mD_sR, mD_tk, mR_sI, mR_sL, mR_sD, mR_tk, mT_sI, mT_sL, mT_sD, mT_sR, mT_tk, mK_sI, mK_sL, mK_sD, mK_sR, mK_tk, mN_sI, mN_sL, mN_sD, mN_sR, mN_tk, nx_sI, nx_sL, nx_sD, nx_sR, uC_sI, uC_sL, uC_sD, uC_sR, uS_sI, uS_sL, uS_sD, uS_sR, nx_tk, uC_tk, uS_tk, hy]
    by_cases hall : ∀ j, fg' at_ ≤ j → j < fg' (at_ + 1) → ok j
    · -- all guards hold
      obtain ⟨S3, hrk, hR15⟩ := glR1 hall
      have hsb := hrk.sb
      obtain ⟨e3, e3D, e3L⟩ := rks_e hrk
      have hW3 := ww_fr hW hsb
      have hf3 := (e3 109 (td + n) (by omega)).trans hf
      have hi3 := (e3 110 (td + n) (by omega)).trans hi
      have hh3 := (e3 111 (td + n) (by omega)).trans hh
      have hc3 := (e3 72 (40 * f + i) (by omega)).trans hc
      have he3 := (e3 69 57 (by omega)).trans he
      have h713 := (e3 69 71 (by omega)).trans h71
      have hm3 := (e3 71 f (by omega)).trans hm
      have hR3 := rc_sm hR2 (sb_sm hsb)
      have hy3 := why_fr hW hsb hf hf0 hi hm him hm40 hh hh1 hy
      have stp : ∀ (o : Nat) (K : Mem), isO o → RC K S o (td + n) ns → ∃ K2, d_X3_failureAhead o K = some (nI 45, K2) ∧ STP K2 S3 o (td + n) ns ob nc nf (mI S3 73 (40 * f + i)) (bkP S3 (td + n) f i h) ∧ K2 = ahM K o (nI c) (mI S3 73 (40 * f + i)) := fun o K ho hK => by
        rcases look ho (rc_sm hK (sb_sm hsb)) hW3 (.inl h713) he3 he1 hf3 hf0 hi3 hi1 hh3 hh1 with ⟨x, K2, x1, x2, x3, -⟩ | ⟨m', c', hm', -, -, hc9', hc', -, hfa', hs'⟩
        · exact absurd (congrArg Prod.fst (Option.some.inj (x3.symm.trans hy3))) x2
        · obtain rfl : c' = c := qinj (by omega) (by omega) (hc'.symm.trans hc3)
          exact ⟨_, hfa', hs', rfl⟩
      obtain ⟨M2', hfa2, hst18, hMe2⟩ := stp 18 M (.inl rfl) hR
      obtain rfl : M2' = M2 := congrArg Prod.snd (Option.some.inj (hfa2.symm.trans hfa))
      obtain ⟨P2, hfp, hst28, hPe⟩ := stp 28 P (.inr rfl) hP
      obtain ⟨N, E, n1, e1, hcs⟩ := hst18
      obtain ⟨Q, E2, n2, e2, hcs2⟩ := hst28
      obtain rfl : E = E2 := congrArg Prod.snd (Option.some.inj (e1.symm.trans e2))
      have A3 : ATI S3 (td + n) ob ns nc nf f i e m h (mI S3 73 (40 * f + i)) c := ⟨hW3, hf3, by omega, hi3, by omega, he3, hm3, him, hm40, hh3, hh1, rfl, hc3, .inl h713, hy3⟩
      have hon := on_step A3 hc9 e1 (fun z => by
        subst z
        have := his_ret hst hs (by omega) hf hi (by omega) (by omega) hc
        omega)
      have h67E : mI E 69 67 = nI 1 := hon.trans ((e3 69 67 (by omega)).trans xr2)
      rcases hcs with ⟨d2, ns2, ob2, q1, q2, q3, q4, q5, -⟩ | ⟨-, -, -, q, -⟩
      · rcases hcs2 with ⟨d2', ns2', ob2', r1, r2, r3, r4, r5, -⟩ | ⟨-, -, -, q, -⟩
        · obtain ⟨rfl, rfl, rfl, -, -⟩ := ww_uniq q4 r4
          have hgs3 : GRW S S3 ns ns := grw_sb hns (fun a j y1 y2 y3 => e3 a j (by omega))
          obtain ⟨ns9, hG3⟩ := gr_step A3 (by omega) hc9 e1
          obtain rfl : ns9 = ns2 := qinj (by have := hG3.2.2.2.2.1; omega) (by have := q4.2.2.2.2.2.1.2.1; omega) ((hG3.2.2.2.2.2.1 hW3.2.2.2.2.2.1.1).symm.trans q4.2.2.2.2.2.1.1)
          have hGS := hgs3.trans hG3
          have hSQ := hQ (fun j y1 y2 => hall j (by omega) (by omega)) S3 E hrk e1
          obtain ⟨n', oS', oR', v', val', rval', ⟨z1, z2⟩, ⟨z3, z4, z9⟩, z5, z6, hs'⟩ := hSQ
          have hs2 := sat_cw hs' hcw
          have hdn : d2 = td + n' := by
            have := q4.1.2.1
            exact qinj (by omega) (by omega) (q4.1.1.symm.trans hs'.1.1)
          have hB3 : BAS M2' S3 B cnt (td + n) ns ob nc nf H G F b fg := bas_st hB2 ⟨fun _ _ _ => rfl, fun _ _ => rfl, fun _ _ _ => rfl, rfl⟩ (fun a j y => e3 a j (by omega)) hR3 hW3 hgs3
          have hBE := bas_st hB3 (fm_mz q5.2.1) (fun a j y => q5.1.1 a j (by omega)) q3 q4 hG3
          have x57 := e57 e1 he3
          have x11 : mI N 38 11 = nI at_ := (q5.2.1.1 38 11 (by omega)).trans hw2.2.2.2.2.1
          have x69 : mI E 69 69 = nI at_ := (q5.1.1 69 69 (by omega)).trans ((e3 69 69 (by omega)).trans w6)
          have x68 : mI E 69 68 = nI t := (q5.1.1 69 68 (by omega)).trans ((e3 69 68 (by omega)).trans w4)
          have x90 : mI E 90 t = nI st2 := (q5.1.1 90 t (by omega)).trans ((e3 90 t (by omega)).trans h90)
          have x89 : mI E 89 t = nI 1 := (q5.1.1 89 t (by omega)).trans ((e3 89 t (by omega)).trans h89)
          have x93 : mI E 93 t = nI r := (q5.1.1 93 t (by omega)).trans ((e3 93 t (by omega)).trans hr2)
          have xR : ∀ a j, mR N a j = mR M2' a j := fun a j => congrArg (fun z => z.1 a j) q5.2.1.2.2
          have xT : ∀ a, mT N a = mT M2' a := fun a => congrArg (fun z => z.2.1 a) q5.2.1.2.2
          have xr9 : mR N 38 9 = some (B t) := (xR 38 9).trans hw2.2.1
          have xk9 : mK N (B t) = 9 := by unfold mK; rw [xT]; exact hT.1.2.1
          have xb0 : mI N (B t) 0 = nI st2 := (q5.2.1.1 (B t) 0 (by have := hT.1.2.2.1; omega)).trans u1
          have xb12 : mI N (B t) 12 = nI r := (q5.2.1.1 (B t) 12 (by have := hT.1.2.2.1; omega)).trans (hT.2.2.2.1.1.trans hr2)
          have hb129 := hT.1.2.2.1
          have hBC := bas_cnt (x := at_ + 1) (y := at_ + 1) hBE
          have wc0 : ∀ td, mI N 38 12 = nI (td + 1) → mI E 69 70 = nI td → True := fun _ _ _ => trivial
          have xo : ∀ j, 7 < j → j < 13 → j ≠ 11 → mI (sI (sI N 38 7 (mI N 38 7 + nI 1)) 38 11 (nI (at_ + 1))) 38 j = mI M 38 j := fun j j1 j2 j3 => by
            rw [mI_ne (by omega), mI_ne (by omega)]
            exact (q5.2.1.1 38 j (by omega)).trans (hM2e 38 j (by omega))
          have xs : ∀ a j, (a ≠ 69 ∨ (j ≠ 58 ∧ j ≠ 69)) → mI (sI (sI E 69 58 (mI E 69 58 + nI 1)) 69 69 (nI (at_ + 1))) a j = mI E a j := fun a j y => by rw [mI_ne (by omega), mI_ne (by omega)]
          have hnoC : RTN (sI (sI N 38 7 (mI N 38 7 + nI 1)) 38 11 (nI (at_ + 1))) (sI (sI E 69 58 (mI E 69 58 + nI 1)) 69 69 (nI (at_ + 1))) := by
            refine ⟨?_, ?_⟩
            · rw [mI_ne (by omega), mI_ne (by omega)]; exact (q5.2.1.1 48 10 (by omega)).trans hno2.1
            · rw [xs 69 71 (by omega)]
              exact (q5.1.1 69 71 (by omega)).trans h713
          have hpt := pt_exec hXP.1 p12 he1 hfp n2
          have hfmp : FM P Q 28 := (show FM P P2 28 by rw [hPe]; exact fm_ah).trans r5.2.1
          have hqx : mI Q 28 13 = nI 45 := r5.2.2.1.trans ((show mI P2 28 13 = mI P 28 13 by rw [hPe]; exact n28_ah).trans hXP.1)
          have h13 : mI (sI (sI N 38 7 (mI N 38 7 + nI 1)) 38 11 (nI (at_ + 1))) 18 13 = nI 45 := by
            rw [mI_ne (by omega), mI_ne (by omega)]
            exact q5.2.2.1.trans ((hM2e 18 13 (by omega)).trans xr1)
          have hMFC : MF M (sI (sI N 38 7 (mI N 38 7 + nI 1)) 38 11 (nI (at_ + 1))) := (hMF2.trans (fm_mf (.inl rfl) q5.2.1)).trans ⟨fun a j y1 y2 => ⟨by rw [mI_ne (by omega), mI_ne (by omega)], rfl, rfl⟩, rfl⟩
          have hswC : SW E (sI (sI E 69 58 (mI E 69 58 + nI 1)) 69 69 (nI (at_ + 1))) := ⟨fun a j y1 y2 y3 y4 => xs a j (by omega), fun _ _ _ => rfl, fun _ _ => rfl⟩
          have hns2 := q4.2.2.2.2.2.1.2.1
          have he45 : E45 18 M (sI (sI N 38 7 (mI N 38 7 + nI 1)) 38 11 (nI (at_ + 1))) := by
            obtain ⟨w14, w15⟩ := x45 (.inl rfl) n1
            refine .inr ⟨?_, ?_⟩
            · rw [mI_ne (by omega), mI_ne (by omega)]; exact w14.trans (hM2e 18 14 (by omega))
            · rw [mI_ne (by omega), mI_ne (by omega)]; exact w15.trans (hM2e 18 15 (by omega))
          have hp45 : E45 28 P Q := by
            obtain ⟨w14, w15⟩ := x45 (.inr rfl) n2
            rw [hPe] at w14 w15
            refine .inr ⟨w14.trans ?_, w15.trans ?_⟩
            · unfold ahM; rw [mI_ne (by omega), mI_ne (by omega)]
            · unfold ahM; rw [mI_ne (by omega), mI_ne (by omega)]
          by_cases hlast : at_ + 1 < st2
          · -- within the trace
            have hneq : ¬ st2 = at_ + 1 := by omega
            have tC : tailC M2' = some ((), sI (sI N 38 7 (mI N 38 7 + nI 1)) 38 11 (nI (at_ + 1))) := by
              unfold tailC
              simp (disch := first | omega | (simp (disch := omega) only [← Nat.add_assoc, Nat.add_sub_cancel, Nat.sub_zero, as21, as31, as32, and_self, and_true, true_and, l_0, l_1, l_2, l_3, l_4, l_5, l_6, l_7, l_8, l_9, l_10, l_11, l_12, l_13, l_14, l_15, l_16, l_17, l_18, l_19, l_20, l_21, l_22, l_23, l_24, l_25, l_26, l_27, l_28, l_29, l_30, l_31, l_32, l_33, l_34, l_35, l_36, l_37, l_38, l_39, l_40, l_41, l_42, l_43, l_44, l_45, l_47, l_48, l_50, l_52, l_60, l_61, l_63, l_80, l_99, l_100, l_101, l_102, l_103, l_105, l_106, l_107, l_108, l_109, l_110, l_111, l_112, l_114, l_115, l_116, l_117, l_118, l_119, l_120, l_122, l_168, l_200, l_320, l_360, l_528, l_548, l_1000, l_1023, l_2000, l_3000, l_1000000, qadd, qmul, qsub, qdiv, qcl, qinT, qchT, qleT, qleF, qltT, qltF, qeqT, qeqF, qneg_ne, bo0, bo1, qneg_ne', qneg_lt, mI_eq, mD_eq, mL_eq, mR_eq, mI_at, mD_at, mL_at, mI_ne, mD_ne, mL_ne, mR_ne, not_false_eq_true, not_true_eq_false, or_true, true_or, or_false, false_or, or_self, false_and, and_false, eq_self, mI_sL, mI_sD, mI_sR, mI_tk, mL_sI, mL_sD, mL_sR, mL_tk, mD_sI, mD_sL, mD_sR, mD_tk, mR_sI, mR_sL, mR_sD, mR_tk, mT_sI, mT_sL, mT_sD, mT_sR, mT_tk, mK_sI, mK_sL, mK_sD, mK_sR, mK_tk, mN_sI, mN_sL, mN_sD, mN_sR, mN_tk, nx_sI, nx_sL, nx_sD, nx_sR, uC_sI, uC_sL, uC_sD, uC_sR, uS_sI, uS_sL, uS_sD, uS_sR, nx_tk, uC_tk, uS_tk, n1, x11, xr9, xk9, xb0]; done) | fail) only [↓okk_pos, ↓okk_T, ↓bnd_eq, ↓obind, ↓bind_okk, ↓bind_bnd, ↓bind_ite, ↓bind_bind, ↓reduceIte, ← Nat.add_assoc, Nat.add_sub_cancel, Nat.sub_zero, as21, as31, as32, and_self, and_true, true_and, l_0, l_1, l_2, l_3, l_4, l_5, l_6, l_7, l_8, l_9, l_10, l_11, l_12, l_13, l_14, l_15, l_16, l_17, l_18, l_19, l_20, l_21, l_22, l_23, l_24, l_25, l_26, l_27, l_28, l_29, l_30, l_31, l_32, l_33, l_34, l_35, l_36, l_37, l_38, l_39, l_40, l_41, l_42, l_43, l_44, l_45, l_47, l_48, l_50, l_52, l_60, l_61, l_63, l_80, l_99, l_100, l_101, l_102, l_103, l_105, l_106, l_107, l_108, l_109, l_110, l_111, l_112, l_114, l_115, l_116, l_117, l_118, l_119, l_120, l_122, l_168, l_200, l_320, l_360, l_528, l_548, l_1000, l_1023, l_2000, l_3000, l_1000000, qadd, qmul, qsub, qdiv, qcl, qinT, qchT, qleT, qleF, qltT, qltF, qeqT, qeqF, qneg_ne, bo0, bo1, qneg_ne', qneg_lt, mI_eq, mD_eq, mL_eq, mR_eq, mI_at, mD_at, mL_at, mI_ne, mD_ne, mL_ne, mR_ne, not_false_eq_true, not_true_eq_false, or_true, true_or, or_false, false_or, or_self, false_and, and_false, eq_self, mI_sL, mI_sD, mI_sR, mI_tk, mL_sI, mL_sD, mL_sR, mL_tk, mD_sI, mD_sL, mD_sR, mD_tk, mR_sI, mR_sL, mR_sD, mR_tk, mT_sI, mT_sL, mT_sD, mT_sR, mT_tk, mK_sI, mK_sL, mK_sD, mK_sR, mK_tk, mN_sI, mN_sL, mN_sD, mN_sR, mN_tk, nx_sI, nx_sL, nx_sD, nx_sR, uC_sI, uC_sL, uC_sD, uC_sR, uS_sI, uS_sL, uS_sD, uS_sR, nx_tk, uC_tk, uS_tk, n1, x11, xr9, xk9, xb0]
            have tR : tailR S3 = some ((), sI (sI E 69 58 (mI E 69 58 + nI 1)) 69 69 (nI (at_ + 1))) := by
              unfold tailR
              simp (disch := first | omega | (simp (disch := omega) only [← Nat.add_assoc, Nat.add_sub_cancel, Nat.sub_zero, as21, as31, as32, and_self, and_true, true_and, l_0, l_1, l_2, l_3, l_4, l_5, l_6, l_7, l_8, l_9, l_10, l_11, l_12, l_13, l_14, l_15, l_16, l_17, l_18, l_19, l_20, l_21, l_22, l_23, l_24, l_25, l_26, l_27, l_28, l_29, l_30, l_31, l_32, l_33, l_34, l_35, l_36, l_37, l_38, l_39, l_40, l_41, l_42, l_43, l_44, l_45, l_47, l_48, l_50, l_52, l_60, l_61, l_63, l_80, l_99, l_100, l_101, l_102, l_103, l_105, l_106, l_107, l_108, l_109, l_110, l_111, l_112, l_114, l_115, l_116, l_117, l_118, l_119, l_120, l_122, l_168, l_200, l_320, l_360, l_528, l_548, l_1000, l_1023, l_2000, l_3000, l_1000000, qadd, qmul, qsub, qdiv, qcl, qinT, qchT, qleT, qleF, qltT, qltF, qeqT, qeqF, qneg_ne, bo0, bo1, qneg_ne', qneg_lt, mI_eq, mD_eq, mL_eq, mR_eq, mI_at, mD_at, mL_at, mI_ne, mD_ne, mL_ne, mR_ne, not_false_eq_true, not_true_eq_false, or_true, true_or, or_false, false_or, or_self, false_and, and_false, eq_self, mI_sL, mI_sD, mI_sR, mI_tk, mL_sI, mL_sD, mL_sR, mL_tk, mD_sI, mD_sL, mD_sR, mD_tk, mR_sI, mR_sL, mR_sD, mR_tk, mT_sI, mT_sL, mT_sD, mT_sR, mT_tk, mK_sI, mK_sL, mK_sD, mK_sR, mK_tk, mN_sI, mN_sL, mN_sD, mN_sR, mN_tk, nx_sI, nx_sL, nx_sD, nx_sR, uC_sI, uC_sL, uC_sD, uC_sR, uS_sI, uS_sL, uS_sD, uS_sR, nx_tk, uC_tk, uS_tk, e1, x69, x68, x90, hneq]; done) | fail) only [↓okk_pos, ↓okk_T, ↓bnd_eq, ↓obind, ↓bind_okk, ↓bind_bnd, ↓bind_ite, ↓bind_bind, ↓reduceIte, ← Nat.add_assoc, Nat.add_sub_cancel, Nat.sub_zero, as21, as31, as32, and_self, and_true, true_and, l_0, l_1, l_2, l_3, l_4, l_5, l_6, l_7, l_8, l_9, l_10, l_11, l_12, l_13, l_14, l_15, l_16, l_17, l_18, l_19, l_20, l_21, l_22, l_23, l_24, l_25, l_26, l_27, l_28, l_29, l_30, l_31, l_32, l_33, l_34, l_35, l_36, l_37, l_38, l_39, l_40, l_41, l_42, l_43, l_44, l_45, l_47, l_48, l_50, l_52, l_60, l_61, l_63, l_80, l_99, l_100, l_101, l_102, l_103, l_105, l_106, l_107, l_108, l_109, l_110, l_111, l_112, l_114, l_115, l_116, l_117, l_118, l_119, l_120, l_122, l_168, l_200, l_320, l_360, l_528, l_548, l_1000, l_1023, l_2000, l_3000, l_1000000, qadd, qmul, qsub, qdiv, qcl, qinT, qchT, qleT, qleF, qltT, qltF, qeqT, qeqF, qneg_ne, bo0, bo1, qneg_ne', qneg_lt, mI_eq, mD_eq, mL_eq, mR_eq, mI_at, mD_at, mL_at, mI_ne, mD_ne, mL_ne, mR_ne, not_false_eq_true, not_true_eq_false, or_true, true_or, or_false, false_or, or_self, false_and, and_false, eq_self, mI_sL, mI_sD, mI_sR, mI_tk, mL_sI, mL_sD, mL_sR, mL_tk, mD_sI, mD_sL, mD_sR, mD_tk, mR_sI, mR_sL, mR_sD, mR_tk, mT_sI, mT_sL, mT_sD, mT_sR, mT_tk, mK_sI, mK_sL, mK_sD, mK_sR, mK_tk, mN_sI, mN_sL, mN_sD, mN_sR, mN_tk, nx_sI, nx_sL, nx_sD, nx_sR, uC_sI, uC_sL, uC_sD, uC_sR, uS_sI, uS_sL, uS_sD, uS_sR, nx_tk, uC_tk, uS_tk, e1, x69, x68, x90, hneq]
            have hmin : MIN (sI (sI N 38 7 (mI N 38 7 + nI 1)) 38 11 (nI (at_ + 1))) (sI (sI E 69 58 (mI E 69 58 + nI 1)) 69 69 (nI (at_ + 1))) B cnt d2 H b t := ⟨st2, at_ + 1, td, n', eS, eR, oS', oR', v', val', rval', ⟨ht, (xs 89 t (by omega)).trans x89, (xs 90 t (by omega)).trans x90, hlast, hst30⟩, ⟨(xo 8 (by omega) (by omega) (by omega)).trans w1, xr9, (xo 10 (by omega) (by omega) (by omega)).trans w3, (xs 69 68 (by omega)).trans x68, mI_eq _ _ _ _, mI_eq _ _ _ _, (xo 12 (by omega) (by omega) (by omega)).trans w7, (xs 69 70 (by omega)).trans ((q5.1.1 69 70 (by omega)).trans ((e3 69 70 (by omega)).trans w8))⟩, hnoC, ⟨hdn, sat_sw hs2 hswC⟩, ⟨(xs 69 52 (by omega)).trans z1, z2⟩, ⟨(hcw.1 69 52 (by omega)).trans z3, z4⟩, by omega⟩
            exact ⟨_, _, Q, cnt, ct_in xr1 w1 (hTc.trans ((glC1 (fun i y1 y2 => hall i y1 y2)).trans tC)), .inl (rts_in xr2 he he1 w4 (by omega) (hTr.trans (hR15.trans tR))), .inl hpt, hMFC.c cnt, hfmp, ⟨he45, hp45⟩, .inl ⟨d2, ns9, ob2, 50 * (1000 - (e + 1)) + (23 - t), by omega, hGS.trans (sw_grw hns2 hswC), ⟨⟨h13, (xs 69 67 (by omega)).trans h67E⟩, B, H, G, F, b, fg, e + 1, 23 - t, hBC, .inl ⟨t, rfl, hmin⟩, (xs 69 57 (by omega)).trans x57, by omega, Nat.le_refl _⟩, rc_sm r3 (sw_sm hswC), hqx, (xs 69 67 (by omega)).trans h67E⟩⟩
          · -- the last step
            obtain rfl : st2 = at_ + 1 := by omega
            have hFC := hBC.2.2.1
            have hHC := hBC.2.2.2.1
            have hrc : r < cnt := by omega
            have gd : mI (sI (sI N 38 7 (mI N 38 7 + nI 1)) 38 11 (nI (at_ + 1))) 18 9 = nI (d2 + 1) := hBC.1.2.2.2.2.1.1
            have hdE : mI (sI (sI E 69 58 (mI E 69 58 + nI 1)) 69 69 (nI (at_ + 1))) 69 48 = nI d2 := hBC.2.1.1.1
            obtain ⟨en1, en2, en3, en4, en5, en6, en7, en8⟩ := enter_both hFC hHC hrc gd hdE
            have tC : tailC M2' = some ((), enM (sI (sI N 38 7 (mI N 38 7 + nI 1)) 38 11 (nI (at_ + 1))) (B r) r) := by
              unfold tailC
              simp (disch := first | omega | (simp (disch := omega) only [← Nat.add_assoc, Nat.add_sub_cancel, Nat.sub_zero, as21, as31, as32, and_self, and_true, true_and, l_0, l_1, l_2, l_3, l_4, l_5, l_6, l_7, l_8, l_9, l_10, l_11, l_12, l_13, l_14, l_15, l_16, l_17, l_18, l_19, l_20, l_21, l_22, l_23, l_24, l_25, l_26, l_27, l_28, l_29, l_30, l_31, l_32, l_33, l_34, l_35, l_36, l_37, l_38, l_39, l_40, l_41, l_42, l_43, l_44, l_45, l_47, l_48, l_50, l_52, l_60, l_61, l_63, l_80, l_99, l_100, l_101, l_102, l_103, l_105, l_106, l_107, l_108, l_109, l_110, l_111, l_112, l_114, l_115, l_116, l_117, l_118, l_119, l_120, l_122, l_168, l_200, l_320, l_360, l_528, l_548, l_1000, l_1023, l_2000, l_3000, l_1000000, qadd, qmul, qsub, qdiv, qcl, qinT, qchT, qleT, qleF, qltT, qltF, qeqT, qeqF, qneg_ne, bo0, bo1, qneg_ne', qneg_lt, mI_eq, mD_eq, mL_eq, mR_eq, mI_at, mD_at, mL_at, mI_ne, mD_ne, mL_ne, mR_ne, not_false_eq_true, not_true_eq_false, or_true, true_or, or_false, false_or, or_self, false_and, and_false, eq_self, mI_sL, mI_sD, mI_sR, mI_tk, mL_sI, mL_sD, mL_sR, mL_tk, mD_sI, mD_sL, mD_sR, mD_tk, mR_sI, mR_sL, mR_sD, mR_tk, mT_sI, mT_sL, mT_sD, mT_sR, mT_tk, mK_sI, mK_sL, mK_sD, mK_sR, mK_tk, mN_sI, mN_sL, mN_sD, mN_sR, mN_tk, nx_sI, nx_sL, nx_sD, nx_sR, uC_sI, uC_sL, uC_sD, uC_sR, uS_sI, uS_sL, uS_sD, uS_sR, nx_tk, uC_tk, uS_tk, n1, x11, xr9, xk9, xb0, xb12, en1]; done) | fail) only [↓okk_pos, ↓okk_T, ↓bnd_eq, ↓obind, ↓bind_okk, ↓bind_bnd, ↓bind_ite, ↓bind_bind, ↓reduceIte, ← Nat.add_assoc, Nat.add_sub_cancel, Nat.sub_zero, as21, as31, as32, and_self, and_true, true_and, l_0, l_1, l_2, l_3, l_4, l_5, l_6, l_7, l_8, l_9, l_10, l_11, l_12, l_13, l_14, l_15, l_16, l_17, l_18, l_19, l_20, l_21, l_22, l_23, l_24, l_25, l_26, l_27, l_28, l_29, l_30, l_31, l_32, l_33, l_34, l_35, l_36, l_37, l_38, l_39, l_40, l_41, l_42, l_43, l_44, l_45, l_47, l_48, l_50, l_52, l_60, l_61, l_63, l_80, l_99, l_100, l_101, l_102, l_103, l_105, l_106, l_107, l_108, l_109, l_110, l_111, l_112, l_114, l_115, l_116, l_117, l_118, l_119, l_120, l_122, l_168, l_200, l_320, l_360, l_528, l_548, l_1000, l_1023, l_2000, l_3000, l_1000000, qadd, qmul, qsub, qdiv, qcl, qinT, qchT, qleT, qleF, qltT, qltF, qeqT, qeqF, qneg_ne, bo0, bo1, qneg_ne', qneg_lt, mI_eq, mD_eq, mL_eq, mR_eq, mI_at, mD_at, mL_at, mI_ne, mD_ne, mL_ne, mR_ne, not_false_eq_true, not_true_eq_false, or_true, true_or, or_false, false_or, or_self, false_and, and_false, eq_self, mI_sL, mI_sD, mI_sR, mI_tk, mL_sI, mL_sD, mL_sR, mL_tk, mD_sI, mD_sL, mD_sR, mD_tk, mR_sI, mR_sL, mR_sD, mR_tk, mT_sI, mT_sL, mT_sD, mT_sR, mT_tk, mK_sI, mK_sL, mK_sD, mK_sR, mK_tk, mN_sI, mN_sL, mN_sD, mN_sR, mN_tk, nx_sI, nx_sL, nx_sD, nx_sR, uC_sI, uC_sL, uC_sD, uC_sR, uS_sI, uS_sL, uS_sD, uS_sR, nx_tk, uC_tk, uS_tk, n1, x11, xr9, xk9, xb0, xb12, en1]
            have tR : tailR S3 = some ((), enR (sI (sI E 69 58 (mI E 69 58 + nI 1)) 69 69 (nI (at_ + 1))) r) := by
              unfold tailR
              simp (disch := first | omega | (simp (disch := omega) only [← Nat.add_assoc, Nat.add_sub_cancel, Nat.sub_zero, as21, as31, as32, and_self, and_true, true_and, l_0, l_1, l_2, l_3, l_4, l_5, l_6, l_7, l_8, l_9, l_10, l_11, l_12, l_13, l_14, l_15, l_16, l_17, l_18, l_19, l_20, l_21, l_22, l_23, l_24, l_25, l_26, l_27, l_28, l_29, l_30, l_31, l_32, l_33, l_34, l_35, l_36, l_37, l_38, l_39, l_40, l_41, l_42, l_43, l_44, l_45, l_47, l_48, l_50, l_52, l_60, l_61, l_63, l_80, l_99, l_100, l_101, l_102, l_103, l_105, l_106, l_107, l_108, l_109, l_110, l_111, l_112, l_114, l_115, l_116, l_117, l_118, l_119, l_120, l_122, l_168, l_200, l_320, l_360, l_528, l_548, l_1000, l_1023, l_2000, l_3000, l_1000000, qadd, qmul, qsub, qdiv, qcl, qinT, qchT, qleT, qleF, qltT, qltF, qeqT, qeqF, qneg_ne, bo0, bo1, qneg_ne', qneg_lt, mI_eq, mD_eq, mL_eq, mR_eq, mI_at, mD_at, mL_at, mI_ne, mD_ne, mL_ne, mR_ne, not_false_eq_true, not_true_eq_false, or_true, true_or, or_false, false_or, or_self, false_and, and_false, eq_self, mI_sL, mI_sD, mI_sR, mI_tk, mL_sI, mL_sD, mL_sR, mL_tk, mD_sI, mD_sL, mD_sR, mD_tk, mR_sI, mR_sL, mR_sD, mR_tk, mT_sI, mT_sL, mT_sD, mT_sR, mT_tk, mK_sI, mK_sL, mK_sD, mK_sR, mK_tk, mN_sI, mN_sL, mN_sD, mN_sR, mN_tk, nx_sI, nx_sL, nx_sD, nx_sR, uC_sI, uC_sL, uC_sD, uC_sR, uS_sI, uS_sL, uS_sD, uS_sR, nx_tk, uC_tk, uS_tk, e1, x69, x68, x90, x93, en2]; done) | fail) only [↓okk_pos, ↓okk_T, ↓bnd_eq, ↓obind, ↓bind_okk, ↓bind_bnd, ↓bind_ite, ↓bind_bind, ↓reduceIte, ← Nat.add_assoc, Nat.add_sub_cancel, Nat.sub_zero, as21, as31, as32, and_self, and_true, true_and, l_0, l_1, l_2, l_3, l_4, l_5, l_6, l_7, l_8, l_9, l_10, l_11, l_12, l_13, l_14, l_15, l_16, l_17, l_18, l_19, l_20, l_21, l_22, l_23, l_24, l_25, l_26, l_27, l_28, l_29, l_30, l_31, l_32, l_33, l_34, l_35, l_36, l_37, l_38, l_39, l_40, l_41, l_42, l_43, l_44, l_45, l_47, l_48, l_50, l_52, l_60, l_61, l_63, l_80, l_99, l_100, l_101, l_102, l_103, l_105, l_106, l_107, l_108, l_109, l_110, l_111, l_112, l_114, l_115, l_116, l_117, l_118, l_119, l_120, l_122, l_168, l_200, l_320, l_360, l_528, l_548, l_1000, l_1023, l_2000, l_3000, l_1000000, qadd, qmul, qsub, qdiv, qcl, qinT, qchT, qleT, qleF, qltT, qltF, qeqT, qeqF, qneg_ne, bo0, bo1, qneg_ne', qneg_lt, mI_eq, mD_eq, mL_eq, mR_eq, mI_at, mD_at, mL_at, mI_ne, mD_ne, mL_ne, mR_ne, not_false_eq_true, not_true_eq_false, or_true, true_or, or_false, false_or, or_self, false_and, and_false, eq_self, mI_sL, mI_sD, mI_sR, mI_tk, mL_sI, mL_sD, mL_sR, mL_tk, mD_sI, mD_sL, mD_sR, mD_tk, mR_sI, mR_sL, mR_sD, mR_tk, mT_sI, mT_sL, mT_sD, mT_sR, mT_tk, mK_sI, mK_sL, mK_sD, mK_sR, mK_tk, mN_sI, mN_sL, mN_sD, mN_sR, mN_tk, nx_sI, nx_sL, nx_sD, nx_sR, uC_sI, uC_sL, uC_sD, uC_sR, uS_sI, uS_sL, uS_sD, uS_sR, nx_tk, uC_tk, uS_tk, e1, x69, x68, x90, x93, en2]
            have hn0 : n' = 0 := by
              have hb0 := k10.2.2
              have := qinj (by omega) (by omega) (hs2.1.2.1.symm.trans k11)
              omega
            subst hn0
            have hBN := bas_cax hBC en3 en4 (rc_sm (rc_nm (.inl rfl) hBC.1 (nm_of en6)) (sw_sm en7)) (ww_sw hBC.2.1 en7) en8 en7
            have h89r : mI S 89 r = nI 1 := hr4.trans h89
            obtain ⟨h2a, h2b⟩ := hI.2.1 r hrc h89r hr3
            have hfr := hI.2.2.1 t r (at_ + 1) ht h89 hr1 hr2 h90 hst30
            have hfrE := (sat_sw (sat_sw hs2 hswC) en7).frs
            have hno9 : RTN (enM (sI (sI N 38 7 (mI N 38 7 + nI 1)) 38 11 (nI (at_ + 1))) (B r) r) (enR (sI (sI E 69 58 (mI E 69 58 + nI 1)) 69 69 (nI (at_ + 1))) r) := by
              obtain ⟨⟨st9, gm9, fg9, hT9⟩, -⟩ := hFC.2.2.2.2.2.2 r hrc
              exact ⟨(enM_n hT9.1.2.2.1 (by have := hT9.1.2.2.1; omega)).trans hnoC.1, (enR_n (by omega)).trans hnoC.2⟩
            have xs2 : ∀ a j, (a ≠ 69 ∨ (j ≠ 58 ∧ j ≠ 69 ∧ j ≠ 68 ∧ j ≠ 70 ∧ j ≠ 35)) → a ≠ 95 → a ≠ 96 → mI (enR (sI (sI E 69 58 (mI E 69 58 + nI 1)) 69 69 (nI (at_ + 1))) r) a j = mI E a j := fun a j y1 y2 y3 => (enR_n (by omega)).trans (xs a j (by omega))
            have hmin := min_0 (X := H t (at_ + 1)) (bX := b t) (n := 0) hBN hrc ((xs2 89 r (by omega) (by omega) (by omega)).trans ((q5.1.1 89 r (by omega)).trans ((e3 89 r (by omega)).trans h89r))) en5 hno9 rfl (by rw [hdn]; exact hfrE) hfr h2a (by omega)
            have h67N := (xs2 69 67 (by omega) (by omega) (by omega)).trans h67E
            refine ⟨_, _, Q, cnt, ct_in xr1 w1 (hTc.trans ((glC1 (fun i y1 y2 => hall i y1 y2)).trans tC)), .inl (rts_in xr2 he he1 w4 (by omega) (hTr.trans (hR15.trans tR))), .inl hpt, (hMFC.trans en8.1.1).c cnt, hfmp, ⟨he45.post en8.1.2.2, hp45⟩, .inl ⟨d2, ns9, ob2, 50 * (1000 - (e + 1)) + (23 - r), by omega, (hGS.trans (sw_grw hns2 hswC)).trans (sw_grw hns2 en7), ⟨⟨?_, h67N⟩, B, H, G, F, b, fg, e + 1, 23 - r, hBN, .inl ⟨r, rfl, hmin⟩, (xs2 69 57 (by omega) (by omega) (by omega)).trans x57, by omega, Nat.le_refl _⟩, rc_sm (rc_sm r3 (sw_sm hswC)) (sw_sm en7), hqx, h67N⟩⟩
            exact (en6.1 18 13 (by omega)).trans h13
        · exact absurd (h67E.symm.trans q.1) (by decide)
      · exact absurd (h67E.symm.trans q.1) (by decide)
    · -- a guard does not hold
      obtain ⟨q, q1, q2, q3, q4⟩ := least (P := ok) (lo := fg' at_) (fg' (at_ + 1)) (by
        refine Classical.byContradiction (fun y => hall (fun j y1 y2 => Classical.byContradiction (fun y3 => y ⟨j, y1, y2, y3⟩)))
      )
      obtain ⟨S3, hrk, hR15⟩ := glR2 q q1 q2 (Nat.zero_le _) q3 q4
      have hC15 := glC2 q q1 q2 q3 q4
      have hsb := hrk.sb
      obtain ⟨e3, e3D, e3L⟩ := rks_e hrk
      have hW3 := ww_fr hW hsb
      have hR3 := rc_sm hR2 (sb_sm hsb)
      have hgs3 : GRW S S3 ns ns := grw_sb hns (fun a j y1 y2 y3 => e3 a j (by omega))
      have hB3 : BAS M2 S3 B cnt (td + n) ns ob nc nf H G F b fg := bas_st hB2 ⟨fun _ _ _ => rfl, fun _ _ => rfl, fun _ _ _ => rfl, rfl⟩ (fun a j y => e3 a j (by omega)) hR3 hW3 hgs3
      have hw3 : WTR M2 S3 B t at_ td := wtr_x hw2 (fun _ _ _ => rfl) rfl (fun j y => e3 69 j (by omega))
      have hno3 : RTN M2 S3 := ⟨hno2.1, (e3 69 71 (by omega)).trans h71⟩
      obtain ⟨⟨st9, gm9, fg9, hT9⟩, -, ⟨rr, -, rr2, -, -, -⟩, -⟩ := hB3.2.2.1.2.2.2.2.2.2 t ht
      have hgm9 := hT9.2.2.1.2.2
      obtain rfl : gm9 = gm2 := qinj (by omega) (by omega) (hT9.2.2.1.2.1.symm.trans ((e3 92 t (by omega)).trans k4))
      have hqg : q < gm9 := by omega
      have hsd := hI.2.2.2 t at_ q st2 ht h89 h90 hst30 hat (by omega) (by omega)
      have e104 := e3 104 (120 * t + q) (by omega)
      have hex : ∃ N E, d_X10_exitAt (nI q) M2 = some ((), N) ∧ d_X12_leavesBy (nI (120 * t + q)) S3 = some ((), E) ∧ FOR N E B cnt ∧ HDR N E cnt ∧ RC N E 18 (td + n) ns ∧ WW E (td + n) ob ns nc nf ∧ SW S3 E ∧ CAX M2 S3 N E ∧ EXB M2 S3 N E B cnt t q td (td + n) := by
        rcases hsd with z | ⟨s, n9, z1, z2, z3, -⟩
        · exact exit_leave hB3.2.2.1 hB3.2.2.2.1 ht hT9 hqg hw3 hno3 hR3 hW3 hB3.2.2.2.2.1 (by omega) (e104.trans z)
        · exact exit_side hB3.2.2.1 hB3.2.2.2.1 ht hT9 hqg hw3 hno3 hR3 hW3 z2 (e104.trans z3)
      obtain ⟨N, E, x1, x2, x3, x4, x5, x6, x7, x8, x9⟩ := hex
      have hBE := bas_cax hB3 x3 x4 x5 x6 x8 x7
      have hct : CT M N := ct_in xr1 w1 (by rw [hTc, hC15, x1]; rfl)
      have hrt : RTS S E := rts_in xr2 he he1 w4 (by omega) (by rw [hTr, hR15, x2]; rfl)
      have h13 : mI N 18 13 = nI 45 := by
        exact (x8.1.2.2 13 (by omega)).trans ((hM2e 18 13 (by omega)).trans xr1)
      have hsE : ∀ j, j = 57 ∨ j = 67 → mI E 69 j = mI S 69 j := fun j y => (x7.1 69 j (by omega) (by omega) (by omega) (by omega)).trans (e3 69 j (by omega))
      have h67E := (hsE 67 (by omega)).trans xr2
      have h57E := (hsE 57 (by omega)).trans he
      have hsm : SM S E := ⟨fun a j y1 y2 y3 y4 y5 => ((sw_sm x7).1 a j y1 y2 y3 y4 y5).trans (e3 a j (by omega)), fun j => ⟨((sw_sm x7).2.1 j).1.trans (e3D 107 j (by omega)), ((sw_sm x7).2.1 j).2.trans (e3D 115 j (by omega))⟩, fun j => ((sw_sm x7).2.2.1 j).trans (e3L 117 j), (sw_sm x7).2.2.2.trans (e3L 69 64)⟩
      have hfin : ∀ x, x < 23 - t → MOD N E B cnt (td + n) H b fg x → TRN M S P cnt ns nc nf μ := fun x hx hmo => ⟨N, E, P, cnt, hct, .inl hrt, .inr rfl, (hMF2.trans x8.1.1).c cnt, FM.refl P 28, ⟨.inr ⟨(x8.1.2.2 14 (by omega)).trans (hM2e 18 14 (by omega)), (x8.1.2.2 15 (by omega)).trans (hM2e 18 15 (by omega))⟩, .inr ⟨rfl, rfl⟩⟩, .inl ⟨td + n, ns, ob, 50 * (1000 - e) + x, by omega, hgs3.trans (sw_grw hns x7), ⟨⟨h13, h67E⟩, B, H, G, F, b, fg, e, x, hBE, hmo, h57E, by omega, Nat.le_refl _⟩, rc_sm hP hsm, hXP.1, h67E⟩⟩
      have hfrs : FRS E (H t at_) td (b t) n := (sat_sw (sat_fr hs hsb) x7).frs
      rcases x9 with ⟨s, s1, s2, s3, s4⟩ | ⟨s1, s2, s3, s4⟩
      · -- a side is followed
        rcases hsd with z | ⟨s', n9, z1, z2, z3, z4, z5, z6, z7, z8⟩
        · exact absurd (s2.symm.trans (e104.trans z)) (of_eq_false (qneg_ne (by omega)))
        · obtain rfl : s = s' := qinj (by omega) (by omega) (s2.symm.trans (e104.trans z3))
          obtain rfl : n9 = n := by
            have hb0 := k10.2.2
            have := qinj (by omega) (by omega) (z5.symm.trans hs.1.2.1)
            omega
          have h93s : mI S 93 s = nI r := z4.trans hr2
          obtain ⟨-, -, ⟨r9, y1, y2, y3, y4, -⟩, -⟩ := hF.2.2.2.2.2.2 s s1
          obtain rfl : r9 = r := qinj (by omega) (by omega) (y2.symm.trans h93s)
          have h89s : mI S 89 s = nI 1 := y4.symm.trans (hr4.trans h89)
          have h89E : mI E 89 s = nI 1 := (x8.2.2.2.1 89 s (by omega) (by omega) (by omega) (by omega) (by omega) (by omega) (by omega) (by omega) (by omega)).trans ((e3 89 s (by omega)).trans h89s)
          have hmin := min_0 (X := H t at_) (bX := b t) hBE s1 h89E s3 s4 rfl hfrs z7 z8 z6
          exact hfin (23 - s) (by omega) (.inl ⟨s, rfl, hmin⟩)
      · rcases s4 with s4 | ⟨s4, s5, s6, s7, v0, φ, R0, i1, i2, i3, i4, i5⟩
        · exact hfin 2 (by omega) (.inr (.inl ⟨rfl, s2, s3, s4⟩))
        · -- a side is recorded
          have hbeg : BEG E td n := ⟨⟨v0, φ, invr_self i1, i5⟩, x6.1.1, hd12⟩
          have k89 : ∀ a j, a = 89 ∨ a = 90 ∨ a = 94 ∨ a = 104 → mI E a j = mI S a j := fun a j y => (x8.2.2.2.1 a j (by omega) (by omega) (by omega) (by omega) (by omega) (by omega) (by omega) (by omega) (by omega)).trans (e3 a j (by omega))
          refine hfin 2 (by omega) (.inr (.inr (.inl ⟨rfl, 0, td, v0, 168, φ, fun _ => 0, fun _ => E, fun _ => E, fun _ => E, ⟨s2, s3⟩, s4, i3, i4, ⟨by omega, Nat.zero_le _, by omega, by omega, by omega⟩, rhi_begin hbeg, ⟨fun y => ?_, fun t' q' y1 y2 y3 y4 => ?_⟩, fun i hi => absurd hi (by omega)⟩)))
          · exact absurd (s5.symm.trans y) (of_eq_false (qneg_ne (by omega)))
          · obtain rfl : t' = t := qinj (by omega) (by omega) (y1.symm.trans s5)
            obtain rfl : q' = q := qinj (by omega) (by omega) (y3.symm.trans s6)
            exact ⟨(k89 89 t' (by omega)).trans h89, (k89 104 _ (by omega)).trans (e104.symm.trans s1), (k89 94 t' (by omega)).trans (s7.trans (e3 94 t' (by omega))).symm, at_, st2, n, (k89 90 t' (by omega)).trans h90, hst30, hat, by omega, by omega, hs.1.2.1, by omega, hfrs.symm, x6.1.1⟩
end MU7
