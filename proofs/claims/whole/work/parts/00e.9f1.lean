/-! ===== a step of a trace ===== -/
section MK1
theorem rk_sb (S : Mem) (V : Vl) : SB S (rkM S V) := by
  refine ⟨fun a j h1 h2 => ?_, fun a j h => ?_, fun a j => ?_⟩
  · unfold rkM gvM; simp (disch := omega) only [← Nat.add_assoc, Nat.add_sub_cancel, Nat.sub_zero, as21, as31, as32, and_self, and_true, true_and, l_0, l_1, l_2, l_3, l_4, l_5, l_6, l_7, l_8, l_9, l_10, l_11, l_12, l_13, l_14, l_15, l_16, l_17, l_18, l_19, l_20, l_21, l_22, l_23, l_24, l_25, l_26, l_27, l_28, l_29, l_30, l_31, l_32, l_33, l_34, l_35, l_36, l_37, l_38, l_39, l_40, l_41, l_42, l_43, l_44, l_45, l_47, l_48, l_50, l_52, l_60, l_61, l_63, l_80, l_99, l_100, l_101, l_102, l_103, l_105, l_106, l_107, l_108, l_109, l_110, l_111, l_112, l_114, l_115, l_116, l_117, l_118, l_119, l_120, l_122, l_168, l_200, l_320, l_360, l_528, l_548, l_1000, l_1023, l_2000, l_3000, l_1000000, qadd, qmul, qsub, qdiv, qcl, qinT, qchT, qleT, qleF, qltT, qltF, qeqT, qeqF, qneg_ne, bo0, bo1, qneg_ne', qneg_lt, mI_eq, mD_eq, mL_eq, mR_eq, mI_at, mD_at, mL_at, mI_ne, mD_ne, mL_ne, mR_ne, not_false_eq_true, not_true_eq_false, or_true, true_or, or_false, false_or, or_self, false_and, and_false, eq_self, mI_sL, mI_sD, mI_sR, mI_tk, mL_sI, mL_sD, mL_sR, mL_tk, mD_sI, mD_sL, mD_sR, mD_tk, mR_sI, mR_sL, mR_sD, mR_tk, mT_sI, mT_sL, mT_sD, mT_sR, mT_tk, mK_sI, mK_sL, mK_sD, mK_sR, mK_tk, mN_sI, mN_sL, mN_sD, mN_sR, mN_tk, nx_sI, nx_sL, nx_sD, nx_sR, uC_sI, uC_sL, uC_sD, uC_sR, uS_sI, uS_sL, uS_sD, uS_sR, nx_tk, uC_tk, uS_tk]
  · unfold rkM gvM; simp (disch := omega) only [← Nat.add_assoc, Nat.add_sub_cancel, Nat.sub_zero, as21, as31, as32, and_self, and_true, true_and, l_0, l_1, l_2, l_3, l_4, l_5, l_6, l_7, l_8, l_9, l_10, l_11, l_12, l_13, l_14, l_15, l_16, l_17, l_18, l_19, l_20, l_21, l_22, l_23, l_24, l_25, l_26, l_27, l_28, l_29, l_30, l_31, l_32, l_33, l_34, l_35, l_36, l_37, l_38, l_39, l_40, l_41, l_42, l_43, l_44, l_45, l_47, l_48, l_50, l_52, l_60, l_61, l_63, l_80, l_99, l_100, l_101, l_102, l_103, l_105, l_106, l_107, l_108, l_109, l_110, l_111, l_112, l_114, l_115, l_116, l_117, l_118, l_119, l_120, l_122, l_168, l_200, l_320, l_360, l_528, l_548, l_1000, l_1023, l_2000, l_3000, l_1000000, qadd, qmul, qsub, qdiv, qcl, qinT, qchT, qleT, qleF, qltT, qltF, qeqT, qeqF, qneg_ne, bo0, bo1, qneg_ne', qneg_lt, mI_eq, mD_eq, mL_eq, mR_eq, mI_at, mD_at, mL_at, mI_ne, mD_ne, mL_ne, mR_ne, not_false_eq_true, not_true_eq_false, or_true, true_or, or_false, false_or, or_self, false_and, and_false, eq_self, mI_sL, mI_sD, mI_sR, mI_tk, mL_sI, mL_sD, mL_sR, mL_tk, mD_sI, mD_sL, mD_sR, mD_tk, mR_sI, mR_sL, mR_sD, mR_tk, mT_sI, mT_sL, mT_sD, mT_sR, mT_tk, mK_sI, mK_sL, mK_sD, mK_sR, mK_tk, mN_sI, mN_sL, mN_sD, mN_sR, mN_tk, nx_sI, nx_sL, nx_sD, nx_sR, uC_sI, uC_sL, uC_sD, uC_sR, uS_sI, uS_sL, uS_sD, uS_sR, nx_tk, uC_tk, uS_tk]
  · rfl
theorem SB.refl (S : Mem) : SB S S := ⟨fun _ _ _ _ => rfl, fun _ _ _ => rfl, fun _ _ => rfl⟩
theorem vS_fr {S E : Mem} (h : SB S E) (p : Nat) : vS E p = vS S p := by
  unfold vS
  rw [h.1 105 p (by omega) (by omega), h.1 106 p (by omega) (by omega), h.2.1 107 p (by omega)]
/-- no failing, and no failing either where only the recording's cells differ -/
theorem why_fr {S E : Mem} {d ns ob nc nf f i n h : Nat} (hW : WW S d ob ns nc nf) (hB : SB S E) (hf : mI S 109 d = nI f) (hf0 : f < nf) (hi : mI S 110 d = nI i) (hl : mI S 71 f = nI n) (hn : i < n) (hn1 : n ≤ 40) (hh : mI S 111 d = nI h) (hh1 : h ≤ 8) (hy : d_X12_why S = some (nI 0, S)) : d_X12_why E = some (nI 0, E) := by
  have hWP := hW.2.2.2.2.2.2.1
  have hf1 : f < 8 := by have := hWP.2.1; omega
  have hi1 : i < 40 := by omega
  have hLO := (hWP.2.2.2.2.1 f hf0).2.2.2 i (by rw [hl, qcl (by omega)]; exact hn)
  rcases hLO with hc | ⟨hc, a, ha1, ha⟩ | ⟨hc, a, ha1, ha⟩ | ⟨hc, a, ha1, ha⟩ | ⟨hc, a, ha1, ha⟩ | ⟨hc, a, ha1, ha⟩ | ⟨hc, ha⟩
  · obtain ⟨a, ha⟩ := some_nI (mI S 73 (40 * f + i))
    exact we_i hW hB hf hf1 hi hi1 hl hn hn1 hh hh1 ha hc hy
  · exact we_k hW hB hf hf1 hi hi1 hl hn hn1 hh hh1 ha hc hy
  · rcases hc with hc | hc | hc | hc | hc
    · exact we_l hW hB hf hf1 hi hi1 hl hn hn1 hh hh1 ha hc hy
    · exact we_s hW hB hf hf1 hi hi1 hl hn hn1 hh hh1 ha hc hy
    · exact we_g hW hB hf hf1 hi hi1 hl hn hn1 hh hh1 ha hc ha1 hy
    · exact we_p hW hB hf hf1 hi hi1 hl hn hn1 hh hh1 ha hc ha1 hy
    · exact we_m hW hB hf hf1 hi hi1 hl hn hn1 hh hh1 ha hc ha1 hy
  · rcases hc with hc | hc
    · exact we_j hW hB hf hf1 hi hi1 hl hn hn1 hh hh1 ha hc hy
    · exact we_z hW hB hf hf1 hi hi1 hl hn hn1 hh hh1 ha hc hy
  · exact we_n hW hB hf hf1 hi hi1 hl hn hn1 hh hh1 ha hc hy
  · exact we_c hW hB hf hf1 hi hi1 hl hn hn1 hh hh1 ha hc ha1 hy
  · rcases hc with hc | hc | hc | hc | hc | hc | hc | hc | hc | hc | hc | hc
    · exact we_u hW hB hf hf1 hi hi1 hl hn hn1 hh hh1 ha hc hy
    · exact we_d hW hB hf hf1 hi hi1 hl hn hn1 hh hh1 ha hc hy
    · exact we_w hW hB hf hf1 hi hi1 hl hn hn1 hh hh1 ha hc hy
    · exact we_r hW hB hf hf1 hi hi1 hl hn hn1 hh hh1 ha hc hy
    · exact we_t hW hB hf hf1 hi hi1 hl hn hn1 hh hh1 ha hc hy
    · exact we_add hW hB hf hf1 hi hi1 hl hn hn1 hh hh1 ha hc hy
    · exact we_sub hW hB hf hf1 hi hi1 hl hn hn1 hh hh1 ha hc hy
    · exact we_mul hW hB hf hf1 hi hi1 hl hn hn1 hh hh1 ha hc hy
    · exact we_div hW hB hf hf1 hi hi1 hl hn hn1 hh hh1 ha hc hy
    · exact we_rem hW hB hf hf1 hi hi1 hl hn hn1 hh hh1 ha hc hy
    · exact we_lt hW hB hf hf1 hi hi1 hl hn hn1 hh hh1 ha hc hy
    · exact we_eq hW hB hf hf1 hi hi1 hl hn hn1 hh hh1 ha hc hy
theorem ati_fr {S E : Mem} {d ob ns nc nf f i e n h c : Nat} {a : Int32} (hA : ATI S d ob ns nc nf f i e n h a c) (hB : SB S E) (hf0 : f < nf) : ATI E d ob ns nc nf f i e n h a c := by
  obtain ⟨hW, h1, h2, h3, h4, h5, h6, h7, h8, h9, h10, h11, h12, h13, h14⟩ := hA
  have b := hB.1
  exact ⟨ww_fr hW hB, (b 109 d (by omega) (by omega)).trans h1, h2, (b 110 d (by omega) (by omega)).trans h3, h4, (b 69 57 (by omega) (by omega)).trans h5, (b 71 f (by omega) (by omega)).trans h6, h7, h8, (b 111 d (by omega) (by omega)).trans h9, h10, (b 73 _ (by omega) (by omega)).trans h11, (b 72 _ (by omega) (by omega)).trans h12, wr_fr h13 hB, why_fr hW hB h1 hf0 h3 h6 h7 h8 h9 h10 h14⟩
theorem sat_fr {S S2 R : Mem} {bS bR n oS oR v : Nat} {eS eR : Nat → Nat} {val rval : Nat → Vl} (hs : Sat S R bS bR n eS eR oS oR v val rval) (hB : SB S S2) : Sat S2 R bS bR n eS eR oS oR v val rval := by
  obtain ⟨⟨f1, f2, f3, f4⟩, s1, s2, s3⟩ := hs
  have b := hB.1
  have eN : ∀ f, hN S2 f = hN S f := fun f => by unfold hN; rw [b 111 f (by omega) (by omega)]
  refine ⟨⟨(b 69 48 (by omega) (by omega)).trans f1, f2, f3, fun j hj => ?_⟩, s1, fun j k l hj hc => ?_, fun w hw => ?_⟩
  · rw [b 109 _ (by omega) (by omega), b 110 _ (by omega) (by omega), eN]; exact f4 j hj
  · unfold Cv at hc
    rw [eN] at hc
    obtain ⟨u, u1, u2, u3, u4⟩ := s2 j k l hj hc
    exact ⟨u, u1, u2, (vS_fr hB _).trans u3, u4⟩
  · exact Kn_e (s3 w hw) rfl rfl rfl rfl (Nat.le_refl _) (Nat.le_refl _) (fun p _ => b 112 p (by omega) (by omega)) (fun _ _ => rfl)
theorem sat_ln {S R : Mem} {bS bR n oS oR v k f i : Nat} {eS eR : Nat → Nat} {val rval : Nat → Vl} (hs : Sat S R bS bR n eS eR oS oR v val rval) : Sat S (lnR R k f i) bS bR n eS eR oS oR v val rval := by
  obtain ⟨⟨f1, f2, f3, f4⟩, s1, s2, s3⟩ := hs
  have b : ∀ a j, a ≠ 118 → (a ≠ 69 ∨ j ≠ 76) → mI (lnR R k f i) a j = mI R a j := fun a j h1 h2 => by unfold lnR; rw [mI_ne (by omega), mI_ne (by omega)]
  have eN : ∀ f', hN (lnR R k f i) f' = hN R f' := fun f' => by unfold hN; rw [b 111 f' (by omega) (by omega)]
  refine ⟨⟨f1, (b 69 48 (by omega) (by omega)).trans f2, f3, fun j hj => ?_⟩, (b 69 83 (by omega) (by omega)).trans s1, fun j k2 l hj hc => ?_, fun w hw => ?_⟩
  · rw [b 109 _ (by omega) (by omega), b 110 _ (by omega) (by omega), eN]; exact f4 j hj
  · unfold Cv at hc
    rw [eN] at hc
    obtain ⟨u, u1, u2, u3, u4⟩ := s2 j k2 l hj hc
    refine ⟨u, u1, (b 108 _ (by omega) (by omega)).trans u2, u3, ?_⟩
    unfold vS at u4 ⊢
    rw [b 105 _ (by omega) (by omega), b 106 _ (by omega) (by omega)]
    exact u4
  · exact Kn_e (s3 w hw) (b 123 _ (by omega) (by omega)) (b 124 _ (by omega) (by omega)) (b 125 _ (by omega) (by omega)) (b 126 _ (by omega) (by omega)) (Nat.le_refl _) (Nat.le_refl _) (fun _ _ => rfl) (fun p _ => b 112 p (by omega) (by omega))
end MK1
