/-! ===== one step of both, by letter: l, s, u, d, j, z ===== -/
section MS1
theorem ah_core {M S : Mem} {o d ns : Nat} {c x : Int32} (ho : isO o) (hR : RC M S o d ns) : RC (ahM M o c x) S o d ns := by
  obtain ⟨hRV, hRF, hRT, hRO, hRA, hRS, hPR⟩ := hR
  have ho2 : o = 18 ∨ o = 28 := ho
  have e : ∀ a j, (a ≠ o ∨ (j ≠ 7 ∧ j ≠ 8)) → mI (ahM M o c x) a j = mI M a j := fun a j h => by unfold ahM; rw [mI_ne (by omega), mI_ne (by omega)]
  refine ⟨fun p hp => ?_, fun p hp => ?_, ⟨fun i hi => ?_, ?_⟩, ?_, ⟨?_, fun f hf => ?_⟩, ?_, ?_⟩
  · rw [e _ _ (by omega), e _ _ (by omega)]; exact hRV p hp
  · rw [e _ _ (by omega), e _ _ (by omega)]; exact hRF p hp
  · rw [e _ _ (by omega), e _ _ (by omega)]; exact hRT.1 i hi
  · rw [e _ _ (by omega), e _ _ (by omega)]; exact hRT.2
  · unfold RO at hRO ⊢
    rw [e o 10 (by omega), e o 12 (by omega), e o 11 (by omega)]
    exact ⟨hRO.1, hRO.2.1, hRO.2.2.1, fun k hk => by rw [e _ k (by omega)]; exact hRO.2.2.2 k hk⟩
  · rw [e _ _ (by omega)]; exact hRA.1
  · rw [e _ _ (by omega), e _ _ (by omega), e _ _ (by omega)]; exact hRA.2 f hf
  · exact RS_e hRS (fun a p _ _ => e a p (by omega)) (fun p => rfl) (fun p => rfl) (fun p => rfl) (fun p => rfl) (fun p => rfl)
  · exact PR_e hPR (fun a p _ _ => e a p (by omega)) rfl rfl (fun a p _ _ => rfl)
/-- a step of both machines; b: a jump back -/
def STP (M S : Mem) (o d ns ob nc nf : Nat) (a : Int32) (b : Prop) : Prop := ∃ N E, d_X3_execute o M = some (pB b, N) ∧ d_X12_executes S = some ((), E) ∧ ((∃ d2 ns2 ob2, ns ≤ ns2 ∧ ob ≤ ob2 ∧ RC N E o d2 ns2 ∧ WW E d2 ob2 ns2 nc nf ∧ ST M S N E o ∧ (b → d2 = d ∧ mI E 110 d = a ∧ mI E 109 d = mI S 109 d)) ∨ (¬ b ∧ RZ N E o ns ∧ WZ E ob ns nc nf ∧ XE N E o ∧ FS S E ∧ FM M N o))
def AHD (M S : Mem) (o d ns ob nc nf : Nat) (c a : Int32) (b : Prop) : Prop := (∃ x, isCh x = True ∧ ¬ x = nI 0 ∧ d_X12_why S = some (x, S) ∧ d_X3_failureAhead o M = some (x, ahM M o c a)) ∨ (d_X12_why S = some (nI 0, S) ∧ d_X3_failureAhead o M = some (nI 45, ahM M o c a) ∧ STP (ahM M o c a) S o d ns ob nc nf a b)
theorem ahd_of {M S : Mem} {o d ns ob nc nf : Nat} {c a x : Int32} {b : Prop} (hx : isCh x = True) (hy : d_X12_why S = some (x, S)) (hz : d_X3_failureAhead o M = some (wc x, ahM M o c a)) (h : x = nI 0 → STP (ahM M o c a) S o d ns ob nc nf a b) : AHD M S o d ns ob nc nf c a b := by
  by_cases e : x = nI 0
  · subst e; exact .inr ⟨hy, hz, h rfl⟩
  · exact .inl ⟨x, hx, e, hy, hz.trans (by unfold wc; rw [if_neg e])⟩
theorem stp_n {M S N E : Mem} {o d ns ob nc nf q q1 i h e : Nat} {a : Int32} {b : Prop} (ho : isO o) (h1 : d_X3_execute o M = some (pB b, N)) (h2 : d_X12_executes S = some ((), E)) (h3 : NF M N o d q i h e) (h4 : EF S E d q1 i h e) (h5 : RC N E o d ns) (h6 : WW E d ob ns nc nf) (hb : b → nI i = a) : STP M S o d ns ob nc nf a b := ⟨N, E, h1, h2, .inl ⟨d, ns, ob, Nat.le_refl _, Nat.le_refl _, h5, h6, st_of ho h3 h4, fun z => ⟨rfl, h4.2.2.2.2.1.trans (hb z), h4.1 109 d (by omega)⟩⟩⟩
theorem cI_0 {p : Prop} {a b : Int32} (ha : ¬ a = nI 0) (h : cI p a b = nI 0) : ¬ p ∧ b = nI 0 := by
  by_cases q : p
  · rw [cIT q] at h; exact absurd h ha
  · rw [cIF q] at h; exact ⟨q, h⟩
theorem n115 : ¬ nI 115 = nI 0 := by decide
theorem pBF0 : pB False = nI 0 := pBF (fun h => h)
theorem ah_7 (M : Mem) (o : Nat) (c x : Int32) : mI (ahM M o c x) o 7 = c := by unfold ahM; simp (disch := omega) only [← Nat.add_assoc, Nat.add_sub_cancel, Nat.sub_zero, as21, as31, as32, and_self, and_true, true_and, l_0, l_1, l_2, l_3, l_4, l_5, l_6, l_7, l_8, l_9, l_10, l_11, l_12, l_13, l_14, l_15, l_16, l_17, l_18, l_19, l_20, l_21, l_22, l_23, l_24, l_25, l_26, l_27, l_28, l_29, l_30, l_31, l_32, l_33, l_34, l_35, l_36, l_37, l_38, l_39, l_40, l_41, l_42, l_43, l_44, l_45, l_47, l_48, l_50, l_52, l_60, l_61, l_63, l_80, l_99, l_100, l_101, l_102, l_103, l_105, l_106, l_107, l_108, l_109, l_110, l_111, l_112, l_114, l_115, l_116, l_117, l_118, l_119, l_120, l_122, l_168, l_200, l_320, l_360, l_528, l_548, l_1000, l_1023, l_2000, l_3000, l_1000000, qadd, qmul, qsub, qdiv, qcl, qinT, qchT, qleT, qleF, qltT, qltF, qeqT, qeqF, qneg_ne, bo0, bo1, qneg_ne', qneg_lt, mI_eq, mD_eq, mL_eq, mR_eq, mI_at, mD_at, mL_at, mI_ne, mD_ne, mL_ne, mR_ne, not_false_eq_true, not_true_eq_false, or_true, true_or, or_false, false_or, or_self, false_and, and_false, eq_self, mI_sL, mI_sD, mI_sR, mI_tk, mL_sI, mL_sD, mL_sR, mL_tk, mD_sI, mD_sL, mD_sR, mD_tk, mR_sI, mR_sL, mR_sD, mR_tk, mT_sI, mT_sL, mT_sD, mT_sR, mT_tk, mK_sI, mK_sL, mK_sD, mK_sR, mK_tk, mN_sI, mN_sL, mN_sD, mN_sR, mN_tk, nx_sI, nx_sL, nx_sD, nx_sR, uC_sI, uC_sL, uC_sD, uC_sR, uS_sI, uS_sL, uS_sD, uS_sR, nx_tk, uC_tk, uS_tk]
theorem ah_8 (M : Mem) (o : Nat) (c x : Int32) : mI (ahM M o c x) o 8 = x := by unfold ahM; simp (disch := omega) only [← Nat.add_assoc, Nat.add_sub_cancel, Nat.sub_zero, as21, as31, as32, and_self, and_true, true_and, l_0, l_1, l_2, l_3, l_4, l_5, l_6, l_7, l_8, l_9, l_10, l_11, l_12, l_13, l_14, l_15, l_16, l_17, l_18, l_19, l_20, l_21, l_22, l_23, l_24, l_25, l_26, l_27, l_28, l_29, l_30, l_31, l_32, l_33, l_34, l_35, l_36, l_37, l_38, l_39, l_40, l_41, l_42, l_43, l_44, l_45, l_47, l_48, l_50, l_52, l_60, l_61, l_63, l_80, l_99, l_100, l_101, l_102, l_103, l_105, l_106, l_107, l_108, l_109, l_110, l_111, l_112, l_114, l_115, l_116, l_117, l_118, l_119, l_120, l_122, l_168, l_200, l_320, l_360, l_528, l_548, l_1000, l_1023, l_2000, l_3000, l_1000000, qadd, qmul, qsub, qdiv, qcl, qinT, qchT, qleT, qleF, qltT, qltF, qeqT, qeqF, qneg_ne, bo0, bo1, qneg_ne', qneg_lt, mI_eq, mD_eq, mL_eq, mR_eq, mI_at, mD_at, mL_at, mI_ne, mD_ne, mL_ne, mR_ne, not_false_eq_true, not_true_eq_false, or_true, true_or, or_false, false_or, or_self, false_and, and_false, eq_self, mI_sL, mI_sD, mI_sR, mI_tk, mL_sI, mL_sD, mL_sR, mL_tk, mD_sI, mD_sL, mD_sR, mD_tk, mR_sI, mR_sL, mR_sD, mR_tk, mT_sI, mT_sL, mT_sD, mT_sR, mT_tk, mK_sI, mK_sL, mK_sD, mK_sR, mK_tk, mN_sI, mN_sL, mN_sD, mN_sR, mN_tk, nx_sI, nx_sL, nx_sD, nx_sR, uC_sI, uC_sL, uC_sD, uC_sR, uS_sI, uS_sL, uS_sD, uS_sR, nx_tk, uC_tk, uS_tk]
theorem aw_l {M S : Mem} {o d ns ob nc nf f i e n h a : Nat} (ho : isO o) (hR : RC M S o d ns) (hW : WW S d ob ns nc nf) (hf : mI S 109 d = nI f) (hf1 : f < 8) (hi : mI S 110 d = nI i) (hi1 : i < 40) (he : mI S 69 57 = nI e) (he1 : e < 1000) (hl : mI S 71 f = nI n) (hn : i < n) (hn1 : n ≤ 40) (hh : mI S 111 d = nI h) (hh1 : h ≤ 8) (ha : mI S 73 (40 * f + i) = nI a) (hc : mI S 72 (40 * f + i) = nI 108) (ha1 : a < 6) : AHD M S o d ns ob nc nf (nI 108) (nI a) (False) := by
  have hR0 := hR
  have hW0 := hW
  obtain ⟨hRV, hRF, hRT, hRO, hRA, hRS, hPR⟩ := hR0
  obtain ⟨hWA, hWV, hWC, hWO, hWF, hWS, hWP, hWE⟩ := hW0
  have hd := hWA.1
  have hd1 := hWA.2.1
  have gd := hRA.1
  obtain ⟨gf0, gi0, gh0⟩ := hRA.2 d (Nat.le_refl _)
  have gf := gf0.trans hf
  have gi := gi0.trans hi
  have gh := gh0.trans hh
  have gl := (hPR.1 f).2.1.trans hl
  have gc := (hPR.1 (40 * f + i)).2.2.2.1.trans hc
  have ga := (hPR.1 (40 * f + i)).2.2.2.2.1.trans ha
  have hA := ah_core (c := nI 108) (x := nI a) ho hR
  have gd2 := hA.2.2.2.2.1.1
  have gh2 := (hA.2.2.2.2.1.2 d (Nat.le_refl _)).2.2.trans hh
  have gc2 := ah_7 M o (nI 108) (nI a)
  have ga2 := ah_8 M o (nI 108) (nI a)
  have fa := c_fa ho gd hd1 gf hf1 gi hi1 gl hn hn1 gc (by omega) ga (fs_0 ho gd2 hd1 gh2 hh1 (by omega) _) (fun _ => fk_n _ _ (by omega)) (fun _ _ => fv_n _ _ (by omega) _) (isCh_l (by omega))
  have wy := wy_l hd hd1 hf hf1 hi hi1 hl hn hn1 hh hh1 hc
  refine ahd_of ?_ wy ?_ ?_
  · exact cI_ch (isCh_l (by omega)) (isCh_l (by omega))
  · rw [fa, wc_cI, wc_115, wc_0, cIF (p := False) (fun h => h)]
  · intro h0
    obtain ⟨z, -⟩ := cI_0 n115 h0
    obtain ⟨N, E, h1, h2, h3, h4, h5, h6⟩ := sl_l ho hA hW hf hf1 hi hi1 he he1 hc gc2 ha ga2 hh (by omega) ha1
    exact stp_n ho (by rw [pBF0]; exact h1) h2 h3 h4 h5 h6 (fun q => q.elim)
theorem aw_s {M S : Mem} {o d ns ob nc nf f i e n h a : Nat} (ho : isO o) (hR : RC M S o d ns) (hW : WW S d ob ns nc nf) (hf : mI S 109 d = nI f) (hf1 : f < 8) (hi : mI S 110 d = nI i) (hi1 : i < 40) (he : mI S 69 57 = nI e) (he1 : e < 1000) (hl : mI S 71 f = nI n) (hn : i < n) (hn1 : n ≤ 40) (hh : mI S 111 d = nI h) (hh1 : h ≤ 8) (ha : mI S 73 (40 * f + i) = nI a) (hc : mI S 72 (40 * f + i) = nI 115) (ha1 : a < 6) : AHD M S o d ns ob nc nf (nI 115) (nI a) (False) := by
  have hR0 := hR
  have hW0 := hW
  obtain ⟨hRV, hRF, hRT, hRO, hRA, hRS, hPR⟩ := hR0
  obtain ⟨hWA, hWV, hWC, hWO, hWF, hWS, hWP, hWE⟩ := hW0
  have hd := hWA.1
  have hd1 := hWA.2.1
  have gd := hRA.1
  obtain ⟨gf0, gi0, gh0⟩ := hRA.2 d (Nat.le_refl _)
  have gf := gf0.trans hf
  have gi := gi0.trans hi
  have gh := gh0.trans hh
  have gl := (hPR.1 f).2.1.trans hl
  have gc := (hPR.1 (40 * f + i)).2.2.2.1.trans hc
  have ga := (hPR.1 (40 * f + i)).2.2.2.2.1.trans ha
  have hA := ah_core (c := nI 115) (x := nI a) ho hR
  have gd2 := hA.2.2.2.2.1.1
  have gh2 := (hA.2.2.2.2.1.2 d (Nat.le_refl _)).2.2.trans hh
  have gc2 := ah_7 M o (nI 115) (nI a)
  have ga2 := ah_8 M o (nI 115) (nI a)
  have fa := c_fa ho gd hd1 gf hf1 gi hi1 gl hn hn1 gc (by omega) ga (fs_1 ho gd2 hd1 gh2 hh1 (by omega) _) (fun _ => fk_n _ _ (by omega)) (fun _ _ => fv_n _ _ (by omega) _) (isCh_l (by omega))
  have wy := wy_s hd hd1 hf hf1 hi hi1 hl hn hn1 hh hh1 hc
  refine ahd_of ?_ wy ?_ ?_
  · exact cI_ch (isCh_l (by omega)) (isCh_l (by omega))
  · rw [fa, wc_cI, wc_115, wc_0, cIF (p := False) (fun h => h)]
  · intro h0
    obtain ⟨z, -⟩ := cI_0 n115 h0
    obtain ⟨t, rfl⟩ : ∃ t, h = t + 1 := ⟨h - 1, by omega⟩
    obtain ⟨N, E, h1, h2, h3, h4, h5, h6⟩ := sl_s ho hA hW hf hf1 hi hi1 he he1 hc gc2 ha ga2 hh (by omega) ha1
    exact stp_n ho (by rw [pBF0]; exact h1) h2 h3 h4 h5 h6 (fun q => q.elim)
theorem aw_u {M S : Mem} {o d ns ob nc nf f i e n h a : Nat} (ho : isO o) (hR : RC M S o d ns) (hW : WW S d ob ns nc nf) (hf : mI S 109 d = nI f) (hf1 : f < 8) (hi : mI S 110 d = nI i) (hi1 : i < 40) (he : mI S 69 57 = nI e) (he1 : e < 1000) (hl : mI S 71 f = nI n) (hn : i < n) (hn1 : n ≤ 40) (hh : mI S 111 d = nI h) (hh1 : h ≤ 8) (ha : mI S 73 (40 * f + i) = nI a) (hc : mI S 72 (40 * f + i) = nI 117) : AHD M S o d ns ob nc nf (nI 117) (nI a) (False) := by
  have hR0 := hR
  have hW0 := hW
  obtain ⟨hRV, hRF, hRT, hRO, hRA, hRS, hPR⟩ := hR0
  obtain ⟨hWA, hWV, hWC, hWO, hWF, hWS, hWP, hWE⟩ := hW0
  have hd := hWA.1
  have hd1 := hWA.2.1
  have gd := hRA.1
  obtain ⟨gf0, gi0, gh0⟩ := hRA.2 d (Nat.le_refl _)
  have gf := gf0.trans hf
  have gi := gi0.trans hi
  have gh := gh0.trans hh
  have gl := (hPR.1 f).2.1.trans hl
  have gc := (hPR.1 (40 * f + i)).2.2.2.1.trans hc
  have ga := (hPR.1 (40 * f + i)).2.2.2.2.1.trans ha
  have hA := ah_core (c := nI 117) (x := nI a) ho hR
  have gd2 := hA.2.2.2.2.1.1
  have gh2 := (hA.2.2.2.2.1.2 d (Nat.le_refl _)).2.2.trans hh
  have gc2 := ah_7 M o (nI 117) (nI a)
  have ga2 := ah_8 M o (nI 117) (nI a)
  have fa := c_fa ho gd hd1 gf hf1 gi hi1 gl hn hn1 gc (by omega) ga (fs_u ho gd2 hd1 gh2 hh1 _) (fun _ => fk_n _ _ (by omega)) (fun _ _ => fv_n _ _ (by omega) _) (isCh_l (by omega))
  have wy := wy_u hd hd1 hf hf1 hi hi1 hl hn hn1 hh hh1 hc
  refine ahd_of ?_ wy ?_ ?_
  · exact cI_ch (isCh_l (by omega)) (isCh_l (by omega))
  · rw [fa, wc_cI, wc_115, wc_0, cIF (p := False) (fun h => h)]
  · intro h0
    obtain ⟨z, -⟩ := cI_0 n115 h0
    obtain ⟨t, rfl⟩ : ∃ t, h = t + 1 := ⟨h - 1, by omega⟩
    obtain ⟨N, E, h1, h2, h3, h4, h5, h6⟩ := sl_u ho hA hW hf hf1 hi hi1 he he1 hc gc2 ha hh (by omega)
    exact stp_n ho (by rw [pBF0]; exact h1) h2 h3 h4 h5 h6 (fun q => q.elim)
theorem aw_d {M S : Mem} {o d ns ob nc nf f i e n h a : Nat} (ho : isO o) (hR : RC M S o d ns) (hW : WW S d ob ns nc nf) (hf : mI S 109 d = nI f) (hf1 : f < 8) (hi : mI S 110 d = nI i) (hi1 : i < 40) (he : mI S 69 57 = nI e) (he1 : e < 1000) (hl : mI S 71 f = nI n) (hn : i < n) (hn1 : n ≤ 40) (hh : mI S 111 d = nI h) (hh1 : h ≤ 8) (ha : mI S 73 (40 * f + i) = nI a) (hc : mI S 72 (40 * f + i) = nI 100) : AHD M S o d ns ob nc nf (nI 100) (nI a) (False) := by
  have hR0 := hR
  have hW0 := hW
  obtain ⟨hRV, hRF, hRT, hRO, hRA, hRS, hPR⟩ := hR0
  obtain ⟨hWA, hWV, hWC, hWO, hWF, hWS, hWP, hWE⟩ := hW0
  have hd := hWA.1
  have hd1 := hWA.2.1
  have gd := hRA.1
  obtain ⟨gf0, gi0, gh0⟩ := hRA.2 d (Nat.le_refl _)
  have gf := gf0.trans hf
  have gi := gi0.trans hi
  have gh := gh0.trans hh
  have gl := (hPR.1 f).2.1.trans hl
  have gc := (hPR.1 (40 * f + i)).2.2.2.1.trans hc
  have ga := (hPR.1 (40 * f + i)).2.2.2.2.1.trans ha
  have hA := ah_core (c := nI 100) (x := nI a) ho hR
  have gd2 := hA.2.2.2.2.1.1
  have gh2 := (hA.2.2.2.2.1.2 d (Nat.le_refl _)).2.2.trans hh
  have gc2 := ah_7 M o (nI 100) (nI a)
  have ga2 := ah_8 M o (nI 100) (nI a)
  have fa := c_fa ho gd hd1 gf hf1 gi hi1 gl hn hn1 gc (by omega) ga (fs_1 ho gd2 hd1 gh2 hh1 (by omega) _) (fun _ => fk_n _ _ (by omega)) (fun _ _ => fv_n _ _ (by omega) _) (isCh_l (by omega))
  have wy := wy_d hd hd1 hf hf1 hi hi1 hl hn hn1 hh hh1 hc
  refine ahd_of ?_ wy ?_ ?_
  · exact cI_ch (isCh_l (by omega)) (isCh_l (by omega))
  · rw [fa, wc_cI, wc_115, wc_0, cIF (p := False) (fun h => h)]
  · intro h0
    obtain ⟨z, -⟩ := cI_0 n115 h0
    obtain ⟨t, rfl⟩ : ∃ t, h = t + 1 := ⟨h - 1, by omega⟩
    obtain ⟨N, E, h1, h2, h3, h4, h5, h6⟩ := sl_d ho hA hW hf hf1 hi hi1 he he1 hc gc2 ha hh (by omega)
    exact stp_n ho (by rw [pBF0]; exact h1) h2 h3 h4 h5 h6 (fun q => q.elim)
theorem aw_j {M S : Mem} {o d ns ob nc nf f i e n h a : Nat} (ho : isO o) (hR : RC M S o d ns) (hW : WW S d ob ns nc nf) (hf : mI S 109 d = nI f) (hf1 : f < 8) (hi : mI S 110 d = nI i) (hi1 : i < 40) (he : mI S 69 57 = nI e) (he1 : e < 1000) (hl : mI S 71 f = nI n) (hn : i < n) (hn1 : n ≤ 40) (hh : mI S 111 d = nI h) (hh1 : h ≤ 8) (ha : mI S 73 (40 * f + i) = nI a) (hc : mI S 72 (40 * f + i) = nI 106) (ha1 : a < 40) : AHD M S o d ns ob nc nf (nI 106) (nI a) (a ≤ i) := by
  have hR0 := hR
  have hW0 := hW
  obtain ⟨hRV, hRF, hRT, hRO, hRA, hRS, hPR⟩ := hR0
  obtain ⟨hWA, hWV, hWC, hWO, hWF, hWS, hWP, hWE⟩ := hW0
  have hd := hWA.1
  have hd1 := hWA.2.1
  have gd := hRA.1
  obtain ⟨gf0, gi0, gh0⟩ := hRA.2 d (Nat.le_refl _)
  have gf := gf0.trans hf
  have gi := gi0.trans hi
  have gh := gh0.trans hh
  have gl := (hPR.1 f).2.1.trans hl
  have gc := (hPR.1 (40 * f + i)).2.2.2.1.trans hc
  have ga := (hPR.1 (40 * f + i)).2.2.2.2.1.trans ha
  have hA := ah_core (c := nI 106) (x := nI a) ho hR
  have gd2 := hA.2.2.2.2.1.1
  have gh2 := (hA.2.2.2.2.1.2 d (Nat.le_refl _)).2.2.trans hh
  have gc2 := ah_7 M o (nI 106) (nI a)
  have ga2 := ah_8 M o (nI 106) (nI a)
  have fa := c_fa ho gd hd1 gf hf1 gi hi1 gl hn hn1 gc (by omega) ga (fs_j ho gd2 hd1 gh2 hh1 _) (fun _ => fk_n _ _ (by omega)) (fun _ _ => fv_n _ _ (by omega) _) (isCh_l (by omega))
  have wy := wy_j hd hd1 hf hf1 hi hi1 hl hn hn1 hh hh1 hc
  refine ahd_of ?_ wy ?_ ?_
  · exact isCh_l (by omega)
  · rw [fa, cIF (fun h => h), cIF (fun h => h), wc_0]
  · intro h0
    by_cases b : a ≤ i
    · obtain ⟨N, E, h1, h2, h3, h4, h5, h6⟩ := sl_j1 ho hA hW hf hf1 hi hi1 he he1 hc gc2 ha ga2 hh (by omega) ha1 b
      exact stp_n ho (by rw [pBT b]; exact h1) h2 h3 h4 h5 h6 (fun _ => rfl)
    · obtain ⟨N, E, h1, h2, h3, h4, h5, h6⟩ := sl_j0 ho hA hW hf hf1 hi hi1 he he1 hc gc2 ha ga2 hh (by omega) ha1 (by omega)
      exact stp_n ho (by rw [pBF b]; exact h1) h2 h3 h4 h5 h6 (fun q => absurd q b)
theorem aw_z {M S : Mem} {o d ns ob nc nf f i e n h a : Nat} (ho : isO o) (hR : RC M S o d ns) (hW : WW S d ob ns nc nf) (hf : mI S 109 d = nI f) (hf1 : f < 8) (hi : mI S 110 d = nI i) (hi1 : i < 40) (he : mI S 69 57 = nI e) (he1 : e < 1000) (hl : mI S 71 f = nI n) (hn : i < n) (hn1 : n ≤ 40) (hh : mI S 111 d = nI h) (hh1 : h ≤ 8) (ha : mI S 73 (40 * f + i) = nI a) (hc : mI S 72 (40 * f + i) = nI 122) (ha1 : a < 40) : AHD M S o d ns ob nc nf (nI 122) (nI a) (isNl (mI S 105 (14 * d + 6 + h - 1)) (mI S 106 (14 * d + 6 + h - 1)) (mD S 107 (14 * d + 6 + h - 1)) ∧ a ≤ i) := by
  have hR0 := hR
  have hW0 := hW
  obtain ⟨hRV, hRF, hRT, hRO, hRA, hRS, hPR⟩ := hR0
  obtain ⟨hWA, hWV, hWC, hWO, hWF, hWS, hWP, hWE⟩ := hW0
  have hd := hWA.1
  have hd1 := hWA.2.1
  have gd := hRA.1
  obtain ⟨gf0, gi0, gh0⟩ := hRA.2 d (Nat.le_refl _)
  have gf := gf0.trans hf
  have gi := gi0.trans hi
  have gh := gh0.trans hh
  have gl := (hPR.1 f).2.1.trans hl
  have gc := (hPR.1 (40 * f + i)).2.2.2.1.trans hc
  have ga := (hPR.1 (40 * f + i)).2.2.2.2.1.trans ha
  have hA := ah_core (c := nI 122) (x := nI a) ho hR
  have gd2 := hA.2.2.2.2.1.1
  have gh2 := (hA.2.2.2.2.1.2 d (Nat.le_refl _)).2.2.trans hh
  have gc2 := ah_7 M o (nI 122) (nI a)
  have ga2 := ah_8 M o (nI 122) (nI a)
  have fa := c_fa ho gd hd1 gf hf1 gi hi1 gl hn hn1 gc (by omega) ga (fs_1 ho gd2 hd1 gh2 hh1 (by omega) _) (fun _ => fk_n _ _ (by omega)) (fun _ _ => fv_n _ _ (by omega) _) (isCh_l (by omega))
  have wy := wy_z hd hd1 hf hf1 hi hi1 hl hn hn1 hh hh1 hc
  refine ahd_of ?_ wy ?_ ?_
  · exact cI_ch (isCh_l (by omega)) (isCh_l (by omega))
  · rw [fa, wc_cI, wc_115, wc_0, cIF (p := False) (fun h => h)]
  · intro h0
    obtain ⟨z, -⟩ := cI_0 n115 h0
    obtain ⟨t, rfl⟩ : ∃ t, h = t + 1 := ⟨h - 1, by omega⟩
    rw [← Nat.add_assoc, Nat.add_sub_cancel]
    by_cases q : isNl (mI S 105 (14 * d + 6 + t)) (mI S 106 (14 * d + 6 + t)) (mD S 107 (14 * d + 6 + t))
    · by_cases b : a ≤ i
      · obtain ⟨N, E, h1, h2, h3, h4, h5, h6⟩ := sl_z1 ho hA hW hf hf1 hi hi1 he he1 hc gc2 ha ga2 hh (by omega) ha1 q b
        exact stp_n ho (by rw [pBT ⟨q, b⟩]; exact h1) h2 h3 h4 h5 h6 (fun _ => rfl)
      · obtain ⟨N, E, h1, h2, h3, h4, h5, h6⟩ := sl_z2 ho hA hW hf hf1 hi hi1 he he1 hc gc2 ha ga2 hh (by omega) ha1 q (by omega)
        exact stp_n ho (by rw [pBF (fun y => b y.2)]; exact h1) h2 h3 h4 h5 h6 (fun y => absurd y.2 b)
    · obtain ⟨N, E, h1, h2, h3, h4, h5, h6⟩ := sl_z0 ho hA hW hf hf1 hi hi1 he he1 hc gc2 ha ga2 hh (by omega) ha1 q
      exact stp_n ho (by rw [pBF (fun y => q y.1)]; exact h1) h2 h3 h4 h5 h6 (fun y => absurd y.1 q)
end MS1
