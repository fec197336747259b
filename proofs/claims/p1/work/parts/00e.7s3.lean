/-! ===== one step of both, by letter: t, n, c, r ===== -/
section MS3
theorem stp_s {M S N E : Mem} {o d ns ob nc nf d2 ns2 ob2 : Nat} {a : Int32} (h1 : d_X3_execute o M = some (nI 0, N)) (h2 : d_X12_executes S = some ((), E)) (h5 : RC N E o d2 ns2) (h6 : WW E d2 ob2 ns2 nc nf) (h7 : ST M S N E o) (hns : ns ≤ ns2) (hob : ob ≤ ob2) : STP M S o d ns ob nc nf a False := ⟨N, E, by rw [pBF0]; exact h1, h2, .inl ⟨d2, ns2, ob2, hns, hob, h5, h6, h7, fun z => z.elim⟩⟩
theorem cI_or {p q : Prop} {a b : Int32} : cI (p ∨ q) a b = cI p a (cI q a b) := by
  by_cases h : p
  · rw [cIT (Or.inl h), cIT h]
  · by_cases k : q
    · rw [cIT (Or.inr k), cIF h, cIT k]
    · rw [cIF (fun y => y.elim h k), cIF h, cIF k]
theorem some_nI (x : Int32) : ∃ v, x = nI v := ⟨x.toBitVec.toNat, by apply Int32.toBitVec_inj.mp; simp [nI]⟩
theorem n111 : ¬ nI 111 = nI 0 := by decide
theorem n100 : ¬ nI 100 = nI 0 := by decide
theorem aw_t {M S : Mem} {o d ns ob nc nf f i e n h a : Nat} (ho : isO o) (hR : RC M S o d ns) (hW : WW S d ob ns nc nf) (hf : mI S 109 d = nI f) (hf1 : f < 8) (hi : mI S 110 d = nI i) (hi1 : i < 40) (he : mI S 69 57 = nI e) (he1 : e < 1000) (hl : mI S 71 f = nI n) (hn : i < n) (hn1 : n ≤ 40) (hh : mI S 111 d = nI h) (hh1 : h ≤ 8) (ha : mI S 73 (40 * f + i) = nI a) (hc : mI S 72 (40 * f + i) = nI 116) : AHD M S o d ns ob nc nf (nI 116) (nI a) (False) := by
  have hR0 := hR
  have hW0 := hW
  obtain ⟨hRV, hRF, hRT, hRO, hRA, hRS, hPR⟩ := hR0
  obtain ⟨hWA, hWV, hWC, hWO, hWF, hWS, hWP, hWE⟩ := hW0
  have hd := hWA.1
  have hd1 := hWA.2.1
  have gd := hRA.1
  obtain ⟨gf0, gi0, gh0⟩ := hRA.2 d (Nat.le_refl _)
  have gf := gf0.trans hf
  have gi := gi0.trans hi
  have gh := gh0.trans hh
  have gl := (hPR.1 f).2.1.trans hl
  have gc := (hPR.1 (40 * f + i)).2.2.2.1.trans hc
  have ga := (hPR.1 (40 * f + i)).2.2.2.2.1.trans ha
  have hA := ah_core (c := nI 116) (x := nI a) ho hR
  have gd2 := hA.2.2.2.2.1.1
  have gh2 := (hA.2.2.2.2.1.2 d (Nat.le_refl _)).2.2.trans hh
  have gc2 := ah_7 M o (nI 116) (nI a)
  have ga2 := ah_8 M o (nI 116) (nI a)
  have fa := c_fa ho gd hd1 gf hf1 gi hi1 gl hn hn1 gc (by omega) ga (fs_1 ho gd2 hd1 gh2 hh1 (by omega) _) (fun _ => fk_n _ _ (by omega)) (fun _ _ => fv_n _ _ (by omega) _) (isCh_l (by omega))
  have wy := wy_t hd hd1 hf hf1 hi hi1 hl hn hn1 hh hh1 hc
  refine ahd_of ?_ wy ?_ ?_
  · exact cI_ch (isCh_l (by omega)) (isCh_l (by omega))
  · rw [fa, wc_cI, wc_115, wc_0, cIF (p := False) (fun h => h)]
  · intro h0
    obtain ⟨z, -⟩ := cI_0 n115 h0
    obtain ⟨t, rfl⟩ : ∃ t, h = t + 1 := ⟨h - 1, by omega⟩
    obtain ⟨tn, tn1, htn⟩ := hWE.2
    by_cases q : tn = 20
    · obtain ⟨N, E, h1, h2, h3, h4, h5, h6⟩ := sl_t0 ho hA hW hf hf1 hi hi1 he he1 hc gc2 hh (by omega) htn q
      exact stp_n ho (by rw [pBF0]; exact h1) h2 h3 h4 h5 h6 (fun q => q.elim)
    · obtain ⟨N, E, h1, h2, h3, h4, h5, h6⟩ := sl_t1 ho hA hW hf hf1 hi hi1 he he1 hc gc2 hh (by omega) htn (by omega)
      refine stp_s h1 h2 h5 h6 (ST.trans ?_ (st_of ho h3 h4)) (Nat.le_refl _) (Nat.le_refl _)
      have ho2 : o = 18 ∨ o = 28 := ho
      refine ⟨⟨fun a j z => ?_, fun a j z => ⟨?_, ?_⟩, rfl⟩, ⟨fun a j z => ?_, fun a j z => ⟨?_, ?_⟩, rfl⟩, ?_, ?_, ?_⟩
      all_goals (try unfold mvC) <;> simp (disch := omega) only [← Nat.add_assoc, Nat.add_sub_cancel, Nat.sub_zero, as21, as31, as32, and_self, and_true, true_and, l_0, l_1, l_2, l_3, l_4, l_5, l_6, l_7, l_8, l_9, l_10, l_11, l_12, l_13, l_14, l_15, l_16, l_17, l_18, l_19, l_20, l_21, l_22, l_23, l_24, l_25, l_26, l_27, l_28, l_29, l_30, l_31, l_32, l_33, l_34, l_35, l_36, l_37, l_38, l_39, l_40, l_41, l_42, l_43, l_44, l_45, l_47, l_48, l_50, l_52, l_60, l_61, l_63, l_80, l_99, l_100, l_101, l_102, l_103, l_105, l_106, l_107, l_108, l_109, l_110, l_111, l_112, l_114, l_115, l_116, l_117, l_118, l_119, l_120, l_122, l_168, l_200, l_320, l_360, l_528, l_548, l_1000, l_1023, l_2000, l_3000, l_1000000, qadd, qmul, qsub, qdiv, qcl, qinT, qchT, qleT, qleF, qltT, qltF, qeqT, qeqF, qneg_ne, bo0, bo1, qneg_ne', qneg_lt, mI_eq, mD_eq, mL_eq, mR_eq, mI_at, mD_at, mL_at, mI_ne, mD_ne, mL_ne, mR_ne, not_false_eq_true, not_true_eq_false, or_true, true_or, or_false, false_or, or_self, false_and, and_false, eq_self, mI_sL, mI_sD, mI_sR, mI_tk, mL_sI, mL_sD, mL_sR, mL_tk, mD_sI, mD_sL, mD_sR, mD_tk, mR_sI, mR_sL, mR_sD, mR_tk, mT_sI, mT_sL, mT_sD, mT_sR, mT_tk, mK_sI, mK_sL, mK_sD, mK_sR, mK_tk, mN_sI, mN_sL, mN_sD, mN_sR, mN_tk, nx_sI, nx_sL, nx_sD, nx_sR, uC_sI, uC_sL, uC_sD, uC_sR, uS_sI, uS_sL, uS_sD, uS_sR, nx_tk, uC_tk, uS_tk]
theorem aw_n {M S : Mem} {o d ns ob nc nf f i e n h a : Nat} (ho : isO o) (hR : RC M S o d ns) (hW : WW S d ob ns nc nf) (hf : mI S 109 d = nI f) (hf1 : f < 8) (hi : mI S 110 d = nI i) (hi1 : i < 40) (he : mI S 69 57 = nI e) (he1 : e < 1000) (hl : mI S 71 f = nI n) (hn : i < n) (hn1 : n ≤ 40) (hh : mI S 111 d = nI h) (hh1 : h ≤ 8) (ha : mI S 73 (40 * f + i) = nI a) (hc : mI S 72 (40 * f + i) = nI 110) (ha1 : a < nc) (hr : WR S d) : AHD M S o d ns ob nc nf (nI 110) (nI a) False := by
  have hR0 := hR
  have hW0 := hW
  obtain ⟨hRV, hRF, hRT, hRO, hRA, hRS, hPR⟩ := hR0
  obtain ⟨hWA, hWV, hWC, hWO, hWF, hWS, hWP, hWE⟩ := hW0
  have hd := hWA.1
  have hd1 := hWA.2.1
  have gd := hRA.1
  obtain ⟨gf0, gi0, gh0⟩ := hRA.2 d (Nat.le_refl _)
  have gf := gf0.trans hf
  have gi := gi0.trans hi
  have gh := gh0.trans hh
  have gl := (hPR.1 f).2.1.trans hl
  have gc := (hPR.1 (40 * f + i)).2.2.2.1.trans hc
  have ga := (hPR.1 (40 * f + i)).2.2.2.2.1.trans ha
  have hA := ah_core (c := nI 110) (x := nI a) ho hR
  have gd2 := hA.2.2.2.2.1.1
  have gh2 := (hA.2.2.2.2.1.2 d (Nat.le_refl _)).2.2.trans hh
  have gc2 := ah_7 M o (nI 110) (nI a)
  have ga2 := ah_8 M o (nI 110) (nI a)
  have ho2 : o = 18 ∨ o = 28 := ho
  have hnc := hWP.2.2.2.1.1
  obtain ⟨s, hs1, hs, hs0⟩ := hWS.2.2.2.1 a ha1
  have fa := c_fa ho gd hd1 gf hf1 gi hi1 gl hn hn1 gc (by omega) ga (fs_0 ho gd2 hd1 gh2 hh1 (by omega) _) (fun _ => fk_n _ _ (by omega)) (fun _ _ => fv_o (hA.2.2.2.1.1.trans hWO.1) hWO.2.1 _) (cI_ch (isCh_l (by omega)) (isCh_l (by omega)))
  have wy := wy_n hd hd1 hf hf1 hi hi1 hl hn hn1 hh hh1 hc hWO.1 hWO.2.1
  refine ahd_of (cI_ch (isCh_l (by omega)) (cI_ch (isCh_l (by omega)) (isCh_l (by omega)))) wy ?_ ?_
  · rw [fa, cIF (p := False) (fun h => h)]; simp only [wc_cI, wc_115, wc_111, wc_0]
  · intro h0
    obtain ⟨z1, h0⟩ := cI_0 n115 h0
    obtain ⟨z2, h0⟩ := cI_0 n111 h0
    have hob := hWO.2.1
    have key : ∃ N E, d_X3_execute o (ahM M o (nI 110) (nI a)) = some (nI 0, N) ∧ d_X12_executes S = some ((), E) ∧ NF (sI (sI (ahM M o (nI 110) (nI a)) (o + 9) ob (nI s)) o 10 (nI (ob + 1))) N o d (14 * d + 6 + h) (i + 1) (h + 1) (e + 1) ∧ EF (sI (sI S 112 ob (nI s)) 69 52 (nI (ob + 1))) E d (14 * d + 6 + h) (i + 1) (h + 1) (e + 1) ∧ RC N E o d ns ∧ WW E d (ob + 1) ns nc nf := by
      rcases hr with hr | ⟨hr, v, hv1, hv, hid⟩
      · exact sl_n_0 ho hA hW hf hf1 hi hi1 he he1 hc gc2 ha ga2 hh (by omega) (by omega) hs hs1 hs0 (by omega) hr
      · exact sl_n_1 ho hA hW hf hf1 hi hi1 he he1 hc gc2 ha ga2 hh (by omega) (by omega) hs hs1 hs0 (by omega) hr hv (by omega)
    obtain ⟨N, E, h1, h2, h3, h4, h5, h6⟩ := key
    refine stp_s h1 h2 h5 h6 (ST.trans ?_ (st_of ho h3 h4)) (Nat.le_refl _) (by omega)
    refine ⟨⟨fun a j z => ?_, fun a j z => ⟨rfl, rfl⟩, rfl⟩, ⟨fun a j z => ?_, fun a j z => ⟨rfl, rfl⟩, rfl⟩, ?_, ?_, ?_⟩
    all_goals simp (disch := omega) only [← Nat.add_assoc, Nat.add_sub_cancel, Nat.sub_zero, as21, as31, as32, and_self, and_true, true_and, l_0, l_1, l_2, l_3, l_4, l_5, l_6, l_7, l_8, l_9, l_10, l_11, l_12, l_13, l_14, l_15, l_16, l_17, l_18, l_19, l_20, l_21, l_22, l_23, l_24, l_25, l_26, l_27, l_28, l_29, l_30, l_31, l_32, l_33, l_34, l_35, l_36, l_37, l_38, l_39, l_40, l_41, l_42, l_43, l_44, l_45, l_47, l_48, l_50, l_52, l_60, l_61, l_63, l_80, l_99, l_100, l_101, l_102, l_103, l_105, l_106, l_107, l_108, l_109, l_110, l_111, l_112, l_114, l_115, l_116, l_117, l_118, l_119, l_120, l_122, l_168, l_200, l_320, l_360, l_528, l_548, l_1000, l_1023, l_2000, l_3000, l_1000000, qadd, qmul, qsub, qdiv, qcl, qinT, qchT, qleT, qleF, qltT, qltF, qeqT, qeqF, qneg_ne, bo0, bo1, qneg_ne', qneg_lt, mI_eq, mD_eq, mL_eq, mR_eq, mI_at, mD_at, mL_at, mI_ne, mD_ne, mL_ne, mR_ne, not_false_eq_true, not_true_eq_false, or_true, true_or, or_false, false_or, or_self, false_and, and_false, eq_self, mI_sL, mI_sD, mI_sR, mI_tk, mL_sI, mL_sD, mL_sR, mL_tk, mD_sI, mD_sL, mD_sR, mD_tk, mR_sI, mR_sL, mR_sD, mR_tk, mT_sI, mT_sL, mT_sD, mT_sR, mT_tk, mK_sI, mK_sL, mK_sD, mK_sR, mK_tk, mN_sI, mN_sL, mN_sD, mN_sR, mN_tk, nx_sI, nx_sL, nx_sD, nx_sR, uC_sI, uC_sL, uC_sD, uC_sR, uS_sI, uS_sL, uS_sD, uS_sR, nx_tk, uC_tk, uS_tk]
theorem aw_c {M S : Mem} {o d ns ob nc nf f i e n h a : Nat} (ho : isO o) (hR : RC M S o d ns) (hW : WW S d ob ns nc nf) (hf : mI S 109 d = nI f) (hf1 : f < 8) (hi : mI S 110 d = nI i) (hi1 : i < 40) (he : mI S 69 57 = nI e) (he1 : e < 1000) (hl : mI S 71 f = nI n) (hn : i < n) (hn1 : n ≤ 40) (hh : mI S 111 d = nI h) (hh1 : h ≤ 8) (ha : mI S 73 (40 * f + i) = nI a) (hc : mI S 72 (40 * f + i) = nI 99) (ha1 : a < nf) (hr : WR S d) : AHD M S o d ns ob nc nf (nI 99) (nI a) False := by
  have hR0 := hR
  have hW0 := hW
  obtain ⟨hRV, hRF, hRT, hRO, hRA, hRS, hPR⟩ := hR0
  obtain ⟨hWA, hWV, hWC, hWO, hWF, hWS, hWP, hWE⟩ := hW0
  have hd := hWA.1
  have hd1 := hWA.2.1
  have gd := hRA.1
  obtain ⟨gf0, gi0, gh0⟩ := hRA.2 d (Nat.le_refl _)
  have gf := gf0.trans hf
  have gi := gi0.trans hi
  have gh := gh0.trans hh
  have gl := (hPR.1 f).2.1.trans hl
  have gc := (hPR.1 (40 * f + i)).2.2.2.1.trans hc
  have ga := (hPR.1 (40 * f + i)).2.2.2.2.1.trans ha
  have hA := ah_core (c := nI 99) (x := nI a) ho hR
  have gd2 := hA.2.2.2.2.1.1
  have gh2 := (hA.2.2.2.2.1.2 d (Nat.le_refl _)).2.2.trans hh
  have gc2 := ah_7 M o (nI 99) (nI a)
  have ga2 := ah_8 M o (nI 99) (nI a)
  have ho2 : o = 18 ∨ o = 28 := ho
  have hnf := hWP.2.1
  obtain ⟨m, hm1, hm⟩ := (hWP.2.2.2.2.1 a ha1).1
  have gm := (hA.2.2.2.2.2.2.1 a).1.trans hm
  have fa := c_fa ho gd hd1 gf hf1 gi hi1 gl hn hn1 gc (by omega) ga (fs_c ho gd2 hd1 gh2 hh1 (by omega) gm (by omega)) (fun _ => fk_n _ _ (by omega)) (fun _ _ => fv_c ho gd2 hd1 gh2 hh1 _) (cI_ch (isCh_l (by omega)) (isCh_l (by omega)))
  have wy := wy_c hd hd1 hf hf1 hi hi1 hl hn hn1 hh hh1 hc ha (by omega) hm (by omega)
  refine ahd_of (cI_ch (isCh_l (by omega)) (cI_ch (isCh_l (by omega)) (isCh_l (by omega)))) wy ?_ ?_
  · rw [fa, cIF (p := False) (fun h => h)]; simp only [wc_cI, wc_115, wc_100, wc_0]
  · intro h0
    obtain ⟨z1, h0⟩ := cI_0 n115 h0
    obtain ⟨z2, h0⟩ := cI_0 n100 h0
    obtain ⟨t, rfl⟩ : ∃ t, h = t + m := ⟨h - m, by omega⟩
    rcases hr with hr | ⟨hr, v, hv1, hv, hid⟩
    · obtain ⟨v, hv⟩ := some_nI (mI S 69 83)
      obtain ⟨N, E, h1, h2, h5, h6, h7⟩ := sl_c (r := false) ho hA hW hf hf1 hi hi1 he he1 hc gc2 ha ga2 ha1 hm (by omega) hh (by omega) (by omega) hr hv (fun y => absurd y (by decide))
      exact stp_s h1 h2 h5 h6 h7 (Nat.le_refl _) (Nat.le_refl _)
    · obtain ⟨N, E, h1, h2, h5, h6, h7⟩ := sl_c (r := true) ho hA hW hf hf1 hi hi1 he he1 hc gc2 ha ga2 ha1 hm (by omega) hh (by omega) (by omega) hr hv (fun _ => hv1)
      exact stp_s h1 h2 h5 h6 h7 (Nat.le_refl _) (Nat.le_refl _)
theorem aw_r {M S : Mem} {o d ns ob nc nf f i e n h a : Nat} (ho : isO o) (hR : RC M S o d ns) (hW : WW S d ob ns nc nf) (hf : mI S 109 d = nI f) (hf1 : f < 8) (hi : mI S 110 d = nI i) (hi1 : i < 40) (he : mI S 69 57 = nI e) (he1 : e < 1000) (hl : mI S 71 f = nI n) (hn : i < n) (hn1 : n ≤ 40) (hh : mI S 111 d = nI h) (hh1 : h ≤ 8) (ha : mI S 73 (40 * f + i) = nI a) (hc : mI S 72 (40 * f + i) = nI 114) : AHD M S o d ns ob nc nf (nI 114) (nI a) False := by
  have hR0 := hR
  have hW0 := hW
  obtain ⟨hRV, hRF, hRT, hRO, hRA, hRS, hPR⟩ := hR0
  obtain ⟨hWA, hWV, hWC, hWO, hWF, hWS, hWP, hWE⟩ := hW0
  have hd := hWA.1
  have hd1 := hWA.2.1
  have gd := hRA.1
  obtain ⟨gf0, gi0, gh0⟩ := hRA.2 d (Nat.le_refl _)
  have gf := gf0.trans hf
  have gi := gi0.trans hi
  have gh := gh0.trans hh
  have gl := (hPR.1 f).2.1.trans hl
  have gc := (hPR.1 (40 * f + i)).2.2.2.1.trans hc
  have ga := (hPR.1 (40 * f + i)).2.2.2.2.1.trans ha
  have hA := ah_core (c := nI 114) (x := nI a) ho hR
  have gd2 := hA.2.2.2.2.1.1
  have gh2 := (hA.2.2.2.2.1.2 d (Nat.le_refl _)).2.2.trans hh
  have gc2 := ah_7 M o (nI 114) (nI a)
  have ga2 := ah_8 M o (nI 114) (nI a)
  have ho2 : o = 18 ∨ o = 28 := ho
  have hb9 : ∃ hb, (0 < d → mI S 111 (d - 1) = nI hb) ∧ hb ≤ 8 := by
    by_cases q : 0 < d
    · obtain ⟨u, u1, hu⟩ := (hWA.2.2 (d - 1) (by omega)).2.2
      exact ⟨u, fun _ => hu, by omega⟩
    · exact ⟨0, fun y => absurd y q, by omega⟩
  obtain ⟨hb, hb0, hb1⟩ := hb9
  have fa := c_fa ho gd hd1 gf hf1 gi hi1 gl hn hn1 gc (by omega) ga (fs_r ho gd2 hd1 gh2 hh1 (hb := hb) (fun y => (hA.2.2.2.2.1.2 (d - 1) (by omega)).2.2.trans (hb0 y)) hb1 _) (fun _ => fk_n _ _ (by omega)) (fun _ _ => fv_n _ _ (by omega) _) (isCh_l (by omega))
  have wy := wy_r hd hd1 hf hf1 hi hi1 hl hn hn1 hh hh1 hc hb0 hb1
  refine ahd_of (cI_ch (isCh_l (by omega)) (cI_ch (isCh_l (by omega)) (isCh_l (by omega)))) wy ?_ ?_
  · rw [fa, cIF (p := False) (fun h => h), cI_or]; simp only [wc_cI, wc_115, wc_0]
  · intro h0
    obtain ⟨z1, h0⟩ := cI_0 n115 h0
    obtain ⟨z2, h0⟩ := cI_0 n115 h0
    obtain ⟨t, rfl⟩ : ∃ t, h = t + 1 := ⟨h - 1, by omega⟩
    match d, hA, hW, hf, hi, hh, hb0, z2, hWA with
    | 0, hA, hW, hf, hi, hh, hb0, z2, hWA =>
      obtain ⟨N, E, h1, h2, h3, h4, h5, h6, h7, h8⟩ := sl_r0 ho hA hW hf hf1 hi hi1 he he1 hc gc2 hh (by omega)
      exact ⟨N, E, by rw [pBF0]; exact h1, h2, .inr ⟨fun y => y, h3, h4, h5, h6, h7⟩⟩
    | c + 1, hA, hW, hf, hi, hh, hb0, z2, hWA =>
      obtain ⟨-, ⟨k, k1, hk⟩, -⟩ := hWA.2.2 c (by omega)
      have hu := hb0 (by omega)
      rw [Nat.add_sub_cancel] at hu
      obtain ⟨N, E, h1, h2, h5, h6, h7⟩ := sl_r1 ho hA hW hf hf1 hi hi1 he he1 hc gc2 hh (by omega) hu (by omega) hk k1
      exact stp_s h1 h2 h5 h6 h7 (Nat.le_refl _) (Nat.le_refl _)
end MS3
