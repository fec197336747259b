/-! ===== one step of both, by letter: i, k, pairs, w ===== -/
section MS2
theorem n107 : ¬ nI 107 = nI 0 := by decide
theorem n48 : ¬ nI 48 = nI 0 := by decide
theorem n119 : ¬ nI 119 = nI 0 := by decide
theorem aw_k {M S : Mem} {o d ns ob nc nf f i e n h a : Nat} (ho : isO o) (hR : RC M S o d ns) (hW : WW S d ob ns nc nf) (hf : mI S 109 d = nI f) (hf1 : f < 8) (hi : mI S 110 d = nI i) (hi1 : i < 40) (he : mI S 69 57 = nI e) (he1 : e < 1000) (hl : mI S 71 f = nI n) (hn : i < n) (hn1 : n ≤ 40) (hh : mI S 111 d = nI h) (hh1 : h ≤ 8) (ha : mI S 73 (40 * f + i) = nI a) (hc : mI S 72 (40 * f + i) = nI 107) (hr : WR S d) (ha1 : a < 8) : AHD M S o d ns ob nc nf (nI 107) (nI a) (False) := by
  have hR0 := hR
  have hW0 := hW
  obtain ⟨hRV, hRF, hRT, hRO, hRA, hRS, hPR⟩ := hR0
  obtain ⟨hWA, hWV, hWC, hWO, hWF, hWS, hWP, hWE⟩ := hW0
  have hd := hWA.1
  have hd1 := hWA.2.1
  have gd := hRA.1
  obtain ⟨gf0, gi0, gh0⟩ := hRA.2 d (Nat.le_refl _)
  have gf := gf0.trans hf
  have gi := gi0.trans hi
  have gh := gh0.trans hh
  have gl := (hPR.1 f).2.1.trans hl
  have gc := (hPR.1 (40 * f + i)).2.2.2.1.trans hc
  have ga := (hPR.1 (40 * f + i)).2.2.2.2.1.trans ha
  have hA := ah_core (c := nI 107) (x := nI a) ho hR
  have gd2 := hA.2.2.2.2.1.1
  have gh2 := (hA.2.2.2.2.1.2 d (Nat.le_refl _)).2.2.trans hh
  have gc2 := ah_7 M o (nI 107) (nI a)
  have ga2 := ah_8 M o (nI 107) (nI a)
  have fa := c_fa ho gd hd1 gf hf1 gi hi1 gl hn hn1 gc (by omega) ga (fs_0 ho gd2 hd1 gh2 hh1 (by omega) _) (fun _ => fk_n _ _ (by omega)) (fun _ _ => fv_n _ _ (by omega) _) (isCh_l (by omega))
  have wy := wy_k hd hd1 hf hf1 hi hi1 hl hn hn1 hh hh1 hc
  refine ahd_of ?_ wy ?_ ?_
  · exact cI_ch (isCh_l (by omega)) (isCh_l (by omega))
  · rw [fa, wc_cI, wc_115, wc_0, cIF (p := False) (fun h => h)]
  · intro h0
    obtain ⟨z, -⟩ := cI_0 n115 h0
    rcases hr with hr | ⟨hr, v, hv1, hv, hid⟩
    · obtain ⟨N, E, h1, h2, h3, h4, h5, h6⟩ := sl_k_0 ho hA hW hf hf1 hi hi1 he he1 hc gc2 ha ga2 hh (by omega) ha1 hr
      exact stp_n ho (by rw [pBF0]; exact h1) h2 h3 h4 h5 h6 (fun q => q.elim)
    · obtain ⟨N, E, h1, h2, h3, h4, h5, h6⟩ := sl_k_1 ho hA hW hf hf1 hi hi1 he he1 hc gc2 ha ga2 hh (by omega) ha1 hr hv (by omega)
      exact stp_n ho (by rw [pBF0]; exact h1) h2 h3 h4 h5 h6 (fun q => q.elim)
theorem aw_i {M S : Mem} {o d ns ob nc nf f i e n h : Nat} {a : Int32} (ho : isO o) (hR : RC M S o d ns) (hW : WW S d ob ns nc nf) (hf : mI S 109 d = nI f) (hf1 : f < 8) (hi : mI S 110 d = nI i) (hi1 : i < 40) (he : mI S 69 57 = nI e) (he1 : e < 1000) (hl : mI S 71 f = nI n) (hn : i < n) (hn1 : n ≤ 40) (hh : mI S 111 d = nI h) (hh1 : h ≤ 8) (ha : mI S 73 (40 * f + i) = a) (hc : mI S 72 (40 * f + i) = nI 105) (hr : WR S d) : AHD M S o d ns ob nc nf (nI 105) a (False) := by
  have hR0 := hR
  have hW0 := hW
  obtain ⟨hRV, hRF, hRT, hRO, hRA, hRS, hPR⟩ := hR0
  obtain ⟨hWA, hWV, hWC, hWO, hWF, hWS, hWP, hWE⟩ := hW0
  have hd := hWA.1
  have hd1 := hWA.2.1
  have gd := hRA.1
  obtain ⟨gf0, gi0, gh0⟩ := hRA.2 d (Nat.le_refl _)
  have gf := gf0.trans hf
  have gi := gi0.trans hi
  have gh := gh0.trans hh
  have gl := (hPR.1 f).2.1.trans hl
  have gc := (hPR.1 (40 * f + i)).2.2.2.1.trans hc
  have ga := (hPR.1 (40 * f + i)).2.2.2.2.1.trans ha
  have hA := ah_core (c := nI 105) (x := a) ho hR
  have gd2 := hA.2.2.2.2.1.1
  have gh2 := (hA.2.2.2.2.1.2 d (Nat.le_refl _)).2.2.trans hh
  have gc2 := ah_7 M o (nI 105) a
  have ga2 := ah_8 M o (nI 105) a
  have fa := c_fa ho gd hd1 gf hf1 gi hi1 gl hn hn1 gc (by omega) ga (fs_0 ho gd2 hd1 gh2 hh1 (by omega) _) (fun _ => fk_n _ _ (by omega)) (fun _ _ => fv_n _ _ (by omega) _) (isCh_l (by omega))
  have wy := wy_i hd hd1 hf hf1 hi hi1 hl hn hn1 hh hh1 hc
  refine ahd_of ?_ wy ?_ ?_
  · exact cI_ch (isCh_l (by omega)) (isCh_l (by omega))
  · rw [fa, wc_cI, wc_115, wc_0, cIF (p := False) (fun h => h)]
  · intro h0
    obtain ⟨z, -⟩ := cI_0 n115 h0
    rcases hr with hr | ⟨hr, v, hv1, hv, hid⟩
    · obtain ⟨N, E, h1, h2, h3, h4, h5, h6⟩ := sl_i_0 ho hA hW hf hf1 hi hi1 he he1 hc gc2 hh (by omega) (ga2.trans ha.symm) hr
      exact stp_n ho (by rw [pBF0]; exact h1) h2 h3 h4 h5 h6 (fun q => q.elim)
    · obtain ⟨N, E, h1, h2, h3, h4, h5, h6⟩ := sl_i_1 ho hA hW hf hf1 hi hi1 he he1 hc gc2 hh (by omega) (ga2.trans ha.symm) hr hv (by omega)
      exact stp_n ho (by rw [pBF0]; exact h1) h2 h3 h4 h5 h6 (fun q => q.elim)
theorem aw_eq {M S : Mem} {o d ns ob nc nf f i e n h a : Nat} (ho : isO o) (hR : RC M S o d ns) (hW : WW S d ob ns nc nf) (hf : mI S 109 d = nI f) (hf1 : f < 8) (hi : mI S 110 d = nI i) (hi1 : i < 40) (he : mI S 69 57 = nI e) (he1 : e < 1000) (hl : mI S 71 f = nI n) (hn : i < n) (hn1 : n ≤ 40) (hh : mI S 111 d = nI h) (hh1 : h ≤ 8) (ha : mI S 73 (40 * f + i) = nI a) (hc : mI S 72 (40 * f + i) = nI 61) (hr : WR S d) : AHD M S o d ns ob nc nf (nI 61) (nI a) (False) := by
  have hR0 := hR
  have hW0 := hW
  obtain ⟨hRV, hRF, hRT, hRO, hRA, hRS, hPR⟩ := hR0
  obtain ⟨hWA, hWV, hWC, hWO, hWF, hWS, hWP, hWE⟩ := hW0
  have hd := hWA.1
  have hd1 := hWA.2.1
  have gd := hRA.1
  obtain ⟨gf0, gi0, gh0⟩ := hRA.2 d (Nat.le_refl _)
  have gf := gf0.trans hf
  have gi := gi0.trans hi
  have gh := gh0.trans hh
  have gl := (hPR.1 f).2.1.trans hl
  have gc := (hPR.1 (40 * f + i)).2.2.2.1.trans hc
  have ga := (hPR.1 (40 * f + i)).2.2.2.2.1.trans ha
  have hA := ah_core (c := nI 61) (x := nI a) ho hR
  have gd2 := hA.2.2.2.2.1.1
  have gh2 := (hA.2.2.2.2.1.2 d (Nat.le_refl _)).2.2.trans hh
  have gc2 := ah_7 M o (nI 61) (nI a)
  have ga2 := ah_8 M o (nI 61) (nI a)
  have fa := c_fa ho gd hd1 gf hf1 gi hi1 gl hn hn1 gc (by omega) ga (fs_2 ho gd2 hd1 gh2 hh1 (by omega) _) (fun _ => fk_n _ _ (by omega)) (fun _ _ => fv_n _ _ (by omega) _) (isCh_l (by omega))
  have wy := wy_eq hd hd1 hf hf1 hi hi1 hl hn hn1 hh hh1 hc
  refine ahd_of ?_ wy ?_ ?_
  · exact cI_ch (isCh_l (by omega)) (isCh_l (by omega))
  · rw [fa, wc_cI, wc_115, wc_0, cIF (p := False) (fun h => h)]
  · intro h0
    obtain ⟨z, -⟩ := cI_0 n115 h0
    obtain ⟨t, rfl⟩ : ∃ t, h = t + 2 := ⟨h - 2, by omega⟩
    rcases hr with hr | ⟨hr, v, hv1, hv, hid⟩
    · obtain ⟨N, E, h1, h2, h3, h4, h5, h6⟩ := sl_eq_0 ho hA hW hf hf1 hi hi1 he he1 hc gc2 hh (by omega) hr
      exact stp_n ho (by rw [pBF0]; exact h1) h2 h3 h4 h5 h6 (fun q => q.elim)
    · obtain ⟨u1, hw1, hu1⟩ := hid (6 + t) (by rw [hh, qcl (by omega)]; omega)
      obtain ⟨u2, hw2, hu2⟩ := hid (6 + t + 1) (by rw [hh, qcl (by omega)]; omega)
      simp only [← Nat.add_assoc] at hu1 hu2
      obtain ⟨N, E, h1, h2, h3, h4, h5, h6⟩ := sl_eq_1 ho hA hW hf hf1 hi hi1 he he1 hc gc2 hh (by omega) hr hv (by omega) hu1 hu2 (by omega) (by omega)
      exact stp_n ho (by rw [pBF0]; exact h1) h2 h3 h4 h5 h6 (fun q => q.elim)
theorem aw_add {M S : Mem} {o d ns ob nc nf f i e n h a : Nat} (ho : isO o) (hR : RC M S o d ns) (hW : WW S d ob ns nc nf) (hf : mI S 109 d = nI f) (hf1 : f < 8) (hi : mI S 110 d = nI i) (hi1 : i < 40) (he : mI S 69 57 = nI e) (he1 : e < 1000) (hl : mI S 71 f = nI n) (hn : i < n) (hn1 : n ≤ 40) (hh : mI S 111 d = nI h) (hh1 : h ≤ 8) (ha : mI S 73 (40 * f + i) = nI a) (hc : mI S 72 (40 * f + i) = nI 43) (hr : WR S d) : AHD M S o d ns ob nc nf (nI 43) (nI a) False := by
  have hR0 := hR
  have hW0 := hW
  obtain ⟨hRV, hRF, hRT, hRO, hRA, hRS, hPR⟩ := hR0
  obtain ⟨hWA, hWV, hWC, hWO, hWF, hWS, hWP, hWE⟩ := hW0
  have hd := hWA.1
  have hd1 := hWA.2.1
  have gd := hRA.1
  obtain ⟨gf0, gi0, gh0⟩ := hRA.2 d (Nat.le_refl _)
  have gf := gf0.trans hf
  have gi := gi0.trans hi
  have gh := gh0.trans hh
  have gl := (hPR.1 f).2.1.trans hl
  have gc := (hPR.1 (40 * f + i)).2.2.2.1.trans hc
  have ga := (hPR.1 (40 * f + i)).2.2.2.2.1.trans ha
  have hA := ah_core (c := nI 43) (x := nI a) ho hR
  have gd2 := hA.2.2.2.2.1.1
  have gh2 := (hA.2.2.2.2.1.2 d (Nat.le_refl _)).2.2.trans hh
  have gc2 := ah_7 M o (nI 43) (nI a)
  have ga2 := ah_8 M o (nI 43) (nI a)
  have fa := c_fa ho gd hd1 gf hf1 gi hi1 gl hn hn1 gc (by omega) ga (fs_2 ho gd2 hd1 gh2 hh1 (by omega) _) (fun q => fk_2 ho gd2 hd1 gh2 hh1 (hA.1 (14 * d + 6 + h - 2) (by omega)) (hA.1 (14 * d + 6 + h - 1) (by omega)) (by omega) (by omega)) (fun _ _ => fv_n _ _ (by omega) _) (isCh_l (by omega))
  have wy := wy_add hd hd1 hf hf1 hi hi1 hl hn hn1 hh hh1 hc
  refine ahd_of ?_ wy ?_ ?_
  · exact (cI_ch (isCh_l (by omega)) (cI_ch (isCh_l (by omega)) (isCh_l (by omega))))
  · rw [fa]; simp only [wc_cI, wc_115, wc_107, wc_48, wc_119, wc_0]
  · intro h0
    obtain ⟨z1, h0⟩ := cI_0 n115 h0
    obtain ⟨z2, h0⟩ := cI_0 n107 h0
    obtain ⟨t, rfl⟩ : ∃ t, h = t + 2 := ⟨h - 2, by omega⟩
    have e2 : 14 * d + 6 + (t + 2) - 2 = 14 * d + 6 + t := by omega
    have e1 : 14 * d + 6 + (t + 2) - 1 = 14 * d + 6 + t + 1 := by omega
    simp only [e1, e2] at z2
    obtain ⟨b1, b2⟩ := Classical.byContradiction z2
    rcases hr with hr | ⟨hr, v, hv1, hv, hid⟩
    · obtain ⟨N, E, h1, h2, h3, h4, h5, h6⟩ := sl_add_0 ho hA hW hf hf1 hi hi1 he he1 hc gc2 hh (by omega) b1 b2 hr
      exact stp_n ho (by rw [pBF0]; exact h1) h2 h3 h4 h5 h6 (fun q => q.elim)
    · obtain ⟨u1, hw1, hu1⟩ := hid (6 + t) (by rw [hh, qcl (by omega)]; omega)
      obtain ⟨u2, hw2, hu2⟩ := hid (6 + t + 1) (by rw [hh, qcl (by omega)]; omega)
      simp only [← Nat.add_assoc] at hu1 hu2
      obtain ⟨N, E, h1, h2, h3, h4, h5, h6⟩ := sl_add_1 ho hA hW hf hf1 hi hi1 he he1 hc gc2 hh (by omega) b1 b2 hr hv (by omega) hu1 hu2 (by omega) (by omega)
      exact stp_n ho (by rw [pBF0]; exact h1) h2 h3 h4 h5 h6 (fun q => q.elim)
theorem aw_sub {M S : Mem} {o d ns ob nc nf f i e n h a : Nat} (ho : isO o) (hR : RC M S o d ns) (hW : WW S d ob ns nc nf) (hf : mI S 109 d = nI f) (hf1 : f < 8) (hi : mI S 110 d = nI i) (hi1 : i < 40) (he : mI S 69 57 = nI e) (he1 : e < 1000) (hl : mI S 71 f = nI n) (hn : i < n) (hn1 : n ≤ 40) (hh : mI S 111 d = nI h) (hh1 : h ≤ 8) (ha : mI S 73 (40 * f + i) = nI a) (hc : mI S 72 (40 * f + i) = nI 45) (hr : WR S d) : AHD M S o d ns ob nc nf (nI 45) (nI a) False := by
  have hR0 := hR
  have hW0 := hW
  obtain ⟨hRV, hRF, hRT, hRO, hRA, hRS, hPR⟩ := hR0
  obtain ⟨hWA, hWV, hWC, hWO, hWF, hWS, hWP, hWE⟩ := hW0
  have hd := hWA.1
  have hd1 := hWA.2.1
  have gd := hRA.1
  obtain ⟨gf0, gi0, gh0⟩ := hRA.2 d (Nat.le_refl _)
  have gf := gf0.trans hf
  have gi := gi0.trans hi
  have gh := gh0.trans hh
  have gl := (hPR.1 f).2.1.trans hl
  have gc := (hPR.1 (40 * f + i)).2.2.2.1.trans hc
  have ga := (hPR.1 (40 * f + i)).2.2.2.2.1.trans ha
  have hA := ah_core (c := nI 45) (x := nI a) ho hR
  have gd2 := hA.2.2.2.2.1.1
  have gh2 := (hA.2.2.2.2.1.2 d (Nat.le_refl _)).2.2.trans hh
  have gc2 := ah_7 M o (nI 45) (nI a)
  have ga2 := ah_8 M o (nI 45) (nI a)
  have fa := c_fa ho gd hd1 gf hf1 gi hi1 gl hn hn1 gc (by omega) ga (fs_2 ho gd2 hd1 gh2 hh1 (by omega) _) (fun q => fk_2 ho gd2 hd1 gh2 hh1 (hA.1 (14 * d + 6 + h - 2) (by omega)) (hA.1 (14 * d + 6 + h - 1) (by omega)) (by omega) (by omega)) (fun _ _ => fv_n _ _ (by omega) _) (isCh_l (by omega))
  have wy := wy_sub hd hd1 hf hf1 hi hi1 hl hn hn1 hh hh1 hc
  refine ahd_of ?_ wy ?_ ?_
  · exact (cI_ch (isCh_l (by omega)) (cI_ch (isCh_l (by omega)) (isCh_l (by omega))))
  · rw [fa]; simp only [wc_cI, wc_115, wc_107, wc_48, wc_119, wc_0]
  · intro h0
    obtain ⟨z1, h0⟩ := cI_0 n115 h0
    obtain ⟨z2, h0⟩ := cI_0 n107 h0
    obtain ⟨t, rfl⟩ : ∃ t, h = t + 2 := ⟨h - 2, by omega⟩
    have e2 : 14 * d + 6 + (t + 2) - 2 = 14 * d + 6 + t := by omega
    have e1 : 14 * d + 6 + (t + 2) - 1 = 14 * d + 6 + t + 1 := by omega
    simp only [e1, e2] at z2
    obtain ⟨b1, b2⟩ := Classical.byContradiction z2
    rcases hr with hr | ⟨hr, v, hv1, hv, hid⟩
    · obtain ⟨N, E, h1, h2, h3, h4, h5, h6⟩ := sl_sub_0 ho hA hW hf hf1 hi hi1 he he1 hc gc2 hh (by omega) b1 b2 hr
      exact stp_n ho (by rw [pBF0]; exact h1) h2 h3 h4 h5 h6 (fun q => q.elim)
    · obtain ⟨u1, hw1, hu1⟩ := hid (6 + t) (by rw [hh, qcl (by omega)]; omega)
      obtain ⟨u2, hw2, hu2⟩ := hid (6 + t + 1) (by rw [hh, qcl (by omega)]; omega)
      simp only [← Nat.add_assoc] at hu1 hu2
      obtain ⟨N, E, h1, h2, h3, h4, h5, h6⟩ := sl_sub_1 ho hA hW hf hf1 hi hi1 he he1 hc gc2 hh (by omega) b1 b2 hr hv (by omega) hu1 hu2 (by omega) (by omega)
      exact stp_n ho (by rw [pBF0]; exact h1) h2 h3 h4 h5 h6 (fun q => q.elim)
theorem aw_mul {M S : Mem} {o d ns ob nc nf f i e n h a : Nat} (ho : isO o) (hR : RC M S o d ns) (hW : WW S d ob ns nc nf) (hf : mI S 109 d = nI f) (hf1 : f < 8) (hi : mI S 110 d = nI i) (hi1 : i < 40) (he : mI S 69 57 = nI e) (he1 : e < 1000) (hl : mI S 71 f = nI n) (hn : i < n) (hn1 : n ≤ 40) (hh : mI S 111 d = nI h) (hh1 : h ≤ 8) (ha : mI S 73 (40 * f + i) = nI a) (hc : mI S 72 (40 * f + i) = nI 42) (hr : WR S d) : AHD M S o d ns ob nc nf (nI 42) (nI a) False := by
  have hR0 := hR
  have hW0 := hW
  obtain ⟨hRV, hRF, hRT, hRO, hRA, hRS, hPR⟩ := hR0
  obtain ⟨hWA, hWV, hWC, hWO, hWF, hWS, hWP, hWE⟩ := hW0
  have hd := hWA.1
  have hd1 := hWA.2.1
  have gd := hRA.1
  obtain ⟨gf0, gi0, gh0⟩ := hRA.2 d (Nat.le_refl _)
  have gf := gf0.trans hf
  have gi := gi0.trans hi
  have gh := gh0.trans hh
  have gl := (hPR.1 f).2.1.trans hl
  have gc := (hPR.1 (40 * f + i)).2.2.2.1.trans hc
  have ga := (hPR.1 (40 * f + i)).2.2.2.2.1.trans ha
  have hA := ah_core (c := nI 42) (x := nI a) ho hR
  have gd2 := hA.2.2.2.2.1.1
  have gh2 := (hA.2.2.2.2.1.2 d (Nat.le_refl _)).2.2.trans hh
  have gc2 := ah_7 M o (nI 42) (nI a)
  have ga2 := ah_8 M o (nI 42) (nI a)
  have fa := c_fa ho gd hd1 gf hf1 gi hi1 gl hn hn1 gc (by omega) ga (fs_2 ho gd2 hd1 gh2 hh1 (by omega) _) (fun q => fk_2 ho gd2 hd1 gh2 hh1 (hA.1 (14 * d + 6 + h - 2) (by omega)) (hA.1 (14 * d + 6 + h - 1) (by omega)) (by omega) (by omega)) (fun _ _ => fv_n _ _ (by omega) _) (isCh_l (by omega))
  have wy := wy_mul hd hd1 hf hf1 hi hi1 hl hn hn1 hh hh1 hc
  refine ahd_of ?_ wy ?_ ?_
  · exact (cI_ch (isCh_l (by omega)) (cI_ch (isCh_l (by omega)) (isCh_l (by omega))))
  · rw [fa]; simp only [wc_cI, wc_115, wc_107, wc_48, wc_119, wc_0]
  · intro h0
    obtain ⟨z1, h0⟩ := cI_0 n115 h0
    obtain ⟨z2, h0⟩ := cI_0 n107 h0
    obtain ⟨t, rfl⟩ : ∃ t, h = t + 2 := ⟨h - 2, by omega⟩
    have e2 : 14 * d + 6 + (t + 2) - 2 = 14 * d + 6 + t := by omega
    have e1 : 14 * d + 6 + (t + 2) - 1 = 14 * d + 6 + t + 1 := by omega
    simp only [e1, e2] at z2
    obtain ⟨b1, b2⟩ := Classical.byContradiction z2
    rcases hr with hr | ⟨hr, v, hv1, hv, hid⟩
    · obtain ⟨N, E, h1, h2, h3, h4, h5, h6⟩ := sl_mul_0 ho hA hW hf hf1 hi hi1 he he1 hc gc2 hh (by omega) b1 b2 hr
      exact stp_n ho (by rw [pBF0]; exact h1) h2 h3 h4 h5 h6 (fun q => q.elim)
    · obtain ⟨u1, hw1, hu1⟩ := hid (6 + t) (by rw [hh, qcl (by omega)]; omega)
      obtain ⟨u2, hw2, hu2⟩ := hid (6 + t + 1) (by rw [hh, qcl (by omega)]; omega)
      simp only [← Nat.add_assoc] at hu1 hu2
      obtain ⟨N, E, h1, h2, h3, h4, h5, h6⟩ := sl_mul_1 ho hA hW hf hf1 hi hi1 he he1 hc gc2 hh (by omega) b1 b2 hr hv (by omega) hu1 hu2 (by omega) (by omega)
      exact stp_n ho (by rw [pBF0]; exact h1) h2 h3 h4 h5 h6 (fun q => q.elim)
theorem aw_lt {M S : Mem} {o d ns ob nc nf f i e n h a : Nat} (ho : isO o) (hR : RC M S o d ns) (hW : WW S d ob ns nc nf) (hf : mI S 109 d = nI f) (hf1 : f < 8) (hi : mI S 110 d = nI i) (hi1 : i < 40) (he : mI S 69 57 = nI e) (he1 : e < 1000) (hl : mI S 71 f = nI n) (hn : i < n) (hn1 : n ≤ 40) (hh : mI S 111 d = nI h) (hh1 : h ≤ 8) (ha : mI S 73 (40 * f + i) = nI a) (hc : mI S 72 (40 * f + i) = nI 60) (hr : WR S d) : AHD M S o d ns ob nc nf (nI 60) (nI a) False := by
  have hR0 := hR
  have hW0 := hW
  obtain ⟨hRV, hRF, hRT, hRO, hRA, hRS, hPR⟩ := hR0
  obtain ⟨hWA, hWV, hWC, hWO, hWF, hWS, hWP, hWE⟩ := hW0
  have hd := hWA.1
  have hd1 := hWA.2.1
  have gd := hRA.1
  obtain ⟨gf0, gi0, gh0⟩ := hRA.2 d (Nat.le_refl _)
  have gf := gf0.trans hf
  have gi := gi0.trans hi
  have gh := gh0.trans hh
  have gl := (hPR.1 f).2.1.trans hl
  have gc := (hPR.1 (40 * f + i)).2.2.2.1.trans hc
  have ga := (hPR.1 (40 * f + i)).2.2.2.2.1.trans ha
  have hA := ah_core (c := nI 60) (x := nI a) ho hR
  have gd2 := hA.2.2.2.2.1.1
  have gh2 := (hA.2.2.2.2.1.2 d (Nat.le_refl _)).2.2.trans hh
  have gc2 := ah_7 M o (nI 60) (nI a)
  have ga2 := ah_8 M o (nI 60) (nI a)
  have fa := c_fa ho gd hd1 gf hf1 gi hi1 gl hn hn1 gc (by omega) ga (fs_2 ho gd2 hd1 gh2 hh1 (by omega) _) (fun q => fk_2 ho gd2 hd1 gh2 hh1 (hA.1 (14 * d + 6 + h - 2) (by omega)) (hA.1 (14 * d + 6 + h - 1) (by omega)) (by omega) (by omega)) (fun _ _ => fv_n _ _ (by omega) _) (isCh_l (by omega))
  have wy := wy_lt hd hd1 hf hf1 hi hi1 hl hn hn1 hh hh1 hc
  refine ahd_of ?_ wy ?_ ?_
  · exact (cI_ch (isCh_l (by omega)) (cI_ch (isCh_l (by omega)) (isCh_l (by omega))))
  · rw [fa]; simp only [wc_cI, wc_115, wc_107, wc_48, wc_119, wc_0]
  · intro h0
    obtain ⟨z1, h0⟩ := cI_0 n115 h0
    obtain ⟨z2, h0⟩ := cI_0 n107 h0
    obtain ⟨t, rfl⟩ : ∃ t, h = t + 2 := ⟨h - 2, by omega⟩
    have e2 : 14 * d + 6 + (t + 2) - 2 = 14 * d + 6 + t := by omega
    have e1 : 14 * d + 6 + (t + 2) - 1 = 14 * d + 6 + t + 1 := by omega
    simp only [e1, e2] at z2
    obtain ⟨b1, b2⟩ := Classical.byContradiction z2
    rcases hr with hr | ⟨hr, v, hv1, hv, hid⟩
    · obtain ⟨N, E, h1, h2, h3, h4, h5, h6⟩ := sl_lt_0 ho hA hW hf hf1 hi hi1 he he1 hc gc2 hh (by omega) b1 b2 hr
      exact stp_n ho (by rw [pBF0]; exact h1) h2 h3 h4 h5 h6 (fun q => q.elim)
    · obtain ⟨u1, hw1, hu1⟩ := hid (6 + t) (by rw [hh, qcl (by omega)]; omega)
      obtain ⟨u2, hw2, hu2⟩ := hid (6 + t + 1) (by rw [hh, qcl (by omega)]; omega)
      simp only [← Nat.add_assoc] at hu1 hu2
      obtain ⟨N, E, h1, h2, h3, h4, h5, h6⟩ := sl_lt_1 ho hA hW hf hf1 hi hi1 he he1 hc gc2 hh (by omega) b1 b2 hr hv (by omega) hu1 hu2 (by omega) (by omega)
      exact stp_n ho (by rw [pBF0]; exact h1) h2 h3 h4 h5 h6 (fun q => q.elim)
theorem aw_div {M S : Mem} {o d ns ob nc nf f i e n h a : Nat} (ho : isO o) (hR : RC M S o d ns) (hW : WW S d ob ns nc nf) (hf : mI S 109 d = nI f) (hf1 : f < 8) (hi : mI S 110 d = nI i) (hi1 : i < 40) (he : mI S 69 57 = nI e) (he1 : e < 1000) (hl : mI S 71 f = nI n) (hn : i < n) (hn1 : n ≤ 40) (hh : mI S 111 d = nI h) (hh1 : h ≤ 8) (ha : mI S 73 (40 * f + i) = nI a) (hc : mI S 72 (40 * f + i) = nI 47) (hr : WR S d) : AHD M S o d ns ob nc nf (nI 47) (nI a) False := by
  have hR0 := hR
  have hW0 := hW
  obtain ⟨hRV, hRF, hRT, hRO, hRA, hRS, hPR⟩ := hR0
  obtain ⟨hWA, hWV, hWC, hWO, hWF, hWS, hWP, hWE⟩ := hW0
  have hd := hWA.1
  have hd1 := hWA.2.1
  have gd := hRA.1
  obtain ⟨gf0, gi0, gh0⟩ := hRA.2 d (Nat.le_refl _)
  have gf := gf0.trans hf
  have gi := gi0.trans hi
  have gh := gh0.trans hh
  have gl := (hPR.1 f).2.1.trans hl
  have gc := (hPR.1 (40 * f + i)).2.2.2.1.trans hc
  have ga := (hPR.1 (40 * f + i)).2.2.2.2.1.trans ha
  have hA := ah_core (c := nI 47) (x := nI a) ho hR
  have gd2 := hA.2.2.2.2.1.1
  have gh2 := (hA.2.2.2.2.1.2 d (Nat.le_refl _)).2.2.trans hh
  have gc2 := ah_7 M o (nI 47) (nI a)
  have ga2 := ah_8 M o (nI 47) (nI a)
  have fa := c_fa ho gd hd1 gf hf1 gi hi1 gl hn hn1 gc (by omega) ga (fs_2 ho gd2 hd1 gh2 hh1 (by omega) _) (fun q => fk_2 ho gd2 hd1 gh2 hh1 (hA.1 (14 * d + 6 + h - 2) (by omega)) (hA.1 (14 * d + 6 + h - 1) (by omega)) (by omega) (by omega)) (fun q _ => fv_d ho gd2 hd1 gh2 hh1 (hA.1 (14 * d + 6 + h - 2) (by omega)) (hA.1 (14 * d + 6 + h - 1) (by omega)) (by omega) (by omega) _) (cI_ch (isCh_l (by omega)) (isCh_l (by omega)))
  have wy := wy_div hd hd1 hf hf1 hi hi1 hl hn hn1 hh hh1 hc
  refine ahd_of ?_ wy ?_ ?_
  · exact (cI_ch (isCh_l (by omega)) (cI_ch (isCh_l (by omega)) (cI_ch (isCh_l (by omega)) (isCh_l (by omega)))))
  · rw [fa]; simp only [wc_cI, wc_115, wc_107, wc_48, wc_119, wc_0]
  · intro h0
    obtain ⟨z1, h0⟩ := cI_0 n115 h0
    obtain ⟨z2, h0⟩ := cI_0 n107 h0
    obtain ⟨t, rfl⟩ : ∃ t, h = t + 2 := ⟨h - 2, by omega⟩
    have e2 : 14 * d + 6 + (t + 2) - 2 = 14 * d + 6 + t := by omega
    have e1 : 14 * d + 6 + (t + 2) - 1 = 14 * d + 6 + t + 1 := by omega
    obtain ⟨z3, h0⟩ := cI_0 n48 h0
    simp only [e1, e2] at z2 z3
    have hz9 : mI S 105 (14 * d + 6 + t) = nI 105 → mI S 105 (14 * d + 6 + t + 1) = nI 105 → ¬ mI S 106 (14 * d + 6 + t + 1) = nI 0 := fun y1 y2 y3 => z3 ⟨y1, y2, y3⟩
    obtain ⟨b1, b2⟩ := Classical.byContradiction z2
    rcases hr with hr | ⟨hr, v, hv1, hv, hid⟩
    · obtain ⟨N, E, h1, h2, h3, h4, h5, h6⟩ := sl_div_0 ho hA hW hf hf1 hi hi1 he he1 hc gc2 hh (by omega) b1 b2 hz9 hr
      exact stp_n ho (by rw [pBF0]; exact h1) h2 h3 h4 h5 h6 (fun q => q.elim)
    · obtain ⟨u1, hw1, hu1⟩ := hid (6 + t) (by rw [hh, qcl (by omega)]; omega)
      obtain ⟨u2, hw2, hu2⟩ := hid (6 + t + 1) (by rw [hh, qcl (by omega)]; omega)
      simp only [← Nat.add_assoc] at hu1 hu2
      obtain ⟨N, E, h1, h2, h3, h4, h5, h6⟩ := sl_div_1 ho hA hW hf hf1 hi hi1 he he1 hc gc2 hh (by omega) b1 b2 hz9 hr hv (by omega) hu1 hu2 (by omega) (by omega)
      exact stp_n ho (by rw [pBF0]; exact h1) h2 h3 h4 h5 h6 (fun q => q.elim)
theorem aw_rem {M S : Mem} {o d ns ob nc nf f i e n h a : Nat} (ho : isO o) (hR : RC M S o d ns) (hW : WW S d ob ns nc nf) (hf : mI S 109 d = nI f) (hf1 : f < 8) (hi : mI S 110 d = nI i) (hi1 : i < 40) (he : mI S 69 57 = nI e) (he1 : e < 1000) (hl : mI S 71 f = nI n) (hn : i < n) (hn1 : n ≤ 40) (hh : mI S 111 d = nI h) (hh1 : h ≤ 8) (ha : mI S 73 (40 * f + i) = nI a) (hc : mI S 72 (40 * f + i) = nI 37) (hr : WR S d) : AHD M S o d ns ob nc nf (nI 37) (nI a) False := by
  have hR0 := hR
  have hW0 := hW
  obtain ⟨hRV, hRF, hRT, hRO, hRA, hRS, hPR⟩ := hR0
  obtain ⟨hWA, hWV, hWC, hWO, hWF, hWS, hWP, hWE⟩ := hW0
  have hd := hWA.1
  have hd1 := hWA.2.1
  have gd := hRA.1
  obtain ⟨gf0, gi0, gh0⟩ := hRA.2 d (Nat.le_refl _)
  have gf := gf0.trans hf
  have gi := gi0.trans hi
  have gh := gh0.trans hh
  have gl := (hPR.1 f).2.1.trans hl
  have gc := (hPR.1 (40 * f + i)).2.2.2.1.trans hc
  have ga := (hPR.1 (40 * f + i)).2.2.2.2.1.trans ha
  have hA := ah_core (c := nI 37) (x := nI a) ho hR
  have gd2 := hA.2.2.2.2.1.1
  have gh2 := (hA.2.2.2.2.1.2 d (Nat.le_refl _)).2.2.trans hh
  have gc2 := ah_7 M o (nI 37) (nI a)
  have ga2 := ah_8 M o (nI 37) (nI a)
  have fa := c_fa ho gd hd1 gf hf1 gi hi1 gl hn hn1 gc (by omega) ga (fs_2 ho gd2 hd1 gh2 hh1 (by omega) _) (fun q => fk_2 ho gd2 hd1 gh2 hh1 (hA.1 (14 * d + 6 + h - 2) (by omega)) (hA.1 (14 * d + 6 + h - 1) (by omega)) (by omega) (by omega)) (fun q _ => fv_d ho gd2 hd1 gh2 hh1 (hA.1 (14 * d + 6 + h - 2) (by omega)) (hA.1 (14 * d + 6 + h - 1) (by omega)) (by omega) (by omega) _) (cI_ch (isCh_l (by omega)) (isCh_l (by omega)))
  have wy := wy_rem hd hd1 hf hf1 hi hi1 hl hn hn1 hh hh1 hc
  refine ahd_of ?_ wy ?_ ?_
  · exact (cI_ch (isCh_l (by omega)) (cI_ch (isCh_l (by omega)) (cI_ch (isCh_l (by omega)) (isCh_l (by omega)))))
  · rw [fa]; simp only [wc_cI, wc_115, wc_107, wc_48, wc_119, wc_0]
  · intro h0
    obtain ⟨z1, h0⟩ := cI_0 n115 h0
    obtain ⟨z2, h0⟩ := cI_0 n107 h0
    obtain ⟨t, rfl⟩ : ∃ t, h = t + 2 := ⟨h - 2, by omega⟩
    have e2 : 14 * d + 6 + (t + 2) - 2 = 14 * d + 6 + t := by omega
    have e1 : 14 * d + 6 + (t + 2) - 1 = 14 * d + 6 + t + 1 := by omega
    obtain ⟨z3, h0⟩ := cI_0 n48 h0
    simp only [e1, e2] at z2 z3
    have hz9 : mI S 105 (14 * d + 6 + t) = nI 105 → mI S 105 (14 * d + 6 + t + 1) = nI 105 → ¬ mI S 106 (14 * d + 6 + t + 1) = nI 0 := fun y1 y2 y3 => z3 ⟨y1, y2, y3⟩
    obtain ⟨b1, b2⟩ := Classical.byContradiction z2
    rcases hr with hr | ⟨hr, v, hv1, hv, hid⟩
    · obtain ⟨N, E, h1, h2, h3, h4, h5, h6⟩ := sl_rem_0 ho hA hW hf hf1 hi hi1 he he1 hc gc2 hh (by omega) b1 b2 hz9 hr
      exact stp_n ho (by rw [pBF0]; exact h1) h2 h3 h4 h5 h6 (fun q => q.elim)
    · obtain ⟨u1, hw1, hu1⟩ := hid (6 + t) (by rw [hh, qcl (by omega)]; omega)
      obtain ⟨u2, hw2, hu2⟩ := hid (6 + t + 1) (by rw [hh, qcl (by omega)]; omega)
      simp only [← Nat.add_assoc] at hu1 hu2
      obtain ⟨N, E, h1, h2, h3, h4, h5, h6⟩ := sl_rem_1 ho hA hW hf hf1 hi hi1 he he1 hc gc2 hh (by omega) b1 b2 hz9 hr hv (by omega) hu1 hu2 (by omega) (by omega)
      exact stp_n ho (by rw [pBF0]; exact h1) h2 h3 h4 h5 h6 (fun q => q.elim)
theorem aw_w {M S : Mem} {o d ns ob nc nf f i e n h a : Nat} (ho : isO o) (hR : RC M S o d ns) (hW : WW S d ob ns nc nf) (hf : mI S 109 d = nI f) (hf1 : f < 8) (hi : mI S 110 d = nI i) (hi1 : i < 40) (he : mI S 69 57 = nI e) (he1 : e < 1000) (hl : mI S 71 f = nI n) (hn : i < n) (hn1 : n ≤ 40) (hh : mI S 111 d = nI h) (hh1 : h ≤ 8) (ha : mI S 73 (40 * f + i) = nI a) (hc : mI S 72 (40 * f + i) = nI 119) (hr : WR S d) : AHD M S o d ns ob nc nf (nI 119) (nI a) False := by
  have hR0 := hR
  have hW0 := hW
  obtain ⟨hRV, hRF, hRT, hRO, hRA, hRS, hPR⟩ := hR0
  obtain ⟨hWA, hWV, hWC, hWO, hWF, hWS, hWP, hWE⟩ := hW0
  have hd := hWA.1
  have hd1 := hWA.2.1
  have gd := hRA.1
  obtain ⟨gf0, gi0, gh0⟩ := hRA.2 d (Nat.le_refl _)
  have gf := gf0.trans hf
  have gi := gi0.trans hi
  have gh := gh0.trans hh
  have gl := (hPR.1 f).2.1.trans hl
  have gc := (hPR.1 (40 * f + i)).2.2.2.1.trans hc
  have ga := (hPR.1 (40 * f + i)).2.2.2.2.1.trans ha
  have hA := ah_core (c := nI 119) (x := nI a) ho hR
  have gd2 := hA.2.2.2.2.1.1
  have gh2 := (hA.2.2.2.2.1.2 d (Nat.le_refl _)).2.2.trans hh
  have gc2 := ah_7 M o (nI 119) (nI a)
  have ga2 := ah_8 M o (nI 119) (nI a)
  have fa := c_fa ho gd hd1 gf hf1 gi hi1 gl hn hn1 gc (by omega) ga (fs_1 ho gd2 hd1 gh2 hh1 (by omega) _) (fun q => fk_w ho gd2 hd1 gh2 hh1 (hA.1 (14 * d + 6 + h - 1) (by omega)) (by omega)) (fun q q2 => fv_w ho gd2 hd1 gh2 hh1 (hA.1 (14 * d + 6 + h - 1) (by omega)) (by omega) (Classical.byContradiction q2) _) (cI_ch (isCh_l (by omega)) (isCh_l (by omega)))
  have wy := wy_w hd hd1 hf hf1 hi hi1 hl hn hn1 hh hh1 hc
  refine ahd_of ?_ wy ?_ ?_
  · exact (cI_ch (isCh_l (by omega)) (cI_ch (isCh_l (by omega)) (cI_ch (isCh_l (by omega)) (isCh_l (by omega)))))
  · rw [fa]; simp only [wc_cI, wc_115, wc_107, wc_48, wc_119, wc_0]
  · intro h0
    obtain ⟨z1, h0⟩ := cI_0 n115 h0
    obtain ⟨z2, h0⟩ := cI_0 n107 h0
    obtain ⟨t, rfl⟩ : ∃ t, h = t + 1 := ⟨h - 1, by omega⟩
    have e1 : 14 * d + 6 + (t + 1) - 1 = 14 * d + 6 + t := by omega
    obtain ⟨z3, h0⟩ := cI_0 n119 h0
    simp only [e1] at z2 z3
    rcases Classical.byContradiction z2 with k1 | k1
    · rcases hr with hr | ⟨hr, v, hv1, hv, hid⟩
      · obtain ⟨N, E, h1, h2, h3, h4, h5, h6⟩ := sl_wi_0 ho hA hW hf hf1 hi hi1 he he1 hc gc2 hh (by omega) k1 hr
        exact stp_n ho (by rw [pBF0]; exact h1) h2 h3 h4 h5 h6 (fun q => q.elim)
      · obtain ⟨u, hw1, hu⟩ := hid (6 + t) (by rw [hh, qcl (by omega)]; omega)
        simp only [← Nat.add_assoc] at hu
        obtain ⟨N, E, h1, h2, h3, h4, h5, h6⟩ := sl_wi_1 ho hA hW hf hf1 hi hi1 he he1 hc gc2 hh (by omega) k1 hr hv (by omega) hu (by omega)
        exact stp_n ho (by rw [pBF0]; exact h1) h2 h3 h4 h5 h6 (fun q => q.elim)
    · rcases hr with hr | ⟨hr, v, hv1, hv, hid⟩
      · obtain ⟨N, E, h1, h2, h3, h4, h5, h6⟩ := sl_wf_0 ho hA hW hf hf1 hi hi1 he he1 hc gc2 hh (by omega) k1 (fun y => z3 ⟨k1, y⟩) hr
        exact stp_n ho (by rw [pBF0]; exact h1) h2 h3 h4 h5 h6 (fun q => q.elim)
      · obtain ⟨u, hw1, hu⟩ := hid (6 + t) (by rw [hh, qcl (by omega)]; omega)
        simp only [← Nat.add_assoc] at hu
        obtain ⟨N, E, h1, h2, h3, h4, h5, h6⟩ := sl_wf_1 ho hA hW hf hf1 hi hi1 he he1 hc gc2 hh (by omega) k1 (fun y => z3 ⟨k1, y⟩) hr hv (by omega) hu (by omega)
        exact stp_n ho (by rw [pBF0]; exact h1) h2 h3 h4 h5 h6 (fun q => q.elim)
end MS2
