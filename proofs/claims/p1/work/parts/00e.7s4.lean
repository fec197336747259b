/-! ===== one step of both, by letter: g, p, m ===== -/
section MS4
theorem obj_at {S : Mem} {d ob ns nc nf h j : Nat} (hW : WW S d ob ns nc nf) (hh : mI S 111 d = nI h) (h8 : h ≤ 8) (hj : j < 6 + h) (hk : mI S 105 (14 * d + j) = nI 111) : ∃ q0 s cl, q0 < ob ∧ q0 < 60 ∧ mI S 106 (14 * d + j) = nI q0 ∧ mI S 112 q0 = nI s ∧ s < ns ∧ s < 60 ∧ mI S 80 s = nI (cN S s) ∧ mI S 79 s = nI cl ∧ cl < nc := by
  obtain ⟨hWA, hWV, hWC, hWO, hWF, hWS, hWP, hWE⟩ := hW
  have hob := hWO.2.1
  have hns := hWS.2.1
  have k := hWV d (Nat.le_refl _) j (by rw [hh, qcl (by omega)]; omega)
  rw [hk] at k
  rcases k with k | k | ⟨k, -⟩ | ⟨-, q0, h1, h2⟩
  · exact absurd k (by decide)
  · exact absurd k (by decide)
  · exact absurd k (by decide)
  · obtain ⟨s, s1, hs⟩ := hWO.2.2 q0 h1
    obtain ⟨b1, ⟨cl, c1, c2⟩, -⟩ := hWS.2.2.2.2 s s1
    exact ⟨q0, s, cl, h1, by omega, h2, hs, s1, by omega, b1, c2, c1⟩
theorem n102 : ¬ nI 102 = nI 0 := by decide
theorem n109 : ¬ nI 109 = nI 0 := by decide
theorem aw_g {M S : Mem} {o d ns ob nc nf f i e n h a : Nat} (ho : isO o) (hR : RC M S o d ns) (hW : WW S d ob ns nc nf) (hf : mI S 109 d = nI f) (hf1 : f < 8) (hi : mI S 110 d = nI i) (hi1 : i < 40) (he : mI S 69 57 = nI e) (he1 : e < 1000) (hl : mI S 71 f = nI n) (hn : i < n) (hn1 : n ≤ 40) (hh : mI S 111 d = nI h) (hh1 : h ≤ 8) (ha : mI S 73 (40 * f + i) = nI a) (hc : mI S 72 (40 * f + i) = nI 103) (ha1 : a < 6) (hr : WR S d) : AHD M S o d ns ob nc nf (nI 103) (nI a) False := by
  have hR0 := hR
  have hW0 := hW
  obtain ⟨hRV, hRF, hRT, hRO, hRA, hRS, hPR⟩ := hR0
  obtain ⟨hWA, hWV, hWC, hWO, hWF, hWS, hWP, hWE⟩ := hW0
  have hd := hWA.1
  have hd1 := hWA.2.1
  have gd := hRA.1
  obtain ⟨gf0, gi0, gh0⟩ := hRA.2 d (Nat.le_refl _)
  have gf := gf0.trans hf
  have gi := gi0.trans hi
  have gh := gh0.trans hh
  have gl := (hPR.1 f).2.1.trans hl
  have gc := (hPR.1 (40 * f + i)).2.2.2.1.trans hc
  have ga := (hPR.1 (40 * f + i)).2.2.2.2.1.trans ha
  have hA := ah_core (c := nI 103) (x := nI a) ho hR
  have gd2 := hA.2.2.2.2.1.1
  have gh2 := (hA.2.2.2.2.1.2 d (Nat.le_refl _)).2.2.trans hh
  have gc2 := ah_7 M o (nI 103) (nI a)
  have ga2 := ah_8 M o (nI 103) (nI a)
  have ho2 : o = 18 ∨ o = 28 := ho
  have hob := hWO.2.1
  have hns := hWS.2.1
  have hnf := hWP.2.1
  by_cases q : 1 ≤ h ∧ mI S 105 (14 * d + 6 + h - 1) = nI 111
  · obtain ⟨q9, k111⟩ := q
    have epl : 14 * d + 6 + h - 1 = 14 * d + (6 + h - 1) := by omega
    obtain ⟨q0, s, cl, hq1, hq60, hq9, hs, hs1, hs60, hz80, hcl, hcl1⟩ := obj_at (j := 6 + h - 1) hW hh hh1 (by omega) (by rw [← epl]; exact k111)
    rw [← epl] at hq9
    have hz6 := cN_le S s
    have gs := (hA.2.2.2.1.2.2.2 q0 hq60).trans hs
    obtain ⟨rs1, rs2, rs3, rs4, rs5⟩ := hA.2.2.2.2.2.1.2.2 s hs1
    have eh : hM (ahM M o (nI 103) (nI a)) s a = hasF S s a := propext (rs5 a ha1)
    have fa := c_fa ho gd hd1 gf hf1 gi hi1 gl hn hn1 gc (by omega) ga (fs_1 ho gd2 hd1 gh2 hh1 (by omega) _) (fun _ => fk_g ho gd2 hd1 gh2 hh1 (hA.1 (14 * d + 6 + h - 1) (by omega)) (by omega) (by omega)) (fun _ _ => fv_g ho gd2 hd1 gh2 hh1 (hA.1 (14 * d + 6 + h - 1) (by omega)) (by omega) ha1 hq9 hq60 gs hs60 k111) (cI_ch (isCh_l (by omega)) (isCh_l (by omega)))
    have wy := wy_g hd hd1 hf hf1 hi hi1 hl hn hn1 hh hh1 hc ha ha1 (fun _ _ => ⟨hq9, hq60, hs, hs60, hz80, hz6⟩)
    refine ahd_of (cI_ch (isCh_l (by omega)) (cI_ch (isCh_l (by omega)) (cI_ch (isCh_l (by omega)) (isCh_l (by omega))))) wy ?_ ?_
    · rw [fa]; simp only [wc_cI, wc_115, wc_107, wc_102, wc_109, wc_100, wc_0, eh]
    · intro h0
      obtain ⟨z1, h0⟩ := cI_0 n115 h0
      obtain ⟨z2, h0⟩ := cI_0 n107 h0
      obtain ⟨z3, -⟩ := cI_0 n102 h0
      have hF := Classical.byContradiction z3
      obtain ⟨t, rfl⟩ : ∃ t, h = t + 1 := ⟨h - 1, by omega⟩
      have e1 : 14 * d + 6 + (t + 1) - 1 = 14 * d + 6 + t := by omega
      rw [e1] at k111 hq9
      have hF2 : hasF S (mI S 112 q0).toNatClampNeg a := by rw [hs, qcl (by omega)]; exact hF
      rcases hr with hr | ⟨hr, v, hv1, hv, hid⟩
      · obtain ⟨N, E, h1, h2, h3, h4, h5, h6⟩ := sl_g_0 ho hA hW hf hf1 hi hi1 he he1 hc gc2 ha ga2 hh (by omega) ha1 k111 hq9 hq1 hF2 hr
        exact stp_n ho (by rw [pBF0]; exact h1) h2 h3 h4 h5 h6 (fun q => q.elim)
      · obtain ⟨N, E, h1, h2, h3, h4, h5, h6⟩ := sl_g_1 ho hA hW hf hf1 hi hi1 he he1 hc gc2 ha ga2 hh (by omega) ha1 k111 hq9 hq1 hF2 hr hv (by omega)
        exact stp_n ho (by rw [pBF0]; exact h1) h2 h3 h4 h5 h6 (fun q => q.elim)
  · have fa := c_fa (v := nI 45) ho gd hd1 gf hf1 gi hi1 gl hn hn1 gc (by omega) ga (fs_1 ho gd2 hd1 gh2 hh1 (by omega) _) (fun _ => fk_g ho gd2 hd1 gh2 hh1 (hA.1 (14 * d + 6 + h - 1) (by omega)) (by omega) (by omega)) (fun y1 y2 => absurd ⟨by omega, Classical.byContradiction y2⟩ q) (isCh_l (by omega))
    have wy := wy_g hd hd1 hf hf1 hi hi1 hl hn hn1 hh hh1 hc (o := 0) (s := 0) (z := 0) ha ha1 (fun y1 y2 => absurd ⟨by omega, y2⟩ q)
    by_cases z : h = 0
    · rw [cIT z] at fa wy
      exact .inl ⟨nI 115, isCh_l (by omega), n115, wy, fa⟩
    · have z2 : ¬ mI S 105 (14 * d + 6 + h - 1) = nI 111 := fun y => q ⟨by omega, y⟩
      rw [cIF z, cIT z2] at fa wy
      exact .inl ⟨nI 107, isCh_l (by omega), n107, wy, fa⟩
theorem aw_m {M S : Mem} {o d ns ob nc nf f i e n h a : Nat} (ho : isO o) (hR : RC M S o d ns) (hW : WW S d ob ns nc nf) (hf : mI S 109 d = nI f) (hf1 : f < 8) (hi : mI S 110 d = nI i) (hi1 : i < 40) (he : mI S 69 57 = nI e) (he1 : e < 1000) (hl : mI S 71 f = nI n) (hn : i < n) (hn1 : n ≤ 40) (hh : mI S 111 d = nI h) (hh1 : h ≤ 8) (ha : mI S 73 (40 * f + i) = nI a) (hc : mI S 72 (40 * f + i) = nI 109) (ha1 : a < 6) (hr : WR S d) : AHD M S o d ns ob nc nf (nI 109) (nI a) False := by
  have hR0 := hR
  have hW0 := hW
  obtain ⟨hRV, hRF, hRT, hRO, hRA, hRS, hPR⟩ := hR0
  obtain ⟨hWA, hWV, hWC, hWO, hWF, hWS, hWP, hWE⟩ := hW0
  have hd := hWA.1
  have hd1 := hWA.2.1
  have gd := hRA.1
  obtain ⟨gf0, gi0, gh0⟩ := hRA.2 d (Nat.le_refl _)
  have gf := gf0.trans hf
  have gi := gi0.trans hi
  have gh := gh0.trans hh
  have gl := (hPR.1 f).2.1.trans hl
  have gc := (hPR.1 (40 * f + i)).2.2.2.1.trans hc
  have ga := (hPR.1 (40 * f + i)).2.2.2.2.1.trans ha
  have hA := ah_core (c := nI 109) (x := nI a) ho hR
  have gd2 := hA.2.2.2.2.1.1
  have gh2 := (hA.2.2.2.2.1.2 d (Nat.le_refl _)).2.2.trans hh
  have gc2 := ah_7 M o (nI 109) (nI a)
  have ga2 := ah_8 M o (nI 109) (nI a)
  have ho2 : o = 18 ∨ o = 28 := ho
  have hob := hWO.2.1
  have hns := hWS.2.1
  have hnf := hWP.2.1
  by_cases q : 1 ≤ h ∧ mI S 105 (14 * d + 6 + h - 1) = nI 111
  · obtain ⟨q9, k111⟩ := q
    have epl : 14 * d + 6 + h - 1 = 14 * d + (6 + h - 1) := by omega
    obtain ⟨q0, s, cl, hq1, hq60, hq9, hs, hs1, hs60, hz80, hcl, hcl1⟩ := obj_at (j := 6 + h - 1) hW hh hh1 (by omega) (by rw [← epl]; exact k111)
    rw [← epl] at hq9
    have hz6 := cN_le S s
    have gs := (hA.2.2.2.1.2.2.2 q0 hq60).trans hs
    obtain ⟨rs1, rs2, rs3, rs4, rs5⟩ := hA.2.2.2.2.2.1.2.2 s hs1
    have gcl := rs1.trans hcl
    have em := c_methodOf (M := ahM M o (nI 109) (nI a)) (S := S) ha1 hWP.2.2.2.1 hcl1 (fun c => (hA.2.2.2.2.2.2.1 c).2.2.2.2.2.2.1) (fun c => (hA.2.2.2.2.2.2.1 c).2.2.2.2.2.2.2)
    have fa := c_fa ho gd hd1 gf hf1 gi hi1 gl hn hn1 gc (by omega) ga (fs_1 ho gd2 hd1 gh2 hh1 (by omega) _) (fun _ => fk_g ho gd2 hd1 gh2 hh1 (hA.1 (14 * d + 6 + h - 1) (by omega)) (by omega) (by omega)) (fun _ _ => fv_m ho gd2 hd1 gh2 hh1 (hA.1 (14 * d + 6 + h - 1) (by omega)) (by omega) ha1 hq9 hq60 gs hs60 k111 gcl em) (cI_ch (isCh_l (by omega)) (cI_ch (isCh_l (by omega)) (isCh_l (by omega))))
    have wy := wy_m hd hd1 hf hf1 hi hi1 hl hn hn1 hh hh1 hc ha ha1 hWP.2.2.2.1 (fun _ _ => ⟨hq9, hq60, hs, hs60, hcl, hcl1⟩)
    refine ahd_of (cI_ch (isCh_l (by omega)) (cI_ch (isCh_l (by omega)) (cI_ch (isCh_l (by omega)) (cI_ch (isCh_l (by omega)) (isCh_l (by omega)))))) wy ?_ ?_
    · rw [fa]; simp only [wc_cI, wc_115, wc_107, wc_102, wc_109, wc_100, wc_0, hcl]
    · intro h0
      obtain ⟨z1, h0⟩ := cI_0 n115 h0
      obtain ⟨z2, h0⟩ := cI_0 n107 h0
      obtain ⟨z3, h0⟩ := cI_0 n109 h0
      obtain ⟨z4, -⟩ := cI_0 n100 h0
      rw [hcl] at z3
      obtain ⟨g, hg1, hg, -⟩ := (mOf_ok ha1 hWP (cl + 1) cl 7 (by omega) hcl1).resolve_left z3
      obtain ⟨t, rfl⟩ : ∃ t, h = t + 1 := ⟨h - 1, by omega⟩
      have e1 : 14 * d + 6 + (t + 1) - 1 = 14 * d + 6 + t := by omega
      rw [e1] at k111 hq9
      rcases hr with hr | ⟨hr, v, hv1, hv, hid⟩
      · obtain ⟨v, hv⟩ := some_nI (mI S 69 83)
        obtain ⟨N, E, h1, h2, h5, h6, h7⟩ := sl_m (r := false) ho hA hW hf hf1 hi hi1 he he1 hc gc2 ha ga2 ha1 hh (by omega) k111 hq9 hq1 hs hs1 hcl hcl1 hg hg1 (by omega) hr hv (fun y => absurd y (by decide))
        exact stp_s h1 h2 h5 h6 h7 (Nat.le_refl _) (Nat.le_refl _)
      · obtain ⟨N, E, h1, h2, h5, h6, h7⟩ := sl_m (r := true) ho hA hW hf hf1 hi hi1 he he1 hc gc2 ha ga2 ha1 hh (by omega) k111 hq9 hq1 hs hs1 hcl hcl1 hg hg1 (by omega) hr hv (fun _ => hv1)
        exact stp_s h1 h2 h5 h6 h7 (Nat.le_refl _) (Nat.le_refl _)
  · have fa := c_fa (v := nI 45) ho gd hd1 gf hf1 gi hi1 gl hn hn1 gc (by omega) ga (fs_1 ho gd2 hd1 gh2 hh1 (by omega) _) (fun _ => fk_g ho gd2 hd1 gh2 hh1 (hA.1 (14 * d + 6 + h - 1) (by omega)) (by omega) (by omega)) (fun y1 y2 => absurd ⟨by omega, Classical.byContradiction y2⟩ q) (isCh_l (by omega))
    have wy := wy_m hd hd1 hf hf1 hi hi1 hl hn hn1 hh hh1 hc (o := 0) (s := 0) (cl := 0) ha ha1 hWP.2.2.2.1 (fun y1 y2 => absurd ⟨by omega, y2⟩ q)
    by_cases z : h = 0
    · rw [cIT z] at fa wy
      exact .inl ⟨nI 115, isCh_l (by omega), n115, wy, fa⟩
    · have z2 : ¬ mI S 105 (14 * d + 6 + h - 1) = nI 111 := fun y => q ⟨by omega, y⟩
      rw [cIF z, cIT z2] at fa wy
      exact .inl ⟨nI 107, isCh_l (by omega), n107, wy, fa⟩
theorem aw_p {M S : Mem} {o d ns ob nc nf f i e n h a : Nat} (ho : isO o) (hR : RC M S o d ns) (hW : WW S d ob ns nc nf) (hf : mI S 109 d = nI f) (hf1 : f < 8) (hi : mI S 110 d = nI i) (hi1 : i < 40) (he : mI S 69 57 = nI e) (he1 : e < 1000) (hl : mI S 71 f = nI n) (hn : i < n) (hn1 : n ≤ 40) (hh : mI S 111 d = nI h) (hh1 : h ≤ 8) (ha : mI S 73 (40 * f + i) = nI a) (hc : mI S 72 (40 * f + i) = nI 112) (ha1 : a < 6) (hr : WR S d) : AHD M S o d ns ob nc nf (nI 112) (nI a) False := by
  have hR0 := hR
  have hW0 := hW
  obtain ⟨hRV, hRF, hRT, hRO, hRA, hRS, hPR⟩ := hR0
  obtain ⟨hWA, hWV, hWC, hWO, hWF, hWS, hWP, hWE⟩ := hW0
  have hd := hWA.1
  have hd1 := hWA.2.1
  have gd := hRA.1
  obtain ⟨gf0, gi0, gh0⟩ := hRA.2 d (Nat.le_refl _)
  have gf := gf0.trans hf
  have gi := gi0.trans hi
  have gh := gh0.trans hh
  have gl := (hPR.1 f).2.1.trans hl
  have gc := (hPR.1 (40 * f + i)).2.2.2.1.trans hc
  have ga := (hPR.1 (40 * f + i)).2.2.2.2.1.trans ha
  have hA := ah_core (c := nI 112) (x := nI a) ho hR
  have gd2 := hA.2.2.2.2.1.1
  have gh2 := (hA.2.2.2.2.1.2 d (Nat.le_refl _)).2.2.trans hh
  have gc2 := ah_7 M o (nI 112) (nI a)
  have ga2 := ah_8 M o (nI 112) (nI a)
  have ho2 : o = 18 ∨ o = 28 := ho
  have hob := hWO.2.1
  have hns := hWS.2.1
  have hnf := hWP.2.1
  by_cases q : 2 ≤ h ∧ mI S 105 (14 * d + 6 + h - 2) = nI 111
  · obtain ⟨q9, k111⟩ := q
    have epl : 14 * d + 6 + h - 2 = 14 * d + (6 + h - 2) := by omega
    obtain ⟨q0, s, cl, hq1, hq60, hq9, hs, hs1, hs60, hz80, hcl, hcl1⟩ := obj_at (j := 6 + h - 2) hW hh hh1 (by omega) (by rw [← epl]; exact k111)
    rw [← epl] at hq9
    have hz6 := cN_le S s
    have gs := (hA.2.2.2.1.2.2.2 q0 hq60).trans hs
    obtain ⟨rs1, rs2, rs3, rs4, rs5⟩ := hA.2.2.2.2.2.1.2.2 s hs1
    have eh : hM (ahM M o (nI 112) (nI a)) s a = hasF S s a := propext (rs5 a ha1)
    have e16 := rs3 a ha1
    have fa := c_fa ho gd hd1 gf hf1 gi hi1 gl hn hn1 gc (by omega) ga (fs_2 ho gd2 hd1 gh2 hh1 (by omega) _) (fun _ => fk_p ho gd2 hd1 gh2 hh1 (hA.1 (14 * d + 6 + h - 2) (by omega)) (by omega)) (fun _ _ => fv_p ho gd2 hd1 gh2 hh1 (hA.1 (14 * d + 6 + h - 2) (by omega)) (by omega) ha1 hq9 hq60 gs hs60 k111 hA.2.2.2.2.2.1.1 hns) (cI_ch (isCh_l (by omega)) (isCh_l (by omega)))
    have wy := wy_p hd hd1 hf hf1 hi hi1 hl hn hn1 hh hh1 hc ha hWS.1 hns ha1 (fun _ _ => ⟨hq9, hq60, hs, hs60, hz80, hz6⟩)
    refine ahd_of (cI_ch (isCh_l (by omega)) (cI_ch (isCh_l (by omega)) (cI_ch (isCh_l (by omega)) (isCh_l (by omega))))) wy ?_ ?_
    · rw [fa]; simp only [wc_cI, wc_115, wc_107, wc_102, wc_109, wc_100, wc_0, eh, e16]
    · intro h0
      obtain ⟨z1, h0⟩ := cI_0 n115 h0
      obtain ⟨z2, h0⟩ := cI_0 n107 h0
      obtain ⟨z3, -⟩ := cI_0 n102 h0
      obtain ⟨t, rfl⟩ : ∃ t, h = t + 2 := ⟨h - 2, by omega⟩
      have e1 : 14 * d + 6 + (t + 2) - 2 = 14 * d + 6 + t := by omega
      rw [e1] at k111 hq9
      by_cases hF : hasF S s a
      · obtain ⟨N, E, h1, h2, h5, h6, h7⟩ := sl_ph ho hA hW hf hf1 hi hi1 he he1 hc gc2 ha ga2 hh (by omega) ha1 k111 hq9 hq1 hs hs1 hF
        exact stp_s h1 h2 h5 h6 h7 (Nat.le_refl _) (Nat.le_refl _)
      · by_cases hfo : mI S 82 (6 * s + a) = -nI 1
        · have hns9 : ns < 60 := by
            by_cases y : ns = 60
            · exact absurd ⟨hF, hfo, y⟩ z3
            · omega
          rcases hr with hr | ⟨hr, v, hv1, hv, hid⟩
          · obtain ⟨N, E, h1, h2, h5, h6, h7⟩ := sl_pn_0 ho hA hW hf hf1 hi hi1 he he1 hc gc2 ha ga2 hh (by omega) ha1 k111 hq9 hq1 hs hs1 hr hF hfo hns9
            exact stp_s h1 h2 h5 h6 h7 (by omega) (Nat.le_refl _)
          · obtain ⟨u, hw1, hu⟩ := hid (6 + t) (by rw [hh, qcl (by omega)]; omega)
            rw [← Nat.add_assoc] at hu
            obtain ⟨N, E, h1, h2, h5, h6, h7⟩ := sl_pn_1 ho hA hW hf hf1 hi hi1 he he1 hc gc2 ha ga2 hh (by omega) ha1 k111 hq9 hq1 hs hs1 hr hv (by omega) hu (by omega) hF hfo hns9
            exact stp_s h1 h2 h5 h6 h7 (by omega) (Nat.le_refl _)
        · rcases hr with hr | ⟨hr, v, hv1, hv, hid⟩
          · obtain ⟨N, E, h1, h2, h5, h6, h7⟩ := sl_pf_0 ho hA hW hf hf1 hi hi1 he he1 hc gc2 ha ga2 hh (by omega) ha1 k111 hq9 hq1 hs hs1 hr hF hfo
            exact stp_s h1 h2 h5 h6 h7 (Nat.le_refl _) (Nat.le_refl _)
          · obtain ⟨u, hw1, hu⟩ := hid (6 + t) (by rw [hh, qcl (by omega)]; omega)
            rw [← Nat.add_assoc] at hu
            obtain ⟨N, E, h1, h2, h5, h6, h7⟩ := sl_pf_1 ho hA hW hf hf1 hi hi1 he he1 hc gc2 ha ga2 hh (by omega) ha1 k111 hq9 hq1 hs hs1 hr hv (by omega) hu (by omega) hF hfo
            exact stp_s h1 h2 h5 h6 h7 (Nat.le_refl _) (Nat.le_refl _)
  · have fa := c_fa (v := nI 45) ho gd hd1 gf hf1 gi hi1 gl hn hn1 gc (by omega) ga (fs_2 ho gd2 hd1 gh2 hh1 (by omega) _) (fun _ => fk_p ho gd2 hd1 gh2 hh1 (hA.1 (14 * d + 6 + h - 2) (by omega)) (by omega)) (fun y1 y2 => absurd ⟨by omega, Classical.byContradiction y2⟩ q) (isCh_l (by omega))
    have wy := wy_p hd hd1 hf hf1 hi hi1 hl hn hn1 hh hh1 hc (o := 0) (s := 0) (z := 0) ha hWS.1 hns ha1 (fun y1 y2 => absurd ⟨by omega, y2⟩ q)
    by_cases z : h < 2
    · rw [cIT z] at fa wy
      exact .inl ⟨nI 115, isCh_l (by omega), n115, wy, fa⟩
    · have z2 : ¬ mI S 105 (14 * d + 6 + h - 2) = nI 111 := fun y => q ⟨by omega, y⟩
      rw [cIF z, cIT z2] at fa wy
      exact .inl ⟨nI 107, isCh_l (by omega), n107, wy, fa⟩
end MS4
