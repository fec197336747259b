/-! ===== a recorded step of both: c, m, r ===== -/
section MH7
theorem rs_c {M S : Mem} {d ns ob nc nf f i e n h a v fc g k b : Nat} {φ : Nat → Nat} (hR : RC M S 18 d ns) (hW : WW S d ob ns nc nf) (hr : WR S d) (hr1 : mI S 69 71 = nI 1) (hf : mI S 109 d = nI f) (hf1 : f < 8) (hi : mI S 110 d = nI i) (hi1 : i < 40) (he : mI S 69 57 = nI e) (he1 : e < 1000) (hl : mI S 71 f = nI n) (hn : i < n) (hn1 : n ≤ 40) (hh : mI S 111 d = nI h) (h8 : h ≤ 8) (ha : mI S 73 (40 * f + i) = nI a) (hc : mI S 72 (40 * f + i) = nI 99) (gc : mI M 18 7 = nI 99) (ga : mI M 18 8 = nI a) (hX : RECX M S v fc φ g k) (hL : RFP M S b d φ v) (hb : b ≤ d) (hk : k < 30) (hg : g ≤ 4 * k) (hv : v ≤ 168 + 6 * k) (hfc : fc ≤ 168 + 6 * k) (hy : d_X12_why S = some (nI 0, S)) (ha1 : a < nf) : RSC M S 99 d b f i k g v fc ns ob nc nf (nI a) (False) := by
  have ho : isO 18 := .inl rfl
  obtain ⟨N, E, gg, n1, n2, n3, n4, n5, n6, n7⟩ := na_99 hR hW hf hf1 hi hi1 hh h8 hX hL hb hk hg (by omega) (by omega) gc 
  have hB := n7.sb (f := f) (i := i)
  have hR2 := rc_fr hR n6.nb hB
  have hW2 := ww_fr hW hB
  have hr2 := wr_fr hr hB
  have r2 := (hB.1 69 71 (by omega) (by omega)).trans hr1
  have f2 := (hB.1 109 d (by omega) (by omega)).trans hf
  have i2 := (hB.1 110 d (by omega) (by omega)).trans hi
  have e2 := (hB.1 69 57 (by omega) (by omega)).trans he
  have l2 := (hB.1 71 f (by omega) (by omega)).trans hl
  have h2 := (hB.1 111 d (by omega) (by omega)).trans hh
  have a2 := (hB.1 73 (40 * f + i) (by omega) (by omega)).trans ha
  have c2 := (hB.1 72 (40 * f + i) (by omega) (by omega)).trans hc
  have gc2 := (n6.nb.1 18 7 (by omega)).trans gc
  have ga2 := (n6.nb.1 18 8 (by omega)).trans ga
  have hy2 := we_c hW hB hf hf1 hi hi1 hl hn hn1 hh h8 ha hc ha1 hy
  have hnf := hW.2.2.2.2.2.2.1.2.1
  obtain ⟨t, m, hm, hm70, rfl, hd3, F, x1, P1, O1⟩ := fx_c hW2 f2 hf1 i2 hi1 e2 l2 hn hn1 h2 h8 a2 c2 ha1 hr2 hy2
  obtain ⟨v9, hv9, hv8, hid⟩ := (hr2.resolve_left (fun z => by rw [r2] at z; exact absurd z (by decide))).2
  obtain ⟨N2, F2, s1, s2, s5, s6, s7⟩ := sl_c (r := true) ho hR2 hW2 f2 hf1 i2 hi1 e2 he1 c2 gc2 a2 ga2 ha1 hm70 (by omega) h2 (by omega) (by omega) r2 hv8 (fun _ => hv9)
  obtain rfl := ex_inj s2 x1
  have hF := cf_c hR2 hW2 f2 hf1 i2 hi1 e2 gc2 ga2 h2 h8 ha1 hm70 hm hd3 s1
  exact rs_cl n1 n2 n3 n4 n6 n7 hy2 (bk := False) (by rw [pBF0]; exact s1) s2 s5 s6 s7 (Nat.le_refl _) (Nat.le_refl _) P1 r2 (by omega) (by omega) hm ha1 ((hB.1 70 a (by omega) (by omega)).symm.trans hm70) hh h8 hW hL hb hF (.inl rfl) xi_5_99 (fun y => y)
theorem rs_m {M S : Mem} {d ns ob nc nf f i e n h a v fc g k b : Nat} {φ : Nat → Nat} (hR : RC M S 18 d ns) (hW : WW S d ob ns nc nf) (hr : WR S d) (hr1 : mI S 69 71 = nI 1) (hf : mI S 109 d = nI f) (hf1 : f < 8) (hi : mI S 110 d = nI i) (hi1 : i < 40) (he : mI S 69 57 = nI e) (he1 : e < 1000) (hl : mI S 71 f = nI n) (hn : i < n) (hn1 : n ≤ 40) (hh : mI S 111 d = nI h) (h8 : h ≤ 8) (ha : mI S 73 (40 * f + i) = nI a) (hc : mI S 72 (40 * f + i) = nI 109) (gc : mI M 18 7 = nI 109) (ga : mI M 18 8 = nI a) (hX : RECX M S v fc φ g k) (hL : RFP M S b d φ v) (hb : b ≤ d) (hk : k < 30) (hg : g ≤ 4 * k) (hv : v ≤ 168 + 6 * k) (hfc : fc ≤ 168 + 6 * k) (hy : d_X12_why S = some (nI 0, S)) (ha1 : a < 6) : RSC M S 109 d b f i k g v fc ns ob nc nf (nI a) (False) := by
  have ho : isO 18 := .inl rfl
  have hnf := hW.2.2.2.2.2.2.1.2.1
  obtain ⟨t, q0, s, cl, g0, rfl, hO, -⟩ := fx_m hW hf hf1 hi hi1 he hl hn hn1 hh h8 ha hc ha1 hr hy
  have eT : 14 * d + 6 + (t + 1) - 1 = 14 * d + 6 + t := by omega
  obtain ⟨N, E, gg, n1, n2, n3, n4, n5, n6, n7⟩ := na_109 hR hW hf hf1 hi hi1 hh h8 hX hL hb hk hg (by omega) (by omega) gc (by omega) (by rw [eT]; exact hO)
  have hB := n7.sb (f := f) (i := i)
  have hR2 := rc_fr hR n6.nb hB
  have hW2 := ww_fr hW hB
  have hr2 := wr_fr hr hB
  have r2 := (hB.1 69 71 (by omega) (by omega)).trans hr1
  have f2 := (hB.1 109 d (by omega) (by omega)).trans hf
  have i2 := (hB.1 110 d (by omega) (by omega)).trans hi
  have e2 := (hB.1 69 57 (by omega) (by omega)).trans he
  have l2 := (hB.1 71 f (by omega) (by omega)).trans hl
  have h2 := (hB.1 111 d (by omega) (by omega)).trans hh
  have a2 := (hB.1 73 (40 * f + i) (by omega) (by omega)).trans ha
  have c2 := (hB.1 72 (40 * f + i) (by omega) (by omega)).trans hc
  have gc2 := (n6.nb.1 18 7 (by omega)).trans gc
  have ga2 := (n6.nb.1 18 8 (by omega)).trans ga
  have hy2 := we_m hW hB hf hf1 hi hi1 hl hn hn1 hh h8 ha hc ha1 hy
  obtain ⟨t9, q9, s9, cl9, g9, et9, hO9, G1, G2, G3, hd3, F, x1, P1, O1⟩ := fx_m hW2 f2 hf1 i2 hi1 e2 l2 hn hn1 h2 h8 a2 c2 ha1 hr2 hy2
  obtain rfl : t = t9 := by omega
  obtain ⟨v9, hv9, hv8, hid⟩ := (hr2.resolve_left (fun z => by rw [r2] at z; exact absurd z (by decide))).2
  obtain ⟨o1, o2, o3, o4, o5, o6, o7⟩ := id hO9
  obtain ⟨N2, F2, s1, s2, s5, s6, s7⟩ := sl_m (r := true) ho hR2 hW2 f2 hf1 i2 hi1 e2 he1 c2 gc2 a2 ga2 ha1 h2 (by omega) o1 o2 o3 o4 o5 o6 o7 G1 G2 (by omega) r2 hv8 (fun _ => hv9)
  obtain rfl := ex_inj s2 x1
  have hF := cf_m hR2 hW2 f2 hf1 i2 hi1 e2 gc2 ga2 h2 (by omega) ha1 hO9 hd3 G1 s1
  exact rs_cl n1 n2 n3 n4 n6 n7 hy2 (bk := False) (by rw [pBF0]; exact s1) s2 s5 s6 s7 (Nat.le_refl _) (Nat.le_refl _) P1 r2 (by omega) (by omega) (by omega) G2 ((hB.1 70 g9 (by omega) (by omega)).symm.trans G3) hh h8 hW hL hb hF (.inr rfl) xi_5_109 (fun y => y)
theorem rs_r {M S : Mem} {d ns ob nc nf f i e n h a v fc g k b : Nat} {φ : Nat → Nat} (hR : RC M S 18 d ns) (hW : WW S d ob ns nc nf) (hr : WR S d) (hr1 : mI S 69 71 = nI 1) (hf : mI S 109 d = nI f) (hf1 : f < 8) (hi : mI S 110 d = nI i) (hi1 : i < 40) (he : mI S 69 57 = nI e) (he1 : e < 1000) (hl : mI S 71 f = nI n) (hn : i < n) (hn1 : n ≤ 40) (hh : mI S 111 d = nI h) (h8 : h ≤ 8) (ha : mI S 73 (40 * f + i) = nI a) (hc : mI S 72 (40 * f + i) = nI 114) (gc : mI M 18 7 = nI 114) (ga : mI M 18 8 = nI a) (hX : RECX M S v fc φ g k) (hL : RFP M S b d φ v) (hb : b ≤ d) (hk : k < 30) (hg : g ≤ 4 * k) (hv : v ≤ 168 + 6 * k) (hfc : fc ≤ 168 + 6 * k) (hy : d_X12_why S = some (nI 0, S)) (hbd : b < d) : RSC M S 114 d b f i k g v fc ns ob nc nf (nI a) (False) := by
  have ho : isO 18 := .inl rfl
  obtain ⟨N, E, gg, n1, n2, n3, n4, n5, n6, n7⟩ := na_114 hR hW hf hf1 hi hi1 hh h8 hX hL hb hk hg (by omega) (by omega) gc 
  have hB := n7.sb (f := f) (i := i)
  have hR2 := rc_fr hR n6.nb hB
  have hW2 := ww_fr hW hB
  have hr2 := wr_fr hr hB
  have r2 := (hB.1 69 71 (by omega) (by omega)).trans hr1
  have f2 := (hB.1 109 d (by omega) (by omega)).trans hf
  have i2 := (hB.1 110 d (by omega) (by omega)).trans hi
  have e2 := (hB.1 69 57 (by omega) (by omega)).trans he
  have l2 := (hB.1 71 f (by omega) (by omega)).trans hl
  have h2 := (hB.1 111 d (by omega) (by omega)).trans hh
  have a2 := (hB.1 73 (40 * f + i) (by omega) (by omega)).trans ha
  have c2 := (hB.1 72 (40 * f + i) (by omega) (by omega)).trans hc
  have gc2 := (n6.nb.1 18 7 (by omega)).trans gc
  have ga2 := (n6.nb.1 18 8 (by omega)).trans ga
  have hy2 := we_r hW hB hf hf1 hi hi1 hl hn hn1 hh h8 ha hc hy
  obtain ⟨t, rfl, X⟩ := fx_r hW2 f2 hf1 i2 hi1 e2 l2 hn hn1 h2 h8 a2 c2 hy2
  obtain ⟨c, u, rfl, hu, hu8, F, x1, P1⟩ := X.resolve_left (by omega)
  obtain ⟨-, ⟨k9, k1, hk9⟩, -⟩ := hW2.1.2.2 c (by omega)
  obtain ⟨N2, F2, s1, s2, s5, s6, s7⟩ := sl_r1 ho hR2 hW2 f2 hf1 i2 hi1 e2 he1 c2 gc2 h2 (by omega) hu (by omega) hk9 k1
  obtain rfl := ex_inj s2 x1
  have hF := cf_r hR2 hW2 f2 hf1 i2 hi1 e2 gc2 h2 (by omega) rfl hu hu8 s1
  have hL2 := rfp_fr hL n6.nb hB
  refine rs_ke n1 n2 n3 n4 n6 n7 hy2 (bk := False) (by rw [pBF0]; exact s1) s2 s5 s6 s7 (Nat.le_refl _) (Nat.le_refl _) P1.2.2.2.2.2.2.1 ?_ (by omega) (nb_no (c := 114) xi_5_114 (by decide) (by decide)) (fun y => y.elim)
  exact rfp_rt hL2 P1 h2 (by omega) hu hu8 hW.1.2.1 (ww_H hW2) hb hF
end MH7
