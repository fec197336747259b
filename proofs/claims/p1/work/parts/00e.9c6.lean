/-! ===== a recorded step of both: pairs, n, g ===== -/
section MH6
theorem kbv_n (s : Nat) (h : s < 60) : kbv (nI 111) (nI 0) (nI s) (nI 0) = nI 11 := by
  unfold kbv
  rw [decide_eq_true (show ¬ nI s = -nI 1 from of_eq_false (qneg_ne (by omega)))]
  decide
theorem kbv_g : kbv (nI 0) (nI 0) (-nI 1) (nI 0) = nI 0 := by decide
theorem V_ok {V : Vl} (h : (V.1 = nI 105 ∧ V.2.2 = FP.dconst0) ∨ (V.1 = nI 102 ∧ V.2.1 = nI 0)) : ¬ V.1 = nI 0 ∧ ¬ V.1 = nI 111 ∧ ¬ V.1 = nI 110 := by
  rcases h with h | h <;> (rw [h.1]; decide)
theorem rs_add {M S : Mem} {d ns ob nc nf f i e n h a v fc g k b : Nat} {φ : Nat → Nat} (hR : RC M S 18 d ns) (hW : WW S d ob ns nc nf) (hr : WR S d) (hr1 : mI S 69 71 = nI 1) (hf : mI S 109 d = nI f) (hf1 : f < 8) (hi : mI S 110 d = nI i) (hi1 : i < 40) (he : mI S 69 57 = nI e) (he1 : e < 1000) (hl : mI S 71 f = nI n) (hn : i < n) (hn1 : n ≤ 40) (hh : mI S 111 d = nI h) (h8 : h ≤ 8) (ha : mI S 73 (40 * f + i) = nI a) (hc : mI S 72 (40 * f + i) = nI 43) (gc : mI M 18 7 = nI 43) (ga : mI M 18 8 = nI a) (hX : RECX M S v fc φ g k) (hL : RFP M S b d φ v) (hb : b ≤ d) (hk : k < 30) (hg : g ≤ 4 * k) (hv : v ≤ 168 + 6 * k) (hfc : fc ≤ 168 + 6 * k) (hy : d_X12_why S = some (nI 0, S)) : RSC M S 43 d b f i k g v fc ns ob nc nf (nI a) (False) := by
  have ho : isO 18 := .inl rfl
  obtain ⟨t, rfl, b1, b2, -⟩ := fx_add hW hf hf1 hi hi1 he hl hn hn1 hh h8 ha hc hr hy
  have eT : 14 * d + 6 + (t + 2) - 2 = 14 * d + 6 + t := by omega
  have eU : 14 * d + 6 + (t + 2) - 1 = 14 * d + 6 + t + 1 := by omega
  obtain ⟨N, E, gg, n1, n2, n3, n4, n5, n6, n7⟩ := na_43 hR hW hf hf1 hi hi1 hh h8 hX hL hb hk hg (by omega) (by omega) gc (by omega) rfl
  have hB := n7.sb (f := f) (i := i)
  have hR2 := rc_fr hR n6.nb hB
  have hW2 := ww_fr hW hB
  have hr2 := wr_fr hr hB
  have r2 := (hB.1 69 71 (by omega) (by omega)).trans hr1
  have f2 := (hB.1 109 d (by omega) (by omega)).trans hf
  have i2 := (hB.1 110 d (by omega) (by omega)).trans hi
  have e2 := (hB.1 69 57 (by omega) (by omega)).trans he
  have l2 := (hB.1 71 f (by omega) (by omega)).trans hl
  have h2 := (hB.1 111 d (by omega) (by omega)).trans hh
  have a2 := (hB.1 73 (40 * f + i) (by omega) (by omega)).trans ha
  have c2 := (hB.1 72 (40 * f + i) (by omega) (by omega)).trans hc
  have gc2 := (n6.nb.1 18 7 (by omega)).trans gc
  have ga2 := (n6.nb.1 18 8 (by omega)).trans ga
  have hy2 := we_add hW hB hf hf1 hi hi1 hl hn hn1 hh h8 ha hc hy
  rw [eT, eU] at n5
  obtain ⟨t9, et9, b3, b4, F, x1, P1, O1⟩ := fx_add hW2 f2 hf1 i2 hi1 e2 l2 hn hn1 h2 h8 a2 c2 hr2 hy2
  obtain rfl : t = t9 := by omega
  obtain ⟨v9, hv9, hv8, hid⟩ := (hr2.resolve_left (fun z => by rw [r2] at z; exact absurd z (by decide))).2
  obtain ⟨u1, hw1, hu1⟩ := hid (6 + t) (by rw [h2, qcl (by omega)]; omega)
  obtain ⟨u2, hw2, hu2⟩ := hid (6 + t + 1) (by rw [h2, qcl (by omega)]; omega)
  simp only [← Nat.add_assoc] at hu1 hu2
  have ecq : cq2 (lnR E k f i) (14 * d + 6 + t) (14 * d + 6 + t + 1) = cq2 S (14 * d + 6 + t) (14 * d + 6 + t + 1) := by
    have q108 : ∀ j, mI (lnR E k f i) 108 j = mI S 108 j := fun j => hB.1 108 j (by omega) (by omega)
    have q124 : ∀ j, mI E 124 j = mI S 124 j := fun j => n7.2.2.2.1 124 j (by omega) (by omega)
    unfold cq2 cst2
    simp only [q108, q124, lnR_124]
  have hVV := V_ok (rkV_k (nI 43) (mI (lnR E k f i) 105 (14 * d + 6 + t)) (mI (lnR E k f i) 106 (14 * d + 6 + t)) (mD (lnR E k f i) 107 (14 * d + 6 + t)) (mI (lnR E k f i) 105 (14 * d + 6 + t + 1)) (mI (lnR E k f i) 106 (14 * d + 6 + t + 1)) (mD (lnR E k f i) 107 (14 * d + 6 + t + 1)))
  obtain ⟨N2, F2, s1, s2, s3, s4, s5, s6⟩ := sl_add_1 ho hR2 hW2 f2 hf1 i2 hi1 e2 he1 c2 gc2 h2 (by omega) b3 b4 r2 hv8 (by omega) hu1 hu2 (by omega) (by omega)
  obtain rfl := ex_inj s2 x1
  have hF := cf_add hR2 hW2 f2 hf1 i2 hi1 e2 gc2 h2 (by omega) b3 b4 s1
  refine rs_nw n1 n2 n3 n4 n5 n6 n7 hy2 (bk := False) (by rw [pBF0]; exact s1) s2 s5 s6 (st_of ho s3 s4) (Nat.le_refl _) (Nat.le_refl _) P1 r2 (by omega) (by omega) (by omega) hh (by omega) (by omega) hW hL hb hF xi_5_43 (by omega) ?_ (fun y => y.elim)
  rw [ecq]; exact kbv_m _ hVV.1 hVV.2.1 hVV.2.2
theorem rs_sub {M S : Mem} {d ns ob nc nf f i e n h a v fc g k b : Nat} {φ : Nat → Nat} (hR : RC M S 18 d ns) (hW : WW S d ob ns nc nf) (hr : WR S d) (hr1 : mI S 69 71 = nI 1) (hf : mI S 109 d = nI f) (hf1 : f < 8) (hi : mI S 110 d = nI i) (hi1 : i < 40) (he : mI S 69 57 = nI e) (he1 : e < 1000) (hl : mI S 71 f = nI n) (hn : i < n) (hn1 : n ≤ 40) (hh : mI S 111 d = nI h) (h8 : h ≤ 8) (ha : mI S 73 (40 * f + i) = nI a) (hc : mI S 72 (40 * f + i) = nI 45) (gc : mI M 18 7 = nI 45) (ga : mI M 18 8 = nI a) (hX : RECX M S v fc φ g k) (hL : RFP M S b d φ v) (hb : b ≤ d) (hk : k < 30) (hg : g ≤ 4 * k) (hv : v ≤ 168 + 6 * k) (hfc : fc ≤ 168 + 6 * k) (hy : d_X12_why S = some (nI 0, S)) : RSC M S 45 d b f i k g v fc ns ob nc nf (nI a) (False) := by
  have ho : isO 18 := .inl rfl
  obtain ⟨t, rfl, b1, b2, -⟩ := fx_sub hW hf hf1 hi hi1 he hl hn hn1 hh h8 ha hc hr hy
  have eT : 14 * d + 6 + (t + 2) - 2 = 14 * d + 6 + t := by omega
  have eU : 14 * d + 6 + (t + 2) - 1 = 14 * d + 6 + t + 1 := by omega
  obtain ⟨N, E, gg, n1, n2, n3, n4, n5, n6, n7⟩ := na_45 hR hW hf hf1 hi hi1 hh h8 hX hL hb hk hg (by omega) (by omega) gc (by omega) rfl
  have hB := n7.sb (f := f) (i := i)
  have hR2 := rc_fr hR n6.nb hB
  have hW2 := ww_fr hW hB
  have hr2 := wr_fr hr hB
  have r2 := (hB.1 69 71 (by omega) (by omega)).trans hr1
  have f2 := (hB.1 109 d (by omega) (by omega)).trans hf
  have i2 := (hB.1 110 d (by omega) (by omega)).trans hi
  have e2 := (hB.1 69 57 (by omega) (by omega)).trans he
  have l2 := (hB.1 71 f (by omega) (by omega)).trans hl
  have h2 := (hB.1 111 d (by omega) (by omega)).trans hh
  have a2 := (hB.1 73 (40 * f + i) (by omega) (by omega)).trans ha
  have c2 := (hB.1 72 (40 * f + i) (by omega) (by omega)).trans hc
  have gc2 := (n6.nb.1 18 7 (by omega)).trans gc
  have ga2 := (n6.nb.1 18 8 (by omega)).trans ga
  have hy2 := we_sub hW hB hf hf1 hi hi1 hl hn hn1 hh h8 ha hc hy
  rw [eT, eU] at n5
  obtain ⟨t9, et9, b3, b4, F, x1, P1, O1⟩ := fx_sub hW2 f2 hf1 i2 hi1 e2 l2 hn hn1 h2 h8 a2 c2 hr2 hy2
  obtain rfl : t = t9 := by omega
  obtain ⟨v9, hv9, hv8, hid⟩ := (hr2.resolve_left (fun z => by rw [r2] at z; exact absurd z (by decide))).2
  obtain ⟨u1, hw1, hu1⟩ := hid (6 + t) (by rw [h2, qcl (by omega)]; omega)
  obtain ⟨u2, hw2, hu2⟩ := hid (6 + t + 1) (by rw [h2, qcl (by omega)]; omega)
  simp only [← Nat.add_assoc] at hu1 hu2
  have ecq : cq2 (lnR E k f i) (14 * d + 6 + t) (14 * d + 6 + t + 1) = cq2 S (14 * d + 6 + t) (14 * d + 6 + t + 1) := by
    have q108 : ∀ j, mI (lnR E k f i) 108 j = mI S 108 j := fun j => hB.1 108 j (by omega) (by omega)
    have q124 : ∀ j, mI E 124 j = mI S 124 j := fun j => n7.2.2.2.1 124 j (by omega) (by omega)
    unfold cq2 cst2
    simp only [q108, q124, lnR_124]
  have hVV := V_ok (rkV_k (nI 45) (mI (lnR E k f i) 105 (14 * d + 6 + t)) (mI (lnR E k f i) 106 (14 * d + 6 + t)) (mD (lnR E k f i) 107 (14 * d + 6 + t)) (mI (lnR E k f i) 105 (14 * d + 6 + t + 1)) (mI (lnR E k f i) 106 (14 * d + 6 + t + 1)) (mD (lnR E k f i) 107 (14 * d + 6 + t + 1)))
  obtain ⟨N2, F2, s1, s2, s3, s4, s5, s6⟩ := sl_sub_1 ho hR2 hW2 f2 hf1 i2 hi1 e2 he1 c2 gc2 h2 (by omega) b3 b4 r2 hv8 (by omega) hu1 hu2 (by omega) (by omega)
  obtain rfl := ex_inj s2 x1
  have hF := cf_sub hR2 hW2 f2 hf1 i2 hi1 e2 gc2 h2 (by omega) b3 b4 s1
  refine rs_nw n1 n2 n3 n4 n5 n6 n7 hy2 (bk := False) (by rw [pBF0]; exact s1) s2 s5 s6 (st_of ho s3 s4) (Nat.le_refl _) (Nat.le_refl _) P1 r2 (by omega) (by omega) (by omega) hh (by omega) (by omega) hW hL hb hF xi_5_45 (by omega) ?_ (fun y => y.elim)
  rw [ecq]; exact kbv_m _ hVV.1 hVV.2.1 hVV.2.2
theorem rs_mul {M S : Mem} {d ns ob nc nf f i e n h a v fc g k b : Nat} {φ : Nat → Nat} (hR : RC M S 18 d ns) (hW : WW S d ob ns nc nf) (hr : WR S d) (hr1 : mI S 69 71 = nI 1) (hf : mI S 109 d = nI f) (hf1 : f < 8) (hi : mI S 110 d = nI i) (hi1 : i < 40) (he : mI S 69 57 = nI e) (he1 : e < 1000) (hl : mI S 71 f = nI n) (hn : i < n) (hn1 : n ≤ 40) (hh : mI S 111 d = nI h) (h8 : h ≤ 8) (ha : mI S 73 (40 * f + i) = nI a) (hc : mI S 72 (40 * f + i) = nI 42) (gc : mI M 18 7 = nI 42) (ga : mI M 18 8 = nI a) (hX : RECX M S v fc φ g k) (hL : RFP M S b d φ v) (hb : b ≤ d) (hk : k < 30) (hg : g ≤ 4 * k) (hv : v ≤ 168 + 6 * k) (hfc : fc ≤ 168 + 6 * k) (hy : d_X12_why S = some (nI 0, S)) : RSC M S 42 d b f i k g v fc ns ob nc nf (nI a) (False) := by
  have ho : isO 18 := .inl rfl
  obtain ⟨t, rfl, b1, b2, -⟩ := fx_mul hW hf hf1 hi hi1 he hl hn hn1 hh h8 ha hc hr hy
  have eT : 14 * d + 6 + (t + 2) - 2 = 14 * d + 6 + t := by omega
  have eU : 14 * d + 6 + (t + 2) - 1 = 14 * d + 6 + t + 1 := by omega
  obtain ⟨N, E, gg, n1, n2, n3, n4, n5, n6, n7⟩ := na_42 hR hW hf hf1 hi hi1 hh h8 hX hL hb hk hg (by omega) (by omega) gc (by omega) rfl
  have hB := n7.sb (f := f) (i := i)
  have hR2 := rc_fr hR n6.nb hB
  have hW2 := ww_fr hW hB
  have hr2 := wr_fr hr hB
  have r2 := (hB.1 69 71 (by omega) (by omega)).trans hr1
  have f2 := (hB.1 109 d (by omega) (by omega)).trans hf
  have i2 := (hB.1 110 d (by omega) (by omega)).trans hi
  have e2 := (hB.1 69 57 (by omega) (by omega)).trans he
  have l2 := (hB.1 71 f (by omega) (by omega)).trans hl
  have h2 := (hB.1 111 d (by omega) (by omega)).trans hh
  have a2 := (hB.1 73 (40 * f + i) (by omega) (by omega)).trans ha
  have c2 := (hB.1 72 (40 * f + i) (by omega) (by omega)).trans hc
  have gc2 := (n6.nb.1 18 7 (by omega)).trans gc
  have ga2 := (n6.nb.1 18 8 (by omega)).trans ga
  have hy2 := we_mul hW hB hf hf1 hi hi1 hl hn hn1 hh h8 ha hc hy
  rw [eT, eU] at n5
  obtain ⟨t9, et9, b3, b4, F, x1, P1, O1⟩ := fx_mul hW2 f2 hf1 i2 hi1 e2 l2 hn hn1 h2 h8 a2 c2 hr2 hy2
  obtain rfl : t = t9 := by omega
  obtain ⟨v9, hv9, hv8, hid⟩ := (hr2.resolve_left (fun z => by rw [r2] at z; exact absurd z (by decide))).2
  obtain ⟨u1, hw1, hu1⟩ := hid (6 + t) (by rw [h2, qcl (by omega)]; omega)
  obtain ⟨u2, hw2, hu2⟩ := hid (6 + t + 1) (by rw [h2, qcl (by omega)]; omega)
  simp only [← Nat.add_assoc] at hu1 hu2
  have ecq : cq2 (lnR E k f i) (14 * d + 6 + t) (14 * d + 6 + t + 1) = cq2 S (14 * d + 6 + t) (14 * d + 6 + t + 1) := by
    have q108 : ∀ j, mI (lnR E k f i) 108 j = mI S 108 j := fun j => hB.1 108 j (by omega) (by omega)
    have q124 : ∀ j, mI E 124 j = mI S 124 j := fun j => n7.2.2.2.1 124 j (by omega) (by omega)
    unfold cq2 cst2
    simp only [q108, q124, lnR_124]
  have hVV := V_ok (rkV_k (nI 42) (mI (lnR E k f i) 105 (14 * d + 6 + t)) (mI (lnR E k f i) 106 (14 * d + 6 + t)) (mD (lnR E k f i) 107 (14 * d + 6 + t)) (mI (lnR E k f i) 105 (14 * d + 6 + t + 1)) (mI (lnR E k f i) 106 (14 * d + 6 + t + 1)) (mD (lnR E k f i) 107 (14 * d + 6 + t + 1)))
  obtain ⟨N2, F2, s1, s2, s3, s4, s5, s6⟩ := sl_mul_1 ho hR2 hW2 f2 hf1 i2 hi1 e2 he1 c2 gc2 h2 (by omega) b3 b4 r2 hv8 (by omega) hu1 hu2 (by omega) (by omega)
  obtain rfl := ex_inj s2 x1
  have hF := cf_mul hR2 hW2 f2 hf1 i2 hi1 e2 gc2 h2 (by omega) b3 b4 s1
  refine rs_nw n1 n2 n3 n4 n5 n6 n7 hy2 (bk := False) (by rw [pBF0]; exact s1) s2 s5 s6 (st_of ho s3 s4) (Nat.le_refl _) (Nat.le_refl _) P1 r2 (by omega) (by omega) (by omega) hh (by omega) (by omega) hW hL hb hF xi_5_42 (by omega) ?_ (fun y => y.elim)
  rw [ecq]; exact kbv_m _ hVV.1 hVV.2.1 hVV.2.2
theorem rs_div {M S : Mem} {d ns ob nc nf f i e n h a v fc g k b : Nat} {φ : Nat → Nat} (hR : RC M S 18 d ns) (hW : WW S d ob ns nc nf) (hr : WR S d) (hr1 : mI S 69 71 = nI 1) (hf : mI S 109 d = nI f) (hf1 : f < 8) (hi : mI S 110 d = nI i) (hi1 : i < 40) (he : mI S 69 57 = nI e) (he1 : e < 1000) (hl : mI S 71 f = nI n) (hn : i < n) (hn1 : n ≤ 40) (hh : mI S 111 d = nI h) (h8 : h ≤ 8) (ha : mI S 73 (40 * f + i) = nI a) (hc : mI S 72 (40 * f + i) = nI 47) (gc : mI M 18 7 = nI 47) (ga : mI M 18 8 = nI a) (hX : RECX M S v fc φ g k) (hL : RFP M S b d φ v) (hb : b ≤ d) (hk : k < 30) (hg : g ≤ 4 * k) (hv : v ≤ 168 + 6 * k) (hfc : fc ≤ 168 + 6 * k) (hy : d_X12_why S = some (nI 0, S)) : RSC M S 47 d b f i k g v fc ns ob nc nf (nI a) (False) := by
  have ho : isO 18 := .inl rfl
  obtain ⟨t, rfl, b1, b2, hz9, -⟩ := fx_div hW hf hf1 hi hi1 he hl hn hn1 hh h8 ha hc hr hy
  have eT : 14 * d + 6 + (t + 2) - 2 = 14 * d + 6 + t := by omega
  have eU : 14 * d + 6 + (t + 2) - 1 = 14 * d + 6 + t + 1 := by omega
  obtain ⟨N, E, gg, n1, n2, n3, n4, n5, n6, n7⟩ := na_47 hR hW hf hf1 hi hi1 hh h8 hX hL hb hk hg (by omega) (by omega) gc (by omega) (by rw [eT, eU]; exact hz9) rfl
  have hB := n7.sb (f := f) (i := i)
  have hR2 := rc_fr hR n6.nb hB
  have hW2 := ww_fr hW hB
  have hr2 := wr_fr hr hB
  have r2 := (hB.1 69 71 (by omega) (by omega)).trans hr1
  have f2 := (hB.1 109 d (by omega) (by omega)).trans hf
  have i2 := (hB.1 110 d (by omega) (by omega)).trans hi
  have e2 := (hB.1 69 57 (by omega) (by omega)).trans he
  have l2 := (hB.1 71 f (by omega) (by omega)).trans hl
  have h2 := (hB.1 111 d (by omega) (by omega)).trans hh
  have a2 := (hB.1 73 (40 * f + i) (by omega) (by omega)).trans ha
  have c2 := (hB.1 72 (40 * f + i) (by omega) (by omega)).trans hc
  have gc2 := (n6.nb.1 18 7 (by omega)).trans gc
  have ga2 := (n6.nb.1 18 8 (by omega)).trans ga
  have hy2 := we_div hW hB hf hf1 hi hi1 hl hn hn1 hh h8 ha hc hy
  rw [eT, eU] at n5
  obtain ⟨t9, et9, b3, b4, hz8, F, x1, P1, O1⟩ := fx_div hW2 f2 hf1 i2 hi1 e2 l2 hn hn1 h2 h8 a2 c2 hr2 hy2
  obtain rfl : t = t9 := by omega
  obtain ⟨v9, hv9, hv8, hid⟩ := (hr2.resolve_left (fun z => by rw [r2] at z; exact absurd z (by decide))).2
  obtain ⟨u1, hw1, hu1⟩ := hid (6 + t) (by rw [h2, qcl (by omega)]; omega)
  obtain ⟨u2, hw2, hu2⟩ := hid (6 + t + 1) (by rw [h2, qcl (by omega)]; omega)
  simp only [← Nat.add_assoc] at hu1 hu2
  have ecq : cq2 (lnR E k f i) (14 * d + 6 + t) (14 * d + 6 + t + 1) = cq2 S (14 * d + 6 + t) (14 * d + 6 + t + 1) := by
    have q108 : ∀ j, mI (lnR E k f i) 108 j = mI S 108 j := fun j => hB.1 108 j (by omega) (by omega)
    have q124 : ∀ j, mI E 124 j = mI S 124 j := fun j => n7.2.2.2.1 124 j (by omega) (by omega)
    unfold cq2 cst2
    simp only [q108, q124, lnR_124]
  have hVV := V_ok (rkV_k (nI 47) (mI (lnR E k f i) 105 (14 * d + 6 + t)) (mI (lnR E k f i) 106 (14 * d + 6 + t)) (mD (lnR E k f i) 107 (14 * d + 6 + t)) (mI (lnR E k f i) 105 (14 * d + 6 + t + 1)) (mI (lnR E k f i) 106 (14 * d + 6 + t + 1)) (mD (lnR E k f i) 107 (14 * d + 6 + t + 1)))
  obtain ⟨N2, F2, s1, s2, s3, s4, s5, s6⟩ := sl_div_1 ho hR2 hW2 f2 hf1 i2 hi1 e2 he1 c2 gc2 h2 (by omega) b3 b4 hz8 r2 hv8 (by omega) hu1 hu2 (by omega) (by omega)
  obtain rfl := ex_inj s2 x1
  have hF := cf_div hR2 hW2 f2 hf1 i2 hi1 e2 gc2 h2 (by omega) b3 b4 hz8 s1
  refine rs_nw n1 n2 n3 n4 n5 n6 n7 hy2 (bk := False) (by rw [pBF0]; exact s1) s2 s5 s6 (st_of ho s3 s4) (Nat.le_refl _) (Nat.le_refl _) P1 r2 (by omega) (by omega) (by omega) hh (by omega) (by omega) hW hL hb hF xi_5_47 (by omega) ?_ (fun y => y.elim)
  rw [ecq]; exact kbv_m _ hVV.1 hVV.2.1 hVV.2.2
theorem rs_rem {M S : Mem} {d ns ob nc nf f i e n h a v fc g k b : Nat} {φ : Nat → Nat} (hR : RC M S 18 d ns) (hW : WW S d ob ns nc nf) (hr : WR S d) (hr1 : mI S 69 71 = nI 1) (hf : mI S 109 d = nI f) (hf1 : f < 8) (hi : mI S 110 d = nI i) (hi1 : i < 40) (he : mI S 69 57 = nI e) (he1 : e < 1000) (hl : mI S 71 f = nI n) (hn : i < n) (hn1 : n ≤ 40) (hh : mI S 111 d = nI h) (h8 : h ≤ 8) (ha : mI S 73 (40 * f + i) = nI a) (hc : mI S 72 (40 * f + i) = nI 37) (gc : mI M 18 7 = nI 37) (ga : mI M 18 8 = nI a) (hX : RECX M S v fc φ g k) (hL : RFP M S b d φ v) (hb : b ≤ d) (hk : k < 30) (hg : g ≤ 4 * k) (hv : v ≤ 168 + 6 * k) (hfc : fc ≤ 168 + 6 * k) (hy : d_X12_why S = some (nI 0, S)) : RSC M S 37 d b f i k g v fc ns ob nc nf (nI a) (False) := by
  have ho : isO 18 := .inl rfl
  obtain ⟨t, rfl, b1, b2, hz9, -⟩ := fx_rem hW hf hf1 hi hi1 he hl hn hn1 hh h8 ha hc hr hy
  have eT : 14 * d + 6 + (t + 2) - 2 = 14 * d + 6 + t := by omega
  have eU : 14 * d + 6 + (t + 2) - 1 = 14 * d + 6 + t + 1 := by omega
  obtain ⟨N, E, gg, n1, n2, n3, n4, n5, n6, n7⟩ := na_37 hR hW hf hf1 hi hi1 hh h8 hX hL hb hk hg (by omega) (by omega) gc (by omega) (by rw [eT, eU]; exact hz9) rfl
  have hB := n7.sb (f := f) (i := i)
  have hR2 := rc_fr hR n6.nb hB
  have hW2 := ww_fr hW hB
  have hr2 := wr_fr hr hB
  have r2 := (hB.1 69 71 (by omega) (by omega)).trans hr1
  have f2 := (hB.1 109 d (by omega) (by omega)).trans hf
  have i2 := (hB.1 110 d (by omega) (by omega)).trans hi
  have e2 := (hB.1 69 57 (by omega) (by omega)).trans he
  have l2 := (hB.1 71 f (by omega) (by omega)).trans hl
  have h2 := (hB.1 111 d (by omega) (by omega)).trans hh
  have a2 := (hB.1 73 (40 * f + i) (by omega) (by omega)).trans ha
  have c2 := (hB.1 72 (40 * f + i) (by omega) (by omega)).trans hc
  have gc2 := (n6.nb.1 18 7 (by omega)).trans gc
  have ga2 := (n6.nb.1 18 8 (by omega)).trans ga
  have hy2 := we_rem hW hB hf hf1 hi hi1 hl hn hn1 hh h8 ha hc hy
  rw [eT, eU] at n5
  obtain ⟨t9, et9, b3, b4, hz8, F, x1, P1, O1⟩ := fx_rem hW2 f2 hf1 i2 hi1 e2 l2 hn hn1 h2 h8 a2 c2 hr2 hy2
  obtain rfl : t = t9 := by omega
  obtain ⟨v9, hv9, hv8, hid⟩ := (hr2.resolve_left (fun z => by rw [r2] at z; exact absurd z (by decide))).2
  obtain ⟨u1, hw1, hu1⟩ := hid (6 + t) (by rw [h2, qcl (by omega)]; omega)
  obtain ⟨u2, hw2, hu2⟩ := hid (6 + t + 1) (by rw [h2, qcl (by omega)]; omega)
  simp only [← Nat.add_assoc] at hu1 hu2
  have ecq : cq2 (lnR E k f i) (14 * d + 6 + t) (14 * d + 6 + t + 1) = cq2 S (14 * d + 6 + t) (14 * d + 6 + t + 1) := by
    have q108 : ∀ j, mI (lnR E k f i) 108 j = mI S 108 j := fun j => hB.1 108 j (by omega) (by omega)
    have q124 : ∀ j, mI E 124 j = mI S 124 j := fun j => n7.2.2.2.1 124 j (by omega) (by omega)
    unfold cq2 cst2
    simp only [q108, q124, lnR_124]
  have hVV := V_ok (rkV_k (nI 37) (mI (lnR E k f i) 105 (14 * d + 6 + t)) (mI (lnR E k f i) 106 (14 * d + 6 + t)) (mD (lnR E k f i) 107 (14 * d + 6 + t)) (mI (lnR E k f i) 105 (14 * d + 6 + t + 1)) (mI (lnR E k f i) 106 (14 * d + 6 + t + 1)) (mD (lnR E k f i) 107 (14 * d + 6 + t + 1)))
  obtain ⟨N2, F2, s1, s2, s3, s4, s5, s6⟩ := sl_rem_1 ho hR2 hW2 f2 hf1 i2 hi1 e2 he1 c2 gc2 h2 (by omega) b3 b4 hz8 r2 hv8 (by omega) hu1 hu2 (by omega) (by omega)
  obtain rfl := ex_inj s2 x1
  have hF := cf_rem hR2 hW2 f2 hf1 i2 hi1 e2 gc2 h2 (by omega) b3 b4 hz8 s1
  refine rs_nw n1 n2 n3 n4 n5 n6 n7 hy2 (bk := False) (by rw [pBF0]; exact s1) s2 s5 s6 (st_of ho s3 s4) (Nat.le_refl _) (Nat.le_refl _) P1 r2 (by omega) (by omega) (by omega) hh (by omega) (by omega) hW hL hb hF xi_5_37 (by omega) ?_ (fun y => y.elim)
  rw [ecq]; exact kbv_m _ hVV.1 hVV.2.1 hVV.2.2
theorem rs_lt {M S : Mem} {d ns ob nc nf f i e n h a v fc g k b : Nat} {φ : Nat → Nat} (hR : RC M S 18 d ns) (hW : WW S d ob ns nc nf) (hr : WR S d) (hr1 : mI S 69 71 = nI 1) (hf : mI S 109 d = nI f) (hf1 : f < 8) (hi : mI S 110 d = nI i) (hi1 : i < 40) (he : mI S 69 57 = nI e) (he1 : e < 1000) (hl : mI S 71 f = nI n) (hn : i < n) (hn1 : n ≤ 40) (hh : mI S 111 d = nI h) (h8 : h ≤ 8) (ha : mI S 73 (40 * f + i) = nI a) (hc : mI S 72 (40 * f + i) = nI 60) (gc : mI M 18 7 = nI 60) (ga : mI M 18 8 = nI a) (hX : RECX M S v fc φ g k) (hL : RFP M S b d φ v) (hb : b ≤ d) (hk : k < 30) (hg : g ≤ 4 * k) (hv : v ≤ 168 + 6 * k) (hfc : fc ≤ 168 + 6 * k) (hy : d_X12_why S = some (nI 0, S)) : RSC M S 60 d b f i k g v fc ns ob nc nf (nI a) (False) := by
  have ho : isO 18 := .inl rfl
  obtain ⟨t, rfl, b1, b2, -⟩ := fx_lt hW hf hf1 hi hi1 he hl hn hn1 hh h8 ha hc hr hy
  have eT : 14 * d + 6 + (t + 2) - 2 = 14 * d + 6 + t := by omega
  have eU : 14 * d + 6 + (t + 2) - 1 = 14 * d + 6 + t + 1 := by omega
  obtain ⟨N, E, gg, n1, n2, n3, n4, n5, n6, n7⟩ := na_60 hR hW hf hf1 hi hi1 hh h8 hX hL hb hk hg (by omega) (by omega) gc (by omega) rfl
  have hB := n7.sb (f := f) (i := i)
  have hR2 := rc_fr hR n6.nb hB
  have hW2 := ww_fr hW hB
  have hr2 := wr_fr hr hB
  have r2 := (hB.1 69 71 (by omega) (by omega)).trans hr1
  have f2 := (hB.1 109 d (by omega) (by omega)).trans hf
  have i2 := (hB.1 110 d (by omega) (by omega)).trans hi
  have e2 := (hB.1 69 57 (by omega) (by omega)).trans he
  have l2 := (hB.1 71 f (by omega) (by omega)).trans hl
  have h2 := (hB.1 111 d (by omega) (by omega)).trans hh
  have a2 := (hB.1 73 (40 * f + i) (by omega) (by omega)).trans ha
  have c2 := (hB.1 72 (40 * f + i) (by omega) (by omega)).trans hc
  have gc2 := (n6.nb.1 18 7 (by omega)).trans gc
  have ga2 := (n6.nb.1 18 8 (by omega)).trans ga
  have hy2 := we_lt hW hB hf hf1 hi hi1 hl hn hn1 hh h8 ha hc hy
  rw [eT, eU] at n5
  obtain ⟨t9, et9, b3, b4, F, x1, P1, O1⟩ := fx_lt hW2 f2 hf1 i2 hi1 e2 l2 hn hn1 h2 h8 a2 c2 hr2 hy2
  obtain rfl : t = t9 := by omega
  obtain ⟨v9, hv9, hv8, hid⟩ := (hr2.resolve_left (fun z => by rw [r2] at z; exact absurd z (by decide))).2
  obtain ⟨u1, hw1, hu1⟩ := hid (6 + t) (by rw [h2, qcl (by omega)]; omega)
  obtain ⟨u2, hw2, hu2⟩ := hid (6 + t + 1) (by rw [h2, qcl (by omega)]; omega)
  simp only [← Nat.add_assoc] at hu1 hu2
  have ecq : cq2 (lnR E k f i) (14 * d + 6 + t) (14 * d + 6 + t + 1) = cq2 S (14 * d + 6 + t) (14 * d + 6 + t + 1) := by
    have q108 : ∀ j, mI (lnR E k f i) 108 j = mI S 108 j := fun j => hB.1 108 j (by omega) (by omega)
    have q124 : ∀ j, mI E 124 j = mI S 124 j := fun j => n7.2.2.2.1 124 j (by omega) (by omega)
    unfold cq2 cst2
    simp only [q108, q124, lnR_124]
  have hVV := V_ok (rkV_k (nI 60) (mI (lnR E k f i) 105 (14 * d + 6 + t)) (mI (lnR E k f i) 106 (14 * d + 6 + t)) (mD (lnR E k f i) 107 (14 * d + 6 + t)) (mI (lnR E k f i) 105 (14 * d + 6 + t + 1)) (mI (lnR E k f i) 106 (14 * d + 6 + t + 1)) (mD (lnR E k f i) 107 (14 * d + 6 + t + 1)))
  obtain ⟨N2, F2, s1, s2, s3, s4, s5, s6⟩ := sl_lt_1 ho hR2 hW2 f2 hf1 i2 hi1 e2 he1 c2 gc2 h2 (by omega) b3 b4 r2 hv8 (by omega) hu1 hu2 (by omega) (by omega)
  obtain rfl := ex_inj s2 x1
  have hF := cf_lt hR2 hW2 f2 hf1 i2 hi1 e2 gc2 h2 (by omega) b3 b4 s1
  refine rs_nw n1 n2 n3 n4 n5 n6 n7 hy2 (bk := False) (by rw [pBF0]; exact s1) s2 s5 s6 (st_of ho s3 s4) (Nat.le_refl _) (Nat.le_refl _) P1 r2 (by omega) (by omega) (by omega) hh (by omega) (by omega) hW hL hb hF xi_5_60 (by omega) ?_ (fun y => y.elim)
  rw [ecq]; exact kbv_m _ hVV.1 hVV.2.1 hVV.2.2
theorem rs_eq {M S : Mem} {d ns ob nc nf f i e n h a v fc g k b : Nat} {φ : Nat → Nat} (hR : RC M S 18 d ns) (hW : WW S d ob ns nc nf) (hr : WR S d) (hr1 : mI S 69 71 = nI 1) (hf : mI S 109 d = nI f) (hf1 : f < 8) (hi : mI S 110 d = nI i) (hi1 : i < 40) (he : mI S 69 57 = nI e) (he1 : e < 1000) (hl : mI S 71 f = nI n) (hn : i < n) (hn1 : n ≤ 40) (hh : mI S 111 d = nI h) (h8 : h ≤ 8) (ha : mI S 73 (40 * f + i) = nI a) (hc : mI S 72 (40 * f + i) = nI 61) (gc : mI M 18 7 = nI 61) (ga : mI M 18 8 = nI a) (hX : RECX M S v fc φ g k) (hL : RFP M S b d φ v) (hb : b ≤ d) (hk : k < 30) (hg : g ≤ 4 * k) (hv : v ≤ 168 + 6 * k) (hfc : fc ≤ 168 + 6 * k) (hy : d_X12_why S = some (nI 0, S)) : RSC M S 61 d b f i k g v fc ns ob nc nf (nI a) (False) := by
  have ho : isO 18 := .inl rfl
  obtain ⟨t, rfl, -⟩ := fx_eq hW hf hf1 hi hi1 he hl hn hn1 hh h8 ha hc hr hy
  have eT : 14 * d + 6 + (t + 2) - 2 = 14 * d + 6 + t := by omega
  have eU : 14 * d + 6 + (t + 2) - 1 = 14 * d + 6 + t + 1 := by omega
  obtain ⟨N, E, gg, n1, n2, n3, n4, n5, n6, n7⟩ := na_61 hR hW hf hf1 hi hi1 hh h8 hX hL hb hk hg (by omega) (by omega) gc (by omega) rfl
  have hB := n7.sb (f := f) (i := i)
  have hR2 := rc_fr hR n6.nb hB
  have hW2 := ww_fr hW hB
  have hr2 := wr_fr hr hB
  have r2 := (hB.1 69 71 (by omega) (by omega)).trans hr1
  have f2 := (hB.1 109 d (by omega) (by omega)).trans hf
  have i2 := (hB.1 110 d (by omega) (by omega)).trans hi
  have e2 := (hB.1 69 57 (by omega) (by omega)).trans he
  have l2 := (hB.1 71 f (by omega) (by omega)).trans hl
  have h2 := (hB.1 111 d (by omega) (by omega)).trans hh
  have a2 := (hB.1 73 (40 * f + i) (by omega) (by omega)).trans ha
  have c2 := (hB.1 72 (40 * f + i) (by omega) (by omega)).trans hc
  have gc2 := (n6.nb.1 18 7 (by omega)).trans gc
  have ga2 := (n6.nb.1 18 8 (by omega)).trans ga
  have hy2 := we_eq hW hB hf hf1 hi hi1 hl hn hn1 hh h8 ha hc hy
  rw [eT, eU] at n5
  obtain ⟨t9, et9, F, x1, P1, O1⟩ := fx_eq hW2 f2 hf1 i2 hi1 e2 l2 hn hn1 h2 h8 a2 c2 hr2 hy2
  obtain rfl : t = t9 := by omega
  obtain ⟨v9, hv9, hv8, hid⟩ := (hr2.resolve_left (fun z => by rw [r2] at z; exact absurd z (by decide))).2
  obtain ⟨u1, hw1, hu1⟩ := hid (6 + t) (by rw [h2, qcl (by omega)]; omega)
  obtain ⟨u2, hw2, hu2⟩ := hid (6 + t + 1) (by rw [h2, qcl (by omega)]; omega)
  simp only [← Nat.add_assoc] at hu1 hu2
  have ecq : cq2 (lnR E k f i) (14 * d + 6 + t) (14 * d + 6 + t + 1) = cq2 S (14 * d + 6 + t) (14 * d + 6 + t + 1) := by
    have q108 : ∀ j, mI (lnR E k f i) 108 j = mI S 108 j := fun j => hB.1 108 j (by omega) (by omega)
    have q124 : ∀ j, mI E 124 j = mI S 124 j := fun j => n7.2.2.2.1 124 j (by omega) (by omega)
    unfold cq2 cst2
    simp only [q108, q124, lnR_124]
  have hVV := V_ok (rkV_k (nI 61) (mI (lnR E k f i) 105 (14 * d + 6 + t)) (mI (lnR E k f i) 106 (14 * d + 6 + t)) (mD (lnR E k f i) 107 (14 * d + 6 + t)) (mI (lnR E k f i) 105 (14 * d + 6 + t + 1)) (mI (lnR E k f i) 106 (14 * d + 6 + t + 1)) (mD (lnR E k f i) 107 (14 * d + 6 + t + 1)))
  obtain ⟨N2, F2, s1, s2, s3, s4, s5, s6⟩ := sl_eq_1 ho hR2 hW2 f2 hf1 i2 hi1 e2 he1 c2 gc2 h2 (by omega) r2 hv8 (by omega) hu1 hu2 (by omega) (by omega)
  obtain rfl := ex_inj s2 x1
  have hF := cf_eq hR2 hW2 f2 hf1 i2 hi1 e2 gc2 h2 (by omega) s1
  refine rs_nw n1 n2 n3 n4 n5 n6 n7 hy2 (bk := False) (by rw [pBF0]; exact s1) s2 s5 s6 (st_of ho s3 s4) (Nat.le_refl _) (Nat.le_refl _) P1 r2 (by omega) (by omega) (by omega) hh (by omega) (by omega) hW hL hb hF xi_5_61 (by omega) ?_ (fun y => y.elim)
  rw [ecq]; exact kbv_m _ hVV.1 hVV.2.1 hVV.2.2
theorem rs_n {M S : Mem} {d ns ob nc nf f i e n h a v fc g k b : Nat} {φ : Nat → Nat} (hR : RC M S 18 d ns) (hW : WW S d ob ns nc nf) (hr : WR S d) (hr1 : mI S 69 71 = nI 1) (hf : mI S 109 d = nI f) (hf1 : f < 8) (hi : mI S 110 d = nI i) (hi1 : i < 40) (he : mI S 69 57 = nI e) (he1 : e < 1000) (hl : mI S 71 f = nI n) (hn : i < n) (hn1 : n ≤ 40) (hh : mI S 111 d = nI h) (h8 : h ≤ 8) (ha : mI S 73 (40 * f + i) = nI a) (hc : mI S 72 (40 * f + i) = nI 110) (gc : mI M 18 7 = nI 110) (ga : mI M 18 8 = nI a) (hX : RECX M S v fc φ g k) (hL : RFP M S b d φ v) (hb : b ≤ d) (hk : k < 30) (hg : g ≤ 4 * k) (hv : v ≤ 168 + 6 * k) (hfc : fc ≤ 168 + 6 * k) (hy : d_X12_why S = some (nI 0, S)) (ha1 : a < nc) : RSC M S 110 d b f i k g v fc ns ob nc nf (nI a) (False) := by
  have ho : isO 18 := .inl rfl
  have hnc := hW.2.2.2.2.2.2.1.2.2.2.1.1
  obtain ⟨N, E, gg, n1, n2, n3, n4, n5, n6, n7⟩ := na_110 hR hW hf hf1 hi hi1 hh h8 hX hL hb hk hg (by omega) (by omega) gc 
  have hB := n7.sb (f := f) (i := i)
  have hR2 := rc_fr hR n6.nb hB
  have hW2 := ww_fr hW hB
  have hr2 := wr_fr hr hB
  have r2 := (hB.1 69 71 (by omega) (by omega)).trans hr1
  have f2 := (hB.1 109 d (by omega) (by omega)).trans hf
  have i2 := (hB.1 110 d (by omega) (by omega)).trans hi
  have e2 := (hB.1 69 57 (by omega) (by omega)).trans he
  have l2 := (hB.1 71 f (by omega) (by omega)).trans hl
  have h2 := (hB.1 111 d (by omega) (by omega)).trans hh
  have a2 := (hB.1 73 (40 * f + i) (by omega) (by omega)).trans ha
  have c2 := (hB.1 72 (40 * f + i) (by omega) (by omega)).trans hc
  have gc2 := (n6.nb.1 18 7 (by omega)).trans gc
  have ga2 := (n6.nb.1 18 8 (by omega)).trans ga
  have hy2 := we_n hW hB hf hf1 hi hi1 hl hn hn1 hh h8 ha hc hy
  obtain ⟨ht, ho9, F, x1, P1, O1, O2, O3⟩ := fx_n hW2 f2 hf1 i2 hi1 e2 l2 hn hn1 h2 h8 a2 c2 (by omega) hr2 hy2
  obtain ⟨s, hs1, hs, hs0⟩ := hW2.2.2.2.2.2.1.2.2.2.1 a ha1
  obtain ⟨v9, hv9, hv8, hid⟩ := (hr2.resolve_left (fun z => by rw [r2] at z; exact absurd z (by decide))).2
  obtain ⟨N2, F2, s1, s2, s3, s4, s5, s6⟩ := sl_n_1 ho hR2 hW2 f2 hf1 i2 hi1 e2 he1 c2 gc2 a2 ga2 h2 (by omega) (by omega) hs hs1 hs0 (by omega) r2 hv8 (by omega)
  have hst : ST N (lnR E k f i) N2 F2 18 := by
    refine ST.trans ?_ (st_of ho s3 s4)
    refine ⟨⟨fun a j z => ?_, fun a j z => ⟨rfl, rfl⟩, rfl⟩, ⟨fun a j z => ?_, fun a j z => ⟨rfl, rfl⟩, rfl⟩, ?_, ?_, ?_⟩
    all_goals simp (disch := omega) only [← Nat.add_assoc, Nat.add_sub_cancel, Nat.sub_zero, as21, as31, as32, and_self, and_true, true_and, l_0, l_1, l_2, l_3, l_4, l_5, l_6, l_7, l_8, l_9, l_10, l_11, l_12, l_13, l_14, l_15, l_16, l_17, l_18, l_19, l_20, l_21, l_22, l_23, l_24, l_25, l_26, l_27, l_28, l_29, l_30, l_31, l_32, l_33, l_34, l_35, l_36, l_37, l_38, l_39, l_40, l_41, l_42, l_43, l_44, l_45, l_47, l_48, l_50, l_52, l_60, l_61, l_63, l_80, l_99, l_100, l_101, l_102, l_103, l_105, l_106, l_107, l_108, l_109, l_110, l_111, l_112, l_114, l_115, l_116, l_117, l_118, l_119, l_120, l_122, l_168, l_200, l_320, l_360, l_528, l_548, l_1000, l_1023, l_2000, l_3000, l_1000000, qadd, qmul, qsub, qdiv, qcl, qinT, qchT, qleT, qleF, qltT, qltF, qeqT, qeqF, qneg_ne, bo0, bo1, qneg_ne', qneg_lt, mI_eq, mD_eq, mL_eq, mR_eq, mI_at, mD_at, mL_at, mI_ne, mD_ne, mL_ne, mR_ne, not_false_eq_true, not_true_eq_false, or_true, true_or, or_false, false_or, or_self, false_and, and_false, eq_self, mI_sL, mI_sD, mI_sR, mI_tk, mL_sI, mL_sD, mL_sR, mL_tk, mD_sI, mD_sL, mD_sR, mD_tk, mR_sI, mR_sL, mR_sD, mR_tk, mT_sI, mT_sL, mT_sD, mT_sR, mT_tk, mK_sI, mK_sL, mK_sD, mK_sR, mK_tk, mN_sI, mN_sL, mN_sD, mN_sR, mN_tk, nx_sI, nx_sL, nx_sD, nx_sR, uC_sI, uC_sL, uC_sD, uC_sR, uS_sI, uS_sL, uS_sD, uS_sR, nx_tk, uC_tk, uS_tk]
  obtain rfl := ex_inj s2 x1
  have hF := cf_n hR2 hW2 f2 hf1 i2 hi1 e2 gc2 ga2 h2 (by omega) (by omega) ho9 s1
  refine rs_nw n1 n2 n3 n4 n5 n6 n7 hy2 (bk := False) (by rw [pBF0]; exact s1) s2 s5 s6 hst (Nat.le_refl _) (by omega) P1 r2 (by omega) (by omega) (by omega) hh (by omega) (by omega) hW hL hb hF xi_5_110 (by omega) ?_ (fun y => y.elim)
  rw [hs]; exact kbv_n s (by have := hW2.2.2.2.2.2.1.2.1; omega)
theorem rs_g {M S : Mem} {d ns ob nc nf f i e n h a v fc g k b : Nat} {φ : Nat → Nat} (hR : RC M S 18 d ns) (hW : WW S d ob ns nc nf) (hr : WR S d) (hr1 : mI S 69 71 = nI 1) (hf : mI S 109 d = nI f) (hf1 : f < 8) (hi : mI S 110 d = nI i) (hi1 : i < 40) (he : mI S 69 57 = nI e) (he1 : e < 1000) (hl : mI S 71 f = nI n) (hn : i < n) (hn1 : n ≤ 40) (hh : mI S 111 d = nI h) (h8 : h ≤ 8) (ha : mI S 73 (40 * f + i) = nI a) (hc : mI S 72 (40 * f + i) = nI 103) (gc : mI M 18 7 = nI 103) (ga : mI M 18 8 = nI a) (hX : RECX M S v fc φ g k) (hL : RFP M S b d φ v) (hb : b ≤ d) (hk : k < 30) (hg : g ≤ 4 * k) (hv : v ≤ 168 + 6 * k) (hfc : fc ≤ 168 + 6 * k) (hy : d_X12_why S = some (nI 0, S)) (ha1 : a < 6) : RSC M S 103 d b f i k g v fc ns ob nc nf (nI a) (False) := by
  have ho : isO 18 := .inl rfl
  obtain ⟨t, q0, s, cl, rfl, hO, hFs, -⟩ := fx_g hW hf hf1 hi hi1 he hl hn hn1 hh h8 ha hc ha1 hr hy
  have eT : 14 * d + 6 + (t + 1) - 1 = 14 * d + 6 + t := by omega
  obtain ⟨N, E, gg, n1, n2, n3, n4, n5, n6, n7⟩ := na_103 hR hW hf hf1 hi hi1 hh h8 hX hL hb hk hg (by omega) (by omega) gc (by omega) (by rw [eT]; exact hO)
  have hB := n7.sb (f := f) (i := i)
  have hR2 := rc_fr hR n6.nb hB
  have hW2 := ww_fr hW hB
  have hr2 := wr_fr hr hB
  have r2 := (hB.1 69 71 (by omega) (by omega)).trans hr1
  have f2 := (hB.1 109 d (by omega) (by omega)).trans hf
  have i2 := (hB.1 110 d (by omega) (by omega)).trans hi
  have e2 := (hB.1 69 57 (by omega) (by omega)).trans he
  have l2 := (hB.1 71 f (by omega) (by omega)).trans hl
  have h2 := (hB.1 111 d (by omega) (by omega)).trans hh
  have a2 := (hB.1 73 (40 * f + i) (by omega) (by omega)).trans ha
  have c2 := (hB.1 72 (40 * f + i) (by omega) (by omega)).trans hc
  have gc2 := (n6.nb.1 18 7 (by omega)).trans gc
  have ga2 := (n6.nb.1 18 8 (by omega)).trans ga
  have hy2 := we_g hW hB hf hf1 hi hi1 hl hn hn1 hh h8 ha hc ha1 hy
  obtain ⟨t9, q9, s9, cl9, et9, hO9, hF9, F, x1, P1, O1⟩ := fx_g hW2 f2 hf1 i2 hi1 e2 l2 hn hn1 h2 h8 a2 c2 ha1 hr2 hy2
  obtain rfl : t = t9 := by omega
  obtain ⟨v9, hv9, hv8, hid⟩ := (hr2.resolve_left (fun z => by rw [r2] at z; exact absurd z (by decide))).2
  obtain ⟨o1, o2, o3, o4, o5, o6, o7⟩ := id hO9
  have hns2 := hW2.2.2.2.2.2.1.2.1
  have hF2 : hasF (lnR E k f i) (mI (lnR E k f i) 112 q9).toNatClampNeg a := by rw [o4, qcl (by omega)]; exact hF9
  obtain ⟨N2, F2, s1, s2, s3, s4, s5, s6⟩ := sl_g_1 ho hR2 hW2 f2 hf1 i2 hi1 e2 he1 c2 gc2 a2 ga2 h2 (by omega) ha1 o1 o2 o3 hF2 r2 hv8 (by omega)
  obtain rfl := ex_inj s2 x1
  have hF := cf_g hR2 hW2 f2 hf1 i2 hi1 e2 gc2 ga2 h2 (by omega) ha1 hO9 hF9 s1
  refine rs_nw n1 n2 n3 n4 n5 n6 n7 hy2 (bk := False) (by rw [pBF0]; exact s1) s2 s5 s6 (st_of ho s3 s4) (Nat.le_refl _) (Nat.le_refl _) P1 r2 (by omega) (by omega) (by omega) hh (by omega) (by omega) hW hL hb hF xi_5_103 (by omega) ?_ (fun y => y.elim)
  exact kbv_g
end MH6
