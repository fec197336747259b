/-! ===== a recorded step of both, by letter ===== -/
section MH5
theorem lnR_124 (E : Mem) (k f i u : Nat) : mI (lnR E k f i) 124 u = mI E 124 u := by unfold lnR; rw [mI_ne (by omega), mI_ne (by omega)]
theorem nz_1 (k n : Int32) (x : UInt64) : ¬ nz (nI 1) k n x = nI 0 := by
  unfold nz
  rw [if_neg (by decide)]
  split <;> decide
theorem nz_ne {c k n : Int32} {x : UInt64} (h : ¬ c = nI 0) : ¬ nz c k n x = nI 0 := by
  unfold nz
  rw [if_neg h]
  split <;> decide
theorem kbv_c {k n : Int32} (x : UInt64) (h1 : ¬ k = nI 0) (h2 : k = nI 105) : kbv k (nI 1) (-nI 1) (nz (nI 1) k n x) = nI 7 := by
  unfold kbv
  rw [decide_eq_true h1, decide_eq_true (show ¬ nz (nI 1) k n x = nI 0 ∨ k = nI 111 ∨ k = nI 110 from .inl (nz_1 _ _ _)), decide_eq_true (show ¬ nI 1 = nI 0 by decide), decide_eq_false (show ¬ ¬ -nI 1 = -nI 1 from fun y => y rfl)]
  rfl
theorem kbv_m {c k n : Int32} (x : UInt64) (h1 : ¬ k = nI 0) (h2 : ¬ k = nI 111) (h3 : ¬ k = nI 110) : kbv k c (-nI 1) (nz c k n x) = (if c = nI 0 then nI 1 else nI 7) := by
  unfold kbv
  rw [decide_eq_true h1, decide_eq_false (show ¬ ¬ -nI 1 = -nI 1 from fun y => y rfl)]
  by_cases z : c = nI 0
  · have e : nz c k n x = nI 0 := by unfold nz; rw [if_pos z]
    rw [if_pos z, decide_eq_false (show ¬ ¬ c = nI 0 from fun y => y z), decide_eq_false (show ¬ (¬ nz c k n x = nI 0 ∨ k = nI 111 ∨ k = nI 110) from fun y => y.elim (fun q => q e) (fun q => q.elim h2 h3))]
    rfl
  · rw [if_neg z, decide_eq_true z, decide_eq_true (show ¬ nz c k n x = nI 0 ∨ k = nI 111 ∨ k = nI 110 from .inl (nz_ne z))]
    rfl
theorem rs_l {M S : Mem} {d ns ob nc nf f i e n h a v fc g k b : Nat} {φ : Nat → Nat} (hR : RC M S 18 d ns) (hW : WW S d ob ns nc nf) (hr : WR S d) (hr1 : mI S 69 71 = nI 1) (hf : mI S 109 d = nI f) (hf1 : f < 8) (hi : mI S 110 d = nI i) (hi1 : i < 40) (he : mI S 69 57 = nI e) (he1 : e < 1000) (hl : mI S 71 f = nI n) (hn : i < n) (hn1 : n ≤ 40) (hh : mI S 111 d = nI h) (h8 : h ≤ 8) (ha : mI S 73 (40 * f + i) = nI a) (hc : mI S 72 (40 * f + i) = nI 108) (gc : mI M 18 7 = nI 108) (ga : mI M 18 8 = nI a) (hX : RECX M S v fc φ g k) (hL : RFP M S b d φ v) (hb : b ≤ d) (hk : k < 30) (hg : g ≤ 4 * k) (hv : v ≤ 168 + 6 * k) (hfc : fc ≤ 168 + 6 * k) (hy : d_X12_why S = some (nI 0, S)) (ha1 : a < 6) : RSC M S 108 d b f i k g v fc ns ob nc nf (nI a) (False) := by
  have ho : isO 18 := .inl rfl
  obtain ⟨N, E, gg, n1, n2, n3, n4, n5, n6, n7⟩ := na_108 hR hW hf hf1 hi hi1 hh h8 hX hL hb hk hg (by omega) (by omega) gc 
  have hB := n7.sb (f := f) (i := i)
  have hR2 := rc_fr hR n6.nb hB
  have hW2 := ww_fr hW hB
  have hr2 := wr_fr hr hB
  have r2 := (hB.1 69 71 (by omega) (by omega)).trans hr1
  have f2 := (hB.1 109 d (by omega) (by omega)).trans hf
  have i2 := (hB.1 110 d (by omega) (by omega)).trans hi
  have e2 := (hB.1 69 57 (by omega) (by omega)).trans he
  have l2 := (hB.1 71 f (by omega) (by omega)).trans hl
  have h2 := (hB.1 111 d (by omega) (by omega)).trans hh
  have a2 := (hB.1 73 (40 * f + i) (by omega) (by omega)).trans ha
  have c2 := (hB.1 72 (40 * f + i) (by omega) (by omega)).trans hc
  have gc2 := (n6.nb.1 18 7 (by omega)).trans gc
  have ga2 := (n6.nb.1 18 8 (by omega)).trans ga
  have hy2 := we_l hW hB hf hf1 hi hi1 hl hn hn1 hh h8 ha hc hy
  obtain ⟨ht, F, x1, P1⟩ := fx_l hW2 f2 hf1 i2 hi1 e2 l2 hn hn1 h2 h8 a2 c2 ha1 hy2
  obtain ⟨N2, F2, s1, s2, s3, s4, s5, s6⟩ := sl_l ho hR2 hW2 f2 hf1 i2 hi1 e2 he1 c2 gc2 a2 ga2 h2 (by omega) ha1
  obtain rfl := ex_inj s2 x1
  have hst := st_of ho s3 s4
  have hF := cf_l hR2 hW2 f2 hf1 i2 hi1 e2 gc2 ga2 h2 (by omega) ha1 s1
  have hL2 := rfp_fr hL n6.nb hB
  refine rs_ke n1 n2 n3 n4 n6 n7 hy2 (bk := False) (by rw [pBF0]; exact s1) s2 s5 s6 hst (Nat.le_refl _) (Nat.le_refl _) P1.2.2.1 ?_ hb (nb_no (c := 108) xi_5_108 (by decide) (by decide)) (fun y => y.elim)
  refine rfp_one hL2 P1.1 (by omega) h2 (by omega) hW.1.2.1 (ww_H hW2) (Nat.le_refl _) (fun _ _ => rfl) hF.2 (fun j j1 j2 => by omega) (fun hq => ?_)
  obtain ⟨u, u1, u2, u3⟩ := hL2 d hb (Nat.le_refl _) (a) (by rw [hN_e (S := S) h2 (by omega)]; omega)
  try simp only [← Nat.add_assoc] at u2 u3
  exact ⟨u, u1, P1.2.1.2.2.2.trans u2, hF.1.trans u3⟩
theorem rs_s {M S : Mem} {d ns ob nc nf f i e n h a v fc g k b : Nat} {φ : Nat → Nat} (hR : RC M S 18 d ns) (hW : WW S d ob ns nc nf) (hr : WR S d) (hr1 : mI S 69 71 = nI 1) (hf : mI S 109 d = nI f) (hf1 : f < 8) (hi : mI S 110 d = nI i) (hi1 : i < 40) (he : mI S 69 57 = nI e) (he1 : e < 1000) (hl : mI S 71 f = nI n) (hn : i < n) (hn1 : n ≤ 40) (hh : mI S 111 d = nI h) (h8 : h ≤ 8) (ha : mI S 73 (40 * f + i) = nI a) (hc : mI S 72 (40 * f + i) = nI 115) (gc : mI M 18 7 = nI 115) (ga : mI M 18 8 = nI a) (hX : RECX M S v fc φ g k) (hL : RFP M S b d φ v) (hb : b ≤ d) (hk : k < 30) (hg : g ≤ 4 * k) (hv : v ≤ 168 + 6 * k) (hfc : fc ≤ 168 + 6 * k) (hy : d_X12_why S = some (nI 0, S)) (ha1 : a < 6) : RSC M S 115 d b f i k g v fc ns ob nc nf (nI a) (False) := by
  have ho : isO 18 := .inl rfl
  obtain ⟨N, E, gg, n1, n2, n3, n4, n5, n6, n7⟩ := na_115 hR hW hf hf1 hi hi1 hh h8 hX hL hb hk hg (by omega) (by omega) gc 
  have hB := n7.sb (f := f) (i := i)
  have hR2 := rc_fr hR n6.nb hB
  have hW2 := ww_fr hW hB
  have hr2 := wr_fr hr hB
  have r2 := (hB.1 69 71 (by omega) (by omega)).trans hr1
  have f2 := (hB.1 109 d (by omega) (by omega)).trans hf
  have i2 := (hB.1 110 d (by omega) (by omega)).trans hi
  have e2 := (hB.1 69 57 (by omega) (by omega)).trans he
  have l2 := (hB.1 71 f (by omega) (by omega)).trans hl
  have h2 := (hB.1 111 d (by omega) (by omega)).trans hh
  have a2 := (hB.1 73 (40 * f + i) (by omega) (by omega)).trans ha
  have c2 := (hB.1 72 (40 * f + i) (by omega) (by omega)).trans hc
  have gc2 := (n6.nb.1 18 7 (by omega)).trans gc
  have ga2 := (n6.nb.1 18 8 (by omega)).trans ga
  have hy2 := we_s hW hB hf hf1 hi hi1 hl hn hn1 hh h8 ha hc hy
  obtain ⟨t, rfl, F, x1, P1⟩ := fx_s hW2 f2 hf1 i2 hi1 e2 l2 hn hn1 h2 h8 a2 c2 ha1 hy2
  obtain ⟨N2, F2, s1, s2, s3, s4, s5, s6⟩ := sl_s ho hR2 hW2 f2 hf1 i2 hi1 e2 he1 c2 gc2 a2 ga2 h2 (by omega) ha1
  obtain rfl := ex_inj s2 x1
  have hst := st_of ho s3 s4
  have hF := cf_s hR2 hW2 f2 hf1 i2 hi1 e2 gc2 ga2 h2 (by omega) ha1 s1
  have hL2 := rfp_fr hL n6.nb hB
  refine rs_ke n1 n2 n3 n4 n6 n7 hy2 (bk := False) (by rw [pBF0]; exact s1) s2 s5 s6 hst (Nat.le_refl _) (Nat.le_refl _) P1.2.2.1 ?_ hb (nb_no (c := 115) xi_5_115 (by decide) (by decide)) (fun y => y.elim)
  refine rfp_one hL2 P1.1 (by omega) h2 (by omega) hW.1.2.1 (ww_H hW2) (Nat.le_refl _) (fun _ _ => rfl) hF.2 (fun j j1 j2 => by omega) (fun hq => ?_)
  obtain ⟨u, u1, u2, u3⟩ := hL2 d hb (Nat.le_refl _) (6 + t) (by rw [hN_e (S := S) h2 (by omega)]; omega)
  try simp only [← Nat.add_assoc] at u2 u3
  exact ⟨u, u1, P1.2.1.2.2.2.trans u2, hF.1.trans u3⟩
theorem rs_u {M S : Mem} {d ns ob nc nf f i e n h a v fc g k b : Nat} {φ : Nat → Nat} (hR : RC M S 18 d ns) (hW : WW S d ob ns nc nf) (hr : WR S d) (hr1 : mI S 69 71 = nI 1) (hf : mI S 109 d = nI f) (hf1 : f < 8) (hi : mI S 110 d = nI i) (hi1 : i < 40) (he : mI S 69 57 = nI e) (he1 : e < 1000) (hl : mI S 71 f = nI n) (hn : i < n) (hn1 : n ≤ 40) (hh : mI S 111 d = nI h) (h8 : h ≤ 8) (ha : mI S 73 (40 * f + i) = nI a) (hc : mI S 72 (40 * f + i) = nI 117) (gc : mI M 18 7 = nI 117) (ga : mI M 18 8 = nI a) (hX : RECX M S v fc φ g k) (hL : RFP M S b d φ v) (hb : b ≤ d) (hk : k < 30) (hg : g ≤ 4 * k) (hv : v ≤ 168 + 6 * k) (hfc : fc ≤ 168 + 6 * k) (hy : d_X12_why S = some (nI 0, S)) : RSC M S 117 d b f i k g v fc ns ob nc nf (nI a) (False) := by
  have ho : isO 18 := .inl rfl
  obtain ⟨N, E, gg, n1, n2, n3, n4, n5, n6, n7⟩ := na_117 hR hW hf hf1 hi hi1 hh h8 hX hL hb hk hg (by omega) (by omega) gc 
  have hB := n7.sb (f := f) (i := i)
  have hR2 := rc_fr hR n6.nb hB
  have hW2 := ww_fr hW hB
  have hr2 := wr_fr hr hB
  have r2 := (hB.1 69 71 (by omega) (by omega)).trans hr1
  have f2 := (hB.1 109 d (by omega) (by omega)).trans hf
  have i2 := (hB.1 110 d (by omega) (by omega)).trans hi
  have e2 := (hB.1 69 57 (by omega) (by omega)).trans he
  have l2 := (hB.1 71 f (by omega) (by omega)).trans hl
  have h2 := (hB.1 111 d (by omega) (by omega)).trans hh
  have a2 := (hB.1 73 (40 * f + i) (by omega) (by omega)).trans ha
  have c2 := (hB.1 72 (40 * f + i) (by omega) (by omega)).trans hc
  have gc2 := (n6.nb.1 18 7 (by omega)).trans gc
  have ga2 := (n6.nb.1 18 8 (by omega)).trans ga
  have hy2 := we_u hW hB hf hf1 hi hi1 hl hn hn1 hh h8 ha hc hy
  obtain ⟨t, rfl, ht, F, x1, P1⟩ := fx_u hW2 f2 hf1 i2 hi1 e2 l2 hn hn1 h2 h8 a2 c2 hy2
  obtain ⟨N2, F2, s1, s2, s3, s4, s5, s6⟩ := sl_u ho hR2 hW2 f2 hf1 i2 hi1 e2 he1 c2 gc2 a2 h2 (by omega)
  obtain rfl := ex_inj s2 x1
  have hst := st_of ho s3 s4
  have hF := cf_u hR2 hW2 f2 hf1 i2 hi1 e2 gc2 h2 (by omega) s1
  have hL2 := rfp_fr hL n6.nb hB
  refine rs_ke n1 n2 n3 n4 n6 n7 hy2 (bk := False) (by rw [pBF0]; exact s1) s2 s5 s6 hst (Nat.le_refl _) (Nat.le_refl _) P1.2.2.1 ?_ hb (nb_no (c := 117) xi_5_117 (by decide) (by decide)) (fun y => y.elim)
  refine rfp_one hL2 P1.1 (by omega) h2 (by omega) hW.1.2.1 (ww_H hW2) (Nat.le_refl _) (fun _ _ => rfl) hF.2 (fun j j1 j2 => by omega) (fun hq => ?_)
  obtain ⟨u, u1, u2, u3⟩ := hL2 d hb (Nat.le_refl _) (6 + t) (by rw [hN_e (S := S) h2 (by omega)]; omega)
  try simp only [← Nat.add_assoc] at u2 u3
  exact ⟨u, u1, P1.2.1.2.2.2.trans u2, hF.1.trans u3⟩
theorem rs_d {M S : Mem} {d ns ob nc nf f i e n h a v fc g k b : Nat} {φ : Nat → Nat} (hR : RC M S 18 d ns) (hW : WW S d ob ns nc nf) (hr : WR S d) (hr1 : mI S 69 71 = nI 1) (hf : mI S 109 d = nI f) (hf1 : f < 8) (hi : mI S 110 d = nI i) (hi1 : i < 40) (he : mI S 69 57 = nI e) (he1 : e < 1000) (hl : mI S 71 f = nI n) (hn : i < n) (hn1 : n ≤ 40) (hh : mI S 111 d = nI h) (h8 : h ≤ 8) (ha : mI S 73 (40 * f + i) = nI a) (hc : mI S 72 (40 * f + i) = nI 100) (gc : mI M 18 7 = nI 100) (ga : mI M 18 8 = nI a) (hX : RECX M S v fc φ g k) (hL : RFP M S b d φ v) (hb : b ≤ d) (hk : k < 30) (hg : g ≤ 4 * k) (hv : v ≤ 168 + 6 * k) (hfc : fc ≤ 168 + 6 * k) (hy : d_X12_why S = some (nI 0, S)) : RSC M S 100 d b f i k g v fc ns ob nc nf (nI a) (False) := by
  have ho : isO 18 := .inl rfl
  obtain ⟨N, E, gg, n1, n2, n3, n4, n5, n6, n7⟩ := na_100 hR hW hf hf1 hi hi1 hh h8 hX hL hb hk hg (by omega) (by omega) gc 
  have hB := n7.sb (f := f) (i := i)
  have hR2 := rc_fr hR n6.nb hB
  have hW2 := ww_fr hW hB
  have hr2 := wr_fr hr hB
  have r2 := (hB.1 69 71 (by omega) (by omega)).trans hr1
  have f2 := (hB.1 109 d (by omega) (by omega)).trans hf
  have i2 := (hB.1 110 d (by omega) (by omega)).trans hi
  have e2 := (hB.1 69 57 (by omega) (by omega)).trans he
  have l2 := (hB.1 71 f (by omega) (by omega)).trans hl
  have h2 := (hB.1 111 d (by omega) (by omega)).trans hh
  have a2 := (hB.1 73 (40 * f + i) (by omega) (by omega)).trans ha
  have c2 := (hB.1 72 (40 * f + i) (by omega) (by omega)).trans hc
  have gc2 := (n6.nb.1 18 7 (by omega)).trans gc
  have ga2 := (n6.nb.1 18 8 (by omega)).trans ga
  have hy2 := we_d hW hB hf hf1 hi hi1 hl hn hn1 hh h8 ha hc hy
  obtain ⟨t, rfl, F, x1, P1⟩ := fx_d hW2 f2 hf1 i2 hi1 e2 l2 hn hn1 h2 h8 a2 c2 hy2
  obtain ⟨N2, F2, s1, s2, s3, s4, s5, s6⟩ := sl_d ho hR2 hW2 f2 hf1 i2 hi1 e2 he1 c2 gc2 a2 h2 (by omega)
  obtain rfl := ex_inj s2 x1
  have hst := st_of ho s3 s4
  have hF := cf_d hR2 hW2 f2 hf1 i2 hi1 e2 gc2 h2 (by omega) s1
  have hL2 := rfp_fr hL n6.nb hB
  refine rs_ke n1 n2 n3 n4 n6 n7 hy2 (bk := False) (by rw [pBF0]; exact s1) s2 s5 s6 hst (Nat.le_refl _) (Nat.le_refl _) P1.2.1 ?_ hb (nb_no (c := 100) xi_5_100 (by decide) (by decide)) (fun y => y.elim)
  exact rfp_one hL2 P1.1 (by omega) h2 (by omega) hW.1.2.1 (ww_H hW2) (Nat.le_refl _) (fun _ _ => rfl) hF (fun j j1 j2 => by omega) (fun hq => absurd hq (by omega))
theorem rs_j {M S : Mem} {d ns ob nc nf f i e n h a v fc g k b : Nat} {φ : Nat → Nat} (hR : RC M S 18 d ns) (hW : WW S d ob ns nc nf) (hr : WR S d) (hr1 : mI S 69 71 = nI 1) (hf : mI S 109 d = nI f) (hf1 : f < 8) (hi : mI S 110 d = nI i) (hi1 : i < 40) (he : mI S 69 57 = nI e) (he1 : e < 1000) (hl : mI S 71 f = nI n) (hn : i < n) (hn1 : n ≤ 40) (hh : mI S 111 d = nI h) (h8 : h ≤ 8) (ha : mI S 73 (40 * f + i) = nI a) (hc : mI S 72 (40 * f + i) = nI 106) (gc : mI M 18 7 = nI 106) (ga : mI M 18 8 = nI a) (hX : RECX M S v fc φ g k) (hL : RFP M S b d φ v) (hb : b ≤ d) (hk : k < 30) (hg : g ≤ 4 * k) (hv : v ≤ 168 + 6 * k) (hfc : fc ≤ 168 + 6 * k) (hy : d_X12_why S = some (nI 0, S)) (ha1 : a < 40) : RSC M S 106 d b f i k g v fc ns ob nc nf (nI a) (a ≤ i) := by
  have ho : isO 18 := .inl rfl
  obtain ⟨N, E, gg, n1, n2, n3, n4, n5, n6, n7⟩ := na_106 hR hW hf hf1 hi hi1 hh h8 hX hL hb hk hg (by omega) (by omega) gc 
  have hB := n7.sb (f := f) (i := i)
  have hR2 := rc_fr hR n6.nb hB
  have hW2 := ww_fr hW hB
  have hr2 := wr_fr hr hB
  have r2 := (hB.1 69 71 (by omega) (by omega)).trans hr1
  have f2 := (hB.1 109 d (by omega) (by omega)).trans hf
  have i2 := (hB.1 110 d (by omega) (by omega)).trans hi
  have e2 := (hB.1 69 57 (by omega) (by omega)).trans he
  have l2 := (hB.1 71 f (by omega) (by omega)).trans hl
  have h2 := (hB.1 111 d (by omega) (by omega)).trans hh
  have a2 := (hB.1 73 (40 * f + i) (by omega) (by omega)).trans ha
  have c2 := (hB.1 72 (40 * f + i) (by omega) (by omega)).trans hc
  have gc2 := (n6.nb.1 18 7 (by omega)).trans gc
  have ga2 := (n6.nb.1 18 8 (by omega)).trans ga
  have hy2 := we_j hW hB hf hf1 hi hi1 hl hn hn1 hh h8 ha hc hy
  obtain ⟨F, x1, P1⟩ := fx_j hW2 f2 hf1 i2 hi1 e2 l2 hn hn1 h2 h8 a2 c2 ha1 hy2
  by_cases bq : a ≤ i
  · obtain ⟨N2, F2, s1, s2, s3, s4, s5, s6⟩ := sl_j1 ho hR2 hW2 f2 hf1 i2 hi1 e2 he1 c2 gc2 a2 ga2 h2 (by omega) ha1 bq
    obtain rfl := ex_inj s2 x1
    have hst := st_of ho s3 s4
    have hF := cf_j hR2 hW2 f2 hf1 i2 hi1 e2 gc2 ga2 h2 ha1 s1
    have hL2 := rfp_fr hL n6.nb hB
    refine rs_ke n1 n2 n3 n4 n6 n7 hy2 (bk := a ≤ i) (by rw [pBT bq]; exact s1) s2 s5 s6 hst (Nat.le_refl _) (Nat.le_refl _) P1.2.1 ?_ hb (nb_no (c := 106) xi_5_106 (by decide) (by decide)) (fun _ => ⟨rfl, P1.1.2.2.2.1, (P1.1.2.1 d).trans (hB.1 109 d (by omega) (by omega))⟩)
    exact rfp_one hL2 P1.1 (by omega) h2 (by omega) hW.1.2.1 (ww_H hW2) (Nat.le_refl _) (fun _ _ => rfl) hF (fun j j1 j2 => by omega) (fun hq => absurd hq (by omega))
  · obtain ⟨N2, F2, s1, s2, s3, s4, s5, s6⟩ := sl_j0 ho hR2 hW2 f2 hf1 i2 hi1 e2 he1 c2 gc2 a2 ga2 h2 (by omega) ha1 (by omega)
    obtain rfl := ex_inj s2 x1
    have hst := st_of ho s3 s4
    have hF := cf_j hR2 hW2 f2 hf1 i2 hi1 e2 gc2 ga2 h2 ha1 s1
    have hL2 := rfp_fr hL n6.nb hB
    refine rs_ke n1 n2 n3 n4 n6 n7 hy2 (bk := a ≤ i) (by rw [pBF bq]; exact s1) s2 s5 s6 hst (Nat.le_refl _) (Nat.le_refl _) P1.2.1 ?_ hb (nb_no (c := 106) xi_5_106 (by decide) (by decide)) (fun y => absurd y bq)
    exact rfp_one hL2 P1.1 (by omega) h2 (by omega) hW.1.2.1 (ww_H hW2) (Nat.le_refl _) (fun _ _ => rfl) hF (fun j j1 j2 => by omega) (fun hq => absurd hq (by omega))
theorem rs_z {M S : Mem} {d ns ob nc nf f i e n h a v fc g k b : Nat} {φ : Nat → Nat} (hR : RC M S 18 d ns) (hW : WW S d ob ns nc nf) (hr : WR S d) (hr1 : mI S 69 71 = nI 1) (hf : mI S 109 d = nI f) (hf1 : f < 8) (hi : mI S 110 d = nI i) (hi1 : i < 40) (he : mI S 69 57 = nI e) (he1 : e < 1000) (hl : mI S 71 f = nI n) (hn : i < n) (hn1 : n ≤ 40) (hh : mI S 111 d = nI h) (h8 : h ≤ 8) (ha : mI S 73 (40 * f + i) = nI a) (hc : mI S 72 (40 * f + i) = nI 122) (gc : mI M 18 7 = nI 122) (ga : mI M 18 8 = nI a) (hX : RECX M S v fc φ g k) (hL : RFP M S b d φ v) (hb : b ≤ d) (hk : k < 30) (hg : g ≤ 4 * k) (hv : v ≤ 168 + 6 * k) (hfc : fc ≤ 168 + 6 * k) (hy : d_X12_why S = some (nI 0, S)) (ha1 : a < 40) : RSC M S 122 d b f i k g v fc ns ob nc nf (nI a) (isNl (mI S 105 (14 * d + 6 + h - 1)) (mI S 106 (14 * d + 6 + h - 1)) (mD S 107 (14 * d + 6 + h - 1)) ∧ a ≤ i) := by
  have ho : isO 18 := .inl rfl
  have hx0 : 0 < h := by
    obtain ⟨t, rfl, -⟩ := fx_z hW hf hf1 hi hi1 he hl hn hn1 hh h8 ha hc ha1 hy
    omega
  obtain ⟨N, E, gg, n1, n2, n3, n4, n5, n6, n7⟩ := na_122 hR hW hf hf1 hi hi1 hh h8 hX hL hb hk hg (by omega) (by omega) gc hx0
  have hB := n7.sb (f := f) (i := i)
  have hR2 := rc_fr hR n6.nb hB
  have hW2 := ww_fr hW hB
  have hr2 := wr_fr hr hB
  have r2 := (hB.1 69 71 (by omega) (by omega)).trans hr1
  have f2 := (hB.1 109 d (by omega) (by omega)).trans hf
  have i2 := (hB.1 110 d (by omega) (by omega)).trans hi
  have e2 := (hB.1 69 57 (by omega) (by omega)).trans he
  have l2 := (hB.1 71 f (by omega) (by omega)).trans hl
  have h2 := (hB.1 111 d (by omega) (by omega)).trans hh
  have a2 := (hB.1 73 (40 * f + i) (by omega) (by omega)).trans ha
  have c2 := (hB.1 72 (40 * f + i) (by omega) (by omega)).trans hc
  have gc2 := (n6.nb.1 18 7 (by omega)).trans gc
  have ga2 := (n6.nb.1 18 8 (by omega)).trans ga
  have hy2 := we_z hW hB hf hf1 hi hi1 hl hn hn1 hh h8 ha hc hy
  obtain ⟨t, rfl, F, x1, P0⟩ := fx_z hW2 f2 hf1 i2 hi1 e2 l2 hn hn1 h2 h8 a2 c2 ha1 hy2
  have eT : 14 * d + 6 + (t + 1) - 1 = 14 * d + 6 + t := by omega
  rw [eT]
  have z5 : mI (lnR E k f i) 105 (14 * d + 6 + t) = mI S 105 (14 * d + 6 + t) := hB.1 105 _ (by omega) (by omega)
  have z6 : mI (lnR E k f i) 106 (14 * d + 6 + t) = mI S 106 (14 * d + 6 + t) := hB.1 106 _ (by omega) (by omega)
  have z7 : mD (lnR E k f i) 107 (14 * d + 6 + t) = mD S 107 (14 * d + 6 + t) := hB.2.1 107 _ (by omega)
  rw [z5, z6, z7] at P0
  rcases P0 with ⟨nl, P1⟩ | ⟨nl, P1⟩
  · by_cases bq : a ≤ i
    · obtain ⟨N2, F2, s1, s2, s3, s4, s5, s6⟩ := sl_z1 ho hR2 hW2 f2 hf1 i2 hi1 e2 he1 c2 gc2 a2 ga2 h2 (by omega) ha1 (by rw [z5, z6, z7]; exact nl) bq
      obtain rfl := ex_inj s2 x1
      have hst := st_of ho s3 s4
      have hF := cf_z hR2 hW2 f2 hf1 i2 hi1 e2 gc2 ga2 h2 (by omega) ha1 s1
      have hL2 := rfp_fr hL n6.nb hB
      refine rs_ke n1 n2 n3 n4 n6 n7 hy2 (bk := (isNl (mI S 105 (14 * d + 6 + t)) (mI S 106 (14 * d + 6 + t)) (mD S 107 (14 * d + 6 + t)) ∧ a ≤ i)) (by rw [pBT ⟨nl, bq⟩]; exact s1) s2 s5 s6 hst (Nat.le_refl _) (Nat.le_refl _) P1.2.1 ?_ hb (nb_no (c := 122) xi_5_122 (by decide) (by decide)) (fun _ => ⟨rfl, P1.1.2.2.2.1, (P1.1.2.1 d).trans (hB.1 109 d (by omega) (by omega))⟩)
      exact rfp_one hL2 P1.1 (by omega) h2 (by omega) hW.1.2.1 (ww_H hW2) (Nat.le_refl _) (fun _ _ => rfl) hF (fun j j1 j2 => by omega) (fun hq => absurd hq (by omega))
    · obtain ⟨N2, F2, s1, s2, s3, s4, s5, s6⟩ := sl_z2 ho hR2 hW2 f2 hf1 i2 hi1 e2 he1 c2 gc2 a2 ga2 h2 (by omega) ha1 (by rw [z5, z6, z7]; exact nl) (by omega)
      obtain rfl := ex_inj s2 x1
      have hst := st_of ho s3 s4
      have hF := cf_z hR2 hW2 f2 hf1 i2 hi1 e2 gc2 ga2 h2 (by omega) ha1 s1
      have hL2 := rfp_fr hL n6.nb hB
      refine rs_ke n1 n2 n3 n4 n6 n7 hy2 (bk := (isNl (mI S 105 (14 * d + 6 + t)) (mI S 106 (14 * d + 6 + t)) (mD S 107 (14 * d + 6 + t)) ∧ a ≤ i)) (by rw [pBF (fun y => bq y.2)]; exact s1) s2 s5 s6 hst (Nat.le_refl _) (Nat.le_refl _) P1.2.1 ?_ hb (nb_no (c := 122) xi_5_122 (by decide) (by decide)) (fun y => absurd y.2 bq)
      exact rfp_one hL2 P1.1 (by omega) h2 (by omega) hW.1.2.1 (ww_H hW2) (Nat.le_refl _) (fun _ _ => rfl) hF (fun j j1 j2 => by omega) (fun hq => absurd hq (by omega))
  · obtain ⟨N2, F2, s1, s2, s3, s4, s5, s6⟩ := sl_z0 ho hR2 hW2 f2 hf1 i2 hi1 e2 he1 c2 gc2 a2 ga2 h2 (by omega) ha1 (by rw [z5, z6, z7]; exact nl)
    obtain rfl := ex_inj s2 x1
    have hst := st_of ho s3 s4
    have hF := cf_z hR2 hW2 f2 hf1 i2 hi1 e2 gc2 ga2 h2 (by omega) ha1 s1
    have hL2 := rfp_fr hL n6.nb hB
    refine rs_ke n1 n2 n3 n4 n6 n7 hy2 (bk := (isNl (mI S 105 (14 * d + 6 + t)) (mI S 106 (14 * d + 6 + t)) (mD S 107 (14 * d + 6 + t)) ∧ a ≤ i)) (by rw [pBF (fun y => nl y.1)]; exact s1) s2 s5 s6 hst (Nat.le_refl _) (Nat.le_refl _) P1.2.1 ?_ hb (nb_no (c := 122) xi_5_122 (by decide) (by decide)) (fun y => absurd y.1 nl)
    exact rfp_one hL2 P1.1 (by omega) h2 (by omega) hW.1.2.1 (ww_H hW2) (Nat.le_refl _) (fun _ _ => rfl) hF (fun j j1 j2 => by omega) (fun hq => absurd hq (by omega))
theorem rs_t {M S : Mem} {d ns ob nc nf f i e n h a v fc g k b : Nat} {φ : Nat → Nat} (hR : RC M S 18 d ns) (hW : WW S d ob ns nc nf) (hr : WR S d) (hr1 : mI S 69 71 = nI 1) (hf : mI S 109 d = nI f) (hf1 : f < 8) (hi : mI S 110 d = nI i) (hi1 : i < 40) (he : mI S 69 57 = nI e) (he1 : e < 1000) (hl : mI S 71 f = nI n) (hn : i < n) (hn1 : n ≤ 40) (hh : mI S 111 d = nI h) (h8 : h ≤ 8) (ha : mI S 73 (40 * f + i) = nI a) (hc : mI S 72 (40 * f + i) = nI 116) (gc : mI M 18 7 = nI 116) (ga : mI M 18 8 = nI a) (hX : RECX M S v fc φ g k) (hL : RFP M S b d φ v) (hb : b ≤ d) (hk : k < 30) (hg : g ≤ 4 * k) (hv : v ≤ 168 + 6 * k) (hfc : fc ≤ 168 + 6 * k) (hy : d_X12_why S = some (nI 0, S)) : RSC M S 116 d b f i k g v fc ns ob nc nf (nI a) (False) := by
  have ho : isO 18 := .inl rfl
  obtain ⟨N, E, gg, n1, n2, n3, n4, n5, n6, n7⟩ := na_116 hR hW hf hf1 hi hi1 hh h8 hX hL hb hk hg (by omega) (by omega) gc 
  have hB := n7.sb (f := f) (i := i)
  have hR2 := rc_fr hR n6.nb hB
  have hW2 := ww_fr hW hB
  have hr2 := wr_fr hr hB
  have r2 := (hB.1 69 71 (by omega) (by omega)).trans hr1
  have f2 := (hB.1 109 d (by omega) (by omega)).trans hf
  have i2 := (hB.1 110 d (by omega) (by omega)).trans hi
  have e2 := (hB.1 69 57 (by omega) (by omega)).trans he
  have l2 := (hB.1 71 f (by omega) (by omega)).trans hl
  have h2 := (hB.1 111 d (by omega) (by omega)).trans hh
  have a2 := (hB.1 73 (40 * f + i) (by omega) (by omega)).trans ha
  have c2 := (hB.1 72 (40 * f + i) (by omega) (by omega)).trans hc
  have gc2 := (n6.nb.1 18 7 (by omega)).trans gc
  have ga2 := (n6.nb.1 18 8 (by omega)).trans ga
  have hy2 := we_t hW hB hf hf1 hi hi1 hl hn hn1 hh h8 ha hc hy
  obtain ⟨t, rfl, F, x1, P1⟩ := fx_t hW2 f2 hf1 i2 hi1 e2 l2 hn hn1 h2 h8 a2 c2 hy2
  obtain ⟨tn, tn1, htn⟩ := hW2.2.2.2.2.2.2.2.2
  by_cases q : tn = 20
  · obtain ⟨N2, F2, s1, s2, s3, s4, s5, s6⟩ := sl_t0 ho hR2 hW2 f2 hf1 i2 hi1 e2 he1 c2 gc2 h2 (by omega) htn q
    obtain rfl := ex_inj s2 x1
    have hst : ST N (lnR E k f i) N2 _ 18 := st_of ho s3 s4
    have hF := cf_t hR2 hW2 f2 hf1 i2 hi1 e2 gc2 h2 (by omega) s1
    have hL2 := rfp_fr hL n6.nb hB
    refine rs_ke n1 n2 n3 n4 n6 n7 hy2 (bk := False) (by rw [pBF0]; exact s1) s2 s5 s6 hst (Nat.le_refl _) (Nat.le_refl _) P1.2.1 ?_ hb (nb_no (c := 116) xi_5_116 (by decide) (by decide)) (fun y => y.elim)
    exact rfp_one hL2 P1.1 (by omega) h2 (by omega) hW.1.2.1 (ww_H hW2) (Nat.le_refl _) (fun _ _ => rfl) hF (fun j j1 j2 => by omega) (fun hq => absurd hq (by omega))
  · obtain ⟨N2, F2, s1, s2, s3, s4, s5, s6⟩ := sl_t1 ho hR2 hW2 f2 hf1 i2 hi1 e2 he1 c2 gc2 h2 (by omega) htn (by omega)
    have hst0 : ST N (lnR E k f i) N2 F2 18 := by
      refine ST.trans ?_ (st_of ho s3 s4)
      refine ⟨⟨fun a j z => ?_, fun a j z => ⟨?_, ?_⟩, rfl⟩, ⟨fun a j z => ?_, fun a j z => ⟨?_, ?_⟩, rfl⟩, ?_, ?_, ?_⟩
      all_goals (try unfold mvC) <;> simp (disch := omega) only [← Nat.add_assoc, Nat.add_sub_cancel, Nat.sub_zero, as21, as31, as32, and_self, and_true, true_and, l_0, l_1, l_2, l_3, l_4, l_5, l_6, l_7, l_8, l_9, l_10, l_11, l_12, l_13, l_14, l_15, l_16, l_17, l_18, l_19, l_20, l_21, l_22, l_23, l_24, l_25, l_26, l_27, l_28, l_29, l_30, l_31, l_32, l_33, l_34, l_35, l_36, l_37, l_38, l_39, l_40, l_41, l_42, l_43, l_44, l_45, l_47, l_48, l_50, l_52, l_60, l_61, l_63, l_80, l_99, l_100, l_101, l_102, l_103, l_105, l_106, l_107, l_108, l_109, l_110, l_111, l_112, l_114, l_115, l_116, l_117, l_118, l_119, l_120, l_122, l_168, l_200, l_320, l_360, l_528, l_548, l_1000, l_1023, l_2000, l_3000, l_1000000, qadd, qmul, qsub, qdiv, qcl, qinT, qchT, qleT, qleF, qltT, qltF, qeqT, qeqF, qneg_ne, bo0, bo1, qneg_ne', qneg_lt, mI_eq, mD_eq, mL_eq, mR_eq, mI_at, mD_at, mL_at, mI_ne, mD_ne, mL_ne, mR_ne, not_false_eq_true, not_true_eq_false, or_true, true_or, or_false, false_or, or_self, false_and, and_false, eq_self, mI_sL, mI_sD, mI_sR, mI_tk, mL_sI, mL_sD, mL_sR, mL_tk, mD_sI, mD_sL, mD_sR, mD_tk, mR_sI, mR_sL, mR_sD, mR_tk, mT_sI, mT_sL, mT_sD, mT_sR, mT_tk, mK_sI, mK_sL, mK_sD, mK_sR, mK_tk, mN_sI, mN_sL, mN_sD, mN_sR, mN_tk, nx_sI, nx_sL, nx_sD, nx_sR, uC_sI, uC_sL, uC_sD, uC_sR, uS_sI, uS_sL, uS_sD, uS_sR, nx_tk, uC_tk, uS_tk]
    obtain rfl := ex_inj s2 x1
    have hst : ST N (lnR E k f i) N2 _ 18 := hst0
    have hF := cf_t hR2 hW2 f2 hf1 i2 hi1 e2 gc2 h2 (by omega) s1
    have hL2 := rfp_fr hL n6.nb hB
    refine rs_ke n1 n2 n3 n4 n6 n7 hy2 (bk := False) (by rw [pBF0]; exact s1) s2 s5 s6 hst (Nat.le_refl _) (Nat.le_refl _) P1.2.1 ?_ hb (nb_no (c := 116) xi_5_116 (by decide) (by decide)) (fun y => y.elim)
    exact rfp_one hL2 P1.1 (by omega) h2 (by omega) hW.1.2.1 (ww_H hW2) (Nat.le_refl _) (fun _ _ => rfl) hF (fun j j1 j2 => by omega) (fun hq => absurd hq (by omega))
theorem rs_i {M S : Mem} {d ns ob nc nf f i e n h a v fc g k b : Nat} {φ : Nat → Nat} (hR : RC M S 18 d ns) (hW : WW S d ob ns nc nf) (hr : WR S d) (hr1 : mI S 69 71 = nI 1) (hf : mI S 109 d = nI f) (hf1 : f < 8) (hi : mI S 110 d = nI i) (hi1 : i < 40) (he : mI S 69 57 = nI e) (he1 : e < 1000) (hl : mI S 71 f = nI n) (hn : i < n) (hn1 : n ≤ 40) (hh : mI S 111 d = nI h) (h8 : h ≤ 8) (ha : mI S 73 (40 * f + i) = nI a) (hc : mI S 72 (40 * f + i) = nI 105) (gc : mI M 18 7 = nI 105) (ga : mI M 18 8 = nI a) (hX : RECX M S v fc φ g k) (hL : RFP M S b d φ v) (hb : b ≤ d) (hk : k < 30) (hg : g ≤ 4 * k) (hv : v ≤ 168 + 6 * k) (hfc : fc ≤ 168 + 6 * k) (hy : d_X12_why S = some (nI 0, S)) : RSC M S 105 d b f i k g v fc ns ob nc nf (nI a) (False) := by
  have ho : isO 18 := .inl rfl
  obtain ⟨N, E, gg, n1, n2, n3, n4, n5, n6, n7⟩ := na_105 hR hW hf hf1 hi hi1 hh h8 hX hL hb hk hg (by omega) (by omega) gc 
  have hB := n7.sb (f := f) (i := i)
  have hR2 := rc_fr hR n6.nb hB
  have hW2 := ww_fr hW hB
  have hr2 := wr_fr hr hB
  have r2 := (hB.1 69 71 (by omega) (by omega)).trans hr1
  have f2 := (hB.1 109 d (by omega) (by omega)).trans hf
  have i2 := (hB.1 110 d (by omega) (by omega)).trans hi
  have e2 := (hB.1 69 57 (by omega) (by omega)).trans he
  have l2 := (hB.1 71 f (by omega) (by omega)).trans hl
  have h2 := (hB.1 111 d (by omega) (by omega)).trans hh
  have a2 := (hB.1 73 (40 * f + i) (by omega) (by omega)).trans ha
  have c2 := (hB.1 72 (40 * f + i) (by omega) (by omega)).trans hc
  have gc2 := (n6.nb.1 18 7 (by omega)).trans gc
  have ga2 := (n6.nb.1 18 8 (by omega)).trans ga
  have hy2 := we_i hW hB hf hf1 hi hi1 hl hn hn1 hh h8 ha hc hy
  obtain ⟨ht, F, x1, P1, O1⟩ := fx_i hW2 f2 hf1 i2 hi1 e2 l2 hn hn1 h2 h8 a2 c2 hr2 hy2
  obtain ⟨v9, hv9, hv8, hid⟩ := (hr2.resolve_left (fun z => by rw [r2] at z; exact absurd z (by decide))).2
  obtain ⟨N2, F2, s1, s2, s3, s4, s5, s6⟩ := sl_i_1 ho hR2 hW2 f2 hf1 i2 hi1 e2 he1 c2 gc2 h2 (by omega) (ga2.trans a2.symm) r2 hv8 (by omega)
  obtain rfl := ex_inj s2 x1
  have hF := cf_i hR2 hW2 f2 hf1 i2 hi1 e2 gc2 h2 (by omega) s1
  refine rs_nw n1 n2 n3 n4 n5 n6 n7 hy2 (bk := False) (by rw [pBF0]; exact s1) s2 s5 s6 (st_of ho s3 s4) (Nat.le_refl _) (Nat.le_refl _) P1 r2 (by omega) (by omega) (by omega) hh (by omega) (by omega) hW hL hb hF xi_5_105 (by omega) ?_ (fun y => y.elim)
  exact kbv_c _ (by decide) (by decide)
theorem rs_k {M S : Mem} {d ns ob nc nf f i e n h a v fc g k b : Nat} {φ : Nat → Nat} (hR : RC M S 18 d ns) (hW : WW S d ob ns nc nf) (hr : WR S d) (hr1 : mI S 69 71 = nI 1) (hf : mI S 109 d = nI f) (hf1 : f < 8) (hi : mI S 110 d = nI i) (hi1 : i < 40) (he : mI S 69 57 = nI e) (he1 : e < 1000) (hl : mI S 71 f = nI n) (hn : i < n) (hn1 : n ≤ 40) (hh : mI S 111 d = nI h) (h8 : h ≤ 8) (ha : mI S 73 (40 * f + i) = nI a) (hc : mI S 72 (40 * f + i) = nI 107) (gc : mI M 18 7 = nI 107) (ga : mI M 18 8 = nI a) (hX : RECX M S v fc φ g k) (hL : RFP M S b d φ v) (hb : b ≤ d) (hk : k < 30) (hg : g ≤ 4 * k) (hv : v ≤ 168 + 6 * k) (hfc : fc ≤ 168 + 6 * k) (hy : d_X12_why S = some (nI 0, S)) (ha1 : a < 8) : RSC M S 107 d b f i k g v fc ns ob nc nf (nI a) (False) := by
  have ho : isO 18 := .inl rfl
  obtain ⟨N, E, gg, n1, n2, n3, n4, n5, n6, n7⟩ := na_107 hR hW hf hf1 hi hi1 hh h8 hX hL hb hk hg (by omega) (by omega) gc 
  have hB := n7.sb (f := f) (i := i)
  have hR2 := rc_fr hR n6.nb hB
  have hW2 := ww_fr hW hB
  have hr2 := wr_fr hr hB
  have r2 := (hB.1 69 71 (by omega) (by omega)).trans hr1
  have f2 := (hB.1 109 d (by omega) (by omega)).trans hf
  have i2 := (hB.1 110 d (by omega) (by omega)).trans hi
  have e2 := (hB.1 69 57 (by omega) (by omega)).trans he
  have l2 := (hB.1 71 f (by omega) (by omega)).trans hl
  have h2 := (hB.1 111 d (by omega) (by omega)).trans hh
  have a2 := (hB.1 73 (40 * f + i) (by omega) (by omega)).trans ha
  have c2 := (hB.1 72 (40 * f + i) (by omega) (by omega)).trans hc
  have gc2 := (n6.nb.1 18 7 (by omega)).trans gc
  have ga2 := (n6.nb.1 18 8 (by omega)).trans ga
  have hy2 := we_k hW hB hf hf1 hi hi1 hl hn hn1 hh h8 ha hc hy
  obtain ⟨ht, F, x1, P1, O1⟩ := fx_k hW2 f2 hf1 i2 hi1 e2 l2 hn hn1 h2 h8 a2 c2 hr2 ha1 hy2
  obtain ⟨v9, hv9, hv8, hid⟩ := (hr2.resolve_left (fun z => by rw [r2] at z; exact absurd z (by decide))).2
  obtain ⟨N2, F2, s1, s2, s3, s4, s5, s6⟩ := sl_k_1 ho hR2 hW2 f2 hf1 i2 hi1 e2 he1 c2 gc2 a2 ga2 h2 (by omega) ha1 r2 hv8 (by omega)
  obtain rfl := ex_inj s2 x1
  have hF := cf_k hR2 hW2 f2 hf1 i2 hi1 e2 gc2 ga2 h2 (by omega) ha1 s1
  refine rs_nw n1 n2 n3 n4 n5 n6 n7 hy2 (bk := False) (by rw [pBF0]; exact s1) s2 s5 s6 (st_of ho s3 s4) (Nat.le_refl _) (Nat.le_refl _) P1 r2 (by omega) (by omega) (by omega) hh (by omega) (by omega) hW hL hb hF xi_5_107 (by omega) ?_ (fun y => y.elim)
  exact kbv_c _ (by decide) (by decide)
theorem rs_w {M S : Mem} {d ns ob nc nf f i e n h a v fc g k b : Nat} {φ : Nat → Nat} (hR : RC M S 18 d ns) (hW : WW S d ob ns nc nf) (hr : WR S d) (hr1 : mI S 69 71 = nI 1) (hf : mI S 109 d = nI f) (hf1 : f < 8) (hi : mI S 110 d = nI i) (hi1 : i < 40) (he : mI S 69 57 = nI e) (he1 : e < 1000) (hl : mI S 71 f = nI n) (hn : i < n) (hn1 : n ≤ 40) (hh : mI S 111 d = nI h) (h8 : h ≤ 8) (ha : mI S 73 (40 * f + i) = nI a) (hc : mI S 72 (40 * f + i) = nI 119) (gc : mI M 18 7 = nI 119) (ga : mI M 18 8 = nI a) (hX : RECX M S v fc φ g k) (hL : RFP M S b d φ v) (hb : b ≤ d) (hk : k < 30) (hg : g ≤ 4 * k) (hv : v ≤ 168 + 6 * k) (hfc : fc ≤ 168 + 6 * k) (hy : d_X12_why S = some (nI 0, S)) : RSC M S 119 d b f i k g v fc ns ob nc nf (nI a) (False) := by
  have ho : isO 18 := .inl rfl
  have hx0 : 0 < h := by
    obtain ⟨t, rfl, -⟩ := fx_w hW hf hf1 hi hi1 he hl hn hn1 hh h8 ha hc hr hy
    omega
  obtain ⟨N, E, gg, n1, n2, n3, n4, n5, n6, n7⟩ := na_119 hR hW hf hf1 hi hi1 hh h8 hX hL hb hk hg (by omega) (by omega) gc hx0 rfl
  have hB := n7.sb (f := f) (i := i)
  have hR2 := rc_fr hR n6.nb hB
  have hW2 := ww_fr hW hB
  have hr2 := wr_fr hr hB
  have r2 := (hB.1 69 71 (by omega) (by omega)).trans hr1
  have f2 := (hB.1 109 d (by omega) (by omega)).trans hf
  have i2 := (hB.1 110 d (by omega) (by omega)).trans hi
  have e2 := (hB.1 69 57 (by omega) (by omega)).trans he
  have l2 := (hB.1 71 f (by omega) (by omega)).trans hl
  have h2 := (hB.1 111 d (by omega) (by omega)).trans hh
  have a2 := (hB.1 73 (40 * f + i) (by omega) (by omega)).trans ha
  have c2 := (hB.1 72 (40 * f + i) (by omega) (by omega)).trans hc
  have gc2 := (n6.nb.1 18 7 (by omega)).trans gc
  have ga2 := (n6.nb.1 18 8 (by omega)).trans ga
  have hy2 := we_w hW hB hf hf1 hi hi1 hl hn hn1 hh h8 ha hc hy
  obtain ⟨t, rfl, b1, F, x1, P1, O1⟩ := fx_w hW2 f2 hf1 i2 hi1 e2 l2 hn hn1 h2 h8 a2 c2 hr2 hy2
  have eT : 14 * d + 6 + (t + 1) - 1 = 14 * d + 6 + t := by omega
  rw [eT] at n5
  have ecq : cq1 (lnR E k f i) (14 * d + 6 + t) = cq1 S (14 * d + 6 + t) := by
    have q108 : ∀ j, mI (lnR E k f i) 108 j = mI S 108 j := fun j => hB.1 108 j (by omega) (by omega)
    have q124 : ∀ j, mI E 124 j = mI S 124 j := fun j => n7.2.2.2.1 124 j (by omega) (by omega)
    unfold cq1 cst1
    simp only [q108, q124, lnR_124]
  obtain ⟨v9, hv9, hv8, hid⟩ := (hr2.resolve_left (fun z => by rw [r2] at z; exact absurd z (by decide))).2
  obtain ⟨u, hw1, hu⟩ := hid (6 + t) (by rw [h2, qcl (by omega)]; omega)
  simp only [← Nat.add_assoc] at hu
  have hfar : mI (lnR E k f i) 105 (14 * d + 6 + t) = nI 102 → ¬ farW (mD (lnR E k f i) 107 (14 * d + 6 + t)) := by
    intro y1 y2
    have wy := wy_w (S := lnR E k f i) hW2.1.1 hW2.1.2.1 f2 hf1 i2 hi1 l2 hn hn1 h2 h8 c2
    have h0 := congrArg Prod.fst (Option.some.inj (wy.symm.trans hy2))
    obtain ⟨z1, h0a⟩ := cI_0 n115 h0
    obtain ⟨z2, h0b⟩ := cI_0 n107 h0a
    obtain ⟨z3, -⟩ := cI_0 n119 h0b
    rw [eT] at z3
    exact z3 ⟨y1, y2⟩
  have hkb : kbv (nI 105) (cq1 (lnR E k f i) (14 * d + 6 + t)) (-nI 1) (nz (cq1 (lnR E k f i) (14 * d + 6 + t)) (nI 105) (rdV (mI (lnR E k f i) 105 (14 * d + 6 + t)) (mI (lnR E k f i) 106 (14 * d + 6 + t)) (mD (lnR E k f i) 107 (14 * d + 6 + t))) FP.dconst0) = (if cq1 S (14 * d + 6 + t) = nI 0 then nI 1 else nI 7) := by rw [ecq]; exact kbv_m _ (by decide) (by decide) (by decide)
  have hF := fun (s1 : Mem) (zz : Int32) => cf_w (N2 := s1) (z := zz) hR2 hW2 f2 hf1 i2 hi1 e2 gc2 h2 (by omega) b1 hfar
  rcases b1 with k1 | k1
  · obtain ⟨N2, F2, s1, s2, s3, s4, s5, s6⟩ := sl_wi_1 ho hR2 hW2 f2 hf1 i2 hi1 e2 he1 c2 gc2 h2 (by omega) k1 r2 hv8 (by omega) hu (by omega)
    obtain rfl := ex_inj s2 x1
    have hF := hF _ _ s1
    refine rs_nw n1 n2 n3 n4 n5 n6 n7 hy2 (bk := False) (by rw [pBF0]; exact s1) s2 s5 s6 (st_of ho s3 s4) (Nat.le_refl _) (Nat.le_refl _) P1 r2 (by omega) (by omega) (by omega) hh (by omega) (by omega) hW hL hb hF xi_5_119 (by omega) ?_ (fun y => y.elim)
    exact hkb
  · obtain ⟨N2, F2, s1, s2, s3, s4, s5, s6⟩ := sl_wf_1 ho hR2 hW2 f2 hf1 i2 hi1 e2 he1 c2 gc2 h2 (by omega) k1 (hfar k1) r2 hv8 (by omega) hu (by omega)
    obtain rfl := ex_inj s2 x1
    have hF := hF _ _ s1
    refine rs_nw n1 n2 n3 n4 n5 n6 n7 hy2 (bk := False) (by rw [pBF0]; exact s1) s2 s5 s6 (st_of ho s3 s4) (Nat.le_refl _) (Nat.le_refl _) P1 r2 (by omega) (by omega) (by omega) hh (by omega) (by omega) hW hL hb hF xi_5_119 (by omega) ?_ (fun y => y.elim)
    exact hkb
end MH5
