/-! ===== a recorded step of both: p, whole ===== -/
section MH9
theorem rx_pu {N N0 N2 S F : Mem} {v fc g k : Nat} {φ : Nat → Nat} {B : Nat → Int32} (h : RECX N0 S v fc φ g k) (hN : ∀ a j, 47 < a → a < 55 → mI N a j = mI N0 a j) (hB : ∀ w, w < v → mI N 55 (φ w) = B w) (hM : ∀ a j, 47 < a → a < 56 → mI N2 a j = mI N a j) (hS : ∀ a j, (a = 69 ∧ (j = 76 ∨ j = 78)) ∨ (118 < a ∧ a < 123) → mI F a j = mI S a j) (hv : mI F 69 83 = nI v) (hkb : ∀ w, w < v → kb F w = B w) : RECX N2 F v fc φ g k := by
  obtain ⟨h1, h2, h3, h4, h5, h6, h7, h8, h9⟩ := h
  have m : ∀ a j, 47 < a → a < 55 → mI N2 a j = mI N0 a j := fun a j x y => (hM a j x (by omega)).trans (hN a j x y)
  refine ⟨hv, (m _ _ (by omega) (by omega)).trans h2, (hS _ _ (by omega)).trans h3, (m _ _ (by omega) (by omega)).trans h4, (hS _ _ (by omega)).trans h5, (m _ _ (by omega) (by omega)).trans h6, h7, fun u hu => ⟨(h8 u hu).1, ?_⟩, fun i hi => ?_⟩
  · rw [hM _ _ (by omega) (by omega), hB u hu, hkb u hu]
  · have := h9 i hi
    unfold GA at this ⊢
    rw [m 51 _ (by omega) (by omega), m 52 _ (by omega) (by omega), m 53 _ (by omega) (by omega), m 54 _ (by omega) (by omega), hS 119 _ (by omega), hS 120 _ (by omega), hS 121 _ (by omega), hS 122 _ (by omega)]
    exact this
theorem kb_sh {E F : Mem} {u : Nat} {x : Int32} (h1 : mI F 123 u = mI E 123 u) (h2 : mI F 124 u = mI E 124 u) (h3 : mI F 125 u = x) (h4 : mI F 126 u = mI E 126 u) : kb F u = if x = -nI 1 then kb E u &&& (-9 : Int32) else (kb E u &&& (-9 : Int32)) ||| nI 8 := by
  unfold kb nkP
  simp only [h1, h2, h3, h4]
  by_cases z : x = -nI 1
  · rw [if_pos z, pk_f, decide_eq_false (show ¬ ¬ x = -nI 1 from fun y => y z)]
  · rw [if_neg z, pk_f, pk_o8, decide_eq_true z]
theorem rs_p {M S : Mem} {d ns ob nc nf f i e n h a v fc g k b : Nat} {φ : Nat → Nat} (hR : RC M S 18 d ns) (hW : WW S d ob ns nc nf) (hr : WR S d) (hr1 : mI S 69 71 = nI 1) (hf : mI S 109 d = nI f) (hf1 : f < 8) (hi : mI S 110 d = nI i) (hi1 : i < 40) (he : mI S 69 57 = nI e) (he1 : e < 1000) (hl : mI S 71 f = nI n) (hn : i < n) (hn1 : n ≤ 40) (hh : mI S 111 d = nI h) (h8 : h ≤ 8) (ha : mI S 73 (40 * f + i) = nI a) (hc : mI S 72 (40 * f + i) = nI 112) (gc : mI M 18 7 = nI 112) (ga : mI M 18 8 = nI a) (hX : RECX M S v fc φ g k) (hL : RFP M S b d φ v) (hb : b ≤ d) (hk : k < 30) (hg : g ≤ 4 * k) (hv : v ≤ 168 + 6 * k) (hfc : fc ≤ 168 + 6 * k) (hy : d_X12_why S = some (nI 0, S)) (ha1 : a < 6) : RSC M S 112 d b f i k g v fc ns ob nc nf (nI a) False := by
  have ho : isO 18 := .inl rfl
  obtain ⟨t, q0, s, cl, s2, rfl, hO, -, hroom, -⟩ := fx_p hW hf hf1 hi hi1 he hl hn hn1 hh h8 ha hc ha1 hr hy
  have eT : 14 * d + 6 + (t + 2) - 2 = 14 * d + 6 + t := by omega
  obtain ⟨o1, o2, o3, o4, o5, o6, o7⟩ := id hO
  have hns := hW.2.2.2.2.2.1.2.1
  have hob := hW.2.2.2.1.2.1
  by_cases hFs : hasF S s a
  · obtain ⟨N, E, gg, n1, n2, n3, n4, n5, n6, n7⟩ := na_112A hR hW hf hf1 hi hi1 hh h8 hX hL hb hk hg (by omega) (by omega) gc ga ha1 (by omega) (by rw [eT]; exact hO) hFs
    have hB := n7.sb (f := f) (i := i)
    have hR2 := rc_fr hR n6.nb hB
    have hW2 := ww_fr hW hB
    have hr2 := wr_fr hr hB
    have r2 := (hB.1 69 71 (by omega) (by omega)).trans hr1
    have f2 := (hB.1 109 d (by omega) (by omega)).trans hf
    have i2 := (hB.1 110 d (by omega) (by omega)).trans hi
    have e2 := (hB.1 69 57 (by omega) (by omega)).trans he
    have l2 := (hB.1 71 f (by omega) (by omega)).trans hl
    have h2 := (hB.1 111 d (by omega) (by omega)).trans hh
    have a2 := (hB.1 73 (40 * f + i) (by omega) (by omega)).trans ha
    have c2 := (hB.1 72 (40 * f + i) (by omega) (by omega)).trans hc
    have gc2 := (n6.nb.1 18 7 (by omega)).trans gc
    have ga2 := (n6.nb.1 18 8 (by omega)).trans ga
    have hy2 := we_p hW hB hf hf1 hi hi1 hl hn hn1 hh h8 ha hc ha1 hy
    obtain ⟨t9, q9, s9, cl9, z2, et9, hO9, hz2, hroom9, F, x1, P1⟩ := fx_p hW2 f2 hf1 i2 hi1 e2 l2 hn hn1 h2 h8 a2 c2 ha1 hr2 hy2
    obtain rfl : t = t9 := by omega
    obtain ⟨p1, p2, p3, p4, p5, p6, p7⟩ := id hO9
    obtain rfl : q0 = q9 := qinj (by omega) (by omega) (o2.symm.trans ((hB.1 106 _ (by omega) (by omega)).symm.trans p2))
    obtain rfl : s = s9 := qinj (by omega) (by omega) (o4.symm.trans ((hB.1 112 _ (by omega) (by omega)).symm.trans p4))
    have gF : ∀ s n, hasF (lnR E k f i) s n = hasF S s n := hasF_s (fun p => hB.1 80 p (by omega) (by omega)) (fun p => hB.1 81 p (by omega) (by omega))
    have hL2 := rfp_fr hL n6.nb hB
    obtain ⟨N2, F2, w1, w2, w5, w6, w7⟩ := sl_ph ho hR2 hW2 f2 hf1 i2 hi1 e2 he1 c2 gc2 a2 ga2 h2 (by omega) ha1 p1 p2 p3 p4 p5 (by rw [gF]; exact hFs)
    obtain rfl := ex_inj w2 x1
    have hF := cf_p hR2 hW2 f2 hf1 i2 hi1 e2 gc2 ga2 h2 (by omega) ha1 hO9 hroom9 w1
    obtain ⟨u1, u2, u3, u4, u5, u6, u7⟩ := id P1
    have hK := (u7.resolve_right (fun y => y.2.1 (u5 (by rw [gF]; exact hFs)))).2
    exact rs_ke n1 n2 n3 n4 n6 n7 hy2 (bk := False) (by rw [pBF0]; exact w1) w2 w5 w6 w7 (Nat.le_refl _) (Nat.le_refl _) hK (rfp_one hL2 P1.1 (by omega) h2 (by omega) hW.1.2.1 (ww_H hW2) (Nat.le_refl _) (fun _ _ => rfl) hF (fun j j1 j2 => by omega) (fun hq => absurd hq (by omega))) hb (nb_no (c := 112) xi_5_112 (by decide) (by decide)) (fun y => y.elim)
  · obtain ⟨N, N0, E, gg, u, n1, n2, n3, n4, n6, n7, m1, m2, m3, m4⟩ := na_112B hR hW hf hf1 hi hi1 hh h8 hX hL hb hk hg (by omega) (by omega) gc ga ha1 (by omega) (by rw [eT]; exact hO) hFs
    rw [eT] at m2
    have hB := n7.sb (f := f) (i := i)
    have hR2 := rc_fr hR n6.nb hB
    have hW2 := ww_fr hW hB
    have hr2 := wr_fr hr hB
    have r2 := (hB.1 69 71 (by omega) (by omega)).trans hr1
    have f2 := (hB.1 109 d (by omega) (by omega)).trans hf
    have i2 := (hB.1 110 d (by omega) (by omega)).trans hi
    have e2 := (hB.1 69 57 (by omega) (by omega)).trans he
    have l2 := (hB.1 71 f (by omega) (by omega)).trans hl
    have h2 := (hB.1 111 d (by omega) (by omega)).trans hh
    have a2 := (hB.1 73 (40 * f + i) (by omega) (by omega)).trans ha
    have c2 := (hB.1 72 (40 * f + i) (by omega) (by omega)).trans hc
    have gc2 := (n6.nb.1 18 7 (by omega)).trans gc
    have ga2 := (n6.nb.1 18 8 (by omega)).trans ga
    have hy2 := we_p hW hB hf hf1 hi hi1 hl hn hn1 hh h8 ha hc ha1 hy
    obtain ⟨t9, q9, s9, cl9, z2, et9, hO9, hz2, hroom9, F, x1, P1⟩ := fx_p hW2 f2 hf1 i2 hi1 e2 l2 hn hn1 h2 h8 a2 c2 ha1 hr2 hy2
    obtain rfl : t = t9 := by omega
    obtain ⟨p1, p2, p3, p4, p5, p6, p7⟩ := id hO9
    obtain rfl : q0 = q9 := qinj (by omega) (by omega) (o2.symm.trans ((hB.1 106 _ (by omega) (by omega)).symm.trans p2))
    obtain rfl : s = s9 := qinj (by omega) (by omega) (o4.symm.trans ((hB.1 112 _ (by omega) (by omega)).symm.trans p4))
    have gF : ∀ s n, hasF (lnR E k f i) s n = hasF S s n := hasF_s (fun p => hB.1 80 p (by omega) (by omega)) (fun p => hB.1 81 p (by omega) (by omega))
    have hL2 := rfp_fr hL n6.nb hB
    obtain ⟨v9, hv9, hv8, hid⟩ := (hr2.resolve_left (fun z => by rw [r2] at z; exact absurd z (by decide))).2
    obtain ⟨u1, u2, u3, u4, u5, u6, u7⟩ := id P1
    obtain ⟨y1, y2, y3⟩ := u6 (by rw [gF]; exact hFs)
    obtain ⟨-, -, vv, uu, b1, b2, b3, b4, b5, b6, b7, b8⟩ := u7.resolve_left (fun y => y.1.elim (fun q => by rw [r2] at q; exact absurd q (by decide)) y1)
    obtain rfl : v = vv := qinj (by omega) (by omega) (n3.1.symm.trans b2)
    obtain rfl : u = uu := qinj (by omega) (by omega) (((hB.1 108 _ (by omega) (by omega)).trans m2).symm.trans b4)
    have k83 := b3
    have q3 : ∀ w, mI (lnR E k f i) 123 w = mI E 123 w ∧ mI (lnR E k f i) 124 w = mI E 124 w ∧ mI (lnR E k f i) 126 w = mI E 126 w := fun w => ⟨by unfold lnR; rw [mI_ne (by omega), mI_ne (by omega)], lnR_124 _ _ _ _ _, by unfold lnR; rw [mI_ne (by omega), mI_ne (by omega)]⟩
    have hkb : ∀ w, w < v → kb F w = if w = u then (kb E w &&& (-9 : Int32)) ||| nI 8 else kb E w &&& (-9 : Int32) := by
      intro w hw
      obtain ⟨c1, c2, c3⟩ := b6 w
      obtain ⟨d1, d2, d3⟩ := q3 w
      by_cases e : w = u
      · subst e
        rw [if_pos rfl, kb_sh (c1.trans d1) (c2.trans d2) b7 (c3.trans d3), if_neg (of_eq_false (qneg_ne (by omega)))]
      · rw [if_neg e, kb_sh (c1.trans d1) (c2.trans d2) (b8 w hw e) (c3.trans d3), if_pos rfl]
    have hu108 : mI (lnR E k f i) 108 (14 * d + 6 + t) = nI u := b4
    by_cases hfo : mI (lnR E k f i) 82 (6 * s + a) = -nI 1
    · have hns9 : ns < 60 := (hroom9.resolve_left (fun y => hFs (by rw [gF] at y; exact y))).resolve_left (fun y => y hfo)
      obtain ⟨N2, F2, w1, w2, w5, w6, w7⟩ := sl_pn_1 ho hR2 hW2 f2 hf1 i2 hi1 e2 he1 c2 gc2 a2 ga2 h2 (by omega) ha1 p1 p2 p3 p4 p5 r2 b2 (by omega) hu108 (by omega) (by rw [gF]; exact hFs) hfo hns9
      obtain rfl := ex_inj w2 x1
      have hF := cf_p hR2 hW2 f2 hf1 i2 hi1 e2 gc2 ga2 h2 (by omega) ha1 hO9 hroom9 w1
      exact ⟨N, E, N2, _, N2, v, fc, φ, gg, d, ns + 1, ob, n1, n2, by rw [pBF0]; exact w1, w2, nb_no (c := 112) xi_5_112 (by decide) (by decide), ⟨w5, w6, Nat.le_succ _, Nat.le_refl _⟩, ⟨rx_pu n3 m3 m4 (st_M w7) (st_S w7) k83 hkb, rfp_one hL2 P1.1 (by omega) h2 (by omega) hW.1.2.1 (ww_H hW2) (Nat.le_refl _) (fun _ _ => rfl) hF (fun j j1 j2 => by omega) (fun hq => absurd hq (by omega)), hb, by omega, by omega, Nat.le_refl _, n4⟩, n6, n7, hy2, w7, NBF.refl _, fun y => y.elim⟩
    · obtain ⟨N2, F2, w1, w2, w5, w6, w7⟩ := sl_pf_1 ho hR2 hW2 f2 hf1 i2 hi1 e2 he1 c2 gc2 a2 ga2 h2 (by omega) ha1 p1 p2 p3 p4 p5 r2 b2 (by omega) hu108 (by omega) (by rw [gF]; exact hFs) hfo
      obtain rfl := ex_inj w2 x1
      have hF := cf_p hR2 hW2 f2 hf1 i2 hi1 e2 gc2 ga2 h2 (by omega) ha1 hO9 hroom9 w1
      exact ⟨N, E, N2, _, N2, v, fc, φ, gg, d, ns, ob, n1, n2, by rw [pBF0]; exact w1, w2, nb_no (c := 112) xi_5_112 (by decide) (by decide), ⟨w5, w6, Nat.le_refl _, Nat.le_refl _⟩, ⟨rx_pu n3 m3 m4 (st_M w7) (st_S w7) k83 hkb, rfp_one hL2 P1.1 (by omega) h2 (by omega) hW.1.2.1 (ww_H hW2) (Nat.le_refl _) (fun _ _ => rfl) hF (fun j j1 j2 => by omega) (fun hq => absurd hq (by omega)), hb, by omega, by omega, Nat.le_refl _, n4⟩, n6, n7, hy2, w7, NBF.refl _, fun y => y.elim⟩
end MH9
