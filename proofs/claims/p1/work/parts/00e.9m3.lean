/-! ===== the history of a trace ===== -/
section MT3
/-- step k, with line L and guards ga.., was recorded at R, with guards to G, and led to F -/
def HS0 (S : Mem) (L : Int32) (ga gs gd gw : Nat → Int32) (b k : Nat) (fg : Nat → Nat) (R G F : Mem) : Prop := ∃ n ob ns nc nf f i e m h c v obF nsF dF mS nfS nsS ncS, ∃ a : Int32, (c < 256 ∧ L = nI (100 * f + i)) ∧ (ATI R (b + n) ob ns nc nf f i e m h a c ∧ f < nf) ∧ (mI R 69 71 = nI 1 ∧ mI R 69 83 = nI v ∧ v < 500 ∧ mI R 69 78 = nI (fg k) ∧ fg k + 4 ≤ 120) ∧ (d_X12_guards (nI c) R = some ((), G) ∧ GDF R G (fg k) k (fg (k + 1)) ∧ d_X12_executes (lnR G k f i) = some ((), F)) ∧ (WW F dF obF nsF nc nf ∧ ns ≤ nsF ∧ (c = 114 → 1 ≤ n)) ∧ (TX R S ns nc nf ∧ TX F S nsF nc nf ∧ mI S 69 12 = nI nsS ∧ nsF ≤ nsS ∧ nsS ≤ 60 ∧ mI S 69 8 = nI ncS ∧ nc ≤ ncS ∧ ncS ≤ 5) ∧ ((c = 107 → ∀ b2, b2 < 8 → a = nI b2 → mI S 75 b2 = mI R 75 b2) ∧ (c = 109 → ∀ b2 cl, b2 < 6 → a = nI b2 → cl < nc → mOf S b2 7 (nI cl) = mOf R b2 7 (nI cl))) ∧ (mI S 72 (40 * f + i) = nI c ∧ mI S 73 (40 * f + i) = a ∧ mI S 71 f = nI mS ∧ m ≤ mS ∧ mS ≤ 40 ∧ mI S 69 1 = nI nfS ∧ nf ≤ nfS ∧ nfS ≤ 8) ∧ ∀ g, fg k ≤ g → g < fg (k + 1) → ga g = mI G 119 g ∧ gs g = nI k ∧ gd g = mI G 121 g ∧ gw g = mI G 122 g
/-- of a trace, and of what is being recorded -/
def HST (S : Mem) (t b k : Nat) (fg : Nat → Nat) (R G F : Mem) : Prop := HS0 S (mI S 91 (30 * t + k)) (fun g => mI S 97 (120 * t + g)) (fun g => mI S 98 (120 * t + g)) (fun g => mI S 99 (120 * t + g)) (fun g => mI S 100 (120 * t + g)) b k fg R G F
def HSR (S : Mem) (b k : Nat) (fg : Nat → Nat) (R G F : Mem) : Prop := HS0 S (mI S 118 k) (fun g => mI S 119 g) (fun g => mI S 120 g) (fun g => mI S 121 g) (fun g => mI S 122 g) b k fg R G F
/-- a run that agrees with the history keeps agreeing -/
theorem his_step {M S R G F : Mem} {L : Int32} {ga gs gd gw : Nat → Int32} {b k bS n2 ob1 ns1 nc1 nf1 v2 ob2 : Nat} {fg : Nat → Nat} {eS eR : Nat → Nat} {val rval : Nat → Vl} (hH : HS0 S L ga gs gd gw b k fg R G F) (hW : WW S (bS + n2) ob1 ns1 nc1 nf1) (hRC : RC M S 18 (bS + n2) ns1) (r1 : mI S 69 71 = nI 0) (hy : d_X12_why S = some (nI 0, S)) (hc7 : ∀ f i, f < 8 → i < 40 → mI S 109 (bS + n2) = nI f → mI S 110 (bS + n2) = nI i → mI M 18 7 = mI S 72 (40 * f + i)) (hs : Sat S R bS b n2 eS eR ob1 ob2 v2 val rval) (hob : mI R 69 52 = nI ob2) (hb2 : ob2 ≤ 60) (hv2 : v2 < 1000) (hbb : n2 < 100) : TRS M S G F bS b (fg k) v2 eS eR := by
  obtain ⟨n, ob, ns, nc, nf, f, i, e, m, h, c, v, obF, nsF, dF, mS, nfS, nsS, ncS, a, ⟨c9, p1⟩, ⟨A2, hf2⟩, ⟨r2, v83, v5, g8, g120⟩, ⟨hgd, hgf, hF⟩, ⟨hWF, hns, hr⟩, ⟨hX, hXF, -⟩, ⟨hk, hm⟩, ⟨q72, q73, q71, q1, q2, q3, q4, q5⟩, hg⟩ := hH
  obtain ⟨hW2, x1, x2, x3, x4, x5, x6, x7, x8, x9, x10, x11, x12, x13, x14⟩ := id A2
  have hd12 := hW2.1.2.1
  have hob9 := hW2.2.2.2.1.2.1
  obtain rfl : n = n2 := by
    have := hW2.1.1.symm.trans hs.1.2.1
    have := qinj (by omega) (by omega) this
    omega
  obtain rfl : v = v2 := qinj (by omega) (by omega) (v83.symm.trans hs.2.1)
  obtain rfl : ob = ob2 := qinj (by omega) (by omega) (hW2.2.2.2.1.1.symm.trans hob)
  obtain ⟨fr1, fr2, -⟩ := hs.frs n (Nat.le_refl _)
  have s109 := fr1.trans x1
  have s110 := fr2.trans x3
  have hnf8 := hW.2.2.2.2.2.2.1.2.1
  obtain rfl : nf1 = nfS := qinj (by omega) (by omega) (hW.2.2.2.2.2.2.1.1.symm.trans q3)
  obtain ⟨h1, hh1, hh⟩ := (hW.1.2.2 (bS + n) (Nat.le_refl _)).2.2
  obtain ⟨e1, he1, he⟩ := hW.2.2.2.2.2.2.2.1
  have A1 : ATI S (bS + n) ob1 ns1 nc1 nf1 f i e1 mS h1 a c := ⟨hW, s109, x2, s110, x4, he, q71, by omega, q2, hh, by omega, q73, q72, .inl r1, hy⟩
  exact tr_step A1 A2 c9 (by omega) hf2 q4 hRC ((hc7 f i x2 x4 s109 s110).trans q72) r1 r2 hs v5 g8 g120 hgd hgf hF hX hXF hns hk hm hr
/-- what the tables still are to a history -/
theorem hs_mono {S S2 : Mem} {L L2 : Int32} {ga gs gd gw ha hs hd hw : Nat → Int32} {b k : Nat} {fg : Nat → Nat} {R G F : Mem} {nsS ncS nfS ns2 nc2 nf2 : Nat} (h : HS0 S L ga gs gd gw b k fg R G F) (hL : L2 = L) (hG : ∀ g, fg k ≤ g → g < fg (k + 1) → ha g = ga g ∧ hs g = gs g ∧ hd g = gd g ∧ hw g = gw g) (h12 : mI S 69 12 = nI nsS) (h12b : mI S2 69 12 = nI ns2) (h8 : mI S 69 8 = nI ncS) (h8b : mI S2 69 8 = nI nc2) (h1 : mI S 69 1 = nI nfS) (h1b : mI S2 69 1 = nI nf2) (l1 : nsS ≤ ns2) (l2 : ns2 ≤ 60) (l3 : ncS ≤ nc2) (l4 : nc2 ≤ 5) (l5 : nfS ≤ nf2) (l6 : nf2 ≤ 8) (hT : TX S S2 nsS ncS nfS) (h71 : ∀ f m, f < nfS → mI S 71 f = nI m → m ≤ 40 → ∃ m2, mI S2 71 f = nI m2 ∧ m ≤ m2 ∧ m2 ≤ 40 ∧ ∀ i, i < m → mI S2 72 (40 * f + i) = mI S 72 (40 * f + i) ∧ mI S2 73 (40 * f + i) = mI S 73 (40 * f + i)) (hk : ∀ f i b2, f < 8 → i < 40 → L = nI (100 * f + i) → mI S 72 (40 * f + i) = nI 107 → mI S 73 (40 * f + i) = nI b2 → b2 < 8 → mI S2 75 b2 = mI S 75 b2) (hm : ∀ f i b2 cl, f < 8 → i < 40 → L = nI (100 * f + i) → mI S 72 (40 * f + i) = nI 109 → mI S 73 (40 * f + i) = nI b2 → b2 < 6 → cl < ncS → mOf S2 b2 7 (nI cl) = mOf S b2 7 (nI cl)) : HS0 S2 L2 ha hs hd hw b k fg R G F := by
  obtain ⟨n, ob, ns, nc, nf, f, i, e, m, h, c, v, obF, nsF, dF, mS, nfS', nsS', ncS', a, ⟨c9, p1⟩, ⟨A2, hf2⟩, h3, h4, ⟨hWF, hns, hr⟩, ⟨hX, hXF, y1, y2, y3, y4, y5, y6⟩, ⟨hk9, hm9⟩, ⟨q72, q73, q71, q1, q2, q3, q4, q5⟩, hg⟩ := h
  have hns60 := hWF.2.2.2.2.2.1.2.1
  have hA := id A2
  obtain ⟨hW2, x1, x2, x3, x4, x5, x6, x7, x8, x9, x10, x11, x12, x13, x14⟩ := hA
  have hnsS : nsS = nsS' := qinj (by omega) (by omega) (h12.symm.trans y1)
  have hncS : ncS = ncS' := qinj (by omega) (by omega) (h8.symm.trans y4)
  have hnfS : nfS = nfS' := qinj (by omega) (by omega) (h1.symm.trans q3)
  subst hnsS hncS hnfS
  obtain ⟨m2, z1, z2, z3, z4⟩ := h71 f mS (by omega) q71 q2
  obtain ⟨z5, z6⟩ := z4 i (by omega)
  refine ⟨n, ob, ns, nc, nf, f, i, e, m, h, c, v, obF, nsF, dF, m2, nf2, ns2, nc2, a, ⟨c9, hL.trans p1⟩, ⟨A2, hf2⟩, h3, h4, ⟨hWF, hns, hr⟩, ⟨hX.trans hT (by omega) y5 q4, hXF.trans hT y2 y5 q4, h12b, by omega, l2, h8b, by omega, l4⟩, ⟨fun c1 b2 b3 b4 => ?_, fun c1 b2 cl b3 b4 b5 => ?_⟩, ⟨z5.trans q72, z6.trans q73, z1, by omega, z3, h1b, by omega, l6⟩, fun g g1 g2 => ?_⟩
  · exact (hk f i b2 x2 x4 p1 (by rw [q72, c1]) (q73.trans b4) b3).trans (hk9 c1 b2 b3 b4)
  · exact (hm f i b2 cl x2 x4 p1 (by rw [q72, c1]) (q73.trans b4) b3 (by omega)).trans (hm9 c1 b2 cl b3 b4 b5)
  · obtain ⟨w1, w2, w3, w4⟩ := hG g g1 g2
    obtain ⟨u1, u2, u3, u4⟩ := hg g g1 g2
    exact ⟨w1.trans u1, w2.trans u2, w3.trans u3, w4.trans u4⟩
/-- within a run -/
theorem hs_grw {S S2 : Mem} {L L2 : Int32} {ga gs gd gw ha hs hd hw : Nat → Int32} {b k : Nat} {fg : Nat → Nat} {R G F : Mem} {d ob ns nc nf ns2 : Nat} (h : HS0 S L ga gs gd gw b k fg R G F) (hL : L2 = L) (hG : ∀ g, fg k ≤ g → g < fg (k + 1) → ha g = ga g ∧ hs g = gs g ∧ hd g = gd g ∧ hw g = gw g) (hS : WS S ns nc) (hP : WP S nf nc) (hT : GRW S S2 ns ns2) : HS0 S2 L2 ha hs hd hw b k fg R G F := by
  have hT2 := hT
  obtain ⟨a1, a2, a3, a4, a5, a8, a6, a7⟩ := hT2
  have hnc : nc ≤ 5 := hP.2.2.2.1.1
  exact hs_mono h hL hG hS.1 (a8 hS.1) hP.2.2.1 (a3.trans hP.2.2.1) hP.1 (a2.trans hP.1) a4 a5 (Nat.le_refl _) hnc (Nat.le_refl _) hP.2.1 (hT.tx nc nf) (fun f m hf hm h40 => ⟨m, (a1 71 f (by omega) (by omega)).trans hm, Nat.le_refl _, h40, fun i hi => ⟨a1 72 _ (by omega) (by omega), a1 73 _ (by omega) (by omega)⟩⟩) (fun f i b2 _ _ _ _ _ _ => a1 75 b2 (by omega) (by omega)) (fun f i b2 cl _ _ _ _ _ _ _ => mOf_e (fun p => a1 76 p (by omega) (by omega)) (fun p => a1 77 p (by omega) (by omega)) b2 7 (nI cl))
end MT3
