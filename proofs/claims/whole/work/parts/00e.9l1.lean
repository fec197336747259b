/-! ===== the history of a trace ===== -/
section MR1H
/-- step k of trace t was recorded at R, with guards to G, and led to F -/
def HST (S : Mem) (t b k : Nat) (fg : Nat → Nat) (R G F : Mem) : Prop := ∃ n ob ns nc nf f i e m h c v obF nsF dF mS nfS, ∃ a : Int32, (c < 256 ∧ mI S 91 (30 * t + k) = nI (100 * f + i)) ∧ (ATI R (b + n) ob ns nc nf f i e m h a c ∧ f < nf) ∧ (mI R 69 71 = nI 1 ∧ mI R 69 83 = nI v ∧ v < 500 ∧ mI R 69 78 = nI (fg k) ∧ fg k + 4 ≤ 120) ∧ (d_X12_guards (nI c) R = some ((), G) ∧ GDF R G (fg k) k (fg (k + 1)) ∧ d_X12_executes (lnR G k f i) = some ((), F)) ∧ (WW F dF obF nsF nc nf ∧ ns ≤ nsF ∧ (c = 114 → 1 ≤ n)) ∧ (TX R S ns nc nf ∧ TX F S nsF nc nf) ∧ ((c = 107 → ∀ b2, b2 < 8 → a = nI b2 → mI S 75 b2 = mI R 75 b2) ∧ (c = 109 → ∀ b2 cl, b2 < 6 → a = nI b2 → cl < nc → mOf S b2 7 (nI cl) = mOf R b2 7 (nI cl))) ∧ (mI S 72 (40 * f + i) = nI c ∧ mI S 73 (40 * f + i) = a ∧ mI S 71 f = nI mS ∧ m ≤ mS ∧ mS ≤ 40 ∧ mI S 69 1 = nI nfS ∧ nf ≤ nfS ∧ nfS ≤ 8) ∧ ∀ g, fg k ≤ g → g < fg (k + 1) → mI S 97 (120 * t + g) = mI G 119 g ∧ mI S 98 (120 * t + g) = nI k ∧ mI S 99 (120 * t + g) = mI G 121 g ∧ mI S 100 (120 * t + g) = mI G 122 g
/-- a run that agrees with the history keeps agreeing -/
theorem his_step {M S R G F : Mem} {t b k bS n2 ob1 ns1 nc1 nf1 v2 ob2 : Nat} {fg : Nat → Nat} {eS eR : Nat → Nat} {val rval : Nat → Vl} (hH : HST S t b k fg R G F) (hW : WW S (bS + n2) ob1 ns1 nc1 nf1) (hRC : RC M S 18 (bS + n2) ns1) (r1 : mI S 69 71 = nI 0) (hy : d_X12_why S = some (nI 0, S)) (hc7 : ∀ f i, mI S 109 (bS + n2) = nI f → mI S 110 (bS + n2) = nI i → mI M 18 7 = mI S 72 (40 * f + i)) (hs : Sat S R bS b n2 eS eR ob1 ob2 v2 val rval) (hob : mI R 69 52 = nI ob2) (hb2 : ob2 ≤ 60) (hv2 : v2 < 500) (hbb : b + n2 < 12) : TRS M S G F bS b (fg k) v2 eS eR := by
  obtain ⟨n, ob, ns, nc, nf, f, i, e, m, h, c, v, obF, nsF, dF, mS, nfS, a, ⟨c9, p1⟩, ⟨A2, hf2⟩, ⟨r2, v83, v5, g8, g120⟩, ⟨hgd, hgf, hF⟩, ⟨hWF, hns, hr⟩, ⟨hX, hXF⟩, ⟨hk, hm⟩, ⟨q72, q73, q71, q1, q2, q3, q4, q5⟩, hg⟩ := hH
  obtain ⟨hW2, x1, x2, x3, x4, x5, x6, x7, x8, x9, x10, x11, x12, x13, x14⟩ := id A2
  have hd12 := hW2.1.2.1
  have hob9 := hW2.2.2.2.1.2.1
  obtain rfl : n = n2 := by
    have := hW2.1.1.symm.trans hs.1.2.1
    have := qinj (by omega) (by omega) this
    omega
  obtain rfl : v = v2 := qinj (by omega) (by omega) (v83.symm.trans hs.2.1)
  obtain rfl : ob = ob2 := qinj (by omega) (by omega) (hW2.2.2.2.1.1.symm.trans hob)
  obtain ⟨fr1, fr2, -⟩ := hs.frs n (Nat.le_refl _)
  have s109 := fr1.trans x1
  have s110 := fr2.trans x3
  have hnf8 := hW.2.2.2.2.2.2.1.2.1
  obtain rfl : nf1 = nfS := qinj (by omega) (by omega) (hW.2.2.2.2.2.2.1.1.symm.trans q3)
  obtain ⟨h1, hh1, hh⟩ := (hW.1.2.2 (bS + n) (Nat.le_refl _)).2.2
  obtain ⟨e1, he1, he⟩ := hW.2.2.2.2.2.2.2.1
  have A1 : ATI S (bS + n) ob1 ns1 nc1 nf1 f i e1 mS h1 a c := ⟨hW, s109, x2, s110, x4, he, q71, by omega, q2, hh, by omega, q73, q72, .inl r1, hy⟩
  exact tr_step A1 A2 c9 (by omega) hf2 q4 hRC ((hc7 f i s109 s110).trans q72) r1 r2 hs v5 g8 g120 hgd hgf hF hX hXF hns hk hm hr
end MR1H
