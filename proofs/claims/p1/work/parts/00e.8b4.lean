/-! ===== what a recording knows holds in a run: n, c, m, p, r ===== -/
section MB84
theorem sq_n {S R E F : Mem} {bS bR n ob1 ns1 nc1 nf1 ob2 ns2 nc2 nf2 f i e1 m1 h1 e2 m2 h2 a v : Nat} {eS eR : Nat → Nat} {val rval : Nat → Vl} (A1 : ATI S (bS + n) ob1 ns1 nc1 nf1 f i e1 m1 h1 (nI a) 110) (A2 : ATI R (bR + n) ob2 ns2 nc2 nf2 f i e2 m2 h2 (nI a) 110) (r1 : mI S 69 71 = nI 0) (r2 : mI R 69 71 = nI 1) (hv500 : v < 500) (hE : d_X12_executes S = some ((), E)) (hF : d_X12_executes R = some ((), F)) (hs : Sat S R bS bR n eS eR ob1 ob2 v val rval) (ha : a < 5) (h78 : mI S 78 a = mI R 78 a) : SQ E F bS bR eS eR v := by
  obtain ⟨W1, f1, g1, i1, j1, x1, l1, y1, z1, t1, u1, a1, c1, q1, o1⟩ := A1
  have X1 := fx_n W1 f1 g1 i1 j1 x1 l1 y1 z1 t1 u1 a1 c1 ha q1 o1
  obtain ⟨W2, f2, g2, i2, j2, x2, l2, y2, z2, t2, u2, a2, c2, q2, o2⟩ := A2
  have X2 := fx_n W2 f2 g2 i2 j2 x2 l2 y2 z2 t2 u2 a2 c2 ha q2 o2
  have hd1 := W1.1.2.1
  have hd2 := W2.1.2.1
  obtain ⟨eh, at0⟩ := sat_at hs t1 t2 u1 u2
  obtain ⟨s1, s3, E1, k1, P1, O1, O3, O5⟩ := X1
  obtain rfl := ex_inj hE k1
  obtain ⟨s2, s4, E2, k2, P2, O2, O4, O6⟩ := X2
  obtain rfl := ex_inj hF k2
  have hq := sat_nw (x := (nI 111, nI ob1, FP.dconst0)) (y := (nI 111, nI ob2, FP.dconst0)) (oS2 := ob1 + 1) (oR2 := ob2 + 1) hs P1 P2 r2 hv500 t1 t2 (by omega) (by omega) (by omega) (by omega) (by omega) (by omega) (by omega) (by omega) (by omega) (fun p hp => O5 p (by omega)) (fun p hp => O6 p (by omega)) (fun b1 b2 b3 b4 => ⟨fun z => absurd b2 z, fun _ => by rw [b1]; exact ⟨rfl, rfl⟩, fun _ => by rw [b3]; exact ⟨⟨rfl, ob1, by omega, rfl, O3.trans h78⟩, rfl, ob2, by omega, rfl, O4⟩, fun z => by rw [b4] at z; exact absurd z (by decide), fun z => absurd b4 z⟩)
  exact ⟨n, ob1 + 1, ob2 + 1, v + 1, _, _, ⟨O1, by omega⟩, ⟨O2, by omega, by omega⟩, by omega, by omega, hq⟩
theorem sq_c {S R E F : Mem} {bS bR n ob1 ns1 nc1 nf1 ob2 ns2 nc2 nf2 f i e1 m1 h1 e2 m2 h2 a v : Nat} {eS eR : Nat → Nat} {val rval : Nat → Vl} (A1 : ATI S (bS + n) ob1 ns1 nc1 nf1 f i e1 m1 h1 (nI a) 99) (A2 : ATI R (bR + n) ob2 ns2 nc2 nf2 f i e2 m2 h2 (nI a) 99) (r1 : mI S 69 71 = nI 0) (r2 : mI R 69 71 = nI 1) (hv500 : v < 500) (hE : d_X12_executes S = some ((), E)) (hF : d_X12_executes R = some ((), F)) (hs : Sat S R bS bR n eS eR ob1 ob2 v val rval) (ha1 : a < nf1) (ha2 : a < nf2) (h70 : mI S 70 a = mI R 70 a) : SQ E F bS bR eS eR v := by
  obtain ⟨W1, f1, g1, i1, j1, x1, l1, y1, z1, t1, u1, a1, c1, q1, o1⟩ := A1
  have X1 := fx_c W1 f1 g1 i1 j1 x1 l1 y1 z1 t1 u1 a1 c1 ha1 q1 o1
  obtain ⟨W2, f2, g2, i2, j2, x2, l2, y2, z2, t2, u2, a2, c2, q2, o2⟩ := A2
  have X2 := fx_c W2 f2 g2 i2 j2 x2 l2 y2 z2 t2 u2 a2 c2 ha2 q2 o2
  have hd1 := W1.1.2.1
  have hd2 := W2.1.2.1
  obtain ⟨tS, mS, hm1, hm2, rfl, hd3, E1, k1, P1, O1⟩ := X1
  obtain rfl := ex_inj hE k1
  obtain ⟨tR, mR, hm3, hm4, rfl, hd4, E2, k2, P2, O2⟩ := X2
  obtain rfl := ex_inj hF k2
  obtain rfl : mS = mR := qinj (by omega) (by omega) (hm2.symm.trans (h70.trans hm4))
  have hq := sat_cl hs P1 P2 O1 O2 r2 hv500 hm1 t1 t2 (by omega) (by omega)
  exact ⟨n + 1, ob1, ob2, v + (6 - mS), _, _, ⟨O1.1.trans W1.2.2.2.1.1, W1.2.2.2.1.2.1⟩, ⟨O2.1.trans W2.2.2.2.1.1, W2.2.2.2.1.2.1, by omega⟩, by omega, by omega, hq⟩
theorem sq_m {S R E F : Mem} {bS bR n ob1 ns1 nc1 nf1 ob2 ns2 nc2 nf2 f i e1 m1 h1 e2 m2 h2 a v : Nat} {eS eR : Nat → Nat} {val rval : Nat → Vl} (A1 : ATI S (bS + n) ob1 ns1 nc1 nf1 f i e1 m1 h1 (nI a) 109) (A2 : ATI R (bR + n) ob2 ns2 nc2 nf2 f i e2 m2 h2 (nI a) 109) (r1 : mI S 69 71 = nI 0) (r2 : mI R 69 71 = nI 1) (hv500 : v < 500) (hE : d_X12_executes S = some ((), E)) (hF : d_X12_executes R = some ((), F)) (hs : Sat S R bS bR n eS eR ob1 ob2 v val rval) (ha : a < 6) (hsh : ∀ tS tR qS qR, h1 = tS + 1 → h2 = tR + 1 → qS < 60 → qR < 60 → mI S 106 (14 * (bS + n) + 6 + tS) = nI qS → mI R 106 (14 * (bR + n) + 6 + tR) = nI qR → mI S 112 qS = mI R 112 qR) (h79 : ∀ s, s < ns2 → mI S 79 s = mI R 79 s) (hmo : ∀ cl, cl < nc2 → mOf S a 7 (nI cl) = mOf R a 7 (nI cl)) : SQ E F bS bR eS eR v := by
  obtain ⟨W1, f1, g1, i1, j1, x1, l1, y1, z1, t1, u1, a1, c1, q1, o1⟩ := A1
  have X1 := fx_m W1 f1 g1 i1 j1 x1 l1 y1 z1 t1 u1 a1 c1 ha q1 o1
  obtain ⟨W2, f2, g2, i2, j2, x2, l2, y2, z2, t2, u2, a2, c2, q2, o2⟩ := A2
  have X2 := fx_m W2 f2 g2 i2 j2 x2 l2 y2 z2 t2 u2 a2 c2 ha q2 o2
  have hd1 := W1.1.2.1
  have hd2 := W2.1.2.1
  have hob1 := W1.2.2.2.1.2.1
  have hob2 := W2.2.2.2.1.2.1
  have hns1 := W1.2.2.2.2.2.1.2.1
  have hns2 := W2.2.2.2.2.2.1.2.1
  have hnf1 := W1.2.2.2.2.2.2.1.2.1
  have hnf2 := W2.2.2.2.2.2.2.1.2.1
  have hnc1 := W1.2.2.2.2.2.2.1.2.2.2.1.1
  have hnc2 := W2.2.2.2.2.2.2.1.2.2.2.1.1
  obtain ⟨tS, qS, sS, cS, gS, rfl, ⟨B1, B2, B3, B4, B5, B6, B7⟩, G1, G2, G3, hd3, E1, k1, P1, O1⟩ := X1
  obtain rfl := ex_inj hE k1
  obtain ⟨tR, qR, sR, cR, gR, rfl, ⟨C1, C2, C3, C4, C5, C6, C7⟩, H1, H2, H3, hd4, E2, k2, P2, O2⟩ := X2
  obtain rfl := ex_inj hF k2
  obtain rfl : sS = sR := qinj (by omega) (by omega) (B4.symm.trans ((hsh tS tR qS qR rfl rfl (by omega) (by omega) B2 C2).trans C4))
  obtain rfl : cS = cR := qinj (by omega) (by omega) (B6.symm.trans ((h79 sS C5).trans C6))
  obtain rfl : gS = gR := qinj (by omega) (by omega) (G1.symm.trans ((hmo cS C7).trans H1))
  have hq := sat_cl hs P1 P2 O1 O2 r2 hv500 (by omega) t1 t2 (by omega) (by omega)
  exact ⟨n + 1, ob1, ob2, v + (6 - 1), _, _, ⟨O1.1.trans W1.2.2.2.1.1, W1.2.2.2.1.2.1⟩, ⟨O2.1.trans W2.2.2.2.1.1, W2.2.2.2.1.2.1, by omega⟩, by omega, by omega, hq⟩
theorem sq_p {S R E F : Mem} {bS bR n ob1 ns1 nc1 nf1 ob2 ns2 nc2 nf2 f i e1 m1 h1 e2 m2 h2 a v : Nat} {eS eR : Nat → Nat} {val rval : Nat → Vl} (A1 : ATI S (bS + n) ob1 ns1 nc1 nf1 f i e1 m1 h1 (nI a) 112) (A2 : ATI R (bR + n) ob2 ns2 nc2 nf2 f i e2 m2 h2 (nI a) 112) (r1 : mI S 69 71 = nI 0) (r2 : mI R 69 71 = nI 1) (hv500 : v < 500) (hE : d_X12_executes S = some ((), E)) (hF : d_X12_executes R = some ((), F)) (hs : Sat S R bS bR n eS eR ob1 ob2 v val rval) (ha : a < 6) (hsh : ∀ tS tR qS qR, h1 = tS + 2 → h2 = tR + 2 → qS < 60 → qR < 60 → mI S 106 (14 * (bS + n) + 6 + tS) = nI qS → mI R 106 (14 * (bR + n) + 6 + tR) = nI qR → mI S 112 qS = mI R 112 qR) (hhf : ∀ s, s < ns2 → (hasF S s a ↔ hasF R s a)) (h82 : ∀ s s2, s < ns2 → s2 < 60 → mI F 82 (6 * s + a) = nI s2 → mI S 82 (6 * s + a) = nI s2) : SQ E F bS bR eS eR v := by
  obtain ⟨W1, f1, g1, i1, j1, x1, l1, y1, z1, t1, u1, a1, c1, q1, o1⟩ := A1
  have X1 := fx_p W1 f1 g1 i1 j1 x1 l1 y1 z1 t1 u1 a1 c1 ha q1 o1
  obtain ⟨W2, f2, g2, i2, j2, x2, l2, y2, z2, t2, u2, a2, c2, q2, o2⟩ := A2
  have X2 := fx_p W2 f2 g2 i2 j2 x2 l2 y2 z2 t2 u2 a2 c2 ha q2 o2
  have hd1 := W1.1.2.1
  have hd2 := W2.1.2.1
  obtain ⟨eh, at0⟩ := sat_at hs t1 t2 u1 u2
  have hob1 := W1.2.2.2.1.2.1
  have hob2 := W2.2.2.2.1.2.1
  have hns1 := W1.2.2.2.2.2.1.2.1
  have hns2 := W2.2.2.2.2.2.1.2.1
  obtain ⟨tS, qS, sS, cS, zS, rfl, ⟨B1, B2, B3, B4, B5, B6, B7⟩, G1, -, E1, k1, P1⟩ := X1
  obtain rfl := ex_inj hE k1
  obtain ⟨tR, qR, sR, cR, zR, rfl, ⟨C1, C2, C3, C4, C5, C6, C7⟩, H1, -, E2, k2, P2⟩ := X2
  obtain rfl := ex_inj hF k2
  obtain rfl : sS = sR := qinj (by omega) (by omega) (B4.symm.trans ((hsh tS tR qS qR rfl rfl (by omega) (by omega) B2 C2).trans C4))
  have ez : zS = zR := by
    obtain ⟨-, -, -, -, a1, a2, -⟩ := id P1
    obtain ⟨-, -, -, -, b1, b2, -⟩ := id P2
    by_cases q : hasF R sS a
    · rw [a1 ((hhf sS C5).mpr q), b1 q]
    · obtain ⟨c1, c2, c3⟩ := a2 (fun z => q ((hhf sS C5).mp z))
      obtain ⟨d1, d2, d3⟩ := b2 q
      have e82 := h82 sS zR C5 H1 d3
      rcases c2 with c2 | c2
      · rw [e82] at c2; exact absurd c2 (of_eq_false (qneg_ne (by omega)))
      · exact qinj (by omega) (by omega) (c2.symm.trans e82)
  subst ez
  have hq := sat_pu hs P1 P2 hd1 hd2 r1 r2 hv500 t1 t2 (by omega) (by omega) rfl rfl B4 C4 B3 C3 B1 C1 B2 C2
  exact ⟨n, ob1, ob2, v, _, _, ⟨P1.2.1.trans W1.2.2.2.1.1, W1.2.2.2.1.2.1⟩, ⟨P2.2.1.trans W2.2.2.2.1.1, W2.2.2.2.1.2.1, by omega⟩, by omega, by omega, hq⟩
theorem sq_r {S R E F : Mem} {bS bR n ob1 ns1 nc1 nf1 ob2 ns2 nc2 nf2 f i e1 m1 h1 e2 m2 h2 a v : Nat} {eS eR : Nat → Nat} {val rval : Nat → Vl} (A1 : ATI S (bS + n) ob1 ns1 nc1 nf1 f i e1 m1 h1 (nI a) 114) (A2 : ATI R (bR + n) ob2 ns2 nc2 nf2 f i e2 m2 h2 (nI a) 114) (r1 : mI S 69 71 = nI 0) (r2 : mI R 69 71 = nI 1) (hv500 : v < 500) (hE : d_X12_executes S = some ((), E)) (hF : d_X12_executes R = some ((), F)) (hs : Sat S R bS bR n eS eR ob1 ob2 v val rval) (hn : 1 ≤ n) : SQ E F bS bR eS eR v := by
  obtain ⟨W1, f1, g1, i1, j1, x1, l1, y1, z1, t1, u1, a1, c1, q1, o1⟩ := A1
  have X1 := fx_r W1 f1 g1 i1 j1 x1 l1 y1 z1 t1 u1 a1 c1  o1
  obtain ⟨W2, f2, g2, i2, j2, x2, l2, y2, z2, t2, u2, a2, c2, q2, o2⟩ := A2
  have X2 := fx_r W2 f2 g2 i2 j2 x2 l2 y2 z2 t2 u2 a2 c2  o2
  have hd1 := W1.1.2.1
  have hd2 := W2.1.2.1
  obtain ⟨tS, rfl, X1⟩ := X1
  obtain ⟨cS, uS, d1, kS, uS8, E1, k1, P1⟩ := X1.resolve_left (by omega)
  obtain rfl := ex_inj hE k1
  obtain ⟨tR, rfl, X2⟩ := X2
  obtain ⟨cR, uR, d2, kR, uR8, E2, k2, P2⟩ := X2.resolve_left (by omega)
  obtain rfl := ex_inj hF k2
  obtain ⟨n2, rfl⟩ : ∃ n2, n = n2 + 1 := ⟨n - 1, by omega⟩
  obtain rfl : cS = bS + n2 := by omega
  obtain rfl : cR = bR + n2 := by omega
  have hq := sat_rt hs P1 P2 t1 t2 (by omega) (by omega) kS kR uS8 uR8
  exact ⟨n2, ob1, ob2, v, _, _, ⟨P1.2.2.2.2.2.2.2.1.trans W1.2.2.2.1.1, W1.2.2.2.1.2.1⟩, ⟨P2.2.2.2.2.2.2.2.1.trans W2.2.2.2.1.1, W2.2.2.2.1.2.1, by omega⟩, by omega, by omega, hq⟩
end MB84
