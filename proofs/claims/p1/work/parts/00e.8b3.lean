/-! ===== what a recording knows holds in a run: by letter ===== -/
section MB83
theorem n105n : ¬ nI 105 = nI 110 := by decide
/-- an instruction that does not fail lies ahead -/
def ATI (S : Mem) (d ob ns nc nf f i e n h : Nat) (a : Int32) (c : Nat) : Prop := WW S d ob ns nc nf ∧ mI S 109 d = nI f ∧ f < 8 ∧ mI S 110 d = nI i ∧ i < 40 ∧ mI S 69 57 = nI e ∧ mI S 71 f = nI n ∧ i < n ∧ n ≤ 40 ∧ mI S 111 d = nI h ∧ h ≤ 8 ∧ mI S 73 (40 * f + i) = a ∧ mI S 72 (40 * f + i) = nI c ∧ WR S d ∧ d_X12_why S = some (nI 0, S)
def SQ (E F : Mem) (bS bR : Nat) (eS eR : Nat → Nat) (v : Nat) : Prop := ∃ n oS oR v2 val rval, (mI E 69 52 = nI oS ∧ oS ≤ 60) ∧ (mI F 69 52 = nI oR ∧ oR ≤ 60 ∧ n < 100) ∧ v ≤ v2 ∧ v2 ≤ v + 6 ∧ Sat E F bS bR n eS eR oS oR v2 val rval
theorem ex_inj {S E E2 : Mem} (h1 : d_X12_executes S = some ((), E)) (h2 : d_X12_executes S = some ((), E2)) : E2 = E := congrArg Prod.snd (Option.some.inj (h2.symm.trans h1))
theorem Kn_made {F E : Mem} {oS oR u : Nat} {x y : Vl} {kc : Int32} (h1 : mI F 123 u = y.1) (h2 : mI F 124 u = kc) (h3 : mI F 125 u = -nI 1) (h4 : mI F 126 u = nz kc y.1 y.2.1 y.2.2) (hk : ¬ y.1 = nI 110) (hx : x.1 = y.1) (hc : ¬ kc = nI 0 → x = y) : Kn E F oS oR u x y := by
  have hkx : ¬ x.1 = nI 110 := by rw [hx]; exact hk
  refine ⟨fun z => hc (by rw [← h2]; exact z), fun _ => ⟨by rw [h1]; exact hx, h1.symm⟩, fun z => absurd h3 z, fun z => ?_, fun z1 z2 => ?_⟩
  · rw [h4] at z
    unfold nz at z
    by_cases q : kc = nI 0
    · rw [if_pos q] at z; exact absurd z (by decide)
    · rw [if_neg q] at z
      by_cases q2 : isZ y.1 y.2.1 y.2.2
      · rw [hc q]; exact ⟨.inr q2, .inr q2⟩
      · rw [if_neg q2] at z; exact absurd z (by decide)
  · rw [h4] at z1 z2
    unfold nz at z1 z2
    by_cases q : kc = nI 0
    · rw [if_pos q] at z1; exact absurd rfl z1
    · rw [if_neg q] at z2
      by_cases q2 : isZ y.1 y.2.1 y.2.2
      · rw [if_pos q2] at z2; exact absurd rfl z2
      · rw [hc q]; exact ⟨fun r => r.elim hk q2, fun r => r.elim hk q2⟩
theorem Kn_none {F E : Mem} {oS oR u : Nat} {x y : Vl} (h1 : mI F 123 u = nI 0) (h2 : mI F 124 u = nI 0) (h3 : mI F 125 u = -nI 1) (h4 : mI F 126 u = nI 0) : Kn E F oS oR u x y :=
  ⟨fun z => absurd h2 z, fun z => absurd h1 z, fun z => absurd h3 z, fun z => by rw [h4] at z; exact absurd z (by decide), fun z => absurd h4 z⟩
theorem sat_at {S R : Mem} {bS bR n oS oR v hS hR : Nat} {eS eR : Nat → Nat} {val rval : Nat → Vl} (hs : Sat S R bS bR n eS eR oS oR v val rval) (tS : mI S 111 (bS + n) = nI hS) (tR : mI R 111 (bR + n) = nI hR) (h8S : hS ≤ 8) (h8R : hR ≤ 8) : hS + eR n = hR + eS n ∧ ∀ k l, (k < 6 ∧ l = k) ∨ (6 ≤ k ∧ 6 ≤ l ∧ k < 6 + hR ∧ l < 6 + hS ∧ l + hR = k + hS) → At S R v val rval (14 * (bR + n) + k) (14 * (bS + n) + l) := by
  have eh := (hs.1.2.2.2 n (Nat.le_refl _)).2.2.1
  rw [hN_e (S := S) tS h8S, hN_e (S := S) tR h8R] at eh
  refine ⟨eh, fun k l hc => hs.2.2.1 n k l (Nat.le_refl _) ?_⟩
  unfold Cv
  rw [hN_e (S := S) tS h8S, hN_e (S := S) tR h8R]
  omega
theorem sq_l {S R E F : Mem} {bS bR n ob1 ns1 nc1 nf1 ob2 ns2 nc2 nf2 f i e1 m1 h1 e2 m2 h2 a v : Nat} {eS eR : Nat → Nat} {val rval : Nat → Vl} (A1 : ATI S (bS + n) ob1 ns1 nc1 nf1 f i e1 m1 h1 (nI a) 108) (A2 : ATI R (bR + n) ob2 ns2 nc2 nf2 f i e2 m2 h2 (nI a) 108) (r1 : mI S 69 71 = nI 0) (r2 : mI R 69 71 = nI 1) (hv500 : v < 500) (hE : d_X12_executes S = some ((), E)) (hF : d_X12_executes R = some ((), F)) (hs : Sat S R bS bR n eS eR ob1 ob2 v val rval) (ha : a < 6) : SQ E F bS bR eS eR v := by
  obtain ⟨W1, f1, g1, i1, j1, x1, l1, y1, z1, t1, u1, a1, c1, q1, o1⟩ := A1
  have X1 := fx_l W1 f1 g1 i1 j1 x1 l1 y1 z1 t1 u1 a1 c1 ha o1
  obtain ⟨W2, f2, g2, i2, j2, x2, l2, y2, z2, t2, u2, a2, c2, q2, o2⟩ := A2
  have X2 := fx_l W2 f2 g2 i2 j2 x2 l2 y2 z2 t2 u2 a2 c2 ha o2
  have hd1 := W1.1.2.1
  have hd2 := W2.1.2.1
  obtain ⟨eh, at0⟩ := sat_at hs t1 t2 u1 u2
  obtain ⟨s1, ⟨E1, k1, P1⟩⟩ := X1
  obtain rfl := ex_inj hE k1
  obtain ⟨s2, ⟨E2, k2, P2⟩⟩ := X2
  obtain rfl := ex_inj hF k2
  refine ⟨n, ob1, ob2, v, val, rval, (⟨P1.2.2.2.1.trans W1.2.2.2.1.1, W1.2.2.2.1.2.1⟩), (⟨P2.2.2.2.1.trans W2.2.2.2.1.1, W2.2.2.2.1.2.1, by omega⟩), (by omega), (by omega), ?_⟩
  simp only [Nat.add_assoc] at P1 P2
  exact sat_cp (lp := a) (kp := a) (lq := 6 + h1) (kq := 6 + h2) hs P1 P2 t1 t2 (by omega) (by omega) (by omega) (by omega) (by omega) (by omega) (by omega)
theorem sq_s {S R E F : Mem} {bS bR n ob1 ns1 nc1 nf1 ob2 ns2 nc2 nf2 f i e1 m1 h1 e2 m2 h2 a v : Nat} {eS eR : Nat → Nat} {val rval : Nat → Vl} (A1 : ATI S (bS + n) ob1 ns1 nc1 nf1 f i e1 m1 h1 (nI a) 115) (A2 : ATI R (bR + n) ob2 ns2 nc2 nf2 f i e2 m2 h2 (nI a) 115) (r1 : mI S 69 71 = nI 0) (r2 : mI R 69 71 = nI 1) (hv500 : v < 500) (hE : d_X12_executes S = some ((), E)) (hF : d_X12_executes R = some ((), F)) (hs : Sat S R bS bR n eS eR ob1 ob2 v val rval) (ha : a < 6) : SQ E F bS bR eS eR v := by
  obtain ⟨W1, f1, g1, i1, j1, x1, l1, y1, z1, t1, u1, a1, c1, q1, o1⟩ := A1
  have X1 := fx_s W1 f1 g1 i1 j1 x1 l1 y1 z1 t1 u1 a1 c1 ha o1
  obtain ⟨W2, f2, g2, i2, j2, x2, l2, y2, z2, t2, u2, a2, c2, q2, o2⟩ := A2
  have X2 := fx_s W2 f2 g2 i2 j2 x2 l2 y2 z2 t2 u2 a2 c2 ha o2
  have hd1 := W1.1.2.1
  have hd2 := W2.1.2.1
  obtain ⟨eh, at0⟩ := sat_at hs t1 t2 u1 u2
  obtain ⟨tS, rfl, ⟨E1, k1, P1⟩⟩ := X1
  obtain rfl := ex_inj hE k1
  obtain ⟨tR, rfl, ⟨E2, k2, P2⟩⟩ := X2
  obtain rfl := ex_inj hF k2
  refine ⟨n, ob1, ob2, v, val, rval, (⟨P1.2.2.2.1.trans W1.2.2.2.1.1, W1.2.2.2.1.2.1⟩), (⟨P2.2.2.2.1.trans W2.2.2.2.1.1, W2.2.2.2.1.2.1, by omega⟩), (by omega), (by omega), ?_⟩
  simp only [Nat.add_assoc] at P1 P2
  exact sat_cp (lp := 6 + tS) (kp := 6 + tR) (lq := a) (kq := a) hs P1 P2 t1 t2 (by omega) (by omega) (by omega) (by omega) (by omega) (by omega) (by omega)
theorem sq_u {S R E F : Mem} {bS bR n ob1 ns1 nc1 nf1 ob2 ns2 nc2 nf2 f i e1 m1 h1 e2 m2 h2 a v : Nat} {eS eR : Nat → Nat} {val rval : Nat → Vl} (A1 : ATI S (bS + n) ob1 ns1 nc1 nf1 f i e1 m1 h1 (nI a) 117) (A2 : ATI R (bR + n) ob2 ns2 nc2 nf2 f i e2 m2 h2 (nI a) 117) (r1 : mI S 69 71 = nI 0) (r2 : mI R 69 71 = nI 1) (hv500 : v < 500) (hE : d_X12_executes S = some ((), E)) (hF : d_X12_executes R = some ((), F)) (hs : Sat S R bS bR n eS eR ob1 ob2 v val rval) : SQ E F bS bR eS eR v := by
  obtain ⟨W1, f1, g1, i1, j1, x1, l1, y1, z1, t1, u1, a1, c1, q1, o1⟩ := A1
  have X1 := fx_u W1 f1 g1 i1 j1 x1 l1 y1 z1 t1 u1 a1 c1  o1
  obtain ⟨W2, f2, g2, i2, j2, x2, l2, y2, z2, t2, u2, a2, c2, q2, o2⟩ := A2
  have X2 := fx_u W2 f2 g2 i2 j2 x2 l2 y2 z2 t2 u2 a2 c2  o2
  have hd1 := W1.1.2.1
  have hd2 := W2.1.2.1
  obtain ⟨eh, at0⟩ := sat_at hs t1 t2 u1 u2
  obtain ⟨tS, rfl, s1, ⟨E1, k1, P1⟩⟩ := X1
  obtain rfl := ex_inj hE k1
  obtain ⟨tR, rfl, s2, ⟨E2, k2, P2⟩⟩ := X2
  obtain rfl := ex_inj hF k2
  refine ⟨n, ob1, ob2, v, val, rval, (⟨P1.2.2.2.1.trans W1.2.2.2.1.1, W1.2.2.2.1.2.1⟩), (⟨P2.2.2.2.1.trans W2.2.2.2.1.1, W2.2.2.2.1.2.1, by omega⟩), (by omega), (by omega), ?_⟩
  simp only [Nat.add_assoc] at P1 P2
  exact sat_cp (lp := 6 + tS) (kp := 6 + tR) (lq := 6 + (tS + 1)) (kq := 6 + (tR + 1)) hs P1 P2 t1 t2 (by omega) (by omega) (by omega) (by omega) (by omega) (by omega) (by omega)
theorem sq_d {S R E F : Mem} {bS bR n ob1 ns1 nc1 nf1 ob2 ns2 nc2 nf2 f i e1 m1 h1 e2 m2 h2 a v : Nat} {eS eR : Nat → Nat} {val rval : Nat → Vl} (A1 : ATI S (bS + n) ob1 ns1 nc1 nf1 f i e1 m1 h1 (nI a) 100) (A2 : ATI R (bR + n) ob2 ns2 nc2 nf2 f i e2 m2 h2 (nI a) 100) (r1 : mI S 69 71 = nI 0) (r2 : mI R 69 71 = nI 1) (hv500 : v < 500) (hE : d_X12_executes S = some ((), E)) (hF : d_X12_executes R = some ((), F)) (hs : Sat S R bS bR n eS eR ob1 ob2 v val rval) : SQ E F bS bR eS eR v := by
  obtain ⟨W1, f1, g1, i1, j1, x1, l1, y1, z1, t1, u1, a1, c1, q1, o1⟩ := A1
  have X1 := fx_d W1 f1 g1 i1 j1 x1 l1 y1 z1 t1 u1 a1 c1  o1
  obtain ⟨W2, f2, g2, i2, j2, x2, l2, y2, z2, t2, u2, a2, c2, q2, o2⟩ := A2
  have X2 := fx_d W2 f2 g2 i2 j2 x2 l2 y2 z2 t2 u2 a2 c2  o2
  have hd1 := W1.1.2.1
  have hd2 := W2.1.2.1
  obtain ⟨eh, at0⟩ := sat_at hs t1 t2 u1 u2
  obtain ⟨tS, rfl, ⟨E1, k1, P1⟩⟩ := X1
  obtain rfl := ex_inj hE k1
  obtain ⟨tR, rfl, ⟨E2, k2, P2⟩⟩ := X2
  obtain rfl := ex_inj hF k2
  refine ⟨n, ob1, ob2, v, val, rval, (⟨P1.2.2.1.trans W1.2.2.2.1.1, W1.2.2.2.1.2.1⟩), (⟨P2.2.2.1.trans W2.2.2.2.1.1, W2.2.2.2.1.2.1, by omega⟩), (by omega), (by omega), ?_⟩
  exact sat_no hs P1 P2 t1 t2 (by omega) (by omega) (by omega) (by omega) (by omega) hd1 hd2
theorem sq_t {S R E F : Mem} {bS bR n ob1 ns1 nc1 nf1 ob2 ns2 nc2 nf2 f i e1 m1 h1 e2 m2 h2 a v : Nat} {eS eR : Nat → Nat} {val rval : Nat → Vl} (A1 : ATI S (bS + n) ob1 ns1 nc1 nf1 f i e1 m1 h1 (nI a) 116) (A2 : ATI R (bR + n) ob2 ns2 nc2 nf2 f i e2 m2 h2 (nI a) 116) (r1 : mI S 69 71 = nI 0) (r2 : mI R 69 71 = nI 1) (hv500 : v < 500) (hE : d_X12_executes S = some ((), E)) (hF : d_X12_executes R = some ((), F)) (hs : Sat S R bS bR n eS eR ob1 ob2 v val rval) : SQ E F bS bR eS eR v := by
  obtain ⟨W1, f1, g1, i1, j1, x1, l1, y1, z1, t1, u1, a1, c1, q1, o1⟩ := A1
  have X1 := fx_t W1 f1 g1 i1 j1 x1 l1 y1 z1 t1 u1 a1 c1  o1
  obtain ⟨W2, f2, g2, i2, j2, x2, l2, y2, z2, t2, u2, a2, c2, q2, o2⟩ := A2
  have X2 := fx_t W2 f2 g2 i2 j2 x2 l2 y2 z2 t2 u2 a2 c2  o2
  have hd1 := W1.1.2.1
  have hd2 := W2.1.2.1
  obtain ⟨eh, at0⟩ := sat_at hs t1 t2 u1 u2
  obtain ⟨tS, rfl, ⟨E1, k1, P1⟩⟩ := X1
  obtain rfl := ex_inj hE k1
  obtain ⟨tR, rfl, ⟨E2, k2, P2⟩⟩ := X2
  obtain rfl := ex_inj hF k2
  refine ⟨n, ob1, ob2, v, val, rval, (⟨P1.2.2.1.trans W1.2.2.2.1.1, W1.2.2.2.1.2.1⟩), (⟨P2.2.2.1.trans W2.2.2.2.1.1, W2.2.2.2.1.2.1, by omega⟩), (by omega), (by omega), ?_⟩
  exact sat_no hs P1 P2 t1 t2 (by omega) (by omega) (by omega) (by omega) (by omega) hd1 hd2
theorem sq_j {S R E F : Mem} {bS bR n ob1 ns1 nc1 nf1 ob2 ns2 nc2 nf2 f i e1 m1 h1 e2 m2 h2 a v : Nat} {eS eR : Nat → Nat} {val rval : Nat → Vl} (A1 : ATI S (bS + n) ob1 ns1 nc1 nf1 f i e1 m1 h1 (nI a) 106) (A2 : ATI R (bR + n) ob2 ns2 nc2 nf2 f i e2 m2 h2 (nI a) 106) (r1 : mI S 69 71 = nI 0) (r2 : mI R 69 71 = nI 1) (hv500 : v < 500) (hE : d_X12_executes S = some ((), E)) (hF : d_X12_executes R = some ((), F)) (hs : Sat S R bS bR n eS eR ob1 ob2 v val rval) (ha : a < 40) : SQ E F bS bR eS eR v := by
  obtain ⟨W1, f1, g1, i1, j1, x1, l1, y1, z1, t1, u1, a1, c1, q1, o1⟩ := A1
  have X1 := fx_j W1 f1 g1 i1 j1 x1 l1 y1 z1 t1 u1 a1 c1 ha o1
  obtain ⟨W2, f2, g2, i2, j2, x2, l2, y2, z2, t2, u2, a2, c2, q2, o2⟩ := A2
  have X2 := fx_j W2 f2 g2 i2 j2 x2 l2 y2 z2 t2 u2 a2 c2 ha o2
  have hd1 := W1.1.2.1
  have hd2 := W2.1.2.1
  obtain ⟨eh, at0⟩ := sat_at hs t1 t2 u1 u2
  obtain ⟨E1, k1, P1⟩ := X1
  obtain rfl := ex_inj hE k1
  obtain ⟨E2, k2, P2⟩ := X2
  obtain rfl := ex_inj hF k2
  refine ⟨n, ob1, ob2, v, val, rval, (⟨P1.2.2.1.trans W1.2.2.2.1.1, W1.2.2.2.1.2.1⟩), (⟨P2.2.2.1.trans W2.2.2.2.1.1, W2.2.2.2.1.2.1, by omega⟩), (by omega), (by omega), ?_⟩
  exact sat_no hs P1 P2 t1 t2 (by omega) (by omega) (by omega) (by omega) (by omega) hd1 hd2
theorem sq_z {S R E F : Mem} {bS bR n ob1 ns1 nc1 nf1 ob2 ns2 nc2 nf2 f i e1 m1 h1 e2 m2 h2 a v : Nat} {eS eR : Nat → Nat} {val rval : Nat → Vl} (A1 : ATI S (bS + n) ob1 ns1 nc1 nf1 f i e1 m1 h1 (nI a) 122) (A2 : ATI R (bR + n) ob2 ns2 nc2 nf2 f i e2 m2 h2 (nI a) 122) (r1 : mI S 69 71 = nI 0) (r2 : mI R 69 71 = nI 1) (hv500 : v < 500) (hE : d_X12_executes S = some ((), E)) (hF : d_X12_executes R = some ((), F)) (hs : Sat S R bS bR n eS eR ob1 ob2 v val rval) (ha : a < 40) (hz : nlV (vS S (14 * (bS + n) + 6 + h1 - 1)) ↔ nlV (vS R (14 * (bR + n) + 6 + h2 - 1))) : SQ E F bS bR eS eR v := by
  obtain ⟨W1, f1, g1, i1, j1, x1, l1, y1, z1, t1, u1, a1, c1, q1, o1⟩ := A1
  have X1 := fx_z W1 f1 g1 i1 j1 x1 l1 y1 z1 t1 u1 a1 c1 ha o1
  obtain ⟨W2, f2, g2, i2, j2, x2, l2, y2, z2, t2, u2, a2, c2, q2, o2⟩ := A2
  have X2 := fx_z W2 f2 g2 i2 j2 x2 l2 y2 z2 t2 u2 a2 c2 ha o2
  have hd1 := W1.1.2.1
  have hd2 := W2.1.2.1
  obtain ⟨eh, at0⟩ := sat_at hs t1 t2 u1 u2
  obtain ⟨tS, rfl, E1, k1, P1⟩ := X1
  obtain rfl := ex_inj hE k1
  obtain ⟨tR, rfl, E2, k2, P2⟩ := X2
  obtain rfl := ex_inj hF k2
  rw [show 14 * (bS + n) + 6 + (tS + 1) - 1 = 14 * (bS + n) + 6 + tS by omega, show 14 * (bR + n) + 6 + (tR + 1) - 1 = 14 * (bR + n) + 6 + tR by omega] at hz
  unfold nlV vS at hz
  rcases P1 with ⟨w1, P1⟩ | ⟨w1, P1⟩ <;> rcases P2 with ⟨w2, P2⟩ | ⟨w2, P2⟩
  · refine ⟨n, ob1, ob2, v, val, rval, (⟨P1.2.2.1.trans W1.2.2.2.1.1, W1.2.2.2.1.2.1⟩), (⟨P2.2.2.1.trans W2.2.2.2.1.1, W2.2.2.2.1.2.1, by omega⟩), (by omega), (by omega), ?_⟩
    exact sat_no hs P1 P2 t1 t2 (by omega) (by omega) (by omega) (by omega) (by omega) hd1 hd2
  · exact absurd (hz.mp w1) w2
  · exact absurd (hz.mpr w2) w1
  · refine ⟨n, ob1, ob2, v, val, rval, (⟨P1.2.2.1.trans W1.2.2.2.1.1, W1.2.2.2.1.2.1⟩), (⟨P2.2.2.1.trans W2.2.2.2.1.1, W2.2.2.2.1.2.1, by omega⟩), (by omega), (by omega), ?_⟩
    exact sat_no hs P1 P2 t1 t2 (by omega) (by omega) (by omega) (by omega) (by omega) hd1 hd2
theorem sq_i {S R E F : Mem} {bS bR n ob1 ns1 nc1 nf1 ob2 ns2 nc2 nf2 f i e1 m1 h1 e2 m2 h2 v : Nat} {a : Int32} {eS eR : Nat → Nat} {val rval : Nat → Vl} (A1 : ATI S (bS + n) ob1 ns1 nc1 nf1 f i e1 m1 h1 a 105) (A2 : ATI R (bR + n) ob2 ns2 nc2 nf2 f i e2 m2 h2 a 105) (r1 : mI S 69 71 = nI 0) (r2 : mI R 69 71 = nI 1) (hv500 : v < 500) (hE : d_X12_executes S = some ((), E)) (hF : d_X12_executes R = some ((), F)) (hs : Sat S R bS bR n eS eR ob1 ob2 v val rval) : SQ E F bS bR eS eR v := by
  obtain ⟨W1, f1, g1, i1, j1, x1, l1, y1, z1, t1, u1, a1, c1, q1, o1⟩ := A1
  have X1 := fx_i W1 f1 g1 i1 j1 x1 l1 y1 z1 t1 u1 a1 c1 q1 o1
  obtain ⟨W2, f2, g2, i2, j2, x2, l2, y2, z2, t2, u2, a2, c2, q2, o2⟩ := A2
  have X2 := fx_i W2 f2 g2 i2 j2 x2 l2 y2 z2 t2 u2 a2 c2 q2 o2
  have hd1 := W1.1.2.1
  have hd2 := W2.1.2.1
  obtain ⟨eh, at0⟩ := sat_at hs t1 t2 u1 u2
  obtain ⟨s1, ⟨E1, k1, P1, O1⟩⟩ := X1
  obtain rfl := ex_inj hE k1
  obtain ⟨s2, ⟨E2, k2, P2, O2⟩⟩ := X2
  obtain rfl := ex_inj hF k2
  have hq := sat_nw (x := (nI 105, a, FP.dconst0)) (y := (nI 105, a, FP.dconst0)) hs P1 P2 r2 hv500 t1 t2 (by omega) (by omega) (by omega) (by omega) (by omega) (by omega) (by omega) (Nat.le_refl _) (Nat.le_refl _) (fun p _ => O1.2 p) (fun p _ => O2.2 p) (fun b1 b2 b3 b4 => Kn_made b1 b2 b3 b4 n105n rfl (fun _ => rfl))
  exact ⟨n, ob1, ob2, v + 1, _, _, ⟨O1.1.trans W1.2.2.2.1.1, W1.2.2.2.1.2.1⟩, ⟨O2.1.trans W2.2.2.2.1.1, W2.2.2.2.1.2.1, by omega⟩, by omega, by omega, hq⟩
theorem sq_k {S R E F : Mem} {bS bR n ob1 ns1 nc1 nf1 ob2 ns2 nc2 nf2 f i e1 m1 h1 e2 m2 h2 a v : Nat} {eS eR : Nat → Nat} {val rval : Nat → Vl} (A1 : ATI S (bS + n) ob1 ns1 nc1 nf1 f i e1 m1 h1 (nI a) 107) (A2 : ATI R (bR + n) ob2 ns2 nc2 nf2 f i e2 m2 h2 (nI a) 107) (r1 : mI S 69 71 = nI 0) (r2 : mI R 69 71 = nI 1) (hv500 : v < 500) (hE : d_X12_executes S = some ((), E)) (hF : d_X12_executes R = some ((), F)) (hs : Sat S R bS bR n eS eR ob1 ob2 v val rval) (hcell : mI S 75 a = mI R 75 a) (ha : a < 8) : SQ E F bS bR eS eR v := by
  obtain ⟨W1, f1, g1, i1, j1, x1, l1, y1, z1, t1, u1, a1, c1, q1, o1⟩ := A1
  have X1 := fx_k W1 f1 g1 i1 j1 x1 l1 y1 z1 t1 u1 a1 c1 q1 ha o1
  obtain ⟨W2, f2, g2, i2, j2, x2, l2, y2, z2, t2, u2, a2, c2, q2, o2⟩ := A2
  have X2 := fx_k W2 f2 g2 i2 j2 x2 l2 y2 z2 t2 u2 a2 c2 q2 ha o2
  have hd1 := W1.1.2.1
  have hd2 := W2.1.2.1
  obtain ⟨eh, at0⟩ := sat_at hs t1 t2 u1 u2
  obtain ⟨s1, ⟨E1, k1, P1, O1⟩⟩ := X1
  obtain rfl := ex_inj hE k1
  obtain ⟨s2, ⟨E2, k2, P2, O2⟩⟩ := X2
  obtain rfl := ex_inj hF k2
  have hq := sat_nw (x := (nI 105, mI S 75 a, FP.dconst0)) (y := (nI 105, mI R 75 a, FP.dconst0)) hs P1 P2 r2 hv500 t1 t2 (by omega) (by omega) (by omega) (by omega) (by omega) (by omega) (by omega) (Nat.le_refl _) (Nat.le_refl _) (fun p _ => O1.2 p) (fun p _ => O2.2 p) (fun b1 b2 b3 b4 => Kn_made b1 b2 b3 b4 n105n rfl (fun _ => by rw [hcell]))
  exact ⟨n, ob1, ob2, v + 1, _, _, ⟨O1.1.trans W1.2.2.2.1.1, W1.2.2.2.1.2.1⟩, ⟨O2.1.trans W2.2.2.2.1.1, W2.2.2.2.1.2.1, by omega⟩, by omega, by omega, hq⟩
theorem sq_g {S R E F : Mem} {bS bR n ob1 ns1 nc1 nf1 ob2 ns2 nc2 nf2 f i e1 m1 h1 e2 m2 h2 a v : Nat} {eS eR : Nat → Nat} {val rval : Nat → Vl} (A1 : ATI S (bS + n) ob1 ns1 nc1 nf1 f i e1 m1 h1 (nI a) 103) (A2 : ATI R (bR + n) ob2 ns2 nc2 nf2 f i e2 m2 h2 (nI a) 103) (r1 : mI S 69 71 = nI 0) (r2 : mI R 69 71 = nI 1) (hv500 : v < 500) (hE : d_X12_executes S = some ((), E)) (hF : d_X12_executes R = some ((), F)) (hs : Sat S R bS bR n eS eR ob1 ob2 v val rval) (ha : a < 6) : SQ E F bS bR eS eR v := by
  obtain ⟨W1, f1, g1, i1, j1, x1, l1, y1, z1, t1, u1, a1, c1, q1, o1⟩ := A1
  have X1 := fx_g W1 f1 g1 i1 j1 x1 l1 y1 z1 t1 u1 a1 c1 ha q1 o1
  obtain ⟨W2, f2, g2, i2, j2, x2, l2, y2, z2, t2, u2, a2, c2, q2, o2⟩ := A2
  have X2 := fx_g W2 f2 g2 i2 j2 x2 l2 y2 z2 t2 u2 a2 c2 ha q2 o2
  have hd1 := W1.1.2.1
  have hd2 := W2.1.2.1
  obtain ⟨eh, at0⟩ := sat_at hs t1 t2 u1 u2
  obtain ⟨tS, qS, sS, cS, rfl, T1, F1, ⟨E1, k1, P1, O1⟩⟩ := X1
  obtain rfl := ex_inj hE k1
  obtain ⟨tR, qR, sR, cR, rfl, T2, F2, ⟨E2, k2, P2, O2⟩⟩ := X2
  obtain rfl := ex_inj hF k2
  have hq := sat_nw (x := (mI S 113 (6 * qS + a), mI S 114 (6 * qS + a), mD S 115 (6 * qS + a))) (y := (mI R 113 (6 * qR + a), mI R 114 (6 * qR + a), mD R 115 (6 * qR + a))) hs P1 P2 r2 hv500 t1 t2 (by omega) (by omega) (by omega) (by omega) (by omega) (by omega) (by omega) (Nat.le_refl _) (Nat.le_refl _) (fun p _ => O1.2 p) (fun p _ => O2.2 p) (fun b1 b2 b3 b4 => Kn_none b1 b2 b3 b4)
  exact ⟨n, ob1, ob2, v + 1, _, _, ⟨O1.1.trans W1.2.2.2.1.1, W1.2.2.2.1.2.1⟩, ⟨O2.1.trans W2.2.2.2.1.1, W2.2.2.2.1.2.1, by omega⟩, by omega, by omega, hq⟩
theorem cst1_ne {S : Mem} {u : Nat} (h : ¬ cst1 S u = nI 0) : ¬ mI S 124 u = nI 0 := fun q => h (by unfold cst1; rw [if_pos q])
theorem cst2_ne {S : Mem} {u1 u2 : Nat} (h : ¬ cst2 S u1 u2 = nI 0) : ¬ mI S 124 u1 = nI 0 ∧ ¬ mI S 124 u2 = nI 0 := by
  unfold cst2 at h
  by_cases q : mI S 124 u1 = nI 0
  · rw [if_pos q] at h; exact absurd rfl h
  · rw [if_neg q] at h
    exact ⟨q, fun z => h (by rw [if_pos z])⟩
/-- a constant of the recording has its value in the run -/
theorem at_const {S R : Mem} {bS bR n oS oR v p q : Nat} {eS eR : Nat → Nat} {val rval : Nat → Vl} (hs : Sat S R bS bR n eS eR oS oR v val rval) (hv : v < 100000) (h : At S R v val rval p q) (hc : ¬ mI R 124 (mI R 108 p).toNatClampNeg = nI 0) : vS S q = vS R p := by
  obtain ⟨u, u1, u2, u3, u4⟩ := h
  rw [u2, qcl (by omega)] at hc
  rw [u3, u4]
  exact (hs.2.2.2 u u1).1 hc
theorem sq_w {S R E F : Mem} {bS bR n ob1 ns1 nc1 nf1 ob2 ns2 nc2 nf2 f i e1 m1 h1 e2 m2 h2 a v : Nat} {eS eR : Nat → Nat} {val rval : Nat → Vl} (A1 : ATI S (bS + n) ob1 ns1 nc1 nf1 f i e1 m1 h1 (nI a) 119) (A2 : ATI R (bR + n) ob2 ns2 nc2 nf2 f i e2 m2 h2 (nI a) 119) (r1 : mI S 69 71 = nI 0) (r2 : mI R 69 71 = nI 1) (hv500 : v < 500) (hE : d_X12_executes S = some ((), E)) (hF : d_X12_executes R = some ((), F)) (hs : Sat S R bS bR n eS eR ob1 ob2 v val rval) : SQ E F bS bR eS eR v := by
  obtain ⟨W1, f1, g1, i1, j1, x1, l1, y1, z1, t1, u1, a1, c1, q1, o1⟩ := A1
  have X1 := fx_w W1 f1 g1 i1 j1 x1 l1 y1 z1 t1 u1 a1 c1 q1 o1
  obtain ⟨W2, f2, g2, i2, j2, x2, l2, y2, z2, t2, u2, a2, c2, q2, o2⟩ := A2
  have X2 := fx_w W2 f2 g2 i2 j2 x2 l2 y2 z2 t2 u2 a2 c2 q2 o2
  have hd1 := W1.1.2.1
  have hd2 := W2.1.2.1
  obtain ⟨eh, at0⟩ := sat_at hs t1 t2 u1 u2
  obtain ⟨tS, rfl, B1, ⟨E1, k1, P1, O1⟩⟩ := X1
  obtain rfl := ex_inj hE k1
  obtain ⟨tR, rfl, B2, ⟨E2, k2, P2, O2⟩⟩ := X2
  obtain rfl := ex_inj hF k2
  have hat := at0 (6 + tR) (6 + tS) (by omega)
  rw [← Nat.add_assoc, ← Nat.add_assoc] at hat
  have hvw : ¬ cq1 R (14 * (bR + n) + 6 + tR) = nI 0 → rdV (mI S 105 (14 * (bS + n) + 6 + tS)) (mI S 106 (14 * (bS + n) + 6 + tS)) (mD S 107 (14 * (bS + n) + 6 + tS)) = rdV (mI R 105 (14 * (bR + n) + 6 + tR)) (mI R 106 (14 * (bR + n) + 6 + tR)) (mD R 107 (14 * (bR + n) + 6 + tR)) := by
    intro z
    have hv := at_const hs (by omega) hat (cst1_ne z)
    unfold vS at hv
    injection hv with v1 v2
    injection v2 with v2 v3
    rw [v1, v2, v3]
  have hq := sat_nw (x := (nI 105, rdV (mI S 105 (14 * (bS + n) + 6 + tS)) (mI S 106 (14 * (bS + n) + 6 + tS)) (mD S 107 (14 * (bS + n) + 6 + tS)), FP.dconst0)) (y := (nI 105, rdV (mI R 105 (14 * (bR + n) + 6 + tR)) (mI R 106 (14 * (bR + n) + 6 + tR)) (mD R 107 (14 * (bR + n) + 6 + tR)), FP.dconst0)) hs P1 P2 r2 hv500 t1 t2 (by omega) (by omega) (by omega) (by omega) (by omega) (by omega) (by omega) (Nat.le_refl _) (Nat.le_refl _) (fun p _ => O1.2 p) (fun p _ => O2.2 p) (fun b1 b2 b3 b4 => Kn_made b1 b2 b3 b4 n105n rfl (fun z => by rw [hvw z]))
  exact ⟨n, ob1, ob2, v + 1, _, _, ⟨O1.1.trans W1.2.2.2.1.1, W1.2.2.2.1.2.1⟩, ⟨O2.1.trans W2.2.2.2.1.1, W2.2.2.2.1.2.1, by omega⟩, by omega, by omega, hq⟩
theorem Kn_V {E F : Mem} {oS oR u : Nat} {x y : Vl} {kc : Int32} (hy : (y.1 = nI 105 ∧ y.2.2 = FP.dconst0) ∨ (y.1 = nI 102 ∧ y.2.1 = nI 0)) (hx : x.1 = y.1) (h1 : mI F 123 u = y.1) (h2 : mI F 124 u = kc) (h3 : mI F 125 u = -nI 1) (h4 : mI F 126 u = nz kc y.1 y.2.1 y.2.2) (hc : ¬ kc = nI 0 → x = y) : Kn E F oS oR u x y := Kn_made h1 h2 h3 h4 (fun q => by rcases hy with z | z <;> (rw [z.1] at q; exact absurd q (by decide))) hx hc
theorem sq_add {S R E F : Mem} {bS bR n ob1 ns1 nc1 nf1 ob2 ns2 nc2 nf2 f i e1 m1 h1 e2 m2 h2 a v : Nat} {eS eR : Nat → Nat} {val rval : Nat → Vl} (A1 : ATI S (bS + n) ob1 ns1 nc1 nf1 f i e1 m1 h1 (nI a) 43) (A2 : ATI R (bR + n) ob2 ns2 nc2 nf2 f i e2 m2 h2 (nI a) 43) (r1 : mI S 69 71 = nI 0) (r2 : mI R 69 71 = nI 1) (hv500 : v < 500) (hE : d_X12_executes S = some ((), E)) (hF : d_X12_executes R = some ((), F)) (hs : Sat S R bS bR n eS eR ob1 ob2 v val rval) (hV : ∀ tS tR, h1 = tS + 2 → h2 = tR + 2 → (rkV (nI 43) (mI S 105 (14 * (bS + n) + 6 + tS)) (mI S 106 (14 * (bS + n) + 6 + tS)) (mD S 107 (14 * (bS + n) + 6 + tS)) (mI S 105 (14 * (bS + n) + 6 + tS + 1)) (mI S 106 (14 * (bS + n) + 6 + tS + 1)) (mD S 107 (14 * (bS + n) + 6 + tS + 1))).1 = (rkV (nI 43) (mI R 105 (14 * (bR + n) + 6 + tR)) (mI R 106 (14 * (bR + n) + 6 + tR)) (mD R 107 (14 * (bR + n) + 6 + tR)) (mI R 105 (14 * (bR + n) + 6 + tR + 1)) (mI R 106 (14 * (bR + n) + 6 + tR + 1)) (mD R 107 (14 * (bR + n) + 6 + tR + 1))).1) : SQ E F bS bR eS eR v := by
  obtain ⟨W1, f1, g1, i1, j1, x1, l1, y1, z1, t1, u1, a1, c1, q1, o1⟩ := A1
  have X1 := fx_add W1 f1 g1 i1 j1 x1 l1 y1 z1 t1 u1 a1 c1 q1 o1
  obtain ⟨W2, f2, g2, i2, j2, x2, l2, y2, z2, t2, u2, a2, c2, q2, o2⟩ := A2
  have X2 := fx_add W2 f2 g2 i2 j2 x2 l2 y2 z2 t2 u2 a2 c2 q2 o2
  have hd1 := W1.1.2.1
  have hd2 := W2.1.2.1
  obtain ⟨eh, at0⟩ := sat_at hs t1 t2 u1 u2
  obtain ⟨tS, rfl, B1, B2, ⟨E1, k1, P1, O1⟩⟩ := X1
  obtain rfl := ex_inj hE k1
  obtain ⟨tR, rfl, B3, B4, ⟨E2, k2, P2, O2⟩⟩ := X2
  obtain rfl := ex_inj hF k2
  have hat := at0 (6 + tR) (6 + tS) (by omega)
  have hat2 := at0 (6 + tR + 1) (6 + tS + 1) (by omega)
  simp only [← Nat.add_assoc] at hat hat2
  have hkk := hV tS tR rfl rfl
  have hyy := rkV_k (nI 43) (mI R 105 (14 * (bR + n) + 6 + tR)) (mI R 106 (14 * (bR + n) + 6 + tR)) (mD R 107 (14 * (bR + n) + 6 + tR)) (mI R 105 (14 * (bR + n) + 6 + tR + 1)) (mI R 106 (14 * (bR + n) + 6 + tR + 1)) (mD R 107 (14 * (bR + n) + 6 + tR + 1))
  have hcc : ¬ cq2 R (14 * (bR + n) + 6 + tR) (14 * (bR + n) + 6 + tR + 1) = nI 0 → (rkV (nI 43) (mI S 105 (14 * (bS + n) + 6 + tS)) (mI S 106 (14 * (bS + n) + 6 + tS)) (mD S 107 (14 * (bS + n) + 6 + tS)) (mI S 105 (14 * (bS + n) + 6 + tS + 1)) (mI S 106 (14 * (bS + n) + 6 + tS + 1)) (mD S 107 (14 * (bS + n) + 6 + tS + 1))) = (rkV (nI 43) (mI R 105 (14 * (bR + n) + 6 + tR)) (mI R 106 (14 * (bR + n) + 6 + tR)) (mD R 107 (14 * (bR + n) + 6 + tR)) (mI R 105 (14 * (bR + n) + 6 + tR + 1)) (mI R 106 (14 * (bR + n) + 6 + tR + 1)) (mD R 107 (14 * (bR + n) + 6 + tR + 1))) := by
    intro z
    obtain ⟨z1, z2⟩ := cst2_ne z
    have hva := at_const hs (by omega) hat z1
    have hvb := at_const hs (by omega) hat2 z2
    unfold vS at hva hvb
    injection hva with v1 v2
    injection v2 with v2 v3
    injection hvb with w1 w2
    injection w2 with w2 w3
    rw [v1, v2, v3, w1, w2, w3]
  generalize (rkV (nI 43) (mI S 105 (14 * (bS + n) + 6 + tS)) (mI S 106 (14 * (bS + n) + 6 + tS)) (mD S 107 (14 * (bS + n) + 6 + tS)) (mI S 105 (14 * (bS + n) + 6 + tS + 1)) (mI S 106 (14 * (bS + n) + 6 + tS + 1)) (mD S 107 (14 * (bS + n) + 6 + tS + 1))) = x at *
  generalize (rkV (nI 43) (mI R 105 (14 * (bR + n) + 6 + tR)) (mI R 106 (14 * (bR + n) + 6 + tR)) (mD R 107 (14 * (bR + n) + 6 + tR)) (mI R 105 (14 * (bR + n) + 6 + tR + 1)) (mI R 106 (14 * (bR + n) + 6 + tR + 1)) (mD R 107 (14 * (bR + n) + 6 + tR + 1))) = y at *
  have hq := sat_nw (x := x) (y := y) hs P1 P2 r2 hv500 t1 t2 (by omega) (by omega) (by omega) (by omega) (by omega) (by omega) (by omega) (Nat.le_refl _) (Nat.le_refl _) (fun p _ => O1.2 p) (fun p _ => O2.2 p) (fun b1 b2 b3 b4 => Kn_V hyy hkk b1 b2 b3 b4 hcc)
  exact ⟨n, ob1, ob2, v + 1, _, _, ⟨O1.1.trans W1.2.2.2.1.1, W1.2.2.2.1.2.1⟩, ⟨O2.1.trans W2.2.2.2.1.1, W2.2.2.2.1.2.1, by omega⟩, by omega, by omega, hq⟩
theorem sq_sub {S R E F : Mem} {bS bR n ob1 ns1 nc1 nf1 ob2 ns2 nc2 nf2 f i e1 m1 h1 e2 m2 h2 a v : Nat} {eS eR : Nat → Nat} {val rval : Nat → Vl} (A1 : ATI S (bS + n) ob1 ns1 nc1 nf1 f i e1 m1 h1 (nI a) 45) (A2 : ATI R (bR + n) ob2 ns2 nc2 nf2 f i e2 m2 h2 (nI a) 45) (r1 : mI S 69 71 = nI 0) (r2 : mI R 69 71 = nI 1) (hv500 : v < 500) (hE : d_X12_executes S = some ((), E)) (hF : d_X12_executes R = some ((), F)) (hs : Sat S R bS bR n eS eR ob1 ob2 v val rval) (hV : ∀ tS tR, h1 = tS + 2 → h2 = tR + 2 → (rkV (nI 45) (mI S 105 (14 * (bS + n) + 6 + tS)) (mI S 106 (14 * (bS + n) + 6 + tS)) (mD S 107 (14 * (bS + n) + 6 + tS)) (mI S 105 (14 * (bS + n) + 6 + tS + 1)) (mI S 106 (14 * (bS + n) + 6 + tS + 1)) (mD S 107 (14 * (bS + n) + 6 + tS + 1))).1 = (rkV (nI 45) (mI R 105 (14 * (bR + n) + 6 + tR)) (mI R 106 (14 * (bR + n) + 6 + tR)) (mD R 107 (14 * (bR + n) + 6 + tR)) (mI R 105 (14 * (bR + n) + 6 + tR + 1)) (mI R 106 (14 * (bR + n) + 6 + tR + 1)) (mD R 107 (14 * (bR + n) + 6 + tR + 1))).1) : SQ E F bS bR eS eR v := by
  obtain ⟨W1, f1, g1, i1, j1, x1, l1, y1, z1, t1, u1, a1, c1, q1, o1⟩ := A1
  have X1 := fx_sub W1 f1 g1 i1 j1 x1 l1 y1 z1 t1 u1 a1 c1 q1 o1
  obtain ⟨W2, f2, g2, i2, j2, x2, l2, y2, z2, t2, u2, a2, c2, q2, o2⟩ := A2
  have X2 := fx_sub W2 f2 g2 i2 j2 x2 l2 y2 z2 t2 u2 a2 c2 q2 o2
  have hd1 := W1.1.2.1
  have hd2 := W2.1.2.1
  obtain ⟨eh, at0⟩ := sat_at hs t1 t2 u1 u2
  obtain ⟨tS, rfl, B1, B2, ⟨E1, k1, P1, O1⟩⟩ := X1
  obtain rfl := ex_inj hE k1
  obtain ⟨tR, rfl, B3, B4, ⟨E2, k2, P2, O2⟩⟩ := X2
  obtain rfl := ex_inj hF k2
  have hat := at0 (6 + tR) (6 + tS) (by omega)
  have hat2 := at0 (6 + tR + 1) (6 + tS + 1) (by omega)
  simp only [← Nat.add_assoc] at hat hat2
  have hkk := hV tS tR rfl rfl
  have hyy := rkV_k (nI 45) (mI R 105 (14 * (bR + n) + 6 + tR)) (mI R 106 (14 * (bR + n) + 6 + tR)) (mD R 107 (14 * (bR + n) + 6 + tR)) (mI R 105 (14 * (bR + n) + 6 + tR + 1)) (mI R 106 (14 * (bR + n) + 6 + tR + 1)) (mD R 107 (14 * (bR + n) + 6 + tR + 1))
  have hcc : ¬ cq2 R (14 * (bR + n) + 6 + tR) (14 * (bR + n) + 6 + tR + 1) = nI 0 → (rkV (nI 45) (mI S 105 (14 * (bS + n) + 6 + tS)) (mI S 106 (14 * (bS + n) + 6 + tS)) (mD S 107 (14 * (bS + n) + 6 + tS)) (mI S 105 (14 * (bS + n) + 6 + tS + 1)) (mI S 106 (14 * (bS + n) + 6 + tS + 1)) (mD S 107 (14 * (bS + n) + 6 + tS + 1))) = (rkV (nI 45) (mI R 105 (14 * (bR + n) + 6 + tR)) (mI R 106 (14 * (bR + n) + 6 + tR)) (mD R 107 (14 * (bR + n) + 6 + tR)) (mI R 105 (14 * (bR + n) + 6 + tR + 1)) (mI R 106 (14 * (bR + n) + 6 + tR + 1)) (mD R 107 (14 * (bR + n) + 6 + tR + 1))) := by
    intro z
    obtain ⟨z1, z2⟩ := cst2_ne z
    have hva := at_const hs (by omega) hat z1
    have hvb := at_const hs (by omega) hat2 z2
    unfold vS at hva hvb
    injection hva with v1 v2
    injection v2 with v2 v3
    injection hvb with w1 w2
    injection w2 with w2 w3
    rw [v1, v2, v3, w1, w2, w3]
  generalize (rkV (nI 45) (mI S 105 (14 * (bS + n) + 6 + tS)) (mI S 106 (14 * (bS + n) + 6 + tS)) (mD S 107 (14 * (bS + n) + 6 + tS)) (mI S 105 (14 * (bS + n) + 6 + tS + 1)) (mI S 106 (14 * (bS + n) + 6 + tS + 1)) (mD S 107 (14 * (bS + n) + 6 + tS + 1))) = x at *
  generalize (rkV (nI 45) (mI R 105 (14 * (bR + n) + 6 + tR)) (mI R 106 (14 * (bR + n) + 6 + tR)) (mD R 107 (14 * (bR + n) + 6 + tR)) (mI R 105 (14 * (bR + n) + 6 + tR + 1)) (mI R 106 (14 * (bR + n) + 6 + tR + 1)) (mD R 107 (14 * (bR + n) + 6 + tR + 1))) = y at *
  have hq := sat_nw (x := x) (y := y) hs P1 P2 r2 hv500 t1 t2 (by omega) (by omega) (by omega) (by omega) (by omega) (by omega) (by omega) (Nat.le_refl _) (Nat.le_refl _) (fun p _ => O1.2 p) (fun p _ => O2.2 p) (fun b1 b2 b3 b4 => Kn_V hyy hkk b1 b2 b3 b4 hcc)
  exact ⟨n, ob1, ob2, v + 1, _, _, ⟨O1.1.trans W1.2.2.2.1.1, W1.2.2.2.1.2.1⟩, ⟨O2.1.trans W2.2.2.2.1.1, W2.2.2.2.1.2.1, by omega⟩, by omega, by omega, hq⟩
theorem sq_mul {S R E F : Mem} {bS bR n ob1 ns1 nc1 nf1 ob2 ns2 nc2 nf2 f i e1 m1 h1 e2 m2 h2 a v : Nat} {eS eR : Nat → Nat} {val rval : Nat → Vl} (A1 : ATI S (bS + n) ob1 ns1 nc1 nf1 f i e1 m1 h1 (nI a) 42) (A2 : ATI R (bR + n) ob2 ns2 nc2 nf2 f i e2 m2 h2 (nI a) 42) (r1 : mI S 69 71 = nI 0) (r2 : mI R 69 71 = nI 1) (hv500 : v < 500) (hE : d_X12_executes S = some ((), E)) (hF : d_X12_executes R = some ((), F)) (hs : Sat S R bS bR n eS eR ob1 ob2 v val rval) (hV : ∀ tS tR, h1 = tS + 2 → h2 = tR + 2 → (rkV (nI 42) (mI S 105 (14 * (bS + n) + 6 + tS)) (mI S 106 (14 * (bS + n) + 6 + tS)) (mD S 107 (14 * (bS + n) + 6 + tS)) (mI S 105 (14 * (bS + n) + 6 + tS + 1)) (mI S 106 (14 * (bS + n) + 6 + tS + 1)) (mD S 107 (14 * (bS + n) + 6 + tS + 1))).1 = (rkV (nI 42) (mI R 105 (14 * (bR + n) + 6 + tR)) (mI R 106 (14 * (bR + n) + 6 + tR)) (mD R 107 (14 * (bR + n) + 6 + tR)) (mI R 105 (14 * (bR + n) + 6 + tR + 1)) (mI R 106 (14 * (bR + n) + 6 + tR + 1)) (mD R 107 (14 * (bR + n) + 6 + tR + 1))).1) : SQ E F bS bR eS eR v := by
  obtain ⟨W1, f1, g1, i1, j1, x1, l1, y1, z1, t1, u1, a1, c1, q1, o1⟩ := A1
  have X1 := fx_mul W1 f1 g1 i1 j1 x1 l1 y1 z1 t1 u1 a1 c1 q1 o1
  obtain ⟨W2, f2, g2, i2, j2, x2, l2, y2, z2, t2, u2, a2, c2, q2, o2⟩ := A2
  have X2 := fx_mul W2 f2 g2 i2 j2 x2 l2 y2 z2 t2 u2 a2 c2 q2 o2
  have hd1 := W1.1.2.1
  have hd2 := W2.1.2.1
  obtain ⟨eh, at0⟩ := sat_at hs t1 t2 u1 u2
  obtain ⟨tS, rfl, B1, B2, ⟨E1, k1, P1, O1⟩⟩ := X1
  obtain rfl := ex_inj hE k1
  obtain ⟨tR, rfl, B3, B4, ⟨E2, k2, P2, O2⟩⟩ := X2
  obtain rfl := ex_inj hF k2
  have hat := at0 (6 + tR) (6 + tS) (by omega)
  have hat2 := at0 (6 + tR + 1) (6 + tS + 1) (by omega)
  simp only [← Nat.add_assoc] at hat hat2
  have hkk := hV tS tR rfl rfl
  have hyy := rkV_k (nI 42) (mI R 105 (14 * (bR + n) + 6 + tR)) (mI R 106 (14 * (bR + n) + 6 + tR)) (mD R 107 (14 * (bR + n) + 6 + tR)) (mI R 105 (14 * (bR + n) + 6 + tR + 1)) (mI R 106 (14 * (bR + n) + 6 + tR + 1)) (mD R 107 (14 * (bR + n) + 6 + tR + 1))
  have hcc : ¬ cq2 R (14 * (bR + n) + 6 + tR) (14 * (bR + n) + 6 + tR + 1) = nI 0 → (rkV (nI 42) (mI S 105 (14 * (bS + n) + 6 + tS)) (mI S 106 (14 * (bS + n) + 6 + tS)) (mD S 107 (14 * (bS + n) + 6 + tS)) (mI S 105 (14 * (bS + n) + 6 + tS + 1)) (mI S 106 (14 * (bS + n) + 6 + tS + 1)) (mD S 107 (14 * (bS + n) + 6 + tS + 1))) = (rkV (nI 42) (mI R 105 (14 * (bR + n) + 6 + tR)) (mI R 106 (14 * (bR + n) + 6 + tR)) (mD R 107 (14 * (bR + n) + 6 + tR)) (mI R 105 (14 * (bR + n) + 6 + tR + 1)) (mI R 106 (14 * (bR + n) + 6 + tR + 1)) (mD R 107 (14 * (bR + n) + 6 + tR + 1))) := by
    intro z
    obtain ⟨z1, z2⟩ := cst2_ne z
    have hva := at_const hs (by omega) hat z1
    have hvb := at_const hs (by omega) hat2 z2
    unfold vS at hva hvb
    injection hva with v1 v2
    injection v2 with v2 v3
    injection hvb with w1 w2
    injection w2 with w2 w3
    rw [v1, v2, v3, w1, w2, w3]
  generalize (rkV (nI 42) (mI S 105 (14 * (bS + n) + 6 + tS)) (mI S 106 (14 * (bS + n) + 6 + tS)) (mD S 107 (14 * (bS + n) + 6 + tS)) (mI S 105 (14 * (bS + n) + 6 + tS + 1)) (mI S 106 (14 * (bS + n) + 6 + tS + 1)) (mD S 107 (14 * (bS + n) + 6 + tS + 1))) = x at *
  generalize (rkV (nI 42) (mI R 105 (14 * (bR + n) + 6 + tR)) (mI R 106 (14 * (bR + n) + 6 + tR)) (mD R 107 (14 * (bR + n) + 6 + tR)) (mI R 105 (14 * (bR + n) + 6 + tR + 1)) (mI R 106 (14 * (bR + n) + 6 + tR + 1)) (mD R 107 (14 * (bR + n) + 6 + tR + 1))) = y at *
  have hq := sat_nw (x := x) (y := y) hs P1 P2 r2 hv500 t1 t2 (by omega) (by omega) (by omega) (by omega) (by omega) (by omega) (by omega) (Nat.le_refl _) (Nat.le_refl _) (fun p _ => O1.2 p) (fun p _ => O2.2 p) (fun b1 b2 b3 b4 => Kn_V hyy hkk b1 b2 b3 b4 hcc)
  exact ⟨n, ob1, ob2, v + 1, _, _, ⟨O1.1.trans W1.2.2.2.1.1, W1.2.2.2.1.2.1⟩, ⟨O2.1.trans W2.2.2.2.1.1, W2.2.2.2.1.2.1, by omega⟩, by omega, by omega, hq⟩
theorem sq_div {S R E F : Mem} {bS bR n ob1 ns1 nc1 nf1 ob2 ns2 nc2 nf2 f i e1 m1 h1 e2 m2 h2 a v : Nat} {eS eR : Nat → Nat} {val rval : Nat → Vl} (A1 : ATI S (bS + n) ob1 ns1 nc1 nf1 f i e1 m1 h1 (nI a) 47) (A2 : ATI R (bR + n) ob2 ns2 nc2 nf2 f i e2 m2 h2 (nI a) 47) (r1 : mI S 69 71 = nI 0) (r2 : mI R 69 71 = nI 1) (hv500 : v < 500) (hE : d_X12_executes S = some ((), E)) (hF : d_X12_executes R = some ((), F)) (hs : Sat S R bS bR n eS eR ob1 ob2 v val rval) (hV : ∀ tS tR, h1 = tS + 2 → h2 = tR + 2 → (rkV (nI 47) (mI S 105 (14 * (bS + n) + 6 + tS)) (mI S 106 (14 * (bS + n) + 6 + tS)) (mD S 107 (14 * (bS + n) + 6 + tS)) (mI S 105 (14 * (bS + n) + 6 + tS + 1)) (mI S 106 (14 * (bS + n) + 6 + tS + 1)) (mD S 107 (14 * (bS + n) + 6 + tS + 1))).1 = (rkV (nI 47) (mI R 105 (14 * (bR + n) + 6 + tR)) (mI R 106 (14 * (bR + n) + 6 + tR)) (mD R 107 (14 * (bR + n) + 6 + tR)) (mI R 105 (14 * (bR + n) + 6 + tR + 1)) (mI R 106 (14 * (bR + n) + 6 + tR + 1)) (mD R 107 (14 * (bR + n) + 6 + tR + 1))).1) : SQ E F bS bR eS eR v := by
  obtain ⟨W1, f1, g1, i1, j1, x1, l1, y1, z1, t1, u1, a1, c1, q1, o1⟩ := A1
  have X1 := fx_div W1 f1 g1 i1 j1 x1 l1 y1 z1 t1 u1 a1 c1 q1 o1
  obtain ⟨W2, f2, g2, i2, j2, x2, l2, y2, z2, t2, u2, a2, c2, q2, o2⟩ := A2
  have X2 := fx_div W2 f2 g2 i2 j2 x2 l2 y2 z2 t2 u2 a2 c2 q2 o2
  have hd1 := W1.1.2.1
  have hd2 := W2.1.2.1
  obtain ⟨eh, at0⟩ := sat_at hs t1 t2 u1 u2
  obtain ⟨tS, rfl, B1, B2, Z1, ⟨E1, k1, P1, O1⟩⟩ := X1
  obtain rfl := ex_inj hE k1
  obtain ⟨tR, rfl, B3, B4, Z2, ⟨E2, k2, P2, O2⟩⟩ := X2
  obtain rfl := ex_inj hF k2
  have hat := at0 (6 + tR) (6 + tS) (by omega)
  have hat2 := at0 (6 + tR + 1) (6 + tS + 1) (by omega)
  simp only [← Nat.add_assoc] at hat hat2
  have hkk := hV tS tR rfl rfl
  have hyy := rkV_k (nI 47) (mI R 105 (14 * (bR + n) + 6 + tR)) (mI R 106 (14 * (bR + n) + 6 + tR)) (mD R 107 (14 * (bR + n) + 6 + tR)) (mI R 105 (14 * (bR + n) + 6 + tR + 1)) (mI R 106 (14 * (bR + n) + 6 + tR + 1)) (mD R 107 (14 * (bR + n) + 6 + tR + 1))
  have hcc : ¬ cq2 R (14 * (bR + n) + 6 + tR) (14 * (bR + n) + 6 + tR + 1) = nI 0 → (rkV (nI 47) (mI S 105 (14 * (bS + n) + 6 + tS)) (mI S 106 (14 * (bS + n) + 6 + tS)) (mD S 107 (14 * (bS + n) + 6 + tS)) (mI S 105 (14 * (bS + n) + 6 + tS + 1)) (mI S 106 (14 * (bS + n) + 6 + tS + 1)) (mD S 107 (14 * (bS + n) + 6 + tS + 1))) = (rkV (nI 47) (mI R 105 (14 * (bR + n) + 6 + tR)) (mI R 106 (14 * (bR + n) + 6 + tR)) (mD R 107 (14 * (bR + n) + 6 + tR)) (mI R 105 (14 * (bR + n) + 6 + tR + 1)) (mI R 106 (14 * (bR + n) + 6 + tR + 1)) (mD R 107 (14 * (bR + n) + 6 + tR + 1))) := by
    intro z
    obtain ⟨z1, z2⟩ := cst2_ne z
    have hva := at_const hs (by omega) hat z1
    have hvb := at_const hs (by omega) hat2 z2
    unfold vS at hva hvb
    injection hva with v1 v2
    injection v2 with v2 v3
    injection hvb with w1 w2
    injection w2 with w2 w3
    rw [v1, v2, v3, w1, w2, w3]
  generalize (rkV (nI 47) (mI S 105 (14 * (bS + n) + 6 + tS)) (mI S 106 (14 * (bS + n) + 6 + tS)) (mD S 107 (14 * (bS + n) + 6 + tS)) (mI S 105 (14 * (bS + n) + 6 + tS + 1)) (mI S 106 (14 * (bS + n) + 6 + tS + 1)) (mD S 107 (14 * (bS + n) + 6 + tS + 1))) = x at *
  generalize (rkV (nI 47) (mI R 105 (14 * (bR + n) + 6 + tR)) (mI R 106 (14 * (bR + n) + 6 + tR)) (mD R 107 (14 * (bR + n) + 6 + tR)) (mI R 105 (14 * (bR + n) + 6 + tR + 1)) (mI R 106 (14 * (bR + n) + 6 + tR + 1)) (mD R 107 (14 * (bR + n) + 6 + tR + 1))) = y at *
  have hq := sat_nw (x := x) (y := y) hs P1 P2 r2 hv500 t1 t2 (by omega) (by omega) (by omega) (by omega) (by omega) (by omega) (by omega) (Nat.le_refl _) (Nat.le_refl _) (fun p _ => O1.2 p) (fun p _ => O2.2 p) (fun b1 b2 b3 b4 => Kn_V hyy hkk b1 b2 b3 b4 hcc)
  exact ⟨n, ob1, ob2, v + 1, _, _, ⟨O1.1.trans W1.2.2.2.1.1, W1.2.2.2.1.2.1⟩, ⟨O2.1.trans W2.2.2.2.1.1, W2.2.2.2.1.2.1, by omega⟩, by omega, by omega, hq⟩
theorem sq_rem {S R E F : Mem} {bS bR n ob1 ns1 nc1 nf1 ob2 ns2 nc2 nf2 f i e1 m1 h1 e2 m2 h2 a v : Nat} {eS eR : Nat → Nat} {val rval : Nat → Vl} (A1 : ATI S (bS + n) ob1 ns1 nc1 nf1 f i e1 m1 h1 (nI a) 37) (A2 : ATI R (bR + n) ob2 ns2 nc2 nf2 f i e2 m2 h2 (nI a) 37) (r1 : mI S 69 71 = nI 0) (r2 : mI R 69 71 = nI 1) (hv500 : v < 500) (hE : d_X12_executes S = some ((), E)) (hF : d_X12_executes R = some ((), F)) (hs : Sat S R bS bR n eS eR ob1 ob2 v val rval) (hV : ∀ tS tR, h1 = tS + 2 → h2 = tR + 2 → (rkV (nI 37) (mI S 105 (14 * (bS + n) + 6 + tS)) (mI S 106 (14 * (bS + n) + 6 + tS)) (mD S 107 (14 * (bS + n) + 6 + tS)) (mI S 105 (14 * (bS + n) + 6 + tS + 1)) (mI S 106 (14 * (bS + n) + 6 + tS + 1)) (mD S 107 (14 * (bS + n) + 6 + tS + 1))).1 = (rkV (nI 37) (mI R 105 (14 * (bR + n) + 6 + tR)) (mI R 106 (14 * (bR + n) + 6 + tR)) (mD R 107 (14 * (bR + n) + 6 + tR)) (mI R 105 (14 * (bR + n) + 6 + tR + 1)) (mI R 106 (14 * (bR + n) + 6 + tR + 1)) (mD R 107 (14 * (bR + n) + 6 + tR + 1))).1) : SQ E F bS bR eS eR v := by
  obtain ⟨W1, f1, g1, i1, j1, x1, l1, y1, z1, t1, u1, a1, c1, q1, o1⟩ := A1
  have X1 := fx_rem W1 f1 g1 i1 j1 x1 l1 y1 z1 t1 u1 a1 c1 q1 o1
  obtain ⟨W2, f2, g2, i2, j2, x2, l2, y2, z2, t2, u2, a2, c2, q2, o2⟩ := A2
  have X2 := fx_rem W2 f2 g2 i2 j2 x2 l2 y2 z2 t2 u2 a2 c2 q2 o2
  have hd1 := W1.1.2.1
  have hd2 := W2.1.2.1
  obtain ⟨eh, at0⟩ := sat_at hs t1 t2 u1 u2
  obtain ⟨tS, rfl, B1, B2, Z1, ⟨E1, k1, P1, O1⟩⟩ := X1
  obtain rfl := ex_inj hE k1
  obtain ⟨tR, rfl, B3, B4, Z2, ⟨E2, k2, P2, O2⟩⟩ := X2
  obtain rfl := ex_inj hF k2
  have hat := at0 (6 + tR) (6 + tS) (by omega)
  have hat2 := at0 (6 + tR + 1) (6 + tS + 1) (by omega)
  simp only [← Nat.add_assoc] at hat hat2
  have hkk := hV tS tR rfl rfl
  have hyy := rkV_k (nI 37) (mI R 105 (14 * (bR + n) + 6 + tR)) (mI R 106 (14 * (bR + n) + 6 + tR)) (mD R 107 (14 * (bR + n) + 6 + tR)) (mI R 105 (14 * (bR + n) + 6 + tR + 1)) (mI R 106 (14 * (bR + n) + 6 + tR + 1)) (mD R 107 (14 * (bR + n) + 6 + tR + 1))
  have hcc : ¬ cq2 R (14 * (bR + n) + 6 + tR) (14 * (bR + n) + 6 + tR + 1) = nI 0 → (rkV (nI 37) (mI S 105 (14 * (bS + n) + 6 + tS)) (mI S 106 (14 * (bS + n) + 6 + tS)) (mD S 107 (14 * (bS + n) + 6 + tS)) (mI S 105 (14 * (bS + n) + 6 + tS + 1)) (mI S 106 (14 * (bS + n) + 6 + tS + 1)) (mD S 107 (14 * (bS + n) + 6 + tS + 1))) = (rkV (nI 37) (mI R 105 (14 * (bR + n) + 6 + tR)) (mI R 106 (14 * (bR + n) + 6 + tR)) (mD R 107 (14 * (bR + n) + 6 + tR)) (mI R 105 (14 * (bR + n) + 6 + tR + 1)) (mI R 106 (14 * (bR + n) + 6 + tR + 1)) (mD R 107 (14 * (bR + n) + 6 + tR + 1))) := by
    intro z
    obtain ⟨z1, z2⟩ := cst2_ne z
    have hva := at_const hs (by omega) hat z1
    have hvb := at_const hs (by omega) hat2 z2
    unfold vS at hva hvb
    injection hva with v1 v2
    injection v2 with v2 v3
    injection hvb with w1 w2
    injection w2 with w2 w3
    rw [v1, v2, v3, w1, w2, w3]
  generalize (rkV (nI 37) (mI S 105 (14 * (bS + n) + 6 + tS)) (mI S 106 (14 * (bS + n) + 6 + tS)) (mD S 107 (14 * (bS + n) + 6 + tS)) (mI S 105 (14 * (bS + n) + 6 + tS + 1)) (mI S 106 (14 * (bS + n) + 6 + tS + 1)) (mD S 107 (14 * (bS + n) + 6 + tS + 1))) = x at *
  generalize (rkV (nI 37) (mI R 105 (14 * (bR + n) + 6 + tR)) (mI R 106 (14 * (bR + n) + 6 + tR)) (mD R 107 (14 * (bR + n) + 6 + tR)) (mI R 105 (14 * (bR + n) + 6 + tR + 1)) (mI R 106 (14 * (bR + n) + 6 + tR + 1)) (mD R 107 (14 * (bR + n) + 6 + tR + 1))) = y at *
  have hq := sat_nw (x := x) (y := y) hs P1 P2 r2 hv500 t1 t2 (by omega) (by omega) (by omega) (by omega) (by omega) (by omega) (by omega) (Nat.le_refl _) (Nat.le_refl _) (fun p _ => O1.2 p) (fun p _ => O2.2 p) (fun b1 b2 b3 b4 => Kn_V hyy hkk b1 b2 b3 b4 hcc)
  exact ⟨n, ob1, ob2, v + 1, _, _, ⟨O1.1.trans W1.2.2.2.1.1, W1.2.2.2.1.2.1⟩, ⟨O2.1.trans W2.2.2.2.1.1, W2.2.2.2.1.2.1, by omega⟩, by omega, by omega, hq⟩
theorem sq_lt {S R E F : Mem} {bS bR n ob1 ns1 nc1 nf1 ob2 ns2 nc2 nf2 f i e1 m1 h1 e2 m2 h2 a v : Nat} {eS eR : Nat → Nat} {val rval : Nat → Vl} (A1 : ATI S (bS + n) ob1 ns1 nc1 nf1 f i e1 m1 h1 (nI a) 60) (A2 : ATI R (bR + n) ob2 ns2 nc2 nf2 f i e2 m2 h2 (nI a) 60) (r1 : mI S 69 71 = nI 0) (r2 : mI R 69 71 = nI 1) (hv500 : v < 500) (hE : d_X12_executes S = some ((), E)) (hF : d_X12_executes R = some ((), F)) (hs : Sat S R bS bR n eS eR ob1 ob2 v val rval) (hV : ∀ tS tR, h1 = tS + 2 → h2 = tR + 2 → (rkV (nI 60) (mI S 105 (14 * (bS + n) + 6 + tS)) (mI S 106 (14 * (bS + n) + 6 + tS)) (mD S 107 (14 * (bS + n) + 6 + tS)) (mI S 105 (14 * (bS + n) + 6 + tS + 1)) (mI S 106 (14 * (bS + n) + 6 + tS + 1)) (mD S 107 (14 * (bS + n) + 6 + tS + 1))).1 = (rkV (nI 60) (mI R 105 (14 * (bR + n) + 6 + tR)) (mI R 106 (14 * (bR + n) + 6 + tR)) (mD R 107 (14 * (bR + n) + 6 + tR)) (mI R 105 (14 * (bR + n) + 6 + tR + 1)) (mI R 106 (14 * (bR + n) + 6 + tR + 1)) (mD R 107 (14 * (bR + n) + 6 + tR + 1))).1) : SQ E F bS bR eS eR v := by
  obtain ⟨W1, f1, g1, i1, j1, x1, l1, y1, z1, t1, u1, a1, c1, q1, o1⟩ := A1
  have X1 := fx_lt W1 f1 g1 i1 j1 x1 l1 y1 z1 t1 u1 a1 c1 q1 o1
  obtain ⟨W2, f2, g2, i2, j2, x2, l2, y2, z2, t2, u2, a2, c2, q2, o2⟩ := A2
  have X2 := fx_lt W2 f2 g2 i2 j2 x2 l2 y2 z2 t2 u2 a2 c2 q2 o2
  have hd1 := W1.1.2.1
  have hd2 := W2.1.2.1
  obtain ⟨eh, at0⟩ := sat_at hs t1 t2 u1 u2
  obtain ⟨tS, rfl, B1, B2, ⟨E1, k1, P1, O1⟩⟩ := X1
  obtain rfl := ex_inj hE k1
  obtain ⟨tR, rfl, B3, B4, ⟨E2, k2, P2, O2⟩⟩ := X2
  obtain rfl := ex_inj hF k2
  have hat := at0 (6 + tR) (6 + tS) (by omega)
  have hat2 := at0 (6 + tR + 1) (6 + tS + 1) (by omega)
  simp only [← Nat.add_assoc] at hat hat2
  have hkk := hV tS tR rfl rfl
  have hyy := rkV_k (nI 60) (mI R 105 (14 * (bR + n) + 6 + tR)) (mI R 106 (14 * (bR + n) + 6 + tR)) (mD R 107 (14 * (bR + n) + 6 + tR)) (mI R 105 (14 * (bR + n) + 6 + tR + 1)) (mI R 106 (14 * (bR + n) + 6 + tR + 1)) (mD R 107 (14 * (bR + n) + 6 + tR + 1))
  have hcc : ¬ cq2 R (14 * (bR + n) + 6 + tR) (14 * (bR + n) + 6 + tR + 1) = nI 0 → (rkV (nI 60) (mI S 105 (14 * (bS + n) + 6 + tS)) (mI S 106 (14 * (bS + n) + 6 + tS)) (mD S 107 (14 * (bS + n) + 6 + tS)) (mI S 105 (14 * (bS + n) + 6 + tS + 1)) (mI S 106 (14 * (bS + n) + 6 + tS + 1)) (mD S 107 (14 * (bS + n) + 6 + tS + 1))) = (rkV (nI 60) (mI R 105 (14 * (bR + n) + 6 + tR)) (mI R 106 (14 * (bR + n) + 6 + tR)) (mD R 107 (14 * (bR + n) + 6 + tR)) (mI R 105 (14 * (bR + n) + 6 + tR + 1)) (mI R 106 (14 * (bR + n) + 6 + tR + 1)) (mD R 107 (14 * (bR + n) + 6 + tR + 1))) := by
    intro z
    obtain ⟨z1, z2⟩ := cst2_ne z
    have hva := at_const hs (by omega) hat z1
    have hvb := at_const hs (by omega) hat2 z2
    unfold vS at hva hvb
    injection hva with v1 v2
    injection v2 with v2 v3
    injection hvb with w1 w2
    injection w2 with w2 w3
    rw [v1, v2, v3, w1, w2, w3]
  generalize (rkV (nI 60) (mI S 105 (14 * (bS + n) + 6 + tS)) (mI S 106 (14 * (bS + n) + 6 + tS)) (mD S 107 (14 * (bS + n) + 6 + tS)) (mI S 105 (14 * (bS + n) + 6 + tS + 1)) (mI S 106 (14 * (bS + n) + 6 + tS + 1)) (mD S 107 (14 * (bS + n) + 6 + tS + 1))) = x at *
  generalize (rkV (nI 60) (mI R 105 (14 * (bR + n) + 6 + tR)) (mI R 106 (14 * (bR + n) + 6 + tR)) (mD R 107 (14 * (bR + n) + 6 + tR)) (mI R 105 (14 * (bR + n) + 6 + tR + 1)) (mI R 106 (14 * (bR + n) + 6 + tR + 1)) (mD R 107 (14 * (bR + n) + 6 + tR + 1))) = y at *
  have hq := sat_nw (x := x) (y := y) hs P1 P2 r2 hv500 t1 t2 (by omega) (by omega) (by omega) (by omega) (by omega) (by omega) (by omega) (Nat.le_refl _) (Nat.le_refl _) (fun p _ => O1.2 p) (fun p _ => O2.2 p) (fun b1 b2 b3 b4 => Kn_V hyy hkk b1 b2 b3 b4 hcc)
  exact ⟨n, ob1, ob2, v + 1, _, _, ⟨O1.1.trans W1.2.2.2.1.1, W1.2.2.2.1.2.1⟩, ⟨O2.1.trans W2.2.2.2.1.1, W2.2.2.2.1.2.1, by omega⟩, by omega, by omega, hq⟩
theorem sq_eq {S R E F : Mem} {bS bR n ob1 ns1 nc1 nf1 ob2 ns2 nc2 nf2 f i e1 m1 h1 e2 m2 h2 a v : Nat} {eS eR : Nat → Nat} {val rval : Nat → Vl} (A1 : ATI S (bS + n) ob1 ns1 nc1 nf1 f i e1 m1 h1 (nI a) 61) (A2 : ATI R (bR + n) ob2 ns2 nc2 nf2 f i e2 m2 h2 (nI a) 61) (r1 : mI S 69 71 = nI 0) (r2 : mI R 69 71 = nI 1) (hv500 : v < 500) (hE : d_X12_executes S = some ((), E)) (hF : d_X12_executes R = some ((), F)) (hs : Sat S R bS bR n eS eR ob1 ob2 v val rval) (hV : ∀ tS tR, h1 = tS + 2 → h2 = tR + 2 → (rkV (nI 61) (mI S 105 (14 * (bS + n) + 6 + tS)) (mI S 106 (14 * (bS + n) + 6 + tS)) (mD S 107 (14 * (bS + n) + 6 + tS)) (mI S 105 (14 * (bS + n) + 6 + tS + 1)) (mI S 106 (14 * (bS + n) + 6 + tS + 1)) (mD S 107 (14 * (bS + n) + 6 + tS + 1))).1 = (rkV (nI 61) (mI R 105 (14 * (bR + n) + 6 + tR)) (mI R 106 (14 * (bR + n) + 6 + tR)) (mD R 107 (14 * (bR + n) + 6 + tR)) (mI R 105 (14 * (bR + n) + 6 + tR + 1)) (mI R 106 (14 * (bR + n) + 6 + tR + 1)) (mD R 107 (14 * (bR + n) + 6 + tR + 1))).1) : SQ E F bS bR eS eR v := by
  obtain ⟨W1, f1, g1, i1, j1, x1, l1, y1, z1, t1, u1, a1, c1, q1, o1⟩ := A1
  have X1 := fx_eq W1 f1 g1 i1 j1 x1 l1 y1 z1 t1 u1 a1 c1 q1 o1
  obtain ⟨W2, f2, g2, i2, j2, x2, l2, y2, z2, t2, u2, a2, c2, q2, o2⟩ := A2
  have X2 := fx_eq W2 f2 g2 i2 j2 x2 l2 y2 z2 t2 u2 a2 c2 q2 o2
  have hd1 := W1.1.2.1
  have hd2 := W2.1.2.1
  obtain ⟨eh, at0⟩ := sat_at hs t1 t2 u1 u2
  obtain ⟨tS, rfl, ⟨E1, k1, P1, O1⟩⟩ := X1
  obtain rfl := ex_inj hE k1
  obtain ⟨tR, rfl, ⟨E2, k2, P2, O2⟩⟩ := X2
  obtain rfl := ex_inj hF k2
  have hat := at0 (6 + tR) (6 + tS) (by omega)
  have hat2 := at0 (6 + tR + 1) (6 + tS + 1) (by omega)
  simp only [← Nat.add_assoc] at hat hat2
  have hkk := hV tS tR rfl rfl
  have hyy := rkV_k (nI 61) (mI R 105 (14 * (bR + n) + 6 + tR)) (mI R 106 (14 * (bR + n) + 6 + tR)) (mD R 107 (14 * (bR + n) + 6 + tR)) (mI R 105 (14 * (bR + n) + 6 + tR + 1)) (mI R 106 (14 * (bR + n) + 6 + tR + 1)) (mD R 107 (14 * (bR + n) + 6 + tR + 1))
  have hcc : ¬ cq2 R (14 * (bR + n) + 6 + tR) (14 * (bR + n) + 6 + tR + 1) = nI 0 → (rkV (nI 61) (mI S 105 (14 * (bS + n) + 6 + tS)) (mI S 106 (14 * (bS + n) + 6 + tS)) (mD S 107 (14 * (bS + n) + 6 + tS)) (mI S 105 (14 * (bS + n) + 6 + tS + 1)) (mI S 106 (14 * (bS + n) + 6 + tS + 1)) (mD S 107 (14 * (bS + n) + 6 + tS + 1))) = (rkV (nI 61) (mI R 105 (14 * (bR + n) + 6 + tR)) (mI R 106 (14 * (bR + n) + 6 + tR)) (mD R 107 (14 * (bR + n) + 6 + tR)) (mI R 105 (14 * (bR + n) + 6 + tR + 1)) (mI R 106 (14 * (bR + n) + 6 + tR + 1)) (mD R 107 (14 * (bR + n) + 6 + tR + 1))) := by
    intro z
    obtain ⟨z1, z2⟩ := cst2_ne z
    have hva := at_const hs (by omega) hat z1
    have hvb := at_const hs (by omega) hat2 z2
    unfold vS at hva hvb
    injection hva with v1 v2
    injection v2 with v2 v3
    injection hvb with w1 w2
    injection w2 with w2 w3
    rw [v1, v2, v3, w1, w2, w3]
  generalize (rkV (nI 61) (mI S 105 (14 * (bS + n) + 6 + tS)) (mI S 106 (14 * (bS + n) + 6 + tS)) (mD S 107 (14 * (bS + n) + 6 + tS)) (mI S 105 (14 * (bS + n) + 6 + tS + 1)) (mI S 106 (14 * (bS + n) + 6 + tS + 1)) (mD S 107 (14 * (bS + n) + 6 + tS + 1))) = x at *
  generalize (rkV (nI 61) (mI R 105 (14 * (bR + n) + 6 + tR)) (mI R 106 (14 * (bR + n) + 6 + tR)) (mD R 107 (14 * (bR + n) + 6 + tR)) (mI R 105 (14 * (bR + n) + 6 + tR + 1)) (mI R 106 (14 * (bR + n) + 6 + tR + 1)) (mD R 107 (14 * (bR + n) + 6 + tR + 1))) = y at *
  have hq := sat_nw (x := x) (y := y) hs P1 P2 r2 hv500 t1 t2 (by omega) (by omega) (by omega) (by omega) (by omega) (by omega) (by omega) (Nat.le_refl _) (Nat.le_refl _) (fun p _ => O1.2 p) (fun p _ => O2.2 p) (fun b1 b2 b3 b4 => Kn_V hyy hkk b1 b2 b3 b4 hcc)
  exact ⟨n, ob1, ob2, v + 1, _, _, ⟨O1.1.trans W1.2.2.2.1.1, W1.2.2.2.1.2.1⟩, ⟨O2.1.trans W2.2.2.2.1.1, W2.2.2.2.1.2.1, by omega⟩, by omega, by omega, hq⟩
end MB83
