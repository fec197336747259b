/-! ===== the guards of a step: pairs ===== -/
section MJ5
theorem rkV_12 (c k1 n1 : Int32) (x1 : UInt64) (k2 n2 : Int32) (x2 : UInt64) : (rkV c k1 n1 x1 k2 n2 x2).1 = nI 105 ∨ (rkV c k1 n1 x1 k2 n2 x2).1 = nI 102 := (rkV_k c k1 n1 x1 k2 n2 x2).elim (fun z => .inl z.1) (fun z => .inr z.1)
theorem tg_43 {M S R G : Mem} {bS bR n ob1 ns1 nc1 nf1 ob2 ns2 nc2 nf2 f i e1 m1 h1 e2 m2 h2 a v g0 : Nat} {eS eR : Nat → Nat} {val rval : Nat → Vl} (A1 : ATI S (bS + n) ob1 ns1 nc1 nf1 f i e1 m1 h1 (nI a) 43) (A2 : ATI R (bR + n) ob2 ns2 nc2 nf2 f i e2 m2 h2 (nI a) 43) (hRC : RC M S 18 (bS + n) ns1) (gc : mI M 18 7 = nI 43) (hs : Sat S R bS bR n eS eR ob1 ob2 v val rval) (hv5 : v < 500) (g8 : mI R 69 78 = nI g0) (hg : g0 + 4 ≤ 120) (hgd : d_X12_guards (nI 43) R = some ((), G)) : ∃ g1, g1 ≤ g0 + 4 ∧ mI G 69 78 = nI g1 ∧ GCK M S G g0 g1 (Sat S G bS bR n eS eR ob1 ob2 v val rval ∧ (∀ tS tR, h1 = tS + 2 → h2 = tR + 2 → (rkV (nI 43) (mI S 105 (14 * (bS + n) + 6 + tS)) (mI S 106 (14 * (bS + n) + 6 + tS)) (mD S 107 (14 * (bS + n) + 6 + tS)) (mI S 105 (14 * (bS + n) + 6 + tS + 1)) (mI S 106 (14 * (bS + n) + 6 + tS + 1)) (mD S 107 (14 * (bS + n) + 6 + tS + 1))).1 = (rkV (nI 43) (mI R 105 (14 * (bR + n) + 6 + tR)) (mI R 106 (14 * (bR + n) + 6 + tR)) (mD R 107 (14 * (bR + n) + 6 + tR)) (mI R 105 (14 * (bR + n) + 6 + tR + 1)) (mI R 106 (14 * (bR + n) + 6 + tR + 1)) (mD R 107 (14 * (bR + n) + 6 + tR + 1))).1)) := by
  obtain ⟨W1, f1, g1, i1, j1, x1, l1, y1, z1, t1, u1, a1, c1, q1, o1⟩ := A1
  obtain ⟨W2, f2, g2, i2, j2, x2, l2, y2, z2, t2, u2, a2, c2, q2, o2⟩ := A2
  have hA : RAT M S (bS + n) h1 := ⟨⟨_, _, _, _, hRC, W1⟩, t1, u1⟩
  have hd := W2.1.1
  have hd1 := W2.1.2.1
  have hd1S := W1.1.2.1
  have i1x := i1
  obtain ⟨yS, rfl, b1, b2, -⟩ := fx_add W1 f1 g1 i1 j1 x1 l1 y1 z1 t1 u1 a1 c1 q1 o1
  obtain ⟨yR, rfl, b3, b4, -⟩ := fx_add W2 f2 g2 i2 j2 x2 l2 y2 z2 t2 u2 a2 c2 q2 o2
  have hat : ∀ H, Sat S H bS bR n eS eR ob1 ob2 v val rval → mI H 111 (bR + n) = nI (yR + 2) → At S H v val rval (14 * (bR + n) + 6 + yR) (14 * (bS + n) + 6 + yS) := fun H hs2 t9 => by
    have := (sat_at hs2 t1 t9 u1 u2).2 (6 + yR) (6 + yS) (by omega)
    simp only [← Nat.add_assoc] at this
    exact this
  have hat2 : ∀ H, Sat S H bS bR n eS eR ob1 ob2 v val rval → mI H 111 (bR + n) = nI (yR + 2) → At S H v val rval (14 * (bR + n) + 6 + yR + 1) (14 * (bS + n) + 6 + yS + 1) := fun H hs2 t9 => by
    have := (sat_at hs2 t1 t9 u1 u2).2 (6 + yR + 1) (6 + yS + 1) (by omega)
    simp only [← Nat.add_assoc] at this
    exact this
  obtain ⟨v1, wv1, hv1, -, -⟩ := hat R hs t2
  obtain ⟨v2, wv2, hv2, -, -⟩ := hat2 R hs t2
  have cnd : (rkV (nI 43) (mI S 105 (14 * (bS + n) + 6 + yS)) (mI S 106 (14 * (bS + n) + 6 + yS)) (mD S 107 (14 * (bS + n) + 6 + yS)) (mI S 105 (14 * (bS + n) + 6 + yS + 1)) (mI S 106 (14 * (bS + n) + 6 + yS + 1)) (mD S 107 (14 * (bS + n) + 6 + yS + 1))).1 = (rkV (nI 43) (mI R 105 (14 * (bR + n) + 6 + yR)) (mI R 106 (14 * (bR + n) + 6 + yR)) (mD R 107 (14 * (bR + n) + 6 + yR)) (mI R 105 (14 * (bR + n) + 6 + yR + 1)) (mI R 106 (14 * (bR + n) + 6 + yR + 1)) (mD R 107 (14 * (bR + n) + 6 + yR + 1))).1 → (∀ tS tR, yS + 2 = tS + 2 → yR + 2 = tR + 2 → (rkV (nI 43) (mI S 105 (14 * (bS + n) + 6 + tS)) (mI S 106 (14 * (bS + n) + 6 + tS)) (mD S 107 (14 * (bS + n) + 6 + tS)) (mI S 105 (14 * (bS + n) + 6 + tS + 1)) (mI S 106 (14 * (bS + n) + 6 + tS + 1)) (mD S 107 (14 * (bS + n) + 6 + tS + 1))).1 = (rkV (nI 43) (mI R 105 (14 * (bR + n) + 6 + tR)) (mI R 106 (14 * (bR + n) + 6 + tR)) (mD R 107 (14 * (bR + n) + 6 + tR)) (mI R 105 (14 * (bR + n) + 6 + tR + 1)) (mI R 106 (14 * (bR + n) + 6 + tR + 1)) (mD R 107 (14 * (bR + n) + 6 + tR + 1))).1) := fun hq tS tR y1 y2 => by
    obtain rfl : yS = tS := by omega
    obtain rfl : yR = tR := by omega
    exact hq
  by_cases zc : ¬ mI R 124 v1 = nI 0 ∧ ¬ mI R 124 v2 = nI 0
  · obtain rfl := gd_inj hgd (gd_const (p := 14 * (bR + n) + 6 + yR) hd hd1 t2 u2 isPr_43 (by omega) hv1 hv2 (by omega) (by omega) zc.1 zc.2)
    refine ⟨g0, by omega, g8, GCK.nil ⟨hs, cnd ?_⟩⟩
    have x9 := at_const hs (by omega) (hat G hs t2) (by rw [hv1, qcl (by omega)]; exact zc.1)
    have y9 := at_const hs (by omega) (hat2 G hs t2) (by rw [hv2, qcl (by omega)]; exact zc.2)
    unfold vS at x9 y9
    injection x9 with x91 x92
    injection x92 with x92 x93
    injection y9 with y91 y92
    injection y92 with y92 y93
    rw [x91, x92, x93, y91, y92, y93]
  · have hp := gd_pair (c := 43) (p := 14 * (bR + n) + 6 + yR) hd hd1 t2 u2 isPr_43 (by omega) hv1 hv2 (by omega) (by omega) zc g8 (by omega) (W2.2.2.1.1 _ (by omega)) (W2.2.2.1.1 _ (by omega))
    have hl1 := kdG_le R g0 v1
    have hl2 := k2G_le R g0 (14 * (bR + n) + 6 + yR) v1 v2
    have k1 := gk_K (g0 := g0) (gg := g0) (X := True) (p := 14 * (bR + n) + 6 + yR) hA (q := 14 * (bS + n) + 6 + yS) (x := 1) (by omega) (by omega) (by omega) hv1 (by omega) (by omega) (fun z => hat R z t2) (GCK.nil ⟨hs, trivial⟩)
    have t3 : mI (kdR R g0 1 (14 * (bR + n) + 6 + yR) v1) 111 (bR + n) = nI (yR + 2) := (kdR_n (by omega)).trans t2
    have k2 := gk_K (R := (kdR R g0 1 (14 * (bR + n) + 6 + yR) v1)) (g0 := g0) (gg := kdG R g0 v1) (p := 14 * (bR + n) + 6 + yR + 1) hA (q := 14 * (bS + n) + 6 + yS + 1) (x := 0) (by omega) (by omega) (by omega) (u := v2) ((kdR_n (by omega)).trans hv2) (by omega) (by omega) (fun z => hat2 _ z t3) k1
    have k3 : GCK M S (k2R R g0 (14 * (bR + n) + 6 + yR) v1 v2) g0 (k2G R g0 (14 * (bR + n) + 6 + yR) v1 v2) (Sat S (k2R R g0 (14 * (bR + n) + 6 + yR) v1 v2) bS bR n eS eR ob1 ob2 v val rval ∧ (mI S 105 (14 * (bS + n) + 6 + yS) = mI R 105 (14 * (bR + n) + 6 + yR) ∧ mI S 105 (14 * (bS + n) + 6 + yS + 1) = mI R 105 (14 * (bR + n) + 6 + yR + 1))) := k2.imp (fun z => ⟨z.1, z.2.1.2, z.2.2.trans (kdR_n (by omega))⟩)
    have g9 : mI (k2R R g0 (14 * (bR + n) + 6 + yR) v1 v2) 69 78 = nI (k2G R g0 (14 * (bR + n) + 6 + yR) v1 v2) := k2R_g g8
    by_cases zw : mI R 105 (14 * (bR + n) + 6 + yR) = nI 105 ∧ mI R 105 (14 * (bR + n) + 6 + yR + 1) = nI 105
    · rw [pBT zw] at hp
      have hC : (mI S 105 (14 * (bS + n) + 6 + yS) = mI R 105 (14 * (bR + n) + 6 + yR) ∧ mI S 105 (14 * (bS + n) + 6 + yS + 1) = mI R 105 (14 * (bR + n) + 6 + yR + 1)) → RHs S (nI 111) (nI 0) (pB ((rkV (nI 43) (mI R 105 (14 * (bR + n) + 6 + yR)) (mI R 106 (14 * (bR + n) + 6 + yR)) (mD R 107 (14 * (bR + n) + 6 + yR)) (mI R 105 (14 * (bR + n) + 6 + yR + 1)) (mI R 106 (14 * (bR + n) + 6 + yR + 1)) (mD R 107 (14 * (bR + n) + 6 + yR + 1))).1 = nI 105)) (pB ((rkV (nI 43) (mI S 105 (14 * (bS + n) + 6 + yS)) (mI S 106 (14 * (bS + n) + 6 + yS)) (mD S 107 (14 * (bS + n) + 6 + yS)) (mI S 105 (14 * (bS + n) + 6 + yS + 1)) (mI S 106 (14 * (bS + n) + 6 + yS + 1)) (mD S 107 (14 * (bS + n) + 6 + yS + 1))).1 = nI 105) = pB ((rkV (nI 43) (mI R 105 (14 * (bR + n) + 6 + yR)) (mI R 106 (14 * (bR + n) + 6 + yR)) (mD R 107 (14 * (bR + n) + 6 + yR)) (mI R 105 (14 * (bR + n) + 6 + yR + 1)) (mI R 106 (14 * (bR + n) + 6 + yR + 1)) (mD R 107 (14 * (bR + n) + 6 + yR + 1))).1 = nI 105)) ∧ CH M (nI 111) (nI 0) (pB ((rkV (nI 43) (mI R 105 (14 * (bR + n) + 6 + yR)) (mI R 106 (14 * (bR + n) + 6 + yR)) (mD R 107 (14 * (bR + n) + 6 + yR)) (mI R 105 (14 * (bR + n) + 6 + yR + 1)) (mI R 106 (14 * (bR + n) + 6 + yR + 1)) (mD R 107 (14 * (bR + n) + 6 + yR + 1))).1 = nI 105)) (pB ((rkV (nI 43) (mI S 105 (14 * (bS + n) + 6 + yS)) (mI S 106 (14 * (bS + n) + 6 + yS)) (mD S 107 (14 * (bS + n) + 6 + yS)) (mI S 105 (14 * (bS + n) + 6 + yS + 1)) (mI S 106 (14 * (bS + n) + 6 + yS + 1)) (mD S 107 (14 * (bS + n) + 6 + yS + 1))).1 = nI 105) = pB ((rkV (nI 43) (mI R 105 (14 * (bR + n) + 6 + yR)) (mI R 106 (14 * (bR + n) + 6 + yR)) (mD R 107 (14 * (bR + n) + 6 + yR)) (mI R 105 (14 * (bR + n) + 6 + yR + 1)) (mI R 106 (14 * (bR + n) + 6 + yR + 1)) (mD R 107 (14 * (bR + n) + 6 + yR + 1))).1 = nI 105)) := fun hk => by
        obtain ⟨xd, xd1, xgd, xgh, xV, -⟩ := hA.g
        have i1 := hk.1.trans zw.1
        have i2 := hk.2.trans zw.2
        have hm : ∀ S2, RKS S S2 → d_X12_reckons (nI 43) (nI (14 * (bS + n) + 6 + yS)) (nI (14 * (bS + n) + 6 + yS + 1)) S2 = some ((), rkM S2 (rkV (nI 43) (mI S 105 (14 * (bS + n) + 6 + yS)) (mI S 106 (14 * (bS + n) + 6 + yS)) (mD S 107 (14 * (bS + n) + 6 + yS)) (mI S 105 (14 * (bS + n) + 6 + yS + 1)) (mI S 106 (14 * (bS + n) + 6 + yS + 1)) (mD S 107 (14 * (bS + n) + 6 + yS + 1)))) := fun S2 hq2 => by
          obtain ⟨b1_, b2_, -⟩ := hq2.sb
          have r5 : ∀ p, mI S2 105 p = mI S 105 p := fun p => b1_ 105 p (by omega) (by omega)
          have r6 : ∀ p, mI S2 106 p = mI S 106 p := fun p => b1_ 106 p (by omega) (by omega)
          have r7 : ∀ p, mD S2 107 p = mD S 107 p := fun p => b2_ 107 p (by omega)
          have := m_reck_add (S := S2) (p := 14 * (bS + n) + 6 + yS) (q := 14 * (bS + n) + 6 + yS + 1) (by omega) (by omega)
          simp only [r5, r6, r7] at this
          exact this
        refine ⟨rhs_o (p := 14 * (bS + n) + 6 + yS) xd xd1 t1 u1 (by omega) f1 g1 i1x j1 c1 rfl hm, ch_o (kk_o_add (p := 14 * (bS + n) + 6 + yS) xgd xd1 xgh u1 (by omega) gc (xV _ (by omega)) (xV _ (by omega)) i1 i2)⟩
      have hq : d_X12_reckons (nI 43) (nI (14 * (bR + n) + 6 + yR)) (nI (14 * (bR + n) + 6 + yR + 1)) (k2R R g0 (14 * (bR + n) + 6 + yR) v1 v2) = some ((), rkM (k2R R g0 (14 * (bR + n) + 6 + yR) v1 v2) (rkV (nI 43) (mI R 105 (14 * (bR + n) + 6 + yR)) (mI R 106 (14 * (bR + n) + 6 + yR)) (mD R 107 (14 * (bR + n) + 6 + yR)) (mI R 105 (14 * (bR + n) + 6 + yR + 1)) (mI R 106 (14 * (bR + n) + 6 + yR + 1)) (mD R 107 (14 * (bR + n) + 6 + yR + 1)))) := by
        have f1_ : mI (k2R R g0 (14 * (bR + n) + 6 + yR) v1 v2) 105 (14 * (bR + n) + 6 + yR) = mI R 105 (14 * (bR + n) + 6 + yR) := k2R_n (by omega)
        have f2_ : mI (k2R R g0 (14 * (bR + n) + 6 + yR) v1 v2) 105 (14 * (bR + n) + 6 + yR + 1) = mI R 105 (14 * (bR + n) + 6 + yR + 1) := k2R_n (by omega)
        have f3_ : mI (k2R R g0 (14 * (bR + n) + 6 + yR) v1 v2) 106 (14 * (bR + n) + 6 + yR) = mI R 106 (14 * (bR + n) + 6 + yR) := k2R_n (by omega)
        have f4_ : mI (k2R R g0 (14 * (bR + n) + 6 + yR) v1 v2) 106 (14 * (bR + n) + 6 + yR + 1) = mI R 106 (14 * (bR + n) + 6 + yR + 1) := k2R_n (by omega)
        have f5_ : mD (k2R R g0 (14 * (bR + n) + 6 + yR) v1 v2) 107 (14 * (bR + n) + 6 + yR) = mD R 107 (14 * (bR + n) + 6 + yR) := k2R_D
        have f6_ : mD (k2R R g0 (14 * (bR + n) + 6 + yR) v1 v2) 107 (14 * (bR + n) + 6 + yR + 1) = mD R 107 (14 * (bR + n) + 6 + yR + 1) := k2R_D
        have := m_reck_add (S := (k2R R g0 (14 * (bR + n) + 6 + yR) v1 v2)) (p := 14 * (bR + n) + 6 + yR) (q := 14 * (bR + n) + 6 + yR + 1) (by omega) (by omega)
        rw [f1_, f2_, f3_, f4_, f5_, f6_] at this
        exact this
      have ho := gd164 (S := (k2R R g0 (14 * (bR + n) + 6 + yR) v1 v2)) (c := 43) (p := 14 * (bR + n) + 6 + yR) (by rw [show mI (k2R R g0 (14 * (bR + n) + 6 + yR) v1 v2) 69 48 = mI R 69 48 from k2R_n (by omega)]; exact hd) hd1 (by rw [show mI (k2R R g0 (14 * (bR + n) + 6 + yR) v1 v2) 111 (bR + n) = mI R 111 (bR + n) from k2R_n (by omega)]; exact t2) u2 (by omega) hq g9 (by omega)
      rw [gd93_add ho] at hp
      obtain rfl := gd_inj hgd hp
      exact ⟨_, by omega, by unfold oR akR; simp (disch := omega) only [← Nat.add_assoc, Nat.add_sub_cancel, Nat.sub_zero, as21, as31, as32, and_self, and_true, true_and, l_0, l_1, l_2, l_3, l_4, l_5, l_6, l_7, l_8, l_9, l_10, l_11, l_12, l_13, l_14, l_15, l_16, l_17, l_18, l_19, l_20, l_21, l_22, l_23, l_24, l_25, l_26, l_27, l_28, l_29, l_30, l_31, l_32, l_33, l_34, l_35, l_36, l_37, l_38, l_39, l_40, l_41, l_42, l_43, l_44, l_45, l_47, l_48, l_50, l_52, l_60, l_61, l_63, l_80, l_99, l_100, l_101, l_102, l_103, l_105, l_106, l_107, l_108, l_109, l_110, l_111, l_112, l_114, l_115, l_116, l_117, l_118, l_119, l_120, l_122, l_168, l_200, l_320, l_360, l_528, l_548, l_1000, l_1023, l_2000, l_3000, l_1000000, qadd, qmul, qsub, qdiv, qcl, qinT, qchT, qleT, qleF, qltT, qltF, qeqT, qeqF, qneg_ne, bo0, bo1, qneg_ne', qneg_lt, mI_eq, mD_eq, mL_eq, mR_eq, mI_at, mD_at, mL_at, mI_ne, mD_ne, mL_ne, mR_ne, not_false_eq_true, not_true_eq_false, or_true, true_or, or_false, false_or, or_self, false_and, and_false, eq_self, mI_sL, mI_sD, mI_sR, mI_tk, mL_sI, mL_sD, mL_sR, mL_tk, mD_sI, mD_sL, mD_sR, mD_tk, mR_sI, mR_sL, mR_sD, mR_tk, mT_sI, mT_sL, mT_sD, mT_sR, mT_tk, mK_sI, mK_sL, mK_sD, mK_sR, mK_tk, mN_sI, mN_sL, mN_sD, mN_sR, mN_tk, nx_sI, nx_sL, nx_sD, nx_sR, uC_sI, uC_sL, uC_sD, uC_sR, uS_sI, uS_sL, uS_sD, uS_sR, nx_tk, uC_tk, uS_tk], (gk_O (VS := (rkV (nI 43) (mI S 105 (14 * (bS + n) + 6 + yS)) (mI S 106 (14 * (bS + n) + 6 + yS)) (mD S 107 (14 * (bS + n) + 6 + yS)) (mI S 105 (14 * (bS + n) + 6 + yS + 1)) (mI S 106 (14 * (bS + n) + 6 + yS + 1)) (mD S 107 (14 * (bS + n) + 6 + yS + 1)))) (VR := (rkV (nI 43) (mI R 105 (14 * (bR + n) + 6 + yR)) (mI R 106 (14 * (bR + n) + 6 + yR)) (mD R 107 (14 * (bR + n) + 6 + yR)) (mI R 105 (14 * (bR + n) + 6 + yR + 1)) (mI R 106 (14 * (bR + n) + 6 + yR + 1)) (mD R 107 (14 * (bR + n) + 6 + yR + 1)))) hC k3).imp (fun z => ⟨z.1, cnd (V1_same (rkV_12 _ _ _ _ _ _ _) (rkV_12 _ _ _ _ _ _ _) z.2.2)⟩)⟩
    · rw [pBF zw, gd93_F] at hp
      obtain rfl := gd_inj hgd hp
      exact ⟨_, by omega, g9, k3.imp (fun z => ⟨z.1, cnd ((rkV1_no (by decide) (by decide) (fun y => zw ⟨z.2.1.symm.trans y.1, z.2.2.symm.trans y.2⟩)).trans (rkV1_no (by decide) (by decide) zw).symm)⟩)⟩
theorem tg_45 {M S R G : Mem} {bS bR n ob1 ns1 nc1 nf1 ob2 ns2 nc2 nf2 f i e1 m1 h1 e2 m2 h2 a v g0 : Nat} {eS eR : Nat → Nat} {val rval : Nat → Vl} (A1 : ATI S (bS + n) ob1 ns1 nc1 nf1 f i e1 m1 h1 (nI a) 45) (A2 : ATI R (bR + n) ob2 ns2 nc2 nf2 f i e2 m2 h2 (nI a) 45) (hRC : RC M S 18 (bS + n) ns1) (gc : mI M 18 7 = nI 45) (hs : Sat S R bS bR n eS eR ob1 ob2 v val rval) (hv5 : v < 500) (g8 : mI R 69 78 = nI g0) (hg : g0 + 4 ≤ 120) (hgd : d_X12_guards (nI 45) R = some ((), G)) : ∃ g1, g1 ≤ g0 + 4 ∧ mI G 69 78 = nI g1 ∧ GCK M S G g0 g1 (Sat S G bS bR n eS eR ob1 ob2 v val rval ∧ (∀ tS tR, h1 = tS + 2 → h2 = tR + 2 → (rkV (nI 45) (mI S 105 (14 * (bS + n) + 6 + tS)) (mI S 106 (14 * (bS + n) + 6 + tS)) (mD S 107 (14 * (bS + n) + 6 + tS)) (mI S 105 (14 * (bS + n) + 6 + tS + 1)) (mI S 106 (14 * (bS + n) + 6 + tS + 1)) (mD S 107 (14 * (bS + n) + 6 + tS + 1))).1 = (rkV (nI 45) (mI R 105 (14 * (bR + n) + 6 + tR)) (mI R 106 (14 * (bR + n) + 6 + tR)) (mD R 107 (14 * (bR + n) + 6 + tR)) (mI R 105 (14 * (bR + n) + 6 + tR + 1)) (mI R 106 (14 * (bR + n) + 6 + tR + 1)) (mD R 107 (14 * (bR + n) + 6 + tR + 1))).1)) := by
  obtain ⟨W1, f1, g1, i1, j1, x1, l1, y1, z1, t1, u1, a1, c1, q1, o1⟩ := A1
  obtain ⟨W2, f2, g2, i2, j2, x2, l2, y2, z2, t2, u2, a2, c2, q2, o2⟩ := A2
  have hA : RAT M S (bS + n) h1 := ⟨⟨_, _, _, _, hRC, W1⟩, t1, u1⟩
  have hd := W2.1.1
  have hd1 := W2.1.2.1
  have hd1S := W1.1.2.1
  have i1x := i1
  obtain ⟨yS, rfl, b1, b2, -⟩ := fx_sub W1 f1 g1 i1 j1 x1 l1 y1 z1 t1 u1 a1 c1 q1 o1
  obtain ⟨yR, rfl, b3, b4, -⟩ := fx_sub W2 f2 g2 i2 j2 x2 l2 y2 z2 t2 u2 a2 c2 q2 o2
  have hat : ∀ H, Sat S H bS bR n eS eR ob1 ob2 v val rval → mI H 111 (bR + n) = nI (yR + 2) → At S H v val rval (14 * (bR + n) + 6 + yR) (14 * (bS + n) + 6 + yS) := fun H hs2 t9 => by
    have := (sat_at hs2 t1 t9 u1 u2).2 (6 + yR) (6 + yS) (by omega)
    simp only [← Nat.add_assoc] at this
    exact this
  have hat2 : ∀ H, Sat S H bS bR n eS eR ob1 ob2 v val rval → mI H 111 (bR + n) = nI (yR + 2) → At S H v val rval (14 * (bR + n) + 6 + yR + 1) (14 * (bS + n) + 6 + yS + 1) := fun H hs2 t9 => by
    have := (sat_at hs2 t1 t9 u1 u2).2 (6 + yR + 1) (6 + yS + 1) (by omega)
    simp only [← Nat.add_assoc] at this
    exact this
  obtain ⟨v1, wv1, hv1, -, -⟩ := hat R hs t2
  obtain ⟨v2, wv2, hv2, -, -⟩ := hat2 R hs t2
  have cnd : (rkV (nI 45) (mI S 105 (14 * (bS + n) + 6 + yS)) (mI S 106 (14 * (bS + n) + 6 + yS)) (mD S 107 (14 * (bS + n) + 6 + yS)) (mI S 105 (14 * (bS + n) + 6 + yS + 1)) (mI S 106 (14 * (bS + n) + 6 + yS + 1)) (mD S 107 (14 * (bS + n) + 6 + yS + 1))).1 = (rkV (nI 45) (mI R 105 (14 * (bR + n) + 6 + yR)) (mI R 106 (14 * (bR + n) + 6 + yR)) (mD R 107 (14 * (bR + n) + 6 + yR)) (mI R 105 (14 * (bR + n) + 6 + yR + 1)) (mI R 106 (14 * (bR + n) + 6 + yR + 1)) (mD R 107 (14 * (bR + n) + 6 + yR + 1))).1 → (∀ tS tR, yS + 2 = tS + 2 → yR + 2 = tR + 2 → (rkV (nI 45) (mI S 105 (14 * (bS + n) + 6 + tS)) (mI S 106 (14 * (bS + n) + 6 + tS)) (mD S 107 (14 * (bS + n) + 6 + tS)) (mI S 105 (14 * (bS + n) + 6 + tS + 1)) (mI S 106 (14 * (bS + n) + 6 + tS + 1)) (mD S 107 (14 * (bS + n) + 6 + tS + 1))).1 = (rkV (nI 45) (mI R 105 (14 * (bR + n) + 6 + tR)) (mI R 106 (14 * (bR + n) + 6 + tR)) (mD R 107 (14 * (bR + n) + 6 + tR)) (mI R 105 (14 * (bR + n) + 6 + tR + 1)) (mI R 106 (14 * (bR + n) + 6 + tR + 1)) (mD R 107 (14 * (bR + n) + 6 + tR + 1))).1) := fun hq tS tR y1 y2 => by
    obtain rfl : yS = tS := by omega
    obtain rfl : yR = tR := by omega
    exact hq
  by_cases zc : ¬ mI R 124 v1 = nI 0 ∧ ¬ mI R 124 v2 = nI 0
  · obtain rfl := gd_inj hgd (gd_const (p := 14 * (bR + n) + 6 + yR) hd hd1 t2 u2 isPr_45 (by omega) hv1 hv2 (by omega) (by omega) zc.1 zc.2)
    refine ⟨g0, by omega, g8, GCK.nil ⟨hs, cnd ?_⟩⟩
    have x9 := at_const hs (by omega) (hat G hs t2) (by rw [hv1, qcl (by omega)]; exact zc.1)
    have y9 := at_const hs (by omega) (hat2 G hs t2) (by rw [hv2, qcl (by omega)]; exact zc.2)
    unfold vS at x9 y9
    injection x9 with x91 x92
    injection x92 with x92 x93
    injection y9 with y91 y92
    injection y92 with y92 y93
    rw [x91, x92, x93, y91, y92, y93]
  · have hp := gd_pair (c := 45) (p := 14 * (bR + n) + 6 + yR) hd hd1 t2 u2 isPr_45 (by omega) hv1 hv2 (by omega) (by omega) zc g8 (by omega) (W2.2.2.1.1 _ (by omega)) (W2.2.2.1.1 _ (by omega))
    have hl1 := kdG_le R g0 v1
    have hl2 := k2G_le R g0 (14 * (bR + n) + 6 + yR) v1 v2
    have k1 := gk_K (g0 := g0) (gg := g0) (X := True) (p := 14 * (bR + n) + 6 + yR) hA (q := 14 * (bS + n) + 6 + yS) (x := 1) (by omega) (by omega) (by omega) hv1 (by omega) (by omega) (fun z => hat R z t2) (GCK.nil ⟨hs, trivial⟩)
    have t3 : mI (kdR R g0 1 (14 * (bR + n) + 6 + yR) v1) 111 (bR + n) = nI (yR + 2) := (kdR_n (by omega)).trans t2
    have k2 := gk_K (R := (kdR R g0 1 (14 * (bR + n) + 6 + yR) v1)) (g0 := g0) (gg := kdG R g0 v1) (p := 14 * (bR + n) + 6 + yR + 1) hA (q := 14 * (bS + n) + 6 + yS + 1) (x := 0) (by omega) (by omega) (by omega) (u := v2) ((kdR_n (by omega)).trans hv2) (by omega) (by omega) (fun z => hat2 _ z t3) k1
    have k3 : GCK M S (k2R R g0 (14 * (bR + n) + 6 + yR) v1 v2) g0 (k2G R g0 (14 * (bR + n) + 6 + yR) v1 v2) (Sat S (k2R R g0 (14 * (bR + n) + 6 + yR) v1 v2) bS bR n eS eR ob1 ob2 v val rval ∧ (mI S 105 (14 * (bS + n) + 6 + yS) = mI R 105 (14 * (bR + n) + 6 + yR) ∧ mI S 105 (14 * (bS + n) + 6 + yS + 1) = mI R 105 (14 * (bR + n) + 6 + yR + 1))) := k2.imp (fun z => ⟨z.1, z.2.1.2, z.2.2.trans (kdR_n (by omega))⟩)
    have g9 : mI (k2R R g0 (14 * (bR + n) + 6 + yR) v1 v2) 69 78 = nI (k2G R g0 (14 * (bR + n) + 6 + yR) v1 v2) := k2R_g g8
    by_cases zw : mI R 105 (14 * (bR + n) + 6 + yR) = nI 105 ∧ mI R 105 (14 * (bR + n) + 6 + yR + 1) = nI 105
    · rw [pBT zw] at hp
      have hC : (mI S 105 (14 * (bS + n) + 6 + yS) = mI R 105 (14 * (bR + n) + 6 + yR) ∧ mI S 105 (14 * (bS + n) + 6 + yS + 1) = mI R 105 (14 * (bR + n) + 6 + yR + 1)) → RHs S (nI 111) (nI 0) (pB ((rkV (nI 45) (mI R 105 (14 * (bR + n) + 6 + yR)) (mI R 106 (14 * (bR + n) + 6 + yR)) (mD R 107 (14 * (bR + n) + 6 + yR)) (mI R 105 (14 * (bR + n) + 6 + yR + 1)) (mI R 106 (14 * (bR + n) + 6 + yR + 1)) (mD R 107 (14 * (bR + n) + 6 + yR + 1))).1 = nI 105)) (pB ((rkV (nI 45) (mI S 105 (14 * (bS + n) + 6 + yS)) (mI S 106 (14 * (bS + n) + 6 + yS)) (mD S 107 (14 * (bS + n) + 6 + yS)) (mI S 105 (14 * (bS + n) + 6 + yS + 1)) (mI S 106 (14 * (bS + n) + 6 + yS + 1)) (mD S 107 (14 * (bS + n) + 6 + yS + 1))).1 = nI 105) = pB ((rkV (nI 45) (mI R 105 (14 * (bR + n) + 6 + yR)) (mI R 106 (14 * (bR + n) + 6 + yR)) (mD R 107 (14 * (bR + n) + 6 + yR)) (mI R 105 (14 * (bR + n) + 6 + yR + 1)) (mI R 106 (14 * (bR + n) + 6 + yR + 1)) (mD R 107 (14 * (bR + n) + 6 + yR + 1))).1 = nI 105)) ∧ CH M (nI 111) (nI 0) (pB ((rkV (nI 45) (mI R 105 (14 * (bR + n) + 6 + yR)) (mI R 106 (14 * (bR + n) + 6 + yR)) (mD R 107 (14 * (bR + n) + 6 + yR)) (mI R 105 (14 * (bR + n) + 6 + yR + 1)) (mI R 106 (14 * (bR + n) + 6 + yR + 1)) (mD R 107 (14 * (bR + n) + 6 + yR + 1))).1 = nI 105)) (pB ((rkV (nI 45) (mI S 105 (14 * (bS + n) + 6 + yS)) (mI S 106 (14 * (bS + n) + 6 + yS)) (mD S 107 (14 * (bS + n) + 6 + yS)) (mI S 105 (14 * (bS + n) + 6 + yS + 1)) (mI S 106 (14 * (bS + n) + 6 + yS + 1)) (mD S 107 (14 * (bS + n) + 6 + yS + 1))).1 = nI 105) = pB ((rkV (nI 45) (mI R 105 (14 * (bR + n) + 6 + yR)) (mI R 106 (14 * (bR + n) + 6 + yR)) (mD R 107 (14 * (bR + n) + 6 + yR)) (mI R 105 (14 * (bR + n) + 6 + yR + 1)) (mI R 106 (14 * (bR + n) + 6 + yR + 1)) (mD R 107 (14 * (bR + n) + 6 + yR + 1))).1 = nI 105)) := fun hk => by
        obtain ⟨xd, xd1, xgd, xgh, xV, -⟩ := hA.g
        have i1 := hk.1.trans zw.1
        have i2 := hk.2.trans zw.2
        have hm : ∀ S2, RKS S S2 → d_X12_reckons (nI 45) (nI (14 * (bS + n) + 6 + yS)) (nI (14 * (bS + n) + 6 + yS + 1)) S2 = some ((), rkM S2 (rkV (nI 45) (mI S 105 (14 * (bS + n) + 6 + yS)) (mI S 106 (14 * (bS + n) + 6 + yS)) (mD S 107 (14 * (bS + n) + 6 + yS)) (mI S 105 (14 * (bS + n) + 6 + yS + 1)) (mI S 106 (14 * (bS + n) + 6 + yS + 1)) (mD S 107 (14 * (bS + n) + 6 + yS + 1)))) := fun S2 hq2 => by
          obtain ⟨b1_, b2_, -⟩ := hq2.sb
          have r5 : ∀ p, mI S2 105 p = mI S 105 p := fun p => b1_ 105 p (by omega) (by omega)
          have r6 : ∀ p, mI S2 106 p = mI S 106 p := fun p => b1_ 106 p (by omega) (by omega)
          have r7 : ∀ p, mD S2 107 p = mD S 107 p := fun p => b2_ 107 p (by omega)
          have := m_reck_sub (S := S2) (p := 14 * (bS + n) + 6 + yS) (q := 14 * (bS + n) + 6 + yS + 1) (by omega) (by omega)
          simp only [r5, r6, r7] at this
          exact this
        refine ⟨rhs_o (p := 14 * (bS + n) + 6 + yS) xd xd1 t1 u1 (by omega) f1 g1 i1x j1 c1 rfl hm, ch_o (kk_o_sub (p := 14 * (bS + n) + 6 + yS) xgd xd1 xgh u1 (by omega) gc (xV _ (by omega)) (xV _ (by omega)) i1 i2)⟩
      have hq : d_X12_reckons (nI 45) (nI (14 * (bR + n) + 6 + yR)) (nI (14 * (bR + n) + 6 + yR + 1)) (k2R R g0 (14 * (bR + n) + 6 + yR) v1 v2) = some ((), rkM (k2R R g0 (14 * (bR + n) + 6 + yR) v1 v2) (rkV (nI 45) (mI R 105 (14 * (bR + n) + 6 + yR)) (mI R 106 (14 * (bR + n) + 6 + yR)) (mD R 107 (14 * (bR + n) + 6 + yR)) (mI R 105 (14 * (bR + n) + 6 + yR + 1)) (mI R 106 (14 * (bR + n) + 6 + yR + 1)) (mD R 107 (14 * (bR + n) + 6 + yR + 1)))) := by
        have f1_ : mI (k2R R g0 (14 * (bR + n) + 6 + yR) v1 v2) 105 (14 * (bR + n) + 6 + yR) = mI R 105 (14 * (bR + n) + 6 + yR) := k2R_n (by omega)
        have f2_ : mI (k2R R g0 (14 * (bR + n) + 6 + yR) v1 v2) 105 (14 * (bR + n) + 6 + yR + 1) = mI R 105 (14 * (bR + n) + 6 + yR + 1) := k2R_n (by omega)
        have f3_ : mI (k2R R g0 (14 * (bR + n) + 6 + yR) v1 v2) 106 (14 * (bR + n) + 6 + yR) = mI R 106 (14 * (bR + n) + 6 + yR) := k2R_n (by omega)
        have f4_ : mI (k2R R g0 (14 * (bR + n) + 6 + yR) v1 v2) 106 (14 * (bR + n) + 6 + yR + 1) = mI R 106 (14 * (bR + n) + 6 + yR + 1) := k2R_n (by omega)
        have f5_ : mD (k2R R g0 (14 * (bR + n) + 6 + yR) v1 v2) 107 (14 * (bR + n) + 6 + yR) = mD R 107 (14 * (bR + n) + 6 + yR) := k2R_D
        have f6_ : mD (k2R R g0 (14 * (bR + n) + 6 + yR) v1 v2) 107 (14 * (bR + n) + 6 + yR + 1) = mD R 107 (14 * (bR + n) + 6 + yR + 1) := k2R_D
        have := m_reck_sub (S := (k2R R g0 (14 * (bR + n) + 6 + yR) v1 v2)) (p := 14 * (bR + n) + 6 + yR) (q := 14 * (bR + n) + 6 + yR + 1) (by omega) (by omega)
        rw [f1_, f2_, f3_, f4_, f5_, f6_] at this
        exact this
      have ho := gd164 (S := (k2R R g0 (14 * (bR + n) + 6 + yR) v1 v2)) (c := 45) (p := 14 * (bR + n) + 6 + yR) (by rw [show mI (k2R R g0 (14 * (bR + n) + 6 + yR) v1 v2) 69 48 = mI R 69 48 from k2R_n (by omega)]; exact hd) hd1 (by rw [show mI (k2R R g0 (14 * (bR + n) + 6 + yR) v1 v2) 111 (bR + n) = mI R 111 (bR + n) from k2R_n (by omega)]; exact t2) u2 (by omega) hq g9 (by omega)
      rw [gd93_sub ho] at hp
      obtain rfl := gd_inj hgd hp
      exact ⟨_, by omega, by unfold oR akR; simp (disch := omega) only [← Nat.add_assoc, Nat.add_sub_cancel, Nat.sub_zero, as21, as31, as32, and_self, and_true, true_and, l_0, l_1, l_2, l_3, l_4, l_5, l_6, l_7, l_8, l_9, l_10, l_11, l_12, l_13, l_14, l_15, l_16, l_17, l_18, l_19, l_20, l_21, l_22, l_23, l_24, l_25, l_26, l_27, l_28, l_29, l_30, l_31, l_32, l_33, l_34, l_35, l_36, l_37, l_38, l_39, l_40, l_41, l_42, l_43, l_44, l_45, l_47, l_48, l_50, l_52, l_60, l_61, l_63, l_80, l_99, l_100, l_101, l_102, l_103, l_105, l_106, l_107, l_108, l_109, l_110, l_111, l_112, l_114, l_115, l_116, l_117, l_118, l_119, l_120, l_122, l_168, l_200, l_320, l_360, l_528, l_548, l_1000, l_1023, l_2000, l_3000, l_1000000, qadd, qmul, qsub, qdiv, qcl, qinT, qchT, qleT, qleF, qltT, qltF, qeqT, qeqF, qneg_ne, bo0, bo1, qneg_ne', qneg_lt, mI_eq, mD_eq, mL_eq, mR_eq, mI_at, mD_at, mL_at, mI_ne, mD_ne, mL_ne, mR_ne, not_false_eq_true, not_true_eq_false, or_true, true_or, or_false, false_or, or_self, false_and, and_false, eq_self, mI_sL, mI_sD, mI_sR, mI_tk, mL_sI, mL_sD, mL_sR, mL_tk, mD_sI, mD_sL, mD_sR, mD_tk, mR_sI, mR_sL, mR_sD, mR_tk, mT_sI, mT_sL, mT_sD, mT_sR, mT_tk, mK_sI, mK_sL, mK_sD, mK_sR, mK_tk, mN_sI, mN_sL, mN_sD, mN_sR, mN_tk, nx_sI, nx_sL, nx_sD, nx_sR, uC_sI, uC_sL, uC_sD, uC_sR, uS_sI, uS_sL, uS_sD, uS_sR, nx_tk, uC_tk, uS_tk], (gk_O (VS := (rkV (nI 45) (mI S 105 (14 * (bS + n) + 6 + yS)) (mI S 106 (14 * (bS + n) + 6 + yS)) (mD S 107 (14 * (bS + n) + 6 + yS)) (mI S 105 (14 * (bS + n) + 6 + yS + 1)) (mI S 106 (14 * (bS + n) + 6 + yS + 1)) (mD S 107 (14 * (bS + n) + 6 + yS + 1)))) (VR := (rkV (nI 45) (mI R 105 (14 * (bR + n) + 6 + yR)) (mI R 106 (14 * (bR + n) + 6 + yR)) (mD R 107 (14 * (bR + n) + 6 + yR)) (mI R 105 (14 * (bR + n) + 6 + yR + 1)) (mI R 106 (14 * (bR + n) + 6 + yR + 1)) (mD R 107 (14 * (bR + n) + 6 + yR + 1)))) hC k3).imp (fun z => ⟨z.1, cnd (V1_same (rkV_12 _ _ _ _ _ _ _) (rkV_12 _ _ _ _ _ _ _) z.2.2)⟩)⟩
    · rw [pBF zw, gd93_F] at hp
      obtain rfl := gd_inj hgd hp
      exact ⟨_, by omega, g9, k3.imp (fun z => ⟨z.1, cnd ((rkV1_no (by decide) (by decide) (fun y => zw ⟨z.2.1.symm.trans y.1, z.2.2.symm.trans y.2⟩)).trans (rkV1_no (by decide) (by decide) zw).symm)⟩)⟩
theorem tg_42 {M S R G : Mem} {bS bR n ob1 ns1 nc1 nf1 ob2 ns2 nc2 nf2 f i e1 m1 h1 e2 m2 h2 a v g0 : Nat} {eS eR : Nat → Nat} {val rval : Nat → Vl} (A1 : ATI S (bS + n) ob1 ns1 nc1 nf1 f i e1 m1 h1 (nI a) 42) (A2 : ATI R (bR + n) ob2 ns2 nc2 nf2 f i e2 m2 h2 (nI a) 42) (hRC : RC M S 18 (bS + n) ns1) (gc : mI M 18 7 = nI 42) (hs : Sat S R bS bR n eS eR ob1 ob2 v val rval) (hv5 : v < 500) (g8 : mI R 69 78 = nI g0) (hg : g0 + 4 ≤ 120) (hgd : d_X12_guards (nI 42) R = some ((), G)) : ∃ g1, g1 ≤ g0 + 4 ∧ mI G 69 78 = nI g1 ∧ GCK M S G g0 g1 (Sat S G bS bR n eS eR ob1 ob2 v val rval ∧ (∀ tS tR, h1 = tS + 2 → h2 = tR + 2 → (rkV (nI 42) (mI S 105 (14 * (bS + n) + 6 + tS)) (mI S 106 (14 * (bS + n) + 6 + tS)) (mD S 107 (14 * (bS + n) + 6 + tS)) (mI S 105 (14 * (bS + n) + 6 + tS + 1)) (mI S 106 (14 * (bS + n) + 6 + tS + 1)) (mD S 107 (14 * (bS + n) + 6 + tS + 1))).1 = (rkV (nI 42) (mI R 105 (14 * (bR + n) + 6 + tR)) (mI R 106 (14 * (bR + n) + 6 + tR)) (mD R 107 (14 * (bR + n) + 6 + tR)) (mI R 105 (14 * (bR + n) + 6 + tR + 1)) (mI R 106 (14 * (bR + n) + 6 + tR + 1)) (mD R 107 (14 * (bR + n) + 6 + tR + 1))).1)) := by
  obtain ⟨W1, f1, g1, i1, j1, x1, l1, y1, z1, t1, u1, a1, c1, q1, o1⟩ := A1
  obtain ⟨W2, f2, g2, i2, j2, x2, l2, y2, z2, t2, u2, a2, c2, q2, o2⟩ := A2
  have hA : RAT M S (bS + n) h1 := ⟨⟨_, _, _, _, hRC, W1⟩, t1, u1⟩
  have hd := W2.1.1
  have hd1 := W2.1.2.1
  have hd1S := W1.1.2.1
  have i1x := i1
  obtain ⟨yS, rfl, b1, b2, -⟩ := fx_mul W1 f1 g1 i1 j1 x1 l1 y1 z1 t1 u1 a1 c1 q1 o1
  obtain ⟨yR, rfl, b3, b4, -⟩ := fx_mul W2 f2 g2 i2 j2 x2 l2 y2 z2 t2 u2 a2 c2 q2 o2
  have hat : ∀ H, Sat S H bS bR n eS eR ob1 ob2 v val rval → mI H 111 (bR + n) = nI (yR + 2) → At S H v val rval (14 * (bR + n) + 6 + yR) (14 * (bS + n) + 6 + yS) := fun H hs2 t9 => by
    have := (sat_at hs2 t1 t9 u1 u2).2 (6 + yR) (6 + yS) (by omega)
    simp only [← Nat.add_assoc] at this
    exact this
  have hat2 : ∀ H, Sat S H bS bR n eS eR ob1 ob2 v val rval → mI H 111 (bR + n) = nI (yR + 2) → At S H v val rval (14 * (bR + n) + 6 + yR + 1) (14 * (bS + n) + 6 + yS + 1) := fun H hs2 t9 => by
    have := (sat_at hs2 t1 t9 u1 u2).2 (6 + yR + 1) (6 + yS + 1) (by omega)
    simp only [← Nat.add_assoc] at this
    exact this
  obtain ⟨v1, wv1, hv1, -, -⟩ := hat R hs t2
  obtain ⟨v2, wv2, hv2, -, -⟩ := hat2 R hs t2
  have cnd : (rkV (nI 42) (mI S 105 (14 * (bS + n) + 6 + yS)) (mI S 106 (14 * (bS + n) + 6 + yS)) (mD S 107 (14 * (bS + n) + 6 + yS)) (mI S 105 (14 * (bS + n) + 6 + yS + 1)) (mI S 106 (14 * (bS + n) + 6 + yS + 1)) (mD S 107 (14 * (bS + n) + 6 + yS + 1))).1 = (rkV (nI 42) (mI R 105 (14 * (bR + n) + 6 + yR)) (mI R 106 (14 * (bR + n) + 6 + yR)) (mD R 107 (14 * (bR + n) + 6 + yR)) (mI R 105 (14 * (bR + n) + 6 + yR + 1)) (mI R 106 (14 * (bR + n) + 6 + yR + 1)) (mD R 107 (14 * (bR + n) + 6 + yR + 1))).1 → (∀ tS tR, yS + 2 = tS + 2 → yR + 2 = tR + 2 → (rkV (nI 42) (mI S 105 (14 * (bS + n) + 6 + tS)) (mI S 106 (14 * (bS + n) + 6 + tS)) (mD S 107 (14 * (bS + n) + 6 + tS)) (mI S 105 (14 * (bS + n) + 6 + tS + 1)) (mI S 106 (14 * (bS + n) + 6 + tS + 1)) (mD S 107 (14 * (bS + n) + 6 + tS + 1))).1 = (rkV (nI 42) (mI R 105 (14 * (bR + n) + 6 + tR)) (mI R 106 (14 * (bR + n) + 6 + tR)) (mD R 107 (14 * (bR + n) + 6 + tR)) (mI R 105 (14 * (bR + n) + 6 + tR + 1)) (mI R 106 (14 * (bR + n) + 6 + tR + 1)) (mD R 107 (14 * (bR + n) + 6 + tR + 1))).1) := fun hq tS tR y1 y2 => by
    obtain rfl : yS = tS := by omega
    obtain rfl : yR = tR := by omega
    exact hq
  by_cases zc : ¬ mI R 124 v1 = nI 0 ∧ ¬ mI R 124 v2 = nI 0
  · obtain rfl := gd_inj hgd (gd_const (p := 14 * (bR + n) + 6 + yR) hd hd1 t2 u2 isPr_42 (by omega) hv1 hv2 (by omega) (by omega) zc.1 zc.2)
    refine ⟨g0, by omega, g8, GCK.nil ⟨hs, cnd ?_⟩⟩
    have x9 := at_const hs (by omega) (hat G hs t2) (by rw [hv1, qcl (by omega)]; exact zc.1)
    have y9 := at_const hs (by omega) (hat2 G hs t2) (by rw [hv2, qcl (by omega)]; exact zc.2)
    unfold vS at x9 y9
    injection x9 with x91 x92
    injection x92 with x92 x93
    injection y9 with y91 y92
    injection y92 with y92 y93
    rw [x91, x92, x93, y91, y92, y93]
  · have hp := gd_pair (c := 42) (p := 14 * (bR + n) + 6 + yR) hd hd1 t2 u2 isPr_42 (by omega) hv1 hv2 (by omega) (by omega) zc g8 (by omega) (W2.2.2.1.1 _ (by omega)) (W2.2.2.1.1 _ (by omega))
    have hl1 := kdG_le R g0 v1
    have hl2 := k2G_le R g0 (14 * (bR + n) + 6 + yR) v1 v2
    have k1 := gk_K (g0 := g0) (gg := g0) (X := True) (p := 14 * (bR + n) + 6 + yR) hA (q := 14 * (bS + n) + 6 + yS) (x := 1) (by omega) (by omega) (by omega) hv1 (by omega) (by omega) (fun z => hat R z t2) (GCK.nil ⟨hs, trivial⟩)
    have t3 : mI (kdR R g0 1 (14 * (bR + n) + 6 + yR) v1) 111 (bR + n) = nI (yR + 2) := (kdR_n (by omega)).trans t2
    have k2 := gk_K (R := (kdR R g0 1 (14 * (bR + n) + 6 + yR) v1)) (g0 := g0) (gg := kdG R g0 v1) (p := 14 * (bR + n) + 6 + yR + 1) hA (q := 14 * (bS + n) + 6 + yS + 1) (x := 0) (by omega) (by omega) (by omega) (u := v2) ((kdR_n (by omega)).trans hv2) (by omega) (by omega) (fun z => hat2 _ z t3) k1
    have k3 : GCK M S (k2R R g0 (14 * (bR + n) + 6 + yR) v1 v2) g0 (k2G R g0 (14 * (bR + n) + 6 + yR) v1 v2) (Sat S (k2R R g0 (14 * (bR + n) + 6 + yR) v1 v2) bS bR n eS eR ob1 ob2 v val rval ∧ (mI S 105 (14 * (bS + n) + 6 + yS) = mI R 105 (14 * (bR + n) + 6 + yR) ∧ mI S 105 (14 * (bS + n) + 6 + yS + 1) = mI R 105 (14 * (bR + n) + 6 + yR + 1))) := k2.imp (fun z => ⟨z.1, z.2.1.2, z.2.2.trans (kdR_n (by omega))⟩)
    have g9 : mI (k2R R g0 (14 * (bR + n) + 6 + yR) v1 v2) 69 78 = nI (k2G R g0 (14 * (bR + n) + 6 + yR) v1 v2) := k2R_g g8
    by_cases zw : mI R 105 (14 * (bR + n) + 6 + yR) = nI 105 ∧ mI R 105 (14 * (bR + n) + 6 + yR + 1) = nI 105
    · rw [pBT zw] at hp
      have hC : (mI S 105 (14 * (bS + n) + 6 + yS) = mI R 105 (14 * (bR + n) + 6 + yR) ∧ mI S 105 (14 * (bS + n) + 6 + yS + 1) = mI R 105 (14 * (bR + n) + 6 + yR + 1)) → RHs S (nI 111) (nI 0) (pB ((rkV (nI 42) (mI R 105 (14 * (bR + n) + 6 + yR)) (mI R 106 (14 * (bR + n) + 6 + yR)) (mD R 107 (14 * (bR + n) + 6 + yR)) (mI R 105 (14 * (bR + n) + 6 + yR + 1)) (mI R 106 (14 * (bR + n) + 6 + yR + 1)) (mD R 107 (14 * (bR + n) + 6 + yR + 1))).1 = nI 105)) (pB ((rkV (nI 42) (mI S 105 (14 * (bS + n) + 6 + yS)) (mI S 106 (14 * (bS + n) + 6 + yS)) (mD S 107 (14 * (bS + n) + 6 + yS)) (mI S 105 (14 * (bS + n) + 6 + yS + 1)) (mI S 106 (14 * (bS + n) + 6 + yS + 1)) (mD S 107 (14 * (bS + n) + 6 + yS + 1))).1 = nI 105) = pB ((rkV (nI 42) (mI R 105 (14 * (bR + n) + 6 + yR)) (mI R 106 (14 * (bR + n) + 6 + yR)) (mD R 107 (14 * (bR + n) + 6 + yR)) (mI R 105 (14 * (bR + n) + 6 + yR + 1)) (mI R 106 (14 * (bR + n) + 6 + yR + 1)) (mD R 107 (14 * (bR + n) + 6 + yR + 1))).1 = nI 105)) ∧ CH M (nI 111) (nI 0) (pB ((rkV (nI 42) (mI R 105 (14 * (bR + n) + 6 + yR)) (mI R 106 (14 * (bR + n) + 6 + yR)) (mD R 107 (14 * (bR + n) + 6 + yR)) (mI R 105 (14 * (bR + n) + 6 + yR + 1)) (mI R 106 (14 * (bR + n) + 6 + yR + 1)) (mD R 107 (14 * (bR + n) + 6 + yR + 1))).1 = nI 105)) (pB ((rkV (nI 42) (mI S 105 (14 * (bS + n) + 6 + yS)) (mI S 106 (14 * (bS + n) + 6 + yS)) (mD S 107 (14 * (bS + n) + 6 + yS)) (mI S 105 (14 * (bS + n) + 6 + yS + 1)) (mI S 106 (14 * (bS + n) + 6 + yS + 1)) (mD S 107 (14 * (bS + n) + 6 + yS + 1))).1 = nI 105) = pB ((rkV (nI 42) (mI R 105 (14 * (bR + n) + 6 + yR)) (mI R 106 (14 * (bR + n) + 6 + yR)) (mD R 107 (14 * (bR + n) + 6 + yR)) (mI R 105 (14 * (bR + n) + 6 + yR + 1)) (mI R 106 (14 * (bR + n) + 6 + yR + 1)) (mD R 107 (14 * (bR + n) + 6 + yR + 1))).1 = nI 105)) := fun hk => by
        obtain ⟨xd, xd1, xgd, xgh, xV, -⟩ := hA.g
        have i1 := hk.1.trans zw.1
        have i2 := hk.2.trans zw.2
        have hm : ∀ S2, RKS S S2 → d_X12_reckons (nI 42) (nI (14 * (bS + n) + 6 + yS)) (nI (14 * (bS + n) + 6 + yS + 1)) S2 = some ((), rkM S2 (rkV (nI 42) (mI S 105 (14 * (bS + n) + 6 + yS)) (mI S 106 (14 * (bS + n) + 6 + yS)) (mD S 107 (14 * (bS + n) + 6 + yS)) (mI S 105 (14 * (bS + n) + 6 + yS + 1)) (mI S 106 (14 * (bS + n) + 6 + yS + 1)) (mD S 107 (14 * (bS + n) + 6 + yS + 1)))) := fun S2 hq2 => by
          obtain ⟨b1_, b2_, -⟩ := hq2.sb
          have r5 : ∀ p, mI S2 105 p = mI S 105 p := fun p => b1_ 105 p (by omega) (by omega)
          have r6 : ∀ p, mI S2 106 p = mI S 106 p := fun p => b1_ 106 p (by omega) (by omega)
          have r7 : ∀ p, mD S2 107 p = mD S 107 p := fun p => b2_ 107 p (by omega)
          have := m_reck_mul (S := S2) (p := 14 * (bS + n) + 6 + yS) (q := 14 * (bS + n) + 6 + yS + 1) (by omega) (by omega)
          simp only [r5, r6, r7] at this
          exact this
        refine ⟨rhs_o (p := 14 * (bS + n) + 6 + yS) xd xd1 t1 u1 (by omega) f1 g1 i1x j1 c1 rfl hm, ch_o (kk_o_mul (p := 14 * (bS + n) + 6 + yS) xgd xd1 xgh u1 (by omega) gc (xV _ (by omega)) (xV _ (by omega)) i1 i2)⟩
      have hq : d_X12_reckons (nI 42) (nI (14 * (bR + n) + 6 + yR)) (nI (14 * (bR + n) + 6 + yR + 1)) (k2R R g0 (14 * (bR + n) + 6 + yR) v1 v2) = some ((), rkM (k2R R g0 (14 * (bR + n) + 6 + yR) v1 v2) (rkV (nI 42) (mI R 105 (14 * (bR + n) + 6 + yR)) (mI R 106 (14 * (bR + n) + 6 + yR)) (mD R 107 (14 * (bR + n) + 6 + yR)) (mI R 105 (14 * (bR + n) + 6 + yR + 1)) (mI R 106 (14 * (bR + n) + 6 + yR + 1)) (mD R 107 (14 * (bR + n) + 6 + yR + 1)))) := by
        have f1_ : mI (k2R R g0 (14 * (bR + n) + 6 + yR) v1 v2) 105 (14 * (bR + n) + 6 + yR) = mI R 105 (14 * (bR + n) + 6 + yR) := k2R_n (by omega)
        have f2_ : mI (k2R R g0 (14 * (bR + n) + 6 + yR) v1 v2) 105 (14 * (bR + n) + 6 + yR + 1) = mI R 105 (14 * (bR + n) + 6 + yR + 1) := k2R_n (by omega)
        have f3_ : mI (k2R R g0 (14 * (bR + n) + 6 + yR) v1 v2) 106 (14 * (bR + n) + 6 + yR) = mI R 106 (14 * (bR + n) + 6 + yR) := k2R_n (by omega)
        have f4_ : mI (k2R R g0 (14 * (bR + n) + 6 + yR) v1 v2) 106 (14 * (bR + n) + 6 + yR + 1) = mI R 106 (14 * (bR + n) + 6 + yR + 1) := k2R_n (by omega)
        have f5_ : mD (k2R R g0 (14 * (bR + n) + 6 + yR) v1 v2) 107 (14 * (bR + n) + 6 + yR) = mD R 107 (14 * (bR + n) + 6 + yR) := k2R_D
        have f6_ : mD (k2R R g0 (14 * (bR + n) + 6 + yR) v1 v2) 107 (14 * (bR + n) + 6 + yR + 1) = mD R 107 (14 * (bR + n) + 6 + yR + 1) := k2R_D
        have := m_reck_mul (S := (k2R R g0 (14 * (bR + n) + 6 + yR) v1 v2)) (p := 14 * (bR + n) + 6 + yR) (q := 14 * (bR + n) + 6 + yR + 1) (by omega) (by omega)
        rw [f1_, f2_, f3_, f4_, f5_, f6_] at this
        exact this
      have ho := gd164 (S := (k2R R g0 (14 * (bR + n) + 6 + yR) v1 v2)) (c := 42) (p := 14 * (bR + n) + 6 + yR) (by rw [show mI (k2R R g0 (14 * (bR + n) + 6 + yR) v1 v2) 69 48 = mI R 69 48 from k2R_n (by omega)]; exact hd) hd1 (by rw [show mI (k2R R g0 (14 * (bR + n) + 6 + yR) v1 v2) 111 (bR + n) = mI R 111 (bR + n) from k2R_n (by omega)]; exact t2) u2 (by omega) hq g9 (by omega)
      rw [gd93_mul ho] at hp
      obtain rfl := gd_inj hgd hp
      exact ⟨_, by omega, by unfold oR akR; simp (disch := omega) only [← Nat.add_assoc, Nat.add_sub_cancel, Nat.sub_zero, as21, as31, as32, and_self, and_true, true_and, l_0, l_1, l_2, l_3, l_4, l_5, l_6, l_7, l_8, l_9, l_10, l_11, l_12, l_13, l_14, l_15, l_16, l_17, l_18, l_19, l_20, l_21, l_22, l_23, l_24, l_25, l_26, l_27, l_28, l_29, l_30, l_31, l_32, l_33, l_34, l_35, l_36, l_37, l_38, l_39, l_40, l_41, l_42, l_43, l_44, l_45, l_47, l_48, l_50, l_52, l_60, l_61, l_63, l_80, l_99, l_100, l_101, l_102, l_103, l_105, l_106, l_107, l_108, l_109, l_110, l_111, l_112, l_114, l_115, l_116, l_117, l_118, l_119, l_120, l_122, l_168, l_200, l_320, l_360, l_528, l_548, l_1000, l_1023, l_2000, l_3000, l_1000000, qadd, qmul, qsub, qdiv, qcl, qinT, qchT, qleT, qleF, qltT, qltF, qeqT, qeqF, qneg_ne, bo0, bo1, qneg_ne', qneg_lt, mI_eq, mD_eq, mL_eq, mR_eq, mI_at, mD_at, mL_at, mI_ne, mD_ne, mL_ne, mR_ne, not_false_eq_true, not_true_eq_false, or_true, true_or, or_false, false_or, or_self, false_and, and_false, eq_self, mI_sL, mI_sD, mI_sR, mI_tk, mL_sI, mL_sD, mL_sR, mL_tk, mD_sI, mD_sL, mD_sR, mD_tk, mR_sI, mR_sL, mR_sD, mR_tk, mT_sI, mT_sL, mT_sD, mT_sR, mT_tk, mK_sI, mK_sL, mK_sD, mK_sR, mK_tk, mN_sI, mN_sL, mN_sD, mN_sR, mN_tk, nx_sI, nx_sL, nx_sD, nx_sR, uC_sI, uC_sL, uC_sD, uC_sR, uS_sI, uS_sL, uS_sD, uS_sR, nx_tk, uC_tk, uS_tk], (gk_O (VS := (rkV (nI 42) (mI S 105 (14 * (bS + n) + 6 + yS)) (mI S 106 (14 * (bS + n) + 6 + yS)) (mD S 107 (14 * (bS + n) + 6 + yS)) (mI S 105 (14 * (bS + n) + 6 + yS + 1)) (mI S 106 (14 * (bS + n) + 6 + yS + 1)) (mD S 107 (14 * (bS + n) + 6 + yS + 1)))) (VR := (rkV (nI 42) (mI R 105 (14 * (bR + n) + 6 + yR)) (mI R 106 (14 * (bR + n) + 6 + yR)) (mD R 107 (14 * (bR + n) + 6 + yR)) (mI R 105 (14 * (bR + n) + 6 + yR + 1)) (mI R 106 (14 * (bR + n) + 6 + yR + 1)) (mD R 107 (14 * (bR + n) + 6 + yR + 1)))) hC k3).imp (fun z => ⟨z.1, cnd (V1_same (rkV_12 _ _ _ _ _ _ _) (rkV_12 _ _ _ _ _ _ _) z.2.2)⟩)⟩
    · rw [pBF zw, gd93_F] at hp
      obtain rfl := gd_inj hgd hp
      exact ⟨_, by omega, g9, k3.imp (fun z => ⟨z.1, cnd ((rkV1_no (by decide) (by decide) (fun y => zw ⟨z.2.1.symm.trans y.1, z.2.2.symm.trans y.2⟩)).trans (rkV1_no (by decide) (by decide) zw).symm)⟩)⟩
theorem tg_47 {M S R G : Mem} {bS bR n ob1 ns1 nc1 nf1 ob2 ns2 nc2 nf2 f i e1 m1 h1 e2 m2 h2 a v g0 : Nat} {eS eR : Nat → Nat} {val rval : Nat → Vl} (A1 : ATI S (bS + n) ob1 ns1 nc1 nf1 f i e1 m1 h1 (nI a) 47) (A2 : ATI R (bR + n) ob2 ns2 nc2 nf2 f i e2 m2 h2 (nI a) 47) (hRC : RC M S 18 (bS + n) ns1) (gc : mI M 18 7 = nI 47) (hs : Sat S R bS bR n eS eR ob1 ob2 v val rval) (hv5 : v < 500) (g8 : mI R 69 78 = nI g0) (hg : g0 + 4 ≤ 120) (hgd : d_X12_guards (nI 47) R = some ((), G)) : ∃ g1, g1 ≤ g0 + 4 ∧ mI G 69 78 = nI g1 ∧ GCK M S G g0 g1 (Sat S G bS bR n eS eR ob1 ob2 v val rval ∧ (∀ tS tR, h1 = tS + 2 → h2 = tR + 2 → (rkV (nI 47) (mI S 105 (14 * (bS + n) + 6 + tS)) (mI S 106 (14 * (bS + n) + 6 + tS)) (mD S 107 (14 * (bS + n) + 6 + tS)) (mI S 105 (14 * (bS + n) + 6 + tS + 1)) (mI S 106 (14 * (bS + n) + 6 + tS + 1)) (mD S 107 (14 * (bS + n) + 6 + tS + 1))).1 = (rkV (nI 47) (mI R 105 (14 * (bR + n) + 6 + tR)) (mI R 106 (14 * (bR + n) + 6 + tR)) (mD R 107 (14 * (bR + n) + 6 + tR)) (mI R 105 (14 * (bR + n) + 6 + tR + 1)) (mI R 106 (14 * (bR + n) + 6 + tR + 1)) (mD R 107 (14 * (bR + n) + 6 + tR + 1))).1)) := by
  obtain ⟨W1, f1, g1, i1, j1, x1, l1, y1, z1, t1, u1, a1, c1, q1, o1⟩ := A1
  obtain ⟨W2, f2, g2, i2, j2, x2, l2, y2, z2, t2, u2, a2, c2, q2, o2⟩ := A2
  have hA : RAT M S (bS + n) h1 := ⟨⟨_, _, _, _, hRC, W1⟩, t1, u1⟩
  have hd := W2.1.1
  have hd1 := W2.1.2.1
  have hd1S := W1.1.2.1
  have i1x := i1
  obtain ⟨yS, rfl, b1, b2, hz1, -⟩ := fx_div W1 f1 g1 i1 j1 x1 l1 y1 z1 t1 u1 a1 c1 q1 o1
  obtain ⟨yR, rfl, b3, b4, hz2, -⟩ := fx_div W2 f2 g2 i2 j2 x2 l2 y2 z2 t2 u2 a2 c2 q2 o2
  have hat : ∀ H, Sat S H bS bR n eS eR ob1 ob2 v val rval → mI H 111 (bR + n) = nI (yR + 2) → At S H v val rval (14 * (bR + n) + 6 + yR) (14 * (bS + n) + 6 + yS) := fun H hs2 t9 => by
    have := (sat_at hs2 t1 t9 u1 u2).2 (6 + yR) (6 + yS) (by omega)
    simp only [← Nat.add_assoc] at this
    exact this
  have hat2 : ∀ H, Sat S H bS bR n eS eR ob1 ob2 v val rval → mI H 111 (bR + n) = nI (yR + 2) → At S H v val rval (14 * (bR + n) + 6 + yR + 1) (14 * (bS + n) + 6 + yS + 1) := fun H hs2 t9 => by
    have := (sat_at hs2 t1 t9 u1 u2).2 (6 + yR + 1) (6 + yS + 1) (by omega)
    simp only [← Nat.add_assoc] at this
    exact this
  obtain ⟨v1, wv1, hv1, -, -⟩ := hat R hs t2
  obtain ⟨v2, wv2, hv2, -, -⟩ := hat2 R hs t2
  have cnd : (rkV (nI 47) (mI S 105 (14 * (bS + n) + 6 + yS)) (mI S 106 (14 * (bS + n) + 6 + yS)) (mD S 107 (14 * (bS + n) + 6 + yS)) (mI S 105 (14 * (bS + n) + 6 + yS + 1)) (mI S 106 (14 * (bS + n) + 6 + yS + 1)) (mD S 107 (14 * (bS + n) + 6 + yS + 1))).1 = (rkV (nI 47) (mI R 105 (14 * (bR + n) + 6 + yR)) (mI R 106 (14 * (bR + n) + 6 + yR)) (mD R 107 (14 * (bR + n) + 6 + yR)) (mI R 105 (14 * (bR + n) + 6 + yR + 1)) (mI R 106 (14 * (bR + n) + 6 + yR + 1)) (mD R 107 (14 * (bR + n) + 6 + yR + 1))).1 → (∀ tS tR, yS + 2 = tS + 2 → yR + 2 = tR + 2 → (rkV (nI 47) (mI S 105 (14 * (bS + n) + 6 + tS)) (mI S 106 (14 * (bS + n) + 6 + tS)) (mD S 107 (14 * (bS + n) + 6 + tS)) (mI S 105 (14 * (bS + n) + 6 + tS + 1)) (mI S 106 (14 * (bS + n) + 6 + tS + 1)) (mD S 107 (14 * (bS + n) + 6 + tS + 1))).1 = (rkV (nI 47) (mI R 105 (14 * (bR + n) + 6 + tR)) (mI R 106 (14 * (bR + n) + 6 + tR)) (mD R 107 (14 * (bR + n) + 6 + tR)) (mI R 105 (14 * (bR + n) + 6 + tR + 1)) (mI R 106 (14 * (bR + n) + 6 + tR + 1)) (mD R 107 (14 * (bR + n) + 6 + tR + 1))).1) := fun hq tS tR y1 y2 => by
    obtain rfl : yS = tS := by omega
    obtain rfl : yR = tR := by omega
    exact hq
  by_cases zc : ¬ mI R 124 v1 = nI 0 ∧ ¬ mI R 124 v2 = nI 0
  · obtain rfl := gd_inj hgd (gd_const (p := 14 * (bR + n) + 6 + yR) hd hd1 t2 u2 isPr_47 (by omega) hv1 hv2 (by omega) (by omega) zc.1 zc.2)
    refine ⟨g0, by omega, g8, GCK.nil ⟨hs, cnd ?_⟩⟩
    have x9 := at_const hs (by omega) (hat G hs t2) (by rw [hv1, qcl (by omega)]; exact zc.1)
    have y9 := at_const hs (by omega) (hat2 G hs t2) (by rw [hv2, qcl (by omega)]; exact zc.2)
    unfold vS at x9 y9
    injection x9 with x91 x92
    injection x92 with x92 x93
    injection y9 with y91 y92
    injection y92 with y92 y93
    rw [x91, x92, x93, y91, y92, y93]
  · have hp := gd_pair (c := 47) (p := 14 * (bR + n) + 6 + yR) hd hd1 t2 u2 isPr_47 (by omega) hv1 hv2 (by omega) (by omega) zc g8 (by omega) (W2.2.2.1.1 _ (by omega)) (W2.2.2.1.1 _ (by omega))
    have hl1 := kdG_le R g0 v1
    have hl2 := k2G_le R g0 (14 * (bR + n) + 6 + yR) v1 v2
    have k1 := gk_K (g0 := g0) (gg := g0) (X := True) (p := 14 * (bR + n) + 6 + yR) hA (q := 14 * (bS + n) + 6 + yS) (x := 1) (by omega) (by omega) (by omega) hv1 (by omega) (by omega) (fun z => hat R z t2) (GCK.nil ⟨hs, trivial⟩)
    have t3 : mI (kdR R g0 1 (14 * (bR + n) + 6 + yR) v1) 111 (bR + n) = nI (yR + 2) := (kdR_n (by omega)).trans t2
    have k2 := gk_K (R := (kdR R g0 1 (14 * (bR + n) + 6 + yR) v1)) (g0 := g0) (gg := kdG R g0 v1) (p := 14 * (bR + n) + 6 + yR + 1) hA (q := 14 * (bS + n) + 6 + yS + 1) (x := 0) (by omega) (by omega) (by omega) (u := v2) ((kdR_n (by omega)).trans hv2) (by omega) (by omega) (fun z => hat2 _ z t3) k1
    have k3 : GCK M S (k2R R g0 (14 * (bR + n) + 6 + yR) v1 v2) g0 (k2G R g0 (14 * (bR + n) + 6 + yR) v1 v2) (Sat S (k2R R g0 (14 * (bR + n) + 6 + yR) v1 v2) bS bR n eS eR ob1 ob2 v val rval ∧ (mI S 105 (14 * (bS + n) + 6 + yS) = mI R 105 (14 * (bR + n) + 6 + yR) ∧ mI S 105 (14 * (bS + n) + 6 + yS + 1) = mI R 105 (14 * (bR + n) + 6 + yR + 1))) := k2.imp (fun z => ⟨z.1, z.2.1.2, z.2.2.trans (kdR_n (by omega))⟩)
    have g9 : mI (k2R R g0 (14 * (bR + n) + 6 + yR) v1 v2) 69 78 = nI (k2G R g0 (14 * (bR + n) + 6 + yR) v1 v2) := k2R_g g8
    by_cases zw : mI R 105 (14 * (bR + n) + 6 + yR) = nI 105 ∧ mI R 105 (14 * (bR + n) + 6 + yR + 1) = nI 105
    · rw [pBT zw] at hp
      have hC : (mI S 105 (14 * (bS + n) + 6 + yS) = mI R 105 (14 * (bR + n) + 6 + yR) ∧ mI S 105 (14 * (bS + n) + 6 + yS + 1) = mI R 105 (14 * (bR + n) + 6 + yR + 1)) → RHs S (nI 111) (nI 0) (pB ((rkV (nI 47) (mI R 105 (14 * (bR + n) + 6 + yR)) (mI R 106 (14 * (bR + n) + 6 + yR)) (mD R 107 (14 * (bR + n) + 6 + yR)) (mI R 105 (14 * (bR + n) + 6 + yR + 1)) (mI R 106 (14 * (bR + n) + 6 + yR + 1)) (mD R 107 (14 * (bR + n) + 6 + yR + 1))).1 = nI 105)) (pB ((rkV (nI 47) (mI S 105 (14 * (bS + n) + 6 + yS)) (mI S 106 (14 * (bS + n) + 6 + yS)) (mD S 107 (14 * (bS + n) + 6 + yS)) (mI S 105 (14 * (bS + n) + 6 + yS + 1)) (mI S 106 (14 * (bS + n) + 6 + yS + 1)) (mD S 107 (14 * (bS + n) + 6 + yS + 1))).1 = nI 105) = pB ((rkV (nI 47) (mI R 105 (14 * (bR + n) + 6 + yR)) (mI R 106 (14 * (bR + n) + 6 + yR)) (mD R 107 (14 * (bR + n) + 6 + yR)) (mI R 105 (14 * (bR + n) + 6 + yR + 1)) (mI R 106 (14 * (bR + n) + 6 + yR + 1)) (mD R 107 (14 * (bR + n) + 6 + yR + 1))).1 = nI 105)) ∧ CH M (nI 111) (nI 0) (pB ((rkV (nI 47) (mI R 105 (14 * (bR + n) + 6 + yR)) (mI R 106 (14 * (bR + n) + 6 + yR)) (mD R 107 (14 * (bR + n) + 6 + yR)) (mI R 105 (14 * (bR + n) + 6 + yR + 1)) (mI R 106 (14 * (bR + n) + 6 + yR + 1)) (mD R 107 (14 * (bR + n) + 6 + yR + 1))).1 = nI 105)) (pB ((rkV (nI 47) (mI S 105 (14 * (bS + n) + 6 + yS)) (mI S 106 (14 * (bS + n) + 6 + yS)) (mD S 107 (14 * (bS + n) + 6 + yS)) (mI S 105 (14 * (bS + n) + 6 + yS + 1)) (mI S 106 (14 * (bS + n) + 6 + yS + 1)) (mD S 107 (14 * (bS + n) + 6 + yS + 1))).1 = nI 105) = pB ((rkV (nI 47) (mI R 105 (14 * (bR + n) + 6 + yR)) (mI R 106 (14 * (bR + n) + 6 + yR)) (mD R 107 (14 * (bR + n) + 6 + yR)) (mI R 105 (14 * (bR + n) + 6 + yR + 1)) (mI R 106 (14 * (bR + n) + 6 + yR + 1)) (mD R 107 (14 * (bR + n) + 6 + yR + 1))).1 = nI 105)) := fun hk => by
        obtain ⟨xd, xd1, xgd, xgh, xV, -⟩ := hA.g
        have i1 := hk.1.trans zw.1
        have i2 := hk.2.trans zw.2
        have hm : ∀ S2, RKS S S2 → d_X12_reckons (nI 47) (nI (14 * (bS + n) + 6 + yS)) (nI (14 * (bS + n) + 6 + yS + 1)) S2 = some ((), rkM S2 (rkV (nI 47) (mI S 105 (14 * (bS + n) + 6 + yS)) (mI S 106 (14 * (bS + n) + 6 + yS)) (mD S 107 (14 * (bS + n) + 6 + yS)) (mI S 105 (14 * (bS + n) + 6 + yS + 1)) (mI S 106 (14 * (bS + n) + 6 + yS + 1)) (mD S 107 (14 * (bS + n) + 6 + yS + 1)))) := fun S2 hq2 => by
          obtain ⟨b1_, b2_, -⟩ := hq2.sb
          have r5 : ∀ p, mI S2 105 p = mI S 105 p := fun p => b1_ 105 p (by omega) (by omega)
          have r6 : ∀ p, mI S2 106 p = mI S 106 p := fun p => b1_ 106 p (by omega) (by omega)
          have r7 : ∀ p, mD S2 107 p = mD S 107 p := fun p => b2_ 107 p (by omega)
          have := m_reck_div (S := S2) (p := 14 * (bS + n) + 6 + yS) (q := 14 * (bS + n) + 6 + yS + 1) (by omega) (by omega) (by simp only [r5, r6]; exact hz1)
          simp only [r5, r6, r7] at this
          exact this
        refine ⟨rhs_o (p := 14 * (bS + n) + 6 + yS) xd xd1 t1 u1 (by omega) f1 g1 i1x j1 c1 rfl hm, ch_o (kk_o_div (p := 14 * (bS + n) + 6 + yS) xgd xd1 xgh u1 (by omega) gc (xV _ (by omega)) (xV _ (by omega)) i1 i2 (hz1 i1 i2))⟩
      by_cases zn : nkP (k2R R g0 (14 * (bR + n) + 6 + yR) v1 v2) v2
      · have hq : d_X12_reckons (nI 47) (nI (14 * (bR + n) + 6 + yR)) (nI (14 * (bR + n) + 6 + yR + 1)) (k2R R g0 (14 * (bR + n) + 6 + yR) v1 v2) = some ((), rkM (k2R R g0 (14 * (bR + n) + 6 + yR) v1 v2) (rkV (nI 47) (mI R 105 (14 * (bR + n) + 6 + yR)) (mI R 106 (14 * (bR + n) + 6 + yR)) (mD R 107 (14 * (bR + n) + 6 + yR)) (mI R 105 (14 * (bR + n) + 6 + yR + 1)) (mI R 106 (14 * (bR + n) + 6 + yR + 1)) (mD R 107 (14 * (bR + n) + 6 + yR + 1)))) := by
          have f1_ : mI (k2R R g0 (14 * (bR + n) + 6 + yR) v1 v2) 105 (14 * (bR + n) + 6 + yR) = mI R 105 (14 * (bR + n) + 6 + yR) := k2R_n (by omega)
          have f2_ : mI (k2R R g0 (14 * (bR + n) + 6 + yR) v1 v2) 105 (14 * (bR + n) + 6 + yR + 1) = mI R 105 (14 * (bR + n) + 6 + yR + 1) := k2R_n (by omega)
          have f3_ : mI (k2R R g0 (14 * (bR + n) + 6 + yR) v1 v2) 106 (14 * (bR + n) + 6 + yR) = mI R 106 (14 * (bR + n) + 6 + yR) := k2R_n (by omega)
          have f4_ : mI (k2R R g0 (14 * (bR + n) + 6 + yR) v1 v2) 106 (14 * (bR + n) + 6 + yR + 1) = mI R 106 (14 * (bR + n) + 6 + yR + 1) := k2R_n (by omega)
          have f5_ : mD (k2R R g0 (14 * (bR + n) + 6 + yR) v1 v2) 107 (14 * (bR + n) + 6 + yR) = mD R 107 (14 * (bR + n) + 6 + yR) := k2R_D
          have f6_ : mD (k2R R g0 (14 * (bR + n) + 6 + yR) v1 v2) 107 (14 * (bR + n) + 6 + yR + 1) = mD R 107 (14 * (bR + n) + 6 + yR + 1) := k2R_D
          have := m_reck_div (S := (k2R R g0 (14 * (bR + n) + 6 + yR) v1 v2)) (p := 14 * (bR + n) + 6 + yR) (q := 14 * (bR + n) + 6 + yR + 1) (by omega) (by omega) (by rw [f1_, f2_, f4_]; exact hz2)
          rw [f1_, f2_, f3_, f4_, f5_, f6_] at this
          exact this
        have ho := gd164 (S := (k2R R g0 (14 * (bR + n) + 6 + yR) v1 v2)) (c := 47) (p := 14 * (bR + n) + 6 + yR) (by rw [show mI (k2R R g0 (14 * (bR + n) + 6 + yR) v1 v2) 69 48 = mI R 69 48 from k2R_n (by omega)]; exact hd) hd1 (by rw [show mI (k2R R g0 (14 * (bR + n) + 6 + yR) v1 v2) 111 (bR + n) = mI R 111 (bR + n) from k2R_n (by omega)]; exact t2) u2 (by omega) hq g9 (by omega)
        rw [gd93_div1 (by omega) zn ho] at hp
        obtain rfl := gd_inj hgd hp
        exact ⟨_, by omega, by unfold oR akR; simp (disch := omega) only [← Nat.add_assoc, Nat.add_sub_cancel, Nat.sub_zero, as21, as31, as32, and_self, and_true, true_and, l_0, l_1, l_2, l_3, l_4, l_5, l_6, l_7, l_8, l_9, l_10, l_11, l_12, l_13, l_14, l_15, l_16, l_17, l_18, l_19, l_20, l_21, l_22, l_23, l_24, l_25, l_26, l_27, l_28, l_29, l_30, l_31, l_32, l_33, l_34, l_35, l_36, l_37, l_38, l_39, l_40, l_41, l_42, l_43, l_44, l_45, l_47, l_48, l_50, l_52, l_60, l_61, l_63, l_80, l_99, l_100, l_101, l_102, l_103, l_105, l_106, l_107, l_108, l_109, l_110, l_111, l_112, l_114, l_115, l_116, l_117, l_118, l_119, l_120, l_122, l_168, l_200, l_320, l_360, l_528, l_548, l_1000, l_1023, l_2000, l_3000, l_1000000, qadd, qmul, qsub, qdiv, qcl, qinT, qchT, qleT, qleF, qltT, qltF, qeqT, qeqF, qneg_ne, bo0, bo1, qneg_ne', qneg_lt, mI_eq, mD_eq, mL_eq, mR_eq, mI_at, mD_at, mL_at, mI_ne, mD_ne, mL_ne, mR_ne, not_false_eq_true, not_true_eq_false, or_true, true_or, or_false, false_or, or_self, false_and, and_false, eq_self, mI_sL, mI_sD, mI_sR, mI_tk, mL_sI, mL_sD, mL_sR, mL_tk, mD_sI, mD_sL, mD_sR, mD_tk, mR_sI, mR_sL, mR_sD, mR_tk, mT_sI, mT_sL, mT_sD, mT_sR, mT_tk, mK_sI, mK_sL, mK_sD, mK_sR, mK_tk, mN_sI, mN_sL, mN_sD, mN_sR, mN_tk, nx_sI, nx_sL, nx_sD, nx_sR, uC_sI, uC_sL, uC_sD, uC_sR, uS_sI, uS_sL, uS_sD, uS_sR, nx_tk, uC_tk, uS_tk], (gk_O (VS := (rkV (nI 47) (mI S 105 (14 * (bS + n) + 6 + yS)) (mI S 106 (14 * (bS + n) + 6 + yS)) (mD S 107 (14 * (bS + n) + 6 + yS)) (mI S 105 (14 * (bS + n) + 6 + yS + 1)) (mI S 106 (14 * (bS + n) + 6 + yS + 1)) (mD S 107 (14 * (bS + n) + 6 + yS + 1)))) (VR := (rkV (nI 47) (mI R 105 (14 * (bR + n) + 6 + yR)) (mI R 106 (14 * (bR + n) + 6 + yR)) (mD R 107 (14 * (bR + n) + 6 + yR)) (mI R 105 (14 * (bR + n) + 6 + yR + 1)) (mI R 106 (14 * (bR + n) + 6 + yR + 1)) (mD R 107 (14 * (bR + n) + 6 + yR + 1)))) hC k3).imp (fun z => ⟨z.1, cnd (V1_same (rkV_12 _ _ _ _ _ _ _) (rkV_12 _ _ _ _ _ _ _) z.2.2)⟩)⟩
      · have t4 : mI (k2R R g0 (14 * (bR + n) + 6 + yR) v1 v2) 111 (bR + n) = nI (yR + 2) := (k2R_n (by omega)).trans t2
        have k4 := gk_Z (R := (k2R R g0 (14 * (bR + n) + 6 + yR) v1 v2)) (g0 := g0) (gg := (k2G R g0 (14 * (bR + n) + 6 + yR) v1 v2)) (p := 14 * (bR + n) + 6 + yR + 1) hA (q := 14 * (bS + n) + 6 + yS + 1) (by omega) (u := v2) ((k2R_n (by omega)).trans hv2) (by omega) (by omega) (fun z => hat2 _ z t4) ((k2R_n (by omega)).trans zw.2) (by rw [k2R_n (by omega)]; exact hz2 zw.1 zw.2) (fun z => z.2.trans zw.2) k3
        have g10 : mI (zR (k2R R g0 (14 * (bR + n) + 6 + yR) v1 v2) (k2G R g0 (14 * (bR + n) + 6 + yR) v1 v2) v2) 69 78 = nI ((k2G R g0 (14 * (bR + n) + 6 + yR) v1 v2) + 1) := by unfold zR akR; simp (disch := omega) only [← Nat.add_assoc, Nat.add_sub_cancel, Nat.sub_zero, as21, as31, as32, and_self, and_true, true_and, l_0, l_1, l_2, l_3, l_4, l_5, l_6, l_7, l_8, l_9, l_10, l_11, l_12, l_13, l_14, l_15, l_16, l_17, l_18, l_19, l_20, l_21, l_22, l_23, l_24, l_25, l_26, l_27, l_28, l_29, l_30, l_31, l_32, l_33, l_34, l_35, l_36, l_37, l_38, l_39, l_40, l_41, l_42, l_43, l_44, l_45, l_47, l_48, l_50, l_52, l_60, l_61, l_63, l_80, l_99, l_100, l_101, l_102, l_103, l_105, l_106, l_107, l_108, l_109, l_110, l_111, l_112, l_114, l_115, l_116, l_117, l_118, l_119, l_120, l_122, l_168, l_200, l_320, l_360, l_528, l_548, l_1000, l_1023, l_2000, l_3000, l_1000000, qadd, qmul, qsub, qdiv, qcl, qinT, qchT, qleT, qleF, qltT, qltF, qeqT, qeqF, qneg_ne, bo0, bo1, qneg_ne', qneg_lt, mI_eq, mD_eq, mL_eq, mR_eq, mI_at, mD_at, mL_at, mI_ne, mD_ne, mL_ne, mR_ne, not_false_eq_true, not_true_eq_false, or_true, true_or, or_false, false_or, or_self, false_and, and_false, eq_self, mI_sL, mI_sD, mI_sR, mI_tk, mL_sI, mL_sD, mL_sR, mL_tk, mD_sI, mD_sL, mD_sR, mD_tk, mR_sI, mR_sL, mR_sD, mR_tk, mT_sI, mT_sL, mT_sD, mT_sR, mT_tk, mK_sI, mK_sL, mK_sD, mK_sR, mK_tk, mN_sI, mN_sL, mN_sD, mN_sR, mN_tk, nx_sI, nx_sL, nx_sD, nx_sR, uC_sI, uC_sL, uC_sD, uC_sR, uS_sI, uS_sL, uS_sD, uS_sR, nx_tk, uC_tk, uS_tk]
        have hq : d_X12_reckons (nI 47) (nI (14 * (bR + n) + 6 + yR)) (nI (14 * (bR + n) + 6 + yR + 1)) (zR (k2R R g0 (14 * (bR + n) + 6 + yR) v1 v2) (k2G R g0 (14 * (bR + n) + 6 + yR) v1 v2) v2) = some ((), rkM (zR (k2R R g0 (14 * (bR + n) + 6 + yR) v1 v2) (k2G R g0 (14 * (bR + n) + 6 + yR) v1 v2) v2) (rkV (nI 47) (mI R 105 (14 * (bR + n) + 6 + yR)) (mI R 106 (14 * (bR + n) + 6 + yR)) (mD R 107 (14 * (bR + n) + 6 + yR)) (mI R 105 (14 * (bR + n) + 6 + yR + 1)) (mI R 106 (14 * (bR + n) + 6 + yR + 1)) (mD R 107 (14 * (bR + n) + 6 + yR + 1)))) := by
          have f1_ : mI (zR (k2R R g0 (14 * (bR + n) + 6 + yR) v1 v2) (k2G R g0 (14 * (bR + n) + 6 + yR) v1 v2) v2) 105 (14 * (bR + n) + 6 + yR) = mI R 105 (14 * (bR + n) + 6 + yR) := (by unfold zR akR; simp (disch := omega) only [← Nat.add_assoc, Nat.add_sub_cancel, Nat.sub_zero, as21, as31, as32, and_self, and_true, true_and, l_0, l_1, l_2, l_3, l_4, l_5, l_6, l_7, l_8, l_9, l_10, l_11, l_12, l_13, l_14, l_15, l_16, l_17, l_18, l_19, l_20, l_21, l_22, l_23, l_24, l_25, l_26, l_27, l_28, l_29, l_30, l_31, l_32, l_33, l_34, l_35, l_36, l_37, l_38, l_39, l_40, l_41, l_42, l_43, l_44, l_45, l_47, l_48, l_50, l_52, l_60, l_61, l_63, l_80, l_99, l_100, l_101, l_102, l_103, l_105, l_106, l_107, l_108, l_109, l_110, l_111, l_112, l_114, l_115, l_116, l_117, l_118, l_119, l_120, l_122, l_168, l_200, l_320, l_360, l_528, l_548, l_1000, l_1023, l_2000, l_3000, l_1000000, qadd, qmul, qsub, qdiv, qcl, qinT, qchT, qleT, qleF, qltT, qltF, qeqT, qeqF, qneg_ne, bo0, bo1, qneg_ne', qneg_lt, mI_eq, mD_eq, mL_eq, mR_eq, mI_at, mD_at, mL_at, mI_ne, mD_ne, mL_ne, mR_ne, not_false_eq_true, not_true_eq_false, or_true, true_or, or_false, false_or, or_self, false_and, and_false, eq_self, mI_sL, mI_sD, mI_sR, mI_tk, mL_sI, mL_sD, mL_sR, mL_tk, mD_sI, mD_sL, mD_sR, mD_tk, mR_sI, mR_sL, mR_sD, mR_tk, mT_sI, mT_sL, mT_sD, mT_sR, mT_tk, mK_sI, mK_sL, mK_sD, mK_sR, mK_tk, mN_sI, mN_sL, mN_sD, mN_sR, mN_tk, nx_sI, nx_sL, nx_sD, nx_sR, uC_sI, uC_sL, uC_sD, uC_sR, uS_sI, uS_sL, uS_sD, uS_sR, nx_tk, uC_tk, uS_tk]; exact k2R_n (by omega))
          have f2_ : mI (zR (k2R R g0 (14 * (bR + n) + 6 + yR) v1 v2) (k2G R g0 (14 * (bR + n) + 6 + yR) v1 v2) v2) 105 (14 * (bR + n) + 6 + yR + 1) = mI R 105 (14 * (bR + n) + 6 + yR + 1) := (by unfold zR akR; simp (disch := omega) only [← Nat.add_assoc, Nat.add_sub_cancel, Nat.sub_zero, as21, as31, as32, and_self, and_true, true_and, l_0, l_1, l_2, l_3, l_4, l_5, l_6, l_7, l_8, l_9, l_10, l_11, l_12, l_13, l_14, l_15, l_16, l_17, l_18, l_19, l_20, l_21, l_22, l_23, l_24, l_25, l_26, l_27, l_28, l_29, l_30, l_31, l_32, l_33, l_34, l_35, l_36, l_37, l_38, l_39, l_40, l_41, l_42, l_43, l_44, l_45, l_47, l_48, l_50, l_52, l_60, l_61, l_63, l_80, l_99, l_100, l_101, l_102, l_103, l_105, l_106, l_107, l_108, l_109, l_110, l_111, l_112, l_114, l_115, l_116, l_117, l_118, l_119, l_120, l_122, l_168, l_200, l_320, l_360, l_528, l_548, l_1000, l_1023, l_2000, l_3000, l_1000000, qadd, qmul, qsub, qdiv, qcl, qinT, qchT, qleT, qleF, qltT, qltF, qeqT, qeqF, qneg_ne, bo0, bo1, qneg_ne', qneg_lt, mI_eq, mD_eq, mL_eq, mR_eq, mI_at, mD_at, mL_at, mI_ne, mD_ne, mL_ne, mR_ne, not_false_eq_true, not_true_eq_false, or_true, true_or, or_false, false_or, or_self, false_and, and_false, eq_self, mI_sL, mI_sD, mI_sR, mI_tk, mL_sI, mL_sD, mL_sR, mL_tk, mD_sI, mD_sL, mD_sR, mD_tk, mR_sI, mR_sL, mR_sD, mR_tk, mT_sI, mT_sL, mT_sD, mT_sR, mT_tk, mK_sI, mK_sL, mK_sD, mK_sR, mK_tk, mN_sI, mN_sL, mN_sD, mN_sR, mN_tk, nx_sI, nx_sL, nx_sD, nx_sR, uC_sI, uC_sL, uC_sD, uC_sR, uS_sI, uS_sL, uS_sD, uS_sR, nx_tk, uC_tk, uS_tk]; exact k2R_n (by omega))
          have f3_ : mI (zR (k2R R g0 (14 * (bR + n) + 6 + yR) v1 v2) (k2G R g0 (14 * (bR + n) + 6 + yR) v1 v2) v2) 106 (14 * (bR + n) + 6 + yR) = mI R 106 (14 * (bR + n) + 6 + yR) := (by unfold zR akR; simp (disch := omega) only [← Nat.add_assoc, Nat.add_sub_cancel, Nat.sub_zero, as21, as31, as32, and_self, and_true, true_and, l_0, l_1, l_2, l_3, l_4, l_5, l_6, l_7, l_8, l_9, l_10, l_11, l_12, l_13, l_14, l_15, l_16, l_17, l_18, l_19, l_20, l_21, l_22, l_23, l_24, l_25, l_26, l_27, l_28, l_29, l_30, l_31, l_32, l_33, l_34, l_35, l_36, l_37, l_38, l_39, l_40, l_41, l_42, l_43, l_44, l_45, l_47, l_48, l_50, l_52, l_60, l_61, l_63, l_80, l_99, l_100, l_101, l_102, l_103, l_105, l_106, l_107, l_108, l_109, l_110, l_111, l_112, l_114, l_115, l_116, l_117, l_118, l_119, l_120, l_122, l_168, l_200, l_320, l_360, l_528, l_548, l_1000, l_1023, l_2000, l_3000, l_1000000, qadd, qmul, qsub, qdiv, qcl, qinT, qchT, qleT, qleF, qltT, qltF, qeqT, qeqF, qneg_ne, bo0, bo1, qneg_ne', qneg_lt, mI_eq, mD_eq, mL_eq, mR_eq, mI_at, mD_at, mL_at, mI_ne, mD_ne, mL_ne, mR_ne, not_false_eq_true, not_true_eq_false, or_true, true_or, or_false, false_or, or_self, false_and, and_false, eq_self, mI_sL, mI_sD, mI_sR, mI_tk, mL_sI, mL_sD, mL_sR, mL_tk, mD_sI, mD_sL, mD_sR, mD_tk, mR_sI, mR_sL, mR_sD, mR_tk, mT_sI, mT_sL, mT_sD, mT_sR, mT_tk, mK_sI, mK_sL, mK_sD, mK_sR, mK_tk, mN_sI, mN_sL, mN_sD, mN_sR, mN_tk, nx_sI, nx_sL, nx_sD, nx_sR, uC_sI, uC_sL, uC_sD, uC_sR, uS_sI, uS_sL, uS_sD, uS_sR, nx_tk, uC_tk, uS_tk]; exact k2R_n (by omega))
          have f4_ : mI (zR (k2R R g0 (14 * (bR + n) + 6 + yR) v1 v2) (k2G R g0 (14 * (bR + n) + 6 + yR) v1 v2) v2) 106 (14 * (bR + n) + 6 + yR + 1) = mI R 106 (14 * (bR + n) + 6 + yR + 1) := (by unfold zR akR; simp (disch := omega) only [← Nat.add_assoc, Nat.add_sub_cancel, Nat.sub_zero, as21, as31, as32, and_self, and_true, true_and, l_0, l_1, l_2, l_3, l_4, l_5, l_6, l_7, l_8, l_9, l_10, l_11, l_12, l_13, l_14, l_15, l_16, l_17, l_18, l_19, l_20, l_21, l_22, l_23, l_24, l_25, l_26, l_27, l_28, l_29, l_30, l_31, l_32, l_33, l_34, l_35, l_36, l_37, l_38, l_39, l_40, l_41, l_42, l_43, l_44, l_45, l_47, l_48, l_50, l_52, l_60, l_61, l_63, l_80, l_99, l_100, l_101, l_102, l_103, l_105, l_106, l_107, l_108, l_109, l_110, l_111, l_112, l_114, l_115, l_116, l_117, l_118, l_119, l_120, l_122, l_168, l_200, l_320, l_360, l_528, l_548, l_1000, l_1023, l_2000, l_3000, l_1000000, qadd, qmul, qsub, qdiv, qcl, qinT, qchT, qleT, qleF, qltT, qltF, qeqT, qeqF, qneg_ne, bo0, bo1, qneg_ne', qneg_lt, mI_eq, mD_eq, mL_eq, mR_eq, mI_at, mD_at, mL_at, mI_ne, mD_ne, mL_ne, mR_ne, not_false_eq_true, not_true_eq_false, or_true, true_or, or_false, false_or, or_self, false_and, and_false, eq_self, mI_sL, mI_sD, mI_sR, mI_tk, mL_sI, mL_sD, mL_sR, mL_tk, mD_sI, mD_sL, mD_sR, mD_tk, mR_sI, mR_sL, mR_sD, mR_tk, mT_sI, mT_sL, mT_sD, mT_sR, mT_tk, mK_sI, mK_sL, mK_sD, mK_sR, mK_tk, mN_sI, mN_sL, mN_sD, mN_sR, mN_tk, nx_sI, nx_sL, nx_sD, nx_sR, uC_sI, uC_sL, uC_sD, uC_sR, uS_sI, uS_sL, uS_sD, uS_sR, nx_tk, uC_tk, uS_tk]; exact k2R_n (by omega))
          have f5_ : mD (zR (k2R R g0 (14 * (bR + n) + 6 + yR) v1 v2) (k2G R g0 (14 * (bR + n) + 6 + yR) v1 v2) v2) 107 (14 * (bR + n) + 6 + yR) = mD R 107 (14 * (bR + n) + 6 + yR) := (by unfold zR akR; simp (disch := omega) only [← Nat.add_assoc, Nat.add_sub_cancel, Nat.sub_zero, as21, as31, as32, and_self, and_true, true_and, l_0, l_1, l_2, l_3, l_4, l_5, l_6, l_7, l_8, l_9, l_10, l_11, l_12, l_13, l_14, l_15, l_16, l_17, l_18, l_19, l_20, l_21, l_22, l_23, l_24, l_25, l_26, l_27, l_28, l_29, l_30, l_31, l_32, l_33, l_34, l_35, l_36, l_37, l_38, l_39, l_40, l_41, l_42, l_43, l_44, l_45, l_47, l_48, l_50, l_52, l_60, l_61, l_63, l_80, l_99, l_100, l_101, l_102, l_103, l_105, l_106, l_107, l_108, l_109, l_110, l_111, l_112, l_114, l_115, l_116, l_117, l_118, l_119, l_120, l_122, l_168, l_200, l_320, l_360, l_528, l_548, l_1000, l_1023, l_2000, l_3000, l_1000000, qadd, qmul, qsub, qdiv, qcl, qinT, qchT, qleT, qleF, qltT, qltF, qeqT, qeqF, qneg_ne, bo0, bo1, qneg_ne', qneg_lt, mI_eq, mD_eq, mL_eq, mR_eq, mI_at, mD_at, mL_at, mI_ne, mD_ne, mL_ne, mR_ne, not_false_eq_true, not_true_eq_false, or_true, true_or, or_false, false_or, or_self, false_and, and_false, eq_self, mI_sL, mI_sD, mI_sR, mI_tk, mL_sI, mL_sD, mL_sR, mL_tk, mD_sI, mD_sL, mD_sR, mD_tk, mR_sI, mR_sL, mR_sD, mR_tk, mT_sI, mT_sL, mT_sD, mT_sR, mT_tk, mK_sI, mK_sL, mK_sD, mK_sR, mK_tk, mN_sI, mN_sL, mN_sD, mN_sR, mN_tk, nx_sI, nx_sL, nx_sD, nx_sR, uC_sI, uC_sL, uC_sD, uC_sR, uS_sI, uS_sL, uS_sD, uS_sR, nx_tk, uC_tk, uS_tk]; exact k2R_D)
          have f6_ : mD (zR (k2R R g0 (14 * (bR + n) + 6 + yR) v1 v2) (k2G R g0 (14 * (bR + n) + 6 + yR) v1 v2) v2) 107 (14 * (bR + n) + 6 + yR + 1) = mD R 107 (14 * (bR + n) + 6 + yR + 1) := (by unfold zR akR; simp (disch := omega) only [← Nat.add_assoc, Nat.add_sub_cancel, Nat.sub_zero, as21, as31, as32, and_self, and_true, true_and, l_0, l_1, l_2, l_3, l_4, l_5, l_6, l_7, l_8, l_9, l_10, l_11, l_12, l_13, l_14, l_15, l_16, l_17, l_18, l_19, l_20, l_21, l_22, l_23, l_24, l_25, l_26, l_27, l_28, l_29, l_30, l_31, l_32, l_33, l_34, l_35, l_36, l_37, l_38, l_39, l_40, l_41, l_42, l_43, l_44, l_45, l_47, l_48, l_50, l_52, l_60, l_61, l_63, l_80, l_99, l_100, l_101, l_102, l_103, l_105, l_106, l_107, l_108, l_109, l_110, l_111, l_112, l_114, l_115, l_116, l_117, l_118, l_119, l_120, l_122, l_168, l_200, l_320, l_360, l_528, l_548, l_1000, l_1023, l_2000, l_3000, l_1000000, qadd, qmul, qsub, qdiv, qcl, qinT, qchT, qleT, qleF, qltT, qltF, qeqT, qeqF, qneg_ne, bo0, bo1, qneg_ne', qneg_lt, mI_eq, mD_eq, mL_eq, mR_eq, mI_at, mD_at, mL_at, mI_ne, mD_ne, mL_ne, mR_ne, not_false_eq_true, not_true_eq_false, or_true, true_or, or_false, false_or, or_self, false_and, and_false, eq_self, mI_sL, mI_sD, mI_sR, mI_tk, mL_sI, mL_sD, mL_sR, mL_tk, mD_sI, mD_sL, mD_sR, mD_tk, mR_sI, mR_sL, mR_sD, mR_tk, mT_sI, mT_sL, mT_sD, mT_sR, mT_tk, mK_sI, mK_sL, mK_sD, mK_sR, mK_tk, mN_sI, mN_sL, mN_sD, mN_sR, mN_tk, nx_sI, nx_sL, nx_sD, nx_sR, uC_sI, uC_sL, uC_sD, uC_sR, uS_sI, uS_sL, uS_sD, uS_sR, nx_tk, uC_tk, uS_tk]; exact k2R_D)
          have := m_reck_div (S := (zR (k2R R g0 (14 * (bR + n) + 6 + yR) v1 v2) (k2G R g0 (14 * (bR + n) + 6 + yR) v1 v2) v2)) (p := 14 * (bR + n) + 6 + yR) (q := 14 * (bR + n) + 6 + yR + 1) (by omega) (by omega) (by rw [f1_, f2_, f4_]; exact hz2)
          rw [f1_, f2_, f3_, f4_, f5_, f6_] at this
          exact this
        have ho := gd164 (S := (zR (k2R R g0 (14 * (bR + n) + 6 + yR) v1 v2) (k2G R g0 (14 * (bR + n) + 6 + yR) v1 v2) v2)) (c := 47) (p := 14 * (bR + n) + 6 + yR) (by rw [show mI (zR (k2R R g0 (14 * (bR + n) + 6 + yR) v1 v2) (k2G R g0 (14 * (bR + n) + 6 + yR) v1 v2) v2) 69 48 = mI R 69 48 from (by unfold zR akR; simp (disch := omega) only [← Nat.add_assoc, Nat.add_sub_cancel, Nat.sub_zero, as21, as31, as32, and_self, and_true, true_and, l_0, l_1, l_2, l_3, l_4, l_5, l_6, l_7, l_8, l_9, l_10, l_11, l_12, l_13, l_14, l_15, l_16, l_17, l_18, l_19, l_20, l_21, l_22, l_23, l_24, l_25, l_26, l_27, l_28, l_29, l_30, l_31, l_32, l_33, l_34, l_35, l_36, l_37, l_38, l_39, l_40, l_41, l_42, l_43, l_44, l_45, l_47, l_48, l_50, l_52, l_60, l_61, l_63, l_80, l_99, l_100, l_101, l_102, l_103, l_105, l_106, l_107, l_108, l_109, l_110, l_111, l_112, l_114, l_115, l_116, l_117, l_118, l_119, l_120, l_122, l_168, l_200, l_320, l_360, l_528, l_548, l_1000, l_1023, l_2000, l_3000, l_1000000, qadd, qmul, qsub, qdiv, qcl, qinT, qchT, qleT, qleF, qltT, qltF, qeqT, qeqF, qneg_ne, bo0, bo1, qneg_ne', qneg_lt, mI_eq, mD_eq, mL_eq, mR_eq, mI_at, mD_at, mL_at, mI_ne, mD_ne, mL_ne, mR_ne, not_false_eq_true, not_true_eq_false, or_true, true_or, or_false, false_or, or_self, false_and, and_false, eq_self, mI_sL, mI_sD, mI_sR, mI_tk, mL_sI, mL_sD, mL_sR, mL_tk, mD_sI, mD_sL, mD_sR, mD_tk, mR_sI, mR_sL, mR_sD, mR_tk, mT_sI, mT_sL, mT_sD, mT_sR, mT_tk, mK_sI, mK_sL, mK_sD, mK_sR, mK_tk, mN_sI, mN_sL, mN_sD, mN_sR, mN_tk, nx_sI, nx_sL, nx_sD, nx_sR, uC_sI, uC_sL, uC_sD, uC_sR, uS_sI, uS_sL, uS_sD, uS_sR, nx_tk, uC_tk, uS_tk]; exact k2R_n (by omega))]; exact hd) hd1 (by rw [show mI (zR (k2R R g0 (14 * (bR + n) + 6 + yR) v1 v2) (k2G R g0 (14 * (bR + n) + 6 + yR) v1 v2) v2) 111 (bR + n) = mI R 111 (bR + n) from (by unfold zR akR; simp (disch := omega) only [← Nat.add_assoc, Nat.add_sub_cancel, Nat.sub_zero, as21, as31, as32, and_self, and_true, true_and, l_0, l_1, l_2, l_3, l_4, l_5, l_6, l_7, l_8, l_9, l_10, l_11, l_12, l_13, l_14, l_15, l_16, l_17, l_18, l_19, l_20, l_21, l_22, l_23, l_24, l_25, l_26, l_27, l_28, l_29, l_30, l_31, l_32, l_33, l_34, l_35, l_36, l_37, l_38, l_39, l_40, l_41, l_42, l_43, l_44, l_45, l_47, l_48, l_50, l_52, l_60, l_61, l_63, l_80, l_99, l_100, l_101, l_102, l_103, l_105, l_106, l_107, l_108, l_109, l_110, l_111, l_112, l_114, l_115, l_116, l_117, l_118, l_119, l_120, l_122, l_168, l_200, l_320, l_360, l_528, l_548, l_1000, l_1023, l_2000, l_3000, l_1000000, qadd, qmul, qsub, qdiv, qcl, qinT, qchT, qleT, qleF, qltT, qltF, qeqT, qeqF, qneg_ne, bo0, bo1, qneg_ne', qneg_lt, mI_eq, mD_eq, mL_eq, mR_eq, mI_at, mD_at, mL_at, mI_ne, mD_ne, mL_ne, mR_ne, not_false_eq_true, not_true_eq_false, or_true, true_or, or_false, false_or, or_self, false_and, and_false, eq_self, mI_sL, mI_sD, mI_sR, mI_tk, mL_sI, mL_sD, mL_sR, mL_tk, mD_sI, mD_sL, mD_sR, mD_tk, mR_sI, mR_sL, mR_sD, mR_tk, mT_sI, mT_sL, mT_sD, mT_sR, mT_tk, mK_sI, mK_sL, mK_sD, mK_sR, mK_tk, mN_sI, mN_sL, mN_sD, mN_sR, mN_tk, nx_sI, nx_sL, nx_sD, nx_sR, uC_sI, uC_sL, uC_sD, uC_sR, uS_sI, uS_sL, uS_sD, uS_sR, nx_tk, uC_tk, uS_tk]; exact k2R_n (by omega))]; exact t2) u2 (by omega) hq g10 (by omega)
        rw [gd93_div0 (by omega) zn g9 (by omega) ho] at hp
        obtain rfl := gd_inj hgd hp
        exact ⟨_, by omega, by unfold oR akR; simp (disch := omega) only [← Nat.add_assoc, Nat.add_sub_cancel, Nat.sub_zero, as21, as31, as32, and_self, and_true, true_and, l_0, l_1, l_2, l_3, l_4, l_5, l_6, l_7, l_8, l_9, l_10, l_11, l_12, l_13, l_14, l_15, l_16, l_17, l_18, l_19, l_20, l_21, l_22, l_23, l_24, l_25, l_26, l_27, l_28, l_29, l_30, l_31, l_32, l_33, l_34, l_35, l_36, l_37, l_38, l_39, l_40, l_41, l_42, l_43, l_44, l_45, l_47, l_48, l_50, l_52, l_60, l_61, l_63, l_80, l_99, l_100, l_101, l_102, l_103, l_105, l_106, l_107, l_108, l_109, l_110, l_111, l_112, l_114, l_115, l_116, l_117, l_118, l_119, l_120, l_122, l_168, l_200, l_320, l_360, l_528, l_548, l_1000, l_1023, l_2000, l_3000, l_1000000, qadd, qmul, qsub, qdiv, qcl, qinT, qchT, qleT, qleF, qltT, qltF, qeqT, qeqF, qneg_ne, bo0, bo1, qneg_ne', qneg_lt, mI_eq, mD_eq, mL_eq, mR_eq, mI_at, mD_at, mL_at, mI_ne, mD_ne, mL_ne, mR_ne, not_false_eq_true, not_true_eq_false, or_true, true_or, or_false, false_or, or_self, false_and, and_false, eq_self, mI_sL, mI_sD, mI_sR, mI_tk, mL_sI, mL_sD, mL_sR, mL_tk, mD_sI, mD_sL, mD_sR, mD_tk, mR_sI, mR_sL, mR_sD, mR_tk, mT_sI, mT_sL, mT_sD, mT_sR, mT_tk, mK_sI, mK_sL, mK_sD, mK_sR, mK_tk, mN_sI, mN_sL, mN_sD, mN_sR, mN_tk, nx_sI, nx_sL, nx_sD, nx_sR, uC_sI, uC_sL, uC_sD, uC_sR, uS_sI, uS_sL, uS_sD, uS_sR, nx_tk, uC_tk, uS_tk], (gk_O (VS := (rkV (nI 47) (mI S 105 (14 * (bS + n) + 6 + yS)) (mI S 106 (14 * (bS + n) + 6 + yS)) (mD S 107 (14 * (bS + n) + 6 + yS)) (mI S 105 (14 * (bS + n) + 6 + yS + 1)) (mI S 106 (14 * (bS + n) + 6 + yS + 1)) (mD S 107 (14 * (bS + n) + 6 + yS + 1)))) (VR := (rkV (nI 47) (mI R 105 (14 * (bR + n) + 6 + yR)) (mI R 106 (14 * (bR + n) + 6 + yR)) (mD R 107 (14 * (bR + n) + 6 + yR)) (mI R 105 (14 * (bR + n) + 6 + yR + 1)) (mI R 106 (14 * (bR + n) + 6 + yR + 1)) (mD R 107 (14 * (bR + n) + 6 + yR + 1)))) hC k4).imp (fun z => ⟨z.1, cnd (V1_same (rkV_12 _ _ _ _ _ _ _) (rkV_12 _ _ _ _ _ _ _) z.2.2)⟩)⟩
    · rw [pBF zw, gd93_F] at hp
      obtain rfl := gd_inj hgd hp
      exact ⟨_, by omega, g9, k3.imp (fun z => ⟨z.1, cnd ((rkV1_no (by decide) (by decide) (fun y => zw ⟨z.2.1.symm.trans y.1, z.2.2.symm.trans y.2⟩)).trans (rkV1_no (by decide) (by decide) zw).symm)⟩)⟩
theorem tg_37 {M S R G : Mem} {bS bR n ob1 ns1 nc1 nf1 ob2 ns2 nc2 nf2 f i e1 m1 h1 e2 m2 h2 a v g0 : Nat} {eS eR : Nat → Nat} {val rval : Nat → Vl} (A1 : ATI S (bS + n) ob1 ns1 nc1 nf1 f i e1 m1 h1 (nI a) 37) (A2 : ATI R (bR + n) ob2 ns2 nc2 nf2 f i e2 m2 h2 (nI a) 37) (hRC : RC M S 18 (bS + n) ns1) (gc : mI M 18 7 = nI 37) (hs : Sat S R bS bR n eS eR ob1 ob2 v val rval) (hv5 : v < 500) (g8 : mI R 69 78 = nI g0) (hg : g0 + 4 ≤ 120) (hgd : d_X12_guards (nI 37) R = some ((), G)) : ∃ g1, g1 ≤ g0 + 4 ∧ mI G 69 78 = nI g1 ∧ GCK M S G g0 g1 (Sat S G bS bR n eS eR ob1 ob2 v val rval ∧ (∀ tS tR, h1 = tS + 2 → h2 = tR + 2 → (rkV (nI 37) (mI S 105 (14 * (bS + n) + 6 + tS)) (mI S 106 (14 * (bS + n) + 6 + tS)) (mD S 107 (14 * (bS + n) + 6 + tS)) (mI S 105 (14 * (bS + n) + 6 + tS + 1)) (mI S 106 (14 * (bS + n) + 6 + tS + 1)) (mD S 107 (14 * (bS + n) + 6 + tS + 1))).1 = (rkV (nI 37) (mI R 105 (14 * (bR + n) + 6 + tR)) (mI R 106 (14 * (bR + n) + 6 + tR)) (mD R 107 (14 * (bR + n) + 6 + tR)) (mI R 105 (14 * (bR + n) + 6 + tR + 1)) (mI R 106 (14 * (bR + n) + 6 + tR + 1)) (mD R 107 (14 * (bR + n) + 6 + tR + 1))).1)) := by
  obtain ⟨W1, f1, g1, i1, j1, x1, l1, y1, z1, t1, u1, a1, c1, q1, o1⟩ := A1
  obtain ⟨W2, f2, g2, i2, j2, x2, l2, y2, z2, t2, u2, a2, c2, q2, o2⟩ := A2
  have hA : RAT M S (bS + n) h1 := ⟨⟨_, _, _, _, hRC, W1⟩, t1, u1⟩
  have hd := W2.1.1
  have hd1 := W2.1.2.1
  have hd1S := W1.1.2.1
  have i1x := i1
  obtain ⟨yS, rfl, b1, b2, hz1, -⟩ := fx_rem W1 f1 g1 i1 j1 x1 l1 y1 z1 t1 u1 a1 c1 q1 o1
  obtain ⟨yR, rfl, b3, b4, hz2, -⟩ := fx_rem W2 f2 g2 i2 j2 x2 l2 y2 z2 t2 u2 a2 c2 q2 o2
  have hat : ∀ H, Sat S H bS bR n eS eR ob1 ob2 v val rval → mI H 111 (bR + n) = nI (yR + 2) → At S H v val rval (14 * (bR + n) + 6 + yR) (14 * (bS + n) + 6 + yS) := fun H hs2 t9 => by
    have := (sat_at hs2 t1 t9 u1 u2).2 (6 + yR) (6 + yS) (by omega)
    simp only [← Nat.add_assoc] at this
    exact this
  have hat2 : ∀ H, Sat S H bS bR n eS eR ob1 ob2 v val rval → mI H 111 (bR + n) = nI (yR + 2) → At S H v val rval (14 * (bR + n) + 6 + yR + 1) (14 * (bS + n) + 6 + yS + 1) := fun H hs2 t9 => by
    have := (sat_at hs2 t1 t9 u1 u2).2 (6 + yR + 1) (6 + yS + 1) (by omega)
    simp only [← Nat.add_assoc] at this
    exact this
  obtain ⟨v1, wv1, hv1, -, -⟩ := hat R hs t2
  obtain ⟨v2, wv2, hv2, -, -⟩ := hat2 R hs t2
  have cnd : (rkV (nI 37) (mI S 105 (14 * (bS + n) + 6 + yS)) (mI S 106 (14 * (bS + n) + 6 + yS)) (mD S 107 (14 * (bS + n) + 6 + yS)) (mI S 105 (14 * (bS + n) + 6 + yS + 1)) (mI S 106 (14 * (bS + n) + 6 + yS + 1)) (mD S 107 (14 * (bS + n) + 6 + yS + 1))).1 = (rkV (nI 37) (mI R 105 (14 * (bR + n) + 6 + yR)) (mI R 106 (14 * (bR + n) + 6 + yR)) (mD R 107 (14 * (bR + n) + 6 + yR)) (mI R 105 (14 * (bR + n) + 6 + yR + 1)) (mI R 106 (14 * (bR + n) + 6 + yR + 1)) (mD R 107 (14 * (bR + n) + 6 + yR + 1))).1 → (∀ tS tR, yS + 2 = tS + 2 → yR + 2 = tR + 2 → (rkV (nI 37) (mI S 105 (14 * (bS + n) + 6 + tS)) (mI S 106 (14 * (bS + n) + 6 + tS)) (mD S 107 (14 * (bS + n) + 6 + tS)) (mI S 105 (14 * (bS + n) + 6 + tS + 1)) (mI S 106 (14 * (bS + n) + 6 + tS + 1)) (mD S 107 (14 * (bS + n) + 6 + tS + 1))).1 = (rkV (nI 37) (mI R 105 (14 * (bR + n) + 6 + tR)) (mI R 106 (14 * (bR + n) + 6 + tR)) (mD R 107 (14 * (bR + n) + 6 + tR)) (mI R 105 (14 * (bR + n) + 6 + tR + 1)) (mI R 106 (14 * (bR + n) + 6 + tR + 1)) (mD R 107 (14 * (bR + n) + 6 + tR + 1))).1) := fun hq tS tR y1 y2 => by
    obtain rfl : yS = tS := by omega
    obtain rfl : yR = tR := by omega
    exact hq
  by_cases zc : ¬ mI R 124 v1 = nI 0 ∧ ¬ mI R 124 v2 = nI 0
  · obtain rfl := gd_inj hgd (gd_const (p := 14 * (bR + n) + 6 + yR) hd hd1 t2 u2 isPr_37 (by omega) hv1 hv2 (by omega) (by omega) zc.1 zc.2)
    refine ⟨g0, by omega, g8, GCK.nil ⟨hs, cnd ?_⟩⟩
    have x9 := at_const hs (by omega) (hat G hs t2) (by rw [hv1, qcl (by omega)]; exact zc.1)
    have y9 := at_const hs (by omega) (hat2 G hs t2) (by rw [hv2, qcl (by omega)]; exact zc.2)
    unfold vS at x9 y9
    injection x9 with x91 x92
    injection x92 with x92 x93
    injection y9 with y91 y92
    injection y92 with y92 y93
    rw [x91, x92, x93, y91, y92, y93]
  · have hp := gd_pair (c := 37) (p := 14 * (bR + n) + 6 + yR) hd hd1 t2 u2 isPr_37 (by omega) hv1 hv2 (by omega) (by omega) zc g8 (by omega) (W2.2.2.1.1 _ (by omega)) (W2.2.2.1.1 _ (by omega))
    have hl1 := kdG_le R g0 v1
    have hl2 := k2G_le R g0 (14 * (bR + n) + 6 + yR) v1 v2
    have k1 := gk_K (g0 := g0) (gg := g0) (X := True) (p := 14 * (bR + n) + 6 + yR) hA (q := 14 * (bS + n) + 6 + yS) (x := 1) (by omega) (by omega) (by omega) hv1 (by omega) (by omega) (fun z => hat R z t2) (GCK.nil ⟨hs, trivial⟩)
    have t3 : mI (kdR R g0 1 (14 * (bR + n) + 6 + yR) v1) 111 (bR + n) = nI (yR + 2) := (kdR_n (by omega)).trans t2
    have k2 := gk_K (R := (kdR R g0 1 (14 * (bR + n) + 6 + yR) v1)) (g0 := g0) (gg := kdG R g0 v1) (p := 14 * (bR + n) + 6 + yR + 1) hA (q := 14 * (bS + n) + 6 + yS + 1) (x := 0) (by omega) (by omega) (by omega) (u := v2) ((kdR_n (by omega)).trans hv2) (by omega) (by omega) (fun z => hat2 _ z t3) k1
    have k3 : GCK M S (k2R R g0 (14 * (bR + n) + 6 + yR) v1 v2) g0 (k2G R g0 (14 * (bR + n) + 6 + yR) v1 v2) (Sat S (k2R R g0 (14 * (bR + n) + 6 + yR) v1 v2) bS bR n eS eR ob1 ob2 v val rval ∧ (mI S 105 (14 * (bS + n) + 6 + yS) = mI R 105 (14 * (bR + n) + 6 + yR) ∧ mI S 105 (14 * (bS + n) + 6 + yS + 1) = mI R 105 (14 * (bR + n) + 6 + yR + 1))) := k2.imp (fun z => ⟨z.1, z.2.1.2, z.2.2.trans (kdR_n (by omega))⟩)
    have g9 : mI (k2R R g0 (14 * (bR + n) + 6 + yR) v1 v2) 69 78 = nI (k2G R g0 (14 * (bR + n) + 6 + yR) v1 v2) := k2R_g g8
    by_cases zw : mI R 105 (14 * (bR + n) + 6 + yR) = nI 105 ∧ mI R 105 (14 * (bR + n) + 6 + yR + 1) = nI 105
    · rw [pBT zw] at hp
      by_cases zn : nkP (k2R R g0 (14 * (bR + n) + 6 + yR) v1 v2) v2
      · rw [gd93_rem1 (by omega) zn] at hp
        obtain rfl := gd_inj hgd hp
        exact ⟨_, by omega, g9, k3.imp (fun z => ⟨z.1, cnd ((rkV1_rem ⟨z.2.1.trans zw.1, z.2.2.trans zw.2⟩).trans (rkV1_rem zw).symm)⟩)⟩
      · have t4 : mI (k2R R g0 (14 * (bR + n) + 6 + yR) v1 v2) 111 (bR + n) = nI (yR + 2) := (k2R_n (by omega)).trans t2
        have k4 := gk_Z (R := (k2R R g0 (14 * (bR + n) + 6 + yR) v1 v2)) (g0 := g0) (gg := (k2G R g0 (14 * (bR + n) + 6 + yR) v1 v2)) (p := 14 * (bR + n) + 6 + yR + 1) hA (q := 14 * (bS + n) + 6 + yS + 1) (by omega) (u := v2) ((k2R_n (by omega)).trans hv2) (by omega) (by omega) (fun z => hat2 _ z t4) ((k2R_n (by omega)).trans zw.2) (by rw [k2R_n (by omega)]; exact hz2 zw.1 zw.2) (fun z => z.2.trans zw.2) k3
        have g10 : mI (zR (k2R R g0 (14 * (bR + n) + 6 + yR) v1 v2) (k2G R g0 (14 * (bR + n) + 6 + yR) v1 v2) v2) 69 78 = nI ((k2G R g0 (14 * (bR + n) + 6 + yR) v1 v2) + 1) := by unfold zR akR; simp (disch := omega) only [← Nat.add_assoc, Nat.add_sub_cancel, Nat.sub_zero, as21, as31, as32, and_self, and_true, true_and, l_0, l_1, l_2, l_3, l_4, l_5, l_6, l_7, l_8, l_9, l_10, l_11, l_12, l_13, l_14, l_15, l_16, l_17, l_18, l_19, l_20, l_21, l_22, l_23, l_24, l_25, l_26, l_27, l_28, l_29, l_30, l_31, l_32, l_33, l_34, l_35, l_36, l_37, l_38, l_39, l_40, l_41, l_42, l_43, l_44, l_45, l_47, l_48, l_50, l_52, l_60, l_61, l_63, l_80, l_99, l_100, l_101, l_102, l_103, l_105, l_106, l_107, l_108, l_109, l_110, l_111, l_112, l_114, l_115, l_116, l_117, l_118, l_119, l_120, l_122, l_168, l_200, l_320, l_360, l_528, l_548, l_1000, l_1023, l_2000, l_3000, l_1000000, qadd, qmul, qsub, qdiv, qcl, qinT, qchT, qleT, qleF, qltT, qltF, qeqT, qeqF, qneg_ne, bo0, bo1, qneg_ne', qneg_lt, mI_eq, mD_eq, mL_eq, mR_eq, mI_at, mD_at, mL_at, mI_ne, mD_ne, mL_ne, mR_ne, not_false_eq_true, not_true_eq_false, or_true, true_or, or_false, false_or, or_self, false_and, and_false, eq_self, mI_sL, mI_sD, mI_sR, mI_tk, mL_sI, mL_sD, mL_sR, mL_tk, mD_sI, mD_sL, mD_sR, mD_tk, mR_sI, mR_sL, mR_sD, mR_tk, mT_sI, mT_sL, mT_sD, mT_sR, mT_tk, mK_sI, mK_sL, mK_sD, mK_sR, mK_tk, mN_sI, mN_sL, mN_sD, mN_sR, mN_tk, nx_sI, nx_sL, nx_sD, nx_sR, uC_sI, uC_sL, uC_sD, uC_sR, uS_sI, uS_sL, uS_sD, uS_sR, nx_tk, uC_tk, uS_tk]
        rw [gd93_rem0 (by omega) zn g9 (by omega)] at hp
        obtain rfl := gd_inj hgd hp
        exact ⟨_, by omega, g10, k4.imp (fun z => ⟨z.1, cnd ((rkV1_rem ⟨z.2.1.trans zw.1, z.2.2.trans zw.2⟩).trans (rkV1_rem zw).symm)⟩)⟩
    · rw [pBF zw, gd93_F] at hp
      obtain rfl := gd_inj hgd hp
      exact ⟨_, by omega, g9, k3.imp (fun z => ⟨z.1, cnd ((rkV1_no (by decide) (by decide) (fun y => zw ⟨z.2.1.symm.trans y.1, z.2.2.symm.trans y.2⟩)).trans (rkV1_no (by decide) (by decide) zw).symm)⟩)⟩
theorem tg_60 {M S R G : Mem} {bS bR n ob1 ns1 nc1 nf1 ob2 ns2 nc2 nf2 f i e1 m1 h1 e2 m2 h2 a v g0 : Nat} {eS eR : Nat → Nat} {val rval : Nat → Vl} (A1 : ATI S (bS + n) ob1 ns1 nc1 nf1 f i e1 m1 h1 (nI a) 60) (A2 : ATI R (bR + n) ob2 ns2 nc2 nf2 f i e2 m2 h2 (nI a) 60) (hRC : RC M S 18 (bS + n) ns1) (gc : mI M 18 7 = nI 60) (hs : Sat S R bS bR n eS eR ob1 ob2 v val rval) (hv5 : v < 500) (g8 : mI R 69 78 = nI g0) (hg : g0 + 4 ≤ 120) (hgd : d_X12_guards (nI 60) R = some ((), G)) : ∃ g1, g1 ≤ g0 + 4 ∧ mI G 69 78 = nI g1 ∧ GCK M S G g0 g1 (Sat S G bS bR n eS eR ob1 ob2 v val rval ∧ (∀ tS tR, h1 = tS + 2 → h2 = tR + 2 → (rkV (nI 60) (mI S 105 (14 * (bS + n) + 6 + tS)) (mI S 106 (14 * (bS + n) + 6 + tS)) (mD S 107 (14 * (bS + n) + 6 + tS)) (mI S 105 (14 * (bS + n) + 6 + tS + 1)) (mI S 106 (14 * (bS + n) + 6 + tS + 1)) (mD S 107 (14 * (bS + n) + 6 + tS + 1))).1 = (rkV (nI 60) (mI R 105 (14 * (bR + n) + 6 + tR)) (mI R 106 (14 * (bR + n) + 6 + tR)) (mD R 107 (14 * (bR + n) + 6 + tR)) (mI R 105 (14 * (bR + n) + 6 + tR + 1)) (mI R 106 (14 * (bR + n) + 6 + tR + 1)) (mD R 107 (14 * (bR + n) + 6 + tR + 1))).1)) := by
  obtain ⟨W1, f1, g1, i1, j1, x1, l1, y1, z1, t1, u1, a1, c1, q1, o1⟩ := A1
  obtain ⟨W2, f2, g2, i2, j2, x2, l2, y2, z2, t2, u2, a2, c2, q2, o2⟩ := A2
  have hA : RAT M S (bS + n) h1 := ⟨⟨_, _, _, _, hRC, W1⟩, t1, u1⟩
  have hd := W2.1.1
  have hd1 := W2.1.2.1
  have hd1S := W1.1.2.1
  have i1x := i1
  obtain ⟨yS, rfl, b1, b2, -⟩ := fx_lt W1 f1 g1 i1 j1 x1 l1 y1 z1 t1 u1 a1 c1 q1 o1
  obtain ⟨yR, rfl, b3, b4, -⟩ := fx_lt W2 f2 g2 i2 j2 x2 l2 y2 z2 t2 u2 a2 c2 q2 o2
  have hat : ∀ H, Sat S H bS bR n eS eR ob1 ob2 v val rval → mI H 111 (bR + n) = nI (yR + 2) → At S H v val rval (14 * (bR + n) + 6 + yR) (14 * (bS + n) + 6 + yS) := fun H hs2 t9 => by
    have := (sat_at hs2 t1 t9 u1 u2).2 (6 + yR) (6 + yS) (by omega)
    simp only [← Nat.add_assoc] at this
    exact this
  have hat2 : ∀ H, Sat S H bS bR n eS eR ob1 ob2 v val rval → mI H 111 (bR + n) = nI (yR + 2) → At S H v val rval (14 * (bR + n) + 6 + yR + 1) (14 * (bS + n) + 6 + yS + 1) := fun H hs2 t9 => by
    have := (sat_at hs2 t1 t9 u1 u2).2 (6 + yR + 1) (6 + yS + 1) (by omega)
    simp only [← Nat.add_assoc] at this
    exact this
  obtain ⟨v1, wv1, hv1, -, -⟩ := hat R hs t2
  obtain ⟨v2, wv2, hv2, -, -⟩ := hat2 R hs t2
  have cnd : (rkV (nI 60) (mI S 105 (14 * (bS + n) + 6 + yS)) (mI S 106 (14 * (bS + n) + 6 + yS)) (mD S 107 (14 * (bS + n) + 6 + yS)) (mI S 105 (14 * (bS + n) + 6 + yS + 1)) (mI S 106 (14 * (bS + n) + 6 + yS + 1)) (mD S 107 (14 * (bS + n) + 6 + yS + 1))).1 = (rkV (nI 60) (mI R 105 (14 * (bR + n) + 6 + yR)) (mI R 106 (14 * (bR + n) + 6 + yR)) (mD R 107 (14 * (bR + n) + 6 + yR)) (mI R 105 (14 * (bR + n) + 6 + yR + 1)) (mI R 106 (14 * (bR + n) + 6 + yR + 1)) (mD R 107 (14 * (bR + n) + 6 + yR + 1))).1 → (∀ tS tR, yS + 2 = tS + 2 → yR + 2 = tR + 2 → (rkV (nI 60) (mI S 105 (14 * (bS + n) + 6 + tS)) (mI S 106 (14 * (bS + n) + 6 + tS)) (mD S 107 (14 * (bS + n) + 6 + tS)) (mI S 105 (14 * (bS + n) + 6 + tS + 1)) (mI S 106 (14 * (bS + n) + 6 + tS + 1)) (mD S 107 (14 * (bS + n) + 6 + tS + 1))).1 = (rkV (nI 60) (mI R 105 (14 * (bR + n) + 6 + tR)) (mI R 106 (14 * (bR + n) + 6 + tR)) (mD R 107 (14 * (bR + n) + 6 + tR)) (mI R 105 (14 * (bR + n) + 6 + tR + 1)) (mI R 106 (14 * (bR + n) + 6 + tR + 1)) (mD R 107 (14 * (bR + n) + 6 + tR + 1))).1) := fun hq tS tR y1 y2 => by
    obtain rfl : yS = tS := by omega
    obtain rfl : yR = tR := by omega
    exact hq
  by_cases zc : ¬ mI R 124 v1 = nI 0 ∧ ¬ mI R 124 v2 = nI 0
  · obtain rfl := gd_inj hgd (gd_const (p := 14 * (bR + n) + 6 + yR) hd hd1 t2 u2 isPr_60 (by omega) hv1 hv2 (by omega) (by omega) zc.1 zc.2)
    refine ⟨g0, by omega, g8, GCK.nil ⟨hs, cnd ?_⟩⟩
    have x9 := at_const hs (by omega) (hat G hs t2) (by rw [hv1, qcl (by omega)]; exact zc.1)
    have y9 := at_const hs (by omega) (hat2 G hs t2) (by rw [hv2, qcl (by omega)]; exact zc.2)
    unfold vS at x9 y9
    injection x9 with x91 x92
    injection x92 with x92 x93
    injection y9 with y91 y92
    injection y92 with y92 y93
    rw [x91, x92, x93, y91, y92, y93]
  · have hp := gd_pair (c := 60) (p := 14 * (bR + n) + 6 + yR) hd hd1 t2 u2 isPr_60 (by omega) hv1 hv2 (by omega) (by omega) zc g8 (by omega) (W2.2.2.1.1 _ (by omega)) (W2.2.2.1.1 _ (by omega))
    have hl1 := kdG_le R g0 v1
    have hl2 := k2G_le R g0 (14 * (bR + n) + 6 + yR) v1 v2
    have k1 := gk_K (g0 := g0) (gg := g0) (X := True) (p := 14 * (bR + n) + 6 + yR) hA (q := 14 * (bS + n) + 6 + yS) (x := 1) (by omega) (by omega) (by omega) hv1 (by omega) (by omega) (fun z => hat R z t2) (GCK.nil ⟨hs, trivial⟩)
    have t3 : mI (kdR R g0 1 (14 * (bR + n) + 6 + yR) v1) 111 (bR + n) = nI (yR + 2) := (kdR_n (by omega)).trans t2
    have k2 := gk_K (R := (kdR R g0 1 (14 * (bR + n) + 6 + yR) v1)) (g0 := g0) (gg := kdG R g0 v1) (p := 14 * (bR + n) + 6 + yR + 1) hA (q := 14 * (bS + n) + 6 + yS + 1) (x := 0) (by omega) (by omega) (by omega) (u := v2) ((kdR_n (by omega)).trans hv2) (by omega) (by omega) (fun z => hat2 _ z t3) k1
    have k3 : GCK M S (k2R R g0 (14 * (bR + n) + 6 + yR) v1 v2) g0 (k2G R g0 (14 * (bR + n) + 6 + yR) v1 v2) (Sat S (k2R R g0 (14 * (bR + n) + 6 + yR) v1 v2) bS bR n eS eR ob1 ob2 v val rval ∧ (mI S 105 (14 * (bS + n) + 6 + yS) = mI R 105 (14 * (bR + n) + 6 + yR) ∧ mI S 105 (14 * (bS + n) + 6 + yS + 1) = mI R 105 (14 * (bR + n) + 6 + yR + 1))) := k2.imp (fun z => ⟨z.1, z.2.1.2, z.2.2.trans (kdR_n (by omega))⟩)
    have g9 : mI (k2R R g0 (14 * (bR + n) + 6 + yR) v1 v2) 69 78 = nI (k2G R g0 (14 * (bR + n) + 6 + yR) v1 v2) := k2R_g g8
    by_cases zw : mI R 105 (14 * (bR + n) + 6 + yR) = nI 105 ∧ mI R 105 (14 * (bR + n) + 6 + yR + 1) = nI 105
    · rw [pBT zw] at hp
      rw [gd93_lt] at hp
      obtain rfl := gd_inj hgd hp
      exact ⟨_, by omega, g9, k3.imp (fun z => ⟨z.1, cnd ((rkV1_eq (by decide) _ _ _ _ _ _).trans (rkV1_eq (by decide) _ _ _ _ _ _).symm)⟩)⟩
    · rw [pBF zw, gd93_F] at hp
      obtain rfl := gd_inj hgd hp
      exact ⟨_, by omega, g9, k3.imp (fun z => ⟨z.1, cnd ((rkV1_eq (by decide) _ _ _ _ _ _).trans (rkV1_eq (by decide) _ _ _ _ _ _).symm)⟩)⟩
theorem tg_61 {M S R G : Mem} {bS bR n ob1 ns1 nc1 nf1 ob2 ns2 nc2 nf2 f i e1 m1 h1 e2 m2 h2 a v g0 : Nat} {eS eR : Nat → Nat} {val rval : Nat → Vl} (A1 : ATI S (bS + n) ob1 ns1 nc1 nf1 f i e1 m1 h1 (nI a) 61) (A2 : ATI R (bR + n) ob2 ns2 nc2 nf2 f i e2 m2 h2 (nI a) 61) (hRC : RC M S 18 (bS + n) ns1) (gc : mI M 18 7 = nI 61) (hs : Sat S R bS bR n eS eR ob1 ob2 v val rval) (hv5 : v < 500) (g8 : mI R 69 78 = nI g0) (hg : g0 + 4 ≤ 120) (hgd : d_X12_guards (nI 61) R = some ((), G)) : ∃ g1, g1 ≤ g0 + 4 ∧ mI G 69 78 = nI g1 ∧ GCK M S G g0 g1 (Sat S G bS bR n eS eR ob1 ob2 v val rval ∧ (∀ tS tR, h1 = tS + 2 → h2 = tR + 2 → (rkV (nI 61) (mI S 105 (14 * (bS + n) + 6 + tS)) (mI S 106 (14 * (bS + n) + 6 + tS)) (mD S 107 (14 * (bS + n) + 6 + tS)) (mI S 105 (14 * (bS + n) + 6 + tS + 1)) (mI S 106 (14 * (bS + n) + 6 + tS + 1)) (mD S 107 (14 * (bS + n) + 6 + tS + 1))).1 = (rkV (nI 61) (mI R 105 (14 * (bR + n) + 6 + tR)) (mI R 106 (14 * (bR + n) + 6 + tR)) (mD R 107 (14 * (bR + n) + 6 + tR)) (mI R 105 (14 * (bR + n) + 6 + tR + 1)) (mI R 106 (14 * (bR + n) + 6 + tR + 1)) (mD R 107 (14 * (bR + n) + 6 + tR + 1))).1)) := by
  obtain ⟨W1, f1, g1, i1, j1, x1, l1, y1, z1, t1, u1, a1, c1, q1, o1⟩ := A1
  obtain ⟨W2, f2, g2, i2, j2, x2, l2, y2, z2, t2, u2, a2, c2, q2, o2⟩ := A2
  have hA : RAT M S (bS + n) h1 := ⟨⟨_, _, _, _, hRC, W1⟩, t1, u1⟩
  have hd := W2.1.1
  have hd1 := W2.1.2.1
  have hd1S := W1.1.2.1
  have i1x := i1
  obtain ⟨yS, rfl, -⟩ := fx_eq W1 f1 g1 i1 j1 x1 l1 y1 z1 t1 u1 a1 c1 q1 o1
  obtain ⟨yR, rfl, -⟩ := fx_eq W2 f2 g2 i2 j2 x2 l2 y2 z2 t2 u2 a2 c2 q2 o2
  have hat : ∀ H, Sat S H bS bR n eS eR ob1 ob2 v val rval → mI H 111 (bR + n) = nI (yR + 2) → At S H v val rval (14 * (bR + n) + 6 + yR) (14 * (bS + n) + 6 + yS) := fun H hs2 t9 => by
    have := (sat_at hs2 t1 t9 u1 u2).2 (6 + yR) (6 + yS) (by omega)
    simp only [← Nat.add_assoc] at this
    exact this
  have hat2 : ∀ H, Sat S H bS bR n eS eR ob1 ob2 v val rval → mI H 111 (bR + n) = nI (yR + 2) → At S H v val rval (14 * (bR + n) + 6 + yR + 1) (14 * (bS + n) + 6 + yS + 1) := fun H hs2 t9 => by
    have := (sat_at hs2 t1 t9 u1 u2).2 (6 + yR + 1) (6 + yS + 1) (by omega)
    simp only [← Nat.add_assoc] at this
    exact this
  obtain ⟨v1, wv1, hv1, -, -⟩ := hat R hs t2
  obtain ⟨v2, wv2, hv2, -, -⟩ := hat2 R hs t2
  have cnd : (rkV (nI 61) (mI S 105 (14 * (bS + n) + 6 + yS)) (mI S 106 (14 * (bS + n) + 6 + yS)) (mD S 107 (14 * (bS + n) + 6 + yS)) (mI S 105 (14 * (bS + n) + 6 + yS + 1)) (mI S 106 (14 * (bS + n) + 6 + yS + 1)) (mD S 107 (14 * (bS + n) + 6 + yS + 1))).1 = (rkV (nI 61) (mI R 105 (14 * (bR + n) + 6 + yR)) (mI R 106 (14 * (bR + n) + 6 + yR)) (mD R 107 (14 * (bR + n) + 6 + yR)) (mI R 105 (14 * (bR + n) + 6 + yR + 1)) (mI R 106 (14 * (bR + n) + 6 + yR + 1)) (mD R 107 (14 * (bR + n) + 6 + yR + 1))).1 → (∀ tS tR, yS + 2 = tS + 2 → yR + 2 = tR + 2 → (rkV (nI 61) (mI S 105 (14 * (bS + n) + 6 + tS)) (mI S 106 (14 * (bS + n) + 6 + tS)) (mD S 107 (14 * (bS + n) + 6 + tS)) (mI S 105 (14 * (bS + n) + 6 + tS + 1)) (mI S 106 (14 * (bS + n) + 6 + tS + 1)) (mD S 107 (14 * (bS + n) + 6 + tS + 1))).1 = (rkV (nI 61) (mI R 105 (14 * (bR + n) + 6 + tR)) (mI R 106 (14 * (bR + n) + 6 + tR)) (mD R 107 (14 * (bR + n) + 6 + tR)) (mI R 105 (14 * (bR + n) + 6 + tR + 1)) (mI R 106 (14 * (bR + n) + 6 + tR + 1)) (mD R 107 (14 * (bR + n) + 6 + tR + 1))).1) := fun hq tS tR y1 y2 => by
    obtain rfl : yS = tS := by omega
    obtain rfl : yR = tR := by omega
    exact hq
  by_cases zc : ¬ mI R 124 v1 = nI 0 ∧ ¬ mI R 124 v2 = nI 0
  · obtain rfl := gd_inj hgd (gd_const (p := 14 * (bR + n) + 6 + yR) hd hd1 t2 u2 isPr_61 (by omega) hv1 hv2 (by omega) (by omega) zc.1 zc.2)
    refine ⟨g0, by omega, g8, GCK.nil ⟨hs, cnd ?_⟩⟩
    have x9 := at_const hs (by omega) (hat G hs t2) (by rw [hv1, qcl (by omega)]; exact zc.1)
    have y9 := at_const hs (by omega) (hat2 G hs t2) (by rw [hv2, qcl (by omega)]; exact zc.2)
    unfold vS at x9 y9
    injection x9 with x91 x92
    injection x92 with x92 x93
    injection y9 with y91 y92
    injection y92 with y92 y93
    rw [x91, x92, x93, y91, y92, y93]
  · have hp := gd_pair (c := 61) (p := 14 * (bR + n) + 6 + yR) hd hd1 t2 u2 isPr_61 (by omega) hv1 hv2 (by omega) (by omega) zc g8 (by omega) (W2.2.2.1.1 _ (by omega)) (W2.2.2.1.1 _ (by omega))
    have hl1 := kdG_le R g0 v1
    have hl2 := k2G_le R g0 (14 * (bR + n) + 6 + yR) v1 v2
    have k1 := gk_K (g0 := g0) (gg := g0) (X := True) (p := 14 * (bR + n) + 6 + yR) hA (q := 14 * (bS + n) + 6 + yS) (x := 1) (by omega) (by omega) (by omega) hv1 (by omega) (by omega) (fun z => hat R z t2) (GCK.nil ⟨hs, trivial⟩)
    have t3 : mI (kdR R g0 1 (14 * (bR + n) + 6 + yR) v1) 111 (bR + n) = nI (yR + 2) := (kdR_n (by omega)).trans t2
    have k2 := gk_K (R := (kdR R g0 1 (14 * (bR + n) + 6 + yR) v1)) (g0 := g0) (gg := kdG R g0 v1) (p := 14 * (bR + n) + 6 + yR + 1) hA (q := 14 * (bS + n) + 6 + yS + 1) (x := 0) (by omega) (by omega) (by omega) (u := v2) ((kdR_n (by omega)).trans hv2) (by omega) (by omega) (fun z => hat2 _ z t3) k1
    have k3 : GCK M S (k2R R g0 (14 * (bR + n) + 6 + yR) v1 v2) g0 (k2G R g0 (14 * (bR + n) + 6 + yR) v1 v2) (Sat S (k2R R g0 (14 * (bR + n) + 6 + yR) v1 v2) bS bR n eS eR ob1 ob2 v val rval ∧ (mI S 105 (14 * (bS + n) + 6 + yS) = mI R 105 (14 * (bR + n) + 6 + yR) ∧ mI S 105 (14 * (bS + n) + 6 + yS + 1) = mI R 105 (14 * (bR + n) + 6 + yR + 1))) := k2.imp (fun z => ⟨z.1, z.2.1.2, z.2.2.trans (kdR_n (by omega))⟩)
    have g9 : mI (k2R R g0 (14 * (bR + n) + 6 + yR) v1 v2) 69 78 = nI (k2G R g0 (14 * (bR + n) + 6 + yR) v1 v2) := k2R_g g8
    by_cases zw : mI R 105 (14 * (bR + n) + 6 + yR) = nI 105 ∧ mI R 105 (14 * (bR + n) + 6 + yR + 1) = nI 105
    · rw [pBT zw] at hp
      rw [gd93_eq] at hp
      obtain rfl := gd_inj hgd hp
      exact ⟨_, by omega, g9, k3.imp (fun z => ⟨z.1, cnd ((rkV1_eq (by decide) _ _ _ _ _ _).trans (rkV1_eq (by decide) _ _ _ _ _ _).symm)⟩)⟩
    · rw [pBF zw, gd93_F] at hp
      obtain rfl := gd_inj hgd hp
      exact ⟨_, by omega, g9, k3.imp (fun z => ⟨z.1, cnd ((rkV1_eq (by decide) _ _ _ _ _ _).trans (rkV1_eq (by decide) _ _ _ _ _ _).symm)⟩)⟩
end MJ5
