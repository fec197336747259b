/-! ===== the guards of a step, by letter ===== -/
section MJ4
theorem gk_T {M S R : Mem} {bS bR n oS oR v g0 gg d h p q u : Nat} {eS eR : Nat → Nat} {val rval : Nat → Vl} {X : Prop} (hA : RAT M S d h) (hq : q + 0 + 1 = 14 * d + 6 + h) (hu : mI R 108 p = nI u) (hu6 : u < 600) (hv6 : v < 600) (hat : Sat S R bS bR n eS eR oS oR v val rval → At S R v val rval p q) (hG : GCK M S R g0 gg (Sat S R bS bR n eS eR oS oR v val rval ∧ X)) : GCK M S (if nkP R u then R else tR R gg p u) g0 (if nkP R u then gg else gg + 1) (Sat S (if nkP R u then R else tR R gg p u) bS bR n eS eR oS oR v val rval ∧ X ∧ (nlV (vS S q) ↔ nlV (vS R p))) := by
  obtain ⟨hd, hd1, gd, gh, hV, -⟩ := hA.g
  have hA3 := hA.2
  have key : Sat S R bS bR n eS eR oS oR v val rval → u < v ∧ vS S q = val u ∧ vS R p = rval u := fun hs => by
    obtain ⟨w, w1, w2, w3, w4⟩ := hat hs
    obtain rfl : w = u := qinj (by omega) (by omega) (w2.symm.trans hu)
    exact ⟨w1, w3, w4⟩
  by_cases z : nkP R u
  · rw [if_pos z, if_pos z]
    refine hG.imp (fun hQ => ⟨hQ.1, hQ.2, ?_⟩)
    obtain ⟨k1, k2, k3⟩ := key hQ.1
    rw [k2, k3]
    exact nk_iff (hQ.1.2.2.2 u k1) z
  · rw [if_neg z, if_neg z]
    refine GCK.snoc (P := pB (isNl (mI S 105 q) (mI S 106 q) (mD S 107 q)) = pB (isNl (mI R 105 p) (mI R 106 p) (mD R 107 p))) hG (fun _ => ⟨rhs_t (p := q) (x := 0) hd hd1 hA3.1 hA3.2 hq (by omega), ch_t (p := q) (x := 0) gd hd1 gh hA3.2 hq (by omega) (.inl rfl) (hV q (by omega))⟩) (fun hQ hP => ?_) (fun j hj => ?_) ?_ ?_ ?_
    · obtain ⟨k1, k2, k3⟩ := key hQ.1
      have e := pB_inj hP
      exact ⟨sat_t hQ.1 k1 k2 k3 e, hQ.2, e⟩
    · unfold tR
      obtain ⟨a1, a2, a3⟩ := sI3 (R := akR R gg (nI 116) (nI 0) (pB (isNl (mI R 105 p) (mI R 106 p) (mD R 107 p)))) (b := 126) (u := u) (j := j) (z := if isNl (mI R 105 p) (mI R 106 p) (mD R 107 p) then nI 1 else nI 2) (by omega)
      rw [a1, a2, a3]; exact ak_lo hj
    · unfold tR; rw [mI_ne (by omega)]; exact ak_at.1
    · unfold tR; rw [mI_ne (by omega)]; exact ak_at.2.1
    · unfold tR; rw [mI_ne (by omega)]; exact ak_at.2.2
theorem int_nz {x : Vl} (h1 : x.1 = nI 105) (h2 : ¬ x.2.1 = nI 0) : ¬ nlV x := fun q => by
  unfold nlV at q
  rw [h1] at q
  rcases q with q | q | q
  · exact absurd q (by decide)
  · exact h2 q.2
  · exact absurd q.1 (by decide)
theorem gk_Z {M S R : Mem} {bS bR n oS oR v g0 gg d h p q u : Nat} {eS eR : Nat → Nat} {val rval : Nat → Vl} {X : Prop} (hA : RAT M S d h) (hq : q + 0 + 1 = 14 * d + 6 + h) (hu : mI R 108 p = nI u) (hu6 : u < 600) (hv6 : v < 600) (hat : Sat S R bS bR n eS eR oS oR v val rval → At S R v val rval p q) (kR : mI R 105 p = nI 105) (nR : ¬ mI R 106 p = nI 0) (hX : X → mI S 105 q = nI 105) (hG : GCK M S R g0 gg (Sat S R bS bR n eS eR oS oR v val rval ∧ X)) : GCK M S (zR R gg u) g0 (gg + 1) (Sat S (zR R gg u) bS bR n eS eR oS oR v val rval ∧ X) := by
  obtain ⟨hd, hd1, gd, gh, hV, -⟩ := hA.g
  have hA3 := hA.2
  refine GCK.snoc (P := ¬ mI S 106 q = nI 0) hG (fun hQ => ⟨rhs_z (p := q) (x := 0) hd hd1 hA3.1 hA3.2 hq (by omega), ch_z (p := q) (x := 0) gd hd1 gh hA3.2 hq (by omega) (by have := hV q (by omega); rw [hX hQ.2] at this; exact this) rfl⟩) (fun hQ hP => ?_) (fun j hj => ?_) ?_ ?_ ?_
  · obtain ⟨w, w1, w2, w3, w4⟩ := hat hQ.1
    obtain rfl : w = u := qinj (by omega) (by omega) (w2.symm.trans hu)
    refine ⟨sat_z hQ.1 w1 ?_ ?_, hQ.2⟩
    · rw [← w3]; exact int_nz (hX hQ.2) hP
    · rw [← w4]; exact int_nz kR nR
  · unfold zR
    obtain ⟨a1, a2, a3⟩ := sI3 (R := akR R gg (nI 122) (nI 0) (nI 0)) (b := 126) (u := u) (j := j) (z := nI 2) (by omega)
    rw [a1, a2, a3]; exact ak_lo hj
  · unfold zR; rw [mI_ne (by omega)]; exact ak_at.1
  · unfold zR; rw [mI_ne (by omega)]; exact ak_at.2.1
  · unfold zR; rw [mI_ne (by omega)]; exact ak_at.2.2
theorem gk_O {M S R : Mem} {bS bR n o1 o2 v g0 gg : Nat} {eS eR : Nat → Nat} {val rval : Nat → Vl} {X : Prop} {VS VR : Vl} (hC : X → RHs S (nI 111) (nI 0) (pB (VR.1 = nI 105)) (pB (VS.1 = nI 105) = pB (VR.1 = nI 105)) ∧ CH M (nI 111) (nI 0) (pB (VR.1 = nI 105)) (pB (VS.1 = nI 105) = pB (VR.1 = nI 105))) (hG : GCK M S R g0 gg (Sat S R bS bR n eS eR o1 o2 v val rval ∧ X)) : GCK M S (oR R gg VR) g0 (gg + 1) (Sat S (oR R gg VR) bS bR n eS eR o1 o2 v val rval ∧ X ∧ (VS.1 = nI 105 ↔ VR.1 = nI 105)) := by
  refine GCK.snoc (P := pB (VS.1 = nI 105) = pB (VR.1 = nI 105)) hG (fun hQ => hC hQ.2) (fun hQ hP => ⟨sat_o hQ.1, hQ.2, pB_inj hP⟩) (fun j hj => ?_) ?_ ?_ ?_
  · unfold oR
    obtain ⟨a1, a2, a3⟩ := ak_lo (R := rkM R VR) (g := gg) (j := j) (c := nI 111) (x := nI 0) (z := pB (VR.1 = nI 105)) hj
    rw [a1, a2, a3]
    unfold rkM gvM
    refine ⟨?_, ?_, ?_⟩ <;> simp (disch := omega) only [← Nat.add_assoc, Nat.add_sub_cancel, Nat.sub_zero, as21, as31, as32, and_self, and_true, true_and, l_0, l_1, l_2, l_3, l_4, l_5, l_6, l_7, l_8, l_9, l_10, l_11, l_12, l_13, l_14, l_15, l_16, l_17, l_18, l_19, l_20, l_21, l_22, l_23, l_24, l_25, l_26, l_27, l_28, l_29, l_30, l_31, l_32, l_33, l_34, l_35, l_36, l_37, l_38, l_39, l_40, l_41, l_42, l_43, l_44, l_45, l_47, l_48, l_50, l_52, l_60, l_61, l_63, l_80, l_99, l_100, l_101, l_102, l_103, l_105, l_106, l_107, l_108, l_109, l_110, l_111, l_112, l_114, l_115, l_116, l_117, l_118, l_119, l_120, l_122, l_168, l_200, l_320, l_360, l_528, l_548, l_1000, l_1023, l_2000, l_3000, l_1000000, qadd, qmul, qsub, qdiv, qcl, qinT, qchT, qleT, qleF, qltT, qltF, qeqT, qeqF, qneg_ne, bo0, bo1, qneg_ne', qneg_lt, mI_eq, mD_eq, mL_eq, mR_eq, mI_at, mD_at, mL_at, mI_ne, mD_ne, mL_ne, mR_ne, not_false_eq_true, not_true_eq_false, or_true, true_or, or_false, false_or, or_self, false_and, and_false, eq_self, mI_sL, mI_sD, mI_sR, mI_tk, mL_sI, mL_sD, mL_sR, mL_tk, mD_sI, mD_sL, mD_sR, mD_tk, mR_sI, mR_sL, mR_sD, mR_tk, mT_sI, mT_sL, mT_sD, mT_sR, mT_tk, mK_sI, mK_sL, mK_sD, mK_sR, mK_tk, mN_sI, mN_sL, mN_sD, mN_sR, mN_tk, nx_sI, nx_sL, nx_sD, nx_sR, uC_sI, uC_sL, uC_sD, uC_sR, uS_sI, uS_sL, uS_sD, uS_sR, nx_tk, uC_tk, uS_tk]
  · exact ak_at.1
  · exact ak_at.2.1
  · exact ak_at.2.2
theorem gd_inj {c : Int32} {R G G2 : Mem} (h1 : d_X12_guards c R = some ((), G)) (h2 : d_X12_guards c R = some ((), G2)) : G = G2 := congrArg Prod.snd (Option.some.inj (h1.symm.trans h2))
theorem tg_108 {M S R G : Mem} {bS bR n ob1 ns1 nc1 nf1 ob2 ns2 nc2 nf2 f i e1 m1 h1 e2 m2 h2 a v g0 : Nat} {eS eR : Nat → Nat} {val rval : Nat → Vl} (A1 : ATI S (bS + n) ob1 ns1 nc1 nf1 f i e1 m1 h1 (nI a) 108) (A2 : ATI R (bR + n) ob2 ns2 nc2 nf2 f i e2 m2 h2 (nI a) 108) (hRC : RC M S 18 (bS + n) ns1) (gc : mI M 18 7 = nI 108) (hs : Sat S R bS bR n eS eR ob1 ob2 v val rval) (hv5 : v < 500) (g8 : mI R 69 78 = nI g0) (hg : g0 + 4 ≤ 120) (hgd : d_X12_guards (nI 108) R = some ((), G)) : ∃ g1, g1 ≤ g0 + 4 ∧ mI G 69 78 = nI g1 ∧ GCK M S G g0 g1 (Sat S G bS bR n eS eR ob1 ob2 v val rval ∧ True) := by
  obtain ⟨W1, f1, g1, i1, j1, x1, l1, y1, z1, t1, u1, a1, c1, q1, o1⟩ := A1
  obtain ⟨W2, f2, g2, i2, j2, x2, l2, y2, z2, t2, u2, a2, c2, q2, o2⟩ := A2
  have hA : RAT M S (bS + n) h1 := ⟨⟨_, _, _, _, hRC, W1⟩, t1, u1⟩
  have hd := W2.1.1
  have hd1 := W2.1.2.1
  have hd1S := W1.1.2.1
  obtain rfl := gd_inj hgd (gd_no (by decide) (by decide) (by decide))
  exact ⟨g0, by omega, g8, GCK.nil ⟨hs, trivial⟩⟩
theorem tg_115 {M S R G : Mem} {bS bR n ob1 ns1 nc1 nf1 ob2 ns2 nc2 nf2 f i e1 m1 h1 e2 m2 h2 a v g0 : Nat} {eS eR : Nat → Nat} {val rval : Nat → Vl} (A1 : ATI S (bS + n) ob1 ns1 nc1 nf1 f i e1 m1 h1 (nI a) 115) (A2 : ATI R (bR + n) ob2 ns2 nc2 nf2 f i e2 m2 h2 (nI a) 115) (hRC : RC M S 18 (bS + n) ns1) (gc : mI M 18 7 = nI 115) (hs : Sat S R bS bR n eS eR ob1 ob2 v val rval) (hv5 : v < 500) (g8 : mI R 69 78 = nI g0) (hg : g0 + 4 ≤ 120) (hgd : d_X12_guards (nI 115) R = some ((), G)) : ∃ g1, g1 ≤ g0 + 4 ∧ mI G 69 78 = nI g1 ∧ GCK M S G g0 g1 (Sat S G bS bR n eS eR ob1 ob2 v val rval ∧ True) := by
  obtain ⟨W1, f1, g1, i1, j1, x1, l1, y1, z1, t1, u1, a1, c1, q1, o1⟩ := A1
  obtain ⟨W2, f2, g2, i2, j2, x2, l2, y2, z2, t2, u2, a2, c2, q2, o2⟩ := A2
  have hA : RAT M S (bS + n) h1 := ⟨⟨_, _, _, _, hRC, W1⟩, t1, u1⟩
  have hd := W2.1.1
  have hd1 := W2.1.2.1
  have hd1S := W1.1.2.1
  obtain rfl := gd_inj hgd (gd_no (by decide) (by decide) (by decide))
  exact ⟨g0, by omega, g8, GCK.nil ⟨hs, trivial⟩⟩
theorem tg_117 {M S R G : Mem} {bS bR n ob1 ns1 nc1 nf1 ob2 ns2 nc2 nf2 f i e1 m1 h1 e2 m2 h2 a v g0 : Nat} {eS eR : Nat → Nat} {val rval : Nat → Vl} (A1 : ATI S (bS + n) ob1 ns1 nc1 nf1 f i e1 m1 h1 (nI a) 117) (A2 : ATI R (bR + n) ob2 ns2 nc2 nf2 f i e2 m2 h2 (nI a) 117) (hRC : RC M S 18 (bS + n) ns1) (gc : mI M 18 7 = nI 117) (hs : Sat S R bS bR n eS eR ob1 ob2 v val rval) (hv5 : v < 500) (g8 : mI R 69 78 = nI g0) (hg : g0 + 4 ≤ 120) (hgd : d_X12_guards (nI 117) R = some ((), G)) : ∃ g1, g1 ≤ g0 + 4 ∧ mI G 69 78 = nI g1 ∧ GCK M S G g0 g1 (Sat S G bS bR n eS eR ob1 ob2 v val rval ∧ True) := by
  obtain ⟨W1, f1, g1, i1, j1, x1, l1, y1, z1, t1, u1, a1, c1, q1, o1⟩ := A1
  obtain ⟨W2, f2, g2, i2, j2, x2, l2, y2, z2, t2, u2, a2, c2, q2, o2⟩ := A2
  have hA : RAT M S (bS + n) h1 := ⟨⟨_, _, _, _, hRC, W1⟩, t1, u1⟩
  have hd := W2.1.1
  have hd1 := W2.1.2.1
  have hd1S := W1.1.2.1
  obtain rfl := gd_inj hgd (gd_no (by decide) (by decide) (by decide))
  exact ⟨g0, by omega, g8, GCK.nil ⟨hs, trivial⟩⟩
theorem tg_100 {M S R G : Mem} {bS bR n ob1 ns1 nc1 nf1 ob2 ns2 nc2 nf2 f i e1 m1 h1 e2 m2 h2 a v g0 : Nat} {eS eR : Nat → Nat} {val rval : Nat → Vl} (A1 : ATI S (bS + n) ob1 ns1 nc1 nf1 f i e1 m1 h1 (nI a) 100) (A2 : ATI R (bR + n) ob2 ns2 nc2 nf2 f i e2 m2 h2 (nI a) 100) (hRC : RC M S 18 (bS + n) ns1) (gc : mI M 18 7 = nI 100) (hs : Sat S R bS bR n eS eR ob1 ob2 v val rval) (hv5 : v < 500) (g8 : mI R 69 78 = nI g0) (hg : g0 + 4 ≤ 120) (hgd : d_X12_guards (nI 100) R = some ((), G)) : ∃ g1, g1 ≤ g0 + 4 ∧ mI G 69 78 = nI g1 ∧ GCK M S G g0 g1 (Sat S G bS bR n eS eR ob1 ob2 v val rval ∧ True) := by
  obtain ⟨W1, f1, g1, i1, j1, x1, l1, y1, z1, t1, u1, a1, c1, q1, o1⟩ := A1
  obtain ⟨W2, f2, g2, i2, j2, x2, l2, y2, z2, t2, u2, a2, c2, q2, o2⟩ := A2
  have hA : RAT M S (bS + n) h1 := ⟨⟨_, _, _, _, hRC, W1⟩, t1, u1⟩
  have hd := W2.1.1
  have hd1 := W2.1.2.1
  have hd1S := W1.1.2.1
  obtain rfl := gd_inj hgd (gd_no (by decide) (by decide) (by decide))
  exact ⟨g0, by omega, g8, GCK.nil ⟨hs, trivial⟩⟩
theorem tg_106 {M S R G : Mem} {bS bR n ob1 ns1 nc1 nf1 ob2 ns2 nc2 nf2 f i e1 m1 h1 e2 m2 h2 a v g0 : Nat} {eS eR : Nat → Nat} {val rval : Nat → Vl} (A1 : ATI S (bS + n) ob1 ns1 nc1 nf1 f i e1 m1 h1 (nI a) 106) (A2 : ATI R (bR + n) ob2 ns2 nc2 nf2 f i e2 m2 h2 (nI a) 106) (hRC : RC M S 18 (bS + n) ns1) (gc : mI M 18 7 = nI 106) (hs : Sat S R bS bR n eS eR ob1 ob2 v val rval) (hv5 : v < 500) (g8 : mI R 69 78 = nI g0) (hg : g0 + 4 ≤ 120) (hgd : d_X12_guards (nI 106) R = some ((), G)) : ∃ g1, g1 ≤ g0 + 4 ∧ mI G 69 78 = nI g1 ∧ GCK M S G g0 g1 (Sat S G bS bR n eS eR ob1 ob2 v val rval ∧ True) := by
  obtain ⟨W1, f1, g1, i1, j1, x1, l1, y1, z1, t1, u1, a1, c1, q1, o1⟩ := A1
  obtain ⟨W2, f2, g2, i2, j2, x2, l2, y2, z2, t2, u2, a2, c2, q2, o2⟩ := A2
  have hA : RAT M S (bS + n) h1 := ⟨⟨_, _, _, _, hRC, W1⟩, t1, u1⟩
  have hd := W2.1.1
  have hd1 := W2.1.2.1
  have hd1S := W1.1.2.1
  obtain rfl := gd_inj hgd (gd_no (by decide) (by decide) (by decide))
  exact ⟨g0, by omega, g8, GCK.nil ⟨hs, trivial⟩⟩
theorem tg_99 {M S R G : Mem} {bS bR n ob1 ns1 nc1 nf1 ob2 ns2 nc2 nf2 f i e1 m1 h1 e2 m2 h2 a v g0 : Nat} {eS eR : Nat → Nat} {val rval : Nat → Vl} (A1 : ATI S (bS + n) ob1 ns1 nc1 nf1 f i e1 m1 h1 (nI a) 99) (A2 : ATI R (bR + n) ob2 ns2 nc2 nf2 f i e2 m2 h2 (nI a) 99) (hRC : RC M S 18 (bS + n) ns1) (gc : mI M 18 7 = nI 99) (hs : Sat S R bS bR n eS eR ob1 ob2 v val rval) (hv5 : v < 500) (g8 : mI R 69 78 = nI g0) (hg : g0 + 4 ≤ 120) (hgd : d_X12_guards (nI 99) R = some ((), G)) : ∃ g1, g1 ≤ g0 + 4 ∧ mI G 69 78 = nI g1 ∧ GCK M S G g0 g1 (Sat S G bS bR n eS eR ob1 ob2 v val rval ∧ True) := by
  obtain ⟨W1, f1, g1, i1, j1, x1, l1, y1, z1, t1, u1, a1, c1, q1, o1⟩ := A1
  obtain ⟨W2, f2, g2, i2, j2, x2, l2, y2, z2, t2, u2, a2, c2, q2, o2⟩ := A2
  have hA : RAT M S (bS + n) h1 := ⟨⟨_, _, _, _, hRC, W1⟩, t1, u1⟩
  have hd := W2.1.1
  have hd1 := W2.1.2.1
  have hd1S := W1.1.2.1
  obtain rfl := gd_inj hgd (gd_no (by decide) (by decide) (by decide))
  exact ⟨g0, by omega, g8, GCK.nil ⟨hs, trivial⟩⟩
theorem tg_114 {M S R G : Mem} {bS bR n ob1 ns1 nc1 nf1 ob2 ns2 nc2 nf2 f i e1 m1 h1 e2 m2 h2 a v g0 : Nat} {eS eR : Nat → Nat} {val rval : Nat → Vl} (A1 : ATI S (bS + n) ob1 ns1 nc1 nf1 f i e1 m1 h1 (nI a) 114) (A2 : ATI R (bR + n) ob2 ns2 nc2 nf2 f i e2 m2 h2 (nI a) 114) (hRC : RC M S 18 (bS + n) ns1) (gc : mI M 18 7 = nI 114) (hs : Sat S R bS bR n eS eR ob1 ob2 v val rval) (hv5 : v < 500) (g8 : mI R 69 78 = nI g0) (hg : g0 + 4 ≤ 120) (hgd : d_X12_guards (nI 114) R = some ((), G)) : ∃ g1, g1 ≤ g0 + 4 ∧ mI G 69 78 = nI g1 ∧ GCK M S G g0 g1 (Sat S G bS bR n eS eR ob1 ob2 v val rval ∧ True) := by
  obtain ⟨W1, f1, g1, i1, j1, x1, l1, y1, z1, t1, u1, a1, c1, q1, o1⟩ := A1
  obtain ⟨W2, f2, g2, i2, j2, x2, l2, y2, z2, t2, u2, a2, c2, q2, o2⟩ := A2
  have hA : RAT M S (bS + n) h1 := ⟨⟨_, _, _, _, hRC, W1⟩, t1, u1⟩
  have hd := W2.1.1
  have hd1 := W2.1.2.1
  have hd1S := W1.1.2.1
  obtain rfl := gd_inj hgd (gd_no (by decide) (by decide) (by decide))
  exact ⟨g0, by omega, g8, GCK.nil ⟨hs, trivial⟩⟩
theorem tg_116 {M S R G : Mem} {bS bR n ob1 ns1 nc1 nf1 ob2 ns2 nc2 nf2 f i e1 m1 h1 e2 m2 h2 a v g0 : Nat} {eS eR : Nat → Nat} {val rval : Nat → Vl} (A1 : ATI S (bS + n) ob1 ns1 nc1 nf1 f i e1 m1 h1 (nI a) 116) (A2 : ATI R (bR + n) ob2 ns2 nc2 nf2 f i e2 m2 h2 (nI a) 116) (hRC : RC M S 18 (bS + n) ns1) (gc : mI M 18 7 = nI 116) (hs : Sat S R bS bR n eS eR ob1 ob2 v val rval) (hv5 : v < 500) (g8 : mI R 69 78 = nI g0) (hg : g0 + 4 ≤ 120) (hgd : d_X12_guards (nI 116) R = some ((), G)) : ∃ g1, g1 ≤ g0 + 4 ∧ mI G 69 78 = nI g1 ∧ GCK M S G g0 g1 (Sat S G bS bR n eS eR ob1 ob2 v val rval ∧ True) := by
  obtain ⟨W1, f1, g1, i1, j1, x1, l1, y1, z1, t1, u1, a1, c1, q1, o1⟩ := A1
  obtain ⟨W2, f2, g2, i2, j2, x2, l2, y2, z2, t2, u2, a2, c2, q2, o2⟩ := A2
  have hA : RAT M S (bS + n) h1 := ⟨⟨_, _, _, _, hRC, W1⟩, t1, u1⟩
  have hd := W2.1.1
  have hd1 := W2.1.2.1
  have hd1S := W1.1.2.1
  obtain rfl := gd_inj hgd (gd_no (by decide) (by decide) (by decide))
  exact ⟨g0, by omega, g8, GCK.nil ⟨hs, trivial⟩⟩
theorem tg_105 {M S R G : Mem} {bS bR n ob1 ns1 nc1 nf1 ob2 ns2 nc2 nf2 f i e1 m1 h1 e2 m2 h2 a v g0 : Nat} {eS eR : Nat → Nat} {val rval : Nat → Vl} (A1 : ATI S (bS + n) ob1 ns1 nc1 nf1 f i e1 m1 h1 (nI a) 105) (A2 : ATI R (bR + n) ob2 ns2 nc2 nf2 f i e2 m2 h2 (nI a) 105) (hRC : RC M S 18 (bS + n) ns1) (gc : mI M 18 7 = nI 105) (hs : Sat S R bS bR n eS eR ob1 ob2 v val rval) (hv5 : v < 500) (g8 : mI R 69 78 = nI g0) (hg : g0 + 4 ≤ 120) (hgd : d_X12_guards (nI 105) R = some ((), G)) : ∃ g1, g1 ≤ g0 + 4 ∧ mI G 69 78 = nI g1 ∧ GCK M S G g0 g1 (Sat S G bS bR n eS eR ob1 ob2 v val rval ∧ True) := by
  obtain ⟨W1, f1, g1, i1, j1, x1, l1, y1, z1, t1, u1, a1, c1, q1, o1⟩ := A1
  obtain ⟨W2, f2, g2, i2, j2, x2, l2, y2, z2, t2, u2, a2, c2, q2, o2⟩ := A2
  have hA : RAT M S (bS + n) h1 := ⟨⟨_, _, _, _, hRC, W1⟩, t1, u1⟩
  have hd := W2.1.1
  have hd1 := W2.1.2.1
  have hd1S := W1.1.2.1
  obtain rfl := gd_inj hgd (gd_no (by decide) (by decide) (by decide))
  exact ⟨g0, by omega, g8, GCK.nil ⟨hs, trivial⟩⟩
theorem tg_107 {M S R G : Mem} {bS bR n ob1 ns1 nc1 nf1 ob2 ns2 nc2 nf2 f i e1 m1 h1 e2 m2 h2 a v g0 : Nat} {eS eR : Nat → Nat} {val rval : Nat → Vl} (A1 : ATI S (bS + n) ob1 ns1 nc1 nf1 f i e1 m1 h1 (nI a) 107) (A2 : ATI R (bR + n) ob2 ns2 nc2 nf2 f i e2 m2 h2 (nI a) 107) (hRC : RC M S 18 (bS + n) ns1) (gc : mI M 18 7 = nI 107) (hs : Sat S R bS bR n eS eR ob1 ob2 v val rval) (hv5 : v < 500) (g8 : mI R 69 78 = nI g0) (hg : g0 + 4 ≤ 120) (hgd : d_X12_guards (nI 107) R = some ((), G)) : ∃ g1, g1 ≤ g0 + 4 ∧ mI G 69 78 = nI g1 ∧ GCK M S G g0 g1 (Sat S G bS bR n eS eR ob1 ob2 v val rval ∧ True) := by
  obtain ⟨W1, f1, g1, i1, j1, x1, l1, y1, z1, t1, u1, a1, c1, q1, o1⟩ := A1
  obtain ⟨W2, f2, g2, i2, j2, x2, l2, y2, z2, t2, u2, a2, c2, q2, o2⟩ := A2
  have hA : RAT M S (bS + n) h1 := ⟨⟨_, _, _, _, hRC, W1⟩, t1, u1⟩
  have hd := W2.1.1
  have hd1 := W2.1.2.1
  have hd1S := W1.1.2.1
  obtain rfl := gd_inj hgd (gd_no (by decide) (by decide) (by decide))
  exact ⟨g0, by omega, g8, GCK.nil ⟨hs, trivial⟩⟩
theorem tg_110 {M S R G : Mem} {bS bR n ob1 ns1 nc1 nf1 ob2 ns2 nc2 nf2 f i e1 m1 h1 e2 m2 h2 a v g0 : Nat} {eS eR : Nat → Nat} {val rval : Nat → Vl} (A1 : ATI S (bS + n) ob1 ns1 nc1 nf1 f i e1 m1 h1 (nI a) 110) (A2 : ATI R (bR + n) ob2 ns2 nc2 nf2 f i e2 m2 h2 (nI a) 110) (hRC : RC M S 18 (bS + n) ns1) (gc : mI M 18 7 = nI 110) (hs : Sat S R bS bR n eS eR ob1 ob2 v val rval) (hv5 : v < 500) (g8 : mI R 69 78 = nI g0) (hg : g0 + 4 ≤ 120) (hgd : d_X12_guards (nI 110) R = some ((), G)) : ∃ g1, g1 ≤ g0 + 4 ∧ mI G 69 78 = nI g1 ∧ GCK M S G g0 g1 (Sat S G bS bR n eS eR ob1 ob2 v val rval ∧ True) := by
  obtain ⟨W1, f1, g1, i1, j1, x1, l1, y1, z1, t1, u1, a1, c1, q1, o1⟩ := A1
  obtain ⟨W2, f2, g2, i2, j2, x2, l2, y2, z2, t2, u2, a2, c2, q2, o2⟩ := A2
  have hA : RAT M S (bS + n) h1 := ⟨⟨_, _, _, _, hRC, W1⟩, t1, u1⟩
  have hd := W2.1.1
  have hd1 := W2.1.2.1
  have hd1S := W1.1.2.1
  obtain rfl := gd_inj hgd (gd_no (by decide) (by decide) (by decide))
  exact ⟨g0, by omega, g8, GCK.nil ⟨hs, trivial⟩⟩
theorem tg_119 {M S R G : Mem} {bS bR n ob1 ns1 nc1 nf1 ob2 ns2 nc2 nf2 f i e1 m1 h1 e2 m2 h2 a v g0 : Nat} {eS eR : Nat → Nat} {val rval : Nat → Vl} (A1 : ATI S (bS + n) ob1 ns1 nc1 nf1 f i e1 m1 h1 (nI a) 119) (A2 : ATI R (bR + n) ob2 ns2 nc2 nf2 f i e2 m2 h2 (nI a) 119) (hRC : RC M S 18 (bS + n) ns1) (gc : mI M 18 7 = nI 119) (hs : Sat S R bS bR n eS eR ob1 ob2 v val rval) (hv5 : v < 500) (g8 : mI R 69 78 = nI g0) (hg : g0 + 4 ≤ 120) (hgd : d_X12_guards (nI 119) R = some ((), G)) : ∃ g1, g1 ≤ g0 + 4 ∧ mI G 69 78 = nI g1 ∧ GCK M S G g0 g1 (Sat S G bS bR n eS eR ob1 ob2 v val rval ∧ True) := by
  obtain ⟨W1, f1, g1, i1, j1, x1, l1, y1, z1, t1, u1, a1, c1, q1, o1⟩ := A1
  obtain ⟨W2, f2, g2, i2, j2, x2, l2, y2, z2, t2, u2, a2, c2, q2, o2⟩ := A2
  have hA : RAT M S (bS + n) h1 := ⟨⟨_, _, _, _, hRC, W1⟩, t1, u1⟩
  have hd := W2.1.1
  have hd1 := W2.1.2.1
  have hd1S := W1.1.2.1
  obtain ⟨yS, rfl, -⟩ := fx_w W1 f1 g1 i1 j1 x1 l1 y1 z1 t1 u1 a1 c1 q1 o1
  obtain ⟨yR, rfl, -⟩ := fx_w W2 f2 g2 i2 j2 x2 l2 y2 z2 t2 u2 a2 c2 q2 o2
  have hat : Sat S R bS bR n eS eR ob1 ob2 v val rval → At S R v val rval (14 * (bR + n) + 6 + yR) (14 * (bS + n) + 6 + yS) := fun hs2 => by
    have := (sat_at hs2 t1 t2 u1 u2).2 (6 + yR) (6 + yS) (by omega)
    simp only [← Nat.add_assoc] at this
    exact this
  obtain ⟨u, wu, hu, -, -⟩ := hat hs
  have hk := mm_kind (p := 14 * (bR + n) + 6 + yR) (x := 0) hd hd1 t2 u2 (by omega) (by omega) hu (by omega) g8 (by omega) (W2.2.2.1.1 _ (by omega))
  obtain rfl := gd_inj hgd (gd_w hk)
  exact ⟨_, by have := kdG_le R g0 u; omega, kdR_g g8, (gk_K (g0 := g0) (gg := g0) (X := True) hA (q := 14 * (bS + n) + 6 + yS) (x := 0) (by omega) (by omega) (by omega) hu (by omega) (by omega) hat (GCK.nil ⟨hs, trivial⟩)).imp (fun z => ⟨z.1, trivial⟩)⟩
theorem tg_122 {M S R G : Mem} {bS bR n ob1 ns1 nc1 nf1 ob2 ns2 nc2 nf2 f i e1 m1 h1 e2 m2 h2 a v g0 : Nat} {eS eR : Nat → Nat} {val rval : Nat → Vl} (A1 : ATI S (bS + n) ob1 ns1 nc1 nf1 f i e1 m1 h1 (nI a) 122) (A2 : ATI R (bR + n) ob2 ns2 nc2 nf2 f i e2 m2 h2 (nI a) 122) (hRC : RC M S 18 (bS + n) ns1) (gc : mI M 18 7 = nI 122) (hs : Sat S R bS bR n eS eR ob1 ob2 v val rval) (hv5 : v < 500) (g8 : mI R 69 78 = nI g0) (hg : g0 + 4 ≤ 120) (hgd : d_X12_guards (nI 122) R = some ((), G)) (ha : a < 40) : ∃ g1, g1 ≤ g0 + 4 ∧ mI G 69 78 = nI g1 ∧ GCK M S G g0 g1 (Sat S G bS bR n eS eR ob1 ob2 v val rval ∧ (nlV (vS S (14 * (bS + n) + 6 + h1 - 1)) ↔ nlV (vS R (14 * (bR + n) + 6 + h2 - 1)))) := by
  obtain ⟨W1, f1, g1, i1, j1, x1, l1, y1, z1, t1, u1, a1, c1, q1, o1⟩ := A1
  obtain ⟨W2, f2, g2, i2, j2, x2, l2, y2, z2, t2, u2, a2, c2, q2, o2⟩ := A2
  have hA : RAT M S (bS + n) h1 := ⟨⟨_, _, _, _, hRC, W1⟩, t1, u1⟩
  have hd := W2.1.1
  have hd1 := W2.1.2.1
  have hd1S := W1.1.2.1
  obtain ⟨yS, rfl, -⟩ := fx_z W1 f1 g1 i1 j1 x1 l1 y1 z1 t1 u1 a1 c1 ha o1
  obtain ⟨yR, rfl, -⟩ := fx_z W2 f2 g2 i2 j2 x2 l2 y2 z2 t2 u2 a2 c2 ha o2
  have hat : Sat S R bS bR n eS eR ob1 ob2 v val rval → At S R v val rval (14 * (bR + n) + 6 + yR) (14 * (bS + n) + 6 + yS) := fun hs2 => by
    have := (sat_at hs2 t1 t2 u1 u2).2 (6 + yR) (6 + yS) (by omega)
    simp only [← Nat.add_assoc] at this
    exact this
  obtain ⟨u, wu, hu, -, -⟩ := hat hs
  rw [show 14 * (bS + n) + 6 + (yS + 1) - 1 = 14 * (bS + n) + 6 + yS by omega, show 14 * (bR + n) + 6 + (yR + 1) - 1 = 14 * (bR + n) + 6 + yR by omega]
  have hk := gd_z (p := 14 * (bR + n) + 6 + yR) hd hd1 t2 u2 (by omega) hu (by omega) g8 (by omega)
  obtain rfl := gd_inj hgd hk
  refine ⟨if nkP R u then g0 else g0 + 1, by split <;> omega, ?_, (gk_T (g0 := g0) (gg := g0) (X := True) hA (q := 14 * (bS + n) + 6 + yS) (by omega) hu (by omega) (by omega) hat (GCK.nil ⟨hs, trivial⟩)).imp (fun z => ⟨z.1, z.2.2⟩)⟩
  by_cases z : nkP R u
  · rw [if_pos z, if_pos z]; exact g8
  · rw [if_neg z, if_neg z]; unfold tR akR; simp (disch := omega) only [← Nat.add_assoc, Nat.add_sub_cancel, Nat.sub_zero, as21, as31, as32, and_self, and_true, true_and, l_0, l_1, l_2, l_3, l_4, l_5, l_6, l_7, l_8, l_9, l_10, l_11, l_12, l_13, l_14, l_15, l_16, l_17, l_18, l_19, l_20, l_21, l_22, l_23, l_24, l_25, l_26, l_27, l_28, l_29, l_30, l_31, l_32, l_33, l_34, l_35, l_36, l_37, l_38, l_39, l_40, l_41, l_42, l_43, l_44, l_45, l_47, l_48, l_50, l_52, l_60, l_61, l_63, l_80, l_99, l_100, l_101, l_102, l_103, l_105, l_106, l_107, l_108, l_109, l_110, l_111, l_112, l_114, l_115, l_116, l_117, l_118, l_119, l_120, l_122, l_168, l_200, l_320, l_360, l_528, l_548, l_1000, l_1023, l_2000, l_3000, l_1000000, qadd, qmul, qsub, qdiv, qcl, qinT, qchT, qleT, qleF, qltT, qltF, qeqT, qeqF, qneg_ne, bo0, bo1, qneg_ne', qneg_lt, mI_eq, mD_eq, mL_eq, mR_eq, mI_at, mD_at, mL_at, mI_ne, mD_ne, mL_ne, mR_ne, not_false_eq_true, not_true_eq_false, or_true, true_or, or_false, false_or, or_self, false_and, and_false, eq_self, mI_sL, mI_sD, mI_sR, mI_tk, mL_sI, mL_sD, mL_sR, mL_tk, mD_sI, mD_sL, mD_sR, mD_tk, mR_sI, mR_sL, mR_sD, mR_tk, mT_sI, mT_sL, mT_sD, mT_sR, mT_tk, mK_sI, mK_sL, mK_sD, mK_sR, mK_tk, mN_sI, mN_sL, mN_sD, mN_sR, mN_tk, nx_sI, nx_sL, nx_sD, nx_sR, uC_sI, uC_sL, uC_sD, uC_sR, uS_sI, uS_sL, uS_sD, uS_sR, nx_tk, uC_tk, uS_tk]
theorem tg_103 {M S R G : Mem} {bS bR n ob1 ns1 nc1 nf1 ob2 ns2 nc2 nf2 f i e1 m1 h1 e2 m2 h2 a v g0 : Nat} {eS eR : Nat → Nat} {val rval : Nat → Vl} (A1 : ATI S (bS + n) ob1 ns1 nc1 nf1 f i e1 m1 h1 (nI a) 103) (A2 : ATI R (bR + n) ob2 ns2 nc2 nf2 f i e2 m2 h2 (nI a) 103) (hRC : RC M S 18 (bS + n) ns1) (gc : mI M 18 7 = nI 103) (hs : Sat S R bS bR n eS eR ob1 ob2 v val rval) (hv5 : v < 500) (g8 : mI R 69 78 = nI g0) (hg : g0 + 4 ≤ 120) (hgd : d_X12_guards (nI 103) R = some ((), G)) (ha : a < 6) : ∃ g1, g1 ≤ g0 + 4 ∧ mI G 69 78 = nI g1 ∧ GCK M S G g0 g1 (Sat S G bS bR n eS eR ob1 ob2 v val rval ∧ True) := by
  obtain ⟨W1, f1, g1, i1, j1, x1, l1, y1, z1, t1, u1, a1, c1, q1, o1⟩ := A1
  obtain ⟨W2, f2, g2, i2, j2, x2, l2, y2, z2, t2, u2, a2, c2, q2, o2⟩ := A2
  have hA : RAT M S (bS + n) h1 := ⟨⟨_, _, _, _, hRC, W1⟩, t1, u1⟩
  have hd := W2.1.1
  have hd1 := W2.1.2.1
  have hd1S := W1.1.2.1
  obtain ⟨yS, qS, sS, cS, rfl, T1, -⟩ := fx_g W1 f1 g1 i1 j1 x1 l1 y1 z1 t1 u1 a1 c1 ha q1 o1
  obtain ⟨yR, qR, sR, cR, rfl, T2, -⟩ := fx_g W2 f2 g2 i2 j2 x2 l2 y2 z2 t2 u2 a2 c2 ha q2 o2
  obtain ⟨B1, B2, B3, B4, B5, B6, B7⟩ := T1
  obtain ⟨C1, C2, C3, C4, C5, C6, C7⟩ := T2
  have hob1 := W1.2.2.2.1.2.1
  have hob2 := W2.2.2.2.1.2.1
  have hat : Sat S R bS bR n eS eR ob1 ob2 v val rval → At S R v val rval (14 * (bR + n) + 6 + yR) (14 * (bS + n) + 6 + yS) := fun hs2 => by
    have := (sat_at hs2 t1 t2 u1 u2).2 (6 + yR) (6 + yS) (by omega)
    simp only [← Nat.add_assoc] at this
    exact this
  obtain ⟨u, wu, hu, -, -⟩ := hat hs
  have hk := gd_g (mm_shape (p := 14 * (bR + n) + 6 + yR) (x := 0) hd hd1 t2 u2 (by omega) (by omega) hu (by omega) g8 (by omega) C2 (by omega))
  obtain rfl := gd_inj hgd hk
  have hgk := gk_S (g0 := g0) (gg := g0) (X := True) hA (q := 14 * (bS + n) + 6 + yS) (x := 0) (by omega) (by omega) (by omega) hu (by omega) (by omega) hat B1 B2 B3 hob1 C1 C2 C3 hob2 (rfl : mI R 112 qR = _) (GCK.nil ⟨hs, trivial⟩)
  refine ⟨shG R g0 u, by unfold shG; split <;> omega, ?_, hgk.imp (fun z => ⟨z.1, trivial⟩)⟩
  unfold shR shG
  by_cases z : mI R 125 u = -nI 1
  · rw [if_pos z, if_pos z]; unfold akR; simp (disch := omega) only [← Nat.add_assoc, Nat.add_sub_cancel, Nat.sub_zero, as21, as31, as32, and_self, and_true, true_and, l_0, l_1, l_2, l_3, l_4, l_5, l_6, l_7, l_8, l_9, l_10, l_11, l_12, l_13, l_14, l_15, l_16, l_17, l_18, l_19, l_20, l_21, l_22, l_23, l_24, l_25, l_26, l_27, l_28, l_29, l_30, l_31, l_32, l_33, l_34, l_35, l_36, l_37, l_38, l_39, l_40, l_41, l_42, l_43, l_44, l_45, l_47, l_48, l_50, l_52, l_60, l_61, l_63, l_80, l_99, l_100, l_101, l_102, l_103, l_105, l_106, l_107, l_108, l_109, l_110, l_111, l_112, l_114, l_115, l_116, l_117, l_118, l_119, l_120, l_122, l_168, l_200, l_320, l_360, l_528, l_548, l_1000, l_1023, l_2000, l_3000, l_1000000, qadd, qmul, qsub, qdiv, qcl, qinT, qchT, qleT, qleF, qltT, qltF, qeqT, qeqF, qneg_ne, bo0, bo1, qneg_ne', qneg_lt, mI_eq, mD_eq, mL_eq, mR_eq, mI_at, mD_at, mL_at, mI_ne, mD_ne, mL_ne, mR_ne, not_false_eq_true, not_true_eq_false, or_true, true_or, or_false, false_or, or_self, false_and, and_false, eq_self, mI_sL, mI_sD, mI_sR, mI_tk, mL_sI, mL_sD, mL_sR, mL_tk, mD_sI, mD_sL, mD_sR, mD_tk, mR_sI, mR_sL, mR_sD, mR_tk, mT_sI, mT_sL, mT_sD, mT_sR, mT_tk, mK_sI, mK_sL, mK_sD, mK_sR, mK_tk, mN_sI, mN_sL, mN_sD, mN_sR, mN_tk, nx_sI, nx_sL, nx_sD, nx_sR, uC_sI, uC_sL, uC_sD, uC_sR, uS_sI, uS_sL, uS_sD, uS_sR, nx_tk, uC_tk, uS_tk]
  · rw [if_neg z, if_neg z]; exact g8
theorem cond_sh {S R : Mem} {p p2 q q2 qS qR b1 b2 : Nat} (B2 : mI S 106 p = nI qS) (C2 : mI R 106 q = nI qR) (hp : p2 = p) (hq : q2 = q) (h1 : qS < 60) (h2 : qR < 60) (h : mI S 112 qS = mI R 112 qR) (y3 : mI S 106 p2 = nI b1) (y4 : mI R 106 q2 = nI b2) : b1 < 60 → b2 < 60 → mI S 112 b1 = mI R 112 b2 := by
  intro k1 k2
  subst hp hq
  obtain rfl : qS = b1 := qinj (by omega) (by omega) (B2.symm.trans y3)
  obtain rfl : qR = b2 := qinj (by omega) (by omega) (C2.symm.trans y4)
  exact h
theorem tg_109 {M S R G : Mem} {bS bR n ob1 ns1 nc1 nf1 ob2 ns2 nc2 nf2 f i e1 m1 h1 e2 m2 h2 a v g0 : Nat} {eS eR : Nat → Nat} {val rval : Nat → Vl} (A1 : ATI S (bS + n) ob1 ns1 nc1 nf1 f i e1 m1 h1 (nI a) 109) (A2 : ATI R (bR + n) ob2 ns2 nc2 nf2 f i e2 m2 h2 (nI a) 109) (hRC : RC M S 18 (bS + n) ns1) (gc : mI M 18 7 = nI 109) (hs : Sat S R bS bR n eS eR ob1 ob2 v val rval) (hv5 : v < 500) (g8 : mI R 69 78 = nI g0) (hg : g0 + 4 ≤ 120) (hgd : d_X12_guards (nI 109) R = some ((), G)) (ha : a < 6) : ∃ g1, g1 ≤ g0 + 4 ∧ mI G 69 78 = nI g1 ∧ GCK M S G g0 g1 (Sat S G bS bR n eS eR ob1 ob2 v val rval ∧ (∀ yS yR qS qR, h1 = yS + 1 → h2 = yR + 1 → qS < 60 → qR < 60 → mI S 106 (14 * (bS + n) + 6 + yS) = nI qS → mI R 106 (14 * (bR + n) + 6 + yR) = nI qR → mI S 112 qS = mI R 112 qR)) := by
  obtain ⟨W1, f1, g1, i1, j1, x1, l1, y1, z1, t1, u1, a1, c1, q1, o1⟩ := A1
  obtain ⟨W2, f2, g2, i2, j2, x2, l2, y2, z2, t2, u2, a2, c2, q2, o2⟩ := A2
  have hA : RAT M S (bS + n) h1 := ⟨⟨_, _, _, _, hRC, W1⟩, t1, u1⟩
  have hd := W2.1.1
  have hd1 := W2.1.2.1
  have hd1S := W1.1.2.1
  obtain ⟨yS, qS, sS, cS, gS, rfl, T1, -⟩ := fx_m W1 f1 g1 i1 j1 x1 l1 y1 z1 t1 u1 a1 c1 ha q1 o1
  obtain ⟨yR, qR, sR, cR, gR, rfl, T2, -⟩ := fx_m W2 f2 g2 i2 j2 x2 l2 y2 z2 t2 u2 a2 c2 ha q2 o2
  obtain ⟨B1, B2, B3, B4, B5, B6, B7⟩ := T1
  obtain ⟨C1, C2, C3, C4, C5, C6, C7⟩ := T2
  have hob1 := W1.2.2.2.1.2.1
  have hob2 := W2.2.2.2.1.2.1
  have hat : Sat S R bS bR n eS eR ob1 ob2 v val rval → At S R v val rval (14 * (bR + n) + 6 + yR) (14 * (bS + n) + 6 + yS) := fun hs2 => by
    have := (sat_at hs2 t1 t2 u1 u2).2 (6 + yR) (6 + yS) (by omega)
    simp only [← Nat.add_assoc] at this
    exact this
  obtain ⟨u, wu, hu, -, -⟩ := hat hs
  have hk := gd_m (mm_shape (p := 14 * (bR + n) + 6 + yR) (x := 0) hd hd1 t2 u2 (by omega) (by omega) hu (by omega) g8 (by omega) C2 (by omega))
  obtain rfl := gd_inj hgd hk
  have hgk := gk_S (g0 := g0) (gg := g0) (X := True) hA (q := 14 * (bS + n) + 6 + yS) (x := 0) (by omega) (by omega) (by omega) hu (by omega) (by omega) hat B1 B2 B3 hob1 C1 C2 C3 hob2 (rfl : mI R 112 qR = _) (GCK.nil ⟨hs, trivial⟩)
  refine ⟨shG R g0 u, by unfold shG; split <;> omega, ?_, hgk.imp (fun z => ⟨z.1, fun a1 a2 b1 b2 y1 y2 k1 k2 y3 y4 => cond_sh B2 C2 (by omega) (by omega) (by omega) (by omega) z.2.2 y3 y4 k1 k2⟩)⟩
  unfold shR shG
  by_cases z : mI R 125 u = -nI 1
  · rw [if_pos z, if_pos z]; unfold akR; simp (disch := omega) only [← Nat.add_assoc, Nat.add_sub_cancel, Nat.sub_zero, as21, as31, as32, and_self, and_true, true_and, l_0, l_1, l_2, l_3, l_4, l_5, l_6, l_7, l_8, l_9, l_10, l_11, l_12, l_13, l_14, l_15, l_16, l_17, l_18, l_19, l_20, l_21, l_22, l_23, l_24, l_25, l_26, l_27, l_28, l_29, l_30, l_31, l_32, l_33, l_34, l_35, l_36, l_37, l_38, l_39, l_40, l_41, l_42, l_43, l_44, l_45, l_47, l_48, l_50, l_52, l_60, l_61, l_63, l_80, l_99, l_100, l_101, l_102, l_103, l_105, l_106, l_107, l_108, l_109, l_110, l_111, l_112, l_114, l_115, l_116, l_117, l_118, l_119, l_120, l_122, l_168, l_200, l_320, l_360, l_528, l_548, l_1000, l_1023, l_2000, l_3000, l_1000000, qadd, qmul, qsub, qdiv, qcl, qinT, qchT, qleT, qleF, qltT, qltF, qeqT, qeqF, qneg_ne, bo0, bo1, qneg_ne', qneg_lt, mI_eq, mD_eq, mL_eq, mR_eq, mI_at, mD_at, mL_at, mI_ne, mD_ne, mL_ne, mR_ne, not_false_eq_true, not_true_eq_false, or_true, true_or, or_false, false_or, or_self, false_and, and_false, eq_self, mI_sL, mI_sD, mI_sR, mI_tk, mL_sI, mL_sD, mL_sR, mL_tk, mD_sI, mD_sL, mD_sR, mD_tk, mR_sI, mR_sL, mR_sD, mR_tk, mT_sI, mT_sL, mT_sD, mT_sR, mT_tk, mK_sI, mK_sL, mK_sD, mK_sR, mK_tk, mN_sI, mN_sL, mN_sD, mN_sR, mN_tk, nx_sI, nx_sL, nx_sD, nx_sR, uC_sI, uC_sL, uC_sD, uC_sR, uS_sI, uS_sL, uS_sD, uS_sR, nx_tk, uC_tk, uS_tk]
  · rw [if_neg z, if_neg z]; exact g8
theorem tg_112 {M S R G : Mem} {bS bR n ob1 ns1 nc1 nf1 ob2 ns2 nc2 nf2 f i e1 m1 h1 e2 m2 h2 a v g0 : Nat} {eS eR : Nat → Nat} {val rval : Nat → Vl} (A1 : ATI S (bS + n) ob1 ns1 nc1 nf1 f i e1 m1 h1 (nI a) 112) (A2 : ATI R (bR + n) ob2 ns2 nc2 nf2 f i e2 m2 h2 (nI a) 112) (hRC : RC M S 18 (bS + n) ns1) (gc : mI M 18 7 = nI 112) (hs : Sat S R bS bR n eS eR ob1 ob2 v val rval) (hv5 : v < 500) (g8 : mI R 69 78 = nI g0) (hg : g0 + 4 ≤ 120) (hgd : d_X12_guards (nI 112) R = some ((), G)) (ha : a < 6) : ∃ g1, g1 ≤ g0 + 4 ∧ mI G 69 78 = nI g1 ∧ GCK M S G g0 g1 (Sat S G bS bR n eS eR ob1 ob2 v val rval ∧ (∀ yS yR qS qR, h1 = yS + 2 → h2 = yR + 2 → qS < 60 → qR < 60 → mI S 106 (14 * (bS + n) + 6 + yS) = nI qS → mI R 106 (14 * (bR + n) + 6 + yR) = nI qR → mI S 112 qS = mI R 112 qR)) := by
  obtain ⟨W1, f1, g1, i1, j1, x1, l1, y1, z1, t1, u1, a1, c1, q1, o1⟩ := A1
  obtain ⟨W2, f2, g2, i2, j2, x2, l2, y2, z2, t2, u2, a2, c2, q2, o2⟩ := A2
  have hA : RAT M S (bS + n) h1 := ⟨⟨_, _, _, _, hRC, W1⟩, t1, u1⟩
  have hd := W2.1.1
  have hd1 := W2.1.2.1
  have hd1S := W1.1.2.1
  obtain ⟨yS, qS, sS, cS, zS, rfl, T1, -⟩ := fx_p W1 f1 g1 i1 j1 x1 l1 y1 z1 t1 u1 a1 c1 ha q1 o1
  obtain ⟨yR, qR, sR, cR, zR_, rfl, T2, -⟩ := fx_p W2 f2 g2 i2 j2 x2 l2 y2 z2 t2 u2 a2 c2 ha q2 o2
  obtain ⟨B1, B2, B3, B4, B5, B6, B7⟩ := T1
  obtain ⟨C1, C2, C3, C4, C5, C6, C7⟩ := T2
  have hob1 := W1.2.2.2.1.2.1
  have hob2 := W2.2.2.2.1.2.1
  have hat : Sat S R bS bR n eS eR ob1 ob2 v val rval → At S R v val rval (14 * (bR + n) + 6 + yR) (14 * (bS + n) + 6 + yS) := fun hs2 => by
    have := (sat_at hs2 t1 t2 u1 u2).2 (6 + yR) (6 + yS) (by omega)
    simp only [← Nat.add_assoc] at this
    exact this
  obtain ⟨u, wu, hu, -, -⟩ := hat hs
  have hk := gd_p (mm_shape (p := 14 * (bR + n) + 6 + yR) (x := 1) hd hd1 t2 u2 (by omega) (by omega) hu (by omega) g8 (by omega) C2 (by omega))
  obtain rfl := gd_inj hgd hk
  have hgk := gk_S (g0 := g0) (gg := g0) (X := True) hA (q := 14 * (bS + n) + 6 + yS) (x := 1) (by omega) (by omega) (by omega) hu (by omega) (by omega) hat B1 B2 B3 hob1 C1 C2 C3 hob2 (rfl : mI R 112 qR = _) (GCK.nil ⟨hs, trivial⟩)
  refine ⟨shG R g0 u, by unfold shG; split <;> omega, ?_, hgk.imp (fun z => ⟨z.1, fun a1 a2 b1 b2 y1 y2 k1 k2 y3 y4 => cond_sh B2 C2 (by omega) (by omega) (by omega) (by omega) z.2.2 y3 y4 k1 k2⟩)⟩
  unfold shR shG
  by_cases z : mI R 125 u = -nI 1
  · rw [if_pos z, if_pos z]; unfold akR; simp (disch := omega) only [← Nat.add_assoc, Nat.add_sub_cancel, Nat.sub_zero, as21, as31, as32, and_self, and_true, true_and, l_0, l_1, l_2, l_3, l_4, l_5, l_6, l_7, l_8, l_9, l_10, l_11, l_12, l_13, l_14, l_15, l_16, l_17, l_18, l_19, l_20, l_21, l_22, l_23, l_24, l_25, l_26, l_27, l_28, l_29, l_30, l_31, l_32, l_33, l_34, l_35, l_36, l_37, l_38, l_39, l_40, l_41, l_42, l_43, l_44, l_45, l_47, l_48, l_50, l_52, l_60, l_61, l_63, l_80, l_99, l_100, l_101, l_102, l_103, l_105, l_106, l_107, l_108, l_109, l_110, l_111, l_112, l_114, l_115, l_116, l_117, l_118, l_119, l_120, l_122, l_168, l_200, l_320, l_360, l_528, l_548, l_1000, l_1023, l_2000, l_3000, l_1000000, qadd, qmul, qsub, qdiv, qcl, qinT, qchT, qleT, qleF, qltT, qltF, qeqT, qeqF, qneg_ne, bo0, bo1, qneg_ne', qneg_lt, mI_eq, mD_eq, mL_eq, mR_eq, mI_at, mD_at, mL_at, mI_ne, mD_ne, mL_ne, mR_ne, not_false_eq_true, not_true_eq_false, or_true, true_or, or_false, false_or, or_self, false_and, and_false, eq_self, mI_sL, mI_sD, mI_sR, mI_tk, mL_sI, mL_sD, mL_sR, mL_tk, mD_sI, mD_sL, mD_sR, mD_tk, mR_sI, mR_sL, mR_sD, mR_tk, mT_sI, mT_sL, mT_sD, mT_sR, mT_tk, mK_sI, mK_sL, mK_sD, mK_sR, mK_tk, mN_sI, mN_sL, mN_sD, mN_sR, mN_tk, nx_sI, nx_sL, nx_sD, nx_sR, uC_sI, uC_sL, uC_sD, uC_sR, uS_sI, uS_sL, uS_sD, uS_sR, nx_tk, uC_tk, uS_tk]
  · rw [if_neg z, if_neg z]; exact g8
end MJ4
