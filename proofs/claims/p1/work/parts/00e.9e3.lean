/-! ===== the guards of a step, one after another ===== -/
section MJ3
/-- the guards g0..g1 of G: both find the same, and if they hold, then Q -/
def GCK (M S G : Mem) (g0 g1 : Nat) (Q : Prop) : Prop := g0 ≤ g1 ∧ ∃ ok : Nat → Prop, (∀ j, g0 ≤ j → j < g1 → (∀ i, g0 ≤ i → i < j → ok i) → RHs S (mI G 119 j) (mI G 121 j) (mI G 122 j) (ok j) ∧ CH M (mI G 119 j) (mI G 121 j) (mI G 122 j) (ok j)) ∧ ((∀ j, g0 ≤ j → j < g1 → ok j) → Q)
theorem GCK.nil {M S R : Mem} {g : Nat} {Q : Prop} (h : Q) : GCK M S R g g Q := ⟨Nat.le_refl _, fun _ => True, fun j h1 h2 => absurd h1 (by omega), fun _ => h⟩
theorem GCK.imp {M S G : Mem} {g0 g1 : Nat} {Q Q2 : Prop} (h : GCK M S G g0 g1 Q) (k : Q → Q2) : GCK M S G g0 g1 Q2 := by
  obtain ⟨h0, ok, h1, h2⟩ := h
  exact ⟨h0, ok, h1, fun z => k (h2 z)⟩
theorem GCK.wr {M S G G2 : Mem} {g0 g1 : Nat} {Q : Prop} (h : GCK M S G g0 g1 Q) (e : ∀ j, j < g1 → mI G2 119 j = mI G 119 j ∧ mI G2 121 j = mI G 121 j ∧ mI G2 122 j = mI G 122 j) : GCK M S G2 g0 g1 Q := by
  obtain ⟨h0, ok, h1, h2⟩ := h
  refine ⟨h0, ok, fun j a b c => ?_, h2⟩
  obtain ⟨e1, e2, e3⟩ := e j b
  rw [e1, e2, e3]
  exact h1 j a b c
theorem GCK.snoc {M S G G2 : Mem} {g0 g1 : Nat} {Q Q2 P : Prop} {c x z : Int32} (h : GCK M S G g0 g1 Q) (hc : Q → RHs S c x z P ∧ CH M c x z P) (hq : Q → P → Q2) (e : ∀ j, j < g1 → mI G2 119 j = mI G 119 j ∧ mI G2 121 j = mI G 121 j ∧ mI G2 122 j = mI G 122 j) (e1 : mI G2 119 g1 = c) (e2 : mI G2 121 g1 = x) (e3 : mI G2 122 g1 = z) : GCK M S G2 g0 (g1 + 1) Q2 := by
  obtain ⟨h0, ok, h1, h2⟩ := h
  refine ⟨by omega, fun j => (j < g1 → ok j) ∧ (j = g1 → P), fun j a b k => ?_, fun k => ?_⟩
  · by_cases q : j = g1
    · subst q
      have hQ : Q := h2 (fun i i1 i2 => (k i i1 i2).1 i2)
      have ep : ((j < j → ok j) ∧ (j = j → P)) = P := propext ⟨fun z => z.2 rfl, fun z => ⟨fun y => absurd y (by omega), fun _ => z⟩⟩
      show RHs S _ _ _ ((j < j → ok j) ∧ (j = j → P)) ∧ CH M _ _ _ ((j < j → ok j) ∧ (j = j → P))
      rw [ep, e1, e2, e3]
      exact hc hQ
    · obtain ⟨f1, f2, f3⟩ := e j (by omega)
      have ep : ((j < g1 → ok j) ∧ (j = g1 → P)) = ok j := propext ⟨fun z => z.1 (by omega), fun z => ⟨fun _ => z, fun y => absurd y q⟩⟩
      show RHs S _ _ _ ((j < g1 → ok j) ∧ (j = g1 → P)) ∧ CH M _ _ _ ((j < g1 → ok j) ∧ (j = g1 → P))
      rw [ep, f1, f2, f3]
      exact h1 j a (by omega) (fun i i1 i2 => (k i i1 i2).1 (by omega))
  · exact hq (h2 (fun j a b => (k j a (by omega)).1 b)) ((k g1 h0 (by omega)).2 rfl)
theorem ak_lo {R : Mem} {g j : Nat} {c x z : Int32} (h : j < g) : mI (akR R g c x z) 119 j = mI R 119 j ∧ mI (akR R g c x z) 121 j = mI R 121 j ∧ mI (akR R g c x z) 122 j = mI R 122 j := by unfold akR; refine ⟨?_, ?_, ?_⟩ <;> simp (disch := omega) only [← Nat.add_assoc, Nat.add_sub_cancel, Nat.sub_zero, as21, as31, as32, and_self, and_true, true_and, l_0, l_1, l_2, l_3, l_4, l_5, l_6, l_7, l_8, l_9, l_10, l_11, l_12, l_13, l_14, l_15, l_16, l_17, l_18, l_19, l_20, l_21, l_22, l_23, l_24, l_25, l_26, l_27, l_28, l_29, l_30, l_31, l_32, l_33, l_34, l_35, l_36, l_37, l_38, l_39, l_40, l_41, l_42, l_43, l_44, l_45, l_47, l_48, l_50, l_52, l_60, l_61, l_63, l_80, l_99, l_100, l_101, l_102, l_103, l_105, l_106, l_107, l_108, l_109, l_110, l_111, l_112, l_114, l_115, l_116, l_117, l_118, l_119, l_120, l_122, l_168, l_200, l_320, l_360, l_528, l_548, l_1000, l_1023, l_2000, l_3000, l_1000000, qadd, qmul, qsub, qdiv, qcl, qinT, qchT, qleT, qleF, qltT, qltF, qeqT, qeqF, qneg_ne, bo0, bo1, qneg_ne', qneg_lt, mI_eq, mD_eq, mL_eq, mR_eq, mI_at, mD_at, mL_at, mI_ne, mD_ne, mL_ne, mR_ne, not_false_eq_true, not_true_eq_false, or_true, true_or, or_false, false_or, or_self, false_and, and_false, eq_self, mI_sL, mI_sD, mI_sR, mI_tk, mL_sI, mL_sD, mL_sR, mL_tk, mD_sI, mD_sL, mD_sR, mD_tk, mR_sI, mR_sL, mR_sD, mR_tk, mT_sI, mT_sL, mT_sD, mT_sR, mT_tk, mK_sI, mK_sL, mK_sD, mK_sR, mK_tk, mN_sI, mN_sL, mN_sD, mN_sR, mN_tk, nx_sI, nx_sL, nx_sD, nx_sR, uC_sI, uC_sL, uC_sD, uC_sR, uS_sI, uS_sL, uS_sD, uS_sR, nx_tk, uC_tk, uS_tk]
theorem ak_at {R : Mem} {g : Nat} {c x z : Int32} : mI (akR R g c x z) 119 g = c ∧ mI (akR R g c x z) 121 g = x ∧ mI (akR R g c x z) 122 g = z := by unfold akR; refine ⟨?_, ?_, ?_⟩ <;> simp (disch := omega) only [← Nat.add_assoc, Nat.add_sub_cancel, Nat.sub_zero, as21, as31, as32, and_self, and_true, true_and, l_0, l_1, l_2, l_3, l_4, l_5, l_6, l_7, l_8, l_9, l_10, l_11, l_12, l_13, l_14, l_15, l_16, l_17, l_18, l_19, l_20, l_21, l_22, l_23, l_24, l_25, l_26, l_27, l_28, l_29, l_30, l_31, l_32, l_33, l_34, l_35, l_36, l_37, l_38, l_39, l_40, l_41, l_42, l_43, l_44, l_45, l_47, l_48, l_50, l_52, l_60, l_61, l_63, l_80, l_99, l_100, l_101, l_102, l_103, l_105, l_106, l_107, l_108, l_109, l_110, l_111, l_112, l_114, l_115, l_116, l_117, l_118, l_119, l_120, l_122, l_168, l_200, l_320, l_360, l_528, l_548, l_1000, l_1023, l_2000, l_3000, l_1000000, qadd, qmul, qsub, qdiv, qcl, qinT, qchT, qleT, qleF, qltT, qltF, qeqT, qeqF, qneg_ne, bo0, bo1, qneg_ne', qneg_lt, mI_eq, mD_eq, mL_eq, mR_eq, mI_at, mD_at, mL_at, mI_ne, mD_ne, mL_ne, mR_ne, not_false_eq_true, not_true_eq_false, or_true, true_or, or_false, false_or, or_self, false_and, and_false, eq_self, mI_sL, mI_sD, mI_sR, mI_tk, mL_sI, mL_sD, mL_sR, mL_tk, mD_sI, mD_sL, mD_sR, mD_tk, mR_sI, mR_sL, mR_sD, mR_tk, mT_sI, mT_sL, mT_sD, mT_sR, mT_tk, mK_sI, mK_sL, mK_sD, mK_sR, mK_tk, mN_sI, mN_sL, mN_sD, mN_sR, mN_tk, nx_sI, nx_sL, nx_sD, nx_sR, uC_sI, uC_sL, uC_sD, uC_sR, uS_sI, uS_sL, uS_sD, uS_sR, nx_tk, uC_tk, uS_tk]
theorem sI3 {R : Mem} {b u j : Nat} {z : Int32} (hb : 122 < b) : mI (sI R b u z) 119 j = mI R 119 j ∧ mI (sI R b u z) 121 j = mI R 121 j ∧ mI (sI R b u z) 122 j = mI R 122 j := ⟨mI_ne (by omega), mI_ne (by omega), mI_ne (by omega)⟩
/-- where the run stands -/
def RAT (M S : Mem) (d h : Nat) : Prop := (∃ ns ob nc nf, RC M S 18 d ns ∧ WW S d ob ns nc nf) ∧ mI S 111 d = nI h ∧ h ≤ 8
theorem RAT.g {M S : Mem} {d h : Nat} (hA : RAT M S d h) : mI S 69 48 = nI d ∧ d < 12 ∧ mI M 18 9 = nI (d + 1) ∧ mI M 26 d = nI h ∧ (∀ p, p < 168 → Vr (mI M 20 p) (mI M 21 p) (mD M 22 p) (mI S 105 p) (mI S 106 p) (mD S 107 p)) ∧ ∀ q, q < 60 → mI M 27 q = mI S 112 q := by
  obtain ⟨⟨ns, ob, nc, nf, hR, hW⟩, hh, h8⟩ := hA
  exact ⟨hW.1.1, hW.1.2.1, hR.2.2.2.2.1.1, (hR.2.2.2.2.1.2 d (Nat.le_refl _)).2.2.trans hh, hR.1, fun q hq => hR.2.2.2.1.2.2.2 q hq⟩
def ST_ (S R : Mem) (bS bR n : Nat) (eS eR : Nat → Nat) (oS oR v : Nat) (val rval : Nat → Vl) : Prop := Sat S R bS bR n eS eR oS oR v val rval
/-- asked for a kind -/
theorem gk_K {M S R : Mem} {bS bR n oS oR v g0 gg d h x p q u : Nat} {eS eR : Nat → Nat} {val rval : Nat → Vl} {X : Prop} (hA : RAT M S d h) (hq : q + x + 1 = 14 * d + 6 + h) (hx : x < 3) (hx2 : x < 6 + h) (hu : mI R 108 p = nI u) (hu6 : u < 600) (hv6 : v < 600) (hat : Sat S R bS bR n eS eR oS oR v val rval → At S R v val rval p q) (hG : GCK M S R g0 gg (Sat S R bS bR n eS eR oS oR v val rval ∧ X)) : GCK M S (kdR R gg x p u) g0 (kdG R gg u) (Sat S (kdR R gg x p u) bS bR n eS eR oS oR v val rval ∧ X ∧ mI S 105 q = mI R 105 p) := by
  obtain ⟨hd, hd1, gd, gh, hV, -⟩ := hA.g
  have hA3 := hA.2
  have key : Sat S R bS bR n eS eR oS oR v val rval → u < v ∧ vS S q = val u ∧ vS R p = rval u := fun hs => by
    obtain ⟨w, w1, w2, w3, w4⟩ := hat hs
    obtain rfl : w = u := qinj (by omega) (by omega) (w2.symm.trans hu)
    exact ⟨w1, w3, w4⟩
  by_cases z : mI R 123 u = nI 0
  · have e1 : kdG R gg u = gg + 1 := if_pos z
    have e2 : kdR R gg x p u = sI (akR R gg (nI 107) (nI x) (mI R 105 p)) 123 u (mI R 105 p) := if_pos z
    rw [e1]
    refine GCK.snoc (P := mI S 105 q = mI R 105 p) hG (fun _ => ⟨rhs_k hd hd1 hA3.1 hA3.2 hq hx2, ch_k gd hd1 gh hA3.2 hq hx (hV q (by omega)).kind⟩) (fun hQ hP => ?_) (fun j hj => ?_) ?_ ?_ ?_
    · obtain ⟨k1, k2, k3⟩ := key hQ.1
      exact ⟨sat_k hQ.1 k1 k2 k3 hP, hQ.2, hP⟩
    · rw [e2]
      obtain ⟨a1, a2, a3⟩ := sI3 (R := akR R gg (nI 107) (nI x) (mI R 105 p)) (b := 123) (u := u) (j := j) (z := mI R 105 p) (by omega)
      rw [a1, a2, a3]; exact ak_lo hj
    · rw [e2, mI_ne (by omega)]; exact ak_at.1
    · rw [e2, mI_ne (by omega)]; exact ak_at.2.1
    · rw [e2, mI_ne (by omega)]; exact ak_at.2.2
  · have e1 : kdG R gg u = gg := if_neg z
    have e2 : kdR R gg x p u = R := if_neg z
    rw [e1, e2]
    refine hG.imp (fun hQ => ⟨hQ.1, hQ.2, ?_⟩)
    obtain ⟨k1, k2, k3⟩ := key hQ.1
    have kn := (hQ.1.2.2.2 u k1).2.1 z
    have a1 : mI S 105 q = (val u).1 := congrArg Prod.fst k2
    have a2 : mI R 105 p = (rval u).1 := congrArg Prod.fst k3
    rw [a1, a2, kn.1, kn.2]
/-- asked for a shape -/
theorem gk_S {M S R : Mem} {bS bR n oS oR v g0 gg d h x p q u qS qR : Nat} {eS eR : Nat → Nat} {val rval : Nat → Vl} {s : Int32} {X : Prop} (hA : RAT M S d h) (hq : q + x + 1 = 14 * d + 6 + h) (hx : x < 3) (hx2 : x < 6 + h) (hu : mI R 108 p = nI u) (hu6 : u < 600) (hv6 : v < 600) (hat : Sat S R bS bR n eS eR oS oR v val rval → At S R v val rval p q) (kS : mI S 105 q = nI 111) (nS : mI S 106 q = nI qS) (qS1 : qS < oS) (hoS : oS ≤ 60) (kR : mI R 105 p = nI 111) (nR : mI R 106 p = nI qR) (qR1 : qR < oR) (hoR : oR ≤ 60) (sR : mI R 112 qR = s) (hG : GCK M S R g0 gg (Sat S R bS bR n eS eR oS oR v val rval ∧ X)) : GCK M S (shR R gg x u s) g0 (shG R gg u) (Sat S (shR R gg x u s) bS bR n eS eR oS oR v val rval ∧ X ∧ mI S 112 qS = s) := by
  obtain ⟨hd, hd1, gd, gh, hV, hOb⟩ := hA.g
  have hA3 := hA.2
  have key : Sat S R bS bR n eS eR oS oR v val rval → u < v ∧ vS S q = val u ∧ vS R p = rval u := fun hs => by
    obtain ⟨w, w1, w2, w3, w4⟩ := hat hs
    obtain rfl : w = u := qinj (by omega) (by omega) (w2.symm.trans hu)
    exact ⟨w1, w3, w4⟩
  have hv9 := hV q (by omega)
  rw [kS] at hv9
  obtain ⟨w1, w2, -, -⟩ := hv9.oth (by decide)
  rw [nS] at w2
  by_cases z : mI R 125 u = -nI 1
  · have e1 : shG R gg u = gg + 1 := if_pos z
    have e2 : shR R gg x u s = sI (sI (akR R gg (nI 115) (nI x) s) 125 u s) 123 u (nI 111) := if_pos z
    rw [e1]
    refine GCK.snoc (P := mI S 112 qS = s) hG (fun _ => ⟨rhs_s hd hd1 hA3.1 hA3.2 hq hx2 nS (by omega), ch_s gd hd1 gh hA3.2 hq hx w2 (by omega) (hOb qS (by omega))⟩) (fun hQ hP => ?_) (fun j hj => ?_) ?_ ?_ ?_
    · obtain ⟨k1, k2, k3⟩ := key hQ.1
      refine ⟨sat_sh hQ.1 k1 ?_ ?_, hQ.2, hP⟩
      · rw [← k2]; exact ⟨kS, qS, qS1, nS, hP⟩
      · rw [← k3]; exact ⟨kR, qR, qR1, nR, sR⟩
    · rw [e2]
      obtain ⟨a1, a2, a3⟩ := sI3 (R := sI (akR R gg (nI 115) (nI x) s) 125 u s) (b := 123) (u := u) (j := j) (z := nI 111) (by omega)
      obtain ⟨b1, b2, b3⟩ := sI3 (R := akR R gg (nI 115) (nI x) s) (b := 125) (u := u) (j := j) (z := s) (by omega)
      rw [a1, a2, a3, b1, b2, b3]; exact ak_lo hj
    · rw [e2, mI_ne (by omega), mI_ne (by omega)]; exact ak_at.1
    · rw [e2, mI_ne (by omega), mI_ne (by omega)]; exact ak_at.2.1
    · rw [e2, mI_ne (by omega), mI_ne (by omega)]; exact ak_at.2.2
  · have e1 : shG R gg u = gg := if_neg z
    have e2 : shR R gg x u s = R := if_neg z
    rw [e1, e2]
    refine hG.imp (fun hQ => ⟨hQ.1, hQ.2, ?_⟩)
    obtain ⟨k1, k2, k3⟩ := key hQ.1
    obtain ⟨⟨a1, y1, a2, a3, a4⟩, b1, y2, b2, b3, b4⟩ := (hQ.1.2.2.2 u k1).2.2.1 z
    rw [← k2] at a3
    rw [← k3] at b3
    obtain rfl : y1 = qS := qinj (by omega) (by omega) (a3.symm.trans nS)
    obtain rfl : y2 = qR := qinj (by omega) (by omega) (b3.symm.trans nR)
    rw [a4, ← b4, sR]
end MJ3
