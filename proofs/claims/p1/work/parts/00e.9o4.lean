/-! ===== turns: executing outside with a recording ===== -/
section MV4
theorem lnR_e {G : Mem} {k f i a j : Nat} (h : (a ≠ 118 ∨ j ≠ k) ∧ (a ≠ 69 ∨ j ≠ 76)) : mI (lnR G k f i) a j = mI G a j := by unfold lnR; rw [mI_ne (by omega), mI_ne (by omega)]
theorem shR_e {S : Mem} {g x u a j : Nat} {s : Int32} (h : (a < 119 ∨ a = 124 ∨ 126 < a) ∧ (a ≠ 69 ∨ j ≠ 78)) : mI (shR S g x u s) a j = mI S a j := by
  unfold shR akR
  split
  · rw [mI_ne (by omega), mI_ne (by omega), mI_ne (by omega), mI_ne (by omega), mI_ne (by omega), mI_ne (by omega), mI_ne (by omega)]
  · rfl
/-- the guards of the letters with a cache -/
theorem gd_obj {M S : Mem} {d ob ns nc nf f i e n h c bb v fc g k : Nat} {a : Int32} {φ : Nat → Nat} (A : ATI S d ob ns nc nf f i e n h a c) (hf0 : f < nf) (hc : cacP c) (hX : RECX M S v fc φ g k) (hL : RFP M S bb d φ v) (hb : bb ≤ d) (hg : g < 120) (hv : v < 600) : ∃ x u s, ∀ S2, CW S S2 → d_X12_guards (nI c) S2 = some ((), shR S2 g x u s) := by
  obtain ⟨hW, x1, x2, x3, x4, x5, x6, x7, x8, x9, x10, x11, x12, x13, x14⟩ := id A
  have hd := hW.1.1
  have hd1 := hW.1.2.1
  have hob := hW.2.2.2.1.2.1
  have g8 := hX.2.2.2.2.1
  have hLO := (hW.2.2.2.2.2.2.1.2.2.2.2.1 f hf0).2.2.2 i (by rw [x6, qcl (by omega)]; exact x7)
  rw [x11, x12] at hLO
  obtain ⟨b, hb6, rfl⟩ : ∃ b, b < 6 ∧ a = nI b := by
    rcases hc with rfl | rfl | rfl
    all_goals
      rcases hLO with z | ⟨z, -⟩ | ⟨-, b, hb, z⟩ | ⟨z, -⟩ | ⟨z, -⟩ | ⟨z, -⟩ | ⟨z, -⟩
      · exact absurd z (by decide)
      · exact absurd z (by decide)
      · exact ⟨b, hb, z⟩
      · rcases z with z | z <;> exact absurd z (by decide)
      · exact absurd z (by decide)
      · exact absurd z (by decide)
      · rcases z with z | z | z | z | z | z | z | z | z | z | z | z <;> exact absurd z (by decide)
  have hN : hN S d = h := by unfold hN; rw [x9, qcl (by omega)]
  have hid : ∀ t, t < h → ∃ u, u < 600 ∧ mI S 108 (14 * d + 6 + t) = nI u := fun t ht => by
    obtain ⟨u, u1, u2, -⟩ := hL d hb (Nat.le_refl _) (6 + t) (by rw [hN]; omega)
    exact ⟨u, by omega, by rw [show 14 * d + 6 + t = 14 * d + (6 + t) by omega]; exact u2⟩
  have fin : ∀ (x t u q s : Nat), h = t + x + 1 → u < 600 → mI S 108 (14 * d + 6 + t) = nI u → mI S 106 (14 * d + 6 + t) = nI q → q < 60 → mI S 112 q = nI s → ∀ S2, CW S S2 → d_X12_asksShape (nI x) S2 = some ((), shR S2 g x u (nI s)) := fun x t u q s e1 e2 e3 e4 e5 e6 S2 hc => by
    have c := hc.1
    have := mm_shape (p := 14 * d + 6 + t) (x := x) ((c 69 48 (by omega)).trans hd) hd1 ((c 111 d (by omega)).trans x9) x10 (by omega) (by omega) ((c 108 _ (by omega)).trans e3) e2 ((c 69 78 (by omega)).trans g8) hg ((c 106 _ (by omega)).trans e4) e5
    rw [(c 112 q (by omega)).trans e6] at this
    exact this
  rcases hc with rfl | rfl | rfl
  · obtain ⟨t, q0, s, cl, rfl, ⟨o1, o2, o3, o4, o5, o6, o7⟩, -⟩ := fx_g hW x1 x2 x3 x4 x5 x6 x7 x8 x9 x10 x11 x12 hb6 x13 x14
    obtain ⟨u, u1, u2⟩ := hid t (by omega)
    exact ⟨0, u, nI s, fun S2 hc => gd_g (fin 0 t u q0 s (by omega) u1 u2 o2 (by omega) o4 S2 hc)⟩
  · obtain ⟨t, q0, s, cl, g9, rfl, ⟨o1, o2, o3, o4, o5, o6, o7⟩, -⟩ := fx_m hW x1 x2 x3 x4 x5 x6 x7 x8 x9 x10 x11 x12 hb6 x13 x14
    obtain ⟨u, u1, u2⟩ := hid t (by omega)
    exact ⟨0, u, nI s, fun S2 hc => gd_m (fin 0 t u q0 s (by omega) u1 u2 o2 (by omega) o4 S2 hc)⟩
  · obtain ⟨t, q0, s, cl, s2, rfl, ⟨o1, o2, o3, o4, o5, o6, o7⟩, -⟩ := fx_p hW x1 x2 x3 x4 x5 x6 x7 x8 x9 x10 x11 x12 hb6 x13 x14
    obtain ⟨u, u1, u2⟩ := hid t (by omega)
    exact ⟨1, u, nI s, fun S2 hc => gd_p (fin 1 t u q0 s (by omega) u1 u2 o2 (by omega) o4 S2 hc)⟩
/-- the reference's way with a recording -/
theorem pl_rec {S G : Mem} {d f i k c : Nat} {z : Int32} (h71 : mI S 69 71 = nI 1) (hg : d_X12_guards (nI c) S = some ((), G)) (hd : mI G 69 48 = nI d) (hd1 : d < 12) (hi : mI G 110 d = nI i) (hi4 : i < 40) (hf : f < 8) (h76 : mI G 69 76 = nI k) (hk : k < 30) : d_X12_plainly_141 (nI f) (nI (40 * f + i)) (nI c) z S = d_X12_plainly_187 (nI f) (nI (40 * f + i)) (nI c) z (lnR G k f i) := by
  unfold d_X12_plainly_141 lnR
  simp (disch := first | omega | (simp (disch := omega) only [← Nat.add_assoc, Nat.add_sub_cancel, Nat.sub_zero, as21, as31, as32, and_self, and_true, true_and, l_0, l_1, l_2, l_3, l_4, l_5, l_6, l_7, l_8, l_9, l_10, l_11, l_12, l_13, l_14, l_15, l_16, l_17, l_18, l_19, l_20, l_21, l_22, l_23, l_24, l_25, l_26, l_27, l_28, l_29, l_30, l_31, l_32, l_33, l_34, l_35, l_36, l_37, l_38, l_39, l_40, l_41, l_42, l_43, l_44, l_45, l_47, l_48, l_50, l_52, l_60, l_61, l_63, l_80, l_99, l_100, l_101, l_102, l_103, l_105, l_106, l_107, l_108, l_109, l_110, l_111, l_112, l_114, l_115, l_116, l_117, l_118, l_119, l_120, l_122, l_168, l_200, l_320, l_360, l_528, l_548, l_1000, l_1023, l_2000, l_3000, l_1000000, qadd, qmul, qsub, qdiv, qcl, qinT, qchT, qleT, qleF, qltT, qltF, qeqT, qeqF, qneg_ne, bo0, bo1, qneg_ne', qneg_lt, mI_eq, mD_eq, mL_eq, mR_eq, mI_at, mD_at, mL_at, mI_ne, mD_ne, mL_ne, mR_ne, not_false_eq_true, not_true_eq_false, or_true, true_or, or_false, false_or, or_self, false_and, and_false, eq_self, mI_sL, mI_sD, mI_sR, mI_tk, mL_sI, mL_sD, mL_sR, mL_tk, mD_sI, mD_sL, mD_sR, mD_tk, mR_sI, mR_sL, mR_sD, mR_tk, mT_sI, mT_sL, mT_sD, mT_sR, mT_tk, mK_sI, mK_sL, mK_sD, mK_sR, mK_tk, mN_sI, mN_sL, mN_sD, mN_sR, mN_tk, nx_sI, nx_sL, nx_sD, nx_sR, uC_sI, uC_sL, uC_sD, uC_sR, uS_sI, uS_sL, uS_sD, uS_sR, nx_tk, uC_tk, uS_tk, h71, hg, hd, hi, h76]; done) | fail) only [↓okk_pos, ↓okk_T, ↓bnd_eq, ↓obind, ↓bind_okk, ↓bind_bnd, ↓bind_ite, ↓bind_bind, ↓reduceIte, ← Nat.add_assoc, Nat.add_sub_cancel, Nat.sub_zero, as21, as31, as32, and_self, and_true, true_and, l_0, l_1, l_2, l_3, l_4, l_5, l_6, l_7, l_8, l_9, l_10, l_11, l_12, l_13, l_14, l_15, l_16, l_17, l_18, l_19, l_20, l_21, l_22, l_23, l_24, l_25, l_26, l_27, l_28, l_29, l_30, l_31, l_32, l_33, l_34, l_35, l_36, l_37, l_38, l_39, l_40, l_41, l_42, l_43, l_44, l_45, l_47, l_48, l_50, l_52, l_60, l_61, l_63, l_80, l_99, l_100, l_101, l_102, l_103, l_105, l_106, l_107, l_108, l_109, l_110, l_111, l_112, l_114, l_115, l_116, l_117, l_118, l_119, l_120, l_122, l_168, l_200, l_320, l_360, l_528, l_548, l_1000, l_1023, l_2000, l_3000, l_1000000, qadd, qmul, qsub, qdiv, qcl, qinT, qchT, qleT, qleF, qltT, qltF, qeqT, qeqF, qneg_ne, bo0, bo1, qneg_ne', qneg_lt, mI_eq, mD_eq, mL_eq, mR_eq, mI_at, mD_at, mL_at, mI_ne, mD_ne, mL_ne, mR_ne, not_false_eq_true, not_true_eq_false, or_true, true_or, or_false, false_or, or_self, false_and, and_false, eq_self, mI_sL, mI_sD, mI_sR, mI_tk, mL_sI, mL_sD, mL_sR, mL_tk, mD_sI, mD_sL, mD_sR, mD_tk, mR_sI, mR_sL, mR_sD, mR_tk, mT_sI, mT_sL, mT_sD, mT_sR, mT_tk, mK_sI, mK_sL, mK_sD, mK_sR, mK_tk, mN_sI, mN_sL, mN_sD, mN_sR, mN_tk, nx_sI, nx_sL, nx_sD, nx_sR, uC_sI, uC_sL, uC_sD, uC_sR, uS_sI, uS_sL, uS_sD, uS_sR, nx_tk, uC_tk, uS_tk, h71, hg, hd, hi, h76]
theorem cw_caw {S E : Mem} (h : CAW S) (k : ∀ j, mI E 83 j = mI S 83 j) : CAW E := fun j hj => by rw [k]; exact h j hj
/-- the cache before a recorded step of the class, behind its guards in the reference -/
theorem rec_meet {M S : Mem} {B : Nat → Nat} {cnt d ns ob nc nf f i e n h c bb v fc g k : Nat} {a : Int32} {φ : Nat → Nat} {H G F : Nat → Nat → Mem} {b : Nat → Nat} {fg : Nat → Nat → Nat} (hB : BAS M S B cnt d ns ob nc nf H G F b fg) (A : ATI S d ob ns nc nf f i e n h a c) (hf0 : f < nf) (hc9 : c < 256) (h71 : mI S 69 71 = nI 1) (hX : RECX M S v fc φ g k) (hL : RFP M S bb d φ v) (hb : bb ≤ d) (hg : g < 120) (hv : v < 600) (hk : k < 30) : ∃ M4 S4, d_X10_meetCache (nI c) M = some ((), M4) ∧ BAS M4 S4 B cnt d ns ob nc nf H G F b fg ∧ CW S S4 ∧ MF M M4 ∧ (∀ a j, (a < 40 ∨ 43 < a) → mI M4 a j = mI M a j) ∧ ∀ G4 gg z, d_X12_guards (nI c) S4 = some ((), G4) → GDF S4 G4 g k gg → d_X12_plainly_141 (nI f) (nI (40 * f + i)) (nI c) z S = d_X12_plainly_215 (nI f) (nI (40 * f + i)) z (lnR G4 k f i) := by
  obtain ⟨hW, x1, x2, x3, x4, x5, x6, x7, x8, x9, x10, x11, x12, x13, x14⟩ := id A
  have hd := hW.1.1
  have hd1 := hW.1.2.1
  have h76 := hX.2.2.1
  by_cases hca : cacP c
  · obtain ⟨M4, S4, key, y1, y2, y3, y4⟩ := meet_both hB.1 A hf0 hca hB.2.2.2.2.2.1 hB.2.2.2.2.2.2.1
    have hcw := lkR_cw y3.2.2.2.2.2
    refine ⟨M4, S4, y1, bas_kch hB y3, hcw, mf_kch y3, y3.2.2.1, fun G4 gg z q1 q2 => ?_⟩
    obtain ⟨x, u, s, hgd⟩ := gd_obj A hf0 hca hX hL hb hg hv
    have g3 := hgd S (CW.refl S)
    have g4 := hgd S4 hcw
    obtain rfl := gd_inj q1 g4
    have r : ∀ a j, (a < 119 ∨ a = 124 ∨ 126 < a) → (a ≠ 69 ∨ (j ≠ 78 ∧ j ≠ 88 ∧ j ≠ 89)) → mI (shR S g x u s) a j = mI S a j := fun a j z1 z2 => shR_e (by omega)
    rw [pl_rec h71 g3 ((r 69 48 (by omega) (by omega)).trans hd) hd1 ((r 110 d (by omega) (by omega)).trans x3) x4 x2 ((r 69 76 (by omega) (by omega)).trans h76) hk]
    have hlr : ∀ a j, ((a = 69 ∧ j = 48) ∨ a = 111 ∨ a = 106 ∨ a = 112 ∨ a = 79 ∨ a = 83) → mI (lnR (shR S g x u s) k f i) a j = mI S a j := fun a j z1 => (lnR_e (by omega)).trans (r a j (by omega) (by omega))
    obtain ⟨E5, e1, e2⟩ := lk_ex (S := lnR (shR S g x u s) k f i) (p := 40 * f + i) (key := key) (cw_caw hB.2.2.2.2.2.2.1 (fun j => hlr 83 j (by omega))) (by omega)
    obtain ⟨S1, c1, c2⟩ := lk_comm e2
    obtain rfl := lkR_fun y3.2.2.2.2.2 c1
    rw [← c2]
    exact pl_ca hca ((y4 _ (fun a j z1 => hlr a j (by omega))).trans e1)
  · refine ⟨M, S, meet_no hca hc9, hB, CW.refl _, MF.refl _, fun _ _ _ => rfl, fun G4 gg z q1 q2 => ?_⟩
    rw [← pl_no hca hc9]
    exact pl_rec h71 q1 ((q2.2.2.2.1 69 48 (by omega) (by omega)).trans hd) hd1 ((q2.2.2.2.1 110 d (by omega) (by omega)).trans x3) x4 x2 ((q2.2.2.2.1 69 76 (by omega) (by omega)).trans h76) hk
/-- the recording ends well, or is broken off for want of room -/
def FNB (N E : Mem) (cnt d ns ob nc nf : Nat) : Prop := ∃ N' E' cnt2 B' H' G' F' b' fg' x, d_X10_finish N = some ((), N') ∧ d_X12_ends E = some ((), E') ∧ BAS N' E' B' cnt2 d ns ob nc nf H' G' F' b' fg' ∧ MOD N' E' B' cnt2 d H' b' fg' x ∧ x ≤ 23 ∧ MFC N N' cnt cnt2 ∧ SW E E' ∧ ∀ j, 12 < j → mI N' 18 j = mI N 18 j
theorem wr_rec {M S : Mem} {d bb v fc g k : Nat} {φ : Nat → Nat} (h71 : mI S 69 71 = nI 1) (hX : RECX M S v fc φ g k) (hL : RFP M S bb d φ v) (hb : bb ≤ d) (hv : v < 500) : WR S d := .inr ⟨h71, v, hv, hX.1, fun j hj => by
  obtain ⟨u, u1, u2, -⟩ := hL d hb (Nat.le_refl _) j hj
  exact ⟨u, u1, u2⟩⟩
theorem frs_cw {A X Y : Mem} {a b n : Nat} (h : FRS A X a b n) (hc : CW X Y) : FRS A Y a b n := fun j hj => by
  obtain ⟨h1, h2, h3⟩ := h j hj
  rw [hc.1 109 _ (by omega), hc.1 110 _ (by omega), hN_cw hc]
  exact ⟨h1, h2, h3⟩
/-- the parent stays -/
theorem par_x {M S N E R0 R1 : Mem} {cnt bb : Nat} {H : Nat → Nat → Mem} {b : Nat → Nat} {fg : Nat → Nat → Nat} (h : PAR M S cnt bb H b fg R0) (hM : ∀ j, j = 13 ∨ j = 14 → mI N 48 j = mI M 48 j) (h47 : ∀ j, mI N 47 j = mI M 47 j) (h74 : mI E 69 74 = mI S 69 74) (hS : ∀ a j, a = 89 ∨ a = 90 ∨ a = 94 ∨ a = 104 → mI E a j = mI S a j) (hc : CW R0 R1) : PAR N E cnt bb H b fg R1 := by
  obtain ⟨h1, h2⟩ := h
  refine ⟨fun y => ?_, fun t q y1 y2 y3 y4 => ?_⟩
  · obtain ⟨z1, f, i, z2, z3, z4, z5, z6, z7⟩ := h1 ((hM 13 (by omega)).symm.trans y)
    exact ⟨(hc.1 69 48 (by omega)).trans z1, f, i, z2, z3, (hc.1 109 bb (by omega)).trans z4, (hc.1 110 bb (by omega)).trans z5, h74.trans z6, (h47 _).trans z7⟩
  · obtain ⟨z1, z2, z3, kk, st, n, z4, z5, z6, z7, z8, z9, z10, z11, z12⟩ := h2 t q ((hM 13 (by omega)).symm.trans y1) y2 ((hM 14 (by omega)).symm.trans y3) y4
    exact ⟨(hS 89 t (by omega)).trans z1, (hS 104 _ (by omega)).trans z2, (hS 94 t (by omega)).trans (z3.trans h74.symm), kk, st, n, (hS 90 t (by omega)).trans z4, z5, z6, z7, z8, z9, z10, frs_cw z11 hc, (hc.1 69 48 (by omega)).trans z12⟩
end MV4
