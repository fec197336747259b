/-! ===== a tree thrown away in both ===== -/
section MQ4
theorem taV_ok {S : Mem} {r k : Nat} (h : isBo (mI S 89 k)) : taV S r k = if mI S 93 k = nI r then nI 0 else mI S 89 k := by
  unfold taV
  rcases h with h | h
  · rw [l_0] at h
    rw [if_pos h]
    split
    · rfl
    · exact h.symm
  · rw [l_1] at h
    rw [if_neg (by rw [h]; decide)]
    split
    · rfl
    · exact h.symm
/-- both throw the tree of root r away -/
theorem throw_both {M S : Mem} {B : Nat → Nat} {cnt r h : Nat} (hF : FOR M S B cnt) (hH : HDR M S cnt) (hr : r < cnt) (hrt : rtP S r h) (h3 : h < 320) : ∃ N E, d_X1_throwTree (nI r) M = some ((), N) ∧ d_X12_throwAway (nI r) S = some ((), E) ∧ FOR N E B cnt ∧ HDR N E cnt ∧ NB M N ∧ SW S E ∧ (∀ a j, 37 < a → a < 45 → mI N a j = mI M a j) ∧ (∀ a j, 47 < a → a < 68 → mI N a j = mI M a j) ∧ (∀ a j, mR N a j = mR M a j) ∧ (∀ a j, a ≠ 87 → a ≠ 89 → mI E a j = mI S a j) ∧ (∀ j, mI E 89 j = (if j < cnt ∧ mI S 93 j = nI r then nI 0 else mI S 89 j)) ∧ MF M N ∧ SF S E := by
  obtain ⟨a1, a2, a3, a4, ⟨a5, aY⟩, a6, a7⟩ := id hF
  obtain ⟨rt1, rt2, rt3⟩ := hrt
  have hc := a3
  have hne : ∀ t t2, t < cnt → t2 < cnt → t ≠ t2 → B t ≠ B t2 := fun t t2 h1 h2 h3 => by
    have := B_ne hF h1 h2 h3
    omega
  have hb129 : ∀ t, t < cnt → 129 ≤ B t := fun t ht => by
    obtain ⟨⟨st, gm, fg, hT⟩, -⟩ := a7 t ht
    exact hT.1.2.2.1
  have z1 := ta_l hF hr rt3 h3 cnt 0 fuel (by omega) (by have := fuel_big; omega)
  have z2 := tt_l hF hr rt3 h3 cnt 0 fuel (by omega) (by have := fuel_big; omega)
  have s0 : taF S r 0 = S := rfl
  have t0 : ttF M S B r 0 = M := rfl
  rw [s0] at z1
  rw [t0] at z2
  have e : ∀ a j, a ≠ 87 → a ≠ 89 → mI (sI (taF S r cnt) 87 h (nI 0)) a j = mI S a j := fun a j h1 h2 => by rw [mI_ne (by omega)]; exact taF_n cnt (by omega)
  have e89 : ∀ j, mI (sI (taF S r cnt) 87 h (nI 0)) 89 j = (if j < cnt ∧ mI S 93 j = nI r then nI 0 else mI S 89 j) := fun j => by
    rw [mI_ne (by omega)]
    by_cases q : j < cnt
    · rw [taF_at cnt q, taV_ok (a7 j q).2.1]
      by_cases q2 : mI S 93 j = nI r
      · rw [if_pos q2, if_pos ⟨q, q2⟩]
      · rw [if_neg q2, if_neg (fun y => q2 y.2)]
    · rw [taF_n cnt (by omega), if_neg (fun y => q y.1)]
  have m : ∀ a j, a < 129 → (a < 45 ∨ 47 < a) → mI (sI (sI (ttF M S B r cnt) 47 h (-nI 1)) 45 h (nI 0)) a j = mI M a j := fun a j h1 h2 => by
    rw [mI_ne (by omega), mI_ne (by omega)]
    exact ttF_n cnt (.inr (fun t ht => by have := hb129 t ht; omega))
  have mb : ∀ a j, 128 < a → j ≠ 14 → mI (sI (sI (ttF M S B r cnt) 47 h (-nI 1)) 45 h (nI 0)) a j = mI M a j := fun a j h1 h2 => by
    rw [mI_ne (by omega), mI_ne (by omega)]
    exact ttF_n cnt (.inl h2)
  have m14 : ∀ a, 128 < a → (∀ t, t < cnt → a ≠ B t) → mI (sI (sI (ttF M S B r cnt) 47 h (-nI 1)) 45 h (nI 0)) a 14 = mI M a 14 := fun a h1 h2 => by
    rw [mI_ne (by omega), mI_ne (by omega)]
    exact ttF_n cnt (.inr h2)
  refine ⟨sI (sI (ttF M S B r cnt) 47 h (-nI 1)) 45 h (nI 0), sI (taF S r cnt) 87 h (nI 0), ?_, ?_, ?_, ?_, ⟨fun a j h1 => m a j (by omega) (by omega), fun a j h1 => ?_⟩, ⟨fun a j h1 h2 h3 h4 => e a j (by omega) (by omega), fun a j h1 => ?_, fun a j => ?_⟩, fun a j h1 h2 => m a j (by omega) (by omega), fun a j h1 h2 => m a j (by omega) (by omega), fun a j => ?_, e, e89, ⟨fun a j h1 h2 => ⟨m a j (by omega) (by omega), ?_, ?_⟩, ?_⟩, ⟨fun a j h => ⟨e a j (by omega) (by omega), ?_, ?_⟩, ?_⟩⟩
  · unfold d_X1_throwTree
    simp (disch := first | omega | (simp (disch := omega) only [← Nat.add_assoc, Nat.add_sub_cancel, Nat.sub_zero, as21, as31, as32, and_self, and_true, true_and, l_0, l_1, l_2, l_3, l_4, l_5, l_6, l_7, l_8, l_9, l_10, l_11, l_12, l_13, l_14, l_15, l_16, l_17, l_18, l_19, l_20, l_21, l_22, l_23, l_24, l_25, l_26, l_27, l_28, l_29, l_30, l_31, l_32, l_33, l_34, l_35, l_36, l_37, l_38, l_39, l_40, l_41, l_42, l_43, l_44, l_45, l_47, l_48, l_50, l_52, l_60, l_61, l_63, l_80, l_99, l_100, l_101, l_102, l_103, l_105, l_106, l_107, l_108, l_109, l_110, l_111, l_112, l_114, l_115, l_116, l_117, l_118, l_119, l_120, l_122, l_168, l_200, l_320, l_360, l_528, l_548, l_1000, l_1023, l_2000, l_3000, l_1000000, qadd, qmul, qsub, qdiv, qcl, qinT, qchT, qleT, qleF, qltT, qltF, qeqT, qeqF, qneg_ne, bo0, bo1, qneg_ne', qneg_lt, mI_eq, mD_eq, mL_eq, mR_eq, mI_at, mD_at, mL_at, mI_ne, mD_ne, mL_ne, mR_ne, not_false_eq_true, not_true_eq_false, or_true, true_or, or_false, false_or, or_self, false_and, and_false, eq_self, mI_sL, mI_sD, mI_sR, mI_tk, mL_sI, mL_sD, mL_sR, mL_tk, mD_sI, mD_sL, mD_sR, mD_tk, mR_sI, mR_sL, mR_sD, mR_tk, mT_sI, mT_sL, mT_sD, mT_sR, mT_tk, mK_sI, mK_sL, mK_sD, mK_sR, mK_tk, mN_sI, mN_sL, mN_sD, mN_sR, mN_tk, nx_sI, nx_sL, nx_sD, nx_sR, uC_sI, uC_sL, uC_sD, uC_sR, uS_sI, uS_sL, uS_sD, uS_sR, nx_tk, uC_tk, uS_tk, z2]; done) | fail) only [↓okk_pos, ↓okk_T, ↓bnd_eq, ↓obind, ↓bind_okk, ↓bind_bnd, ↓bind_ite, ↓bind_bind, ↓reduceIte, ← Nat.add_assoc, Nat.add_sub_cancel, Nat.sub_zero, as21, as31, as32, and_self, and_true, true_and, l_0, l_1, l_2, l_3, l_4, l_5, l_6, l_7, l_8, l_9, l_10, l_11, l_12, l_13, l_14, l_15, l_16, l_17, l_18, l_19, l_20, l_21, l_22, l_23, l_24, l_25, l_26, l_27, l_28, l_29, l_30, l_31, l_32, l_33, l_34, l_35, l_36, l_37, l_38, l_39, l_40, l_41, l_42, l_43, l_44, l_45, l_47, l_48, l_50, l_52, l_60, l_61, l_63, l_80, l_99, l_100, l_101, l_102, l_103, l_105, l_106, l_107, l_108, l_109, l_110, l_111, l_112, l_114, l_115, l_116, l_117, l_118, l_119, l_120, l_122, l_168, l_200, l_320, l_360, l_528, l_548, l_1000, l_1023, l_2000, l_3000, l_1000000, qadd, qmul, qsub, qdiv, qcl, qinT, qchT, qleT, qleF, qltT, qltF, qeqT, qeqF, qneg_ne, bo0, bo1, qneg_ne', qneg_lt, mI_eq, mD_eq, mL_eq, mR_eq, mI_at, mD_at, mL_at, mI_ne, mD_ne, mL_ne, mR_ne, not_false_eq_true, not_true_eq_false, or_true, true_or, or_false, false_or, or_self, false_and, and_false, eq_self, mI_sL, mI_sD, mI_sR, mI_tk, mL_sI, mL_sD, mL_sR, mL_tk, mD_sI, mD_sL, mD_sR, mD_tk, mR_sI, mR_sL, mR_sD, mR_tk, mT_sI, mT_sL, mT_sD, mT_sR, mT_tk, mK_sI, mK_sL, mK_sD, mK_sR, mK_tk, mN_sI, mN_sL, mN_sD, mN_sR, mN_tk, nx_sI, nx_sL, nx_sD, nx_sR, uC_sI, uC_sL, uC_sD, uC_sR, uS_sI, uS_sL, uS_sD, uS_sR, nx_tk, uC_tk, uS_tk, z2]
  · exact z1
  · refine FOR_g hF (m 67 3 (by omega) (by omega)) (e 69 26 (by omega) (by omega)) ?_ ?_ ?_ (fun y => LYR_e y (Nat.le_of_eq (congrArg (fun z => z.2.2.2.2.1) (ttF_t (M := M) (S := S) (B := B) (r := r) cnt)).symm) (fun j => congrArg (fun z => z.2.2.1 48 j) (ttF_t (M := M) (S := S) (B := B) (r := r) cnt)) (fun a => congrArg (fun z => z.2.2.2.1 a) (ttF_t (M := M) (S := S) (B := B) (r := r) cnt))) (fun y => FRE_e y (fun t9 h9 => ⟨e 95 t9 (by omega) (by omega), e 96 t9 (by omega) (by omega)⟩) (fun j h9 => ⟨e 101 j (by omega) (by omega), e 102 j (by omega) (by omega), e 103 j (by omega) (by omega)⟩)) (fun t st gm fg ht hT => ?_) (fun t ht => ?_) (fun j => e 93 j (by omega) (by omega)) (fun j => e 94 j (by omega) (by omega))
    · rw [m 67 4 (by omega) (by omega), e 69 25 (by omega) (by omega)]; exact a4
    · rw [m 67 5 (by omega) (by omega), e 69 35 (by omega) (by omega)]; exact a5
    · show (M.2.2.2.2.2.1 : Nat) ≤ (ttF M S B r cnt).2.2.2.2.2.1
      rw [ttF_t cnt]
      exact Nat.le_refl _
    · have hb := hT.1.2.2.1
      have hTT := ttF_t (M := M) (S := S) (B := B) (r := r) cnt
      have c := hT.2.2.2.1
      have off : ∀ i, 1 ≤ i → i ≤ 10 → ∀ t2, t2 < cnt → B t + i ≠ B t2 := fun i i1 i2 t2 h2 => by
        by_cases q : t = t2
        · subst q; omega
        · have := B_ne hF ht h2 q
          omega
      refine TRC_g hT (TRO_e hT.1 (fun a j h => ?_) (fun a => ?_)) (fun a j h1 h2 h4 => ?_) (fun j => ⟨e 90 j (by omega) (by omega), e 91 j (by omega) (by omega), e 92 j (by omega) (by omega), e 93 j (by omega) (by omega), e 94 j (by omega) (by omega), e 97 j (by omega) (by omega), e 98 j (by omega) (by omega), e 99 j (by omega) (by omega), e 100 j (by omega) (by omega)⟩) ⟨?_, ?_, ?_⟩ (fun g hg => ?_)
      · exact congrArg (fun z => z.2.2.1 a j) hTT
      · exact congrArg (fun z => z.2.2.2.1 a) hTT
      · by_cases q : j = 14
        · subst q
          have h5 : a ≠ B t := by omega
          refine m14 a (by omega) (fun t2 ht2 q2 => ?_)
          exact off (a - B t) (by omega) (by omega) t2 ht2 (by omega)
        · exact mb a j (by omega) q
      · rw [mI_ne (by omega), mI_ne (by omega), ttF_at hne cnt (Nat.le_refl _) ht, e89]
        by_cases q : mI S 93 t = nI r
        · rw [if_pos q, if_pos ⟨ht, q⟩]
        · rw [if_neg q, if_neg (fun y => q y.2)]; exact c.2.2.1
      · rw [mb _ _ (by omega) (by omega), e 95 _ (by omega) (by omega)]; exact c.2.2.2.1
      · rw [mb _ _ (by omega) (by omega), e 96 _ (by omega) (by omega)]; exact c.2.2.2.2
      · obtain ⟨-, -, -, -, g5, g6, g7, g8, -⟩ := hT.2.2.2.2.2.1 g hg
        have k : ∀ i, 1 ≤ i → i ≤ 10 → mI (sI (sI (ttF M S B r cnt) 47 h (-nI 1)) 45 h (nI 0)) (B t + i) g = mI M (B t + i) g := fun i i1 i2 => by
          by_cases q : g = 14
          · subst q; exact m14 _ (by omega) (off i i1 i2)
          · exact mb _ _ (by omega) q
        rw [k 7 (by omega) (by omega), k 8 (by omega) (by omega), k 9 (by omega) (by omega), k 10 (by omega) (by omega), e 101 _ (by omega) (by omega), e 102 _ (by omega) (by omega), e 103 _ (by omega) (by omega), e 104 _ (by omega) (by omega)]
        exact ⟨g5, g6, g7, g8⟩
    · obtain ⟨-, b1, ⟨r0, r1, r2, r3, r4, r5⟩, -⟩ := a7 t ht
      refine ⟨?_, fun x x1 x2 x3 => ?_⟩
      · rw [e89]
        split
        · exact .inl rfl
        · exact b1
      · rw [e89, e89]
        have hx : x = r0 := qinj (by omega) (by omega) (x2.symm.trans r2)
        subst hx
        by_cases q : mI S 93 t = nI r
        · have q2 : mI S 93 x = nI r := by rw [r3, ← r2]; exact q
          rw [if_pos ⟨by omega, q2⟩, if_pos ⟨ht, q⟩]
        · have q2 : ¬ mI S 93 x = nI r := by rw [r3, ← r2]; exact q
          rw [if_neg (fun y => q2 y.2), if_neg (fun y => q y.2)]
          exact x3
  · obtain ⟨h1, h2⟩ := hH
    have er : ∀ t j, t < cnt → (rtP (sI (taF S r cnt) 87 h (nI 0)) t j ↔ rtP S t j ∧ t ≠ r) := fun t j ht => by
      unfold rtP
      rw [e89, e 93 _ (by omega) (by omega), e 94 _ (by omega) (by omega)]
      by_cases q : mI S 93 t = nI r
      · rw [if_pos ⟨ht, q⟩]
        refine ⟨fun y => absurd y.1 (by decide), fun y => ?_⟩
        exact absurd (qinj (by omega) (by omega) (y.1.2.1.symm.trans q)) y.2
      · rw [if_neg (fun y => q y.2)]
        exact ⟨fun y => ⟨y, fun z => q (by rw [z]; exact rt2)⟩, fun y => y.1⟩
    refine ⟨fun j => ?_, fun j hj => ?_⟩
    · obtain ⟨c1, c2⟩ := h1 j
      have f : ∀ a, a = 45 ∨ a = 46 → mI (ttF M S B r cnt) a j = mI M a j := fun a ha => ttF_n cnt (.inr (fun t ht => by have := hb129 t ht; omega))
      have g : ∀ a, a = 87 ∨ a = 88 → mI (taF S r cnt) a j = mI S a j := fun a ha => taF_n cnt (by omega)
      refine ⟨?_, ?_⟩
      · by_cases q : j = h
        · subst q; rw [mI_eq, mI_eq]
        · rw [mI_ne (by omega), mI_ne (by omega), mI_ne (by omega), f 45 (by omega), g 87 (by omega)]; exact c1
      · rw [mI_ne (by omega), mI_ne (by omega), mI_ne (by omega), f 46 (by omega), g 88 (by omega)]; exact c2
    · by_cases q : j = h
      · subst q
        refine .inl ⟨by rw [mI_ne (by omega), mI_eq], fun t ht y => ?_⟩
        obtain ⟨y1, y2⟩ := (er t j ht).mp y
        rcases h2 j hj with ⟨-, k2⟩ | ⟨t9, k1, k2, k3, k4⟩
        · exact k2 t ht y1
        · exact y2 ((k4 t ht y1).trans (k4 r hr ⟨rt1, rt2, rt3⟩).symm)
      · have f : mI (sI (sI (ttF M S B r cnt) 47 h (-nI 1)) 45 h (nI 0)) 47 j = mI M 47 j := by
          rw [mI_ne (by omega), mI_ne (by omega)]
          exact ttF_n cnt (.inr (fun t ht => by have := hb129 t ht; omega))
        rw [f]
        rcases h2 j hj with ⟨k1, k2⟩ | ⟨t9, k1, k2, k3, k4⟩
        · exact .inl ⟨k1, fun t ht y => k2 t ht ((er t j ht).mp y).1⟩
        · refine .inr ⟨t9, k1, k2, (er t9 j k1).mpr ⟨k3, fun z => ?_⟩, fun t2 h9 y => k4 t2 h9 ((er t2 j h9).mp y).1⟩
          subst z
          exact q (qinj (by omega) (by omega) (k3.2.2.symm.trans rt3))
  · exact congrArg (fun z => z.2.1 a j) (ttF_t (M := M) (S := S) (B := B) (r := r) cnt)
  · exact congrArg (fun z => z.2.1 a j) (taF_D (S := S) (r := r) cnt)
  · exact congrArg (fun z => z.1 a j) (taF_D (S := S) (r := r) cnt)
  · exact congrArg (fun z => z.2.2.1 a j) (ttF_t (M := M) (S := S) (B := B) (r := r) cnt)
  · exact congrArg (fun z => z.2.1 a j) (ttF_t (M := M) (S := S) (B := B) (r := r) cnt)
  · exact congrArg (fun z => z.1 a j) (ttF_t (M := M) (S := S) (B := B) (r := r) cnt)
  · exact congrArg (fun z => z.2.2.2) (ttF_t (M := M) (S := S) (B := B) (r := r) cnt)
  · exact congrArg (fun z => z.2.1 a j) (taF_D (S := S) (r := r) cnt)
  · exact congrArg (fun z => z.1 a j) (taF_D (S := S) (r := r) cnt)
  · exact congrArg (fun z => z.2.2) (taF_D (S := S) (r := r) cnt)
end MQ4
