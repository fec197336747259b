/-! ===== asks: heads, soundness ===== -/
section MZ6
theorem ni_T {M : Mem} {i : Nat} (hi : i < 40) : d_X11_needIndex (nI i) M = some (.inl (), M) := by
  unfold d_X11_needIndex
  rw [if_neg (nn0 i (by omega)), l_40, if_pos (of_eq_true (qltT (by omega) (by omega)))]
theorem ni_F {M : Mem} {x : Int32} (hx : x < (0 : Int32) ∨ ∃ k, k < 2147483648 ∧ 40 ≤ k ∧ x = nI k) : d_X11_needIndex x M = some (.inr "java/lang/IllegalArgumentException", tk M 6) := by
  unfold d_X11_needIndex d_X11_needIndex_10
  rcases rng_F hx with c | ⟨c, d⟩
  · exact if_pos c
  · rw [if_neg c, l_40]; exact if_neg d
theorem e39 : (39 : Int32) = nI 40 - (1 : Int32) := by decide
theorem ih_T {S : Mem} {f i nf : Nat} (hf : f < nf) (hnf : nf ≤ 8) (h1 : mI S 69 1 = nI nf) (hi : i < 40) : d_X12_isHead (nI f) (nI i) S = some (nI 1, sI S 69 0 (0 : Int32)) := by
  unfold d_X12_isHead d_X12_isHead_28
  rw [if_T hf hnf h1]
  simp only [obind]
  rw [if_neg n1z, e39, in_T hi (by omega)]
  simp only [obind]
  rw [if_neg n1z, bnd_eq, if_pos (is00 S)]
  rfl
theorem ih_F {S : Mem} {f nf : Nat} {x : Int32} (hf : f < nf) (hnf : nf ≤ 8) (h1 : mI S 69 1 = nI nf) (hx : x < (0 : Int32) ∨ ∃ k, k < 2147483648 ∧ 40 ≤ k ∧ x = nI k) : d_X12_isHead (nI f) x S = some (nI 0, sI S 69 0 (2 : Int32)) := by
  unfold d_X12_isHead d_X12_isHead_28
  rw [if_T hf hnf h1]
  simp only [obind]
  rw [if_neg n1z, e39, in_F (by omega) hx]
  simp only [obind]
  rw [if_pos z00, bnd_eq, if_neg (is20 S)]
  rfl
theorem ih_F0 {S : Mem} {nf : Nat} {x y : Int32} (hnf : nf ≤ 8) (h1 : mI S 69 1 = nI nf) (hx : x < (0 : Int32) ∨ ∃ k, k < 2147483648 ∧ nf ≤ k ∧ x = nI k) : d_X12_isHead x y S = some (nI 0, sI S 69 0 (1 : Int32)) := by
  unfold d_X12_isHead d_X12_isHead_28
  rw [if_F hnf h1 hx]
  simp only [obind]
  rw [if_pos z00, bnd_eq, if_neg (is10 S)]
  rfl
theorem a_counter {M S : Mem} {cnt ns nc nf : Nat} {x1 x2 : Int32} (hI : INV M S cnt ns nc nf) : ASK (d_L_counter x1 x2) (d_X12_counter x1 x2) M S := by
  have hH := inv_h hI
  obtain ⟨ob, hR, hW, -⟩ := inv_m hI
  have hnf : nf ≤ 8 := hW.2.2.2.2.1.2.1
  have h1 : mI S 69 1 = nI nf := hW.2.2.2.2.1.1
  have h28 : mI M 2 8 = nI nf := hR.2.2.2.2.2.2.1.trans h1
  rcases idx_c x1 nf (by omega) with ⟨f, hf, rfl⟩ | hx
  · rcases idx_c x2 40 (by omega) with ⟨i, hi, rfl⟩ | hy
    · have hv3 : vp_in (nI (40 * f + i)) 320 := of_eq_true (qinT (by omega) (by omega))
      have hc3 : (nI (40 * f + i)).toNatClampNeg = 40 * f + i := qcl (by omega)
      have hs : d_X11_siteOf (nI f) (nI i) M = some (nI (40 * f + i), M) := by
        unfold d_X11_siteOf
        rw [e40]
      refine ask_v (v := mI S 87 (40 * f + i)) (E := sI S 69 0 (0 : Int32)) (lT_counter ?_) ?_ (mI_eq _ _ _ _) (sc_1 _ _)
      · unfold d_X11_counter
        rw [cl_need hf hnf h28]
        simp only [obind]
        rw [ni_T hi]
        simp only [obind]
        rw [hs]
        simp only [obind]
        rw [okk_pos hv3, hc3, (hH.1 _).1]
      · unfold d_X12_counter
        rw [ih_T hf hnf h1 hi]
        simp only [obind]
        rw [if_neg n1z, e40', okk_pos hv3, hc3, mI_ne (by omega)]
    · refine ask_t (k := nI 2) (v := nI 0) (E := sI S 69 0 (2 : Int32)) (lE2_counter ?_) ?_ (mI_eq _ _ _ _) n2n (sc_1 _ _)
      · unfold d_X11_counter
        rw [cl_need hf hnf h28]
        simp only [obind]
        rw [ni_F hy]
        rfl
      · unfold d_X12_counter
        rw [ih_F hf hnf h1 hy]
        rfl
  · refine ask_t (k := nI 1) (v := nI 0) (E := sI S 69 0 (1 : Int32)) (lE1_counter ?_) ?_ (mI_eq _ _ _ _) n1n (sc_1 _ _)
    · unfold d_X11_counter
      rw [cl_needF h28 hx]
      rfl
    · unfold d_X12_counter
      rw [ih_F0 hnf h1 hx]
      rfl
theorem a_isBarred {M S : Mem} {cnt ns nc nf : Nat} {x1 x2 : Int32} (hI : INV M S cnt ns nc nf) : ASK (d_L_isBarred x1 x2) (d_X12_isBarred x1 x2) M S := by
  have hH := inv_h hI
  obtain ⟨ob, hR, hW, -⟩ := inv_m hI
  have hnf : nf ≤ 8 := hW.2.2.2.2.1.2.1
  have h1 : mI S 69 1 = nI nf := hW.2.2.2.2.1.1
  have h28 : mI M 2 8 = nI nf := hR.2.2.2.2.2.2.1.trans h1
  rcases idx_c x1 nf (by omega) with ⟨f, hf, rfl⟩ | hx
  · rcases idx_c x2 40 (by omega) with ⟨i, hi, rfl⟩ | hy
    · have hv3 : vp_in (nI (40 * f + i)) 320 := of_eq_true (qinT (by omega) (by omega))
      have hc3 : (nI (40 * f + i)).toNatClampNeg = 40 * f + i := qcl (by omega)
      have hs : d_X11_siteOf (nI f) (nI i) M = some (nI (40 * f + i), M) := by
        unfold d_X11_siteOf
        rw [e40]
      refine ask_v (v := if mI S 88 (40 * f + i) < (2 : Int32) then (0 : Int32) else (1 : Int32)) (E := sI S 69 0 (0 : Int32)) (lT_isBarred (by by_cases q : mI S 88 (40 * f + i) < (2 : Int32); rw [if_pos q]; exact .inl rfl; rw [if_neg q]; exact .inr rfl) ?_) ?_ (mI_eq _ _ _ _) (sc_1 _ _)
      · unfold d_X11_isBarred
        rw [cl_need hf hnf h28]
        simp only [obind]
        rw [ni_T hi]
        simp only [obind]
        rw [hs]
        simp only [obind]
        unfold d_X2_bars
        rw [okk_pos hv3, hc3, (hH.1 _).2]
        by_cases q : mI S 88 (40 * f + i) < (2 : Int32)
        · rw [if_pos q, if_pos q]
          simp only [obind]
          exact okk_pos (.inl rfl)
        · rw [if_neg q, if_neg q]
          simp only [obind]
          exact okk_pos (.inr rfl)
      · unfold d_X12_isBarred
        rw [ih_T hf hnf h1 hi]
        simp only [obind]
        rw [if_neg n1z, e40', okk_pos hv3, hc3, mI_ne (by omega)]
        by_cases q : mI S 88 (40 * f + i) < (2 : Int32)
        · rw [if_pos q, if_pos q]
        · rw [if_neg q, if_neg q]
    · refine ask_t (k := nI 2) (v := nI 0) (E := sI S 69 0 (2 : Int32)) (lE2_isBarred ?_) ?_ (mI_eq _ _ _ _) n2n (sc_1 _ _)
      · unfold d_X11_isBarred
        rw [cl_need hf hnf h28]
        simp only [obind]
        rw [ni_F hy]
        rfl
      · unfold d_X12_isBarred
        rw [ih_F hf hnf h1 hy]
        rfl
  · refine ask_t (k := nI 1) (v := nI 0) (E := sI S 69 0 (1 : Int32)) (lE1_isBarred ?_) ?_ (mI_eq _ _ _ _) n1n (sc_1 _ _)
    · unfold d_X11_isBarred
      rw [cl_needF h28 hx]
      rfl
    · unfold d_X12_isBarred
      rw [ih_F0 hnf h1 hx]
      rfl
theorem small_l {M S : Mem} (hC : CAC M S) (hCW : CAW S) : ∀ (j i NC : Nat), 320 = i + j → j < NC → d_X0_areSmall_4 NC (nI 1, nI i) M = some (nI 1, M) := by
  intro j
  induction j with
  | zero =>
    intro i NC hi hN
    obtain ⟨m, rfl⟩ : ∃ m, NC = m + 1 := ⟨NC - 1, by omega⟩
    rw [st_X0_areSmall_4]
    unfold d_X0_areSmall_4b
    rw [if_pos (show (320 : Int32) ≤ nI i by rw [l_320]; exact of_eq_true (qleT (by omega) (by omega))), okk_pos (.inr rfl)]
  | succ j ih =>
    intro i NC hi hN
    obtain ⟨m, rfl⟩ : ∃ m, NC = m + 1 := ⟨NC - 1, by omega⟩
    have hs : ¬ (3 : Int32) < mI M 41 i := by
      rw [(hC i).2.1]
      rcases hCW i (by omega) with c | ⟨n, n1, c⟩
      · rw [c]; decide
      · rw [c, show (3 : Int32) = nI 3 from rfl]; exact of_eq_false (qltF (by omega) (by omega))
    rw [st_X0_areSmall_4]
    unfold d_X0_areSmall_4b
    rw [if_neg (show ¬ (320 : Int32) ≤ nI i by rw [l_320]; exact of_eq_false (qleF (by omega) (by omega))), if_neg n1z, okk_pos (of_eq_true (qinT (by omega) (by omega))), qcl (by omega), if_neg hs]
    unfold d_X0_areSmall_30
    rw [bnd_eq, show nI i + (1 : Int32) = nI (i + 1) by rw [l_1, qadd]]
    exact ih (i + 1) m (by omega) (by omega)
theorem roots_l {M S : Mem} {B : Nat → Nat} {cnt : Nat} (hF : FOR M S B cnt) : ∀ (j i NC : Nat), cnt = i + j → j < NC → d_X1_hasRoots_4 NC (nI 1, nI i) M = some (nI 1, M) := by
  have hc : cnt ≤ 20 := hF.2.2.1
  intro j
  induction j with
  | zero =>
    intro i NC hi hN
    obtain ⟨m, rfl⟩ : ∃ m, NC = m + 1 := ⟨NC - 1, by omega⟩
    rw [st_X1_hasRoots_4]
    unfold d_X1_hasRoots_4b
    rw [hF.1, if_pos (of_eq_true (qleT (by omega) (by omega))), okk_pos (.inr rfl)]
  | succ j ih =>
    intro i NC hi hN
    obtain ⟨m, rfl⟩ : ∃ m, NC = m + 1 := ⟨NC - 1, by omega⟩
    obtain ⟨⟨st, gm, fg, hT⟩, -, ⟨r, r1, r2, -, r4, -⟩, -⟩ := hF.2.2.2.2.2.2 i (by omega)
    obtain ⟨⟨st', gm', fg', hT'⟩, -⟩ := hF.2.2.2.2.2.2 r (by omega)
    have hv : vp_in (nI i) 20 := of_eq_true (qinT (by omega) (by omega))
    have hvr : vp_in (nI r) 20 := of_eq_true (qinT (by omega) (by omega))
    have h14 : mI M (B i) 14 = mI S 89 i := hT.2.2.2.1.2.2.1
    have h14r : mI M (B r) 14 = mI S 89 r := hT'.2.2.2.1.2.2.1
    have h12 : mI M (B i) 12 = nI r := hT.2.2.2.1.1.trans r2
    have hk : ∀ k : Int32 × Int32 → Mem → Option (Int32 × Mem), d_X1_hasRoots_48 k (nI i) M = k (nI 1, nI (i + 1)) M := fun k => by
      unfold d_X1_hasRoots_48 d_X1_hasRoots_53
      rw [bnd_eq, show nI i + (1 : Int32) = nI (i + 1) by rw [l_1, qadd]]
      rfl
    rw [st_X1_hasRoots_4]
    unfold d_X1_hasRoots_4b
    rw [hF.1, if_neg (of_eq_false (qleF (by omega) (by omega))), if_neg n1z, okk_pos hv, qcl (by omega), hT.1.1]
    simp only [obind]
    rw [okk_pos hT.1.2.1, h14]
    by_cases q : mI S 89 i = (0 : Int32)
    · rw [if_pos q, hk]
      exact ih (i + 1) m (by omega) (by omega)
    · rw [if_neg q, okk_pos hv, okk_pos hT.1.2.1, h12, okk_pos hvr, qcl (by omega), hT'.1.1]
      simp only [obind]
      rw [okk_pos hT'.1.2.1, h14r, r4, if_neg q, hk]
      exact ih (i + 1) m (by omega) (by omega)
theorem a_isSound {M S : Mem} {cnt ns nc nf : Nat} (hI : INV M S cnt ns nc nf) : ASI d_X11_isSound d_X12_isSound M S := by
  obtain ⟨hC, hCW, -, h15⟩ := inv_c hI
  obtain ⟨B, hF⟩ := inv_f hI
  have hfb := fuel_big
  have hc : cnt ≤ 20 := hF.2.2.1
  have hF2 : FOR M (sI S 69 0 (0 : Int32)) B cnt := FOR_x hF (fun _ _ _ => rfl) (fun _ _ _ => rfl) (fun _ => rfl) (Nat.le_refl _) (fun a j _ _ => mI_ne (by omega)) (fun j _ => mI_ne (by omega))
  obtain ⟨s1, s2⟩ := size_both hF2
  have e67 : mI M 67 4 = mI S 69 25 := hF.2.2.2.1
  have t1 : d_X1_hasRoots M = some (nI 1, M) := roots_l hF cnt 0 fuel (by omega) (by omega)
  have t2 : d_X0_areSmall M = some (nI 1, M) := small_l hC hCW 320 0 fuel (by omega) (by omega)
  refine ⟨if mI S 69 25 < nI (szF (sI S 69 0 (0 : Int32)) cnt) then (0 : Int32) else (1 : Int32), sI S 69 0 (0 : Int32), ?_, ?_, sc_1 _ _⟩
  · unfold d_X11_isSound
    rw [h15, if_neg n1z, s1]
    simp only [obind]
    rw [e67]
    by_cases q : mI S 69 25 < nI (szF (sI S 69 0 (0 : Int32)) cnt)
    · rw [if_pos q, if_pos q]
    · rw [if_neg q, if_neg q, t1]
      simp only [obind]
      rw [if_neg n1z, t2]
      simp only [obind]
      rw [if_neg n1z]
  · unfold d_X12_isSound
    rw [bnd_eq, s2]
    simp only [obind]
    rw [mI_ne (by omega)]
    by_cases q : mI S 69 25 < nI (szF (sI S 69 0 (0 : Int32)) cnt)
    · rw [if_pos q, if_pos q]
    · rw [if_neg q, if_neg q]
end MZ6
