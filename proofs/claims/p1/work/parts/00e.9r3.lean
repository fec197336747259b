/-! ===== asks: shapes, caches, heads ===== -/
section MZ3
theorem inm_T {M : Mem} {n : Nat} (hn : n < 6) : d_X11_isName (nI n) M = some (nI 1, M) := by
  unfold d_X11_isName
  rw [if_neg (nn0 n (by omega)), l_6, if_neg (of_eq_false (qleF (by omega) (by omega)))]
  rfl
theorem inm_F {M : Mem} {x : Int32} (h : x < (0 : Int32) ∨ ∃ k, k < 2147483648 ∧ 6 ≤ k ∧ x = nI k) : d_X11_isName x M = some (nI 0, M) := by
  unfold d_X11_isName
  rcases h with h | ⟨k, h1, h2, rfl⟩
  · exact if_pos h
  · rw [if_neg (nn0 k (by omega)), l_6]
    exact if_pos (of_eq_true (qleT h2 h1))
theorem e5m : (5 : Int32) = nI 6 - (1 : Int32) := by decide
theorem z00 : nI 0 = (0 : Int32) := rfl
theorem a_field {M S : Mem} {cnt ns nc nf : Nat} {x1 x2 : Int32} (hI : INV M S cnt ns nc nf) : ASL (d_L_field x1 x2) (d_X12_field x1 x2) M S := by
  obtain ⟨ob, hR, hW, -⟩ := inv_m hI
  obtain ⟨n2, n1, n4⟩ := hW.2.1
  have n3 : mI M 18 10 = nI ob := hR.2.2.2.1.1.trans n2
  rcases idx_c x1 ob (by omega) with ⟨k, hk, rfl⟩ | hx
  · rcases idx_c x2 6 (by omega) with ⟨n, hn, rfl⟩ | hy
    · obtain ⟨s, hs, es⟩ := n4 k hk
      have hns := hW.2.2.2.1.2.1
      have e27 : mI M 27 k = nI s := (hR.2.2.2.1.2.2.2 k (by omega)).trans es
      have hz := (hW.2.2.2.1.2.2.2.2 s hs).1
      have hhas := (hR.2.2.2.2.1.2.2 s hs).2.2.2.2 n hn
      by_cases q : hasF S s n
      · have hlr : Lr (mI M 20 (168 + (6 * k + n))) (mI M 21 (168 + (6 * k + n))) (mD M 22 (168 + (6 * k + n))) (mI S 113 (6 * k + n)) (tolV (mI S 113 (6 * k + n)) (mI S 114 (6 * k + n)) (mD S 115 (6 * k + n))) := ⟨_, _, hR.2.1 (6 * k + n) (by omega), rfl, kO_y (hW.2.2.1 k n hk hn (by rw [es, qcl (by omega)]; exact q)), hW.1.2 _ (by omega)⟩
        refine asl_v (v := tolV (mI S 113 (6 * k + n)) (mI S 114 (6 * k + n)) (mD S 115 (6 * k + n))) (E := sI S 69 0 (0 : Int32)) (lT_field ?_) ?_ (mI_eq _ _ _ _) (sc_1 _ _)
        · unfold d_X11_field
          rw [no_T n3 hk (by omega)]
          simp only [obind]
          rw [inm_T hn]
          simp only [obind]
          rw [if_neg n1z, okk_pos (of_eq_true (qinT (by omega) (by omega))), qcl (by omega), e27, c_has (by omega), pBT (hhas.mpr q)]
          simp only [obind]
          rw [if_neg n1z]
          unfold d_X11_fieldPlace
          simp only [obind]
          rw [show (168 : Int32) + nI k * (6 : Int32) + nI n = nI (168 + (6 * k + n)) by rw [l_168, l_6, qmul, qadd, qadd, Nat.mul_comm, Nat.add_assoc], lr_bits (.inl rfl) (by omega) hlr]
          rfl
        · unfold d_X12_field d_X12_field_47
          rw [n2, in_T hk (by omega)]
          simp only [obind]
          rw [if_neg n1z, e5m, in_T hn (by omega)]
          simp only [obind]
          rw [if_neg n1z, okk_pos (of_eq_true (qinT (by omega) (by omega))), qcl (by omega), es, m_hasField (by omega) hz (cN_le S s), pBT q]
          simp only [obind]
          rw [if_neg n1z, bnd_eq, if_pos (le00 S), show (6 : Int32) * nI k + nI n = nI (6 * k + n) by rw [l_6, qmul, qadd], okk_pos (of_eq_true (qinT (by omega) (by omega))), okk_pos (of_eq_true (qinT (by omega) (by omega))), okk_pos (of_eq_true (qinT (by omega) (by omega))), qcl (by omega), mI_ne (by omega), mI_ne (by omega), m_told]
          rfl
      · refine asl_t (k := nI 2) (v := (0 : Int64)) (E := sI S 69 0 (2 : Int32)) (lE2_field ?_) ?_ (mI_eq _ _ _ _) n2n (sc_1 _ _)
        · unfold d_X11_field
          rw [no_T n3 hk (by omega)]
          simp only [obind]
          rw [inm_T hn]
          simp only [obind]
          rw [if_neg n1z, okk_pos (of_eq_true (qinT (by omega) (by omega))), qcl (by omega), e27, c_has (by omega), pBF (fun z => q (hhas.mp z))]
          simp only [obind]
          rw [if_pos z00]
          rfl
        · unfold d_X12_field d_X12_field_42 d_X12_field_47
          rw [n2, in_T hk (by omega)]
          simp only [obind]
          rw [if_neg n1z, e5m, in_T hn (by omega)]
          simp only [obind]
          rw [if_neg n1z, okk_pos (of_eq_true (qinT (by omega) (by omega))), qcl (by omega), es, m_hasField (by omega) hz (cN_le S s), pBF q]
          simp only [obind]
          rw [if_pos z00, bnd_eq, if_neg (le20 S)]
    · refine asl_t (k := nI 2) (v := (0 : Int64)) (E := sI S 69 0 (2 : Int32)) (lE2_field ?_) ?_ (mI_eq _ _ _ _) n2n (sc_1 _ _)
      · unfold d_X11_field
        rw [no_T n3 hk (by omega)]
        simp only [obind]
        rw [inm_F hy]
        simp only [obind]
        rw [if_pos z00]
        rfl
      · unfold d_X12_field d_X12_field_42 d_X12_field_47
        rw [n2, in_T hk (by omega)]
        simp only [obind]
        rw [if_neg n1z, e5m, in_F (by omega) hy]
        simp only [obind]
        rw [if_pos z00, bnd_eq, if_neg (le20 S)]
  · refine asl_t (k := nI 1) (v := (0 : Int64)) (E := sI S 69 0 (1 : Int32)) (lE1_field ?_) ?_ (mI_eq _ _ _ _) n1n (sc_1 _ _)
    · unfold d_X11_field
      rw [no_F n3 hx]
      rfl
    · unfold d_X12_field d_X12_field_47
      rw [n2, in_F (by omega) hx]
      simp only [obind]
      rw [if_pos z00, bnd_eq, if_neg (le10 S)]
theorem e6 (k n : Nat) : nI k * (6 : Int32) + nI n = nI (6 * k + n) := by rw [l_6, qmul, qadd, Nat.mul_comm]
theorem e6' (k n : Nat) : (6 : Int32) * nI k + nI n = nI (6 * k + n) := by rw [l_6, qmul, qadd]
theorem e40 (k n : Nat) : nI k * (40 : Int32) + nI n = nI (40 * k + n) := by rw [l_40, qmul, qadd, Nat.mul_comm]
theorem e40' (k n : Nat) : (40 : Int32) * nI k + nI n = nI (40 * k + n) := by rw [l_40, qmul, qadd]
theorem a_fieldAt {M S : Mem} {cnt ns nc nf : Nat} {x1 x2 : Int32} (hI : INV M S cnt ns nc nf) : ASK (d_L_fieldAt x1 x2) (d_X12_fieldAt x1 x2) M S := by
  obtain ⟨ob, hR, hW, -⟩ := inv_m hI
  obtain ⟨n2, n1, -⟩ := hW.2.2.2.1
  have n3 : mI M 11 6 = nI ns := hR.2.2.2.2.1.1
  rcases idx_c x1 ns (by omega) with ⟨k, hk, rfl⟩ | hx
  · obtain ⟨-, r2, -, r4, -⟩ := hR.2.2.2.2.1.2.2 k hk
    have hz := (hW.2.2.2.1.2.2.2.2 k hk).1
    have hc6 := cN_le S k
    have e13 : mI M 13 k = nI (cN S k) := r2.trans hz
    rcases idx_c x2 (cN S k) (by omega) with ⟨n, hn, rfl⟩ | hy
    · have e15 : mI M 15 (6 * k + n) = mI S 81 (6 * k + n) := by
        rcases r4 n (by omega) with h | h
        · exact h
        · rw [hz, qcl (by omega)] at h; omega
      refine ask_v (v := mI S 81 (6 * k + n)) (E := sI S 69 0 (0 : Int32)) (lT_fieldAt ?_) ?_ (mI_eq _ _ _ _) (sc_1 _ _)
      · unfold d_X11_fieldAt
        rw [ns_T n3 hk (by omega)]
        simp only [obind]
        rw [if_neg (rng_T hn (by omega)).1, okk_pos (of_eq_true (qinT (by omega) (by omega))), qcl (by omega), e13, if_pos (rng_T hn (by omega)).2, e6, okk_pos (of_eq_true (qinT (by omega) (by omega))), qcl (by omega), e15]
      · unfold d_X12_fieldAt
        rw [bnd_eq, mI_ne (by omega), n2, in_T hk (by omega)]
        simp only [obind]
        rw [if_neg n1z, okk_pos (of_eq_true (qinT (by omega) (by omega))), qcl (by omega), mI_ne (by omega), hz, in_T hn (by omega)]
        simp only [obind]
        rw [if_neg n1z, e6', okk_pos (of_eq_true (qinT (by omega) (by omega))), qcl (by omega), mI_ne (by omega)]
    · refine ask_t (k := nI 2) (v := nI 0) (E := sI (sI S 69 0 (0 : Int32)) 69 0 (2 : Int32)) (lE2_fieldAt ?_) ?_ (mI_eq _ _ _ _) n2n ((sc_1 _ _).trans (sc_1 _ _))
      · unfold d_X11_fieldAt
        rw [ns_T n3 hk (by omega)]
        simp only [obind]
        rcases rng_F hy with c | ⟨c, d⟩
        · rw [if_pos c]; rfl
        · rw [if_neg c, okk_pos (of_eq_true (qinT (by omega) (by omega))), qcl (by omega), e13, if_neg d]; rfl
      · unfold d_X12_fieldAt
        rw [bnd_eq, mI_ne (by omega), n2, in_T hk (by omega)]
        simp only [obind]
        rw [if_neg n1z, okk_pos (of_eq_true (qinT (by omega) (by omega))), qcl (by omega), mI_ne (by omega), hz, in_F (by omega) hy]
        simp only [obind]
        rw [if_pos z00]
        rfl
  · refine ask_t (k := nI 1) (v := nI 0) (E := sI (sI S 69 0 (0 : Int32)) 69 0 (1 : Int32)) (lE1_fieldAt ?_) ?_ (mI_eq _ _ _ _) n1n ((sc_1 _ _).trans (sc_1 _ _))
    · unfold d_X11_fieldAt
      rw [ns_F n3 hx]
      rfl
    · unfold d_X12_fieldAt
      rw [bnd_eq, mI_ne (by omega), n2, in_F (by omega) hx]
      simp only [obind]
      rw [if_pos z00]
      rfl
theorem a_nextShape {M S : Mem} {cnt ns nc nf : Nat} {x1 x2 : Int32} (hI : INV M S cnt ns nc nf) : ASK (d_L_nextShape x1 x2) (d_X12_nextShape x1 x2) M S := by
  obtain ⟨ob, hR, hW, -⟩ := inv_m hI
  obtain ⟨n2, n1, -⟩ := hW.2.2.2.1
  have n3 : mI M 11 6 = nI ns := hR.2.2.2.2.1.1
  rcases idx_c x1 ns (by omega) with ⟨k, hk, rfl⟩ | hx
  · rcases idx_c x2 6 (by omega) with ⟨n, hn, rfl⟩ | hy
    · have e16 := (hR.2.2.2.2.1.2.2 k hk).2.2.1 n hn
      by_cases q : mI S 82 (6 * k + n) = (-1 : Int32)
      · refine ask_t (k := nI 2) (v := nI 0) (E := sI (sI S 69 0 (0 : Int32)) 69 0 (2 : Int32)) (lE2_nextShape ?_) ?_ (mI_eq _ _ _ _) n2n ((sc_1 _ _).trans (sc_1 _ _))
        · unfold d_X11_nextShape
          rw [ns_T n3 hk (by omega)]
          simp only [obind]
          rw [inm_T hn]
          simp only [obind]
          rw [if_neg n1z, e6, okk_pos (of_eq_true (qinT (by omega) (by omega))), qcl (by omega), e16, if_pos q]
          rfl
        · unfold d_X12_nextShape
          rw [bnd_eq, mI_ne (by omega), n2, in_T hk (by omega)]
          simp only [obind]
          rw [if_neg n1z, e5m, in_T hn (by omega)]
          simp only [obind]
          rw [if_neg n1z, e6', okk_pos (of_eq_true (qinT (by omega) (by omega))), qcl (by omega), mI_ne (by omega), if_pos q]
          rfl
      · refine ask_v (v := mI S 82 (6 * k + n)) (E := sI S 69 0 (0 : Int32)) (lT_nextShape ?_) ?_ (mI_eq _ _ _ _) (sc_1 _ _)
        · unfold d_X11_nextShape
          rw [ns_T n3 hk (by omega)]
          simp only [obind]
          rw [inm_T hn]
          simp only [obind]
          rw [if_neg n1z, e6, okk_pos (of_eq_true (qinT (by omega) (by omega))), qcl (by omega), e16, if_neg q, okk_pos (of_eq_true (qinT (by omega) (by omega)))]
        · unfold d_X12_nextShape
          rw [bnd_eq, mI_ne (by omega), n2, in_T hk (by omega)]
          simp only [obind]
          rw [if_neg n1z, e5m, in_T hn (by omega)]
          simp only [obind]
          rw [if_neg n1z, e6', okk_pos (of_eq_true (qinT (by omega) (by omega))), qcl (by omega), mI_ne (by omega), if_neg q, okk_pos (of_eq_true (qinT (by omega) (by omega)))]
    · refine ask_t (k := nI 2) (v := nI 0) (E := sI (sI S 69 0 (0 : Int32)) 69 0 (2 : Int32)) (lE2_nextShape ?_) ?_ (mI_eq _ _ _ _) n2n ((sc_1 _ _).trans (sc_1 _ _))
      · unfold d_X11_nextShape
        rw [ns_T n3 hk (by omega)]
        simp only [obind]
        rw [inm_F hy]
        simp only [obind]
        rw [if_pos z00]
        rfl
      · unfold d_X12_nextShape
        rw [bnd_eq, mI_ne (by omega), n2, in_T hk (by omega)]
        simp only [obind]
        rw [if_neg n1z, e5m, in_F (by omega) hy]
        simp only [obind]
        rw [if_pos z00]
        rfl
  · refine ask_t (k := nI 1) (v := nI 0) (E := sI (sI S 69 0 (0 : Int32)) 69 0 (1 : Int32)) (lE1_nextShape ?_) ?_ (mI_eq _ _ _ _) n1n ((sc_1 _ _).trans (sc_1 _ _))
    · unfold d_X11_nextShape
      rw [ns_F n3 hx]
      rfl
    · unfold d_X12_nextShape
      rw [bnd_eq, mI_ne (by omega), n2, in_F (by omega) hx]
      simp only [obind]
      rw [if_pos z00]
      rfl
end MZ3
