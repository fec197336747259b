/-! ===== asks: the machine ===== -/
section MZ2
theorem inv_m {M S : Mem} {cnt ns nc nf : Nat} (h : INV M S cnt ns nc nf) : ∃ ob, RZ M S 18 ns ∧ WZ S ob ns nc nf ∧ OUT M S 18 := by
  obtain ⟨B, H, G, F, b, fg, ob, h1, -, h3, -, -, -, -, -, -, -, -, h12, -⟩ := h
  exact ⟨ob, h1, h3, h12⟩
theorem ne_T {M : Mem} {x : Int32} (h : mI M 18 13 = x) : d_X11_needEnding x M = some (.inl (), M) := if_pos h
theorem ne_F {M : Mem} {x : Int32} (h : ¬ mI M 18 13 = x) : d_X11_needEnding x M = some (.inr "java/util/NoSuchElementException", tk M 6) := if_neg h
theorem le00 (S : Mem) : mI (sI S 69 0 (0 : Int32)) 69 0 ≤ (0 : Int32) := by rw [mI_eq]; decide
theorem le10 (S : Mem) : ¬ mI (sI S 69 0 (1 : Int32)) 69 0 ≤ (0 : Int32) := by rw [mI_eq]; decide
theorem le20 (S : Mem) : ¬ mI (sI S 69 0 (2 : Int32)) 69 0 ≤ (0 : Int32) := by rw [mI_eq]; decide
theorem lr_bits {M : Mem} {o p : Nat} {k' : Int32} {l : Int64} (ho : isO o) (hp : p < 549) (h : Lr (mI M (o + 2) p) (mI M (o + 3) p) (mD M (o + 4) p) k' l) : d_X8_bitsAt o (nI p) M = some (l, M) := by
  obtain ⟨n, x, h1, h2, h3, -⟩ := h
  have hv : vp_in (nI p) 549 := of_eq_true (qinT hp (by omega))
  have hc : (nI p).toNatClampNeg = p := qcl (by omega)
  have hu := c_isUndef ho hp h1
  obtain ⟨hk, hh⟩ := id h1
  unfold d_X8_bitsAt
  rw [hu]
  simp only [obind]
  by_cases q : k' = nI 102
  · have e : l = bitsV x := by
      rw [h2]; unfold tolV
      rw [if_neg (by rw [q]; decide), if_pos q]
    rcases hh with ⟨z, -⟩ | ⟨-, -, ⟨a1, a2, a3⟩ | ⟨a1, a2, a3⟩⟩
    · exact absurd q z
    · rw [pBF (fun z => by rw [a3] at z; cases z.2), if_pos (show nI 0 = (0 : Int32) from rfl), okk_pos hv, hc, if_pos (show mI M (o + 2) p = (102 : Int32) from hk.trans q), okk_pos hv, a2, fp_bitsOf a3]
      simp only [obind]
      rw [e]
    · rw [pBT ⟨q, a3⟩, if_neg n1z, e]
      unfold bitsV
      rw [if_pos a3]
  · rcases hh with ⟨-, a1, a2, a3⟩ | ⟨z, -⟩
    · rw [pBF (fun z => q z.1), if_pos (show nI 0 = (0 : Int32) from rfl), okk_pos hv, hc, if_neg (by rw [hk]; exact q), okk_pos hv, a1, h2]
      unfold tolV
      by_cases c : k' = nI 105 ∨ k' = nI 111
      · rw [if_pos c]
      · rw [if_neg c, if_neg q]
        have e0 : n = nI 0 := by
          rcases h3 with h | h | h | h
          · exact absurd (.inl h) c
          · exact absurd (.inr h) c
          · exact absurd h q
          · exact h
        rw [e0]
        rfl
    · exact absurd z q
theorem idx_c (x : Int32) (n : Nat) (hn : n < 2147483648) : (∃ k, k < n ∧ x = nI k) ∨ (x < (0 : Int32) ∨ ∃ k, k < 2147483648 ∧ n ≤ k ∧ x = nI k) := by
  by_cases c : x < (0 : Int32)
  · exact .inr (.inl c)
  · obtain ⟨k, h1, h2⟩ := i32_nn c
    by_cases q : k < n
    · exact .inl ⟨k, q, h2⟩
    · exact .inr (.inr ⟨k, h1, by omega, h2⟩)
theorem nn0 (k : Nat) (hk : k < 2147483648) : ¬ nI k < (0 : Int32) := by
  rw [l_0]
  exact of_eq_false (qltF (by omega) (by omega))
theorem in_T {S : Mem} {k n : Nat} (hk : k < n) (hn : n < 2147483648) : d_X12_in (nI k) (0 : Int32) (nI n - (1 : Int32)) S = some (nI 1, S) := by
  unfold d_X12_in
  rw [if_neg (nn0 k (by omega)), l_1, qsub (by omega), if_neg (of_eq_false (qltF (by omega) (by omega)))]
theorem in_F {S : Mem} {x : Int32} {n : Nat} (hn : n < 2147483648) (h : x < (0 : Int32) ∨ ∃ k, k < 2147483648 ∧ n ≤ k ∧ x = nI k) : d_X12_in x (0 : Int32) (nI n - (1 : Int32)) S = some (nI 0, S) := by
  unfold d_X12_in
  rcases h with h | ⟨k, h1, h2, rfl⟩
  · exact if_pos h
  · rw [if_neg (nn0 k (by omega))]
    by_cases c : n = 0
    · subst c
      rw [show nI 0 - (1 : Int32) = -nI 1 by decide]
      exact if_pos (of_eq_true (qneg_lt h1))
    · rw [l_1, qsub (by omega)]
      exact if_pos (of_eq_true (qltT (by omega) h1))
/-- an index that is, or is not, in range -/
theorem rng_T {k n : Nat} (hk : k < n) (hn : n < 2147483648) : ¬ nI k < (0 : Int32) ∧ nI k < nI n := ⟨nn0 k (by omega), of_eq_true (qltT hk hn)⟩
theorem rng_F {x : Int32} {n : Nat} (h : x < (0 : Int32) ∨ ∃ k, k < 2147483648 ∧ n ≤ k ∧ x = nI k) : x < (0 : Int32) ∨ (¬ x < (0 : Int32) ∧ ¬ x < nI n) := by
  rcases h with h | ⟨k, h1, h2, rfl⟩
  · exact .inl h
  · exact .inr ⟨nn0 k h1, of_eq_false (qltF h2 h1)⟩
theorem nt_T {M : Mem} {k n : Nat} (h : mI M 18 11 = nI n) (hk : k < n) (hn : n < 2147483648) : d_X11_needTold (nI k) M = some (.inl (), M) := by
  unfold d_X11_needTold
  rw [if_neg (rng_T hk hn).1, h]
  exact if_pos (rng_T hk hn).2
theorem nt_F {M : Mem} {x : Int32} {n : Nat} (h : mI M 18 11 = nI n) (hx : x < (0 : Int32) ∨ ∃ k, k < 2147483648 ∧ n ≤ k ∧ x = nI k) : d_X11_needTold x M = some (.inr "java/lang/IndexOutOfBoundsException", tk M 6) := by
  unfold d_X11_needTold d_X11_needTold_15
  rcases rng_F hx with c | ⟨c, d⟩
  · exact if_pos c
  · rw [if_neg c, h]; exact if_neg d
theorem no_T {M : Mem} {k n : Nat} (h : mI M 18 10 = nI n) (hk : k < n) (hn : n < 2147483648) : d_X11_needObject (nI k) M = some (.inl (), M) := by
  unfold d_X11_needObject
  rw [if_neg (rng_T hk hn).1, h]
  exact if_pos (rng_T hk hn).2
theorem no_F {M : Mem} {x : Int32} {n : Nat} (h : mI M 18 10 = nI n) (hx : x < (0 : Int32) ∨ ∃ k, k < 2147483648 ∧ n ≤ k ∧ x = nI k) : d_X11_needObject x M = some (.inr "java/lang/IndexOutOfBoundsException", tk M 6) := by
  unfold d_X11_needObject d_X11_needObject_15
  rcases rng_F hx with c | ⟨c, d⟩
  · exact if_pos c
  · rw [if_neg c, h]; exact if_neg d
theorem ns_T {M : Mem} {k n : Nat} (h : mI M 11 6 = nI n) (hk : k < n) (hn : n < 2147483648) : d_X11_needShape (nI k) M = some (.inl (), M) := by
  unfold d_X11_needShape
  rw [if_neg (rng_T hk hn).1, h]
  exact if_pos (rng_T hk hn).2
theorem ns_F {M : Mem} {x : Int32} {n : Nat} (h : mI M 11 6 = nI n) (hx : x < (0 : Int32) ∨ ∃ k, k < 2147483648 ∧ n ≤ k ∧ x = nI k) : d_X11_needShape x M = some (.inr "java/lang/IndexOutOfBoundsException", tk M 6) := by
  unfold d_X11_needShape d_X11_needShape_15
  rcases rng_F hx with c | ⟨c, d⟩
  · exact if_pos c
  · rw [if_neg c, h]; exact if_neg d
theorem a_outcome {M S : Mem} {cnt ns nc nf : Nat} (hI : INV M S cnt ns nc nf) : ASI d_X11_outcome d_X12_outcome M S := by
  obtain ⟨ob, -, -, h13, hh⟩ := inv_m hI
  have hch : isCh (mI S 69 62) := by
    rcases hh with h | h | ⟨h, -⟩
    all_goals rw [h]; exact of_eq_true (qchT (by omega))
  refine ⟨mI S 69 62, sI S 69 0 (0 : Int32), ?_, ?_, sc_1 _ _⟩
  · unfold d_X11_outcome
    rw [h13]
    exact okk_pos hch
  · unfold d_X12_outcome
    rw [bnd_eq, mI_ne (by omega)]
    exact okk_pos hch
theorem a_resultKind {M S : Mem} {cnt ns nc nf : Nat} (hI : INV M S cnt ns nc nf) : ASK d_L_resultKind d_X12_resultKind M S := by
  obtain ⟨ob, hR, -, h13, hh⟩ := inv_m hI
  obtain ⟨n, x, a1, -, -, a4⟩ := hR.2.2.1.2
  by_cases c : mI S 69 62 = nI 118
  · refine ask_v (v := mI S 69 63) (E := sI S 69 0 (0 : Int32)) (lT_resultKind ?_) ?_ (mI_eq _ _ _ _) (sc_1 _ _)
    · unfold d_X11_resultKind
      rw [ne_T (x := (118 : Int32)) (h13.trans c)]
      simp only [obind]
      have e : mI M 20 548 = mI S 69 63 := a1.1
      rw [e]
      exact okk_pos (of_eq_true a4)
    · unfold d_X12_resultKind d_X12_resultKind_15
      refine (if_pos c).trans ?_
      rw [bnd_eq, if_pos (le00 S), mI_ne (by omega)]
      exact okk_pos (of_eq_true a4)
  · refine ask_t (k := nI 1) (v := nI 0) (E := sI S 69 0 (1 : Int32)) (lE1_resultKind ?_) ?_ (mI_eq _ _ _ _) n1n (sc_1 _ _)
    · unfold d_X11_resultKind
      rw [ne_F (x := (118 : Int32)) (by rw [h13]; exact c)]
      rfl
    · unfold d_X12_resultKind d_X12_resultKind_15
      refine (if_neg c).trans ?_
      rw [bnd_eq, if_neg (le10 S)]
      rfl
theorem a_result {M S : Mem} {cnt ns nc nf : Nat} (hI : INV M S cnt ns nc nf) : ASL d_L_result d_X12_result M S := by
  obtain ⟨ob, hR, -, h13, hh⟩ := inv_m hI
  by_cases c : mI S 69 62 = nI 118
  · refine asl_v (v := mL S 69 64) (E := sI S 69 0 (0 : Int32)) (lT_result ?_) ?_ (mI_eq _ _ _ _) (sc_1 _ _)
    · unfold d_X11_result
      rw [ne_T (x := (118 : Int32)) (h13.trans c)]
      simp only [obind]
      rw [l_548, lr_bits (.inl rfl) (by omega) hR.2.2.1.2]
      rfl
    · unfold d_X12_result d_X12_result_15
      refine (if_pos c).trans ?_
      rw [bnd_eq, if_pos (le00 S)]
      rfl
  · refine asl_t (k := nI 1) (v := (0 : Int64)) (E := sI S 69 0 (1 : Int32)) (lE1_result ?_) ?_ (mI_eq _ _ _ _) n1n (sc_1 _ _)
    · unfold d_X11_result
      rw [ne_F (x := (118 : Int32)) (by rw [h13]; exact c)]
      rfl
    · unfold d_X12_result d_X12_result_15
      refine (if_neg c).trans ?_
      rw [bnd_eq, if_neg (le10 S)]
theorem out_120 {M S : Mem} (h : OUT M S 18) (c : mI S 69 62 = nI 120) : mI M 18 14 = mI S 69 65 ∧ mI M 18 15 = mI S 69 66 ∧ isCh (mI S 69 65) := by
  rcases h.2 with h | h | ⟨-, h1, h2, h3⟩
  · rw [h] at c; exact absurd c (by decide)
  · rw [h] at c; exact absurd c (by decide)
  · exact ⟨h1, h2, of_eq_true h3⟩
theorem a_failure {M S : Mem} {cnt ns nc nf : Nat} (hI : INV M S cnt ns nc nf) : ASK d_L_failure d_X12_failure M S := by
  obtain ⟨ob, hR, -, hO⟩ := inv_m hI
  by_cases c : mI S 69 62 = nI 120
  · obtain ⟨e14, e15, e3⟩ := out_120 hO c
    refine ask_v (v := mI S 69 65) (E := sI S 69 0 (0 : Int32)) (lT_failure ?_) ?_ (mI_eq _ _ _ _) (sc_1 _ _)
    · unfold d_X11_failure
      rw [ne_T (x := (120 : Int32)) (hO.1.trans c)]
      simp only [obind]
      rw [e14]
      exact okk_pos e3
    · unfold d_X12_failure d_X12_failure_15
      refine (if_pos c).trans ?_
      rw [bnd_eq, if_pos (le00 S), mI_ne (by omega)]
      exact okk_pos e3
  · refine ask_t (k := nI 1) (v := nI 0) (E := sI S 69 0 (1 : Int32)) (lE1_failure ?_) ?_ (mI_eq _ _ _ _) n1n (sc_1 _ _)
    · unfold d_X11_failure
      rw [ne_F (x := (120 : Int32)) (by rw [hO.1]; exact c)]
      rfl
    · unfold d_X12_failure d_X12_failure_15
      refine (if_neg c).trans ?_
      rw [bnd_eq, if_neg (le10 S)]
      rfl
theorem a_line {M S : Mem} {cnt ns nc nf : Nat} (hI : INV M S cnt ns nc nf) : ASK d_L_line d_X12_line M S := by
  obtain ⟨ob, hR, -, hO⟩ := inv_m hI
  by_cases c : mI S 69 62 = nI 120
  · obtain ⟨e14, e15, e3⟩ := out_120 hO c
    refine ask_v (v := mI S 69 66) (E := sI S 69 0 (0 : Int32)) (lT_line ?_) ?_ (mI_eq _ _ _ _) (sc_1 _ _)
    · unfold d_X11_line
      rw [ne_T (x := (120 : Int32)) (hO.1.trans c)]
      simp only [obind]
      rw [e15]
    · unfold d_X12_line
      rw [bnd_eq, mI_ne (by omega), mI_ne (by omega)]
      exact if_pos c
  · refine ask_t (k := nI 1) (v := nI 0) (E := sI (sI S 69 0 (0 : Int32)) 69 0 (1 : Int32)) (lE1_line ?_) ?_ (mI_eq _ _ _ _) n1n ((sc_1 _ _).trans (sc_1 _ _))
    · unfold d_X11_line
      rw [ne_F (x := (120 : Int32)) (by rw [hO.1]; exact c)]
      rfl
    · unfold d_X12_line
      rw [bnd_eq, mI_ne (by omega)]
      refine (if_neg c).trans ?_
      rfl
theorem a_told {M S : Mem} {cnt ns nc nf : Nat} (hI : INV M S cnt ns nc nf) : ASI d_X11_told d_X12_told_ M S := by
  obtain ⟨ob, hR, -, -⟩ := inv_m hI
  refine ⟨mI S 69 59, sI S 69 0 (0 : Int32), ?_, ?_, sc_1 _ _⟩
  · unfold d_X11_told
    rw [hR.2.2.2.1.2.2.1]
  · unfold d_X12_told_
    rw [bnd_eq, mI_ne (by omega)]
theorem a_objects {M S : Mem} {cnt ns nc nf : Nat} (hI : INV M S cnt ns nc nf) : ASI d_X11_objects d_X12_objects M S := by
  obtain ⟨ob, hR, -, -⟩ := inv_m hI
  refine ⟨mI S 69 52, sI S 69 0 (0 : Int32), ?_, ?_, sc_1 _ _⟩
  · unfold d_X11_objects
    rw [hR.2.2.2.1.1]
  · unfold d_X12_objects
    rw [bnd_eq, mI_ne (by omega)]
theorem a_shapes {M S : Mem} {cnt ns nc nf : Nat} (hI : INV M S cnt ns nc nf) : ASI d_X11_shapes d_X12_shapes M S := by
  obtain ⟨ob, hR, hW, -⟩ := inv_m hI
  refine ⟨mI S 69 12, sI S 69 0 (0 : Int32), ?_, ?_, sc_1 _ _⟩
  · unfold d_X11_shapes
    rw [hR.2.2.2.2.1.1, hW.2.2.2.1.1]
  · unfold d_X12_shapes
    rw [bnd_eq, mI_ne (by omega)]
theorem a_toldKind {M S : Mem} {cnt ns nc nf : Nat} {x1 : Int32} (hI : INV M S cnt ns nc nf) : ASK (d_L_toldKind x1) (d_X12_toldKind x1) M S := by
  obtain ⟨ob, hR, hW, -⟩ := inv_m hI
  obtain ⟨n, n1, n2⟩ := hW.2.2.2.2.2.2
  have n3 : mI M 18 11 = nI n := hR.2.2.2.1.2.2.1.trans n2
  rcases idx_c x1 n (by omega) with ⟨k, hk, rfl⟩ | hx
  · obtain ⟨m, x, a1, -, -, a4⟩ := hR.2.2.1.1 k (by omega)
    have e : mI M 20 (528 + k) = mI S 116 k := a1.1
    refine ask_v (v := mI S 116 k) (E := sI S 69 0 (0 : Int32)) (lT_toldKind ?_) ?_ (mI_eq _ _ _ _) (sc_1 _ _)
    · unfold d_X11_toldKind
      rw [nt_T n3 hk (by omega)]
      simp only [obind]
      rw [l_528, qadd, okk_pos (of_eq_true (qinT (by omega) (by omega))), qcl (by omega), e]
      exact okk_pos (of_eq_true a4)
    · unfold d_X12_toldKind d_X12_toldKind_20
      rw [n2, in_T hk (by omega)]
      simp only [obind]
      rw [if_neg n1z, bnd_eq, if_pos (le00 S), okk_pos (of_eq_true (qinT (by omega) (by omega))), qcl (by omega), mI_ne (by omega)]
      exact okk_pos (of_eq_true a4)
  · refine ask_t (k := nI 1) (v := nI 0) (E := sI S 69 0 (1 : Int32)) (lE1_toldKind ?_) ?_ (mI_eq _ _ _ _) n1n (sc_1 _ _)
    · unfold d_X11_toldKind
      rw [nt_F n3 hx]
      rfl
    · unfold d_X12_toldKind d_X12_toldKind_20
      rw [n2, in_F (by omega) hx]
      simp only [obind]
      rw [if_pos (show nI 0 = (0 : Int32) from rfl), bnd_eq, if_neg (le10 S)]
      rfl
theorem a_toldAt {M S : Mem} {cnt ns nc nf : Nat} {x1 : Int32} (hI : INV M S cnt ns nc nf) : ASL (d_L_toldAt x1) (d_X12_toldAt x1) M S := by
  obtain ⟨ob, hR, hW, -⟩ := inv_m hI
  obtain ⟨n, n1, n2⟩ := hW.2.2.2.2.2.2
  have n3 : mI M 18 11 = nI n := hR.2.2.2.1.2.2.1.trans n2
  rcases idx_c x1 n (by omega) with ⟨k, hk, rfl⟩ | hx
  · refine asl_v (v := mL S 117 k) (E := sI S 69 0 (0 : Int32)) (lT_toldAt ?_) ?_ (mI_eq _ _ _ _) (sc_1 _ _)
    · unfold d_X11_toldAt
      rw [nt_T n3 hk (by omega)]
      simp only [obind]
      rw [l_528, qadd, lr_bits (.inl rfl) (by omega) (hR.2.2.1.1 k (by omega))]
      rfl
    · unfold d_X12_toldAt d_X12_toldAt_20
      rw [n2, in_T hk (by omega)]
      simp only [obind]
      rw [if_neg n1z, bnd_eq, if_pos (le00 S), okk_pos (of_eq_true (qinT (by omega) (by omega))), qcl (by omega)]
      rfl
  · refine asl_t (k := nI 1) (v := (0 : Int64)) (E := sI S 69 0 (1 : Int32)) (lE1_toldAt ?_) ?_ (mI_eq _ _ _ _) n1n (sc_1 _ _)
    · unfold d_X11_toldAt
      rw [nt_F n3 hx]
      rfl
    · unfold d_X12_toldAt d_X12_toldAt_20
      rw [n2, in_F (by omega) hx]
      simp only [obind]
      rw [if_pos (show nI 0 = (0 : Int32) from rfl), bnd_eq, if_neg (le10 S)]
theorem a_shapeOf {M S : Mem} {cnt ns nc nf : Nat} {x1 : Int32} (hI : INV M S cnt ns nc nf) : ASK (d_L_shapeOf x1) (d_X12_shapeOf x1) M S := by
  obtain ⟨ob, hR, hW, -⟩ := inv_m hI
  obtain ⟨n2, n1, -⟩ := hW.2.1
  have n3 : mI M 18 10 = nI ob := hR.2.2.2.1.1.trans n2
  rcases idx_c x1 ob (by omega) with ⟨k, hk, rfl⟩ | hx
  · refine ask_v (v := mI S 112 k) (E := sI S 69 0 (0 : Int32)) (lT_shapeOf ?_) ?_ (mI_eq _ _ _ _) (sc_1 _ _)
    · unfold d_X11_shapeOf
      rw [no_T n3 hk (by omega)]
      simp only [obind]
      rw [okk_pos (of_eq_true (qinT (by omega) (by omega))), qcl (by omega), hR.2.2.2.1.2.2.2 k (by omega)]
    · unfold d_X12_shapeOf
      rw [bnd_eq, mI_ne (by omega), n2, in_T hk (by omega)]
      simp only [obind]
      rw [if_neg n1z, okk_pos (of_eq_true (qinT (by omega) (by omega))), qcl (by omega), mI_ne (by omega)]
  · refine ask_t (k := nI 1) (v := nI 0) (E := sI (sI S 69 0 (0 : Int32)) 69 0 (1 : Int32)) (lE1_shapeOf ?_) ?_ (mI_eq _ _ _ _) n1n ((sc_1 _ _).trans (sc_1 _ _))
    · unfold d_X11_shapeOf
      rw [no_F n3 hx]
      rfl
    · unfold d_X12_shapeOf
      rw [bnd_eq, mI_ne (by omega), n2, in_F (by omega) hx]
      simp only [obind]
      rw [if_pos (show nI 0 = (0 : Int32) from rfl)]
      rfl
theorem a_fields {M S : Mem} {cnt ns nc nf : Nat} {x1 : Int32} (hI : INV M S cnt ns nc nf) : ASK (d_L_fields x1) (d_X12_fields x1) M S := by
  obtain ⟨ob, hR, hW, -⟩ := inv_m hI
  obtain ⟨n2, n1, -⟩ := hW.2.2.2.1
  have n3 : mI M 11 6 = nI ns := hR.2.2.2.2.1.1
  rcases idx_c x1 ns (by omega) with ⟨k, hk, rfl⟩ | hx
  · refine ask_v (v := mI S 80 k) (E := sI S 69 0 (0 : Int32)) (lT_fields ?_) ?_ (mI_eq _ _ _ _) (sc_1 _ _)
    · unfold d_X11_fields
      rw [ns_T n3 hk (by omega)]
      simp only [obind]
      rw [okk_pos (of_eq_true (qinT (by omega) (by omega))), qcl (by omega), (hR.2.2.2.2.1.2.2 k hk).2.1]
    · unfold d_X12_fields
      rw [bnd_eq, mI_ne (by omega), n2, in_T hk (by omega)]
      simp only [obind]
      rw [if_neg n1z, okk_pos (of_eq_true (qinT (by omega) (by omega))), qcl (by omega), mI_ne (by omega)]
  · refine ask_t (k := nI 1) (v := nI 0) (E := sI (sI S 69 0 (0 : Int32)) 69 0 (1 : Int32)) (lE1_fields ?_) ?_ (mI_eq _ _ _ _) n1n ((sc_1 _ _).trans (sc_1 _ _))
    · unfold d_X11_fields
      rw [ns_F n3 hx]
      rfl
    · unfold d_X12_fields
      rw [bnd_eq, mI_ne (by omega), n2, in_F (by omega) hx]
      simp only [obind]
      rw [if_pos (show nI 0 = (0 : Int32) from rfl)]
      rfl
end MZ2
