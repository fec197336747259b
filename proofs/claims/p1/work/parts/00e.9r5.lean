/-! ===== asks: caches, heads, the rest ===== -/
section MZ5
theorem xi6 (x : Int32) : (0 : Int32) ≤ xIdx 6 x ↔ (x = 103 ∨ x = 112 ∨ x = 109) := by
  have e : xIdx 6 x = if (103 : Int32) = x then (0 : Int32) else if (112 : Int32) = x then (1 : Int32) else if (109 : Int32) = x then (2 : Int32) else -1 := rfl
  rw [e]
  by_cases h1 : (103 : Int32) = x
  · rw [if_pos h1]; exact ⟨fun _ => .inl h1.symm, fun _ => by decide⟩
  · rw [if_neg h1]
    by_cases h2 : (112 : Int32) = x
    · rw [if_pos h2]; exact ⟨fun _ => .inr (.inl h2.symm), fun _ => by decide⟩
    · rw [if_neg h2]
      by_cases h3 : (109 : Int32) = x
      · rw [if_pos h3]; exact ⟨fun _ => .inr (.inr h3.symm), fun _ => by decide⟩
      · rw [if_neg h3]
        refine ⟨fun h => absurd h (by decide), fun h => ?_⟩
        rcases h with h | h | h
        · exact absurd h.symm h1
        · exact absurd h.symm h2
        · exact absurd h.symm h3
theorem cl_needF {M : Mem} {x : Int32} {nf : Nat} (h : mI M 2 8 = nI nf) (hx : x < (0 : Int32) ∨ ∃ k, k < 2147483648 ∧ nf ≤ k ∧ x = nI k) : d_X11_needFunction x M = some (.inr "java/lang/IndexOutOfBoundsException", tk M 6) := by
  have e : d_X5_hasFunction x M = some (nI 0, M) := by
    unfold d_X5_hasFunction
    rcases hx with c | ⟨k, h1, h2, rfl⟩
    · exact if_pos c
    · rw [if_neg (nn0 k h1), h]
      exact if_pos (of_eq_true (qleT h2 h1))
  unfold d_X11_needFunction
  rw [e]
  simp only [obind]
  exact if_pos rfl
theorem if_T {S : Mem} {f nf : Nat} (hf : f < nf) (hnf : nf ≤ 8) (h1 : mI S 69 1 = nI nf) : d_X12_isFunction (nI f) S = some (nI 1, S) := by
  unfold d_X12_isFunction
  rw [h1, in_T hf (by omega)]
  simp only [obind]
  exact okk_pos (.inr rfl)
theorem if_F {S : Mem} {x : Int32} {nf : Nat} (hnf : nf ≤ 8) (h1 : mI S 69 1 = nI nf) (hx : x < (0 : Int32) ∨ ∃ k, k < 2147483648 ∧ nf ≤ k ∧ x = nI k) : d_X12_isFunction x S = some (nI 0, S) := by
  unfold d_X12_isFunction
  rw [h1, in_F (by omega) hx]
  simp only [obind]
  exact okk_pos (.inl rfl)
/-- which cache is asked for, in both: none (1, 2), or that of a site -/
theorem cache_ask {M S : Mem} {cnt ns nc nf : Nat} {x1 x2 : Int32} (hI : INV M S cnt ns nc nf) : (d_X11_cacheSite x1 x2 M = some (.inr "java/lang/IndexOutOfBoundsException", tk M 6) ∧ ∃ E, d_X12_cache x1 x2 S = some (-1, E) ∧ mI E 69 0 = nI 1 ∧ SC S E) ∨ (d_X11_cacheSite x1 x2 M = some (.inr "java/util/NoSuchElementException", tk M 6) ∧ ∃ E, d_X12_cache x1 x2 S = some (-1, E) ∧ mI E 69 0 = nI 2 ∧ SC S E) ∨ ∃ j, j < 320 ∧ d_X11_cacheSite x1 x2 M = some (.inl (nI j), M) ∧ ∃ E, d_X12_cache x1 x2 S = some (nI j, E) ∧ mI E 69 0 = nI 0 ∧ SC S E := by
  obtain ⟨ob, hR, hW, -⟩ := inv_m hI
  have hnf : nf ≤ 8 := hW.2.2.2.2.1.2.1
  have h1 : mI S 69 1 = nI nf := hW.2.2.2.2.1.1
  have h28 : mI M 2 8 = nI nf := hR.2.2.2.2.2.2.1.trans h1
  have h1' : mI (sI S 69 0 (0 : Int32)) 69 1 = nI nf := (mI_ne (by omega)).trans h1
  rcases idx_c x1 nf (by omega) with ⟨f, hf, rfl⟩ | hx
  · obtain ⟨-, ⟨L, hL, eL⟩, -, -⟩ := hW.2.2.2.2.1.2.2.2.2.1 f hf
    have p4 : mI M 4 f = nI L := (hR.2.2.2.2.2.1 f).2.1.trans eL
    have hv : vp_in (nI f) 8 := of_eq_true (qinT (by omega) (by omega))
    have hcl : (nI f).toNatClampNeg = f := qcl (by omega)
    rcases idx_c x2 L (by omega) with ⟨i, hi, rfl⟩ | hy
    · have hv3 : vp_in (nI (40 * f + i)) 320 := of_eq_true (qinT (by omega) (by omega))
      have hc3 : (nI (40 * f + i)).toNatClampNeg = 40 * f + i := qcl (by omega)
      have e6 : mI M 6 (40 * f + i) = mI S 72 (40 * f + i) := (hR.2.2.2.2.2.1 (40 * f + i)).2.2.2.1
      have hcode : d_X5_hasCode (nI f) (nI i) M = some (nI 1, M) := by
        unfold d_X5_hasCode
        rw [if_neg (nn0 i (by omega)), okk_pos hv, hcl, p4, if_neg (of_eq_false (qleF (by omega) (by omega)))]
        rfl
      have hs : d_X11_siteOf (nI f) (nI i) M = some (nI (40 * f + i), M) := by
        unfold d_X11_siteOf
        rw [e40]
      have hr : d_X12_cache (nI f) (nI i) S = d_X12_cache_52 (nI f) (nI i) (mI S 72 (40 * f + i)) (sI S 69 0 (0 : Int32)) := by
        unfold d_X12_cache
        rw [bnd_eq, if_T hf hnf h1']
        simp only [obind]
        rw [if_neg n1z, okk_pos hv, hcl, mI_ne (by omega), eL, in_T hi (by omega)]
        simp only [obind]
        rw [if_neg n1z, e40', okk_pos hv3, hc3, mI_ne (by omega)]
      by_cases q : mI S 72 (40 * f + i) = 103 ∨ mI S 72 (40 * f + i) = 112 ∨ mI S 72 (40 * f + i) = 109
      · refine .inr (.inr ⟨40 * f + i, by omega, ?_, sI (sI S 69 0 (0 : Int32)) 69 0 (0 : Int32), ?_, mI_eq _ _ _ _, (sc_1 _ _).trans (sc_1 _ _)⟩)
        · unfold d_X11_cacheSite
          rw [cl_need hf hnf h28]
          simp only [obind]
          rw [hcode]
          simp only [obind]
          rw [if_neg n1z, hs]
          simp only [obind]
          rw [okk_pos hv3, hc3, e6, if_pos ((xi6 _).mpr q), hs]
          rfl
        · rw [hr]
          have e77 : d_X12_cache_77 (nI f) (nI i) (0 : Int32) (sI S 69 0 (0 : Int32)) = some (nI (40 * f + i), sI (sI S 69 0 (0 : Int32)) 69 0 (0 : Int32)) := by
            unfold d_X12_cache_77
            rw [bnd_eq, if_pos (le00 _), e40']
          unfold d_X12_cache_52 d_X12_cache_72
          rcases q with q | q | q
          · rw [if_pos q]; exact e77
          · rw [if_neg (by rw [q]; decide), if_pos q]; exact e77
          · rw [if_neg (by rw [q]; decide), if_neg (by rw [q]; decide), if_pos q]; exact e77
      · refine .inr (.inl ⟨?_, sI (sI S 69 0 (0 : Int32)) 69 0 (2 : Int32), ?_, mI_eq _ _ _ _, (sc_1 _ _).trans (sc_1 _ _)⟩)
        · unfold d_X11_cacheSite
          rw [cl_need hf hnf h28]
          simp only [obind]
          rw [hcode]
          simp only [obind]
          rw [if_neg n1z, hs]
          simp only [obind]
          rw [okk_pos hv3, hc3, e6, if_neg (fun z => q ((xi6 _).mp z))]
          rfl
        · rw [hr]
          unfold d_X12_cache_52 d_X12_cache_77
          rw [if_neg (fun z => q (.inl z)), if_neg (fun z => q (.inr (.inl z))), if_neg (fun z => q (.inr (.inr z))), bnd_eq, if_neg (le20 _)]
    · refine .inr (.inl ⟨?_, sI (sI S 69 0 (0 : Int32)) 69 0 (2 : Int32), ?_, mI_eq _ _ _ _, (sc_1 _ _).trans (sc_1 _ _)⟩)
      · have hcode : d_X5_hasCode (nI f) x2 M = some (nI 0, M) := by
          unfold d_X5_hasCode
          rcases hy with c | ⟨k, k1, k2, rfl⟩
          · exact if_pos c
          · rw [if_neg (nn0 k k1), okk_pos hv, hcl, p4]
            exact if_pos (of_eq_true (qleT k2 k1))
        unfold d_X11_cacheSite
        rw [cl_need hf hnf h28]
        simp only [obind]
        rw [hcode]
        simp only [obind]
        rw [if_pos z00]
        rfl
      · unfold d_X12_cache
        rw [bnd_eq, if_T hf hnf h1']
        simp only [obind]
        rw [if_neg n1z, okk_pos hv, hcl, mI_ne (by omega), eL, in_F (by omega) hy]
        simp only [obind]
        rw [if_pos z00]
        unfold d_X12_cache_52 d_X12_cache_77
        rw [if_neg (by decide), if_neg (by decide), if_neg (by decide), bnd_eq, if_neg (le20 _)]
  · refine .inl ⟨?_, sI (sI S 69 0 (0 : Int32)) 69 0 (1 : Int32), ?_, mI_eq _ _ _ _, (sc_1 _ _).trans (sc_1 _ _)⟩
    · unfold d_X11_cacheSite
      rw [cl_needF h28 hx]
      rfl
    · unfold d_X12_cache
      rw [bnd_eq, if_F hnf h1' hx]
      simp only [obind]
      rw [if_pos z00]
      rfl
theorem inv_c {M S : Mem} {cnt ns nc nf : Nat} (h : INV M S cnt ns nc nf) : CAC M S ∧ CAW S ∧ WHL M S ∧ mI M 1 5 = nI 1 := by
  obtain ⟨B, H, G, F, b, fg, ob, -, -, -, -, -, h6, h7, h8, -, -, -, -, h13, -⟩ := h
  exact ⟨h7, h8, h6, h13⟩
theorem inv_h {M S : Mem} {cnt ns nc nf : Nat} (h : INV M S cnt ns nc nf) : HDR M S cnt := by
  obtain ⟨B, H, G, F, b, fg, ob, -, -, -, -, h5, -⟩ := h
  exact h5
theorem m1ne (j : Nat) (hj : j < 320) : ¬ nI j = (-1 : Int32) := of_eq_false (qneg_ne (by omega))
theorem a_inTraces {M S : Mem} {cnt ns nc nf : Nat} (hI : INV M S cnt ns nc nf) : ASI d_X11_inTraces d_X12_inTraces M S := by
  obtain ⟨-, -, hL, -⟩ := inv_c hI
  refine ⟨mI S 69 58, sI S 69 0 (0 : Int32), ?_, ?_, sc_1 _ _⟩
  · unfold d_X11_inTraces
    rw [hL.2.2]
  · unfold d_X12_inTraces
    rw [bnd_eq, mI_ne (by omega)]
theorem a_agrees {M S : Mem} {cnt ns nc nf : Nat} (hI : INV M S cnt ns nc nf) : ASI d_X11_agrees d_X12_agrees M S := by
  obtain ⟨-, -, -, h⟩ := inv_c hI
  refine ⟨nI 1, sI S 69 0 (0 : Int32), ?_, ?_, sc_1 _ _⟩
  · unfold d_X11_agrees
    rw [h]
    exact okk_pos (.inr rfl)
  · rfl
theorem a_codeSize {M S : Mem} {cnt ns nc nf : Nat} (hI : INV M S cnt ns nc nf) : ASI d_X11_codeSize d_X12_codeSize M S := by
  obtain ⟨B, hF⟩ := inv_f hI
  have hF2 : FOR M (sI S 69 0 (0 : Int32)) B cnt := FOR_x hF (fun _ _ _ => rfl) (fun _ _ _ => rfl) (fun _ => rfl) (Nat.le_refl _) (fun a j _ _ => mI_ne (by omega)) (fun j _ => mI_ne (by omega))
  refine ⟨nI (szF (sI S 69 0 (0 : Int32)) cnt), sI S 69 0 (0 : Int32), ?_, ?_, sc_1 _ _⟩
  · unfold d_X11_codeSize
    rw [(size_both hF2).1]
    rfl
  · unfold d_X12_codeSize
    rw [bnd_eq, (size_both hF2).2]
    rfl
theorem a_hits {M S : Mem} {cnt ns nc nf : Nat} {x1 x2 : Int32} (hI : INV M S cnt ns nc nf) : ASK (d_L_hits x1 x2) (d_X12_hits x1 x2) M S := by
  obtain ⟨hC, hCW, -, -⟩ := inv_c hI
  rcases cache_ask (x1 := x1) (x2 := x2) hI with ⟨h, E, e, e0, hs⟩ | ⟨h, E, e, e0, hs⟩ | ⟨j, hj, h, E, e, e0, hs⟩
  · refine ask_t (k := nI 1) (v := nI 0) (E := E) (lE1_hits ?_) ?_ e0 n1n hs
    · unfold d_X11_hits
      rw [h]
      rfl
    · unfold d_X12_hits
      rw [e]
      rfl
  · refine ask_t (k := nI 2) (v := nI 0) (E := E) (lE2_hits ?_) ?_ e0 n2n hs
    · unfold d_X11_hits
      rw [h]
      rfl
    · unfold d_X12_hits
      rw [e]
      rfl
  · have hv : vp_in (nI j) 320 := of_eq_true (qinT hj (by omega))
    have hcl : (nI j).toNatClampNeg = j := qcl (by omega)
    refine ask_v (v := mI S 85 j) (E := E) (lT_hits ?_) ?_ e0 hs
    · unfold d_X11_hits
      rw [h]
      simp only [obind]
      rw [okk_pos hv, hcl, (hC j).2.2.1]
    · unfold d_X12_hits
      rw [e]
      simp only [obind]
      rw [if_neg (m1ne j hj)]
      rw [okk_pos hv, hcl, hs.1 _ _ (by omega)]
theorem a_misses {M S : Mem} {cnt ns nc nf : Nat} {x1 x2 : Int32} (hI : INV M S cnt ns nc nf) : ASK (d_L_misses x1 x2) (d_X12_misses x1 x2) M S := by
  obtain ⟨hC, hCW, -, -⟩ := inv_c hI
  rcases cache_ask (x1 := x1) (x2 := x2) hI with ⟨h, E, e, e0, hs⟩ | ⟨h, E, e, e0, hs⟩ | ⟨j, hj, h, E, e, e0, hs⟩
  · refine ask_t (k := nI 1) (v := nI 0) (E := E) (lE1_misses ?_) ?_ e0 n1n hs
    · unfold d_X11_misses
      rw [h]
      rfl
    · unfold d_X12_misses
      rw [e]
      rfl
  · refine ask_t (k := nI 2) (v := nI 0) (E := E) (lE2_misses ?_) ?_ e0 n2n hs
    · unfold d_X11_misses
      rw [h]
      rfl
    · unfold d_X12_misses
      rw [e]
      rfl
  · have hv : vp_in (nI j) 320 := of_eq_true (qinT hj (by omega))
    have hcl : (nI j).toNatClampNeg = j := qcl (by omega)
    refine ask_v (v := mI S 86 j) (E := E) (lT_misses ?_) ?_ e0 hs
    · unfold d_X11_misses
      rw [h]
      simp only [obind]
      rw [okk_pos hv, hcl, (hC j).2.2.2]
    · unfold d_X12_misses
      rw [e]
      simp only [obind]
      rw [if_neg (m1ne j hj)]
      rw [okk_pos hv, hcl, hs.1 _ _ (by omega)]
theorem a_cacheState {M S : Mem} {cnt ns nc nf : Nat} {x1 x2 : Int32} (hI : INV M S cnt ns nc nf) : ASK (d_L_cacheState x1 x2) (d_X12_cacheState x1 x2) M S := by
  obtain ⟨hC, hCW, -, -⟩ := inv_c hI
  rcases cache_ask (x1 := x1) (x2 := x2) hI with ⟨h, E, e, e0, hs⟩ | ⟨h, E, e, e0, hs⟩ | ⟨j, hj, h, E, e, e0, hs⟩
  · refine ask_t (k := nI 1) (v := nI 0) (E := E) (lE1_cacheState ?_) ?_ e0 n1n hs
    · unfold d_X11_cacheState
      rw [h]
      rfl
    · unfold d_X12_cacheState
      rw [e]
      rfl
  · refine ask_t (k := nI 2) (v := nI 0) (E := E) (lE2_cacheState ?_) ?_ e0 n2n hs
    · unfold d_X11_cacheState
      rw [h]
      rfl
    · unfold d_X12_cacheState
      rw [e]
      rfl
  · have hv : vp_in (nI j) 320 := of_eq_true (qinT hj (by omega))
    have hcl : (nI j).toNatClampNeg = j := qcl (by omega)
    have hcs : ∀ n, n < 4 → (((48 : Int32) + nI n).toUInt32 % 65536).toInt32 = nI (48 + n) := fun n hn => by rw [show (48 : Int32) = nI 48 from rfl, qadd]; exact ch_cast rfl (by omega)
    have hch : isCh (if mI S 83 j = (-1 : Int32) then (120 : Int32) else if mI S 83 j = (0 : Int32) then (101 : Int32) else (((48 : Int32) + mI S 83 j).toUInt32 % 65536).toInt32) := by
      rcases hCW j hj with c | ⟨n, n1, c⟩
      · have c9 : mI S 83 j = (-1 : Int32) := c
        rw [if_pos c9]; exact of_eq_true (qchT (a := 120) (by omega))
      · rw [if_neg (show ¬ mI S 83 j = (-1 : Int32) by rw [c]; exact of_eq_false (qneg_ne (by omega)))]
        by_cases n0 : mI S 83 j = (0 : Int32)
        · rw [if_pos n0]; exact of_eq_true (qchT (a := 101) (by omega))
        · rw [if_neg n0, c, hcs n n1]; exact of_eq_true (qchT (by omega))
    have e41 : mI M 41 j = mI S 83 j := (hC j).2.1
    have hst : d_X0_stateAt (nI j) M = some (if mI S 83 j = (-1 : Int32) then (120 : Int32) else if mI S 83 j = (0 : Int32) then (101 : Int32) else (((48 : Int32) + mI S 83 j).toUInt32 % 65536).toInt32, M) := by
      unfold d_X0_stateAt
      rw [okk_pos hv, hcl, e41]
      by_cases c1 : mI S 83 j = (-1 : Int32)
      · rw [if_pos c1, if_pos c1]
      · by_cases c2 : mI S 83 j = (0 : Int32)
        · rw [if_neg c1, okk_pos hv, if_pos c2, if_neg c1, if_pos c2]
        · rw [if_neg c1, if_neg c2] at hch
          rw [if_neg c1, okk_pos hv, if_neg c2, okk_pos hv, if_neg c1, if_neg c2]
          exact okk_pos hch
    refine ask_v (v := if mI S 83 j = (-1 : Int32) then (120 : Int32) else if mI S 83 j = (0 : Int32) then (101 : Int32) else (((48 : Int32) + mI S 83 j).toUInt32 % 65536).toInt32) (E := E) (lT_cacheState ?_) ?_ e0 hs
    · unfold d_X11_cacheState
      rw [h]
      simp only [obind]
      rw [hst]
      simp only [obind]
      exact okk_pos hch
    · unfold d_X12_cacheState
      rw [e]
      simp only [obind]
      rw [if_neg (m1ne j hj)]
      rw [okk_pos hv, hcl, hs.1 _ _ (by omega)]
      rcases hCW j hj with c | ⟨n, n1, c⟩
      · have c9 : mI S 83 j = (-1 : Int32) := c
        rw [if_pos c9, if_pos c9]
      · by_cases n0 : n = 0
        · have c1 : ¬ mI S 83 j = (-1 : Int32) := by rw [c]; exact of_eq_false (qneg_ne (by omega))
          have c2 : mI S 83 j = (0 : Int32) := by rw [c, n0]; rfl
          rw [if_neg c1, okk_pos hv, if_pos c2, if_neg c1, if_pos c2]
        · have c1 : ¬ mI S 83 j = (-1 : Int32) := by rw [c]; exact of_eq_false (qneg_ne (by omega))
          have c2 : ¬ mI S 83 j = (0 : Int32) := by rw [c, l_0]; exact of_eq_false (qeqF n0 (by omega) (by omega))
          rw [if_neg c1, okk_pos hv, if_neg c2, okk_pos hv, if_neg c1, if_neg c2]
          rw [if_neg c1, if_neg c2] at hch
          rw [c, hcs n n1] at hch ⊢
          exact okk_pos hch
end MZ5
