/-! ===== a shape comes to be, in both ===== -/
section MR6
theorem shM_o {S : Mem} {s n t z a j : Nat} (h : (a ≠ 79 ∨ j ≠ t) ∧ (a ≠ 80 ∨ j ≠ t) ∧ (a ≠ 69 ∨ j ≠ 12) ∧ (a ≠ 81 ∨ j < 6 * t ∨ 6 * t + z < j) ∧ (a ≠ 82 ∨ j ≠ 6 * s + n)) : mI (shM S s n t z) a j = mI S a j := by
  unfold shM
  rw [mI_ne (by omega), mI_ne (by omega), mI_ne (by omega)]
  by_cases e : a = 81
  · subst e
    rw [cpF_81, if_neg (by omega), mI_ne (by omega), mI_ne (by omega), mI_ne (by omega)]
  · rw [cpF_n _ _ _ e, mI_ne (by omega), mI_ne (by omega), mI_ne (by omega)]
theorem shM_D (S : Mem) (s n t z a j : Nat) : mD (shM S s n t z) a j = mD S a j := by unfold shM; rw [mD_sI, mD_sI, mD_sI, cpF_D]; rfl
theorem shM_L (S : Mem) (s n t z a j : Nat) : mL (shM S s n t z) a j = mL S a j := by unfold shM; rw [mL_sI, mL_sI, mL_sI, cpF_L]; rfl
theorem shM_t (S : Mem) (s n t z : Nat) : (shM S s n t z).2.2.2 = S.2.2.2 := by
  unfold shM
  show (cpF _ s t z).2.2.2 = _
  rw [cpF_t]; rfl
theorem shM_82 (S : Mem) (s n t z : Nat) : mI (shM S s n t z) 82 (6 * s + n) = nI t := mI_eq _ _ _ _
theorem shM_12 (S : Mem) (s n t z : Nat) : mI (shM S s n t z) 69 12 = nI (t + 1) := by unfold shM; rw [mI_ne (by omega), mI_ne (by omega), mI_ne (by omega), cpF_n _ _ _ (by decide), mI_eq]
theorem shM_79 (S : Mem) (s n t z : Nat) : mI (shM S s n t z) 79 t = mI S 79 s := by unfold shM; rw [mI_ne (by omega), mI_ne (by omega), mI_ne (by omega), cpF_n _ _ _ (by decide), mI_ne (by omega), mI_ne (by omega), mI_eq]
theorem shM_80 (S : Mem) (s n t z : Nat) : mI (shM S s n t z) 80 t = nI (z + 1) := by unfold shM; rw [mI_ne (by omega), mI_ne (by omega), mI_eq]
theorem shM_81z (S : Mem) (s n t z : Nat) : mI (shM S s n t z) 81 (6 * t + z) = nI n := by unfold shM; rw [mI_ne (by omega), mI_eq]
theorem shM_81 (S : Mem) {s n t z k : Nat} (hst : s < t) (hk : k < z) (hz : z ≤ 6) : mI (shM S s n t z) 81 (6 * t + k) = mI S 81 (6 * s + k) := by
  unfold shM
  rw [mI_ne (by omega), mI_ne (by omega), mI_ne (by omega), cpF_81, if_pos (by omega), Nat.add_sub_cancel_left, mI_ne (by omega), mI_ne (by omega), mI_ne (by omega)]
theorem sbM_o {M : Mem} {s n t z a j : Nat} (h : (a ≠ 12 ∨ j ≠ t) ∧ (a ≠ 13 ∨ j ≠ t) ∧ (a ≠ 14 ∨ j ≠ t) ∧ (a ≠ 11 ∨ j ≠ 6) ∧ (a ≠ 15 ∨ j < 6 * t ∨ 6 * t + z < j) ∧ (a ≠ 16 ∨ (j ≠ 6 * s + n ∧ j < 6 * t))) : mI (sbM M s n t z) a j = mI M a j := by
  unfold sbM
  rw [mI_ne (by omega), mI_ne (by omega), mI_ne (by omega), mI_ne (by omega)]
  by_cases e : a = 15
  · subst e
    rw [coF_15, if_neg (by omega), aeM_n (by omega)]
  · rw [coF_n _ _ _ e, aeM_n (by omega)]
theorem aeM_D (M : Mem) (t : Nat) (c : Int32) (a j : Nat) : mD (aeM M t c) a j = mD M a j := by unfold aeM; rw [mD_sI, nfF_D]; rfl
theorem sbM_D (M : Mem) (s n t z a j : Nat) : mD (sbM M s n t z) a j = mD M a j := by unfold sbM; rw [mD_sI, mD_sI, mD_sI, mD_sI, coF_D, aeM_D]
theorem sbM_t2 (M : Mem) (s n t z : Nat) : (sbM M s n t z).2 = M.2 := by
  unfold sbM
  show (coF _ s t z).2 = _
  rw [coF_t]
  unfold aeM
  show (nfF _ t 6).2 = _
  rw [nfF_t]; rfl
theorem sbM_16 (M : Mem) (s n t z : Nat) : mI (sbM M s n t z) 16 (6 * s + n) = nI t := mI_eq _ _ _ _
theorem sbM_16n (M : Mem) {s n t z k : Nat} (hst : s < t) (hn : n < 6) (hk : k < 6) : mI (sbM M s n t z) 16 (6 * t + k) = -nI 1 := by
  unfold sbM aeM
  rw [mI_ne (by omega), mI_ne (by omega), mI_ne (by omega), mI_ne (by omega), coF_n _ _ _ (by decide), mI_ne (by omega), nfF_16, if_pos (by omega)]
theorem sbM_14 (M : Mem) (s n t z : Nat) : mI (sbM M s n t z) 14 t = mI M 14 s ||| (nI 1 <<< (nI n &&& nI 31)) := by unfold sbM; rw [mI_ne (by omega), mI_eq]
theorem sbM_13 (M : Mem) (s n t z : Nat) : mI (sbM M s n t z) 13 t = nI (z + 1) := by unfold sbM; rw [mI_ne (by omega), mI_ne (by omega), mI_eq]
theorem sbM_12 (M : Mem) (s n t z : Nat) : mI (sbM M s n t z) 12 t = mI M 12 s := by
  unfold sbM aeM
  rw [mI_ne (by omega), mI_ne (by omega), mI_ne (by omega), mI_ne (by omega), coF_n _ _ _ (by decide), mI_ne (by omega), nfF_n _ _ (by decide), mI_ne (by omega), mI_ne (by omega), mI_eq]
theorem sbM_11 (M : Mem) (s n t z : Nat) : mI (sbM M s n t z) 11 6 = nI (t + 1) := by
  unfold sbM aeM
  rw [mI_ne (by omega), mI_ne (by omega), mI_ne (by omega), mI_ne (by omega), coF_n _ _ _ (by decide), mI_eq]
theorem sbM_15z (M : Mem) (s n t z : Nat) : mI (sbM M s n t z) 15 (6 * t + z) = nI n := by unfold sbM; rw [mI_ne (by omega), mI_ne (by omega), mI_ne (by omega), mI_eq]
theorem sbM_15 (M : Mem) {s n t z k : Nat} (hst : s < t) (hk : k < z) (hz : z ≤ 6) : mI (sbM M s n t z) 15 (6 * t + k) = mI M 15 (6 * s + k) := by
  unfold sbM
  rw [mI_ne (by omega), mI_ne (by omega), mI_ne (by omega), mI_ne (by omega), coF_15, if_pos (by omega), Nat.add_sub_cancel_left, aeM_n (by omega)]
/-- the names of the new shape -/
theorem hasF_new {S : Mem} {s n t z m : Nat} (hst : s < t) (hz : mI S 80 s = nI z) (hz1 : z < 6) : hasF (shM S s n t z) t m ↔ (hasF S s m ∨ nI n = nI m) := by
  unfold hasF
  rw [shM_80, hz, qcl (by omega), qcl (by omega)]
  constructor
  · rintro ⟨k, h1, h2⟩
    by_cases e : k = z
    · subst e; rw [shM_81z] at h2; exact Or.inr h2
    · rw [shM_81 S hst (by omega) (by omega)] at h2; exact Or.inl ⟨k, by omega, h2⟩
  · rintro (⟨k, h1, h2⟩ | h)
    · exact ⟨k, by omega, by rw [shM_81 S hst h1 (by omega)]; exact h2⟩
    · exact ⟨z, by omega, by rw [shM_81z]; exact h⟩
theorem hasF_old {S : Mem} {s n t z u m : Nat} (hut : u < t) (hu : (mI S 80 u).toNatClampNeg ≤ 6) : hasF (shM S s n t z) u m ↔ hasF S u m := by
  refine hasF_e ?_ (fun k hk => ?_) hu
  · exact shM_o (by omega)
  · exact shM_o (by omega)
theorem cN_new {S : Mem} {s n t z : Nat} (hst : s < t) (hn : n < 6) (hz : mI S 80 s = nI z) (hz1 : z < 6) (h : ¬ hasF S s n) : cN (shM S s n t z) t = cN S s + 1 := by
  have e : ∀ m, m < 6 → bI (hasF (shM S s n t z) t m) = if m = n then 1 else bI (hasF S s m) := by
    intro m hm
    by_cases q : m = n
    · subst q; rw [if_pos rfl]; exact bIT ((hasF_new hst hz hz1).mpr (Or.inr rfl))
    · rw [if_neg q]
      exact bIc ((hasF_new hst hz hz1).trans ⟨fun r => r.elim id (fun y => absurd (qinj (by omega) (by omega) y).symm q), Or.inl⟩)
  have h0 := bIF h
  unfold cN
  rw [e 0 (by omega), e 1 (by omega), e 2 (by omega), e 3 (by omega), e 4 (by omega), e 5 (by omega)]
  have : n = 0 ∨ n = 1 ∨ n = 2 ∨ n = 3 ∨ n = 4 ∨ n = 5 := by omega
  rcases this with rfl | rfl | rfl | rfl | rfl | rfl <;> simp <;> omega
theorem cN_old {S : Mem} {s n t z u : Nat} (hut : u < t) (hu : (mI S 80 u).toNatClampNeg ≤ 6) : cN (shM S s n t z) u = cN S u := by
  unfold cN
  rw [bIc (hasF_old hut hu), bIc (hasF_old hut hu), bIc (hasF_old hut hu), bIc (hasF_old hut hu), bIc (hasF_old hut hu), bIc (hasF_old hut hu)]
theorem hM_new {M : Mem} {s n t z m : Nat} (hn : n < 6) (hm : m < 6) : hM (sbM M s n t z) t m ↔ (hM M s m ∨ m = n) := by
  rw [hM_bit _ _ hm, hM_bit _ _ hm, sbM_14, hbit_or _ hn hm]
  simp
theorem hM_old {M : Mem} {s n t z u m : Nat} (hut : u < t) : hM (sbM M s n t z) u m ↔ hM M u m := hM_e (sbM_o (by omega))
theorem shape_new {M S : Mem} {o d s n t ob nc nf : Nat} (ho : isO o) (hR : RC M S o d t) (hW : WW S d ob t nc nf) (ht : t < 60) (hst : s < t) (hn : n < 6) (h : ¬ hasF S s n) (hf : mI S 82 (6 * s + n) = -nI 1) :
    RC (sbM M s n t (cN S s)) (shM S s n t (cN S s)) o d (t + 1) ∧ WW (shM S s n t (cN S s)) d ob (t + 1) nc nf := by
  obtain ⟨hRV, hRF, hRT, hRO, hRA, hRS, hPR⟩ := hR
  obtain ⟨hWA, hWV, hWC, hWO, hWF, hWS, hWP, hWE⟩ := hW
  have ho2 : o = 18 ∨ o = 28 := ho
  have hz1 := cN_lt hn h
  obtain ⟨hs1, hs2, hs3, hs4⟩ := hWS.2.2.2.2 s hst
  have hu : ∀ u, u < t → (mI S 80 u).toNatClampNeg ≤ 6 := fun u hu => by rw [(hWS.2.2.2.2 u hu).1]; have := cN_le S u; rw [qcl (by omega)]; exact this
  have e13 := ((hRS.2.2 s hst).2.1).trans hs1
  have hnewF : ∀ m, hasF (shM S s n t (cN S s)) t m ↔ (hasF S s m ∨ nI n = nI m) := fun m => hasF_new hst hs1 hz1
  have holdF : ∀ u m, u < t → (hasF (shM S s n t (cN S s)) u m ↔ hasF S u m) := fun u m hut => hasF_old hut (hu u hut)
  have hnewC := cN_new hst hn hs1 hz1 h
  have holdC : ∀ u, u < t → cN (shM S s n t (cN S s)) u = cN S u := fun u hut => cN_old hut (hu u hut)
  have hnewM : ∀ m, m < 6 → (hM (sbM M s n t (cN S s)) t m ↔ (hM M s m ∨ m = n)) := fun m hm => hM_new hn hm
  have holdM : ∀ u m, u < t → (hM (sbM M s n t (cN S s)) u m ↔ hM M u m) := fun u m hut => hM_old hut
  have E82 := shM_82 S s n t (cN S s); have E12 := shM_12 S s n t (cN S s); have E79 := shM_79 S s n t (cN S s); have E80 := shM_80 S s n t (cN S s); have E81z := shM_81z S s n t (cN S s)
  have E81 : ∀ k, k < cN S s → mI (shM S s n t (cN S s)) 81 (6 * t + k) = mI S 81 (6 * s + k) := fun k hk => shM_81 S hst hk (by omega)
  have EO : ∀ a j, (a ≠ 79 ∨ j ≠ t) ∧ (a ≠ 80 ∨ j ≠ t) ∧ (a ≠ 69 ∨ j ≠ 12) ∧ (a ≠ 81 ∨ j < 6 * t ∨ 6 * t + cN S s < j) ∧ (a ≠ 82 ∨ j ≠ 6 * s + n) → mI (shM S s n t (cN S s)) a j = mI S a j := fun a j q => shM_o q
  have ED := shM_D S s n t (cN S s); have EL := shM_L S s n t (cN S s)
  have N16 := sbM_16 M s n t (cN S s); have N14 := sbM_14 M s n t (cN S s); have N13 := sbM_13 M s n t (cN S s); have N12 := sbM_12 M s n t (cN S s); have N11 := sbM_11 M s n t (cN S s); have N15z := sbM_15z M s n t (cN S s)
  have N16n : ∀ k, k < 6 → mI (sbM M s n t (cN S s)) 16 (6 * t + k) = -nI 1 := fun k hk => sbM_16n M hst hn hk
  have N15 : ∀ k, k < cN S s → mI (sbM M s n t (cN S s)) 15 (6 * t + k) = mI M 15 (6 * s + k) := fun k hk => sbM_15 M hst hk (by omega)
  have NO : ∀ a j, (a ≠ 12 ∨ j ≠ t) ∧ (a ≠ 13 ∨ j ≠ t) ∧ (a ≠ 14 ∨ j ≠ t) ∧ (a ≠ 11 ∨ j ≠ 6) ∧ (a ≠ 15 ∨ j < 6 * t ∨ 6 * t + cN S s < j) ∧ (a ≠ 16 ∨ (j ≠ 6 * s + n ∧ j < 6 * t)) → mI (sbM M s n t (cN S s)) a j = mI M a j := fun a j q => sbM_o q
  have ND := sbM_D M s n t (cN S s)
  have hcle := cN_le S s
  generalize shM S s n t (cN S s) = E at *
  generalize sbM M s n t (cN S s) = N at *
  refine ⟨⟨?_, ?_, ?_, ?_, ?_, ?_, ?_⟩, ?_, ?_, ?_, ?_, ?_, ?_, ?_, ?_⟩
  · intro p hp
    rw [NO _ p (by omega), NO _ p (by omega), ND, EO 105 p (by omega), EO 106 p (by omega), ED]
    exact hRV p hp
  · intro p hp
    rw [NO _ _ (by omega), NO _ _ (by omega), ND, EO 113 p (by omega), EO 114 p (by omega), ED]
    exact hRF p hp
  · refine ⟨fun i hi => ?_, ?_⟩
    · rw [NO _ _ (by omega), NO _ _ (by omega), ND, EO 116 i (by omega), EL]
      exact hRT.1 i hi
    · rw [NO _ _ (by omega), NO _ _ (by omega), ND, EO 69 63 (by omega), EL]
      exact hRT.2
  · unfold RO at hRO ⊢
    rw [NO o 10 (by omega), NO o 12 (by omega), NO o 11 (by omega), EO 69 52 (by omega), EO 69 57 (by omega), EO 69 59 (by omega)]
    exact ⟨hRO.1, hRO.2.1, hRO.2.2.1, fun k hk => by rw [NO _ k (by omega), EO 112 k (by omega)]; exact hRO.2.2.2 k hk⟩
  · refine ⟨by rw [NO o 9 (by omega)]; exact hRA.1, fun f hf => ?_⟩
    rw [NO _ f (by omega), NO _ f (by omega), NO _ f (by omega), EO 109 f (by omega), EO 110 f (by omega), EO 111 f (by omega)]
    exact hRA.2 f hf
  · refine ⟨N11, fun c hc => ?_, fun u hu2 => ?_⟩
    · rw [NO 17 c (by omega), EO 78 c (by omega)]; exact hRS.2.1 c hc
    · by_cases e : u = t
      · subst e
        obtain ⟨r1, r2, r3, r4, r5⟩ := hRS.2.2 s hst
        refine ⟨by rw [N12, E79]; exact r1, by rw [N13, E80], fun m hm => ?_, fun k hk => ?_, fun m hm => ?_⟩
        · rw [N16n m hm, EO 82 (6 * u + m) (by omega), hWS.2.2.1 _ (by omega) (by omega)]
        · by_cases q : k < cN S s
          · rw [N15 k q, E81 k q, E80]
            rcases r4 k (by omega) with r | r
            · exact Or.inl r
            · rw [hs1, qcl (by omega)] at r; omega
          · by_cases q2 : k = cN S s
            · subst q2; exact Or.inl (N15z.trans E81z.symm)
            · right; rw [E80, qcl (by omega)]; omega
        · rw [hnewM m hm, hnewF m, r5 m hm]
          exact ⟨fun z => z.imp id (fun y => by rw [y]), fun z => z.imp id (fun y => (qinj (by omega) (by omega) y).symm)⟩
      · have hut : u < t := by omega
        obtain ⟨r1, r2, r3, r4, r5⟩ := hRS.2.2 u hut
        refine ⟨by rw [NO 12 u (by omega), EO 79 u (by omega)]; exact r1, by rw [NO 13 u (by omega), EO 80 u (by omega)]; exact r2, fun m hm => ?_, fun k hk => ?_, fun m hm => ?_⟩
        · by_cases q : 6 * u + m = 6 * s + n
          · rw [q]; exact N16.trans E82.symm
          · rw [NO 16 _ (by omega), EO 82 _ (by omega)]; exact r3 m hm
        · rw [NO 15 _ (by omega), EO 81 _ (by omega), EO 80 u (by omega)]; exact r4 k hk
        · rw [holdM u m hut, holdF u m hut]; exact r5 m hm
  · exact PR_e hPR (fun a p _ _ => NO a p (by omega)) (EO 69 1 (by omega)) (EO 69 8 (by omega)) (fun a p _ _ => EO a p (by omega))
  · refine ⟨(EO 69 48 (by omega)).trans hWA.1, hWA.2.1, fun f hf => ?_⟩
    rw [EO 109 f (by omega), EO 110 f (by omega), EO 111 f (by omega)]
    exact hWA.2.2 f hf
  · exact WV_n hWV (fun f => EO 111 f (by omega)) (fun p => EO 105 p (by omega)) (fun p => EO 106 p (by omega)) (Nat.le_refl _)
  · exact ⟨fun p hp => by rw [EO 105 p (by omega)]; exact hWC.1 p hp, fun p hp => by rw [EO 113 p (by omega)]; exact hWC.2 p hp⟩
  · refine ⟨(EO 69 52 (by omega)).trans hWO.1, hWO.2.1, fun k hk => ?_⟩
    rw [EO 112 k (by omega)]
    obtain ⟨m, m1, m2⟩ := hWO.2.2 k hk
    exact ⟨m, by omega, m2⟩
  · intro k m hk hm hF
    rw [EO 112 k (by omega)] at hF
    obtain ⟨q, q1, q2⟩ := hWO.2.2 k hk
    rw [q2, qcl (by omega), holdF q m q1] at hF
    rw [EO 113 _ (by omega), EO 114 _ (by omega)]
    exact hWF k m hk hm (by rw [q2, qcl (by omega)]; exact hF)
  · refine ⟨E12, by omega, fun p h1 h2 => ?_, fun c hc => ?_, fun u hu2 => ?_⟩
    · rw [EO 82 p (by omega)]; exact hWS.2.2.1 p (by omega) h2
    · obtain ⟨q, q1, q2, q3⟩ := hWS.2.2.2.1 c hc
      have := hWP.2.2.2.1.1
      exact ⟨q, by omega, by rw [EO 78 c (by omega)]; exact q2, by rw [EO 80 q (by omega)]; exact q3⟩
    · by_cases e : u = t
      · subst e
        refine ⟨by rw [E80, hnewC], by rw [E79]; exact hs2, fun k hk => ?_, fun m hm => ?_⟩
        · rw [hnewC] at hk
          by_cases q : k < cN S s
          · rw [E81 k q]; exact hs3 k q
          · rw [show k = cN S s by omega, E81z]; exact ⟨n, hn, rfl⟩
        · rw [EO 82 _ (by omega)]; exact Or.inl (hWS.2.2.1 _ (by omega) (by omega))
      · have hut : u < t := by omega
        obtain ⟨r1, r2, r3, r4⟩ := hWS.2.2.2.2 u hut
        refine ⟨by rw [EO 80 u (by omega), holdC u hut]; exact r1, by rw [EO 79 u (by omega)]; exact r2, fun k hk => ?_, fun m hm => ?_⟩
        · rw [holdC u hut] at hk
          have := cN_le S u
          rw [EO 81 _ (by omega)]; exact r3 k hk
        · by_cases q : 6 * u + m = 6 * s + n
          · have q1 : u = s := by omega
            have q2 : m = n := by omega
            subst q1 q2
            refine Or.inr ⟨t, hut, by omega, E82, fun m2 hm2 => ?_⟩
            rw [hnewF m2, holdF u m2 hut]
            exact ⟨fun y => y.elim Or.inr (fun y2 => Or.inl (qinj (by omega) (by omega) y2).symm), fun y => y.elim (fun y2 => Or.inr (by rw [y2])) Or.inl⟩
          · rw [EO 82 _ (by omega)]
            rcases r4 m hm with r | ⟨v, v0, v1, v2, v3⟩
            · exact Or.inl r
            · refine Or.inr ⟨v, v0, by omega, v2, fun m2 hm2 => ?_⟩
              rw [holdF v m2 v1, holdF u m2 hut]; exact v3 m2 hm2
  · exact WP_e hWP (EO 69 1 (by omega)) (EO 69 8 (by omega)) (fun a p _ _ => EO a p (by omega))
  · unfold WE at hWE ⊢
    rw [EO 69 57 (by omega), EO 69 59 (by omega)]
    exact hWE
end MR6
