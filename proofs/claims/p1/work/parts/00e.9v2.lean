/-! ===== setters: steps that are asked for ===== -/
section MV2
/-- a step that is asked for: its letter and, for a cell, its operand -/
def hsP (S : Mem) (c : Nat) (x : Int32) (s : Nat) : Prop := mI S 72 s = nI c ∧ (c = 109 ∨ mI S 73 s = x)
/-- one of the first k steps of trace t is asked for -/
def hsQ (S : Mem) (t c : Nat) (x : Int32) (k : Nat) : Prop := ∃ j f i, j < k ∧ f < 8 ∧ i < 40 ∧ mI S 91 (30 * t + j) = nI (100 * f + i) ∧ hsP S c x (40 * f + i)
theorem hsQ_0 {S : Mem} {t c : Nat} {x : Int32} : ¬ hsQ S t c x 0 := fun ⟨j, _, _, h, _⟩ => absurd h (by omega)
theorem hsQ_s {S : Mem} {t c k f i : Nat} {x : Int32} (hf : f < 8) (hi : i < 40) (hl : mI S 91 (30 * t + k) = nI (100 * f + i)) : hsQ S t c x (k + 1) ↔ (hsQ S t c x k ∨ hsP S c x (40 * f + i)) := by
  constructor
  · rintro ⟨j, f2, i2, h1, h2, h3, h4, h5⟩
    by_cases q : j = k
    · subst q
      have := qinj (by omega) (by omega) (h4.symm.trans hl)
      obtain rfl : f2 = f := by omega
      obtain rfl : i2 = i := by omega
      exact .inr h5
    · exact .inl ⟨j, f2, i2, by omega, h2, h3, h4, h5⟩
  · rintro (⟨j, f2, i2, h1, h2⟩ | h)
    · exact ⟨j, f2, i2, by omega, h2⟩
    · exact ⟨k, f, i, Nat.lt_succ_self _, hf, hi, hl, h⟩
theorem hsQ_e {S E : Mem} {t c k : Nat} {x : Int32} (h : ∀ a j, a = 72 ∨ a = 73 ∨ a = 91 → mI E a j = mI S a j) (hq : hsQ E t c x k) : hsQ S t c x k := by
  obtain ⟨j, f, i, h1, h2, h3, h4, h5, h6⟩ := hq
  rw [h 91 _ (by omega)] at h4
  rw [h 72 _ (by omega)] at h5
  rw [h 73 _ (by omega)] at h6
  exact ⟨j, f, i, h1, h2, h3, h4, h5, h6⟩
theorem ln_r {f i : Nat} (hf : f < 8) (hi : i < 40) : (40 : Int32) * (nI (100 * f + i) / (100 : Int32)) + (nI (100 * f + i) - nI (100 * f + i) / (100 : Int32) * (100 : Int32)) = nI (40 * f + i) := by
  rw [l_100, l_40, qdiv (by omega) (by omega), show (100 * f + i) / 100 = f by omega, qmul, qmul, qsub (by omega), qadd]
  exact congrArg nI (by omega)
theorem ln_c {f i : Nat} (hf : f < 8) (hi : i < 40) : nI (100 * f + i) / (100 : Int32) * (40 : Int32) + (nI (100 * f + i) - nI (100 * f + i) / (100 : Int32) * (100 : Int32)) = nI (40 * f + i) := by
  rw [l_100, l_40, qdiv (by omega) (by omega), show (100 * f + i) / 100 = f by omega, qmul, qmul, qsub (by omega), qadd]
  exact congrArg nI (by omega)
theorem slc_l {M : Mem} {f i : Nat} (hf : f < 8) (hi : i < 40) : d_X11_siteOfLine (nI (100 * f + i)) M = some (nI (40 * f + i), M) := by
  unfold d_X11_siteOfLine d_X11_siteOf
  simp only [obind]
  rw [ln_c hf hi]
theorem hsR_l {S : Mem} {k5 : (Int32 × Int32) → Mem → Option (Int32 × Mem)} {t c st : Nat} {x2 x3 x : Int32} (hx : (c = 109 ∧ x2 = -1) ∨ (c ≠ 109 ∧ ¬ x2 = (-1 : Int32) ∧ x2 = x)) (ht : t < 20) (h90 : mI S 90 t = nI st) (hst : st ≤ 30) (h89 : ¬ mI S 89 t = (0 : Int32)) (hl : ∀ k, k < st → ∃ f i, f < 8 ∧ i < 40 ∧ mI S 91 (30 * t + k) = nI (100 * f + i)) : ∀ (j k N : Nat), st = k + j → j < N → d_X12_throwsWith_20 k5 (nI c) x2 x3 (nI t) N (pB (hsQ S t c x k), nI k) S = d_X12_throwsWith_125 k5 (nI c) x2 x3 (nI t) (pB (hsQ S t c x st)) S := by
  have hv : vp_in (nI t) 20 := of_eq_true (qinT (by omega) (by omega))
  have hct : (nI t).toNatClampNeg = t := qcl (by omega)
  intro j
  induction j with
  | zero =>
    intro k N hk hN
    obtain ⟨m, rfl, hm⟩ := ex_pred hN
    obtain rfl : st = k := by omega
    rw [st_X12_throwsWith_20]
    unfold d_X12_throwsWith_20b
    dsimp only
    rw [okk_pos hv, hct, h90, if_pos (of_eq_true (qleT (Nat.le_refl _) (by omega)))]
  | succ j ih =>
    intro k N hk hN
    obtain ⟨m, rfl, hm⟩ := ex_pred hN
    have i1 := ih (k + 1) m (by omega) (by omega)
    obtain ⟨f, i, hf, hi, hL⟩ := hl k (by omega)
    have hs := hsQ_s (c := c) (x := x) hf hi hL
    have e0 : (30 : Int32) * nI t + nI k = nI (30 * t + k) := by rw [l_30, qmul, qadd]
    have hv2 : vp_in (nI (30 * t + k)) 600 := of_eq_true (qinT (by omega) (by omega))
    have hc2 : (nI (30 * t + k)).toNatClampNeg = 30 * t + k := qcl (by omega)
    have hv3 : vp_in (nI (40 * f + i)) 320 := of_eq_true (qinT (by omega) (by omega))
    have hc3 : (nI (40 * f + i)).toNatClampNeg = 40 * f + i := qcl (by omega)
    have ek : nI k + (1 : Int32) = nI (k + 1) := by rw [l_1, qadd]
    rw [st_X12_throwsWith_20]
    unfold d_X12_throwsWith_20b
    dsimp only
    rw [okk_pos hv, hct, h90, if_neg (of_eq_false (qleF (by omega) (by omega))), okk_pos hv, if_neg h89, e0, okk_pos hv2, okk_pos hv2, hc2, hL, bnd_eq, ln_r hf hi]
    unfold d_X12_throwsWith_112 d_X12_throwsWith_116 d_X12_throwsWith_117
    simp only [bnd_eq]
    rw [ek]
    by_cases q : hsQ S t c x k
    · rw [pBT q, if_neg n1z]
      rw [pBT (hs.mpr (.inl q))] at i1
      exact i1
    · rw [pBF q, if_pos z00, okk_pos hv3, hc3]
      by_cases q1 : mI S 72 (40 * f + i) = nI c
      · rw [if_pos q1]
        rcases hx with ⟨h1, h2⟩ | ⟨h1, h2, h3⟩
        · rw [if_pos h2]
          rw [pBT (hs.mpr (.inr ⟨q1, .inl h1⟩))] at i1
          exact i1
        · rw [if_neg h2, okk_pos hv3]
          by_cases q2 : mI S 73 (40 * f + i) = x2
          · rw [if_pos q2]
            rw [pBT (hs.mpr (.inr ⟨q1, .inr (q2.trans h3)⟩))] at i1
            exact i1
          · rw [if_neg q2]
            rw [pBF (fun z => (hs.mp z).elim q (fun y => y.2.elim h1 (fun y2 => q2 (y2.trans h3.symm))))] at i1
            exact i1
      · rw [if_neg q1]
        rw [pBF (fun z => (hs.mp z).elim q (fun y => q1 y.1))] at i1
        exact i1
theorem hsC_l {M S : Mem} {B : Nat → Nat} {fg : Nat → Nat} {t c st gm : Nat} {x3 x : Int32} (hc : c < 1000) (hx : c = 109 ∨ (c ≠ 109 ∧ x3 = x)) (hT : TRC M S B t st gm fg) (hPR : PR M S) (hl : ∀ k, k < st → ∃ f i, f < 8 ∧ i < 40 ∧ mI S 91 (30 * t + k) = nI (100 * f + i)) : ∀ (j k N : Nat), st = k + j → j < N → d_X1_hasStep_6 (B t) (nI c) x3 N (pB (hsQ S t c x k), nI k) M = some (pB (hsQ S t c x st), M) := by
  have hk9 := hT.1.2.1
  have h0 := hT.2.1.1
  have hst := hT.2.1.2.2.2
  have hR2 : mR M (B t) 2 = some (B t + 1) := (hT.1.2.2.2.1 0 (by omega)).1
  have hk21 : mK M (B t + 1) = 21 := (hT.1.2.2.2.1 0 (by omega)).2
  have hn1 : mN M (B t + 1) = st := hT.1.2.2.2.2.1
  have hbo : ∀ p : Prop, isBo (pB p) := fun p => by
    by_cases h : p
    · rw [pBT h]; exact .inr rfl
    · rw [pBF h]; exact .inl rfl
  intro j
  induction j with
  | zero =>
    intro k N hk hN
    obtain ⟨m, rfl, hm⟩ := ex_pred hN
    obtain rfl : st = k := by omega
    rw [st_X1_hasStep_6]
    unfold d_X1_hasStep_6b
    dsimp only
    rw [okk_pos hk9, h0, if_pos (of_eq_true (qleT (Nat.le_refl _) (by omega))), okk_pos (hbo _)]
  | succ j ih =>
    intro k N hk hN
    obtain ⟨m, rfl, hm⟩ := ex_pred hN
    have i1 := ih (k + 1) m (by omega) (by omega)
    obtain ⟨f, i, hf, hi, hL⟩ := hl k (by omega)
    have hs := hsQ_s (c := c) (x := x) hf hi hL
    have h91 : mI M (B t + 1) k = nI (100 * f + i) := (hT.2.2.2.2.1 k (by omega)).trans hL
    have hv2 : vp_in (nI k) st := of_eq_true (qinT (by omega) (by omega))
    have hc2 : (nI k).toNatClampNeg = k := qcl (by omega)
    have hv3 : vp_in (nI (40 * f + i)) 320 := of_eq_true (qinT (by omega) (by omega))
    have hc3 : (nI (40 * f + i)).toNatClampNeg = 40 * f + i := qcl (by omega)
    have ek : nI k + (1 : Int32) = nI (k + 1) := by rw [l_1, qadd]
    have e6 : mI M 6 (40 * f + i) = mI S 72 (40 * f + i) := (hPR.1 _).2.2.2.1
    have e7 : mI M 7 (40 * f + i) = mI S 73 (40 * f + i) := (hPR.1 _).2.2.2.2.1
    rw [st_X1_hasStep_6]
    unfold d_X1_hasStep_6b
    dsimp only
    rw [okk_pos hk9, h0, if_neg (of_eq_false (qleF (by omega) (by omega))), okk_pos hk9, hR2]
    simp only [obind]
    rw [okk_pos hk21, hn1, okk_pos hv2, hc2, h91, slc_l hf hi]
    simp only [obind]
    unfold d_X1_hasStep_66 d_X1_hasStep_70 d_X1_hasStep_71
    simp only [bnd_eq]
    rw [ek]
    by_cases q : hsQ S t c x k
    · rw [pBT q, if_neg n1z]
      rw [pBT (hs.mpr (.inl q))] at i1
      exact i1
    · rw [pBF q, if_pos z00, okk_pos hv3, hc3, e6]
      by_cases q1 : mI S 72 (40 * f + i) = nI c
      · rw [if_pos q1]
        rcases hx with h1 | ⟨h1, h3⟩
        · rw [if_pos (show nI c = (109 : Int32) by rw [h1]; rfl)]
          rw [pBT (hs.mpr (.inr ⟨q1, .inl h1⟩))] at i1
          exact i1
        · rw [if_neg (show ¬ nI c = (109 : Int32) by rw [l_109]; exact of_eq_false (qeqF h1 (by omega) (by omega))), okk_pos hv3, e7]
          by_cases q2 : mI S 73 (40 * f + i) = x3
          · rw [if_pos q2]
            rw [pBT (hs.mpr (.inr ⟨q1, .inr (q2.trans h3)⟩))] at i1
            exact i1
          · rw [if_neg q2]
            rw [pBF (fun z => (hs.mp z).elim q (fun y => y.2.elim h1 (fun y2 => q2 (y2.trans h3.symm))))] at i1
            exact i1
      · rw [if_neg q1]
        rw [pBF (fun z => (hs.mp z).elim q (fun y => q1 y.1))] at i1
        exact i1
theorem hsC_ok {M S : Mem} {B : Nat → Nat} {fg : Nat → Nat} {t c st gm : Nat} {x3 x : Int32} (hc : c < 1000) (hx : c = 109 ∨ (c ≠ 109 ∧ x3 = x)) (hT : TRC M S B t st gm fg) (hPR : PR M S) (hl : ∀ k, k < st → ∃ f i, f < 8 ∧ i < 40 ∧ mI S 91 (30 * t + k) = nI (100 * f + i)) : d_X1_hasStep (B t) (nI c) x3 M = some (pB (hsQ S t c x st), M) := by
  have h := hsC_l hc hx hT hPR hl st 0 fuel (by omega) (by have := fuel_big; have := hT.2.1.2.2.2; omega)
  rw [pBF hsQ_0] at h
  exact h
theorem hsR_ok {S : Mem} {k5 : (Int32 × Int32) → Mem → Option (Int32 × Mem)} {t c st : Nat} {x2 x3 x : Int32} (hx : (c = 109 ∧ x2 = -1) ∨ (c ≠ 109 ∧ ¬ x2 = (-1 : Int32) ∧ x2 = x)) (ht : t < 20) (h90 : mI S 90 t = nI st) (hst : st ≤ 30) (h89 : ¬ mI S 89 t = (0 : Int32)) (hl : ∀ k, k < st → ∃ f i, f < 8 ∧ i < 40 ∧ mI S 91 (30 * t + k) = nI (100 * f + i)) : d_X12_throwsWith_20 k5 (nI c) x2 x3 (nI t) fuel ((0 : Int32), (0 : Int32)) S = d_X12_throwsWith_125 k5 (nI c) x2 x3 (nI t) (pB (hsQ S t c x st)) S := by
  have h := hsR_l (k5 := k5) (x3 := x3) hx ht h90 hst h89 hl st 0 fuel (by omega) (by have := fuel_big; omega)
  rw [pBF hsQ_0] at h
  exact h
theorem hsR_no {S : Mem} {k5 : (Int32 × Int32) → Mem → Option (Int32 × Mem)} {t st : Nat} {x1 x2 x3 : Int32} (ht : t < 20) (h90 : mI S 90 t = nI st) (h1 : 1 ≤ st) (hst : st ≤ 30) (h89 : mI S 89 t = (0 : Int32)) : d_X12_throwsWith_20 k5 x1 x2 x3 (nI t) fuel ((0 : Int32), (0 : Int32)) S = d_X12_throwsWith_125 k5 x1 x2 x3 (nI t) (0 : Int32) S := by
  have hv : vp_in (nI t) 20 := of_eq_true (qinT (by omega) (by omega))
  have hct : (nI t).toNatClampNeg = t := qcl (by omega)
  have h : ∀ N, 0 < N → d_X12_throwsWith_20 k5 x1 x2 x3 (nI t) N ((0 : Int32), (0 : Int32)) S = d_X12_throwsWith_125 k5 x1 x2 x3 (nI t) (0 : Int32) S := by
    intro N hN
    obtain ⟨m, rfl, hm⟩ := ex_pred hN
    rw [st_X12_throwsWith_20]
    unfold d_X12_throwsWith_20b
    dsimp only
    rw [okk_pos hv, hct, h90, if_neg (show ¬ nI st ≤ (0 : Int32) by rw [l_0]; exact of_eq_false (qleF (by omega) (by omega))), okk_pos hv, if_pos h89]
  exact h fuel (by have := fuel_big; omega)
end MV2
