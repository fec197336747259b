/-! ===== turns: looking ahead, histories at hand ===== -/
section MU6
/-- looking ahead, in both -/
def LK (M S : Mem) (o d ns ob nc nf f i h : Nat) : Prop := (∃ x M2, isCh x = True ∧ ¬ x = nI 0 ∧ d_X12_why S = some (x, S) ∧ d_X3_failureAhead o M = some (x, M2) ∧ (M2 = M ∨ ∃ c a, M2 = ahM M o c a)) ∨ (∃ m c, mI S 71 f = nI m ∧ i < m ∧ m ≤ 40 ∧ c < 256 ∧ mI S 72 (40 * f + i) = nI c ∧ d_X12_why S = some (nI 0, S) ∧ d_X3_failureAhead o M = some (nI 45, ahM M o (nI c) (mI S 73 (40 * f + i))) ∧ STP (ahM M o (nI c) (mI S 73 (40 * f + i))) S o d ns ob nc nf (mI S 73 (40 * f + i)) (bkP S d f i h))
theorem look_p {S : Mem} {d ob ns nc nf : Nat} (hW : WW S d ob ns nc nf) : ∃ f i h, mI S 109 d = nI f ∧ f < nf ∧ nf ≤ 8 ∧ mI S 110 d = nI i ∧ i ≤ 40 ∧ mI S 111 d = nI h ∧ h ≤ 8 := by
  obtain ⟨⟨f, f1, hf⟩, ⟨i, i1, hi⟩, ⟨h, h1, hh⟩⟩ := hW.1.2.2 d (Nat.le_refl _)
  exact ⟨f, i, h, hf, f1, hW.2.2.2.2.2.2.1.2.1, hi, by omega, hh, by omega⟩
theorem LO_c {nf nc : Nat} {x a : Int32} (h : LO nf nc x a) : ∃ c, c < 256 ∧ x = nI c := by
  rcases h with h | ⟨h, -⟩ | ⟨h, -⟩ | ⟨h, -⟩ | ⟨h, -⟩ | ⟨h, -⟩ | ⟨h, -⟩
  · exact ⟨_, by omega, h⟩
  · exact ⟨_, by omega, h⟩
  · rcases h with h | h | h | h | h <;> exact ⟨_, by omega, h⟩
  · rcases h with h | h <;> exact ⟨_, by omega, h⟩
  · exact ⟨_, by omega, h⟩
  · exact ⟨_, by omega, h⟩
  · rcases h with h | h | h | h | h | h | h | h | h | h | h | h <;> exact ⟨_, by omega, h⟩
theorem look {M S : Mem} {o d ns ob nc nf f i h e : Nat} (ho : isO o) (hR : RC M S o d ns) (hW : WW S d ob ns nc nf) (hr : WR S d) (he : mI S 69 57 = nI e) (he1 : e < 1000) (hf : mI S 109 d = nI f) (hf0 : f < nf) (hi : mI S 110 d = nI i) (hi1 : i ≤ 40) (hh : mI S 111 d = nI h) (hh1 : h ≤ 8) : LK M S o d ns ob nc nf f i h := by
  have hP := hW.2.2.2.2.2.2.1
  obtain ⟨k1, ⟨m, m1, hm⟩, k3, k4⟩ := hP.2.2.2.2.1 f hf0
  by_cases q : i < m
  · obtain ⟨c, c1, c2⟩ := LO_c (k4 i (by rw [hm, qcl (by omega)]; exact q))
    rcases ahead ho hR hW hr hf hf0 hi he he1 hm q (by omega) hh hh1 with ⟨x, x1, x2, x3, x4⟩ | ⟨x1, x2, x3⟩
    · exact .inl ⟨x, _, x1, x2, x3, x4, .inr ⟨_, _, rfl⟩⟩
    · rw [c2] at x2 x3
      exact .inr ⟨m, c, hm, q, by omega, c1, c2, x1, x2, x3⟩
  · obtain ⟨x1, x2⟩ := ahead_e ho hR hW hf hf0 hi hi1 hm (by omega)
    exact .inl ⟨nI 101, M, isCh_l (by omega), by decide, x1, x2, .inl rfl⟩
/-- the first guards of steps are told by the guards -/
theorem fg_eq {M S : Mem} {B f1 f2 : Nat → Nat} {t st gm : Nat} (h : TRC M S B t st gm f1) (h0 : f2 0 = 0) (h1 : f2 st = gm) (h2 : ∀ k, k < st → f2 k ≤ f2 (k + 1)) (h3 : ∀ k g, k < st → f2 k ≤ g → g < f2 (k + 1) → mI S 98 (120 * t + g) = nI k) : ∀ k, k ≤ st → f1 k = f2 k := by
  obtain ⟨a0, a1, a2, -, a3⟩ := h.2.2.2.2.2.2
  have hst := h.2.1.2.2.2
  intro k
  induction k with
  | zero => intro _; rw [a0, h0]
  | succ k ih =>
    intro hk
    have e := ih (by omega)
    have m1 := a2 k (by omega)
    have m2 := h2 k (by omega)
    have t1 := fg_mono a2 (show k + 1 ≤ st by omega) (Nat.le_refl _)
    have t2 := fg_mono h2 (show k + 1 ≤ st by omega) (Nat.le_refl _)
    rcases Nat.lt_trichotomy (f1 (k + 1)) (f2 (k + 1)) with q | q | q
    · exfalso
      have hg : f1 (k + 1) < gm := by omega
      have s1 := h3 k (f1 (k + 1)) (by omega) (by omega) q
      exact absurd ((step_iff h (by omega) hg).mp s1).2 (by omega)
    · exact q
    · exfalso
      have hg : f2 (k + 1) < gm := by omega
      have s1 : mI S 98 (120 * t + f2 (k + 1)) = nI k := (step_iff h (by omega) hg).mpr ⟨by omega, q⟩
      obtain ⟨k2, z1, z2, z3⟩ := fg_find h0 h1 hg
      have s2 := h3 k2 _ z1 z2 z3
      have : k = k2 := qinj (by omega) (by omega) (s1.symm.trans s2)
      subst this
      omega
/-- a return within a trace is no last one -/
theorem his_ret {S R G F : Mem} {L : Int32} {ga gs gd gw : Nat → Int32} {b k bS n2 oS oR v : Nat} {fg : Nat → Nat} {eS eR : Nat → Nat} {val rval : Nat → Vl} (hH : HS0 S L ga gs gd gw b k fg R G F) (hs : Sat S R bS b n2 eS eR oS oR v val rval) (hn : n2 < 100) {f i : Nat} (hf : mI S 109 (bS + n2) = nI f) (hi : mI S 110 (bS + n2) = nI i) (hf8 : f < 8) (hi8 : i < 40) (hc : mI S 72 (40 * f + i) = nI 114) : 1 ≤ n2 := by
  obtain ⟨n, ob, ns, nc, nf, f', i', e, m, h, c, v', obF, nsF, dF, mS, nfS, nsS, ncS, a, ⟨c9, p1⟩, ⟨A2, hf2⟩, h3, h4, ⟨hWF, hns, hr⟩, h6, h7, ⟨q72, -⟩, hg⟩ := hH
  obtain ⟨hW2, x1, x2, x3, x4, -⟩ := A2
  have hd12 := hW2.1.2.1
  obtain rfl : n = n2 := by
    have := qinj (by omega) (by omega) (hW2.1.1.symm.trans hs.1.2.1)
    omega
  obtain ⟨fr1, fr2, -⟩ := hs.frs n (Nat.le_refl _)
  obtain rfl : f = f' := qinj (by omega) (by omega) (hf.symm.trans (fr1.trans x1))
  obtain rfl : i = i' := qinj (by omega) (by omega) (hi.symm.trans (fr2.trans x3))
  exact hr (qinj (by omega) (by omega) (q72.symm.trans hc))
/-- where the recording of a trace began -/
theorem hit_begin {S : Mem} {t b n : Nat} {H G F : Nat → Mem} {fg : Nat → Nat} (h : HIT S t H G F b fg) (hd : mI (H 0) 69 48 = nI (b + n)) (hn : n < 12) : ∃ v φ ob ns nc nf, INVR (H 0) (H 0) b (b + n + 1) 0 v φ ∧ v ≤ 168 ∧ WW (H 0) (b + n) ob ns nc nf := by
  obtain ⟨st, gm, n0, ⟨h1, h2, h3⟩, h4, h5, h6, ⟨⟨v, φ, i1, i2⟩, i3, i4⟩, h8⟩ := h
  obtain rfl : n0 = n := by
    have := qinj (by omega) (by omega) (i3.symm.trans hd)
    omega
  obtain ⟨⟨n', ob, ns, nc, nf, f', i', e, m, h, c, v', obF, nsF, dF, mS, nfS, nsS, ncS, a, ⟨c9, p1⟩, ⟨A2, hf2⟩, -⟩, -⟩ := h6 0 (by omega)
  have hW := A2.1
  have hd12 := hW.1.2.1
  obtain rfl : n' = n0 := by
    have := qinj (by omega) (by omega) (hW.1.1.symm.trans hd)
    omega
  exact ⟨v, φ, ob, ns, nc, nf, i1, i2, hW⟩
/-- both count a step in traces -/
theorem bas_cnt {N E : Mem} {B : Nat → Nat} {cnt d ns ob nc nf x y : Nat} {H G F : Nat → Nat → Mem} {b : Nat → Nat} {fg : Nat → Nat → Nat} (h : BAS N E B cnt d ns ob nc nf H G F b fg) : BAS (sI (sI N 38 7 (mI N 38 7 + nI 1)) 38 11 (nI x)) (sI (sI E 69 58 (mI E 69 58 + nI 1)) 69 69 (nI y)) B cnt d ns ob nc nf H G F b fg := by
  obtain ⟨hR, hW, hF, hH, hL, hC, hCW, hI, hnx⟩ := h
  have hsw : SW E (sI (sI E 69 58 (mI E 69 58 + nI 1)) 69 69 (nI y)) := ⟨fun a j x1 x2 x3 x4 => by rw [mI_ne (by omega), mI_ne (by omega)], fun _ _ _ => rfl, fun _ _ => rfl⟩
  have hnb : NB N (sI (sI N 38 7 (mI N 38 7 + nI 1)) 38 11 (nI x)) := ⟨fun a j x1 => by rw [mI_ne (by omega), mI_ne (by omega)], fun _ _ _ => rfl⟩
  have e : ∀ a j, 70 < a → mI (sI (sI E 69 58 (mI E 69 58 + nI 1)) 69 69 (nI y)) a j = mI E a j := fun a j q => by rw [mI_ne (by omega), mI_ne (by omega)]
  have m : ∀ a j, 38 < a → mI (sI (sI N 38 7 (mI N 38 7 + nI 1)) 38 11 (nI x)) a j = mI N a j := fun a j q => by rw [mI_ne (by omega), mI_ne (by omega)]
  refine ⟨rc_sw hR hnb hsw, ww_sw hW hsw, FOR_x hF (fun a j q => m a j (by omega)) (fun _ _ _ => rfl) (fun _ => rfl) (Nat.le_refl _) (fun a j q _ => e a j (by omega)) (fun j q => by rw [mI_ne (by omega), mI_ne (by omega)]), HDR_x hH (fun a j q _ => m a j (by omega)) (fun a j q => e a j (by omega)), ⟨?_, ?_, ?_⟩, fun j => ?_, fun j hj => ?_, his_grw hI (fun a j q => e a j (by omega)) (fun t _ q => (e 89 t (by omega)).symm.trans q) hW.2.2.2.2.2.1 hW.2.2.2.2.2.2.1 (sw_grw hW.2.2.2.2.2.1.2.1 hsw), hnx⟩
  · rw [mI_ne (by omega), mI_ne (by omega), mI_ne (by omega), mI_ne (by omega)]; exact hL.1
  · rw [mI_ne (by omega), mI_ne (by omega), mI_ne (by omega), mI_ne (by omega)]; exact hL.2.1
  · rw [mI_ne (by omega), mI_eq, mI_ne (by omega), mI_eq, hL.2.2]
  · rw [m 40 j (by omega), m 41 j (by omega), m 42 j (by omega), m 43 j (by omega), e 83 j (by omega), e 84 j (by omega), e 85 j (by omega), e 86 j (by omega)]; exact hC j
  · rw [e 83 j (by omega)]; exact hCW j hj
end MU6
