/-! ===== setters: shrinking ===== -/
section MW9
theorem olF_m1 {S : Mem} {b : Int32} : ∀ k, k < 2147483648 → olF S b k = -nI 1 → ∀ t, t < k → ¬ mI S 89 t = nI 0 → mI S 93 t = nI t → nI t = b := by
  intro k
  induction k with
  | zero => intro _ _ t ht; exact absurd ht (by omega)
  | succ k ih =>
    intro hk h t ht h1 h2
    by_cases hm : olF S b k = -nI 1
    · by_cases q : t = k
      · subst q
        by_cases c : nI t = b
        · exact c
        · unfold olF at h
          rw [if_pos ⟨h1, h2, c, .inl hm⟩] at h
          exact absurd h (of_eq_false (qneg_ne (by omega)))
      · exact ih (by omega) hm t (by omega) h1 h2
    · unfold olF at h
      split at h
      · exact absurd h (of_eq_false (qneg_ne (by omega)))
      · exact absurd h hm
theorem no_there {M S : Mem} {B : Nat → Nat} {cnt : Nat} (hF : FOR M S B cnt) (h : ∀ t, t < cnt → ¬ (mI S 89 t = nI 1 ∧ mI S 93 t = nI t)) : ∀ t, t < cnt → mI S 89 t = nI 0 := by
  intro t ht
  obtain ⟨-, hb, ⟨r, r1, -, r3, r4, -⟩, -⟩ := hF.2.2.2.2.2.2 t ht
  rcases hb with hb | hb
  · exact hb
  · exact absurd ⟨r4.trans hb, r3⟩ (h r (by omega))
theorem sz_0 {S : Mem} {cnt : Nat} (h : ∀ t, t < cnt → mI S 89 t = nI 0) : ∀ k, k ≤ cnt → szF S k = 0 := by
  intro k
  induction k with
  | zero => intro _; rfl
  | succ k ih =>
    intro hk
    unfold szF
    rw [ih (by omega), if_pos (h k (by omega))]
theorem shrink_l {cnt ns nc nf L : Nat} (hL : L < 1000) : ∀ (μ : Nat) (M S : Mem) (i NC NR : Nat), INV M S cnt ns nc nf → mI S 69 25 = nI L → rcF S cnt = μ → i + μ ≤ 20 → μ < NC → μ < NR → ∃ N E v, d_X1_shrink_2 NC (nI i) M = some (v, N) ∧ d_X12_setLimits_61 NR (nI i) S = some (v, E) ∧ INV N E cnt ns nc nf ∧ MF M N ∧ SF S E ∧ mI E 69 0 = mI S 69 0 := by
  intro μ
  induction μ using Nat.strongRecOn with
  | _ μ ih =>
    intro M S i NC NR hI h25 hμ hi hN hR
    obtain ⟨m, rfl⟩ : ∃ m, NC = m + 1 := ⟨NC - 1, by omega⟩
    obtain ⟨m2, rfl⟩ : ∃ m2, NR = m2 + 1 := ⟨NR - 1, by omega⟩
    obtain ⟨B, hF⟩ := inv_f hI
    have hc : cnt ≤ 20 := hF.2.2.1
    obtain ⟨s1, s2⟩ := size_both hF
    have hz := szF_le hF cnt (Nat.le_refl _)
    have e67 : mI M 67 4 = nI L := hF.2.2.2.1.trans h25
    rw [st_X1_shrink_2, st_X12_setLimits_61]
    unfold d_X1_shrink_2b d_X12_setLimits_61b
    rw [s2]
    simp only [obind]
    rw [h25]
    by_cases q : szF S cnt ≤ L
    · have hle : nI (szF S cnt) ≤ nI L := of_eq_true (qleT q (by omega))
      rw [if_pos hle]
      refine ⟨M, S, nI i, ?_, rfl, hI, MF.refl M, SF.refl S, rfl⟩
      by_cases c : (20 : Int32) ≤ nI i
      · rw [if_pos c]
      · rw [if_neg c, s1]
        simp only [obind]
        rw [e67, if_pos hle]
    · have hle : ¬ nI (szF S cnt) ≤ nI L := of_eq_false (qleF (by omega) (by omega))
      have hroot : ¬ ∀ t, t < cnt → ¬ (mI S 89 t = nI 1 ∧ mI S 93 t = nI t) := fun h => by
        have := sz_0 (no_there hF h) cnt (Nat.le_refl _)
        omega
      have hμ0 : μ ≠ 0 := fun h => hroot (rcF_0 cnt (hμ.trans h))
      obtain ⟨o1, o2⟩ := oldest_both hF (-1 : Int32)
      rw [if_neg hle, if_neg (show ¬ (20 : Int32) ≤ nI i by rw [show (20 : Int32) = nI 20 from rfl]; exact of_eq_false (qleF (by omega) (by omega))), s1]
      simp only [obind]
      rw [e67, if_neg hle, o1, o2]
      simp only [obind]
      rcases olF_ok S (-1 : Int32) cnt with h | ⟨t, t1, t2, t3, t4, -⟩
      · exact absurd (fun t ht hh => absurd (olF_m1 cnt (by omega) h t ht (by rw [hh.1]; decide) hh.2) (of_eq_false (qneg_ne (by omega)))) hroot
      · have h89 : mI S 89 t = nI 1 := by
          obtain ⟨-, hb, -⟩ := hF.2.2.2.2.2.2 t t1
          rcases hb with hb | hb
          · exact absurd hb t3
          · exact hb
        obtain ⟨N, E, u1, u2, u3, u4, u5, u6, -, -, u9⟩ := inv_throw hI t1 h89 t4
        rw [t2, u1, u2]
        simp only [obind]
        rw [bnd_eq, bnd_eq, show nI i + (1 : Int32) = nI (i + 1) by rw [l_1, qadd]]
        obtain ⟨N2, E2, v, w1, w2, w3, w4, w5, w6⟩ := ih (rcF E cnt) (by omega) N E (i + 1) m m2 u3 ((u6 69 25 (by omega) (by omega)).trans h25) rfl (by omega) (by omega) (by omega)
        exact ⟨N2, E2, v, w1, w2, w3, u4.trans w4, u5.trans w5, w6.trans (u6 69 0 (by omega) (by omega))⟩
end MW9
