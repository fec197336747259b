/-! ===== a run begins in both ===== -/
section MT2
theorem afF_I (M : Mem) (o q a j : Nat) : ∀ k, mI (afF M o q k) a j = if a = o + 2 ∧ q ≤ j ∧ j < q + k then nI 110 else if a = o + 3 ∧ q ≤ j ∧ j < q + k then nI 0 else mI M a j
  | 0 => by
    have h1 : ¬ (a = o + 2 ∧ q ≤ j ∧ j < q + 0) := by omega
    have h2 : ¬ (a = o + 3 ∧ q ≤ j ∧ j < q + 0) := by omega
    rw [if_neg h1, if_neg h2]; rfl
  | k + 1 => by
    unfold afF puC
    rw [mI_sD]
    by_cases z : a = o + 3 ∧ j = q + k
    · obtain ⟨rfl, rfl⟩ := z
      rw [mI_eq, if_neg (by omega), if_pos (by omega)]
    · rw [mI_ne (by omega)]
      by_cases z2 : a = o + 2 ∧ j = q + k
      · obtain ⟨rfl, rfl⟩ := z2
        rw [mI_eq, if_pos (by omega)]
      · rw [mI_ne (by omega), afF_I M o q a j k]
        have e1 : (a = o + 2 ∧ q ≤ j ∧ j < q + (k + 1)) = (a = o + 2 ∧ q ≤ j ∧ j < q + k) := propext (by omega)
        have e2 : (a = o + 3 ∧ q ≤ j ∧ j < q + (k + 1)) = (a = o + 3 ∧ q ≤ j ∧ j < q + k) := propext (by omega)
        simp only [e1, e2]
theorem afF_R (M : Mem) (o q a j : Nat) : ∀ k, mD (afF M o q k) a j = if a = o + 4 ∧ q ≤ j ∧ j < q + k then FP.dconst0 else mD M a j
  | 0 => by
    have h1 : ¬ (a = o + 4 ∧ q ≤ j ∧ j < q + 0) := by omega
    rw [if_neg h1]; rfl
  | k + 1 => by
    unfold afF puC
    by_cases z : a = o + 4 ∧ j = q + k
    · obtain ⟨rfl, rfl⟩ := z
      rw [mD_eq, if_pos (by omega)]
    · rw [mD_ne (by omega), mD_sI, mD_sI, afF_R M o q a j k]
      have e1 : (a = o + 4 ∧ q ≤ j ∧ j < q + (k + 1)) = (a = o + 4 ∧ q ≤ j ∧ j < q + k) := propext (by omega)
      simp only [e1]
/-- the reference's six locals at a run's begin -/
theorem rn_I {S : Mem} {x : Int32} {a j : Nat} (h : (a ≠ 105 ∧ a ≠ 106) ∨ 6 ≤ j) : mI (rnS (rnS (rnS (rnS (rnS (rnS S x 0) x 1) x 2) x 3) x 4) x 5) a j = mI S a j := by
  unfold rnS
  rw [mI_sD, mI_ne (by omega), mI_ne (by omega), mI_sD, mI_ne (by omega), mI_ne (by omega), mI_sD, mI_ne (by omega), mI_ne (by omega), mI_sD, mI_ne (by omega), mI_ne (by omega), mI_sD, mI_ne (by omega), mI_ne (by omega), mI_sD, mI_ne (by omega), mI_ne (by omega)]
theorem rn_D {S : Mem} {x : Int32} {a j : Nat} (h : a ≠ 107 ∨ 6 ≤ j) : mD (rnS (rnS (rnS (rnS (rnS (rnS S x 0) x 1) x 2) x 3) x 4) x 5) a j = mD S a j := by
  unfold rnS
  rw [mD_ne (by omega), mD_sI, mD_sI, mD_ne (by omega), mD_sI, mD_sI, mD_ne (by omega), mD_sI, mD_sI, mD_ne (by omega), mD_sI, mD_sI, mD_ne (by omega), mD_sI, mD_sI, mD_ne (by omega), mD_sI, mD_sI]
theorem rn_v {S : Mem} {x : Int32} {j : Nat} (h : j < 6) : mI (rnS (rnS (rnS (rnS (rnS (rnS S x 0) x 1) x 2) x 3) x 4) x 5) 105 j = (if j = 0 then nI 105 else nI 110) ∧ mI (rnS (rnS (rnS (rnS (rnS (rnS S x 0) x 1) x 2) x 3) x 4) x 5) 106 j = (if j = 0 then x else nI 0) ∧ mD (rnS (rnS (rnS (rnS (rnS (rnS S x 0) x 1) x 2) x 3) x 4) x 5) 107 j = FP.dconst0 := by
  have : j = 0 ∨ j = 1 ∨ j = 2 ∨ j = 3 ∨ j = 4 ∨ j = 5 := by omega
  unfold rnS
  rcases this with rfl | rfl | rfl | rfl | rfl | rfl
  all_goals (refine ⟨?_, ?_, ?_⟩ <;> simp (disch := omega) only [mI_sD, mD_sI, mI_eq, mI_ne, mD_eq, mD_ne, if_true, Nat.reduceEqDiff, reduceIte, ne_eq, Nat.succ_ne_zero, not_false_eq_true, or_true, true_or])
end MT2
