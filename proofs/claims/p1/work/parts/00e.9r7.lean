/-! ===== asks: the mean of the guards ===== -/
section MZ7
def ASD (c : Mem → Option (Int32 × Mem)) (r : Mem → Option (UInt64 × Mem)) (M S : Mem) : Prop := ∃ k v N E, c M = some (k, N) ∧ r S = some (v, E) ∧ mI E 69 0 = k ∧ (k = nI 0 → mD N 128 0 = v) ∧ NC M N ∧ SC S E
def cT (S : Mem) : Nat → Nat
  | 0 => 0
  | k + 1 => cT S k + if mI S 89 k = (0 : Int32) then 0 else 1
def gT (S : Mem) : Nat → Nat
  | 0 => 0
  | k + 1 => gT S k + if mI S 89 k = (0 : Int32) then 0 else (mI S 92 k).toNatClampNeg
theorem cT_le (S : Mem) : ∀ k, cT S k ≤ k
  | 0 => Nat.le_refl _
  | k + 1 => by
    have := cT_le S k
    unfold cT
    by_cases q : mI S 89 k = (0 : Int32)
    · rw [if_pos q]; omega
    · rw [if_neg q]; omega
theorem count_l {M S : Mem} {B : Nat → Nat} {cnt : Nat} (hF : FOR M S B cnt) : ∀ (j i NC : Nat), cnt = i + j → j < NC → d_X1_countThere_4 NC (nI (cT S i), nI i) M = some (nI (cT S cnt), M) := by
  have hc : cnt ≤ 20 := hF.2.2.1
  intro j
  induction j with
  | zero =>
    intro i NC hi hN
    obtain ⟨m, rfl⟩ : ∃ m, NC = m + 1 := ⟨NC - 1, by omega⟩
    obtain rfl : cnt = i := by omega
    rw [st_X1_countThere_4]
    unfold d_X1_countThere_4b
    rw [hF.1, if_pos (of_eq_true (qleT (by omega) (by omega)))]
  | succ j ih =>
    intro i NC hi hN
    obtain ⟨m, rfl⟩ : ∃ m, NC = m + 1 := ⟨NC - 1, by omega⟩
    obtain ⟨⟨st, gm, fg, hT⟩, -⟩ := hF.2.2.2.2.2.2 i (by omega)
    have h14 : mI M (B i) 14 = mI S 89 i := hT.2.2.2.1.2.2.1
    rw [st_X1_countThere_4]
    unfold d_X1_countThere_4b
    rw [hF.1, if_neg (of_eq_false (qleF (by omega) (by omega))), okk_pos (of_eq_true (qinT (by omega) (by omega))), qcl (by omega), hT.1.1]
    simp only [obind]
    rw [okk_pos hT.1.2.1, h14]
    have := ih (i + 1) m (by omega) (by omega)
    rw [show cT S (i + 1) = cT S i + (if mI S 89 i = (0 : Int32) then 0 else 1) from rfl] at this
    by_cases q : mI S 89 i = (0 : Int32)
    · rw [if_pos q] at this ⊢
      unfold d_X1_countThere_30
      rw [bnd_eq, bnd_eq, l_0, qadd, l_1, qadd]
      exact this
    · rw [if_neg q] at this ⊢
      unfold d_X1_countThere_30
      rw [bnd_eq, bnd_eq, l_1, qadd, qadd]
      exact this
theorem guards_l {M S : Mem} {B : Nat → Nat} {cnt : Nat} (hF : FOR M S B cnt) : ∀ (j i NC : Nat), cnt = i + j → j < NC → d_X1_guardsThere_4 NC (nI (gT S i), nI i) M = some (nI (gT S cnt), M) := by
  have hc : cnt ≤ 20 := hF.2.2.1
  intro j
  induction j with
  | zero =>
    intro i NC hi hN
    obtain ⟨m, rfl⟩ : ∃ m, NC = m + 1 := ⟨NC - 1, by omega⟩
    obtain rfl : cnt = i := by omega
    rw [st_X1_guardsThere_4]
    unfold d_X1_guardsThere_4b
    rw [hF.1, if_pos (of_eq_true (qleT (by omega) (by omega)))]
  | succ j ih =>
    intro i NC hi hN
    obtain ⟨m, rfl⟩ : ∃ m, NC = m + 1 := ⟨NC - 1, by omega⟩
    obtain ⟨⟨st, gm, fg, hT⟩, -⟩ := hF.2.2.2.2.2.2 i (by omega)
    have hv : vp_in (nI i) 20 := of_eq_true (qinT (by omega) (by omega))
    have h14 : mI M (B i) 14 = mI S 89 i := hT.2.2.2.1.2.2.1
    have h1 : mI M (B i) 1 = nI (mI S 92 i).toNatClampNeg := by
      have := hT.2.2.1.2.2
      rw [hT.2.2.1.1, hT.2.2.1.2.1, qcl (by omega)]
    rw [st_X1_guardsThere_4]
    unfold d_X1_guardsThere_4b
    rw [hF.1, if_neg (of_eq_false (qleF (by omega) (by omega))), okk_pos hv, qcl (by omega), hT.1.1]
    simp only [obind]
    rw [okk_pos hT.1.2.1, h14]
    have := ih (i + 1) m (by omega) (by omega)
    rw [show gT S (i + 1) = gT S i + (if mI S 89 i = (0 : Int32) then 0 else (mI S 92 i).toNatClampNeg) from rfl] at this
    by_cases q : mI S 89 i = (0 : Int32)
    · rw [if_pos q] at this ⊢
      unfold d_X1_guardsThere_38
      rw [bnd_eq, bnd_eq, l_0, qadd, l_1, qadd]
      exact this
    · rw [if_neg q] at this ⊢
      rw [okk_pos hv, okk_pos hT.1.2.1, h1]
      unfold d_X1_guardsThere_38
      rw [bnd_eq, bnd_eq, qadd, l_1, qadd]
      exact this
def mgV (S : Mem) (cnt : Nat) : Option (UInt64 × Mem) := if cT S cnt = 0 then some (FP.dconst0, sI S 69 0 (1 : Int32)) else some (FP.ddiv (FP.i2d (nI (gT S cnt))) (FP.i2d (nI (cT S cnt))), sI S 69 0 (0 : Int32))
theorem mean_l {M S : Mem} {B : Nat → Nat} {cnt : Nat} (hF : FOR M S B cnt) : ∀ (j i NC : Nat), cnt = i + j → j < NC → d_X12_meanGuards_6 NC (nI (cT S i), nI (gT S i), nI i) S = mgV S cnt := by
  have hc : cnt ≤ 20 := hF.2.2.1
  intro j
  induction j with
  | zero =>
    intro i NC hi hN
    obtain ⟨m, rfl⟩ : ∃ m, NC = m + 1 := ⟨NC - 1, by omega⟩
    obtain rfl : cnt = i := by omega
    have hcl := cT_le S cnt
    rw [st_X12_meanGuards_6]
    unfold d_X12_meanGuards_6b d_X12_meanGuards_69 mgV
    rw [hF.2.1, if_pos (of_eq_true (qleT (by omega) (by omega)))]
    by_cases q : cT S cnt = 0
    · rw [if_pos q, if_pos (show nI (cT S cnt) = (0 : Int32) by rw [q]; rfl), bnd_eq, if_neg (le10 S)]
    · rw [if_neg q, if_neg (show ¬ nI (cT S cnt) = (0 : Int32) by rw [l_0]; exact of_eq_false (qeqF q (by omega) (by omega))), bnd_eq, if_pos (le00 S)]
  | succ j ih =>
    intro i NC hi hN
    obtain ⟨m, rfl⟩ : ∃ m, NC = m + 1 := ⟨NC - 1, by omega⟩
    obtain ⟨⟨st, gm, fg, hT⟩, -⟩ := hF.2.2.2.2.2.2 i (by omega)
    have hv : vp_in (nI i) 20 := of_eq_true (qinT (by omega) (by omega))
    have h1 : mI S 92 i = nI (mI S 92 i).toNatClampNeg := by
      have := hT.2.2.1.2.2
      rw [hT.2.2.1.2.1, qcl (by omega)]
    have := ih (i + 1) m (by omega) (by omega)
    rw [show gT S (i + 1) = gT S i + (if mI S 89 i = (0 : Int32) then 0 else (mI S 92 i).toNatClampNeg) from rfl, show cT S (i + 1) = cT S i + (if mI S 89 i = (0 : Int32) then 0 else 1) from rfl] at this
    rw [st_X12_meanGuards_6]
    unfold d_X12_meanGuards_6b
    rw [hF.2.1, if_neg (of_eq_false (qleF (by omega) (by omega))), okk_pos hv, qcl (by omega)]
    by_cases q : mI S 89 i = (0 : Int32)
    · rw [if_pos q, if_pos q] at this
      rw [if_pos q]
      unfold d_X12_meanGuards_29 d_X12_meanGuards_51
      rw [bnd_eq, okk_pos hv, qcl (by omega), if_pos q, bnd_eq, bnd_eq, l_0, qadd, qadd, l_1, qadd]
      exact this
    · rw [if_neg q, if_neg q] at this
      rw [if_neg q]
      unfold d_X12_meanGuards_29 d_X12_meanGuards_51
      rw [bnd_eq, okk_pos hv, qcl (by omega), if_neg q, okk_pos hv, bnd_eq, bnd_eq, h1, l_1, qadd, qadd, qadd]
      exact this
theorem a_meanGuards {M S : Mem} {cnt ns nc nf : Nat} (hI : INV M S cnt ns nc nf) : ASD d_L_meanGuards d_X12_meanGuards M S := by
  obtain ⟨B, hF⟩ := inv_f hI
  have hc : cnt ≤ 20 := hF.2.2.1
  have hfb := fuel_big
  have hcl := cT_le S cnt
  have t1 : d_X1_countThere M = some (nI (cT S cnt), M) := count_l hF cnt 0 fuel (by omega) (by omega)
  have t2 : d_X1_guardsThere M = some (nI (gT S cnt), M) := guards_l hF cnt 0 fuel (by omega) (by omega)
  have t3 : d_X12_meanGuards S = mgV S cnt := mean_l hF cnt 0 fuel (by omega) (by omega)
  by_cases q : cT S cnt = 0
  · refine ⟨nI 1, FP.dconst0, tk M 6, sI S 69 0 (1 : Int32), ?_, ?_, mI_eq _ _ _ _, fun h => absurd h n1n, nc_tk _, sc_1 _ _⟩
    · have hcs : d_X11_meanGuards M = some (.inr "java/lang/ArithmeticException", tk M 6) := by
        unfold d_X11_meanGuards
        rw [t1]
        simp only [obind]
        rw [if_pos (show nI (cT S cnt) = (0 : Int32) by rw [q]; rfl)]
      unfold d_L_meanGuards
      rw [hcs]
      simp only [obind]
      exact if_pos trivial
    · rw [t3]; unfold mgV; rw [if_pos q]
  · refine ⟨nI 0, FP.ddiv (FP.i2d (nI (gT S cnt))) (FP.i2d (nI (cT S cnt))), sD M 128 0 (FP.ddiv (FP.i2d (nI (gT S cnt))) (FP.i2d (nI (cT S cnt)))), sI S 69 0 (0 : Int32), ?_, ?_, mI_eq _ _ _ _, fun _ => mD_eq _ _ _ _, nc_D _ _, sc_1 _ _⟩
    · have hcs : d_X11_meanGuards M = some (.inl (FP.ddiv (FP.i2d (nI (gT S cnt))) (FP.i2d (nI (cT S cnt)))), M) := by
        unfold d_X11_meanGuards
        rw [t1]
        simp only [obind]
        rw [if_neg (show ¬ nI (cT S cnt) = (0 : Int32) by rw [l_0]; exact of_eq_false (qeqF q (by omega) (by omega))), t2]
        rfl
      unfold d_L_meanGuards
      rw [hcs]
      rfl
    · rw [t3]; unfold mgV; rw [if_neg q]
end MZ7
