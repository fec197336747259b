/-! ===== asks: the traced share ===== -/
section MW7
theorem vf32 {q : UInt32} (h : FP.Core.fIsNaN q = false) : vf_n32 q := by
  have h2 : ¬ FP.Core.fIsNaN q = true := by rw [h]; decide
  rw [FP.Core.isNaN_bits32] at h2
  unfold vf_n32
  rw [UInt32.le_iff_toNat_le, UInt32.toNat_and, show (0x7fffffff : UInt32).toNat = 2 ^ 31 - 1 by decide, Nat.and_two_pow_sub_one_eq_mod, show (0x7f800000 : UInt32).toNat = 2139095040 by decide]
  omega
theorem vf64 {q : UInt64} (h : FP.Core.dIsNaN q = false) : vf_n64 q := by
  have h2 : ¬ FP.Core.dIsNaN q = true := by rw [h]; decide
  rw [FP.Core.isNaN_bits] at h2
  unfold vf_n64
  rw [UInt64.le_iff_toNat_le, UInt64.toNat_and, show (0x7fffffffffffffff : UInt64).toNat = 2 ^ 63 - 1 by decide, Nat.and_two_pow_sub_one_eq_mod, show (0x7ff0000000000000 : UInt64).toNat = 9218868437227405312 by decide]
  omega
theorem share_n {a b : Int32} (hb : ¬ b = 0) : FP.Core.fIsNaN (FP.fdiv (FP.i2f a) (FP.i2f b)) = false := FP.Core.fdiv_out (FP.Core.FFin.notNaN (FP.Core.i2f_fin a)) (FP.Core.i2f_fin b) (fun z => FP.Core.i2f_ne_zero hb ((FP.Core.zero_bits232 _).mp z))
theorem f2d_n {q : UInt32} (h : FP.Core.fIsNaN q = false) : FP.Core.dIsNaN (FP.f2d q) = false := by
  unfold FP.f2d
  rw [h]
  exact FP.Core.f2d_out h
def ASF (c : Mem → Option (Int32 × Mem)) (r : Mem → Option (UInt32 × Mem)) (M S : Mem) : Prop := ∃ k v N E, c M = some (k, N) ∧ r S = some (v, E) ∧ mI E 69 0 = k ∧ (k = nI 0 → mD N 128 0 = FP.f2d v ∧ FP.Core.fIsNaN v = false) ∧ NC M N ∧ SC S E
theorem a_tracedShare {M S : Mem} {cnt ns nc nf : Nat} (hI : INV M S cnt ns nc nf) : ASF d_L_tracedShare d_X12_tracedShare M S := by
  obtain ⟨-, -, hL, -⟩ := inv_c hI
  obtain ⟨ob, hR, -, -⟩ := inv_m hI
  have e12 : mI M 18 12 = mI S 69 57 := hR.2.2.2.1.2.1
  have e38 : mI M 38 7 = mI S 69 58 := hL.2.2
  by_cases q : mI S 69 57 = (0 : Int32)
  · refine ⟨nI 1, FP.fconst0, tk M 6, sI S 69 0 (1 : Int32), ?_, ?_, mI_eq _ _ _ _, fun h => absurd h n1n, nc_tk _, sc_1 _ _⟩
    · have hcs : d_X11_tracedShare M = some (.inr "java/lang/ArithmeticException", tk M 6) := by
        unfold d_X11_tracedShare
        rw [e12, if_pos q]
      unfold d_L_tracedShare
      rw [hcs]
      simp only [obind]
      exact if_pos trivial
    · unfold d_X12_tracedShare d_X12_tracedShare_13
      rw [if_pos q, bnd_eq, if_neg (le10 S)]
  · have hn := share_n (a := mI S 69 58) q
    refine ⟨nI 0, FP.fdiv (FP.i2f (mI S 69 58)) (FP.i2f (mI S 69 57)), sD M 128 0 (FP.f2d (FP.fdiv (FP.i2f (mI S 69 58)) (FP.i2f (mI S 69 57)))), sI S 69 0 (0 : Int32), ?_, ?_, mI_eq _ _ _ _, fun _ => ⟨mD_eq _ _ _ _, hn⟩, nc_D _ _, sc_1 _ _⟩
    · have hcs : d_X11_tracedShare M = some (.inl (FP.fdiv (FP.i2f (mI S 69 58)) (FP.i2f (mI S 69 57))), M) := by
        unfold d_X11_tracedShare
        rw [e12, e38, if_neg q, okk_pos (vf32 hn)]
      unfold d_L_tracedShare
      rw [hcs]
      simp only [obind]
      exact okk_pos (vf64 (f2d_n hn))
    · unfold d_X12_tracedShare d_X12_tracedShare_13
      rw [if_neg q, bnd_eq, if_pos (le00 S), mI_ne (by omega), mI_ne (by omega), okk_pos (vf32 hn)]
end MW7
