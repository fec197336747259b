/-! ===== doubles: what is wanted of them ===== -/
section MFP
theorem xnan_eq (a : UInt64) : isNaN64 a = FP.Core.dIsNaN a := by
  rw [Bool.eq_iff_iff, isNaN64_iff, FP.Core.isNaN_bits]
  rw [show (0x7fffffffffffffff : Nat) = 2 ^ 63 - 1 by decide, Nat.and_two_pow_sub_one_eq_mod]
theorem xnan_iff (a : UInt64) : isNaN64 a = true ↔ FP.Core.val64 a = .nan := by rw [xnan_eq]; exact FP.Core.dIsNaN_iff a
theorem fp_cmp_nan {a b : UInt64} (h : isNaN64 a = true ∨ isNaN64 b = true) (o : CmpOp) : FP.dcmp a b = none := by
  rw [xnan_iff, xnan_iff] at h
  exact (FP.Core.dcmp_none a b).mpr h
theorem fp_l (x : Option Ordering) (h : x = none) : Op.cmpValue x .l = -nI 1 := by rw [h]; rfl
theorem fp_g (x : Option Ordering) (h : x = none) : Op.cmpValue x .g = nI 1 := by rw [h]; rfl
theorem fp_und {c : Int32} (hc : c = nI 43 ∨ c = nI 45 ∨ c = nI 42 ∨ c = nI 47 ∨ c = nI 37) {a b : UInt64} (ha : isNaN64 a = false) (hb : isNaN64 b = false) (M : Mem) : d_X4_isUndefined c a b M = some (pB (isNaN64 (fopF c a b) = true), M) := by
  sorry
theorem fp_nan (c : Int32) {a b : UInt64} (h : isNaN64 a = true ∨ isNaN64 b = true) : isNaN64 (fopF c a b) = true := by
  sorry
theorem fp_remin {x y : Int32} (h : ¬ y = nI 0) : inR (x.toInt64 - x.toInt64 / y.toInt64 * y.toInt64) := by
  sorry
theorem fp_rest {a b : UInt64} (ha : isNaN64 a = false) (hb : isNaN64 b = false) (h : isNaN64 (FP.drem a b) = false) (M : Mem) : d_X4_rest a b M = some (FP.drem a b, M) := by
  sorry
theorem fp_lt (x y : Int32) : (¬ nI 0 ≤ Op.cmpValue (FP.dcmp (FP.i2d x) (FP.i2d y)) .g) ↔ ¬ nI 0 ≤ lg_cmp x.toInt64 y.toInt64 := by
  sorry
theorem fp_i2d (x : Int32) : isNaN64 (FP.i2d x) = false := by
  sorry
theorem fp_near {r : UInt64} (h : isNaN64 r = false) (M : Mem) : d_X4_hasNearest r M = some (pB (¬ farW r), M) := by
  sorry
theorem fp_nearest {r : UInt64} (h : isNaN64 r = false) (hf : ¬ farW r) (M : Mem) : d_X4_nearest r M = some (FP.d2i (xrint r), M) := by
  sorry
theorem fp_far_nan {r : UInt64} (h : isNaN64 r = true) : farW r := by
  sorry
theorem fp_bitsOf {r : UInt64} (h : isNaN64 r = false) (M : Mem) : d_X4_bitsOf r M = some (bitsV r, M) := by
  sorry
end MFP
