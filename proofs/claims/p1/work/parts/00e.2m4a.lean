/-! ===== doubles: values in units ===== -/
section MF1
theorem q1z : ¬ nI 1 = (0 : Int32) := by decide
theorem q0z : nI 0 = (0 : Int32) := rfl
theorem nan64_iff (a : UInt64) : isNaN64 a = true ↔ FP.Core.val64 a = .nan := by
  unfold isNaN64
  rw [decide_eq_true_iff, gt_iff_lt, UInt64.lt_iff_toNat_lt, FP.Core.mask_toNat, show (0x7ff0000000000000 : UInt64).toNat = 9218868437227405312 by decide, ← FP.Core.dIsNaN_iff, FP.Core.isNaN_bits]
theorem nan64_F {a : UInt64} (h : isNaN64 a = false) : FP.Core.val64 a ≠ .nan := fun z => by rw [(nan64_iff a).mpr z] at h; cases h
theorem nan64_F' {a : UInt64} (h : FP.Core.val64 a ≠ .nan) : isNaN64 a = false := by
  cases e : isNaN64 a
  · rfl
  · exact absurd ((nan64_iff a).mp e) h
theorem nan64_d (a : UInt64) : isNaN64 a = FP.Core.dIsNaN a := by
  rw [Bool.eq_iff_iff, nan64_iff, FP.Core.dIsNaN_iff]
abbrev vm (a : UInt64) : Nat := FP.Core.zmag FP.Core.b64 (FP.Core.val64 a)
abbrev vsg (a : UInt64) : Bool := FP.Core.sgn (FP.Core.val64 a)
abbrev zv (a : UInt64) : Int := FP.Core.zval FP.Core.b64 (FP.Core.val64 a)
/-! comparisons -/
theorem cv {a b : UInt64} (ha : FP.Core.val64 a ≠ .nan) (hb : FP.Core.val64 b ≠ .nan) (o : CmpOp) : Op.cmpValue (FP.dcmp a b) o = if zv a < zv b then -1 else if zv a = zv b then 0 else 1 := by
  rw [show FP.dcmp a b = some (compare (zv a) (zv b)) from FP.Core.dcmp_zval ha hb, FP.Core.compare_ite]
  by_cases h1 : zv a < zv b
  · rw [if_pos h1, if_pos h1]; rfl
  · rw [if_neg h1, if_neg h1]
    by_cases h2 : zv a = zv b
    · rw [if_pos h2, if_pos h2]; rfl
    · rw [if_neg h2, if_neg h2]; rfl
theorem cv_lt0 {a b : UInt64} (ha : FP.Core.val64 a ≠ .nan) (hb : FP.Core.val64 b ≠ .nan) (o : CmpOp) : Op.cmpValue (FP.dcmp a b) o < 0 ↔ zv a < zv b := by
  rw [cv ha hb]
  by_cases h1 : zv a < zv b
  · rw [if_pos h1]; exact iff_of_true (by decide) h1
  · rw [if_neg h1]
    by_cases h2 : zv a = zv b
    · rw [if_pos h2]; exact iff_of_false (by decide) h1
    · rw [if_neg h2]; exact iff_of_false (by decide) h1
theorem cv_le0 {a b : UInt64} (ha : FP.Core.val64 a ≠ .nan) (hb : FP.Core.val64 b ≠ .nan) (o : CmpOp) : Op.cmpValue (FP.dcmp a b) o ≤ 0 ↔ zv a ≤ zv b := by
  rw [cv ha hb]
  by_cases h1 : zv a < zv b
  · rw [if_pos h1]; exact iff_of_true (by decide) (Int.le_of_lt h1)
  · rw [if_neg h1]
    by_cases h2 : zv a = zv b
    · rw [if_pos h2]; exact iff_of_true (by decide) (Int.le_of_eq h2)
    · rw [if_neg h2]; exact iff_of_false (by decide) (by omega)
theorem cv_eq0 {a b : UInt64} (ha : FP.Core.val64 a ≠ .nan) (hb : FP.Core.val64 b ≠ .nan) (o : CmpOp) : Op.cmpValue (FP.dcmp a b) o = 0 ↔ zv a = zv b := by
  rw [cv ha hb]
  by_cases h1 : zv a < zv b
  · rw [if_pos h1]; exact iff_of_false (by decide) (by omega)
  · rw [if_neg h1]
    by_cases h2 : zv a = zv b
    · rw [if_pos h2]; exact iff_of_true rfl h2
    · rw [if_neg h2]; exact iff_of_false (by decide) h2
theorem cv_0lt {a b : UInt64} (ha : FP.Core.val64 a ≠ .nan) (hb : FP.Core.val64 b ≠ .nan) (o : CmpOp) : 0 < Op.cmpValue (FP.dcmp a b) o ↔ zv b < zv a := by
  rw [cv ha hb]
  by_cases h1 : zv a < zv b
  · rw [if_pos h1]; exact iff_of_false (by decide) (by omega)
  · rw [if_neg h1]
    by_cases h2 : zv a = zv b
    · rw [if_pos h2]; exact iff_of_false (by decide) (by omega)
    · rw [if_neg h2]; exact iff_of_true (by decide) (by omega)
theorem cv_0le {a b : UInt64} (ha : FP.Core.val64 a ≠ .nan) (hb : FP.Core.val64 b ≠ .nan) (o : CmpOp) : 0 ≤ Op.cmpValue (FP.dcmp a b) o ↔ zv b ≤ zv a := by
  rw [cv ha hb]
  by_cases h1 : zv a < zv b
  · rw [if_pos h1]; exact iff_of_false (by decide) (by omega)
  · rw [if_neg h1]
    by_cases h2 : zv a = zv b
    · rw [if_pos h2]; exact iff_of_true (by decide) (by omega)
    · rw [if_neg h2]; exact iff_of_true (by decide) (by omega)
theorem v0n : FP.Core.val64 FP.dconst0 ≠ .nan := (FP.Core.ne_nan _).mpr (by decide)
theorem zv0 : zv FP.dconst0 = 0 := FP.Core.zval64_zero
/-! numbers that a double can hold -/
def CK (m : Nat) : Prop := ∃ c k, c < 2 ^ 53 ∧ k ≤ 2045 ∧ m = c * 2 ^ k
theorem ck_fin {a : UInt64} (h : FP.Core.DFin a) : CK (vm a) := by
  obtain ⟨s, c, q, h⟩ := h
  have hf := FP.Core.val64_fits a
  rw [h] at hf
  obtain ⟨f1, f2, f3, -⟩ := hf
  refine ⟨c, (q - FP.Core.b64.qmin).toNat, f1, ?_, ?_⟩
  · have : FP.Core.b64.qmin = -1074 := FP.Core.qmin_b64
    have : FP.Core.b64.qmax = 971 := by decide
    omega
  · show FP.Core.zmag FP.Core.b64 (FP.Core.val64 a) = _
    rw [h]; rfl
theorem ck_V {m : Nat} (h : CK m) : ∃ V, FP.Core.fits FP.Core.b64 V ∧ V ≠ .nan ∧ FP.Core.zmag FP.Core.b64 V = m ∧ FP.Core.zval FP.Core.b64 V = (m : Int) := by
  obtain ⟨c, k, h1, h2, h3⟩ := h
  have hq : FP.Core.b64.qmin = -1074 := FP.Core.qmin_b64
  have hx : FP.Core.b64.qmax = 971 := by decide
  obtain ⟨c', q', e1, e2⟩ := FP.Core.round_exact FP.Core.good_b64 false (c := c) (q := (k : Int) - 1074) h1 (by omega) (by omega)
  have hz : FP.Core.inUnits c' q' FP.Core.b64.qmin = m := by
    rw [e2]
    unfold FP.Core.inUnits
    rw [show ((k : Int) - 1074 - FP.Core.b64.qmin).toNat = k by omega]
    exact h3.symm
  refine ⟨.fin false c' q', ?_, FP.Core.Datum.noConfusion, hz, ?_⟩
  · rw [← e1]; exact FP.Core.round_fits FP.Core.good_b64 _
  · show FP.Core.signed false (FP.Core.inUnits c' q' FP.Core.b64.qmin) = _
    rw [hz]; rfl
theorem ck_Vz {z : Int} (h : CK z.natAbs) : ∃ V, FP.Core.fits FP.Core.b64 V ∧ V ≠ .nan ∧ FP.Core.zval FP.Core.b64 V = z := by
  obtain ⟨V, v1, v2, -, v4⟩ := ck_V h
  by_cases c : 0 ≤ z
  · exact ⟨V, v1, v2, v4.trans (by omega)⟩
  · exact ⟨FP.Core.negate V, FP.Core.negate_fits v1, FP.Core.negate_ne_nan v2, by rw [FP.Core.zval_negate, v4]; omega⟩
theorem ck_0 : CK 0 := ⟨0, 0, by decide, by decide, rfl⟩
theorem ck_s {m : Nat} (h : m < 2 ^ 53) : CK m := ⟨m, 0, h, by decide, (Nat.mul_one m).symm⟩
theorem ck_dbl {m : Nat} (h : CK m) (ht : 2 * m < 2 ^ 2098) : CK (2 * m) := by
  obtain ⟨c, k, h1, h2, rfl⟩ := h
  by_cases q : k < 2045
  · exact ⟨c, k + 1, h1, by omega, by rw [Nat.pow_succ]; ac_rfl⟩
  · obtain rfl : k = 2045 := by omega
    refine ⟨2 * c, 2045, ?_, Nat.le_refl _, (Nat.mul_assoc _ _ _).symm⟩
    rw [show (2 : Nat) ^ 2098 = 2 ^ 53 * 2 ^ 2045 from (Nat.pow_add 2 53 2045), ← Nat.mul_assoc] at ht
    exact Nat.lt_of_mul_lt_mul_right ht
theorem ck_half {m : Nat} (h : CK (2 * m)) : CK m := by
  obtain ⟨c, k, h1, h2, e⟩ := h
  by_cases q : k = 0
  · subst q
    rw [Nat.pow_zero, Nat.mul_one] at e
    exact ck_s (by omega)
  · obtain ⟨j, rfl⟩ : ∃ j, k = j + 1 := ⟨k - 1, by omega⟩
    refine ⟨c, j, h1, by omega, ?_⟩
    rw [Nat.pow_succ, ← Nat.mul_assoc, Nat.mul_comm (c * 2 ^ j) 2] at e
    exact Nat.eq_of_mul_eq_mul_left (by decide) e
theorem ck_odd {m : Nat} (h : CK m) (ho : m % 2 = 1) : m < 2 ^ 53 := by
  obtain ⟨c, k, h1, h2, e⟩ := h
  by_cases q : k = 0
  · subst q
    rw [Nat.pow_zero, Nat.mul_one] at e
    omega
  · obtain ⟨j, rfl⟩ : ∃ j, k = j + 1 := ⟨k - 1, by omega⟩
    rw [Nat.pow_succ, ← Nat.mul_assoc] at e
    omega
theorem ck_sub {m n : Nat} (hm : CK m) (hn : CK n) (h1 : n ≤ m) (h2 : m ≤ 2 * n) : CK (m - n) := by
  obtain ⟨c, k, c1, c2, rfl⟩ := hm
  obtain ⟨d, j, d1, d2, rfl⟩ := hn
  by_cases q : j ≤ k
  · obtain ⟨i, rfl⟩ : ∃ i, k = i + j := ⟨k - j, by omega⟩
    rw [Nat.pow_add, ← Nat.mul_assoc] at h1 h2 ⊢
    rw [← Nat.sub_mul]
    refine ⟨c * 2 ^ i - d, j, ?_, d2, rfl⟩
    rw [← Nat.mul_assoc] at h2
    have := Nat.le_of_mul_le_mul_right h2 (Nat.two_pow_pos j)
    omega
  · obtain ⟨i, rfl⟩ : ∃ i, j = i + k := ⟨j - k, by omega⟩
    rw [Nat.pow_add, ← Nat.mul_assoc] at h1 h2 ⊢
    rw [← Nat.sub_mul]
    exact ⟨c - d * 2 ^ i, k, by omega, c2, rfl⟩
theorem ck_lt {m : Nat} (h : CK m) : m < 2 ^ 2098 := by
  obtain ⟨c, k, h1, h2, rfl⟩ := h
  calc c * 2 ^ k < 2 ^ 53 * 2 ^ k := Nat.mul_lt_mul_of_pos_right h1 (Nat.two_pow_pos _)
    _ ≤ 2 ^ 53 * 2 ^ 2045 := Nat.mul_le_mul_left _ (Nat.pow_le_pow_right (by decide) h2)
    _ = 2 ^ 2098 := (Nat.pow_add 2 53 2045).symm
theorem ck_mod {m : Nat} (h : CK m) (j : Nat) : CK (m % 2 ^ j) := by
  obtain ⟨c, k, h1, h2, rfl⟩ := h
  by_cases q : j ≤ k
  · obtain ⟨i, rfl⟩ : ∃ i, k = i + j := ⟨k - j, by omega⟩
    rw [Nat.pow_add, ← Nat.mul_assoc, Nat.mul_mod_left]
    exact ck_0
  · obtain ⟨i, rfl⟩ : ∃ i, j = i + k := ⟨j - k, by omega⟩
    rw [Nat.pow_add, Nat.mul_mod_mul_right]
    exact ⟨c % 2 ^ i, k, Nat.lt_of_le_of_lt (Nat.mod_le _ _) h1, h2, rfl⟩
theorem ck_mul {m j : Nat} (h : m ≤ 2 ^ 53) (hj : j ≤ 2044) : CK (m * 2 ^ j) := by
  by_cases q : m = 2 ^ 53
  · exact ⟨2 ^ 52, j + 1, by decide, by omega, by rw [q, Nat.pow_succ 2 j, Nat.pow_succ 2 52]; ac_rfl⟩
  · exact ⟨m, j, by omega, by omega, rfl⟩
/-! the same bits -/
theorem bits_ext {a b : UInt64} (ha : FP.Core.val64 a ≠ .nan) (hb : FP.Core.val64 b ≠ .nan) (hs : vsg a = vsg b) (hm : vm a = vm b) : a = b := by
  have h1 := FP.Core.sgn_bits ha
  have h2 := FP.Core.sgn_bits hb
  have h3 : FP.Core.unitsOf FP.Core.b64 (a.toNat % 2 ^ 63) = FP.Core.unitsOf FP.Core.b64 (b.toNat % 2 ^ 63) := (FP.Core.zmag_bits ha).symm.trans (hm.trans (FP.Core.zmag_bits hb))
  have h4 : a.toNat % 2 ^ 63 = b.toNat % 2 ^ 63 := by
    rcases Nat.lt_trichotomy (a.toNat % 2 ^ 63) (b.toNat % 2 ^ 63) with h | h | h
    · have := FP.Core.unitsOf_lt (f := FP.Core.b64) h; omega
    · exact h
    · have := FP.Core.unitsOf_lt (f := FP.Core.b64) h; omega
  have h5 : decide (2 ^ 63 ≤ a.toNat) = decide (2 ^ 63 ≤ b.toNat) := h1.symm.trans (hs.trans h2)
  have h6 : 2 ^ 63 ≤ a.toNat ↔ 2 ^ 63 ≤ b.toNat := by
    constructor
    · intro h; rw [decide_eq_true h] at h5; exact of_decide_eq_true h5.symm
    · intro h; rw [decide_eq_true h] at h5; exact of_decide_eq_true h5
  have := a.toNat_lt
  have := b.toNat_lt
  refine UInt64.toNat_inj.mp ?_
  by_cases h : 2 ^ 63 ≤ a.toNat
  · have := h6.mp h; omega
  · have : ¬ 2 ^ 63 ≤ b.toNat := fun z => h (h6.mpr z)
    omega
/-! finite, not negative, so many units -/
def NN (a : UInt64) (m : Nat) : Prop := FP.Core.DFin a ∧ vsg a = false ∧ vm a = m
theorem NN.ok {a : UInt64} {m : Nat} (h : NN a m) : FP.Core.val64 a ≠ .nan := h.1.ne_nan
theorem NN.z {a : UInt64} {m : Nat} (h : NN a m) : zv a = (m : Int) := by
  show FP.Core.signed (vsg a) (vm a) = _
  rw [h.2.1, h.2.2]; rfl
theorem NN.ck {a : UInt64} {m : Nat} (h : NN a m) : CK m := h.2.2 ▸ ck_fin h.1
theorem top64 : FP.Core.b64.tails * 2 ^ (FP.Core.b64.exps - 2) = 2 ^ 2098 := by decide +kernel
theorem fin_or {a : UInt64} (h : FP.Core.val64 a ≠ .nan) : FP.Core.DFin a ∨ (∃ s, FP.Core.val64 a = .inf s) := by
  cases e : FP.Core.val64 a with
  | nan => exact absurd e h
  | inf s => exact .inr ⟨s, rfl⟩
  | fin s c q => exact .inl ⟨s, c, q, e⟩
theorem inf_vm {a : UInt64} {s : Bool} (h : FP.Core.val64 a = .inf s) : vm a = 2 ^ 2098 ∧ vsg a = s := by
  show FP.Core.zmag FP.Core.b64 (FP.Core.val64 a) = _ ∧ FP.Core.sgn (FP.Core.val64 a) = s
  rw [h]
  exact ⟨top64, rfl⟩
theorem fin_lt {a : UInt64} (h : FP.Core.DFin a) : vm a < 2 ^ 2098 := ck_lt (ck_fin h)
theorem nn_of {x : UInt64} {m : Nat} (hn : FP.Core.val64 x ≠ .nan) (hz : zv x = (m : Int)) (hm : 0 < m) (ht : m < 2 ^ 2098) : NN x m := by
  have hz2 : FP.Core.signed (vsg x) (vm x) = (m : Int) := hz
  have hs : vsg x = false ∧ vm x = m := by
    cases e : vsg x
    · rw [e] at hz2
      exact ⟨rfl, by simp only [FP.Core.signed, Bool.false_eq_true, if_false] at hz2; omega⟩
    · rw [e] at hz2
      simp only [FP.Core.signed, if_true] at hz2
      omega
  refine ⟨?_, hs⟩
  rcases fin_or hn with h | ⟨s, h⟩
  · exact h
  · have := (inf_vm h).1
    omega
theorem zv_dadd {a b : UInt64} (ha : FP.Core.DFin a) (hb : FP.Core.DFin b) (h : CK (zv a + zv b).natAbs) : zv (FP.dadd a b) = zv a + zv b ∧ FP.Core.val64 (FP.dadd a b) ≠ .nan := by
  obtain ⟨V, v1, v2, v3⟩ := ck_Vz h
  have e := FP.Core.val64_dadd a b
  refine ⟨?_, (FP.Core.notNaN_iff _).mp (FP.Core.dadd_out ha.notNaN hb)⟩
  have l := FP.Core.sum_le FP.Core.good_b64 ha hb (FP.Core.val64_fits a) (FP.Core.val64_fits b) v1 v2 (Int.le_of_eq v3.symm)
  have g := FP.Core.sum_ge FP.Core.good_b64 ha hb (FP.Core.val64_fits a) (FP.Core.val64_fits b) v1 v2 (Int.le_of_eq v3)
  rw [← e, v3] at l g
  exact Int.le_antisymm l g
theorem neg_fin {a : UInt64} (h : FP.Core.DFin a) : ∃ s c q, FP.Core.negate (FP.Core.val64 a) = .fin s c q := by
  obtain ⟨s, c, q, h⟩ := h
  exact ⟨!s, c, q, by rw [h]; rfl⟩
theorem zv_dsub {a b : UInt64} (ha : FP.Core.DFin a) (hb : FP.Core.DFin b) (h : CK (zv a - zv b).natAbs) : zv (FP.dsub a b) = zv a - zv b ∧ FP.Core.val64 (FP.dsub a b) ≠ .nan := by
  obtain ⟨V, v1, v2, v3⟩ := ck_Vz h
  have e := FP.Core.val64_dsub a b
  have en : FP.Core.zval FP.Core.b64 (FP.Core.negate (FP.Core.val64 b)) = - zv b := FP.Core.zval_negate _ _
  refine ⟨?_, (FP.Core.notNaN_iff _).mp (FP.Core.dsub_out ha.notNaN hb)⟩
  have l := FP.Core.sum_le FP.Core.good_b64 ha (neg_fin hb) (FP.Core.val64_fits a) (FP.Core.negate_fits (FP.Core.val64_fits b)) v1 v2 (by rw [en, v3]; show zv a + -zv b ≤ zv a - zv b; omega)
  have g := FP.Core.sum_ge FP.Core.good_b64 ha (neg_fin hb) (FP.Core.val64_fits a) (FP.Core.negate_fits (FP.Core.val64_fits b)) v1 v2 (by rw [en, v3]; show zv a - zv b ≤ zv a + -zv b; omega)
  rw [← e, v3] at l g
  exact Int.le_antisymm l g
/-- how a difference stands to a number that a double holds -/
theorem dsub_ge {a b w : UInt64} (ha : FP.Core.DFin a) (hb : FP.Core.DFin b) (hw : FP.Core.val64 w ≠ .nan) (h : zv w ≤ zv a - zv b) : zv w ≤ zv (FP.dsub a b) := by
  have e := FP.Core.val64_dsub a b
  have en : FP.Core.zval FP.Core.b64 (FP.Core.negate (FP.Core.val64 b)) = - zv b := FP.Core.zval_negate _ _
  have g := FP.Core.sum_ge FP.Core.good_b64 ha (neg_fin hb) (FP.Core.val64_fits a) (FP.Core.negate_fits (FP.Core.val64_fits b)) (FP.Core.val64_fits w) hw (by rw [en]; show zv w ≤ zv a + -zv b; omega)
  rw [← e] at g
  exact g
theorem nn_sub {a b : UInt64} {m n : Nat} (ha : NN a m) (hb : NN b n) (h1 : n ≤ m) (h2 : m ≤ 2 * n) : NN (FP.dsub a b) (m - n) := by
  by_cases q : m = n
  · have e : a = b := bits_ext ha.ok hb.ok (ha.2.1.trans hb.2.1.symm) (ha.2.2.trans (q.trans hb.2.2.symm))
    obtain ⟨s, c, r, hc⟩ := ha.1
    rw [← e, show FP.dsub a a = FP.Core.dconst0 from FP.Core.dsub_self hc, q, Nat.sub_self]
    refine ⟨⟨_, _, _, FP.Core.val64_dconst0⟩, ?_, ?_⟩
    · show FP.Core.sgn (FP.Core.val64 FP.Core.dconst0) = false
      rw [FP.Core.val64_dconst0]; rfl
    · show FP.Core.zmag FP.Core.b64 (FP.Core.val64 FP.Core.dconst0) = 0
      rw [FP.Core.val64_dconst0]
      exact Nat.zero_mul _
  · have hz : zv a - zv b = ((m - n : Nat) : Int) := by rw [ha.z, hb.z]; omega
    have ck := ck_sub ha.ck hb.ck h1 h2
    obtain ⟨r1, r2⟩ := zv_dsub ha.1 hb.1 (by rw [hz]; exact ck)
    exact nn_of r2 (r1.trans hz) (by omega) (ck_lt ck)
theorem v2v : FP.Core.val64 (4611686018427387904 : UInt64) = .fin false (2 ^ 52) (-51) := by decide +kernel
theorem nn_dbl {a : UInt64} {m : Nat} (ha : NN a m) (hm : 0 < m) (ht : 2 * m < 2 ^ 2098) : NN (FP.dmul a (4611686018427387904 : UInt64)) (2 * m) := by
  obtain ⟨V, v1, v2, v3, v4⟩ := ck_V (ck_dbl ha.ck ht)
  have e := FP.Core.val64_dmul a (4611686018427387904 : UInt64)
  obtain ⟨⟨s, c, q, hc⟩, hs, hvm⟩ := ha
  have hf := FP.Core.val64_fits a
  have h2 := FP.Core.val64_fits (4611686018427387904 : UInt64)
  rw [v2v] at e h2
  have hs2 : s = false := by
    have : FP.Core.sgn (FP.Core.val64 a) = false := hs
    rw [hc] at this; exact this
  have hvm2 : FP.Core.zmag FP.Core.b64 (.fin s c q) = m := by rw [← hc]; exact hvm
  rw [hc] at e hf
  obtain ⟨p1, p2, p3⟩ := FP.Core.product_units hf h2
  rw [p1] at e
  have hq : FP.Core.b64.qmin = -1074 := FP.Core.qmin_b64
  have hu2 : FP.Core.zmag FP.Core.b64 (.fin false (2 ^ 52) (-51)) = 2 * 2 ^ 1074 := by decide +kernel
  rw [hvm2, hu2] at p3
  have hk : (FP.Core.b64.qmin - 2 * FP.Core.b64.qmin).toNat = 1074 := by rw [hq]; decide
  have l := FP.Core.zmag_roundRatio_le FP.Core.good_b64 (s := s != false) (A := c * 2 ^ 52) (B := 1) (e := q + -51) (e0 := 2 * FP.Core.b64.qmin) (by decide) v1 v2 (by omega) p2 (by rw [p3, hk, v3, Nat.mul_one, ← Nat.mul_assoc, Nat.mul_comm m 2]; exact Nat.le_refl _)
  have g := FP.Core.zmag_roundRatio_ge FP.Core.good_b64 (s := s != false) (A := c * 2 ^ 52) (B := 1) (e := q + -51) (e0 := 2 * FP.Core.b64.qmin) (by decide) v1 (by omega) p2 (by rw [p3, hk, v3, Nat.mul_one, ← Nat.mul_assoc, Nat.mul_comm m 2]; exact Nat.le_refl _)
  have e2 : FP.Core.val64 (FP.dmul a (4611686018427387904 : UInt64)) = FP.Core.roundRatio FP.Core.b64 (s != false) (c * 2 ^ 52) 1 (q + -51) := e
  have hn : FP.Core.val64 (FP.dmul a (4611686018427387904 : UInt64)) ≠ .nan := by rw [e2]; exact FP.Core.roundRatio_ne_nan _ _ _ _ _
  rw [← e2, v3] at l g
  refine nn_of hn ?_ (by omega) ht
  show FP.Core.signed (FP.Core.sgn (FP.Core.val64 (FP.dmul a (4611686018427387904 : UInt64)))) (vm (FP.dmul a (4611686018427387904 : UInt64))) = _
  rw [show vm (FP.dmul a (4611686018427387904 : UInt64)) = 2 * m from Nat.le_antisymm l g, e2, FP.Core.sgn_roundRatio, hs2]
  rfl
/-- a half: its size against a number that a double holds -/
theorem half_R {a : UInt64} {m : Nat} (ha : NN a m) : ∃ c q, FP.Core.val64 a = .fin false c q ∧ FP.Core.val64 (FP.ddiv a (4611686018427387904 : UInt64)) = FP.Core.roundRatio FP.Core.b64 false c (2 ^ 52) (q + 51) ∧ FP.Core.b64.qmin ≤ q + 51 ∧ FP.Core.inUnits c (q + 51) FP.Core.b64.qmin = m * 2 ^ 51 := by
  have e := FP.Core.val64_ddiv a (4611686018427387904 : UInt64)
  obtain ⟨⟨s, c, q, hc⟩, hs, hvm⟩ := ha
  have hs2 : s = false := by
    have : FP.Core.sgn (FP.Core.val64 a) = false := hs
    rw [hc] at this; exact this
  subst hs2
  have hf := FP.Core.val64_fits a
  rw [hc] at hf
  have hq1 := hf.2.1
  have hvm2 : FP.Core.inUnits c q FP.Core.b64.qmin = m := by
    have : FP.Core.zmag FP.Core.b64 (FP.Core.val64 a) = m := hvm
    rw [hc] at this; exact this
  refine ⟨c, q, hc, ?_, by omega, ?_⟩
  · rw [show FP.ddiv a (4611686018427387904 : UInt64) = FP.Core.ddiv a (4611686018427387904 : UInt64) from rfl, e, hc, v2v]
    rfl
  · rw [← hvm2]
    unfold FP.Core.inUnits
    rw [show (q + 51 - FP.Core.b64.qmin).toNat = (q - FP.Core.b64.qmin).toNat + 51 by omega, Nat.pow_add, Nat.mul_assoc]
theorem half_ok {a : UInt64} {m : Nat} (ha : NN a m) : FP.Core.val64 (FP.ddiv a (4611686018427387904 : UInt64)) ≠ .nan ∧ vsg (FP.ddiv a (4611686018427387904 : UInt64)) = false := by
  obtain ⟨c, q, hc, e, -, -⟩ := half_R ha
  refine ⟨by rw [e]; exact FP.Core.roundRatio_ne_nan _ _ _ _ _, ?_⟩
  show FP.Core.sgn (FP.Core.val64 (FP.ddiv a (4611686018427387904 : UInt64))) = false
  rw [e, FP.Core.sgn_roundRatio]
theorem half_le {a : UInt64} {m n : Nat} (ha : NN a m) (hn : CK n) (h : m ≤ 2 * n) : vm (FP.ddiv a (4611686018427387904 : UInt64)) ≤ n := by
  obtain ⟨c, q, hc, e, hq, hu⟩ := half_R ha
  obtain ⟨V, v1, v2, v3, v4⟩ := ck_V hn
  have l := FP.Core.zmag_roundRatio_le FP.Core.good_b64 (s := false) (A := c) (B := 2 ^ 52) (e := q + 51) (e0 := FP.Core.b64.qmin) (by decide) v1 v2 (Int.le_refl _) hq (by rw [hu, v3, Int.sub_self, show ((0 : Int).toNat) = 0 from rfl, Nat.pow_zero, Nat.mul_one]; omega)
  rw [← e, v3] at l
  exact l
theorem half_ge {a : UInt64} {m n : Nat} (ha : NN a m) (hn : CK n) (h : 2 * n ≤ m) : n ≤ vm (FP.ddiv a (4611686018427387904 : UInt64)) := by
  obtain ⟨c, q, hc, e, hq, hu⟩ := half_R ha
  obtain ⟨V, v1, v2, v3, v4⟩ := ck_V hn
  have l := FP.Core.zmag_roundRatio_ge FP.Core.good_b64 (s := false) (A := c) (B := 2 ^ 52) (e := q + 51) (e0 := FP.Core.b64.qmin) (by decide) v1 (Int.le_refl _) hq (by rw [hu, v3, Int.sub_self, show ((0 : Int).toNat) = 0 from rfl, Nat.pow_zero, Nat.mul_one]; omega)
  rw [← e, v3] at l
  exact l
theorem nn_half {a : UInt64} {m : Nat} (ha : NN a (2 * m)) (hm : 0 < m) : NN (FP.ddiv a (4611686018427387904 : UInt64)) m := by
  obtain ⟨h1, h2⟩ := half_ok ha
  have ck := ck_half ha.ck
  have e := Nat.le_antisymm (half_le ha ck (Nat.le_refl _)) (half_ge ha ck (Nat.le_refl _))
  refine nn_of h1 ?_ hm (ck_lt ck)
  show FP.Core.signed (vsg (FP.ddiv a (4611686018427387904 : UInt64))) (vm (FP.ddiv a (4611686018427387904 : UInt64))) = _
  rw [h2, e]; rfl
/-- half of what is not zero is less -/
theorem half_lt {a : UInt64} {m : Nat} (ha : NN a m) (hm : 0 < m) : vm (FP.ddiv a (4611686018427387904 : UInt64)) < m := by
  by_cases q : m % 2 = 0
  · obtain ⟨n, rfl⟩ : ∃ n, m = 2 * n := ⟨m / 2, by omega⟩
    have := half_le ha (ck_half ha.ck) (Nat.le_refl _)
    omega
  · by_cases q1 : m = 1
    · have e1 : FP.Core.val64 (1 : UInt64) = .fin false 1 (-1074) := by decide +kernel
      have e : a = 1 := bits_ext ha.ok (by rw [e1]; exact FP.Core.Datum.noConfusion) (ha.2.1.trans (by show _ = FP.Core.sgn (FP.Core.val64 1); rw [e1]; rfl)) (ha.2.2.trans (q1.trans (by show _ = FP.Core.zmag FP.Core.b64 (FP.Core.val64 1); rw [e1]; decide)))
      rw [e, q1]
      decide +kernel
    · have h53 := ck_odd ha.ck (by omega)
      have := half_le ha (ck_s (m := (m + 1) / 2) (by omega)) (by omega)
      omega
/-- the sign turned -/
theorem neg_v (a : UInt64) (h : FP.Core.val64 a ≠ .nan) : FP.Core.val64 (FP.dneg a) ≠ .nan ∧ vm (FP.dneg a) = vm a ∧ (FP.Core.DFin (FP.dneg a) ↔ FP.Core.DFin a) ∧ vsg (FP.dneg a) = !vsg a := by
  have e := FP.val64_dneg a
  cases hc : FP.Core.val64 a with
  | nan => exact absurd hc h
  | inf s =>
    rw [hc] at e
    refine ⟨by rw [e]; exact FP.Core.Datum.noConfusion, ?_, ?_, ?_⟩
    · show FP.Core.zmag FP.Core.b64 (FP.Core.val64 (FP.dneg a)) = FP.Core.zmag FP.Core.b64 (FP.Core.val64 a)
      rw [e, hc]; rfl
    · constructor
      · rintro ⟨s, c, q, k⟩; rw [e] at k; cases k
      · rintro ⟨s, c, q, k⟩; rw [hc] at k; cases k
    · show FP.Core.sgn (FP.Core.val64 (FP.dneg a)) = !FP.Core.sgn (FP.Core.val64 a)
      rw [e, hc]; rfl
  | fin s c q =>
    rw [hc] at e
    refine ⟨by rw [e]; exact FP.Core.Datum.noConfusion, ?_, ?_, ?_⟩
    · show FP.Core.zmag FP.Core.b64 (FP.Core.val64 (FP.dneg a)) = FP.Core.zmag FP.Core.b64 (FP.Core.val64 a)
      rw [e, hc]; rfl
    · exact ⟨fun _ => ⟨s, c, q, hc⟩, fun _ => ⟨_, _, _, e⟩⟩
    · show FP.Core.sgn (FP.Core.val64 (FP.dneg a)) = !FP.Core.sgn (FP.Core.val64 a)
      rw [e, hc]; rfl
/-- the absolute value, as both programs reckon it: x < 0 ? -x : x -/
theorem abs_v {a : UInt64} (h : FP.Core.DFin a) (hm : 0 < vm a) : NN (if 0 ≤ zv a then a else FP.dneg a) (vm a) := by
  by_cases c : 0 ≤ zv a
  · rw [if_pos c]
    refine ⟨h, ?_, rfl⟩
    have c2 : 0 ≤ FP.Core.signed (vsg a) (vm a) := c
    cases e : vsg a
    · rfl
    · rw [e] at c2
      simp only [FP.Core.signed, if_true] at c2
      omega
  · rw [if_neg c]
    obtain ⟨n1, n2, n3, n4⟩ := neg_v a h.ne_nan
    refine ⟨n3.mpr h, ?_, n2⟩
    rw [n4]
    have c2 : ¬ 0 ≤ FP.Core.signed (vsg a) (vm a) := c
    cases e : vsg a
    · rw [e] at c2
      simp only [FP.Core.signed, Bool.false_eq_true, if_false] at c2
      omega
    · rfl
end MF1
