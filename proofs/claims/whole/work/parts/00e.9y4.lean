/-! ===== doubles: the nearest integer ===== -/
section MF4
theorem abs_bits {r : UInt64} (h : FP.Core.DFin r) : NN (r &&& 0x7fffffffffffffff) (vm r) := by
  have e := FP.Core.mask_toNat r
  have hl : r.toNat % 2 ^ 63 < 2 ^ 63 := Nat.mod_lt _ (by decide)
  have em : (r &&& 0x7fffffffffffffff).toNat % 2 ^ 63 = r.toNat % 2 ^ 63 := by rw [e, Nat.mod_mod]
  have hf : FP.Core.DFin (r &&& 0x7fffffffffffffff) := by
    rw [FP.Core.fin_bits, em]
    exact (FP.Core.fin_bits r).mp h
  refine ⟨hf, ?_, ?_⟩
  · rw [show vsg (r &&& 0x7fffffffffffffff) = decide (2 ^ 63 ≤ (r &&& 0x7fffffffffffffff).toNat) from FP.Core.sgn_bits hf.ne_nan]
    exact decide_eq_false (by omega)
  · rw [show vm (r &&& 0x7fffffffffffffff) = FP.Core.unitsOf FP.Core.b64 ((r &&& 0x7fffffffffffffff).toNat % 2 ^ 63) from FP.Core.zmag_bits hf.ne_nan, em]
    exact (FP.Core.zmag_bits h.ne_nan).symm
def hH : Nat := 2 ^ 1073
theorem hH2 : (2 : Nat) ^ 1074 = 2 * hH := by unfold hH; rw [Nat.pow_succ 2 1073, Nat.mul_comm]
theorem hH0 : 0 < hH := Nat.two_pow_pos _
/-- the nearest whole number, of so many units -/
def nrU (m : Nat) : Nat := FP.Core.nearest m (2 ^ 1074)
theorem nr_le (m : Nat) : nrU m ≤ m / 2 ^ 1074 + 1 := by
  unfold nrU FP.Core.nearest
  split
  · omega
  · split
    · omega
    · omega
theorem nr_ge (m : Nat) : m / 2 ^ 1074 ≤ nrU m := by
  unfold nrU FP.Core.nearest
  split
  · omega
  · split
    · omega
    · omega
theorem nr_add (m : Nat) : FP.Core.nearest (2 ^ 52 * 2 ^ 1074 + m) (2 ^ 1074) = 2 ^ 52 + nrU m := by
  have hp : 0 < 2 ^ 1074 := Nat.two_pow_pos _
  have e1 : (2 ^ 52 * 2 ^ 1074 + m) / 2 ^ 1074 = 2 ^ 52 + m / 2 ^ 1074 := by rw [Nat.add_comm, Nat.add_mul_div_right _ _ hp, Nat.add_comm]
  have e2 : (2 ^ 52 * 2 ^ 1074 + m) % 2 ^ 1074 = m % 2 ^ 1074 := by rw [Nat.add_comm, Nat.add_mul_mod_self_right]
  unfold nrU FP.Core.nearest
  rw [e1, e2]
  generalize m % 2 ^ 1074 = t
  generalize (2 : Nat) ^ 1074 = D
  generalize m / D = q
  by_cases c1 : 2 * t < D
  · rw [if_pos c1, if_pos c1]
  · rw [if_neg c1, if_neg c1]
    by_cases c2 : D < 2 * t
    · rw [if_pos c2, if_pos c2]; omega
    · rw [if_neg c2, if_neg c2]; omega
theorem nr_iff (m K : Nat) : nrU m ≤ K ↔ m < (2 * K + 1) * hH ∨ (m = (2 * K + 1) * hH ∧ K % 2 = 0) := by
  have hp := hH0
  have e := Nat.div_add_mod m (2 ^ 1074)
  have hl := Nat.mod_lt m (Nat.two_pow_pos 1074)
  have h1 := nr_le m
  have h2 := nr_ge m
  have hlt : m / 2 ^ 1074 < K ↔ m < K * 2 ^ 1074 := Nat.div_lt_iff_lt_mul (Nat.two_pow_pos 1074)
  have hgt : K + 1 ≤ m / 2 ^ 1074 ↔ (K + 1) * 2 ^ 1074 ≤ m := Nat.le_div_iff_mul_le (Nat.two_pow_pos 1074)
  have m1 : K * 2 ^ 1074 = 2 * (K * hH) := by rw [hH2, Nat.mul_left_comm]
  have m2 : (K + 1) * 2 ^ 1074 = 2 * (K * hH) + 2 * hH := by rw [Nat.add_mul, Nat.one_mul, hH2, Nat.mul_left_comm]
  have m3 : (2 * K + 1) * hH = 2 * (K * hH) + hH := by rw [Nat.add_mul, Nat.one_mul, Nat.mul_assoc]
  rw [m1] at hlt
  rw [m2] at hgt
  rw [m3]
  by_cases c1 : m / 2 ^ 1074 < K
  · have := hlt.mp c1
    exact iff_of_true (by omega) (.inl (by omega))
  · by_cases c2 : K + 1 ≤ m / 2 ^ 1074
    · have := hgt.mp c2
      exact iff_of_false (by omega) (by omega)
    · have c3 : m / 2 ^ 1074 = K := by omega
      rw [c3, Nat.mul_comm, m1] at e
      unfold nrU FP.Core.nearest
      rw [c3]
      generalize m % 2 ^ 1074 = t at e hl ⊢
      generalize K * hH = P at e ⊢
      rw [hH2] at hl ⊢
      generalize hH = H at hp hl ⊢
      by_cases d1 : 2 * t < 2 * H
      · rw [if_pos d1]; exact iff_of_true (Nat.le_refl _) (.inl (by omega))
      · rw [if_neg d1]
        by_cases d2 : 2 * H < 2 * t
        · rw [if_pos d2]; exact iff_of_false (by omega) (by omega)
        · rw [if_neg d2]
          constructor
          · intro h; exact .inr ⟨by omega, by omega⟩
          · rintro (h | ⟨-, h⟩)
            · omega
            · omega
/-- 2^52 put above: the fraction is rounded away -/
theorem add52 {y : UInt64} {m : Nat} (hy : NN y m) (hm : m < 2 ^ 52 * 2 ^ 1074) : NN (FP.dadd (4841369599423283200 : UInt64) y) ((2 ^ 52 + nrU m) * 2 ^ 1074) := by
  have hq : FP.Core.b64.qmin = -1074 := FP.Core.qmin_b64
  have e := FP.Core.val64_dadd (4841369599423283200 : UInt64) y
  obtain ⟨s1, c1, q1, h1⟩ := two52.1
  obtain ⟨s2, c2, q2, h2⟩ := id hy.1
  have f1 := FP.Core.val64_fits (4841369599423283200 : UInt64)
  have f2 := FP.Core.val64_fits y
  rw [h1] at f1
  rw [h2] at f2
  obtain ⟨sg, n, ex, x1, x2, x3⟩ := FP.Core.sum_units f1 f2
  rw [← h1, ← h2] at x1 x3
  have z1 : FP.Core.zval FP.Core.b64 (FP.Core.val64 (4841369599423283200 : UInt64)) = ((2 ^ 52 * 2 ^ 1074 : Nat) : Int) := two52.z
  have z2 : FP.Core.zval FP.Core.b64 (FP.Core.val64 y) = (m : Int) := hy.z
  rw [z1, z2] at x3
  have hS0 : 0 < 2 ^ 52 * 2 ^ 1074 := Nat.mul_pos (Nat.two_pow_pos _) (Nat.two_pow_pos _)
  have hsg : sg = false ∧ FP.Core.inUnits n ex FP.Core.b64.qmin = 2 ^ 52 * 2 ^ 1074 + m := by
    cases sg
    · refine ⟨rfl, ?_⟩
      simp only [FP.Core.signed, Bool.false_eq_true, if_false] at x3
      omega
    · simp only [FP.Core.signed, if_true] at x3
      omega
  obtain ⟨rfl, hu⟩ := hsg
  have er : FP.Core.round FP.Core.b64 (.fin false n ex) = FP.Core.roundRatio FP.Core.b64 false (2 ^ 52 * 2 ^ 1074 + m) 1 FP.Core.b64.qmin := by
    rw [← FP.Core.round_inUnits false n x2, hu]
    rfl
  rw [x1, er] at e
  have e53 : 2 ^ 53 * 2 ^ 1074 = 2 * (2 ^ 52 * 2 ^ 1074) := by rw [← Nat.mul_assoc, ← Nat.pow_succ']
  have hqe : FP.Core.quantum FP.Core.b64 (2 ^ 52 * 2 ^ 1074 + m) 1 FP.Core.b64.qmin = 0 := by
    refine FP.Core.quantum_eq (by omega) (by decide) (by omega) ?_ (.inr ?_)
    · have a : (0 : Int) - FP.Core.b64.qmin + (FP.Core.b64.p : Int) = 1127 := by rw [hq]; decide
      rw [a]
      unfold FP.Core.Below
      rw [show (-(1127 : Int)).toNat = 0 by decide, show (1127 : Int).toNat = 1127 by decide, Nat.pow_zero, Nat.mul_one, Nat.one_mul, show (2 : Nat) ^ 1127 = 2 ^ 53 * 2 ^ 1074 from Nat.pow_add 2 53 1074, e53]
      omega
    · have a : (0 : Int) - FP.Core.b64.qmin + ((FP.Core.b64.p : Int) - 1) = 1126 := by rw [hq]; decide
      rw [a]
      unfold FP.Core.Below
      rw [show (-(1126 : Int)).toNat = 0 by decide, show (1126 : Int).toNat = 1126 by decide, Nat.pow_zero, Nat.mul_one, Nat.one_mul, show (2 : Nat) ^ 1126 = 2 ^ 52 * 2 ^ 1074 from Nat.pow_add 2 52 1074]
      omega
  have hnq : m / 2 ^ 1074 < 2 ^ 52 := (Nat.div_lt_iff_lt_mul (Nat.two_pow_pos _)).mpr hm
  have hN := nr_le m
  have hr : FP.Core.roundRatio FP.Core.b64 false (2 ^ 52 * 2 ^ 1074 + m) 1 FP.Core.b64.qmin = FP.Core.settle FP.Core.b64 false (2 ^ 52 + nrU m) 0 := by
    unfold FP.Core.roundRatio
    rw [if_neg (by omega), hqe]
    unfold FP.Core.roundAt FP.Core.unitsNum FP.Core.unitsDen
    rw [show (FP.Core.b64.qmin - 0).toNat = 0 by rw [hq]; decide, show (0 - FP.Core.b64.qmin).toNat = 1074 by rw [hq]; decide, Nat.pow_zero, Nat.mul_one, Nat.one_mul, nr_add]
  rw [hr] at e
  have hx : FP.Core.b64.qmax = 971 := by decide
  have e' : FP.Core.val64 (FP.dadd (4841369599423283200 : UInt64) y) = FP.Core.settle FP.Core.b64 false (2 ^ 52 + nrU m) 0 := e
  have hck : CK ((2 ^ 52 + nrU m) * 2 ^ 1074) := ck_mul (by omega) (by omega)
  unfold FP.Core.settle at e'
  rw [show (2 : Nat) ^ FP.Core.b64.p = 2 ^ 53 from rfl] at e'
  by_cases c : 2 ^ 52 + nrU m < 2 ^ 53
  · rw [if_pos c] at e'
    unfold FP.Core.bound at e'
    rw [if_pos (by omega)] at e'
    refine ⟨⟨_, _, _, e'⟩, ?_, ?_⟩
    · show FP.Core.sgn (FP.Core.val64 (FP.dadd (4841369599423283200 : UInt64) y)) = false
      rw [e']; rfl
    · show FP.Core.zmag FP.Core.b64 (FP.Core.val64 (FP.dadd (4841369599423283200 : UInt64) y)) = _
      rw [e']
      show _ * 2 ^ (0 - FP.Core.b64.qmin).toNat = _
      rw [show (0 - FP.Core.b64.qmin).toNat = 1074 by rw [hq]; decide]
  · rw [if_neg c] at e'
    unfold FP.Core.bound at e'
    rw [if_pos (by omega)] at e'
    refine ⟨⟨_, _, _, e'⟩, ?_, ?_⟩
    · show FP.Core.sgn (FP.Core.val64 (FP.dadd (4841369599423283200 : UInt64) y)) = false
      rw [e']; rfl
    · show FP.Core.zmag FP.Core.b64 (FP.Core.val64 (FP.dadd (4841369599423283200 : UInt64) y)) = _
      rw [e', show 2 ^ 52 + nrU m = 2 ^ 53 by omega]
      show FP.Core.b64.tails * 2 ^ (0 + 1 - FP.Core.b64.qmin).toNat = _
      rw [show (0 + 1 - FP.Core.b64.qmin).toNat = 1075 by rw [hq]; decide, FP.Core.tails_b64, ← Nat.pow_add, ← Nat.pow_add]
/-- a factor of sign alone -/
theorem and_top (n : Nat) (h : n < 2 ^ 64) : n &&& 2 ^ 63 = if 2 ^ 63 ≤ n then 2 ^ 63 else 0 := by
  have h1 : (n &&& 2 ^ 63) % 2 ^ 63 = 0 := by rw [Nat.and_mod_two_pow, Nat.mod_self, Nat.and_zero]
  have h2 : (n &&& 2 ^ 63) / 2 ^ 63 = n / 2 ^ 63 % 2 := by rw [Nat.and_div_two_pow, Nat.div_self (Nat.two_pow_pos _), Nat.and_one_is_mod]
  have h3 := Nat.div_add_mod (n &&& 2 ^ 63) (2 ^ 63)
  rw [h1, h2] at h3
  split <;> omega
theorem sg_one {r : UInt64} (h : FP.Core.val64 r ≠ .nan) : ((r.toInt64 &&& (-9223372036854775808)) ||| 4607182418800017408).toUInt64 = if vsg r = true then (13830554455654793216 : UInt64) else (4607182418800017408 : UInt64) := by
  have hs := FP.Core.sgn_bits h
  have hr := r.toNat_lt
  refine UInt64.toNat_inj.mp ?_
  rw [i64_or, i64_and, show r.toInt64.toUInt64.toNat = r.toNat from rfl, show (-9223372036854775808 : Int64).toUInt64.toNat = 2 ^ 63 by decide, show (4607182418800017408 : Int64).toUInt64.toNat = 4607182418800017408 by decide, and_top _ (by omega)]
  by_cases c : 2 ^ 63 ≤ r.toNat
  · rw [decide_eq_true c] at hs
    rw [if_pos c, if_pos hs]
    decide
  · rw [decide_eq_false c] at hs
    rw [if_neg c, if_neg (by rw [show vsg r = false from hs]; decide)]
    decide
theorem sg_mul {s : Bool} {X : UInt64} (h : FP.Core.val64 X ≠ .nan) : zv (FP.dmul (if s = true then (13830554455654793216 : UInt64) else (4607182418800017408 : UInt64)) X) = (if s = true then -zv X else zv X) ∧ FP.Core.val64 (FP.dmul (if s = true then (13830554455654793216 : UInt64) else (4607182418800017408 : UInt64)) X) ≠ .nan := by
  have h1 : FP.Core.dmul (4607182418800017408 : UInt64) X = X := FP.Core.one_dmul ((FP.Core.notNaN_iff X).mpr h)
  cases s
  · rw [if_neg (by decide), if_neg (by decide)]
    show zv (FP.Core.dmul _ _) = _ ∧ FP.Core.val64 (FP.Core.dmul _ _) ≠ _
    rw [h1]
    exact ⟨rfl, h⟩
  · rw [if_pos rfl, if_pos rfl]
    have e : FP.Core.dmul (13830554455654793216 : UInt64) X = FP.Core.dneg X := by
      rw [show (13830554455654793216 : UInt64) = FP.Core.dneg 4607182418800017408 by decide +kernel, FP.Core.dmul_dneg, h1]
    show zv (FP.Core.dmul _ _) = _ ∧ FP.Core.val64 (FP.Core.dmul _ _) ≠ _
    rw [e]
    refine ⟨?_, ?_⟩
    · show FP.Core.zval FP.Core.b64 (FP.Core.val64 (FP.Core.dneg X)) = _
      rw [FP.Core.val64_dneg, FP.Core.zval_negate]
    · rw [FP.Core.val64_dneg]; exact FP.Core.negate_ne_nan h
theorem abs_i64 (r : UInt64) : (r.toInt64 &&& 9223372036854775807).toUInt64 = (r &&& 0x7fffffffffffffff) := rfl
theorem cmI {a b : UInt64} : FP.cmpInt 1 (FP.dcmp a b) = Op.cmpValue (FP.dcmp a b) .g := by
  unfold FP.cmpInt Op.cmpValue
  cases FP.dcmp a b with
  | none => rfl
  | some o => cases o <;> rfl
/-- Math.rint -/
theorem rint_s {r : UInt64} (h : FP.Core.DFin r) (hm : vm r < 2 ^ 52 * 2 ^ 1074) : zv (xrint r) = FP.Core.signed (vsg r) (nrU (vm r) * 2 ^ 1074) ∧ FP.Core.val64 (xrint r) ≠ .nan := by
  have hy := abs_bits h
  have ha := add52 hy hm
  have hnq : vm r / 2 ^ 1074 < 2 ^ 52 := (Nat.div_lt_iff_lt_mul (Nat.two_pow_pos _)).mpr hm
  have hN := nr_le (vm r)
  have hz : zv (FP.dadd (4841369599423283200 : UInt64) (r &&& 0x7fffffffffffffff)) - zv (4841369599423283200 : UInt64) = ((nrU (vm r) * 2 ^ 1074 : Nat) : Int) := by
    rw [ha.z, two52.z, Nat.add_mul]; omega
  obtain ⟨d1, d2⟩ := zv_dsub ha.1 two52.1 (by rw [hz]; exact ck_mul (by omega) (by omega))
  rw [hz] at d1
  unfold xrint
  rw [nan64_F' h.ne_nan, if_neg (by decide), sg_one h.ne_nan, abs_i64, cmI, if_pos ((cv_lt0 hy.ok two52.ok .g).mpr (by rw [hy.z, two52.z]; omega))]
  obtain ⟨e1, e2⟩ := sg_mul (s := vsg r) d2
  refine ⟨?_, e2⟩
  rw [e1, d1]
  cases vsg r <;> rfl
theorem rint_b {r : UInt64} (h : FP.Core.val64 r ≠ .nan) (hm : 2 ^ 52 * 2 ^ 1074 ≤ vm r) : zv (xrint r) = zv r ∧ FP.Core.val64 (xrint r) ≠ .nan := by
  have e := FP.Core.mask_toNat r
  have em : (r &&& 0x7fffffffffffffff).toNat % 2 ^ 63 = r.toNat % 2 ^ 63 := by rw [e, Nat.mod_mod]
  have hl : r.toNat % 2 ^ 63 < 2 ^ 63 := Nat.mod_lt _ (by decide)
  have hn : FP.Core.val64 (r &&& 0x7fffffffffffffff) ≠ .nan := FP.Core.mask_ne_nan h
  have hv : vm (r &&& 0x7fffffffffffffff) = vm r := by
    rw [show vm (r &&& 0x7fffffffffffffff) = FP.Core.unitsOf FP.Core.b64 ((r &&& 0x7fffffffffffffff).toNat % 2 ^ 63) from FP.Core.zmag_bits hn, em]
    exact (FP.Core.zmag_bits h).symm
  have hs : vsg (r &&& 0x7fffffffffffffff) = false := by
    rw [show vsg (r &&& 0x7fffffffffffffff) = decide (2 ^ 63 ≤ (r &&& 0x7fffffffffffffff).toNat) from FP.Core.sgn_bits hn]
    exact decide_eq_false (by omega)
  have hz : zv (r &&& 0x7fffffffffffffff) = (vm r : Int) := by
    show FP.Core.signed (vsg _) (vm _) = _
    rw [hs, hv]; rfl
  unfold xrint
  rw [nan64_F' h, if_neg (by decide), sg_one h, abs_i64, cmI, if_neg (show ¬ Op.cmpValue (FP.dcmp (r &&& 0x7fffffffffffffff) 4841369599423283200) .g < 0 from fun z => by
    have := (cv_lt0 hn two52.ok .g).mp z
    rw [hz, two52.z] at this
    omega)]
  obtain ⟨e1, e2⟩ := sg_mul (s := vsg r) hn
  refine ⟨?_, e2⟩
  rw [e1, hz]
  show _ = FP.Core.signed (vsg r) (vm r)
  cases vsg r <;> rfl
theorem hi32 : FP.Core.val64 (4746794007244308480 : UInt64) ≠ .nan ∧ zv (4746794007244308480 : UInt64) = ((2147483647 * 2 ^ 1074 : Nat) : Int) := ⟨(FP.Core.ne_nan _).mpr (by decide), by decide +kernel⟩
theorem lo32 : FP.Core.val64 (13970166044103278592 : UInt64) ≠ .nan ∧ zv (13970166044103278592 : UInt64) = -((2147483648 * 2 ^ 1074 : Nat) : Int) := ⟨(FP.Core.ne_nan _).mpr (by decide), by decide +kernel⟩
theorem hi32h : FP.Core.val64 (4746794007246405632 : UInt64) ≠ .nan ∧ zv (4746794007246405632 : UInt64) = ((4294967295 * hH : Nat) : Int) := ⟨(FP.Core.ne_nan _).mpr (by decide), by decide +kernel⟩
theorem lo32h : FP.Core.val64 (13970166044104327168 : UInt64) ≠ .nan ∧ zv (13970166044104327168 : UInt64) = -((4294967297 * hH : Nat) : Int) := ⟨(FP.Core.ne_nan _).mpr (by decide), by decide +kernel⟩
theorem hf64 : FP.Core.val64 (4602678819172646912 : UInt64) ≠ .nan ∧ zv (4602678819172646912 : UInt64) = (hH : Int) := ⟨(FP.Core.ne_nan _).mpr (by decide), by decide +kernel⟩
theorem hf64n : FP.Core.val64 (13826050856027422720 : UInt64) ≠ .nan ∧ zv (13826050856027422720 : UInt64) = -(hH : Int) := ⟨(FP.Core.ne_nan _).mpr (by decide), by decide +kernel⟩
/-- in range, in units -/
theorem far_iff {r : UInt64} (hX : FP.Core.val64 (xrint r) ≠ .nan) : ¬ farW r ↔ (-((2147483648 * 2 ^ 1074 : Nat) : Int) ≤ zv (xrint r) ∧ zv (xrint r) ≤ ((2147483647 * 2 ^ 1074 : Nat) : Int)) := by
  have c1 := cv_lt0 hX lo32.1 .l
  have c2 := cv_le0 hX hi32.1 .g
  rw [lo32.2] at c1
  rw [hi32.2] at c2
  constructor
  · intro h
    exact ⟨Int.not_lt.mp (fun z => h (.inl (c1.mpr z))), Classical.byContradiction (fun z => h (.inr (fun y => z (c2.mp y))))⟩
  · rintro ⟨h1, h2⟩ (z | z)
    · have := c1.mp z; omega
    · exact z (c2.mpr h2)
theorem m_hasN {r : UInt64} (h : FP.Core.val64 r ≠ .nan) (M : Mem) : d_X4_hasNearest r M = some (pB (-((4294967297 * hH : Nat) : Int) ≤ zv r ∧ zv r < ((4294967295 * hH : Nat) : Int)), M) := by
  have c1 := cv_lt0 h lo32h.1 .l
  have c2 := cv_0le h hi32h.1 .g
  rw [lo32h.2] at c1
  rw [hi32h.2] at c2
  unfold d_X4_hasNearest
  by_cases q1 : zv r < -((4294967297 * hH : Nat) : Int)
  · rw [if_pos (c1.mpr q1), pBF (fun z => by omega)]; rfl
  · rw [if_neg (fun z => q1 (c1.mp z))]
    by_cases q2 : ((4294967295 * hH : Nat) : Int) ≤ zv r
    · rw [if_pos (c2.mpr q2), pBF (fun z => by omega)]; rfl
    · rw [if_neg (fun z => q2 (c2.mp z)), pBT ⟨by omega, by omega⟩]; rfl
theorem near_s {r : UInt64} (h : FP.Core.DFin r) (hm : vm r < 2 ^ 52 * 2 ^ 1074) : (-((4294967297 * hH : Nat) : Int) ≤ zv r ∧ zv r < ((4294967295 * hH : Nat) : Int)) ↔ ¬ farW r := by
  obtain ⟨x1, x2⟩ := rint_s h hm
  rw [far_iff x2, x1, show zv r = FP.Core.signed (vsg r) (vm r) from rfl]
  have k1 := nr_iff (vm r) 2147483647
  have k2 := nr_iff (vm r) 2147483648
  have p := Nat.two_pow_pos 1074
  have p2 := hH0
  have le1 : ∀ K, nrU (vm r) * 2 ^ 1074 ≤ K * 2 ^ 1074 ↔ nrU (vm r) ≤ K := fun K => ⟨fun z => Nat.le_of_mul_le_mul_right z p, fun z => Nat.mul_le_mul_right _ z⟩
  have l1 := le1 2147483647
  have l2 := le1 2147483648
  rw [show 2 * 2147483647 + 1 = 4294967295 from rfl, show 2147483647 % 2 = 1 from rfl] at k1
  rw [show 2 * 2147483648 + 1 = 4294967297 from rfl, show 2147483648 % 2 = 0 from rfl] at k2
  rw [k1] at l1
  rw [k2] at l2
  generalize nrU (vm r) * 2 ^ 1074 = X at *
  generalize vm r = m at *
  generalize 2147483647 * 2 ^ 1074 = A at *
  generalize 2147483648 * 2 ^ 1074 = B at *
  cases vsg r
  · simp only [FP.Core.signed, Bool.false_eq_true, if_false]
    constructor
    · rintro ⟨-, a⟩
      exact ⟨by omega, by have := l1.mpr (.inl (by omega)); omega⟩
    · rintro ⟨-, a⟩
      have := l1.mp (by omega)
      exact ⟨by omega, by omega⟩
  · simp only [FP.Core.signed, if_true]
    constructor
    · rintro ⟨a, -⟩
      refine ⟨?_, by omega⟩
      have : m < 4294967297 * hH ∨ (m = 4294967297 * hH ∧ 0 = 0) := by omega
      have := l2.mpr this
      omega
    · rintro ⟨a, -⟩
      have := l2.mp (by omega)
      exact ⟨by omega, by omega⟩
theorem big_52 : 4294967297 * hH < 2 ^ 52 * 2 ^ 1074 ∧ 2147483648 * 2 ^ 1074 < 2 ^ 52 * 2 ^ 1074 := by
  have p := hH0
  rw [hH2]
  generalize hH = H at *
  exact ⟨by omega, by omega⟩
theorem near_b {r : UInt64} (h : FP.Core.val64 r ≠ .nan) (hm : 2 ^ 52 * 2 ^ 1074 ≤ vm r) : (¬ (-((4294967297 * hH : Nat) : Int) ≤ zv r ∧ zv r < ((4294967295 * hH : Nat) : Int))) ∧ farW r := by
  obtain ⟨x1, x2⟩ := rint_b h hm
  have hp := hH0
  obtain ⟨b1, b2⟩ := big_52
  have hz : zv r = FP.Core.signed (vsg r) (vm r) := rfl
  have b3 : 4294967295 * hH ≤ 4294967297 * hH := Nat.mul_le_mul_right _ (by decide)
  have b4 : 2147483647 * 2 ^ 1074 ≤ 2147483648 * 2 ^ 1074 := Nat.mul_le_mul_right _ (by decide)
  refine ⟨?_, Classical.byContradiction (fun z => ?_)⟩
  · rw [hz]
    generalize 2 ^ 52 * 2 ^ 1074 = T at *
    cases vsg r
    · simp only [FP.Core.signed, Bool.false_eq_true, if_false]; omega
    · simp only [FP.Core.signed, if_true]; omega
  · have := (far_iff x2).mp z
    rw [x1, hz] at this
    generalize 2 ^ 52 * 2 ^ 1074 = T at *
    cases e : vsg r
    · rw [e] at this; simp only [FP.Core.signed, Bool.false_eq_true, if_false] at this; omega
    · rw [e] at this; simp only [FP.Core.signed, if_true] at this; omega
theorem inf_big {r : UInt64} (h : FP.Core.val64 r ≠ .nan) (hf : ¬ FP.Core.DFin r) : 2 ^ 52 * 2 ^ 1074 ≤ vm r := by
  obtain ⟨s, hs⟩ := inf_of h hf
  rw [(inf_vm hs).1, ← Nat.pow_add]
  exact Nat.pow_le_pow_right (by decide) (by decide)
theorem fp_near2 {r : UInt64} (h : isNaN64 r = false) (M : Mem) : d_X4_hasNearest r M = some (pB (¬ farW r), M) := by
  have hr := nan64_F h
  rw [m_hasN hr]
  by_cases f : FP.Core.DFin r
  · by_cases c : vm r < 2 ^ 52 * 2 ^ 1074
    · rw [pBc (near_s f c)]
    · obtain ⟨b1, b2⟩ := near_b hr (by omega)
      rw [pBF b1, pBF (fun z => z b2)]
  · obtain ⟨b1, b2⟩ := near_b hr (inf_big hr f)
    rw [pBF b1, pBF (fun z => z b2)]
theorem fp_far_nan2 {r : UInt64} (h : isNaN64 r = true) : farW r := by
  have e : xrint r = 0x7ff8000000000000 := by unfold xrint; rw [if_pos h]
  refine .inl ?_
  rw [e, fp_cmp_nan (.inl (show isNaN64 0x7ff8000000000000 = true by decide)) .l]
  decide
/-- a whole number of units is cast to itself -/
theorem d2i_w {X : UInt64} {s : Bool} {N : Nat} (hX : FP.Core.val64 X ≠ .nan) (hz : zv X = FP.Core.signed s (N * 2 ^ 1074)) (h1 : -2147483648 ≤ FP.Core.signed s N) (h2 : FP.Core.signed s N ≤ 2147483647) : (FP.d2i X).toInt = FP.Core.signed s N := by
  have hz2 : FP.Core.signed (vsg X) (vm X) = FP.Core.signed s (N * 2 ^ 1074) := hz
  have hv : vm X = N * 2 ^ 1074 := by
    have := congrArg Int.natAbs hz2
    rwa [FP.Core.natAbs_signed, FP.Core.natAbs_signed] at this
  have hd : vm X / 2 ^ 1074 = N := by rw [hv, Nat.mul_div_cancel _ (Nat.two_pow_pos _)]
  have hs : FP.Core.signed (vsg X) N = FP.Core.signed s N := by
    rcases Nat.eq_zero_or_pos N with z | z
    · rw [z, FP.Core.signed_zero, FP.Core.signed_zero]
    · have hp : 0 < N * 2 ^ 1074 := Nat.mul_pos z (Nat.two_pow_pos _)
      rw [hv] at hz2
      generalize N * 2 ^ 1074 = P at hz2 hp
      cases e1 : vsg X <;> cases s <;> rw [e1] at hz2 <;> simp only [FP.Core.signed, Bool.false_eq_true, if_false, if_true] at hz2 <;> first | rfl | omega
  have := FP.Core.d2i_val hX
  rw [show FP.Core.one64 = 2 ^ 1074 from rfl, show FP.Core.zmag FP.Core.b64 (FP.Core.val64 X) / 2 ^ 1074 = N from hd, show FP.Core.sgn (FP.Core.val64 X) = vsg X from rfl, hs] at this
  show (FP.Core.d2i X).toInt = _
  rw [this]
  omega
theorem and1 {t : Int64} {s : Bool} {q : Nat} (hq : q < 2 ^ 62) (h : t.toInt = FP.Core.signed s q) : lg_cmp (t &&& (1 : Int64)) (0 : Int64) = 0 ↔ q % 2 = 0 := by
  have e1 : (t &&& (1 : Int64)).toUInt64.toNat = t.toUInt64.toNat % 2 := by rw [i64_and, show (1 : Int64).toUInt64.toNat = 1 by decide, Nat.and_one_is_mod]
  have e2 : t.toUInt64.toNat % 2 = q % 2 := by
    have hb : t.toBitVec.toInt = FP.Core.signed s q := h
    have hlt := t.toUInt64.toNat_lt
    rw [BitVec.toInt_eq_toNat_cond] at hb
    have hn : t.toBitVec.toNat = t.toUInt64.toNat := rfl
    rw [hn] at hb
    cases s
    · simp only [FP.Core.signed, Bool.false_eq_true, if_false] at hb
      split at hb <;> omega
    · simp only [FP.Core.signed, if_true] at hb
      split at hb <;> omega
  rw [lg_cmp_eq]
  constructor
  · intro z
    rw [z, show (0 : Int64).toUInt64.toNat = 0 by decide] at e1
    omega
  · intro z
    exact i64_ext (by rw [e1, e2, z]; decide)
theorem fp_nearest2 {r : UInt64} (h : isNaN64 r = false) (hf : ¬ farW r) (M : Mem) : d_X4_nearest r M = some (FP.d2i (xrint r), M) := by
  have hr := nan64_F h
  have f : FP.Core.DFin r := Classical.byContradiction (fun f => hf (near_b hr (inf_big hr f)).2)
  have hm : vm r < 2 ^ 52 * 2 ^ 1074 := Nat.lt_of_not_le (fun c => hf (near_b hr c).2)
  obtain ⟨x1, x2⟩ := rint_s f hm
  have hw := (far_iff x2).mp hf
  rw [x1] at hw
  have p := Nat.two_pow_pos 1074
  -- the answer is in range
  have hs1 : -2147483648 ≤ FP.Core.signed (vsg r) (nrU (vm r)) ∧ FP.Core.signed (vsg r) (nrU (vm r)) ≤ 2147483647 := by
    have le1 : ∀ K, nrU (vm r) * 2 ^ 1074 ≤ K * 2 ^ 1074 → nrU (vm r) ≤ K := fun K z => Nat.le_of_mul_le_mul_right z p
    have l1 := le1 2147483647
    have l2 := le1 2147483648
    clear le1 x1 hm
    generalize nrU (vm r) * 2 ^ 1074 = X at hw l1 l2
    obtain ⟨w1, w2⟩ := hw
    obtain ⟨A, hA⟩ : ∃ A, A = 2147483647 * 2 ^ 1074 := ⟨_, rfl⟩
    obtain ⟨C, hC⟩ : ∃ C, C = 2147483648 * 2 ^ 1074 := ⟨_, rfl⟩
    rw [← hC] at w1 l2
    rw [← hA] at w2 l1
    clear hA hC
    cases e : vsg r
    · rw [e] at w1 w2
      simp only [FP.Core.signed, Bool.false_eq_true, if_false] at w1 w2 ⊢
      have := l1 (by omega)
      omega
    · rw [e] at w1 w2
      simp only [FP.Core.signed, if_true] at w1 w2 ⊢
      have := l2 (by omega)
      omega
  have hD := d2i_w x2 x1 hs1.1 hs1.2
  have hq1 := nr_le (vm r)
  have hq2 := nr_ge (vm r)
  have hq3 : vm r / 2 ^ 1074 ≤ 2147483648 := by
    cases e : vsg r
    · rw [e] at hs1; simp only [FP.Core.signed, Bool.false_eq_true, if_false] at hs1; omega
    · rw [e] at hs1; simp only [FP.Core.signed, if_true] at hs1; omega
  -- the part towards zero
  have ht : (FP.d2l r).toInt = FP.Core.signed (vsg r) (vm r / 2 ^ 1074) := by
    rw [show FP.d2l r = FP.Core.d2l r from rfl, FP.Core.d2l_val hr]
    show max _ (min _ (FP.Core.signed (vsg r) (vm r / 2 ^ 1074))) = _
    generalize vm r / 2 ^ 1074 = q at hq3
    cases vsg r
    · simp only [FP.Core.signed, Bool.false_eq_true, if_false]; omega
    · simp only [FP.Core.signed, if_true]; omega
  have hta : (FP.d2l r).toInt.natAbs ≤ 2 ^ 53 := by rw [ht, FP.Core.natAbs_signed]; omega
  have hl : zv (FP.l2d (FP.d2l r)) = FP.Core.signed (vsg r) (vm r / 2 ^ 1074 * 2 ^ 1074) := by
    rw [show zv (FP.l2d (FP.d2l r)) = _ from FP.Core.DInt_zval (FP.Core.l2d_int hta), ht, FP.Core.signed_mul]
    rfl
  have hlf : FP.Core.DFin (FP.l2d (FP.d2l r)) := FP.Core.l2d_fin _
  have hdm := Nat.div_add_mod (vm r) (2 ^ 1074)
  have hov : zv r - zv (FP.l2d (FP.d2l r)) = FP.Core.signed (vsg r) (vm r % 2 ^ 1074) := by
    rw [hl, show zv r = FP.Core.signed (vsg r) (vm r) from rfl]
    rw [Nat.mul_comm] at hdm
    generalize vm r / 2 ^ 1074 * 2 ^ 1074 = Q at *
    generalize vm r % 2 ^ 1074 = t at *
    cases vsg r
    · simp only [FP.Core.signed, Bool.false_eq_true, if_false]; omega
    · simp only [FP.Core.signed, if_true]; omega
  obtain ⟨o1, o2⟩ := zv_dsub f hlf (by rw [hov, FP.Core.natAbs_signed]; exact ck_mod (ck_fin f) 1074)
  rw [hov] at o1
  generalize hO : FP.dsub r (FP.l2d (FP.d2l r)) = ov at o1 o2
  have a1 := and1 (t := FP.d2l r) (q := vm r / 2 ^ 1074) (by omega) ht
  have g1 := cv_0lt o2 hf64.1 .l
  have g2 := cv_eq0 o2 hf64.1 .l
  have g3 := cv_lt0 o2 hf64n.1 .g
  have g4 := cv_eq0 o2 hf64n.1 .l
  rw [hf64.2, o1] at g1 g2
  rw [hf64n.2, o1] at g3 g4
  -- what is nearest
  have hnr : nrU (vm r) = if vm r % 2 ^ 1074 < hH then vm r / 2 ^ 1074 else if hH < vm r % 2 ^ 1074 then vm r / 2 ^ 1074 + 1 else vm r / 2 ^ 1074 + vm r / 2 ^ 1074 % 2 := by
    unfold nrU FP.Core.nearest
    generalize vm r % 2 ^ 1074 = t
    generalize vm r / 2 ^ 1074 = q
    rw [hH2]
    generalize hH = H
    by_cases c1 : t < H
    · rw [if_pos (show 2 * t < 2 * H by omega), if_pos c1]
    · rw [if_neg (show ¬ 2 * t < 2 * H by omega), if_neg c1]
      by_cases c2 : H < t
      · rw [if_pos (show 2 * H < 2 * t by omega), if_pos c2]
      · rw [if_neg (show ¬ 2 * H < 2 * t by omega), if_neg c2]
  have fin : ∀ v : Int64, v.toInt = FP.Core.signed (vsg r) (nrU (vm r)) → v.toInt32 = FP.d2i (xrint r) := fun v hv => by
    refine Int32.toInt_inj.mp ?_
    rw [hD, ← hv]
    exact FP.Core.int64_toInt32 (by rw [hv]; omega) (by rw [hv]; omega)
  have up : (FP.d2l r + (1 : Int64)).toInt = (FP.d2l r).toInt + 1 := by
    rw [FP.Core.int64_add] <;> rw [show (1 : Int64).toInt = 1 by decide, ht] <;> generalize vm r / 2 ^ 1074 = q at hq3 <;> cases vsg r <;> simp only [FP.Core.signed, Bool.false_eq_true, if_false, if_true] <;> omega
  have dn : (FP.d2l r - (1 : Int64)).toInt = (FP.d2l r).toInt - 1 := by
    rw [FP.Core.int64_sub] <;> rw [show (1 : Int64).toInt = 1 by decide, ht] <;> generalize vm r / 2 ^ 1074 = q at hq3 <;> cases vsg r <;> simp only [FP.Core.signed, Bool.false_eq_true, if_false, if_true] <;> omega
  have hp := hH0
  have st : d_X4_nearest r M = d_X4_nearest_22 (FP.d2l r) ov (pB (¬ vm r / 2 ^ 1074 % 2 = 0)) M := by
    unfold d_X4_nearest
    rw [bnd_eq, bnd_eq, hO]
    by_cases c : vm r / 2 ^ 1074 % 2 = 0
    · rw [if_pos (a1.mpr c), pBF (fun z => z c)]; rfl
    · rw [if_neg (fun z => c (a1.mp z)), pBT c]; rfl
  rw [st]
  unfold d_X4_nearest_22 d_X4_nearest_54 d_X4_nearest_47 d_X4_nearest_77
  simp only [bnd_eq]
  generalize hQ : vm r / 2 ^ 1074 = q at *
  generalize hT : vm r % 2 ^ 1074 = t at *
  generalize hH = H at *
  clear hdm hl hov
  have key : ∀ v : Int64, v.toInt = FP.Core.signed (vsg r) (nrU (vm r)) → some (v.toInt32, M) = some (FP.d2i (xrint r), M) := fun v hv => by rw [fin v hv]
  cases e : vsg r
  · rw [e] at ht g1 g2 g3 g4 key
    simp only [FP.Core.signed, Bool.false_eq_true, if_false] at ht g1 g2 g3 g4 key
    have n3 : ¬ Op.cmpValue (FP.dcmp ov (13826050856027422720 : UInt64)) .g < 0 := fun z => by have := g3.mp z; omega
    have n4 : ¬ Op.cmpValue (FP.dcmp ov (13826050856027422720 : UInt64)) .l = 0 := fun z => by have := g4.mp z; omega
    by_cases c1 : H < t
    · rw [if_pos (g1.mpr (by omega))]
      exact key _ (by rw [up, ht, hnr, if_neg (by omega), if_pos c1]; omega)
    · rw [if_neg (fun z => c1 (by have := g1.mp z; omega))]
      by_cases c2 : t = H
      · rw [if_pos (g2.mpr (by omega))]
        by_cases c3 : q % 2 = 0
        · rw [pBF (fun z => z c3), if_pos z00, if_neg n3, if_neg n4]
          exact key _ (by rw [ht, hnr, if_neg (by omega), if_neg c1]; omega)
        · rw [pBT c3, if_neg n1z]
          exact key _ (by rw [up, ht, hnr, if_neg (by omega), if_neg c1]; omega)
      · rw [if_neg (fun z => c2 (by have := g2.mp z; omega)), if_neg n3, if_neg n4]
        exact key _ (by rw [ht, hnr, if_pos (by omega)])
  · rw [e] at ht g1 g2 g3 g4 key
    simp only [FP.Core.signed, if_true] at ht g1 g2 g3 g4 key
    have n1 : ¬ 0 < Op.cmpValue (FP.dcmp ov (4602678819172646912 : UInt64)) .l := fun z => by have := g1.mp z; omega
    have n2 : ¬ Op.cmpValue (FP.dcmp ov (4602678819172646912 : UInt64)) .l = 0 := fun z => by have := g2.mp z; omega
    rw [if_neg n1, if_neg n2]
    by_cases c1 : H < t
    · rw [if_pos (g3.mpr (by omega))]
      exact key _ (by rw [dn, ht, hnr, if_neg (by omega), if_pos c1]; omega)
    · rw [if_neg (fun z => c1 (by have := g3.mp z; omega))]
      by_cases c2 : t = H
      · rw [if_pos (g4.mpr (by omega))]
        by_cases c3 : q % 2 = 0
        · rw [pBF (fun z => z c3), if_pos z00]
          exact key _ (by rw [ht, hnr, if_neg (by omega), if_neg c1]; omega)
        · rw [pBT c3, if_neg n1z]
          exact key _ (by rw [dn, ht, hnr, if_neg (by omega), if_neg c1]; omega)
      · rw [if_neg (fun z => c2 (by have := g4.mp z; omega))]
        exact key _ (by rw [ht, hnr, if_pos (by omega)])
end MF4
