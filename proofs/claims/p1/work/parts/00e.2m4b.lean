/-! ===== doubles: bits ===== -/
section MF3
/-- the bits of a double, as they are told -/
def bitsV (r : UInt64) : Int64 := if isNaN64 r then 9221120237041090560 else r.toInt64
theorem fp_cmp_nan {a b : UInt64} (h : isNaN64 a = true ∨ isNaN64 b = true) (o : CmpOp) : FP.dcmp a b = none := by
  rw [nan64_iff, nan64_iff] at h
  exact (FP.Core.dcmp_none a b).mpr h
/-! endless -/
theorem inf_of {a : UInt64} (h : FP.Core.val64 a ≠ .nan) (hf : ¬ FP.Core.DFin a) : ∃ s, FP.Core.val64 a = .inf s := (fin_or h).resolve_left hf
theorem inf_nf {a : UInt64} {s : Bool} (h : FP.Core.val64 a = .inf s) : ¬ FP.Core.DFin a := fun ⟨t, c, q, k⟩ => by rw [h] at k; cases k
theorem inf_0 {a : UInt64} {s : Bool} (h : FP.Core.val64 a = .inf s) : 0 < zv a ↔ s = false := by
  obtain ⟨h1, h2⟩ := inf_vm h
  have hp := Nat.two_pow_pos 2098
  show 0 < FP.Core.signed (vsg a) (vm a) ↔ _
  rw [h1, h2]
  generalize 2 ^ 2098 = T at hp
  cases s
  · simp only [FP.Core.signed, Bool.false_eq_true, if_false]
    exact iff_of_true (by omega) trivial
  · simp only [FP.Core.signed, if_true]
    exact iff_of_false (by omega) (by decide)
theorem inf_0e {a : UInt64} {s : Bool} (h : FP.Core.val64 a = .inf s) : 0 ≤ zv a ↔ s = false := by
  obtain ⟨h1, h2⟩ := inf_vm h
  have hp := Nat.two_pow_pos 2098
  show 0 ≤ FP.Core.signed (vsg a) (vm a) ↔ _
  rw [h1, h2]
  generalize 2 ^ 2098 = T at hp
  cases s
  · simp only [FP.Core.signed, Bool.false_eq_true, if_false]
    exact iff_of_true (by omega) trivial
  · simp only [FP.Core.signed, if_true]
    exact iff_of_false (by omega) (by decide)
theorem m_endless {x : UInt64} (h : FP.Core.val64 x ≠ .nan) (M : Mem) : d_X4_isEndless x M = some (pB (¬ FP.Core.DFin x), M) := by
  have hb := (FP.Core.ne_nan x).mp h
  have hx := x.toNat_lt
  have k1 : FP.Core.val64 (9218868437227405311 : UInt64) ≠ .nan := (FP.Core.ne_nan _).mpr (by decide)
  have k2 : FP.Core.val64 (18442240474082181119 : UInt64) ≠ .nan := (FP.Core.ne_nan _).mpr (by decide)
  have z1 : ∀ a b : UInt64, FP.Core.val64 a ≠ .nan → FP.Core.val64 b ≠ .nan → (zv a < zv b ↔ FP.Core.dkey a < FP.Core.dkey b) := fun a b ha hb => by
    have e1 := FP.Core.dcmp_zval ha hb
    have e2 := FP.Core.dcmp_key ha hb
    rw [e1, Option.some.injEq] at e2
    rw [← FP.Core.compare_lt_iff, ← FP.Core.compare_lt_iff, e2]
  have d1 : FP.Core.dkey (9218868437227405311 : UInt64) = 9218868437227405311 := by decide
  have d2 : FP.Core.dkey (18442240474082181119 : UInt64) = -9218868437227405311 := by decide
  have hd : FP.Core.dkey x = if 2 ^ 63 ≤ x.toNat then ((2 ^ 63 : Nat) : Int) - (x.toNat : Int) else (x.toNat : Int) := rfl
  unfold d_X4_isEndless
  by_cases c1 : zv (9218868437227405311 : UInt64) < zv x
  · rw [if_pos ((cv_0lt h k1 .l).mpr c1), pBT]
    · rfl
    · rw [FP.Core.fin_bits]
      rw [z1 _ _ k1 h, d1, hd] at c1
      split at c1 <;> omega
  · rw [if_neg (fun z => c1 ((cv_0lt h k1 .l).mp z))]
    rw [z1 _ _ k1 h, d1, hd] at c1
    by_cases c2 : zv x < zv (18442240474082181119 : UInt64)
    · rw [if_neg (fun z => absurd ((cv_0le h k2 .g).mp z) (by omega)), pBT]
      · rfl
      · rw [FP.Core.fin_bits]
        rw [z1 _ _ h k2, d2, hd] at c2
        split at c2 <;> omega
    · rw [if_pos ((cv_0le h k2 .g).mpr (by omega)), pBF]
      · rfl
      · rw [FP.Core.fin_bits]
        rw [z1 _ _ h k2, d2, hd] at c2
        split at c2 <;> split at c1 <;> omega
theorem z_zero {a : UInt64} (h : FP.Core.val64 a ≠ .nan) : zv a = 0 ↔ FP.Core.DZero a := by
  rw [FP.Core.zero_bits2]
  exact FP.Core.zval_eq_zero h
/-! longs that are naturals -/
theorem i64_ext {a b : Int64} (h : a.toUInt64.toNat = b.toUInt64.toNat) : a = b := congrArg Int64.ofUInt64 (UInt64.toNat_inj.mp h)
theorem i64_nat {n : Nat} (h : n < 2 ^ 64) : (Int64.ofNat n).toUInt64.toNat = n := by
  show (UInt64.ofNat n).toNat = n
  exact UInt64.toNat_ofNat_of_lt' h
theorem i64_of {x : Int64} {n : Nat} (hn : n < 2 ^ 63) (h : x.toInt = (n : Int)) : x = Int64.ofNat n := Int64.toInt_inj.mp (h.trans (Int64.toInt_ofNat_of_lt hn).symm)
theorem i64_or (a b : Int64) : (a ||| b).toUInt64.toNat = a.toUInt64.toNat ||| b.toUInt64.toNat := UInt64.toNat_or _ _
theorem i64_and (a b : Int64) : (a &&& b).toUInt64.toNat = a.toUInt64.toNat &&& b.toUInt64.toNat := UInt64.toNat_and _ _
theorem sh52 : ((52 : Int32).toInt64 &&& 63) = (52 : Int64) := by decide
theorem i64_sh {e : Nat} (h : e < 2048) : (Int64.ofNat e <<< (52 : Int64)).toUInt64.toNat = e * 2 ^ 52 := by
  have k : (Int64.ofNat e <<< (52 : Int64)).toUInt64.toNat = ((BitVec.ofNat 64 e) <<< (52 : Nat)).toNat := by
    have : ((52 : Int64).toBitVec.smod 64) = 52#64 := by decide
    show ((Int64.ofNat e).toBitVec <<< ((52 : Int64).toBitVec.smod 64)).toNat = _
    rw [this]
    rfl
  rw [k, BitVec.toNat_shiftLeft, BitVec.toNat_ofNat, Nat.shiftLeft_eq, Nat.mod_eq_of_lt (show e < 2 ^ 64 by omega), Nat.mod_eq_of_lt (by omega)]
theorem or_pow {a b i : Nat} (h : b < 2 ^ i) : a * 2 ^ i ||| b = a * 2 ^ i + b := by
  rw [Nat.mul_comm a, Nat.two_pow_add_eq_or_of_lt h]
/-! what a number's bits are -/
theorem dcm {r : UInt64} (hf : FP.Core.DFin r) : ∃ c k, r.toNat % 2 ^ 63 = (if c < 2 ^ 52 then c else (k + 1) * 2 ^ 52 + (c - 2 ^ 52)) ∧ c < 2 ^ 53 ∧ k ≤ 2045 ∧ (2 ^ 52 ≤ c ∨ k = 0) ∧ vm r = c * 2 ^ k := by
  have hm : vm r = FP.Core.unitsOf FP.Core.b64 (r.toNat % 2 ^ 63) := FP.Core.zmag_bits hf.ne_nan
  have hb := (FP.Core.fin_bits r).mp hf
  rw [hm]
  generalize r.toNat % 2 ^ 63 = n at hb ⊢
  unfold FP.Core.unitsOf
  rw [FP.Core.tails_b64]
  by_cases c : n < 2 ^ 52
  · rw [if_pos c]
    refine ⟨n, 0, ?_, by omega, by omega, .inr rfl, (Nat.mul_one n).symm⟩
    rw [if_pos c]
  · rw [if_neg c]
    refine ⟨2 ^ 52 + n % 2 ^ 52, n / 2 ^ 52 - 1, ?_, by omega, by omega, .inl (by omega), rfl⟩
    rw [if_neg (by omega)]
    omega
/-- the sign's bit -/
abbrev sgB (r : UInt64) : Int64 := if vsg r = true then (-9223372036854775808 : Int64) else (0 : Int64)
theorem sgB_n {r : UInt64} (h : FP.Core.val64 r ≠ .nan) : (sgB r).toUInt64.toNat = r.toNat - r.toNat % 2 ^ 63 ∧ (r.toNat - r.toNat % 2 ^ 63 = 0 ∨ r.toNat - r.toNat % 2 ^ 63 = 1 * 2 ^ 63) := by
  have hs := FP.Core.sgn_bits h
  have hr := r.toNat_lt
  unfold sgB
  by_cases c : 2 ^ 63 ≤ r.toNat
  · rw [decide_eq_true c] at hs
    have e : r.toNat - r.toNat % 2 ^ 63 = 1 * 2 ^ 63 := by omega
    rw [if_pos hs, e]
    exact ⟨by decide, .inr rfl⟩
  · rw [decide_eq_false c] at hs
    have e : r.toNat - r.toNat % 2 ^ 63 = 0 := by omega
    rw [if_neg (by rw [show vsg r = false from hs]; decide), e]
    exact ⟨by decide, .inl rfl⟩
/-- with its sign -/
theorem sg_or {r : UInt64} (h : FP.Core.val64 r ≠ .nan) {x : Int64} (hx : x.toUInt64.toNat = r.toNat % 2 ^ 63) : (sgB r ||| x) = r.toInt64 := by
  obtain ⟨h1, h2⟩ := sgB_n h
  refine i64_ext ?_
  rw [i64_or, h1, hx]
  show _ = r.toNat
  have hl : r.toNat % 2 ^ 63 < 2 ^ 63 := Nat.mod_lt _ (by decide)
  rcases h2 with e | e
  · rw [e, Nat.zero_or]; omega
  · rw [e, or_pow hl]; omega
theorem bits_n {r : UInt64} {c k : Nat} (h : FP.Core.val64 r ≠ .nan) (hb : r.toNat % 2 ^ 63 = (if c < 2 ^ 52 then c else (k + 1) * 2 ^ 52 + (c - 2 ^ 52))) (hc : c < 2 ^ 53) (hk : k ≤ 2045) {t : Int64} (h52 : 2 ^ 52 ≤ c) (ht : t.toUInt64.toNat = c - 2 ^ 52) : ((sgB r ||| (Int64.ofNat (k + 1) <<< ((52 : Int32).toInt64 &&& 63))) ||| t) = r.toInt64 := by
  rw [Int64.or_assoc]
  refine sg_or h ?_
  rw [i64_or, sh52, i64_sh (by omega), ht, or_pow (by omega), hb, if_neg (by omega)]
theorem bits_s {r : UInt64} {c k : Nat} (h : FP.Core.val64 r ≠ .nan) (hb : r.toNat % 2 ^ 63 = (if c < 2 ^ 52 then c else (k + 1) * 2 ^ 52 + (c - 2 ^ 52))) {t : Int64} (h52 : c < 2 ^ 52) (ht : t.toUInt64.toNat = c) : (sgB r ||| t) = r.toInt64 := by
  refine sg_or h ?_
  rw [ht, hb, if_pos h52]
theorem bits_z {r : UInt64} (h : FP.Core.val64 r ≠ .nan) (hz : vm r = 0) : sgB r = r.toInt64 := by
  have hm : vm r = FP.Core.unitsOf FP.Core.b64 (r.toNat % 2 ^ 63) := FP.Core.zmag_bits h
  have e0 := FP.Core.unitsOf_eq_zero.mp (hm.symm.trans hz)
  obtain ⟨h1, -⟩ := sgB_n h
  refine i64_ext ?_
  rw [h1, e0]
  rfl
theorem bits_i {r : UInt64} {s : Bool} (h : FP.Core.val64 r = .inf s) : (sgB r ||| (9218868437227405312 : Int64)) = r.toInt64 := by
  have hn : FP.Core.val64 r ≠ .nan := by rw [h]; exact FP.Core.Datum.noConfusion
  refine sg_or hn ?_
  have h1 := (FP.Core.ne_nan r).mp hn
  have h2 : ¬ r.toNat % 2 ^ 63 < 9218868437227405312 := fun z => inf_nf h ((FP.Core.fin_bits r).mpr z)
  have : r.toNat % 2 ^ 63 = 9218868437227405312 := by omega
  rw [this]
  decide
/-- the sign, as both programs find it -/
theorem one_over {x : UInt64} (hz : FP.Core.DZero x) : ∃ s, vsg x = s ∧ FP.Core.val64 (FP.ddiv FP.dconst1 x) = .inf s := by
  obtain ⟨s, q, h⟩ := hz
  refine ⟨s, ?_, ?_⟩
  · show FP.Core.sgn (FP.Core.val64 x) = s
    rw [h]; rfl
  · rw [show FP.ddiv FP.dconst1 x = FP.Core.ddiv FP.Core.dconst1 x from rfl, FP.Core.val64_ddiv, h, FP.Core.val64_dconst1]
    cases s <;> rfl
theorem sg_zv {x : UInt64} (h : zv x ≠ 0) : vsg x = true ↔ zv x < 0 := by
  have e : zv x = FP.Core.signed (vsg x) (vm x) := rfl
  rw [e] at h ⊢
  cases vsg x
  · refine iff_of_false (by decide) ?_
    simp only [FP.Core.signed, Bool.false_eq_true, if_false]
    omega
  · refine iff_of_true rfl ?_
    simp only [FP.Core.signed, if_true] at h ⊢
    omega
theorem m_negC {x : UInt64} (h : FP.Core.val64 x ≠ .nan) (M : Mem) : d_X4_isNegative x M = some (pB (vsg x = true), M) := by
  have c1 := cv_lt0 h v0n .g
  have c2 := cv_eq0 h v0n .l
  rw [zv0] at c1 c2
  unfold d_X4_isNegative
  by_cases q : zv x < 0
  · rw [if_pos (c1.mpr q), pBT ((sg_zv (by omega)).mpr q)]; rfl
  · rw [if_neg (fun z => q (c1.mp z))]
    by_cases q2 : zv x = 0
    · rw [if_pos (c2.mpr q2)]
      obtain ⟨s, hs, hi⟩ := one_over ((z_zero h).mp q2)
      have hin : FP.Core.val64 (FP.ddiv FP.dconst1 x) ≠ .nan := by rw [hi]; exact FP.Core.Datum.noConfusion
      have c3 := cv_0le hin v0n .g
      rw [zv0, inf_0e hi] at c3
      cases s
      · rw [if_pos (c3.mpr rfl), pBF (by rw [hs]; decide)]; rfl
      · rw [if_neg (fun z => absurd (c3.mp z) (by decide)), pBT hs]; rfl
    · rw [if_neg (fun z => q2 (c2.mp z)), pBF (fun z => q ((sg_zv q2).mp z))]; rfl
/-! powers of two -/
theorem nn_mk {x : UInt64} {m : Nat} (hn : FP.Core.val64 x ≠ .nan) (hs : vsg x = false) (hm : vm x = m) (ht : m < 2 ^ 2098) : NN x m := by
  refine ⟨(fin_or hn).resolve_right (fun ⟨s, z⟩ => ?_), hs, hm⟩
  have := (inf_vm z).1
  omega
theorem nn_pow {a v : UInt64} {m i : Nat} (ha : NN a m) (hv : FP.Core.val64 v = .fin false (2 ^ 52) ((i : Int) - 52)) (hi : i ≤ 100) (hck : CK (m * 2 ^ i)) : NN (FP.dmul a v) (m * 2 ^ i) := by
  obtain ⟨V, v1, v2, v3, v4⟩ := ck_V hck
  have e := FP.Core.val64_dmul a v
  obtain ⟨⟨s, c, q, hc⟩, hs, hvm⟩ := ha
  have hf := FP.Core.val64_fits a
  have h2 := FP.Core.val64_fits v
  rw [hv] at e h2
  have hs2 : s = false := by
    have : FP.Core.sgn (FP.Core.val64 a) = false := hs
    rw [hc] at this; exact this
  have hvm2 : FP.Core.zmag FP.Core.b64 (.fin s c q) = m := by rw [← hc]; exact hvm
  rw [hc] at e hf
  obtain ⟨p1, p2, p3⟩ := FP.Core.product_units hf h2
  rw [p1] at e
  have hq : FP.Core.b64.qmin = -1074 := FP.Core.qmin_b64
  have hu2 : FP.Core.zmag FP.Core.b64 (.fin false (2 ^ 52) ((i : Int) - 52)) = 2 ^ i * 2 ^ 1074 := by
    show 2 ^ 52 * 2 ^ ((i : Int) - 52 - FP.Core.b64.qmin).toNat = _
    rw [← Nat.pow_add, ← Nat.pow_add]
    exact congrArg (2 ^ ·) (by omega)
  rw [hvm2, hu2, ← Nat.mul_assoc] at p3
  have hk : (FP.Core.b64.qmin - 2 * FP.Core.b64.qmin).toNat = 1074 := by rw [hq]; decide
  have l := FP.Core.zmag_roundRatio_le FP.Core.good_b64 (s := s != false) (A := c * 2 ^ 52) (B := 1) (e := q + ((i : Int) - 52)) (e0 := 2 * FP.Core.b64.qmin) (by decide) v1 v2 (by omega) p2 (by rw [p3, hk, v3, Nat.mul_one]; exact Nat.le_refl _)
  have g := FP.Core.zmag_roundRatio_ge FP.Core.good_b64 (s := s != false) (A := c * 2 ^ 52) (B := 1) (e := q + ((i : Int) - 52)) (e0 := 2 * FP.Core.b64.qmin) (by decide) v1 (by omega) p2 (by rw [p3, hk, v3, Nat.mul_one]; exact Nat.le_refl _)
  have e2 : FP.Core.val64 (FP.dmul a v) = FP.Core.roundRatio FP.Core.b64 (s != false) (c * 2 ^ 52) 1 (q + ((i : Int) - 52)) := e
  have hn : FP.Core.val64 (FP.dmul a v) ≠ .nan := by rw [e2]; exact FP.Core.roundRatio_ne_nan _ _ _ _ _
  rw [← e2, v3] at l g
  refine nn_mk hn ?_ (Nat.le_antisymm l g) (ck_lt hck)
  show FP.Core.sgn (FP.Core.val64 (FP.dmul a v)) = false
  rw [e2, FP.Core.sgn_roundRatio, hs2]
  rfl
theorem d2l_nn {x : UInt64} {c : Nat} (h : NN x (c * 2 ^ 1074)) (hc : c < 2 ^ 63) : FP.d2l x = Int64.ofNat c := by
  refine i64_of hc ?_
  rw [show FP.d2l x = FP.Core.d2l x from rfl, FP.Core.d2l_val h.ok, show FP.Core.sgn (FP.Core.val64 x) = false from h.2.1, show FP.Core.zmag FP.Core.b64 (FP.Core.val64 x) = c * 2 ^ 1074 from h.2.2, show FP.Core.one64 = 2 ^ 1074 from rfl, Nat.mul_div_cancel _ (Nat.two_pow_pos _)]
  show max _ (min _ (c : Int)) = _
  omega
theorem pw {c t : Nat} : c * 2 ^ (t + 1) = 2 * (c * 2 ^ t) := by rw [Nat.pow_succ]; ac_rfl
theorem pw_le {t u : Nat} (h : t ≤ u) (c : Nat) : c * 2 ^ t ≤ c * 2 ^ u := Nat.mul_le_mul_left _ (Nat.pow_le_pow_right (by decide) h)
/-! the class -/
theorem two53 : NN (4845873199050653696 : UInt64) (2 ^ 53 * 2 ^ 1074) := ⟨(FP.Core.fin_bits _).mpr (by decide), by decide +kernel, by decide +kernel⟩
theorem two52 : NN (4841369599423283200 : UInt64) (2 ^ 52 * 2 ^ 1074) := ⟨(FP.Core.fin_bits _).mpr (by decide), by decide +kernel, by decide +kernel⟩
theorem ck_ct {c t : Nat} (hc : c < 2 ^ 53) (ht : t ≤ 2045) : CK (c * 2 ^ t) := ⟨c, t, hc, ht, rfl⟩
theorem i64_ge1 {e : Nat} (he : e < 5000) : lg_cmp (Int64.ofNat e) (1 : Int64) ≤ 0 ↔ e ≤ 1 := by
  rw [lg_cmp_le, Int64.le_iff_toInt_le, Int64.toInt_ofNat_of_lt (by omega), show (1 : Int64).toInt = 1 by decide]
  omega
theorem c58 {c k : Nat} {S : Int64} (hc : c < 2 ^ 53) (hc0 : 0 < c) (hn : 2 ^ 52 ≤ c ∨ k = 0) (hk : k ≤ 2045) (M : Mem) : ∀ (j t i N : Nat) (x : UInt64), NN x (c * 2 ^ t) → t ≤ k → t ≤ 1074 + j → i + j < 2000 → j < N → ∃ x2 t2, NN x2 (c * 2 ^ t2) ∧ t2 ≤ 1074 ∧ t2 ≤ t ∧ d_X4_bitsOf_58 S N (x, Int64.ofNat (k + 1075 - t), nI i) M = d_X4_bitsOf_95 S x2 (Int64.ofNat (k + 1075 - t2)) M := by
  intro j
  induction j with
  | zero =>
    intro t i N x hx htk ht hi hN
    obtain ⟨n, rfl, -⟩ := ex_pred hN
    refine ⟨x, t, hx, ht, Nat.le_refl _, ?_⟩
    rw [show d_X4_bitsOf_58 S (n + 1) (x, Int64.ofNat (k + 1075 - t), nI i) M = d_X4_bitsOf_58b (d_X4_bitsOf_58 S n) S x (Int64.ofNat (k + 1075 - t)) (nI i) M from id rfl]
    unfold d_X4_bitsOf_58b
    have hlt : c * 2 ^ t < 2 ^ 53 * 2 ^ 1074 := Nat.lt_of_le_of_lt (pw_le (show t ≤ 1074 by omega) c) (Nat.mul_lt_mul_of_pos_right hc (Nat.two_pow_pos _))
    rw [if_neg (show ¬ (2000 : Int32) ≤ nI i by rw [l_2000]; exact of_eq_false (qleF (by omega) (by omega))), if_pos ((cv_lt0 hx.ok two53.ok .l).mpr (by rw [hx.z, two53.z]; omega))]
  | succ j ih =>
    intro t i N x hx htk ht hi hN
    obtain ⟨n, rfl, hn2⟩ := ex_pred hN
    rw [show d_X4_bitsOf_58 S (n + 1) (x, Int64.ofNat (k + 1075 - t), nI i) M = d_X4_bitsOf_58b (d_X4_bitsOf_58 S n) S x (Int64.ofNat (k + 1075 - t)) (nI i) M from id rfl]
    unfold d_X4_bitsOf_58b
    rw [if_neg (show ¬ (2000 : Int32) ≤ nI i by rw [l_2000]; exact of_eq_false (qleF (by omega) (by omega)))]
    by_cases q : t ≤ 1074
    · have hlt : c * 2 ^ t < 2 ^ 53 * 2 ^ 1074 := Nat.lt_of_le_of_lt (pw_le q c) (Nat.mul_lt_mul_of_pos_right hc (Nat.two_pow_pos _))
      rw [if_pos ((cv_lt0 hx.ok two53.ok .l).mpr (by rw [hx.z, two53.z]; omega))]
      exact ⟨x, t, hx, q, Nat.le_refl _, rfl⟩
    · obtain ⟨u, rfl⟩ : ∃ u, t = u + 1 := ⟨t - 1, by omega⟩
      have h52 : 2 ^ 52 ≤ c := hn.resolve_right (by omega)
      have hge : 2 ^ 53 * 2 ^ 1074 ≤ c * 2 ^ (u + 1) := by
        calc 2 ^ 53 * 2 ^ 1074 = 2 ^ 52 * 2 ^ 1075 := by rw [← Nat.pow_add, ← Nat.pow_add]
          _ ≤ c * 2 ^ 1075 := Nat.mul_le_mul_right _ h52
          _ ≤ c * 2 ^ (u + 1) := pw_le (by omega) c
      rw [if_neg (fun z => by
        have := (cv_lt0 hx.ok two53.ok .l).mp z
        rw [hx.z, two53.z] at this
        omega)]
      simp only [bnd_eq]
      rw [show nI i + (1 : Int32) = nI (i + 1) by rw [l_1, qadd], show Int64.ofNat (k + 1075 - (u + 1)) + (1 : Int64) = Int64.ofNat (k + 1075 - u) by rw [show (1 : Int64) = Int64.ofNat 1 from rfl, ← Int64.ofNat_add]; exact congrArg Int64.ofNat (by omega)]
      rw [pw] at hx
      obtain ⟨x2, t2, r1, r2, r3, r4⟩ := ih u (i + 1) n _ (nn_half hx (Nat.mul_pos hc0 (Nat.two_pow_pos u))) (by omega) (by omega) (by omega) (by omega)
      exact ⟨x2, t2, r1, r2, by omega, r4⟩
theorem c98 {c k : Nat} {S : Int64} (hc : c < 2 ^ 53) (hc0 : 0 < c) (hn : 2 ^ 52 ≤ c ∨ k = 0) (hk : k ≤ 2045) (M : Mem) : ∀ (j t i N : Nat) (x : UInt64), NN x (c * 2 ^ t) → t + j = 1074 → i + j < 2000 → j < N → ∃ x2, NN x2 (c * 2 ^ 1074) ∧ d_X4_bitsOf_98 S N (x, Int64.ofNat (k + 1075 - t), nI i) M = d_X4_bitsOf_142 S x2 (Int64.ofNat (k + 1)) M := by
  intro j
  induction j with
  | zero =>
    intro t i N x hx ht hi hN
    obtain ⟨n, rfl, -⟩ := ex_pred hN
    obtain rfl : t = 1074 := by omega
    refine ⟨x, hx, ?_⟩
    rw [show d_X4_bitsOf_98 S (n + 1) (x, Int64.ofNat (k + 1075 - 1074), nI i) M = d_X4_bitsOf_98b (d_X4_bitsOf_98 S n) S x (Int64.ofNat (k + 1075 - 1074)) (nI i) M from id rfl]
    unfold d_X4_bitsOf_98b
    rw [if_neg (show ¬ (2000 : Int32) ≤ nI i by rw [l_2000]; exact of_eq_false (qleF (by omega) (by omega))), show k + 1075 - 1074 = k + 1 by omega]
    by_cases q : 2 ^ 52 ≤ c
    · have := Nat.mul_le_mul_right (2 ^ 1074) q
      rw [if_pos ((cv_0le hx.ok two52.ok .g).mpr (by rw [hx.z, two52.z]; omega))]
    · rw [if_neg (fun z => by
        have := (cv_0le hx.ok two52.ok .g).mp z
        rw [hx.z, two52.z] at this
        have := Nat.mul_lt_mul_of_pos_right (show c < 2 ^ 52 by omega) (Nat.two_pow_pos 1074)
        omega), if_pos ((i64_ge1 (by omega)).mpr (by omega))]
  | succ j ih =>
    intro t i N x hx ht hi hN
    obtain ⟨n, rfl, hn2⟩ := ex_pred hN
    rw [show d_X4_bitsOf_98 S (n + 1) (x, Int64.ofNat (k + 1075 - t), nI i) M = d_X4_bitsOf_98b (d_X4_bitsOf_98 S n) S x (Int64.ofNat (k + 1075 - t)) (nI i) M from id rfl]
    unfold d_X4_bitsOf_98b
    have hlt : c * 2 ^ t < 2 ^ 52 * 2 ^ 1074 := by
      calc c * 2 ^ t ≤ c * 2 ^ 1073 := pw_le (by omega) c
        _ < 2 ^ 53 * 2 ^ 1073 := Nat.mul_lt_mul_of_pos_right hc (Nat.two_pow_pos _)
        _ = 2 ^ 52 * 2 ^ 1074 := by rw [← Nat.pow_add, ← Nat.pow_add]
    rw [if_neg (show ¬ (2000 : Int32) ≤ nI i by rw [l_2000]; exact of_eq_false (qleF (by omega) (by omega))), if_neg (fun z => by
      have := (cv_0le hx.ok two52.ok .g).mp z
      rw [hx.z, two52.z] at this
      omega), if_neg (fun z => by
      have := (i64_ge1 (by omega)).mp z
      omega)]
    simp only [bnd_eq]
    rw [show nI i + (1 : Int32) = nI (i + 1) by rw [l_1, qadd], show Int64.ofNat (k + 1075 - t) - (1 : Int64) = Int64.ofNat (k + 1075 - (t + 1)) by rw [show (1 : Int64) = Int64.ofNat 1 from rfl, ← Int64.ofNat_sub _ _ (by omega)]; exact congrArg Int64.ofNat (by omega)]
    have hd := nn_dbl hx (Nat.mul_pos hc0 (Nat.two_pow_pos t)) (by rw [← pw]; exact ck_lt (ck_ct hc (by omega)))
    rw [← pw] at hd
    exact ih (t + 1) (i + 1) n _ hd (by omega) (by omega) (by omega)
theorem fp_bitsOf2 {r : UInt64} (h : isNaN64 r = false) (M : Mem) : d_X4_bitsOf r M = some (bitsV r, M) := by
  have hr := nan64_F h
  have e0 : d_X4_bitsOf r M = d_X4_bitsOf_14 r (sgB r) M := by
    unfold d_X4_bitsOf
    rw [m_negC hr]
    simp only [obind]
    unfold sgB
    by_cases q : vsg r = true
    · rw [pBT q, if_neg q1z, if_pos q]
    · rw [pBF q, if_pos q0z, if_neg q]
  have eV : bitsV r = r.toInt64 := by unfold bitsV; rw [h]; rfl
  rw [e0, eV]
  have c2 := cv_eq0 hr v0n .l
  rw [zv0] at c2
  unfold d_X4_bitsOf_14
  by_cases q : zv r = 0
  · rw [if_pos (c2.mpr q), bits_z hr]
    have : FP.Core.signed (vsg r) (vm r) = 0 := q
    exact (FP.Core.signed_eq_zero _ _).mp this
  · rw [if_neg (fun z => q (c2.mp z)), m_endless hr]
    simp only [obind]
    have hm0 : 0 < vm r := by
      rcases Nat.eq_zero_or_pos (vm r) with z | z
      · exact absurd (show FP.Core.signed (vsg r) (vm r) = 0 by rw [z, FP.Core.signed_zero]) q
      · exact z
    by_cases f : FP.Core.DFin r
    · rw [pBF (fun z => z f), if_pos q0z]
      have c3 := cv_0le hr v0n .g
      rw [zv0] at c3
      have e1 : (if 0 ≤ Op.cmpValue (FP.dcmp r FP.dconst0) .g then d_X4_bitsOf_48 (sgB r) r M else d_X4_bitsOf_48 (sgB r) (FP.dneg r) M) = d_X4_bitsOf_48 (sgB r) (if 0 ≤ zv r then r else FP.dneg r) M := by
        by_cases c : 0 ≤ zv r
        · rw [if_pos (c3.mpr c), if_pos c]
        · rw [if_neg (fun z => c (c3.mp z)), if_neg c]
      refine e1.trans ?_
      have hA := abs_v f hm0
      generalize (if 0 ≤ zv r then r else FP.dneg r) = A at hA
      obtain ⟨c, k, d1, d2, d3, d4, d5⟩ := dcm f
      rw [d5] at hA hm0
      have hc0 : 0 < c := by
        rcases Nat.eq_zero_or_pos c with z | z
        · rw [z, Nat.zero_mul] at hm0; omega
        · exact z
      have hfb := fuel_big
      unfold d_X4_bitsOf_48
      rw [bnd_eq]
      obtain ⟨x2, t2, u1, u2, u3, u4⟩ := c58 (S := sgB r) d2 hc0 d4 d3 M 971 k 0 fuel A hA (Nat.le_refl _) (by omega) (by omega) (by omega)
      have u4' : d_X4_bitsOf_58 (sgB r) fuel (A, (1075 : Int64), (0 : Int32)) M = d_X4_bitsOf_95 (sgB r) x2 (Int64.ofNat (k + 1075 - t2)) M := by
        rw [← u4, show k + 1075 - k = 1075 by omega]
        rfl
      rw [u4']
      unfold d_X4_bitsOf_95
      obtain ⟨x3, v1, v2⟩ := c98 (S := sgB r) d2 hc0 d4 d3 M (1074 - t2) t2 0 fuel x2 u1 (by omega) (by omega) (by omega)
      rw [show d_X4_bitsOf_98 (sgB r) fuel (x2, Int64.ofNat (k + 1075 - t2), (0 : Int32)) M = d_X4_bitsOf_142 (sgB r) x3 (Int64.ofNat (k + 1)) M from v2]
      unfold d_X4_bitsOf_142
      rw [bnd_eq, d2l_nn v1 (by omega)]
      have cg : 0 ≤ lg_cmp (Int64.ofNat c) (4503599627370496 : Int64) ↔ 2 ^ 52 ≤ c := by
        rw [lg_cmp_ge, Int64.le_iff_toInt_le, Int64.toInt_ofNat_of_lt (by omega), show (4503599627370496 : Int64).toInt = 4503599627370496 by decide]
        omega
      by_cases q2 : 2 ^ 52 ≤ c
      · rw [if_pos (cg.mpr q2), bits_n hr d1 d2 d3 q2]
        rw [i64_and, i64_nat (by omega), show (4503599627370495 : Int64).toUInt64.toNat = 2 ^ 52 - 1 by decide, Nat.and_two_pow_sub_one_eq_mod]
        omega
      · rw [if_neg (fun z => q2 (cg.mp z)), bits_s hr d1 (by omega) (i64_nat (by omega))]
    · obtain ⟨s, hs⟩ := inf_of hr f
      rw [pBT f, if_neg q1z, bits_i hs]
/-! the reference -/
theorem oneN : NN FP.dconst1 (2 ^ 1074) := ⟨(FP.Core.fin_bits _).mpr (by decide), by decide +kernel, by decide +kernel⟩
theorem twoN : NN (4611686018427387904 : UInt64) (2 ^ 1075) := ⟨(FP.Core.fin_bits _).mpr (by decide), by decide +kernel, by decide +kernel⟩
theorem maxN : NN (9218868437227405311 : UInt64) ((2 ^ 53 - 1) * 2 ^ 2045) := ⟨(FP.Core.fin_bits _).mpr (by decide), by decide +kernel, by decide +kernel⟩
theorem v52v : FP.Core.val64 (4841369599423283200 : UInt64) = .fin false (2 ^ 52) (((52 : Nat) : Int) - 52) := by decide +kernel
/-- an exponent g - 1022 -/
abbrev xg (g : Nat) : Int32 := nI g - nI 1022
theorem xg_1 (g : Nat) : xg g + (1 : Int32) = xg (g + 1) := by
  unfold xg
  rw [l_1, ← qadd, Int32.sub_eq_add_neg, Int32.sub_eq_add_neg]
  ac_rfl
theorem xg_m {g : Nat} : xg (g + 1) + (-1 : Int32) = xg g := by
  unfold xg
  rw [← qadd, Int32.sub_eq_add_neg, Int32.sub_eq_add_neg, show nI g + nI 1 + -nI 1022 + (-1 : Int32) = nI g + -nI 1022 + (nI 1 + (-1 : Int32)) by ac_rfl, show nI 1 + (-1 : Int32) = 0 by decide, Int32.add_zero]
theorem xg_le {g : Nat} (hg : g < 5000) : xg g ≤ (-1022 : Int32) ↔ g = 0 := by
  have e : (xg g).toInt = (g : Int) - 1022 := by
    unfold xg
    rw [Int32.toInt_sub, nI_toInt (by omega), nI_toInt (by omega)]
    exact Int.bmod_eq_of_le (by omega) (by omega)
  rw [Int32.le_iff_toInt_le, e, show (-1022 : Int32).toInt = -1022 by decide]
  omega
theorem xg_e {g : Nat} (hg : g < 5000) : (xg g + (1023 : Int32)).toInt64 = Int64.ofNat (g + 1) := by
  have e : xg g + (1023 : Int32) = nI (g + 1) := by
    unfold xg
    rw [show (1023 : Int32) = nI 1 + nI 1022 by decide, Int32.sub_eq_add_neg, show nI g + -nI 1022 + (nI 1 + nI 1022) = nI g + nI 1 + (nI 1022 + -nI 1022) by ac_rfl, show nI 1022 + -nI 1022 = (0 : Int32) by decide, Int32.add_zero, qadd]
  rw [e]
  exact i64_of (by omega) (by rw [Int32.toInt_toInt64, nI_toInt (by omega)])
theorem b87 {c k : Nat} {S : Int64} (hc : c < 2 ^ 53) (hc0 : 0 < c) (hn : 2 ^ 52 ≤ c ∨ k = 0) (hk : k ≤ 2045) (M : Mem) : ∀ (j t N : Nat) (x : UInt64), NN x (c * 2 ^ t) → t ≤ k → t ≤ 1022 + j → j < N → ∃ x2 t2, NN x2 (c * 2 ^ t2) ∧ t2 ≤ 1022 ∧ t2 ≤ t ∧ d_X12_bits_87 S N (x, xg (k + 1022 - t)) M = d_X12_bits_110 S fuel (x2, xg (k + 1022 - t2)) M := by
  have lt2 : ∀ t, t ≤ 1022 → c * 2 ^ t < 2 ^ 1075 := fun t ht => by
    calc c * 2 ^ t ≤ c * 2 ^ 1022 := pw_le ht c
      _ < 2 ^ 53 * 2 ^ 1022 := Nat.mul_lt_mul_of_pos_right hc (Nat.two_pow_pos _)
      _ = 2 ^ 1075 := by rw [← Nat.pow_add]
  intro j
  induction j with
  | zero =>
    intro t N x hx htk ht hN
    obtain ⟨n, rfl, -⟩ := ex_pred hN
    refine ⟨x, t, hx, ht, Nat.le_refl _, ?_⟩
    rw [show d_X12_bits_87 S (n + 1) (x, xg (k + 1022 - t)) M = d_X12_bits_87b (d_X12_bits_87 S n) S x (xg (k + 1022 - t)) M from id rfl]
    unfold d_X12_bits_87b
    have := lt2 t ht
    rw [if_pos ((cv_lt0 hx.ok twoN.ok .l).mpr (by rw [hx.z, twoN.z]; omega))]
  | succ j ih =>
    intro t N x hx htk ht hN
    obtain ⟨n, rfl, hn2⟩ := ex_pred hN
    rw [show d_X12_bits_87 S (n + 1) (x, xg (k + 1022 - t)) M = d_X12_bits_87b (d_X12_bits_87 S n) S x (xg (k + 1022 - t)) M from id rfl]
    unfold d_X12_bits_87b
    by_cases q : t ≤ 1022
    · have := lt2 t q
      rw [if_pos ((cv_lt0 hx.ok twoN.ok .l).mpr (by rw [hx.z, twoN.z]; omega))]
      exact ⟨x, t, hx, q, Nat.le_refl _, rfl⟩
    · obtain ⟨u, rfl⟩ : ∃ u, t = u + 1 := ⟨t - 1, by omega⟩
      have h52 : 2 ^ 52 ≤ c := hn.resolve_right (by omega)
      have hge : 2 ^ 1075 ≤ c * 2 ^ (u + 1) := by
        calc 2 ^ 1075 = 2 ^ 52 * 2 ^ 1023 := by rw [← Nat.pow_add]
          _ ≤ c * 2 ^ 1023 := Nat.mul_le_mul_right _ h52
          _ ≤ c * 2 ^ (u + 1) := pw_le (by omega) c
      rw [if_neg (fun z => by
        have := (cv_lt0 hx.ok twoN.ok .l).mp z
        rw [hx.z, twoN.z] at this
        omega)]
      simp only [bnd_eq]
      rw [xg_1, show k + 1022 - (u + 1) + 1 = k + 1022 - u by omega]
      rw [pw] at hx
      obtain ⟨x2, t2, r1, r2, r3, r4⟩ := ih u n _ (nn_half hx (Nat.mul_pos hc0 (Nat.two_pow_pos u))) (by omega) (by omega) (by omega)
      exact ⟨x2, t2, r1, r2, by omega, r4⟩
theorem b110 {c k : Nat} {S : Int64} (hc : c < 2 ^ 53) (hc0 : 0 < c) (hn : 2 ^ 52 ≤ c ∨ k = 0) (hk : k ≤ 2045) (M : Mem) : ∀ (j t N : Nat) (x : UInt64), NN x (c * 2 ^ t) → t + j = 1022 → j < N → ∃ x2, NN x2 (c * 2 ^ 1022) ∧ d_X12_bits_110 S N (x, xg (k + 1022 - t)) M = d_X12_bits_139 S x2 (xg k) M := by
  intro j
  induction j with
  | zero =>
    intro t N x hx ht hN
    obtain ⟨n, rfl, -⟩ := ex_pred hN
    obtain rfl : t = 1022 := by omega
    refine ⟨x, hx, ?_⟩
    rw [show d_X12_bits_110 S (n + 1) (x, xg (k + 1022 - 1022)) M = d_X12_bits_110b (d_X12_bits_110 S n) S x (xg (k + 1022 - 1022)) M from id rfl]
    unfold d_X12_bits_110b
    rw [Nat.add_sub_cancel]
    by_cases q : 2 ^ 52 ≤ c
    · have : 2 ^ 1074 ≤ c * 2 ^ 1022 := by
        calc 2 ^ 1074 = 2 ^ 52 * 2 ^ 1022 := by rw [← Nat.pow_add]
          _ ≤ c * 2 ^ 1022 := Nat.mul_le_mul_right _ q
      rw [if_pos ((cv_0le hx.ok oneN.ok .g).mpr (by rw [hx.z, oneN.z]; omega))]
    · rw [if_neg (fun z => by
        have := (cv_0le hx.ok oneN.ok .g).mp z
        rw [hx.z, oneN.z] at this
        have := Nat.mul_lt_mul_of_pos_right (show c < 2 ^ 52 by omega) (Nat.two_pow_pos 1022)
        rw [← Nat.pow_add] at this
        omega), if_pos ((xg_le (by omega)).mpr (by omega))]
  | succ j ih =>
    intro t N x hx ht hN
    obtain ⟨n, rfl, hn2⟩ := ex_pred hN
    rw [show d_X12_bits_110 S (n + 1) (x, xg (k + 1022 - t)) M = d_X12_bits_110b (d_X12_bits_110 S n) S x (xg (k + 1022 - t)) M from id rfl]
    unfold d_X12_bits_110b
    have hlt : c * 2 ^ t < 2 ^ 1074 := by
      calc c * 2 ^ t ≤ c * 2 ^ 1021 := pw_le (by omega) c
        _ < 2 ^ 53 * 2 ^ 1021 := Nat.mul_lt_mul_of_pos_right hc (Nat.two_pow_pos _)
        _ = 2 ^ 1074 := by rw [← Nat.pow_add]
    rw [if_neg (fun z => by
      have := (cv_0le hx.ok oneN.ok .g).mp z
      rw [hx.z, oneN.z] at this
      omega), if_neg (fun z => by
      have := (xg_le (by omega)).mp z
      omega)]
    simp only [bnd_eq]
    rw [show k + 1022 - t = k + 1022 - (t + 1) + 1 by omega, xg_m]
    have hd := nn_dbl hx (Nat.mul_pos hc0 (Nat.two_pow_pos t)) (by rw [← pw]; exact ck_lt (ck_ct hc (by omega)))
    rw [← pw] at hd
    exact ih (t + 1) n _ hd (by omega) (by omega)
theorem m_bits2 (r : UInt64) (S : Mem) : d_X12_bits r S = some (bitsV r, S) := by
  cases h : isNaN64 r with
  | true =>
    unfold d_X12_bits bitsV
    rw [fp_cmp_nan (.inl h) .l, if_pos h]
    rfl
  | false =>
    have hr := nan64_F h
    have eV : bitsV r = r.toInt64 := by unfold bitsV; rw [h]; rfl
    have c1 := cv_lt0 hr v0n .g
    have c2 := cv_eq0 hr v0n .l
    rw [zv0] at c1 c2
    have e0 : d_X12_bits r S = d_X12_bits_58 (sgB r) (if vsg r = true then FP.dneg r else r) S := by
      have eT : vsg r = true → d_X12_bits_30 r S = d_X12_bits_58 (sgB r) (if vsg r = true then FP.dneg r else r) S := fun q => by
        unfold d_X12_bits_30 d_X12_bits_35 sgB
        rw [if_neg (show ¬ (1 : Int32) = 0 by decide), if_pos q, if_pos q]
        unfold d_X12_bits_47
        rw [if_neg (show ¬ (1 : Int32) = 0 by decide)]
      have eF : ¬ vsg r = true → d_X12_bits_34 r S = d_X12_bits_58 (sgB r) (if vsg r = true then FP.dneg r else r) S := fun q => by
        unfold d_X12_bits_34 d_X12_bits_35 sgB
        rw [if_pos rfl, if_neg q, if_neg q]
        unfold d_X12_bits_47
        rw [if_pos rfl]
      unfold d_X12_bits
      rw [if_pos ((cv_eq0 hr hr .l).mpr rfl)]
      by_cases q : zv r < 0
      · rw [if_pos (c1.mpr q), eT ((sg_zv (by omega)).mpr q)]
      · rw [if_neg (fun z => q (c1.mp z))]
        by_cases q2 : zv r = 0
        · rw [if_pos (c2.mpr q2)]
          obtain ⟨s, hs, hi⟩ := one_over ((z_zero hr).mp q2)
          have hin : FP.Core.val64 (FP.ddiv FP.dconst1 r) ≠ .nan := by rw [hi]; exact FP.Core.Datum.noConfusion
          have c3 := cv_0le hin v0n .g
          rw [zv0, inf_0e hi] at c3
          cases s
          · rw [if_pos (c3.mpr rfl), eF (by rw [hs]; decide)]
          · rw [if_neg (fun z => absurd (c3.mp z) (by decide)), eT hs]
        · rw [if_neg (fun z => q2 (c2.mp z)), eF (fun z => q ((sg_zv q2).mp z))]
    rw [e0, eV]
    obtain ⟨n1, n2, n3, n4⟩ := neg_v r hr
    have hx : FP.Core.val64 (if vsg r = true then FP.dneg r else r) ≠ .nan ∧ vsg (if vsg r = true then FP.dneg r else r) = false ∧ vm (if vsg r = true then FP.dneg r else r) = vm r ∧ (FP.Core.DFin (if vsg r = true then FP.dneg r else r) ↔ FP.Core.DFin r) := by
      by_cases q : vsg r = true
      · rw [if_pos q]; exact ⟨n1, by rw [n4, q]; rfl, n2, n3⟩
      · rw [if_neg q]; exact ⟨hr, by cases e : vsg r; rfl; exact absurd e q, rfl, Iff.rfl⟩
    generalize (if vsg r = true then FP.dneg r else r) = A at hx
    obtain ⟨x1, x2, x3, x4⟩ := hx
    have zA : zv A = (vm r : Int) := by
      show FP.Core.signed (vsg A) (vm A) = _
      rw [x2, x3]; rfl
    unfold d_X12_bits_58
    have c4 := cv_eq0 x1 v0n .l
    rw [zv0, zA] at c4
    have c5 := cv_le0 x1 maxN.ok .l
    rw [zA, maxN.z] at c5
    by_cases q : vm r = 0
    · rw [if_pos (c4.mpr (by omega)), bits_z hr q]
    · rw [if_neg (fun z => q (by have := c4.mp z; omega))]
      by_cases f : FP.Core.DFin r
      · obtain ⟨c, k, d1, d2, d3, d4, d5⟩ := dcm f
        have hle : c * 2 ^ k ≤ (2 ^ 53 - 1) * 2 ^ 2045 := Nat.le_trans (pw_le d3 c) (Nat.mul_le_mul_right _ (by omega))
        rw [if_pos (c5.mpr (by rw [d5]; omega))]
        have hA : NN A (c * 2 ^ k) := ⟨x4.mpr f, x2, x3.trans d5⟩
        have hc0 : 0 < c := by
          rcases Nat.eq_zero_or_pos c with z | z
          · rw [d5, z, Nat.zero_mul] at q; exact absurd rfl q
          · exact z
        have hfb := fuel_big
        obtain ⟨y2, t2, u1, u2, u3, u4⟩ := b87 (S := sgB r) d2 hc0 d4 d3 S 1023 k fuel A hA (Nat.le_refl _) (by omega) (by omega)
        have u4' : d_X12_bits_87 (sgB r) fuel (A, (0 : Int32)) S = d_X12_bits_110 (sgB r) fuel (y2, xg (k + 1022 - t2)) S := by
          rw [← u4, show k + 1022 - k = 1022 by omega]
          exact congrArg (fun e => d_X12_bits_87 (sgB r) fuel (A, e) S) (show (0 : Int32) = xg 1022 by decide)
        rw [u4']
        obtain ⟨y3, v1, v2⟩ := b110 (S := sgB r) d2 hc0 d4 d3 S (1022 - t2) t2 fuel y2 u1 (by omega) (by omega)
        rw [v2]
        unfold d_X12_bits_139
        by_cases q2 : 2 ^ 52 ≤ c
        · have hge : 2 ^ 1074 ≤ c * 2 ^ 1022 := by
            calc 2 ^ 1074 = 2 ^ 52 * 2 ^ 1022 := by rw [← Nat.pow_add]
              _ ≤ c * 2 ^ 1022 := Nat.mul_le_mul_right _ q2
          have hlt : c * 2 ^ 1022 ≤ 2 * 2 ^ 1074 := by
            calc c * 2 ^ 1022 ≤ 2 ^ 53 * 2 ^ 1022 := Nat.mul_le_mul_right _ (by omega)
              _ = 2 ^ 1075 := (Nat.pow_add 2 53 1022).symm
              _ = 2 * 2 ^ 1074 := Nat.pow_succ' 
          rw [if_pos ((cv_0le v1.ok oneN.ok .g).mpr (by rw [v1.z, oneN.z]; omega)), xg_e (by omega)]
          have hs := nn_sub v1 oneN hge hlt
          have e1 : c * 2 ^ 1022 - 2 ^ 1074 = (c - 2 ^ 52) * 2 ^ 1022 := by rw [Nat.sub_mul, ← Nat.pow_add]
          rw [e1] at hs
          have hck : CK ((c - 2 ^ 52) * 2 ^ 1022 * 2 ^ 52) := by
            rw [Nat.mul_assoc, ← Nat.pow_add]
            exact ck_ct (by omega) (by omega)
          have hp := nn_pow hs v52v (by omega) hck
          rw [Nat.mul_assoc, ← Nat.pow_add] at hp
          rw [d2l_nn hp (by omega), bits_n hr d1 d2 d3 q2 (i64_nat (by omega))]
        · rw [if_neg (fun z => by
            have := (cv_0le v1.ok oneN.ok .g).mp z
            rw [v1.z, oneN.z] at this
            have := Nat.mul_lt_mul_of_pos_right (show c < 2 ^ 52 by omega) (Nat.two_pow_pos 1022)
            rw [← Nat.pow_add] at this
            omega)]
          have hck : CK (c * 2 ^ 1022 * 2 ^ 52) := by
            rw [Nat.mul_assoc, ← Nat.pow_add]
            exact ck_ct (by omega) (by omega)
          have hp := nn_pow v1 v52v (by omega) hck
          rw [Nat.mul_assoc, ← Nat.pow_add] at hp
          rw [d2l_nn hp (by omega), bits_s hr d1 (by omega) (i64_nat (by omega))]
      · obtain ⟨s, hs⟩ := inf_of hr f
        have hi := (inf_vm hs).1
        rw [if_neg (fun z => by
          have := c5.mp z
          rw [hi] at this
          have h2 : (2 ^ 53 - 1) * 2 ^ 2045 < 2 ^ 53 * 2 ^ 2045 := Nat.mul_lt_mul_of_pos_right (by decide) (Nat.two_pow_pos _)
          rw [← Nat.pow_add] at h2
          omega), bits_i hs]
end MF3
