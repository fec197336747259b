/-! ===== doubles: what is wanted of them ===== -/
section MFP
theorem xnan_eq (a : UInt64) : isNaN64 a = FP.Core.dIsNaN a := nan64_d a
theorem xnan_iff (a : UInt64) : isNaN64 a = true ↔ FP.Core.val64 a = .nan := nan64_iff a
theorem fp_l (x : Option Ordering) (h : x = none) : Op.cmpValue x .l = -nI 1 := by rw [h]; rfl
theorem fp_g (x : Option Ordering) (h : x = none) : Op.cmpValue x .g = nI 1 := by rw [h]; rfl
theorem pB_eq {p q : Prop} : (pB p = pB q) ↔ (p ↔ q) := by
  constructor
  · intro h
    by_cases hp : p
    · by_cases hq : q
      · exact iff_of_true hp hq
      · rw [pBT hp, pBF hq] at h; exact absurd h (by decide)
    · by_cases hq : q
      · rw [pBF hp, pBT hq] at h; exact absurd h (by decide)
      · exact iff_of_false hp hq
  · exact fun h => pBc h
theorem m_87 (p q : Prop) (M : Mem) : d_X4_isUndefined_87 (pB p) (pB q) M = some (pB (¬ (p ↔ q)), M) := by
  unfold d_X4_isUndefined_87
  by_cases c : p ↔ q
  · rw [if_pos (pB_eq.mpr c), pBF (fun z => z c)]; rfl
  · rw [if_neg (fun z => c (pB_eq.mp z)), pBT c]; rfl
theorem m_123 (p q : Prop) (M : Mem) : d_X4_isUndefined_123 (pB p) (pB q) M = some (pB (p ↔ q), M) := by
  unfold d_X4_isUndefined_123
  by_cases c : p ↔ q
  · rw [if_pos (pB_eq.mpr c), pBT c]; rfl
  · rw [if_neg (fun z => c (pB_eq.mp z)), pBF c]; rfl
theorem m_76 {b : UInt64} (hb : FP.Core.val64 b ≠ .nan) (p : Prop) (M : Mem) : d_X4_isUndefined_76 b (pB p) M = some (pB (¬ (p ↔ 0 < zv b)), M) := by
  have hc := cv_le0 hb v0n .l
  rw [zv0] at hc
  unfold d_X4_isUndefined_76
  have h87 := m_87 p (0 < zv b) M
  by_cases c : zv b ≤ 0
  · rw [if_pos (hc.mpr c)]
    rw [pBF (p := 0 < zv b) (by omega)] at h87
    exact h87
  · rw [if_neg (fun z => c (hc.mp z))]
    rw [pBT (p := 0 < zv b) (by omega)] at h87
    exact h87
theorem m_112 {b : UInt64} (hb : FP.Core.val64 b ≠ .nan) (p : Prop) (M : Mem) : d_X4_isUndefined_112 b (pB p) M = some (pB (p ↔ 0 < zv b), M) := by
  have hc := cv_le0 hb v0n .l
  rw [zv0] at hc
  unfold d_X4_isUndefined_112
  have h87 := m_123 p (0 < zv b) M
  by_cases c : zv b ≤ 0
  · rw [if_pos (hc.mpr c)]
    rw [pBF (p := 0 < zv b) (by omega)] at h87
    exact h87
  · rw [if_neg (fun z => c (hc.mp z))]
    rw [pBT (p := 0 < zv b) (by omega)] at h87
    exact h87
theorem m_145 {a b : UInt64} (ha : FP.Core.val64 a ≠ .nan) (hb : FP.Core.val64 b ≠ .nan) (M : Mem) : d_X4_isUndefined_145 a b M = some (pB (FP.Core.DZero a ∧ ¬ FP.Core.DFin b), M) := by
  have hc := cv_eq0 ha v0n .l
  rw [zv0, z_zero ha] at hc
  unfold d_X4_isUndefined_145
  by_cases c : FP.Core.DZero a
  · rw [if_pos (hc.mpr c), m_endless hb]
    simp only [obind]
    by_cases d : FP.Core.DFin b
    · rw [pBF (fun z => z d), if_pos q0z, pBF (fun z => z.2 d)]; rfl
    · rw [pBT d, if_neg q1z, pBT ⟨c, d⟩]; rfl
  · rw [if_neg (fun z => c (hc.mp z)), pBF (fun z => c z.1)]; rfl
/-- both endless, and what follows -/
theorem m_und {c : Int32} {a b : UInt64} (ha : FP.Core.val64 a ≠ .nan) (hb : FP.Core.val64 b ≠ .nan) (M : Mem) : d_X4_isUndefined c a b M = d_X4_isUndefined_19 c a b (pB (¬ FP.Core.DFin a ∧ ¬ FP.Core.DFin b)) M := by
  unfold d_X4_isUndefined
  rw [m_endless ha]
  simp only [obind]
  by_cases d : FP.Core.DFin a
  · rw [pBF (fun z => z d), if_pos q0z, pBF (fun z => z.1 d)]; rfl
  · rw [pBT d, if_neg q1z, m_endless hb]
    simp only [obind]
    by_cases e : FP.Core.DFin b
    · rw [pBF (fun z => z e), if_pos q0z, pBF (fun z => z.2 e)]; rfl
    · rw [pBT e, if_neg q1z, pBT ⟨d, e⟩]; rfl
theorem fp_und {c : Int32} (hc : c = nI 43 ∨ c = nI 45 ∨ c = nI 42 ∨ c = nI 47 ∨ c = nI 37) {a b : UInt64} (ha' : isNaN64 a = false) (hb' : isNaN64 b = false) (M : Mem) : d_X4_isUndefined c a b M = some (pB (isNaN64 (fopF c a b) = true), M) := by
  have ha := nan64_F ha'
  have hb := nan64_F hb'
  rw [m_und ha hb]
  have h0a := cv_le0 ha v0n .l
  rw [zv0] at h0a
  have hza := cv_eq0 ha v0n .l
  rw [zv0, z_zero ha] at hza
  have hzb := cv_eq0 hb v0n .l
  rw [zv0, z_zero hb] at hzb
  unfold d_X4_isUndefined_19
  rcases hc with rfl | rfl | rfl | rfl | rfl
  · rw [if_neg (show ¬ nI 43 = (42 : Int32) by decide), if_pos (show nI 43 = (43 : Int32) by decide)]
    have e : isNaN64 (fopF (nI 43) a b) = true ↔ ∃ s, FP.Core.val64 a = .inf s ∧ FP.Core.val64 b = .inf (!s) := by
      unfold fopF
      rw [if_pos rfl, nan64_d, show FP.dadd a b = FP.Core.dadd a b from rfl, FP.Core.dadd_nan_iff]
      exact ⟨fun z => (z.resolve_left ha).resolve_left hb, fun z => .inr (.inr z)⟩
    by_cases d : ¬ FP.Core.DFin a ∧ ¬ FP.Core.DFin b
    · rw [pBT d, if_neg q1z]
      obtain ⟨s, hs⟩ := inf_of ha d.1
      obtain ⟨t, ht⟩ := inf_of hb d.2
      have g : pB (isNaN64 (fopF (nI 43) a b) = true) = pB (¬ (0 < zv a ↔ 0 < zv b)) := pBc (by
        rw [e, inf_0 hs, inf_0 ht, hs, ht]
        cases s <;> cases t <;> simp)
      rw [g]
      have h76 := m_76 hb (0 < zv a) M
      by_cases q : zv a ≤ 0
      · rw [if_pos (h0a.mpr q)]
        rw [pBF (p := 0 < zv a) (by omega)] at h76
        exact h76
      · rw [if_neg (fun z => q (h0a.mp z))]
        rw [pBT (p := 0 < zv a) (by omega)] at h76
        exact h76
    · rw [pBF d, if_pos q0z, pBF (fun z => by
        obtain ⟨s, z1, z2⟩ := e.mp z
        exact d ⟨inf_nf z1, inf_nf z2⟩)]
      rfl
  · rw [if_neg (show ¬ nI 45 = (42 : Int32) by decide), if_neg (show ¬ nI 45 = (43 : Int32) by decide), if_pos (show nI 45 = (45 : Int32) by decide)]
    have e : isNaN64 (fopF (nI 45) a b) = true ↔ ∃ s, FP.Core.val64 a = .inf s ∧ FP.Core.val64 b = .inf s := by
      unfold fopF
      rw [if_neg (show ¬ nI 45 = nI 43 by decide), if_pos rfl, nan64_d, show FP.dsub a b = FP.Core.dsub a b from rfl, FP.Core.dsub_nan_iff]
      exact ⟨fun z => (z.resolve_left ha).resolve_left hb, fun z => .inr (.inr z)⟩
    by_cases d : ¬ FP.Core.DFin a ∧ ¬ FP.Core.DFin b
    · rw [pBT d, if_neg q1z]
      obtain ⟨s, hs⟩ := inf_of ha d.1
      obtain ⟨t, ht⟩ := inf_of hb d.2
      have g : pB (isNaN64 (fopF (nI 45) a b) = true) = pB (0 < zv a ↔ 0 < zv b) := pBc (by
        rw [e, inf_0 hs, inf_0 ht, hs, ht]
        cases s <;> cases t <;> simp)
      rw [g]
      have h76 := m_112 hb (0 < zv a) M
      by_cases q : zv a ≤ 0
      · rw [if_pos (h0a.mpr q)]
        rw [pBF (p := 0 < zv a) (by omega)] at h76
        exact h76
      · rw [if_neg (fun z => q (h0a.mp z))]
        rw [pBT (p := 0 < zv a) (by omega)] at h76
        exact h76
    · rw [pBF d, if_pos q0z, pBF (fun z => by
        obtain ⟨s, z1, z2⟩ := e.mp z
        exact d ⟨inf_nf z1, inf_nf z2⟩)]
      rfl
  · rw [if_pos (show nI 42 = (42 : Int32) by decide), m_endless ha]
    simp only [obind]
    have e : isNaN64 (fopF (nI 42) a b) = true ↔ (¬ FP.Core.DFin a ∧ FP.Core.DZero b) ∨ (FP.Core.DZero a ∧ ¬ FP.Core.DFin b) := by
      unfold fopF
      rw [if_neg (show ¬ nI 42 = nI 43 by decide), if_neg (show ¬ nI 42 = nI 45 by decide), if_pos rfl, nan64_d, show FP.dmul a b = FP.Core.dmul a b from rfl, FP.Core.dmul_nan_iff]
      constructor
      · intro z
        rcases (z.resolve_left ha).resolve_left hb with ⟨s, z1, z2⟩ | ⟨s, z1, z2⟩
        · exact .inl ⟨inf_nf z1, z2⟩
        · exact .inr ⟨z1, inf_nf z2⟩
      · rintro (⟨z1, z2⟩ | ⟨z1, z2⟩)
        · obtain ⟨s, hs⟩ := inf_of ha z1
          exact .inr (.inr (.inl ⟨s, hs, z2⟩))
        · obtain ⟨s, hs⟩ := inf_of hb z2
          exact .inr (.inr (.inr ⟨s, z1, hs⟩))
    by_cases d : FP.Core.DFin a
    · rw [pBF (p := ¬ FP.Core.DFin a) (fun z => z d), if_pos q0z, m_145 ha hb]
      rw [pBc (p := isNaN64 (fopF (nI 42) a b) = true) (q := FP.Core.DZero a ∧ ¬ FP.Core.DFin b) (by rw [e]; exact ⟨fun z => z.resolve_left (fun y => y.1 d), .inr⟩)]
    · rw [pBT (p := ¬ FP.Core.DFin a) d, if_neg q1z]
      by_cases q : FP.Core.DZero b
      · rw [if_pos (hzb.mpr q), pBT (e.mpr (.inl ⟨d, q⟩))]; rfl
      · rw [if_neg (fun z => q (hzb.mp z)), m_145 ha hb, pBF (p := FP.Core.DZero a ∧ ¬ FP.Core.DFin b) (fun z => d z.1.fin), pBF (fun z => (e.mp z).elim (fun y => q y.2) (fun y => d y.1.fin))]
  · rw [if_neg (show ¬ nI 47 = (42 : Int32) by decide), if_neg (show ¬ nI 47 = (43 : Int32) by decide), if_neg (show ¬ nI 47 = (45 : Int32) by decide), if_pos (show nI 47 = (47 : Int32) by decide)]
    have e : isNaN64 (fopF (nI 47) a b) = true ↔ (¬ FP.Core.DFin a ∧ ¬ FP.Core.DFin b) ∨ (FP.Core.DZero a ∧ FP.Core.DZero b) := by
      unfold fopF
      rw [if_neg (show ¬ nI 47 = nI 43 by decide), if_neg (show ¬ nI 47 = nI 45 by decide), if_neg (show ¬ nI 47 = nI 42 by decide), if_pos rfl, nan64_d, show FP.ddiv a b = FP.Core.ddiv a b from rfl, FP.Core.ddiv_nan_iff]
      constructor
      · intro z
        rcases (z.resolve_left ha).resolve_left hb with ⟨s, t, z1, z2⟩ | z1
        · exact .inl ⟨inf_nf z1, inf_nf z2⟩
        · exact .inr z1
      · rintro (⟨z1, z2⟩ | z1)
        · obtain ⟨s, hs⟩ := inf_of ha z1
          obtain ⟨t, ht⟩ := inf_of hb z2
          exact .inr (.inr (.inl ⟨s, t, hs, ht⟩))
        · exact .inr (.inr (.inr z1))
    by_cases d : ¬ FP.Core.DFin a ∧ ¬ FP.Core.DFin b
    · rw [pBT d, if_neg q1z, pBT (e.mpr (.inl d))]; rfl
    · rw [pBF d, if_pos q0z]
      by_cases q1 : FP.Core.DZero a
      · rw [if_pos (hza.mpr q1)]
        by_cases q2 : FP.Core.DZero b
        · rw [if_pos (hzb.mpr q2), pBT (e.mpr (.inr ⟨q1, q2⟩))]; rfl
        · rw [if_neg (fun z => q2 (hzb.mp z)), pBF (fun z => (e.mp z).elim d (fun y => q2 y.2))]; rfl
      · rw [if_neg (fun z => q1 (hza.mp z)), pBF (fun z => (e.mp z).elim d (fun y => q1 y.1))]; rfl
  · rw [if_neg (show ¬ nI 37 = (42 : Int32) by decide), if_neg (show ¬ nI 37 = (43 : Int32) by decide), if_neg (show ¬ nI 37 = (45 : Int32) by decide), if_neg (show ¬ nI 37 = (47 : Int32) by decide), m_endless ha]
    simp only [obind]
    have e : isNaN64 (fopF (nI 37) a b) = true ↔ ¬ FP.Core.DFin a ∨ FP.Core.DZero b := by
      unfold fopF
      rw [if_neg (show ¬ nI 37 = nI 43 by decide), if_neg (show ¬ nI 37 = nI 45 by decide), if_neg (show ¬ nI 37 = nI 42 by decide), if_neg (show ¬ nI 37 = nI 47 by decide), nan64_d, show FP.drem a b = FP.Core.drem a b from rfl, FP.Core.drem_nan_iff]
      constructor
      · intro z
        rcases (z.resolve_left ha).resolve_left hb with ⟨s, z1⟩ | z1
        · exact .inl (inf_nf z1)
        · exact .inr z1
      · rintro (z1 | z1)
        · obtain ⟨s, hs⟩ := inf_of ha z1
          exact .inr (.inr (.inl ⟨s, hs⟩))
        · exact .inr (.inr (.inr z1))
    by_cases d : FP.Core.DFin a
    · rw [pBF (p := ¬ FP.Core.DFin a) (fun z => z d), if_pos q0z]
      by_cases q : FP.Core.DZero b
      · rw [if_pos (hzb.mpr q), pBT (e.mpr (.inr q))]; rfl
      · rw [if_neg (fun z => q (hzb.mp z)), pBF (fun z => (e.mp z).elim (fun y => y d) q)]; rfl
    · rw [pBT (p := ¬ FP.Core.DFin a) d, if_neg q1z, pBT (e.mpr (.inl d))]; rfl
theorem fp_nan (c : Int32) {a b : UInt64} (h : isNaN64 a = true ∨ isNaN64 b = true) : isNaN64 (fopF c a b) = true := by
  rw [nan64_iff, nan64_iff] at h
  have g : ∀ (x : UInt64) (r : Prop), (FP.Core.dIsNaN x = true ↔ FP.Core.val64 a = .nan ∨ FP.Core.val64 b = .nan ∨ r) → isNaN64 x = true := fun x r e => by
    rw [nan64_d, e]
    exact h.elim .inl (fun z => .inr (.inl z))
  unfold fopF
  by_cases c1 : c = nI 43
  · rw [if_pos c1]; exact g _ _ (FP.Core.dadd_nan_iff a b)
  rw [if_neg c1]
  by_cases c2 : c = nI 45
  · rw [if_pos c2]; exact g _ _ (FP.Core.dsub_nan_iff a b)
  rw [if_neg c2]
  by_cases c3 : c = nI 42
  · rw [if_pos c3]; exact g _ _ (FP.Core.dmul_nan_iff a b)
  rw [if_neg c3]
  by_cases c4 : c = nI 47
  · rw [if_pos c4]; exact g _ _ (FP.Core.ddiv_nan_iff a b)
  rw [if_neg c4]
  exact g _ _ (FP.Core.drem_nan_iff a b)
theorem fp_remin {x y : Int32} (h : ¬ y = nI 0) : inR (x.toInt64 - x.toInt64 / y.toInt64 * y.toInt64) := by
  have hx := x.toInt_lt
  have hx2 := x.le_toInt
  have hy := y.toInt_lt
  have hy2 := y.le_toInt
  have hy0 : y.toInt ≠ 0 := fun z => h (Int32.toInt_inj.mp (by rw [z]; decide))
  have ed : (x.toInt64 / y.toInt64).toInt = x.toInt.tdiv y.toInt := by
    rw [Int64.toInt_div_of_ne_left _ _ x.toInt64_ne_minValue, Int32.toInt_toInt64, Int32.toInt_toInt64]
  have hm := Int.tmod_add_tdiv_mul x.toInt y.toInt
  have ha : (x.toInt.tmod y.toInt).natAbs < y.toInt.natAbs := by
    rw [Int.natAbs_tmod]
    exact Nat.mod_lt _ (by omega)
  have hb : (x.toInt.tmod y.toInt).natAbs ≤ x.toInt.natAbs := by
    rw [Int.natAbs_tmod]
    exact Nat.mod_le _ _
  generalize hp : x.toInt.tdiv y.toInt * y.toInt = P at hm
  have em : (x.toInt64 / y.toInt64 * y.toInt64).toInt = P := by
    rw [FP.Core.int64_mul, ed, Int32.toInt_toInt64, hp]
    · rw [ed, Int32.toInt_toInt64, hp]; omega
    · rw [ed, Int32.toInt_toInt64, hp]; omega
  have es : (x.toInt64 - x.toInt64 / y.toInt64 * y.toInt64).toInt = x.toInt.tmod y.toInt := by
    rw [FP.Core.int64_sub, em, Int32.toInt_toInt64]
    · omega
    · rw [em, Int32.toInt_toInt64]; omega
    · rw [em, Int32.toInt_toInt64]; omega
  refine ⟨fun z => ?_, fun z => ?_⟩
  · have z2 := (lg_cmp_lt _ _).mp z
    rw [Int64.lt_iff_toInt_lt, es, show (-2147483648 : Int64).toInt = -2147483648 by decide] at z2
    omega
  · have z2 := (lg_cmp_gt _ _).mp z
    rw [Int64.lt_iff_toInt_lt, es, show (2147483647 : Int64).toInt = 2147483647 by decide] at z2
    omega
theorem i2d_z (x : Int32) : zv (FP.i2d x) = x.toInt * (FP.Core.one64 : Int) := FP.Core.DInt_zval (FP.Core.i2d_int x)
theorem i2d_n (x : Int32) : FP.Core.val64 (FP.i2d x) ≠ .nan := (FP.Core.i2d_fin x).ne_nan
theorem fp_i2d (x : Int32) : isNaN64 (FP.i2d x) = false := nan64_F' (i2d_n x)
theorem fp_lt (x y : Int32) : (¬ nI 0 ≤ Op.cmpValue (FP.dcmp (FP.i2d x) (FP.i2d y)) .g) ↔ ¬ nI 0 ≤ lg_cmp x.toInt64 y.toInt64 := by
  have h1 := cv_0le (i2d_n x) (i2d_n y) .g
  have h2 := lg_cmp_ge x.toInt64 y.toInt64
  rw [i2d_z, i2d_z] at h1
  rw [Int64.le_iff_toInt_le, Int32.toInt_toInt64, Int32.toInt_toInt64] at h2
  have h3 : y.toInt * (FP.Core.one64 : Int) ≤ x.toInt * (FP.Core.one64 : Int) ↔ y.toInt ≤ x.toInt := by
    have hp : (0 : Int) < (FP.Core.one64 : Int) := by have := FP.Core.one64_pos; omega
    exact ⟨fun z => Int.le_of_mul_le_mul_right z hp, fun z => Int.mul_le_mul_of_nonneg_right z (Int.le_of_lt hp)⟩
  exact not_congr (h1.trans (h3.trans h2.symm))
/-! the rest of a division -/
theorem r131 {x0 l : UInt64} (h : FP.Core.val64 x0 ≠ .nan) (M : Mem) : d_X4_rest_131 x0 l M = some (if 0 ≤ zv x0 then l else FP.dneg l, M) := by
  have hc := cv_0le h v0n .g
  rw [zv0] at hc
  unfold d_X4_rest_131
  by_cases c : 0 ≤ zv x0
  · rw [if_pos (hc.mpr c), if_pos c]
  · rw [if_neg (fun z => c (hc.mp z)), if_neg c]
/-- the greatest doublings of the divisor are taken away -/
theorem r81 {x0 D : UInt64} {d : Nat} (h : FP.Core.val64 x0 ≠ .nan) (hD : NN D d) (hd : 0 < d) (M : Mem) : ∀ (K i N : Nat) (l part : UInt64) (m r : Nat), NN l m → NN part (d * 2 ^ K) → m < 2 * (d * 2 ^ K) → m % d = r → i + K + 1 < 3000 → K + 1 < N → ∃ l2, NN l2 r ∧ d_X4_rest_81 x0 D N (l, part, nI i) M = d_X4_rest_131 x0 l2 M := by
  have key : ∀ (K i N : Nat) (l part : UInt64) (m r : Nat), NN l m → NN part (d * 2 ^ K) → m < 2 * (d * 2 ^ K) → m % d = r → i < 3000 → 0 < N → ∃ l2 m2, NN l2 m2 ∧ m2 < d * 2 ^ K ∧ m2 % d = r ∧ d_X4_rest_81 x0 D N (l, part, nI i) M = d_X4_rest_81 x0 D (N - 1) (l2, FP.ddiv part (4611686018427387904 : UInt64), nI (i + 1)) M := by
    intro K i N l part m r hl hp hm hr hi hN
    obtain ⟨n, rfl, -⟩ := ex_pred hN
    have h2 : d ≤ d * 2 ^ K := Nat.le_mul_of_pos_right _ (Nat.two_pow_pos K)
    have ei : nI i + (1 : Int32) = nI (i + 1) := by rw [l_1, qadd]
    rw [show d_X4_rest_81 x0 D (n + 1) (l, part, nI i) M = d_X4_rest_81b (d_X4_rest_81 x0 D n) x0 l D part (nI i) M from id rfl]
    unfold d_X4_rest_81b d_X4_rest_115
    rw [if_neg (show ¬ (3000 : Int32) ≤ nI i by rw [l_3000]; exact of_eq_false (qleF hi (by omega))), if_neg (fun z => by
      have := (cv_lt0 hp.ok hD.ok .l).mp z
      rw [hp.z, hD.z] at this
      omega)]
    simp only [bnd_eq]
    rw [ei, Nat.add_sub_cancel]
    by_cases c : m < d * 2 ^ K
    · rw [if_pos ((cv_lt0 hl.ok hp.ok .l).mpr (by rw [hl.z, hp.z]; omega))]
      exact ⟨l, m, hl, c, hr, rfl⟩
    · rw [if_neg (fun z => by
        have := (cv_lt0 hl.ok hp.ok .l).mp z
        rw [hl.z, hp.z] at this
        omega)]
      refine ⟨FP.dsub l part, m - d * 2 ^ K, nn_sub hl hp (by omega) (by omega), by omega, ?_, rfl⟩
      rw [← hr]
      have e : m = m - d * 2 ^ K + d * 2 ^ K := by omega
      conv => rhs; rw [e]
      rw [Nat.add_mul_mod_self_left]
  intro K
  induction K with
  | zero =>
    intro i N l part m r hl hp hm hr hi hN
    obtain ⟨l2, m2, k1, k2, k3, k4⟩ := key 0 i N l part m r hl hp hm hr (by omega) (by omega)
    obtain ⟨n, e, hn⟩ := ex_pred (show 0 < N - 1 by omega)
    refine ⟨l2, ?_, ?_⟩
    · rw [Nat.pow_zero, Nat.mul_one] at k2
      rw [Nat.mod_eq_of_lt k2] at k3
      rw [← k3]; exact k1
    · rw [k4, e, show d_X4_rest_81 x0 D (n + 1) (l2, FP.ddiv part (4611686018427387904 : UInt64), nI (i + 1)) M = d_X4_rest_81b (d_X4_rest_81 x0 D n) x0 l2 D (FP.ddiv part (4611686018427387904 : UInt64)) (nI (i + 1)) M from id rfl]
      unfold d_X4_rest_81b
      obtain ⟨q1, q2⟩ := half_ok hp
      have q3 := half_lt hp (by rw [Nat.pow_zero, Nat.mul_one]; exact hd)
      have q4 : zv (FP.ddiv part (4611686018427387904 : UInt64)) = (vm (FP.ddiv part (4611686018427387904 : UInt64)) : Int) := by
        show FP.Core.signed (vsg _) (vm _) = _
        rw [q2]; rfl
      rw [if_neg (show ¬ (3000 : Int32) ≤ nI (i + 1) by rw [l_3000]; exact of_eq_false (qleF (by omega) (by omega))), if_pos ((cv_lt0 q1 hD.ok .l).mpr (by rw [q4, hD.z]; rw [Nat.pow_zero, Nat.mul_one] at q3; omega))]
  | succ K ih =>
    intro i N l part m r hl hp hm hr hi hN
    obtain ⟨l2, m2, k1, k2, k3, k4⟩ := key (K + 1) i N l part m r hl hp hm hr (by omega) (by omega)
    have e2 : d * 2 ^ (K + 1) = 2 * (d * 2 ^ K) := by rw [Nat.pow_succ]; ac_rfl
    rw [e2] at hp k2
    have hh := nn_half hp (Nat.mul_pos hd (Nat.two_pow_pos K))
    obtain ⟨l3, u1, u2⟩ := ih (i + 1) (N - 1) l2 _ m2 r k1 hh k2 k3 (by omega) (by omega)
    exact ⟨l3, u1, k4.trans u2⟩
theorem r45 {x0 A D : UInt64} {m d : Nat} (hA : NN A m) (hd : 0 < d) (M : Mem) : ∀ (j k N : Nat) (part : UInt64), NN part (d * 2 ^ k) → d * 2 ^ k ≤ m → m < d * 2 ^ (k + j) → k + j < 2900 → j < N → ∃ K part2, K < 2900 ∧ NN part2 (d * 2 ^ K) ∧ m < 2 * (d * 2 ^ K) ∧ d_X4_rest_45 x0 A D N (part, nI k) M = d_X4_rest_78 x0 A D part2 M := by
  intro j
  induction j with
  | zero => intro k N part _ h1 h2; exact absurd h1 (by rw [Nat.add_zero] at h2; omega)
  | succ j ih =>
    intro k N part hp h1 h2 hk hN
    obtain ⟨n, rfl, hn⟩ := ex_pred hN
    have ei : nI k + (1 : Int32) = nI (k + 1) := by rw [l_1, qadd]
    have e2 : d * 2 ^ (k + 1) = 2 * (d * 2 ^ k) := by rw [Nat.pow_succ]; ac_rfl
    have hpos : 0 < d * 2 ^ k := Nat.mul_pos hd (Nat.two_pow_pos k)
    have hsn : FP.Core.val64 (FP.dsub A part) ≠ .nan := (FP.Core.notNaN_iff _).mp (FP.Core.dsub_out hA.1.notNaN hp.1)
    rw [show d_X4_rest_45 x0 A D (n + 1) (part, nI k) M = d_X4_rest_45b (d_X4_rest_45 x0 A D n) x0 A D part (nI k) M from id rfl]
    unfold d_X4_rest_45b
    rw [if_neg (show ¬ (3000 : Int32) ≤ nI k by rw [l_3000]; exact of_eq_false (qleF (by omega) (by omega)))]
    by_cases c : m < 2 * (d * 2 ^ k)
    · have hs := nn_sub hA hp h1 (by omega)
      rw [if_pos ((cv_0lt hp.ok hsn .g).mpr (by rw [hp.z, hs.z]; omega))]
      exact ⟨k, part, by omega, hp, c, rfl⟩
    · have hg := dsub_ge hA.1 hp.1 hp.ok (show zv part ≤ zv A - zv part by rw [hA.z, hp.z]; omega)
      rw [if_neg (fun z => by
        have := (cv_0lt hp.ok hsn .g).mp z
        omega)]
      simp only [bnd_eq]
      rw [ei]
      have hlt := fin_lt hA.1
      rw [hA.2.2] at hlt
      have hdb := nn_dbl hp hpos (by omega)
      rw [← e2] at hdb
      exact ih (k + 1) n _ hdb (by omega) (by rw [show k + 1 + j = k + (j + 1) by omega]; exact h2) (by omega) (by omega)
theorem fp_rest {a b : UInt64} (ha' : isNaN64 a = false) (hb' : isNaN64 b = false) (h : isNaN64 (FP.drem a b) = false) (M : Mem) : d_X4_rest a b M = some (FP.drem a b, M) := by
  have ha := nan64_F ha'
  have hb := nan64_F hb'
  have hr := nan64_F h
  have hnr : ¬ (FP.Core.dIsNaN (FP.Core.drem a b) = true) := by
    rw [FP.Core.dIsNaN_iff]; exact hr
  rw [FP.Core.drem_nan_iff] at hnr
  have hfa : FP.Core.DFin a := (fin_or ha).resolve_right (fun z => hnr (.inr (.inr (.inl z))))
  have hzb : ¬ FP.Core.DZero b := fun z => hnr (.inr (.inr (.inr z)))
  obtain ⟨s1, s2, s3⟩ := FP.Core.drem_zval hfa hb hzb
  have c0 := cv_0le ha v0n .g
  rw [zv0] at c0
  have d0 := cv_0le hb v0n .g
  rw [zv0] at d0
  -- the divisor without its sign
  have hdiv : ∀ X : UInt64, d_X4_rest_12 a b X M = d_X4_rest_26 a X (if 0 ≤ zv b then b else FP.dneg b) M := fun X => by
    unfold d_X4_rest_12
    by_cases c : 0 ≤ zv b
    · rw [if_pos (d0.mpr c), if_pos c]
    · rw [if_neg (fun z => c (d0.mp z)), if_neg c]
  have hst : d_X4_rest a b M = d_X4_rest_26 a (if 0 ≤ zv a then a else FP.dneg a) (if 0 ≤ zv b then b else FP.dneg b) M := by
    unfold d_X4_rest
    by_cases c : 0 ≤ zv a
    · rw [if_pos (c0.mpr c), if_pos c, hdiv]
    · rw [if_neg (fun z => c (c0.mp z)), if_neg c, hdiv]
  rw [hst]
  have hbpos : 0 < vm b := by
    rcases Nat.eq_zero_or_pos (vm b) with z | z
    · exact absurd ((z_zero hb).mp (by show FP.Core.signed (vsg b) (vm b) = 0; rw [z, FP.Core.signed_zero])) hzb
    · exact z
  -- the divisor's units
  have hDz : FP.Core.val64 (if 0 ≤ zv b then b else FP.dneg b) ≠ .nan ∧ zv (if 0 ≤ zv b then b else FP.dneg b) = (vm b : Int) := by
    obtain ⟨n1, n2, n3, n4⟩ := neg_v b hb
    have zb : zv b = FP.Core.signed (vsg b) (vm b) := rfl
    by_cases c : 0 ≤ zv b
    · rw [if_pos c]
      refine ⟨hb, ?_⟩
      rw [zb] at c ⊢
      cases e : vsg b
      · rfl
      · rw [e] at c; simp only [FP.Core.signed, if_true] at c; omega
    · rw [if_neg c]
      refine ⟨n1, ?_⟩
      show FP.Core.signed (vsg (FP.dneg b)) (vm (FP.dneg b)) = _
      rw [n4, n2]
      rw [zb] at c
      cases e : vsg b
      · rw [e] at c; simp only [FP.Core.signed, Bool.false_eq_true, if_false] at c; omega
      · rfl
  have same : vm a < vm b → FP.drem a b = a := fun hlt => bits_ext s1 ha s2 (s3.trans (Nat.mod_eq_of_lt hlt))
  rcases Nat.eq_zero_or_pos (vm a) with h0 | h0
  · -- the dividend is a zero
    have za : zv a = 0 := by show FP.Core.signed (vsg a) (vm a) = 0; rw [h0, FP.Core.signed_zero]
    rw [if_pos (show 0 ≤ zv a by omega)]
    unfold d_X4_rest_26
    rw [if_neg (fun z => by
      have := (cv_0le ha hDz.1 .g).mp z
      rw [hDz.2, za] at this
      omega), same (by omega)]
  · have hA := abs_v hfa h0
    generalize hAe : (if 0 ≤ zv a then a else FP.dneg a) = A at hA
    by_cases hlt : vm a < vm b
    · unfold d_X4_rest_26
      rw [if_neg (fun z => by
        have := (cv_0le hA.ok hDz.1 .g).mp z
        rw [hDz.2, hA.z] at this
        omega), same hlt]
    · have hfb : FP.Core.DFin b := (fin_or hb).resolve_right (fun ⟨s, z⟩ => by
        have := (inf_vm z).1
        have := fin_lt hfa
        omega)
      have hD := abs_v hfb hbpos
      generalize hDe : (if 0 ≤ zv b then b else FP.dneg b) = D at hD hDz
      unfold d_X4_rest_26
      rw [if_pos ((cv_0le hA.ok hD.ok .g).mpr (by rw [hA.z, hD.z]; omega))]
      have hfb := fuel_big
      have hbig : vm a < vm b * 2 ^ (0 + 2098) := by
        have := fin_lt hfa
        calc vm a < 2 ^ 2098 := this
          _ ≤ vm b * 2 ^ 2098 := Nat.le_mul_of_pos_left _ hbpos
          _ = vm b * 2 ^ (0 + 2098) := by rw [Nat.zero_add]
      obtain ⟨K, part2, k1, k2, k3, k4⟩ := r45 (x0 := a) (D := D) hA hbpos M 2098 0 fuel D (by rw [Nat.pow_zero, Nat.mul_one]; exact hD) (by rw [Nat.pow_zero, Nat.mul_one]; omega) hbig (by omega) (by omega)
      have k4' : d_X4_rest_45 a A D fuel (D, (0 : Int32)) M = d_X4_rest_78 a A D part2 M := k4
      rw [k4']
      unfold d_X4_rest_78
      obtain ⟨l2, u1, u2⟩ := r81 (x0 := a) ha hD hbpos M K 0 fuel A part2 (vm a) (vm a % vm b) hA k2 k3 rfl (by omega) (by omega)
      rw [show d_X4_rest_81 a D fuel (A, part2, (0 : Int32)) M = d_X4_rest_131 a l2 M from u2, r131 ha]
      have e : (if 0 ≤ zv a then l2 else FP.dneg l2) = FP.drem a b := by
        have za : zv a = FP.Core.signed (vsg a) (vm a) := rfl
        by_cases c : 0 ≤ zv a
        · rw [if_pos c]
          refine bits_ext u1.ok s1 (u1.2.1.trans ?_) (u1.2.2.trans s3.symm)
          rw [za] at c
          have : vsg a = false := by
            cases e : vsg a
            · rfl
            · rw [e] at c; simp only [FP.Core.signed, if_true] at c; omega
          exact (s2.trans this).symm
        · rw [if_neg c]
          obtain ⟨n1, n2, n3, n4⟩ := neg_v l2 u1.ok
          refine bits_ext n1 s1 (n4.trans ?_) (n2.trans (u1.2.2.trans s3.symm))
          rw [za] at c
          have : vsg a = true := by
            cases e : vsg a
            · rw [e] at c; simp only [FP.Core.signed, Bool.false_eq_true, if_false] at c; omega
            · rfl
          rw [u1.2.1]
          exact (s2.trans this).symm
      rw [e]
theorem abs_bits {r : UInt64} (h : FP.Core.DFin r) : NN (r &&& 0x7fffffffffffffff) (vm r) := by
  have e := FP.Core.mask_toNat r
  have hl : r.toNat % 2 ^ 63 < 2 ^ 63 := Nat.mod_lt _ (by decide)
  have em : (r &&& 0x7fffffffffffffff).toNat % 2 ^ 63 = r.toNat % 2 ^ 63 := by rw [e, Nat.mod_mod]
  have hf : FP.Core.DFin (r &&& 0x7fffffffffffffff) := by
    rw [FP.Core.fin_bits, em]
    exact (FP.Core.fin_bits r).mp h
  refine ⟨hf, ?_, ?_⟩
  · rw [show vsg (r &&& 0x7fffffffffffffff) = decide (2 ^ 63 ≤ (r &&& 0x7fffffffffffffff).toNat) from FP.Core.sgn_bits hf.ne_nan]
    exact decide_eq_false (by omega)
  · rw [show vm (r &&& 0x7fffffffffffffff) = FP.Core.unitsOf FP.Core.b64 ((r &&& 0x7fffffffffffffff).toNat % 2 ^ 63) from FP.Core.zmag_bits hf.ne_nan, em]
    exact (FP.Core.zmag_bits h.ne_nan).symm
def hH : Nat := 2 ^ 1073
theorem hH2 : (2 : Nat) ^ 1074 = 2 * hH := by unfold hH; rw [Nat.pow_succ 2 1073, Nat.mul_comm]
theorem hH0 : 0 < hH := Nat.two_pow_pos _
/-- the nearest whole number, of so many units -/
def nrU (m : Nat) : Nat := FP.Core.nearest m (2 ^ 1074)
theorem nr_le (m : Nat) : nrU m ≤ m / 2 ^ 1074 + 1 := by
  unfold nrU FP.Core.nearest
  split
  · omega
  · split
    · omega
    · omega
theorem nr_ge (m : Nat) : m / 2 ^ 1074 ≤ nrU m := by
  unfold nrU FP.Core.nearest
  split
  · omega
  · split
    · omega
    · omega
theorem nr_add (m : Nat) : FP.Core.nearest (2 ^ 52 * 2 ^ 1074 + m) (2 ^ 1074) = 2 ^ 52 + nrU m := by
  have hp : 0 < 2 ^ 1074 := Nat.two_pow_pos _
  have e1 : (2 ^ 52 * 2 ^ 1074 + m) / 2 ^ 1074 = 2 ^ 52 + m / 2 ^ 1074 := by rw [Nat.add_comm, Nat.add_mul_div_right _ _ hp, Nat.add_comm]
  have e2 : (2 ^ 52 * 2 ^ 1074 + m) % 2 ^ 1074 = m % 2 ^ 1074 := by rw [Nat.add_comm, Nat.add_mul_mod_self_right]
  unfold nrU FP.Core.nearest
  rw [e1, e2]
  generalize m % 2 ^ 1074 = t
  generalize (2 : Nat) ^ 1074 = D
  generalize m / D = q
  by_cases c1 : 2 * t < D
  · rw [if_pos c1, if_pos c1]
  · rw [if_neg c1, if_neg c1]
    by_cases c2 : D < 2 * t
    · rw [if_pos c2, if_pos c2]; omega
    · rw [if_neg c2, if_neg c2]; omega
theorem nr_iff (m K : Nat) : nrU m ≤ K ↔ m < (2 * K + 1) * hH ∨ (m = (2 * K + 1) * hH ∧ K % 2 = 0) := by
  have hp := hH0
  have e := Nat.div_add_mod m (2 ^ 1074)
  have hl := Nat.mod_lt m (Nat.two_pow_pos 1074)
  have h1 := nr_le m
  have h2 := nr_ge m
  have hlt : m / 2 ^ 1074 < K ↔ m < K * 2 ^ 1074 := Nat.div_lt_iff_lt_mul (Nat.two_pow_pos 1074)
  have hgt : K + 1 ≤ m / 2 ^ 1074 ↔ (K + 1) * 2 ^ 1074 ≤ m := Nat.le_div_iff_mul_le (Nat.two_pow_pos 1074)
  have m1 : K * 2 ^ 1074 = 2 * (K * hH) := by rw [hH2, Nat.mul_left_comm]
  have m2 : (K + 1) * 2 ^ 1074 = 2 * (K * hH) + 2 * hH := by rw [Nat.add_mul, Nat.one_mul, hH2, Nat.mul_left_comm]
  have m3 : (2 * K + 1) * hH = 2 * (K * hH) + hH := by rw [Nat.add_mul, Nat.one_mul, Nat.mul_assoc]
  rw [m1] at hlt
  rw [m2] at hgt
  rw [m3]
  by_cases c1 : m / 2 ^ 1074 < K
  · have := hlt.mp c1
    exact iff_of_true (by omega) (.inl (by omega))
  · by_cases c2 : K + 1 ≤ m / 2 ^ 1074
    · have := hgt.mp c2
      exact iff_of_false (by omega) (by omega)
    · have c3 : m / 2 ^ 1074 = K := by omega
      rw [c3, Nat.mul_comm, m1] at e
      unfold nrU FP.Core.nearest
      rw [c3]
      generalize m % 2 ^ 1074 = t at e hl ⊢
      generalize K * hH = P at e ⊢
      rw [hH2] at hl ⊢
      generalize hH = H at hp hl ⊢
      by_cases d1 : 2 * t < 2 * H
      · rw [if_pos d1]; exact iff_of_true (Nat.le_refl _) (.inl (by omega))
      · rw [if_neg d1]
        by_cases d2 : 2 * H < 2 * t
        · rw [if_pos d2]; exact iff_of_false (by omega) (by omega)
        · rw [if_neg d2]
          constructor
          · intro h; exact .inr ⟨by omega, by omega⟩
          · rintro (h | ⟨-, h⟩)
            · omega
            · omega
/-- 2^52 put above: the fraction is rounded away -/
theorem add52 {y : UInt64} {m : Nat} (hy : NN y m) (hm : m < 2 ^ 52 * 2 ^ 1074) : NN (FP.dadd (4841369599423283200 : UInt64) y) ((2 ^ 52 + nrU m) * 2 ^ 1074) := by
  have hq : FP.Core.b64.qmin = -1074 := FP.Core.qmin_b64
  have e := FP.Core.val64_dadd (4841369599423283200 : UInt64) y
  obtain ⟨s1, c1, q1, h1⟩ := two52.1
  obtain ⟨s2, c2, q2, h2⟩ := id hy.1
  have f1 := FP.Core.val64_fits (4841369599423283200 : UInt64)
  have f2 := FP.Core.val64_fits y
  rw [h1] at f1
  rw [h2] at f2
  obtain ⟨sg, n, ex, x1, x2, x3⟩ := FP.Core.sum_units f1 f2
  rw [← h1, ← h2] at x1 x3
  have z1 : FP.Core.zval FP.Core.b64 (FP.Core.val64 (4841369599423283200 : UInt64)) = ((2 ^ 52 * 2 ^ 1074 : Nat) : Int) := two52.z
  have z2 : FP.Core.zval FP.Core.b64 (FP.Core.val64 y) = (m : Int) := hy.z
  rw [z1, z2] at x3
  have hS0 : 0 < 2 ^ 52 * 2 ^ 1074 := Nat.mul_pos (Nat.two_pow_pos _) (Nat.two_pow_pos _)
  have hsg : sg = false ∧ FP.Core.inUnits n ex FP.Core.b64.qmin = 2 ^ 52 * 2 ^ 1074 + m := by
    cases sg
    · refine ⟨rfl, ?_⟩
      simp only [FP.Core.signed, Bool.false_eq_true, if_false] at x3
      omega
    · simp only [FP.Core.signed, if_true] at x3
      omega
  obtain ⟨rfl, hu⟩ := hsg
  have er : FP.Core.round FP.Core.b64 (.fin false n ex) = FP.Core.roundRatio FP.Core.b64 false (2 ^ 52 * 2 ^ 1074 + m) 1 FP.Core.b64.qmin := by
    rw [← FP.Core.round_inUnits false n x2, hu]
    rfl
  rw [x1, er] at e
  have e53 : 2 ^ 53 * 2 ^ 1074 = 2 * (2 ^ 52 * 2 ^ 1074) := by rw [← Nat.mul_assoc, ← Nat.pow_succ']
  have hqe : FP.Core.quantum FP.Core.b64 (2 ^ 52 * 2 ^ 1074 + m) 1 FP.Core.b64.qmin = 0 := by
    refine FP.Core.quantum_eq (by omega) (by decide) (by omega) ?_ (.inr ?_)
    · have a : (0 : Int) - FP.Core.b64.qmin + (FP.Core.b64.p : Int) = 1127 := by rw [hq]; decide
      rw [a]
      unfold FP.Core.Below
      rw [show (-(1127 : Int)).toNat = 0 by decide, show (1127 : Int).toNat = 1127 by decide, Nat.pow_zero, Nat.mul_one, Nat.one_mul, show (2 : Nat) ^ 1127 = 2 ^ 53 * 2 ^ 1074 from Nat.pow_add 2 53 1074, e53]
      omega
    · have a : (0 : Int) - FP.Core.b64.qmin + ((FP.Core.b64.p : Int) - 1) = 1126 := by rw [hq]; decide
      rw [a]
      unfold FP.Core.Below
      rw [show (-(1126 : Int)).toNat = 0 by decide, show (1126 : Int).toNat = 1126 by decide, Nat.pow_zero, Nat.mul_one, Nat.one_mul, show (2 : Nat) ^ 1126 = 2 ^ 52 * 2 ^ 1074 from Nat.pow_add 2 52 1074]
      omega
  have hnq : m / 2 ^ 1074 < 2 ^ 52 := (Nat.div_lt_iff_lt_mul (Nat.two_pow_pos _)).mpr hm
  have hN := nr_le m
  have hr : FP.Core.roundRatio FP.Core.b64 false (2 ^ 52 * 2 ^ 1074 + m) 1 FP.Core.b64.qmin = FP.Core.settle FP.Core.b64 false (2 ^ 52 + nrU m) 0 := by
    unfold FP.Core.roundRatio
    rw [if_neg (by omega), hqe]
    unfold FP.Core.roundAt FP.Core.unitsNum FP.Core.unitsDen
    rw [show (FP.Core.b64.qmin - 0).toNat = 0 by rw [hq]; decide, show (0 - FP.Core.b64.qmin).toNat = 1074 by rw [hq]; decide, Nat.pow_zero, Nat.mul_one, Nat.one_mul, nr_add]
  rw [hr] at e
  have hx : FP.Core.b64.qmax = 971 := by decide
  have e' : FP.Core.val64 (FP.dadd (4841369599423283200 : UInt64) y) = FP.Core.settle FP.Core.b64 false (2 ^ 52 + nrU m) 0 := e
  have hck : CK ((2 ^ 52 + nrU m) * 2 ^ 1074) := ck_mul (by omega) (by omega)
  unfold FP.Core.settle at e'
  rw [show (2 : Nat) ^ FP.Core.b64.p = 2 ^ 53 from rfl] at e'
  by_cases c : 2 ^ 52 + nrU m < 2 ^ 53
  · rw [if_pos c] at e'
    unfold FP.Core.bound at e'
    rw [if_pos (by omega)] at e'
    refine ⟨⟨_, _, _, e'⟩, ?_, ?_⟩
    · show FP.Core.sgn (FP.Core.val64 (FP.dadd (4841369599423283200 : UInt64) y)) = false
      rw [e']; rfl
    · show FP.Core.zmag FP.Core.b64 (FP.Core.val64 (FP.dadd (4841369599423283200 : UInt64) y)) = _
      rw [e']
      show _ * 2 ^ (0 - FP.Core.b64.qmin).toNat = _
      rw [show (0 - FP.Core.b64.qmin).toNat = 1074 by rw [hq]; decide]
  · rw [if_neg c] at e'
    unfold FP.Core.bound at e'
    rw [if_pos (by omega)] at e'
    refine ⟨⟨_, _, _, e'⟩, ?_, ?_⟩
    · show FP.Core.sgn (FP.Core.val64 (FP.dadd (4841369599423283200 : UInt64) y)) = false
      rw [e']; rfl
    · show FP.Core.zmag FP.Core.b64 (FP.Core.val64 (FP.dadd (4841369599423283200 : UInt64) y)) = _
      rw [e', show 2 ^ 52 + nrU m = 2 ^ 53 by omega]
      show FP.Core.b64.tails * 2 ^ (0 + 1 - FP.Core.b64.qmin).toNat = _
      rw [show (0 + 1 - FP.Core.b64.qmin).toNat = 1075 by rw [hq]; decide, FP.Core.tails_b64, ← Nat.pow_add, ← Nat.pow_add]
/-- a factor of sign alone -/
theorem and_top (n : Nat) (h : n < 2 ^ 64) : n &&& 2 ^ 63 = if 2 ^ 63 ≤ n then 2 ^ 63 else 0 := by
  have h1 : (n &&& 2 ^ 63) % 2 ^ 63 = 0 := by rw [Nat.and_mod_two_pow, Nat.mod_self, Nat.and_zero]
  have h2 : (n &&& 2 ^ 63) / 2 ^ 63 = n / 2 ^ 63 % 2 := by rw [Nat.and_div_two_pow, Nat.div_self (Nat.two_pow_pos _), Nat.and_one_is_mod]
  have h3 := Nat.div_add_mod (n &&& 2 ^ 63) (2 ^ 63)
  rw [h1, h2] at h3
  split <;> omega
theorem sg_one {r : UInt64} (h : FP.Core.val64 r ≠ .nan) : ((r.toInt64 &&& (-9223372036854775808)) ||| 4607182418800017408).toUInt64 = if vsg r = true then (13830554455654793216 : UInt64) else (4607182418800017408 : UInt64) := by
  have hs := FP.Core.sgn_bits h
  have hr := r.toNat_lt
  refine UInt64.toNat_inj.mp ?_
  rw [i64_or, i64_and, show r.toInt64.toUInt64.toNat = r.toNat from rfl, show (-9223372036854775808 : Int64).toUInt64.toNat = 2 ^ 63 by decide, show (4607182418800017408 : Int64).toUInt64.toNat = 4607182418800017408 by decide, and_top _ (by omega)]
  by_cases c : 2 ^ 63 ≤ r.toNat
  · rw [decide_eq_true c] at hs
    rw [if_pos c, if_pos hs]
    decide
  · rw [decide_eq_false c] at hs
    rw [if_neg c, if_neg (by rw [show vsg r = false from hs]; decide)]
    decide
theorem sg_mul {s : Bool} {X : UInt64} (h : FP.Core.val64 X ≠ .nan) : zv (FP.dmul (if s = true then (13830554455654793216 : UInt64) else (4607182418800017408 : UInt64)) X) = (if s = true then -zv X else zv X) ∧ FP.Core.val64 (FP.dmul (if s = true then (13830554455654793216 : UInt64) else (4607182418800017408 : UInt64)) X) ≠ .nan := by
  have h1 : FP.Core.dmul (4607182418800017408 : UInt64) X = X := FP.Core.one_dmul ((FP.Core.notNaN_iff X).mpr h)
  cases s
  · rw [if_neg (by decide), if_neg (by decide)]
    show zv (FP.Core.dmul _ _) = _ ∧ FP.Core.val64 (FP.Core.dmul _ _) ≠ _
    rw [h1]
    exact ⟨rfl, h⟩
  · rw [if_pos rfl, if_pos rfl]
    have e : FP.Core.dmul (13830554455654793216 : UInt64) X = FP.Core.dneg X := by
      rw [show (13830554455654793216 : UInt64) = FP.Core.dneg 4607182418800017408 by decide +kernel, FP.Core.dmul_dneg, h1]
    show zv (FP.Core.dmul _ _) = _ ∧ FP.Core.val64 (FP.Core.dmul _ _) ≠ _
    rw [e]
    refine ⟨?_, ?_⟩
    · show FP.Core.zval FP.Core.b64 (FP.Core.val64 (FP.Core.dneg X)) = _
      rw [FP.Core.val64_dneg, FP.Core.zval_negate]
    · rw [FP.Core.val64_dneg]; exact FP.Core.negate_ne_nan h
theorem abs_i64 (r : UInt64) : (r.toInt64 &&& 9223372036854775807).toUInt64 = (r &&& 0x7fffffffffffffff) := rfl
theorem cmI {a b : UInt64} : FP.cmpInt 1 (FP.dcmp a b) = Op.cmpValue (FP.dcmp a b) .g := by
  unfold FP.cmpInt Op.cmpValue
  cases FP.dcmp a b with
  | none => rfl
  | some o => cases o <;> rfl
/-- Math.rint -/
theorem rint_s {r : UInt64} (h : FP.Core.DFin r) (hm : vm r < 2 ^ 52 * 2 ^ 1074) : zv (xrint r) = FP.Core.signed (vsg r) (nrU (vm r) * 2 ^ 1074) ∧ FP.Core.val64 (xrint r) ≠ .nan := by
  have hy := abs_bits h
  have ha := add52 hy hm
  have hnq : vm r / 2 ^ 1074 < 2 ^ 52 := (Nat.div_lt_iff_lt_mul (Nat.two_pow_pos _)).mpr hm
  have hN := nr_le (vm r)
  have hz : zv (FP.dadd (4841369599423283200 : UInt64) (r &&& 0x7fffffffffffffff)) - zv (4841369599423283200 : UInt64) = ((nrU (vm r) * 2 ^ 1074 : Nat) : Int) := by
    rw [ha.z, two52.z, Nat.add_mul]; omega
  obtain ⟨d1, d2⟩ := zv_dsub ha.1 two52.1 (by rw [hz]; exact ck_mul (by omega) (by omega))
  rw [hz] at d1
  unfold xrint
  rw [nan64_F' h.ne_nan, if_neg (by decide), sg_one h.ne_nan, abs_i64, cmI, if_pos ((cv_lt0 hy.ok two52.ok .g).mpr (by rw [hy.z, two52.z]; omega))]
  obtain ⟨e1, e2⟩ := sg_mul (s := vsg r) d2
  refine ⟨?_, e2⟩
  rw [e1, d1]
  cases vsg r <;> rfl
theorem rint_b {r : UInt64} (h : FP.Core.val64 r ≠ .nan) (hm : 2 ^ 52 * 2 ^ 1074 ≤ vm r) : zv (xrint r) = zv r ∧ FP.Core.val64 (xrint r) ≠ .nan := by
  have e := FP.Core.mask_toNat r
  have em : (r &&& 0x7fffffffffffffff).toNat % 2 ^ 63 = r.toNat % 2 ^ 63 := by rw [e, Nat.mod_mod]
  have hl : r.toNat % 2 ^ 63 < 2 ^ 63 := Nat.mod_lt _ (by decide)
  have hn : FP.Core.val64 (r &&& 0x7fffffffffffffff) ≠ .nan := FP.Core.mask_ne_nan h
  have hv : vm (r &&& 0x7fffffffffffffff) = vm r := by
    rw [show vm (r &&& 0x7fffffffffffffff) = FP.Core.unitsOf FP.Core.b64 ((r &&& 0x7fffffffffffffff).toNat % 2 ^ 63) from FP.Core.zmag_bits hn, em]
    exact (FP.Core.zmag_bits h).symm
  have hs : vsg (r &&& 0x7fffffffffffffff) = false := by
    rw [show vsg (r &&& 0x7fffffffffffffff) = decide (2 ^ 63 ≤ (r &&& 0x7fffffffffffffff).toNat) from FP.Core.sgn_bits hn]
    exact decide_eq_false (by omega)
  have hz : zv (r &&& 0x7fffffffffffffff) = (vm r : Int) := by
    show FP.Core.signed (vsg _) (vm _) = _
    rw [hs, hv]; rfl
  unfold xrint
  rw [nan64_F' h, if_neg (by decide), sg_one h, abs_i64, cmI, if_neg (show ¬ Op.cmpValue (FP.dcmp (r &&& 0x7fffffffffffffff) 4841369599423283200) .g < 0 from fun z => by
    have := (cv_lt0 hn two52.ok .g).mp z
    rw [hz, two52.z] at this
    omega)]
  obtain ⟨e1, e2⟩ := sg_mul (s := vsg r) hn
  refine ⟨?_, e2⟩
  rw [e1, hz]
  show _ = FP.Core.signed (vsg r) (vm r)
  cases vsg r <;> rfl
theorem hi32 : FP.Core.val64 (4746794007244308480 : UInt64) ≠ .nan ∧ zv (4746794007244308480 : UInt64) = ((2147483647 * 2 ^ 1074 : Nat) : Int) := ⟨(FP.Core.ne_nan _).mpr (by decide), by decide +kernel⟩
theorem lo32 : FP.Core.val64 (13970166044103278592 : UInt64) ≠ .nan ∧ zv (13970166044103278592 : UInt64) = -((2147483648 * 2 ^ 1074 : Nat) : Int) := ⟨(FP.Core.ne_nan _).mpr (by decide), by decide +kernel⟩
theorem hi32h : FP.Core.val64 (4746794007246405632 : UInt64) ≠ .nan ∧ zv (4746794007246405632 : UInt64) = ((4294967295 * hH : Nat) : Int) := ⟨(FP.Core.ne_nan _).mpr (by decide), by decide +kernel⟩
theorem lo32h : FP.Core.val64 (13970166044104327168 : UInt64) ≠ .nan ∧ zv (13970166044104327168 : UInt64) = -((4294967297 * hH : Nat) : Int) := ⟨(FP.Core.ne_nan _).mpr (by decide), by decide +kernel⟩
theorem hf64 : FP.Core.val64 (4602678819172646912 : UInt64) ≠ .nan ∧ zv (4602678819172646912 : UInt64) = (hH : Int) := ⟨(FP.Core.ne_nan _).mpr (by decide), by decide +kernel⟩
theorem hf64n : FP.Core.val64 (13826050856027422720 : UInt64) ≠ .nan ∧ zv (13826050856027422720 : UInt64) = -(hH : Int) := ⟨(FP.Core.ne_nan _).mpr (by decide), by decide +kernel⟩
/-- in range, in units -/
theorem far_iff {r : UInt64} (hX : FP.Core.val64 (xrint r) ≠ .nan) : ¬ farW r ↔ (-((2147483648 * 2 ^ 1074 : Nat) : Int) ≤ zv (xrint r) ∧ zv (xrint r) ≤ ((2147483647 * 2 ^ 1074 : Nat) : Int)) := by
  have c1 := cv_lt0 hX lo32.1 .l
  have c2 := cv_le0 hX hi32.1 .g
  rw [lo32.2] at c1
  rw [hi32.2] at c2
  constructor
  · intro h
    exact ⟨Int.not_lt.mp (fun z => h (.inl (c1.mpr z))), Classical.byContradiction (fun z => h (.inr (fun y => z (c2.mp y))))⟩
  · rintro ⟨h1, h2⟩ (z | z)
    · have := c1.mp z; omega
    · exact z (c2.mpr h2)
theorem m_hasN {r : UInt64} (h : FP.Core.val64 r ≠ .nan) (M : Mem) : d_X4_hasNearest r M = some (pB (-((4294967297 * hH : Nat) : Int) ≤ zv r ∧ zv r < ((4294967295 * hH : Nat) : Int)), M) := by
  have c1 := cv_lt0 h lo32h.1 .l
  have c2 := cv_0le h hi32h.1 .g
  rw [lo32h.2] at c1
  rw [hi32h.2] at c2
  unfold d_X4_hasNearest
  by_cases q1 : zv r < -((4294967297 * hH : Nat) : Int)
  · rw [if_pos (c1.mpr q1), pBF (fun z => by omega)]; rfl
  · rw [if_neg (fun z => q1 (c1.mp z))]
    by_cases q2 : ((4294967295 * hH : Nat) : Int) ≤ zv r
    · rw [if_pos (c2.mpr q2), pBF (fun z => by omega)]; rfl
    · rw [if_neg (fun z => q2 (c2.mp z)), pBT ⟨by omega, by omega⟩]; rfl
theorem near_s {r : UInt64} (h : FP.Core.DFin r) (hm : vm r < 2 ^ 52 * 2 ^ 1074) : (-((4294967297 * hH : Nat) : Int) ≤ zv r ∧ zv r < ((4294967295 * hH : Nat) : Int)) ↔ ¬ farW r := by
  obtain ⟨x1, x2⟩ := rint_s h hm
  rw [far_iff x2, x1, show zv r = FP.Core.signed (vsg r) (vm r) from rfl]
  have k1 := nr_iff (vm r) 2147483647
  have k2 := nr_iff (vm r) 2147483648
  have p := Nat.two_pow_pos 1074
  have p2 := hH0
  have le1 : ∀ K, nrU (vm r) * 2 ^ 1074 ≤ K * 2 ^ 1074 ↔ nrU (vm r) ≤ K := fun K => ⟨fun z => Nat.le_of_mul_le_mul_right z p, fun z => Nat.mul_le_mul_right _ z⟩
  have l1 := le1 2147483647
  have l2 := le1 2147483648
  rw [show 2 * 2147483647 + 1 = 4294967295 from rfl, show 2147483647 % 2 = 1 from rfl] at k1
  rw [show 2 * 2147483648 + 1 = 4294967297 from rfl, show 2147483648 % 2 = 0 from rfl] at k2
  rw [k1] at l1
  rw [k2] at l2
  generalize nrU (vm r) * 2 ^ 1074 = X at *
  generalize vm r = m at *
  generalize 2147483647 * 2 ^ 1074 = A at *
  generalize 2147483648 * 2 ^ 1074 = B at *
  cases vsg r
  · simp only [FP.Core.signed, Bool.false_eq_true, if_false]
    constructor
    · rintro ⟨-, a⟩
      exact ⟨by omega, by have := l1.mpr (.inl (by omega)); omega⟩
    · rintro ⟨-, a⟩
      have := l1.mp (by omega)
      exact ⟨by omega, by omega⟩
  · simp only [FP.Core.signed, if_true]
    constructor
    · rintro ⟨a, -⟩
      refine ⟨?_, by omega⟩
      have : m < 4294967297 * hH ∨ (m = 4294967297 * hH ∧ 0 = 0) := by omega
      have := l2.mpr this
      omega
    · rintro ⟨a, -⟩
      have := l2.mp (by omega)
      exact ⟨by omega, by omega⟩
theorem big_52 : 4294967297 * hH < 2 ^ 52 * 2 ^ 1074 ∧ 2147483648 * 2 ^ 1074 < 2 ^ 52 * 2 ^ 1074 := by
  have p := hH0
  rw [hH2]
  generalize hH = H at *
  exact ⟨by omega, by omega⟩
theorem near_b {r : UInt64} (h : FP.Core.val64 r ≠ .nan) (hm : 2 ^ 52 * 2 ^ 1074 ≤ vm r) : (¬ (-((4294967297 * hH : Nat) : Int) ≤ zv r ∧ zv r < ((4294967295 * hH : Nat) : Int))) ∧ farW r := by
  obtain ⟨x1, x2⟩ := rint_b h hm
  have hp := hH0
  obtain ⟨b1, b2⟩ := big_52
  have hz : zv r = FP.Core.signed (vsg r) (vm r) := rfl
  have b3 : 4294967295 * hH ≤ 4294967297 * hH := Nat.mul_le_mul_right _ (by decide)
  have b4 : 2147483647 * 2 ^ 1074 ≤ 2147483648 * 2 ^ 1074 := Nat.mul_le_mul_right _ (by decide)
  refine ⟨?_, Classical.byContradiction (fun z => ?_)⟩
  · rw [hz]
    generalize 2 ^ 52 * 2 ^ 1074 = T at *
    cases vsg r
    · simp only [FP.Core.signed, Bool.false_eq_true, if_false]; omega
    · simp only [FP.Core.signed, if_true]; omega
  · have := (far_iff x2).mp z
    rw [x1, hz] at this
    generalize 2 ^ 52 * 2 ^ 1074 = T at *
    cases e : vsg r
    · rw [e] at this; simp only [FP.Core.signed, Bool.false_eq_true, if_false] at this; omega
    · rw [e] at this; simp only [FP.Core.signed, if_true] at this; omega
theorem inf_big {r : UInt64} (h : FP.Core.val64 r ≠ .nan) (hf : ¬ FP.Core.DFin r) : 2 ^ 52 * 2 ^ 1074 ≤ vm r := by
  obtain ⟨s, hs⟩ := inf_of h hf
  rw [(inf_vm hs).1, ← Nat.pow_add]
  exact Nat.pow_le_pow_right (by decide) (by decide)
theorem fp_near {r : UInt64} (h : isNaN64 r = false) (M : Mem) : d_X4_hasNearest r M = some (pB (¬ farW r), M) := by
  have hr := nan64_F h
  rw [m_hasN hr]
  by_cases f : FP.Core.DFin r
  · by_cases c : vm r < 2 ^ 52 * 2 ^ 1074
    · rw [pBc (near_s f c)]
    · obtain ⟨b1, b2⟩ := near_b hr (by omega)
      rw [pBF b1, pBF (fun z => z b2)]
  · obtain ⟨b1, b2⟩ := near_b hr (inf_big hr f)
    rw [pBF b1, pBF (fun z => z b2)]
theorem fp_far_nan {r : UInt64} (h : isNaN64 r = true) : farW r := by
  have e : xrint r = 0x7ff8000000000000 := by unfold xrint; rw [if_pos h]
  refine .inl ?_
  rw [e, fp_cmp_nan (.inl (show isNaN64 0x7ff8000000000000 = true by decide)) .l]
  decide
/-- a whole number of units is cast to itself -/
theorem d2i_w {X : UInt64} {s : Bool} {N : Nat} (hX : FP.Core.val64 X ≠ .nan) (hz : zv X = FP.Core.signed s (N * 2 ^ 1074)) (h1 : -2147483648 ≤ FP.Core.signed s N) (h2 : FP.Core.signed s N ≤ 2147483647) : (FP.d2i X).toInt = FP.Core.signed s N := by
  have hz2 : FP.Core.signed (vsg X) (vm X) = FP.Core.signed s (N * 2 ^ 1074) := hz
  have hv : vm X = N * 2 ^ 1074 := by
    have := congrArg Int.natAbs hz2
    rwa [FP.Core.natAbs_signed, FP.Core.natAbs_signed] at this
  have hd : vm X / 2 ^ 1074 = N := by rw [hv, Nat.mul_div_cancel _ (Nat.two_pow_pos _)]
  have hs : FP.Core.signed (vsg X) N = FP.Core.signed s N := by
    rcases Nat.eq_zero_or_pos N with z | z
    · rw [z, FP.Core.signed_zero, FP.Core.signed_zero]
    · have hp : 0 < N * 2 ^ 1074 := Nat.mul_pos z (Nat.two_pow_pos _)
      rw [hv] at hz2
      generalize N * 2 ^ 1074 = P at hz2 hp
      cases e1 : vsg X <;> cases s <;> rw [e1] at hz2 <;> simp only [FP.Core.signed, Bool.false_eq_true, if_false, if_true] at hz2 <;> first | rfl | omega
  have := FP.Core.d2i_val hX
  rw [show FP.Core.one64 = 2 ^ 1074 from rfl, show FP.Core.zmag FP.Core.b64 (FP.Core.val64 X) / 2 ^ 1074 = N from hd, show FP.Core.sgn (FP.Core.val64 X) = vsg X from rfl, hs] at this
  show (FP.Core.d2i X).toInt = _
  rw [this]
  omega
theorem and1 {t : Int64} {s : Bool} {q : Nat} (hq : q < 2 ^ 62) (h : t.toInt = FP.Core.signed s q) : lg_cmp (t &&& (1 : Int64)) (0 : Int64) = 0 ↔ q % 2 = 0 := by
  have e1 : (t &&& (1 : Int64)).toUInt64.toNat = t.toUInt64.toNat % 2 := by rw [i64_and, show (1 : Int64).toUInt64.toNat = 1 by decide, Nat.and_one_is_mod]
  have e2 : t.toUInt64.toNat % 2 = q % 2 := by
    have hb : t.toBitVec.toInt = FP.Core.signed s q := h
    have hlt := t.toUInt64.toNat_lt
    rw [BitVec.toInt_eq_toNat_cond] at hb
    have hn : t.toBitVec.toNat = t.toUInt64.toNat := rfl
    rw [hn] at hb
    cases s
    · simp only [FP.Core.signed, Bool.false_eq_true, if_false] at hb
      split at hb <;> omega
    · simp only [FP.Core.signed, if_true] at hb
      split at hb <;> omega
  rw [lg_cmp_eq]
  constructor
  · intro z
    rw [z, show (0 : Int64).toUInt64.toNat = 0 by decide] at e1
    omega
  · intro z
    exact i64_ext (by rw [e1, e2, z]; decide)
theorem fp_nearest {r : UInt64} (h : isNaN64 r = false) (hf : ¬ farW r) (M : Mem) : d_X4_nearest r M = some (FP.d2i (xrint r), M) := by
  have hr := nan64_F h
  have f : FP.Core.DFin r := Classical.byContradiction (fun f => hf (near_b hr (inf_big hr f)).2)
  have hm : vm r < 2 ^ 52 * 2 ^ 1074 := Nat.lt_of_not_le (fun c => hf (near_b hr c).2)
  obtain ⟨x1, x2⟩ := rint_s f hm
  have hw := (far_iff x2).mp hf
  rw [x1] at hw
  have p := Nat.two_pow_pos 1074
  -- the answer is in range
  have hs1 : -2147483648 ≤ FP.Core.signed (vsg r) (nrU (vm r)) ∧ FP.Core.signed (vsg r) (nrU (vm r)) ≤ 2147483647 := by
    have le1 : ∀ K, nrU (vm r) * 2 ^ 1074 ≤ K * 2 ^ 1074 → nrU (vm r) ≤ K := fun K z => Nat.le_of_mul_le_mul_right z p
    have l1 := le1 2147483647
    have l2 := le1 2147483648
    clear le1 x1 hm
    generalize nrU (vm r) * 2 ^ 1074 = X at hw l1 l2
    obtain ⟨w1, w2⟩ := hw
    obtain ⟨A, hA⟩ : ∃ A, A = 2147483647 * 2 ^ 1074 := ⟨_, rfl⟩
    obtain ⟨C, hC⟩ : ∃ C, C = 2147483648 * 2 ^ 1074 := ⟨_, rfl⟩
    rw [← hC] at w1 l2
    rw [← hA] at w2 l1
    clear hA hC
    cases e : vsg r
    · rw [e] at w1 w2
      simp only [FP.Core.signed, Bool.false_eq_true, if_false] at w1 w2 ⊢
      have := l1 (by omega)
      omega
    · rw [e] at w1 w2
      simp only [FP.Core.signed, if_true] at w1 w2 ⊢
      have := l2 (by omega)
      omega
  have hD := d2i_w x2 x1 hs1.1 hs1.2
  have hq1 := nr_le (vm r)
  have hq2 := nr_ge (vm r)
  have hq3 : vm r / 2 ^ 1074 ≤ 2147483648 := by
    cases e : vsg r
    · rw [e] at hs1; simp only [FP.Core.signed, Bool.false_eq_true, if_false] at hs1; omega
    · rw [e] at hs1; simp only [FP.Core.signed, if_true] at hs1; omega
  -- the part towards zero
  have ht : (FP.d2l r).toInt = FP.Core.signed (vsg r) (vm r / 2 ^ 1074) := by
    rw [show FP.d2l r = FP.Core.d2l r from rfl, FP.Core.d2l_val hr]
    show max _ (min _ (FP.Core.signed (vsg r) (vm r / 2 ^ 1074))) = _
    generalize vm r / 2 ^ 1074 = q at hq3
    cases vsg r
    · simp only [FP.Core.signed, Bool.false_eq_true, if_false]; omega
    · simp only [FP.Core.signed, if_true]; omega
  have hta : (FP.d2l r).toInt.natAbs ≤ 2 ^ 53 := by rw [ht, FP.Core.natAbs_signed]; omega
  have hl : zv (FP.l2d (FP.d2l r)) = FP.Core.signed (vsg r) (vm r / 2 ^ 1074 * 2 ^ 1074) := by
    rw [show zv (FP.l2d (FP.d2l r)) = _ from FP.Core.DInt_zval (FP.Core.l2d_int hta), ht, FP.Core.signed_mul]
    rfl
  have hlf : FP.Core.DFin (FP.l2d (FP.d2l r)) := FP.Core.l2d_fin _
  have hdm := Nat.div_add_mod (vm r) (2 ^ 1074)
  have hov : zv r - zv (FP.l2d (FP.d2l r)) = FP.Core.signed (vsg r) (vm r % 2 ^ 1074) := by
    rw [hl, show zv r = FP.Core.signed (vsg r) (vm r) from rfl]
    rw [Nat.mul_comm] at hdm
    generalize vm r / 2 ^ 1074 * 2 ^ 1074 = Q at *
    generalize vm r % 2 ^ 1074 = t at *
    cases vsg r
    · simp only [FP.Core.signed, Bool.false_eq_true, if_false]; omega
    · simp only [FP.Core.signed, if_true]; omega
  obtain ⟨o1, o2⟩ := zv_dsub f hlf (by rw [hov, FP.Core.natAbs_signed]; exact ck_mod (ck_fin f) 1074)
  rw [hov] at o1
  generalize hO : FP.dsub r (FP.l2d (FP.d2l r)) = ov at o1 o2
  have a1 := and1 (t := FP.d2l r) (q := vm r / 2 ^ 1074) (by omega) ht
  have g1 := cv_0lt o2 hf64.1 .l
  have g2 := cv_eq0 o2 hf64.1 .l
  have g3 := cv_lt0 o2 hf64n.1 .g
  have g4 := cv_eq0 o2 hf64n.1 .l
  rw [hf64.2, o1] at g1 g2
  rw [hf64n.2, o1] at g3 g4
  -- what is nearest
  have hnr : nrU (vm r) = if vm r % 2 ^ 1074 < hH then vm r / 2 ^ 1074 else if hH < vm r % 2 ^ 1074 then vm r / 2 ^ 1074 + 1 else vm r / 2 ^ 1074 + vm r / 2 ^ 1074 % 2 := by
    unfold nrU FP.Core.nearest
    generalize vm r % 2 ^ 1074 = t
    generalize vm r / 2 ^ 1074 = q
    rw [hH2]
    generalize hH = H
    by_cases c1 : t < H
    · rw [if_pos (show 2 * t < 2 * H by omega), if_pos c1]
    · rw [if_neg (show ¬ 2 * t < 2 * H by omega), if_neg c1]
      by_cases c2 : H < t
      · rw [if_pos (show 2 * H < 2 * t by omega), if_pos c2]
      · rw [if_neg (show ¬ 2 * H < 2 * t by omega), if_neg c2]
  have fin : ∀ v : Int64, v.toInt = FP.Core.signed (vsg r) (nrU (vm r)) → v.toInt32 = FP.d2i (xrint r) := fun v hv => by
    refine Int32.toInt_inj.mp ?_
    rw [hD, ← hv]
    exact FP.Core.int64_toInt32 (by rw [hv]; omega) (by rw [hv]; omega)
  have up : (FP.d2l r + (1 : Int64)).toInt = (FP.d2l r).toInt + 1 := by
    rw [FP.Core.int64_add] <;> rw [show (1 : Int64).toInt = 1 by decide, ht] <;> generalize vm r / 2 ^ 1074 = q at hq3 <;> cases vsg r <;> simp only [FP.Core.signed, Bool.false_eq_true, if_false, if_true] <;> omega
  have dn : (FP.d2l r - (1 : Int64)).toInt = (FP.d2l r).toInt - 1 := by
    rw [FP.Core.int64_sub] <;> rw [show (1 : Int64).toInt = 1 by decide, ht] <;> generalize vm r / 2 ^ 1074 = q at hq3 <;> cases vsg r <;> simp only [FP.Core.signed, Bool.false_eq_true, if_false, if_true] <;> omega
  have hp := hH0
  have st : d_X4_nearest r M = d_X4_nearest_22 (FP.d2l r) ov (pB (¬ vm r / 2 ^ 1074 % 2 = 0)) M := by
    unfold d_X4_nearest
    rw [bnd_eq, bnd_eq, hO]
    by_cases c : vm r / 2 ^ 1074 % 2 = 0
    · rw [if_pos (a1.mpr c), pBF (fun z => z c)]; rfl
    · rw [if_neg (fun z => c (a1.mp z)), pBT c]; rfl
  rw [st]
  unfold d_X4_nearest_22 d_X4_nearest_54 d_X4_nearest_47 d_X4_nearest_77
  simp only [bnd_eq]
  generalize hQ : vm r / 2 ^ 1074 = q at *
  generalize hT : vm r % 2 ^ 1074 = t at *
  generalize hH = H at *
  clear hdm hl hov
  have key : ∀ v : Int64, v.toInt = FP.Core.signed (vsg r) (nrU (vm r)) → some (v.toInt32, M) = some (FP.d2i (xrint r), M) := fun v hv => by rw [fin v hv]
  cases e : vsg r
  · rw [e] at ht g1 g2 g3 g4 key
    simp only [FP.Core.signed, Bool.false_eq_true, if_false] at ht g1 g2 g3 g4 key
    have n3 : ¬ Op.cmpValue (FP.dcmp ov (13826050856027422720 : UInt64)) .g < 0 := fun z => by have := g3.mp z; omega
    have n4 : ¬ Op.cmpValue (FP.dcmp ov (13826050856027422720 : UInt64)) .l = 0 := fun z => by have := g4.mp z; omega
    by_cases c1 : H < t
    · rw [if_pos (g1.mpr (by omega))]
      exact key _ (by rw [up, ht, hnr, if_neg (by omega), if_pos c1]; omega)
    · rw [if_neg (fun z => c1 (by have := g1.mp z; omega))]
      by_cases c2 : t = H
      · rw [if_pos (g2.mpr (by omega))]
        by_cases c3 : q % 2 = 0
        · rw [pBF (fun z => z c3), if_pos q0z, if_neg n3, if_neg n4]
          exact key _ (by rw [ht, hnr, if_neg (by omega), if_neg c1]; omega)
        · rw [pBT c3, if_neg q1z]
          exact key _ (by rw [up, ht, hnr, if_neg (by omega), if_neg c1]; omega)
      · rw [if_neg (fun z => c2 (by have := g2.mp z; omega)), if_neg n3, if_neg n4]
        exact key _ (by rw [ht, hnr, if_pos (by omega)])
  · rw [e] at ht g1 g2 g3 g4 key
    simp only [FP.Core.signed, if_true] at ht g1 g2 g3 g4 key
    have n1 : ¬ 0 < Op.cmpValue (FP.dcmp ov (4602678819172646912 : UInt64)) .l := fun z => by have := g1.mp z; omega
    have n2 : ¬ Op.cmpValue (FP.dcmp ov (4602678819172646912 : UInt64)) .l = 0 := fun z => by have := g2.mp z; omega
    rw [if_neg n1, if_neg n2]
    by_cases c1 : H < t
    · rw [if_pos (g3.mpr (by omega))]
      exact key _ (by rw [dn, ht, hnr, if_neg (by omega), if_pos c1]; omega)
    · rw [if_neg (fun z => c1 (by have := g3.mp z; omega))]
      by_cases c2 : t = H
      · rw [if_pos (g4.mpr (by omega))]
        by_cases c3 : q % 2 = 0
        · rw [pBF (fun z => z c3), if_pos q0z]
          exact key _ (by rw [ht, hnr, if_neg (by omega), if_neg c1]; omega)
        · rw [pBT c3, if_neg q1z]
          exact key _ (by rw [dn, ht, hnr, if_neg (by omega), if_neg c1]; omega)
      · rw [if_neg (fun z => c2 (by have := g4.mp z; omega))]
        exact key _ (by rw [ht, hnr, if_pos (by omega)])
theorem fp_bitsOf {r : UInt64} (h : isNaN64 r = false) (M : Mem) : d_X4_bitsOf r M = some (bitsV r, M) := fp_bitsOf2 h M
end MFP
