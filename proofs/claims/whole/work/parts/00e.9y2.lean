/-! ===== doubles: what is undefined, and rests ===== -/
section MF2
/-! endless -/
theorem inf_of {a : UInt64} (h : FP.Core.val64 a ≠ .nan) (hf : ¬ FP.Core.DFin a) : ∃ s, FP.Core.val64 a = .inf s := (fin_or h).resolve_left hf
theorem inf_nf {a : UInt64} {s : Bool} (h : FP.Core.val64 a = .inf s) : ¬ FP.Core.DFin a := fun ⟨t, c, q, k⟩ => by rw [h] at k; cases k
theorem inf_0 {a : UInt64} {s : Bool} (h : FP.Core.val64 a = .inf s) : 0 < zv a ↔ s = false := by
  obtain ⟨h1, h2⟩ := inf_vm h
  have hp := Nat.two_pow_pos 2098
  show 0 < FP.Core.signed (vsg a) (vm a) ↔ _
  rw [h1, h2]
  generalize 2 ^ 2098 = T at hp
  cases s
  · simp only [FP.Core.signed, Bool.false_eq_true, if_false]
    exact iff_of_true (by omega) trivial
  · simp only [FP.Core.signed, if_true]
    exact iff_of_false (by omega) (by decide)
theorem inf_0e {a : UInt64} {s : Bool} (h : FP.Core.val64 a = .inf s) : 0 ≤ zv a ↔ s = false := by
  obtain ⟨h1, h2⟩ := inf_vm h
  have hp := Nat.two_pow_pos 2098
  show 0 ≤ FP.Core.signed (vsg a) (vm a) ↔ _
  rw [h1, h2]
  generalize 2 ^ 2098 = T at hp
  cases s
  · simp only [FP.Core.signed, Bool.false_eq_true, if_false]
    exact iff_of_true (by omega) trivial
  · simp only [FP.Core.signed, if_true]
    exact iff_of_false (by omega) (by decide)
theorem m_endless {x : UInt64} (h : FP.Core.val64 x ≠ .nan) (M : Mem) : d_X4_isEndless x M = some (pB (¬ FP.Core.DFin x), M) := by
  have hb := (FP.Core.ne_nan x).mp h
  have hx := x.toNat_lt
  have k1 : FP.Core.val64 (9218868437227405311 : UInt64) ≠ .nan := (FP.Core.ne_nan _).mpr (by decide)
  have k2 : FP.Core.val64 (18442240474082181119 : UInt64) ≠ .nan := (FP.Core.ne_nan _).mpr (by decide)
  have z1 : ∀ a b : UInt64, FP.Core.val64 a ≠ .nan → FP.Core.val64 b ≠ .nan → (zv a < zv b ↔ FP.Core.dkey a < FP.Core.dkey b) := fun a b ha hb => by
    have e1 := FP.Core.dcmp_zval ha hb
    have e2 := FP.Core.dcmp_key ha hb
    rw [e1, Option.some.injEq] at e2
    rw [← FP.Core.compare_lt_iff, ← FP.Core.compare_lt_iff, e2]
  have d1 : FP.Core.dkey (9218868437227405311 : UInt64) = 9218868437227405311 := by decide
  have d2 : FP.Core.dkey (18442240474082181119 : UInt64) = -9218868437227405311 := by decide
  have hd : FP.Core.dkey x = if 2 ^ 63 ≤ x.toNat then ((2 ^ 63 : Nat) : Int) - (x.toNat : Int) else (x.toNat : Int) := rfl
  unfold d_X4_isEndless
  by_cases c1 : zv (9218868437227405311 : UInt64) < zv x
  · rw [if_pos ((cv_0lt h k1 .l).mpr c1), pBT]
    · rfl
    · rw [FP.Core.fin_bits]
      rw [z1 _ _ k1 h, d1, hd] at c1
      split at c1 <;> omega
  · rw [if_neg (fun z => c1 ((cv_0lt h k1 .l).mp z))]
    rw [z1 _ _ k1 h, d1, hd] at c1
    by_cases c2 : zv x < zv (18442240474082181119 : UInt64)
    · rw [if_neg (fun z => absurd ((cv_0le h k2 .g).mp z) (by omega)), pBT]
      · rfl
      · rw [FP.Core.fin_bits]
        rw [z1 _ _ h k2, d2, hd] at c2
        split at c2 <;> omega
    · rw [if_pos ((cv_0le h k2 .g).mpr (by omega)), pBF]
      · rfl
      · rw [FP.Core.fin_bits]
        rw [z1 _ _ h k2, d2, hd] at c2
        split at c2 <;> split at c1 <;> omega
theorem pB_eq {p q : Prop} : (pB p = pB q) ↔ (p ↔ q) := by
  constructor
  · intro h
    by_cases hp : p
    · by_cases hq : q
      · exact iff_of_true hp hq
      · rw [pBT hp, pBF hq] at h; exact absurd h (by decide)
    · by_cases hq : q
      · rw [pBF hp, pBT hq] at h; exact absurd h (by decide)
      · exact iff_of_false hp hq
  · exact fun h => pBc h
theorem m_87 (p q : Prop) (M : Mem) : d_X4_isUndefined_87 (pB p) (pB q) M = some (pB (¬ (p ↔ q)), M) := by
  unfold d_X4_isUndefined_87
  by_cases c : p ↔ q
  · rw [if_pos (pB_eq.mpr c), pBF (fun z => z c)]; rfl
  · rw [if_neg (fun z => c (pB_eq.mp z)), pBT c]; rfl
theorem m_123 (p q : Prop) (M : Mem) : d_X4_isUndefined_123 (pB p) (pB q) M = some (pB (p ↔ q), M) := by
  unfold d_X4_isUndefined_123
  by_cases c : p ↔ q
  · rw [if_pos (pB_eq.mpr c), pBT c]; rfl
  · rw [if_neg (fun z => c (pB_eq.mp z)), pBF c]; rfl
theorem m_76 {b : UInt64} (hb : FP.Core.val64 b ≠ .nan) (p : Prop) (M : Mem) : d_X4_isUndefined_76 b (pB p) M = some (pB (¬ (p ↔ 0 < zv b)), M) := by
  have hc := cv_le0 hb v0n .l
  rw [zv0] at hc
  unfold d_X4_isUndefined_76
  have h87 := m_87 p (0 < zv b) M
  by_cases c : zv b ≤ 0
  · rw [if_pos (hc.mpr c)]
    rw [pBF (p := 0 < zv b) (by omega)] at h87
    exact h87
  · rw [if_neg (fun z => c (hc.mp z))]
    rw [pBT (p := 0 < zv b) (by omega)] at h87
    exact h87
theorem m_112 {b : UInt64} (hb : FP.Core.val64 b ≠ .nan) (p : Prop) (M : Mem) : d_X4_isUndefined_112 b (pB p) M = some (pB (p ↔ 0 < zv b), M) := by
  have hc := cv_le0 hb v0n .l
  rw [zv0] at hc
  unfold d_X4_isUndefined_112
  have h87 := m_123 p (0 < zv b) M
  by_cases c : zv b ≤ 0
  · rw [if_pos (hc.mpr c)]
    rw [pBF (p := 0 < zv b) (by omega)] at h87
    exact h87
  · rw [if_neg (fun z => c (hc.mp z))]
    rw [pBT (p := 0 < zv b) (by omega)] at h87
    exact h87
theorem z_zero {a : UInt64} (h : FP.Core.val64 a ≠ .nan) : zv a = 0 ↔ FP.Core.DZero a := by
  rw [FP.Core.zero_bits2]
  exact FP.Core.zval_eq_zero h
theorem m_145 {a b : UInt64} (ha : FP.Core.val64 a ≠ .nan) (hb : FP.Core.val64 b ≠ .nan) (M : Mem) : d_X4_isUndefined_145 a b M = some (pB (FP.Core.DZero a ∧ ¬ FP.Core.DFin b), M) := by
  have hc := cv_eq0 ha v0n .l
  rw [zv0, z_zero ha] at hc
  unfold d_X4_isUndefined_145
  by_cases c : FP.Core.DZero a
  · rw [if_pos (hc.mpr c), m_endless hb]
    simp only [obind]
    by_cases d : FP.Core.DFin b
    · rw [pBF (fun z => z d), if_pos z00, pBF (fun z => z.2 d)]; rfl
    · rw [pBT d, if_neg n1z, pBT ⟨c, d⟩]; rfl
  · rw [if_neg (fun z => c (hc.mp z)), pBF (fun z => c z.1)]; rfl
/-- both endless, and what follows -/
theorem m_und {c : Int32} {a b : UInt64} (ha : FP.Core.val64 a ≠ .nan) (hb : FP.Core.val64 b ≠ .nan) (M : Mem) : d_X4_isUndefined c a b M = d_X4_isUndefined_19 c a b (pB (¬ FP.Core.DFin a ∧ ¬ FP.Core.DFin b)) M := by
  unfold d_X4_isUndefined
  rw [m_endless ha]
  simp only [obind]
  by_cases d : FP.Core.DFin a
  · rw [pBF (fun z => z d), if_pos z00, pBF (fun z => z.1 d)]; rfl
  · rw [pBT d, if_neg n1z, m_endless hb]
    simp only [obind]
    by_cases e : FP.Core.DFin b
    · rw [pBF (fun z => z e), if_pos z00, pBF (fun z => z.2 e)]; rfl
    · rw [pBT e, if_neg n1z, pBT ⟨d, e⟩]; rfl
theorem fp_und2 {c : Int32} (hc : c = nI 43 ∨ c = nI 45 ∨ c = nI 42 ∨ c = nI 47 ∨ c = nI 37) {a b : UInt64} (ha' : isNaN64 a = false) (hb' : isNaN64 b = false) (M : Mem) : d_X4_isUndefined c a b M = some (pB (isNaN64 (fopF c a b) = true), M) := by
  have ha := nan64_F ha'
  have hb := nan64_F hb'
  rw [m_und ha hb]
  have h0a := cv_le0 ha v0n .l
  rw [zv0] at h0a
  have hza := cv_eq0 ha v0n .l
  rw [zv0, z_zero ha] at hza
  have hzb := cv_eq0 hb v0n .l
  rw [zv0, z_zero hb] at hzb
  unfold d_X4_isUndefined_19
  rcases hc with rfl | rfl | rfl | rfl | rfl
  · rw [if_neg (show ¬ nI 43 = (42 : Int32) by decide), if_pos (show nI 43 = (43 : Int32) by decide)]
    have e : isNaN64 (fopF (nI 43) a b) = true ↔ ∃ s, FP.Core.val64 a = .inf s ∧ FP.Core.val64 b = .inf (!s) := by
      unfold fopF
      rw [if_pos rfl, nan64_d, show FP.dadd a b = FP.Core.dadd a b from rfl, FP.Core.dadd_nan_iff]
      exact ⟨fun z => (z.resolve_left ha).resolve_left hb, fun z => .inr (.inr z)⟩
    by_cases d : ¬ FP.Core.DFin a ∧ ¬ FP.Core.DFin b
    · rw [pBT d, if_neg n1z]
      obtain ⟨s, hs⟩ := inf_of ha d.1
      obtain ⟨t, ht⟩ := inf_of hb d.2
      have g : pB (isNaN64 (fopF (nI 43) a b) = true) = pB (¬ (0 < zv a ↔ 0 < zv b)) := pBc (by
        rw [e, inf_0 hs, inf_0 ht, hs, ht]
        cases s <;> cases t <;> simp)
      rw [g]
      have h76 := m_76 hb (0 < zv a) M
      by_cases q : zv a ≤ 0
      · rw [if_pos (h0a.mpr q)]
        rw [pBF (p := 0 < zv a) (by omega)] at h76
        exact h76
      · rw [if_neg (fun z => q (h0a.mp z))]
        rw [pBT (p := 0 < zv a) (by omega)] at h76
        exact h76
    · rw [pBF d, if_pos z00, pBF (fun z => by
        obtain ⟨s, z1, z2⟩ := e.mp z
        exact d ⟨inf_nf z1, inf_nf z2⟩)]
      rfl
  · rw [if_neg (show ¬ nI 45 = (42 : Int32) by decide), if_neg (show ¬ nI 45 = (43 : Int32) by decide), if_pos (show nI 45 = (45 : Int32) by decide)]
    have e : isNaN64 (fopF (nI 45) a b) = true ↔ ∃ s, FP.Core.val64 a = .inf s ∧ FP.Core.val64 b = .inf s := by
      unfold fopF
      rw [if_neg (show ¬ nI 45 = nI 43 by decide), if_pos rfl, nan64_d, show FP.dsub a b = FP.Core.dsub a b from rfl, FP.Core.dsub_nan_iff]
      exact ⟨fun z => (z.resolve_left ha).resolve_left hb, fun z => .inr (.inr z)⟩
    by_cases d : ¬ FP.Core.DFin a ∧ ¬ FP.Core.DFin b
    · rw [pBT d, if_neg n1z]
      obtain ⟨s, hs⟩ := inf_of ha d.1
      obtain ⟨t, ht⟩ := inf_of hb d.2
      have g : pB (isNaN64 (fopF (nI 45) a b) = true) = pB (0 < zv a ↔ 0 < zv b) := pBc (by
        rw [e, inf_0 hs, inf_0 ht, hs, ht]
        cases s <;> cases t <;> simp)
      rw [g]
      have h76 := m_112 hb (0 < zv a) M
      by_cases q : zv a ≤ 0
      · rw [if_pos (h0a.mpr q)]
        rw [pBF (p := 0 < zv a) (by omega)] at h76
        exact h76
      · rw [if_neg (fun z => q (h0a.mp z))]
        rw [pBT (p := 0 < zv a) (by omega)] at h76
        exact h76
    · rw [pBF d, if_pos z00, pBF (fun z => by
        obtain ⟨s, z1, z2⟩ := e.mp z
        exact d ⟨inf_nf z1, inf_nf z2⟩)]
      rfl
  · rw [if_pos (show nI 42 = (42 : Int32) by decide), m_endless ha]
    simp only [obind]
    have e : isNaN64 (fopF (nI 42) a b) = true ↔ (¬ FP.Core.DFin a ∧ FP.Core.DZero b) ∨ (FP.Core.DZero a ∧ ¬ FP.Core.DFin b) := by
      unfold fopF
      rw [if_neg (show ¬ nI 42 = nI 43 by decide), if_neg (show ¬ nI 42 = nI 45 by decide), if_pos rfl, nan64_d, show FP.dmul a b = FP.Core.dmul a b from rfl, FP.Core.dmul_nan_iff]
      constructor
      · intro z
        rcases (z.resolve_left ha).resolve_left hb with ⟨s, z1, z2⟩ | ⟨s, z1, z2⟩
        · exact .inl ⟨inf_nf z1, z2⟩
        · exact .inr ⟨z1, inf_nf z2⟩
      · rintro (⟨z1, z2⟩ | ⟨z1, z2⟩)
        · obtain ⟨s, hs⟩ := inf_of ha z1
          exact .inr (.inr (.inl ⟨s, hs, z2⟩))
        · obtain ⟨s, hs⟩ := inf_of hb z2
          exact .inr (.inr (.inr ⟨s, z1, hs⟩))
    by_cases d : FP.Core.DFin a
    · rw [pBF (p := ¬ FP.Core.DFin a) (fun z => z d), if_pos z00, m_145 ha hb]
      rw [pBc (p := isNaN64 (fopF (nI 42) a b) = true) (q := FP.Core.DZero a ∧ ¬ FP.Core.DFin b) (by rw [e]; exact ⟨fun z => z.resolve_left (fun y => y.1 d), .inr⟩)]
    · rw [pBT (p := ¬ FP.Core.DFin a) d, if_neg n1z]
      by_cases q : FP.Core.DZero b
      · rw [if_pos (hzb.mpr q), pBT (e.mpr (.inl ⟨d, q⟩))]; rfl
      · rw [if_neg (fun z => q (hzb.mp z)), m_145 ha hb, pBF (p := FP.Core.DZero a ∧ ¬ FP.Core.DFin b) (fun z => d z.1.fin), pBF (fun z => (e.mp z).elim (fun y => q y.2) (fun y => d y.1.fin))]
  · rw [if_neg (show ¬ nI 47 = (42 : Int32) by decide), if_neg (show ¬ nI 47 = (43 : Int32) by decide), if_neg (show ¬ nI 47 = (45 : Int32) by decide), if_pos (show nI 47 = (47 : Int32) by decide)]
    have e : isNaN64 (fopF (nI 47) a b) = true ↔ (¬ FP.Core.DFin a ∧ ¬ FP.Core.DFin b) ∨ (FP.Core.DZero a ∧ FP.Core.DZero b) := by
      unfold fopF
      rw [if_neg (show ¬ nI 47 = nI 43 by decide), if_neg (show ¬ nI 47 = nI 45 by decide), if_neg (show ¬ nI 47 = nI 42 by decide), if_pos rfl, nan64_d, show FP.ddiv a b = FP.Core.ddiv a b from rfl, FP.Core.ddiv_nan_iff]
      constructor
      · intro z
        rcases (z.resolve_left ha).resolve_left hb with ⟨s, t, z1, z2⟩ | z1
        · exact .inl ⟨inf_nf z1, inf_nf z2⟩
        · exact .inr z1
      · rintro (⟨z1, z2⟩ | z1)
        · obtain ⟨s, hs⟩ := inf_of ha z1
          obtain ⟨t, ht⟩ := inf_of hb z2
          exact .inr (.inr (.inl ⟨s, t, hs, ht⟩))
        · exact .inr (.inr (.inr z1))
    by_cases d : ¬ FP.Core.DFin a ∧ ¬ FP.Core.DFin b
    · rw [pBT d, if_neg n1z, pBT (e.mpr (.inl d))]; rfl
    · rw [pBF d, if_pos z00]
      by_cases q1 : FP.Core.DZero a
      · rw [if_pos (hza.mpr q1)]
        by_cases q2 : FP.Core.DZero b
        · rw [if_pos (hzb.mpr q2), pBT (e.mpr (.inr ⟨q1, q2⟩))]; rfl
        · rw [if_neg (fun z => q2 (hzb.mp z)), pBF (fun z => (e.mp z).elim d (fun y => q2 y.2))]; rfl
      · rw [if_neg (fun z => q1 (hza.mp z)), pBF (fun z => (e.mp z).elim d (fun y => q1 y.1))]; rfl
  · rw [if_neg (show ¬ nI 37 = (42 : Int32) by decide), if_neg (show ¬ nI 37 = (43 : Int32) by decide), if_neg (show ¬ nI 37 = (45 : Int32) by decide), if_neg (show ¬ nI 37 = (47 : Int32) by decide), m_endless ha]
    simp only [obind]
    have e : isNaN64 (fopF (nI 37) a b) = true ↔ ¬ FP.Core.DFin a ∨ FP.Core.DZero b := by
      unfold fopF
      rw [if_neg (show ¬ nI 37 = nI 43 by decide), if_neg (show ¬ nI 37 = nI 45 by decide), if_neg (show ¬ nI 37 = nI 42 by decide), if_neg (show ¬ nI 37 = nI 47 by decide), nan64_d, show FP.drem a b = FP.Core.drem a b from rfl, FP.Core.drem_nan_iff]
      constructor
      · intro z
        rcases (z.resolve_left ha).resolve_left hb with ⟨s, z1⟩ | z1
        · exact .inl (inf_nf z1)
        · exact .inr z1
      · rintro (z1 | z1)
        · obtain ⟨s, hs⟩ := inf_of ha z1
          exact .inr (.inr (.inl ⟨s, hs⟩))
        · exact .inr (.inr (.inr z1))
    by_cases d : FP.Core.DFin a
    · rw [pBF (p := ¬ FP.Core.DFin a) (fun z => z d), if_pos z00]
      by_cases q : FP.Core.DZero b
      · rw [if_pos (hzb.mpr q), pBT (e.mpr (.inr q))]; rfl
      · rw [if_neg (fun z => q (hzb.mp z)), pBF (fun z => (e.mp z).elim (fun y => y d) q)]; rfl
    · rw [pBT (p := ¬ FP.Core.DFin a) d, if_neg n1z, pBT (e.mpr (.inl d))]; rfl
theorem fp_nan2 (c : Int32) {a b : UInt64} (h : isNaN64 a = true ∨ isNaN64 b = true) : isNaN64 (fopF c a b) = true := by
  rw [nan64_iff, nan64_iff] at h
  have g : ∀ (x : UInt64) (r : Prop), (FP.Core.dIsNaN x = true ↔ FP.Core.val64 a = .nan ∨ FP.Core.val64 b = .nan ∨ r) → isNaN64 x = true := fun x r e => by
    rw [nan64_d, e]
    exact h.elim .inl (fun z => .inr (.inl z))
  unfold fopF
  by_cases c1 : c = nI 43
  · rw [if_pos c1]; exact g _ _ (FP.Core.dadd_nan_iff a b)
  rw [if_neg c1]
  by_cases c2 : c = nI 45
  · rw [if_pos c2]; exact g _ _ (FP.Core.dsub_nan_iff a b)
  rw [if_neg c2]
  by_cases c3 : c = nI 42
  · rw [if_pos c3]; exact g _ _ (FP.Core.dmul_nan_iff a b)
  rw [if_neg c3]
  by_cases c4 : c = nI 47
  · rw [if_pos c4]; exact g _ _ (FP.Core.ddiv_nan_iff a b)
  rw [if_neg c4]
  exact g _ _ (FP.Core.drem_nan_iff a b)
theorem fp_remin2 {x y : Int32} (h : ¬ y = nI 0) : inR (x.toInt64 - x.toInt64 / y.toInt64 * y.toInt64) := by
  have hx := x.toInt_lt
  have hx2 := x.le_toInt
  have hy := y.toInt_lt
  have hy2 := y.le_toInt
  have hy0 : y.toInt ≠ 0 := fun z => h (Int32.toInt_inj.mp (by rw [z]; decide))
  have ed : (x.toInt64 / y.toInt64).toInt = x.toInt.tdiv y.toInt := by
    rw [Int64.toInt_div_of_ne_left _ _ x.toInt64_ne_minValue, Int32.toInt_toInt64, Int32.toInt_toInt64]
  have hm := Int.tmod_add_tdiv_mul x.toInt y.toInt
  have ha : (x.toInt.tmod y.toInt).natAbs < y.toInt.natAbs := by
    rw [Int.natAbs_tmod]
    exact Nat.mod_lt _ (by omega)
  have hb : (x.toInt.tmod y.toInt).natAbs ≤ x.toInt.natAbs := by
    rw [Int.natAbs_tmod]
    exact Nat.mod_le _ _
  generalize hp : x.toInt.tdiv y.toInt * y.toInt = P at hm
  have em : (x.toInt64 / y.toInt64 * y.toInt64).toInt = P := by
    rw [FP.Core.int64_mul, ed, Int32.toInt_toInt64, hp]
    · rw [ed, Int32.toInt_toInt64, hp]; omega
    · rw [ed, Int32.toInt_toInt64, hp]; omega
  have es : (x.toInt64 - x.toInt64 / y.toInt64 * y.toInt64).toInt = x.toInt.tmod y.toInt := by
    rw [FP.Core.int64_sub, em, Int32.toInt_toInt64]
    · omega
    · rw [em, Int32.toInt_toInt64]; omega
    · rw [em, Int32.toInt_toInt64]; omega
  refine ⟨fun z => ?_, fun z => ?_⟩
  · have z2 := (lg_cmp_lt _ _).mp z
    rw [Int64.lt_iff_toInt_lt, es, show (-2147483648 : Int64).toInt = -2147483648 by decide] at z2
    omega
  · have z2 := (lg_cmp_gt _ _).mp z
    rw [Int64.lt_iff_toInt_lt, es, show (2147483647 : Int64).toInt = 2147483647 by decide] at z2
    omega
theorem i2d_z (x : Int32) : zv (FP.i2d x) = x.toInt * (FP.Core.one64 : Int) := FP.Core.DInt_zval (FP.Core.i2d_int x)
theorem i2d_n (x : Int32) : FP.Core.val64 (FP.i2d x) ≠ .nan := (FP.Core.i2d_fin x).ne_nan
theorem fp_i2d2 (x : Int32) : isNaN64 (FP.i2d x) = false := nan64_F' (i2d_n x)
theorem fp_lt2 (x y : Int32) : (¬ nI 0 ≤ Op.cmpValue (FP.dcmp (FP.i2d x) (FP.i2d y)) .g) ↔ ¬ nI 0 ≤ lg_cmp x.toInt64 y.toInt64 := by
  have h1 := cv_0le (i2d_n x) (i2d_n y) .g
  have h2 := lg_cmp_ge x.toInt64 y.toInt64
  rw [i2d_z, i2d_z] at h1
  rw [Int64.le_iff_toInt_le, Int32.toInt_toInt64, Int32.toInt_toInt64] at h2
  have h3 : y.toInt * (FP.Core.one64 : Int) ≤ x.toInt * (FP.Core.one64 : Int) ↔ y.toInt ≤ x.toInt := by
    have hp : (0 : Int) < (FP.Core.one64 : Int) := by have := FP.Core.one64_pos; omega
    exact ⟨fun z => Int.le_of_mul_le_mul_right z hp, fun z => Int.mul_le_mul_of_nonneg_right z (Int.le_of_lt hp)⟩
  exact not_congr (h1.trans (h3.trans h2.symm))
/-! the rest of a division -/
theorem r131 {x0 l : UInt64} (h : FP.Core.val64 x0 ≠ .nan) (M : Mem) : d_X4_rest_131 x0 l M = some (if 0 ≤ zv x0 then l else FP.dneg l, M) := by
  have hc := cv_0le h v0n .g
  rw [zv0] at hc
  unfold d_X4_rest_131
  by_cases c : 0 ≤ zv x0
  · rw [if_pos (hc.mpr c), if_pos c]
  · rw [if_neg (fun z => c (hc.mp z)), if_neg c]
/-- the greatest doublings of the divisor are taken away -/
theorem r81 {x0 D : UInt64} {d : Nat} (h : FP.Core.val64 x0 ≠ .nan) (hD : NN D d) (hd : 0 < d) (M : Mem) : ∀ (K i N : Nat) (l part : UInt64) (m r : Nat), NN l m → NN part (d * 2 ^ K) → m < 2 * (d * 2 ^ K) → m % d = r → i + K + 1 < 3000 → K + 1 < N → ∃ l2, NN l2 r ∧ d_X4_rest_81 x0 D N (l, part, nI i) M = d_X4_rest_131 x0 l2 M := by
  have key : ∀ (K i N : Nat) (l part : UInt64) (m r : Nat), NN l m → NN part (d * 2 ^ K) → m < 2 * (d * 2 ^ K) → m % d = r → i < 3000 → 0 < N → ∃ l2 m2, NN l2 m2 ∧ m2 < d * 2 ^ K ∧ m2 % d = r ∧ d_X4_rest_81 x0 D N (l, part, nI i) M = d_X4_rest_81 x0 D (N - 1) (l2, FP.ddiv part (4611686018427387904 : UInt64), nI (i + 1)) M := by
    intro K i N l part m r hl hp hm hr hi hN
    obtain ⟨n, rfl, -⟩ := ex_pred hN
    have h2 : d ≤ d * 2 ^ K := Nat.le_mul_of_pos_right _ (Nat.two_pow_pos K)
    have ei : nI i + (1 : Int32) = nI (i + 1) := by rw [l_1, qadd]
    rw [show d_X4_rest_81 x0 D (n + 1) (l, part, nI i) M = d_X4_rest_81b (d_X4_rest_81 x0 D n) x0 l D part (nI i) M from id rfl]
    unfold d_X4_rest_81b d_X4_rest_115
    rw [if_neg (show ¬ (3000 : Int32) ≤ nI i by rw [l_3000]; exact of_eq_false (qleF hi (by omega))), if_neg (fun z => by
      have := (cv_lt0 hp.ok hD.ok .l).mp z
      rw [hp.z, hD.z] at this
      omega)]
    simp only [bnd_eq]
    rw [ei, Nat.add_sub_cancel]
    by_cases c : m < d * 2 ^ K
    · rw [if_pos ((cv_lt0 hl.ok hp.ok .l).mpr (by rw [hl.z, hp.z]; omega))]
      exact ⟨l, m, hl, c, hr, rfl⟩
    · rw [if_neg (fun z => by
        have := (cv_lt0 hl.ok hp.ok .l).mp z
        rw [hl.z, hp.z] at this
        omega)]
      refine ⟨FP.dsub l part, m - d * 2 ^ K, nn_sub hl hp (by omega) (by omega), by omega, ?_, rfl⟩
      rw [← hr]
      have e : m = m - d * 2 ^ K + d * 2 ^ K := by omega
      conv => rhs; rw [e]
      rw [Nat.add_mul_mod_self_left]
  intro K
  induction K with
  | zero =>
    intro i N l part m r hl hp hm hr hi hN
    obtain ⟨l2, m2, k1, k2, k3, k4⟩ := key 0 i N l part m r hl hp hm hr (by omega) (by omega)
    obtain ⟨n, e, hn⟩ := ex_pred (show 0 < N - 1 by omega)
    refine ⟨l2, ?_, ?_⟩
    · rw [Nat.pow_zero, Nat.mul_one] at k2
      rw [Nat.mod_eq_of_lt k2] at k3
      rw [← k3]; exact k1
    · rw [k4, e, show d_X4_rest_81 x0 D (n + 1) (l2, FP.ddiv part (4611686018427387904 : UInt64), nI (i + 1)) M = d_X4_rest_81b (d_X4_rest_81 x0 D n) x0 l2 D (FP.ddiv part (4611686018427387904 : UInt64)) (nI (i + 1)) M from id rfl]
      unfold d_X4_rest_81b
      obtain ⟨q1, q2⟩ := half_ok hp
      have q3 := half_lt hp (by rw [Nat.pow_zero, Nat.mul_one]; exact hd)
      have q4 : zv (FP.ddiv part (4611686018427387904 : UInt64)) = (vm (FP.ddiv part (4611686018427387904 : UInt64)) : Int) := by
        show FP.Core.signed (vsg _) (vm _) = _
        rw [q2]; rfl
      rw [if_neg (show ¬ (3000 : Int32) ≤ nI (i + 1) by rw [l_3000]; exact of_eq_false (qleF (by omega) (by omega))), if_pos ((cv_lt0 q1 hD.ok .l).mpr (by rw [q4, hD.z]; rw [Nat.pow_zero, Nat.mul_one] at q3; omega))]
  | succ K ih =>
    intro i N l part m r hl hp hm hr hi hN
    obtain ⟨l2, m2, k1, k2, k3, k4⟩ := key (K + 1) i N l part m r hl hp hm hr (by omega) (by omega)
    have e2 : d * 2 ^ (K + 1) = 2 * (d * 2 ^ K) := by rw [Nat.pow_succ]; ac_rfl
    rw [e2] at hp k2
    have hh := nn_half hp (Nat.mul_pos hd (Nat.two_pow_pos K))
    obtain ⟨l3, u1, u2⟩ := ih (i + 1) (N - 1) l2 _ m2 r k1 hh k2 k3 (by omega) (by omega)
    exact ⟨l3, u1, k4.trans u2⟩
theorem r45 {x0 A D : UInt64} {m d : Nat} (hA : NN A m) (hd : 0 < d) (M : Mem) : ∀ (j k N : Nat) (part : UInt64), NN part (d * 2 ^ k) → d * 2 ^ k ≤ m → m < d * 2 ^ (k + j) → k + j < 2900 → j < N → ∃ K part2, K < 2900 ∧ NN part2 (d * 2 ^ K) ∧ m < 2 * (d * 2 ^ K) ∧ d_X4_rest_45 x0 A D N (part, nI k) M = d_X4_rest_78 x0 A D part2 M := by
  intro j
  induction j with
  | zero => intro k N part _ h1 h2; exact absurd h1 (by rw [Nat.add_zero] at h2; omega)
  | succ j ih =>
    intro k N part hp h1 h2 hk hN
    obtain ⟨n, rfl, hn⟩ := ex_pred hN
    have ei : nI k + (1 : Int32) = nI (k + 1) := by rw [l_1, qadd]
    have e2 : d * 2 ^ (k + 1) = 2 * (d * 2 ^ k) := by rw [Nat.pow_succ]; ac_rfl
    have hpos : 0 < d * 2 ^ k := Nat.mul_pos hd (Nat.two_pow_pos k)
    have hsn : FP.Core.val64 (FP.dsub A part) ≠ .nan := (FP.Core.notNaN_iff _).mp (FP.Core.dsub_out hA.1.notNaN hp.1)
    rw [show d_X4_rest_45 x0 A D (n + 1) (part, nI k) M = d_X4_rest_45b (d_X4_rest_45 x0 A D n) x0 A D part (nI k) M from id rfl]
    unfold d_X4_rest_45b
    rw [if_neg (show ¬ (3000 : Int32) ≤ nI k by rw [l_3000]; exact of_eq_false (qleF (by omega) (by omega)))]
    by_cases c : m < 2 * (d * 2 ^ k)
    · have hs := nn_sub hA hp h1 (by omega)
      rw [if_pos ((cv_0lt hp.ok hsn .g).mpr (by rw [hp.z, hs.z]; omega))]
      exact ⟨k, part, by omega, hp, c, rfl⟩
    · have hg := dsub_ge hA.1 hp.1 hp.ok (show zv part ≤ zv A - zv part by rw [hA.z, hp.z]; omega)
      rw [if_neg (fun z => by
        have := (cv_0lt hp.ok hsn .g).mp z
        omega)]
      simp only [bnd_eq]
      rw [ei]
      have hlt := fin_lt hA.1
      rw [hA.2.2] at hlt
      have hdb := nn_dbl hp hpos (by omega)
      rw [← e2] at hdb
      exact ih (k + 1) n _ hdb (by omega) (by rw [show k + 1 + j = k + (j + 1) by omega]; exact h2) (by omega) (by omega)
theorem fp_rest2 {a b : UInt64} (ha' : isNaN64 a = false) (hb' : isNaN64 b = false) (h : isNaN64 (FP.drem a b) = false) (M : Mem) : d_X4_rest a b M = some (FP.drem a b, M) := by
  have ha := nan64_F ha'
  have hb := nan64_F hb'
  have hr := nan64_F h
  have hnr : ¬ (FP.Core.dIsNaN (FP.Core.drem a b) = true) := by
    rw [FP.Core.dIsNaN_iff]; exact hr
  rw [FP.Core.drem_nan_iff] at hnr
  have hfa : FP.Core.DFin a := (fin_or ha).resolve_right (fun z => hnr (.inr (.inr (.inl z))))
  have hzb : ¬ FP.Core.DZero b := fun z => hnr (.inr (.inr (.inr z)))
  obtain ⟨s1, s2, s3⟩ := FP.Core.drem_zval hfa hb hzb
  have c0 := cv_0le ha v0n .g
  rw [zv0] at c0
  have d0 := cv_0le hb v0n .g
  rw [zv0] at d0
  -- the divisor without its sign
  have hdiv : ∀ X : UInt64, d_X4_rest_12 a b X M = d_X4_rest_26 a X (if 0 ≤ zv b then b else FP.dneg b) M := fun X => by
    unfold d_X4_rest_12
    by_cases c : 0 ≤ zv b
    · rw [if_pos (d0.mpr c), if_pos c]
    · rw [if_neg (fun z => c (d0.mp z)), if_neg c]
  have hst : d_X4_rest a b M = d_X4_rest_26 a (if 0 ≤ zv a then a else FP.dneg a) (if 0 ≤ zv b then b else FP.dneg b) M := by
    unfold d_X4_rest
    by_cases c : 0 ≤ zv a
    · rw [if_pos (c0.mpr c), if_pos c, hdiv]
    · rw [if_neg (fun z => c (c0.mp z)), if_neg c, hdiv]
  rw [hst]
  have hbpos : 0 < vm b := by
    rcases Nat.eq_zero_or_pos (vm b) with z | z
    · exact absurd ((z_zero hb).mp (by show FP.Core.signed (vsg b) (vm b) = 0; rw [z, FP.Core.signed_zero])) hzb
    · exact z
  -- the divisor's units
  have hDz : FP.Core.val64 (if 0 ≤ zv b then b else FP.dneg b) ≠ .nan ∧ zv (if 0 ≤ zv b then b else FP.dneg b) = (vm b : Int) := by
    obtain ⟨n1, n2, n3, n4⟩ := neg_v b hb
    have zb : zv b = FP.Core.signed (vsg b) (vm b) := rfl
    by_cases c : 0 ≤ zv b
    · rw [if_pos c]
      refine ⟨hb, ?_⟩
      rw [zb] at c ⊢
      cases e : vsg b
      · rfl
      · rw [e] at c; simp only [FP.Core.signed, if_true] at c; omega
    · rw [if_neg c]
      refine ⟨n1, ?_⟩
      show FP.Core.signed (vsg (FP.dneg b)) (vm (FP.dneg b)) = _
      rw [n4, n2]
      rw [zb] at c
      cases e : vsg b
      · rw [e] at c; simp only [FP.Core.signed, Bool.false_eq_true, if_false] at c; omega
      · rfl
  have same : vm a < vm b → FP.drem a b = a := fun hlt => bits_ext s1 ha s2 (s3.trans (Nat.mod_eq_of_lt hlt))
  rcases Nat.eq_zero_or_pos (vm a) with h0 | h0
  · -- the dividend is a zero
    have za : zv a = 0 := by show FP.Core.signed (vsg a) (vm a) = 0; rw [h0, FP.Core.signed_zero]
    rw [if_pos (show 0 ≤ zv a by omega)]
    unfold d_X4_rest_26
    rw [if_neg (fun z => by
      have := (cv_0le ha hDz.1 .g).mp z
      rw [hDz.2, za] at this
      omega), same (by omega)]
  · have hA := abs_v hfa h0
    generalize hAe : (if 0 ≤ zv a then a else FP.dneg a) = A at hA
    by_cases hlt : vm a < vm b
    · unfold d_X4_rest_26
      rw [if_neg (fun z => by
        have := (cv_0le hA.ok hDz.1 .g).mp z
        rw [hDz.2, hA.z] at this
        omega), same hlt]
    · have hfb : FP.Core.DFin b := (fin_or hb).resolve_right (fun ⟨s, z⟩ => by
        have := (inf_vm z).1
        have := fin_lt hfa
        omega)
      have hD := abs_v hfb hbpos
      generalize hDe : (if 0 ≤ zv b then b else FP.dneg b) = D at hD hDz
      unfold d_X4_rest_26
      rw [if_pos ((cv_0le hA.ok hD.ok .g).mpr (by rw [hA.z, hD.z]; omega))]
      have hfb := fuel_big
      have hbig : vm a < vm b * 2 ^ (0 + 2098) := by
        have := fin_lt hfa
        calc vm a < 2 ^ 2098 := this
          _ ≤ vm b * 2 ^ 2098 := Nat.le_mul_of_pos_left _ hbpos
          _ = vm b * 2 ^ (0 + 2098) := by rw [Nat.zero_add]
      obtain ⟨K, part2, k1, k2, k3, k4⟩ := r45 (x0 := a) (D := D) hA hbpos M 2098 0 fuel D (by rw [Nat.pow_zero, Nat.mul_one]; exact hD) (by rw [Nat.pow_zero, Nat.mul_one]; omega) hbig (by omega) (by omega)
      have k4' : d_X4_rest_45 a A D fuel (D, (0 : Int32)) M = d_X4_rest_78 a A D part2 M := k4
      rw [k4']
      unfold d_X4_rest_78
      obtain ⟨l2, u1, u2⟩ := r81 (x0 := a) ha hD hbpos M K 0 fuel A part2 (vm a) (vm a % vm b) hA k2 k3 rfl (by omega) (by omega)
      rw [show d_X4_rest_81 a D fuel (A, part2, (0 : Int32)) M = d_X4_rest_131 a l2 M from u2, r131 ha]
      have e : (if 0 ≤ zv a then l2 else FP.dneg l2) = FP.drem a b := by
        have za : zv a = FP.Core.signed (vsg a) (vm a) := rfl
        by_cases c : 0 ≤ zv a
        · rw [if_pos c]
          refine bits_ext u1.ok s1 (u1.2.1.trans ?_) (u1.2.2.trans s3.symm)
          rw [za] at c
          have : vsg a = false := by
            cases e : vsg a
            · rfl
            · rw [e] at c; simp only [FP.Core.signed, if_true] at c; omega
          exact (s2.trans this).symm
        · rw [if_neg c]
          obtain ⟨n1, n2, n3, n4⟩ := neg_v l2 u1.ok
          refine bits_ext n1 s1 (n4.trans ?_) (n2.trans (u1.2.2.trans s3.symm))
          rw [za] at c
          have : vsg a = true := by
            cases e : vsg a
            · rw [e] at c; simp only [FP.Core.signed, Bool.false_eq_true, if_false] at c; omega
            · rfl
          rw [u1.2.1]
          exact (s2.trans this).symm
      rw [e]
end MF2
