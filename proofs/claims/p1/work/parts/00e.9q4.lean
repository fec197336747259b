/-! ===== both machines ended alike ===== -/
section MY4
/-- one place of both machines alike -/
def PLK (N : Mem) (p : Nat) : Prop := mI N 20 p = mI N 30 p ∧ mI N 21 p = mI N 31 p ∧ mD N 22 p = mD N 32 p ∧ isNaN64 (mD N 22 p) = false
theorem cmp_self {r : UInt64} (h : isNaN64 r = false) : Op.cmpValue (FP.dcmp r r) .l = 0 := by
  have e : FP.dcmp r r = some .eq := FP.Core.dcmp_self (a := r) (fun z => by rw [← xnan_iff] at z; rw [h] at z; cases z)
  rw [e]; rfl
theorem neg_some (x : UInt64) (N : Mem) : ∃ v, d_X4_isNegative x N = some (v, N) := by
  unfold d_X4_isNegative
  by_cases c1 : (Op.cmpValue (FP.dcmp x FP.dconst0) .g) < 0
  · exact ⟨_, if_pos c1⟩
  · rw [if_neg c1]
    by_cases c2 : (Op.cmpValue (FP.dcmp x FP.dconst0) .l) = 0
    · rw [if_pos c2]
      by_cases c3 : 0 ≤ (Op.cmpValue (FP.dcmp (FP.ddiv FP.dconst1 x) FP.dconst0) .g)
      · exact ⟨_, if_pos c3⟩
      · exact ⟨_, if_neg c3⟩
    · exact ⟨_, if_neg c2⟩
theorem is_same {N : Mem} {p : Nat} (hp : p < 549) (h : PLK N p) : d_X8_isSame (nI p) N = some (nI 1, N) := by
  obtain ⟨h1, h2, h3, h4⟩ := h
  have hv : vp_in (nI p) 549 := of_eq_true (qinT hp (by omega))
  have hc : (nI p).toNatClampNeg = p := qcl (by omega)
  obtain ⟨v, e⟩ := neg_some (mD N 22 p) N
  unfold d_X8_isSame
  rw [hc, okk_pos hv, okk_pos hv, if_pos h1, okk_pos hv, okk_pos hv, if_pos h2, okk_pos hv, okk_pos hv, ← h3, if_pos (cmp_self h4), okk_pos hv, e]
  simp only [obind]
  rw [okk_pos hv, ← h3, e]
  simp only [obind]
  exact if_pos trivial
theorem n1z : ¬ nI 1 = (0 : Int32) := by decide
theorem told_l {N : Mem} {n : Nat} (h11 : mI N 18 11 = nI n) (hn : n ≤ 20) (hp : ∀ i, i < n → PLK N (528 + i)) : ∀ (j i NC : Nat), n = i + j → j < NC → d_X3_hasToldLike_19 NC (nI 1, nI i) N = some (nI 1, N) := by
  intro j
  induction j with
  | zero =>
    intro i NC hi hN
    obtain ⟨m, rfl⟩ : ∃ m, NC = m + 1 := ⟨NC - 1, by omega⟩
    rw [st_X3_hasToldLike_19]
    unfold d_X3_hasToldLike_19b
    rw [h11, if_pos (of_eq_true (qleT (by omega) (by omega))), okk_pos (.inr rfl)]
  | succ j ih =>
    intro i NC hi hN
    obtain ⟨m, rfl⟩ : ∃ m, NC = m + 1 := ⟨NC - 1, by omega⟩
    rw [st_X3_hasToldLike_19]
    unfold d_X3_hasToldLike_19b
    have e1 : (528 : Int32) + nI i = nI (528 + i) := by rw [l_528, qadd]
    have e2 : nI i + (1 : Int32) = nI (i + 1) := by rw [l_1, qadd]
    rw [h11, if_neg (of_eq_false (qleF (by omega) (by omega))), if_neg n1z, e1, is_same (by omega) (hp i (by omega))]
    simp only [obind]
    rw [if_neg n1z]
    unfold d_X3_hasToldLike_55
    rw [bnd_eq, e2]
    exact ih (i + 1) m (by omega) (by omega)
theorem told_like {N : Mem} {n : Nat} (h11 : mI N 18 11 = nI n) (h28 : mI N 28 11 = nI n) (hn : n ≤ 20) (hp : ∀ i, i < n → PLK N (528 + i)) : d_X3_hasToldLike N = some (nI 1, N) := by
  unfold d_X3_hasToldLike d_X3_hasToldLike_16
  rw [if_pos (h11.trans h28.symm)]
  exact told_l h11 hn hp n 0 fuel (by omega) (by have := fuel_big; omega)
theorem flds_l {N : Mem} {k s : Nat} (hk : k < 60) (h27 : mI N 27 k = nI s) (hs : s < 60) (hp : ∀ n, n < 6 → PLK N (168 + 6 * k + n)) : ∀ (j i NC : Nat), 6 = i + j → j < NC → d_X3_hasFieldsLike_5 (nI k) NC (nI 1, nI i) N = some (nI 1, N) := by
  intro j
  have hv : vp_in (nI k) 60 := of_eq_true (qinT hk (by omega))
  have hc : (nI k).toNatClampNeg = k := qcl (by omega)
  induction j with
  | zero =>
    intro i NC hi hN
    obtain ⟨m, rfl⟩ : ∃ m, NC = m + 1 := ⟨NC - 1, by omega⟩
    rw [st_X3_hasFieldsLike_5]
    unfold d_X3_hasFieldsLike_5b
    rw [l_6, if_pos (of_eq_true (qleT (by omega) (by omega))), okk_pos (.inr rfl)]
  | succ j ih =>
    intro i NC hi hN
    obtain ⟨m, rfl⟩ : ∃ m, NC = m + 1 := ⟨NC - 1, by omega⟩
    rw [st_X3_hasFieldsLike_5]
    unfold d_X3_hasFieldsLike_5b
    have e1 : (168 : Int32) + nI k * (6 : Int32) + nI i = nI (168 + 6 * k + i) := by rw [l_168, l_6, qmul, qadd, qadd, Nat.mul_comm]
    have e2 : nI i + (1 : Int32) = nI (i + 1) := by rw [l_1, qadd]
    rw [if_neg (show ¬ (6 : Int32) ≤ nI i by rw [l_6]; exact of_eq_false (qleF (by omega) (by omega))), okk_pos hv, hc, h27, c_has hs]
    simp only [obind]
    by_cases q : hM N s i
    · rw [pBT q, if_neg n1z, if_neg n1z]
      unfold d_X11_fieldPlace
      simp only [obind]
      rw [e1, is_same (by omega) (hp i (by omega))]
      simp only [obind]
      rw [if_neg n1z]
      unfold d_X3_hasFieldsLike_59 d_X3_hasFieldsLike_60
      rw [bnd_eq, e2]
      exact ih (i + 1) m (by omega) (by omega)
    · rw [pBF q, if_pos (show nI 0 = (0 : Int32) from rfl)]
      unfold d_X3_hasFieldsLike_60
      rw [bnd_eq, e2]
      exact ih (i + 1) m (by omega) (by omega)
theorem objs_l {N : Mem} {n : Nat} (h10 : mI N 18 10 = nI n) (hn : n ≤ 60) (h27 : ∀ k, k < n → mI N 27 k = mI N 37 k ∧ ∃ s, s < 60 ∧ mI N 27 k = nI s) (hp : ∀ q, q < 360 → PLK N (168 + q)) : ∀ (j i NC : Nat), n = i + j → j < NC → d_X3_hasObjectsLike_19 NC (nI 1, nI i) N = some (nI 1, N) := by
  intro j
  induction j with
  | zero =>
    intro i NC hi hN
    obtain ⟨m, rfl⟩ : ∃ m, NC = m + 1 := ⟨NC - 1, by omega⟩
    rw [st_X3_hasObjectsLike_19]
    unfold d_X3_hasObjectsLike_19b
    rw [h10, if_pos (of_eq_true (qleT (by omega) (by omega))), okk_pos (.inr rfl)]
  | succ j ih =>
    intro i NC hi hN
    obtain ⟨m, rfl⟩ : ∃ m, NC = m + 1 := ⟨NC - 1, by omega⟩
    have hv : vp_in (nI i) 60 := of_eq_true (qinT (by omega) (by omega))
    have hc : (nI i).toNatClampNeg = i := qcl (by omega)
    obtain ⟨e27, s, hs, es⟩ := h27 i (by omega)
    have hf : d_X3_hasFieldsLike (nI i) N = some (nI 1, N) := by
      unfold d_X3_hasFieldsLike
      exact flds_l (by omega) es hs (fun q hq => by
        have := hp (6 * i + q) (by omega)
        rw [← Nat.add_assoc] at this
        exact this) 6 0 fuel (by omega) (by have := fuel_big; omega)
    have e2 : nI i + (1 : Int32) = nI (i + 1) := by rw [l_1, qadd]
    rw [st_X3_hasObjectsLike_19]
    unfold d_X3_hasObjectsLike_19b
    rw [h10, if_neg (of_eq_false (qleF (by omega) (by omega))), if_neg n1z, okk_pos hv, okk_pos hv, hc, if_pos e27, hf]
    simp only [obind]
    rw [if_neg n1z]
    unfold d_X3_hasObjectsLike_60
    rw [bnd_eq, e2]
    exact ih (i + 1) m (by omega) (by omega)
theorem objs_like {N : Mem} {n : Nat} (h10 : mI N 18 10 = nI n) (h28 : mI N 28 10 = nI n) (hn : n ≤ 60) (h27 : ∀ k, k < n → mI N 27 k = mI N 37 k ∧ ∃ s, s < 60 ∧ mI N 27 k = nI s) (hp : ∀ q, q < 360 → PLK N (168 + q)) : d_X3_hasObjectsLike N = some (nI 1, N) := by
  unfold d_X3_hasObjectsLike d_X3_hasObjectsLike_16
  rw [if_pos (h10.trans h28.symm)]
  exact objs_l h10 hn h27 hp n 0 fuel (by omega) (by have := fuel_big; omega)
/-- .. and so the run agrees with the plain one -/
theorem ended_like {N : Mem} {n k : Nat} (h13 : mI N 18 13 = mI N 28 13) (h14 : mI N 18 14 = mI N 28 14) (h15 : mI N 18 15 = mI N 28 15) (h12 : mI N 18 12 = mI N 28 12) (h11 : mI N 18 11 = nI n) (h11' : mI N 28 11 = nI n) (hn : n ≤ 20) (h10 : mI N 18 10 = nI k) (h10' : mI N 28 10 = nI k) (hk : k ≤ 60) (h27 : ∀ q, q < k → mI N 27 q = mI N 37 q ∧ ∃ s, s < 60 ∧ mI N 27 q = nI s) (hp : ∀ q, 168 ≤ q → q < 549 → PLK N q) : d_X3_endedLike N = some (nI 1, N) := by
  have t1 := told_like h11 h11' hn (fun i hi => hp _ (by omega) (by omega))
  have t2 := objs_like h10 h10' hk h27 (fun q hq => hp _ (by omega) (by omega))
  have t3 : d_X3_endedLike_70 N = some (nI 1, N) := by
    unfold d_X3_endedLike_70
    rw [t1]
    simp only [obind]
    rw [if_neg n1z, t2]
    simp only [obind]
    rw [if_neg n1z]
    rfl
  have t4 : d_X8_isSame (548 : Int32) N = some (nI 1, N) := by
    rw [l_548]
    exact is_same (p := 548) (by omega) (hp 548 (by omega) (by omega))
  unfold d_X3_endedLike
  rw [if_pos h13, if_pos h14, if_pos h15, if_pos h12]
  by_cases c : mI N 18 13 = (118 : Int32)
  · rw [if_pos c, t4]
    simp only [obind]
    rw [if_neg n1z]
    exact t3
  · rw [if_neg c]
    exact t3
theorem vr_plk {k v k2 v2 k' n : Int32} {r r2 x : UInt64} (h : Vr k v r k' n x) (h2 : Vr k2 v2 r2 k' n x) : k = k2 ∧ v = v2 ∧ r = r2 ∧ isNaN64 r = false := by
  have z : isNaN64 FP.dconst0 = false := by decide
  obtain ⟨e, h⟩ := h
  obtain ⟨e2, h2⟩ := h2
  refine ⟨e.trans e2.symm, ?_⟩
  rcases h with ⟨a1, a2, a3, a4⟩ | ⟨a1, a2, a3⟩
  · rcases h2 with ⟨b1, b2, b3, b4⟩ | ⟨b1, b2, b3⟩
    · exact ⟨a2.trans b2.symm, a3.trans b3.symm, by rw [a3]; exact z⟩
    · exact absurd b1 a1
  · rcases h2 with ⟨b1, b2, b3, b4⟩ | ⟨b1, b2, b3⟩
    · exact absurd a1 b1
    · rcases a3 with ⟨c1, c2, c3⟩ | ⟨c1, c2, c3⟩
      · rcases b3 with ⟨d1, d2, d3⟩ | ⟨d1, d2, d3⟩
        · exact ⟨c1.trans d1.symm, c2.trans d2.symm, by rw [c2]; exact c3⟩
        · rw [c3] at d3; cases d3
      · rcases b3 with ⟨d1, d2, d3⟩ | ⟨d1, d2, d3⟩
        · rw [c3] at d3; cases d3
        · exact ⟨c1.trans d1.symm, c2.trans d2.symm, by rw [c2]; exact z⟩
theorem cnan {x y : UInt64} (e : bitsV x = bitsV y) (hx : isNaN64 x = true) (hy : ¬ isNaN64 y = true) : isNaN64 y = true := by
  unfold bitsV at e
  rw [if_pos hx, if_neg hy] at e
  have e2 : y = 9221120237041090560 := (congrArg Int64.toUInt64 e).symm
  rw [e2]
  decide
/-- a told value: its kind and bits tell the cell -/
theorem lr_plk {k v k2 v2 k' : Int32} {r r2 : UInt64} {l : Int64} (h : Lr k v r k' l) (h2 : Lr k2 v2 r2 k' l) : k = k2 ∧ v = v2 ∧ r = r2 ∧ isNaN64 r = false := by
  obtain ⟨n, x, a1, a2, a3, -⟩ := h
  obtain ⟨m, y, b1, b2, b3, -⟩ := h2
  by_cases c2 : k' = nI 102
  · have e : bitsV x = bitsV y := by
      have e1 : ∀ n x, tolV k' n x = bitsV x := fun n x => by
        unfold tolV
        rw [if_neg (by rw [c2]; decide), if_pos c2]
      rw [← e1 n x, ← e1 m y]
      exact a2.symm.trans b2
    have e0 : n = m := by
      rw [c2] at a1 b1
      exact a1.flt.2.1.trans b1.flt.2.1.symm
    subst e0
    by_cases hx : isNaN64 x = true
    · by_cases hy : isNaN64 y = true
      · -- both not a number: the cells are the mark
        subst c2
        obtain ⟨q1, q2, q3⟩ := a1.flt
        obtain ⟨u1, u2, u3⟩ := b1.flt
        rcases q3 with ⟨f1, f2, f3⟩ | ⟨f1, f2, f3⟩
        · rw [hx] at f3; cases f3
        · rcases u3 with ⟨g1, g2, g3⟩ | ⟨g1, g2, g3⟩
          · rw [hy] at g3; cases g3
          · exact ⟨q1.trans u1.symm, f1.trans g1.symm, f2.trans g2.symm, by rw [f2]; decide⟩
      · exact absurd (cnan e hx hy) hy
    · by_cases hy : isNaN64 y = true
      · exact absurd (cnan e.symm hy hx) hx
      · have exy : x = y := by
          unfold bitsV at e
          rw [if_neg hx, if_neg hy] at e
          exact congrArg Int64.toUInt64 e
        subst exy
        exact vr_plk a1 b1
  · have hx : x = FP.dconst0 ∧ y = FP.dconst0 := by
      obtain ⟨-, a | a⟩ := a1
      · obtain ⟨-, b | b⟩ := b1
        · exact ⟨a.2.2.2, b.2.2.2⟩
        · exact absurd b.1 c2
      · exact absurd a.1 c2
    obtain ⟨rfl, rfl⟩ := hx
    have e : n = m := by
      by_cases c : k' = nI 105 ∨ k' = nI 111
      · have e1 : ∀ n, tolV k' n FP.dconst0 = n.toInt64 := fun n => by
          unfold tolV
          rw [if_pos c]
        have e2 : n.toInt64 = m.toInt64 := by rw [← e1 n, ← e1 m]; exact a2.symm.trans b2
        have e3 := congrArg Int64.toInt32 e2
        rw [Int32.toInt32_toInt64, Int32.toInt32_toInt64] at e3
        exact e3
      · have q1 : n = nI 0 := by
          rcases a3 with h | h | h | h
          · exact absurd (.inl h) c
          · exact absurd (.inr h) c
          · exact absurd h c2
          · exact h
        have q2 : m = nI 0 := by
          rcases b3 with h | h | h | h
          · exact absurd (.inl h) c
          · exact absurd (.inr h) c
          · exact absurd h c2
          · exact h
        rw [q1, q2]
    subst e
    exact vr_plk a1 b1
end MY4
