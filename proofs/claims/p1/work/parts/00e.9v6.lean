/-! ===== a run leaves what was thrown ===== -/
section MV6A
abbrev pRZ (a j : Nat) : Prop := a = 69 ∧ j = 0
theorem fz_X12_isPair {x0 : Int32} {M : Mem} {z : Int32 × Mem} (h : d_X12_isPair x0 M = some z) : FrP pRZ M z.2 := by
  unfold d_X12_isPair at h
  rcases iteE h with h | h
  · skip
    rw [← Option.some.inj h]
    exact (FrP.refl M)
  · skip
    rcases iteE h with h | h
    · skip
      rw [← Option.some.inj h]
      exact (FrP.refl M)
    · skip
      rcases iteE h with h | h
      · skip
        rw [← Option.some.inj h]
        exact (FrP.refl M)
      · skip
        rcases iteE h with h | h
        · skip
          rw [← Option.some.inj h]
          exact (FrP.refl M)
        · skip
          rcases iteE h with h | h
          · skip
            rw [← Option.some.inj h]
            exact (FrP.refl M)
          · skip
            rcases iteE h with h | h
            · skip
              rw [← Option.some.inj h]
              exact (FrP.refl M)
            · skip
              rcases iteE h with h | h
              · skip
                rw [← Option.some.inj h]
                exact (FrP.refl M)
              · skip
                rw [← Option.some.inj h]
                exact (FrP.refl M)
theorem fz_X12_newShape {x1 : Int32} {M : Mem} {z : Int32 × Mem} (h : d_X12_newShape x1 M = some z) : FrP pRZ M z.2 := by
  unfold d_X12_newShape at h
  obtain ⟨-, h⟩ := okE h
  obtain ⟨M1, e9, h⟩ := bndE h
  have f1 : FrP pRZ M M1 := by
    rw [e9]
    exact FrP.sI (FrP.refl M) (fun j y => by unfold pRZ at y; omega)
  clear e9
  obtain ⟨-, h⟩ := okE h
  obtain ⟨M2, e9, h⟩ := bndE h
  have f2 : FrP pRZ M M2 := by
    rw [e9]
    exact FrP.sI f1 (fun j y => by unfold pRZ at y; omega)
  clear e9
  obtain ⟨M3, e9, h⟩ := bndE h
  have f3 : FrP pRZ M M3 := by
    rw [e9]
    exact FrP.sI f2 (fun j y => by unfold pRZ at y; omega)
  clear e9
  rw [← Option.some.inj h]
  exact f3
theorem fz_X12_throwAway_39 {k2 : (Int32) → Mem → Option (Unit × Mem)} {x1 : Int32} {x2 : Int32} {s1 : Int32} {s2 : Int32} {M : Mem} {z : Unit × Mem} (hk2 : ∀ a M z, k2 a M = some z → FrP pRZ M z.2) (h : d_X12_throwAway_39 k2 x1 x2 s1 s2 M = some z) : FrP pRZ M z.2 := by
  unfold d_X12_throwAway_39 at h
  obtain ⟨-, h⟩ := okE h
  obtain ⟨-, h⟩ := okE h
  obtain ⟨M1, e9, h⟩ := bndE h
  have f1 : FrP pRZ M M1 := by
    rw [e9]
    exact FrP.sI (FrP.refl M) (fun j y => by unfold pRZ at y; omega)
  clear e9
  obtain ⟨b1, -, h⟩ := bndE h
  exact FrP.trans f1 (hk2 _ _ _ h)
theorem fz_X12_throwAway_38 {k2 : (Int32) → Mem → Option (Unit × Mem)} {x1 : Int32} {x2 : Int32} {s1 : Int32} {M : Mem} {z : Unit × Mem} (hk2 : ∀ a M z, k2 a M = some z → FrP pRZ M z.2) (h : d_X12_throwAway_38 k2 x1 x2 s1 M = some z) : FrP pRZ M z.2 := by
  unfold d_X12_throwAway_38 at h
  exact FrP.trans (FrP.refl M) (fz_X12_throwAway_39 hk2 h)
theorem fz_X12_throwAway_2b {k2 : (Int32) → Mem → Option (Unit × Mem)} {x1 : Int32} {x2 : Int32} {M : Mem} {z : Unit × Mem} (hk2 : ∀ a M z, k2 a M = some z → FrP pRZ M z.2) (h : d_X12_throwAway_2b k2 x1 x2 M = some z) : FrP pRZ M z.2 := by
  unfold d_X12_throwAway_2b at h
  rcases iteE h with h | h
  · skip
    obtain ⟨-, h⟩ := okE h
    obtain ⟨-, h⟩ := okE h
    obtain ⟨M1, e9, h⟩ := bndE h
    have f1 : FrP pRZ M M1 := by
      rw [e9]
      exact FrP.sI (FrP.refl M) (fun j y => by unfold pRZ at y; omega)
    clear e9
    rw [← Option.some.inj h]
    exact f1
  · skip
    obtain ⟨-, h⟩ := okE h
    rcases iteE h with h | h
    · skip
      exact FrP.trans (FrP.refl M) (fz_X12_throwAway_38 hk2 h)
    · skip
      obtain ⟨-, h⟩ := okE h
      rcases iteE h with h | h
      · skip
        exact FrP.trans (FrP.refl M) (fz_X12_throwAway_38 hk2 h)
      · skip
        exact FrP.trans (FrP.refl M) (fz_X12_throwAway_39 hk2 h)
theorem fz_X12_throwAway_2 {x1 : Int32} : ∀ n a M z, d_X12_throwAway_2 x1 n a M = some z → FrP pRZ M z.2 := lp_ind (G := fun _ M z => FrP pRZ M z.2) (fun k hk a M z h => fz_X12_throwAway_2b hk h)
theorem fz_X12_throwAway {x1 : Int32} {M : Mem} {z : Unit × Mem} (h : d_X12_throwAway x1 M = some z) : FrP pRZ M z.2 := by
  unfold d_X12_throwAway at h
  exact FrP.trans (FrP.refl M) (fz_X12_throwAway_2  _ _ _ _ h)
theorem fz_X12_size_32 {k4 : (Int32 × Int32) → Mem → Option (Int32 × Mem)} {x2 : Int32} {s0 : Int32} {s1 : Int32} {M : Mem} {z : Int32 × Mem} (hk4 : ∀ a M z, k4 a M = some z → FrP pRZ M z.2) (h : d_X12_size_32 k4 x2 s0 s1 M = some z) : FrP pRZ M z.2 := by
  unfold d_X12_size_32 at h
  obtain ⟨b1, -, h⟩ := bndE h
  obtain ⟨b2, -, h⟩ := bndE h
  exact FrP.trans (FrP.refl M) (hk4 _ _ _ h)
theorem fz_X12_size_4b {k4 : (Int32 × Int32) → Mem → Option (Int32 × Mem)} {x1 : Int32} {x2 : Int32} {M : Mem} {z : Int32 × Mem} (hk4 : ∀ a M z, k4 a M = some z → FrP pRZ M z.2) (h : d_X12_size_4b k4 x1 x2 M = some z) : FrP pRZ M z.2 := by
  unfold d_X12_size_4b at h
  rcases iteE h with h | h
  · skip
    rw [← Option.some.inj h]
    exact (FrP.refl M)
  · skip
    obtain ⟨-, h⟩ := okE h
    rcases iteE h with h | h
    · skip
      exact FrP.trans (FrP.refl M) (fz_X12_size_32 hk4 h)
    · skip
      obtain ⟨-, h⟩ := okE h
      exact FrP.trans (FrP.refl M) (fz_X12_size_32 hk4 h)
theorem fz_X12_size_4  : ∀ n a M z, d_X12_size_4  n a M = some z → FrP pRZ M z.2 := lp_ind (G := fun _ M z => FrP pRZ M z.2) (fun k hk a M z h => fz_X12_size_4b hk h)
theorem fz_X12_size {M : Mem} {z : Int32 × Mem} (h : d_X12_size M = some z) : FrP pRZ M z.2 := by
  unfold d_X12_size at h
  exact FrP.trans (FrP.refl M) (fz_X12_size_4  _ _ _ _ h)
theorem fz_X12_oldest_73 {k4 : (Int32 × Int32) → Mem → Option (Int32 × Mem)} {x1 : Int32} {x3 : Int32} {s0 : Int32} {M : Mem} {z : Int32 × Mem} (hk4 : ∀ a M z, k4 a M = some z → FrP pRZ M z.2) (h : d_X12_oldest_73 k4 x1 x3 s0 M = some z) : FrP pRZ M z.2 := by
  unfold d_X12_oldest_73 at h
  obtain ⟨b1, -, h⟩ := bndE h
  exact FrP.trans (FrP.refl M) (hk4 _ _ _ h)
theorem fz_X12_oldest_72 {k4 : (Int32 × Int32) → Mem → Option (Int32 × Mem)} {x1 : Int32} {x2 : Int32} {x3 : Int32} {M : Mem} {z : Int32 × Mem} (hk4 : ∀ a M z, k4 a M = some z → FrP pRZ M z.2) (h : d_X12_oldest_72 k4 x1 x2 x3 M = some z) : FrP pRZ M z.2 := by
  unfold d_X12_oldest_72 at h
  exact FrP.trans (FrP.refl M) (fz_X12_oldest_73 hk4 h)
theorem fz_X12_oldest_68 {k4 : (Int32 × Int32) → Mem → Option (Int32 × Mem)} {x1 : Int32} {x3 : Int32} {M : Mem} {z : Int32 × Mem} (hk4 : ∀ a M z, k4 a M = some z → FrP pRZ M z.2) (h : d_X12_oldest_68 k4 x1 x3 M = some z) : FrP pRZ M z.2 := by
  unfold d_X12_oldest_68 at h
  exact FrP.trans (FrP.refl M) (fz_X12_oldest_73 hk4 h)
theorem fz_X12_oldest_41 {k4 : (Int32 × Int32) → Mem → Option (Int32 × Mem)} {x1 : Int32} {x2 : Int32} {x3 : Int32} {s0 : Int32} {M : Mem} {z : Int32 × Mem} (hk4 : ∀ a M z, k4 a M = some z → FrP pRZ M z.2) (h : d_X12_oldest_41 k4 x1 x2 x3 s0 M = some z) : FrP pRZ M z.2 := by
  unfold d_X12_oldest_41 at h
  rcases iteE h with h | h
  · skip
    exact FrP.trans (FrP.refl M) (fz_X12_oldest_72 hk4 h)
  · skip
    rcases iteE h with h | h
    · skip
      exact FrP.trans (FrP.refl M) (fz_X12_oldest_68 hk4 h)
    · skip
      obtain ⟨-, h⟩ := okE h
      obtain ⟨-, h⟩ := okE h
      rcases iteE h with h | h
      · skip
        exact FrP.trans (FrP.refl M) (fz_X12_oldest_72 hk4 h)
      · skip
        exact FrP.trans (FrP.refl M) (fz_X12_oldest_68 hk4 h)
theorem fz_X12_oldest_40 {k4 : (Int32 × Int32) → Mem → Option (Int32 × Mem)} {x1 : Int32} {x2 : Int32} {x3 : Int32} {M : Mem} {z : Int32 × Mem} (hk4 : ∀ a M z, k4 a M = some z → FrP pRZ M z.2) (h : d_X12_oldest_40 k4 x1 x2 x3 M = some z) : FrP pRZ M z.2 := by
  unfold d_X12_oldest_40 at h
  exact FrP.trans (FrP.refl M) (fz_X12_oldest_41 hk4 h)
theorem fz_X12_oldest_4b {k4 : (Int32 × Int32) → Mem → Option (Int32 × Mem)} {x1 : Int32} {x2 : Int32} {x3 : Int32} {M : Mem} {z : Int32 × Mem} (hk4 : ∀ a M z, k4 a M = some z → FrP pRZ M z.2) (h : d_X12_oldest_4b k4 x1 x2 x3 M = some z) : FrP pRZ M z.2 := by
  unfold d_X12_oldest_4b at h
  rcases iteE h with h | h
  · skip
    rw [← Option.some.inj h]
    exact (FrP.refl M)
  · skip
    obtain ⟨-, h⟩ := okE h
    rcases iteE h with h | h
    · skip
      exact FrP.trans (FrP.refl M) (fz_X12_oldest_40 hk4 h)
    · skip
      obtain ⟨-, h⟩ := okE h
      rcases iteE h with h | h
      · skip
        rcases iteE h with h | h
        · skip
          exact FrP.trans (FrP.refl M) (fz_X12_oldest_40 hk4 h)
        · skip
          exact FrP.trans (FrP.refl M) (fz_X12_oldest_41 hk4 h)
      · skip
        exact FrP.trans (FrP.refl M) (fz_X12_oldest_40 hk4 h)
theorem fz_X12_oldest_4 {x1 : Int32} : ∀ n a M z, d_X12_oldest_4 x1 n a M = some z → FrP pRZ M z.2 := lp_ind (G := fun _ M z => FrP pRZ M z.2) (fun k hk a M z h => fz_X12_oldest_4b hk h)
theorem fz_X12_oldest {x1 : Int32} {M : Mem} {z : Int32 × Mem} (h : d_X12_oldest x1 M = some z) : FrP pRZ M z.2 := by
  unfold d_X12_oldest at h
  exact FrP.trans (FrP.refl M) (fz_X12_oldest_4  _ _ _ _ h)
theorem fz_X12_methodOf_2b {k2 : (Int32) → Mem → Option (Int32 × Mem)} {x2 : Int32} {x3 : Int32} {M : Mem} {z : Int32 × Mem} (hk2 : ∀ a M z, k2 a M = some z → FrP pRZ M z.2) (h : d_X12_methodOf_2b k2 x2 x3 M = some z) : FrP pRZ M z.2 := by
  unfold d_X12_methodOf_2b at h
  rcases iteE h with h | h
  · skip
    rw [← Option.some.inj h]
    exact (FrP.refl M)
  · skip
    obtain ⟨-, h⟩ := okE h
    rcases iteE h with h | h
    · skip
      obtain ⟨-, h⟩ := okE h
      obtain ⟨b1, -, h⟩ := bndE h
      exact FrP.trans (FrP.refl M) (hk2 _ _ _ h)
    · skip
      obtain ⟨-, h⟩ := okE h
      rw [← Option.some.inj h]
      exact (FrP.refl M)
theorem fz_X12_methodOf_2 {x2 : Int32} : ∀ n a M z, d_X12_methodOf_2 x2 n a M = some z → FrP pRZ M z.2 := lp_ind (G := fun _ M z => FrP pRZ M z.2) (fun k hk a M z h => fz_X12_methodOf_2b hk h)
theorem fz_X12_methodOf {x1 : Int32} {x2 : Int32} {M : Mem} {z : Int32 × Mem} (h : d_X12_methodOf x1 x2 M = some z) : FrP pRZ M z.2 := by
  unfold d_X12_methodOf at h
  exact FrP.trans (FrP.refl M) (fz_X12_methodOf_2  _ _ _ _ h)
theorem fz_X12_hasField_2b {k2 : (Int32) → Mem → Option (Int32 × Mem)} {x1 : Int32} {x2 : Int32} {x3 : Int32} {M : Mem} {z : Int32 × Mem} (hk2 : ∀ a M z, k2 a M = some z → FrP pRZ M z.2) (h : d_X12_hasField_2b k2 x1 x2 x3 M = some z) : FrP pRZ M z.2 := by
  unfold d_X12_hasField_2b at h
  obtain ⟨-, h⟩ := okE h
  rcases iteE h with h | h
  · skip
    rw [← Option.some.inj h]
    exact (FrP.refl M)
  · skip
    obtain ⟨-, h⟩ := okE h
    rcases iteE h with h | h
    · skip
      rw [← Option.some.inj h]
      exact (FrP.refl M)
    · skip
      obtain ⟨b1, -, h⟩ := bndE h
      exact FrP.trans (FrP.refl M) (hk2 _ _ _ h)
theorem fz_X12_hasField_2 {x1 : Int32} {x2 : Int32} : ∀ n a M z, d_X12_hasField_2 x1 x2 n a M = some z → FrP pRZ M z.2 := lp_ind (G := fun _ M z => FrP pRZ M z.2) (fun k hk a M z h => fz_X12_hasField_2b hk h)
theorem fz_X12_hasField {x1 : Int32} {x2 : Int32} {M : Mem} {z : Int32 × Mem} (h : d_X12_hasField x1 x2 M = some z) : FrP pRZ M z.2 := by
  unfold d_X12_hasField at h
  exact FrP.trans (FrP.refl M) (fz_X12_hasField_2  _ _ _ _ h)
theorem fz_X12_shapeBehind_124 {x1 : Int32} {x2 : Int32} {M : Mem} {z : Int32 × Mem} (h : d_X12_shapeBehind_124 x1 x2 M = some z) : FrP pRZ M z.2 := by
  unfold d_X12_shapeBehind_124 at h
  obtain ⟨-, h⟩ := okE h
  rw [← Option.some.inj h]
  exact (FrP.refl M)
theorem fz_X12_shapeBehind_40b {k40 : (Int32) → Mem → Option (Int32 × Mem)} {x1 : Int32} {x2 : Int32} {x3 : Int32} {x4 : Int32} {M : Mem} {z : Int32 × Mem} (hk40 : ∀ a M z, k40 a M = some z → FrP pRZ M z.2) (h : d_X12_shapeBehind_40b k40 x1 x2 x3 x4 M = some z) : FrP pRZ M z.2 := by
  unfold d_X12_shapeBehind_40b at h
  obtain ⟨-, h⟩ := okE h
  rcases iteE h with h | h
  · skip
    obtain ⟨-, h⟩ := okE h
    obtain ⟨-, h⟩ := okE h
    obtain ⟨M1, e9, h⟩ := bndE h
    have f1 : FrP pRZ M M1 := by
      rw [e9]
      exact FrP.sI (FrP.refl M) (fun j y => by unfold pRZ at y; omega)
    clear e9
    obtain ⟨-, h⟩ := okE h
    obtain ⟨-, h⟩ := okE h
    obtain ⟨M2, e9, h⟩ := bndE h
    have f2 : FrP pRZ M M2 := by
      rw [e9]
      exact FrP.sI f1 (fun j y => by unfold pRZ at y; omega)
    clear e9
    obtain ⟨-, h⟩ := okE h
    obtain ⟨M3, e9, h⟩ := bndE h
    have f3 : FrP pRZ M M3 := by
      rw [e9]
      exact FrP.sI f2 (fun j y => by unfold pRZ at y; omega)
    clear e9
    exact FrP.trans f3 (fz_X12_shapeBehind_124  h)
  · skip
    obtain ⟨-, h⟩ := okE h
    obtain ⟨-, h⟩ := okE h
    obtain ⟨M4, e9, h⟩ := bndE h
    have f4 : FrP pRZ M M4 := by
      rw [e9]
      exact FrP.sI (FrP.refl M) (fun j y => by unfold pRZ at y; omega)
    clear e9
    obtain ⟨b1, -, h⟩ := bndE h
    exact FrP.trans f4 (hk40 _ _ _ h)
theorem fz_X12_shapeBehind_40 {x1 : Int32} {x2 : Int32} {x3 : Int32} : ∀ n a M z, d_X12_shapeBehind_40 x1 x2 x3 n a M = some z → FrP pRZ M z.2 := lp_ind (G := fun _ M z => FrP pRZ M z.2) (fun k hk a M z h => fz_X12_shapeBehind_40b hk h)
theorem fz_X12_shapeBehind {x1 : Int32} {x2 : Int32} {M : Mem} {z : Int32 × Mem} (h : d_X12_shapeBehind x1 x2 M = some z) : FrP pRZ M z.2 := by
  unfold d_X12_shapeBehind at h
  obtain ⟨y1, e9, h⟩ := bindE h
  have f1 : FrP pRZ _ _ := FrP.trans (FrP.refl M) (fz_X12_hasField  e9)
  clear e9
  rcases iteE h with h | h
  · skip
    obtain ⟨-, h⟩ := okE h
    rcases iteE h with h | h
    · skip
      obtain ⟨-, h⟩ := okE h
      obtain ⟨y2, e9, h⟩ := bindE h
      have f2 : FrP pRZ _ _ := FrP.trans f1 (fz_X12_newShape  e9)
      clear e9
      exact FrP.trans f2 (fz_X12_shapeBehind_40  _ _ _ _ h)
    · skip
      exact FrP.trans f1 (fz_X12_shapeBehind_124  h)
  · skip
    rw [← Option.some.inj h]
    exact f1
theorem fz_X12_rootAt_41 {k2 : (Int32) → Mem → Option (Int32 × Mem)} {x1 : Int32} {x2 : Int32} {M : Mem} {z : Int32 × Mem} (hk2 : ∀ a M z, k2 a M = some z → FrP pRZ M z.2) (h : d_X12_rootAt_41 k2 x1 x2 M = some z) : FrP pRZ M z.2 := by
  unfold d_X12_rootAt_41 at h
  obtain ⟨b1, -, h⟩ := bndE h
  exact FrP.trans (FrP.refl M) (hk2 _ _ _ h)
theorem fz_X12_rootAt_2b {k2 : (Int32) → Mem → Option (Int32 × Mem)} {x1 : Int32} {x2 : Int32} {M : Mem} {z : Int32 × Mem} (hk2 : ∀ a M z, k2 a M = some z → FrP pRZ M z.2) (h : d_X12_rootAt_2b k2 x1 x2 M = some z) : FrP pRZ M z.2 := by
  unfold d_X12_rootAt_2b at h
  rcases iteE h with h | h
  · skip
    rw [← Option.some.inj h]
    exact (FrP.refl M)
  · skip
    obtain ⟨-, h⟩ := okE h
    rcases iteE h with h | h
    · skip
      exact FrP.trans (FrP.refl M) (fz_X12_rootAt_41 hk2 h)
    · skip
      obtain ⟨-, h⟩ := okE h
      rcases iteE h with h | h
      · skip
        obtain ⟨-, h⟩ := okE h
        rcases iteE h with h | h
        · skip
          rw [← Option.some.inj h]
          exact (FrP.refl M)
        · skip
          exact FrP.trans (FrP.refl M) (fz_X12_rootAt_41 hk2 h)
      · skip
        exact FrP.trans (FrP.refl M) (fz_X12_rootAt_41 hk2 h)
theorem fz_X12_rootAt_2 {x1 : Int32} : ∀ n a M z, d_X12_rootAt_2 x1 n a M = some z → FrP pRZ M z.2 := lp_ind (G := fun _ M z => FrP pRZ M z.2) (fun k hk a M z h => fz_X12_rootAt_2b hk h)
theorem fz_X12_rootAt {x1 : Int32} {M : Mem} {z : Int32 × Mem} (h : d_X12_rootAt x1 M = some z) : FrP pRZ M z.2 := by
  unfold d_X12_rootAt at h
  exact FrP.trans (FrP.refl M) (fz_X12_rootAt_2  _ _ _ _ h)
theorem fz_X12_enters {x1 : Int32} {M : Mem} {z : Unit × Mem} (h : d_X12_enters x1 M = some z) : FrP pRZ M z.2 := by
  unfold d_X12_enters at h
  obtain ⟨M1, e9, h⟩ := bndE h
  have f1 : FrP pRZ M M1 := by
    rw [e9]
    exact FrP.sI (FrP.refl M) (fun j y => by unfold pRZ at y; omega)
  clear e9
  obtain ⟨M2, e9, h⟩ := bndE h
  have f2 : FrP pRZ M M2 := by
    rw [e9]
    exact FrP.sI f1 (fun j y => by unfold pRZ at y; omega)
  clear e9
  obtain ⟨M3, e9, h⟩ := bndE h
  have f3 : FrP pRZ M M3 := by
    rw [e9]
    exact FrP.sI f2 (fun j y => by unfold pRZ at y; omega)
  clear e9
  obtain ⟨-, h⟩ := okE h
  obtain ⟨-, h⟩ := okE h
  obtain ⟨M4, e9, h⟩ := bndE h
  have f4 : FrP pRZ M M4 := by
    rw [e9]
    exact FrP.sI f3 (fun j y => by unfold pRZ at y; omega)
  clear e9
  obtain ⟨M5, e9, h⟩ := bndE h
  have f5 : FrP pRZ M M5 := by
    rw [e9]
    exact FrP.sI f4 (fun j y => by unfold pRZ at y; omega)
  clear e9
  obtain ⟨-, h⟩ := okE h
  obtain ⟨M6, e9, h⟩ := bndE h
  have f6 : FrP pRZ M M6 := by
    rw [e9]
    exact FrP.sI f5 (fun j y => by unfold pRZ at y; omega)
  clear e9
  rw [← Option.some.inj h]
  exact f6
theorem fz_X12_top {x1 : Int32} {M : Mem} {z : Int32 × Mem} (h : d_X12_top x1 M = some z) : FrP pRZ M z.2 := by
  unfold d_X12_top at h
  obtain ⟨-, h⟩ := okE h
  rw [← Option.some.inj h]
  exact (FrP.refl M)
theorem fz_X12_isNumber {x0 : Int32} {M : Mem} {z : Int32 × Mem} (h : d_X12_isNumber x0 M = some z) : FrP pRZ M z.2 := by
  unfold d_X12_isNumber at h
  rcases iteE h with h | h
  · skip
    rw [← Option.some.inj h]
    exact (FrP.refl M)
  · skip
    rcases iteE h with h | h
    · skip
      rw [← Option.some.inj h]
      exact (FrP.refl M)
    · skip
      rw [← Option.some.inj h]
      exact (FrP.refl M)
theorem fz_X12_asFloat {x1 : Int32} {M : Mem} {z : UInt64 × Mem} (h : d_X12_asFloat x1 M = some z) : FrP pRZ M z.2 := by
  unfold d_X12_asFloat at h
  obtain ⟨-, h⟩ := okE h
  rcases iteE h with h | h
  · skip
    obtain ⟨-, h⟩ := okE h
    rw [← Option.some.inj h]
    exact (FrP.refl M)
  · skip
    obtain ⟨-, h⟩ := okE h
    rw [← Option.some.inj h]
    exact (FrP.refl M)
theorem fz_X12_isNull_31 {x1 : Int32} {M : Mem} {z : Int32 × Mem} (h : d_X12_isNull_31 x1 M = some z) : FrP pRZ M z.2 := by
  unfold d_X12_isNull_31 at h
  obtain ⟨-, h⟩ := okE h
  rcases iteE h with h | h
  · skip
    obtain ⟨-, h⟩ := okE h
    rcases iteE h with h | h
    · skip
      rw [← Option.some.inj h]
      exact (FrP.refl M)
    · skip
      rw [← Option.some.inj h]
      exact (FrP.refl M)
  · skip
    rw [← Option.some.inj h]
    exact (FrP.refl M)
theorem fz_X12_isNull {x1 : Int32} {M : Mem} {z : Int32 × Mem} (h : d_X12_isNull x1 M = some z) : FrP pRZ M z.2 := by
  unfold d_X12_isNull at h
  obtain ⟨-, h⟩ := okE h
  rcases iteE h with h | h
  · skip
    rw [← Option.some.inj h]
    exact (FrP.refl M)
  · skip
    obtain ⟨-, h⟩ := okE h
    rcases iteE h with h | h
    · skip
      obtain ⟨-, h⟩ := okE h
      rcases iteE h with h | h
      · skip
        rw [← Option.some.inj h]
        exact (FrP.refl M)
      · skip
        exact FrP.trans (FrP.refl M) (fz_X12_isNull_31  h)
    · skip
      exact FrP.trans (FrP.refl M) (fz_X12_isNull_31  h)
theorem fz_X12_bits_139 {x3 : Int64} {x5 : UInt64} {x7 : Int32} {M : Mem} {z : Int64 × Mem} (h : d_X12_bits_139 x3 x5 x7 M = some z) : FrP pRZ M z.2 := by
  unfold d_X12_bits_139 at h
  rcases iteE h with h | h
  · skip
    rw [← Option.some.inj h]
    exact (FrP.refl M)
  · skip
    rw [← Option.some.inj h]
    exact (FrP.refl M)
theorem fz_X12_bits_110b {k110 : (UInt64 × Int32) → Mem → Option (Int64 × Mem)} {x3 : Int64} {x5 : UInt64} {x7 : Int32} {M : Mem} {z : Int64 × Mem} (hk110 : ∀ a M z, k110 a M = some z → FrP pRZ M z.2) (h : d_X12_bits_110b k110 x3 x5 x7 M = some z) : FrP pRZ M z.2 := by
  unfold d_X12_bits_110b at h
  rcases iteE h with h | h
  · skip
    exact FrP.trans (FrP.refl M) (fz_X12_bits_139  h)
  · skip
    rcases iteE h with h | h
    · skip
      exact FrP.trans (FrP.refl M) (fz_X12_bits_139  h)
    · skip
      obtain ⟨b1, -, h⟩ := bndE h
      obtain ⟨b2, -, h⟩ := bndE h
      exact FrP.trans (FrP.refl M) (hk110 _ _ _ h)
theorem fz_X12_bits_110 {x3 : Int64} : ∀ n a M z, d_X12_bits_110 x3 n a M = some z → FrP pRZ M z.2 := lp_ind (G := fun _ M z => FrP pRZ M z.2) (fun k hk a M z h => fz_X12_bits_110b hk h)
theorem fz_X12_bits_87b {k87 : (UInt64 × Int32) → Mem → Option (Int64 × Mem)} {x3 : Int64} {x5 : UInt64} {x7 : Int32} {M : Mem} {z : Int64 × Mem} (hk87 : ∀ a M z, k87 a M = some z → FrP pRZ M z.2) (h : d_X12_bits_87b k87 x3 x5 x7 M = some z) : FrP pRZ M z.2 := by
  unfold d_X12_bits_87b at h
  rcases iteE h with h | h
  · skip
    exact FrP.trans (FrP.refl M) (fz_X12_bits_110  _ _ _ _ h)
  · skip
    obtain ⟨b1, -, h⟩ := bndE h
    obtain ⟨b2, -, h⟩ := bndE h
    exact FrP.trans (FrP.refl M) (hk87 _ _ _ h)
theorem fz_X12_bits_87 {x3 : Int64} : ∀ n a M z, d_X12_bits_87 x3 n a M = some z → FrP pRZ M z.2 := lp_ind (G := fun _ M z => FrP pRZ M z.2) (fun k hk a M z h => fz_X12_bits_87b hk h)
theorem fz_X12_bits_58 {x3 : Int64} {s0 : UInt64} {M : Mem} {z : Int64 × Mem} (h : d_X12_bits_58 x3 s0 M = some z) : FrP pRZ M z.2 := by
  unfold d_X12_bits_58 at h
  rcases iteE h with h | h
  · skip
    rw [← Option.some.inj h]
    exact (FrP.refl M)
  · skip
    rcases iteE h with h | h
    · skip
      exact FrP.trans (FrP.refl M) (fz_X12_bits_87  _ _ _ _ h)
    · skip
      rw [← Option.some.inj h]
      exact (FrP.refl M)
theorem fz_X12_bits_47 {x0 : UInt64} {x2 : Int32} {s0 : Int64} {M : Mem} {z : Int64 × Mem} (h : d_X12_bits_47 x0 x2 s0 M = some z) : FrP pRZ M z.2 := by
  unfold d_X12_bits_47 at h
  rcases iteE h with h | h
  · skip
    exact FrP.trans (FrP.refl M) (fz_X12_bits_58  h)
  · skip
    exact FrP.trans (FrP.refl M) (fz_X12_bits_58  h)
theorem fz_X12_bits_35 {x0 : UInt64} {s0 : Int32} {M : Mem} {z : Int64 × Mem} (h : d_X12_bits_35 x0 s0 M = some z) : FrP pRZ M z.2 := by
  unfold d_X12_bits_35 at h
  rcases iteE h with h | h
  · skip
    exact FrP.trans (FrP.refl M) (fz_X12_bits_47  h)
  · skip
    exact FrP.trans (FrP.refl M) (fz_X12_bits_47  h)
theorem fz_X12_bits_30 {x0 : UInt64} {M : Mem} {z : Int64 × Mem} (h : d_X12_bits_30 x0 M = some z) : FrP pRZ M z.2 := by
  unfold d_X12_bits_30 at h
  exact FrP.trans (FrP.refl M) (fz_X12_bits_35  h)
theorem fz_X12_bits_34 {x0 : UInt64} {M : Mem} {z : Int64 × Mem} (h : d_X12_bits_34 x0 M = some z) : FrP pRZ M z.2 := by
  unfold d_X12_bits_34 at h
  exact FrP.trans (FrP.refl M) (fz_X12_bits_35  h)
theorem fz_X12_bits {x0 : UInt64} {M : Mem} {z : Int64 × Mem} (h : d_X12_bits x0 M = some z) : FrP pRZ M z.2 := by
  unfold d_X12_bits at h
  rcases iteE h with h | h
  · skip
    rcases iteE h with h | h
    · skip
      exact FrP.trans (FrP.refl M) (fz_X12_bits_30  h)
    · skip
      rcases iteE h with h | h
      · skip
        rcases iteE h with h | h
        · skip
          exact FrP.trans (FrP.refl M) (fz_X12_bits_34  h)
        · skip
          exact FrP.trans (FrP.refl M) (fz_X12_bits_30  h)
      · skip
        exact FrP.trans (FrP.refl M) (fz_X12_bits_34  h)
  · skip
    rw [← Option.some.inj h]
    exact (FrP.refl M)
theorem fz_X12_told {x0 : Int32} {x1 : Int32} {x2 : UInt64} {M : Mem} {z : Int64 × Mem} (h : d_X12_told x0 x1 x2 M = some z) : FrP pRZ M z.2 := by
  unfold d_X12_told at h
  rcases iteE h with h | h
  · skip
    rw [← Option.some.inj h]
    exact (FrP.refl M)
  · skip
    rcases iteE h with h | h
    · skip
      rw [← Option.some.inj h]
      exact (FrP.refl M)
    · skip
      rcases iteE h with h | h
      · skip
        obtain ⟨y1, e9, h⟩ := bindE h
        have f1 : FrP pRZ _ _ := FrP.trans (FrP.refl M) (fz_X12_bits  e9)
        clear e9
        rw [← Option.some.inj h]
        exact f1
      · skip
        rw [← Option.some.inj h]
        exact (FrP.refl M)
theorem fz_X12_copies {x1 : Int32} {x2 : Int32} {M : Mem} {z : Unit × Mem} (h : d_X12_copies x1 x2 M = some z) : FrP pRZ M z.2 := by
  unfold d_X12_copies at h
  obtain ⟨-, h⟩ := okE h
  obtain ⟨-, h⟩ := okE h
  obtain ⟨-, h⟩ := okE h
  obtain ⟨M1, e9, h⟩ := bndE h
  have f1 : FrP pRZ M M1 := by
    rw [e9]
    exact FrP.sI (FrP.refl M) (fun j y => by unfold pRZ at y; omega)
  clear e9
  obtain ⟨-, h⟩ := okE h
  obtain ⟨-, h⟩ := okE h
  obtain ⟨M2, e9, h⟩ := bndE h
  have f2 : FrP pRZ M M2 := by
    rw [e9]
    exact FrP.sI f1 (fun j y => by unfold pRZ at y; omega)
  clear e9
  obtain ⟨-, h⟩ := okE h
  obtain ⟨-, h⟩ := okE h
  obtain ⟨M3, e9, h⟩ := bndE h
  have f3 : FrP pRZ M M3 := by
    rw [e9]
    exact FrP.sD f2 (fun j y => by unfold pRZ at y; omega)
  clear e9
  obtain ⟨-, h⟩ := okE h
  obtain ⟨-, h⟩ := okE h
  obtain ⟨M4, e9, h⟩ := bndE h
  have f4 : FrP pRZ M M4 := by
    rw [e9]
    exact FrP.sI f3 (fun j y => by unfold pRZ at y; omega)
  clear e9
  rw [← Option.some.inj h]
  exact f4
theorem fz_X12_gives {x1 : Int32} {x2 : Int32} {x3 : UInt64} {M : Mem} {z : Unit × Mem} (h : d_X12_gives x1 x2 x3 M = some z) : FrP pRZ M z.2 := by
  unfold d_X12_gives at h
  obtain ⟨-, h⟩ := okE h
  obtain ⟨M1, e9, h⟩ := bndE h
  have f1 : FrP pRZ M M1 := by
    rw [e9]
    exact FrP.sI (FrP.refl M) (fun j y => by unfold pRZ at y; omega)
  clear e9
  obtain ⟨M2, e9, h⟩ := bndE h
  have f2 : FrP pRZ M M2 := by
    rw [e9]
    exact FrP.sI f1 (fun j y => by unfold pRZ at y; omega)
  clear e9
  obtain ⟨M3, e9, h⟩ := bndE h
  have f3 : FrP pRZ M M3 := by
    rw [e9]
    exact FrP.sD f2 (fun j y => by unfold pRZ at y; omega)
  clear e9
  rw [← Option.some.inj h]
  exact f3
theorem fz_X12_pushes {x1 : Int32} {M : Mem} {z : Unit × Mem} (h : d_X12_pushes x1 M = some z) : FrP pRZ M z.2 := by
  unfold d_X12_pushes at h
  obtain ⟨-, h⟩ := okE h
  obtain ⟨-, h⟩ := okE h
  obtain ⟨M1, e9, h⟩ := bndE h
  have f1 : FrP pRZ M M1 := by
    rw [e9]
    exact FrP.sI (FrP.refl M) (fun j y => by unfold pRZ at y; omega)
  clear e9
  obtain ⟨y1, e9, h⟩ := bindE h
  have f2 : FrP pRZ _ _ := FrP.trans f1 (fz_X12_top  e9)
  clear e9
  obtain ⟨-, h⟩ := okE h
  obtain ⟨-, h⟩ := okE h
  obtain ⟨M2, e9, h⟩ := bndE h
  have f3 : FrP pRZ M M2 := by
    rw [e9]
    exact FrP.sI f2 (fun j y => by unfold pRZ at y; omega)
  clear e9
  obtain ⟨-, h⟩ := okE h
  obtain ⟨M3, e9, h⟩ := bndE h
  have f4 : FrP pRZ M M3 := by
    rw [e9]
    exact FrP.sI f3 (fun j y => by unfold pRZ at y; omega)
  clear e9
  obtain ⟨-, h⟩ := okE h
  obtain ⟨M4, e9, h⟩ := bndE h
  have f5 : FrP pRZ M M4 := by
    rw [e9]
    exact FrP.sD f4 (fun j y => by unfold pRZ at y; omega)
  clear e9
  obtain ⟨-, h⟩ := okE h
  obtain ⟨M5, e9, h⟩ := bndE h
  have f6 : FrP pRZ M M5 := by
    rw [e9]
    exact FrP.sI f5 (fun j y => by unfold pRZ at y; omega)
  clear e9
  rw [← Option.some.inj h]
  exact f6
theorem fz_X12_givesInteger_28 {x3 : UInt64} {M : Mem} {z : Unit × Mem} (h : d_X12_givesInteger_28 x3 M = some z) : FrP pRZ M z.2 := by
  unfold d_X12_givesInteger_28 at h
  obtain ⟨y1, e9, h⟩ := bindE h
  have f1 : FrP pRZ _ _ := FrP.trans (FrP.refl M) (fz_X12_gives  e9)
  clear e9
  rw [← Option.some.inj h]
  exact f1
theorem fz_X12_givesInteger {x1 : Int64} {x2 : UInt64} {M : Mem} {z : Unit × Mem} (h : d_X12_givesInteger x1 x2 M = some z) : FrP pRZ M z.2 := by
  unfold d_X12_givesInteger at h
  rcases iteE h with h | h
  · skip
    exact FrP.trans (FrP.refl M) (fz_X12_givesInteger_28  h)
  · skip
    rcases iteE h with h | h
    · skip
      exact FrP.trans (FrP.refl M) (fz_X12_givesInteger_28  h)
    · skip
      obtain ⟨y1, e9, h⟩ := bindE h
      have f1 : FrP pRZ _ _ := FrP.trans (FrP.refl M) (fz_X12_gives  e9)
      clear e9
      rw [← Option.some.inj h]
      exact f1
theorem fz_X12_reckons_361 {x1 : Int32} {x4 : UInt64} {x6 : UInt64} {s0 : Int64} {M : Mem} {z : Unit × Mem} (h : d_X12_reckons_361 x1 x4 x6 s0 M = some z) : FrP pRZ M z.2 := by
  unfold d_X12_reckons_361 at h
  rcases iteE h with h | h
  · skip
    obtain ⟨y4, e9, h⟩ := bindE h
    have f1 : FrP pRZ _ _ := FrP.trans (FrP.refl M) (fz_X12_givesInteger  e9)
    clear e9
    rw [← Option.some.inj h]
    exact f1
  · skip
    rcases iteE h with h | h
    · skip
      obtain ⟨y3, e9, h⟩ := bindE h
      have f2 : FrP pRZ _ _ := FrP.trans (FrP.refl M) (fz_X12_givesInteger  e9)
      clear e9
      rw [← Option.some.inj h]
      exact f2
    · skip
      rcases iteE h with h | h
      · skip
        obtain ⟨y2, e9, h⟩ := bindE h
        have f3 : FrP pRZ _ _ := FrP.trans (FrP.refl M) (fz_X12_givesInteger  e9)
        clear e9
        rw [← Option.some.inj h]
        exact f3
      · skip
        obtain ⟨y1, e9, h⟩ := bindE h
        have f4 : FrP pRZ _ _ := FrP.trans (FrP.refl M) (fz_X12_givesInteger  e9)
        clear e9
        rw [← Option.some.inj h]
        exact f4
theorem fz_X12_reckons_165 {s0 : Int32} {M : Mem} {z : Unit × Mem} (h : d_X12_reckons_165 s0 M = some z) : FrP pRZ M z.2 := by
  unfold d_X12_reckons_165 at h
  rcases iteE h with h | h
  · skip
    obtain ⟨y1, e9, h⟩ := bindE h
    have f1 : FrP pRZ _ _ := FrP.trans (FrP.refl M) (fz_X12_gives  e9)
    clear e9
    rw [← Option.some.inj h]
    exact f1
  · skip
    obtain ⟨y2, e9, h⟩ := bindE h
    have f2 : FrP pRZ _ _ := FrP.trans (FrP.refl M) (fz_X12_gives  e9)
    clear e9
    rw [← Option.some.inj h]
    exact f2
theorem fz_X12_reckons_164 {M : Mem} {z : Unit × Mem} (h : d_X12_reckons_164 M = some z) : FrP pRZ M z.2 := by
  unfold d_X12_reckons_164 at h
  exact FrP.trans (FrP.refl M) (fz_X12_reckons_165  h)
theorem fz_X12_reckons_160 {M : Mem} {z : Unit × Mem} (h : d_X12_reckons_160 M = some z) : FrP pRZ M z.2 := by
  unfold d_X12_reckons_160 at h
  exact FrP.trans (FrP.refl M) (fz_X12_reckons_165  h)
theorem fz_X12_reckons_96 {x2 : Int32} {x3 : Int32} {x4 : UInt64} {x6 : UInt64} {s0 : Int32} {M : Mem} {z : Unit × Mem} (h : d_X12_reckons_96 x2 x3 x4 x6 s0 M = some z) : FrP pRZ M z.2 := by
  unfold d_X12_reckons_96 at h
  rcases iteE h with h | h
  · skip
    obtain ⟨-, h⟩ := okE h
    obtain ⟨-, h⟩ := okE h
    rcases iteE h with h | h
    · skip
      obtain ⟨-, h⟩ := okE h
      rcases iteE h with h | h
      · skip
        exact FrP.trans (FrP.refl M) (fz_X12_reckons_160  h)
      · skip
        obtain ⟨-, h⟩ := okE h
        obtain ⟨-, h⟩ := okE h
        rcases iteE h with h | h
        · skip
          exact FrP.trans (FrP.refl M) (fz_X12_reckons_160  h)
        · skip
          exact FrP.trans (FrP.refl M) (fz_X12_reckons_164  h)
    · skip
      exact FrP.trans (FrP.refl M) (fz_X12_reckons_164  h)
  · skip
    rcases iteE h with h | h
    · skip
      exact FrP.trans (FrP.refl M) (fz_X12_reckons_165  h)
    · skip
      exact FrP.trans (FrP.refl M) (fz_X12_reckons_165  h)
theorem fz_X12_reckons_95 {x2 : Int32} {x3 : Int32} {x4 : UInt64} {x6 : UInt64} {M : Mem} {z : Unit × Mem} (h : d_X12_reckons_95 x2 x3 x4 x6 M = some z) : FrP pRZ M z.2 := by
  unfold d_X12_reckons_95 at h
  exact FrP.trans (FrP.refl M) (fz_X12_reckons_96  h)
theorem fz_X12_reckons_41 {x1 : Int32} {x2 : Int32} {x3 : Int32} {x4 : UInt64} {x6 : UInt64} {s0 : Int32} {M : Mem} {z : Unit × Mem} (h : d_X12_reckons_41 x1 x2 x3 x4 x6 s0 M = some z) : FrP pRZ M z.2 := by
  unfold d_X12_reckons_41 at h
  obtain ⟨-, h⟩ := okE h
  obtain ⟨b1, -, h⟩ := bndE h
  obtain ⟨-, h⟩ := okE h
  obtain ⟨b2, -, h⟩ := bndE h
  rcases iteE h with h | h
  · skip
    obtain ⟨-, h⟩ := okE h
    obtain ⟨y9, e9, h⟩ := bindE h
    have f3 : FrP pRZ _ _ := FrP.trans (FrP.refl M) (fz_X12_isNumber  e9)
    clear e9
    rcases iteE h with h | h
    · skip
      exact FrP.trans f3 (fz_X12_reckons_95  h)
    · skip
      obtain ⟨-, h⟩ := okE h
      obtain ⟨y10, e9, h⟩ := bindE h
      have f4 : FrP pRZ _ _ := FrP.trans f3 (fz_X12_isNumber  e9)
      clear e9
      rcases iteE h with h | h
      · skip
        exact FrP.trans f4 (fz_X12_reckons_95  h)
      · skip
        exact FrP.trans f4 (fz_X12_reckons_96  h)
  · skip
    rcases iteE h with h | h
    · skip
      rcases iteE h with h | h
      · skip
        obtain ⟨y7, e9, h⟩ := bindE h
        have f5 : FrP pRZ _ _ := FrP.trans (FrP.refl M) (fz_X12_gives  e9)
        clear e9
        rw [← Option.some.inj h]
        exact f5
      · skip
        obtain ⟨y8, e9, h⟩ := bindE h
        have f6 : FrP pRZ _ _ := FrP.trans (FrP.refl M) (fz_X12_gives  e9)
        clear e9
        rw [← Option.some.inj h]
        exact f6
    · skip
      rcases iteE h with h | h
      · skip
        rcases iteE h with h | h
        · skip
          obtain ⟨y6, e9, h⟩ := bindE h
          have f7 : FrP pRZ _ _ := FrP.trans (FrP.refl M) (fz_X12_gives  e9)
          clear e9
          rw [← Option.some.inj h]
          exact f7
        · skip
          rcases iteE h with h | h
          · skip
            obtain ⟨y5, e9, h⟩ := bindE h
            have f8 : FrP pRZ _ _ := FrP.trans (FrP.refl M) (fz_X12_gives  e9)
            clear e9
            rw [← Option.some.inj h]
            exact f8
          · skip
            rcases iteE h with h | h
            · skip
              obtain ⟨y4, e9, h⟩ := bindE h
              have f9 : FrP pRZ _ _ := FrP.trans (FrP.refl M) (fz_X12_gives  e9)
              clear e9
              rw [← Option.some.inj h]
              exact f9
            · skip
              rcases iteE h with h | h
              · skip
                obtain ⟨y3, e9, h⟩ := bindE h
                have f10 : FrP pRZ _ _ := FrP.trans (FrP.refl M) (fz_X12_gives  e9)
                clear e9
                rw [← Option.some.inj h]
                exact f10
              · skip
                obtain ⟨y2, e9, h⟩ := bindE h
                have f11 : FrP pRZ _ _ := FrP.trans (FrP.refl M) (fz_X12_gives  e9)
                clear e9
                rw [← Option.some.inj h]
                exact f11
      · skip
        rcases iteE h with h | h
        · skip
          obtain ⟨-, h⟩ := okE h
          obtain ⟨y1, e9, h⟩ := bindE h
          have f12 : FrP pRZ _ _ := FrP.trans (FrP.refl M) (fz_X12_gives  e9)
          clear e9
          rw [← Option.some.inj h]
          exact f12
        · skip
          rcases iteE h with h | h
          · skip
            exact FrP.trans (FrP.refl M) (fz_X12_reckons_361  h)
          · skip
            rcases iteE h with h | h
            · skip
              exact FrP.trans (FrP.refl M) (fz_X12_reckons_361  h)
            · skip
              rcases iteE h with h | h
              · skip
                exact FrP.trans (FrP.refl M) (fz_X12_reckons_361  h)
              · skip
                obtain ⟨-, h⟩ := okE h
                exact FrP.trans (FrP.refl M) (fz_X12_reckons_361  h)
theorem fz_X12_reckons_40 {x1 : Int32} {x2 : Int32} {x3 : Int32} {x4 : UInt64} {x6 : UInt64} {M : Mem} {z : Unit × Mem} (h : d_X12_reckons_40 x1 x2 x3 x4 x6 M = some z) : FrP pRZ M z.2 := by
  unfold d_X12_reckons_40 at h
  exact FrP.trans (FrP.refl M) (fz_X12_reckons_41  h)
theorem fz_X12_reckons {x1 : Int32} {x2 : Int32} {x3 : Int32} {M : Mem} {z : Unit × Mem} (h : d_X12_reckons x1 x2 x3 M = some z) : FrP pRZ M z.2 := by
  unfold d_X12_reckons at h
  obtain ⟨y1, e9, h⟩ := bindE h
  have f1 : FrP pRZ _ _ := FrP.trans (FrP.refl M) (fz_X12_asFloat  e9)
  clear e9
  obtain ⟨y2, e9, h⟩ := bindE h
  have f2 : FrP pRZ _ _ := FrP.trans f1 (fz_X12_asFloat  e9)
  clear e9
  obtain ⟨-, h⟩ := okE h
  rcases iteE h with h | h
  · skip
    obtain ⟨-, h⟩ := okE h
    rcases iteE h with h | h
    · skip
      exact FrP.trans f2 (fz_X12_reckons_41  h)
    · skip
      exact FrP.trans f2 (fz_X12_reckons_40  h)
  · skip
    exact FrP.trans f2 (fz_X12_reckons_40  h)
theorem fz_X12_newValue {M : Mem} {z : Int32 × Mem} (h : d_X12_newValue M = some z) : FrP pRZ M z.2 := by
  unfold d_X12_newValue at h
  obtain ⟨-, h⟩ := okE h
  obtain ⟨M1, e9, h⟩ := bndE h
  have f1 : FrP pRZ M M1 := by
    rw [e9]
    exact FrP.sI (FrP.refl M) (fun j y => by unfold pRZ at y; omega)
  clear e9
  obtain ⟨-, h⟩ := okE h
  obtain ⟨M2, e9, h⟩ := bndE h
  have f2 : FrP pRZ M M2 := by
    rw [e9]
    exact FrP.sI f1 (fun j y => by unfold pRZ at y; omega)
  clear e9
  obtain ⟨-, h⟩ := okE h
  obtain ⟨M3, e9, h⟩ := bndE h
  have f3 : FrP pRZ M M3 := by
    rw [e9]
    exact FrP.sI f2 (fun j y => by unfold pRZ at y; omega)
  clear e9
  obtain ⟨-, h⟩ := okE h
  obtain ⟨M4, e9, h⟩ := bndE h
  have f4 : FrP pRZ M M4 := by
    rw [e9]
    exact FrP.sI f3 (fun j y => by unfold pRZ at y; omega)
  clear e9
  obtain ⟨M5, e9, h⟩ := bndE h
  have f5 : FrP pRZ M M5 := by
    rw [e9]
    exact FrP.sI f4 (fun j y => by unfold pRZ at y; omega)
  clear e9
  rw [← Option.some.inj h]
  exact f5
theorem fz_X12_valueOf {x1 : Int32} {M : Mem} {z : Int32 × Mem} (h : d_X12_valueOf x1 M = some z) : FrP pRZ M z.2 := by
  unfold d_X12_valueOf at h
  obtain ⟨y1, e9, h⟩ := bindE h
  have f1 : FrP pRZ _ _ := FrP.trans (FrP.refl M) (fz_X12_newValue  e9)
  clear e9
  obtain ⟨-, h⟩ := okE h
  obtain ⟨-, h⟩ := okE h
  obtain ⟨M1, e9, h⟩ := bndE h
  have f2 : FrP pRZ M M1 := by
    rw [e9]
    exact FrP.sI f1 (fun j y => by unfold pRZ at y; omega)
  clear e9
  rw [← Option.some.inj h]
  exact f2
theorem fz_X12_isKindKnown {x1 : Int32} {M : Mem} {z : Int32 × Mem} (h : d_X12_isKindKnown x1 M = some z) : FrP pRZ M z.2 := by
  unfold d_X12_isKindKnown at h
  obtain ⟨-, h⟩ := okE h
  rcases iteE h with h | h
  · skip
    rw [← Option.some.inj h]
    exact (FrP.refl M)
  · skip
    rw [← Option.some.inj h]
    exact (FrP.refl M)
theorem fz_X12_isNullKnown {x1 : Int32} {M : Mem} {z : Int32 × Mem} (h : d_X12_isNullKnown x1 M = some z) : FrP pRZ M z.2 := by
  unfold d_X12_isNullKnown at h
  obtain ⟨-, h⟩ := okE h
  rcases iteE h with h | h
  · skip
    obtain ⟨-, h⟩ := okE h
    rcases iteE h with h | h
    · skip
      rw [← Option.some.inj h]
      exact (FrP.refl M)
    · skip
      obtain ⟨-, h⟩ := okE h
      rcases iteE h with h | h
      · skip
        rw [← Option.some.inj h]
        exact (FrP.refl M)
      · skip
        rw [← Option.some.inj h]
        exact (FrP.refl M)
  · skip
    rw [← Option.some.inj h]
    exact (FrP.refl M)
theorem fz_X12_asks {x1 : Int32} {x2 : Int32} {x3 : Int32} {M : Mem} {z : Unit × Mem} (h : d_X12_asks x1 x2 x3 M = some z) : FrP pRZ M z.2 := by
  unfold d_X12_asks at h
  obtain ⟨-, h⟩ := okE h
  obtain ⟨-, h⟩ := okE h
  obtain ⟨M1, e9, h⟩ := bndE h
  have f1 : FrP pRZ M M1 := by
    rw [e9]
    exact FrP.sI (FrP.refl M) (fun j y => by unfold pRZ at y; omega)
  clear e9
  obtain ⟨-, h⟩ := okE h
  obtain ⟨M2, e9, h⟩ := bndE h
  have f2 : FrP pRZ M M2 := by
    rw [e9]
    exact FrP.sI f1 (fun j y => by unfold pRZ at y; omega)
  clear e9
  obtain ⟨-, h⟩ := okE h
  obtain ⟨M3, e9, h⟩ := bndE h
  have f3 : FrP pRZ M M3 := by
    rw [e9]
    exact FrP.sI f2 (fun j y => by unfold pRZ at y; omega)
  clear e9
  obtain ⟨-, h⟩ := okE h
  obtain ⟨M4, e9, h⟩ := bndE h
  have f4 : FrP pRZ M M4 := by
    rw [e9]
    exact FrP.sI f3 (fun j y => by unfold pRZ at y; omega)
  clear e9
  obtain ⟨M5, e9, h⟩ := bndE h
  have f5 : FrP pRZ M M5 := by
    rw [e9]
    exact FrP.sI f4 (fun j y => by unfold pRZ at y; omega)
  clear e9
  rw [← Option.some.inj h]
  exact f5
theorem fz_X12_asksKind {x1 : Int32} {M : Mem} {z : Unit × Mem} (h : d_X12_asksKind x1 M = some z) : FrP pRZ M z.2 := by
  unfold d_X12_asksKind at h
  obtain ⟨y1, e9, h⟩ := bindE h
  have f1 : FrP pRZ _ _ := FrP.trans (FrP.refl M) (fz_X12_top  e9)
  clear e9
  obtain ⟨-, h⟩ := okE h
  obtain ⟨b1, -, h⟩ := bndE h
  obtain ⟨y2, e9, h⟩ := bindE h
  have f3 : FrP pRZ _ _ := FrP.trans f1 (fz_X12_isKindKnown  e9)
  clear e9
  rcases iteE h with h | h
  · skip
    obtain ⟨y3, e9, h⟩ := bindE h
    have f4 : FrP pRZ _ _ := FrP.trans f3 (fz_X12_top  e9)
    clear e9
    obtain ⟨-, h⟩ := okE h
    obtain ⟨y4, e9, h⟩ := bindE h
    have f5 : FrP pRZ _ _ := FrP.trans f4 (fz_X12_asks  e9)
    clear e9
    obtain ⟨y5, e9, h⟩ := bindE h
    have f6 : FrP pRZ _ _ := FrP.trans f5 (fz_X12_top  e9)
    clear e9
    obtain ⟨-, h⟩ := okE h
    obtain ⟨-, h⟩ := okE h
    obtain ⟨-, h⟩ := okE h
    obtain ⟨M1, e9, h⟩ := bndE h
    have f7 : FrP pRZ M M1 := by
      rw [e9]
      exact FrP.sI f6 (fun j y => by unfold pRZ at y; omega)
    clear e9
    rw [← Option.some.inj h]
    exact f7
  · skip
    rw [← Option.some.inj h]
    exact f3
theorem fz_X12_asksShape {x1 : Int32} {M : Mem} {z : Unit × Mem} (h : d_X12_asksShape x1 M = some z) : FrP pRZ M z.2 := by
  unfold d_X12_asksShape at h
  obtain ⟨y1, e9, h⟩ := bindE h
  have f1 : FrP pRZ _ _ := FrP.trans (FrP.refl M) (fz_X12_top  e9)
  clear e9
  obtain ⟨-, h⟩ := okE h
  obtain ⟨b1, -, h⟩ := bndE h
  obtain ⟨y2, e9, h⟩ := bindE h
  have f3 : FrP pRZ _ _ := FrP.trans f1 (fz_X12_top  e9)
  clear e9
  obtain ⟨-, h⟩ := okE h
  obtain ⟨-, h⟩ := okE h
  obtain ⟨b2, -, h⟩ := bndE h
  obtain ⟨-, h⟩ := okE h
  rcases iteE h with h | h
  · skip
    obtain ⟨y3, e9, h⟩ := bindE h
    have f5 : FrP pRZ _ _ := FrP.trans f3 (fz_X12_asks  e9)
    clear e9
    obtain ⟨-, h⟩ := okE h
    obtain ⟨M1, e9, h⟩ := bndE h
    have f6 : FrP pRZ M M1 := by
      rw [e9]
      exact FrP.sI f5 (fun j y => by unfold pRZ at y; omega)
    clear e9
    obtain ⟨-, h⟩ := okE h
    obtain ⟨M2, e9, h⟩ := bndE h
    have f7 : FrP pRZ M M2 := by
      rw [e9]
      exact FrP.sI f6 (fun j y => by unfold pRZ at y; omega)
    clear e9
    rw [← Option.some.inj h]
    exact f7
  · skip
    rw [← Option.some.inj h]
    exact f3
theorem fz_X12_guards_304 {M : Mem} {z : Unit × Mem} (h : d_X12_guards_304 M = some z) : FrP pRZ M z.2 := by
  unfold d_X12_guards_304 at h
  obtain ⟨y1, e9, h⟩ := bindE h
  have f1 : FrP pRZ _ _ := FrP.trans (FrP.refl M) (fz_X12_asksShape  e9)
  clear e9
  rw [← Option.some.inj h]
  exact f1
theorem fz_X12_guards_263 {x2 : Int32} {s1 : Int32} {s2 : Int32} {s3 : Int32} {M : Mem} {z : Unit × Mem} (h : d_X12_guards_263 x2 s1 s2 s3 M = some z) : FrP pRZ M z.2 := by
  unfold d_X12_guards_263 at h
  obtain ⟨y1, e9, h⟩ := bindE h
  have f1 : FrP pRZ _ _ := FrP.trans (FrP.refl M) (fz_X12_asks  e9)
  clear e9
  obtain ⟨y2, e9, h⟩ := bindE h
  have f2 : FrP pRZ _ _ := FrP.trans f1 (fz_X12_top  e9)
  clear e9
  obtain ⟨y3, e9, h⟩ := bindE h
  have f3 : FrP pRZ _ _ := FrP.trans f2 (fz_X12_isNull  e9)
  clear e9
  rcases iteE h with h | h
  · skip
    obtain ⟨-, h⟩ := okE h
    obtain ⟨M1, e9, h⟩ := bndE h
    have f4 : FrP pRZ M M1 := by
      rw [e9]
      exact FrP.sI f3 (fun j y => by unfold pRZ at y; omega)
    clear e9
    rw [← Option.some.inj h]
    exact f4
  · skip
    obtain ⟨-, h⟩ := okE h
    obtain ⟨M2, e9, h⟩ := bndE h
    have f5 : FrP pRZ M M2 := by
      rw [e9]
      exact FrP.sI f3 (fun j y => by unfold pRZ at y; omega)
    clear e9
    rw [← Option.some.inj h]
    exact f5
theorem fz_X12_guards_164 {x1 : Int32} {M : Mem} {z : Unit × Mem} (h : d_X12_guards_164 x1 M = some z) : FrP pRZ M z.2 := by
  unfold d_X12_guards_164 at h
  obtain ⟨y1, e9, h⟩ := bindE h
  have f1 : FrP pRZ _ _ := FrP.trans (FrP.refl M) (fz_X12_top  e9)
  clear e9
  obtain ⟨y2, e9, h⟩ := bindE h
  have f2 : FrP pRZ _ _ := FrP.trans f1 (fz_X12_top  e9)
  clear e9
  obtain ⟨y3, e9, h⟩ := bindE h
  have f3 : FrP pRZ _ _ := FrP.trans f2 (fz_X12_reckons  e9)
  clear e9
  rcases iteE h with h | h
  · skip
    obtain ⟨y5, e9, h⟩ := bindE h
    have f4 : FrP pRZ _ _ := FrP.trans f3 (fz_X12_asks  e9)
    clear e9
    rw [← Option.some.inj h]
    exact f4
  · skip
    obtain ⟨y4, e9, h⟩ := bindE h
    have f5 : FrP pRZ _ _ := FrP.trans f3 (fz_X12_asks  e9)
    clear e9
    rw [← Option.some.inj h]
    exact f5
theorem fz_X12_guards_135 {x1 : Int32} {x4 : Int32} {M : Mem} {z : Unit × Mem} (h : d_X12_guards_135 x1 x4 M = some z) : FrP pRZ M z.2 := by
  unfold d_X12_guards_135 at h
  rcases iteE h with h | h
  · skip
    rw [← Option.some.inj h]
    exact (FrP.refl M)
  · skip
    rcases iteE h with h | h
    · skip
      exact FrP.trans (FrP.refl M) (fz_X12_guards_164  h)
    · skip
      rcases iteE h with h | h
      · skip
        exact FrP.trans (FrP.refl M) (fz_X12_guards_164  h)
      · skip
        rcases iteE h with h | h
        · skip
          exact FrP.trans (FrP.refl M) (fz_X12_guards_164  h)
        · skip
          rcases iteE h with h | h
          · skip
            exact FrP.trans (FrP.refl M) (fz_X12_guards_164  h)
          · skip
            rw [← Option.some.inj h]
            exact (FrP.refl M)
theorem fz_X12_guards_112 {x1 : Int32} {x3 : Int32} {x4 : Int32} {M : Mem} {z : Unit × Mem} (h : d_X12_guards_112 x1 x3 x4 M = some z) : FrP pRZ M z.2 := by
  unfold d_X12_guards_112 at h
  obtain ⟨y1, e9, h⟩ := bindE h
  have f1 : FrP pRZ _ _ := FrP.trans (FrP.refl M) (fz_X12_isNullKnown  e9)
  clear e9
  rcases iteE h with h | h
  · skip
    obtain ⟨y2, e9, h⟩ := bindE h
    have f2 : FrP pRZ _ _ := FrP.trans f1 (fz_X12_asks  e9)
    clear e9
    obtain ⟨-, h⟩ := okE h
    obtain ⟨M1, e9, h⟩ := bndE h
    have f3 : FrP pRZ M M1 := by
      rw [e9]
      exact FrP.sI f2 (fun j y => by unfold pRZ at y; omega)
    clear e9
    exact FrP.trans f3 (fz_X12_guards_135  h)
  · skip
    exact FrP.trans f1 (fz_X12_guards_135  h)
theorem fz_X12_guards_93 {x1 : Int32} {x3 : Int32} {s0 : Int32} {M : Mem} {z : Unit × Mem} (h : d_X12_guards_93 x1 x3 s0 M = some z) : FrP pRZ M z.2 := by
  unfold d_X12_guards_93 at h
  rcases iteE h with h | h
  · skip
    exact FrP.trans (FrP.refl M) (fz_X12_guards_135  h)
  · skip
    rcases iteE h with h | h
    · skip
      exact FrP.trans (FrP.refl M) (fz_X12_guards_112  h)
    · skip
      rcases iteE h with h | h
      · skip
        exact FrP.trans (FrP.refl M) (fz_X12_guards_112  h)
      · skip
        exact FrP.trans (FrP.refl M) (fz_X12_guards_135  h)
theorem fz_X12_guards_92 {x1 : Int32} {x3 : Int32} {M : Mem} {z : Unit × Mem} (h : d_X12_guards_92 x1 x3 M = some z) : FrP pRZ M z.2 := by
  unfold d_X12_guards_92 at h
  exact FrP.trans (FrP.refl M) (fz_X12_guards_93  h)
theorem fz_X12_guards_48 {x1 : Int32} {x3 : Int32} {M : Mem} {z : Unit × Mem} (h : d_X12_guards_48 x1 x3 M = some z) : FrP pRZ M z.2 := by
  unfold d_X12_guards_48 at h
  obtain ⟨y1, e9, h⟩ := bindE h
  have f1 : FrP pRZ _ _ := FrP.trans (FrP.refl M) (fz_X12_asksKind  e9)
  clear e9
  obtain ⟨y2, e9, h⟩ := bindE h
  have f2 : FrP pRZ _ _ := FrP.trans f1 (fz_X12_asksKind  e9)
  clear e9
  obtain ⟨y3, e9, h⟩ := bindE h
  have f3 : FrP pRZ _ _ := FrP.trans f2 (fz_X12_top  e9)
  clear e9
  obtain ⟨-, h⟩ := okE h
  rcases iteE h with h | h
  · skip
    obtain ⟨y4, e9, h⟩ := bindE h
    have f4 : FrP pRZ _ _ := FrP.trans f3 (fz_X12_top  e9)
    clear e9
    obtain ⟨-, h⟩ := okE h
    rcases iteE h with h | h
    · skip
      exact FrP.trans f4 (fz_X12_guards_93  h)
    · skip
      exact FrP.trans f4 (fz_X12_guards_92  h)
  · skip
    exact FrP.trans f3 (fz_X12_guards_92  h)
theorem fz_X12_guards {x1 : Int32} {M : Mem} {z : Unit × Mem} (h : d_X12_guards x1 M = some z) : FrP pRZ M z.2 := by
  unfold d_X12_guards at h
  obtain ⟨y1, e9, h⟩ := bindE h
  have f1 : FrP pRZ _ _ := FrP.trans (FrP.refl M) (fz_X12_isPair  e9)
  clear e9
  rcases iteE h with h | h
  · skip
    rcases iteE h with h | h
    · skip
      obtain ⟨y7, e9, h⟩ := bindE h
      have f2 : FrP pRZ _ _ := FrP.trans f1 (fz_X12_asksKind  e9)
      clear e9
      rw [← Option.some.inj h]
      exact f2
    · skip
      rcases iteE h with h | h
      · skip
        obtain ⟨y3, e9, h⟩ := bindE h
        have f3 : FrP pRZ _ _ := FrP.trans f1 (fz_X12_top  e9)
        clear e9
        obtain ⟨-, h⟩ := okE h
        obtain ⟨b1, -, h⟩ := bndE h
        obtain ⟨y4, e9, h⟩ := bindE h
        have f5 : FrP pRZ _ _ := FrP.trans f3 (fz_X12_isNullKnown  e9)
        clear e9
        rcases iteE h with h | h
        · skip
          obtain ⟨y5, e9, h⟩ := bindE h
          have f6 : FrP pRZ _ _ := FrP.trans f5 (fz_X12_top  e9)
          clear e9
          obtain ⟨y6, e9, h⟩ := bindE h
          have f7 : FrP pRZ _ _ := FrP.trans f6 (fz_X12_isNull  e9)
          clear e9
          rcases iteE h with h | h
          · skip
            exact FrP.trans f7 (fz_X12_guards_263  h)
          · skip
            exact FrP.trans f7 (fz_X12_guards_263  h)
        · skip
          rw [← Option.some.inj h]
          exact f5
      · skip
        rcases iteE h with h | h
        · skip
          exact FrP.trans f1 (fz_X12_guards_304  h)
        · skip
          rcases iteE h with h | h
          · skip
            exact FrP.trans f1 (fz_X12_guards_304  h)
          · skip
            rcases iteE h with h | h
            · skip
              obtain ⟨y2, e9, h⟩ := bindE h
              have f8 : FrP pRZ _ _ := FrP.trans f1 (fz_X12_asksShape  e9)
              clear e9
              rw [← Option.some.inj h]
              exact f8
            · skip
              rw [← Option.some.inj h]
              exact f1
  · skip
    obtain ⟨y8, e9, h⟩ := bindE h
    have f9 : FrP pRZ _ _ := FrP.trans f1 (fz_X12_top  e9)
    clear e9
    obtain ⟨-, h⟩ := okE h
    obtain ⟨b2, -, h⟩ := bndE h
    obtain ⟨y9, e9, h⟩ := bindE h
    have f11 : FrP pRZ _ _ := FrP.trans f9 (fz_X12_top  e9)
    clear e9
    obtain ⟨-, h⟩ := okE h
    obtain ⟨b3, -, h⟩ := bndE h
    obtain ⟨-, h⟩ := okE h
    rcases iteE h with h | h
    · skip
      exact FrP.trans f11 (fz_X12_guards_48  h)
    · skip
      obtain ⟨-, h⟩ := okE h
      rcases iteE h with h | h
      · skip
        exact FrP.trans f11 (fz_X12_guards_48  h)
      · skip
        rw [← Option.some.inj h]
        exact f11
theorem fz_X12_holds_187 {x1 : Int32} {s0 : Int32} {M : Mem} {z : Int32 × Mem} (h : d_X12_holds_187 x1 s0 M = some z) : FrP pRZ M z.2 := by
  unfold d_X12_holds_187 at h
  obtain ⟨-, h⟩ := okE h
  rcases iteE h with h | h
  · skip
    rw [← Option.some.inj h]
    exact (FrP.refl M)
  · skip
    rw [← Option.some.inj h]
    exact (FrP.refl M)
theorem fz_X12_holds_85 {x1 : Int32} {s0 : Int32} {M : Mem} {z : Int32 × Mem} (h : d_X12_holds_85 x1 s0 M = some z) : FrP pRZ M z.2 := by
  unfold d_X12_holds_85 at h
  obtain ⟨-, h⟩ := okE h
  rcases iteE h with h | h
  · skip
    rw [← Option.some.inj h]
    exact (FrP.refl M)
  · skip
    rw [← Option.some.inj h]
    exact (FrP.refl M)
theorem fz_X12_holds {x1 : Int32} {M : Mem} {z : Int32 × Mem} (h : d_X12_holds x1 M = some z) : FrP pRZ M z.2 := by
  unfold d_X12_holds at h
  obtain ⟨-, h⟩ := okE h
  obtain ⟨y1, e9, h⟩ := bindE h
  have f1 : FrP pRZ _ _ := FrP.trans (FrP.refl M) (fz_X12_top  e9)
  clear e9
  obtain ⟨-, h⟩ := okE h
  obtain ⟨b1, -, h⟩ := bndE h
  rcases iteE h with h | h
  · skip
    obtain ⟨-, h⟩ := okE h
    obtain ⟨-, h⟩ := okE h
    rcases iteE h with h | h
    · skip
      rw [← Option.some.inj h]
      exact f1
    · skip
      rw [← Option.some.inj h]
      exact f1
  · skip
    rcases iteE h with h | h
    · skip
      obtain ⟨-, h⟩ := okE h
      rcases iteE h with h | h
      · skip
        rw [← Option.some.inj h]
        exact f1
      · skip
        rw [← Option.some.inj h]
        exact f1
    · skip
      rcases iteE h with h | h
      · skip
        obtain ⟨y5, e9, h⟩ := bindE h
        have f3 : FrP pRZ _ _ := FrP.trans f1 (fz_X12_isNull  e9)
        clear e9
        rcases iteE h with h | h
        · skip
          exact FrP.trans f3 (fz_X12_holds_85  h)
        · skip
          exact FrP.trans f3 (fz_X12_holds_85  h)
      · skip
        rcases iteE h with h | h
        · skip
          obtain ⟨-, h⟩ := okE h
          obtain ⟨-, h⟩ := okE h
          obtain ⟨-, h⟩ := okE h
          rcases iteE h with h | h
          · skip
            rw [← Option.some.inj h]
            exact f1
          · skip
            rw [← Option.some.inj h]
            exact f1
        · skip
          obtain ⟨-, h⟩ := okE h
          obtain ⟨-, h⟩ := okE h
          obtain ⟨-, h⟩ := okE h
          obtain ⟨y2, e9, h⟩ := bindE h
          have f4 : FrP pRZ _ _ := FrP.trans f1 (fz_X12_top  e9)
          clear e9
          obtain ⟨y3, e9, h⟩ := bindE h
          have f5 : FrP pRZ _ _ := FrP.trans f4 (fz_X12_top  e9)
          clear e9
          obtain ⟨y4, e9, h⟩ := bindE h
          have f6 : FrP pRZ _ _ := FrP.trans f5 (fz_X12_reckons  e9)
          clear e9
          rcases iteE h with h | h
          · skip
            exact FrP.trans f6 (fz_X12_holds_187  h)
          · skip
            exact FrP.trans f6 (fz_X12_holds_187  h)
theorem fz_X12_records_57b {k45 : (Int32) → Mem → Option (Unit × Mem)} {k57 : (Int32) → Mem → Option (Unit × Mem)} {x5 : Int32} {x6 : Int32} {M : Mem} {z : Unit × Mem} (hk45 : ∀ a M z, k45 a M = some z → FrP pRZ M z.2) (hk57 : ∀ a M z, k57 a M = some z → FrP pRZ M z.2) (h : d_X12_records_57b k45 k57 x5 x6 M = some z) : FrP pRZ M z.2 := by
  unfold d_X12_records_57b at h
  obtain ⟨-, h⟩ := okE h
  rcases iteE h with h | h
  · skip
    obtain ⟨b1, -, h⟩ := bndE h
    exact FrP.trans (FrP.refl M) (hk45 _ _ _ h)
  · skip
    obtain ⟨y1, e9, h⟩ := bindE h
    have f2 : FrP pRZ _ _ := FrP.trans (FrP.refl M) (fz_X12_newValue  e9)
    clear e9
    obtain ⟨-, h⟩ := okE h
    obtain ⟨M1, e9, h⟩ := bndE h
    have f3 : FrP pRZ M M1 := by
      rw [e9]
      exact FrP.sI f2 (fun j y => by unfold pRZ at y; omega)
    clear e9
    obtain ⟨b2, -, h⟩ := bndE h
    exact FrP.trans f3 (hk57 _ _ _ h)
theorem fz_X12_records_57 {k45 : (Int32) → Mem → Option (Unit × Mem)} {x5 : Int32} (hk45 : ∀ a M z, k45 a M = some z → FrP pRZ M z.2) : ∀ (n : Nat) (a : (Int32)) (M : Mem) (z : Unit × Mem), d_X12_records_57 k45 x5 n a M = some z → FrP pRZ M z.2 := lp_ind (G := fun (_ : (Int32)) (M : Mem) (z : Unit × Mem) => FrP pRZ M z.2) (fun k hk a M z h => fz_X12_records_57b hk45 hk h)
theorem fz_X12_records_45b {k45 : (Int32) → Mem → Option (Unit × Mem)} {x5 : Int32} {M : Mem} {z : Unit × Mem} (hk45 : ∀ a M z, k45 a M = some z → FrP pRZ M z.2) (h : d_X12_records_45b k45 x5 M = some z) : FrP pRZ M z.2 := by
  unfold d_X12_records_45b at h
  rcases iteE h with h | h
  · skip
    rw [← Option.some.inj h]
    exact (FrP.refl M)
  · skip
    exact FrP.trans (FrP.refl M) (fz_X12_records_57 hk45 _ _ _ _ h)
theorem fz_X12_records_45  : ∀ n a M z, d_X12_records_45  n a M = some z → FrP pRZ M z.2 := lp_ind (G := fun _ M z => FrP pRZ M z.2) (fun k hk a M z h => fz_X12_records_45b hk h)
theorem fz_X12_records {x1 : Int32} {x2 : Int32} {x3 : Int32} {x4 : Int32} {M : Mem} {z : Unit × Mem} (h : d_X12_records x1 x2 x3 x4 M = some z) : FrP pRZ M z.2 := by
  unfold d_X12_records at h
  obtain ⟨M1, e9, h⟩ := bndE h
  have f1 : FrP pRZ M M1 := by
    rw [e9]
    exact FrP.sI (FrP.refl M) (fun j y => by unfold pRZ at y; omega)
  clear e9
  obtain ⟨M2, e9, h⟩ := bndE h
  have f2 : FrP pRZ M M2 := by
    rw [e9]
    exact FrP.sI f1 (fun j y => by unfold pRZ at y; omega)
  clear e9
  obtain ⟨M3, e9, h⟩ := bndE h
  have f3 : FrP pRZ M M3 := by
    rw [e9]
    exact FrP.sI f2 (fun j y => by unfold pRZ at y; omega)
  clear e9
  obtain ⟨M4, e9, h⟩ := bndE h
  have f4 : FrP pRZ M M4 := by
    rw [e9]
    exact FrP.sI f3 (fun j y => by unfold pRZ at y; omega)
  clear e9
  obtain ⟨M5, e9, h⟩ := bndE h
  have f5 : FrP pRZ M M5 := by
    rw [e9]
    exact FrP.sI f4 (fun j y => by unfold pRZ at y; omega)
  clear e9
  obtain ⟨M6, e9, h⟩ := bndE h
  have f6 : FrP pRZ M M6 := by
    rw [e9]
    exact FrP.sI f5 (fun j y => by unfold pRZ at y; omega)
  clear e9
  obtain ⟨M7, e9, h⟩ := bndE h
  have f7 : FrP pRZ M M7 := by
    rw [e9]
    exact FrP.sI f6 (fun j y => by unfold pRZ at y; omega)
  clear e9
  obtain ⟨M8, e9, h⟩ := bndE h
  have f8 : FrP pRZ M M8 := by
    rw [e9]
    exact FrP.sI f7 (fun j y => by unfold pRZ at y; omega)
  clear e9
  exact FrP.trans f8 (fz_X12_records_45  _ _ _ _ h)
theorem fz_X12_breaksOff {M : Mem} {z : Unit × Mem} (h : d_X12_breaksOff M = some z) : FrP pRZ M z.2 := by
  unfold d_X12_breaksOff at h
  rcases iteE h with h | h
  · skip
    rw [← Option.some.inj h]
    exact (FrP.refl M)
  · skip
    obtain ⟨M1, e9, h⟩ := bndE h
    have f1 : FrP pRZ M M1 := by
      rw [e9]
      exact FrP.sI (FrP.refl M) (fun j y => by unfold pRZ at y; omega)
    clear e9
    rcases iteE h with h | h
    · skip
      obtain ⟨-, h⟩ := okE h
      obtain ⟨M4, e9, h⟩ := bndE h
      have f2 : FrP pRZ M M4 := by
        rw [e9]
        exact FrP.sI f1 (fun j y => by unfold pRZ at y; omega)
      clear e9
      obtain ⟨-, h⟩ := okE h
      obtain ⟨-, h⟩ := okE h
      obtain ⟨M5, e9, h⟩ := bndE h
      have f3 : FrP pRZ M M5 := by
        rw [e9]
        exact FrP.sI f2 (fun j y => by unfold pRZ at y; omega)
      clear e9
      rw [← Option.some.inj h]
      exact f3
    · skip
      obtain ⟨-, h⟩ := okE h
      obtain ⟨M2, e9, h⟩ := bndE h
      have f4 : FrP pRZ M M2 := by
        rw [e9]
        exact FrP.sI f1 (fun j y => by unfold pRZ at y; omega)
      clear e9
      obtain ⟨-, h⟩ := okE h
      obtain ⟨-, h⟩ := okE h
      obtain ⟨M3, e9, h⟩ := bndE h
      have f5 : FrP pRZ M M3 := by
        rw [e9]
        exact FrP.sI f4 (fun j y => by unfold pRZ at y; omega)
      clear e9
      rw [← Option.some.inj h]
      exact f5
theorem fz_X12_ends_290 {x2 : Int32} {M : Mem} {z : Unit × Mem} (h : d_X12_ends_290 x2 M = some z) : FrP pRZ M z.2 := by
  unfold d_X12_ends_290 at h
  obtain ⟨-, h⟩ := okE h
  obtain ⟨y1, e9, h⟩ := bindE h
  have f1 : FrP pRZ _ _ := FrP.trans (FrP.refl M) (fz_X12_enters  e9)
  clear e9
  rw [← Option.some.inj h]
  exact f1
theorem fz_X12_ends_190b {k190 : (Int32) → Mem → Option (Unit × Mem)} {x2 : Int32} {x3 : Int32} {M : Mem} {z : Unit × Mem} (hk190 : ∀ a M z, k190 a M = some z → FrP pRZ M z.2) (h : d_X12_ends_190b k190 x2 x3 M = some z) : FrP pRZ M z.2 := by
  unfold d_X12_ends_190b at h
  rcases iteE h with h | h
  · skip
    rcases iteE h with h | h
    · skip
      exact FrP.trans (FrP.refl M) (fz_X12_ends_290  h)
    · skip
      obtain ⟨-, h⟩ := okE h
      obtain ⟨M1, e9, h⟩ := bndE h
      have f1 : FrP pRZ M M1 := by
        rw [e9]
        exact FrP.sI (FrP.refl M) (fun j y => by unfold pRZ at y; omega)
      clear e9
      exact FrP.trans f1 (fz_X12_ends_290  h)
  · skip
    obtain ⟨b1, -, h⟩ := bndE h
    obtain ⟨-, h⟩ := okE h
    obtain ⟨-, h⟩ := okE h
    obtain ⟨-, h⟩ := okE h
    obtain ⟨M2, e9, h⟩ := bndE h
    have f3 : FrP pRZ M M2 := by
      rw [e9]
      exact FrP.sI (FrP.refl M) (fun j y => by unfold pRZ at y; omega)
    clear e9
    obtain ⟨-, h⟩ := okE h
    obtain ⟨-, h⟩ := okE h
    obtain ⟨M3, e9, h⟩ := bndE h
    have f4 : FrP pRZ M M3 := by
      rw [e9]
      exact FrP.sI f3 (fun j y => by unfold pRZ at y; omega)
    clear e9
    obtain ⟨-, h⟩ := okE h
    obtain ⟨-, h⟩ := okE h
    obtain ⟨M4, e9, h⟩ := bndE h
    have f5 : FrP pRZ M M4 := by
      rw [e9]
      exact FrP.sI f4 (fun j y => by unfold pRZ at y; omega)
    clear e9
    obtain ⟨-, h⟩ := okE h
    obtain ⟨-, h⟩ := okE h
    obtain ⟨M5, e9, h⟩ := bndE h
    have f6 : FrP pRZ M M5 := by
      rw [e9]
      exact FrP.sI f5 (fun j y => by unfold pRZ at y; omega)
    clear e9
    obtain ⟨-, h⟩ := okE h
    obtain ⟨M6, e9, h⟩ := bndE h
    have f7 : FrP pRZ M M6 := by
      rw [e9]
      exact FrP.sI f6 (fun j y => by unfold pRZ at y; omega)
    clear e9
    obtain ⟨b2, -, h⟩ := bndE h
    exact FrP.trans f7 (hk190 _ _ _ h)
theorem fz_X12_ends_190 {x2 : Int32} : ∀ n a M z, d_X12_ends_190 x2 n a M = some z → FrP pRZ M z.2 := lp_ind (G := fun _ M z => FrP pRZ M z.2) (fun k hk a M z h => fz_X12_ends_190b hk h)
theorem fz_X12_ends_157b {k157 : (Int32) → Mem → Option (Unit × Mem)} {x2 : Int32} {x3 : Int32} {M : Mem} {z : Unit × Mem} (hk157 : ∀ a M z, k157 a M = some z → FrP pRZ M z.2) (h : d_X12_ends_157b k157 x2 x3 M = some z) : FrP pRZ M z.2 := by
  unfold d_X12_ends_157b at h
  rcases iteE h with h | h
  · skip
    exact FrP.trans (FrP.refl M) (fz_X12_ends_190  _ _ _ _ h)
  · skip
    obtain ⟨-, h⟩ := okE h
    obtain ⟨-, h⟩ := okE h
    obtain ⟨M1, e9, h⟩ := bndE h
    have f1 : FrP pRZ M M1 := by
      rw [e9]
      exact FrP.sI (FrP.refl M) (fun j y => by unfold pRZ at y; omega)
    clear e9
    obtain ⟨b1, -, h⟩ := bndE h
    exact FrP.trans f1 (hk157 _ _ _ h)
theorem fz_X12_ends_157 {x2 : Int32} : ∀ n a M z, d_X12_ends_157 x2 n a M = some z → FrP pRZ M z.2 := lp_ind (G := fun _ M z => FrP pRZ M z.2) (fun k hk a M z h => fz_X12_ends_157b hk h)
theorem fz_X12_ends_144 {x2 : Int32} {s1 : Int32} {s2 : Int32} {M : Mem} {z : Unit × Mem} (h : d_X12_ends_144 x2 s1 s2 M = some z) : FrP pRZ M z.2 := by
  unfold d_X12_ends_144 at h
  obtain ⟨-, h⟩ := okE h
  obtain ⟨M1, e9, h⟩ := bndE h
  have f1 : FrP pRZ M M1 := by
    rw [e9]
    exact FrP.sI (FrP.refl M) (fun j y => by unfold pRZ at y; omega)
  clear e9
  obtain ⟨-, h⟩ := okE h
  obtain ⟨M2, e9, h⟩ := bndE h
  have f2 : FrP pRZ M M2 := by
    rw [e9]
    exact FrP.sI f1 (fun j y => by unfold pRZ at y; omega)
  clear e9
  exact FrP.trans f2 (fz_X12_ends_157  _ _ _ _ h)
theorem fz_X12_ends_67 {x1 : Int32} {M : Mem} {z : Unit × Mem} (h : d_X12_ends_67 x1 M = some z) : FrP pRZ M z.2 := by
  unfold d_X12_ends_67 at h
  rcases iteE h with h | h
  · skip
    obtain ⟨y1, e9, h⟩ := bindE h
    have f1 : FrP pRZ _ _ := FrP.trans (FrP.refl M) (fz_X12_breaksOff  e9)
    clear e9
    rw [← Option.some.inj h]
    exact f1
  · skip
    obtain ⟨b1, -, h⟩ := bndE h
    obtain ⟨M1, e9, h⟩ := bndE h
    have f3 : FrP pRZ M M1 := by
      rw [e9]
      exact FrP.sI (FrP.refl M) (fun j y => by unfold pRZ at y; omega)
    clear e9
    obtain ⟨M2, e9, h⟩ := bndE h
    have f4 : FrP pRZ M M2 := by
      rw [e9]
      exact FrP.sI f3 (fun j y => by unfold pRZ at y; omega)
    clear e9
    obtain ⟨-, h⟩ := okE h
    obtain ⟨M3, e9, h⟩ := bndE h
    have f5 : FrP pRZ M M3 := by
      rw [e9]
      exact FrP.sI f4 (fun j y => by unfold pRZ at y; omega)
    clear e9
    obtain ⟨-, h⟩ := okE h
    obtain ⟨M4, e9, h⟩ := bndE h
    have f6 : FrP pRZ M M4 := by
      rw [e9]
      exact FrP.sI f5 (fun j y => by unfold pRZ at y; omega)
    clear e9
    obtain ⟨-, h⟩ := okE h
    obtain ⟨M5, e9, h⟩ := bndE h
    have f7 : FrP pRZ M M5 := by
      rw [e9]
      exact FrP.sI f6 (fun j y => by unfold pRZ at y; omega)
    clear e9
    rcases iteE h with h | h
    · skip
      exact FrP.trans f7 (fz_X12_ends_144  h)
    · skip
      exact FrP.trans f7 (fz_X12_ends_144  h)
theorem fz_X12_ends_64 {k15 : (Int32) → Mem → Option (Unit × Mem)} {x1 : Int32} {M : Mem} {z : Unit × Mem} (hk15 : ∀ a M z, k15 a M = some z → FrP pRZ M z.2) (h : d_X12_ends_64 k15 x1 M = some z) : FrP pRZ M z.2 := by
  unfold d_X12_ends_64 at h
  exact FrP.trans (FrP.refl M) (hk15 _ _ _ h)
theorem fz_X12_ends_54 {k15 : (Int32) → Mem → Option (Unit × Mem)} {x2 : Int32} {s0 : Int32} {M : Mem} {z : Unit × Mem} (hk15 : ∀ a M z, k15 a M = some z → FrP pRZ M z.2) (h : d_X12_ends_54 k15 x2 s0 M = some z) : FrP pRZ M z.2 := by
  unfold d_X12_ends_54 at h
  rcases iteE h with h | h
  · skip
    exact FrP.trans (FrP.refl M) (fz_X12_ends_64 hk15 h)
  · skip
    obtain ⟨y1, e9, h⟩ := bindE h
    have f1 : FrP pRZ _ _ := FrP.trans (FrP.refl M) (fz_X12_throwAway  e9)
    clear e9
    exact FrP.trans f1 (fz_X12_ends_64 hk15 h)
theorem fz_X12_ends_15b {k15 : (Int32) → Mem → Option (Unit × Mem)} {x1 : Int32} {M : Mem} {z : Unit × Mem} (hk15 : ∀ a M z, k15 a M = some z → FrP pRZ M z.2) (h : d_X12_ends_15b k15 x1 M = some z) : FrP pRZ M z.2 := by
  unfold d_X12_ends_15b at h
  rcases iteE h with h | h
  · skip
    exact FrP.trans (FrP.refl M) (fz_X12_ends_67  h)
  · skip
    obtain ⟨y1, e9, h⟩ := bindE h
    have f1 : FrP pRZ _ _ := FrP.trans (FrP.refl M) (fz_X12_size  e9)
    clear e9
    rcases iteE h with h | h
    · skip
      exact FrP.trans f1 (fz_X12_ends_67  h)
    · skip
      obtain ⟨y2, e9, h⟩ := bindE h
      have f2 : FrP pRZ _ _ := FrP.trans f1 (fz_X12_oldest  e9)
      clear e9
      rcases iteE h with h | h
      · skip
        exact FrP.trans f2 (fz_X12_ends_54 hk15 h)
      · skip
        exact FrP.trans f2 (fz_X12_ends_54 hk15 h)
theorem fz_X12_ends_15  : ∀ n a M z, d_X12_ends_15  n a M = some z → FrP pRZ M z.2 := lp_ind (G := fun _ M z => FrP pRZ M z.2) (fun k hk a M z h => fz_X12_ends_15b hk h)
theorem fz_X12_ends_14 {s0 : Int32} {M : Mem} {z : Unit × Mem} (h : d_X12_ends_14 s0 M = some z) : FrP pRZ M z.2 := by
  unfold d_X12_ends_14 at h
  exact FrP.trans (FrP.refl M) (fz_X12_ends_15  _ _ _ _ h)
theorem fz_X12_ends {M : Mem} {z : Unit × Mem} (h : d_X12_ends M = some z) : FrP pRZ M z.2 := by
  unfold d_X12_ends at h
  rcases iteE h with h | h
  · skip
    exact FrP.trans (FrP.refl M) (fz_X12_ends_14  h)
  · skip
    exact FrP.trans (FrP.refl M) (fz_X12_ends_14  h)
theorem fz_X12_takes_87 {s0 : Int32} {M : Mem} {z : Int32 × Mem} (h : d_X12_takes_87 s0 M = some z) : FrP pRZ M z.2 := by
  unfold d_X12_takes_87 at h
  rcases iteE h with h | h
  · skip
    rw [← Option.some.inj h]
    exact (FrP.refl M)
  · skip
    rw [← Option.some.inj h]
    exact (FrP.refl M)
theorem fz_X12_takes_82 {M : Mem} {z : Int32 × Mem} (h : d_X12_takes_82 M = some z) : FrP pRZ M z.2 := by
  unfold d_X12_takes_82 at h
  exact FrP.trans (FrP.refl M) (fz_X12_takes_87  h)
theorem fz_X12_takes {x1 : Int32} {x2 : Int32} {M : Mem} {z : Int32 × Mem} (h : d_X12_takes x1 x2 M = some z) : FrP pRZ M z.2 := by
  unfold d_X12_takes at h
  obtain ⟨y1, e9, h⟩ := bindE h
  have f1 : FrP pRZ _ _ := FrP.trans (FrP.refl M) (fz_X12_isPair  e9)
  clear e9
  rcases iteE h with h | h
  · skip
    rcases iteE h with h | h
    · skip
      rw [← Option.some.inj h]
      exact f1
    · skip
      rcases iteE h with h | h
      · skip
        obtain ⟨-, h⟩ := okE h
        rw [← Option.some.inj h]
        exact f1
      · skip
        rcases iteE h with h | h
        · skip
          exact FrP.trans f1 (fz_X12_takes_82  h)
        · skip
          rcases iteE h with h | h
          · skip
            exact FrP.trans f1 (fz_X12_takes_82  h)
          · skip
            rcases iteE h with h | h
            · skip
              exact FrP.trans f1 (fz_X12_takes_82  h)
            · skip
              rcases iteE h with h | h
              · skip
                exact FrP.trans f1 (fz_X12_takes_82  h)
              · skip
                rcases iteE h with h | h
                · skip
                  exact FrP.trans f1 (fz_X12_takes_82  h)
                · skip
                  rcases iteE h with h | h
                  · skip
                    exact FrP.trans f1 (fz_X12_takes_82  h)
                  · skip
                    rcases iteE h with h | h
                    · skip
                      exact FrP.trans f1 (fz_X12_takes_82  h)
                    · skip
                      rcases iteE h with h | h
                      · skip
                        exact FrP.trans f1 (fz_X12_takes_82  h)
                      · skip
                        rcases iteE h with h | h
                        · skip
                          exact FrP.trans f1 (fz_X12_takes_82  h)
                        · skip
                          exact FrP.trans f1 (fz_X12_takes_87  h)
  · skip
    rw [← Option.some.inj h]
    exact f1
theorem fz_X12_hasNoRoom_70 {s0 : Int32} {M : Mem} {z : Int32 × Mem} (h : d_X12_hasNoRoom_70 s0 M = some z) : FrP pRZ M z.2 := by
  unfold d_X12_hasNoRoom_70 at h
  rcases iteE h with h | h
  · skip
    rw [← Option.some.inj h]
    exact (FrP.refl M)
  · skip
    obtain ⟨-, h⟩ := okE h
    rcases iteE h with h | h
    · skip
      rw [← Option.some.inj h]
      exact (FrP.refl M)
    · skip
      rw [← Option.some.inj h]
      exact (FrP.refl M)
theorem fz_X12_hasNoRoom_65 {M : Mem} {z : Int32 × Mem} (h : d_X12_hasNoRoom_65 M = some z) : FrP pRZ M z.2 := by
  unfold d_X12_hasNoRoom_65 at h
  exact FrP.trans (FrP.refl M) (fz_X12_hasNoRoom_70  h)
theorem fz_X12_hasNoRoom {x1 : Int32} {M : Mem} {z : Int32 × Mem} (h : d_X12_hasNoRoom x1 M = some z) : FrP pRZ M z.2 := by
  unfold d_X12_hasNoRoom at h
  rcases iteE h with h | h
  · skip
    rcases iteE h with h | h
    · skip
      rw [← Option.some.inj h]
      exact (FrP.refl M)
    · skip
      obtain ⟨-, h⟩ := okE h
      rcases iteE h with h | h
      · skip
        rw [← Option.some.inj h]
        exact (FrP.refl M)
      · skip
        rw [← Option.some.inj h]
        exact (FrP.refl M)
  · skip
    rcases iteE h with h | h
    · skip
      exact FrP.trans (FrP.refl M) (fz_X12_hasNoRoom_65  h)
    · skip
      rcases iteE h with h | h
      · skip
        exact FrP.trans (FrP.refl M) (fz_X12_hasNoRoom_65  h)
      · skip
        rcases iteE h with h | h
        · skip
          exact FrP.trans (FrP.refl M) (fz_X12_hasNoRoom_65  h)
        · skip
          rcases iteE h with h | h
          · skip
            exact FrP.trans (FrP.refl M) (fz_X12_hasNoRoom_65  h)
          · skip
            rcases iteE h with h | h
            · skip
              exact FrP.trans (FrP.refl M) (fz_X12_hasNoRoom_65  h)
            · skip
              exact FrP.trans (FrP.refl M) (fz_X12_hasNoRoom_70  h)
theorem fz_X12_rounded {x0 : UInt64} {M : Mem} {z : UInt64 × Mem} (h : d_X12_rounded x0 M = some z) : FrP pRZ M z.2 := by
  unfold d_X12_rounded at h
  rw [← Option.some.inj h]
  exact (FrP.refl M)
theorem fz_X12_why_459 {x3 : Int32} {M : Mem} {z : Int32 × Mem} (h : d_X12_why_459 x3 M = some z) : FrP pRZ M z.2 := by
  unfold d_X12_why_459 at h
  rcases iteE h with h | h
  · skip
    rcases iteE h with h | h
    · skip
      rw [← Option.some.inj h]
      exact (FrP.refl M)
    · skip
      rw [← Option.some.inj h]
      exact (FrP.refl M)
  · skip
    rw [← Option.some.inj h]
    exact (FrP.refl M)
theorem fz_X12_why_447 {x3 : Int32} {M : Mem} {z : Int32 × Mem} (h : d_X12_why_447 x3 M = some z) : FrP pRZ M z.2 := by
  unfold d_X12_why_447 at h
  rcases iteE h with h | h
  · skip
    rw [← Option.some.inj h]
    exact (FrP.refl M)
  · skip
    exact FrP.trans (FrP.refl M) (fz_X12_why_459  h)
theorem fz_X12_why_435 {x3 : Int32} {M : Mem} {z : Int32 × Mem} (h : d_X12_why_435 x3 M = some z) : FrP pRZ M z.2 := by
  unfold d_X12_why_435 at h
  rcases iteE h with h | h
  · skip
    exact FrP.trans (FrP.refl M) (fz_X12_why_447  h)
  · skip
    rcases iteE h with h | h
    · skip
      exact FrP.trans (FrP.refl M) (fz_X12_why_447  h)
    · skip
      exact FrP.trans (FrP.refl M) (fz_X12_why_459  h)
theorem fz_X12_why_399 {x3 : Int32} {x4 : Int32} {x5 : Int32} {M : Mem} {z : Int32 × Mem} (h : d_X12_why_399 x3 x4 x5 M = some z) : FrP pRZ M z.2 := by
  unfold d_X12_why_399 at h
  rcases iteE h with h | h
  · skip
    obtain ⟨-, h⟩ := okE h
    obtain ⟨-, h⟩ := okE h
    obtain ⟨-, h⟩ := okE h
    obtain ⟨y1, e9, h⟩ := bindE h
    have f1 : FrP pRZ _ _ := FrP.trans (FrP.refl M) (fz_X12_methodOf  e9)
    clear e9
    rcases iteE h with h | h
    · skip
      rw [← Option.some.inj h]
      exact f1
    · skip
      exact FrP.trans f1 (fz_X12_why_435  h)
  · skip
    exact FrP.trans (FrP.refl M) (fz_X12_why_435  h)
theorem fz_X12_why_337 {x3 : Int32} {x4 : Int32} {x5 : Int32} {M : Mem} {z : Int32 × Mem} (h : d_X12_why_337 x3 x4 x5 M = some z) : FrP pRZ M z.2 := by
  unfold d_X12_why_337 at h
  rcases iteE h with h | h
  · skip
    obtain ⟨-, h⟩ := okE h
    obtain ⟨-, h⟩ := okE h
    obtain ⟨b1, -, h⟩ := bndE h
    obtain ⟨y1, e9, h⟩ := bindE h
    have f2 : FrP pRZ _ _ := FrP.trans (FrP.refl M) (fz_X12_hasField  e9)
    clear e9
    rcases iteE h with h | h
    · skip
      obtain ⟨-, h⟩ := okE h
      rcases iteE h with h | h
      · skip
        rcases iteE h with h | h
        · skip
          rw [← Option.some.inj h]
          exact f2
        · skip
          exact FrP.trans f2 (fz_X12_why_399  h)
      · skip
        exact FrP.trans f2 (fz_X12_why_399  h)
    · skip
      exact FrP.trans f2 (fz_X12_why_399  h)
  · skip
    exact FrP.trans (FrP.refl M) (fz_X12_why_399  h)
theorem fz_X12_why_307 {x3 : Int32} {x4 : Int32} {x5 : Int32} {M : Mem} {z : Int32 × Mem} (h : d_X12_why_307 x3 x4 x5 M = some z) : FrP pRZ M z.2 := by
  unfold d_X12_why_307 at h
  rcases iteE h with h | h
  · skip
    obtain ⟨-, h⟩ := okE h
    obtain ⟨-, h⟩ := okE h
    obtain ⟨y1, e9, h⟩ := bindE h
    have f1 : FrP pRZ _ _ := FrP.trans (FrP.refl M) (fz_X12_hasField  e9)
    clear e9
    rcases iteE h with h | h
    · skip
      rw [← Option.some.inj h]
      exact f1
    · skip
      exact FrP.trans f1 (fz_X12_why_337  h)
  · skip
    exact FrP.trans (FrP.refl M) (fz_X12_why_337  h)
theorem fz_X12_why_256 {x3 : Int32} {x4 : Int32} {x5 : Int32} {M : Mem} {z : Int32 × Mem} (h : d_X12_why_256 x3 x4 x5 M = some z) : FrP pRZ M z.2 := by
  unfold d_X12_why_256 at h
  rcases iteE h with h | h
  · skip
    obtain ⟨-, h⟩ := okE h
    rcases iteE h with h | h
    · skip
      obtain ⟨-, h⟩ := okE h
      obtain ⟨y1, e9, h⟩ := bindE h
      have f1 : FrP pRZ _ _ := FrP.trans (FrP.refl M) (fz_X12_rounded  e9)
      clear e9
      rcases iteE h with h | h
      · skip
        rw [← Option.some.inj h]
        exact f1
      · skip
        rcases iteE h with h | h
        · skip
          exact FrP.trans f1 (fz_X12_why_307  h)
        · skip
          rw [← Option.some.inj h]
          exact f1
    · skip
      exact FrP.trans (FrP.refl M) (fz_X12_why_307  h)
  · skip
    exact FrP.trans (FrP.refl M) (fz_X12_why_307  h)
theorem fz_X12_why_217 {x3 : Int32} {x4 : Int32} {x5 : Int32} {M : Mem} {z : Int32 × Mem} (h : d_X12_why_217 x3 x4 x5 M = some z) : FrP pRZ M z.2 := by
  unfold d_X12_why_217 at h
  obtain ⟨-, h⟩ := okE h
  rcases iteE h with h | h
  · skip
    obtain ⟨-, h⟩ := okE h
    rcases iteE h with h | h
    · skip
      obtain ⟨-, h⟩ := okE h
      rcases iteE h with h | h
      · skip
        rw [← Option.some.inj h]
        exact (FrP.refl M)
      · skip
        exact FrP.trans (FrP.refl M) (fz_X12_why_256  h)
    · skip
      exact FrP.trans (FrP.refl M) (fz_X12_why_256  h)
  · skip
    exact FrP.trans (FrP.refl M) (fz_X12_why_256  h)
theorem fz_X12_why_205 {x3 : Int32} {x4 : Int32} {x5 : Int32} {M : Mem} {z : Int32 × Mem} (h : d_X12_why_205 x3 x4 x5 M = some z) : FrP pRZ M z.2 := by
  unfold d_X12_why_205 at h
  rcases iteE h with h | h
  · skip
    exact FrP.trans (FrP.refl M) (fz_X12_why_217  h)
  · skip
    rcases iteE h with h | h
    · skip
      exact FrP.trans (FrP.refl M) (fz_X12_why_217  h)
    · skip
      exact FrP.trans (FrP.refl M) (fz_X12_why_256  h)
theorem fz_X12_why_182 {x3 : Int32} {x4 : Int32} {x5 : Int32} {M : Mem} {z : Int32 × Mem} (h : d_X12_why_182 x3 x4 x5 M = some z) : FrP pRZ M z.2 := by
  unfold d_X12_why_182 at h
  rcases iteE h with h | h
  · skip
    obtain ⟨-, h⟩ := okE h
    rcases iteE h with h | h
    · skip
      exact FrP.trans (FrP.refl M) (fz_X12_why_205  h)
    · skip
      rw [← Option.some.inj h]
      exact (FrP.refl M)
  · skip
    exact FrP.trans (FrP.refl M) (fz_X12_why_205  h)
theorem fz_X12_why_170 {x3 : Int32} {x4 : Int32} {x5 : Int32} {M : Mem} {z : Int32 × Mem} (h : d_X12_why_170 x3 x4 x5 M = some z) : FrP pRZ M z.2 := by
  unfold d_X12_why_170 at h
  obtain ⟨-, h⟩ := okE h
  rcases iteE h with h | h
  · skip
    exact FrP.trans (FrP.refl M) (fz_X12_why_182  h)
  · skip
    rw [← Option.some.inj h]
    exact (FrP.refl M)
theorem fz_X12_why_158 {x3 : Int32} {x4 : Int32} {x5 : Int32} {M : Mem} {z : Int32 × Mem} (h : d_X12_why_158 x3 x4 x5 M = some z) : FrP pRZ M z.2 := by
  unfold d_X12_why_158 at h
  rcases iteE h with h | h
  · skip
    exact FrP.trans (FrP.refl M) (fz_X12_why_170  h)
  · skip
    rcases iteE h with h | h
    · skip
      exact FrP.trans (FrP.refl M) (fz_X12_why_170  h)
    · skip
      exact FrP.trans (FrP.refl M) (fz_X12_why_182  h)
theorem fz_X12_why_139 {x3 : Int32} {x4 : Int32} {x5 : Int32} {M : Mem} {z : Int32 × Mem} (h : d_X12_why_139 x3 x4 x5 M = some z) : FrP pRZ M z.2 := by
  unfold d_X12_why_139 at h
  rcases iteE h with h | h
  · skip
    obtain ⟨-, h⟩ := okE h
    obtain ⟨y1, e9, h⟩ := bindE h
    have f1 : FrP pRZ _ _ := FrP.trans (FrP.refl M) (fz_X12_isNumber  e9)
    clear e9
    rcases iteE h with h | h
    · skip
      rw [← Option.some.inj h]
      exact f1
    · skip
      exact FrP.trans f1 (fz_X12_why_158  h)
  · skip
    exact FrP.trans (FrP.refl M) (fz_X12_why_158  h)
theorem fz_X12_why {M : Mem} {z : Int32 × Mem} (h : d_X12_why M = some z) : FrP pRZ M z.2 := by
  unfold d_X12_why at h
  obtain ⟨-, h⟩ := okE h
  obtain ⟨b1, -, h⟩ := bndE h
  obtain ⟨-, h⟩ := okE h
  obtain ⟨b2, -, h⟩ := bndE h
  obtain ⟨-, h⟩ := okE h
  rcases iteE h with h | h
  · skip
    obtain ⟨-, h⟩ := okE h
    obtain ⟨b3, -, h⟩ := bndE h
    obtain ⟨-, h⟩ := okE h
    obtain ⟨b4, -, h⟩ := bndE h
    obtain ⟨-, h⟩ := okE h
    obtain ⟨y1, e9, h⟩ := bindE h
    have f5 : FrP pRZ _ _ := FrP.trans (FrP.refl M) (fz_X12_takes  e9)
    clear e9
    rcases iteE h with h | h
    · skip
      rw [← Option.some.inj h]
      exact f5
    · skip
      obtain ⟨y2, e9, h⟩ := bindE h
      have f6 : FrP pRZ _ _ := FrP.trans f5 (fz_X12_hasNoRoom  e9)
      clear e9
      rcases iteE h with h | h
      · skip
        obtain ⟨y3, e9, h⟩ := bindE h
        have f7 : FrP pRZ _ _ := FrP.trans f6 (fz_X12_top  e9)
        clear e9
        obtain ⟨y4, e9, h⟩ := bindE h
        have f8 : FrP pRZ _ _ := FrP.trans f7 (fz_X12_isPair  e9)
        clear e9
        rcases iteE h with h | h
        · skip
          exact FrP.trans f8 (fz_X12_why_139  h)
        · skip
          rcases iteE h with h | h
          · skip
            exact FrP.trans f8 (fz_X12_why_139  h)
          · skip
            obtain ⟨-, h⟩ := okE h
            obtain ⟨y5, e9, h⟩ := bindE h
            have f9 : FrP pRZ _ _ := FrP.trans f8 (fz_X12_isNumber  e9)
            clear e9
            rcases iteE h with h | h
            · skip
              rw [← Option.some.inj h]
              exact f9
            · skip
              obtain ⟨-, h⟩ := okE h
              obtain ⟨y6, e9, h⟩ := bindE h
              have f10 : FrP pRZ _ _ := FrP.trans f9 (fz_X12_isNumber  e9)
              clear e9
              rcases iteE h with h | h
              · skip
                rw [← Option.some.inj h]
                exact f10
              · skip
                exact FrP.trans f10 (fz_X12_why_139  h)
      · skip
        rw [← Option.some.inj h]
        exact f6
  · skip
    rw [← Option.some.inj h]
    exact (FrP.refl M)
theorem fz_X12_calls_166 {k79 : (Int32) → Mem → Option (Unit × Mem)} {x2 : Int32} {x3 : Int32} {x4 : Int32} {M : Mem} {z : Unit × Mem} (hk79 : ∀ a M z, k79 a M = some z → FrP pRZ M z.2) (h : d_X12_calls_166 k79 x2 x3 x4 M = some z) : FrP pRZ M z.2 := by
  unfold d_X12_calls_166 at h
  obtain ⟨b1, -, h⟩ := bndE h
  exact FrP.trans (FrP.refl M) (hk79 _ _ _ h)
theorem fz_X12_calls_165 {k79 : (Int32) → Mem → Option (Unit × Mem)} {x2 : Int32} {x3 : Int32} {x4 : Int32} {s1 : Int32} {s2 : Int32} {M : Mem} {z : Unit × Mem} (hk79 : ∀ a M z, k79 a M = some z → FrP pRZ M z.2) (h : d_X12_calls_165 k79 x2 x3 x4 s1 s2 M = some z) : FrP pRZ M z.2 := by
  unfold d_X12_calls_165 at h
  obtain ⟨-, h⟩ := okE h
  obtain ⟨M1, e9, h⟩ := bndE h
  have f1 : FrP pRZ M M1 := by
    rw [e9]
    exact FrP.sI (FrP.refl M) (fun j y => by unfold pRZ at y; omega)
  clear e9
  exact FrP.trans f1 (fz_X12_calls_166 hk79 h)
theorem fz_X12_calls_79b {k79 : (Int32) → Mem → Option (Unit × Mem)} {x2 : Int32} {x3 : Int32} {x4 : Int32} {M : Mem} {z : Unit × Mem} (hk79 : ∀ a M z, k79 a M = some z → FrP pRZ M z.2) (h : d_X12_calls_79b k79 x2 x3 x4 M = some z) : FrP pRZ M z.2 := by
  unfold d_X12_calls_79b at h
  rcases iteE h with h | h
  · skip
    rw [← Option.some.inj h]
    exact (FrP.refl M)
  · skip
    obtain ⟨b1, -, h⟩ := bndE h
    rcases iteE h with h | h
    · skip
      obtain ⟨-, h⟩ := okE h
      obtain ⟨M1, e9, h⟩ := bndE h
      have f2 : FrP pRZ M M1 := by
        rw [e9]
        exact FrP.sI (FrP.refl M) (fun j y => by unfold pRZ at y; omega)
      clear e9
      obtain ⟨-, h⟩ := okE h
      obtain ⟨M2, e9, h⟩ := bndE h
      have f3 : FrP pRZ M M2 := by
        rw [e9]
        exact FrP.sI f2 (fun j y => by unfold pRZ at y; omega)
      clear e9
      obtain ⟨-, h⟩ := okE h
      obtain ⟨M3, e9, h⟩ := bndE h
      have f4 : FrP pRZ M M3 := by
        rw [e9]
        exact FrP.sD f3 (fun j y => by unfold pRZ at y; omega)
      clear e9
      rcases iteE h with h | h
      · skip
        exact FrP.trans f4 (fz_X12_calls_165 hk79 h)
      · skip
        obtain ⟨y1, e9, h⟩ := bindE h
        have f5 : FrP pRZ _ _ := FrP.trans f4 (fz_X12_valueOf  e9)
        clear e9
        exact FrP.trans f5 (fz_X12_calls_165 hk79 h)
    · skip
      obtain ⟨y2, e9, h⟩ := bindE h
      have f6 : FrP pRZ _ _ := FrP.trans (FrP.refl M) (fz_X12_copies  e9)
      clear e9
      exact FrP.trans f6 (fz_X12_calls_166 hk79 h)
theorem fz_X12_calls_79 {x2 : Int32} {x3 : Int32} : ∀ n a M z, d_X12_calls_79 x2 x3 n a M = some z → FrP pRZ M z.2 := lp_ind (G := fun _ M z => FrP pRZ M z.2) (fun k hk a M z h => fz_X12_calls_79b hk h)
theorem fz_X12_calls {x1 : Int32} {x2 : Int32} {M : Mem} {z : Unit × Mem} (h : d_X12_calls x1 x2 M = some z) : FrP pRZ M z.2 := by
  unfold d_X12_calls at h
  obtain ⟨y1, e9, h⟩ := bindE h
  have f1 : FrP pRZ _ _ := FrP.trans (FrP.refl M) (fz_X12_top  e9)
  clear e9
  obtain ⟨b1, -, h⟩ := bndE h
  obtain ⟨-, h⟩ := okE h
  obtain ⟨-, h⟩ := okE h
  obtain ⟨M1, e9, h⟩ := bndE h
  have f3 : FrP pRZ M M1 := by
    rw [e9]
    exact FrP.sI f1 (fun j y => by unfold pRZ at y; omega)
  clear e9
  obtain ⟨-, h⟩ := okE h
  obtain ⟨-, h⟩ := okE h
  obtain ⟨M2, e9, h⟩ := bndE h
  have f4 : FrP pRZ M M2 := by
    rw [e9]
    exact FrP.sI f3 (fun j y => by unfold pRZ at y; omega)
  clear e9
  obtain ⟨M3, e9, h⟩ := bndE h
  have f5 : FrP pRZ M M3 := by
    rw [e9]
    exact FrP.sI f4 (fun j y => by unfold pRZ at y; omega)
  clear e9
  obtain ⟨-, h⟩ := okE h
  obtain ⟨M4, e9, h⟩ := bndE h
  have f6 : FrP pRZ M M4 := by
    rw [e9]
    exact FrP.sI f5 (fun j y => by unfold pRZ at y; omega)
  clear e9
  obtain ⟨-, h⟩ := okE h
  obtain ⟨M5, e9, h⟩ := bndE h
  have f7 : FrP pRZ M M5 := by
    rw [e9]
    exact FrP.sI f6 (fun j y => by unfold pRZ at y; omega)
  clear e9
  obtain ⟨-, h⟩ := okE h
  obtain ⟨M6, e9, h⟩ := bndE h
  have f8 : FrP pRZ M M6 := by
    rw [e9]
    exact FrP.sI f7 (fun j y => by unfold pRZ at y; omega)
  clear e9
  exact FrP.trans f8 (fz_X12_calls_79  _ _ _ _ h)
theorem fz_X12_puts_152 {M : Mem} {z : Unit × Mem} (h : d_X12_puts_152 M = some z) : FrP pRZ M z.2 := by
  unfold d_X12_puts_152 at h
  obtain ⟨-, h⟩ := okE h
  obtain ⟨-, h⟩ := okE h
  obtain ⟨M1, e9, h⟩ := bndE h
  have f1 : FrP pRZ M M1 := by
    rw [e9]
    exact FrP.sI (FrP.refl M) (fun j y => by unfold pRZ at y; omega)
  clear e9
  obtain ⟨-, h⟩ := okE h
  obtain ⟨-, h⟩ := okE h
  obtain ⟨M2, e9, h⟩ := bndE h
  have f2 : FrP pRZ M M2 := by
    rw [e9]
    exact FrP.sI f1 (fun j y => by unfold pRZ at y; omega)
  clear e9
  rw [← Option.some.inj h]
  exact f2
theorem fz_X12_puts_116b {k116 : (Int32) → Mem → Option (Unit × Mem)} {x2 : Int32} {x6 : Int32} {x7 : Int32} {M : Mem} {z : Unit × Mem} (hk116 : ∀ a M z, k116 a M = some z → FrP pRZ M z.2) (h : d_X12_puts_116b k116 x2 x6 x7 M = some z) : FrP pRZ M z.2 := by
  unfold d_X12_puts_116b at h
  rcases iteE h with h | h
  · skip
    obtain ⟨-, h⟩ := okE h
    obtain ⟨-, h⟩ := okE h
    obtain ⟨M1, e9, h⟩ := bndE h
    have f1 : FrP pRZ M M1 := by
      rw [e9]
      exact FrP.sI (FrP.refl M) (fun j y => by unfold pRZ at y; omega)
    clear e9
    exact FrP.trans f1 (fz_X12_puts_152  h)
  · skip
    obtain ⟨-, h⟩ := okE h
    obtain ⟨M2, e9, h⟩ := bndE h
    have f2 : FrP pRZ M M2 := by
      rw [e9]
      exact FrP.sI (FrP.refl M) (fun j y => by unfold pRZ at y; omega)
    clear e9
    obtain ⟨b1, -, h⟩ := bndE h
    exact FrP.trans f2 (hk116 _ _ _ h)
theorem fz_X12_puts_116 {x2 : Int32} {x6 : Int32} : ∀ n a M z, d_X12_puts_116 x2 x6 n a M = some z → FrP pRZ M z.2 := lp_ind (G := fun _ M z => FrP pRZ M z.2) (fun k hk a M z h => fz_X12_puts_116b hk h)
theorem fz_X12_puts {x1 : Int32} {M : Mem} {z : Unit × Mem} (h : d_X12_puts x1 M = some z) : FrP pRZ M z.2 := by
  unfold d_X12_puts at h
  obtain ⟨y1, e9, h⟩ := bindE h
  have f1 : FrP pRZ _ _ := FrP.trans (FrP.refl M) (fz_X12_top  e9)
  clear e9
  obtain ⟨-, h⟩ := okE h
  obtain ⟨b1, -, h⟩ := bndE h
  obtain ⟨y2, e9, h⟩ := bindE h
  have f3 : FrP pRZ _ _ := FrP.trans f1 (fz_X12_top  e9)
  clear e9
  obtain ⟨-, h⟩ := okE h
  obtain ⟨b2, -, h⟩ := bndE h
  obtain ⟨y3, e9, h⟩ := bindE h
  have f5 : FrP pRZ _ _ := FrP.trans f3 (fz_X12_shapeBehind  e9)
  clear e9
  obtain ⟨-, h⟩ := okE h
  obtain ⟨M1, e9, h⟩ := bndE h
  have f6 : FrP pRZ M M1 := by
    rw [e9]
    exact FrP.sI f5 (fun j y => by unfold pRZ at y; omega)
  clear e9
  obtain ⟨-, h⟩ := okE h
  obtain ⟨-, h⟩ := okE h
  obtain ⟨-, h⟩ := okE h
  obtain ⟨M2, e9, h⟩ := bndE h
  have f7 : FrP pRZ M M2 := by
    rw [e9]
    exact FrP.sI f6 (fun j y => by unfold pRZ at y; omega)
  clear e9
  obtain ⟨-, h⟩ := okE h
  obtain ⟨-, h⟩ := okE h
  obtain ⟨M3, e9, h⟩ := bndE h
  have f8 : FrP pRZ M M3 := by
    rw [e9]
    exact FrP.sI f7 (fun j y => by unfold pRZ at y; omega)
  clear e9
  obtain ⟨-, h⟩ := okE h
  obtain ⟨-, h⟩ := okE h
  obtain ⟨M4, e9, h⟩ := bndE h
  have f9 : FrP pRZ M M4 := by
    rw [e9]
    exact FrP.sD f8 (fun j y => by unfold pRZ at y; omega)
  clear e9
  rcases iteE h with h | h
  · skip
    exact FrP.trans f9 (fz_X12_puts_152  h)
  · skip
    rcases iteE h with h | h
    · skip
      exact FrP.trans f9 (fz_X12_puts_152  h)
    · skip
      exact FrP.trans f9 (fz_X12_puts_116  _ _ _ _ h)
theorem fz_X12_returns {M : Mem} {z : Unit × Mem} (h : d_X12_returns M = some z) : FrP pRZ M z.2 := by
  unfold d_X12_returns at h
  obtain ⟨y1, e9, h⟩ := bindE h
  have f1 : FrP pRZ _ _ := FrP.trans (FrP.refl M) (fz_X12_top  e9)
  clear e9
  rcases iteE h with h | h
  · skip
    obtain ⟨M3, e9, h⟩ := bndE h
    have f2 : FrP pRZ M M3 := by
      rw [e9]
      exact FrP.sI f1 (fun j y => by unfold pRZ at y; omega)
    clear e9
    obtain ⟨M4, e9, h⟩ := bndE h
    have f3 : FrP pRZ M M4 := by
      rw [e9]
      exact FrP.sI f2 (fun j y => by unfold pRZ at y; omega)
    clear e9
    obtain ⟨-, h⟩ := okE h
    obtain ⟨-, h⟩ := okE h
    obtain ⟨M5, e9, h⟩ := bndE h
    have f4 : FrP pRZ M M5 := by
      rw [e9]
      exact FrP.sI f3 (fun j y => by unfold pRZ at y; omega)
    clear e9
    obtain ⟨-, h⟩ := okE h
    obtain ⟨-, h⟩ := okE h
    obtain ⟨-, h⟩ := okE h
    obtain ⟨y4, e9, h⟩ := bindE h
    have f5 : FrP pRZ _ _ := FrP.trans f4 (fz_X12_told  e9)
    clear e9
    obtain ⟨M6, e9, h⟩ := bndE h
    have f6 : FrP pRZ M M6 := by
      rw [e9]
      exact FrP.sL f5 (fun j y => by unfold pRZ at y; omega)
    clear e9
    rw [← Option.some.inj h]
    exact f6
  · skip
    obtain ⟨M1, e9, h⟩ := bndE h
    have f7 : FrP pRZ M M1 := by
      rw [e9]
      exact FrP.sI f1 (fun j y => by unfold pRZ at y; omega)
    clear e9
    obtain ⟨-, h⟩ := okE h
    obtain ⟨-, h⟩ := okE h
    obtain ⟨M2, e9, h⟩ := bndE h
    have f8 : FrP pRZ M M2 := by
      rw [e9]
      exact FrP.sI f7 (fun j y => by unfold pRZ at y; omega)
    clear e9
    obtain ⟨y2, e9, h⟩ := bindE h
    have f9 : FrP pRZ _ _ := FrP.trans f8 (fz_X12_top  e9)
    clear e9
    obtain ⟨y3, e9, h⟩ := bindE h
    have f10 : FrP pRZ _ _ := FrP.trans f9 (fz_X12_copies  e9)
    clear e9
    rw [← Option.some.inj h]
    exact f10
theorem fz_X12_tells_70 {M : Mem} {z : Unit × Mem} (h : d_X12_tells_70 M = some z) : FrP pRZ M z.2 := by
  unfold d_X12_tells_70 at h
  obtain ⟨-, h⟩ := okE h
  obtain ⟨-, h⟩ := okE h
  obtain ⟨M1, e9, h⟩ := bndE h
  have f1 : FrP pRZ M M1 := by
    rw [e9]
    exact FrP.sI (FrP.refl M) (fun j y => by unfold pRZ at y; omega)
  clear e9
  obtain ⟨-, h⟩ := okE h
  obtain ⟨-, h⟩ := okE h
  obtain ⟨M2, e9, h⟩ := bndE h
  have f2 : FrP pRZ M M2 := by
    rw [e9]
    exact FrP.sI f1 (fun j y => by unfold pRZ at y; omega)
  clear e9
  rw [← Option.some.inj h]
  exact f2
theorem fz_X12_tells {M : Mem} {z : Unit × Mem} (h : d_X12_tells M = some z) : FrP pRZ M z.2 := by
  unfold d_X12_tells at h
  obtain ⟨y1, e9, h⟩ := bindE h
  have f1 : FrP pRZ _ _ := FrP.trans (FrP.refl M) (fz_X12_top  e9)
  clear e9
  rcases iteE h with h | h
  · skip
    exact FrP.trans f1 (fz_X12_tells_70  h)
  · skip
    obtain ⟨-, h⟩ := okE h
    obtain ⟨-, h⟩ := okE h
    obtain ⟨-, h⟩ := okE h
    obtain ⟨M1, e9, h⟩ := bndE h
    have f2 : FrP pRZ M M1 := by
      rw [e9]
      exact FrP.sI f1 (fun j y => by unfold pRZ at y; omega)
    clear e9
    obtain ⟨-, h⟩ := okE h
    obtain ⟨-, h⟩ := okE h
    obtain ⟨-, h⟩ := okE h
    obtain ⟨y2, e9, h⟩ := bindE h
    have f3 : FrP pRZ _ _ := FrP.trans f2 (fz_X12_told  e9)
    clear e9
    obtain ⟨-, h⟩ := okE h
    obtain ⟨M2, e9, h⟩ := bndE h
    have f4 : FrP pRZ M M2 := by
      rw [e9]
      exact FrP.sL f3 (fun j y => by unfold pRZ at y; omega)
    clear e9
    obtain ⟨M3, e9, h⟩ := bndE h
    have f5 : FrP pRZ M M3 := by
      rw [e9]
      exact FrP.sI f4 (fun j y => by unfold pRZ at y; omega)
    clear e9
    exact FrP.trans f5 (fz_X12_tells_70  h)
theorem fz_X12_made_64 {x1 : Int32} {x2 : Int32} {s0 : Int32} {M : Mem} {z : Int32 × Mem} (h : d_X12_made_64 x1 x2 s0 M = some z) : FrP pRZ M z.2 := by
  unfold d_X12_made_64 at h
  rcases iteE h with h | h
  · skip
    obtain ⟨-, h⟩ := okE h
    obtain ⟨M3, e9, h⟩ := bndE h
    have f1 : FrP pRZ M M3 := by
      rw [e9]
      exact FrP.sI (FrP.refl M) (fun j y => by unfold pRZ at y; omega)
    clear e9
    rw [← Option.some.inj h]
    exact f1
  · skip
    rcases iteE h with h | h
    · skip
      obtain ⟨-, h⟩ := okE h
      obtain ⟨M1, e9, h⟩ := bndE h
      have f2 : FrP pRZ M M1 := by
        rw [e9]
        exact FrP.sI (FrP.refl M) (fun j y => by unfold pRZ at y; omega)
      clear e9
      rw [← Option.some.inj h]
      exact f2
    · skip
      obtain ⟨-, h⟩ := okE h
      obtain ⟨M2, e9, h⟩ := bndE h
      have f3 : FrP pRZ M M2 := by
        rw [e9]
        exact FrP.sI (FrP.refl M) (fun j y => by unfold pRZ at y; omega)
      clear e9
      rw [← Option.some.inj h]
      exact f3
theorem fz_X12_made_63 {x1 : Int32} {x2 : Int32} {M : Mem} {z : Int32 × Mem} (h : d_X12_made_63 x1 x2 M = some z) : FrP pRZ M z.2 := by
  unfold d_X12_made_63 at h
  exact FrP.trans (FrP.refl M) (fz_X12_made_64  h)
theorem fz_X12_made_59 {x1 : Int32} {x2 : Int32} {M : Mem} {z : Int32 × Mem} (h : d_X12_made_59 x1 x2 M = some z) : FrP pRZ M z.2 := by
  unfold d_X12_made_59 at h
  exact FrP.trans (FrP.refl M) (fz_X12_made_64  h)
theorem fz_X12_made_41 {x1 : Int32} {x2 : Int32} {M : Mem} {z : Int32 × Mem} (h : d_X12_made_41 x1 x2 M = some z) : FrP pRZ M z.2 := by
  unfold d_X12_made_41 at h
  rcases iteE h with h | h
  · skip
    rcases iteE h with h | h
    · skip
      exact FrP.trans (FrP.refl M) (fz_X12_made_59  h)
    · skip
      exact FrP.trans (FrP.refl M) (fz_X12_made_63  h)
  · skip
    exact FrP.trans (FrP.refl M) (fz_X12_made_63  h)
theorem fz_X12_made {x1 : Int32} {M : Mem} {z : Int32 × Mem} (h : d_X12_made x1 M = some z) : FrP pRZ M z.2 := by
  unfold d_X12_made at h
  rcases iteE h with h | h
  · skip
    rw [← Option.some.inj h]
    exact (FrP.refl M)
  · skip
    obtain ⟨y1, e9, h⟩ := bindE h
    have f1 : FrP pRZ _ _ := FrP.trans (FrP.refl M) (fz_X12_valueOf  e9)
    clear e9
    obtain ⟨-, h⟩ := okE h
    obtain ⟨-, h⟩ := okE h
    obtain ⟨M1, e9, h⟩ := bndE h
    have f2 : FrP pRZ M M1 := by
      rw [e9]
      exact FrP.sI f1 (fun j y => by unfold pRZ at y; omega)
    clear e9
    rcases iteE h with h | h
    · skip
      rcases iteE h with h | h
      · skip
        exact FrP.trans f2 (fz_X12_made_59  h)
      · skip
        exact FrP.trans f2 (fz_X12_made_41  h)
    · skip
      exact FrP.trans f2 (fz_X12_made_41  h)
theorem fz_X12_reckonsOn_194 {x2 : Int32} {M : Mem} {z : Unit × Mem} (h : d_X12_reckonsOn_194 x2 M = some z) : FrP pRZ M z.2 := by
  unfold d_X12_reckonsOn_194 at h
  obtain ⟨y1, e9, h⟩ := bindE h
  have f1 : FrP pRZ _ _ := FrP.trans (FrP.refl M) (fz_X12_pushes  e9)
  clear e9
  obtain ⟨-, h⟩ := okE h
  obtain ⟨-, h⟩ := okE h
  obtain ⟨M1, e9, h⟩ := bndE h
  have f2 : FrP pRZ M M1 := by
    rw [e9]
    exact FrP.sI f1 (fun j y => by unfold pRZ at y; omega)
  clear e9
  rw [← Option.some.inj h]
  exact f2
theorem fz_X12_reckonsOn_171 {x3 : Int32} {s1 : Int32} {s2 : Int32} {M : Mem} {z : Unit × Mem} (h : d_X12_reckonsOn_171 x3 s1 s2 M = some z) : FrP pRZ M z.2 := by
  unfold d_X12_reckonsOn_171 at h
  obtain ⟨y1, e9, h⟩ := bindE h
  have f1 : FrP pRZ _ _ := FrP.trans (FrP.refl M) (fz_X12_gives  e9)
  clear e9
  obtain ⟨-, h⟩ := okE h
  obtain ⟨-, h⟩ := okE h
  obtain ⟨M1, e9, h⟩ := bndE h
  have f2 : FrP pRZ M M1 := by
    rw [e9]
    exact FrP.sI f1 (fun j y => by unfold pRZ at y; omega)
  clear e9
  obtain ⟨y2, e9, h⟩ := bindE h
  have f3 : FrP pRZ _ _ := FrP.trans f2 (fz_X12_made  e9)
  clear e9
  exact FrP.trans f3 (fz_X12_reckonsOn_194  h)
theorem fz_X12_reckonsOn_125 {s0 : Int32} {M : Mem} {z : Unit × Mem} (h : d_X12_reckonsOn_125 s0 M = some z) : FrP pRZ M z.2 := by
  unfold d_X12_reckonsOn_125 at h
  obtain ⟨y1, e9, h⟩ := bindE h
  have f1 : FrP pRZ _ _ := FrP.trans (FrP.refl M) (fz_X12_top  e9)
  clear e9
  obtain ⟨-, h⟩ := okE h
  rcases iteE h with h | h
  · skip
    obtain ⟨y4, e9, h⟩ := bindE h
    have f2 : FrP pRZ _ _ := FrP.trans f1 (fz_X12_top  e9)
    clear e9
    obtain ⟨-, h⟩ := okE h
    exact FrP.trans f2 (fz_X12_reckonsOn_171  h)
  · skip
    obtain ⟨y2, e9, h⟩ := bindE h
    have f3 : FrP pRZ _ _ := FrP.trans f1 (fz_X12_top  e9)
    clear e9
    obtain ⟨-, h⟩ := okE h
    obtain ⟨y3, e9, h⟩ := bindE h
    have f4 : FrP pRZ _ _ := FrP.trans f3 (fz_X12_rounded  e9)
    clear e9
    exact FrP.trans f4 (fz_X12_reckonsOn_171  h)
theorem fz_X12_reckonsOn_124 {M : Mem} {z : Unit × Mem} (h : d_X12_reckonsOn_124 M = some z) : FrP pRZ M z.2 := by
  unfold d_X12_reckonsOn_124 at h
  exact FrP.trans (FrP.refl M) (fz_X12_reckonsOn_125  h)
theorem fz_X12_reckonsOn_57 {x1 : Int32} {s0 : Int32} {M : Mem} {z : Unit × Mem} (h : d_X12_reckonsOn_57 x1 s0 M = some z) : FrP pRZ M z.2 := by
  unfold d_X12_reckonsOn_57 at h
  obtain ⟨y1, e9, h⟩ := bindE h
  have f1 : FrP pRZ _ _ := FrP.trans (FrP.refl M) (fz_X12_top  e9)
  clear e9
  obtain ⟨y2, e9, h⟩ := bindE h
  have f2 : FrP pRZ _ _ := FrP.trans f1 (fz_X12_top  e9)
  clear e9
  obtain ⟨y3, e9, h⟩ := bindE h
  have f3 : FrP pRZ _ _ := FrP.trans f2 (fz_X12_reckons  e9)
  clear e9
  obtain ⟨-, h⟩ := okE h
  obtain ⟨-, h⟩ := okE h
  obtain ⟨M1, e9, h⟩ := bndE h
  have f4 : FrP pRZ M M1 := by
    rw [e9]
    exact FrP.sI f3 (fun j y => by unfold pRZ at y; omega)
  clear e9
  obtain ⟨y4, e9, h⟩ := bindE h
  have f5 : FrP pRZ _ _ := FrP.trans f4 (fz_X12_made  e9)
  clear e9
  exact FrP.trans f5 (fz_X12_reckonsOn_194  h)
theorem fz_X12_reckonsOn_56 {x1 : Int32} {M : Mem} {z : Unit × Mem} (h : d_X12_reckonsOn_56 x1 M = some z) : FrP pRZ M z.2 := by
  unfold d_X12_reckonsOn_56 at h
  exact FrP.trans (FrP.refl M) (fz_X12_reckonsOn_57  h)
theorem fz_X12_reckonsOn {x1 : Int32} {M : Mem} {z : Unit × Mem} (h : d_X12_reckonsOn x1 M = some z) : FrP pRZ M z.2 := by
  unfold d_X12_reckonsOn at h
  obtain ⟨y1, e9, h⟩ := bindE h
  have f1 : FrP pRZ _ _ := FrP.trans (FrP.refl M) (fz_X12_isPair  e9)
  clear e9
  rcases iteE h with h | h
  · skip
    rcases iteE h with h | h
    · skip
      exact FrP.trans f1 (fz_X12_reckonsOn_124  h)
    · skip
      obtain ⟨y2, e9, h⟩ := bindE h
      have f2 : FrP pRZ _ _ := FrP.trans f1 (fz_X12_top  e9)
      clear e9
      obtain ⟨-, h⟩ := okE h
      obtain ⟨-, h⟩ := okE h
      rcases iteE h with h | h
      · skip
        exact FrP.trans f2 (fz_X12_reckonsOn_124  h)
      · skip
        exact FrP.trans f2 (fz_X12_reckonsOn_125  h)
  · skip
    rcases iteE h with h | h
    · skip
      exact FrP.trans f1 (fz_X12_reckonsOn_56  h)
    · skip
      obtain ⟨y3, e9, h⟩ := bindE h
      have f3 : FrP pRZ _ _ := FrP.trans f1 (fz_X12_top  e9)
      clear e9
      obtain ⟨-, h⟩ := okE h
      obtain ⟨-, h⟩ := okE h
      rcases iteE h with h | h
      · skip
        exact FrP.trans f3 (fz_X12_reckonsOn_56  h)
      · skip
        obtain ⟨y4, e9, h⟩ := bindE h
        have f4 : FrP pRZ _ _ := FrP.trans f3 (fz_X12_top  e9)
        clear e9
        obtain ⟨-, h⟩ := okE h
        obtain ⟨-, h⟩ := okE h
        rcases iteE h with h | h
        · skip
          exact FrP.trans f4 (fz_X12_reckonsOn_56  h)
        · skip
          exact FrP.trans f4 (fz_X12_reckonsOn_57  h)
theorem fz_X12_makes_61 {x3 : Int32} {M : Mem} {z : Unit × Mem} (h : d_X12_makes_61 x3 M = some z) : FrP pRZ M z.2 := by
  unfold d_X12_makes_61 at h
  obtain ⟨y1, e9, h⟩ := bindE h
  have f1 : FrP pRZ _ _ := FrP.trans (FrP.refl M) (fz_X12_pushes  e9)
  clear e9
  obtain ⟨-, h⟩ := okE h
  obtain ⟨-, h⟩ := okE h
  obtain ⟨M1, e9, h⟩ := bndE h
  have f2 : FrP pRZ M M1 := by
    rw [e9]
    exact FrP.sI f1 (fun j y => by unfold pRZ at y; omega)
  clear e9
  rw [← Option.some.inj h]
  exact f2
theorem fz_X12_makes {x1 : Int32} {M : Mem} {z : Unit × Mem} (h : d_X12_makes x1 M = some z) : FrP pRZ M z.2 := by
  unfold d_X12_makes at h
  obtain ⟨-, h⟩ := okE h
  obtain ⟨b1, -, h⟩ := bndE h
  obtain ⟨-, h⟩ := okE h
  obtain ⟨M1, e9, h⟩ := bndE h
  have f2 : FrP pRZ M M1 := by
    rw [e9]
    exact FrP.sI (FrP.refl M) (fun j y => by unfold pRZ at y; omega)
  clear e9
  obtain ⟨y1, e9, h⟩ := bindE h
  have f3 : FrP pRZ _ _ := FrP.trans f2 (fz_X12_gives  e9)
  clear e9
  obtain ⟨M2, e9, h⟩ := bndE h
  have f4 : FrP pRZ M M2 := by
    rw [e9]
    exact FrP.sI f3 (fun j y => by unfold pRZ at y; omega)
  clear e9
  rcases iteE h with h | h
  · skip
    exact FrP.trans f4 (fz_X12_makes_61  h)
  · skip
    obtain ⟨y2, e9, h⟩ := bindE h
    have f5 : FrP pRZ _ _ := FrP.trans f4 (fz_X12_valueOf  e9)
    clear e9
    obtain ⟨-, h⟩ := okE h
    obtain ⟨M3, e9, h⟩ := bndE h
    have f6 : FrP pRZ M M3 := by
      rw [e9]
      exact FrP.sI f5 (fun j y => by unfold pRZ at y; omega)
    clear e9
    exact FrP.trans f6 (fz_X12_makes_61  h)
theorem fz_X12_fetches_77 {s1 : Int32} {M : Mem} {z : Unit × Mem} (h : d_X12_fetches_77 s1 M = some z) : FrP pRZ M z.2 := by
  unfold d_X12_fetches_77 at h
  obtain ⟨y1, e9, h⟩ := bindE h
  have f1 : FrP pRZ _ _ := FrP.trans (FrP.refl M) (fz_X12_pushes  e9)
  clear e9
  obtain ⟨-, h⟩ := okE h
  obtain ⟨-, h⟩ := okE h
  obtain ⟨M1, e9, h⟩ := bndE h
  have f2 : FrP pRZ M M1 := by
    rw [e9]
    exact FrP.sI f1 (fun j y => by unfold pRZ at y; omega)
  clear e9
  rw [← Option.some.inj h]
  exact f2
theorem fz_X12_fetches {x1 : Int32} {M : Mem} {z : Unit × Mem} (h : d_X12_fetches x1 M = some z) : FrP pRZ M z.2 := by
  unfold d_X12_fetches at h
  obtain ⟨y1, e9, h⟩ := bindE h
  have f1 : FrP pRZ _ _ := FrP.trans (FrP.refl M) (fz_X12_top  e9)
  clear e9
  obtain ⟨-, h⟩ := okE h
  obtain ⟨b1, -, h⟩ := bndE h
  obtain ⟨-, h⟩ := okE h
  obtain ⟨-, h⟩ := okE h
  obtain ⟨-, h⟩ := okE h
  obtain ⟨y2, e9, h⟩ := bindE h
  have f3 : FrP pRZ _ _ := FrP.trans f1 (fz_X12_gives  e9)
  clear e9
  obtain ⟨-, h⟩ := okE h
  obtain ⟨-, h⟩ := okE h
  obtain ⟨M1, e9, h⟩ := bndE h
  have f4 : FrP pRZ M M1 := by
    rw [e9]
    exact FrP.sI f3 (fun j y => by unfold pRZ at y; omega)
  clear e9
  rcases iteE h with h | h
  · skip
    exact FrP.trans f4 (fz_X12_fetches_77  h)
  · skip
    obtain ⟨y3, e9, h⟩ := bindE h
    have f5 : FrP pRZ _ _ := FrP.trans f4 (fz_X12_newValue  e9)
    clear e9
    exact FrP.trans f5 (fz_X12_fetches_77  h)
theorem fz_X12_executes_78 {s1 : Int32} {s2 : Int32} {M : Mem} {z : Unit × Mem} (h : d_X12_executes_78 s1 s2 M = some z) : FrP pRZ M z.2 := by
  unfold d_X12_executes_78 at h
  obtain ⟨y1, e9, h⟩ := bindE h
  have f1 : FrP pRZ _ _ := FrP.trans (FrP.refl M) (fz_X12_gives  e9)
  clear e9
  obtain ⟨y2, e9, h⟩ := bindE h
  have f2 : FrP pRZ _ _ := FrP.trans f1 (fz_X12_made  e9)
  clear e9
  obtain ⟨y3, e9, h⟩ := bindE h
  have f3 : FrP pRZ _ _ := FrP.trans f2 (fz_X12_pushes  e9)
  clear e9
  obtain ⟨-, h⟩ := okE h
  obtain ⟨-, h⟩ := okE h
  obtain ⟨M1, e9, h⟩ := bndE h
  have f4 : FrP pRZ M M1 := by
    rw [e9]
    exact FrP.sI f3 (fun j y => by unfold pRZ at y; omega)
  clear e9
  rw [← Option.some.inj h]
  exact f4
theorem fz_X12_executes_59 {x2 : Int32} {x3 : Int32} {M : Mem} {z : Unit × Mem} (h : d_X12_executes_59 x2 x3 M = some z) : FrP pRZ M z.2 := by
  unfold d_X12_executes_59 at h
  rcases iteE h with h | h
  · skip
    exact FrP.trans (FrP.refl M) (fz_X12_executes_78  h)
  · skip
    obtain ⟨-, h⟩ := okE h
    exact FrP.trans (FrP.refl M) (fz_X12_executes_78  h)
theorem fz_X12_executes_310 {x2 : Int32} {M : Mem} {z : Unit × Mem} (h : d_X12_executes_310 x2 M = some z) : FrP pRZ M z.2 := by
  unfold d_X12_executes_310 at h
  obtain ⟨y1, e9, h⟩ := bindE h
  have f1 : FrP pRZ _ _ := FrP.trans (FrP.refl M) (fz_X12_reckonsOn  e9)
  clear e9
  rw [← Option.some.inj h]
  exact f1
theorem fz_X12_executes {M : Mem} {z : Unit × Mem} (h : d_X12_executes M = some z) : FrP pRZ M z.2 := by
  unfold d_X12_executes at h
  obtain ⟨-, h⟩ := okE h
  obtain ⟨-, h⟩ := okE h
  obtain ⟨b1, -, h⟩ := bndE h
  obtain ⟨-, h⟩ := okE h
  obtain ⟨b2, -, h⟩ := bndE h
  obtain ⟨-, h⟩ := okE h
  obtain ⟨b3, -, h⟩ := bndE h
  obtain ⟨M1, e9, h⟩ := bndE h
  have f4 : FrP pRZ M M1 := by
    rw [e9]
    exact FrP.sI (FrP.refl M) (fun j y => by unfold pRZ at y; omega)
  clear e9
  rcases iteE h with h | h
  · skip
    exact FrP.trans f4 (fz_X12_executes_59  h)
  · skip
    rcases iteE h with h | h
    · skip
      exact FrP.trans f4 (fz_X12_executes_59  h)
    · skip
      rcases iteE h with h | h
      · skip
        obtain ⟨-, h⟩ := okE h
        obtain ⟨-, h⟩ := okE h
        obtain ⟨M12, e9, h⟩ := bndE h
        have f5 : FrP pRZ M M12 := by
          rw [e9]
          exact FrP.sI f4 (fun j y => by unfold pRZ at y; omega)
        clear e9
        obtain ⟨y18, e9, h⟩ := bindE h
        have f6 : FrP pRZ _ _ := FrP.trans f5 (fz_X12_top  e9)
        clear e9
        obtain ⟨y19, e9, h⟩ := bindE h
        have f7 : FrP pRZ _ _ := FrP.trans f6 (fz_X12_copies  e9)
        clear e9
        obtain ⟨-, h⟩ := okE h
        obtain ⟨-, h⟩ := okE h
        obtain ⟨M13, e9, h⟩ := bndE h
        have f8 : FrP pRZ M M13 := by
          rw [e9]
          exact FrP.sI f7 (fun j y => by unfold pRZ at y; omega)
        clear e9
        rw [← Option.some.inj h]
        exact f8
      · skip
        rcases iteE h with h | h
        · skip
          obtain ⟨y16, e9, h⟩ := bindE h
          have f9 : FrP pRZ _ _ := FrP.trans f4 (fz_X12_top  e9)
          clear e9
          obtain ⟨y17, e9, h⟩ := bindE h
          have f10 : FrP pRZ _ _ := FrP.trans f9 (fz_X12_copies  e9)
          clear e9
          obtain ⟨-, h⟩ := okE h
          obtain ⟨-, h⟩ := okE h
          obtain ⟨M10, e9, h⟩ := bndE h
          have f11 : FrP pRZ M M10 := by
            rw [e9]
            exact FrP.sI f10 (fun j y => by unfold pRZ at y; omega)
          clear e9
          obtain ⟨-, h⟩ := okE h
          obtain ⟨-, h⟩ := okE h
          obtain ⟨M11, e9, h⟩ := bndE h
          have f12 : FrP pRZ M M11 := by
            rw [e9]
            exact FrP.sI f11 (fun j y => by unfold pRZ at y; omega)
          clear e9
          rw [← Option.some.inj h]
          exact f12
        · skip
          rcases iteE h with h | h
          · skip
            obtain ⟨-, h⟩ := okE h
            obtain ⟨-, h⟩ := okE h
            obtain ⟨M8, e9, h⟩ := bndE h
            have f13 : FrP pRZ M M8 := by
              rw [e9]
              exact FrP.sI f4 (fun j y => by unfold pRZ at y; omega)
            clear e9
            obtain ⟨y13, e9, h⟩ := bindE h
            have f14 : FrP pRZ _ _ := FrP.trans f13 (fz_X12_top  e9)
            clear e9
            obtain ⟨y14, e9, h⟩ := bindE h
            have f15 : FrP pRZ _ _ := FrP.trans f14 (fz_X12_top  e9)
            clear e9
            obtain ⟨y15, e9, h⟩ := bindE h
            have f16 : FrP pRZ _ _ := FrP.trans f15 (fz_X12_copies  e9)
            clear e9
            obtain ⟨-, h⟩ := okE h
            obtain ⟨-, h⟩ := okE h
            obtain ⟨M9, e9, h⟩ := bndE h
            have f17 : FrP pRZ M M9 := by
              rw [e9]
              exact FrP.sI f16 (fun j y => by unfold pRZ at y; omega)
            clear e9
            rw [← Option.some.inj h]
            exact f17
          · skip
            rcases iteE h with h | h
            · skip
              obtain ⟨-, h⟩ := okE h
              obtain ⟨-, h⟩ := okE h
              obtain ⟨M6, e9, h⟩ := bndE h
              have f18 : FrP pRZ M M6 := by
                rw [e9]
                exact FrP.sI f4 (fun j y => by unfold pRZ at y; omega)
              clear e9
              obtain ⟨-, h⟩ := okE h
              obtain ⟨-, h⟩ := okE h
              obtain ⟨M7, e9, h⟩ := bndE h
              have f19 : FrP pRZ M M7 := by
                rw [e9]
                exact FrP.sI f18 (fun j y => by unfold pRZ at y; omega)
              clear e9
              rw [← Option.some.inj h]
              exact f19
            · skip
              obtain ⟨y1, e9, h⟩ := bindE h
              have f20 : FrP pRZ _ _ := FrP.trans f4 (fz_X12_isPair  e9)
              clear e9
              rcases iteE h with h | h
              · skip
                rcases iteE h with h | h
                · skip
                  exact FrP.trans f20 (fz_X12_executes_310  h)
                · skip
                  rcases iteE h with h | h
                  · skip
                    obtain ⟨-, h⟩ := okE h
                    obtain ⟨M5, e9, h⟩ := bndE h
                    have f21 : FrP pRZ M M5 := by
                      rw [e9]
                      exact FrP.sI f20 (fun j y => by unfold pRZ at y; omega)
                    clear e9
                    rw [← Option.some.inj h]
                    exact f21
                  · skip
                    rcases iteE h with h | h
                    · skip
                      obtain ⟨y11, e9, h⟩ := bindE h
                      have f22 : FrP pRZ _ _ := FrP.trans f20 (fz_X12_top  e9)
                      clear e9
                      obtain ⟨y12, e9, h⟩ := bindE h
                      have f23 : FrP pRZ _ _ := FrP.trans f22 (fz_X12_isNull  e9)
                      clear e9
                      obtain ⟨-, h⟩ := okE h
                      obtain ⟨-, h⟩ := okE h
                      obtain ⟨M2, e9, h⟩ := bndE h
                      have f24 : FrP pRZ M M2 := by
                        rw [e9]
                        exact FrP.sI f23 (fun j y => by unfold pRZ at y; omega)
                      clear e9
                      rcases iteE h with h | h
                      · skip
                        obtain ⟨-, h⟩ := okE h
                        obtain ⟨-, h⟩ := okE h
                        obtain ⟨M3, e9, h⟩ := bndE h
                        have f25 : FrP pRZ M M3 := by
                          rw [e9]
                          exact FrP.sI f24 (fun j y => by unfold pRZ at y; omega)
                        clear e9
                        rw [← Option.some.inj h]
                        exact f25
                      · skip
                        obtain ⟨-, h⟩ := okE h
                        obtain ⟨M4, e9, h⟩ := bndE h
                        have f26 : FrP pRZ M M4 := by
                          rw [e9]
                          exact FrP.sI f24 (fun j y => by unfold pRZ at y; omega)
                        clear e9
                        rw [← Option.some.inj h]
                        exact f26
                    · skip
                      rcases iteE h with h | h
                      · skip
                        obtain ⟨y10, e9, h⟩ := bindE h
                        have f27 : FrP pRZ _ _ := FrP.trans f20 (fz_X12_makes  e9)
                        clear e9
                        rw [← Option.some.inj h]
                        exact f27
                      · skip
                        rcases iteE h with h | h
                        · skip
                          obtain ⟨y9, e9, h⟩ := bindE h
                          have f28 : FrP pRZ _ _ := FrP.trans f20 (fz_X12_fetches  e9)
                          clear e9
                          rw [← Option.some.inj h]
                          exact f28
                        · skip
                          rcases iteE h with h | h
                          · skip
                            obtain ⟨y8, e9, h⟩ := bindE h
                            have f29 : FrP pRZ _ _ := FrP.trans f20 (fz_X12_puts  e9)
                            clear e9
                            rw [← Option.some.inj h]
                            exact f29
                          · skip
                            rcases iteE h with h | h
                            · skip
                              obtain ⟨-, h⟩ := okE h
                              obtain ⟨y7, e9, h⟩ := bindE h
                              have f30 : FrP pRZ _ _ := FrP.trans f20 (fz_X12_calls  e9)
                              clear e9
                              rw [← Option.some.inj h]
                              exact f30
                            · skip
                              rcases iteE h with h | h
                              · skip
                                obtain ⟨y4, e9, h⟩ := bindE h
                                have f31 : FrP pRZ _ _ := FrP.trans f20 (fz_X12_top  e9)
                                clear e9
                                obtain ⟨-, h⟩ := okE h
                                obtain ⟨-, h⟩ := okE h
                                obtain ⟨-, h⟩ := okE h
                                obtain ⟨y5, e9, h⟩ := bindE h
                                have f32 : FrP pRZ _ _ := FrP.trans f31 (fz_X12_methodOf  e9)
                                clear e9
                                obtain ⟨y6, e9, h⟩ := bindE h
                                have f33 : FrP pRZ _ _ := FrP.trans f32 (fz_X12_calls  e9)
                                clear e9
                                rw [← Option.some.inj h]
                                exact f33
                              · skip
                                rcases iteE h with h | h
                                · skip
                                  obtain ⟨y3, e9, h⟩ := bindE h
                                  have f34 : FrP pRZ _ _ := FrP.trans f20 (fz_X12_returns  e9)
                                  clear e9
                                  rw [← Option.some.inj h]
                                  exact f34
                                · skip
                                  obtain ⟨y2, e9, h⟩ := bindE h
                                  have f35 : FrP pRZ _ _ := FrP.trans f20 (fz_X12_tells  e9)
                                  clear e9
                                  rw [← Option.some.inj h]
                                  exact f35
              · skip
                exact FrP.trans f20 (fz_X12_executes_310  h)
theorem fz_X12_endsBy {x1 : Int32} {M : Mem} {z : Unit × Mem} (h : d_X12_endsBy x1 M = some z) : FrP pRZ M z.2 := by
  unfold d_X12_endsBy at h
  obtain ⟨y1, e9, h⟩ := bindE h
  have f1 : FrP pRZ _ _ := FrP.trans (FrP.refl M) (fz_X12_breaksOff  e9)
  clear e9
  obtain ⟨M1, e9, h⟩ := bndE h
  have f2 : FrP pRZ M M1 := by
    rw [e9]
    exact FrP.sI f1 (fun j y => by unfold pRZ at y; omega)
  clear e9
  obtain ⟨M2, e9, h⟩ := bndE h
  have f3 : FrP pRZ M M2 := by
    rw [e9]
    exact FrP.sI f2 (fun j y => by unfold pRZ at y; omega)
  clear e9
  obtain ⟨M3, e9, h⟩ := bndE h
  have f4 : FrP pRZ M M3 := by
    rw [e9]
    exact FrP.sI f3 (fun j y => by unfold pRZ at y; omega)
  clear e9
  obtain ⟨-, h⟩ := okE h
  obtain ⟨M4, e9, h⟩ := bndE h
  have f5 : FrP pRZ M M4 := by
    rw [e9]
    exact FrP.sI f4 (fun j y => by unfold pRZ at y; omega)
  clear e9
  obtain ⟨-, h⟩ := okE h
  obtain ⟨-, h⟩ := okE h
  obtain ⟨M5, e9, h⟩ := bndE h
  have f6 : FrP pRZ M M5 := by
    rw [e9]
    exact FrP.sI f5 (fun j y => by unfold pRZ at y; omega)
  clear e9
  rw [← Option.some.inj h]
  exact f6
theorem fz_X12_failsBy_44 {x1 : Int32} {x2 : Int32} {M : Mem} {z : Unit × Mem} (h : d_X12_failsBy_44 x1 x2 M = some z) : FrP pRZ M z.2 := by
  unfold d_X12_failsBy_44 at h
  rcases iteE h with h | h
  · skip
    obtain ⟨M1, e9, h⟩ := bndE h
    have f1 : FrP pRZ M M1 := by
      rw [e9]
      exact FrP.sI (FrP.refl M) (fun j y => by unfold pRZ at y; omega)
    clear e9
    obtain ⟨-, h⟩ := okE h
    obtain ⟨-, h⟩ := okE h
    obtain ⟨-, h⟩ := okE h
    obtain ⟨M2, e9, h⟩ := bndE h
    have f2 : FrP pRZ M M2 := by
      rw [e9]
      exact FrP.sI f1 (fun j y => by unfold pRZ at y; omega)
    clear e9
    obtain ⟨-, h⟩ := okE h
    obtain ⟨M3, e9, h⟩ := bndE h
    have f3 : FrP pRZ M M3 := by
      rw [e9]
      exact FrP.sI f2 (fun j y => by unfold pRZ at y; omega)
    clear e9
    obtain ⟨y1, e9, h⟩ := bindE h
    have f4 : FrP pRZ _ _ := FrP.trans f3 (fz_X12_gives  e9)
    clear e9
    obtain ⟨y2, e9, h⟩ := bindE h
    have f5 : FrP pRZ _ _ := FrP.trans f4 (fz_X12_pushes  e9)
    clear e9
    rw [← Option.some.inj h]
    exact f5
  · skip
    obtain ⟨y3, e9, h⟩ := bindE h
    have f6 : FrP pRZ _ _ := FrP.trans (FrP.refl M) (fz_X12_endsBy  e9)
    clear e9
    rw [← Option.some.inj h]
    exact f6
theorem fz_X12_failsBy_19b {k19 : (Int32) → Mem → Option (Unit × Mem)} {x1 : Int32} {x2 : Int32} {M : Mem} {z : Unit × Mem} (hk19 : ∀ a M z, k19 a M = some z → FrP pRZ M z.2) (h : d_X12_failsBy_19b k19 x1 x2 M = some z) : FrP pRZ M z.2 := by
  unfold d_X12_failsBy_19b at h
  rcases iteE h with h | h
  · skip
    exact FrP.trans (FrP.refl M) (fz_X12_failsBy_44  h)
  · skip
    obtain ⟨-, h⟩ := okE h
    obtain ⟨-, h⟩ := okE h
    rcases iteE h with h | h
    · skip
      obtain ⟨b1, -, h⟩ := bndE h
      exact FrP.trans (FrP.refl M) (hk19 _ _ _ h)
    · skip
      exact FrP.trans (FrP.refl M) (fz_X12_failsBy_44  h)
theorem fz_X12_failsBy_19 {x1 : Int32} : ∀ n a M z, d_X12_failsBy_19 x1 n a M = some z → FrP pRZ M z.2 := lp_ind (G := fun _ M z => FrP pRZ M z.2) (fun k hk a M z h => fz_X12_failsBy_19b hk h)
theorem fz_X12_failsBy {x1 : Int32} {M : Mem} {z : Unit × Mem} (h : d_X12_failsBy x1 M = some z) : FrP pRZ M z.2 := by
  unfold d_X12_failsBy at h
  obtain ⟨y1, e9, h⟩ := bindE h
  have f1 : FrP pRZ _ _ := FrP.trans (FrP.refl M) (fz_X12_breaksOff  e9)
  clear e9
  obtain ⟨M1, e9, h⟩ := bndE h
  have f2 : FrP pRZ M M1 := by
    rw [e9]
    exact FrP.sI f1 (fun j y => by unfold pRZ at y; omega)
  clear e9
  obtain ⟨b1, -, h⟩ := bndE h
  exact FrP.trans f2 (fz_X12_failsBy_19  _ _ _ _ h)
theorem fz_X12_looksUp_63b {k63 : (Int32) → Mem → Option (Unit × Mem)} {x2 : Int32} {x5 : Int32} {x6 : Int32} {M : Mem} {z : Unit × Mem} (hk63 : ∀ a M z, k63 a M = some z → FrP pRZ M z.2) (h : d_X12_looksUp_63b k63 x2 x5 x6 M = some z) : FrP pRZ M z.2 := by
  unfold d_X12_looksUp_63b at h
  obtain ⟨-, h⟩ := okE h
  rcases iteE h with h | h
  · skip
    obtain ⟨-, h⟩ := okE h
    obtain ⟨-, h⟩ := okE h
    obtain ⟨M1, e9, h⟩ := bndE h
    have f1 : FrP pRZ M M1 := by
      rw [e9]
      exact FrP.sI (FrP.refl M) (fun j y => by unfold pRZ at y; omega)
    clear e9
    obtain ⟨-, h⟩ := okE h
    rcases iteE h with h | h
    · skip
      obtain ⟨-, h⟩ := okE h
      obtain ⟨M4, e9, h⟩ := bndE h
      have f2 : FrP pRZ M M4 := by
        rw [e9]
        exact FrP.sI f1 (fun j y => by unfold pRZ at y; omega)
      clear e9
      rw [← Option.some.inj h]
      exact f2
    · skip
      obtain ⟨-, h⟩ := okE h
      obtain ⟨-, h⟩ := okE h
      obtain ⟨M2, e9, h⟩ := bndE h
      have f3 : FrP pRZ M M2 := by
        rw [e9]
        exact FrP.sI f1 (fun j y => by unfold pRZ at y; omega)
      clear e9
      obtain ⟨-, h⟩ := okE h
      obtain ⟨-, h⟩ := okE h
      obtain ⟨M3, e9, h⟩ := bndE h
      have f4 : FrP pRZ M M3 := by
        rw [e9]
        exact FrP.sI f3 (fun j y => by unfold pRZ at y; omega)
      clear e9
      rw [← Option.some.inj h]
      exact f4
  · skip
    obtain ⟨-, h⟩ := okE h
    rcases iteE h with h | h
    · skip
      obtain ⟨-, h⟩ := okE h
      obtain ⟨-, h⟩ := okE h
      obtain ⟨M5, e9, h⟩ := bndE h
      have f5 : FrP pRZ M M5 := by
        rw [e9]
        exact FrP.sI (FrP.refl M) (fun j y => by unfold pRZ at y; omega)
      clear e9
      rw [← Option.some.inj h]
      exact f5
    · skip
      obtain ⟨b1, -, h⟩ := bndE h
      exact FrP.trans (FrP.refl M) (hk63 _ _ _ h)
theorem fz_X12_looksUp_63 {x2 : Int32} {x5 : Int32} : ∀ n a M z, d_X12_looksUp_63 x2 x5 n a M = some z → FrP pRZ M z.2 := lp_ind (G := fun _ M z => FrP pRZ M z.2) (fun k hk a M z h => fz_X12_looksUp_63b hk h)
theorem fz_X12_looksUp_47 {x2 : Int32} {s0 : Int32} {M : Mem} {z : Unit × Mem} (h : d_X12_looksUp_47 x2 s0 M = some z) : FrP pRZ M z.2 := by
  unfold d_X12_looksUp_47 at h
  obtain ⟨-, h⟩ := okE h
  rcases iteE h with h | h
  · skip
    rw [← Option.some.inj h]
    exact (FrP.refl M)
  · skip
    exact FrP.trans (FrP.refl M) (fz_X12_looksUp_63  _ _ _ _ h)
theorem fz_X12_looksUp_11 {x1 : Int32} {x2 : Int32} {s0 : Int32} {M : Mem} {z : Unit × Mem} (h : d_X12_looksUp_11 x1 x2 s0 M = some z) : FrP pRZ M z.2 := by
  unfold d_X12_looksUp_11 at h
  obtain ⟨y1, e9, h⟩ := bindE h
  have f1 : FrP pRZ _ _ := FrP.trans (FrP.refl M) (fz_X12_top  e9)
  clear e9
  obtain ⟨-, h⟩ := okE h
  obtain ⟨-, h⟩ := okE h
  obtain ⟨b1, -, h⟩ := bndE h
  rcases iteE h with h | h
  · skip
    obtain ⟨-, h⟩ := okE h
    exact FrP.trans f1 (fz_X12_looksUp_47  h)
  · skip
    exact FrP.trans f1 (fz_X12_looksUp_47  h)
theorem fz_X12_looksUp {x1 : Int32} {x2 : Int32} {M : Mem} {z : Unit × Mem} (h : d_X12_looksUp x1 x2 M = some z) : FrP pRZ M z.2 := by
  unfold d_X12_looksUp at h
  rcases iteE h with h | h
  · skip
    exact FrP.trans (FrP.refl M) (fz_X12_looksUp_11  h)
  · skip
    exact FrP.trans (FrP.refl M) (fz_X12_looksUp_11  h)
theorem fz_X12_jumpsBack_31 {x1 : Int32} {M : Mem} {z : Unit × Mem} (h : d_X12_jumpsBack_31 x1 M = some z) : FrP pRZ M z.2 := by
  unfold d_X12_jumpsBack_31 at h
  obtain ⟨y1, e9, h⟩ := bindE h
  have f1 : FrP pRZ _ _ := FrP.trans (FrP.refl M) (fz_X12_breaksOff  e9)
  clear e9
  obtain ⟨y2, e9, h⟩ := bindE h
  have f2 : FrP pRZ _ _ := FrP.trans f1 (fz_X12_rootAt  e9)
  clear e9
  rcases iteE h with h | h
  · skip
    obtain ⟨-, h⟩ := okE h
    obtain ⟨-, h⟩ := okE h
    obtain ⟨M1, e9, h⟩ := bndE h
    have f3 : FrP pRZ M M1 := by
      rw [e9]
      exact FrP.sI f2 (fun j y => by unfold pRZ at y; omega)
    clear e9
    obtain ⟨-, h⟩ := okE h
    rcases iteE h with h | h
    · skip
      rw [← Option.some.inj h]
      exact f3
    · skip
      obtain ⟨-, h⟩ := okE h
      rcases iteE h with h | h
      · skip
        rw [← Option.some.inj h]
        exact f3
      · skip
        obtain ⟨y3, e9, h⟩ := bindE h
        have f4 : FrP pRZ _ _ := FrP.trans f3 (fz_X12_records  e9)
        clear e9
        rw [← Option.some.inj h]
        exact f4
  · skip
    obtain ⟨y4, e9, h⟩ := bindE h
    have f5 : FrP pRZ _ _ := FrP.trans f2 (fz_X12_enters  e9)
    clear e9
    rw [← Option.some.inj h]
    exact f5
theorem fz_X12_jumpsBack {x1 : Int32} {M : Mem} {z : Unit × Mem} (h : d_X12_jumpsBack x1 M = some z) : FrP pRZ M z.2 := by
  unfold d_X12_jumpsBack at h
  rcases iteE h with h | h
  · skip
    exact FrP.trans (FrP.refl M) (fz_X12_jumpsBack_31  h)
  · skip
    rcases iteE h with h | h
    · skip
      rcases iteE h with h | h
      · skip
        obtain ⟨y1, e9, h⟩ := bindE h
        have f1 : FrP pRZ _ _ := FrP.trans (FrP.refl M) (fz_X12_ends  e9)
        clear e9
        rw [← Option.some.inj h]
        exact f1
      · skip
        exact FrP.trans (FrP.refl M) (fz_X12_jumpsBack_31  h)
    · skip
      exact FrP.trans (FrP.refl M) (fz_X12_jumpsBack_31  h)
theorem fz_X12_plainly_215 {x2 : Int32} {x3 : Int32} {x5 : Int32} {M : Mem} {z : Unit × Mem} (h : d_X12_plainly_215 x2 x3 x5 M = some z) : FrP pRZ M z.2 := by
  unfold d_X12_plainly_215 at h
  obtain ⟨y1, e9, h⟩ := bindE h
  have f1 : FrP pRZ _ _ := FrP.trans (FrP.refl M) (fz_X12_executes  e9)
  clear e9
  rcases iteE h with h | h
  · skip
    rw [← Option.some.inj h]
    exact f1
  · skip
    obtain ⟨-, h⟩ := okE h
    obtain ⟨y2, e9, h⟩ := bindE h
    have f2 : FrP pRZ _ _ := FrP.trans f1 (fz_X12_jumpsBack  e9)
    clear e9
    rw [← Option.some.inj h]
    exact f2
theorem fz_X12_plainly_208 {x2 : Int32} {x3 : Int32} {x4 : Int32} {x5 : Int32} {M : Mem} {z : Unit × Mem} (h : d_X12_plainly_208 x2 x3 x4 x5 M = some z) : FrP pRZ M z.2 := by
  unfold d_X12_plainly_208 at h
  obtain ⟨y1, e9, h⟩ := bindE h
  have f1 : FrP pRZ _ _ := FrP.trans (FrP.refl M) (fz_X12_looksUp  e9)
  clear e9
  exact FrP.trans f1 (fz_X12_plainly_215  h)
theorem fz_X12_plainly_187 {x2 : Int32} {x3 : Int32} {x4 : Int32} {x5 : Int32} {M : Mem} {z : Unit × Mem} (h : d_X12_plainly_187 x2 x3 x4 x5 M = some z) : FrP pRZ M z.2 := by
  unfold d_X12_plainly_187 at h
  rcases iteE h with h | h
  · skip
    exact FrP.trans (FrP.refl M) (fz_X12_plainly_208  h)
  · skip
    rcases iteE h with h | h
    · skip
      exact FrP.trans (FrP.refl M) (fz_X12_plainly_208  h)
    · skip
      rcases iteE h with h | h
      · skip
        exact FrP.trans (FrP.refl M) (fz_X12_plainly_208  h)
      · skip
        exact FrP.trans (FrP.refl M) (fz_X12_plainly_215  h)
theorem fz_X12_plainly_141 {x2 : Int32} {x3 : Int32} {x4 : Int32} {x5 : Int32} {M : Mem} {z : Unit × Mem} (h : d_X12_plainly_141 x2 x3 x4 x5 M = some z) : FrP pRZ M z.2 := by
  unfold d_X12_plainly_141 at h
  rcases iteE h with h | h
  · skip
    exact FrP.trans (FrP.refl M) (fz_X12_plainly_187  h)
  · skip
    obtain ⟨y1, e9, h⟩ := bindE h
    have f1 : FrP pRZ _ _ := FrP.trans (FrP.refl M) (fz_X12_guards  e9)
    clear e9
    obtain ⟨-, h⟩ := okE h
    obtain ⟨-, h⟩ := okE h
    obtain ⟨M1, e9, h⟩ := bndE h
    have f2 : FrP pRZ M M1 := by
      rw [e9]
      exact FrP.sI f1 (fun j y => by unfold pRZ at y; omega)
    clear e9
    obtain ⟨M2, e9, h⟩ := bndE h
    have f3 : FrP pRZ M M2 := by
      rw [e9]
      exact FrP.sI f2 (fun j y => by unfold pRZ at y; omega)
    clear e9
    exact FrP.trans f3 (fz_X12_plainly_187  h)
theorem fz_X12_plainly_117 {x2 : Int32} {x3 : Int32} {x4 : Int32} {s0 : Int32} {M : Mem} {z : Unit × Mem} (h : d_X12_plainly_117 x2 x3 x4 s0 M = some z) : FrP pRZ M z.2 := by
  unfold d_X12_plainly_117 at h
  rcases iteE h with h | h
  · skip
    rcases iteE h with h | h
    · skip
      obtain ⟨y1, e9, h⟩ := bindE h
      have f1 : FrP pRZ _ _ := FrP.trans (FrP.refl M) (fz_X12_breaksOff  e9)
      clear e9
      exact FrP.trans f1 (fz_X12_plainly_141  h)
    · skip
      exact FrP.trans (FrP.refl M) (fz_X12_plainly_141  h)
  · skip
    exact FrP.trans (FrP.refl M) (fz_X12_plainly_141  h)
theorem fz_X12_plainly_116 {x2 : Int32} {x3 : Int32} {x4 : Int32} {M : Mem} {z : Unit × Mem} (h : d_X12_plainly_116 x2 x3 x4 M = some z) : FrP pRZ M z.2 := by
  unfold d_X12_plainly_116 at h
  exact FrP.trans (FrP.refl M) (fz_X12_plainly_117  h)
theorem fz_X12_plainly_94 {x2 : Int32} {x3 : Int32} {x4 : Int32} {M : Mem} {z : Unit × Mem} (h : d_X12_plainly_94 x2 x3 x4 M = some z) : FrP pRZ M z.2 := by
  unfold d_X12_plainly_94 at h
  obtain ⟨-, h⟩ := okE h
  obtain ⟨-, h⟩ := okE h
  rcases iteE h with h | h
  · skip
    exact FrP.trans (FrP.refl M) (fz_X12_plainly_116  h)
  · skip
    exact FrP.trans (FrP.refl M) (fz_X12_plainly_117  h)
theorem fz_X12_plainly_20 {M : Mem} {z : Unit × Mem} (h : d_X12_plainly_20 M = some z) : FrP pRZ M z.2 := by
  unfold d_X12_plainly_20 at h
  obtain ⟨y1, e9, h⟩ := bindE h
  have f1 : FrP pRZ _ _ := FrP.trans (FrP.refl M) (fz_X12_why  e9)
  clear e9
  rcases iteE h with h | h
  · skip
    obtain ⟨-, h⟩ := okE h
    obtain ⟨b1, -, h⟩ := bndE h
    obtain ⟨-, h⟩ := okE h
    obtain ⟨b2, -, h⟩ := bndE h
    obtain ⟨-, h⟩ := okE h
    obtain ⟨b3, -, h⟩ := bndE h
    rcases iteE h with h | h
    · skip
      exact FrP.trans f1 (fz_X12_plainly_94  h)
    · skip
      rcases iteE h with h | h
      · skip
        obtain ⟨y2, e9, h⟩ := bindE h
        have f5 : FrP pRZ _ _ := FrP.trans f1 (fz_X12_top  e9)
        clear e9
        obtain ⟨y3, e9, h⟩ := bindE h
        have f6 : FrP pRZ _ _ := FrP.trans f5 (fz_X12_isNull  e9)
        clear e9
        rcases iteE h with h | h
        · skip
          exact FrP.trans f6 (fz_X12_plainly_116  h)
        · skip
          exact FrP.trans f6 (fz_X12_plainly_94  h)
      · skip
        exact FrP.trans f1 (fz_X12_plainly_116  h)
  · skip
    obtain ⟨y4, e9, h⟩ := bindE h
    have f7 : FrP pRZ _ _ := FrP.trans f1 (fz_X12_failsBy  e9)
    clear e9
    rw [← Option.some.inj h]
    exact f7
theorem fz_X12_plainly {M : Mem} {z : Unit × Mem} (h : d_X12_plainly M = some z) : FrP pRZ M z.2 := by
  unfold d_X12_plainly at h
  rcases iteE h with h | h
  · skip
    exact FrP.trans (FrP.refl M) (fz_X12_plainly_20  h)
  · skip
    rcases iteE h with h | h
    · skip
      obtain ⟨y1, e9, h⟩ := bindE h
      have f1 : FrP pRZ _ _ := FrP.trans (FrP.refl M) (fz_X12_breaksOff  e9)
      clear e9
      exact FrP.trans f1 (fz_X12_plainly_20  h)
    · skip
      exact FrP.trans (FrP.refl M) (fz_X12_plainly_20  h)
theorem fz_X12_leavesBy {x1 : Int32} {M : Mem} {z : Unit × Mem} (h : d_X12_leavesBy x1 M = some z) : FrP pRZ M z.2 := by
  unfold d_X12_leavesBy at h
  obtain ⟨-, h⟩ := okE h
  obtain ⟨-, h⟩ := okE h
  obtain ⟨M1, e9, h⟩ := bndE h
  have f1 : FrP pRZ M M1 := by
    rw [e9]
    exact FrP.sI (FrP.refl M) (fun j y => by unfold pRZ at y; omega)
  clear e9
  obtain ⟨-, h⟩ := okE h
  obtain ⟨b1, -, h⟩ := bndE h
  rcases iteE h with h | h
  · skip
    obtain ⟨-, h⟩ := okE h
    obtain ⟨b2, -, h⟩ := bndE h
    obtain ⟨M2, e9, h⟩ := bndE h
    have f4 : FrP pRZ M M2 := by
      rw [e9]
      exact FrP.sI f1 (fun j y => by unfold pRZ at y; omega)
    clear e9
    obtain ⟨-, h⟩ := okE h
    obtain ⟨-, h⟩ := okE h
    obtain ⟨M3, e9, h⟩ := bndE h
    have f5 : FrP pRZ M M3 := by
      rw [e9]
      exact FrP.sI f4 (fun j y => by unfold pRZ at y; omega)
    clear e9
    obtain ⟨-, h⟩ := okE h
    rcases iteE h with h | h
    · skip
      rw [← Option.some.inj h]
      exact f5
    · skip
      obtain ⟨-, h⟩ := okE h
      rcases iteE h with h | h
      · skip
        rw [← Option.some.inj h]
        exact f5
      · skip
        obtain ⟨-, h⟩ := okE h
        obtain ⟨y1, e9, h⟩ := bindE h
        have f6 : FrP pRZ _ _ := FrP.trans f5 (fz_X12_records  e9)
        clear e9
        rw [← Option.some.inj h]
        exact f6
  · skip
    obtain ⟨M4, e9, h⟩ := bndE h
    have f7 : FrP pRZ M M4 := by
      rw [e9]
      exact FrP.sI f1 (fun j y => by unfold pRZ at y; omega)
    clear e9
    obtain ⟨M5, e9, h⟩ := bndE h
    have f8 : FrP pRZ M M5 := by
      rw [e9]
      exact FrP.sI f7 (fun j y => by unfold pRZ at y; omega)
    clear e9
    obtain ⟨-, h⟩ := okE h
    obtain ⟨-, h⟩ := okE h
    obtain ⟨M6, e9, h⟩ := bndE h
    have f9 : FrP pRZ M M6 := by
      rw [e9]
      exact FrP.sI f8 (fun j y => by unfold pRZ at y; omega)
    clear e9
    rw [← Option.some.inj h]
    exact f9
theorem fz_X12_inTrace_65 {k15 : (Int32) → Mem → Option (Unit × Mem)} {x1 : Int32} {M : Mem} {z : Unit × Mem} (hk15 : ∀ a M z, k15 a M = some z → FrP pRZ M z.2) (h : d_X12_inTrace_65 k15 x1 M = some z) : FrP pRZ M z.2 := by
  unfold d_X12_inTrace_65 at h
  obtain ⟨b1, -, h⟩ := bndE h
  exact FrP.trans (FrP.refl M) (hk15 _ _ _ h)
theorem fz_X12_inTrace_15b {k15 : (Int32) → Mem → Option (Unit × Mem)} {x1 : Int32} {M : Mem} {z : Unit × Mem} (hk15 : ∀ a M z, k15 a M = some z → FrP pRZ M z.2) (h : d_X12_inTrace_15b k15 x1 M = some z) : FrP pRZ M z.2 := by
  unfold d_X12_inTrace_15b at h
  obtain ⟨-, h⟩ := okE h
  rcases iteE h with h | h
  · skip
    obtain ⟨y1, e9, h⟩ := bindE h
    have f1 : FrP pRZ _ _ := FrP.trans (FrP.refl M) (fz_X12_executes  e9)
    clear e9
    obtain ⟨M1, e9, h⟩ := bndE h
    have f2 : FrP pRZ M M1 := by
      rw [e9]
      exact FrP.sI f1 (fun j y => by unfold pRZ at y; omega)
    clear e9
    obtain ⟨M2, e9, h⟩ := bndE h
    have f3 : FrP pRZ M M2 := by
      rw [e9]
      exact FrP.sI f2 (fun j y => by unfold pRZ at y; omega)
    clear e9
    obtain ⟨-, h⟩ := okE h
    rcases iteE h with h | h
    · skip
      obtain ⟨-, h⟩ := okE h
      obtain ⟨y2, e9, h⟩ := bindE h
      have f4 : FrP pRZ _ _ := FrP.trans f3 (fz_X12_enters  e9)
      clear e9
      rw [← Option.some.inj h]
      exact f4
    · skip
      rw [← Option.some.inj h]
      exact f3
  · skip
    obtain ⟨b1, -, h⟩ := bndE h
    obtain ⟨-, h⟩ := okE h
    rcases iteE h with h | h
    · skip
      obtain ⟨y3, e9, h⟩ := bindE h
      have f6 : FrP pRZ _ _ := FrP.trans (FrP.refl M) (fz_X12_holds  e9)
      clear e9
      rcases iteE h with h | h
      · skip
        obtain ⟨y4, e9, h⟩ := bindE h
        have f7 : FrP pRZ _ _ := FrP.trans f6 (fz_X12_leavesBy  e9)
        clear e9
        rw [← Option.some.inj h]
        exact f7
      · skip
        exact FrP.trans f6 (fz_X12_inTrace_65 hk15 h)
    · skip
      exact FrP.trans (FrP.refl M) (fz_X12_inTrace_65 hk15 h)
theorem fz_X12_inTrace_15  : ∀ n a M z, d_X12_inTrace_15  n a M = some z → FrP pRZ M z.2 := lp_ind (G := fun _ M z => FrP pRZ M z.2) (fun k hk a M z h => fz_X12_inTrace_15b hk h)
theorem fz_X12_inTrace {M : Mem} {z : Unit × Mem} (h : d_X12_inTrace M = some z) : FrP pRZ M z.2 := by
  unfold d_X12_inTrace at h
  obtain ⟨y1, e9, h⟩ := bindE h
  have f1 : FrP pRZ _ _ := FrP.trans (FrP.refl M) (fz_X12_why  e9)
  clear e9
  rcases iteE h with h | h
  · skip
    exact FrP.trans f1 (fz_X12_inTrace_15  _ _ _ _ h)
  · skip
    obtain ⟨M1, e9, h⟩ := bndE h
    have f2 : FrP pRZ M M1 := by
      rw [e9]
      exact FrP.sI f1 (fun j y => by unfold pRZ at y; omega)
    clear e9
    rw [← Option.some.inj h]
    exact f2
theorem fz_X12_run_148b {k148 : Unit → Mem → Option (Int32 × Mem)} {M : Mem} {z : Int32 × Mem} (hk148 : ∀ a M z, k148 a M = some z → FrP pRZ M z.2) (h : d_X12_run_148b k148 M = some z) : FrP pRZ M z.2 := by
  unfold d_X12_run_148b at h
  rcases iteE h with h | h
  · skip
    obtain ⟨y1, e9, h⟩ := bindE h
    have f1 : FrP pRZ _ _ := FrP.trans (FrP.refl M) (fz_X12_breaksOff  e9)
    clear e9
    obtain ⟨M1, e9, h⟩ := bndE h
    have f2 : FrP pRZ M M1 := by
      rw [e9]
      exact FrP.sI f1 (fun j y => by unfold pRZ at y; omega)
    clear e9
    rw [← Option.some.inj h]
    exact f2
  · skip
    rcases iteE h with h | h
    · skip
      obtain ⟨y4, e9, h⟩ := bindE h
      have f3 : FrP pRZ _ _ := FrP.trans (FrP.refl M) (fz_X12_endsBy  e9)
      clear e9
      exact FrP.trans f3 (hk148 _ _ _ h)
    · skip
      rcases iteE h with h | h
      · skip
        obtain ⟨y2, e9, h⟩ := bindE h
        have f4 : FrP pRZ _ _ := FrP.trans (FrP.refl M) (fz_X12_plainly  e9)
        clear e9
        exact FrP.trans f4 (hk148 _ _ _ h)
      · skip
        obtain ⟨y3, e9, h⟩ := bindE h
        have f5 : FrP pRZ _ _ := FrP.trans (FrP.refl M) (fz_X12_inTrace  e9)
        clear e9
        exact FrP.trans f5 (hk148 _ _ _ h)
theorem fz_X12_run_148  : ∀ n a M z, d_X12_run_148  n a M = some z → FrP pRZ M z.2 := lp_ind (G := fun _ M z => FrP pRZ M z.2) (fun k hk a M z h => fz_X12_run_148b hk h)
theorem rnS_69 {A : Mem} {x : Int32} {k j : Nat} : mI (rnS A x k) 69 j = mI A 69 j := by
  unfold rnS
  rw [mI_sD, mI_ne (by omega), mI_ne (by omega)]
/-- nothing is thrown by a run -/
theorem run_0 {S E : Mem} {f nf : Nat} {x v : Int32} (hf : f < nf) (hnf : nf ≤ 8) (h1 : mI S 69 1 = nI nf) (h0 : ¬ mI S 70 f = (0 : Int32)) (h : d_X12_run (nI f) x S = some (v, E)) : mI E 69 0 = nI 0 := by
  rw [rn_run hf hnf h1 h0] at h
  have e := ((fz_X12_run_148 _ _ _ _ h).1 69 0 ⟨rfl, rfl⟩).1
  have r : mI (rnM S f x) 69 0 = nI 0 := by
    unfold rnM rn9
    rw [mI_ne (by omega), mI_ne (by omega), mI_ne (by omega), rnS_69, rnS_69, rnS_69, rnS_69, rnS_69, rnS_69]
    unfold rn0
    rw [mI_ne (by omega), mI_ne (by omega), mI_ne (by omega), mI_ne (by omega), mI_ne (by omega), mI_ne (by omega), mI_ne (by omega), mI_ne (by omega), mI_eq]
  exact e.trans r
end MV6A
