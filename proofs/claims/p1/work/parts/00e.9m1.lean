/-! ===== what the reference leaves as it is ===== -/
section MT1
/-- the cells of P stay, and all references -/
def FrP (P : Nat → Nat → Prop) (S E : Mem) : Prop := (∀ a j, P a j → mI E a j = mI S a j ∧ mD E a j = mD S a j ∧ mL E a j = mL S a j) ∧ E.2.2.2 = S.2.2.2
theorem FrP.refl {P : Nat → Nat → Prop} (M : Mem) : FrP P M M := ⟨fun _ _ _ => ⟨rfl, rfl, rfl⟩, rfl⟩
theorem FrP.trans {P : Nat → Nat → Prop} {A B C : Mem} (h : FrP P A B) (k : FrP P B C) : FrP P A C := ⟨fun a j x => ⟨(k.1 a j x).1.trans (h.1 a j x).1, (k.1 a j x).2.1.trans (h.1 a j x).2.1, (k.1 a j x).2.2.trans (h.1 a j x).2.2⟩, k.2.trans h.2⟩
theorem FrP.sI {P : Nat → Nat → Prop} {A B : Mem} {a i : Nat} {v : Int32} (h : FrP P A B) (k : ∀ j, P a j → j ≠ i) : FrP P A (sI B a i v) := ⟨fun b j x => ⟨(mI_ne (by
  by_cases q : b = a
  · subst q; exact .inr (k j x)
  · exact .inl q)).trans (h.1 b j x).1, (h.1 b j x).2.1, (h.1 b j x).2.2⟩, h.2⟩
theorem FrP.sD {P : Nat → Nat → Prop} {A B : Mem} {a i : Nat} {v : UInt64} (h : FrP P A B) (k : ∀ j, P a j → j ≠ i) : FrP P A (sD B a i v) := ⟨fun b j x => ⟨(h.1 b j x).1, (mD_ne (by
  by_cases q : b = a
  · subst q; exact .inr (k j x)
  · exact .inl q)).trans (h.1 b j x).2.1, (h.1 b j x).2.2⟩, h.2⟩
theorem FrP.sL {P : Nat → Nat → Prop} {A B : Mem} {a i : Nat} {v : Int64} (h : FrP P A B) (k : ∀ j, P a j → j ≠ i) : FrP P A (sL B a i v) := ⟨fun b j x => ⟨(h.1 b j x).1, (h.1 b j x).2.1, (mL_ne (by
  by_cases q : b = a
  · subst q; exact .inr (k j x)
  · exact .inl q)).trans (h.1 b j x).2.2⟩, h.2⟩
theorem iteE {α : Type} {c : Prop} {i : Decidable c} {a b : Option α} {z : α} (h : (if c then a else b) = some z) : a = some z ∨ b = some z := by
  by_cases q : c
  · exact .inl (ifT q h)
  · exact .inr (ifF q h)
theorem iteE2 {α : Type} {c : Prop} {i : Decidable c} {a b : Option α} {z : α} (h : (if c then a else b) = some z) : (c ∧ a = some z) ∨ (¬ c ∧ b = some z) := by
  by_cases q : c
  · exact .inl ⟨q, ifT q h⟩
  · exact .inr ⟨q, ifF q h⟩
/-- the tables that only a put touches, and whether the run is on -/
abbrev pN (a j : Nat) : Prop := (69 < a ∧ a < 83) ∨ (a = 69 ∧ (j = 1 ∨ j = 8 ∨ j = 12))
theorem fn_X12_isPair {x0 : Int32} {M : Mem} {z : Int32 × Mem} (h : d_X12_isPair x0 M = some z) : FrP pN M z.2 := by
  unfold d_X12_isPair at h
  rcases iteE h with h | h
  · skip
    rw [← Option.some.inj h]
    exact (FrP.refl M)
  · skip
    rcases iteE h with h | h
    · skip
      rw [← Option.some.inj h]
      exact (FrP.refl M)
    · skip
      rcases iteE h with h | h
      · skip
        rw [← Option.some.inj h]
        exact (FrP.refl M)
      · skip
        rcases iteE h with h | h
        · skip
          rw [← Option.some.inj h]
          exact (FrP.refl M)
        · skip
          rcases iteE h with h | h
          · skip
            rw [← Option.some.inj h]
            exact (FrP.refl M)
          · skip
            rcases iteE h with h | h
            · skip
              rw [← Option.some.inj h]
              exact (FrP.refl M)
            · skip
              rcases iteE h with h | h
              · skip
                rw [← Option.some.inj h]
                exact (FrP.refl M)
              · skip
                rw [← Option.some.inj h]
                exact (FrP.refl M)
theorem fn_X12_methodOf_2b {k2 : (Int32) → Mem → Option (Int32 × Mem)} {x2 : Int32} {x3 : Int32} {M : Mem} {z : Int32 × Mem} (hk2 : ∀ a M z, k2 a M = some z → FrP pN M z.2) (h : d_X12_methodOf_2b k2 x2 x3 M = some z) : FrP pN M z.2 := by
  unfold d_X12_methodOf_2b at h
  rcases iteE h with h | h
  · skip
    rw [← Option.some.inj h]
    exact (FrP.refl M)
  · skip
    obtain ⟨-, h⟩ := okE h
    rcases iteE h with h | h
    · skip
      obtain ⟨-, h⟩ := okE h
      obtain ⟨b1, -, h⟩ := bndE h
      exact FrP.trans (FrP.refl M) (hk2 _ _ _ h)
    · skip
      obtain ⟨-, h⟩ := okE h
      rw [← Option.some.inj h]
      exact (FrP.refl M)
theorem fn_X12_methodOf_2 {x2 : Int32} : ∀ n a M z, d_X12_methodOf_2 x2 n a M = some z → FrP pN M z.2 := lp_ind (G := fun _ M z => FrP pN M z.2) (fun k hk a M z h => fn_X12_methodOf_2b hk h)
theorem fn_X12_methodOf {x1 : Int32} {x2 : Int32} {M : Mem} {z : Int32 × Mem} (h : d_X12_methodOf x1 x2 M = some z) : FrP pN M z.2 := by
  unfold d_X12_methodOf at h
  exact FrP.trans (FrP.refl M) (fn_X12_methodOf_2 _ _ _ _ h)
theorem fn_X12_top {x1 : Int32} {M : Mem} {z : Int32 × Mem} (h : d_X12_top x1 M = some z) : FrP pN M z.2 := by
  unfold d_X12_top at h
  obtain ⟨-, h⟩ := okE h
  rw [← Option.some.inj h]
  exact (FrP.refl M)
theorem fn_X12_isNumber {x0 : Int32} {M : Mem} {z : Int32 × Mem} (h : d_X12_isNumber x0 M = some z) : FrP pN M z.2 := by
  unfold d_X12_isNumber at h
  rcases iteE h with h | h
  · skip
    rw [← Option.some.inj h]
    exact (FrP.refl M)
  · skip
    rcases iteE h with h | h
    · skip
      rw [← Option.some.inj h]
      exact (FrP.refl M)
    · skip
      rw [← Option.some.inj h]
      exact (FrP.refl M)
theorem fn_X12_asFloat {x1 : Int32} {M : Mem} {z : UInt64 × Mem} (h : d_X12_asFloat x1 M = some z) : FrP pN M z.2 := by
  unfold d_X12_asFloat at h
  obtain ⟨-, h⟩ := okE h
  rcases iteE h with h | h
  · skip
    obtain ⟨-, h⟩ := okE h
    rw [← Option.some.inj h]
    exact (FrP.refl M)
  · skip
    obtain ⟨-, h⟩ := okE h
    rw [← Option.some.inj h]
    exact (FrP.refl M)
theorem fn_X12_isNull_31 {x1 : Int32} {M : Mem} {z : Int32 × Mem} (h : d_X12_isNull_31 x1 M = some z) : FrP pN M z.2 := by
  unfold d_X12_isNull_31 at h
  obtain ⟨-, h⟩ := okE h
  rcases iteE h with h | h
  · skip
    obtain ⟨-, h⟩ := okE h
    rcases iteE h with h | h
    · skip
      rw [← Option.some.inj h]
      exact (FrP.refl M)
    · skip
      rw [← Option.some.inj h]
      exact (FrP.refl M)
  · skip
    rw [← Option.some.inj h]
    exact (FrP.refl M)
theorem fn_X12_isNull {x1 : Int32} {M : Mem} {z : Int32 × Mem} (h : d_X12_isNull x1 M = some z) : FrP pN M z.2 := by
  unfold d_X12_isNull at h
  obtain ⟨-, h⟩ := okE h
  rcases iteE h with h | h
  · skip
    rw [← Option.some.inj h]
    exact (FrP.refl M)
  · skip
    obtain ⟨-, h⟩ := okE h
    rcases iteE h with h | h
    · skip
      obtain ⟨-, h⟩ := okE h
      rcases iteE h with h | h
      · skip
        rw [← Option.some.inj h]
        exact (FrP.refl M)
      · skip
        exact FrP.trans (FrP.refl M) (fn_X12_isNull_31  h)
    · skip
      exact FrP.trans (FrP.refl M) (fn_X12_isNull_31  h)
theorem fn_X12_bits_139 {x3 : Int64} {x5 : UInt64} {x7 : Int32} {M : Mem} {z : Int64 × Mem} (h : d_X12_bits_139 x3 x5 x7 M = some z) : FrP pN M z.2 := by
  unfold d_X12_bits_139 at h
  rcases iteE h with h | h
  · skip
    rw [← Option.some.inj h]
    exact (FrP.refl M)
  · skip
    rw [← Option.some.inj h]
    exact (FrP.refl M)
theorem fn_X12_bits_110b {k110 : (UInt64 × Int32) → Mem → Option (Int64 × Mem)} {x3 : Int64} {x5 : UInt64} {x7 : Int32} {M : Mem} {z : Int64 × Mem} (hk110 : ∀ a M z, k110 a M = some z → FrP pN M z.2) (h : d_X12_bits_110b k110 x3 x5 x7 M = some z) : FrP pN M z.2 := by
  unfold d_X12_bits_110b at h
  rcases iteE h with h | h
  · skip
    exact FrP.trans (FrP.refl M) (fn_X12_bits_139  h)
  · skip
    rcases iteE h with h | h
    · skip
      exact FrP.trans (FrP.refl M) (fn_X12_bits_139  h)
    · skip
      obtain ⟨b1, -, h⟩ := bndE h
      obtain ⟨b2, -, h⟩ := bndE h
      exact FrP.trans (FrP.refl M) (hk110 _ _ _ h)
theorem fn_X12_bits_110 {x3 : Int64} : ∀ n a M z, d_X12_bits_110 x3 n a M = some z → FrP pN M z.2 := lp_ind (G := fun _ M z => FrP pN M z.2) (fun k hk a M z h => fn_X12_bits_110b hk h)
theorem fn_X12_bits_87b {k87 : (UInt64 × Int32) → Mem → Option (Int64 × Mem)} {x3 : Int64} {x5 : UInt64} {x7 : Int32} {M : Mem} {z : Int64 × Mem} (hk87 : ∀ a M z, k87 a M = some z → FrP pN M z.2) (h : d_X12_bits_87b k87 x3 x5 x7 M = some z) : FrP pN M z.2 := by
  unfold d_X12_bits_87b at h
  rcases iteE h with h | h
  · skip
    exact FrP.trans (FrP.refl M) (fn_X12_bits_110 _ _ _ _ h)
  · skip
    obtain ⟨b1, -, h⟩ := bndE h
    obtain ⟨b2, -, h⟩ := bndE h
    exact FrP.trans (FrP.refl M) (hk87 _ _ _ h)
theorem fn_X12_bits_87 {x3 : Int64} : ∀ n a M z, d_X12_bits_87 x3 n a M = some z → FrP pN M z.2 := lp_ind (G := fun _ M z => FrP pN M z.2) (fun k hk a M z h => fn_X12_bits_87b hk h)
theorem fn_X12_bits_58 {x3 : Int64} {s0 : UInt64} {M : Mem} {z : Int64 × Mem} (h : d_X12_bits_58 x3 s0 M = some z) : FrP pN M z.2 := by
  unfold d_X12_bits_58 at h
  rcases iteE h with h | h
  · skip
    rw [← Option.some.inj h]
    exact (FrP.refl M)
  · skip
    rcases iteE h with h | h
    · skip
      exact FrP.trans (FrP.refl M) (fn_X12_bits_87 _ _ _ _ h)
    · skip
      rw [← Option.some.inj h]
      exact (FrP.refl M)
theorem fn_X12_bits_47 {x0 : UInt64} {x2 : Int32} {s0 : Int64} {M : Mem} {z : Int64 × Mem} (h : d_X12_bits_47 x0 x2 s0 M = some z) : FrP pN M z.2 := by
  unfold d_X12_bits_47 at h
  rcases iteE h with h | h
  · skip
    exact FrP.trans (FrP.refl M) (fn_X12_bits_58  h)
  · skip
    exact FrP.trans (FrP.refl M) (fn_X12_bits_58  h)
theorem fn_X12_bits_35 {x0 : UInt64} {s0 : Int32} {M : Mem} {z : Int64 × Mem} (h : d_X12_bits_35 x0 s0 M = some z) : FrP pN M z.2 := by
  unfold d_X12_bits_35 at h
  rcases iteE h with h | h
  · skip
    exact FrP.trans (FrP.refl M) (fn_X12_bits_47  h)
  · skip
    exact FrP.trans (FrP.refl M) (fn_X12_bits_47  h)
theorem fn_X12_bits_30 {x0 : UInt64} {M : Mem} {z : Int64 × Mem} (h : d_X12_bits_30 x0 M = some z) : FrP pN M z.2 := by
  unfold d_X12_bits_30 at h
  exact FrP.trans (FrP.refl M) (fn_X12_bits_35  h)
theorem fn_X12_bits_34 {x0 : UInt64} {M : Mem} {z : Int64 × Mem} (h : d_X12_bits_34 x0 M = some z) : FrP pN M z.2 := by
  unfold d_X12_bits_34 at h
  exact FrP.trans (FrP.refl M) (fn_X12_bits_35  h)
theorem fn_X12_bits {x0 : UInt64} {M : Mem} {z : Int64 × Mem} (h : d_X12_bits x0 M = some z) : FrP pN M z.2 := by
  unfold d_X12_bits at h
  rcases iteE h with h | h
  · skip
    rcases iteE h with h | h
    · skip
      exact FrP.trans (FrP.refl M) (fn_X12_bits_30  h)
    · skip
      rcases iteE h with h | h
      · skip
        rcases iteE h with h | h
        · skip
          exact FrP.trans (FrP.refl M) (fn_X12_bits_34  h)
        · skip
          exact FrP.trans (FrP.refl M) (fn_X12_bits_30  h)
      · skip
        exact FrP.trans (FrP.refl M) (fn_X12_bits_34  h)
  · skip
    rw [← Option.some.inj h]
    exact (FrP.refl M)
theorem fn_X12_told {x0 : Int32} {x1 : Int32} {x2 : UInt64} {M : Mem} {z : Int64 × Mem} (h : d_X12_told x0 x1 x2 M = some z) : FrP pN M z.2 := by
  unfold d_X12_told at h
  rcases iteE h with h | h
  · skip
    rw [← Option.some.inj h]
    exact (FrP.refl M)
  · skip
    rcases iteE h with h | h
    · skip
      rw [← Option.some.inj h]
      exact (FrP.refl M)
    · skip
      rcases iteE h with h | h
      · skip
        obtain ⟨y1, e9, h⟩ := bindE h
        have f1 := FrP.trans (FrP.refl M) (fn_X12_bits  e9)
        clear e9
        rw [← Option.some.inj h]
        exact f1
      · skip
        rw [← Option.some.inj h]
        exact (FrP.refl M)
theorem fn_X12_copies {x1 : Int32} {x2 : Int32} {M : Mem} {z : Unit × Mem} (h : d_X12_copies x1 x2 M = some z) : FrP pN M z.2 := by
  unfold d_X12_copies at h
  obtain ⟨-, h⟩ := okE h
  obtain ⟨-, h⟩ := okE h
  obtain ⟨-, h⟩ := okE h
  obtain ⟨M1, e9, h⟩ := bndE h
  have f1 : FrP pN M M1 := by
    rw [e9]
    exact FrP.sI (FrP.refl M) (fun j y => by unfold pN at y; omega)
  clear e9
  obtain ⟨-, h⟩ := okE h
  obtain ⟨-, h⟩ := okE h
  obtain ⟨M2, e9, h⟩ := bndE h
  have f2 : FrP pN M M2 := by
    rw [e9]
    exact FrP.sI f1 (fun j y => by unfold pN at y; omega)
  clear e9
  obtain ⟨-, h⟩ := okE h
  obtain ⟨-, h⟩ := okE h
  obtain ⟨M3, e9, h⟩ := bndE h
  have f3 : FrP pN M M3 := by
    rw [e9]
    exact FrP.sD f2 (fun j y => by unfold pN at y; omega)
  clear e9
  obtain ⟨-, h⟩ := okE h
  obtain ⟨-, h⟩ := okE h
  obtain ⟨M4, e9, h⟩ := bndE h
  have f4 : FrP pN M M4 := by
    rw [e9]
    exact FrP.sI f3 (fun j y => by unfold pN at y; omega)
  clear e9
  rw [← Option.some.inj h]
  exact f4
theorem fn_X12_gives {x1 : Int32} {x2 : Int32} {x3 : UInt64} {M : Mem} {z : Unit × Mem} (h : d_X12_gives x1 x2 x3 M = some z) : FrP pN M z.2 := by
  unfold d_X12_gives at h
  obtain ⟨-, h⟩ := okE h
  obtain ⟨M1, e9, h⟩ := bndE h
  have f1 : FrP pN M M1 := by
    rw [e9]
    exact FrP.sI (FrP.refl M) (fun j y => by unfold pN at y; omega)
  clear e9
  obtain ⟨M2, e9, h⟩ := bndE h
  have f2 : FrP pN M M2 := by
    rw [e9]
    exact FrP.sI f1 (fun j y => by unfold pN at y; omega)
  clear e9
  obtain ⟨M3, e9, h⟩ := bndE h
  have f3 : FrP pN M M3 := by
    rw [e9]
    exact FrP.sD f2 (fun j y => by unfold pN at y; omega)
  clear e9
  rw [← Option.some.inj h]
  exact f3
theorem fn_X12_pushes {x1 : Int32} {M : Mem} {z : Unit × Mem} (h : d_X12_pushes x1 M = some z) : FrP pN M z.2 := by
  unfold d_X12_pushes at h
  obtain ⟨-, h⟩ := okE h
  obtain ⟨-, h⟩ := okE h
  obtain ⟨M1, e9, h⟩ := bndE h
  have f1 : FrP pN M M1 := by
    rw [e9]
    exact FrP.sI (FrP.refl M) (fun j y => by unfold pN at y; omega)
  clear e9
  obtain ⟨y1, e9, h⟩ := bindE h
  have f2 := FrP.trans f1 (fn_X12_top  e9)
  clear e9
  obtain ⟨-, h⟩ := okE h
  obtain ⟨-, h⟩ := okE h
  obtain ⟨M2, e9, h⟩ := bndE h
  have f3 : FrP pN M M2 := by
    rw [e9]
    exact FrP.sI f2 (fun j y => by unfold pN at y; omega)
  clear e9
  obtain ⟨-, h⟩ := okE h
  obtain ⟨M3, e9, h⟩ := bndE h
  have f4 : FrP pN M M3 := by
    rw [e9]
    exact FrP.sI f3 (fun j y => by unfold pN at y; omega)
  clear e9
  obtain ⟨-, h⟩ := okE h
  obtain ⟨M4, e9, h⟩ := bndE h
  have f5 : FrP pN M M4 := by
    rw [e9]
    exact FrP.sD f4 (fun j y => by unfold pN at y; omega)
  clear e9
  obtain ⟨-, h⟩ := okE h
  obtain ⟨M5, e9, h⟩ := bndE h
  have f6 : FrP pN M M5 := by
    rw [e9]
    exact FrP.sI f5 (fun j y => by unfold pN at y; omega)
  clear e9
  rw [← Option.some.inj h]
  exact f6
theorem fn_X12_givesInteger_28 {x3 : UInt64} {M : Mem} {z : Unit × Mem} (h : d_X12_givesInteger_28 x3 M = some z) : FrP pN M z.2 := by
  unfold d_X12_givesInteger_28 at h
  obtain ⟨y1, e9, h⟩ := bindE h
  have f1 := FrP.trans (FrP.refl M) (fn_X12_gives  e9)
  clear e9
  rw [← Option.some.inj h]
  exact f1
theorem fn_X12_givesInteger {x1 : Int64} {x2 : UInt64} {M : Mem} {z : Unit × Mem} (h : d_X12_givesInteger x1 x2 M = some z) : FrP pN M z.2 := by
  unfold d_X12_givesInteger at h
  rcases iteE h with h | h
  · skip
    exact FrP.trans (FrP.refl M) (fn_X12_givesInteger_28  h)
  · skip
    rcases iteE h with h | h
    · skip
      exact FrP.trans (FrP.refl M) (fn_X12_givesInteger_28  h)
    · skip
      obtain ⟨y1, e9, h⟩ := bindE h
      have f1 := FrP.trans (FrP.refl M) (fn_X12_gives  e9)
      clear e9
      rw [← Option.some.inj h]
      exact f1
theorem fn_X12_reckons_361 {x1 : Int32} {x4 : UInt64} {x6 : UInt64} {s0 : Int64} {M : Mem} {z : Unit × Mem} (h : d_X12_reckons_361 x1 x4 x6 s0 M = some z) : FrP pN M z.2 := by
  unfold d_X12_reckons_361 at h
  rcases iteE h with h | h
  · skip
    obtain ⟨y4, e9, h⟩ := bindE h
    have f1 := FrP.trans (FrP.refl M) (fn_X12_givesInteger  e9)
    clear e9
    rw [← Option.some.inj h]
    exact f1
  · skip
    rcases iteE h with h | h
    · skip
      obtain ⟨y3, e9, h⟩ := bindE h
      have f2 := FrP.trans (FrP.refl M) (fn_X12_givesInteger  e9)
      clear e9
      rw [← Option.some.inj h]
      exact f2
    · skip
      rcases iteE h with h | h
      · skip
        obtain ⟨y2, e9, h⟩ := bindE h
        have f3 := FrP.trans (FrP.refl M) (fn_X12_givesInteger  e9)
        clear e9
        rw [← Option.some.inj h]
        exact f3
      · skip
        obtain ⟨y1, e9, h⟩ := bindE h
        have f4 := FrP.trans (FrP.refl M) (fn_X12_givesInteger  e9)
        clear e9
        rw [← Option.some.inj h]
        exact f4
theorem fn_X12_reckons_165 {s0 : Int32} {M : Mem} {z : Unit × Mem} (h : d_X12_reckons_165 s0 M = some z) : FrP pN M z.2 := by
  unfold d_X12_reckons_165 at h
  rcases iteE h with h | h
  · skip
    obtain ⟨y1, e9, h⟩ := bindE h
    have f1 := FrP.trans (FrP.refl M) (fn_X12_gives  e9)
    clear e9
    rw [← Option.some.inj h]
    exact f1
  · skip
    obtain ⟨y2, e9, h⟩ := bindE h
    have f2 := FrP.trans (FrP.refl M) (fn_X12_gives  e9)
    clear e9
    rw [← Option.some.inj h]
    exact f2
theorem fn_X12_reckons_164 {M : Mem} {z : Unit × Mem} (h : d_X12_reckons_164 M = some z) : FrP pN M z.2 := by
  unfold d_X12_reckons_164 at h
  exact FrP.trans (FrP.refl M) (fn_X12_reckons_165  h)
theorem fn_X12_reckons_160 {M : Mem} {z : Unit × Mem} (h : d_X12_reckons_160 M = some z) : FrP pN M z.2 := by
  unfold d_X12_reckons_160 at h
  exact FrP.trans (FrP.refl M) (fn_X12_reckons_165  h)
theorem fn_X12_reckons_96 {x2 : Int32} {x3 : Int32} {x4 : UInt64} {x6 : UInt64} {s0 : Int32} {M : Mem} {z : Unit × Mem} (h : d_X12_reckons_96 x2 x3 x4 x6 s0 M = some z) : FrP pN M z.2 := by
  unfold d_X12_reckons_96 at h
  rcases iteE h with h | h
  · skip
    obtain ⟨-, h⟩ := okE h
    obtain ⟨-, h⟩ := okE h
    rcases iteE h with h | h
    · skip
      obtain ⟨-, h⟩ := okE h
      rcases iteE h with h | h
      · skip
        exact FrP.trans (FrP.refl M) (fn_X12_reckons_160  h)
      · skip
        obtain ⟨-, h⟩ := okE h
        obtain ⟨-, h⟩ := okE h
        rcases iteE h with h | h
        · skip
          exact FrP.trans (FrP.refl M) (fn_X12_reckons_160  h)
        · skip
          exact FrP.trans (FrP.refl M) (fn_X12_reckons_164  h)
    · skip
      exact FrP.trans (FrP.refl M) (fn_X12_reckons_164  h)
  · skip
    rcases iteE h with h | h
    · skip
      exact FrP.trans (FrP.refl M) (fn_X12_reckons_165  h)
    · skip
      exact FrP.trans (FrP.refl M) (fn_X12_reckons_165  h)
theorem fn_X12_reckons_95 {x2 : Int32} {x3 : Int32} {x4 : UInt64} {x6 : UInt64} {M : Mem} {z : Unit × Mem} (h : d_X12_reckons_95 x2 x3 x4 x6 M = some z) : FrP pN M z.2 := by
  unfold d_X12_reckons_95 at h
  exact FrP.trans (FrP.refl M) (fn_X12_reckons_96  h)
theorem fn_X12_reckons_41 {x1 : Int32} {x2 : Int32} {x3 : Int32} {x4 : UInt64} {x6 : UInt64} {s0 : Int32} {M : Mem} {z : Unit × Mem} (h : d_X12_reckons_41 x1 x2 x3 x4 x6 s0 M = some z) : FrP pN M z.2 := by
  unfold d_X12_reckons_41 at h
  obtain ⟨-, h⟩ := okE h
  obtain ⟨b1, -, h⟩ := bndE h
  obtain ⟨-, h⟩ := okE h
  obtain ⟨b2, -, h⟩ := bndE h
  rcases iteE h with h | h
  · skip
    obtain ⟨-, h⟩ := okE h
    obtain ⟨y9, e9, h⟩ := bindE h
    have f3 := FrP.trans (FrP.refl M) (fn_X12_isNumber  e9)
    clear e9
    rcases iteE h with h | h
    · skip
      exact FrP.trans f3 (fn_X12_reckons_95  h)
    · skip
      obtain ⟨-, h⟩ := okE h
      obtain ⟨y10, e9, h⟩ := bindE h
      have f4 := FrP.trans f3 (fn_X12_isNumber  e9)
      clear e9
      rcases iteE h with h | h
      · skip
        exact FrP.trans f4 (fn_X12_reckons_95  h)
      · skip
        exact FrP.trans f4 (fn_X12_reckons_96  h)
  · skip
    rcases iteE h with h | h
    · skip
      rcases iteE h with h | h
      · skip
        obtain ⟨y7, e9, h⟩ := bindE h
        have f5 := FrP.trans (FrP.refl M) (fn_X12_gives  e9)
        clear e9
        rw [← Option.some.inj h]
        exact f5
      · skip
        obtain ⟨y8, e9, h⟩ := bindE h
        have f6 := FrP.trans (FrP.refl M) (fn_X12_gives  e9)
        clear e9
        rw [← Option.some.inj h]
        exact f6
    · skip
      rcases iteE h with h | h
      · skip
        rcases iteE h with h | h
        · skip
          obtain ⟨y6, e9, h⟩ := bindE h
          have f7 := FrP.trans (FrP.refl M) (fn_X12_gives  e9)
          clear e9
          rw [← Option.some.inj h]
          exact f7
        · skip
          rcases iteE h with h | h
          · skip
            obtain ⟨y5, e9, h⟩ := bindE h
            have f8 := FrP.trans (FrP.refl M) (fn_X12_gives  e9)
            clear e9
            rw [← Option.some.inj h]
            exact f8
          · skip
            rcases iteE h with h | h
            · skip
              obtain ⟨y4, e9, h⟩ := bindE h
              have f9 := FrP.trans (FrP.refl M) (fn_X12_gives  e9)
              clear e9
              rw [← Option.some.inj h]
              exact f9
            · skip
              rcases iteE h with h | h
              · skip
                obtain ⟨y3, e9, h⟩ := bindE h
                have f10 := FrP.trans (FrP.refl M) (fn_X12_gives  e9)
                clear e9
                rw [← Option.some.inj h]
                exact f10
              · skip
                obtain ⟨y2, e9, h⟩ := bindE h
                have f11 := FrP.trans (FrP.refl M) (fn_X12_gives  e9)
                clear e9
                rw [← Option.some.inj h]
                exact f11
      · skip
        rcases iteE h with h | h
        · skip
          obtain ⟨-, h⟩ := okE h
          obtain ⟨y1, e9, h⟩ := bindE h
          have f12 := FrP.trans (FrP.refl M) (fn_X12_gives  e9)
          clear e9
          rw [← Option.some.inj h]
          exact f12
        · skip
          rcases iteE h with h | h
          · skip
            exact FrP.trans (FrP.refl M) (fn_X12_reckons_361  h)
          · skip
            rcases iteE h with h | h
            · skip
              exact FrP.trans (FrP.refl M) (fn_X12_reckons_361  h)
            · skip
              rcases iteE h with h | h
              · skip
                exact FrP.trans (FrP.refl M) (fn_X12_reckons_361  h)
              · skip
                obtain ⟨-, h⟩ := okE h
                exact FrP.trans (FrP.refl M) (fn_X12_reckons_361  h)
theorem fn_X12_reckons_40 {x1 : Int32} {x2 : Int32} {x3 : Int32} {x4 : UInt64} {x6 : UInt64} {M : Mem} {z : Unit × Mem} (h : d_X12_reckons_40 x1 x2 x3 x4 x6 M = some z) : FrP pN M z.2 := by
  unfold d_X12_reckons_40 at h
  exact FrP.trans (FrP.refl M) (fn_X12_reckons_41  h)
theorem fn_X12_reckons {x1 : Int32} {x2 : Int32} {x3 : Int32} {M : Mem} {z : Unit × Mem} (h : d_X12_reckons x1 x2 x3 M = some z) : FrP pN M z.2 := by
  unfold d_X12_reckons at h
  obtain ⟨y1, e9, h⟩ := bindE h
  have f1 := FrP.trans (FrP.refl M) (fn_X12_asFloat  e9)
  clear e9
  obtain ⟨y2, e9, h⟩ := bindE h
  have f2 := FrP.trans f1 (fn_X12_asFloat  e9)
  clear e9
  obtain ⟨-, h⟩ := okE h
  rcases iteE h with h | h
  · skip
    obtain ⟨-, h⟩ := okE h
    rcases iteE h with h | h
    · skip
      exact FrP.trans f2 (fn_X12_reckons_41  h)
    · skip
      exact FrP.trans f2 (fn_X12_reckons_40  h)
  · skip
    exact FrP.trans f2 (fn_X12_reckons_40  h)
theorem fn_X12_newValue {M : Mem} {z : Int32 × Mem} (h : d_X12_newValue M = some z) : FrP pN M z.2 := by
  unfold d_X12_newValue at h
  obtain ⟨-, h⟩ := okE h
  obtain ⟨M1, e9, h⟩ := bndE h
  have f1 : FrP pN M M1 := by
    rw [e9]
    exact FrP.sI (FrP.refl M) (fun j y => by unfold pN at y; omega)
  clear e9
  obtain ⟨-, h⟩ := okE h
  obtain ⟨M2, e9, h⟩ := bndE h
  have f2 : FrP pN M M2 := by
    rw [e9]
    exact FrP.sI f1 (fun j y => by unfold pN at y; omega)
  clear e9
  obtain ⟨-, h⟩ := okE h
  obtain ⟨M3, e9, h⟩ := bndE h
  have f3 : FrP pN M M3 := by
    rw [e9]
    exact FrP.sI f2 (fun j y => by unfold pN at y; omega)
  clear e9
  obtain ⟨-, h⟩ := okE h
  obtain ⟨M4, e9, h⟩ := bndE h
  have f4 : FrP pN M M4 := by
    rw [e9]
    exact FrP.sI f3 (fun j y => by unfold pN at y; omega)
  clear e9
  obtain ⟨M5, e9, h⟩ := bndE h
  have f5 : FrP pN M M5 := by
    rw [e9]
    exact FrP.sI f4 (fun j y => by unfold pN at y; omega)
  clear e9
  rw [← Option.some.inj h]
  exact f5
theorem fn_X12_valueOf {x1 : Int32} {M : Mem} {z : Int32 × Mem} (h : d_X12_valueOf x1 M = some z) : FrP pN M z.2 := by
  unfold d_X12_valueOf at h
  obtain ⟨y1, e9, h⟩ := bindE h
  have f1 := FrP.trans (FrP.refl M) (fn_X12_newValue  e9)
  clear e9
  obtain ⟨-, h⟩ := okE h
  obtain ⟨-, h⟩ := okE h
  obtain ⟨M1, e9, h⟩ := bndE h
  have f2 : FrP pN M M1 := by
    rw [e9]
    exact FrP.sI f1 (fun j y => by unfold pN at y; omega)
  clear e9
  rw [← Option.some.inj h]
  exact f2
theorem fn_X12_breaksOff {M : Mem} {z : Unit × Mem} (h : d_X12_breaksOff M = some z) : FrP pN M z.2 := by
  unfold d_X12_breaksOff at h
  rcases iteE h with h | h
  · skip
    rw [← Option.some.inj h]
    exact (FrP.refl M)
  · skip
    obtain ⟨M1, e9, h⟩ := bndE h
    have f1 : FrP pN M M1 := by
      rw [e9]
      exact FrP.sI (FrP.refl M) (fun j y => by unfold pN at y; omega)
    clear e9
    rcases iteE h with h | h
    · skip
      obtain ⟨-, h⟩ := okE h
      obtain ⟨M4, e9, h⟩ := bndE h
      have f2 : FrP pN M M4 := by
        rw [e9]
        exact FrP.sI f1 (fun j y => by unfold pN at y; omega)
      clear e9
      obtain ⟨-, h⟩ := okE h
      obtain ⟨-, h⟩ := okE h
      obtain ⟨M5, e9, h⟩ := bndE h
      have f3 : FrP pN M M5 := by
        rw [e9]
        exact FrP.sI f2 (fun j y => by unfold pN at y; omega)
      clear e9
      rw [← Option.some.inj h]
      exact f3
    · skip
      obtain ⟨-, h⟩ := okE h
      obtain ⟨M2, e9, h⟩ := bndE h
      have f4 : FrP pN M M2 := by
        rw [e9]
        exact FrP.sI f1 (fun j y => by unfold pN at y; omega)
      clear e9
      obtain ⟨-, h⟩ := okE h
      obtain ⟨-, h⟩ := okE h
      obtain ⟨M3, e9, h⟩ := bndE h
      have f5 : FrP pN M M3 := by
        rw [e9]
        exact FrP.sI f4 (fun j y => by unfold pN at y; omega)
      clear e9
      rw [← Option.some.inj h]
      exact f5
theorem fn_X12_rounded {x0 : UInt64} {M : Mem} {z : UInt64 × Mem} (h : d_X12_rounded x0 M = some z) : FrP pN M z.2 := by
  unfold d_X12_rounded at h
  rw [← Option.some.inj h]
  exact (FrP.refl M)
theorem fn_X12_calls_166 {k79 : (Int32) → Mem → Option (Unit × Mem)} {x2 : Int32} {x3 : Int32} {x4 : Int32} {M : Mem} {z : Unit × Mem} (hk79 : ∀ a M z, k79 a M = some z → FrP pN M z.2) (h : d_X12_calls_166 k79 x2 x3 x4 M = some z) : FrP pN M z.2 := by
  unfold d_X12_calls_166 at h
  obtain ⟨b1, -, h⟩ := bndE h
  exact FrP.trans (FrP.refl M) (hk79 _ _ _ h)
theorem fn_X12_calls_165 {k79 : (Int32) → Mem → Option (Unit × Mem)} {x2 : Int32} {x3 : Int32} {x4 : Int32} {s1 : Int32} {s2 : Int32} {M : Mem} {z : Unit × Mem} (hk79 : ∀ a M z, k79 a M = some z → FrP pN M z.2) (h : d_X12_calls_165 k79 x2 x3 x4 s1 s2 M = some z) : FrP pN M z.2 := by
  unfold d_X12_calls_165 at h
  obtain ⟨-, h⟩ := okE h
  obtain ⟨M1, e9, h⟩ := bndE h
  have f1 : FrP pN M M1 := by
    rw [e9]
    exact FrP.sI (FrP.refl M) (fun j y => by unfold pN at y; omega)
  clear e9
  exact FrP.trans f1 (fn_X12_calls_166 hk79 h)
theorem fn_X12_calls_79b {k79 : (Int32) → Mem → Option (Unit × Mem)} {x2 : Int32} {x3 : Int32} {x4 : Int32} {M : Mem} {z : Unit × Mem} (hk79 : ∀ a M z, k79 a M = some z → FrP pN M z.2) (h : d_X12_calls_79b k79 x2 x3 x4 M = some z) : FrP pN M z.2 := by
  unfold d_X12_calls_79b at h
  rcases iteE h with h | h
  · skip
    rw [← Option.some.inj h]
    exact (FrP.refl M)
  · skip
    obtain ⟨b1, -, h⟩ := bndE h
    rcases iteE h with h | h
    · skip
      obtain ⟨-, h⟩ := okE h
      obtain ⟨M1, e9, h⟩ := bndE h
      have f2 : FrP pN M M1 := by
        rw [e9]
        exact FrP.sI (FrP.refl M) (fun j y => by unfold pN at y; omega)
      clear e9
      obtain ⟨-, h⟩ := okE h
      obtain ⟨M2, e9, h⟩ := bndE h
      have f3 : FrP pN M M2 := by
        rw [e9]
        exact FrP.sI f2 (fun j y => by unfold pN at y; omega)
      clear e9
      obtain ⟨-, h⟩ := okE h
      obtain ⟨M3, e9, h⟩ := bndE h
      have f4 : FrP pN M M3 := by
        rw [e9]
        exact FrP.sD f3 (fun j y => by unfold pN at y; omega)
      clear e9
      rcases iteE h with h | h
      · skip
        exact FrP.trans f4 (fn_X12_calls_165 hk79 h)
      · skip
        obtain ⟨y1, e9, h⟩ := bindE h
        have f5 := FrP.trans f4 (fn_X12_valueOf  e9)
        clear e9
        exact FrP.trans f5 (fn_X12_calls_165 hk79 h)
    · skip
      obtain ⟨y2, e9, h⟩ := bindE h
      have f6 := FrP.trans (FrP.refl M) (fn_X12_copies  e9)
      clear e9
      exact FrP.trans f6 (fn_X12_calls_166 hk79 h)
theorem fn_X12_calls_79 {x2 : Int32} {x3 : Int32} : ∀ n a M z, d_X12_calls_79 x2 x3 n a M = some z → FrP pN M z.2 := lp_ind (G := fun _ M z => FrP pN M z.2) (fun k hk a M z h => fn_X12_calls_79b hk h)
theorem fn_X12_calls {x1 : Int32} {x2 : Int32} {M : Mem} {z : Unit × Mem} (h : d_X12_calls x1 x2 M = some z) : FrP pN M z.2 := by
  unfold d_X12_calls at h
  obtain ⟨y1, e9, h⟩ := bindE h
  have f1 := FrP.trans (FrP.refl M) (fn_X12_top  e9)
  clear e9
  obtain ⟨b1, -, h⟩ := bndE h
  obtain ⟨-, h⟩ := okE h
  obtain ⟨-, h⟩ := okE h
  obtain ⟨M1, e9, h⟩ := bndE h
  have f3 : FrP pN M M1 := by
    rw [e9]
    exact FrP.sI f1 (fun j y => by unfold pN at y; omega)
  clear e9
  obtain ⟨-, h⟩ := okE h
  obtain ⟨-, h⟩ := okE h
  obtain ⟨M2, e9, h⟩ := bndE h
  have f4 : FrP pN M M2 := by
    rw [e9]
    exact FrP.sI f3 (fun j y => by unfold pN at y; omega)
  clear e9
  obtain ⟨M3, e9, h⟩ := bndE h
  have f5 : FrP pN M M3 := by
    rw [e9]
    exact FrP.sI f4 (fun j y => by unfold pN at y; omega)
  clear e9
  obtain ⟨-, h⟩ := okE h
  obtain ⟨M4, e9, h⟩ := bndE h
  have f6 : FrP pN M M4 := by
    rw [e9]
    exact FrP.sI f5 (fun j y => by unfold pN at y; omega)
  clear e9
  obtain ⟨-, h⟩ := okE h
  obtain ⟨M5, e9, h⟩ := bndE h
  have f7 : FrP pN M M5 := by
    rw [e9]
    exact FrP.sI f6 (fun j y => by unfold pN at y; omega)
  clear e9
  obtain ⟨-, h⟩ := okE h
  obtain ⟨M6, e9, h⟩ := bndE h
  have f8 : FrP pN M M6 := by
    rw [e9]
    exact FrP.sI f7 (fun j y => by unfold pN at y; omega)
  clear e9
  exact FrP.trans f8 (fn_X12_calls_79 _ _ _ _ h)
theorem fn_X12_returns {M : Mem} {z : Unit × Mem} (h : d_X12_returns M = some z) : FrP pN M z.2 := by
  unfold d_X12_returns at h
  obtain ⟨y1, e9, h⟩ := bindE h
  have f1 := FrP.trans (FrP.refl M) (fn_X12_top  e9)
  clear e9
  rcases iteE h with h | h
  · skip
    obtain ⟨M3, e9, h⟩ := bndE h
    have f2 : FrP pN M M3 := by
      rw [e9]
      exact FrP.sI f1 (fun j y => by unfold pN at y; omega)
    clear e9
    obtain ⟨M4, e9, h⟩ := bndE h
    have f3 : FrP pN M M4 := by
      rw [e9]
      exact FrP.sI f2 (fun j y => by unfold pN at y; omega)
    clear e9
    obtain ⟨-, h⟩ := okE h
    obtain ⟨-, h⟩ := okE h
    obtain ⟨M5, e9, h⟩ := bndE h
    have f4 : FrP pN M M5 := by
      rw [e9]
      exact FrP.sI f3 (fun j y => by unfold pN at y; omega)
    clear e9
    obtain ⟨-, h⟩ := okE h
    obtain ⟨-, h⟩ := okE h
    obtain ⟨-, h⟩ := okE h
    obtain ⟨y4, e9, h⟩ := bindE h
    have f5 := FrP.trans f4 (fn_X12_told  e9)
    clear e9
    obtain ⟨M6, e9, h⟩ := bndE h
    have f6 : FrP pN M M6 := by
      rw [e9]
      exact FrP.sL f5 (fun j y => by unfold pN at y; omega)
    clear e9
    rw [← Option.some.inj h]
    exact f6
  · skip
    obtain ⟨M1, e9, h⟩ := bndE h
    have f7 : FrP pN M M1 := by
      rw [e9]
      exact FrP.sI f1 (fun j y => by unfold pN at y; omega)
    clear e9
    obtain ⟨-, h⟩ := okE h
    obtain ⟨-, h⟩ := okE h
    obtain ⟨M2, e9, h⟩ := bndE h
    have f8 : FrP pN M M2 := by
      rw [e9]
      exact FrP.sI f7 (fun j y => by unfold pN at y; omega)
    clear e9
    obtain ⟨y2, e9, h⟩ := bindE h
    have f9 := FrP.trans f8 (fn_X12_top  e9)
    clear e9
    obtain ⟨y3, e9, h⟩ := bindE h
    have f10 := FrP.trans f9 (fn_X12_copies  e9)
    clear e9
    rw [← Option.some.inj h]
    exact f10
theorem fn_X12_tells_70 {M : Mem} {z : Unit × Mem} (h : d_X12_tells_70 M = some z) : FrP pN M z.2 := by
  unfold d_X12_tells_70 at h
  obtain ⟨-, h⟩ := okE h
  obtain ⟨-, h⟩ := okE h
  obtain ⟨M1, e9, h⟩ := bndE h
  have f1 : FrP pN M M1 := by
    rw [e9]
    exact FrP.sI (FrP.refl M) (fun j y => by unfold pN at y; omega)
  clear e9
  obtain ⟨-, h⟩ := okE h
  obtain ⟨-, h⟩ := okE h
  obtain ⟨M2, e9, h⟩ := bndE h
  have f2 : FrP pN M M2 := by
    rw [e9]
    exact FrP.sI f1 (fun j y => by unfold pN at y; omega)
  clear e9
  rw [← Option.some.inj h]
  exact f2
theorem fn_X12_tells {M : Mem} {z : Unit × Mem} (h : d_X12_tells M = some z) : FrP pN M z.2 := by
  unfold d_X12_tells at h
  obtain ⟨y1, e9, h⟩ := bindE h
  have f1 := FrP.trans (FrP.refl M) (fn_X12_top  e9)
  clear e9
  rcases iteE h with h | h
  · skip
    exact FrP.trans f1 (fn_X12_tells_70  h)
  · skip
    obtain ⟨-, h⟩ := okE h
    obtain ⟨-, h⟩ := okE h
    obtain ⟨-, h⟩ := okE h
    obtain ⟨M1, e9, h⟩ := bndE h
    have f2 : FrP pN M M1 := by
      rw [e9]
      exact FrP.sI f1 (fun j y => by unfold pN at y; omega)
    clear e9
    obtain ⟨-, h⟩ := okE h
    obtain ⟨-, h⟩ := okE h
    obtain ⟨-, h⟩ := okE h
    obtain ⟨y2, e9, h⟩ := bindE h
    have f3 := FrP.trans f2 (fn_X12_told  e9)
    clear e9
    obtain ⟨-, h⟩ := okE h
    obtain ⟨M2, e9, h⟩ := bndE h
    have f4 : FrP pN M M2 := by
      rw [e9]
      exact FrP.sL f3 (fun j y => by unfold pN at y; omega)
    clear e9
    obtain ⟨M3, e9, h⟩ := bndE h
    have f5 : FrP pN M M3 := by
      rw [e9]
      exact FrP.sI f4 (fun j y => by unfold pN at y; omega)
    clear e9
    exact FrP.trans f5 (fn_X12_tells_70  h)
theorem fn_X12_made_64 {x1 : Int32} {x2 : Int32} {s0 : Int32} {M : Mem} {z : Int32 × Mem} (h : d_X12_made_64 x1 x2 s0 M = some z) : FrP pN M z.2 := by
  unfold d_X12_made_64 at h
  rcases iteE h with h | h
  · skip
    obtain ⟨-, h⟩ := okE h
    obtain ⟨M3, e9, h⟩ := bndE h
    have f1 : FrP pN M M3 := by
      rw [e9]
      exact FrP.sI (FrP.refl M) (fun j y => by unfold pN at y; omega)
    clear e9
    rw [← Option.some.inj h]
    exact f1
  · skip
    rcases iteE h with h | h
    · skip
      obtain ⟨-, h⟩ := okE h
      obtain ⟨M1, e9, h⟩ := bndE h
      have f2 : FrP pN M M1 := by
        rw [e9]
        exact FrP.sI (FrP.refl M) (fun j y => by unfold pN at y; omega)
      clear e9
      rw [← Option.some.inj h]
      exact f2
    · skip
      obtain ⟨-, h⟩ := okE h
      obtain ⟨M2, e9, h⟩ := bndE h
      have f3 : FrP pN M M2 := by
        rw [e9]
        exact FrP.sI (FrP.refl M) (fun j y => by unfold pN at y; omega)
      clear e9
      rw [← Option.some.inj h]
      exact f3
theorem fn_X12_made_63 {x1 : Int32} {x2 : Int32} {M : Mem} {z : Int32 × Mem} (h : d_X12_made_63 x1 x2 M = some z) : FrP pN M z.2 := by
  unfold d_X12_made_63 at h
  exact FrP.trans (FrP.refl M) (fn_X12_made_64  h)
theorem fn_X12_made_59 {x1 : Int32} {x2 : Int32} {M : Mem} {z : Int32 × Mem} (h : d_X12_made_59 x1 x2 M = some z) : FrP pN M z.2 := by
  unfold d_X12_made_59 at h
  exact FrP.trans (FrP.refl M) (fn_X12_made_64  h)
theorem fn_X12_made_41 {x1 : Int32} {x2 : Int32} {M : Mem} {z : Int32 × Mem} (h : d_X12_made_41 x1 x2 M = some z) : FrP pN M z.2 := by
  unfold d_X12_made_41 at h
  rcases iteE h with h | h
  · skip
    rcases iteE h with h | h
    · skip
      exact FrP.trans (FrP.refl M) (fn_X12_made_59  h)
    · skip
      exact FrP.trans (FrP.refl M) (fn_X12_made_63  h)
  · skip
    exact FrP.trans (FrP.refl M) (fn_X12_made_63  h)
theorem fn_X12_made {x1 : Int32} {M : Mem} {z : Int32 × Mem} (h : d_X12_made x1 M = some z) : FrP pN M z.2 := by
  unfold d_X12_made at h
  rcases iteE h with h | h
  · skip
    rw [← Option.some.inj h]
    exact (FrP.refl M)
  · skip
    obtain ⟨y1, e9, h⟩ := bindE h
    have f1 := FrP.trans (FrP.refl M) (fn_X12_valueOf  e9)
    clear e9
    obtain ⟨-, h⟩ := okE h
    obtain ⟨-, h⟩ := okE h
    obtain ⟨M1, e9, h⟩ := bndE h
    have f2 : FrP pN M M1 := by
      rw [e9]
      exact FrP.sI f1 (fun j y => by unfold pN at y; omega)
    clear e9
    rcases iteE h with h | h
    · skip
      rcases iteE h with h | h
      · skip
        exact FrP.trans f2 (fn_X12_made_59  h)
      · skip
        exact FrP.trans f2 (fn_X12_made_41  h)
    · skip
      exact FrP.trans f2 (fn_X12_made_41  h)
theorem fn_X12_reckonsOn_194 {x2 : Int32} {M : Mem} {z : Unit × Mem} (h : d_X12_reckonsOn_194 x2 M = some z) : FrP pN M z.2 := by
  unfold d_X12_reckonsOn_194 at h
  obtain ⟨y1, e9, h⟩ := bindE h
  have f1 := FrP.trans (FrP.refl M) (fn_X12_pushes  e9)
  clear e9
  obtain ⟨-, h⟩ := okE h
  obtain ⟨-, h⟩ := okE h
  obtain ⟨M1, e9, h⟩ := bndE h
  have f2 : FrP pN M M1 := by
    rw [e9]
    exact FrP.sI f1 (fun j y => by unfold pN at y; omega)
  clear e9
  rw [← Option.some.inj h]
  exact f2
theorem fn_X12_reckonsOn_171 {x3 : Int32} {s1 : Int32} {s2 : Int32} {M : Mem} {z : Unit × Mem} (h : d_X12_reckonsOn_171 x3 s1 s2 M = some z) : FrP pN M z.2 := by
  unfold d_X12_reckonsOn_171 at h
  obtain ⟨y1, e9, h⟩ := bindE h
  have f1 := FrP.trans (FrP.refl M) (fn_X12_gives  e9)
  clear e9
  obtain ⟨-, h⟩ := okE h
  obtain ⟨-, h⟩ := okE h
  obtain ⟨M1, e9, h⟩ := bndE h
  have f2 : FrP pN M M1 := by
    rw [e9]
    exact FrP.sI f1 (fun j y => by unfold pN at y; omega)
  clear e9
  obtain ⟨y2, e9, h⟩ := bindE h
  have f3 := FrP.trans f2 (fn_X12_made  e9)
  clear e9
  exact FrP.trans f3 (fn_X12_reckonsOn_194  h)
theorem fn_X12_reckonsOn_125 {s0 : Int32} {M : Mem} {z : Unit × Mem} (h : d_X12_reckonsOn_125 s0 M = some z) : FrP pN M z.2 := by
  unfold d_X12_reckonsOn_125 at h
  obtain ⟨y1, e9, h⟩ := bindE h
  have f1 := FrP.trans (FrP.refl M) (fn_X12_top  e9)
  clear e9
  obtain ⟨-, h⟩ := okE h
  rcases iteE h with h | h
  · skip
    obtain ⟨y4, e9, h⟩ := bindE h
    have f2 := FrP.trans f1 (fn_X12_top  e9)
    clear e9
    obtain ⟨-, h⟩ := okE h
    exact FrP.trans f2 (fn_X12_reckonsOn_171  h)
  · skip
    obtain ⟨y2, e9, h⟩ := bindE h
    have f3 := FrP.trans f1 (fn_X12_top  e9)
    clear e9
    obtain ⟨-, h⟩ := okE h
    obtain ⟨y3, e9, h⟩ := bindE h
    have f4 := FrP.trans f3 (fn_X12_rounded  e9)
    clear e9
    exact FrP.trans f4 (fn_X12_reckonsOn_171  h)
theorem fn_X12_reckonsOn_124 {M : Mem} {z : Unit × Mem} (h : d_X12_reckonsOn_124 M = some z) : FrP pN M z.2 := by
  unfold d_X12_reckonsOn_124 at h
  exact FrP.trans (FrP.refl M) (fn_X12_reckonsOn_125  h)
theorem fn_X12_reckonsOn_57 {x1 : Int32} {s0 : Int32} {M : Mem} {z : Unit × Mem} (h : d_X12_reckonsOn_57 x1 s0 M = some z) : FrP pN M z.2 := by
  unfold d_X12_reckonsOn_57 at h
  obtain ⟨y1, e9, h⟩ := bindE h
  have f1 := FrP.trans (FrP.refl M) (fn_X12_top  e9)
  clear e9
  obtain ⟨y2, e9, h⟩ := bindE h
  have f2 := FrP.trans f1 (fn_X12_top  e9)
  clear e9
  obtain ⟨y3, e9, h⟩ := bindE h
  have f3 := FrP.trans f2 (fn_X12_reckons  e9)
  clear e9
  obtain ⟨-, h⟩ := okE h
  obtain ⟨-, h⟩ := okE h
  obtain ⟨M1, e9, h⟩ := bndE h
  have f4 : FrP pN M M1 := by
    rw [e9]
    exact FrP.sI f3 (fun j y => by unfold pN at y; omega)
  clear e9
  obtain ⟨y4, e9, h⟩ := bindE h
  have f5 := FrP.trans f4 (fn_X12_made  e9)
  clear e9
  exact FrP.trans f5 (fn_X12_reckonsOn_194  h)
theorem fn_X12_reckonsOn_56 {x1 : Int32} {M : Mem} {z : Unit × Mem} (h : d_X12_reckonsOn_56 x1 M = some z) : FrP pN M z.2 := by
  unfold d_X12_reckonsOn_56 at h
  exact FrP.trans (FrP.refl M) (fn_X12_reckonsOn_57  h)
theorem fn_X12_reckonsOn {x1 : Int32} {M : Mem} {z : Unit × Mem} (h : d_X12_reckonsOn x1 M = some z) : FrP pN M z.2 := by
  unfold d_X12_reckonsOn at h
  obtain ⟨y1, e9, h⟩ := bindE h
  have f1 := FrP.trans (FrP.refl M) (fn_X12_isPair  e9)
  clear e9
  rcases iteE h with h | h
  · skip
    rcases iteE h with h | h
    · skip
      exact FrP.trans f1 (fn_X12_reckonsOn_124  h)
    · skip
      obtain ⟨y2, e9, h⟩ := bindE h
      have f2 := FrP.trans f1 (fn_X12_top  e9)
      clear e9
      obtain ⟨-, h⟩ := okE h
      obtain ⟨-, h⟩ := okE h
      rcases iteE h with h | h
      · skip
        exact FrP.trans f2 (fn_X12_reckonsOn_124  h)
      · skip
        exact FrP.trans f2 (fn_X12_reckonsOn_125  h)
  · skip
    rcases iteE h with h | h
    · skip
      exact FrP.trans f1 (fn_X12_reckonsOn_56  h)
    · skip
      obtain ⟨y3, e9, h⟩ := bindE h
      have f3 := FrP.trans f1 (fn_X12_top  e9)
      clear e9
      obtain ⟨-, h⟩ := okE h
      obtain ⟨-, h⟩ := okE h
      rcases iteE h with h | h
      · skip
        exact FrP.trans f3 (fn_X12_reckonsOn_56  h)
      · skip
        obtain ⟨y4, e9, h⟩ := bindE h
        have f4 := FrP.trans f3 (fn_X12_top  e9)
        clear e9
        obtain ⟨-, h⟩ := okE h
        obtain ⟨-, h⟩ := okE h
        rcases iteE h with h | h
        · skip
          exact FrP.trans f4 (fn_X12_reckonsOn_56  h)
        · skip
          exact FrP.trans f4 (fn_X12_reckonsOn_57  h)
theorem fn_X12_makes_61 {x3 : Int32} {M : Mem} {z : Unit × Mem} (h : d_X12_makes_61 x3 M = some z) : FrP pN M z.2 := by
  unfold d_X12_makes_61 at h
  obtain ⟨y1, e9, h⟩ := bindE h
  have f1 := FrP.trans (FrP.refl M) (fn_X12_pushes  e9)
  clear e9
  obtain ⟨-, h⟩ := okE h
  obtain ⟨-, h⟩ := okE h
  obtain ⟨M1, e9, h⟩ := bndE h
  have f2 : FrP pN M M1 := by
    rw [e9]
    exact FrP.sI f1 (fun j y => by unfold pN at y; omega)
  clear e9
  rw [← Option.some.inj h]
  exact f2
theorem fn_X12_makes {x1 : Int32} {M : Mem} {z : Unit × Mem} (h : d_X12_makes x1 M = some z) : FrP pN M z.2 := by
  unfold d_X12_makes at h
  obtain ⟨-, h⟩ := okE h
  obtain ⟨b1, -, h⟩ := bndE h
  obtain ⟨-, h⟩ := okE h
  obtain ⟨M1, e9, h⟩ := bndE h
  have f2 : FrP pN M M1 := by
    rw [e9]
    exact FrP.sI (FrP.refl M) (fun j y => by unfold pN at y; omega)
  clear e9
  obtain ⟨y1, e9, h⟩ := bindE h
  have f3 := FrP.trans f2 (fn_X12_gives  e9)
  clear e9
  obtain ⟨M2, e9, h⟩ := bndE h
  have f4 : FrP pN M M2 := by
    rw [e9]
    exact FrP.sI f3 (fun j y => by unfold pN at y; omega)
  clear e9
  rcases iteE h with h | h
  · skip
    exact FrP.trans f4 (fn_X12_makes_61  h)
  · skip
    obtain ⟨y2, e9, h⟩ := bindE h
    have f5 := FrP.trans f4 (fn_X12_valueOf  e9)
    clear e9
    obtain ⟨-, h⟩ := okE h
    obtain ⟨M3, e9, h⟩ := bndE h
    have f6 : FrP pN M M3 := by
      rw [e9]
      exact FrP.sI f5 (fun j y => by unfold pN at y; omega)
    clear e9
    exact FrP.trans f6 (fn_X12_makes_61  h)
theorem fn_X12_fetches_77 {s1 : Int32} {M : Mem} {z : Unit × Mem} (h : d_X12_fetches_77 s1 M = some z) : FrP pN M z.2 := by
  unfold d_X12_fetches_77 at h
  obtain ⟨y1, e9, h⟩ := bindE h
  have f1 := FrP.trans (FrP.refl M) (fn_X12_pushes  e9)
  clear e9
  obtain ⟨-, h⟩ := okE h
  obtain ⟨-, h⟩ := okE h
  obtain ⟨M1, e9, h⟩ := bndE h
  have f2 : FrP pN M M1 := by
    rw [e9]
    exact FrP.sI f1 (fun j y => by unfold pN at y; omega)
  clear e9
  rw [← Option.some.inj h]
  exact f2
theorem fn_X12_fetches {x1 : Int32} {M : Mem} {z : Unit × Mem} (h : d_X12_fetches x1 M = some z) : FrP pN M z.2 := by
  unfold d_X12_fetches at h
  obtain ⟨y1, e9, h⟩ := bindE h
  have f1 := FrP.trans (FrP.refl M) (fn_X12_top  e9)
  clear e9
  obtain ⟨-, h⟩ := okE h
  obtain ⟨b1, -, h⟩ := bndE h
  obtain ⟨-, h⟩ := okE h
  obtain ⟨-, h⟩ := okE h
  obtain ⟨-, h⟩ := okE h
  obtain ⟨y2, e9, h⟩ := bindE h
  have f3 := FrP.trans f1 (fn_X12_gives  e9)
  clear e9
  obtain ⟨-, h⟩ := okE h
  obtain ⟨-, h⟩ := okE h
  obtain ⟨M1, e9, h⟩ := bndE h
  have f4 : FrP pN M M1 := by
    rw [e9]
    exact FrP.sI f3 (fun j y => by unfold pN at y; omega)
  clear e9
  rcases iteE h with h | h
  · skip
    exact FrP.trans f4 (fn_X12_fetches_77  h)
  · skip
    obtain ⟨y3, e9, h⟩ := bindE h
    have f5 := FrP.trans f4 (fn_X12_newValue  e9)
    clear e9
    exact FrP.trans f5 (fn_X12_fetches_77  h)
theorem fn_X12_endsBy {x1 : Int32} {M : Mem} {z : Unit × Mem} (h : d_X12_endsBy x1 M = some z) : FrP pN M z.2 := by
  unfold d_X12_endsBy at h
  obtain ⟨y1, e9, h⟩ := bindE h
  have f1 := FrP.trans (FrP.refl M) (fn_X12_breaksOff  e9)
  clear e9
  obtain ⟨M1, e9, h⟩ := bndE h
  have f2 : FrP pN M M1 := by
    rw [e9]
    exact FrP.sI f1 (fun j y => by unfold pN at y; omega)
  clear e9
  obtain ⟨M2, e9, h⟩ := bndE h
  have f3 : FrP pN M M2 := by
    rw [e9]
    exact FrP.sI f2 (fun j y => by unfold pN at y; omega)
  clear e9
  obtain ⟨M3, e9, h⟩ := bndE h
  have f4 : FrP pN M M3 := by
    rw [e9]
    exact FrP.sI f3 (fun j y => by unfold pN at y; omega)
  clear e9
  obtain ⟨-, h⟩ := okE h
  obtain ⟨M4, e9, h⟩ := bndE h
  have f5 : FrP pN M M4 := by
    rw [e9]
    exact FrP.sI f4 (fun j y => by unfold pN at y; omega)
  clear e9
  obtain ⟨-, h⟩ := okE h
  obtain ⟨-, h⟩ := okE h
  obtain ⟨M5, e9, h⟩ := bndE h
  have f6 : FrP pN M M5 := by
    rw [e9]
    exact FrP.sI f5 (fun j y => by unfold pN at y; omega)
  clear e9
  rw [← Option.some.inj h]
  exact f6
theorem fn_X12_failsBy_44 {x1 : Int32} {x2 : Int32} {M : Mem} {z : Unit × Mem} (h : d_X12_failsBy_44 x1 x2 M = some z) : FrP pN M z.2 := by
  unfold d_X12_failsBy_44 at h
  rcases iteE h with h | h
  · skip
    obtain ⟨M1, e9, h⟩ := bndE h
    have f1 : FrP pN M M1 := by
      rw [e9]
      exact FrP.sI (FrP.refl M) (fun j y => by unfold pN at y; omega)
    clear e9
    obtain ⟨-, h⟩ := okE h
    obtain ⟨-, h⟩ := okE h
    obtain ⟨-, h⟩ := okE h
    obtain ⟨M2, e9, h⟩ := bndE h
    have f2 : FrP pN M M2 := by
      rw [e9]
      exact FrP.sI f1 (fun j y => by unfold pN at y; omega)
    clear e9
    obtain ⟨-, h⟩ := okE h
    obtain ⟨M3, e9, h⟩ := bndE h
    have f3 : FrP pN M M3 := by
      rw [e9]
      exact FrP.sI f2 (fun j y => by unfold pN at y; omega)
    clear e9
    obtain ⟨y1, e9, h⟩ := bindE h
    have f4 := FrP.trans f3 (fn_X12_gives  e9)
    clear e9
    obtain ⟨y2, e9, h⟩ := bindE h
    have f5 := FrP.trans f4 (fn_X12_pushes  e9)
    clear e9
    rw [← Option.some.inj h]
    exact f5
  · skip
    obtain ⟨y3, e9, h⟩ := bindE h
    have f6 := FrP.trans (FrP.refl M) (fn_X12_endsBy  e9)
    clear e9
    rw [← Option.some.inj h]
    exact f6
theorem fn_X12_failsBy_19b {k19 : (Int32) → Mem → Option (Unit × Mem)} {x1 : Int32} {x2 : Int32} {M : Mem} {z : Unit × Mem} (hk19 : ∀ a M z, k19 a M = some z → FrP pN M z.2) (h : d_X12_failsBy_19b k19 x1 x2 M = some z) : FrP pN M z.2 := by
  unfold d_X12_failsBy_19b at h
  rcases iteE h with h | h
  · skip
    exact FrP.trans (FrP.refl M) (fn_X12_failsBy_44  h)
  · skip
    obtain ⟨-, h⟩ := okE h
    obtain ⟨-, h⟩ := okE h
    rcases iteE h with h | h
    · skip
      obtain ⟨b1, -, h⟩ := bndE h
      exact FrP.trans (FrP.refl M) (hk19 _ _ _ h)
    · skip
      exact FrP.trans (FrP.refl M) (fn_X12_failsBy_44  h)
theorem fn_X12_failsBy_19 {x1 : Int32} : ∀ n a M z, d_X12_failsBy_19 x1 n a M = some z → FrP pN M z.2 := lp_ind (G := fun _ M z => FrP pN M z.2) (fun k hk a M z h => fn_X12_failsBy_19b hk h)
theorem fn_X12_failsBy {x1 : Int32} {M : Mem} {z : Unit × Mem} (h : d_X12_failsBy x1 M = some z) : FrP pN M z.2 := by
  unfold d_X12_failsBy at h
  obtain ⟨y1, e9, h⟩ := bindE h
  have f1 := FrP.trans (FrP.refl M) (fn_X12_breaksOff  e9)
  clear e9
  obtain ⟨M1, e9, h⟩ := bndE h
  have f2 : FrP pN M M1 := by
    rw [e9]
    exact FrP.sI f1 (fun j y => by unfold pN at y; omega)
  clear e9
  obtain ⟨b1, -, h⟩ := bndE h
  exact FrP.trans f2 (fn_X12_failsBy_19 _ _ _ _ h)
theorem fn_X12_executes_78 {s1 : Int32} {s2 : Int32} {M : Mem} {z : Unit × Mem} (h : d_X12_executes_78 s1 s2 M = some z) : FrP pN M z.2 := by
  unfold d_X12_executes_78 at h
  obtain ⟨y1, e9, h⟩ := bindE h
  have f1 := FrP.trans (FrP.refl M) (fn_X12_gives  e9)
  clear e9
  obtain ⟨y2, e9, h⟩ := bindE h
  have f2 := FrP.trans f1 (fn_X12_made  e9)
  clear e9
  obtain ⟨y3, e9, h⟩ := bindE h
  have f3 := FrP.trans f2 (fn_X12_pushes  e9)
  clear e9
  obtain ⟨-, h⟩ := okE h
  obtain ⟨-, h⟩ := okE h
  obtain ⟨M1, e9, h⟩ := bndE h
  have f4 : FrP pN M M1 := by
    rw [e9]
    exact FrP.sI f3 (fun j y => by unfold pN at y; omega)
  clear e9
  rw [← Option.some.inj h]
  exact f4
theorem fn_X12_executes_59 {x2 : Int32} {x3 : Int32} {M : Mem} {z : Unit × Mem} (h : d_X12_executes_59 x2 x3 M = some z) : FrP pN M z.2 := by
  unfold d_X12_executes_59 at h
  rcases iteE h with h | h
  · skip
    exact FrP.trans (FrP.refl M) (fn_X12_executes_78  h)
  · skip
    obtain ⟨-, h⟩ := okE h
    exact FrP.trans (FrP.refl M) (fn_X12_executes_78  h)
theorem fn_X12_executes_310 {x2 : Int32} {M : Mem} {z : Unit × Mem} (h : d_X12_executes_310 x2 M = some z) : FrP pN M z.2 := by
  unfold d_X12_executes_310 at h
  obtain ⟨y1, e9, h⟩ := bindE h
  have f1 := FrP.trans (FrP.refl M) (fn_X12_reckonsOn  e9)
  clear e9
  rw [← Option.some.inj h]
  exact f1
theorem fn_X12_executes {M : Mem} {z : Unit × Mem} (hbad : ¬ mI M 72 (((40 : Int32) * (mI M 109 (mI M 69 48).toNatClampNeg)) + (mI M 110 (mI M 69 48).toNatClampNeg)).toNatClampNeg = (112 : Int32)) (h : d_X12_executes M = some z) : FrP pN M z.2 := by
  unfold d_X12_executes at h
  obtain ⟨-, h⟩ := okE h
  obtain ⟨-, h⟩ := okE h
  obtain ⟨b1, rfl, h⟩ := bndE h
  obtain ⟨-, h⟩ := okE h
  obtain ⟨b2, rfl, h⟩ := bndE h
  obtain ⟨-, h⟩ := okE h
  obtain ⟨b3, rfl, h⟩ := bndE h
  obtain ⟨M1, e9, h⟩ := bndE h
  have f4 : FrP pN M M1 := by
    rw [e9]
    exact FrP.sI (FrP.refl M) (fun j y => by unfold pN at y; omega)
  clear e9
  rcases iteE2 h with ⟨hc9, h⟩ | ⟨hc8, h⟩
  · skip
    exact FrP.trans f4 (fn_X12_executes_59  h)
  · skip
    rcases iteE2 h with ⟨hc9, h⟩ | ⟨hc8, h⟩
    · skip
      exact FrP.trans f4 (fn_X12_executes_59  h)
    · skip
      rcases iteE2 h with ⟨hc9, h⟩ | ⟨hc8, h⟩
      · skip
        obtain ⟨-, h⟩ := okE h
        obtain ⟨-, h⟩ := okE h
        obtain ⟨M12, e9, h⟩ := bndE h
        have f5 : FrP pN M M12 := by
          rw [e9]
          exact FrP.sI f4 (fun j y => by unfold pN at y; omega)
        clear e9
        obtain ⟨y18, e9, h⟩ := bindE h
        have f6 := FrP.trans f5 (fn_X12_top  e9)
        clear e9
        obtain ⟨y19, e9, h⟩ := bindE h
        have f7 := FrP.trans f6 (fn_X12_copies  e9)
        clear e9
        obtain ⟨-, h⟩ := okE h
        obtain ⟨-, h⟩ := okE h
        obtain ⟨M13, e9, h⟩ := bndE h
        have f8 : FrP pN M M13 := by
          rw [e9]
          exact FrP.sI f7 (fun j y => by unfold pN at y; omega)
        clear e9
        rw [← Option.some.inj h]
        exact f8
      · skip
        rcases iteE2 h with ⟨hc9, h⟩ | ⟨hc8, h⟩
        · skip
          obtain ⟨y16, e9, h⟩ := bindE h
          have f9 := FrP.trans f4 (fn_X12_top  e9)
          clear e9
          obtain ⟨y17, e9, h⟩ := bindE h
          have f10 := FrP.trans f9 (fn_X12_copies  e9)
          clear e9
          obtain ⟨-, h⟩ := okE h
          obtain ⟨-, h⟩ := okE h
          obtain ⟨M10, e9, h⟩ := bndE h
          have f11 : FrP pN M M10 := by
            rw [e9]
            exact FrP.sI f10 (fun j y => by unfold pN at y; omega)
          clear e9
          obtain ⟨-, h⟩ := okE h
          obtain ⟨-, h⟩ := okE h
          obtain ⟨M11, e9, h⟩ := bndE h
          have f12 : FrP pN M M11 := by
            rw [e9]
            exact FrP.sI f11 (fun j y => by unfold pN at y; omega)
          clear e9
          rw [← Option.some.inj h]
          exact f12
        · skip
          rcases iteE2 h with ⟨hc9, h⟩ | ⟨hc8, h⟩
          · skip
            obtain ⟨-, h⟩ := okE h
            obtain ⟨-, h⟩ := okE h
            obtain ⟨M8, e9, h⟩ := bndE h
            have f13 : FrP pN M M8 := by
              rw [e9]
              exact FrP.sI f4 (fun j y => by unfold pN at y; omega)
            clear e9
            obtain ⟨y13, e9, h⟩ := bindE h
            have f14 := FrP.trans f13 (fn_X12_top  e9)
            clear e9
            obtain ⟨y14, e9, h⟩ := bindE h
            have f15 := FrP.trans f14 (fn_X12_top  e9)
            clear e9
            obtain ⟨y15, e9, h⟩ := bindE h
            have f16 := FrP.trans f15 (fn_X12_copies  e9)
            clear e9
            obtain ⟨-, h⟩ := okE h
            obtain ⟨-, h⟩ := okE h
            obtain ⟨M9, e9, h⟩ := bndE h
            have f17 : FrP pN M M9 := by
              rw [e9]
              exact FrP.sI f16 (fun j y => by unfold pN at y; omega)
            clear e9
            rw [← Option.some.inj h]
            exact f17
          · skip
            rcases iteE2 h with ⟨hc9, h⟩ | ⟨hc8, h⟩
            · skip
              obtain ⟨-, h⟩ := okE h
              obtain ⟨-, h⟩ := okE h
              obtain ⟨M6, e9, h⟩ := bndE h
              have f18 : FrP pN M M6 := by
                rw [e9]
                exact FrP.sI f4 (fun j y => by unfold pN at y; omega)
              clear e9
              obtain ⟨-, h⟩ := okE h
              obtain ⟨-, h⟩ := okE h
              obtain ⟨M7, e9, h⟩ := bndE h
              have f19 : FrP pN M M7 := by
                rw [e9]
                exact FrP.sI f18 (fun j y => by unfold pN at y; omega)
              clear e9
              rw [← Option.some.inj h]
              exact f19
            · skip
              obtain ⟨y1, e9, h⟩ := bindE h
              have f20 := FrP.trans f4 (fn_X12_isPair  e9)
              clear e9
              rcases iteE2 h with ⟨hc9, h⟩ | ⟨hc8, h⟩
              · skip
                rcases iteE2 h with ⟨hc9, h⟩ | ⟨hc8, h⟩
                · skip
                  exact FrP.trans f20 (fn_X12_executes_310  h)
                · skip
                  rcases iteE2 h with ⟨hc9, h⟩ | ⟨hc8, h⟩
                  · skip
                    obtain ⟨-, h⟩ := okE h
                    obtain ⟨M5, e9, h⟩ := bndE h
                    have f21 : FrP pN M M5 := by
                      rw [e9]
                      exact FrP.sI f20 (fun j y => by unfold pN at y; omega)
                    clear e9
                    rw [← Option.some.inj h]
                    exact f21
                  · skip
                    rcases iteE2 h with ⟨hc9, h⟩ | ⟨hc8, h⟩
                    · skip
                      obtain ⟨y11, e9, h⟩ := bindE h
                      have f22 := FrP.trans f20 (fn_X12_top  e9)
                      clear e9
                      obtain ⟨y12, e9, h⟩ := bindE h
                      have f23 := FrP.trans f22 (fn_X12_isNull  e9)
                      clear e9
                      obtain ⟨-, h⟩ := okE h
                      obtain ⟨-, h⟩ := okE h
                      obtain ⟨M2, e9, h⟩ := bndE h
                      have f24 : FrP pN M M2 := by
                        rw [e9]
                        exact FrP.sI f23 (fun j y => by unfold pN at y; omega)
                      clear e9
                      rcases iteE2 h with ⟨hc9, h⟩ | ⟨hc8, h⟩
                      · skip
                        obtain ⟨-, h⟩ := okE h
                        obtain ⟨-, h⟩ := okE h
                        obtain ⟨M3, e9, h⟩ := bndE h
                        have f25 : FrP pN M M3 := by
                          rw [e9]
                          exact FrP.sI f24 (fun j y => by unfold pN at y; omega)
                        clear e9
                        rw [← Option.some.inj h]
                        exact f25
                      · skip
                        obtain ⟨-, h⟩ := okE h
                        obtain ⟨M4, e9, h⟩ := bndE h
                        have f26 : FrP pN M M4 := by
                          rw [e9]
                          exact FrP.sI f24 (fun j y => by unfold pN at y; omega)
                        clear e9
                        rw [← Option.some.inj h]
                        exact f26
                    · skip
                      rcases iteE2 h with ⟨hc9, h⟩ | ⟨hc8, h⟩
                      · skip
                        obtain ⟨y10, e9, h⟩ := bindE h
                        have f27 := FrP.trans f20 (fn_X12_makes  e9)
                        clear e9
                        rw [← Option.some.inj h]
                        exact f27
                      · skip
                        rcases iteE2 h with ⟨hc9, h⟩ | ⟨hc8, h⟩
                        · skip
                          obtain ⟨y9, e9, h⟩ := bindE h
                          have f28 := FrP.trans f20 (fn_X12_fetches  e9)
                          clear e9
                          rw [← Option.some.inj h]
                          exact f28
                        · skip
                          rcases iteE2 h with ⟨hc9, h⟩ | ⟨hc8, h⟩
                          · skip
                            exact absurd hc9 hbad
                          · skip
                            rcases iteE2 h with ⟨hc9, h⟩ | ⟨hc8, h⟩
                            · skip
                              obtain ⟨-, h⟩ := okE h
                              obtain ⟨y7, e9, h⟩ := bindE h
                              have f30 := FrP.trans f20 (fn_X12_calls  e9)
                              clear e9
                              rw [← Option.some.inj h]
                              exact f30
                            · skip
                              rcases iteE2 h with ⟨hc9, h⟩ | ⟨hc8, h⟩
                              · skip
                                obtain ⟨y4, e9, h⟩ := bindE h
                                have f31 := FrP.trans f20 (fn_X12_top  e9)
                                clear e9
                                obtain ⟨-, h⟩ := okE h
                                obtain ⟨-, h⟩ := okE h
                                obtain ⟨-, h⟩ := okE h
                                obtain ⟨y5, e9, h⟩ := bindE h
                                have f32 := FrP.trans f31 (fn_X12_methodOf  e9)
                                clear e9
                                obtain ⟨y6, e9, h⟩ := bindE h
                                have f33 := FrP.trans f32 (fn_X12_calls  e9)
                                clear e9
                                rw [← Option.some.inj h]
                                exact f33
                              · skip
                                rcases iteE2 h with ⟨hc9, h⟩ | ⟨hc8, h⟩
                                · skip
                                  obtain ⟨y3, e9, h⟩ := bindE h
                                  have f34 := FrP.trans f20 (fn_X12_returns  e9)
                                  clear e9
                                  rw [← Option.some.inj h]
                                  exact f34
                                · skip
                                  obtain ⟨y2, e9, h⟩ := bindE h
                                  have f35 := FrP.trans f20 (fn_X12_tells  e9)
                                  clear e9
                                  rw [← Option.some.inj h]
                                  exact f35
              · skip
                exact FrP.trans f20 (fn_X12_executes_310  h)
/-- whether the run is on -/
abbrev p67 (a j : Nat) : Prop := a = 69 ∧ (j = 67 ∨ j = 62)
theorem fo_X12_isPair {x0 : Int32} {M : Mem} {z : Int32 × Mem} (h : d_X12_isPair x0 M = some z) : FrP p67 M z.2 := by
  unfold d_X12_isPair at h
  rcases iteE h with h | h
  · skip
    rw [← Option.some.inj h]
    exact (FrP.refl M)
  · skip
    rcases iteE h with h | h
    · skip
      rw [← Option.some.inj h]
      exact (FrP.refl M)
    · skip
      rcases iteE h with h | h
      · skip
        rw [← Option.some.inj h]
        exact (FrP.refl M)
      · skip
        rcases iteE h with h | h
        · skip
          rw [← Option.some.inj h]
          exact (FrP.refl M)
        · skip
          rcases iteE h with h | h
          · skip
            rw [← Option.some.inj h]
            exact (FrP.refl M)
          · skip
            rcases iteE h with h | h
            · skip
              rw [← Option.some.inj h]
              exact (FrP.refl M)
            · skip
              rcases iteE h with h | h
              · skip
                rw [← Option.some.inj h]
                exact (FrP.refl M)
              · skip
                rw [← Option.some.inj h]
                exact (FrP.refl M)
theorem fo_X12_newShape {x1 : Int32} {M : Mem} {z : Int32 × Mem} (h : d_X12_newShape x1 M = some z) : FrP p67 M z.2 := by
  unfold d_X12_newShape at h
  obtain ⟨-, h⟩ := okE h
  obtain ⟨M1, e9, h⟩ := bndE h
  have f1 : FrP p67 M M1 := by
    rw [e9]
    exact FrP.sI (FrP.refl M) (fun j y => by unfold p67 at y; omega)
  clear e9
  obtain ⟨-, h⟩ := okE h
  obtain ⟨M2, e9, h⟩ := bndE h
  have f2 : FrP p67 M M2 := by
    rw [e9]
    exact FrP.sI f1 (fun j y => by unfold p67 at y; omega)
  clear e9
  obtain ⟨M3, e9, h⟩ := bndE h
  have f3 : FrP p67 M M3 := by
    rw [e9]
    exact FrP.sI f2 (fun j y => by unfold p67 at y; omega)
  clear e9
  rw [← Option.some.inj h]
  exact f3
theorem fo_X12_methodOf_2b {k2 : (Int32) → Mem → Option (Int32 × Mem)} {x2 : Int32} {x3 : Int32} {M : Mem} {z : Int32 × Mem} (hk2 : ∀ a M z, k2 a M = some z → FrP p67 M z.2) (h : d_X12_methodOf_2b k2 x2 x3 M = some z) : FrP p67 M z.2 := by
  unfold d_X12_methodOf_2b at h
  rcases iteE h with h | h
  · skip
    rw [← Option.some.inj h]
    exact (FrP.refl M)
  · skip
    obtain ⟨-, h⟩ := okE h
    rcases iteE h with h | h
    · skip
      obtain ⟨-, h⟩ := okE h
      obtain ⟨b1, -, h⟩ := bndE h
      exact FrP.trans (FrP.refl M) (hk2 _ _ _ h)
    · skip
      obtain ⟨-, h⟩ := okE h
      rw [← Option.some.inj h]
      exact (FrP.refl M)
theorem fo_X12_methodOf_2 {x2 : Int32} : ∀ n a M z, d_X12_methodOf_2 x2 n a M = some z → FrP p67 M z.2 := lp_ind (G := fun _ M z => FrP p67 M z.2) (fun k hk a M z h => fo_X12_methodOf_2b hk h)
theorem fo_X12_methodOf {x1 : Int32} {x2 : Int32} {M : Mem} {z : Int32 × Mem} (h : d_X12_methodOf x1 x2 M = some z) : FrP p67 M z.2 := by
  unfold d_X12_methodOf at h
  exact FrP.trans (FrP.refl M) (fo_X12_methodOf_2 _ _ _ _ h)
theorem fo_X12_hasField_2b {k2 : (Int32) → Mem → Option (Int32 × Mem)} {x1 : Int32} {x2 : Int32} {x3 : Int32} {M : Mem} {z : Int32 × Mem} (hk2 : ∀ a M z, k2 a M = some z → FrP p67 M z.2) (h : d_X12_hasField_2b k2 x1 x2 x3 M = some z) : FrP p67 M z.2 := by
  unfold d_X12_hasField_2b at h
  obtain ⟨-, h⟩ := okE h
  rcases iteE h with h | h
  · skip
    rw [← Option.some.inj h]
    exact (FrP.refl M)
  · skip
    obtain ⟨-, h⟩ := okE h
    rcases iteE h with h | h
    · skip
      rw [← Option.some.inj h]
      exact (FrP.refl M)
    · skip
      obtain ⟨b1, -, h⟩ := bndE h
      exact FrP.trans (FrP.refl M) (hk2 _ _ _ h)
theorem fo_X12_hasField_2 {x1 : Int32} {x2 : Int32} : ∀ n a M z, d_X12_hasField_2 x1 x2 n a M = some z → FrP p67 M z.2 := lp_ind (G := fun _ M z => FrP p67 M z.2) (fun k hk a M z h => fo_X12_hasField_2b hk h)
theorem fo_X12_hasField {x1 : Int32} {x2 : Int32} {M : Mem} {z : Int32 × Mem} (h : d_X12_hasField x1 x2 M = some z) : FrP p67 M z.2 := by
  unfold d_X12_hasField at h
  exact FrP.trans (FrP.refl M) (fo_X12_hasField_2 _ _ _ _ h)
theorem fo_X12_shapeBehind_124 {x1 : Int32} {x2 : Int32} {M : Mem} {z : Int32 × Mem} (h : d_X12_shapeBehind_124 x1 x2 M = some z) : FrP p67 M z.2 := by
  unfold d_X12_shapeBehind_124 at h
  obtain ⟨-, h⟩ := okE h
  rw [← Option.some.inj h]
  exact (FrP.refl M)
theorem fo_X12_shapeBehind_40b {k40 : (Int32) → Mem → Option (Int32 × Mem)} {x1 : Int32} {x2 : Int32} {x3 : Int32} {x4 : Int32} {M : Mem} {z : Int32 × Mem} (hk40 : ∀ a M z, k40 a M = some z → FrP p67 M z.2) (h : d_X12_shapeBehind_40b k40 x1 x2 x3 x4 M = some z) : FrP p67 M z.2 := by
  unfold d_X12_shapeBehind_40b at h
  obtain ⟨-, h⟩ := okE h
  rcases iteE h with h | h
  · skip
    obtain ⟨-, h⟩ := okE h
    obtain ⟨-, h⟩ := okE h
    obtain ⟨M1, e9, h⟩ := bndE h
    have f1 : FrP p67 M M1 := by
      rw [e9]
      exact FrP.sI (FrP.refl M) (fun j y => by unfold p67 at y; omega)
    clear e9
    obtain ⟨-, h⟩ := okE h
    obtain ⟨-, h⟩ := okE h
    obtain ⟨M2, e9, h⟩ := bndE h
    have f2 : FrP p67 M M2 := by
      rw [e9]
      exact FrP.sI f1 (fun j y => by unfold p67 at y; omega)
    clear e9
    obtain ⟨-, h⟩ := okE h
    obtain ⟨M3, e9, h⟩ := bndE h
    have f3 : FrP p67 M M3 := by
      rw [e9]
      exact FrP.sI f2 (fun j y => by unfold p67 at y; omega)
    clear e9
    exact FrP.trans f3 (fo_X12_shapeBehind_124  h)
  · skip
    obtain ⟨-, h⟩ := okE h
    obtain ⟨-, h⟩ := okE h
    obtain ⟨M4, e9, h⟩ := bndE h
    have f4 : FrP p67 M M4 := by
      rw [e9]
      exact FrP.sI (FrP.refl M) (fun j y => by unfold p67 at y; omega)
    clear e9
    obtain ⟨b1, -, h⟩ := bndE h
    exact FrP.trans f4 (hk40 _ _ _ h)
theorem fo_X12_shapeBehind_40 {x1 : Int32} {x2 : Int32} {x3 : Int32} : ∀ n a M z, d_X12_shapeBehind_40 x1 x2 x3 n a M = some z → FrP p67 M z.2 := lp_ind (G := fun _ M z => FrP p67 M z.2) (fun k hk a M z h => fo_X12_shapeBehind_40b hk h)
theorem fo_X12_shapeBehind {x1 : Int32} {x2 : Int32} {M : Mem} {z : Int32 × Mem} (h : d_X12_shapeBehind x1 x2 M = some z) : FrP p67 M z.2 := by
  unfold d_X12_shapeBehind at h
  obtain ⟨y1, e9, h⟩ := bindE h
  have f1 := FrP.trans (FrP.refl M) (fo_X12_hasField  e9)
  clear e9
  rcases iteE h with h | h
  · skip
    obtain ⟨-, h⟩ := okE h
    rcases iteE h with h | h
    · skip
      obtain ⟨-, h⟩ := okE h
      obtain ⟨y2, e9, h⟩ := bindE h
      have f2 := FrP.trans f1 (fo_X12_newShape  e9)
      clear e9
      exact FrP.trans f2 (fo_X12_shapeBehind_40 _ _ _ _ h)
    · skip
      exact FrP.trans f1 (fo_X12_shapeBehind_124  h)
  · skip
    rw [← Option.some.inj h]
    exact f1
theorem fo_X12_top {x1 : Int32} {M : Mem} {z : Int32 × Mem} (h : d_X12_top x1 M = some z) : FrP p67 M z.2 := by
  unfold d_X12_top at h
  obtain ⟨-, h⟩ := okE h
  rw [← Option.some.inj h]
  exact (FrP.refl M)
theorem fo_X12_isNumber {x0 : Int32} {M : Mem} {z : Int32 × Mem} (h : d_X12_isNumber x0 M = some z) : FrP p67 M z.2 := by
  unfold d_X12_isNumber at h
  rcases iteE h with h | h
  · skip
    rw [← Option.some.inj h]
    exact (FrP.refl M)
  · skip
    rcases iteE h with h | h
    · skip
      rw [← Option.some.inj h]
      exact (FrP.refl M)
    · skip
      rw [← Option.some.inj h]
      exact (FrP.refl M)
theorem fo_X12_asFloat {x1 : Int32} {M : Mem} {z : UInt64 × Mem} (h : d_X12_asFloat x1 M = some z) : FrP p67 M z.2 := by
  unfold d_X12_asFloat at h
  obtain ⟨-, h⟩ := okE h
  rcases iteE h with h | h
  · skip
    obtain ⟨-, h⟩ := okE h
    rw [← Option.some.inj h]
    exact (FrP.refl M)
  · skip
    obtain ⟨-, h⟩ := okE h
    rw [← Option.some.inj h]
    exact (FrP.refl M)
theorem fo_X12_isNull_31 {x1 : Int32} {M : Mem} {z : Int32 × Mem} (h : d_X12_isNull_31 x1 M = some z) : FrP p67 M z.2 := by
  unfold d_X12_isNull_31 at h
  obtain ⟨-, h⟩ := okE h
  rcases iteE h with h | h
  · skip
    obtain ⟨-, h⟩ := okE h
    rcases iteE h with h | h
    · skip
      rw [← Option.some.inj h]
      exact (FrP.refl M)
    · skip
      rw [← Option.some.inj h]
      exact (FrP.refl M)
  · skip
    rw [← Option.some.inj h]
    exact (FrP.refl M)
theorem fo_X12_isNull {x1 : Int32} {M : Mem} {z : Int32 × Mem} (h : d_X12_isNull x1 M = some z) : FrP p67 M z.2 := by
  unfold d_X12_isNull at h
  obtain ⟨-, h⟩ := okE h
  rcases iteE h with h | h
  · skip
    rw [← Option.some.inj h]
    exact (FrP.refl M)
  · skip
    obtain ⟨-, h⟩ := okE h
    rcases iteE h with h | h
    · skip
      obtain ⟨-, h⟩ := okE h
      rcases iteE h with h | h
      · skip
        rw [← Option.some.inj h]
        exact (FrP.refl M)
      · skip
        exact FrP.trans (FrP.refl M) (fo_X12_isNull_31  h)
    · skip
      exact FrP.trans (FrP.refl M) (fo_X12_isNull_31  h)
theorem fo_X12_bits_139 {x3 : Int64} {x5 : UInt64} {x7 : Int32} {M : Mem} {z : Int64 × Mem} (h : d_X12_bits_139 x3 x5 x7 M = some z) : FrP p67 M z.2 := by
  unfold d_X12_bits_139 at h
  rcases iteE h with h | h
  · skip
    rw [← Option.some.inj h]
    exact (FrP.refl M)
  · skip
    rw [← Option.some.inj h]
    exact (FrP.refl M)
theorem fo_X12_bits_110b {k110 : (UInt64 × Int32) → Mem → Option (Int64 × Mem)} {x3 : Int64} {x5 : UInt64} {x7 : Int32} {M : Mem} {z : Int64 × Mem} (hk110 : ∀ a M z, k110 a M = some z → FrP p67 M z.2) (h : d_X12_bits_110b k110 x3 x5 x7 M = some z) : FrP p67 M z.2 := by
  unfold d_X12_bits_110b at h
  rcases iteE h with h | h
  · skip
    exact FrP.trans (FrP.refl M) (fo_X12_bits_139  h)
  · skip
    rcases iteE h with h | h
    · skip
      exact FrP.trans (FrP.refl M) (fo_X12_bits_139  h)
    · skip
      obtain ⟨b1, -, h⟩ := bndE h
      obtain ⟨b2, -, h⟩ := bndE h
      exact FrP.trans (FrP.refl M) (hk110 _ _ _ h)
theorem fo_X12_bits_110 {x3 : Int64} : ∀ n a M z, d_X12_bits_110 x3 n a M = some z → FrP p67 M z.2 := lp_ind (G := fun _ M z => FrP p67 M z.2) (fun k hk a M z h => fo_X12_bits_110b hk h)
theorem fo_X12_bits_87b {k87 : (UInt64 × Int32) → Mem → Option (Int64 × Mem)} {x3 : Int64} {x5 : UInt64} {x7 : Int32} {M : Mem} {z : Int64 × Mem} (hk87 : ∀ a M z, k87 a M = some z → FrP p67 M z.2) (h : d_X12_bits_87b k87 x3 x5 x7 M = some z) : FrP p67 M z.2 := by
  unfold d_X12_bits_87b at h
  rcases iteE h with h | h
  · skip
    exact FrP.trans (FrP.refl M) (fo_X12_bits_110 _ _ _ _ h)
  · skip
    obtain ⟨b1, -, h⟩ := bndE h
    obtain ⟨b2, -, h⟩ := bndE h
    exact FrP.trans (FrP.refl M) (hk87 _ _ _ h)
theorem fo_X12_bits_87 {x3 : Int64} : ∀ n a M z, d_X12_bits_87 x3 n a M = some z → FrP p67 M z.2 := lp_ind (G := fun _ M z => FrP p67 M z.2) (fun k hk a M z h => fo_X12_bits_87b hk h)
theorem fo_X12_bits_58 {x3 : Int64} {s0 : UInt64} {M : Mem} {z : Int64 × Mem} (h : d_X12_bits_58 x3 s0 M = some z) : FrP p67 M z.2 := by
  unfold d_X12_bits_58 at h
  rcases iteE h with h | h
  · skip
    rw [← Option.some.inj h]
    exact (FrP.refl M)
  · skip
    rcases iteE h with h | h
    · skip
      exact FrP.trans (FrP.refl M) (fo_X12_bits_87 _ _ _ _ h)
    · skip
      rw [← Option.some.inj h]
      exact (FrP.refl M)
theorem fo_X12_bits_47 {x0 : UInt64} {x2 : Int32} {s0 : Int64} {M : Mem} {z : Int64 × Mem} (h : d_X12_bits_47 x0 x2 s0 M = some z) : FrP p67 M z.2 := by
  unfold d_X12_bits_47 at h
  rcases iteE h with h | h
  · skip
    exact FrP.trans (FrP.refl M) (fo_X12_bits_58  h)
  · skip
    exact FrP.trans (FrP.refl M) (fo_X12_bits_58  h)
theorem fo_X12_bits_35 {x0 : UInt64} {s0 : Int32} {M : Mem} {z : Int64 × Mem} (h : d_X12_bits_35 x0 s0 M = some z) : FrP p67 M z.2 := by
  unfold d_X12_bits_35 at h
  rcases iteE h with h | h
  · skip
    exact FrP.trans (FrP.refl M) (fo_X12_bits_47  h)
  · skip
    exact FrP.trans (FrP.refl M) (fo_X12_bits_47  h)
theorem fo_X12_bits_30 {x0 : UInt64} {M : Mem} {z : Int64 × Mem} (h : d_X12_bits_30 x0 M = some z) : FrP p67 M z.2 := by
  unfold d_X12_bits_30 at h
  exact FrP.trans (FrP.refl M) (fo_X12_bits_35  h)
theorem fo_X12_bits_34 {x0 : UInt64} {M : Mem} {z : Int64 × Mem} (h : d_X12_bits_34 x0 M = some z) : FrP p67 M z.2 := by
  unfold d_X12_bits_34 at h
  exact FrP.trans (FrP.refl M) (fo_X12_bits_35  h)
theorem fo_X12_bits {x0 : UInt64} {M : Mem} {z : Int64 × Mem} (h : d_X12_bits x0 M = some z) : FrP p67 M z.2 := by
  unfold d_X12_bits at h
  rcases iteE h with h | h
  · skip
    rcases iteE h with h | h
    · skip
      exact FrP.trans (FrP.refl M) (fo_X12_bits_30  h)
    · skip
      rcases iteE h with h | h
      · skip
        rcases iteE h with h | h
        · skip
          exact FrP.trans (FrP.refl M) (fo_X12_bits_34  h)
        · skip
          exact FrP.trans (FrP.refl M) (fo_X12_bits_30  h)
      · skip
        exact FrP.trans (FrP.refl M) (fo_X12_bits_34  h)
  · skip
    rw [← Option.some.inj h]
    exact (FrP.refl M)
theorem fo_X12_told {x0 : Int32} {x1 : Int32} {x2 : UInt64} {M : Mem} {z : Int64 × Mem} (h : d_X12_told x0 x1 x2 M = some z) : FrP p67 M z.2 := by
  unfold d_X12_told at h
  rcases iteE h with h | h
  · skip
    rw [← Option.some.inj h]
    exact (FrP.refl M)
  · skip
    rcases iteE h with h | h
    · skip
      rw [← Option.some.inj h]
      exact (FrP.refl M)
    · skip
      rcases iteE h with h | h
      · skip
        obtain ⟨y1, e9, h⟩ := bindE h
        have f1 := FrP.trans (FrP.refl M) (fo_X12_bits  e9)
        clear e9
        rw [← Option.some.inj h]
        exact f1
      · skip
        rw [← Option.some.inj h]
        exact (FrP.refl M)
theorem fo_X12_copies {x1 : Int32} {x2 : Int32} {M : Mem} {z : Unit × Mem} (h : d_X12_copies x1 x2 M = some z) : FrP p67 M z.2 := by
  unfold d_X12_copies at h
  obtain ⟨-, h⟩ := okE h
  obtain ⟨-, h⟩ := okE h
  obtain ⟨-, h⟩ := okE h
  obtain ⟨M1, e9, h⟩ := bndE h
  have f1 : FrP p67 M M1 := by
    rw [e9]
    exact FrP.sI (FrP.refl M) (fun j y => by unfold p67 at y; omega)
  clear e9
  obtain ⟨-, h⟩ := okE h
  obtain ⟨-, h⟩ := okE h
  obtain ⟨M2, e9, h⟩ := bndE h
  have f2 : FrP p67 M M2 := by
    rw [e9]
    exact FrP.sI f1 (fun j y => by unfold p67 at y; omega)
  clear e9
  obtain ⟨-, h⟩ := okE h
  obtain ⟨-, h⟩ := okE h
  obtain ⟨M3, e9, h⟩ := bndE h
  have f3 : FrP p67 M M3 := by
    rw [e9]
    exact FrP.sD f2 (fun j y => by unfold p67 at y; omega)
  clear e9
  obtain ⟨-, h⟩ := okE h
  obtain ⟨-, h⟩ := okE h
  obtain ⟨M4, e9, h⟩ := bndE h
  have f4 : FrP p67 M M4 := by
    rw [e9]
    exact FrP.sI f3 (fun j y => by unfold p67 at y; omega)
  clear e9
  rw [← Option.some.inj h]
  exact f4
theorem fo_X12_gives {x1 : Int32} {x2 : Int32} {x3 : UInt64} {M : Mem} {z : Unit × Mem} (h : d_X12_gives x1 x2 x3 M = some z) : FrP p67 M z.2 := by
  unfold d_X12_gives at h
  obtain ⟨-, h⟩ := okE h
  obtain ⟨M1, e9, h⟩ := bndE h
  have f1 : FrP p67 M M1 := by
    rw [e9]
    exact FrP.sI (FrP.refl M) (fun j y => by unfold p67 at y; omega)
  clear e9
  obtain ⟨M2, e9, h⟩ := bndE h
  have f2 : FrP p67 M M2 := by
    rw [e9]
    exact FrP.sI f1 (fun j y => by unfold p67 at y; omega)
  clear e9
  obtain ⟨M3, e9, h⟩ := bndE h
  have f3 : FrP p67 M M3 := by
    rw [e9]
    exact FrP.sD f2 (fun j y => by unfold p67 at y; omega)
  clear e9
  rw [← Option.some.inj h]
  exact f3
theorem fo_X12_pushes {x1 : Int32} {M : Mem} {z : Unit × Mem} (h : d_X12_pushes x1 M = some z) : FrP p67 M z.2 := by
  unfold d_X12_pushes at h
  obtain ⟨-, h⟩ := okE h
  obtain ⟨-, h⟩ := okE h
  obtain ⟨M1, e9, h⟩ := bndE h
  have f1 : FrP p67 M M1 := by
    rw [e9]
    exact FrP.sI (FrP.refl M) (fun j y => by unfold p67 at y; omega)
  clear e9
  obtain ⟨y1, e9, h⟩ := bindE h
  have f2 := FrP.trans f1 (fo_X12_top  e9)
  clear e9
  obtain ⟨-, h⟩ := okE h
  obtain ⟨-, h⟩ := okE h
  obtain ⟨M2, e9, h⟩ := bndE h
  have f3 : FrP p67 M M2 := by
    rw [e9]
    exact FrP.sI f2 (fun j y => by unfold p67 at y; omega)
  clear e9
  obtain ⟨-, h⟩ := okE h
  obtain ⟨M3, e9, h⟩ := bndE h
  have f4 : FrP p67 M M3 := by
    rw [e9]
    exact FrP.sI f3 (fun j y => by unfold p67 at y; omega)
  clear e9
  obtain ⟨-, h⟩ := okE h
  obtain ⟨M4, e9, h⟩ := bndE h
  have f5 : FrP p67 M M4 := by
    rw [e9]
    exact FrP.sD f4 (fun j y => by unfold p67 at y; omega)
  clear e9
  obtain ⟨-, h⟩ := okE h
  obtain ⟨M5, e9, h⟩ := bndE h
  have f6 : FrP p67 M M5 := by
    rw [e9]
    exact FrP.sI f5 (fun j y => by unfold p67 at y; omega)
  clear e9
  rw [← Option.some.inj h]
  exact f6
theorem fo_X12_givesInteger_28 {x3 : UInt64} {M : Mem} {z : Unit × Mem} (h : d_X12_givesInteger_28 x3 M = some z) : FrP p67 M z.2 := by
  unfold d_X12_givesInteger_28 at h
  obtain ⟨y1, e9, h⟩ := bindE h
  have f1 := FrP.trans (FrP.refl M) (fo_X12_gives  e9)
  clear e9
  rw [← Option.some.inj h]
  exact f1
theorem fo_X12_givesInteger {x1 : Int64} {x2 : UInt64} {M : Mem} {z : Unit × Mem} (h : d_X12_givesInteger x1 x2 M = some z) : FrP p67 M z.2 := by
  unfold d_X12_givesInteger at h
  rcases iteE h with h | h
  · skip
    exact FrP.trans (FrP.refl M) (fo_X12_givesInteger_28  h)
  · skip
    rcases iteE h with h | h
    · skip
      exact FrP.trans (FrP.refl M) (fo_X12_givesInteger_28  h)
    · skip
      obtain ⟨y1, e9, h⟩ := bindE h
      have f1 := FrP.trans (FrP.refl M) (fo_X12_gives  e9)
      clear e9
      rw [← Option.some.inj h]
      exact f1
theorem fo_X12_reckons_361 {x1 : Int32} {x4 : UInt64} {x6 : UInt64} {s0 : Int64} {M : Mem} {z : Unit × Mem} (h : d_X12_reckons_361 x1 x4 x6 s0 M = some z) : FrP p67 M z.2 := by
  unfold d_X12_reckons_361 at h
  rcases iteE h with h | h
  · skip
    obtain ⟨y4, e9, h⟩ := bindE h
    have f1 := FrP.trans (FrP.refl M) (fo_X12_givesInteger  e9)
    clear e9
    rw [← Option.some.inj h]
    exact f1
  · skip
    rcases iteE h with h | h
    · skip
      obtain ⟨y3, e9, h⟩ := bindE h
      have f2 := FrP.trans (FrP.refl M) (fo_X12_givesInteger  e9)
      clear e9
      rw [← Option.some.inj h]
      exact f2
    · skip
      rcases iteE h with h | h
      · skip
        obtain ⟨y2, e9, h⟩ := bindE h
        have f3 := FrP.trans (FrP.refl M) (fo_X12_givesInteger  e9)
        clear e9
        rw [← Option.some.inj h]
        exact f3
      · skip
        obtain ⟨y1, e9, h⟩ := bindE h
        have f4 := FrP.trans (FrP.refl M) (fo_X12_givesInteger  e9)
        clear e9
        rw [← Option.some.inj h]
        exact f4
theorem fo_X12_reckons_165 {s0 : Int32} {M : Mem} {z : Unit × Mem} (h : d_X12_reckons_165 s0 M = some z) : FrP p67 M z.2 := by
  unfold d_X12_reckons_165 at h
  rcases iteE h with h | h
  · skip
    obtain ⟨y1, e9, h⟩ := bindE h
    have f1 := FrP.trans (FrP.refl M) (fo_X12_gives  e9)
    clear e9
    rw [← Option.some.inj h]
    exact f1
  · skip
    obtain ⟨y2, e9, h⟩ := bindE h
    have f2 := FrP.trans (FrP.refl M) (fo_X12_gives  e9)
    clear e9
    rw [← Option.some.inj h]
    exact f2
theorem fo_X12_reckons_164 {M : Mem} {z : Unit × Mem} (h : d_X12_reckons_164 M = some z) : FrP p67 M z.2 := by
  unfold d_X12_reckons_164 at h
  exact FrP.trans (FrP.refl M) (fo_X12_reckons_165  h)
theorem fo_X12_reckons_160 {M : Mem} {z : Unit × Mem} (h : d_X12_reckons_160 M = some z) : FrP p67 M z.2 := by
  unfold d_X12_reckons_160 at h
  exact FrP.trans (FrP.refl M) (fo_X12_reckons_165  h)
theorem fo_X12_reckons_96 {x2 : Int32} {x3 : Int32} {x4 : UInt64} {x6 : UInt64} {s0 : Int32} {M : Mem} {z : Unit × Mem} (h : d_X12_reckons_96 x2 x3 x4 x6 s0 M = some z) : FrP p67 M z.2 := by
  unfold d_X12_reckons_96 at h
  rcases iteE h with h | h
  · skip
    obtain ⟨-, h⟩ := okE h
    obtain ⟨-, h⟩ := okE h
    rcases iteE h with h | h
    · skip
      obtain ⟨-, h⟩ := okE h
      rcases iteE h with h | h
      · skip
        exact FrP.trans (FrP.refl M) (fo_X12_reckons_160  h)
      · skip
        obtain ⟨-, h⟩ := okE h
        obtain ⟨-, h⟩ := okE h
        rcases iteE h with h | h
        · skip
          exact FrP.trans (FrP.refl M) (fo_X12_reckons_160  h)
        · skip
          exact FrP.trans (FrP.refl M) (fo_X12_reckons_164  h)
    · skip
      exact FrP.trans (FrP.refl M) (fo_X12_reckons_164  h)
  · skip
    rcases iteE h with h | h
    · skip
      exact FrP.trans (FrP.refl M) (fo_X12_reckons_165  h)
    · skip
      exact FrP.trans (FrP.refl M) (fo_X12_reckons_165  h)
theorem fo_X12_reckons_95 {x2 : Int32} {x3 : Int32} {x4 : UInt64} {x6 : UInt64} {M : Mem} {z : Unit × Mem} (h : d_X12_reckons_95 x2 x3 x4 x6 M = some z) : FrP p67 M z.2 := by
  unfold d_X12_reckons_95 at h
  exact FrP.trans (FrP.refl M) (fo_X12_reckons_96  h)
theorem fo_X12_reckons_41 {x1 : Int32} {x2 : Int32} {x3 : Int32} {x4 : UInt64} {x6 : UInt64} {s0 : Int32} {M : Mem} {z : Unit × Mem} (h : d_X12_reckons_41 x1 x2 x3 x4 x6 s0 M = some z) : FrP p67 M z.2 := by
  unfold d_X12_reckons_41 at h
  obtain ⟨-, h⟩ := okE h
  obtain ⟨b1, -, h⟩ := bndE h
  obtain ⟨-, h⟩ := okE h
  obtain ⟨b2, -, h⟩ := bndE h
  rcases iteE h with h | h
  · skip
    obtain ⟨-, h⟩ := okE h
    obtain ⟨y9, e9, h⟩ := bindE h
    have f3 := FrP.trans (FrP.refl M) (fo_X12_isNumber  e9)
    clear e9
    rcases iteE h with h | h
    · skip
      exact FrP.trans f3 (fo_X12_reckons_95  h)
    · skip
      obtain ⟨-, h⟩ := okE h
      obtain ⟨y10, e9, h⟩ := bindE h
      have f4 := FrP.trans f3 (fo_X12_isNumber  e9)
      clear e9
      rcases iteE h with h | h
      · skip
        exact FrP.trans f4 (fo_X12_reckons_95  h)
      · skip
        exact FrP.trans f4 (fo_X12_reckons_96  h)
  · skip
    rcases iteE h with h | h
    · skip
      rcases iteE h with h | h
      · skip
        obtain ⟨y7, e9, h⟩ := bindE h
        have f5 := FrP.trans (FrP.refl M) (fo_X12_gives  e9)
        clear e9
        rw [← Option.some.inj h]
        exact f5
      · skip
        obtain ⟨y8, e9, h⟩ := bindE h
        have f6 := FrP.trans (FrP.refl M) (fo_X12_gives  e9)
        clear e9
        rw [← Option.some.inj h]
        exact f6
    · skip
      rcases iteE h with h | h
      · skip
        rcases iteE h with h | h
        · skip
          obtain ⟨y6, e9, h⟩ := bindE h
          have f7 := FrP.trans (FrP.refl M) (fo_X12_gives  e9)
          clear e9
          rw [← Option.some.inj h]
          exact f7
        · skip
          rcases iteE h with h | h
          · skip
            obtain ⟨y5, e9, h⟩ := bindE h
            have f8 := FrP.trans (FrP.refl M) (fo_X12_gives  e9)
            clear e9
            rw [← Option.some.inj h]
            exact f8
          · skip
            rcases iteE h with h | h
            · skip
              obtain ⟨y4, e9, h⟩ := bindE h
              have f9 := FrP.trans (FrP.refl M) (fo_X12_gives  e9)
              clear e9
              rw [← Option.some.inj h]
              exact f9
            · skip
              rcases iteE h with h | h
              · skip
                obtain ⟨y3, e9, h⟩ := bindE h
                have f10 := FrP.trans (FrP.refl M) (fo_X12_gives  e9)
                clear e9
                rw [← Option.some.inj h]
                exact f10
              · skip
                obtain ⟨y2, e9, h⟩ := bindE h
                have f11 := FrP.trans (FrP.refl M) (fo_X12_gives  e9)
                clear e9
                rw [← Option.some.inj h]
                exact f11
      · skip
        rcases iteE h with h | h
        · skip
          obtain ⟨-, h⟩ := okE h
          obtain ⟨y1, e9, h⟩ := bindE h
          have f12 := FrP.trans (FrP.refl M) (fo_X12_gives  e9)
          clear e9
          rw [← Option.some.inj h]
          exact f12
        · skip
          rcases iteE h with h | h
          · skip
            exact FrP.trans (FrP.refl M) (fo_X12_reckons_361  h)
          · skip
            rcases iteE h with h | h
            · skip
              exact FrP.trans (FrP.refl M) (fo_X12_reckons_361  h)
            · skip
              rcases iteE h with h | h
              · skip
                exact FrP.trans (FrP.refl M) (fo_X12_reckons_361  h)
              · skip
                obtain ⟨-, h⟩ := okE h
                exact FrP.trans (FrP.refl M) (fo_X12_reckons_361  h)
theorem fo_X12_reckons_40 {x1 : Int32} {x2 : Int32} {x3 : Int32} {x4 : UInt64} {x6 : UInt64} {M : Mem} {z : Unit × Mem} (h : d_X12_reckons_40 x1 x2 x3 x4 x6 M = some z) : FrP p67 M z.2 := by
  unfold d_X12_reckons_40 at h
  exact FrP.trans (FrP.refl M) (fo_X12_reckons_41  h)
theorem fo_X12_reckons {x1 : Int32} {x2 : Int32} {x3 : Int32} {M : Mem} {z : Unit × Mem} (h : d_X12_reckons x1 x2 x3 M = some z) : FrP p67 M z.2 := by
  unfold d_X12_reckons at h
  obtain ⟨y1, e9, h⟩ := bindE h
  have f1 := FrP.trans (FrP.refl M) (fo_X12_asFloat  e9)
  clear e9
  obtain ⟨y2, e9, h⟩ := bindE h
  have f2 := FrP.trans f1 (fo_X12_asFloat  e9)
  clear e9
  obtain ⟨-, h⟩ := okE h
  rcases iteE h with h | h
  · skip
    obtain ⟨-, h⟩ := okE h
    rcases iteE h with h | h
    · skip
      exact FrP.trans f2 (fo_X12_reckons_41  h)
    · skip
      exact FrP.trans f2 (fo_X12_reckons_40  h)
  · skip
    exact FrP.trans f2 (fo_X12_reckons_40  h)
theorem fo_X12_newValue {M : Mem} {z : Int32 × Mem} (h : d_X12_newValue M = some z) : FrP p67 M z.2 := by
  unfold d_X12_newValue at h
  obtain ⟨-, h⟩ := okE h
  obtain ⟨M1, e9, h⟩ := bndE h
  have f1 : FrP p67 M M1 := by
    rw [e9]
    exact FrP.sI (FrP.refl M) (fun j y => by unfold p67 at y; omega)
  clear e9
  obtain ⟨-, h⟩ := okE h
  obtain ⟨M2, e9, h⟩ := bndE h
  have f2 : FrP p67 M M2 := by
    rw [e9]
    exact FrP.sI f1 (fun j y => by unfold p67 at y; omega)
  clear e9
  obtain ⟨-, h⟩ := okE h
  obtain ⟨M3, e9, h⟩ := bndE h
  have f3 : FrP p67 M M3 := by
    rw [e9]
    exact FrP.sI f2 (fun j y => by unfold p67 at y; omega)
  clear e9
  obtain ⟨-, h⟩ := okE h
  obtain ⟨M4, e9, h⟩ := bndE h
  have f4 : FrP p67 M M4 := by
    rw [e9]
    exact FrP.sI f3 (fun j y => by unfold p67 at y; omega)
  clear e9
  obtain ⟨M5, e9, h⟩ := bndE h
  have f5 : FrP p67 M M5 := by
    rw [e9]
    exact FrP.sI f4 (fun j y => by unfold p67 at y; omega)
  clear e9
  rw [← Option.some.inj h]
  exact f5
theorem fo_X12_valueOf {x1 : Int32} {M : Mem} {z : Int32 × Mem} (h : d_X12_valueOf x1 M = some z) : FrP p67 M z.2 := by
  unfold d_X12_valueOf at h
  obtain ⟨y1, e9, h⟩ := bindE h
  have f1 := FrP.trans (FrP.refl M) (fo_X12_newValue  e9)
  clear e9
  obtain ⟨-, h⟩ := okE h
  obtain ⟨-, h⟩ := okE h
  obtain ⟨M1, e9, h⟩ := bndE h
  have f2 : FrP p67 M M1 := by
    rw [e9]
    exact FrP.sI f1 (fun j y => by unfold p67 at y; omega)
  clear e9
  rw [← Option.some.inj h]
  exact f2
theorem fo_X12_rounded {x0 : UInt64} {M : Mem} {z : UInt64 × Mem} (h : d_X12_rounded x0 M = some z) : FrP p67 M z.2 := by
  unfold d_X12_rounded at h
  rw [← Option.some.inj h]
  exact (FrP.refl M)
theorem fo_X12_calls_166 {k79 : (Int32) → Mem → Option (Unit × Mem)} {x2 : Int32} {x3 : Int32} {x4 : Int32} {M : Mem} {z : Unit × Mem} (hk79 : ∀ a M z, k79 a M = some z → FrP p67 M z.2) (h : d_X12_calls_166 k79 x2 x3 x4 M = some z) : FrP p67 M z.2 := by
  unfold d_X12_calls_166 at h
  obtain ⟨b1, -, h⟩ := bndE h
  exact FrP.trans (FrP.refl M) (hk79 _ _ _ h)
theorem fo_X12_calls_165 {k79 : (Int32) → Mem → Option (Unit × Mem)} {x2 : Int32} {x3 : Int32} {x4 : Int32} {s1 : Int32} {s2 : Int32} {M : Mem} {z : Unit × Mem} (hk79 : ∀ a M z, k79 a M = some z → FrP p67 M z.2) (h : d_X12_calls_165 k79 x2 x3 x4 s1 s2 M = some z) : FrP p67 M z.2 := by
  unfold d_X12_calls_165 at h
  obtain ⟨-, h⟩ := okE h
  obtain ⟨M1, e9, h⟩ := bndE h
  have f1 : FrP p67 M M1 := by
    rw [e9]
    exact FrP.sI (FrP.refl M) (fun j y => by unfold p67 at y; omega)
  clear e9
  exact FrP.trans f1 (fo_X12_calls_166 hk79 h)
theorem fo_X12_calls_79b {k79 : (Int32) → Mem → Option (Unit × Mem)} {x2 : Int32} {x3 : Int32} {x4 : Int32} {M : Mem} {z : Unit × Mem} (hk79 : ∀ a M z, k79 a M = some z → FrP p67 M z.2) (h : d_X12_calls_79b k79 x2 x3 x4 M = some z) : FrP p67 M z.2 := by
  unfold d_X12_calls_79b at h
  rcases iteE h with h | h
  · skip
    rw [← Option.some.inj h]
    exact (FrP.refl M)
  · skip
    obtain ⟨b1, -, h⟩ := bndE h
    rcases iteE h with h | h
    · skip
      obtain ⟨-, h⟩ := okE h
      obtain ⟨M1, e9, h⟩ := bndE h
      have f2 : FrP p67 M M1 := by
        rw [e9]
        exact FrP.sI (FrP.refl M) (fun j y => by unfold p67 at y; omega)
      clear e9
      obtain ⟨-, h⟩ := okE h
      obtain ⟨M2, e9, h⟩ := bndE h
      have f3 : FrP p67 M M2 := by
        rw [e9]
        exact FrP.sI f2 (fun j y => by unfold p67 at y; omega)
      clear e9
      obtain ⟨-, h⟩ := okE h
      obtain ⟨M3, e9, h⟩ := bndE h
      have f4 : FrP p67 M M3 := by
        rw [e9]
        exact FrP.sD f3 (fun j y => by unfold p67 at y; omega)
      clear e9
      rcases iteE h with h | h
      · skip
        exact FrP.trans f4 (fo_X12_calls_165 hk79 h)
      · skip
        obtain ⟨y1, e9, h⟩ := bindE h
        have f5 := FrP.trans f4 (fo_X12_valueOf  e9)
        clear e9
        exact FrP.trans f5 (fo_X12_calls_165 hk79 h)
    · skip
      obtain ⟨y2, e9, h⟩ := bindE h
      have f6 := FrP.trans (FrP.refl M) (fo_X12_copies  e9)
      clear e9
      exact FrP.trans f6 (fo_X12_calls_166 hk79 h)
theorem fo_X12_calls_79 {x2 : Int32} {x3 : Int32} : ∀ n a M z, d_X12_calls_79 x2 x3 n a M = some z → FrP p67 M z.2 := lp_ind (G := fun _ M z => FrP p67 M z.2) (fun k hk a M z h => fo_X12_calls_79b hk h)
theorem fo_X12_calls {x1 : Int32} {x2 : Int32} {M : Mem} {z : Unit × Mem} (h : d_X12_calls x1 x2 M = some z) : FrP p67 M z.2 := by
  unfold d_X12_calls at h
  obtain ⟨y1, e9, h⟩ := bindE h
  have f1 := FrP.trans (FrP.refl M) (fo_X12_top  e9)
  clear e9
  obtain ⟨b1, -, h⟩ := bndE h
  obtain ⟨-, h⟩ := okE h
  obtain ⟨-, h⟩ := okE h
  obtain ⟨M1, e9, h⟩ := bndE h
  have f3 : FrP p67 M M1 := by
    rw [e9]
    exact FrP.sI f1 (fun j y => by unfold p67 at y; omega)
  clear e9
  obtain ⟨-, h⟩ := okE h
  obtain ⟨-, h⟩ := okE h
  obtain ⟨M2, e9, h⟩ := bndE h
  have f4 : FrP p67 M M2 := by
    rw [e9]
    exact FrP.sI f3 (fun j y => by unfold p67 at y; omega)
  clear e9
  obtain ⟨M3, e9, h⟩ := bndE h
  have f5 : FrP p67 M M3 := by
    rw [e9]
    exact FrP.sI f4 (fun j y => by unfold p67 at y; omega)
  clear e9
  obtain ⟨-, h⟩ := okE h
  obtain ⟨M4, e9, h⟩ := bndE h
  have f6 : FrP p67 M M4 := by
    rw [e9]
    exact FrP.sI f5 (fun j y => by unfold p67 at y; omega)
  clear e9
  obtain ⟨-, h⟩ := okE h
  obtain ⟨M5, e9, h⟩ := bndE h
  have f7 : FrP p67 M M5 := by
    rw [e9]
    exact FrP.sI f6 (fun j y => by unfold p67 at y; omega)
  clear e9
  obtain ⟨-, h⟩ := okE h
  obtain ⟨M6, e9, h⟩ := bndE h
  have f8 : FrP p67 M M6 := by
    rw [e9]
    exact FrP.sI f7 (fun j y => by unfold p67 at y; omega)
  clear e9
  exact FrP.trans f8 (fo_X12_calls_79 _ _ _ _ h)
theorem fo_X12_puts_152 {M : Mem} {z : Unit × Mem} (h : d_X12_puts_152 M = some z) : FrP p67 M z.2 := by
  unfold d_X12_puts_152 at h
  obtain ⟨-, h⟩ := okE h
  obtain ⟨-, h⟩ := okE h
  obtain ⟨M1, e9, h⟩ := bndE h
  have f1 : FrP p67 M M1 := by
    rw [e9]
    exact FrP.sI (FrP.refl M) (fun j y => by unfold p67 at y; omega)
  clear e9
  obtain ⟨-, h⟩ := okE h
  obtain ⟨-, h⟩ := okE h
  obtain ⟨M2, e9, h⟩ := bndE h
  have f2 : FrP p67 M M2 := by
    rw [e9]
    exact FrP.sI f1 (fun j y => by unfold p67 at y; omega)
  clear e9
  rw [← Option.some.inj h]
  exact f2
theorem fo_X12_puts_116b {k116 : (Int32) → Mem → Option (Unit × Mem)} {x2 : Int32} {x6 : Int32} {x7 : Int32} {M : Mem} {z : Unit × Mem} (hk116 : ∀ a M z, k116 a M = some z → FrP p67 M z.2) (h : d_X12_puts_116b k116 x2 x6 x7 M = some z) : FrP p67 M z.2 := by
  unfold d_X12_puts_116b at h
  rcases iteE h with h | h
  · skip
    obtain ⟨-, h⟩ := okE h
    obtain ⟨-, h⟩ := okE h
    obtain ⟨M1, e9, h⟩ := bndE h
    have f1 : FrP p67 M M1 := by
      rw [e9]
      exact FrP.sI (FrP.refl M) (fun j y => by unfold p67 at y; omega)
    clear e9
    exact FrP.trans f1 (fo_X12_puts_152  h)
  · skip
    obtain ⟨-, h⟩ := okE h
    obtain ⟨M2, e9, h⟩ := bndE h
    have f2 : FrP p67 M M2 := by
      rw [e9]
      exact FrP.sI (FrP.refl M) (fun j y => by unfold p67 at y; omega)
    clear e9
    obtain ⟨b1, -, h⟩ := bndE h
    exact FrP.trans f2 (hk116 _ _ _ h)
theorem fo_X12_puts_116 {x2 : Int32} {x6 : Int32} : ∀ n a M z, d_X12_puts_116 x2 x6 n a M = some z → FrP p67 M z.2 := lp_ind (G := fun _ M z => FrP p67 M z.2) (fun k hk a M z h => fo_X12_puts_116b hk h)
theorem fo_X12_puts {x1 : Int32} {M : Mem} {z : Unit × Mem} (h : d_X12_puts x1 M = some z) : FrP p67 M z.2 := by
  unfold d_X12_puts at h
  obtain ⟨y1, e9, h⟩ := bindE h
  have f1 := FrP.trans (FrP.refl M) (fo_X12_top  e9)
  clear e9
  obtain ⟨-, h⟩ := okE h
  obtain ⟨b1, -, h⟩ := bndE h
  obtain ⟨y2, e9, h⟩ := bindE h
  have f3 := FrP.trans f1 (fo_X12_top  e9)
  clear e9
  obtain ⟨-, h⟩ := okE h
  obtain ⟨b2, -, h⟩ := bndE h
  obtain ⟨y3, e9, h⟩ := bindE h
  have f5 := FrP.trans f3 (fo_X12_shapeBehind  e9)
  clear e9
  obtain ⟨-, h⟩ := okE h
  obtain ⟨M1, e9, h⟩ := bndE h
  have f6 : FrP p67 M M1 := by
    rw [e9]
    exact FrP.sI f5 (fun j y => by unfold p67 at y; omega)
  clear e9
  obtain ⟨-, h⟩ := okE h
  obtain ⟨-, h⟩ := okE h
  obtain ⟨-, h⟩ := okE h
  obtain ⟨M2, e9, h⟩ := bndE h
  have f7 : FrP p67 M M2 := by
    rw [e9]
    exact FrP.sI f6 (fun j y => by unfold p67 at y; omega)
  clear e9
  obtain ⟨-, h⟩ := okE h
  obtain ⟨-, h⟩ := okE h
  obtain ⟨M3, e9, h⟩ := bndE h
  have f8 : FrP p67 M M3 := by
    rw [e9]
    exact FrP.sI f7 (fun j y => by unfold p67 at y; omega)
  clear e9
  obtain ⟨-, h⟩ := okE h
  obtain ⟨-, h⟩ := okE h
  obtain ⟨M4, e9, h⟩ := bndE h
  have f9 : FrP p67 M M4 := by
    rw [e9]
    exact FrP.sD f8 (fun j y => by unfold p67 at y; omega)
  clear e9
  rcases iteE h with h | h
  · skip
    exact FrP.trans f9 (fo_X12_puts_152  h)
  · skip
    rcases iteE h with h | h
    · skip
      exact FrP.trans f9 (fo_X12_puts_152  h)
    · skip
      exact FrP.trans f9 (fo_X12_puts_116 _ _ _ _ h)
theorem fo_X12_tells_70 {M : Mem} {z : Unit × Mem} (h : d_X12_tells_70 M = some z) : FrP p67 M z.2 := by
  unfold d_X12_tells_70 at h
  obtain ⟨-, h⟩ := okE h
  obtain ⟨-, h⟩ := okE h
  obtain ⟨M1, e9, h⟩ := bndE h
  have f1 : FrP p67 M M1 := by
    rw [e9]
    exact FrP.sI (FrP.refl M) (fun j y => by unfold p67 at y; omega)
  clear e9
  obtain ⟨-, h⟩ := okE h
  obtain ⟨-, h⟩ := okE h
  obtain ⟨M2, e9, h⟩ := bndE h
  have f2 : FrP p67 M M2 := by
    rw [e9]
    exact FrP.sI f1 (fun j y => by unfold p67 at y; omega)
  clear e9
  rw [← Option.some.inj h]
  exact f2
theorem fo_X12_tells {M : Mem} {z : Unit × Mem} (h : d_X12_tells M = some z) : FrP p67 M z.2 := by
  unfold d_X12_tells at h
  obtain ⟨y1, e9, h⟩ := bindE h
  have f1 := FrP.trans (FrP.refl M) (fo_X12_top  e9)
  clear e9
  rcases iteE h with h | h
  · skip
    exact FrP.trans f1 (fo_X12_tells_70  h)
  · skip
    obtain ⟨-, h⟩ := okE h
    obtain ⟨-, h⟩ := okE h
    obtain ⟨-, h⟩ := okE h
    obtain ⟨M1, e9, h⟩ := bndE h
    have f2 : FrP p67 M M1 := by
      rw [e9]
      exact FrP.sI f1 (fun j y => by unfold p67 at y; omega)
    clear e9
    obtain ⟨-, h⟩ := okE h
    obtain ⟨-, h⟩ := okE h
    obtain ⟨-, h⟩ := okE h
    obtain ⟨y2, e9, h⟩ := bindE h
    have f3 := FrP.trans f2 (fo_X12_told  e9)
    clear e9
    obtain ⟨-, h⟩ := okE h
    obtain ⟨M2, e9, h⟩ := bndE h
    have f4 : FrP p67 M M2 := by
      rw [e9]
      exact FrP.sL f3 (fun j y => by unfold p67 at y; omega)
    clear e9
    obtain ⟨M3, e9, h⟩ := bndE h
    have f5 : FrP p67 M M3 := by
      rw [e9]
      exact FrP.sI f4 (fun j y => by unfold p67 at y; omega)
    clear e9
    exact FrP.trans f5 (fo_X12_tells_70  h)
theorem fo_X12_made_64 {x1 : Int32} {x2 : Int32} {s0 : Int32} {M : Mem} {z : Int32 × Mem} (h : d_X12_made_64 x1 x2 s0 M = some z) : FrP p67 M z.2 := by
  unfold d_X12_made_64 at h
  rcases iteE h with h | h
  · skip
    obtain ⟨-, h⟩ := okE h
    obtain ⟨M3, e9, h⟩ := bndE h
    have f1 : FrP p67 M M3 := by
      rw [e9]
      exact FrP.sI (FrP.refl M) (fun j y => by unfold p67 at y; omega)
    clear e9
    rw [← Option.some.inj h]
    exact f1
  · skip
    rcases iteE h with h | h
    · skip
      obtain ⟨-, h⟩ := okE h
      obtain ⟨M1, e9, h⟩ := bndE h
      have f2 : FrP p67 M M1 := by
        rw [e9]
        exact FrP.sI (FrP.refl M) (fun j y => by unfold p67 at y; omega)
      clear e9
      rw [← Option.some.inj h]
      exact f2
    · skip
      obtain ⟨-, h⟩ := okE h
      obtain ⟨M2, e9, h⟩ := bndE h
      have f3 : FrP p67 M M2 := by
        rw [e9]
        exact FrP.sI (FrP.refl M) (fun j y => by unfold p67 at y; omega)
      clear e9
      rw [← Option.some.inj h]
      exact f3
theorem fo_X12_made_63 {x1 : Int32} {x2 : Int32} {M : Mem} {z : Int32 × Mem} (h : d_X12_made_63 x1 x2 M = some z) : FrP p67 M z.2 := by
  unfold d_X12_made_63 at h
  exact FrP.trans (FrP.refl M) (fo_X12_made_64  h)
theorem fo_X12_made_59 {x1 : Int32} {x2 : Int32} {M : Mem} {z : Int32 × Mem} (h : d_X12_made_59 x1 x2 M = some z) : FrP p67 M z.2 := by
  unfold d_X12_made_59 at h
  exact FrP.trans (FrP.refl M) (fo_X12_made_64  h)
theorem fo_X12_made_41 {x1 : Int32} {x2 : Int32} {M : Mem} {z : Int32 × Mem} (h : d_X12_made_41 x1 x2 M = some z) : FrP p67 M z.2 := by
  unfold d_X12_made_41 at h
  rcases iteE h with h | h
  · skip
    rcases iteE h with h | h
    · skip
      exact FrP.trans (FrP.refl M) (fo_X12_made_59  h)
    · skip
      exact FrP.trans (FrP.refl M) (fo_X12_made_63  h)
  · skip
    exact FrP.trans (FrP.refl M) (fo_X12_made_63  h)
theorem fo_X12_made {x1 : Int32} {M : Mem} {z : Int32 × Mem} (h : d_X12_made x1 M = some z) : FrP p67 M z.2 := by
  unfold d_X12_made at h
  rcases iteE h with h | h
  · skip
    rw [← Option.some.inj h]
    exact (FrP.refl M)
  · skip
    obtain ⟨y1, e9, h⟩ := bindE h
    have f1 := FrP.trans (FrP.refl M) (fo_X12_valueOf  e9)
    clear e9
    obtain ⟨-, h⟩ := okE h
    obtain ⟨-, h⟩ := okE h
    obtain ⟨M1, e9, h⟩ := bndE h
    have f2 : FrP p67 M M1 := by
      rw [e9]
      exact FrP.sI f1 (fun j y => by unfold p67 at y; omega)
    clear e9
    rcases iteE h with h | h
    · skip
      rcases iteE h with h | h
      · skip
        exact FrP.trans f2 (fo_X12_made_59  h)
      · skip
        exact FrP.trans f2 (fo_X12_made_41  h)
    · skip
      exact FrP.trans f2 (fo_X12_made_41  h)
theorem fo_X12_reckonsOn_194 {x2 : Int32} {M : Mem} {z : Unit × Mem} (h : d_X12_reckonsOn_194 x2 M = some z) : FrP p67 M z.2 := by
  unfold d_X12_reckonsOn_194 at h
  obtain ⟨y1, e9, h⟩ := bindE h
  have f1 := FrP.trans (FrP.refl M) (fo_X12_pushes  e9)
  clear e9
  obtain ⟨-, h⟩ := okE h
  obtain ⟨-, h⟩ := okE h
  obtain ⟨M1, e9, h⟩ := bndE h
  have f2 : FrP p67 M M1 := by
    rw [e9]
    exact FrP.sI f1 (fun j y => by unfold p67 at y; omega)
  clear e9
  rw [← Option.some.inj h]
  exact f2
theorem fo_X12_reckonsOn_171 {x3 : Int32} {s1 : Int32} {s2 : Int32} {M : Mem} {z : Unit × Mem} (h : d_X12_reckonsOn_171 x3 s1 s2 M = some z) : FrP p67 M z.2 := by
  unfold d_X12_reckonsOn_171 at h
  obtain ⟨y1, e9, h⟩ := bindE h
  have f1 := FrP.trans (FrP.refl M) (fo_X12_gives  e9)
  clear e9
  obtain ⟨-, h⟩ := okE h
  obtain ⟨-, h⟩ := okE h
  obtain ⟨M1, e9, h⟩ := bndE h
  have f2 : FrP p67 M M1 := by
    rw [e9]
    exact FrP.sI f1 (fun j y => by unfold p67 at y; omega)
  clear e9
  obtain ⟨y2, e9, h⟩ := bindE h
  have f3 := FrP.trans f2 (fo_X12_made  e9)
  clear e9
  exact FrP.trans f3 (fo_X12_reckonsOn_194  h)
theorem fo_X12_reckonsOn_125 {s0 : Int32} {M : Mem} {z : Unit × Mem} (h : d_X12_reckonsOn_125 s0 M = some z) : FrP p67 M z.2 := by
  unfold d_X12_reckonsOn_125 at h
  obtain ⟨y1, e9, h⟩ := bindE h
  have f1 := FrP.trans (FrP.refl M) (fo_X12_top  e9)
  clear e9
  obtain ⟨-, h⟩ := okE h
  rcases iteE h with h | h
  · skip
    obtain ⟨y4, e9, h⟩ := bindE h
    have f2 := FrP.trans f1 (fo_X12_top  e9)
    clear e9
    obtain ⟨-, h⟩ := okE h
    exact FrP.trans f2 (fo_X12_reckonsOn_171  h)
  · skip
    obtain ⟨y2, e9, h⟩ := bindE h
    have f3 := FrP.trans f1 (fo_X12_top  e9)
    clear e9
    obtain ⟨-, h⟩ := okE h
    obtain ⟨y3, e9, h⟩ := bindE h
    have f4 := FrP.trans f3 (fo_X12_rounded  e9)
    clear e9
    exact FrP.trans f4 (fo_X12_reckonsOn_171  h)
theorem fo_X12_reckonsOn_124 {M : Mem} {z : Unit × Mem} (h : d_X12_reckonsOn_124 M = some z) : FrP p67 M z.2 := by
  unfold d_X12_reckonsOn_124 at h
  exact FrP.trans (FrP.refl M) (fo_X12_reckonsOn_125  h)
theorem fo_X12_reckonsOn_57 {x1 : Int32} {s0 : Int32} {M : Mem} {z : Unit × Mem} (h : d_X12_reckonsOn_57 x1 s0 M = some z) : FrP p67 M z.2 := by
  unfold d_X12_reckonsOn_57 at h
  obtain ⟨y1, e9, h⟩ := bindE h
  have f1 := FrP.trans (FrP.refl M) (fo_X12_top  e9)
  clear e9
  obtain ⟨y2, e9, h⟩ := bindE h
  have f2 := FrP.trans f1 (fo_X12_top  e9)
  clear e9
  obtain ⟨y3, e9, h⟩ := bindE h
  have f3 := FrP.trans f2 (fo_X12_reckons  e9)
  clear e9
  obtain ⟨-, h⟩ := okE h
  obtain ⟨-, h⟩ := okE h
  obtain ⟨M1, e9, h⟩ := bndE h
  have f4 : FrP p67 M M1 := by
    rw [e9]
    exact FrP.sI f3 (fun j y => by unfold p67 at y; omega)
  clear e9
  obtain ⟨y4, e9, h⟩ := bindE h
  have f5 := FrP.trans f4 (fo_X12_made  e9)
  clear e9
  exact FrP.trans f5 (fo_X12_reckonsOn_194  h)
theorem fo_X12_reckonsOn_56 {x1 : Int32} {M : Mem} {z : Unit × Mem} (h : d_X12_reckonsOn_56 x1 M = some z) : FrP p67 M z.2 := by
  unfold d_X12_reckonsOn_56 at h
  exact FrP.trans (FrP.refl M) (fo_X12_reckonsOn_57  h)
theorem fo_X12_reckonsOn {x1 : Int32} {M : Mem} {z : Unit × Mem} (h : d_X12_reckonsOn x1 M = some z) : FrP p67 M z.2 := by
  unfold d_X12_reckonsOn at h
  obtain ⟨y1, e9, h⟩ := bindE h
  have f1 := FrP.trans (FrP.refl M) (fo_X12_isPair  e9)
  clear e9
  rcases iteE h with h | h
  · skip
    rcases iteE h with h | h
    · skip
      exact FrP.trans f1 (fo_X12_reckonsOn_124  h)
    · skip
      obtain ⟨y2, e9, h⟩ := bindE h
      have f2 := FrP.trans f1 (fo_X12_top  e9)
      clear e9
      obtain ⟨-, h⟩ := okE h
      obtain ⟨-, h⟩ := okE h
      rcases iteE h with h | h
      · skip
        exact FrP.trans f2 (fo_X12_reckonsOn_124  h)
      · skip
        exact FrP.trans f2 (fo_X12_reckonsOn_125  h)
  · skip
    rcases iteE h with h | h
    · skip
      exact FrP.trans f1 (fo_X12_reckonsOn_56  h)
    · skip
      obtain ⟨y3, e9, h⟩ := bindE h
      have f3 := FrP.trans f1 (fo_X12_top  e9)
      clear e9
      obtain ⟨-, h⟩ := okE h
      obtain ⟨-, h⟩ := okE h
      rcases iteE h with h | h
      · skip
        exact FrP.trans f3 (fo_X12_reckonsOn_56  h)
      · skip
        obtain ⟨y4, e9, h⟩ := bindE h
        have f4 := FrP.trans f3 (fo_X12_top  e9)
        clear e9
        obtain ⟨-, h⟩ := okE h
        obtain ⟨-, h⟩ := okE h
        rcases iteE h with h | h
        · skip
          exact FrP.trans f4 (fo_X12_reckonsOn_56  h)
        · skip
          exact FrP.trans f4 (fo_X12_reckonsOn_57  h)
theorem fo_X12_makes_61 {x3 : Int32} {M : Mem} {z : Unit × Mem} (h : d_X12_makes_61 x3 M = some z) : FrP p67 M z.2 := by
  unfold d_X12_makes_61 at h
  obtain ⟨y1, e9, h⟩ := bindE h
  have f1 := FrP.trans (FrP.refl M) (fo_X12_pushes  e9)
  clear e9
  obtain ⟨-, h⟩ := okE h
  obtain ⟨-, h⟩ := okE h
  obtain ⟨M1, e9, h⟩ := bndE h
  have f2 : FrP p67 M M1 := by
    rw [e9]
    exact FrP.sI f1 (fun j y => by unfold p67 at y; omega)
  clear e9
  rw [← Option.some.inj h]
  exact f2
theorem fo_X12_makes {x1 : Int32} {M : Mem} {z : Unit × Mem} (h : d_X12_makes x1 M = some z) : FrP p67 M z.2 := by
  unfold d_X12_makes at h
  obtain ⟨-, h⟩ := okE h
  obtain ⟨b1, -, h⟩ := bndE h
  obtain ⟨-, h⟩ := okE h
  obtain ⟨M1, e9, h⟩ := bndE h
  have f2 : FrP p67 M M1 := by
    rw [e9]
    exact FrP.sI (FrP.refl M) (fun j y => by unfold p67 at y; omega)
  clear e9
  obtain ⟨y1, e9, h⟩ := bindE h
  have f3 := FrP.trans f2 (fo_X12_gives  e9)
  clear e9
  obtain ⟨M2, e9, h⟩ := bndE h
  have f4 : FrP p67 M M2 := by
    rw [e9]
    exact FrP.sI f3 (fun j y => by unfold p67 at y; omega)
  clear e9
  rcases iteE h with h | h
  · skip
    exact FrP.trans f4 (fo_X12_makes_61  h)
  · skip
    obtain ⟨y2, e9, h⟩ := bindE h
    have f5 := FrP.trans f4 (fo_X12_valueOf  e9)
    clear e9
    obtain ⟨-, h⟩ := okE h
    obtain ⟨M3, e9, h⟩ := bndE h
    have f6 : FrP p67 M M3 := by
      rw [e9]
      exact FrP.sI f5 (fun j y => by unfold p67 at y; omega)
    clear e9
    exact FrP.trans f6 (fo_X12_makes_61  h)
theorem fo_X12_fetches_77 {s1 : Int32} {M : Mem} {z : Unit × Mem} (h : d_X12_fetches_77 s1 M = some z) : FrP p67 M z.2 := by
  unfold d_X12_fetches_77 at h
  obtain ⟨y1, e9, h⟩ := bindE h
  have f1 := FrP.trans (FrP.refl M) (fo_X12_pushes  e9)
  clear e9
  obtain ⟨-, h⟩ := okE h
  obtain ⟨-, h⟩ := okE h
  obtain ⟨M1, e9, h⟩ := bndE h
  have f2 : FrP p67 M M1 := by
    rw [e9]
    exact FrP.sI f1 (fun j y => by unfold p67 at y; omega)
  clear e9
  rw [← Option.some.inj h]
  exact f2
theorem fo_X12_fetches {x1 : Int32} {M : Mem} {z : Unit × Mem} (h : d_X12_fetches x1 M = some z) : FrP p67 M z.2 := by
  unfold d_X12_fetches at h
  obtain ⟨y1, e9, h⟩ := bindE h
  have f1 := FrP.trans (FrP.refl M) (fo_X12_top  e9)
  clear e9
  obtain ⟨-, h⟩ := okE h
  obtain ⟨b1, -, h⟩ := bndE h
  obtain ⟨-, h⟩ := okE h
  obtain ⟨-, h⟩ := okE h
  obtain ⟨-, h⟩ := okE h
  obtain ⟨y2, e9, h⟩ := bindE h
  have f3 := FrP.trans f1 (fo_X12_gives  e9)
  clear e9
  obtain ⟨-, h⟩ := okE h
  obtain ⟨-, h⟩ := okE h
  obtain ⟨M1, e9, h⟩ := bndE h
  have f4 : FrP p67 M M1 := by
    rw [e9]
    exact FrP.sI f3 (fun j y => by unfold p67 at y; omega)
  clear e9
  rcases iteE h with h | h
  · skip
    exact FrP.trans f4 (fo_X12_fetches_77  h)
  · skip
    obtain ⟨y3, e9, h⟩ := bindE h
    have f5 := FrP.trans f4 (fo_X12_newValue  e9)
    clear e9
    exact FrP.trans f5 (fo_X12_fetches_77  h)
theorem fo_X12_executes_78 {s1 : Int32} {s2 : Int32} {M : Mem} {z : Unit × Mem} (h : d_X12_executes_78 s1 s2 M = some z) : FrP p67 M z.2 := by
  unfold d_X12_executes_78 at h
  obtain ⟨y1, e9, h⟩ := bindE h
  have f1 := FrP.trans (FrP.refl M) (fo_X12_gives  e9)
  clear e9
  obtain ⟨y2, e9, h⟩ := bindE h
  have f2 := FrP.trans f1 (fo_X12_made  e9)
  clear e9
  obtain ⟨y3, e9, h⟩ := bindE h
  have f3 := FrP.trans f2 (fo_X12_pushes  e9)
  clear e9
  obtain ⟨-, h⟩ := okE h
  obtain ⟨-, h⟩ := okE h
  obtain ⟨M1, e9, h⟩ := bndE h
  have f4 : FrP p67 M M1 := by
    rw [e9]
    exact FrP.sI f3 (fun j y => by unfold p67 at y; omega)
  clear e9
  rw [← Option.some.inj h]
  exact f4
theorem fo_X12_executes_59 {x2 : Int32} {x3 : Int32} {M : Mem} {z : Unit × Mem} (h : d_X12_executes_59 x2 x3 M = some z) : FrP p67 M z.2 := by
  unfold d_X12_executes_59 at h
  rcases iteE h with h | h
  · skip
    exact FrP.trans (FrP.refl M) (fo_X12_executes_78  h)
  · skip
    obtain ⟨-, h⟩ := okE h
    exact FrP.trans (FrP.refl M) (fo_X12_executes_78  h)
theorem fo_X12_executes_310 {x2 : Int32} {M : Mem} {z : Unit × Mem} (h : d_X12_executes_310 x2 M = some z) : FrP p67 M z.2 := by
  unfold d_X12_executes_310 at h
  obtain ⟨y1, e9, h⟩ := bindE h
  have f1 := FrP.trans (FrP.refl M) (fo_X12_reckonsOn  e9)
  clear e9
  rw [← Option.some.inj h]
  exact f1
theorem fo_X12_executes {M : Mem} {z : Unit × Mem} (hbad : ¬ mI M 72 (((40 : Int32) * (mI M 109 (mI M 69 48).toNatClampNeg)) + (mI M 110 (mI M 69 48).toNatClampNeg)).toNatClampNeg = (114 : Int32)) (h : d_X12_executes M = some z) : FrP p67 M z.2 := by
  unfold d_X12_executes at h
  obtain ⟨-, h⟩ := okE h
  obtain ⟨-, h⟩ := okE h
  obtain ⟨b1, rfl, h⟩ := bndE h
  obtain ⟨-, h⟩ := okE h
  obtain ⟨b2, rfl, h⟩ := bndE h
  obtain ⟨-, h⟩ := okE h
  obtain ⟨b3, rfl, h⟩ := bndE h
  obtain ⟨M1, e9, h⟩ := bndE h
  have f4 : FrP p67 M M1 := by
    rw [e9]
    exact FrP.sI (FrP.refl M) (fun j y => by unfold p67 at y; omega)
  clear e9
  rcases iteE2 h with ⟨hc9, h⟩ | ⟨hc8, h⟩
  · skip
    exact FrP.trans f4 (fo_X12_executes_59  h)
  · skip
    rcases iteE2 h with ⟨hc9, h⟩ | ⟨hc8, h⟩
    · skip
      exact FrP.trans f4 (fo_X12_executes_59  h)
    · skip
      rcases iteE2 h with ⟨hc9, h⟩ | ⟨hc8, h⟩
      · skip
        obtain ⟨-, h⟩ := okE h
        obtain ⟨-, h⟩ := okE h
        obtain ⟨M12, e9, h⟩ := bndE h
        have f5 : FrP p67 M M12 := by
          rw [e9]
          exact FrP.sI f4 (fun j y => by unfold p67 at y; omega)
        clear e9
        obtain ⟨y18, e9, h⟩ := bindE h
        have f6 := FrP.trans f5 (fo_X12_top  e9)
        clear e9
        obtain ⟨y19, e9, h⟩ := bindE h
        have f7 := FrP.trans f6 (fo_X12_copies  e9)
        clear e9
        obtain ⟨-, h⟩ := okE h
        obtain ⟨-, h⟩ := okE h
        obtain ⟨M13, e9, h⟩ := bndE h
        have f8 : FrP p67 M M13 := by
          rw [e9]
          exact FrP.sI f7 (fun j y => by unfold p67 at y; omega)
        clear e9
        rw [← Option.some.inj h]
        exact f8
      · skip
        rcases iteE2 h with ⟨hc9, h⟩ | ⟨hc8, h⟩
        · skip
          obtain ⟨y16, e9, h⟩ := bindE h
          have f9 := FrP.trans f4 (fo_X12_top  e9)
          clear e9
          obtain ⟨y17, e9, h⟩ := bindE h
          have f10 := FrP.trans f9 (fo_X12_copies  e9)
          clear e9
          obtain ⟨-, h⟩ := okE h
          obtain ⟨-, h⟩ := okE h
          obtain ⟨M10, e9, h⟩ := bndE h
          have f11 : FrP p67 M M10 := by
            rw [e9]
            exact FrP.sI f10 (fun j y => by unfold p67 at y; omega)
          clear e9
          obtain ⟨-, h⟩ := okE h
          obtain ⟨-, h⟩ := okE h
          obtain ⟨M11, e9, h⟩ := bndE h
          have f12 : FrP p67 M M11 := by
            rw [e9]
            exact FrP.sI f11 (fun j y => by unfold p67 at y; omega)
          clear e9
          rw [← Option.some.inj h]
          exact f12
        · skip
          rcases iteE2 h with ⟨hc9, h⟩ | ⟨hc8, h⟩
          · skip
            obtain ⟨-, h⟩ := okE h
            obtain ⟨-, h⟩ := okE h
            obtain ⟨M8, e9, h⟩ := bndE h
            have f13 : FrP p67 M M8 := by
              rw [e9]
              exact FrP.sI f4 (fun j y => by unfold p67 at y; omega)
            clear e9
            obtain ⟨y13, e9, h⟩ := bindE h
            have f14 := FrP.trans f13 (fo_X12_top  e9)
            clear e9
            obtain ⟨y14, e9, h⟩ := bindE h
            have f15 := FrP.trans f14 (fo_X12_top  e9)
            clear e9
            obtain ⟨y15, e9, h⟩ := bindE h
            have f16 := FrP.trans f15 (fo_X12_copies  e9)
            clear e9
            obtain ⟨-, h⟩ := okE h
            obtain ⟨-, h⟩ := okE h
            obtain ⟨M9, e9, h⟩ := bndE h
            have f17 : FrP p67 M M9 := by
              rw [e9]
              exact FrP.sI f16 (fun j y => by unfold p67 at y; omega)
            clear e9
            rw [← Option.some.inj h]
            exact f17
          · skip
            rcases iteE2 h with ⟨hc9, h⟩ | ⟨hc8, h⟩
            · skip
              obtain ⟨-, h⟩ := okE h
              obtain ⟨-, h⟩ := okE h
              obtain ⟨M6, e9, h⟩ := bndE h
              have f18 : FrP p67 M M6 := by
                rw [e9]
                exact FrP.sI f4 (fun j y => by unfold p67 at y; omega)
              clear e9
              obtain ⟨-, h⟩ := okE h
              obtain ⟨-, h⟩ := okE h
              obtain ⟨M7, e9, h⟩ := bndE h
              have f19 : FrP p67 M M7 := by
                rw [e9]
                exact FrP.sI f18 (fun j y => by unfold p67 at y; omega)
              clear e9
              rw [← Option.some.inj h]
              exact f19
            · skip
              obtain ⟨y1, e9, h⟩ := bindE h
              have f20 := FrP.trans f4 (fo_X12_isPair  e9)
              clear e9
              rcases iteE2 h with ⟨hc9, h⟩ | ⟨hc8, h⟩
              · skip
                rcases iteE2 h with ⟨hc9, h⟩ | ⟨hc8, h⟩
                · skip
                  exact FrP.trans f20 (fo_X12_executes_310  h)
                · skip
                  rcases iteE2 h with ⟨hc9, h⟩ | ⟨hc8, h⟩
                  · skip
                    obtain ⟨-, h⟩ := okE h
                    obtain ⟨M5, e9, h⟩ := bndE h
                    have f21 : FrP p67 M M5 := by
                      rw [e9]
                      exact FrP.sI f20 (fun j y => by unfold p67 at y; omega)
                    clear e9
                    rw [← Option.some.inj h]
                    exact f21
                  · skip
                    rcases iteE2 h with ⟨hc9, h⟩ | ⟨hc8, h⟩
                    · skip
                      obtain ⟨y11, e9, h⟩ := bindE h
                      have f22 := FrP.trans f20 (fo_X12_top  e9)
                      clear e9
                      obtain ⟨y12, e9, h⟩ := bindE h
                      have f23 := FrP.trans f22 (fo_X12_isNull  e9)
                      clear e9
                      obtain ⟨-, h⟩ := okE h
                      obtain ⟨-, h⟩ := okE h
                      obtain ⟨M2, e9, h⟩ := bndE h
                      have f24 : FrP p67 M M2 := by
                        rw [e9]
                        exact FrP.sI f23 (fun j y => by unfold p67 at y; omega)
                      clear e9
                      rcases iteE2 h with ⟨hc9, h⟩ | ⟨hc8, h⟩
                      · skip
                        obtain ⟨-, h⟩ := okE h
                        obtain ⟨-, h⟩ := okE h
                        obtain ⟨M3, e9, h⟩ := bndE h
                        have f25 : FrP p67 M M3 := by
                          rw [e9]
                          exact FrP.sI f24 (fun j y => by unfold p67 at y; omega)
                        clear e9
                        rw [← Option.some.inj h]
                        exact f25
                      · skip
                        obtain ⟨-, h⟩ := okE h
                        obtain ⟨M4, e9, h⟩ := bndE h
                        have f26 : FrP p67 M M4 := by
                          rw [e9]
                          exact FrP.sI f24 (fun j y => by unfold p67 at y; omega)
                        clear e9
                        rw [← Option.some.inj h]
                        exact f26
                    · skip
                      rcases iteE2 h with ⟨hc9, h⟩ | ⟨hc8, h⟩
                      · skip
                        obtain ⟨y10, e9, h⟩ := bindE h
                        have f27 := FrP.trans f20 (fo_X12_makes  e9)
                        clear e9
                        rw [← Option.some.inj h]
                        exact f27
                      · skip
                        rcases iteE2 h with ⟨hc9, h⟩ | ⟨hc8, h⟩
                        · skip
                          obtain ⟨y9, e9, h⟩ := bindE h
                          have f28 := FrP.trans f20 (fo_X12_fetches  e9)
                          clear e9
                          rw [← Option.some.inj h]
                          exact f28
                        · skip
                          rcases iteE2 h with ⟨hc9, h⟩ | ⟨hc8, h⟩
                          · skip
                            obtain ⟨y8, e9, h⟩ := bindE h
                            have f29 := FrP.trans f20 (fo_X12_puts  e9)
                            clear e9
                            rw [← Option.some.inj h]
                            exact f29
                          · skip
                            rcases iteE2 h with ⟨hc9, h⟩ | ⟨hc8, h⟩
                            · skip
                              obtain ⟨-, h⟩ := okE h
                              obtain ⟨y7, e9, h⟩ := bindE h
                              have f30 := FrP.trans f20 (fo_X12_calls  e9)
                              clear e9
                              rw [← Option.some.inj h]
                              exact f30
                            · skip
                              rcases iteE2 h with ⟨hc9, h⟩ | ⟨hc8, h⟩
                              · skip
                                obtain ⟨y4, e9, h⟩ := bindE h
                                have f31 := FrP.trans f20 (fo_X12_top  e9)
                                clear e9
                                obtain ⟨-, h⟩ := okE h
                                obtain ⟨-, h⟩ := okE h
                                obtain ⟨-, h⟩ := okE h
                                obtain ⟨y5, e9, h⟩ := bindE h
                                have f32 := FrP.trans f31 (fo_X12_methodOf  e9)
                                clear e9
                                obtain ⟨y6, e9, h⟩ := bindE h
                                have f33 := FrP.trans f32 (fo_X12_calls  e9)
                                clear e9
                                rw [← Option.some.inj h]
                                exact f33
                              · skip
                                rcases iteE2 h with ⟨hc9, h⟩ | ⟨hc8, h⟩
                                · skip
                                  exact absurd hc9 hbad
                                · skip
                                  obtain ⟨y2, e9, h⟩ := bindE h
                                  have f35 := FrP.trans f20 (fo_X12_tells  e9)
                                  clear e9
                                  rw [← Option.some.inj h]
                                  exact f35
              · skip
                exact FrP.trans f20 (fo_X12_executes_310  h)
end MT1
