/-! ===== what no step of a machine touches ===== -/
section MT6
abbrev p14 (o : Nat) (a j : Nat) : Prop := (o = 18 ∨ o = 28) ∧ a = o ∧ (j = 14 ∨ j = 15)
/-- the reason and the line of a failure stay, or the run has failed just now -/
def E45 (o : Nat) (M N : Mem) : Prop := mI N o 13 = nI 120 ∨ (mI N o 14 = mI M o 14 ∧ mI N o 15 = mI M o 15)
theorem E45.pre {o : Nat} {M M1 N : Mem} (h : ∀ j, 12 < j → mI M1 o j = mI M o j) (k : E45 o M1 N) : E45 o M N := by
  rcases k with k | ⟨k1, k2⟩
  · exact .inl k
  · exact .inr ⟨k1.trans (h 14 (by omega)), k2.trans (h 15 (by omega))⟩
theorem E45.post {o : Nat} {M M1 N : Mem} (k : E45 o M M1) (h : ∀ j, 12 < j → mI N o j = mI M1 o j) : E45 o M N := by
  rcases k with k | ⟨k1, k2⟩
  · exact .inl ((h 13 (by omega)).trans k)
  · exact .inr ⟨(h 14 (by omega)).trans k1, (h 15 (by omega)).trans k2⟩
theorem x4_X11_localPlace {x0 : Int32} {x1 : Int32} {M : Mem} {o : Nat} {z : Int32 × Mem} (h : d_X11_localPlace x0 x1 M = some z) : FrP (p14 o) M z.2 := by
  unfold d_X11_localPlace at h
  rw [← Option.some.inj h]
  exact (FrP.refl M)
theorem x4_X8_put {o : Nat} {x1 : Int32} {x2 : Int32} {x3 : Int32} {M : Mem} {z : Unit × Mem} (h : d_X8_put o x1 x2 x3 M = some z) : FrP (p14 o) M z.2 := by
  unfold d_X8_put at h
  obtain ⟨-, h⟩ := okE h
  obtain ⟨-, h⟩ := okE h
  obtain ⟨M1, e9, h⟩ := bndE h
  have f1 : FrP (p14 o) M M1 := by
    rw [e9]
    exact FrP.sI (FrP.refl M) (fun j y => by unfold p14 at y; omega)
  clear e9
  obtain ⟨-, h⟩ := okE h
  obtain ⟨M2, e9, h⟩ := bndE h
  have f2 : FrP (p14 o) M M2 := by
    rw [e9]
    exact FrP.sI f1 (fun j y => by unfold p14 at y; omega)
  clear e9
  obtain ⟨-, h⟩ := okE h
  obtain ⟨M3, e9, h⟩ := bndE h
  have f3 : FrP (p14 o) M M3 := by
    rw [e9]
    exact FrP.sD f2 (fun j y => by unfold p14 at y; omega)
  clear e9
  rw [← Option.some.inj h]
  exact f3
theorem x4_X3_addFrame_32b {k32 : (Int32) → Mem → Option (Unit × Mem)} {o : Nat} {x2 : Int32} {M : Mem} {z : Unit × Mem} (hk32 : ∀ a M z, k32 a M = some z → FrP (p14 o) M z.2) (h : d_X3_addFrame_32b k32 o x2 M = some z) : FrP (p14 o) M z.2 := by
  unfold d_X3_addFrame_32b at h
  rcases iteE h with h | h
  · skip
    obtain ⟨M1, e9, h⟩ := bndE h
    have f1 : FrP (p14 o) M M1 := by
      rw [e9]
      exact FrP.sI (FrP.refl M) (fun j y => by unfold p14 at y; omega)
    clear e9
    rw [← Option.some.inj h]
    exact f1
  · skip
    obtain ⟨y1, e9, h⟩ := bindE h
    have f2 : FrP (p14 o) _ _ := FrP.trans (FrP.refl M) (x4_X11_localPlace  e9)
    clear e9
    obtain ⟨y2, e9, h⟩ := bindE h
    have f3 : FrP (p14 o) _ _ := FrP.trans f2 (x4_X8_put  e9)
    clear e9
    obtain ⟨b1, -, h⟩ := bndE h
    exact FrP.trans f3 (hk32 _ _ _ h)
theorem x4_X3_addFrame_32 {o : Nat} : ∀ n a M z, d_X3_addFrame_32 o n a M = some z → FrP (p14 o) M z.2 := lp_ind (G := fun _ M z => FrP (p14 o) M z.2) (fun k hk a M z h => x4_X3_addFrame_32b hk h)
theorem x4_X3_addFrame {o : Nat} {x1 : Int32} {M : Mem} {z : Unit × Mem} (h : d_X3_addFrame o x1 M = some z) : FrP (p14 o) M z.2 := by
  unfold d_X3_addFrame at h
  obtain ⟨-, h⟩ := okE h
  obtain ⟨M1, e9, h⟩ := bndE h
  have f1 : FrP (p14 o) M M1 := by
    rw [e9]
    exact FrP.sI (FrP.refl M) (fun j y => by unfold p14 at y; omega)
  clear e9
  obtain ⟨-, h⟩ := okE h
  obtain ⟨M2, e9, h⟩ := bndE h
  have f2 : FrP (p14 o) M M2 := by
    rw [e9]
    exact FrP.sI f1 (fun j y => by unfold p14 at y; omega)
  clear e9
  obtain ⟨-, h⟩ := okE h
  obtain ⟨M3, e9, h⟩ := bndE h
  have f3 : FrP (p14 o) M M3 := by
    rw [e9]
    exact FrP.sI f2 (fun j y => by unfold p14 at y; omega)
  clear e9
  exact FrP.trans f3 (x4_X3_addFrame_32 _ _ _ _ h)
theorem x4_X3_functionAhead {o : Nat} {M : Mem} {z : Int32 × Mem} (h : d_X3_functionAhead o M = some z) : FrP (p14 o) M z.2 := by
  unfold d_X3_functionAhead at h
  obtain ⟨-, h⟩ := okE h
  rw [← Option.some.inj h]
  exact (FrP.refl M)
theorem x4_X3_indexAhead {o : Nat} {M : Mem} {z : Int32 × Mem} (h : d_X3_indexAhead o M = some z) : FrP (p14 o) M z.2 := by
  unfold d_X3_indexAhead at h
  obtain ⟨-, h⟩ := okE h
  rw [← Option.some.inj h]
  exact (FrP.refl M)
theorem x4_X3_lineAhead {o : Nat} {M : Mem} {z : Int32 × Mem} (h : d_X3_lineAhead o M = some z) : FrP (p14 o) M z.2 := by
  unfold d_X3_lineAhead at h
  obtain ⟨y1, e9, h⟩ := bindE h
  have f1 : FrP (p14 o) _ _ := FrP.trans (FrP.refl M) (x4_X3_functionAhead  e9)
  clear e9
  obtain ⟨y2, e9, h⟩ := bindE h
  have f2 : FrP (p14 o) _ _ := FrP.trans f1 (x4_X3_indexAhead  e9)
  clear e9
  rw [← Option.some.inj h]
  exact f2
theorem x4_X3_fromTop {o : Nat} {x1 : Int32} {M : Mem} {z : Int32 × Mem} (h : d_X3_fromTop o x1 M = some z) : FrP (p14 o) M z.2 := by
  unfold d_X3_fromTop at h
  obtain ⟨b1, -, h⟩ := bndE h
  obtain ⟨-, h⟩ := okE h
  rw [← Option.some.inj h]
  exact (FrP.refl M)
theorem x4_X8_isNumber {o : Nat} {x1 : Int32} {M : Mem} {z : Int32 × Mem} (h : d_X8_isNumber o x1 M = some z) : FrP (p14 o) M z.2 := by
  unfold d_X8_isNumber at h
  obtain ⟨-, h⟩ := okE h
  rcases iteE h with h | h
  · skip
    rw [← Option.some.inj h]
    exact (FrP.refl M)
  · skip
    obtain ⟨-, h⟩ := okE h
    rcases iteE h with h | h
    · skip
      rw [← Option.some.inj h]
      exact (FrP.refl M)
    · skip
      rw [← Option.some.inj h]
      exact (FrP.refl M)
theorem x4_X8_areIntegers {o : Nat} {x1 : Int32} {x2 : Int32} {M : Mem} {z : Int32 × Mem} (h : d_X8_areIntegers o x1 x2 M = some z) : FrP (p14 o) M z.2 := by
  unfold d_X8_areIntegers at h
  obtain ⟨-, h⟩ := okE h
  rcases iteE h with h | h
  · skip
    obtain ⟨-, h⟩ := okE h
    rcases iteE h with h | h
    · skip
      rw [← Option.some.inj h]
      exact (FrP.refl M)
    · skip
      rw [← Option.some.inj h]
      exact (FrP.refl M)
  · skip
    rw [← Option.some.inj h]
    exact (FrP.refl M)
theorem x4_X8_isUndefined {o : Nat} {x1 : Int32} {M : Mem} {z : Int32 × Mem} (h : d_X8_isUndefined o x1 M = some z) : FrP (p14 o) M z.2 := by
  unfold d_X8_isUndefined at h
  obtain ⟨-, h⟩ := okE h
  rcases iteE h with h | h
  · skip
    obtain ⟨-, h⟩ := okE h
    rcases iteE h with h | h
    · skip
      rw [← Option.some.inj h]
      exact (FrP.refl M)
    · skip
      rw [← Option.some.inj h]
      exact (FrP.refl M)
  · skip
    rw [← Option.some.inj h]
    exact (FrP.refl M)
theorem x4_X3_shapeFromTop {o : Nat} {x1 : Int32} {M : Mem} {z : Int32 × Mem} (h : d_X3_shapeFromTop o x1 M = some z) : FrP (p14 o) M z.2 := by
  unfold d_X3_shapeFromTop at h
  obtain ⟨y1, e9, h⟩ := bindE h
  have f1 : FrP (p14 o) _ _ := FrP.trans (FrP.refl M) (x4_X3_fromTop  e9)
  clear e9
  obtain ⟨-, h⟩ := okE h
  obtain ⟨-, h⟩ := okE h
  rw [← Option.some.inj h]
  exact f1
theorem x4_X7_has {x1 : Int32} {x2 : Int32} {M : Mem} {o : Nat} {z : Int32 × Mem} (h : d_X7_has x1 x2 M = some z) : FrP (p14 o) M z.2 := by
  unfold d_X7_has at h
  obtain ⟨-, h⟩ := okE h
  rcases iteE h with h | h
  · skip
    rw [← Option.some.inj h]
    exact (FrP.refl M)
  · skip
    rw [← Option.some.inj h]
    exact (FrP.refl M)
theorem x4_X3_classFromTop {o : Nat} {M : Mem} {z : Int32 × Mem} (h : d_X3_classFromTop o M = some z) : FrP (p14 o) M z.2 := by
  unfold d_X3_classFromTop at h
  obtain ⟨y1, e9, h⟩ := bindE h
  have f1 : FrP (p14 o) _ _ := FrP.trans (FrP.refl M) (x4_X3_shapeFromTop  e9)
  clear e9
  obtain ⟨-, h⟩ := okE h
  rw [← Option.some.inj h]
  exact f1
theorem x4_X5_methodOf_5b {k5 : (Int32 × Int32) → Mem → Option (Int32 × Mem)} {x2 : Int32} {x3 : Int32} {x4 : Int32} {M : Mem} {o : Nat} {z : Int32 × Mem} (hk5 : ∀ a M z, k5 a M = some z → FrP (p14 o) M z.2) (h : d_X5_methodOf_5b k5 x2 x3 x4 M = some z) : FrP (p14 o) M z.2 := by
  unfold d_X5_methodOf_5b at h
  rcases iteE h with h | h
  · skip
    rw [← Option.some.inj h]
    exact (FrP.refl M)
  · skip
    rcases iteE h with h | h
    · skip
      rw [← Option.some.inj h]
      exact (FrP.refl M)
    · skip
      obtain ⟨-, h⟩ := okE h
      rcases iteE h with h | h
      · skip
        obtain ⟨-, h⟩ := okE h
        obtain ⟨b1, -, h⟩ := bndE h
        obtain ⟨b2, -, h⟩ := bndE h
        exact FrP.trans (FrP.refl M) (hk5 _ _ _ h)
      · skip
        obtain ⟨-, h⟩ := okE h
        rw [← Option.some.inj h]
        exact (FrP.refl M)
theorem x4_X5_methodOf_5 {x2 : Int32} {o : Nat} : ∀ n a M z, d_X5_methodOf_5 x2 n a M = some z → FrP (p14 o) M z.2 := lp_ind (G := fun _ M z => FrP (p14 o) M z.2) (fun k hk a M z h => x4_X5_methodOf_5b hk h)
theorem x4_X5_methodOf {x1 : Int32} {x2 : Int32} {M : Mem} {o : Nat} {z : Int32 × Mem} (h : d_X5_methodOf x1 x2 M = some z) : FrP (p14 o) M z.2 := by
  unfold d_X5_methodOf at h
  exact FrP.trans (FrP.refl M) (x4_X5_methodOf_5 _ _ _ _ h)
theorem x4_X3_pushPut {o : Nat} {x1 : Int32} {x2 : Int32} {M : Mem} {z : Unit × Mem} (h : d_X3_pushPut o x1 x2 M = some z) : FrP (p14 o) M z.2 := by
  unfold d_X3_pushPut at h
  obtain ⟨-, h⟩ := okE h
  obtain ⟨-, h⟩ := okE h
  obtain ⟨M1, e9, h⟩ := bndE h
  have f1 : FrP (p14 o) M M1 := by
    rw [e9]
    exact FrP.sI (FrP.refl M) (fun j y => by unfold p14 at y; omega)
  clear e9
  obtain ⟨y1, e9, h⟩ := bindE h
  have f2 : FrP (p14 o) _ _ := FrP.trans f1 (x4_X3_fromTop  e9)
  clear e9
  obtain ⟨y2, e9, h⟩ := bindE h
  have f3 : FrP (p14 o) _ _ := FrP.trans f2 (x4_X8_put  e9)
  clear e9
  rw [← Option.some.inj h]
  exact f3
theorem x4_X3_take {o : Nat} {M : Mem} {z : Int32 × Mem} (h : d_X3_take o M = some z) : FrP (p14 o) M z.2 := by
  unfold d_X3_take at h
  obtain ⟨-, h⟩ := okE h
  obtain ⟨-, h⟩ := okE h
  obtain ⟨M1, e9, h⟩ := bndE h
  have f1 : FrP (p14 o) M M1 := by
    rw [e9]
    exact FrP.sI (FrP.refl M) (fun j y => by unfold p14 at y; omega)
  clear e9
  obtain ⟨y1, e9, h⟩ := bindE h
  have f2 : FrP (p14 o) _ _ := FrP.trans f1 (x4_X3_fromTop  e9)
  clear e9
  rw [← Option.some.inj h]
  exact f2
theorem x4_X8_isNull {o : Nat} {x1 : Int32} {M : Mem} {z : Int32 × Mem} (h : d_X8_isNull o x1 M = some z) : FrP (p14 o) M z.2 := by
  unfold d_X8_isNull at h
  obtain ⟨-, h⟩ := okE h
  obtain ⟨b1, -, h⟩ := bndE h
  rcases iteE h with h | h
  · skip
    obtain ⟨y1, e9, h⟩ := bindE h
    have f2 : FrP (p14 o) _ _ := FrP.trans (FrP.refl M) (x4_X8_isUndefined  e9)
    clear e9
    rcases iteE h with h | h
    · skip
      obtain ⟨-, h⟩ := okE h
      rcases iteE h with h | h
      · skip
        rw [← Option.some.inj h]
        exact f2
      · skip
        rw [← Option.some.inj h]
        exact f2
    · skip
      rw [← Option.some.inj h]
      exact f2
  · skip
    rcases iteE h with h | h
    · skip
      obtain ⟨-, h⟩ := okE h
      rcases iteE h with h | h
      · skip
        rw [← Option.some.inj h]
        exact (FrP.refl M)
      · skip
        rw [← Option.some.inj h]
        exact (FrP.refl M)
    · skip
      obtain ⟨-, h⟩ := okE h
      rcases iteE h with h | h
      · skip
        rw [← Option.some.inj h]
        exact (FrP.refl M)
      · skip
        rw [← Option.some.inj h]
        exact (FrP.refl M)
theorem x4_X3_jumpsAtNull {o : Nat} {x1 : Int32} {x2 : Int32} {M : Mem} {z : Int32 × Mem} (h : d_X3_jumpsAtNull o x1 x2 M = some z) : FrP (p14 o) M z.2 := by
  unfold d_X3_jumpsAtNull at h
  obtain ⟨y1, e9, h⟩ := bindE h
  have f1 : FrP (p14 o) _ _ := FrP.trans (FrP.refl M) (x4_X3_take  e9)
  clear e9
  obtain ⟨y2, e9, h⟩ := bindE h
  have f2 : FrP (p14 o) _ _ := FrP.trans f1 (x4_X8_isNull  e9)
  clear e9
  rcases iteE h with h | h
  · skip
    rw [← Option.some.inj h]
    exact f2
  · skip
    obtain ⟨-, h⟩ := okE h
    obtain ⟨M1, e9, h⟩ := bndE h
    have f3 : FrP (p14 o) M M1 := by
      rw [e9]
      exact FrP.sI f2 (fun j y => by unfold p14 at y; omega)
    clear e9
    rcases iteE h with h | h
    · skip
      rw [← Option.some.inj h]
      exact f3
    · skip
      rw [← Option.some.inj h]
      exact f3
theorem x4_X8_move {o : Nat} {x1 : Int32} {x2 : Int32} {M : Mem} {z : Unit × Mem} (h : d_X8_move o x1 x2 M = some z) : FrP (p14 o) M z.2 := by
  unfold d_X8_move at h
  obtain ⟨-, h⟩ := okE h
  obtain ⟨-, h⟩ := okE h
  obtain ⟨-, h⟩ := okE h
  obtain ⟨M1, e9, h⟩ := bndE h
  have f1 : FrP (p14 o) M M1 := by
    rw [e9]
    exact FrP.sI (FrP.refl M) (fun j y => by unfold p14 at y; omega)
  clear e9
  obtain ⟨-, h⟩ := okE h
  obtain ⟨-, h⟩ := okE h
  obtain ⟨M2, e9, h⟩ := bndE h
  have f2 : FrP (p14 o) M M2 := by
    rw [e9]
    exact FrP.sI f1 (fun j y => by unfold p14 at y; omega)
  clear e9
  obtain ⟨-, h⟩ := okE h
  obtain ⟨-, h⟩ := okE h
  obtain ⟨M3, e9, h⟩ := bndE h
  have f3 : FrP (p14 o) M M3 := by
    rw [e9]
    exact FrP.sD f2 (fun j y => by unfold p14 at y; omega)
  clear e9
  obtain ⟨-, h⟩ := okE h
  obtain ⟨-, h⟩ := okE h
  obtain ⟨M4, e9, h⟩ := bndE h
  have f4 : FrP (p14 o) M M4 := by
    rw [e9]
    exact FrP.sI f3 (fun j y => by unfold p14 at y; omega)
  clear e9
  rw [← Option.some.inj h]
  exact f4
theorem x4_X3_call_25b {k25 : (Int32) → Mem → Option (Unit × Mem)} {o : Nat} {x2 : Int32} {x3 : Int32} {x4 : Int32} {M : Mem} {z : Unit × Mem} (hk25 : ∀ a M z, k25 a M = some z → FrP (p14 o) M z.2) (h : d_X3_call_25b k25 o x2 x3 x4 M = some z) : FrP (p14 o) M z.2 := by
  unfold d_X3_call_25b at h
  rcases iteE h with h | h
  · skip
    rw [← Option.some.inj h]
    exact (FrP.refl M)
  · skip
    obtain ⟨-, h⟩ := okE h
    obtain ⟨y1, e9, h⟩ := bindE h
    have f1 : FrP (p14 o) _ _ := FrP.trans (FrP.refl M) (x4_X11_localPlace  e9)
    clear e9
    obtain ⟨y2, e9, h⟩ := bindE h
    have f2 : FrP (p14 o) _ _ := FrP.trans f1 (x4_X8_move  e9)
    clear e9
    obtain ⟨b1, -, h⟩ := bndE h
    exact FrP.trans f2 (hk25 _ _ _ h)
theorem x4_X3_call_25 {o : Nat} {x2 : Int32} {x3 : Int32} : ∀ n a M z, d_X3_call_25 o x2 x3 n a M = some z → FrP (p14 o) M z.2 := lp_ind (G := fun _ M z => FrP (p14 o) M z.2) (fun k hk a M z h => x4_X3_call_25b hk h)
theorem x4_X3_call {o : Nat} {x1 : Int32} {x2 : Int32} {M : Mem} {z : Unit × Mem} (h : d_X3_call o x1 x2 M = some z) : FrP (p14 o) M z.2 := by
  unfold d_X3_call at h
  obtain ⟨b1, -, h⟩ := bndE h
  obtain ⟨-, h⟩ := okE h
  obtain ⟨-, h⟩ := okE h
  obtain ⟨M1, e9, h⟩ := bndE h
  have f2 : FrP (p14 o) M M1 := by
    rw [e9]
    exact FrP.sI (FrP.refl M) (fun j y => by unfold p14 at y; omega)
  clear e9
  obtain ⟨y1, e9, h⟩ := bindE h
  have f3 : FrP (p14 o) _ _ := FrP.trans f2 (x4_X3_addFrame  e9)
  clear e9
  exact FrP.trans f3 (x4_X3_call_25 _ _ _ _ h)
theorem x4_X3_pushMoved {o : Nat} {x1 : Int32} {M : Mem} {z : Unit × Mem} (h : d_X3_pushMoved o x1 M = some z) : FrP (p14 o) M z.2 := by
  unfold d_X3_pushMoved at h
  obtain ⟨-, h⟩ := okE h
  obtain ⟨-, h⟩ := okE h
  obtain ⟨M1, e9, h⟩ := bndE h
  have f1 : FrP (p14 o) M M1 := by
    rw [e9]
    exact FrP.sI (FrP.refl M) (fun j y => by unfold p14 at y; omega)
  clear e9
  obtain ⟨y1, e9, h⟩ := bindE h
  have f2 : FrP (p14 o) _ _ := FrP.trans f1 (x4_X3_fromTop  e9)
  clear e9
  obtain ⟨y2, e9, h⟩ := bindE h
  have f3 : FrP (p14 o) _ _ := FrP.trans f2 (x4_X8_move  e9)
  clear e9
  rw [← Option.some.inj h]
  exact f3
theorem x4_X3_giveBack {o : Nat} {M : Mem} {z : Unit × Mem} (h : d_X3_giveBack o M = some z) : FrP (p14 o) M z.2 := by
  unfold d_X3_giveBack at h
  obtain ⟨y1, e9, h⟩ := bindE h
  have f1 : FrP (p14 o) _ _ := FrP.trans (FrP.refl M) (x4_X3_take  e9)
  clear e9
  obtain ⟨M1, e9, h⟩ := bndE h
  have f2 : FrP (p14 o) M M1 := by
    rw [e9]
    exact FrP.sI f1 (fun j y => by unfold p14 at y; omega)
  clear e9
  rcases iteE h with h | h
  · skip
    obtain ⟨y3, e9, h⟩ := bindE h
    have f3 : FrP (p14 o) _ _ := FrP.trans f2 (x4_X8_move  e9)
    clear e9
    obtain ⟨M2, e9, h⟩ := bndE h
    have f4 : FrP (p14 o) M M2 := by
      rw [e9]
      exact FrP.sI f3 (fun j y => by unfold p14 at y; omega)
    clear e9
    rw [← Option.some.inj h]
    exact f4
  · skip
    obtain ⟨y2, e9, h⟩ := bindE h
    have f5 : FrP (p14 o) _ _ := FrP.trans f2 (x4_X3_pushMoved  e9)
    clear e9
    rw [← Option.some.inj h]
    exact f5
theorem x4_X11_fieldPlace {x0 : Int32} {x1 : Int32} {M : Mem} {o : Nat} {z : Int32 × Mem} (h : d_X11_fieldPlace x0 x1 M = some z) : FrP (p14 o) M z.2 := by
  unfold d_X11_fieldPlace at h
  rw [← Option.some.inj h]
  exact (FrP.refl M)
theorem x4_X7_addEmpty_28b {k28 : (Int32) → Mem → Option (Int32 × Mem)} {x2 : Int32} {x3 : Int32} {M : Mem} {o : Nat} {z : Int32 × Mem} (hk28 : ∀ a M z, k28 a M = some z → FrP (p14 o) M z.2) (h : d_X7_addEmpty_28b k28 x2 x3 M = some z) : FrP (p14 o) M z.2 := by
  unfold d_X7_addEmpty_28b at h
  rcases iteE h with h | h
  · skip
    obtain ⟨M1, e9, h⟩ := bndE h
    have f1 : FrP (p14 o) M M1 := by
      rw [e9]
      exact FrP.sI (FrP.refl M) (fun j y => by unfold p14 at y; omega)
    clear e9
    rw [← Option.some.inj h]
    exact f1
  · skip
    obtain ⟨-, h⟩ := okE h
    obtain ⟨M2, e9, h⟩ := bndE h
    have f2 : FrP (p14 o) M M2 := by
      rw [e9]
      exact FrP.sI (FrP.refl M) (fun j y => by unfold p14 at y; omega)
    clear e9
    obtain ⟨b1, -, h⟩ := bndE h
    exact FrP.trans f2 (hk28 _ _ _ h)
theorem x4_X7_addEmpty_28 {x2 : Int32} {o : Nat} : ∀ n a M z, d_X7_addEmpty_28 x2 n a M = some z → FrP (p14 o) M z.2 := lp_ind (G := fun _ M z => FrP (p14 o) M z.2) (fun k hk a M z h => x4_X7_addEmpty_28b hk h)
theorem x4_X7_addEmpty {x1 : Int32} {M : Mem} {o : Nat} {z : Int32 × Mem} (h : d_X7_addEmpty x1 M = some z) : FrP (p14 o) M z.2 := by
  unfold d_X7_addEmpty at h
  obtain ⟨b1, -, h⟩ := bndE h
  obtain ⟨-, h⟩ := okE h
  obtain ⟨M1, e9, h⟩ := bndE h
  have f2 : FrP (p14 o) M M1 := by
    rw [e9]
    exact FrP.sI (FrP.refl M) (fun j y => by unfold p14 at y; omega)
  clear e9
  obtain ⟨-, h⟩ := okE h
  obtain ⟨M2, e9, h⟩ := bndE h
  have f3 : FrP (p14 o) M M2 := by
    rw [e9]
    exact FrP.sI f2 (fun j y => by unfold p14 at y; omega)
  clear e9
  obtain ⟨-, h⟩ := okE h
  obtain ⟨M3, e9, h⟩ := bndE h
  have f4 : FrP (p14 o) M M3 := by
    rw [e9]
    exact FrP.sI f3 (fun j y => by unfold p14 at y; omega)
  clear e9
  exact FrP.trans f4 (x4_X7_addEmpty_28 _ _ _ _ h)
theorem x4_X7_addLonger_14b {k14 : (Int32) → Mem → Option (Int32 × Mem)} {x1 : Int32} {x2 : Int32} {x3 : Int32} {x4 : Int32} {M : Mem} {o : Nat} {z : Int32 × Mem} (hk14 : ∀ a M z, k14 a M = some z → FrP (p14 o) M z.2) (h : d_X7_addLonger_14b k14 x1 x2 x3 x4 M = some z) : FrP (p14 o) M z.2 := by
  unfold d_X7_addLonger_14b at h
  obtain ⟨-, h⟩ := okE h
  rcases iteE h with h | h
  · skip
    obtain ⟨-, h⟩ := okE h
    obtain ⟨-, h⟩ := okE h
    obtain ⟨M1, e9, h⟩ := bndE h
    have f1 : FrP (p14 o) M M1 := by
      rw [e9]
      exact FrP.sI (FrP.refl M) (fun j y => by unfold p14 at y; omega)
    clear e9
    obtain ⟨-, h⟩ := okE h
    obtain ⟨-, h⟩ := okE h
    obtain ⟨M2, e9, h⟩ := bndE h
    have f2 : FrP (p14 o) M M2 := by
      rw [e9]
      exact FrP.sI f1 (fun j y => by unfold p14 at y; omega)
    clear e9
    obtain ⟨-, h⟩ := okE h
    obtain ⟨-, h⟩ := okE h
    obtain ⟨M3, e9, h⟩ := bndE h
    have f3 : FrP (p14 o) M M3 := by
      rw [e9]
      exact FrP.sI f2 (fun j y => by unfold p14 at y; omega)
    clear e9
    rw [← Option.some.inj h]
    exact f3
  · skip
    obtain ⟨-, h⟩ := okE h
    obtain ⟨-, h⟩ := okE h
    obtain ⟨M4, e9, h⟩ := bndE h
    have f4 : FrP (p14 o) M M4 := by
      rw [e9]
      exact FrP.sI (FrP.refl M) (fun j y => by unfold p14 at y; omega)
    clear e9
    obtain ⟨b1, -, h⟩ := bndE h
    exact FrP.trans f4 (hk14 _ _ _ h)
theorem x4_X7_addLonger_14 {x1 : Int32} {x2 : Int32} {x3 : Int32} {o : Nat} : ∀ n a M z, d_X7_addLonger_14 x1 x2 x3 n a M = some z → FrP (p14 o) M z.2 := lp_ind (G := fun _ M z => FrP (p14 o) M z.2) (fun k hk a M z h => x4_X7_addLonger_14b hk h)
theorem x4_X7_addLonger {x1 : Int32} {x2 : Int32} {M : Mem} {o : Nat} {z : Int32 × Mem} (h : d_X7_addLonger x1 x2 M = some z) : FrP (p14 o) M z.2 := by
  unfold d_X7_addLonger at h
  obtain ⟨-, h⟩ := okE h
  obtain ⟨y1, e9, h⟩ := bindE h
  have f1 : FrP (p14 o) _ _ := FrP.trans (FrP.refl M) (x4_X7_addEmpty  e9)
  clear e9
  exact FrP.trans f1 (x4_X7_addLonger_14 _ _ _ _ h)
theorem x4_X7_behindPut_43 {x1 : Int32} {x2 : Int32} {M : Mem} {o : Nat} {z : Int32 × Mem} (h : d_X7_behindPut_43 x1 x2 M = some z) : FrP (p14 o) M z.2 := by
  unfold d_X7_behindPut_43 at h
  obtain ⟨-, h⟩ := okE h
  rw [← Option.some.inj h]
  exact (FrP.refl M)
theorem x4_X7_behindPut {x1 : Int32} {x2 : Int32} {M : Mem} {o : Nat} {z : Int32 × Mem} (h : d_X7_behindPut x1 x2 M = some z) : FrP (p14 o) M z.2 := by
  unfold d_X7_behindPut at h
  obtain ⟨y1, e9, h⟩ := bindE h
  have f1 : FrP (p14 o) _ _ := FrP.trans (FrP.refl M) (x4_X7_has  e9)
  clear e9
  rcases iteE h with h | h
  · skip
    obtain ⟨-, h⟩ := okE h
    rcases iteE h with h | h
    · skip
      obtain ⟨y2, e9, h⟩ := bindE h
      have f2 : FrP (p14 o) _ _ := FrP.trans f1 (x4_X7_addLonger  e9)
      clear e9
      obtain ⟨-, h⟩ := okE h
      obtain ⟨M1, e9, h⟩ := bndE h
      have f3 : FrP (p14 o) M M1 := by
        rw [e9]
        exact FrP.sI f2 (fun j y => by unfold p14 at y; omega)
      clear e9
      exact FrP.trans f3 (x4_X7_behindPut_43  h)
    · skip
      exact FrP.trans f1 (x4_X7_behindPut_43  h)
  · skip
    rw [← Option.some.inj h]
    exact f1
theorem x4_X3_useObject {o : Nat} {x1 : Int32} {x2 : Int32} {M : Mem} {z : Unit × Mem} (h : d_X3_useObject o x1 x2 M = some z) : FrP (p14 o) M z.2 := by
  unfold d_X3_useObject at h
  rcases iteE h with h | h
  · skip
    obtain ⟨-, h⟩ := okE h
    obtain ⟨-, h⟩ := okE h
    obtain ⟨M2, e9, h⟩ := bndE h
    have f1 : FrP (p14 o) M M2 := by
      rw [e9]
      exact FrP.sI (FrP.refl M) (fun j y => by unfold p14 at y; omega)
    clear e9
    obtain ⟨y10, e9, h⟩ := bindE h
    have f2 : FrP (p14 o) _ _ := FrP.trans f1 (x4_X3_pushPut  e9)
    clear e9
    obtain ⟨M3, e9, h⟩ := bndE h
    have f3 : FrP (p14 o) M M3 := by
      rw [e9]
      exact FrP.sI f2 (fun j y => by unfold p14 at y; omega)
    clear e9
    rw [← Option.some.inj h]
    exact f3
  · skip
    rcases iteE h with h | h
    · skip
      obtain ⟨y6, e9, h⟩ := bindE h
      have f4 : FrP (p14 o) _ _ := FrP.trans (FrP.refl M) (x4_X3_fromTop  e9)
      clear e9
      obtain ⟨-, h⟩ := okE h
      obtain ⟨y7, e9, h⟩ := bindE h
      have f5 : FrP (p14 o) _ _ := FrP.trans f4 (x4_X11_fieldPlace  e9)
      clear e9
      obtain ⟨y8, e9, h⟩ := bindE h
      have f6 : FrP (p14 o) _ _ := FrP.trans f5 (x4_X3_fromTop  e9)
      clear e9
      obtain ⟨y9, e9, h⟩ := bindE h
      have f7 : FrP (p14 o) _ _ := FrP.trans f6 (x4_X8_move  e9)
      clear e9
      rw [← Option.some.inj h]
      exact f7
    · skip
      obtain ⟨y1, e9, h⟩ := bindE h
      have f8 : FrP (p14 o) _ _ := FrP.trans (FrP.refl M) (x4_X3_take  e9)
      clear e9
      obtain ⟨y2, e9, h⟩ := bindE h
      have f9 : FrP (p14 o) _ _ := FrP.trans f8 (x4_X3_take  e9)
      clear e9
      obtain ⟨-, h⟩ := okE h
      obtain ⟨b1, -, h⟩ := bndE h
      obtain ⟨-, h⟩ := okE h
      obtain ⟨y3, e9, h⟩ := bindE h
      have f11 : FrP (p14 o) _ _ := FrP.trans f9 (x4_X7_behindPut  e9)
      clear e9
      obtain ⟨-, h⟩ := okE h
      obtain ⟨M1, e9, h⟩ := bndE h
      have f12 : FrP (p14 o) M M1 := by
        rw [e9]
        exact FrP.sI f11 (fun j y => by unfold p14 at y; omega)
      clear e9
      obtain ⟨y4, e9, h⟩ := bindE h
      have f13 : FrP (p14 o) _ _ := FrP.trans f12 (x4_X11_fieldPlace  e9)
      clear e9
      obtain ⟨y5, e9, h⟩ := bindE h
      have f14 : FrP (p14 o) _ _ := FrP.trans f13 (x4_X8_move  e9)
      clear e9
      rw [← Option.some.inj h]
      exact f14
theorem x4_X3_tell {o : Nat} {x1 : Int32} {M : Mem} {z : Unit × Mem} (h : d_X3_tell o x1 M = some z) : FrP (p14 o) M z.2 := by
  unfold d_X3_tell at h
  rcases iteE h with h | h
  · skip
    rw [← Option.some.inj h]
    exact (FrP.refl M)
  · skip
    obtain ⟨y1, e9, h⟩ := bindE h
    have f1 : FrP (p14 o) _ _ := FrP.trans (FrP.refl M) (x4_X8_move  e9)
    clear e9
    obtain ⟨M1, e9, h⟩ := bndE h
    have f2 : FrP (p14 o) M M1 := by
      rw [e9]
      exact FrP.sI f1 (fun j y => by unfold p14 at y; omega)
    clear e9
    rw [← Option.some.inj h]
    exact f2
theorem x4_X4_nearest_47 {x2 : Int64} {M : Mem} {o : Nat} {z : Int32 × Mem} (h : d_X4_nearest_47 x2 M = some z) : FrP (p14 o) M z.2 := by
  unfold d_X4_nearest_47 at h
  obtain ⟨b1, -, h⟩ := bndE h
  rw [← Option.some.inj h]
  exact (FrP.refl M)
theorem x4_X4_nearest_77 {x2 : Int64} {M : Mem} {o : Nat} {z : Int32 × Mem} (h : d_X4_nearest_77 x2 M = some z) : FrP (p14 o) M z.2 := by
  unfold d_X4_nearest_77 at h
  obtain ⟨b1, -, h⟩ := bndE h
  rw [← Option.some.inj h]
  exact (FrP.refl M)
theorem x4_X4_nearest_54 {x2 : Int64} {x4 : UInt64} {x6 : Int32} {M : Mem} {o : Nat} {z : Int32 × Mem} (h : d_X4_nearest_54 x2 x4 x6 M = some z) : FrP (p14 o) M z.2 := by
  unfold d_X4_nearest_54 at h
  rcases iteE h with h | h
  · skip
    exact FrP.trans (FrP.refl M) (x4_X4_nearest_77  h)
  · skip
    rcases iteE h with h | h
    · skip
      rcases iteE h with h | h
      · skip
        rw [← Option.some.inj h]
        exact (FrP.refl M)
      · skip
        exact FrP.trans (FrP.refl M) (x4_X4_nearest_77  h)
    · skip
      rw [← Option.some.inj h]
      exact (FrP.refl M)
theorem x4_X4_nearest_22 {x2 : Int64} {x4 : UInt64} {s0 : Int32} {M : Mem} {o : Nat} {z : Int32 × Mem} (h : d_X4_nearest_22 x2 x4 s0 M = some z) : FrP (p14 o) M z.2 := by
  unfold d_X4_nearest_22 at h
  rcases iteE h with h | h
  · skip
    exact FrP.trans (FrP.refl M) (x4_X4_nearest_47  h)
  · skip
    rcases iteE h with h | h
    · skip
      rcases iteE h with h | h
      · skip
        exact FrP.trans (FrP.refl M) (x4_X4_nearest_54  h)
      · skip
        exact FrP.trans (FrP.refl M) (x4_X4_nearest_47  h)
    · skip
      exact FrP.trans (FrP.refl M) (x4_X4_nearest_54  h)
theorem x4_X4_nearest {x0 : UInt64} {M : Mem} {o : Nat} {z : Int32 × Mem} (h : d_X4_nearest x0 M = some z) : FrP (p14 o) M z.2 := by
  unfold d_X4_nearest at h
  obtain ⟨b1, -, h⟩ := bndE h
  obtain ⟨b2, -, h⟩ := bndE h
  rcases iteE h with h | h
  · skip
    exact FrP.trans (FrP.refl M) (x4_X4_nearest_22  h)
  · skip
    exact FrP.trans (FrP.refl M) (x4_X4_nearest_22  h)
theorem x4_X8_round {o : Nat} {x1 : Int32} {M : Mem} {z : Unit × Mem} (h : d_X8_round o x1 M = some z) : FrP (p14 o) M z.2 := by
  unfold d_X8_round at h
  obtain ⟨-, h⟩ := okE h
  rcases iteE h with h | h
  · skip
    obtain ⟨-, h⟩ := okE h
    obtain ⟨y1, e9, h⟩ := bindE h
    have f1 : FrP (p14 o) _ _ := FrP.trans (FrP.refl M) (x4_X4_nearest  e9)
    clear e9
    obtain ⟨y2, e9, h⟩ := bindE h
    have f2 : FrP (p14 o) _ _ := FrP.trans f1 (x4_X8_put  e9)
    clear e9
    rw [← Option.some.inj h]
    exact f2
  · skip
    rw [← Option.some.inj h]
    exact (FrP.refl M)
theorem x4_X8_realAt {o : Nat} {x1 : Int32} {M : Mem} {z : UInt64 × Mem} (h : d_X8_realAt o x1 M = some z) : FrP (p14 o) M z.2 := by
  unfold d_X8_realAt at h
  obtain ⟨-, h⟩ := okE h
  rcases iteE h with h | h
  · skip
    obtain ⟨-, h⟩ := okE h
    rw [← Option.some.inj h]
    exact (FrP.refl M)
  · skip
    obtain ⟨-, h⟩ := okE h
    rw [← Option.some.inj h]
    exact (FrP.refl M)
theorem x4_X8_areEqual_52 {o : Nat} {x1 : Int32} {x2 : Int32} {M : Mem} {z : Int32 × Mem} (h : d_X8_areEqual_52 o x1 x2 M = some z) : FrP (p14 o) M z.2 := by
  unfold d_X8_areEqual_52 at h
  obtain ⟨-, h⟩ := okE h
  obtain ⟨-, h⟩ := okE h
  rcases iteE h with h | h
  · skip
    obtain ⟨-, h⟩ := okE h
    obtain ⟨-, h⟩ := okE h
    rcases iteE h with h | h
    · skip
      rw [← Option.some.inj h]
      exact (FrP.refl M)
    · skip
      rw [← Option.some.inj h]
      exact (FrP.refl M)
  · skip
    rw [← Option.some.inj h]
    exact (FrP.refl M)
theorem x4_X8_areEqual {o : Nat} {x1 : Int32} {x2 : Int32} {M : Mem} {z : Int32 × Mem} (h : d_X8_areEqual o x1 x2 M = some z) : FrP (p14 o) M z.2 := by
  unfold d_X8_areEqual at h
  obtain ⟨y1, e9, h⟩ := bindE h
  have f1 : FrP (p14 o) _ _ := FrP.trans (FrP.refl M) (x4_X8_isNumber  e9)
  clear e9
  rcases iteE h with h | h
  · skip
    exact FrP.trans f1 (x4_X8_areEqual_52  h)
  · skip
    obtain ⟨y2, e9, h⟩ := bindE h
    have f2 : FrP (p14 o) _ _ := FrP.trans f1 (x4_X8_isNumber  e9)
    clear e9
    rcases iteE h with h | h
    · skip
      exact FrP.trans f2 (x4_X8_areEqual_52  h)
    · skip
      obtain ⟨y3, e9, h⟩ := bindE h
      have f3 : FrP (p14 o) _ _ := FrP.trans f2 (x4_X8_isUndefined  e9)
      clear e9
      rcases iteE h with h | h
      · skip
        obtain ⟨y4, e9, h⟩ := bindE h
        have f4 : FrP (p14 o) _ _ := FrP.trans f3 (x4_X8_isUndefined  e9)
        clear e9
        rcases iteE h with h | h
        · skip
          obtain ⟨y5, e9, h⟩ := bindE h
          have f5 : FrP (p14 o) _ _ := FrP.trans f4 (x4_X8_realAt  e9)
          clear e9
          obtain ⟨y6, e9, h⟩ := bindE h
          have f6 : FrP (p14 o) _ _ := FrP.trans f5 (x4_X8_realAt  e9)
          clear e9
          rcases iteE h with h | h
          · skip
            rw [← Option.some.inj h]
            exact f6
          · skip
            rw [← Option.some.inj h]
            exact f6
        · skip
          rw [← Option.some.inj h]
          exact f4
      · skip
        rw [← Option.some.inj h]
        exact f3
theorem x4_X4_ofIntegers {x0 : Int32} {x1 : Int64} {x2 : Int64} {M : Mem} {o : Nat} {z : Int64 × Mem} (h : d_X4_ofIntegers x0 x1 x2 M = some z) : FrP (p14 o) M z.2 := by
  unfold d_X4_ofIntegers at h
  rcases iteE h with h | h
  · skip
    rcases iteE h with h | h
    · skip
      rw [← Option.some.inj h]
      exact (FrP.refl M)
    · skip
      obtain ⟨-, h⟩ := okE h
      rw [← Option.some.inj h]
      exact (FrP.refl M)
  · skip
    rcases iteE h with h | h
    · skip
      rw [← Option.some.inj h]
      exact (FrP.refl M)
    · skip
      rcases iteE h with h | h
      · skip
        rw [← Option.some.inj h]
        exact (FrP.refl M)
      · skip
        rcases iteE h with h | h
        · skip
          rw [← Option.some.inj h]
          exact (FrP.refl M)
        · skip
          rcases iteE h with h | h
          · skip
            rcases iteE h with h | h
            · skip
              rw [← Option.some.inj h]
              exact (FrP.refl M)
            · skip
              obtain ⟨-, h⟩ := okE h
              rw [← Option.some.inj h]
              exact (FrP.refl M)
          · skip
            rcases iteE h with h | h
            · skip
              rw [← Option.some.inj h]
              exact (FrP.refl M)
            · skip
              rw [← Option.some.inj h]
              exact (FrP.refl M)
theorem x4_X4_isInteger {x0 : Int64} {M : Mem} {o : Nat} {z : Int32 × Mem} (h : d_X4_isInteger x0 M = some z) : FrP (p14 o) M z.2 := by
  unfold d_X4_isInteger at h
  rcases iteE h with h | h
  · skip
    rw [← Option.some.inj h]
    exact (FrP.refl M)
  · skip
    rcases iteE h with h | h
    · skip
      rw [← Option.some.inj h]
      exact (FrP.refl M)
    · skip
      rw [← Option.some.inj h]
      exact (FrP.refl M)
theorem x4_X8_givesInteger {o : Nat} {x1 : Int32} {x2 : Int32} {x3 : Int32} {M : Mem} {z : Int32 × Mem} (h : d_X8_givesInteger o x1 x2 x3 M = some z) : FrP (p14 o) M z.2 := by
  unfold d_X8_givesInteger at h
  obtain ⟨y1, e9, h⟩ := bindE h
  have f1 : FrP (p14 o) _ _ := FrP.trans (FrP.refl M) (x4_X8_areIntegers  e9)
  clear e9
  rcases iteE h with h | h
  · skip
    rw [← Option.some.inj h]
    exact f1
  · skip
    obtain ⟨-, h⟩ := okE h
    obtain ⟨-, h⟩ := okE h
    obtain ⟨y2, e9, h⟩ := bindE h
    have f2 : FrP (p14 o) _ _ := FrP.trans f1 (x4_X4_ofIntegers  e9)
    clear e9
    obtain ⟨y3, e9, h⟩ := bindE h
    have f3 : FrP (p14 o) _ _ := FrP.trans f2 (x4_X4_isInteger  e9)
    clear e9
    rcases iteE h with h | h
    · skip
      rw [← Option.some.inj h]
      exact f3
    · skip
      rw [← Option.some.inj h]
      exact f3
theorem x4_X8_isLess {o : Nat} {x1 : Int32} {x2 : Int32} {M : Mem} {z : Int32 × Mem} (h : d_X8_isLess o x1 x2 M = some z) : FrP (p14 o) M z.2 := by
  unfold d_X8_isLess at h
  obtain ⟨y1, e9, h⟩ := bindE h
  have f1 : FrP (p14 o) _ _ := FrP.trans (FrP.refl M) (x4_X8_isUndefined  e9)
  clear e9
  rcases iteE h with h | h
  · skip
    obtain ⟨y2, e9, h⟩ := bindE h
    have f2 : FrP (p14 o) _ _ := FrP.trans f1 (x4_X8_isUndefined  e9)
    clear e9
    rcases iteE h with h | h
    · skip
      obtain ⟨y3, e9, h⟩ := bindE h
      have f3 : FrP (p14 o) _ _ := FrP.trans f2 (x4_X8_realAt  e9)
      clear e9
      obtain ⟨y4, e9, h⟩ := bindE h
      have f4 : FrP (p14 o) _ _ := FrP.trans f3 (x4_X8_realAt  e9)
      clear e9
      rcases iteE h with h | h
      · skip
        rw [← Option.some.inj h]
        exact f4
      · skip
        rw [← Option.some.inj h]
        exact f4
    · skip
      rw [← Option.some.inj h]
      exact f2
  · skip
    rw [← Option.some.inj h]
    exact f1
theorem x4_X4_isEndless {x0 : UInt64} {M : Mem} {o : Nat} {z : Int32 × Mem} (h : d_X4_isEndless x0 M = some z) : FrP (p14 o) M z.2 := by
  unfold d_X4_isEndless at h
  rcases iteE h with h | h
  · skip
    rw [← Option.some.inj h]
    exact (FrP.refl M)
  · skip
    rcases iteE h with h | h
    · skip
      rw [← Option.some.inj h]
      exact (FrP.refl M)
    · skip
      rw [← Option.some.inj h]
      exact (FrP.refl M)
theorem x4_X4_isUndefined_145 {x1 : UInt64} {x3 : UInt64} {M : Mem} {o : Nat} {z : Int32 × Mem} (h : d_X4_isUndefined_145 x1 x3 M = some z) : FrP (p14 o) M z.2 := by
  unfold d_X4_isUndefined_145 at h
  rcases iteE h with h | h
  · skip
    obtain ⟨y1, e9, h⟩ := bindE h
    have f1 : FrP (p14 o) _ _ := FrP.trans (FrP.refl M) (x4_X4_isEndless  e9)
    clear e9
    rcases iteE h with h | h
    · skip
      rw [← Option.some.inj h]
      exact f1
    · skip
      rw [← Option.some.inj h]
      exact f1
  · skip
    rw [← Option.some.inj h]
    exact (FrP.refl M)
theorem x4_X4_isUndefined_87 {s0 : Int32} {s1 : Int32} {M : Mem} {o : Nat} {z : Int32 × Mem} (h : d_X4_isUndefined_87 s0 s1 M = some z) : FrP (p14 o) M z.2 := by
  unfold d_X4_isUndefined_87 at h
  rcases iteE h with h | h
  · skip
    rw [← Option.some.inj h]
    exact (FrP.refl M)
  · skip
    rw [← Option.some.inj h]
    exact (FrP.refl M)
theorem x4_X4_isUndefined_76 {x3 : UInt64} {s0 : Int32} {M : Mem} {o : Nat} {z : Int32 × Mem} (h : d_X4_isUndefined_76 x3 s0 M = some z) : FrP (p14 o) M z.2 := by
  unfold d_X4_isUndefined_76 at h
  rcases iteE h with h | h
  · skip
    exact FrP.trans (FrP.refl M) (x4_X4_isUndefined_87  h)
  · skip
    exact FrP.trans (FrP.refl M) (x4_X4_isUndefined_87  h)
theorem x4_X4_isUndefined_123 {s0 : Int32} {s1 : Int32} {M : Mem} {o : Nat} {z : Int32 × Mem} (h : d_X4_isUndefined_123 s0 s1 M = some z) : FrP (p14 o) M z.2 := by
  unfold d_X4_isUndefined_123 at h
  rcases iteE h with h | h
  · skip
    rw [← Option.some.inj h]
    exact (FrP.refl M)
  · skip
    rw [← Option.some.inj h]
    exact (FrP.refl M)
theorem x4_X4_isUndefined_112 {x3 : UInt64} {s0 : Int32} {M : Mem} {o : Nat} {z : Int32 × Mem} (h : d_X4_isUndefined_112 x3 s0 M = some z) : FrP (p14 o) M z.2 := by
  unfold d_X4_isUndefined_112 at h
  rcases iteE h with h | h
  · skip
    exact FrP.trans (FrP.refl M) (x4_X4_isUndefined_123  h)
  · skip
    exact FrP.trans (FrP.refl M) (x4_X4_isUndefined_123  h)
theorem x4_X4_isUndefined_19 {x0 : Int32} {x1 : UInt64} {x3 : UInt64} {s0 : Int32} {M : Mem} {o : Nat} {z : Int32 × Mem} (h : d_X4_isUndefined_19 x0 x1 x3 s0 M = some z) : FrP (p14 o) M z.2 := by
  unfold d_X4_isUndefined_19 at h
  rcases iteE h with h | h
  · skip
    obtain ⟨y1, e9, h⟩ := bindE h
    have f1 : FrP (p14 o) _ _ := FrP.trans (FrP.refl M) (x4_X4_isEndless  e9)
    clear e9
    rcases iteE h with h | h
    · skip
      exact FrP.trans f1 (x4_X4_isUndefined_145  h)
    · skip
      rcases iteE h with h | h
      · skip
        rw [← Option.some.inj h]
        exact f1
      · skip
        exact FrP.trans f1 (x4_X4_isUndefined_145  h)
  · skip
    rcases iteE h with h | h
    · skip
      rcases iteE h with h | h
      · skip
        rw [← Option.some.inj h]
        exact (FrP.refl M)
      · skip
        rcases iteE h with h | h
        · skip
          exact FrP.trans (FrP.refl M) (x4_X4_isUndefined_76  h)
        · skip
          exact FrP.trans (FrP.refl M) (x4_X4_isUndefined_76  h)
    · skip
      rcases iteE h with h | h
      · skip
        rcases iteE h with h | h
        · skip
          rw [← Option.some.inj h]
          exact (FrP.refl M)
        · skip
          rcases iteE h with h | h
          · skip
            exact FrP.trans (FrP.refl M) (x4_X4_isUndefined_112  h)
          · skip
            exact FrP.trans (FrP.refl M) (x4_X4_isUndefined_112  h)
      · skip
        rcases iteE h with h | h
        · skip
          rcases iteE h with h | h
          · skip
            rcases iteE h with h | h
            · skip
              rcases iteE h with h | h
              · skip
                rw [← Option.some.inj h]
                exact (FrP.refl M)
              · skip
                rw [← Option.some.inj h]
                exact (FrP.refl M)
            · skip
              rw [← Option.some.inj h]
              exact (FrP.refl M)
          · skip
            rw [← Option.some.inj h]
            exact (FrP.refl M)
        · skip
          obtain ⟨y2, e9, h⟩ := bindE h
          have f2 : FrP (p14 o) _ _ := FrP.trans (FrP.refl M) (x4_X4_isEndless  e9)
          clear e9
          rcases iteE h with h | h
          · skip
            rcases iteE h with h | h
            · skip
              rw [← Option.some.inj h]
              exact f2
            · skip
              rw [← Option.some.inj h]
              exact f2
          · skip
            rw [← Option.some.inj h]
            exact f2
theorem x4_X4_isUndefined_18 {x0 : Int32} {x1 : UInt64} {x3 : UInt64} {M : Mem} {o : Nat} {z : Int32 × Mem} (h : d_X4_isUndefined_18 x0 x1 x3 M = some z) : FrP (p14 o) M z.2 := by
  unfold d_X4_isUndefined_18 at h
  exact FrP.trans (FrP.refl M) (x4_X4_isUndefined_19  h)
theorem x4_X4_isUndefined {x0 : Int32} {x1 : UInt64} {x2 : UInt64} {M : Mem} {o : Nat} {z : Int32 × Mem} (h : d_X4_isUndefined x0 x1 x2 M = some z) : FrP (p14 o) M z.2 := by
  unfold d_X4_isUndefined at h
  obtain ⟨y1, e9, h⟩ := bindE h
  have f1 : FrP (p14 o) _ _ := FrP.trans (FrP.refl M) (x4_X4_isEndless  e9)
  clear e9
  rcases iteE h with h | h
  · skip
    exact FrP.trans f1 (x4_X4_isUndefined_18  h)
  · skip
    obtain ⟨y2, e9, h⟩ := bindE h
    have f2 : FrP (p14 o) _ _ := FrP.trans f1 (x4_X4_isEndless  e9)
    clear e9
    rcases iteE h with h | h
    · skip
      exact FrP.trans f2 (x4_X4_isUndefined_18  h)
    · skip
      exact FrP.trans f2 (x4_X4_isUndefined_19  h)
theorem x4_X4_rest_131 {x0 : UInt64} {x4 : UInt64} {M : Mem} {o : Nat} {z : UInt64 × Mem} (h : d_X4_rest_131 x0 x4 M = some z) : FrP (p14 o) M z.2 := by
  unfold d_X4_rest_131 at h
  rcases iteE h with h | h
  · skip
    rw [← Option.some.inj h]
    exact (FrP.refl M)
  · skip
    rw [← Option.some.inj h]
    exact (FrP.refl M)
theorem x4_X4_rest_115 {k81 : (UInt64 × UInt64 × Int32) → Mem → Option (UInt64 × Mem)} {x0 : UInt64} {x6 : UInt64} {x8 : UInt64} {x10 : Int32} {s0 : UInt64} {M : Mem} {o : Nat} {z : UInt64 × Mem} (hk81 : ∀ a M z, k81 a M = some z → FrP (p14 o) M z.2) (h : d_X4_rest_115 k81 x0 x6 x8 x10 s0 M = some z) : FrP (p14 o) M z.2 := by
  unfold d_X4_rest_115 at h
  obtain ⟨b1, -, h⟩ := bndE h
  obtain ⟨b2, -, h⟩ := bndE h
  exact FrP.trans (FrP.refl M) (hk81 _ _ _ h)
theorem x4_X4_rest_81b {k81 : (UInt64 × UInt64 × Int32) → Mem → Option (UInt64 × Mem)} {x0 : UInt64} {x4 : UInt64} {x6 : UInt64} {x8 : UInt64} {x10 : Int32} {M : Mem} {o : Nat} {z : UInt64 × Mem} (hk81 : ∀ a M z, k81 a M = some z → FrP (p14 o) M z.2) (h : d_X4_rest_81b k81 x0 x4 x6 x8 x10 M = some z) : FrP (p14 o) M z.2 := by
  unfold d_X4_rest_81b at h
  rcases iteE h with h | h
  · skip
    exact FrP.trans (FrP.refl M) (x4_X4_rest_131  h)
  · skip
    rcases iteE h with h | h
    · skip
      exact FrP.trans (FrP.refl M) (x4_X4_rest_131  h)
    · skip
      rcases iteE h with h | h
      · skip
        exact FrP.trans (FrP.refl M) (x4_X4_rest_115 hk81 h)
      · skip
        exact FrP.trans (FrP.refl M) (x4_X4_rest_115 hk81 h)
theorem x4_X4_rest_81 {x0 : UInt64} {x6 : UInt64} {o : Nat} : ∀ n a M z, d_X4_rest_81 x0 x6 n a M = some z → FrP (p14 o) M z.2 := lp_ind (G := fun _ M z => FrP (p14 o) M z.2) (fun k hk a M z h => x4_X4_rest_81b hk h)
theorem x4_X4_rest_78 {x0 : UInt64} {x4 : UInt64} {x6 : UInt64} {x8 : UInt64} {M : Mem} {o : Nat} {z : UInt64 × Mem} (h : d_X4_rest_78 x0 x4 x6 x8 M = some z) : FrP (p14 o) M z.2 := by
  unfold d_X4_rest_78 at h
  exact FrP.trans (FrP.refl M) (x4_X4_rest_81 _ _ _ _ h)
theorem x4_X4_rest_45b {k45 : (UInt64 × Int32) → Mem → Option (UInt64 × Mem)} {x0 : UInt64} {x4 : UInt64} {x6 : UInt64} {x8 : UInt64} {x10 : Int32} {M : Mem} {o : Nat} {z : UInt64 × Mem} (hk45 : ∀ a M z, k45 a M = some z → FrP (p14 o) M z.2) (h : d_X4_rest_45b k45 x0 x4 x6 x8 x10 M = some z) : FrP (p14 o) M z.2 := by
  unfold d_X4_rest_45b at h
  rcases iteE h with h | h
  · skip
    exact FrP.trans (FrP.refl M) (x4_X4_rest_78  h)
  · skip
    rcases iteE h with h | h
    · skip
      exact FrP.trans (FrP.refl M) (x4_X4_rest_78  h)
    · skip
      obtain ⟨b1, -, h⟩ := bndE h
      obtain ⟨b2, -, h⟩ := bndE h
      exact FrP.trans (FrP.refl M) (hk45 _ _ _ h)
theorem x4_X4_rest_45 {x0 : UInt64} {x4 : UInt64} {x6 : UInt64} {o : Nat} : ∀ n a M z, d_X4_rest_45 x0 x4 x6 n a M = some z → FrP (p14 o) M z.2 := lp_ind (G := fun _ M z => FrP (p14 o) M z.2) (fun k hk a M z h => x4_X4_rest_45b hk h)
theorem x4_X4_rest_26 {x0 : UInt64} {x4 : UInt64} {s0 : UInt64} {M : Mem} {o : Nat} {z : UInt64 × Mem} (h : d_X4_rest_26 x0 x4 s0 M = some z) : FrP (p14 o) M z.2 := by
  unfold d_X4_rest_26 at h
  rcases iteE h with h | h
  · skip
    exact FrP.trans (FrP.refl M) (x4_X4_rest_45 _ _ _ _ h)
  · skip
    rw [← Option.some.inj h]
    exact (FrP.refl M)
theorem x4_X4_rest_12 {x0 : UInt64} {x2 : UInt64} {s0 : UInt64} {M : Mem} {o : Nat} {z : UInt64 × Mem} (h : d_X4_rest_12 x0 x2 s0 M = some z) : FrP (p14 o) M z.2 := by
  unfold d_X4_rest_12 at h
  rcases iteE h with h | h
  · skip
    exact FrP.trans (FrP.refl M) (x4_X4_rest_26  h)
  · skip
    exact FrP.trans (FrP.refl M) (x4_X4_rest_26  h)
theorem x4_X4_rest {x0 : UInt64} {x1 : UInt64} {M : Mem} {o : Nat} {z : UInt64 × Mem} (h : d_X4_rest x0 x1 M = some z) : FrP (p14 o) M z.2 := by
  unfold d_X4_rest at h
  rcases iteE h with h | h
  · skip
    exact FrP.trans (FrP.refl M) (x4_X4_rest_12  h)
  · skip
    exact FrP.trans (FrP.refl M) (x4_X4_rest_12  h)
theorem x4_X4_ofFloats {x0 : Int32} {x1 : UInt64} {x2 : UInt64} {M : Mem} {o : Nat} {z : UInt64 × Mem} (h : d_X4_ofFloats x0 x1 x2 M = some z) : FrP (p14 o) M z.2 := by
  unfold d_X4_ofFloats at h
  rcases iteE h with h | h
  · skip
    rw [← Option.some.inj h]
    exact (FrP.refl M)
  · skip
    rcases iteE h with h | h
    · skip
      rw [← Option.some.inj h]
      exact (FrP.refl M)
    · skip
      rcases iteE h with h | h
      · skip
        rw [← Option.some.inj h]
        exact (FrP.refl M)
      · skip
        rcases iteE h with h | h
        · skip
          rw [← Option.some.inj h]
          exact (FrP.refl M)
        · skip
          obtain ⟨y1, e9, h⟩ := bindE h
          have f1 : FrP (p14 o) _ _ := FrP.trans (FrP.refl M) (x4_X4_rest  e9)
          clear e9
          rw [← Option.some.inj h]
          exact f1
theorem x4_X8_putReal {o : Nat} {x1 : Int32} {x2 : UInt64} {M : Mem} {z : Unit × Mem} (h : d_X8_putReal o x1 x2 M = some z) : FrP (p14 o) M z.2 := by
  unfold d_X8_putReal at h
  obtain ⟨y1, e9, h⟩ := bindE h
  have f1 : FrP (p14 o) _ _ := FrP.trans (FrP.refl M) (x4_X8_put  e9)
  clear e9
  obtain ⟨-, h⟩ := okE h
  obtain ⟨M1, e9, h⟩ := bndE h
  have f2 : FrP (p14 o) M M1 := by
    rw [e9]
    exact FrP.sD f1 (fun j y => by unfold p14 at y; omega)
  clear e9
  rw [← Option.some.inj h]
  exact f2
theorem x4_X8_combineReals_41 {o : Nat} {x2 : Int32} {M : Mem} {z : Unit × Mem} (h : d_X8_combineReals_41 o x2 M = some z) : FrP (p14 o) M z.2 := by
  unfold d_X8_combineReals_41 at h
  obtain ⟨y1, e9, h⟩ := bindE h
  have f1 : FrP (p14 o) _ _ := FrP.trans (FrP.refl M) (x4_X8_put  e9)
  clear e9
  rw [← Option.some.inj h]
  exact f1
theorem x4_X8_combineReals {o : Nat} {x1 : Int32} {x2 : Int32} {x3 : Int32} {M : Mem} {z : Unit × Mem} (h : d_X8_combineReals o x1 x2 x3 M = some z) : FrP (p14 o) M z.2 := by
  unfold d_X8_combineReals at h
  obtain ⟨y1, e9, h⟩ := bindE h
  have f1 : FrP (p14 o) _ _ := FrP.trans (FrP.refl M) (x4_X8_realAt  e9)
  clear e9
  obtain ⟨y2, e9, h⟩ := bindE h
  have f2 : FrP (p14 o) _ _ := FrP.trans f1 (x4_X8_realAt  e9)
  clear e9
  obtain ⟨y3, e9, h⟩ := bindE h
  have f3 : FrP (p14 o) _ _ := FrP.trans f2 (x4_X8_isUndefined  e9)
  clear e9
  rcases iteE h with h | h
  · skip
    obtain ⟨y4, e9, h⟩ := bindE h
    have f4 : FrP (p14 o) _ _ := FrP.trans f3 (x4_X8_isUndefined  e9)
    clear e9
    rcases iteE h with h | h
    · skip
      obtain ⟨y5, e9, h⟩ := bindE h
      have f5 : FrP (p14 o) _ _ := FrP.trans f4 (x4_X4_isUndefined  e9)
      clear e9
      rcases iteE h with h | h
      · skip
        obtain ⟨y6, e9, h⟩ := bindE h
        have f6 : FrP (p14 o) _ _ := FrP.trans f5 (x4_X4_ofFloats  e9)
        clear e9
        obtain ⟨y7, e9, h⟩ := bindE h
        have f7 : FrP (p14 o) _ _ := FrP.trans f6 (x4_X8_putReal  e9)
        clear e9
        rw [← Option.some.inj h]
        exact f7
      · skip
        exact FrP.trans f5 (x4_X8_combineReals_41  h)
    · skip
      exact FrP.trans f4 (x4_X8_combineReals_41  h)
  · skip
    exact FrP.trans f3 (x4_X8_combineReals_41  h)
theorem x4_X8_combine {o : Nat} {x1 : Int32} {x2 : Int32} {x3 : Int32} {M : Mem} {z : Unit × Mem} (h : d_X8_combine o x1 x2 x3 M = some z) : FrP (p14 o) M z.2 := by
  unfold d_X8_combine at h
  rcases iteE h with h | h
  · skip
    obtain ⟨y8, e9, h⟩ := bindE h
    have f1 : FrP (p14 o) _ _ := FrP.trans (FrP.refl M) (x4_X8_areEqual  e9)
    clear e9
    rcases iteE h with h | h
    · skip
      obtain ⟨y9, e9, h⟩ := bindE h
      have f2 : FrP (p14 o) _ _ := FrP.trans f1 (x4_X8_put  e9)
      clear e9
      rw [← Option.some.inj h]
      exact f2
    · skip
      obtain ⟨y10, e9, h⟩ := bindE h
      have f3 : FrP (p14 o) _ _ := FrP.trans f1 (x4_X8_put  e9)
      clear e9
      rw [← Option.some.inj h]
      exact f3
  · skip
    obtain ⟨y1, e9, h⟩ := bindE h
    have f4 : FrP (p14 o) _ _ := FrP.trans (FrP.refl M) (x4_X8_givesInteger  e9)
    clear e9
    rcases iteE h with h | h
    · skip
      rcases iteE h with h | h
      · skip
        obtain ⟨y3, e9, h⟩ := bindE h
        have f5 : FrP (p14 o) _ _ := FrP.trans f4 (x4_X8_isLess  e9)
        clear e9
        rcases iteE h with h | h
        · skip
          obtain ⟨y4, e9, h⟩ := bindE h
          have f6 : FrP (p14 o) _ _ := FrP.trans f5 (x4_X8_put  e9)
          clear e9
          rw [← Option.some.inj h]
          exact f6
        · skip
          obtain ⟨y5, e9, h⟩ := bindE h
          have f7 : FrP (p14 o) _ _ := FrP.trans f5 (x4_X8_put  e9)
          clear e9
          rw [← Option.some.inj h]
          exact f7
      · skip
        obtain ⟨y2, e9, h⟩ := bindE h
        have f8 : FrP (p14 o) _ _ := FrP.trans f4 (x4_X8_combineReals  e9)
        clear e9
        rw [← Option.some.inj h]
        exact f8
    · skip
      obtain ⟨-, h⟩ := okE h
      obtain ⟨-, h⟩ := okE h
      obtain ⟨y6, e9, h⟩ := bindE h
      have f9 : FrP (p14 o) _ _ := FrP.trans f4 (x4_X4_ofIntegers  e9)
      clear e9
      obtain ⟨y7, e9, h⟩ := bindE h
      have f10 : FrP (p14 o) _ _ := FrP.trans f9 (x4_X8_put  e9)
      clear e9
      rw [← Option.some.inj h]
      exact f10
theorem x4_X3_useStack {o : Nat} {x1 : Int32} {x2 : Int32} {M : Mem} {z : Unit × Mem} (h : d_X3_useStack o x1 x2 M = some z) : FrP (p14 o) M z.2 := by
  unfold d_X3_useStack at h
  rcases iteE h with h | h
  · skip
    obtain ⟨y1, e9, h⟩ := bindE h
    have f1 : FrP (p14 o) _ _ := FrP.trans (FrP.refl M) (x4_X3_take  e9)
    clear e9
    rw [← Option.some.inj h]
    exact f1
  · skip
    rcases iteE h with h | h
    · skip
      obtain ⟨y2, e9, h⟩ := bindE h
      have f2 : FrP (p14 o) _ _ := FrP.trans (FrP.refl M) (x4_X3_pushPut  e9)
      clear e9
      rw [← Option.some.inj h]
      exact f2
    · skip
      rcases iteE h with h | h
      · skip
        obtain ⟨-, h⟩ := okE h
        obtain ⟨y3, e9, h⟩ := bindE h
        have f3 : FrP (p14 o) _ _ := FrP.trans (FrP.refl M) (x4_X3_pushPut  e9)
        clear e9
        rw [← Option.some.inj h]
        exact f3
      · skip
        rcases iteE h with h | h
        · skip
          obtain ⟨y4, e9, h⟩ := bindE h
          have f4 : FrP (p14 o) _ _ := FrP.trans (FrP.refl M) (x4_X11_localPlace  e9)
          clear e9
          obtain ⟨y5, e9, h⟩ := bindE h
          have f5 : FrP (p14 o) _ _ := FrP.trans f4 (x4_X3_pushMoved  e9)
          clear e9
          rw [← Option.some.inj h]
          exact f5
        · skip
          rcases iteE h with h | h
          · skip
            obtain ⟨y6, e9, h⟩ := bindE h
            have f6 : FrP (p14 o) _ _ := FrP.trans (FrP.refl M) (x4_X3_take  e9)
            clear e9
            obtain ⟨y7, e9, h⟩ := bindE h
            have f7 : FrP (p14 o) _ _ := FrP.trans f6 (x4_X11_localPlace  e9)
            clear e9
            obtain ⟨y8, e9, h⟩ := bindE h
            have f8 : FrP (p14 o) _ _ := FrP.trans f7 (x4_X8_move  e9)
            clear e9
            rw [← Option.some.inj h]
            exact f8
          · skip
            rcases iteE h with h | h
            · skip
              obtain ⟨y9, e9, h⟩ := bindE h
              have f9 : FrP (p14 o) _ _ := FrP.trans (FrP.refl M) (x4_X3_take  e9)
              clear e9
              obtain ⟨y10, e9, h⟩ := bindE h
              have f10 : FrP (p14 o) _ _ := FrP.trans f9 (x4_X3_tell  e9)
              clear e9
              rw [← Option.some.inj h]
              exact f10
            · skip
              rcases iteE h with h | h
              · skip
                obtain ⟨y11, e9, h⟩ := bindE h
                have f11 : FrP (p14 o) _ _ := FrP.trans (FrP.refl M) (x4_X3_fromTop  e9)
                clear e9
                obtain ⟨y12, e9, h⟩ := bindE h
                have f12 : FrP (p14 o) _ _ := FrP.trans f11 (x4_X3_pushMoved  e9)
                clear e9
                rw [← Option.some.inj h]
                exact f12
              · skip
                rcases iteE h with h | h
                · skip
                  obtain ⟨y13, e9, h⟩ := bindE h
                  have f13 : FrP (p14 o) _ _ := FrP.trans (FrP.refl M) (x4_X3_fromTop  e9)
                  clear e9
                  obtain ⟨y14, e9, h⟩ := bindE h
                  have f14 : FrP (p14 o) _ _ := FrP.trans f13 (x4_X8_round  e9)
                  clear e9
                  rw [← Option.some.inj h]
                  exact f14
                · skip
                  obtain ⟨y15, e9, h⟩ := bindE h
                  have f15 : FrP (p14 o) _ _ := FrP.trans (FrP.refl M) (x4_X3_fromTop  e9)
                  clear e9
                  obtain ⟨y16, e9, h⟩ := bindE h
                  have f16 : FrP (p14 o) _ _ := FrP.trans f15 (x4_X3_fromTop  e9)
                  clear e9
                  obtain ⟨y17, e9, h⟩ := bindE h
                  have f17 : FrP (p14 o) _ _ := FrP.trans f16 (x4_X8_combine  e9)
                  clear e9
                  obtain ⟨y18, e9, h⟩ := bindE h
                  have f18 : FrP (p14 o) _ _ := FrP.trans f17 (x4_X3_take  e9)
                  clear e9
                  rw [← Option.some.inj h]
                  exact f18
theorem x4_X3_execute {o : Nat} {M : Mem} {z : Int32 × Mem} (h : d_X3_execute o M = some z) : FrP (p14 o) M z.2 := by
  unfold d_X3_execute at h
  obtain ⟨b1, -, h⟩ := bndE h
  obtain ⟨-, h⟩ := okE h
  obtain ⟨b2, -, h⟩ := bndE h
  obtain ⟨b3, -, h⟩ := bndE h
  obtain ⟨M1, e9, h⟩ := bndE h
  have f4 : FrP (p14 o) M M1 := by
    rw [e9]
    exact FrP.sI (FrP.refl M) (fun j y => by unfold p14 at y; omega)
  clear e9
  obtain ⟨-, h⟩ := okE h
  obtain ⟨M2, e9, h⟩ := bndE h
  have f5 : FrP (p14 o) M M2 := by
    rw [e9]
    exact FrP.sI f4 (fun j y => by unfold p14 at y; omega)
  clear e9
  obtain ⟨b4, -, h⟩ := bndE h
  rcases iteE h with h | h
  · skip
    obtain ⟨-, h⟩ := okE h
    obtain ⟨y1, e9, h⟩ := bindE h
    have f7 : FrP (p14 o) _ _ := FrP.trans f5 (x4_X3_call  e9)
    clear e9
    rw [← Option.some.inj h]
    exact f7
  · skip
    rcases iteE h with h | h
    · skip
      obtain ⟨y2, e9, h⟩ := bindE h
      have f8 : FrP (p14 o) _ _ := FrP.trans f5 (x4_X3_useObject  e9)
      clear e9
      rw [← Option.some.inj h]
      exact f8
    · skip
      rcases iteE h with h | h
      · skip
        obtain ⟨-, h⟩ := okE h
        obtain ⟨M3, e9, h⟩ := bndE h
        have f9 : FrP (p14 o) M M3 := by
          rw [e9]
          exact FrP.sI f5 (fun j y => by unfold p14 at y; omega)
        clear e9
        rcases iteE h with h | h
        · skip
          rw [← Option.some.inj h]
          exact f9
        · skip
          rw [← Option.some.inj h]
          exact f9
      · skip
        rcases iteE h with h | h
        · skip
          obtain ⟨y3, e9, h⟩ := bindE h
          have f10 : FrP (p14 o) _ _ := FrP.trans f5 (x4_X3_classFromTop  e9)
          clear e9
          obtain ⟨y4, e9, h⟩ := bindE h
          have f11 : FrP (p14 o) _ _ := FrP.trans f10 (x4_X5_methodOf  e9)
          clear e9
          obtain ⟨y5, e9, h⟩ := bindE h
          have f12 : FrP (p14 o) _ _ := FrP.trans f11 (x4_X3_call  e9)
          clear e9
          rw [← Option.some.inj h]
          exact f12
        · skip
          rcases iteE h with h | h
          · skip
            obtain ⟨y6, e9, h⟩ := bindE h
            have f13 : FrP (p14 o) _ _ := FrP.trans f5 (x4_X3_giveBack  e9)
            clear e9
            rw [← Option.some.inj h]
            exact f13
          · skip
            rcases iteE h with h | h
            · skip
              obtain ⟨y7, e9, h⟩ := bindE h
              have f14 : FrP (p14 o) _ _ := FrP.trans f5 (x4_X3_jumpsAtNull  e9)
              clear e9
              obtain ⟨-, h⟩ := okE h
              rw [← Option.some.inj h]
              exact f14
            · skip
              obtain ⟨y8, e9, h⟩ := bindE h
              have f15 : FrP (p14 o) _ _ := FrP.trans f5 (x4_X3_useStack  e9)
              clear e9
              rw [← Option.some.inj h]
              exact f15
theorem x45 {o : Nat} {M : Mem} {z : Int32} {N : Mem} (ho : o = 18 ∨ o = 28) (h : d_X3_execute o M = some (z, N)) : mI N o 14 = mI M o 14 ∧ mI N o 15 = mI M o 15 := ⟨((x4_X3_execute h).1 o 14 ⟨ho, rfl, .inl rfl⟩).1, ((x4_X3_execute h).1 o 15 ⟨ho, rfl, .inr rfl⟩).1⟩
theorem ew13 {o : Nat} {x y : Int32} {M : Mem} {z : Unit × Mem} (h : d_X3_endWith o x y M = some z) : mI z.2 o 13 = nI 120 := by
  unfold d_X3_endWith at h
  obtain ⟨M1, rfl, h⟩ := bndE h
  obtain ⟨-, h⟩ := okE h
  obtain ⟨M2, rfl, h⟩ := bndE h
  obtain ⟨M3, rfl, h⟩ := bndE h
  rw [← Option.some.inj h]
  show mI (sI (sI (sI M o 13 (120 : Int32)) o 14 x) o 15 y) o 13 = _
  rw [mI_ne (by omega), mI_ne (by omega), mI_eq]
  rfl
theorem el13 {o : Nat} {M N : Mem} (h : d_X3_endAtLimit o M = some ((), N)) : mI N o 13 = nI 120 := by
  unfold d_X3_endAtLimit at h
  obtain ⟨y1, -, h⟩ := bindE h
  obtain ⟨y2, e, h⟩ := bindE h
  have := ew13 e
  have h2 : y2.2 = N := congrArg Prod.snd (Option.some.inj h)
  rw [← h2]
  exact this
theorem e45_fr {o : Nat} {M N : Mem} (ho : o = 18 ∨ o = 28) (h : FrP (p14 o) M N) : E45 o M N := .inr ⟨(h.1 o 14 ⟨ho, rfl, .inl rfl⟩).1, (h.1 o 15 ⟨ho, rfl, .inr rfl⟩).1⟩
theorem E45.fr {o : Nat} {M M1 N : Mem} (ho : o = 18 ∨ o = 28) (h : FrP (p14 o) M M1) (k : E45 o M1 N) : E45 o M N := by
  rcases k with k | ⟨k1, k2⟩
  · exact .inl k
  · exact .inr ⟨k1.trans (h.1 o 14 ⟨ho, rfl, .inl rfl⟩).1, k2.trans (h.1 o 15 ⟨ho, rfl, .inr rfl⟩).1⟩
theorem fw45_45 {o : Nat} {x y : Int32} {M : Mem} {z : Unit × Mem} (ho : o = 18 ∨ o = 28) (h : d_X3_failWith_45 o x y M = some z) : E45 o M z.2 := by
  unfold d_X3_failWith_45 at h
  rcases iteE h with h | h
  · obtain ⟨M1, e1, h⟩ := bndE h
    have f1 : FrP (p14 o) M M1 := by rw [e1]; exact FrP.sI (FrP.refl M) (fun j y => by unfold p14 at y; omega)
    obtain ⟨-, h⟩ := okE h
    obtain ⟨-, h⟩ := okE h
    obtain ⟨-, h⟩ := okE h
    obtain ⟨M2, e2, h⟩ := bndE h
    have f2 : FrP (p14 o) M M2 := by rw [e2]; exact FrP.sI f1 (fun j y => by unfold p14 at y; omega)
    obtain ⟨-, h⟩ := okE h
    obtain ⟨M3, e3, h⟩ := bndE h
    have f3 : FrP (p14 o) M M3 := by rw [e3]; exact FrP.sI f2 (fun j y => by unfold p14 at y; omega)
    obtain ⟨y1, e4, h⟩ := bindE h
    rw [← Option.some.inj h]
    exact e45_fr ho (f3.trans (x4_X3_pushPut e4))
  · obtain ⟨y2, e4, h⟩ := bindE h
    obtain ⟨y3, e5, h⟩ := bindE h
    rw [← Option.some.inj h]
    exact .inl (ew13 e5)
theorem fw45_17 {o : Nat} {x : Int32} (ho : o = 18 ∨ o = 28) : ∀ (n : Nat) (a : Int32) (M : Mem) (z : Unit × Mem), d_X3_failWith_17 o x n a M = some z → E45 o M z.2 := lp_ind (body := fun k a M => d_X3_failWith_17b k o x a M) (G := fun (_ : Int32) (M : Mem) (z : Unit × Mem) => E45 o M z.2) (fun k hk a M z h => by
  unfold d_X3_failWith_17b at h
  rcases iteE h with h | h
  · exact fw45_45 ho h
  · obtain ⟨-, h⟩ := okE h
    obtain ⟨-, h⟩ := okE h
    rcases iteE h with h | h
    · obtain ⟨b1, -, h⟩ := bndE h
      exact hk _ _ _ h
    · exact fw45_45 ho h)
theorem fw45 {o : Nat} {x : Int32} {M N : Mem} (ho : o = 18 ∨ o = 28) (h : d_X3_failWith o x M = some ((), N)) : E45 o M N := by
  unfold d_X3_failWith at h
  obtain ⟨M1, e1, h⟩ := bndE h
  have f1 : FrP (p14 o) M M1 := by rw [e1]; exact FrP.sI (FrP.refl M) (fun j y => by unfold p14 at y; omega)
  obtain ⟨b1, -, h⟩ := bndE h
  exact E45.fr ho f1 (fw45_17 ho _ _ _ _ h)
end MT6
