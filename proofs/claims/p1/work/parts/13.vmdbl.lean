/-! ===== doubles in V: a NaN stands for any quiet NaN (printed by a program) ===== -/
section VMF
theorem xnaneq (a : UInt64) : isNaN64 a = FP.Core.dIsNaN a := by
  rw [Bool.eq_iff_iff, isNaN64_iff, FP.Core.isNaN_bits]
  rw [show (0x7fffffffffffffff : Nat) = 2 ^ 63 - 1 by decide, Nat.and_two_pow_sub_one_eq_mod]
theorem xnaniff (a : UInt64) : isNaN64 a = true ↔ FP.Core.val64 a = .nan := by rw [xnaneq]; exact FP.Core.dIsNaN_iff a
theorem xqt_iff {v : UInt64} : v &&& 0x0008000000000000 ≠ 0 ↔ 0 < v.toNat &&& 0x0008000000000000 := by
  rw [Ne, ← UInt64.toNat_inj, UInt64.toNat_and]
  show ¬ (v.toNat &&& 0x0008000000000000 = 0) ↔ _
  omega
theorem xqt_or_left {a b : UInt64} (h : a &&& 0x0008000000000000 ≠ 0) : (a ||| b) &&& 0x0008000000000000 ≠ 0 := by
  rw [xqt_iff] at h ⊢
  rw [UInt64.toNat_or, Nat.and_or_distrib_right]
  exact Nat.lt_of_lt_of_le h Nat.left_le_or
theorem xqt_or_right {a b : UInt64} (h : b &&& 0x0008000000000000 ≠ 0) : (a ||| b) &&& 0x0008000000000000 ≠ 0 := by
  rw [xqt_iff] at h ⊢
  rw [UInt64.toNat_or, Nat.and_or_distrib_right]
  exact Nat.lt_of_lt_of_le h Nat.right_le_or
theorem xqt_abs {a : UInt64} (h : a &&& 0x0008000000000000 ≠ 0) : (a &&& 0x7fffffffffffffff) &&& 0x0008000000000000 ≠ 0 := by
  rw [xqt_iff] at h ⊢
  rw [UInt64.toNat_and, Nat.and_assoc]
  exact h
theorem xqt_pick {habit : UInt64} (h : habit &&& 0x0008000000000000 ≠ 0) (d : UInt64) : nanPick64 habit d &&& 0x0008000000000000 ≠ 0 := by
  unfold nanPick64
  split
  · exact h
  · exact xqt_or_left (xqt_or_right (by decide))
theorem xqt_mach (a b : UInt64) : machineNaN64 a b &&& 0x0008000000000000 ≠ 0 := by
  unfold machineNaN64
  split
  · exact xqt_or_right (by decide)
  · split
    · exact xqt_or_right (by decide)
    · decide
theorem xqt_rem (a b : UInt64) : remainderNaN64 a b &&& 0x0008000000000000 ≠ 0 := by
  unfold remainderNaN64
  split
  · exact xqt_abs (xqt_mach b a)
  · exact xqt_mach b a
theorem alq_self {u : UInt64} (h : isNaN64 u = false) : alq u u := alq_num h
theorem alq_nan {v u : UInt64} (h : alq v u) : FP.Core.val64 v = .nan ↔ FP.Core.val64 u = .nan := by
  rw [← xnaniff, ← xnaniff]
  rcases h with ⟨h1, rfl⟩ | ⟨h1, h2, -⟩
  · exact Iff.rfl
  · exact ⟨fun _ => h1, fun _ => h2⟩
theorem alq_op2 {op : UInt64 → UInt64 → UInt64} (hP : ∀ a b, FP.Core.val64 a = .nan ∨ FP.Core.val64 b = .nan → FP.Core.val64 (op a b) = .nan) {x x' y y' r : UInt64} (hx : alq x' x) (hy : alq y' y) (h : alq r (op x' y')) : alq r (op x y) := by
  by_cases hn : FP.Core.val64 x = .nan ∨ FP.Core.val64 y = .nan
  · have h1 := (xnaniff _).mpr (hP x y hn)
    have h2 := (xnaniff _).mpr (hP x' y' (hn.imp (alq_nan hx).mpr (alq_nan hy).mpr))
    rcases h with ⟨h3, -⟩ | ⟨-, h3⟩
    · rw [h2] at h3; cases h3
    · exact Or.inr ⟨h1, h3⟩
  · have nx : isNaN64 x = false := by
      cases hb : isNaN64 x
      · rfl
      · exact absurd (Or.inl ((xnaniff x).mp hb)) hn
    have ny : isNaN64 y = false := by
      cases hb : isNaN64 y
      · rfl
      · exact absurd (Or.inr ((xnaniff y).mp hb)) hn
    rw [← alq_eq hx nx, ← alq_eq hy ny]
    exact h
theorem alq_fun {α : Type} {f : UInt64 → α} (hP : ∀ a b, FP.Core.val64 a = .nan → FP.Core.val64 b = .nan → f a = f b) {x x' : UInt64} (hx : alq x' x) : f x' = f x := by
  rcases hx with ⟨_, rfl⟩ | ⟨h1, h2, -⟩
  · rfl
  · exact hP _ _ ((xnaniff _).mp h2) ((xnaniff _).mp h1)
theorem alq_cmp {x x' y y' : UInt64} (hx : alq x' x) (hy : alq y' y) : FP.dcmp x' y' = FP.dcmp x y := by
  have h1 : FP.dcmp x' y' = FP.dcmp x y' := alq_fun (f := fun z => FP.dcmp z y') (fun a b ha hb => by
    show FP.Core.dcmp a y' = FP.Core.dcmp b y'
    rw [(FP.Core.dcmp_none a y').mpr (Or.inl ha), (FP.Core.dcmp_none b y').mpr (Or.inl hb)]) hx
  have h2 : FP.dcmp x y' = FP.dcmp x y := alq_fun (f := fun z => FP.dcmp x z) (fun a b ha hb => by
    show FP.Core.dcmp x a = FP.Core.dcmp x b
    rw [(FP.Core.dcmp_none x a).mpr (Or.inr ha), (FP.Core.dcmp_none x b).mpr (Or.inr hb)]) hy
  rw [h1, h2]
theorem alq_d2i {x x' : UInt64} (hx : alq x' x) : FP.d2i x' = FP.d2i x := alq_fun (f := FP.d2i) (fun a b ha hb => by
  show FP.Core.toI (FP.Core.val64 a) = FP.Core.toI (FP.Core.val64 b)
  rw [ha, hb]) hx
theorem alq_d2l {x x' : UInt64} (hx : alq x' x) : FP.d2l x' = FP.d2l x := alq_fun (f := FP.d2l) (fun a b ha hb => by
  show FP.Core.toL (FP.Core.val64 a) = FP.Core.toL (FP.Core.val64 b)
  rw [ha, hb]) hx
theorem alq_neg {x x' : UInt64} (hx : alq x' x) : alq (FP.dneg x') (FP.dneg x) := by
  have e : ∀ a, isNaN64 (FP.dneg a) = isNaN64 a := fun a => by rw [xnaneq, xnaneq]; exact FP.dneg_nan a
  rcases hx with ⟨h1, rfl⟩ | ⟨h1, h2, h3⟩
  · exact Or.inl ⟨by rw [e]; exact h1, rfl⟩
  · refine Or.inr ⟨by rw [e]; exact h1, by rw [e]; exact h2, ?_⟩
    rw [xqt_iff] at h3 ⊢
    unfold FP.dneg
    have key : ∀ a b c : Nat, (a ^^^ b) &&& c = (a &&& c) ^^^ (b &&& c) := fun a b c => by
      apply Nat.eq_of_testBit_eq
      intro i
      simp only [Nat.testBit_and, Nat.testBit_xor]
      cases a.testBit i <;> cases b.testBit i <;> cases c.testBit i <;> rfl
    rw [UInt64.toNat_xor, key]
    rw [show (UInt64.toNat 0x8000000000000000) &&& 0x0008000000000000 = 0 by decide, Nat.xor_zero]
    exact h3
theorem xnn_dadd : ∀ a b, FP.Core.val64 a = .nan ∨ FP.Core.val64 b = .nan → FP.Core.val64 (FP.dadd a b) = .nan := fun _ _ h => FP.Core.dadd_nan h
theorem xnn_dmul : ∀ a b, FP.Core.val64 a = .nan ∨ FP.Core.val64 b = .nan → FP.Core.val64 (FP.dmul a b) = .nan := fun _ _ h => FP.Core.dmul_nan h
theorem xnn_dsub : ∀ a b, FP.Core.val64 a = .nan ∨ FP.Core.val64 b = .nan → FP.Core.val64 (FP.dsub a b) = .nan := fun _ _ h => (FP.Core.dIsNaN_iff _).mp ((FP.Core.dsub_nan_iff _ _).mpr (h.elim Or.inl fun q => Or.inr (Or.inl q)))
theorem xnn_ddiv : ∀ a b, FP.Core.val64 a = .nan ∨ FP.Core.val64 b = .nan → FP.Core.val64 (FP.ddiv a b) = .nan := fun _ _ h => (FP.Core.dIsNaN_iff _).mp ((FP.Core.ddiv_nan_iff _ _).mpr (h.elim Or.inl fun q => Or.inr (Or.inl q)))
theorem xnn_drem : ∀ a b, FP.Core.val64 a = .nan ∨ FP.Core.val64 b = .nan → FP.Core.val64 (FP.drem a b) = .nan := fun _ _ h => (FP.Core.dIsNaN_iff _).mp ((FP.Core.drem_nan_iff _ _).mpr (h.elim Or.inl fun q => Or.inr (Or.inl q)))

theorem xq_daddS {p : Program} {l : Launch} {e : Env} {R : Room} {s : State} {m : MethodId} {args : Array Value} {below : List Frame} {meth : Method} {c : Code} {T : State} {locs : List Loc} {cells slots : Nat} (X : Stand p l e R s m args below meth c T locs cells slots) (hexec : p.tables.exec = Jvm.exec) {g : JFrame} (hg : g.method = m) {x y : UInt64} {rest : List Value} (hstack : g.stack = .double y :: .double x :: rest) (hdg : decode c.code g.pc = .ok (.dadd, 1)) :
    ∃ (r : UInt64) (d' : Drawn), alq r (FP.dadd x y) ∧ (d' = T.drawn ∨ d' = T.drawn.next nanBits) ∧ Stand p l e R (s.setDrawn d') m args below meth c (T.setDrawn d') locs cells slots ∧
      ∀ target, Steps p.tables e below ((T.setDrawn d').setTop { g with pc := g.pc + 1, stack := .double r :: rest }) target → Steps p.tables e below (T.setTop g) target := by
  by_cases hr : FP.dadd x y &&& 0x7fffffffffffffff ≤ 0x7ff0000000000000
  · refine ⟨FP.dadd x y, T.drawn, alq_num (by
      cases hb : isNaN64 (FP.dadd x y)
      · rfl
      · exact absurd hr (isNaN64_not.mp hb)), Or.inl rfl, X.drew _, fun target hrest => ?_⟩
    subst hg
    jvm_step X.here [hexec, hdg, Op.dadd.wp_number (e := e) (s := T) (f := g) X.here.top hstack hr]
    exact hrest
  · refine ⟨nanPick64 (machineNaN64 y x) (e.choices nanBits (T.drawn.count nanBits)), T.drawn.next nanBits, Or.inr ⟨isNaN64_not.mpr hr, nanPick64_isNaN (machineNaN64_isNaN _ _) _, xqt_pick (xqt_mach _ _) _⟩, Or.inr rfl, X.drew _, fun target hrest => ?_⟩
    subst hg
    jvm_step X.here [hexec, hdg, Op.dadd.wp_nan (e := e) (s := T) (f := g) X.here.top hstack hr]
    exact hrest
theorem xq_dadd {p : Program} {l : Launch} {e : Env} {R : Room} {s : State} {m : MethodId} {args : Array Value} {below : List Frame} {meth : Method} {c : Code} {locs : List Loc} {cells slots : Nat} {cc : ByteArray} {pc : Nat} {ls : Array Slot} {rest : List Value} {H : Heap} {Q : State → Prop} {d0 : Drawn} {cs : List Choice}
    (hd0 : s.drawn.sameBut d0 cs) (hn : nanBits ∈ cs) (hexec : p.tables.exec = Jvm.exec) (hb : c.code = cc) {x y : UInt64} (hdg : decode cc pc = .ok (.dadd, 1))
    (k : ∀ (r : UInt64) (d' : Drawn), alq r (FP.dadd x y) → s.drawn.sameBut d' cs → W p l e R (s.setDrawn d') m args below meth c H locs cells slots Q (F0 m (pc + 1) ls (.double r :: rest))) : W p l e R (s.setDrawn d0) m args below meth c H locs cells slots Q (F0 m pc ls (.double y :: .double x :: rest)) := by
  intro T hT X
  obtain ⟨r, d', hal, hd, X', st⟩ := xq_daddS X hexec (g := F0 m pc ls (.double y :: .double x :: rest)) rfl rfl (by rw [hb]; exact hdg)
  obtain ⟨t, a, b⟩ := k r d' hal (dr_step hd0 hn X.drawn_eq hd) (T.setDrawn d') hT X'
  exact ⟨t, st t a, b⟩
theorem xq_dsubS {p : Program} {l : Launch} {e : Env} {R : Room} {s : State} {m : MethodId} {args : Array Value} {below : List Frame} {meth : Method} {c : Code} {T : State} {locs : List Loc} {cells slots : Nat} (X : Stand p l e R s m args below meth c T locs cells slots) (hexec : p.tables.exec = Jvm.exec) {g : JFrame} (hg : g.method = m) {x y : UInt64} {rest : List Value} (hstack : g.stack = .double y :: .double x :: rest) (hdg : decode c.code g.pc = .ok (.dsub, 1)) :
    ∃ (r : UInt64) (d' : Drawn), alq r (FP.dsub x y) ∧ (d' = T.drawn ∨ d' = T.drawn.next nanBits) ∧ Stand p l e R (s.setDrawn d') m args below meth c (T.setDrawn d') locs cells slots ∧
      ∀ target, Steps p.tables e below ((T.setDrawn d').setTop { g with pc := g.pc + 1, stack := .double r :: rest }) target → Steps p.tables e below (T.setTop g) target := by
  by_cases hr : FP.dsub x y &&& 0x7fffffffffffffff ≤ 0x7ff0000000000000
  · refine ⟨FP.dsub x y, T.drawn, alq_num (by
      cases hb : isNaN64 (FP.dsub x y)
      · rfl
      · exact absurd hr (isNaN64_not.mp hb)), Or.inl rfl, X.drew _, fun target hrest => ?_⟩
    subst hg
    jvm_step X.here [hexec, hdg, Op.dsub.wp_number (e := e) (s := T) (f := g) X.here.top hstack hr]
    exact hrest
  · refine ⟨nanPick64 (machineNaN64 x y) (e.choices nanBits (T.drawn.count nanBits)), T.drawn.next nanBits, Or.inr ⟨isNaN64_not.mpr hr, nanPick64_isNaN (machineNaN64_isNaN _ _) _, xqt_pick (xqt_mach _ _) _⟩, Or.inr rfl, X.drew _, fun target hrest => ?_⟩
    subst hg
    jvm_step X.here [hexec, hdg, Op.dsub.wp_nan (e := e) (s := T) (f := g) X.here.top hstack hr]
    exact hrest
theorem xq_dsub {p : Program} {l : Launch} {e : Env} {R : Room} {s : State} {m : MethodId} {args : Array Value} {below : List Frame} {meth : Method} {c : Code} {locs : List Loc} {cells slots : Nat} {cc : ByteArray} {pc : Nat} {ls : Array Slot} {rest : List Value} {H : Heap} {Q : State → Prop} {d0 : Drawn} {cs : List Choice}
    (hd0 : s.drawn.sameBut d0 cs) (hn : nanBits ∈ cs) (hexec : p.tables.exec = Jvm.exec) (hb : c.code = cc) {x y : UInt64} (hdg : decode cc pc = .ok (.dsub, 1))
    (k : ∀ (r : UInt64) (d' : Drawn), alq r (FP.dsub x y) → s.drawn.sameBut d' cs → W p l e R (s.setDrawn d') m args below meth c H locs cells slots Q (F0 m (pc + 1) ls (.double r :: rest))) : W p l e R (s.setDrawn d0) m args below meth c H locs cells slots Q (F0 m pc ls (.double y :: .double x :: rest)) := by
  intro T hT X
  obtain ⟨r, d', hal, hd, X', st⟩ := xq_dsubS X hexec (g := F0 m pc ls (.double y :: .double x :: rest)) rfl rfl (by rw [hb]; exact hdg)
  obtain ⟨t, a, b⟩ := k r d' hal (dr_step hd0 hn X.drawn_eq hd) (T.setDrawn d') hT X'
  exact ⟨t, st t a, b⟩
theorem xq_dmulS {p : Program} {l : Launch} {e : Env} {R : Room} {s : State} {m : MethodId} {args : Array Value} {below : List Frame} {meth : Method} {c : Code} {T : State} {locs : List Loc} {cells slots : Nat} (X : Stand p l e R s m args below meth c T locs cells slots) (hexec : p.tables.exec = Jvm.exec) {g : JFrame} (hg : g.method = m) {x y : UInt64} {rest : List Value} (hstack : g.stack = .double y :: .double x :: rest) (hdg : decode c.code g.pc = .ok (.dmul, 1)) :
    ∃ (r : UInt64) (d' : Drawn), alq r (FP.dmul x y) ∧ (d' = T.drawn ∨ d' = T.drawn.next nanBits) ∧ Stand p l e R (s.setDrawn d') m args below meth c (T.setDrawn d') locs cells slots ∧
      ∀ target, Steps p.tables e below ((T.setDrawn d').setTop { g with pc := g.pc + 1, stack := .double r :: rest }) target → Steps p.tables e below (T.setTop g) target := by
  by_cases hr : FP.dmul x y &&& 0x7fffffffffffffff ≤ 0x7ff0000000000000
  · refine ⟨FP.dmul x y, T.drawn, alq_num (by
      cases hb : isNaN64 (FP.dmul x y)
      · rfl
      · exact absurd hr (isNaN64_not.mp hb)), Or.inl rfl, X.drew _, fun target hrest => ?_⟩
    subst hg
    jvm_step X.here [hexec, hdg, Op.dmul.wp_number (e := e) (s := T) (f := g) X.here.top hstack hr]
    exact hrest
  · refine ⟨nanPick64 (machineNaN64 y x) (e.choices nanBits (T.drawn.count nanBits)), T.drawn.next nanBits, Or.inr ⟨isNaN64_not.mpr hr, nanPick64_isNaN (machineNaN64_isNaN _ _) _, xqt_pick (xqt_mach _ _) _⟩, Or.inr rfl, X.drew _, fun target hrest => ?_⟩
    subst hg
    jvm_step X.here [hexec, hdg, Op.dmul.wp_nan (e := e) (s := T) (f := g) X.here.top hstack hr]
    exact hrest
theorem xq_dmul {p : Program} {l : Launch} {e : Env} {R : Room} {s : State} {m : MethodId} {args : Array Value} {below : List Frame} {meth : Method} {c : Code} {locs : List Loc} {cells slots : Nat} {cc : ByteArray} {pc : Nat} {ls : Array Slot} {rest : List Value} {H : Heap} {Q : State → Prop} {d0 : Drawn} {cs : List Choice}
    (hd0 : s.drawn.sameBut d0 cs) (hn : nanBits ∈ cs) (hexec : p.tables.exec = Jvm.exec) (hb : c.code = cc) {x y : UInt64} (hdg : decode cc pc = .ok (.dmul, 1))
    (k : ∀ (r : UInt64) (d' : Drawn), alq r (FP.dmul x y) → s.drawn.sameBut d' cs → W p l e R (s.setDrawn d') m args below meth c H locs cells slots Q (F0 m (pc + 1) ls (.double r :: rest))) : W p l e R (s.setDrawn d0) m args below meth c H locs cells slots Q (F0 m pc ls (.double y :: .double x :: rest)) := by
  intro T hT X
  obtain ⟨r, d', hal, hd, X', st⟩ := xq_dmulS X hexec (g := F0 m pc ls (.double y :: .double x :: rest)) rfl rfl (by rw [hb]; exact hdg)
  obtain ⟨t, a, b⟩ := k r d' hal (dr_step hd0 hn X.drawn_eq hd) (T.setDrawn d') hT X'
  exact ⟨t, st t a, b⟩
theorem xq_ddivS {p : Program} {l : Launch} {e : Env} {R : Room} {s : State} {m : MethodId} {args : Array Value} {below : List Frame} {meth : Method} {c : Code} {T : State} {locs : List Loc} {cells slots : Nat} (X : Stand p l e R s m args below meth c T locs cells slots) (hexec : p.tables.exec = Jvm.exec) {g : JFrame} (hg : g.method = m) {x y : UInt64} {rest : List Value} (hstack : g.stack = .double y :: .double x :: rest) (hdg : decode c.code g.pc = .ok (.ddiv, 1)) :
    ∃ (r : UInt64) (d' : Drawn), alq r (FP.ddiv x y) ∧ (d' = T.drawn ∨ d' = T.drawn.next nanBits) ∧ Stand p l e R (s.setDrawn d') m args below meth c (T.setDrawn d') locs cells slots ∧
      ∀ target, Steps p.tables e below ((T.setDrawn d').setTop { g with pc := g.pc + 1, stack := .double r :: rest }) target → Steps p.tables e below (T.setTop g) target := by
  by_cases hr : FP.ddiv x y &&& 0x7fffffffffffffff ≤ 0x7ff0000000000000
  · refine ⟨FP.ddiv x y, T.drawn, alq_num (by
      cases hb : isNaN64 (FP.ddiv x y)
      · rfl
      · exact absurd hr (isNaN64_not.mp hb)), Or.inl rfl, X.drew _, fun target hrest => ?_⟩
    subst hg
    jvm_step X.here [hexec, hdg, Op.ddiv.wp_number (e := e) (s := T) (f := g) X.here.top hstack hr]
    exact hrest
  · refine ⟨nanPick64 (machineNaN64 x y) (e.choices nanBits (T.drawn.count nanBits)), T.drawn.next nanBits, Or.inr ⟨isNaN64_not.mpr hr, nanPick64_isNaN (machineNaN64_isNaN _ _) _, xqt_pick (xqt_mach _ _) _⟩, Or.inr rfl, X.drew _, fun target hrest => ?_⟩
    subst hg
    jvm_step X.here [hexec, hdg, Op.ddiv.wp_nan (e := e) (s := T) (f := g) X.here.top hstack hr]
    exact hrest
theorem xq_ddiv {p : Program} {l : Launch} {e : Env} {R : Room} {s : State} {m : MethodId} {args : Array Value} {below : List Frame} {meth : Method} {c : Code} {locs : List Loc} {cells slots : Nat} {cc : ByteArray} {pc : Nat} {ls : Array Slot} {rest : List Value} {H : Heap} {Q : State → Prop} {d0 : Drawn} {cs : List Choice}
    (hd0 : s.drawn.sameBut d0 cs) (hn : nanBits ∈ cs) (hexec : p.tables.exec = Jvm.exec) (hb : c.code = cc) {x y : UInt64} (hdg : decode cc pc = .ok (.ddiv, 1))
    (k : ∀ (r : UInt64) (d' : Drawn), alq r (FP.ddiv x y) → s.drawn.sameBut d' cs → W p l e R (s.setDrawn d') m args below meth c H locs cells slots Q (F0 m (pc + 1) ls (.double r :: rest))) : W p l e R (s.setDrawn d0) m args below meth c H locs cells slots Q (F0 m pc ls (.double y :: .double x :: rest)) := by
  intro T hT X
  obtain ⟨r, d', hal, hd, X', st⟩ := xq_ddivS X hexec (g := F0 m pc ls (.double y :: .double x :: rest)) rfl rfl (by rw [hb]; exact hdg)
  obtain ⟨t, a, b⟩ := k r d' hal (dr_step hd0 hn X.drawn_eq hd) (T.setDrawn d') hT X'
  exact ⟨t, st t a, b⟩
theorem xq_dremS {p : Program} {l : Launch} {e : Env} {R : Room} {s : State} {m : MethodId} {args : Array Value} {below : List Frame} {meth : Method} {c : Code} {T : State} {locs : List Loc} {cells slots : Nat} (X : Stand p l e R s m args below meth c T locs cells slots) (hexec : p.tables.exec = Jvm.exec) {g : JFrame} (hg : g.method = m) {x y : UInt64} {rest : List Value} (hstack : g.stack = .double y :: .double x :: rest) (hdg : decode c.code g.pc = .ok (.drem, 1)) :
    ∃ (r : UInt64) (d' : Drawn), alq r (FP.drem x y) ∧ (d' = T.drawn ∨ d' = T.drawn.next nanBits) ∧ Stand p l e R (s.setDrawn d') m args below meth c (T.setDrawn d') locs cells slots ∧
      ∀ target, Steps p.tables e below ((T.setDrawn d').setTop { g with pc := g.pc + 1, stack := .double r :: rest }) target → Steps p.tables e below (T.setTop g) target := by
  by_cases hr : FP.drem x y &&& 0x7fffffffffffffff ≤ 0x7ff0000000000000
  · refine ⟨FP.drem x y, T.drawn, alq_num (by
      cases hb : isNaN64 (FP.drem x y)
      · rfl
      · exact absurd hr (isNaN64_not.mp hb)), Or.inl rfl, X.drew _, fun target hrest => ?_⟩
    subst hg
    jvm_step X.here [hexec, hdg, Op.drem.wp_number (e := e) (s := T) (f := g) X.here.top hstack hr]
    exact hrest
  · refine ⟨nanPick64 (remainderNaN64 x y) (e.choices nanBits (T.drawn.count nanBits)), T.drawn.next nanBits, Or.inr ⟨isNaN64_not.mpr hr, nanPick64_isNaN (remainderNaN64_isNaN _ _) _, xqt_pick (xqt_rem _ _) _⟩, Or.inr rfl, X.drew _, fun target hrest => ?_⟩
    subst hg
    jvm_step X.here [hexec, hdg, Op.drem.wp_nan (e := e) (s := T) (f := g) X.here.top hstack hr]
    exact hrest
theorem xq_drem {p : Program} {l : Launch} {e : Env} {R : Room} {s : State} {m : MethodId} {args : Array Value} {below : List Frame} {meth : Method} {c : Code} {locs : List Loc} {cells slots : Nat} {cc : ByteArray} {pc : Nat} {ls : Array Slot} {rest : List Value} {H : Heap} {Q : State → Prop} {d0 : Drawn} {cs : List Choice}
    (hd0 : s.drawn.sameBut d0 cs) (hn : nanBits ∈ cs) (hexec : p.tables.exec = Jvm.exec) (hb : c.code = cc) {x y : UInt64} (hdg : decode cc pc = .ok (.drem, 1))
    (k : ∀ (r : UInt64) (d' : Drawn), alq r (FP.drem x y) → s.drawn.sameBut d' cs → W p l e R (s.setDrawn d') m args below meth c H locs cells slots Q (F0 m (pc + 1) ls (.double r :: rest))) : W p l e R (s.setDrawn d0) m args below meth c H locs cells slots Q (F0 m pc ls (.double y :: .double x :: rest)) := by
  intro T hT X
  obtain ⟨r, d', hal, hd, X', st⟩ := xq_dremS X hexec (g := F0 m pc ls (.double y :: .double x :: rest)) rfl rfl (by rw [hb]; exact hdg)
  obtain ⟨t, a, b⟩ := k r d' hal (dr_step hd0 hn X.drawn_eq hd) (T.setDrawn d') hT X'
  exact ⟨t, st t a, b⟩
variable {k : MI} {pc : Nat} {lv lv1 : List (Nat × Value)} {st : List Value} {nc ns : Nat} {M : Mem} {Q : xQ} {X : xX}
theorem V_dadd {x y : UInt64} (hd : decode (kCC k) pc = .ok (.dadd, 1)) (kk : V k (pc + 1) lv (.double (FP.dadd x y) :: st) nc ns M Q X) : V k pc lv (.double y :: .double x :: st) nc ns M Q X := by
  intro p l e R s m args below meth c base D Z M0 ad0 mc ms ad H locs cells slots d ls rst hF hN hst
  obtain ⟨y0, r0, rfl, e0, hst1⟩ := xRvs_cons hst
  clear hst
  obtain ⟨w0, rfl, e0⟩ := e0
  obtain ⟨y1, r1, rfl, e1, hst2⟩ := xRvs_cons hst1
  clear hst1
  obtain ⟨w1, rfl, e1⟩ := e1
  exact xq_dadd (s := s) hN.2.2.1 lw_bits hF.1 hF.2.1 hd (fun r d' hal hd' => kk p l e R s m args below meth c base D Z M0 ad0 mc ms ad H locs cells slots d' ls _ hF ⟨hN.1, hN.2.1, hd', hN.2.2.2⟩ ⟨⟨r, rfl, alq_op2 xnn_dadd e1 e0 hal⟩, hst2⟩)
theorem V_dsub {x y : UInt64} (hd : decode (kCC k) pc = .ok (.dsub, 1)) (kk : V k (pc + 1) lv (.double (FP.dsub x y) :: st) nc ns M Q X) : V k pc lv (.double y :: .double x :: st) nc ns M Q X := by
  intro p l e R s m args below meth c base D Z M0 ad0 mc ms ad H locs cells slots d ls rst hF hN hst
  obtain ⟨y0, r0, rfl, e0, hst1⟩ := xRvs_cons hst
  clear hst
  obtain ⟨w0, rfl, e0⟩ := e0
  obtain ⟨y1, r1, rfl, e1, hst2⟩ := xRvs_cons hst1
  clear hst1
  obtain ⟨w1, rfl, e1⟩ := e1
  exact xq_dsub (s := s) hN.2.2.1 lw_bits hF.1 hF.2.1 hd (fun r d' hal hd' => kk p l e R s m args below meth c base D Z M0 ad0 mc ms ad H locs cells slots d' ls _ hF ⟨hN.1, hN.2.1, hd', hN.2.2.2⟩ ⟨⟨r, rfl, alq_op2 xnn_dsub e1 e0 hal⟩, hst2⟩)
theorem V_dmul {x y : UInt64} (hd : decode (kCC k) pc = .ok (.dmul, 1)) (kk : V k (pc + 1) lv (.double (FP.dmul x y) :: st) nc ns M Q X) : V k pc lv (.double y :: .double x :: st) nc ns M Q X := by
  intro p l e R s m args below meth c base D Z M0 ad0 mc ms ad H locs cells slots d ls rst hF hN hst
  obtain ⟨y0, r0, rfl, e0, hst1⟩ := xRvs_cons hst
  clear hst
  obtain ⟨w0, rfl, e0⟩ := e0
  obtain ⟨y1, r1, rfl, e1, hst2⟩ := xRvs_cons hst1
  clear hst1
  obtain ⟨w1, rfl, e1⟩ := e1
  exact xq_dmul (s := s) hN.2.2.1 lw_bits hF.1 hF.2.1 hd (fun r d' hal hd' => kk p l e R s m args below meth c base D Z M0 ad0 mc ms ad H locs cells slots d' ls _ hF ⟨hN.1, hN.2.1, hd', hN.2.2.2⟩ ⟨⟨r, rfl, alq_op2 xnn_dmul e1 e0 hal⟩, hst2⟩)
theorem V_ddiv {x y : UInt64} (hd : decode (kCC k) pc = .ok (.ddiv, 1)) (kk : V k (pc + 1) lv (.double (FP.ddiv x y) :: st) nc ns M Q X) : V k pc lv (.double y :: .double x :: st) nc ns M Q X := by
  intro p l e R s m args below meth c base D Z M0 ad0 mc ms ad H locs cells slots d ls rst hF hN hst
  obtain ⟨y0, r0, rfl, e0, hst1⟩ := xRvs_cons hst
  clear hst
  obtain ⟨w0, rfl, e0⟩ := e0
  obtain ⟨y1, r1, rfl, e1, hst2⟩ := xRvs_cons hst1
  clear hst1
  obtain ⟨w1, rfl, e1⟩ := e1
  exact xq_ddiv (s := s) hN.2.2.1 lw_bits hF.1 hF.2.1 hd (fun r d' hal hd' => kk p l e R s m args below meth c base D Z M0 ad0 mc ms ad H locs cells slots d' ls _ hF ⟨hN.1, hN.2.1, hd', hN.2.2.2⟩ ⟨⟨r, rfl, alq_op2 xnn_ddiv e1 e0 hal⟩, hst2⟩)
theorem V_drem {x y : UInt64} (hd : decode (kCC k) pc = .ok (.drem, 1)) (kk : V k (pc + 1) lv (.double (FP.drem x y) :: st) nc ns M Q X) : V k pc lv (.double y :: .double x :: st) nc ns M Q X := by
  intro p l e R s m args below meth c base D Z M0 ad0 mc ms ad H locs cells slots d ls rst hF hN hst
  obtain ⟨y0, r0, rfl, e0, hst1⟩ := xRvs_cons hst
  clear hst
  obtain ⟨w0, rfl, e0⟩ := e0
  obtain ⟨y1, r1, rfl, e1, hst2⟩ := xRvs_cons hst1
  clear hst1
  obtain ⟨w1, rfl, e1⟩ := e1
  exact xq_drem (s := s) hN.2.2.1 lw_bits hF.1 hF.2.1 hd (fun r d' hal hd' => kk p l e R s m args below meth c base D Z M0 ad0 mc ms ad H locs cells slots d' ls _ hF ⟨hN.1, hN.2.1, hd', hN.2.2.2⟩ ⟨⟨r, rfl, alq_op2 xnn_drem e1 e0 hal⟩, hst2⟩)
theorem V_dneg {x : UInt64} (hd : decode (kCC k) pc = .ok (.dneg, 1)) (kk : V k (pc + 1) lv (.double (FP.dneg x) :: st) nc ns M Q X) : V k pc lv (.double x :: st) nc ns M Q X := by
  intro p l e R s m args below meth c base D Z M0 ad0 mc ms ad H locs cells slots d ls rst hF hN hst
  obtain ⟨y0, r0, rfl, e0, hst1⟩ := xRvs_cons hst
  clear hst
  obtain ⟨w0, rfl, e0⟩ := e0
  exact lv_dneg hF.1 hF.2.1 hd (kk p l e R s m args below meth c base D Z M0 ad0 mc ms ad H locs cells slots d ls _ hF hN ⟨⟨_, rfl, alq_neg e0⟩, hst1⟩)
theorem V_dcmp {x y : UInt64} {op : CmpOp} (hd : decode (kCC k) pc = .ok (.dcmp op, 1)) (kk : V k (pc + 1) lv (.int (Op.cmpValue (FP.dcmp x y) op) :: st) nc ns M Q X) : V k pc lv (.double y :: .double x :: st) nc ns M Q X := by
  intro p l e R s m args below meth c base D Z M0 ad0 mc ms ad H locs cells slots d ls rst hF hN hst
  obtain ⟨y0, r0, rfl, e0, hst1⟩ := xRvs_cons hst
  clear hst
  obtain ⟨w0, rfl, e0⟩ := e0
  obtain ⟨y1, r1, rfl, e1, hst2⟩ := xRvs_cons hst1
  clear hst1
  obtain ⟨w1, rfl, e1⟩ := e1
  refine lv_dcmp hF.1 hF.2.1 hd ?_
  rw [alq_cmp e1 e0]
  exact kk p l e R s m args below meth c base D Z M0 ad0 mc ms ad H locs cells slots d ls _ hF hN ⟨rfl, hst2⟩
theorem V_d2i {x : UInt64} (hd : decode (kCC k) pc = .ok (.d2i, 1)) (kk : V k (pc + 1) lv (.int (FP.d2i x) :: st) nc ns M Q X) : V k pc lv (.double x :: st) nc ns M Q X := by
  intro p l e R s m args below meth c base D Z M0 ad0 mc ms ad H locs cells slots d ls rst hF hN hst
  obtain ⟨y0, r0, rfl, e0, hst1⟩ := xRvs_cons hst
  clear hst
  obtain ⟨w0, rfl, e0⟩ := e0
  refine lv_d2i hF.1 hF.2.1 hd ?_
  rw [alq_d2i e0]
  exact kk p l e R s m args below meth c base D Z M0 ad0 mc ms ad H locs cells slots d ls _ hF hN ⟨rfl, hst1⟩
theorem V_d2l {x : UInt64} (hd : decode (kCC k) pc = .ok (.d2l, 1)) (kk : V k (pc + 1) lv (.long (FP.d2l x) :: st) nc ns M Q X) : V k pc lv (.double x :: st) nc ns M Q X := by
  intro p l e R s m args below meth c base D Z M0 ad0 mc ms ad H locs cells slots d ls rst hF hN hst
  obtain ⟨y0, r0, rfl, e0, hst1⟩ := xRvs_cons hst
  clear hst
  obtain ⟨w0, rfl, e0⟩ := e0
  refine lv_d2l hF.1 hF.2.1 hd ?_
  rw [alq_d2l e0]
  exact kk p l e R s m args below meth c base D Z M0 ad0 mc ms ad H locs cells slots d ls _ hF hN ⟨rfl, hst1⟩
theorem V_i2d {x : Int32} (hd : decode (kCC k) pc = .ok (.i2d, 1)) (kk : V k (pc + 1) lv (.double (FP.i2d x) :: st) nc ns M Q X) : V k pc lv (.int x :: st) nc ns M Q X := by
  intro p l e R s m args below meth c base D Z M0 ad0 mc ms ad H locs cells slots d ls rst hF hN hst
  obtain ⟨y0, r0, rfl, e0, hst1⟩ := xRvs_cons hst
  clear hst
  cases (show y0 = Value.int x from e0)
  exact lv_i2d hF.1 hF.2.1 hd (kk p l e R s m args below meth c base D Z M0 ad0 mc ms ad H locs cells slots d ls _ hF hN ⟨⟨_, rfl, alq_num (by rw [xnaneq]; exact (show FP.Core.dIsNaN (FP.Core.i2d x) = false by rw [FP.Core.i2d_l2d]; exact FP.Core.l2d_notNaN _))⟩, hst1⟩)
theorem V_l2d {x : Int64} (hd : decode (kCC k) pc = .ok (.l2d, 1)) (kk : V k (pc + 1) lv (.double (FP.l2d x) :: st) nc ns M Q X) : V k pc lv (.long x :: st) nc ns M Q X := by
  intro p l e R s m args below meth c base D Z M0 ad0 mc ms ad H locs cells slots d ls rst hF hN hst
  obtain ⟨y0, r0, rfl, e0, hst1⟩ := xRvs_cons hst
  clear hst
  cases (show y0 = Value.long x from e0)
  exact lv_l2d hF.1 hF.2.1 hd (kk p l e R s m args below meth c base D Z M0 ad0 mc ms ad H locs cells slots d ls _ hF hN ⟨⟨_, rfl, alq_num (by rw [xnaneq]; exact FP.Core.l2d_notNaN x)⟩, hst1⟩)
theorem V_f2d {x : UInt32} (hd : decode (kCC k) pc = .ok (.f2d, 1)) (hne : vf_n64 (FP.f2d x)) (kk : V k (pc + 1) lv (.double (FP.f2d x) :: st) nc ns M Q X) : V k pc lv (.float x :: st) nc ns M Q X := by
  intro p l e R s m args below meth c base D Z M0 ad0 mc ms ad H locs cells slots d ls rst hF hN hst
  obtain ⟨y0, r0, rfl, e0, hst1⟩ := xRvs_cons hst
  clear hst
  cases (show y0 = Value.float x from e0)
  exact lv_f2d hF.1 hF.2.1 hd hne (kk p l e R s m args below meth c base D Z M0 ad0 mc ms ad H locs cells slots d ls _ hF hN ⟨⟨_, rfl, alq_num (by
      cases hb : isNaN64 (FP.f2d x)
      · rfl
      · exact absurd hne (isNaN64_not.mp hb))⟩, hst1⟩)
end VMF
