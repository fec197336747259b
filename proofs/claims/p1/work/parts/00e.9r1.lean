/-! ===== asks: what they are, wrappers ===== -/
section MZ1
/-- the class's memory behind an ask -/
def NC (M N : Mem) : Prop := (∀ a j, mI N a j = mI M a j) ∧ (∀ a j, a < 127 ∨ 128 < a → mD N a j = mD M a j ∧ mL N a j = mL M a j) ∧ N.2.2.2.1 = M.2.2.2.1 ∧ N.2.2.2.2.1 = M.2.2.2.2.1 ∧ nx N = nx M ∧ uC N ≤ uC M + 1 ∧ uS N ≤ uS M + 6
theorem nc_refl (M : Mem) : NC M M := ⟨fun _ _ => rfl, fun _ _ _ => ⟨rfl, rfl⟩, rfl, rfl, rfl, by omega, by omega⟩
theorem nc_tk (M : Mem) : NC M (tk M 6) := ⟨fun _ _ => rfl, fun _ _ _ => ⟨rfl, rfl⟩, rfl, rfl, rfl, Nat.le_refl _, Nat.le_refl _⟩
theorem nc_L (M : Mem) (v : Int64) : NC M (sL M 127 0 v) := ⟨fun _ _ => rfl, fun a j u => ⟨rfl, mL_ne (by omega)⟩, rfl, rfl, rfl, Nat.le_succ _, Nat.le_add_right _ _⟩
theorem nc_D (M : Mem) (v : UInt64) : NC M (sD M 128 0 v) := ⟨fun _ _ => rfl, fun a j u => ⟨mD_ne (by omega), rfl⟩, rfl, rfl, rfl, Nat.le_succ _, Nat.le_add_right _ _⟩
theorem NC.ec {M N : Mem} (h : NC M N) : EC M N := ⟨fun a j u => ⟨h.1 a j, (h.2.1 a j (by omega)).1, (h.2.1 a j (by omega)).2⟩, h.2.2.1, h.2.2.2.1, h.2.2.2.2.1⟩
theorem NC.cfr {M N : Mem} (h : NC M N) (c : Nat) : CFR M N c c 1 := ⟨fun a j _ u => ⟨h.1 a j, (h.2.1 a j (by omega)).1, (h.2.1 a j (by omega)).2⟩, Nat.le_refl _, by have := h.2.2.2.2.1; omega, by have := h.2.2.2.2.2.1; omega, by have := h.2.2.2.2.2.2; omega, fun a _ => congrArg (fun z => z a) h.2.2.2.1⟩
/-- the reference's memory behind an ask -/
def SC (S E : Mem) : Prop := (∀ a j, (a ≠ 69 ∨ j ≠ 0) → mI E a j = mI S a j) ∧ E.2 = S.2
theorem sc_1 (S : Mem) (v : Int32) : SC S (sI S 69 0 v) := ⟨fun a j u => mI_ne (by omega), rfl⟩
theorem SC.trans {A B C : Mem} (h : SC A B) (k : SC B C) : SC A C := ⟨fun a j u => (k.1 a j u).trans (h.1 a j u), k.2.trans h.2⟩
theorem SC.er {S E : Mem} (h : SC S E) : ER S E := fun a j _ _ u => ⟨h.1 a j u, congrArg (fun z => z.2.1 a j) h.2, congrArg (fun z => z.1 a j) h.2⟩
def ASK (c r : Mem → Option (Int32 × Mem)) (M S : Mem) : Prop := ∃ k v N E, c M = some (k, N) ∧ r S = some (v, E) ∧ mI E 69 0 = k ∧ (k = nI 0 → mL N 127 0 = v.toInt64) ∧ NC M N ∧ SC S E
def ASL (c : Mem → Option (Int32 × Mem)) (r : Mem → Option (Int64 × Mem)) (M S : Mem) : Prop := ∃ k v N E, c M = some (k, N) ∧ r S = some (v, E) ∧ mI E 69 0 = k ∧ (k = nI 0 → mL N 127 0 = v) ∧ NC M N ∧ SC S E
def ASI (c r : Mem → Option (Int32 × Mem)) (M S : Mem) : Prop := ∃ v E, c M = some (v, M) ∧ r S = some (v, E) ∧ SC S E
theorem ask_v {c r : Mem → Option (Int32 × Mem)} {M S E : Mem} {v : Int32} (hc : c M = some (nI 0, sL M 127 0 v.toInt64)) (hr : r S = some (v, E)) (h0 : mI E 69 0 = nI 0) (hs : SC S E) : ASK c r M S := ⟨_, _, _, _, hc, hr, h0, fun _ => mL_eq _ _ _ _, nc_L _ _, hs⟩
theorem asl_v {c : Mem → Option (Int32 × Mem)} {r : Mem → Option (Int64 × Mem)} {M S E : Mem} {v : Int64} (hc : c M = some (nI 0, sL M 127 0 v)) (hr : r S = some (v, E)) (h0 : mI E 69 0 = nI 0) (hs : SC S E) : ASL c r M S := ⟨_, _, _, _, hc, hr, h0, fun _ => mL_eq _ _ _ _, nc_L _ _, hs⟩
theorem ask_t {c r : Mem → Option (Int32 × Mem)} {M S E : Mem} {v k : Int32} (hc : c M = some (k, tk M 6)) (hr : r S = some (v, E)) (h0 : mI E 69 0 = k) (hk : ¬ k = nI 0) (hs : SC S E) : ASK c r M S := ⟨_, _, _, _, hc, hr, h0, fun h => absurd h hk, nc_tk _, hs⟩
theorem asl_t {c : Mem → Option (Int32 × Mem)} {r : Mem → Option (Int64 × Mem)} {M S E : Mem} {v : Int64} {k : Int32} (hc : c M = some (k, tk M 6)) (hr : r S = some (v, E)) (h0 : mI E 69 0 = k) (hk : ¬ k = nI 0) (hs : SC S E) : ASL c r M S := ⟨_, _, _, _, hc, hr, h0, fun h => absurd h hk, nc_tk _, hs⟩
/-- what every call makes of the two memories -/
theorem inv_ask {M N S E : Mem} {cnt ns nc nf : Nat} (h : INV M S cnt ns nc nf) (k : NC M N) (hs : SC S E) : INV N E cnt ns nc nf := inv_M (inv_S h hs.er) k.ec
theorem n1n : ¬ nI 1 = nI 0 := by decide
theorem n2n : ¬ nI 2 = nI 0 := by decide
theorem i32_nn {x : Int32} (h : ¬ x < (0 : Int32)) : ∃ k, k < 2147483648 ∧ x = nI k := ⟨x.toNatClampNeg, qlt31 x, qof (by
  rw [Int32.lt_iff_toInt_lt] at h
  rw [Int32.le_iff_toInt_le]
  omega)⟩
theorem lT_addFunction {x1 : Int32} {M N : Mem} {v : Int32} (h : d_X11_addFunction x1 M = some (.inl v, N)) : d_L_addFunction x1 M = some (nI 0, sL N 127 0 v.toInt64) := by
  unfold d_L_addFunction
  rw [h]
  rfl
theorem lE1_addFunction {x1 : Int32} {M N : Mem} (h : d_X11_addFunction x1 M = some (.inr "java/lang/IllegalArgumentException", N)) : d_L_addFunction x1 M = some (nI 1, N) := by
  unfold d_L_addFunction
  rw [h]
  simp only [obind]
  exact if_pos trivial
theorem lE2_addFunction {x1 : Int32} {M N : Mem} (h : d_X11_addFunction x1 M = some (.inr "java/lang/IllegalStateException", N)) : d_L_addFunction x1 M = some (nI 2, N) := by
  unfold d_L_addFunction
  rw [h]
  simp only [obind]
  rw [if_neg (by decide)]
  exact if_pos trivial
theorem lT_code {x1 : Int32} {x2 : Int32} {x3 : Int32} {M N : Mem} {v : Int32} (h : d_X11_code x1 x2 x3 M = some (.inl v, N)) : d_L_code x1 x2 x3 M = some (nI 0, sL N 127 0 v.toInt64) := by
  unfold d_L_code
  rw [h]
  rfl
theorem lE1_code {x1 : Int32} {x2 : Int32} {x3 : Int32} {M N : Mem} (h : d_X11_code x1 x2 x3 M = some (.inr "java/lang/IndexOutOfBoundsException", N)) : d_L_code x1 x2 x3 M = some (nI 1, N) := by
  unfold d_L_code
  rw [h]
  simp only [obind]
  exact if_pos trivial
theorem lE2_code {x1 : Int32} {x2 : Int32} {x3 : Int32} {M N : Mem} (h : d_X11_code x1 x2 x3 M = some (.inr "java/lang/IllegalArgumentException", N)) : d_L_code x1 x2 x3 M = some (nI 2, N) := by
  unfold d_L_code
  rw [h]
  simp only [obind]
  rw [if_neg (by decide)]
  exact if_pos trivial
theorem lE3_code {x1 : Int32} {x2 : Int32} {x3 : Int32} {M N : Mem} (h : d_X11_code x1 x2 x3 M = some (.inr "java/lang/IllegalStateException", N)) : d_L_code x1 x2 x3 M = some (nI 3, N) := by
  unfold d_L_code
  rw [h]
  simp only [obind]
  rw [if_neg (by decide)]
  rw [if_neg (by decide)]
  exact if_pos trivial
theorem lT_setHandler {x1 : Int32} {x2 : Int32} {M N : Mem} {v : Int32} (h : d_X11_setHandler x1 x2 M = some (.inl v, N)) : d_L_setHandler x1 x2 M = some (nI 0, sL N 127 0 v.toInt64) := by
  unfold d_L_setHandler
  rw [h]
  rfl
theorem lE1_setHandler {x1 : Int32} {x2 : Int32} {M N : Mem} (h : d_X11_setHandler x1 x2 M = some (.inr "java/lang/IndexOutOfBoundsException", N)) : d_L_setHandler x1 x2 M = some (nI 1, N) := by
  unfold d_L_setHandler
  rw [h]
  simp only [obind]
  exact if_pos trivial
theorem lE2_setHandler {x1 : Int32} {x2 : Int32} {M N : Mem} (h : d_X11_setHandler x1 x2 M = some (.inr "java/lang/IllegalArgumentException", N)) : d_L_setHandler x1 x2 M = some (nI 2, N) := by
  unfold d_L_setHandler
  rw [h]
  simp only [obind]
  rw [if_neg (by decide)]
  exact if_pos trivial
theorem lT_addClass {x1 : Int32} {M N : Mem} {v : Int32} (h : d_X11_addClass x1 M = some (.inl v, N)) : d_L_addClass x1 M = some (nI 0, sL N 127 0 v.toInt64) := by
  unfold d_L_addClass
  rw [h]
  rfl
theorem lE1_addClass {x1 : Int32} {M N : Mem} (h : d_X11_addClass x1 M = some (.inr "java/lang/IndexOutOfBoundsException", N)) : d_L_addClass x1 M = some (nI 1, N) := by
  unfold d_L_addClass
  rw [h]
  simp only [obind]
  exact if_pos trivial
theorem lE2_addClass {x1 : Int32} {M N : Mem} (h : d_X11_addClass x1 M = some (.inr "java/lang/IllegalStateException", N)) : d_L_addClass x1 M = some (nI 2, N) := by
  unfold d_L_addClass
  rw [h]
  simp only [obind]
  rw [if_neg (by decide)]
  exact if_pos trivial
theorem lE3_addClass {x1 : Int32} {M N : Mem} (h : d_X11_addClass x1 M = some (.inr "java/lang/UnsupportedOperationException", N)) : d_L_addClass x1 M = some (nI 3, N) := by
  unfold d_L_addClass
  rw [h]
  simp only [obind]
  rw [if_neg (by decide)]
  rw [if_neg (by decide)]
  exact if_pos trivial
theorem lT_setMethod {x1 : Int32} {x2 : Int32} {x3 : Int32} {M N : Mem} {v : Int32} (h : d_X11_setMethod x1 x2 x3 M = some (.inl v, N)) : d_L_setMethod x1 x2 x3 M = some (nI 0, sL N 127 0 v.toInt64) := by
  unfold d_L_setMethod
  rw [h]
  rfl
theorem lE1_setMethod {x1 : Int32} {x2 : Int32} {x3 : Int32} {M N : Mem} (h : d_X11_setMethod x1 x2 x3 M = some (.inr "java/lang/IndexOutOfBoundsException", N)) : d_L_setMethod x1 x2 x3 M = some (nI 1, N) := by
  unfold d_L_setMethod
  rw [h]
  simp only [obind]
  exact if_pos trivial
theorem lE2_setMethod {x1 : Int32} {x2 : Int32} {x3 : Int32} {M N : Mem} (h : d_X11_setMethod x1 x2 x3 M = some (.inr "java/lang/IllegalArgumentException", N)) : d_L_setMethod x1 x2 x3 M = some (nI 2, N) := by
  unfold d_L_setMethod
  rw [h]
  simp only [obind]
  rw [if_neg (by decide)]
  exact if_pos trivial
theorem lE3_setMethod {x1 : Int32} {x2 : Int32} {x3 : Int32} {M N : Mem} (h : d_X11_setMethod x1 x2 x3 M = some (.inr "java/util/NoSuchElementException", N)) : d_L_setMethod x1 x2 x3 M = some (nI 3, N) := by
  unfold d_L_setMethod
  rw [h]
  simp only [obind]
  rw [if_neg (by decide)]
  rw [if_neg (by decide)]
  exact if_pos trivial
theorem lE4_setMethod {x1 : Int32} {x2 : Int32} {x3 : Int32} {M N : Mem} (h : d_X11_setMethod x1 x2 x3 M = some (.inr "java/lang/UnsupportedOperationException", N)) : d_L_setMethod x1 x2 x3 M = some (nI 4, N) := by
  unfold d_L_setMethod
  rw [h]
  simp only [obind]
  rw [if_neg (by decide)]
  rw [if_neg (by decide)]
  rw [if_neg (by decide)]
  exact if_pos trivial
theorem lT_setCell {x1 : Int32} {x2 : Int32} {M N : Mem} {v : Int32} (h : d_X11_setCell x1 x2 M = some (.inl v, N)) : d_L_setCell x1 x2 M = some (nI 0, sL N 127 0 v.toInt64) := by
  unfold d_L_setCell
  rw [h]
  rfl
theorem lE1_setCell {x1 : Int32} {x2 : Int32} {M N : Mem} (h : d_X11_setCell x1 x2 M = some (.inr "java/lang/IllegalArgumentException", N)) : d_L_setCell x1 x2 M = some (nI 1, N) := by
  unfold d_L_setCell
  rw [h]
  simp only [obind]
  exact if_pos trivial
theorem lT_setLimits {x1 : Int32} {x2 : Int32} {x3 : Int32} {M N : Mem} {v : Int32} (h : d_X11_setLimits x1 x2 x3 M = some (.inl v, N)) : d_L_setLimits x1 x2 x3 M = some (nI 0, sL N 127 0 v.toInt64) := by
  unfold d_L_setLimits
  rw [h]
  rfl
theorem lE1_setLimits {x1 : Int32} {x2 : Int32} {x3 : Int32} {M N : Mem} (h : d_X11_setLimits x1 x2 x3 M = some (.inr "java/lang/IllegalArgumentException", N)) : d_L_setLimits x1 x2 x3 M = some (nI 1, N) := by
  unfold d_L_setLimits
  rw [h]
  simp only [obind]
  exact if_pos trivial
theorem lT_run {x1 : Int32} {x2 : Int32} {M N : Mem} {v : Int32} (h : d_X11_run x1 x2 M = some (.inl v, N)) : d_L_run x1 x2 M = some (nI 0, sL N 127 0 v.toInt64) := by
  unfold d_L_run
  rw [h]
  rfl
theorem lE1_run {x1 : Int32} {x2 : Int32} {M N : Mem} (h : d_X11_run x1 x2 M = some (.inr "java/lang/IndexOutOfBoundsException", N)) : d_L_run x1 x2 M = some (nI 1, N) := by
  unfold d_L_run
  rw [h]
  simp only [obind]
  exact if_pos trivial
theorem lE2_run {x1 : Int32} {x2 : Int32} {M N : Mem} (h : d_X11_run x1 x2 M = some (.inr "java/lang/UnsupportedOperationException", N)) : d_L_run x1 x2 M = some (nI 2, N) := by
  unfold d_L_run
  rw [h]
  simp only [obind]
  rw [if_neg (by decide)]
  exact if_pos trivial
theorem lT_resultKind  {M N : Mem} {v : Int32} (h : d_X11_resultKind  M = some (.inl v, N)) : d_L_resultKind  M = some (nI 0, sL N 127 0 v.toInt64) := by
  unfold d_L_resultKind
  rw [h]
  rfl
theorem lE1_resultKind  {M N : Mem} (h : d_X11_resultKind  M = some (.inr "java/util/NoSuchElementException", N)) : d_L_resultKind  M = some (nI 1, N) := by
  unfold d_L_resultKind
  rw [h]
  simp only [obind]
  exact if_pos trivial
theorem lT_result  {M N : Mem} {v : Int64} (h : d_X11_result  M = some (.inl v, N)) : d_L_result  M = some (nI 0, sL N 127 0 v) := by
  unfold d_L_result
  rw [h]
  rfl
theorem lE1_result  {M N : Mem} (h : d_X11_result  M = some (.inr "java/util/NoSuchElementException", N)) : d_L_result  M = some (nI 1, N) := by
  unfold d_L_result
  rw [h]
  simp only [obind]
  exact if_pos trivial
theorem lT_failure  {M N : Mem} {v : Int32} (h : d_X11_failure  M = some (.inl v, N)) : d_L_failure  M = some (nI 0, sL N 127 0 v.toInt64) := by
  unfold d_L_failure
  rw [h]
  rfl
theorem lE1_failure  {M N : Mem} (h : d_X11_failure  M = some (.inr "java/util/NoSuchElementException", N)) : d_L_failure  M = some (nI 1, N) := by
  unfold d_L_failure
  rw [h]
  simp only [obind]
  exact if_pos trivial
theorem lT_line  {M N : Mem} {v : Int32} (h : d_X11_line  M = some (.inl v, N)) : d_L_line  M = some (nI 0, sL N 127 0 v.toInt64) := by
  unfold d_L_line
  rw [h]
  rfl
theorem lE1_line  {M N : Mem} (h : d_X11_line  M = some (.inr "java/util/NoSuchElementException", N)) : d_L_line  M = some (nI 1, N) := by
  unfold d_L_line
  rw [h]
  simp only [obind]
  exact if_pos trivial
theorem lT_toldKind {x1 : Int32} {M N : Mem} {v : Int32} (h : d_X11_toldKind x1 M = some (.inl v, N)) : d_L_toldKind x1 M = some (nI 0, sL N 127 0 v.toInt64) := by
  unfold d_L_toldKind
  rw [h]
  rfl
theorem lE1_toldKind {x1 : Int32} {M N : Mem} (h : d_X11_toldKind x1 M = some (.inr "java/lang/IndexOutOfBoundsException", N)) : d_L_toldKind x1 M = some (nI 1, N) := by
  unfold d_L_toldKind
  rw [h]
  simp only [obind]
  exact if_pos trivial
theorem lT_toldAt {x1 : Int32} {M N : Mem} {v : Int64} (h : d_X11_toldAt x1 M = some (.inl v, N)) : d_L_toldAt x1 M = some (nI 0, sL N 127 0 v) := by
  unfold d_L_toldAt
  rw [h]
  rfl
theorem lE1_toldAt {x1 : Int32} {M N : Mem} (h : d_X11_toldAt x1 M = some (.inr "java/lang/IndexOutOfBoundsException", N)) : d_L_toldAt x1 M = some (nI 1, N) := by
  unfold d_L_toldAt
  rw [h]
  simp only [obind]
  exact if_pos trivial
theorem lT_shapeOf {x1 : Int32} {M N : Mem} {v : Int32} (h : d_X11_shapeOf x1 M = some (.inl v, N)) : d_L_shapeOf x1 M = some (nI 0, sL N 127 0 v.toInt64) := by
  unfold d_L_shapeOf
  rw [h]
  rfl
theorem lE1_shapeOf {x1 : Int32} {M N : Mem} (h : d_X11_shapeOf x1 M = some (.inr "java/lang/IndexOutOfBoundsException", N)) : d_L_shapeOf x1 M = some (nI 1, N) := by
  unfold d_L_shapeOf
  rw [h]
  simp only [obind]
  exact if_pos trivial
theorem lT_field {x1 : Int32} {x2 : Int32} {M N : Mem} {v : Int64} (h : d_X11_field x1 x2 M = some (.inl v, N)) : d_L_field x1 x2 M = some (nI 0, sL N 127 0 v) := by
  unfold d_L_field
  rw [h]
  rfl
theorem lE1_field {x1 : Int32} {x2 : Int32} {M N : Mem} (h : d_X11_field x1 x2 M = some (.inr "java/lang/IndexOutOfBoundsException", N)) : d_L_field x1 x2 M = some (nI 1, N) := by
  unfold d_L_field
  rw [h]
  simp only [obind]
  exact if_pos trivial
theorem lE2_field {x1 : Int32} {x2 : Int32} {M N : Mem} (h : d_X11_field x1 x2 M = some (.inr "java/util/NoSuchElementException", N)) : d_L_field x1 x2 M = some (nI 2, N) := by
  unfold d_L_field
  rw [h]
  simp only [obind]
  rw [if_neg (by decide)]
  exact if_pos trivial
theorem lT_fields {x1 : Int32} {M N : Mem} {v : Int32} (h : d_X11_fields x1 M = some (.inl v, N)) : d_L_fields x1 M = some (nI 0, sL N 127 0 v.toInt64) := by
  unfold d_L_fields
  rw [h]
  rfl
theorem lE1_fields {x1 : Int32} {M N : Mem} (h : d_X11_fields x1 M = some (.inr "java/lang/IndexOutOfBoundsException", N)) : d_L_fields x1 M = some (nI 1, N) := by
  unfold d_L_fields
  rw [h]
  simp only [obind]
  exact if_pos trivial
theorem lT_fieldAt {x1 : Int32} {x2 : Int32} {M N : Mem} {v : Int32} (h : d_X11_fieldAt x1 x2 M = some (.inl v, N)) : d_L_fieldAt x1 x2 M = some (nI 0, sL N 127 0 v.toInt64) := by
  unfold d_L_fieldAt
  rw [h]
  rfl
theorem lE1_fieldAt {x1 : Int32} {x2 : Int32} {M N : Mem} (h : d_X11_fieldAt x1 x2 M = some (.inr "java/lang/IndexOutOfBoundsException", N)) : d_L_fieldAt x1 x2 M = some (nI 1, N) := by
  unfold d_L_fieldAt
  rw [h]
  simp only [obind]
  exact if_pos trivial
theorem lE2_fieldAt {x1 : Int32} {x2 : Int32} {M N : Mem} (h : d_X11_fieldAt x1 x2 M = some (.inr "java/util/NoSuchElementException", N)) : d_L_fieldAt x1 x2 M = some (nI 2, N) := by
  unfold d_L_fieldAt
  rw [h]
  simp only [obind]
  rw [if_neg (by decide)]
  exact if_pos trivial
theorem lT_nextShape {x1 : Int32} {x2 : Int32} {M N : Mem} {v : Int32} (h : d_X11_nextShape x1 x2 M = some (.inl v, N)) : d_L_nextShape x1 x2 M = some (nI 0, sL N 127 0 v.toInt64) := by
  unfold d_L_nextShape
  rw [h]
  rfl
theorem lE1_nextShape {x1 : Int32} {x2 : Int32} {M N : Mem} (h : d_X11_nextShape x1 x2 M = some (.inr "java/lang/IndexOutOfBoundsException", N)) : d_L_nextShape x1 x2 M = some (nI 1, N) := by
  unfold d_L_nextShape
  rw [h]
  simp only [obind]
  exact if_pos trivial
theorem lE2_nextShape {x1 : Int32} {x2 : Int32} {M N : Mem} (h : d_X11_nextShape x1 x2 M = some (.inr "java/util/NoSuchElementException", N)) : d_L_nextShape x1 x2 M = some (nI 2, N) := by
  unfold d_L_nextShape
  rw [h]
  simp only [obind]
  rw [if_neg (by decide)]
  exact if_pos trivial
theorem lT_cacheState {x1 : Int32} {x2 : Int32} {M N : Mem} {v : Int32} (h : d_X11_cacheState x1 x2 M = some (.inl v, N)) : d_L_cacheState x1 x2 M = some (nI 0, sL N 127 0 v.toInt64) := by
  unfold d_L_cacheState
  rw [h]
  rfl
theorem lE1_cacheState {x1 : Int32} {x2 : Int32} {M N : Mem} (h : d_X11_cacheState x1 x2 M = some (.inr "java/lang/IndexOutOfBoundsException", N)) : d_L_cacheState x1 x2 M = some (nI 1, N) := by
  unfold d_L_cacheState
  rw [h]
  simp only [obind]
  exact if_pos trivial
theorem lE2_cacheState {x1 : Int32} {x2 : Int32} {M N : Mem} (h : d_X11_cacheState x1 x2 M = some (.inr "java/util/NoSuchElementException", N)) : d_L_cacheState x1 x2 M = some (nI 2, N) := by
  unfold d_L_cacheState
  rw [h]
  simp only [obind]
  rw [if_neg (by decide)]
  exact if_pos trivial
theorem lT_hits {x1 : Int32} {x2 : Int32} {M N : Mem} {v : Int32} (h : d_X11_hits x1 x2 M = some (.inl v, N)) : d_L_hits x1 x2 M = some (nI 0, sL N 127 0 v.toInt64) := by
  unfold d_L_hits
  rw [h]
  rfl
theorem lE1_hits {x1 : Int32} {x2 : Int32} {M N : Mem} (h : d_X11_hits x1 x2 M = some (.inr "java/lang/IndexOutOfBoundsException", N)) : d_L_hits x1 x2 M = some (nI 1, N) := by
  unfold d_L_hits
  rw [h]
  simp only [obind]
  exact if_pos trivial
theorem lE2_hits {x1 : Int32} {x2 : Int32} {M N : Mem} (h : d_X11_hits x1 x2 M = some (.inr "java/util/NoSuchElementException", N)) : d_L_hits x1 x2 M = some (nI 2, N) := by
  unfold d_L_hits
  rw [h]
  simp only [obind]
  rw [if_neg (by decide)]
  exact if_pos trivial
theorem lT_misses {x1 : Int32} {x2 : Int32} {M N : Mem} {v : Int32} (h : d_X11_misses x1 x2 M = some (.inl v, N)) : d_L_misses x1 x2 M = some (nI 0, sL N 127 0 v.toInt64) := by
  unfold d_L_misses
  rw [h]
  rfl
theorem lE1_misses {x1 : Int32} {x2 : Int32} {M N : Mem} (h : d_X11_misses x1 x2 M = some (.inr "java/lang/IndexOutOfBoundsException", N)) : d_L_misses x1 x2 M = some (nI 1, N) := by
  unfold d_L_misses
  rw [h]
  simp only [obind]
  exact if_pos trivial
theorem lE2_misses {x1 : Int32} {x2 : Int32} {M N : Mem} (h : d_X11_misses x1 x2 M = some (.inr "java/util/NoSuchElementException", N)) : d_L_misses x1 x2 M = some (nI 2, N) := by
  unfold d_L_misses
  rw [h]
  simp only [obind]
  rw [if_neg (by decide)]
  exact if_pos trivial
theorem lT_counter {x1 : Int32} {x2 : Int32} {M N : Mem} {v : Int32} (h : d_X11_counter x1 x2 M = some (.inl v, N)) : d_L_counter x1 x2 M = some (nI 0, sL N 127 0 v.toInt64) := by
  unfold d_L_counter
  rw [h]
  rfl
theorem lE1_counter {x1 : Int32} {x2 : Int32} {M N : Mem} (h : d_X11_counter x1 x2 M = some (.inr "java/lang/IndexOutOfBoundsException", N)) : d_L_counter x1 x2 M = some (nI 1, N) := by
  unfold d_L_counter
  rw [h]
  simp only [obind]
  exact if_pos trivial
theorem lE2_counter {x1 : Int32} {x2 : Int32} {M N : Mem} (h : d_X11_counter x1 x2 M = some (.inr "java/lang/IllegalArgumentException", N)) : d_L_counter x1 x2 M = some (nI 2, N) := by
  unfold d_L_counter
  rw [h]
  simp only [obind]
  rw [if_neg (by decide)]
  exact if_pos trivial
theorem lT_isBarred {x1 : Int32} {x2 : Int32} {M N : Mem} {v : Int32} (hb : isBo v) (h : d_X11_isBarred x1 x2 M = some (.inl v, N)) : d_L_isBarred x1 x2 M = some (nI 0, sL N 127 0 v.toInt64) := by
  unfold d_L_isBarred
  rw [h]
  rcases hb with rfl | rfl
  · rfl
  · rfl
theorem lE1_isBarred {x1 : Int32} {x2 : Int32} {M N : Mem} (h : d_X11_isBarred x1 x2 M = some (.inr "java/lang/IndexOutOfBoundsException", N)) : d_L_isBarred x1 x2 M = some (nI 1, N) := by
  unfold d_L_isBarred
  rw [h]
  simp only [obind]
  exact if_pos trivial
theorem lE2_isBarred {x1 : Int32} {x2 : Int32} {M N : Mem} (h : d_X11_isBarred x1 x2 M = some (.inr "java/lang/IllegalArgumentException", N)) : d_L_isBarred x1 x2 M = some (nI 2, N) := by
  unfold d_L_isBarred
  rw [h]
  simp only [obind]
  rw [if_neg (by decide)]
  exact if_pos trivial
theorem lT_isThere {x1 : Int32} {M N : Mem} {v : Int32} (hb : isBo v) (h : d_X11_isThere x1 M = some (.inl v, N)) : d_L_isThere x1 M = some (nI 0, sL N 127 0 v.toInt64) := by
  unfold d_L_isThere
  rw [h]
  rcases hb with rfl | rfl
  · rfl
  · rfl
theorem lE1_isThere {x1 : Int32} {M N : Mem} (h : d_X11_isThere x1 M = some (.inr "java/lang/IndexOutOfBoundsException", N)) : d_L_isThere x1 M = some (nI 1, N) := by
  unfold d_L_isThere
  rw [h]
  simp only [obind]
  exact if_pos trivial
theorem lT_steps {x1 : Int32} {M N : Mem} {v : Int32} (h : d_X11_steps x1 M = some (.inl v, N)) : d_L_steps x1 M = some (nI 0, sL N 127 0 v.toInt64) := by
  unfold d_L_steps
  rw [h]
  rfl
theorem lE1_steps {x1 : Int32} {M N : Mem} (h : d_X11_steps x1 M = some (.inr "java/lang/IndexOutOfBoundsException", N)) : d_L_steps x1 M = some (nI 1, N) := by
  unfold d_L_steps
  rw [h]
  simp only [obind]
  exact if_pos trivial
theorem lT_lineAt {x1 : Int32} {x2 : Int32} {M N : Mem} {v : Int32} (h : d_X11_lineAt x1 x2 M = some (.inl v, N)) : d_L_lineAt x1 x2 M = some (nI 0, sL N 127 0 v.toInt64) := by
  unfold d_L_lineAt
  rw [h]
  rfl
theorem lE1_lineAt {x1 : Int32} {x2 : Int32} {M N : Mem} (h : d_X11_lineAt x1 x2 M = some (.inr "java/lang/IndexOutOfBoundsException", N)) : d_L_lineAt x1 x2 M = some (nI 1, N) := by
  unfold d_L_lineAt
  rw [h]
  simp only [obind]
  exact if_pos trivial
theorem lE2_lineAt {x1 : Int32} {x2 : Int32} {M N : Mem} (h : d_X11_lineAt x1 x2 M = some (.inr "java/util/NoSuchElementException", N)) : d_L_lineAt x1 x2 M = some (nI 2, N) := by
  unfold d_L_lineAt
  rw [h]
  simp only [obind]
  rw [if_neg (by decide)]
  exact if_pos trivial
theorem lT_guards {x1 : Int32} {M N : Mem} {v : Int32} (h : d_X11_guards x1 M = some (.inl v, N)) : d_L_guards x1 M = some (nI 0, sL N 127 0 v.toInt64) := by
  unfold d_L_guards
  rw [h]
  rfl
theorem lE1_guards {x1 : Int32} {M N : Mem} (h : d_X11_guards x1 M = some (.inr "java/lang/IndexOutOfBoundsException", N)) : d_L_guards x1 M = some (nI 1, N) := by
  unfold d_L_guards
  rw [h]
  simp only [obind]
  exact if_pos trivial
theorem lT_guardAt {x1 : Int32} {x2 : Int32} {M N : Mem} {v : Int32} (h : d_X11_guardAt x1 x2 M = some (.inl v, N)) : d_L_guardAt x1 x2 M = some (nI 0, sL N 127 0 v.toInt64) := by
  unfold d_L_guardAt
  rw [h]
  rfl
theorem lE1_guardAt {x1 : Int32} {x2 : Int32} {M N : Mem} (h : d_X11_guardAt x1 x2 M = some (.inr "java/lang/IndexOutOfBoundsException", N)) : d_L_guardAt x1 x2 M = some (nI 1, N) := by
  unfold d_L_guardAt
  rw [h]
  simp only [obind]
  exact if_pos trivial
theorem lT_guardStep {x1 : Int32} {x2 : Int32} {M N : Mem} {v : Int32} (h : d_X11_guardStep x1 x2 M = some (.inl v, N)) : d_L_guardStep x1 x2 M = some (nI 0, sL N 127 0 v.toInt64) := by
  unfold d_L_guardStep
  rw [h]
  rfl
theorem lE1_guardStep {x1 : Int32} {x2 : Int32} {M N : Mem} (h : d_X11_guardStep x1 x2 M = some (.inr "java/lang/IndexOutOfBoundsException", N)) : d_L_guardStep x1 x2 M = some (nI 1, N) := by
  unfold d_L_guardStep
  rw [h]
  simp only [obind]
  exact if_pos trivial
theorem lT_exits {x1 : Int32} {x2 : Int32} {M N : Mem} {v : Int32} (h : d_X11_exits x1 x2 M = some (.inl v, N)) : d_L_exits x1 x2 M = some (nI 0, sL N 127 0 v.toInt64) := by
  unfold d_L_exits
  rw [h]
  rfl
theorem lE1_exits {x1 : Int32} {x2 : Int32} {M N : Mem} (h : d_X11_exits x1 x2 M = some (.inr "java/lang/IndexOutOfBoundsException", N)) : d_L_exits x1 x2 M = some (nI 1, N) := by
  unfold d_L_exits
  rw [h]
  simp only [obind]
  exact if_pos trivial
theorem lT_sideOf {x1 : Int32} {x2 : Int32} {M N : Mem} {v : Int32} (h : d_X11_sideOf x1 x2 M = some (.inl v, N)) : d_L_sideOf x1 x2 M = some (nI 0, sL N 127 0 v.toInt64) := by
  unfold d_L_sideOf
  rw [h]
  rfl
theorem lE1_sideOf {x1 : Int32} {x2 : Int32} {M N : Mem} (h : d_X11_sideOf x1 x2 M = some (.inr "java/lang/IndexOutOfBoundsException", N)) : d_L_sideOf x1 x2 M = some (nI 1, N) := by
  unfold d_L_sideOf
  rw [h]
  simp only [obind]
  exact if_pos trivial
theorem lE2_sideOf {x1 : Int32} {x2 : Int32} {M N : Mem} (h : d_X11_sideOf x1 x2 M = some (.inr "java/util/NoSuchElementException", N)) : d_L_sideOf x1 x2 M = some (nI 2, N) := by
  unfold d_L_sideOf
  rw [h]
  simp only [obind]
  rw [if_neg (by decide)]
  exact if_pos trivial
theorem lT_rootOf {x1 : Int32} {M N : Mem} {v : Int32} (h : d_X11_rootOf x1 M = some (.inl v, N)) : d_L_rootOf x1 M = some (nI 0, sL N 127 0 v.toInt64) := by
  unfold d_L_rootOf
  rw [h]
  rfl
theorem lE1_rootOf {x1 : Int32} {M N : Mem} (h : d_X11_rootOf x1 M = some (.inr "java/lang/IndexOutOfBoundsException", N)) : d_L_rootOf x1 M = some (nI 1, N) := by
  unfold d_L_rootOf
  rw [h]
  simp only [obind]
  exact if_pos trivial
theorem lT_begun {x1 : Int32} {M N : Mem} {v : Int32} (h : d_X11_begun x1 M = some (.inl v, N)) : d_L_begun x1 M = some (nI 0, sL N 127 0 v.toInt64) := by
  unfold d_L_begun
  rw [h]
  rfl
theorem lE1_begun {x1 : Int32} {M N : Mem} (h : d_X11_begun x1 M = some (.inr "java/lang/IndexOutOfBoundsException", N)) : d_L_begun x1 M = some (nI 1, N) := by
  unfold d_L_begun
  rw [h]
  simp only [obind]
  exact if_pos trivial
theorem lE1_tracedShare  {M N : Mem} (h : d_X11_tracedShare  M = some (.inr "java/lang/ArithmeticException", N)) : d_L_tracedShare  M = some (nI 1, N) := by
  unfold d_L_tracedShare
  rw [h]
  simp only [obind]
  exact if_pos trivial
theorem lE1_meanGuards  {M N : Mem} (h : d_X11_meanGuards  M = some (.inr "java/lang/ArithmeticException", N)) : d_L_meanGuards  M = some (nI 1, N) := by
  unfold d_L_meanGuards
  rw [h]
  simp only [obind]
  exact if_pos trivial
end MZ1
