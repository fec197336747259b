/-! ===== a new trace of the class ===== -/
section MX2
/-- an array comes to be -/
def NEW (X Y : Mem) (c n : Nat) (v : Nat → Int32) : Prop := (∀ a j, a ≠ c → mI Y a j = mI X a j ∧ mD Y a j = mD X a j ∧ mL Y a j = mL X a j ∧ mR Y a j = mR X a j) ∧ (∀ a, a ≠ c → mT Y a = mT X a) ∧ (∀ j, mI Y c j = v j) ∧ mT Y c = (21, n) ∧ nx Y = c + 1 ∧ uC Y = uC X + 1 ∧ uS Y = uS X + n
theorem new_sN (X : Mem) (c n : Nat) : NEW X (sN X c 21 n) c n (fun _ => 0) := by
  refine ⟨fun a j h => ⟨?_, ?_, ?_, ?_⟩, fun a h => ?_, fun j => ?_, ?_, rfl, rfl, rfl⟩
  · show clr X.1 c 0 a j = X.1 a j; unfold clr; rw [if_neg h]
  · show clr X.2.2.1 c 0 a j = X.2.2.1 a j; unfold clr; rw [if_neg h]
  · show clr X.2.1 c 0 a j = X.2.1 a j; unfold clr; rw [if_neg h]
  · show clr X.2.2.2.1 c none a j = X.2.2.2.1 a j; unfold clr; rw [if_neg h]
  · show (if a = c then (21, n) else X.2.2.2.2.1 a) = _; rw [if_neg h]; rfl
  · show clr X.1 c 0 c j = 0; unfold clr; rw [if_pos rfl]
  · show (if c = c then (21, n) else X.2.2.2.2.1 c) = _; rw [if_pos rfl]
theorem new_cp {X : Mem} {c n r : Nat} (hx : nx X = c) (h31 : c < 2147483648) (hk : mK X r = 21) (hn : n ≤ mN X r) (hn2 : n ≤ 100000) : ∃ Y, d_J7_copyOf_59c91 r (nI n) X = some (c, Y) ∧ NEW X Y c n (fun j => if j < n then mI X r j else 0) := by
  refine ⟨sC X r c n, ?_, fun a j h => ⟨?_, ?_, ?_, ?_⟩, fun a h => ?_, fun j => ?_, ?_, rfl, rfl, rfl⟩
  · unfold d_J7_copyOf_59c91
    rw [okk_pos hk, qcl (by omega), okk_pos ⟨nI_le (Nat.zero_le _) (by omega), by rw [show (100000 : Int32) = nI 100000 from rfl]; exact nI_le hn2 (by omega)⟩, okk_pos hn, hx, okk_pos h31]
  · show (if a = c then (if j < n then X.1 r j else 0) else X.1 a j) = _; rw [if_neg h]; rfl
  · show clr X.2.2.1 c 0 a j = X.2.2.1 a j; unfold clr; rw [if_neg h]
  · show clr X.2.1 c 0 a j = X.2.1 a j; unfold clr; rw [if_neg h]
  · show clr X.2.2.2.1 c none a j = X.2.2.2.1 a j; unfold clr; rw [if_neg h]
  · show (if a = c then (21, n) else X.2.2.2.2.1 a) = _; rw [if_neg h]; rfl
  · show (if c = c then (if j < n then X.1 r j else 0) else X.1 c j) = _; rw [if_pos rfl]; rfl
  · show (if c = c then (21, n) else X.2.2.2.2.1 c) = _; rw [if_pos rfl]
def lenT (k g q : Nat) : Nat := if q = 0 then k else if q = 1 then k + 1 else g
def sumT (k g : Nat) : Nat → Nat
  | 0 => 0
  | q + 1 => sumT k g q + lenT k g q
/-- i arrays of the new trace b are made -/
def CUM (N X : Mem) (b k g : Nat) (v : Nat → Nat → Int32) (i : Nat) : Prop := (∀ a j, a < b → mI X a j = mI N a j ∧ mD X a j = mD N a j ∧ mL X a j = mL N a j ∧ mR X a j = mR N a j ∧ mT X a = mT N a) ∧ nx X = b + 1 + i ∧ mK X b = 9 ∧ (mI X b 0 = nI k ∧ mI X b 1 = nI g ∧ mI X b 15 = 0 ∧ mI X b 16 = 0) ∧ (∀ q, q < i → mR X b (2 + q) = some (b + 1 + q) ∧ mT X (b + 1 + q) = (21, lenT k g q) ∧ ∀ j, mI X (b + 1 + q) j = v q j) ∧ uC X = uC N + 1 + i ∧ uS X = uS N + 17 + sumT k g i
theorem cum_new {N X Y : Mem} {b k g i : Nat} {v : Nat → Nat → Int32} (h : CUM N X b k g v i) (hY : NEW X Y (b + 1 + i) (lenT k g i) (v i)) : CUM N (sR Y b (2 + i) (some (b + 1 + i))) b k g v (i + 1) := by
  obtain ⟨c1, c2, c3, ⟨c4, c5, c6, c7⟩, c8, c9, c10⟩ := h
  obtain ⟨n1, n2, n3, n4, n5, n6, n7⟩ := hY
  refine ⟨fun a j ha => ?_, ?_, ?_, ⟨?_, ?_, ?_, ?_⟩, fun q hq => ?_, ?_, ?_⟩
  · obtain ⟨x1, x2, x3, x4, x5⟩ := c1 a j ha
    obtain ⟨y1, y2, y3, y4⟩ := n1 a j (by omega)
    refine ⟨y1.trans x1, y2.trans x2, y3.trans x3, (mR_ne (by omega)).trans (y4.trans x4), (n2 a (by omega)).trans x5⟩
  · show nx Y = _; omega
  · show (mT Y b).1 = 9
    rw [n2 b (by omega)]; exact c3
  · exact (n1 b 0 (by omega)).1.trans c4
  · exact (n1 b 1 (by omega)).1.trans c5
  · exact (n1 b 15 (by omega)).1.trans c6
  · exact (n1 b 16 (by omega)).1.trans c7
  · by_cases e : q = i
    · subst e
      exact ⟨mR_eq _ _ _ _, n4, n3⟩
    · obtain ⟨x1, x2, x3⟩ := c8 q (by omega)
      refine ⟨(mR_ne (by omega)).trans ((n1 b (2 + q) (by omega)).2.2.2.trans x1), (n2 _ (by omega)).trans x2, fun j => (n1 _ j (by omega)).1.trans (x3 j)⟩
  · show uC Y = _; omega
  · show uS Y = uS N + 17 + (sumT k g i + lenT k g i); omega
theorem cum_cp {N X : Mem} {b k g i : Nat} {v : Nat → Nat → Int32} (h : CUM N X b k g v i) (hY : LYR N) (hb : nx N = b) (h31 : b < 1000000) (hi : i < 6) (hk : k ≤ 30) (hg : g ≤ 120) (hv : ∀ j, v i j = if j < lenT k g i then mI N (49 + i) j else 0) : ∃ Y, mR X 48 i = some (49 + i) ∧ d_J7_copyOf_59c91 (49 + i) (nI (lenT k g i)) X = some (b + 1 + i, Y) ∧ CUM N (sR Y b (2 + i) (some (b + 1 + i))) b k g v (i + 1) := by
  obtain ⟨⟨y1, y0⟩, y2, y3, y4, y5⟩ := hY
  have c1 := h.1
  obtain ⟨z1, z2⟩ := y2 i hi
  have e : mT X (49 + i) = mT N (49 + i) := (c1 (49 + i) 0 (by omega)).2.2.2.2
  have k21 : mK X (49 + i) = 21 := by unfold mK; rw [e]; exact z2
  have nn9 : lenT k g i ≤ mN X (49 + i) := by
    have : mN X (49 + i) = mN N (49 + i) := by unfold mN; rw [e]
    rw [this]
    unfold lenT
    by_cases q0 : i = 0
    · subst q0; rw [if_pos rfl]; exact Nat.le_trans hk (Nat.le_of_eq y3.symm)
    · by_cases q1 : i = 1
      · subst q1; rw [if_neg (by omega), if_pos rfl]; exact Nat.le_trans (by omega) (Nat.le_of_eq y4.symm)
      · rw [if_neg q0, if_neg q1, y5 i (by omega) hi]; exact hg
  have hl : lenT k g i ≤ 120 := by
    unfold lenT
    split
    · omega
    · split <;> omega
  obtain ⟨Y, q1, q2⟩ := new_cp (X := X) (c := b + 1 + i) h.2.1 (by omega) k21 nn9 (by omega)
  refine ⟨Y, (c1 48 i (by omega)).2.2.2.1.trans z1, q1, cum_new h ?_⟩
  obtain ⟨n1, n2, n3, n4⟩ := q2
  exact ⟨n1, n2, fun j => by
    rw [n3]
    show (if j < lenT k g i then mI X (49 + i) j else 0) = v i j
    rw [hv, (c1 (49 + i) j (by omega)).1], n4⟩
theorem cum_v {N X : Mem} {b k g i : Nat} {v v2 : Nat → Nat → Int32} (h : CUM N X b k g v i) (hv : ∀ q, q < i → ∀ j, v2 q j = v q j) : CUM N X b k g v2 i := by
  obtain ⟨c1, c2, c3, c4, c8, c9⟩ := h
  exact ⟨c1, c2, c3, c4, fun q hq => ⟨(c8 q hq).1, (c8 q hq).2.1, fun j => ((c8 q hq).2.2 j).trans (hv q hq j).symm⟩, c9⟩
theorem cum_set {N X : Mem} {b k g i q0 j0 : Nat} {v : Nat → Nat → Int32} {x : Int32} (h : CUM N X b k g v i) (hq : q0 < i) : CUM N (sI X (b + 1 + q0) j0 x) b k g (fun q j => if q = q0 ∧ j = j0 then x else v q j) i := by
  obtain ⟨c1, c2, c3, ⟨c4, c5, c6, c7⟩, c8, c9⟩ := h
  refine ⟨fun a j ha => ⟨(mI_ne (by omega)).trans (c1 a j ha).1, (c1 a j ha).2⟩, c2, c3, ⟨(mI_ne (by omega)).trans c4, (mI_ne (by omega)).trans c5, (mI_ne (by omega)).trans c6, (mI_ne (by omega)).trans c7⟩, fun q hq2 => ⟨(c8 q hq2).1, (c8 q hq2).2.1, fun j => ?_⟩, c9⟩
  show _ = (if q = q0 ∧ j = j0 then x else v q j)
  by_cases e : q = q0 ∧ j = j0
  · obtain ⟨rfl, rfl⟩ := e
    rw [mI_eq, if_pos ⟨rfl, rfl⟩]
  · rw [if_neg e, mI_ne (by omega)]
    exact (c8 q hq2).2.2 j
/-- filling -/
def ffX (X : Mem) (r : Nat) (v : Int32) : Nat → Mem
  | 0 => X
  | k + 1 => sI (ffX X r v k) r k v
theorem ffX_2 (X : Mem) (r : Nat) (v : Int32) : ∀ k, (ffX X r v k).2 = X.2
  | 0 => rfl
  | k + 1 => by show (ffX X r v k).2 = _; exact ffX_2 X r v k
theorem fill_l {X : Mem} {r n : Nat} {v : Int32} (hk : mK X r = 21) (hn : mN X r = n) (h31 : n < 2147483648) : ∀ (j i NC : Nat), n = i + j → j < NC → d_J7_fill_53178_5 r v (nI n) NC (nI i) (ffX X r v i) = some ((), ffX X r v n) := by
  have k9 : ∀ i, mK (ffX X r v i) r = 21 := fun i => (congrArg (fun z => (z.2.2.2.1 r).1) (ffX_2 X r v i)).trans hk
  have n9 : ∀ i, mN (ffX X r v i) r = n := fun i => (congrArg (fun z => (z.2.2.2.1 r).2) (ffX_2 X r v i)).trans hn
  intro j
  induction j with
  | zero =>
    intro i NC h1 h2
    obtain ⟨m, rfl⟩ : ∃ m, NC = m + 1 := ⟨NC - 1, by omega⟩
    obtain rfl : n = i := by omega
    rw [st_J7_fill_53178_5]
    unfold d_J7_fill_53178_5b
    simp (disch := first | omega | (simp (disch := omega) only [← Nat.add_assoc, Nat.add_sub_cancel, Nat.sub_zero, as21, as31, as32, and_self, and_true, true_and, l_0, l_1, l_2, l_3, l_4, l_5, l_6, l_7, l_8, l_9, l_10, l_11, l_12, l_13, l_14, l_15, l_16, l_17, l_18, l_19, l_20, l_21, l_22, l_23, l_24, l_25, l_26, l_27, l_28, l_29, l_30, l_31, l_32, l_33, l_34, l_35, l_36, l_37, l_38, l_39, l_40, l_41, l_42, l_43, l_44, l_45, l_47, l_48, l_50, l_52, l_60, l_61, l_63, l_80, l_99, l_100, l_101, l_102, l_103, l_105, l_106, l_107, l_108, l_109, l_110, l_111, l_112, l_114, l_115, l_116, l_117, l_118, l_119, l_120, l_122, l_168, l_200, l_320, l_360, l_528, l_548, l_1000, l_1023, l_2000, l_3000, l_1000000, qadd, qmul, qsub, qdiv, qcl, qinT, qchT, qleT, qleF, qltT, qltF, qeqT, qeqF, qneg_ne, bo0, bo1, qneg_ne', qneg_lt, mI_eq, mD_eq, mL_eq, mR_eq, mI_at, mD_at, mL_at, mI_ne, mD_ne, mL_ne, mR_ne, not_false_eq_true, not_true_eq_false, or_true, true_or, or_false, false_or, or_self, false_and, and_false, eq_self, mI_sL, mI_sD, mI_sR, mI_tk, mL_sI, mL_sD, mL_sR, mL_tk, mD_sI, mD_sL, mD_sR, mD_tk, mR_sI, mR_sL, mR_sD, mR_tk, mT_sI, mT_sL, mT_sD, mT_sR, mT_tk, mK_sI, mK_sL, mK_sD, mK_sR, mK_tk, mN_sI, mN_sL, mN_sD, mN_sR, mN_tk, nx_sI, nx_sL, nx_sD, nx_sR, uC_sI, uC_sL, uC_sD, uC_sR, uS_sI, uS_sL, uS_sD, uS_sR, nx_tk, uC_tk, uS_tk]; done) | fail) only [↓okk_pos, ↓okk_T, ↓bnd_eq, ↓obind, ↓bind_okk, ↓bind_bnd, ↓bind_ite, ↓bind_bind, ↓reduceIte, ← Nat.add_assoc, Nat.add_sub_cancel, Nat.sub_zero, as21, as31, as32, and_self, and_true, true_and, l_0, l_1, l_2, l_3, l_4, l_5, l_6, l_7, l_8, l_9, l_10, l_11, l_12, l_13, l_14, l_15, l_16, l_17, l_18, l_19, l_20, l_21, l_22, l_23, l_24, l_25, l_26, l_27, l_28, l_29, l_30, l_31, l_32, l_33, l_34, l_35, l_36, l_37, l_38, l_39, l_40, l_41, l_42, l_43, l_44, l_45, l_47, l_48, l_50, l_52, l_60, l_61, l_63, l_80, l_99, l_100, l_101, l_102, l_103, l_105, l_106, l_107, l_108, l_109, l_110, l_111, l_112, l_114, l_115, l_116, l_117, l_118, l_119, l_120, l_122, l_168, l_200, l_320, l_360, l_528, l_548, l_1000, l_1023, l_2000, l_3000, l_1000000, qadd, qmul, qsub, qdiv, qcl, qinT, qchT, qleT, qleF, qltT, qltF, qeqT, qeqF, qneg_ne, bo0, bo1, qneg_ne', qneg_lt, mI_eq, mD_eq, mL_eq, mR_eq, mI_at, mD_at, mL_at, mI_ne, mD_ne, mL_ne, mR_ne, not_false_eq_true, not_true_eq_false, or_true, true_or, or_false, false_or, or_self, false_and, and_false, eq_self, mI_sL, mI_sD, mI_sR, mI_tk, mL_sI, mL_sD, mL_sR, mL_tk, mD_sI, mD_sL, mD_sR, mD_tk, mR_sI, mR_sL, mR_sD, mR_tk, mT_sI, mT_sL, mT_sD, mT_sR, mT_tk, mK_sI, mK_sL, mK_sD, mK_sR, mK_tk, mN_sI, mN_sL, mN_sD, mN_sR, mN_tk, nx_sI, nx_sL, nx_sD, nx_sR, uC_sI, uC_sL, uC_sD, uC_sR, uS_sI, uS_sL, uS_sD, uS_sR, nx_tk, uC_tk, uS_tk]
  | succ j ih =>
    intro i NC h1 h2
    obtain ⟨m, rfl⟩ : ∃ m, NC = m + 1 := ⟨NC - 1, by omega⟩
    have hi := ih (i + 1) m (by omega) (by omega)
    have hk9 := k9 i
    have hn9 := n9 i
    have e : sI (ffX X r v i) r i v = ffX X r v (i + 1) := rfl
    rw [st_J7_fill_53178_5]
    unfold d_J7_fill_53178_5b
    simp (disch := first | omega | (simp (disch := omega) only [← Nat.add_assoc, Nat.add_sub_cancel, Nat.sub_zero, as21, as31, as32, and_self, and_true, true_and, l_0, l_1, l_2, l_3, l_4, l_5, l_6, l_7, l_8, l_9, l_10, l_11, l_12, l_13, l_14, l_15, l_16, l_17, l_18, l_19, l_20, l_21, l_22, l_23, l_24, l_25, l_26, l_27, l_28, l_29, l_30, l_31, l_32, l_33, l_34, l_35, l_36, l_37, l_38, l_39, l_40, l_41, l_42, l_43, l_44, l_45, l_47, l_48, l_50, l_52, l_60, l_61, l_63, l_80, l_99, l_100, l_101, l_102, l_103, l_105, l_106, l_107, l_108, l_109, l_110, l_111, l_112, l_114, l_115, l_116, l_117, l_118, l_119, l_120, l_122, l_168, l_200, l_320, l_360, l_528, l_548, l_1000, l_1023, l_2000, l_3000, l_1000000, qadd, qmul, qsub, qdiv, qcl, qinT, qchT, qleT, qleF, qltT, qltF, qeqT, qeqF, qneg_ne, bo0, bo1, qneg_ne', qneg_lt, mI_eq, mD_eq, mL_eq, mR_eq, mI_at, mD_at, mL_at, mI_ne, mD_ne, mL_ne, mR_ne, not_false_eq_true, not_true_eq_false, or_true, true_or, or_false, false_or, or_self, false_and, and_false, eq_self, mI_sL, mI_sD, mI_sR, mI_tk, mL_sI, mL_sD, mL_sR, mL_tk, mD_sI, mD_sL, mD_sR, mD_tk, mR_sI, mR_sL, mR_sD, mR_tk, mT_sI, mT_sL, mT_sD, mT_sR, mT_tk, mK_sI, mK_sL, mK_sD, mK_sR, mK_tk, mN_sI, mN_sL, mN_sD, mN_sR, mN_tk, nx_sI, nx_sL, nx_sD, nx_sR, uC_sI, uC_sL, uC_sD, uC_sR, uS_sI, uS_sL, uS_sD, uS_sR, nx_tk, uC_tk, uS_tk, hk9, hn9, e, hi]; done) | fail) only [↓okk_pos, ↓okk_T, ↓bnd_eq, ↓obind, ↓bind_okk, ↓bind_bnd, ↓bind_ite, ↓bind_bind, ↓reduceIte, ← Nat.add_assoc, Nat.add_sub_cancel, Nat.sub_zero, as21, as31, as32, and_self, and_true, true_and, l_0, l_1, l_2, l_3, l_4, l_5, l_6, l_7, l_8, l_9, l_10, l_11, l_12, l_13, l_14, l_15, l_16, l_17, l_18, l_19, l_20, l_21, l_22, l_23, l_24, l_25, l_26, l_27, l_28, l_29, l_30, l_31, l_32, l_33, l_34, l_35, l_36, l_37, l_38, l_39, l_40, l_41, l_42, l_43, l_44, l_45, l_47, l_48, l_50, l_52, l_60, l_61, l_63, l_80, l_99, l_100, l_101, l_102, l_103, l_105, l_106, l_107, l_108, l_109, l_110, l_111, l_112, l_114, l_115, l_116, l_117, l_118, l_119, l_120, l_122, l_168, l_200, l_320, l_360, l_528, l_548, l_1000, l_1023, l_2000, l_3000, l_1000000, qadd, qmul, qsub, qdiv, qcl, qinT, qchT, qleT, qleF, qltT, qltF, qeqT, qeqF, qneg_ne, bo0, bo1, qneg_ne', qneg_lt, mI_eq, mD_eq, mL_eq, mR_eq, mI_at, mD_at, mL_at, mI_ne, mD_ne, mL_ne, mR_ne, not_false_eq_true, not_true_eq_false, or_true, true_or, or_false, false_or, or_self, false_and, and_false, eq_self, mI_sL, mI_sD, mI_sR, mI_tk, mL_sI, mL_sD, mL_sR, mL_tk, mD_sI, mD_sL, mD_sR, mD_tk, mR_sI, mR_sL, mR_sD, mR_tk, mT_sI, mT_sL, mT_sD, mT_sR, mT_tk, mK_sI, mK_sL, mK_sD, mK_sR, mK_tk, mN_sI, mN_sL, mN_sD, mN_sR, mN_tk, nx_sI, nx_sL, nx_sD, nx_sR, uC_sI, uC_sL, uC_sD, uC_sR, uS_sI, uS_sL, uS_sD, uS_sR, nx_tk, uC_tk, uS_tk, hk9, hn9, e, hi]
theorem fill_ok {X : Mem} {r n : Nat} {v : Int32} (hk : mK X r = 21) (hn : mN X r = n) (h31 : n < 1000) : d_J7_fill_53178 r v X = some ((), ffX X r v n) := by
  have := fill_l (v := v) hk hn (by omega) n 0 fuel (by omega) (by have := fuel_big; omega)
  unfold d_J7_fill_53178
  rw [okk_pos hk, hn]
  exact this
theorem cum_ff {N X : Mem} {b k g i q0 : Nat} {v : Nat → Nat → Int32} {x : Int32} (h : CUM N X b k g v i) (hq : q0 < i) : ∀ n, CUM N (ffX X (b + 1 + q0) x n) b k g (fun q j => if q = q0 ∧ j < n then x else v q j) i
  | 0 => cum_v h (fun q _ j => if_neg (fun y => absurd y.2 (by omega)))
  | n + 1 => by
    refine cum_v (cum_set (j0 := n) (x := x) (cum_ff h hq n) hq) (fun q _ j => ?_)
    by_cases e : q = q0 ∧ j = n
    · rw [if_pos ⟨e.1, by omega⟩, if_pos e]
    · rw [if_neg e]
      by_cases e2 : q = q0 ∧ j < n
      · rw [if_pos e2, if_pos ⟨e2.1, by omega⟩]
      · rw [if_neg e2, if_neg (fun y => e2 ⟨y.1, by omega⟩)]
/-- what stands in the new arrays -/
def valT (N : Mem) (k g q j : Nat) : Int32 := if q < 6 then (if q = 1 ∧ j = k then nI g else if j < lenT k g q then mI N (49 + q) j else 0) else if q = 9 ∧ j < g then -nI 1 else 0
/-- a trace is made out of the recording -/
theorem init_ok {N : Mem} {k g b : Nat} {rt : Int32} (hY : LYR N) (hb : nx N = b) (h31 : b < 1000000) (hk : k ≤ 30) (hg : g ≤ 120) (h7 : mI N 48 7 = nI k) (h8 : mI N 48 8 = nI g) : ∃ X, d_X9_init b 48 rt (sN N b 9 17) = some ((), X) ∧ CUM N X b k g (valT N k g) 10 ∧ mI X b 12 = rt ∧ mI X b 13 = mI N 48 11 ∧ mI X b 14 = nI 1 := by
  have hY0 := hY
  obtain ⟨⟨yk, y129⟩, -⟩ := hY0
  generalize hM1 : sN N b 9 17 = M1
  have m1 : ∀ a j, a < b → mI M1 a j = mI N a j ∧ mD M1 a j = mD N a j ∧ mL M1 a j = mL N a j ∧ mR M1 a j = mR N a j ∧ mT M1 a = mT N a := fun a j h => by
    rw [← hM1]
    have h : a ≠ b := by omega
    refine ⟨?_, ?_, ?_, ?_, ?_⟩
    · show clr N.1 b 0 a j = N.1 a j; unfold clr; rw [if_neg h]
    · show clr N.2.2.1 b 0 a j = N.2.2.1 a j; unfold clr; rw [if_neg h]
    · show clr N.2.1 b 0 a j = N.2.1 a j; unfold clr; rw [if_neg h]
    · show clr N.2.2.2.1 b none a j = N.2.2.2.1 a j; unfold clr; rw [if_neg h]
    · show (if a = b then (9, 17) else N.2.2.2.2.1 a) = _; rw [if_neg h]; rfl
  have k48 : mK M1 48 = 6 := by unfold mK; rw [(m1 48 0 (by omega)).2.2.2.2]; exact yk
  have kb9 : mK M1 b = 9 := by rw [← hM1]; show (if b = b then (9, 17) else N.2.2.2.2.1 b).1 = 9; rw [if_pos rfl]
  have mb0 : ∀ j, mI M1 b j = 0 := fun j => by rw [← hM1]; show clr N.1 b 0 b j = 0; unfold clr; rw [if_pos rfl]
  have x7 : mI M1 48 7 = nI k := (m1 48 7 (by omega)).1.trans h7
  have x8 : mI M1 48 8 = nI g := (m1 48 8 (by omega)).1.trans h8
  generalize hA : sI (sI M1 b 0 (nI k)) b 1 (nI g) = A0
  have cA : CUM N A0 b k g (valT N k g) 0 := by
    rw [← hA]
    refine ⟨fun a j ha => ⟨?_, (m1 a j ha).2⟩, ?_, kb9, ⟨?_, mI_eq _ _ _ _, ?_, ?_⟩, fun q hq => absurd hq (by omega), ?_, ?_⟩
    · rw [mI_ne (by omega), mI_ne (by omega)]; exact (m1 a j ha).1
    · rw [← hM1]; rfl
    · rw [mI_ne (by omega), mI_eq]
    · rw [mI_ne (by omega), mI_ne (by omega)]; exact mb0 15
    · rw [mI_ne (by omega), mI_ne (by omega)]; exact mb0 16
    · rw [← hM1]; rfl
    · rw [← hM1]; rfl
  have q8 : mI (sI M1 b 0 (nI k)) 48 8 = nI g := (mI_ne (by omega)).trans x8
  have vl : ∀ q, q < 6 → q ≠ 1 → ∀ j, valT N k g q j = if j < lenT k g q then mI N (49 + q) j else 0 := fun q h1 h2 j => by
    unfold valT
    rw [if_pos h1, if_neg (fun y => h2 y.1)]
  -- the copies
  obtain ⟨Y1, r1, e1, c1⟩ := cum_cp cA hY hb h31 (by omega) hk hg (vl 0 (by omega) (by omega))
  generalize hZ1 : sR Y1 b (2 + 0) (some (b + 1 + 0)) = Z1 at c1
  obtain ⟨Y2, r2, e2, c2⟩ := cum_cp (v := fun q j => if q = 1 then (if j < lenT k g 1 then mI N (49 + 1) j else 0) else valT N k g q j) (cum_v c1 (fun q hq j => by rw [if_neg (by omega)])) hY hb h31 (by omega) hk hg (fun j => if_pos rfl)
  generalize hZ2 : sR Y2 b (2 + 1) (some (b + 1 + 1)) = Z2 at c2
  have c3 := cum_v (v2 := valT N k g) (cum_set (q0 := 1) (j0 := k) (x := nI g) c2 (by omega)) (fun q hq j => by
    by_cases z : q = 1 ∧ j = k
    · rw [if_pos z]; unfold valT; rw [if_pos (by omega), if_pos z]
    · rw [if_neg z]
      by_cases z1 : q = 1
      · subst z1; rw [if_pos rfl]; unfold valT; rw [if_pos (by omega), if_neg z]
      · rw [if_neg z1])
  have r9 : mR Z2 b 3 = some (b + 2) := (c2.2.2.2.2.1 1 (by omega)).1
  have t9 := (c2.2.2.2.2.1 1 (by omega)).2.1
  have k92 : mK Z2 (b + 2) = 21 := by unfold mK; rw [show b + 2 = b + 1 + 1 by omega, t9]
  have n92 : mN Z2 (b + 2) = k + 1 := by unfold mN; rw [show b + 2 = b + 1 + 1 by omega, t9]; rfl
  generalize hZ3 : sI Z2 (b + 1 + 1) k (nI g) = Z3 at c3
  obtain ⟨Y3, r3, e3, c4⟩ := cum_cp c3 hY hb h31 (by omega) hk hg (vl 2 (by omega) (by omega))
  generalize hZ4 : sR Y3 b (2 + 2) (some (b + 1 + 2)) = Z4 at c4
  obtain ⟨Y4, r4, e4, c5⟩ := cum_cp c4 hY hb h31 (by omega) hk hg (vl 3 (by omega) (by omega))
  generalize hZ5 : sR Y4 b (2 + 3) (some (b + 1 + 3)) = Z5 at c5
  obtain ⟨Y5, r5, e5, c6⟩ := cum_cp c5 hY hb h31 (by omega) hk hg (vl 4 (by omega) (by omega))
  generalize hZ6 : sR Y5 b (2 + 4) (some (b + 1 + 4)) = Z6 at c6
  obtain ⟨Y6, r6, e6, c7⟩ := cum_cp c6 hY hb h31 (by omega) hk hg (vl 5 (by omega) (by omega))
  generalize hZ7 : sR Y6 b (2 + 5) (some (b + 1 + 5)) = Z7 at c7
  -- the new arrays
  have c8 := cum_new (v := fun q j => if q < 6 then valT N k g q j else 0) (Y := sN Z7 (b + 1 + 6) 21 g) (cum_v c7 (fun q hq j => if_pos (by omega))) (new_sN Z7 (b + 1 + 6) g)
  generalize hZ8 : sR (sN Z7 (b + 1 + 6) 21 g) b (2 + 6) (some (b + 1 + 6)) = Z8 at c8
  have c9 := cum_new (Y := sN Z8 (b + 1 + 7) 21 g) c8 (new_sN Z8 (b + 1 + 7) g)
  generalize hZ9 : sR (sN Z8 (b + 1 + 7) 21 g) b (2 + 7) (some (b + 1 + 7)) = Z9 at c9
  have c10 := cum_new (Y := sN Z9 (b + 1 + 8) 21 g) c9 (new_sN Z9 (b + 1 + 8) g)
  generalize hZ10 : sR (sN Z9 (b + 1 + 8) 21 g) b (2 + 8) (some (b + 1 + 8)) = Z10 at c10
  have c11 := cum_new (Y := sN Z10 (b + 1 + 9) 21 g) c10 (new_sN Z10 (b + 1 + 9) g)
  generalize hZ11 : sR (sN Z10 (b + 1 + 9) 21 g) b (2 + 9) (some (b + 1 + 9)) = Z11 at c11
  have r12 : mR Z11 b 11 = some (b + 1 + 9) := (c11.2.2.2.2.1 9 (by omega)).1
  have t12 := (c11.2.2.2.2.1 9 (by omega)).2.1
  have ef : d_J7_fill_53178 (b + 1 + 9) (-nI 1) Z11 = some ((), ffX Z11 (b + 1 + 9) (-nI 1) g) := fill_ok (by unfold mK; rw [t12]) (by unfold mN; rw [t12]; rfl) (by omega)
  have c12 := cum_v (v2 := valT N k g) (cum_ff (x := -nI 1) c11 (q0 := 9) (by omega) g) (fun q hq j => by
    show valT N k g q j = (if q = 9 ∧ j < g then -nI 1 else (if q < 6 then valT N k g q j else 0))
    by_cases z : q < 6
    · rw [if_neg (by omega), if_pos z]
    · rw [if_neg z]
      unfold valT
      rw [if_neg z])
  generalize hZ12 : ffX Z11 (b + 1 + 9) (-nI 1) g = Z12 at c12 ef
  have hcum : ∀ {X i v}, CUM N X b k g v i → mK X b = 9 ∧ mK X 48 = 6 ∧ mI X b 0 = nI k ∧ mI X b 1 = nI g ∧ nx X = b + 1 + i := fun {X i v} h => ⟨h.2.2.1, by unfold mK; rw [(h.1 48 0 (by omega)).2.2.2.2]; exact yk, h.2.2.2.1.1, h.2.2.2.1.2.1, h.2.1⟩
  obtain ⟨a1, a2, a3, a4, -⟩ := hcum cA
  obtain ⟨b1, b2, b3, b4, -⟩ := hcum c1
  obtain ⟨d1, d2, d3, d4, -⟩ := hcum c2
  obtain ⟨f1, f2, f3, f4, -⟩ := hcum c3
  obtain ⟨g1, g2, g3, g4, -⟩ := hcum c4
  obtain ⟨i1, i2, i3, i4, -⟩ := hcum c5
  obtain ⟨j1, j2, j3, j4, -⟩ := hcum c6
  obtain ⟨k1, k2, k3, k4, k5⟩ := hcum c7
  obtain ⟨l1, l2, l3, l4, l5⟩ := hcum c8
  obtain ⟨m1', m2, m3, m4, m5⟩ := hcum c9
  obtain ⟨n1, n2, n3, n4, n5⟩ := hcum c10
  obtain ⟨o1, o2, o3, o4, o5⟩ := hcum c11
  obtain ⟨p1, p2, p3, p4, -⟩ := hcum c12
  have l0' : lenT k g 0 = k := rfl
  have l1' : lenT k g 1 = k + 1 := rfl
  have l2' : lenT k g 2 = g := rfl
  have l3' : lenT k g 3 = g := rfl
  have l4' : lenT k g 4 = g := rfl
  have l5' : lenT k g 5 = g := rfl
  rw [l0'] at e1
  rw [l1'] at e2
  rw [l2'] at e3
  rw [l3'] at e4
  rw [l4'] at e5
  rw [l5'] at e6
  refine ⟨sI (sI (sI Z12 b 12 rt) b 13 (mI N 48 11)) b 14 (nI 1), ?_, ?_, ?_, ?_, mI_eq _ _ _ _⟩
  · have x11 : mI Z12 48 11 = mI N 48 11 := (c12.1 48 11 (by omega)).1
    simp only [Nat.add_zero] at hZ1 e1
    have w0 : mK Y1 b = 9 := by have := b1; rw [← hZ1] at this; exact this
    have w1 : mK Y2 b = 9 := by have := d1; rw [← hZ2] at this; exact this
    have w2 : mK Y3 b = 9 := by have := g1; rw [← hZ4] at this; exact this
    have w3 : mK Y4 b = 9 := by have := i1; rw [← hZ5] at this; exact this
    have w4 : mK Y5 b = 9 := by have := j1; rw [← hZ6] at this; exact this
    have w5 : mK Y6 b = 9 := by have := k1; rw [← hZ7] at this; exact this
    have w6 : mK (sN Z7 (b + 1 + 6) 21 g) b = 9 := by have := l1; rw [← hZ8] at this; exact this
    have w7 : mK (sN Z8 (b + 1 + 7) 21 g) b = 9 := by have := m1'; rw [← hZ9] at this; exact this
    have w8 : mK (sN Z9 (b + 1 + 8) 21 g) b = 9 := by have := n1; rw [← hZ10] at this; exact this
    have w9 : mK (sN Z10 (b + 1 + 9) 21 g) b = 9 := by have := o1; rw [← hZ11] at this; exact this
    have r3' : mR Z2 48 2 = some (49 + 2) := by rw [← hZ3] at r3; exact r3
    unfold d_X9_init
    simp (disch := first | omega | (simp (disch := omega) only [← Nat.add_assoc, Nat.add_sub_cancel, Nat.sub_zero, as21, as31, as32, and_self, and_true, true_and, l_0, l_1, l_2, l_3, l_4, l_5, l_6, l_7, l_8, l_9, l_10, l_11, l_12, l_13, l_14, l_15, l_16, l_17, l_18, l_19, l_20, l_21, l_22, l_23, l_24, l_25, l_26, l_27, l_28, l_29, l_30, l_31, l_32, l_33, l_34, l_35, l_36, l_37, l_38, l_39, l_40, l_41, l_42, l_43, l_44, l_45, l_47, l_48, l_50, l_52, l_60, l_61, l_63, l_80, l_99, l_100, l_101, l_102, l_103, l_105, l_106, l_107, l_108, l_109, l_110, l_111, l_112, l_114, l_115, l_116, l_117, l_118, l_119, l_120, l_122, l_168, l_200, l_320, l_360, l_528, l_548, l_1000, l_1023, l_2000, l_3000, l_1000000, qadd, qmul, qsub, qdiv, qcl, qinT, qchT, qleT, qleF, qltT, qltF, qeqT, qeqF, qneg_ne, bo0, bo1, qneg_ne', qneg_lt, mI_eq, mD_eq, mL_eq, mR_eq, mI_at, mD_at, mL_at, mI_ne, mD_ne, mL_ne, not_false_eq_true, not_true_eq_false, or_true, true_or, or_false, false_or, or_self, false_and, and_false, eq_self, mI_sL, mI_sD, mI_tk, mL_sI, mL_sD, mL_tk, mD_sI, mD_sL, mD_tk, mR_sI, mR_sL, mR_sD, mR_tk, mT_sI, mT_sL, mT_sD, mT_tk, mK_sI, mK_sL, mK_sD, mK_tk, mN_sI, mN_sL, mN_sD, mN_tk, nx_sI, nx_sL, nx_sD, uC_sI, uC_sL, uC_sD, uS_sI, uS_sL, uS_sD, nx_tk, uC_tk, uS_tk, k48, kb9, x7, q8, hA, a1, a2, a3, a4, r1, e1, hZ1, b1, b2, b3, b4, r2, e2, hZ2, d1, d2, d3, d4, r9, k92, n92, hZ3, f1, f2, f3, f4, r3, e3, hZ4, g1, g2, g3, g4, r4, e4, hZ5, i1, i2, i3, i4, r5, e5, hZ6, j1, j2, j3, j4, r6, e6, hZ7, k1, k2, k3, k4, k5, hZ8, l1, l2, l3, l4, l5, hZ9, m1', m2, m3, m4, m5, hZ10, n1, n2, n3, n4, n5, hZ11, o1, o2, o3, o4, o5, r12, ef, p1, p2, p3, p4, x11, r3', w0, w1, w2, w3, w4, w5, w6, w7, w8, w9]; done) | fail) only [↓okk_pos, ↓okk_T, ↓bnd_eq, ↓obind, ↓bind_okk, ↓bind_bnd, ↓bind_ite, ↓bind_bind, ↓reduceIte, ← Nat.add_assoc, Nat.add_sub_cancel, Nat.sub_zero, as21, as31, as32, and_self, and_true, true_and, l_0, l_1, l_2, l_3, l_4, l_5, l_6, l_7, l_8, l_9, l_10, l_11, l_12, l_13, l_14, l_15, l_16, l_17, l_18, l_19, l_20, l_21, l_22, l_23, l_24, l_25, l_26, l_27, l_28, l_29, l_30, l_31, l_32, l_33, l_34, l_35, l_36, l_37, l_38, l_39, l_40, l_41, l_42, l_43, l_44, l_45, l_47, l_48, l_50, l_52, l_60, l_61, l_63, l_80, l_99, l_100, l_101, l_102, l_103, l_105, l_106, l_107, l_108, l_109, l_110, l_111, l_112, l_114, l_115, l_116, l_117, l_118, l_119, l_120, l_122, l_168, l_200, l_320, l_360, l_528, l_548, l_1000, l_1023, l_2000, l_3000, l_1000000, qadd, qmul, qsub, qdiv, qcl, qinT, qchT, qleT, qleF, qltT, qltF, qeqT, qeqF, qneg_ne, bo0, bo1, qneg_ne', qneg_lt, mI_eq, mD_eq, mL_eq, mR_eq, mI_at, mD_at, mL_at, mI_ne, mD_ne, mL_ne, not_false_eq_true, not_true_eq_false, or_true, true_or, or_false, false_or, or_self, false_and, and_false, eq_self, mI_sL, mI_sD, mI_tk, mL_sI, mL_sD, mL_tk, mD_sI, mD_sL, mD_tk, mR_sI, mR_sL, mR_sD, mR_tk, mT_sI, mT_sL, mT_sD, mT_tk, mK_sI, mK_sL, mK_sD, mK_tk, mN_sI, mN_sL, mN_sD, mN_tk, nx_sI, nx_sL, nx_sD, uC_sI, uC_sL, uC_sD, uS_sI, uS_sL, uS_sD, nx_tk, uC_tk, uS_tk, k48, kb9, x7, q8, hA, a1, a2, a3, a4, r1, e1, hZ1, b1, b2, b3, b4, r2, e2, hZ2, d1, d2, d3, d4, r9, k92, n92, hZ3, f1, f2, f3, f4, r3, e3, hZ4, g1, g2, g3, g4, r4, e4, hZ5, i1, i2, i3, i4, r5, e5, hZ6, j1, j2, j3, j4, r6, e6, hZ7, k1, k2, k3, k4, k5, hZ8, l1, l2, l3, l4, l5, hZ9, m1', m2, m3, m4, m5, hZ10, n1, n2, n3, n4, n5, hZ11, o1, o2, o3, o4, o5, r12, ef, p1, p2, p3, p4, x11, r3', w0, w1, w2, w3, w4, w5, w6, w7, w8, w9]
    have hb5 : nI g ≤ 100000 := by rw [show (100000 : Int32) = nI 100000 from rfl]; exact nI_le (by omega) (by omega)
    rw [okk_pos hb5, okk_pos hb5, okk_pos hb5, okk_pos hb5]
  · obtain ⟨u1, u2, u3, ⟨u4, u5, u6, u7⟩, u8, u9⟩ := c12
    refine ⟨fun a j ha => ⟨?_, (u1 a j ha).2⟩, u2, u3, ⟨?_, ?_, ?_, ?_⟩, fun q hq => ⟨(u8 q hq).1, (u8 q hq).2.1, fun j => ?_⟩, u9⟩
    · rw [mI_ne (by omega), mI_ne (by omega), mI_ne (by omega)]; exact (u1 a j ha).1
    · rw [mI_ne (by omega), mI_ne (by omega), mI_ne (by omega)]; exact u4
    · rw [mI_ne (by omega), mI_ne (by omega), mI_ne (by omega)]; exact u5
    · rw [mI_ne (by omega), mI_ne (by omega), mI_ne (by omega)]; exact u6
    · rw [mI_ne (by omega), mI_ne (by omega), mI_ne (by omega)]; exact u7
    · rw [mI_ne (by omega), mI_ne (by omega), mI_ne (by omega)]; exact (u8 q hq).2.2 j
  · rw [mI_ne (by omega), mI_ne (by omega), mI_eq]
  · rw [mI_ne (by omega), mI_eq]
end MX2
