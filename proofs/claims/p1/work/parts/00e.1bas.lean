/-! ===== small things of the memory, of ints that are naturals, and of reckonings ===== -/
section MBA
theorem mI_sI (M : Mem) (a i : Nat) (v : Int32) (b j : Nat) : mI (sI M a i v) b j = if b = a ∧ j = i then v else mI M b j := by
  show up2 M.1 a i v b j = _
  unfold up2
  by_cases h : b = a
  · by_cases h2 : j = i
    · simp [h, h2]
    · simp [h, h2, mI]
  · simp [h, mI]
theorem mI_at {M : Mem} {a i b j : Nat} {v : Int32} (h : b = a ∧ j = i) : mI (sI M a i v) b j = v := by rw [mI_sI, if_pos h]
theorem mI_eq (M : Mem) (a i : Nat) (v : Int32) : mI (sI M a i v) a i = v := mI_at ⟨rfl, rfl⟩
theorem mI_ne {M : Mem} {a i b j : Nat} {v : Int32} (h : b ≠ a ∨ j ≠ i) : mI (sI M a i v) b j = mI M b j := by
  rw [mI_sI, if_neg (fun q => h.elim (fun r => r q.1) (fun r => r q.2))]
theorem mD_sD (M : Mem) (a i : Nat) (v : UInt64) (b j : Nat) : mD (sD M a i v) b j = if b = a ∧ j = i then v else mD M b j := by
  show up2 M.2.2.1 a i v b j = _
  unfold up2
  by_cases h : b = a
  · by_cases h2 : j = i
    · simp [h, h2]
    · simp [h, h2, mD]
  · simp [h, mD]
theorem mD_at {M : Mem} {a i b j : Nat} {v : UInt64} (h : b = a ∧ j = i) : mD (sD M a i v) b j = v := by rw [mD_sD, if_pos h]
theorem mD_eq (M : Mem) (a i : Nat) (v : UInt64) : mD (sD M a i v) a i = v := mD_at ⟨rfl, rfl⟩
theorem mD_ne {M : Mem} {a i b j : Nat} {v : UInt64} (h : b ≠ a ∨ j ≠ i) : mD (sD M a i v) b j = mD M b j := by
  rw [mD_sD, if_neg (fun q => h.elim (fun r => r q.1) (fun r => r q.2))]
theorem mL_sL (M : Mem) (a i : Nat) (v : Int64) (b j : Nat) : mL (sL M a i v) b j = if b = a ∧ j = i then v else mL M b j := by
  show up2 M.2.1 a i v b j = _
  unfold up2
  by_cases h : b = a
  · by_cases h2 : j = i
    · simp [h, h2]
    · simp [h, h2, mL]
  · simp [h, mL]
theorem mL_at {M : Mem} {a i b j : Nat} {v : Int64} (h : b = a ∧ j = i) : mL (sL M a i v) b j = v := by rw [mL_sL, if_pos h]
theorem mL_eq (M : Mem) (a i : Nat) (v : Int64) : mL (sL M a i v) a i = v := mL_at ⟨rfl, rfl⟩
theorem mL_ne {M : Mem} {a i b j : Nat} {v : Int64} (h : b ≠ a ∨ j ≠ i) : mL (sL M a i v) b j = mL M b j := by
  rw [mL_sL, if_neg (fun q => h.elim (fun r => r q.1) (fun r => r q.2))]
theorem mR_sR (M : Mem) (a i : Nat) (v : Option Nat) (b j : Nat) : mR (sR M a i v) b j = if b = a ∧ j = i then v else mR M b j := by
  show up2 M.2.2.2.1 a i v b j = _
  unfold up2
  by_cases h : b = a
  · by_cases h2 : j = i
    · simp [h, h2]
    · simp [h, h2, mR]
  · simp [h, mR]
theorem mR_at {M : Mem} {a i b j : Nat} {v : Option Nat} (h : b = a ∧ j = i) : mR (sR M a i v) b j = v := by rw [mR_sR, if_pos h]
theorem mR_eq (M : Mem) (a i : Nat) (v : Option Nat) : mR (sR M a i v) a i = v := mR_at ⟨rfl, rfl⟩
theorem mR_ne {M : Mem} {a i b j : Nat} {v : Option Nat} (h : b ≠ a ∨ j ≠ i) : mR (sR M a i v) b j = mR M b j := by
  rw [mR_sR, if_neg (fun q => h.elim (fun r => r q.1) (fun r => r q.2))]
theorem mI_sL (M : Mem) (a i : Nat) (v : Int64) (b j : Nat) : mI (sL M a i v) b j = mI M b j := id rfl
theorem mI_sD (M : Mem) (a i : Nat) (v : UInt64) (b j : Nat) : mI (sD M a i v) b j = mI M b j := id rfl
theorem mI_sR (M : Mem) (a i : Nat) (v : Option Nat) (b j : Nat) : mI (sR M a i v) b j = mI M b j := id rfl
theorem mI_tk (M : Mem) (n b j : Nat) : mI (tk M n) b j = mI M b j := id rfl
theorem mL_sI (M : Mem) (a i : Nat) (v : Int32) (b j : Nat) : mL (sI M a i v) b j = mL M b j := id rfl
theorem mL_sD (M : Mem) (a i : Nat) (v : UInt64) (b j : Nat) : mL (sD M a i v) b j = mL M b j := id rfl
theorem mL_sR (M : Mem) (a i : Nat) (v : Option Nat) (b j : Nat) : mL (sR M a i v) b j = mL M b j := id rfl
theorem mL_tk (M : Mem) (n b j : Nat) : mL (tk M n) b j = mL M b j := id rfl
theorem mD_sI (M : Mem) (a i : Nat) (v : Int32) (b j : Nat) : mD (sI M a i v) b j = mD M b j := id rfl
theorem mD_sL (M : Mem) (a i : Nat) (v : Int64) (b j : Nat) : mD (sL M a i v) b j = mD M b j := id rfl
theorem mD_sR (M : Mem) (a i : Nat) (v : Option Nat) (b j : Nat) : mD (sR M a i v) b j = mD M b j := id rfl
theorem mD_tk (M : Mem) (n b j : Nat) : mD (tk M n) b j = mD M b j := id rfl
theorem mR_sI (M : Mem) (a i : Nat) (v : Int32) (b j : Nat) : mR (sI M a i v) b j = mR M b j := id rfl
theorem mR_sL (M : Mem) (a i : Nat) (v : Int64) (b j : Nat) : mR (sL M a i v) b j = mR M b j := id rfl
theorem mR_sD (M : Mem) (a i : Nat) (v : UInt64) (b j : Nat) : mR (sD M a i v) b j = mR M b j := id rfl
theorem mR_tk (M : Mem) (n b j : Nat) : mR (tk M n) b j = mR M b j := id rfl
theorem mT_sI (M : Mem) (a i : Nat) (v : Int32) (b : Nat) : mT (sI M a i v) b = mT M b := id rfl
theorem mT_sL (M : Mem) (a i : Nat) (v : Int64) (b : Nat) : mT (sL M a i v) b = mT M b := id rfl
theorem mT_sD (M : Mem) (a i : Nat) (v : UInt64) (b : Nat) : mT (sD M a i v) b = mT M b := id rfl
theorem mT_sR (M : Mem) (a i : Nat) (v : Option Nat) (b : Nat) : mT (sR M a i v) b = mT M b := id rfl
theorem mT_tk (M : Mem) (n b : Nat) : mT (tk M n) b = mT M b := id rfl
theorem mK_sI (M : Mem) (a i : Nat) (v : Int32) (b : Nat) : mK (sI M a i v) b = mK M b := id rfl
theorem mK_sL (M : Mem) (a i : Nat) (v : Int64) (b : Nat) : mK (sL M a i v) b = mK M b := id rfl
theorem mK_sD (M : Mem) (a i : Nat) (v : UInt64) (b : Nat) : mK (sD M a i v) b = mK M b := id rfl
theorem mK_sR (M : Mem) (a i : Nat) (v : Option Nat) (b : Nat) : mK (sR M a i v) b = mK M b := id rfl
theorem mK_tk (M : Mem) (n b : Nat) : mK (tk M n) b = mK M b := id rfl
theorem mN_sI (M : Mem) (a i : Nat) (v : Int32) (b : Nat) : mN (sI M a i v) b = mN M b := id rfl
theorem mN_sL (M : Mem) (a i : Nat) (v : Int64) (b : Nat) : mN (sL M a i v) b = mN M b := id rfl
theorem mN_sD (M : Mem) (a i : Nat) (v : UInt64) (b : Nat) : mN (sD M a i v) b = mN M b := id rfl
theorem mN_sR (M : Mem) (a i : Nat) (v : Option Nat) (b : Nat) : mN (sR M a i v) b = mN M b := id rfl
theorem mN_tk (M : Mem) (n b : Nat) : mN (tk M n) b = mN M b := id rfl
theorem nx_sI (M : Mem) (a i : Nat) (v : Int32) : nx (sI M a i v) = nx M := id rfl
theorem nx_sL (M : Mem) (a i : Nat) (v : Int64) : nx (sL M a i v) = nx M := id rfl
theorem nx_sD (M : Mem) (a i : Nat) (v : UInt64) : nx (sD M a i v) = nx M := id rfl
theorem nx_sR (M : Mem) (a i : Nat) (v : Option Nat) : nx (sR M a i v) = nx M := id rfl
theorem uC_sI (M : Mem) (a i : Nat) (v : Int32) : uC (sI M a i v) = uC M := id rfl
theorem uC_sL (M : Mem) (a i : Nat) (v : Int64) : uC (sL M a i v) = uC M := id rfl
theorem uC_sD (M : Mem) (a i : Nat) (v : UInt64) : uC (sD M a i v) = uC M := id rfl
theorem uC_sR (M : Mem) (a i : Nat) (v : Option Nat) : uC (sR M a i v) = uC M := id rfl
theorem uS_sI (M : Mem) (a i : Nat) (v : Int32) : uS (sI M a i v) = uS M := id rfl
theorem uS_sL (M : Mem) (a i : Nat) (v : Int64) : uS (sL M a i v) = uS M := id rfl
theorem uS_sD (M : Mem) (a i : Nat) (v : UInt64) : uS (sD M a i v) = uS M := id rfl
theorem uS_sR (M : Mem) (a i : Nat) (v : Option Nat) : uS (sR M a i v) = uS M := id rfl
theorem nx_tk (M : Mem) (n : Nat) : nx (tk M n) = nx M := id rfl
theorem uC_tk (M : Mem) (n : Nat) : uC (tk M n) = uC M + 1 := id rfl
theorem uS_tk (M : Mem) (n : Nat) : uS (tk M n) = uS M + n := id rfl
/-! ints that are naturals -/
theorem qadd (a b : Nat) : nI a + nI b = nI (a + b) := (Int32.ofNat_add a b).symm
theorem qmul (a b : Nat) : nI a * nI b = nI (a * b) := (Int32.ofNat_mul a b).symm
theorem qmulc (a b : Nat) : nI a * nI b = nI (b * a) := by rw [qmul, Nat.mul_comm]
theorem qsub {a b : Nat} (h : b ≤ a) : nI a - nI b = nI (a - b) := (Int32.ofNat_sub a b h).symm
theorem qdiv {a b : Nat} (ha : a < 2147483648) (hb : b < 2147483648) : nI a / nI b = nI (a / b) := (Int32.ofNat_div ha hb).symm
theorem qle {a b : Nat} (ha : a < 2147483648) (hb : b < 2147483648) : (nI a ≤ nI b) = (a ≤ b) := propext (Int32.ofNat_le_iff_le ha hb)
theorem qlt {a b : Nat} (ha : a < 2147483648) (hb : b < 2147483648) : (nI a < nI b) = (a < b) := propext (Int32.ofNat_lt_iff_lt ha hb)
theorem qinj {a b : Nat} (ha : a < 2147483648) (hb : b < 2147483648) (h : nI a = nI b) : a = b := by
  have := congrArg Int32.toNatClampNeg h
  rwa [nI_clamp ha, nI_clamp hb] at this
theorem qeq {a b : Nat} (ha : a < 2147483648) (hb : b < 2147483648) : (nI a = nI b) = (a = b) := propext ⟨qinj ha hb, fun h => h ▸ rfl⟩
theorem qleT {a b : Nat} (h : a ≤ b) (hb : b < 2147483648) : (nI a ≤ nI b) = True := eq_true (nI_le h hb)
theorem qleF {a b : Nat} (h : b < a) (ha : a < 2147483648) : (nI a ≤ nI b) = False := eq_false (nI_ge h ha)
theorem qltT {a b : Nat} (h : a < b) (hb : b < 2147483648) : (nI a < nI b) = True := eq_true (nI_lt h hb)
theorem qltF {a b : Nat} (h : b ≤ a) (ha : a < 2147483648) : (nI a < nI b) = False := eq_false (nI_nlt h ha)
theorem qeqT {a b : Nat} (h : a = b) : (nI a = nI b) = True := eq_true (congrArg nI h)
theorem qeqF {a b : Nat} (h : a ≠ b) (ha : a < 2147483648) (hb : b < 2147483648) : (nI a = nI b) = False := eq_false (fun q => h (qinj ha hb q))
theorem qcl {a : Nat} (ha : a < 2147483648) : (nI a).toNatClampNeg = a := nI_clamp ha
theorem qin {a n : Nat} (ha : a < 2147483648) : vp_in (nI a) n = (a < n) := by
  unfold vp_in
  rw [nI_clamp ha]
  apply propext
  constructor
  · intro h; omega
  · rintro h (q | q)
    · exact nI_pos ha q
    · omega
theorem qinT {a n : Nat} (h : a < n) (ha : a < 2147483648) : vp_in (nI a) n = True := by rw [qin ha]; exact eq_true h
theorem qch {a : Nat} (ha : a < 2147483648) : isCh (nI a) = (a ≤ 65535) := by
  apply propext
  constructor
  · rintro ⟨-, h⟩
    have h2 : nI a ≤ nI 65535 := h
    rwa [qle ha (by decide)] at h2
  · intro h
    refine ⟨nI_pos' ha, ?_⟩
    show nI a ≤ nI 65535
    rw [qle ha (by decide)]; exact h
theorem qneg_ne {a : Nat} (ha : a < 2147483648) : (nI a = -nI 1) = False := by
  apply propext
  refine ⟨fun h => ?_, False.elim⟩
  have h2 := congrArg Int32.toInt h
  rw [nI_toInt ha, show (-nI 1).toInt = -1 by decide] at h2
  omega
theorem qneg_ne' {a : Nat} (ha : a < 2147483648) : (-nI 1 = nI a) = False := by
  apply propext
  refine ⟨fun h => ?_, False.elim⟩
  rw [← qneg_ne ha]; exact h.symm
theorem qneg_lt {a : Nat} (ha : a < 2147483648) : (-nI 1 < nI a) = True := by
  apply propext
  refine ⟨fun _ => trivial, fun _ => ?_⟩
  rw [Int32.lt_iff_toInt_lt, nI_toInt ha, show (-nI 1).toInt = -1 by decide]
  omega
theorem qchT {a : Nat} (h : a ≤ 65535) : isCh (nI a) = True := by rw [qch (by omega)]; exact eq_true h
theorem bo0 : isBo (nI 0) = True := eq_true (Or.inl rfl)
theorem bo1 : isBo (nI 1) = True := eq_true (Or.inr rfl)
/-- an int that is not negative is a natural -/
theorem qof {x : Int32} (h : 0 ≤ x) : x = nI x.toNatClampNeg := (Int32.ofNat_toNatClampNeg x h).symm
theorem qofin {x : Int32} {n : Nat} (h : vp_in x n) : x = nI x.toNatClampNeg ∧ x.toNatClampNeg < n := by
  unfold vp_in at h
  refine ⟨qof ?_, by omega⟩
  have h1 : ¬ x < 0 := fun q => h (Or.inl q)
  rw [Int32.lt_iff_toInt_lt] at h1
  rw [Int32.le_iff_toInt_le]
  omega
theorem qlt31 (x : Int32) : x.toNatClampNeg < 2147483648 := Int32.toNatClampNeg_lt x
theorem okk_T {α : Type} (x : Option α) : okk True x = x := okk_pos trivial
theorem bnd_eq {α β : Type} (x : α) (f : α → Option β) : bnd x f = f x := id rfl
theorem obind {α β : Type} (x : α) (f : α → Option β) : (some x).bind f = f x := id rfl
theorem as21 (x : Nat) : x + 2 - 1 = x + 1 := id rfl
theorem as31 (x : Nat) : x + 3 - 1 = x + 2 := id rfl
theorem as32 (x : Nat) : x + 3 - 2 = x + 1 := id rfl
theorem l_0 : (0 : Int32) = nI 0 := id rfl
theorem l_1 : (1 : Int32) = nI 1 := id rfl
theorem l_2 : (2 : Int32) = nI 2 := id rfl
theorem l_3 : (3 : Int32) = nI 3 := id rfl
theorem l_4 : (4 : Int32) = nI 4 := id rfl
theorem l_5 : (5 : Int32) = nI 5 := id rfl
theorem l_6 : (6 : Int32) = nI 6 := id rfl
theorem l_7 : (7 : Int32) = nI 7 := id rfl
theorem l_8 : (8 : Int32) = nI 8 := id rfl
theorem l_9 : (9 : Int32) = nI 9 := id rfl
theorem l_10 : (10 : Int32) = nI 10 := id rfl
theorem l_11 : (11 : Int32) = nI 11 := id rfl
theorem l_12 : (12 : Int32) = nI 12 := id rfl
theorem l_13 : (13 : Int32) = nI 13 := id rfl
theorem l_14 : (14 : Int32) = nI 14 := id rfl
theorem l_15 : (15 : Int32) = nI 15 := id rfl
theorem l_16 : (16 : Int32) = nI 16 := id rfl
theorem l_17 : (17 : Int32) = nI 17 := id rfl
theorem l_18 : (18 : Int32) = nI 18 := id rfl
theorem l_19 : (19 : Int32) = nI 19 := id rfl
theorem l_20 : (20 : Int32) = nI 20 := id rfl
theorem l_21 : (21 : Int32) = nI 21 := id rfl
theorem l_22 : (22 : Int32) = nI 22 := id rfl
theorem l_23 : (23 : Int32) = nI 23 := id rfl
theorem l_24 : (24 : Int32) = nI 24 := id rfl
theorem l_25 : (25 : Int32) = nI 25 := id rfl
theorem l_26 : (26 : Int32) = nI 26 := id rfl
theorem l_27 : (27 : Int32) = nI 27 := id rfl
theorem l_28 : (28 : Int32) = nI 28 := id rfl
theorem l_29 : (29 : Int32) = nI 29 := id rfl
theorem l_30 : (30 : Int32) = nI 30 := id rfl
theorem l_31 : (31 : Int32) = nI 31 := id rfl
theorem l_32 : (32 : Int32) = nI 32 := id rfl
theorem l_33 : (33 : Int32) = nI 33 := id rfl
theorem l_34 : (34 : Int32) = nI 34 := id rfl
theorem l_35 : (35 : Int32) = nI 35 := id rfl
theorem l_36 : (36 : Int32) = nI 36 := id rfl
theorem l_37 : (37 : Int32) = nI 37 := id rfl
theorem l_38 : (38 : Int32) = nI 38 := id rfl
theorem l_39 : (39 : Int32) = nI 39 := id rfl
theorem l_40 : (40 : Int32) = nI 40 := id rfl
theorem l_41 : (41 : Int32) = nI 41 := id rfl
theorem l_42 : (42 : Int32) = nI 42 := id rfl
theorem l_43 : (43 : Int32) = nI 43 := id rfl
theorem l_44 : (44 : Int32) = nI 44 := id rfl
theorem l_45 : (45 : Int32) = nI 45 := id rfl
theorem l_47 : (47 : Int32) = nI 47 := id rfl
theorem l_48 : (48 : Int32) = nI 48 := id rfl
theorem l_50 : (50 : Int32) = nI 50 := id rfl
theorem l_52 : (52 : Int32) = nI 52 := id rfl
theorem l_60 : (60 : Int32) = nI 60 := id rfl
theorem l_61 : (61 : Int32) = nI 61 := id rfl
theorem l_63 : (63 : Int32) = nI 63 := id rfl
theorem l_80 : (80 : Int32) = nI 80 := id rfl
theorem l_99 : (99 : Int32) = nI 99 := id rfl
theorem l_100 : (100 : Int32) = nI 100 := id rfl
theorem l_101 : (101 : Int32) = nI 101 := id rfl
theorem l_102 : (102 : Int32) = nI 102 := id rfl
theorem l_103 : (103 : Int32) = nI 103 := id rfl
theorem l_105 : (105 : Int32) = nI 105 := id rfl
theorem l_106 : (106 : Int32) = nI 106 := id rfl
theorem l_107 : (107 : Int32) = nI 107 := id rfl
theorem l_108 : (108 : Int32) = nI 108 := id rfl
theorem l_109 : (109 : Int32) = nI 109 := id rfl
theorem l_110 : (110 : Int32) = nI 110 := id rfl
theorem l_111 : (111 : Int32) = nI 111 := id rfl
theorem l_112 : (112 : Int32) = nI 112 := id rfl
theorem l_114 : (114 : Int32) = nI 114 := id rfl
theorem l_115 : (115 : Int32) = nI 115 := id rfl
theorem l_116 : (116 : Int32) = nI 116 := id rfl
theorem l_117 : (117 : Int32) = nI 117 := id rfl
theorem l_118 : (118 : Int32) = nI 118 := id rfl
theorem l_119 : (119 : Int32) = nI 119 := id rfl
theorem l_120 : (120 : Int32) = nI 120 := id rfl
theorem l_122 : (122 : Int32) = nI 122 := id rfl
theorem l_168 : (168 : Int32) = nI 168 := id rfl
theorem l_200 : (200 : Int32) = nI 200 := id rfl
theorem l_320 : (320 : Int32) = nI 320 := id rfl
theorem l_360 : (360 : Int32) = nI 360 := id rfl
theorem l_528 : (528 : Int32) = nI 528 := id rfl
theorem l_548 : (548 : Int32) = nI 548 := id rfl
theorem l_1000 : (1000 : Int32) = nI 1000 := id rfl
theorem l_1023 : (1023 : Int32) = nI 1023 := id rfl
theorem l_2000 : (2000 : Int32) = nI 2000 := id rfl
theorem l_3000 : (3000 : Int32) = nI 3000 := id rfl
theorem l_1000000 : (1000000 : Int32) = nI 1000000 := id rfl
end MBA
