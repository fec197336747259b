/-! ===== what the methods reckon (printed by a program) ===== -/
section VCR
noncomputable def d_X3_endedLike_70 (M : Mem) : Option (Int32 × Mem) :=
  (d_X3_hasToldLike M).bind fun y1 =>
  if y1.1 = 0 then (
    some ((0 : Int32), y1.2))
  else (
    (d_X3_hasObjectsLike y1.2).bind fun y2 =>
    if y2.1 = 0 then (
      some ((0 : Int32), y2.2))
    else (
      some ((1 : Int32), y2.2)))
theorem b_X3_endedLike_70 {M z} (hP : Lay M) (h : d_X3_endedLike_70 M = some z) : VV Lay k_X3_endedLike 70 [(0, .ref 18), (1, .ref 28)] [] M z.2 (Qv (some (.int z.1)) z.2) xF := by
  unfold d_X3_endedLike_70 at h
  refine Y_aload_n (j := 0) dX3_endedLike_70 rfl rfl ?_
  refine Y_aload_n (j := 1) dX3_endedLike_71 rfl rfl ?_
  obtain ⟨y1, qy1, h⟩ := bindE h
  have cy1 := v_X3_hasToldLike hP qy1
  refine C_V1r dX3_endedLike_72 w7_1 i_X3_hasToldLike (lk_18 hP) ⟨Nat.le_of_ble_eq_true rfl, Nat.le_of_ble_eq_true rfl⟩ rfl (Nat.le_of_ble_eq_true rfl) (Nat.le_of_ble_eq_true rfl) (Nat.le_of_ble_eq_true rfl) (cy1) ?_
  have hPy1 := cy1.1.1
  refine Y_if_eq (tgt := 90) dX3_endedLike_75 (by decide) (fun hc1 => ?_) (fun hc1 => ?_)
  · replace h := ifT hc1 h
    refine Y_iconst (v := (0 : Int32)) dX3_endedLike_90 rfl ?_
    cases h
    exact Y_iret rfl (nar_bo (by decide)) dX3_endedLike_91 hPy1 ⟨rfl, rfl⟩
  · replace h := ifF hc1 h
    refine Y_aload_n (j := 0) dX3_endedLike_78 rfl rfl ?_
    refine Y_aload_n (j := 1) dX3_endedLike_79 rfl rfl ?_
    obtain ⟨y2, qy2, h⟩ := bindE h
    have cy2 := v_X3_hasObjectsLike hPy1 qy2
    refine C_V1r dX3_endedLike_80 w7_5 i_X3_hasObjectsLike (lk_18 hPy1) ⟨Nat.le_of_ble_eq_true rfl, Nat.le_of_ble_eq_true rfl⟩ rfl (Nat.le_of_ble_eq_true rfl) (Nat.le_of_ble_eq_true rfl) (Nat.le_of_ble_eq_true rfl) (cy2) ?_
    have hPy2 := cy2.1.1
    refine Y_if_eq (tgt := 90) dX3_endedLike_83 (by decide) (fun hc2 => ?_) (fun hc2 => ?_)
    · replace h := ifT hc2 h
      refine Y_iconst (v := (0 : Int32)) dX3_endedLike_90 rfl ?_
      cases h
      exact Y_iret rfl (nar_bo (by decide)) dX3_endedLike_91 hPy2 ⟨rfl, rfl⟩
    · replace h := ifF hc2 h
      refine Y_iconst (v := (1 : Int32)) dX3_endedLike_86 rfl ?_
      refine Y_goto (tgt := 91) dX3_endedLike_87 (by decide) ?_
      cases h
      exact Y_iret rfl (nar_bo (by decide)) dX3_endedLike_91 hPy2 ⟨rfl, rfl⟩
noncomputable def d_X3_endedLike (M : Mem) : Option (Int32 × Mem) :=
  if (mI M 18 13) = (mI M 28 13) then (
    if (mI M 18 14) = (mI M 28 14) then (
      if (mI M 18 15) = (mI M 28 15) then (
        if (mI M 18 12) = (mI M 28 12) then (
          if (mI M 18 13) = (118 : Int32) then (
            (d_X8_isSame (548 : Int32) M).bind fun y1 =>
            if y1.1 = 0 then (
              some ((0 : Int32), y1.2))
            else (
              d_X3_endedLike_70 y1.2))
          else (
            d_X3_endedLike_70 M))
        else (
          some ((0 : Int32), M)))
      else (
        some ((0 : Int32), M)))
    else (
      some ((0 : Int32), M)))
  else (
    some ((0 : Int32), M))
theorem b_X3_endedLike {M z} (hP : Lay M) (h : d_X3_endedLike M = some z) : VV Lay k_X3_endedLike 0 [(0, .ref 18), (1, .ref 28)] [] M z.2 (Qv (some (.int z.1)) z.2) xF := by
  unfold d_X3_endedLike at h
  refine Y_aload_n (j := 0) dX3_endedLike_0 rfl rfl ?_
  refine Z_geti dX3_endedLike_1 w1_193 (lk_18 hP) fi_4_13 ?_
  refine Y_aload_n (j := 1) dX3_endedLike_4 rfl rfl ?_
  refine Z_geti dX3_endedLike_5 w1_193 (lk_28 hP) fi_4_13 ?_
  refine Y_icmp_ne (tgt := 90) dX3_endedLike_8 (by decide) (fun hc1 => ?_) (fun hc1 => ?_)
  · replace h := ifF hc1 h
    refine Y_iconst (v := (0 : Int32)) dX3_endedLike_90 rfl ?_
    cases h
    exact Y_iret rfl (nar_bo (by decide)) dX3_endedLike_91 hP ⟨rfl, rfl⟩
  · replace h := ifT hc1 h
    refine Y_aload_n (j := 0) dX3_endedLike_11 rfl rfl ?_
    refine Z_geti dX3_endedLike_12 w1_195 (lk_18 hP) fi_4_14 ?_
    refine Y_aload_n (j := 1) dX3_endedLike_15 rfl rfl ?_
    refine Z_geti dX3_endedLike_16 w1_195 (lk_28 hP) fi_4_14 ?_
    refine Y_icmp_ne (tgt := 90) dX3_endedLike_19 (by decide) (fun hc2 => ?_) (fun hc2 => ?_)
    · replace h := ifF hc2 h
      refine Y_iconst (v := (0 : Int32)) dX3_endedLike_90 rfl ?_
      cases h
      exact Y_iret rfl (nar_bo (by decide)) dX3_endedLike_91 hP ⟨rfl, rfl⟩
    · replace h := ifT hc2 h
      refine Y_aload_n (j := 0) dX3_endedLike_22 rfl rfl ?_
      refine Z_geti dX3_endedLike_23 w1_197 (lk_18 hP) fi_4_15 ?_
      refine Y_aload_n (j := 1) dX3_endedLike_26 rfl rfl ?_
      refine Z_geti dX3_endedLike_27 w1_197 (lk_28 hP) fi_4_15 ?_
      refine Y_icmp_ne (tgt := 90) dX3_endedLike_30 (by decide) (fun hc3 => ?_) (fun hc3 => ?_)
      · replace h := ifF hc3 h
        refine Y_iconst (v := (0 : Int32)) dX3_endedLike_90 rfl ?_
        cases h
        exact Y_iret rfl (nar_bo (by decide)) dX3_endedLike_91 hP ⟨rfl, rfl⟩
      · replace h := ifT hc3 h
        refine Y_aload_n (j := 0) dX3_endedLike_33 rfl rfl ?_
        refine Z_geti dX3_endedLike_34 w1_191 (lk_18 hP) fi_4_12 ?_
        refine Y_aload_n (j := 1) dX3_endedLike_37 rfl rfl ?_
        refine Z_geti dX3_endedLike_38 w1_191 (lk_28 hP) fi_4_12 ?_
        refine Y_icmp_ne (tgt := 90) dX3_endedLike_41 (by decide) (fun hc4 => ?_) (fun hc4 => ?_)
        · replace h := ifF hc4 h
          refine Y_iconst (v := (0 : Int32)) dX3_endedLike_90 rfl ?_
          cases h
          exact Y_iret rfl (nar_bo (by decide)) dX3_endedLike_91 hP ⟨rfl, rfl⟩
        · replace h := ifT hc4 h
          refine Y_aload_n (j := 0) dX3_endedLike_44 rfl rfl ?_
          refine Z_geti dX3_endedLike_45 w1_193 (lk_18 hP) fi_4_13 ?_
          refine Y_bipush (v := (118 : Int32)) dX3_endedLike_48 rfl ?_
          refine Y_icmp_ne (tgt := 70) dX3_endedLike_50 (by decide) (fun hc5 => ?_) (fun hc5 => ?_)
          · replace h := ifF hc5 h
            refine VV.sub [0, 1] rfl ?_
            exact b_X3_endedLike_70  hP h
          · replace h := ifT hc5 h
            refine Y_aload_n (j := 0) dX3_endedLike_53 rfl rfl ?_
            refine Z_getr dX3_endedLike_54 w1_171 (lk_18 hP) fr_4_2 (lr_18_2 hP) ?_
            refine Y_sipush (v := (548 : Int32)) dX3_endedLike_57 rfl ?_
            refine Y_aload_n (j := 1) dX3_endedLike_60 rfl rfl ?_
            refine Z_getr dX3_endedLike_61 w1_171 (lk_28 hP) fr_4_2 (lr_28_2 hP) ?_
            obtain ⟨y1, qy1, h⟩ := bindE h
            have cy1 := v_X8_isSame hP qy1
            refine C_V2r dX3_endedLike_64 w6_234 i_X8_isSame (lk_19 hP) ⟨Nat.le_of_ble_eq_true rfl, Nat.le_of_ble_eq_true rfl⟩ rfl (Nat.le_of_ble_eq_true rfl) (Nat.le_of_ble_eq_true rfl) (Nat.le_of_ble_eq_true rfl) (cy1) ?_
            have hPy1 := cy1.1.1
            refine Y_if_eq (tgt := 90) dX3_endedLike_67 (by decide) (fun hc6 => ?_) (fun hc6 => ?_)
            · replace h := ifT hc6 h
              refine Y_iconst (v := (0 : Int32)) dX3_endedLike_90 rfl ?_
              cases h
              exact Y_iret rfl (nar_bo (by decide)) dX3_endedLike_91 hPy1 ⟨rfl, rfl⟩
            · replace h := ifF hc6 h
              refine VV.sub [0, 1] rfl ?_
              exact b_X3_endedLike_70  hPy1 h
theorem v_X3_endedLike {M z} (hP : Lay M) (h : d_X3_endedLike M = some z) : CC Lay k_X3_endedLike [.ref 18, .ref 28] M z.2 (Qv (some (.int z.1)) z.2) xF :=
  CC.ofVV (by decide) rfl (Nat.le_of_ble_eq_true rfl) (b_X3_endedLike hP h)
noncomputable def d_X4_bitsOf_142 (x2 : Int64) (x4 : UInt64) (x6 : Int64) (M : Mem) : Option (Int64 × Mem) :=
  bnd ((FP.d2l x4)) fun b1 =>
  if 0 ≤ (lg_cmp b1 (4503599627370496 : Int64)) then (
    some (((x2 ||| (x6 <<< ((52 : Int32).toInt64 &&& 63))) ||| (b1 &&& (4503599627370495 : Int64))), M))
  else (
    some ((x2 ||| b1), M))
theorem b_X4_bitsOf_142 {x2 : Int64} {x4 : UInt64} {x6 : Int64} {M z} (hP : Lay M) (h : d_X4_bitsOf_142 x2 x4 x6 M = some z) : VV Lay k_X4_bitsOf 142 [(2, .long x2), (4, .double x4), (6, .long x6)] [] M z.2 (Qv (some (.long z.1)) z.2) xF := by
  unfold d_X4_bitsOf_142 at h
  refine Y_dload (j := 1) dX4_bitsOf_142 rfl ?_
  refine Y_d2l dX4_bitsOf_144 ?_
  obtain ⟨b1, eb1, h⟩ := bndE h
  refine VV.topJ eb1 ?_
  refine Y_lstore (lv1 := [(8, .long b1), (2, .long x2), (4, .double x4), (6, .long x6)]) dX4_bitsOf_145 (by decide) rfl ?_
  refine Y_lload (j := 0) dX4_bitsOf_147 rfl ?_
  refine Y_ldc2 dX4_bitsOf_149 w7_46 ?_
  refine Y_lcmp dX4_bitsOf_152 ?_
  refine Y_if_ge (tgt := 161) dX4_bitsOf_153 (by decide) (fun hc1 => ?_) (fun hc1 => ?_)
  · replace h := ifT hc1 h
    refine Y_lload_n (j := 1) dX4_bitsOf_161 rfl rfl ?_
    refine Y_lload (j := 3) dX4_bitsOf_162 rfl ?_
    refine Y_bipush (v := (52 : Int32)) dX4_bitsOf_164 rfl ?_
    refine Y_lshl dX4_bitsOf_166 ?_
    refine Y_lor dX4_bitsOf_167 ?_
    refine Y_lload (j := 0) dX4_bitsOf_168 rfl ?_
    refine Y_ldc2 dX4_bitsOf_170 w7_47 ?_
    refine Y_land dX4_bitsOf_173 ?_
    refine Y_lor dX4_bitsOf_174 ?_
    cases h
    exact Y_lret rfl dX4_bitsOf_175 hP ⟨rfl, rfl⟩
  · replace h := ifF hc1 h
    refine Y_lload_n (j := 1) dX4_bitsOf_156 rfl rfl ?_
    refine Y_lload (j := 0) dX4_bitsOf_157 rfl ?_
    refine Y_lor dX4_bitsOf_159 ?_
    cases h
    exact Y_lret rfl dX4_bitsOf_160 hP ⟨rfl, rfl⟩
noncomputable def d_X4_bitsOf_98b (k98 : (UInt64 × Int64 × Int32) → Mem → Option (Int64 × Mem)) (x2 : Int64) (x4 : UInt64) (x6 : Int64) (x8 : Int32) (M : Mem) : Option (Int64 × Mem) :=
  if (2000 : Int32) ≤ x8 then (
    d_X4_bitsOf_142 x2 x4 x6 M)
  else (
    if 0 ≤ (Op.cmpValue (FP.dcmp x4 (4841369599423283200 : UInt64)) .g) then (
      d_X4_bitsOf_142 x2 x4 x6 M)
    else (
      if (lg_cmp x6 (1 : Int64)) ≤ 0 then (
        d_X4_bitsOf_142 x2 x4 x6 M)
      else (
        bnd ((FP.dmul x4 (4611686018427387904 : UInt64))) fun b1 =>
        bnd ((x6 - (1 : Int64))) fun b2 =>
        bnd ((x8 + (1 : Int32))) fun b3 =>
        k98 (b1, b2, b3) M)))
theorem b_X4_bitsOf_98b {k98 : (UInt64 × Int64 × Int32) → Mem → Option (Int64 × Mem)} {x2 : Int64} {x4 : UInt64} {x6 : Int64} {x8 : Int32} {M z} (hk98 : ∀ (a : (UInt64 × Int64 × Int32)) (M : Mem) (z : Int64 × Mem), Lay M → k98 a M = some z → VV Lay k_X4_bitsOf 98 [(2, .long x2), (4, .double a.1), (6, .long a.2.1), (8, .int a.2.2)] [] M z.2 (Qv (some (.long z.1)) z.2) xF) (hP : Lay M) (h : d_X4_bitsOf_98b k98 x2 x4 x6 x8 M = some z) : VV Lay k_X4_bitsOf 98 [(2, .long x2), (4, .double x4), (6, .long x6), (8, .int x8)] [] M z.2 (Qv (some (.long z.1)) z.2) xF := by
  unfold d_X4_bitsOf_98b at h
  refine Y_iload (j := 3) dX4_bitsOf_98 rfl ?_
  refine Y_sipush (v := (2000 : Int32)) dX4_bitsOf_100 rfl ?_
  refine Y_icmp_ge (tgt := 142) dX4_bitsOf_103 (by decide) (fun hc1 => ?_) (fun hc1 => ?_)
  · replace h := ifT hc1 h
    refine VV.sub [0, 1, 2] rfl ?_
    exact b_X4_bitsOf_142  hP h
  · replace h := ifF hc1 h
    refine Y_dload (j := 1) dX4_bitsOf_106 rfl ?_
    refine Y_ldc2d (by decide) dX4_bitsOf_108 w7_45 ?_
    refine Y_dcmp dX4_bitsOf_111 ?_
    refine Y_if_ge (tgt := 142) dX4_bitsOf_112 (by decide) (fun hc2 => ?_) (fun hc2 => ?_)
    · replace h := ifT hc2 h
      refine VV.sub [0, 1, 2] rfl ?_
      exact b_X4_bitsOf_142  hP h
    · replace h := ifF hc2 h
      refine Y_lload (j := 2) dX4_bitsOf_115 rfl ?_
      refine Y_lconst (v := (1 : Int64)) dX4_bitsOf_117 rfl ?_
      refine Y_lcmp dX4_bitsOf_118 ?_
      refine Y_if_le (tgt := 142) dX4_bitsOf_119 (by decide) (fun hc3 => ?_) (fun hc3 => ?_)
      · replace h := ifT hc3 h
        refine VV.sub [0, 1, 2] rfl ?_
        exact b_X4_bitsOf_142  hP h
      · replace h := ifF hc3 h
        refine Y_dload (j := 1) dX4_bitsOf_122 rfl ?_
        refine Y_ldc2d (by decide) dX4_bitsOf_124 w6_47 ?_
        refine Y_dmul dX4_bitsOf_127 ?_
        obtain ⟨b1, eb1, h⟩ := bndE h
        refine VV.topD eb1 ?_
        refine Y_dstore (lv1 := [(4, .double b1), (2, .long x2), (6, .long x6), (8, .int x8)]) dX4_bitsOf_128 (by decide) rfl ?_
        refine Y_lload (j := 2) dX4_bitsOf_130 rfl ?_
        refine Y_lconst (v := (1 : Int64)) dX4_bitsOf_132 rfl ?_
        refine Y_lsub dX4_bitsOf_133 ?_
        obtain ⟨b2, eb2, h⟩ := bndE h
        refine VV.topJ eb2 ?_
        refine Y_lstore (lv1 := [(6, .long b2), (4, .double b1), (2, .long x2), (8, .int x8)]) dX4_bitsOf_134 (by decide) rfl ?_
        obtain ⟨b3, eb3, h⟩ := bndE h
        refine Y_iinc (j := 3) (v := b3) (lv1 := [(8, .int b3), (6, .long b2), (4, .double b1), (2, .long x2)]) dX4_bitsOf_136 rfl eb3.symm (by decide) rfl ?_
        refine Y_goto (tgt := 98) dX4_bitsOf_139 (by decide) ?_
        refine VV.sub [3, 2, 1, 0] rfl ?_
        exact hk98 _ _ _ hP h
noncomputable def d_X4_bitsOf_98 (x2 : Int64) : Nat → (UInt64 × Int64 × Int32) → Mem → Option (Int64 × Mem) := lp fun k a M => d_X4_bitsOf_98b k x2 a.1 a.2.1 a.2.2 M
theorem b_X4_bitsOf_98 {x2 : Int64} (n : Nat) : ∀ (a : (UInt64 × Int64 × Int32)) (M : Mem) (z : Int64 × Mem), d_X4_bitsOf_98 x2 n a M = some z → Lay M → VV Lay k_X4_bitsOf 98 [(2, .long x2), (4, .double a.1), (6, .long a.2.1), (8, .int a.2.2)] [] M z.2 (Qv (some (.long z.1)) z.2) xF :=
  lp_ind (fun k hk a M z h hP => b_X4_bitsOf_98b  (fun a M z hP h => hk a M z h hP) hP h) n
noncomputable def d_X4_bitsOf_95 (x2 : Int64) (x4 : UInt64) (x6 : Int64) (M : Mem) : Option (Int64 × Mem) :=
  d_X4_bitsOf_98 x2 fuel (x4, x6, (0 : Int32)) M
theorem b_X4_bitsOf_95 {x2 : Int64} {x4 : UInt64} {x6 : Int64} {M z} (hP : Lay M) (h : d_X4_bitsOf_95 x2 x4 x6 M = some z) : VV Lay k_X4_bitsOf 95 [(2, .long x2), (4, .double x4), (6, .long x6)] [] M z.2 (Qv (some (.long z.1)) z.2) xF := by
  unfold d_X4_bitsOf_95 at h
  refine Y_iconst (v := (0 : Int32)) dX4_bitsOf_95 rfl ?_
  refine Y_istore (lv1 := [(8, .int (0 : Int32)), (2, .long x2), (4, .double x4), (6, .long x6)]) dX4_bitsOf_96 (by decide) rfl ?_
  refine VV.sub [1, 2, 3, 0] rfl ?_
  exact b_X4_bitsOf_98  fuel _ _ _ h hP
noncomputable def d_X4_bitsOf_58b (k58 : (UInt64 × Int64 × Int32) → Mem → Option (Int64 × Mem)) (x2 : Int64) (x4 : UInt64) (x6 : Int64) (x8 : Int32) (M : Mem) : Option (Int64 × Mem) :=
  if (2000 : Int32) ≤ x8 then (
    d_X4_bitsOf_95 x2 x4 x6 M)
  else (
    if (Op.cmpValue (FP.dcmp x4 (4845873199050653696 : UInt64)) .l) < 0 then (
      d_X4_bitsOf_95 x2 x4 x6 M)
    else (
      bnd ((FP.ddiv x4 (4611686018427387904 : UInt64))) fun b1 =>
      bnd ((x6 + (1 : Int64))) fun b2 =>
      bnd ((x8 + (1 : Int32))) fun b3 =>
      k58 (b1, b2, b3) M))
theorem b_X4_bitsOf_58b {k58 : (UInt64 × Int64 × Int32) → Mem → Option (Int64 × Mem)} {x2 : Int64} {x4 : UInt64} {x6 : Int64} {x8 : Int32} {M z} (hk58 : ∀ (a : (UInt64 × Int64 × Int32)) (M : Mem) (z : Int64 × Mem), Lay M → k58 a M = some z → VV Lay k_X4_bitsOf 58 [(2, .long x2), (4, .double a.1), (6, .long a.2.1), (8, .int a.2.2)] [] M z.2 (Qv (some (.long z.1)) z.2) xF) (hP : Lay M) (h : d_X4_bitsOf_58b k58 x2 x4 x6 x8 M = some z) : VV Lay k_X4_bitsOf 58 [(2, .long x2), (4, .double x4), (6, .long x6), (8, .int x8)] [] M z.2 (Qv (some (.long z.1)) z.2) xF := by
  unfold d_X4_bitsOf_58b at h
  refine Y_iload (j := 3) dX4_bitsOf_58 rfl ?_
  refine Y_sipush (v := (2000 : Int32)) dX4_bitsOf_60 rfl ?_
  refine Y_icmp_ge (tgt := 95) dX4_bitsOf_63 (by decide) (fun hc1 => ?_) (fun hc1 => ?_)
  · replace h := ifT hc1 h
    refine VV.sub [0, 1, 2] rfl ?_
    exact b_X4_bitsOf_95  hP h
  · replace h := ifF hc1 h
    refine Y_dload (j := 1) dX4_bitsOf_66 rfl ?_
    refine Y_ldc2d (by decide) dX4_bitsOf_68 w7_44 ?_
    refine Y_dcmp dX4_bitsOf_71 ?_
    refine Y_if_lt (tgt := 95) dX4_bitsOf_72 (by decide) (fun hc2 => ?_) (fun hc2 => ?_)
    · replace h := ifT hc2 h
      refine VV.sub [0, 1, 2] rfl ?_
      exact b_X4_bitsOf_95  hP h
    · replace h := ifF hc2 h
      refine Y_dload (j := 1) dX4_bitsOf_75 rfl ?_
      refine Y_ldc2d (by decide) dX4_bitsOf_77 w6_47 ?_
      refine Y_ddiv dX4_bitsOf_80 ?_
      obtain ⟨b1, eb1, h⟩ := bndE h
      refine VV.topD eb1 ?_
      refine Y_dstore (lv1 := [(4, .double b1), (2, .long x2), (6, .long x6), (8, .int x8)]) dX4_bitsOf_81 (by decide) rfl ?_
      refine Y_lload (j := 2) dX4_bitsOf_83 rfl ?_
      refine Y_lconst (v := (1 : Int64)) dX4_bitsOf_85 rfl ?_
      refine Y_ladd dX4_bitsOf_86 ?_
      obtain ⟨b2, eb2, h⟩ := bndE h
      refine VV.topJ eb2 ?_
      refine Y_lstore (lv1 := [(6, .long b2), (4, .double b1), (2, .long x2), (8, .int x8)]) dX4_bitsOf_87 (by decide) rfl ?_
      obtain ⟨b3, eb3, h⟩ := bndE h
      refine Y_iinc (j := 3) (v := b3) (lv1 := [(8, .int b3), (6, .long b2), (4, .double b1), (2, .long x2)]) dX4_bitsOf_89 rfl eb3.symm (by decide) rfl ?_
      refine Y_goto (tgt := 58) dX4_bitsOf_92 (by decide) ?_
      refine VV.sub [3, 2, 1, 0] rfl ?_
      exact hk58 _ _ _ hP h
noncomputable def d_X4_bitsOf_58 (x2 : Int64) : Nat → (UInt64 × Int64 × Int32) → Mem → Option (Int64 × Mem) := lp fun k a M => d_X4_bitsOf_58b k x2 a.1 a.2.1 a.2.2 M
theorem b_X4_bitsOf_58 {x2 : Int64} (n : Nat) : ∀ (a : (UInt64 × Int64 × Int32)) (M : Mem) (z : Int64 × Mem), d_X4_bitsOf_58 x2 n a M = some z → Lay M → VV Lay k_X4_bitsOf 58 [(2, .long x2), (4, .double a.1), (6, .long a.2.1), (8, .int a.2.2)] [] M z.2 (Qv (some (.long z.1)) z.2) xF :=
  lp_ind (fun k hk a M z h hP => b_X4_bitsOf_58b  (fun a M z hP h => hk a M z h hP) hP h) n
noncomputable def d_X4_bitsOf_48 (x2 : Int64) (s0 : UInt64) (M : Mem) : Option (Int64 × Mem) :=
  bnd ((1075 : Int64)) fun b1 =>
  d_X4_bitsOf_58 x2 fuel (s0, b1, (0 : Int32)) M
theorem b_X4_bitsOf_48 {x2 : Int64} {s0 : UInt64} {M z} (hP : Lay M) (h : d_X4_bitsOf_48 x2 s0 M = some z) : VV Lay k_X4_bitsOf 48 [(2, .long x2)] [.double s0] M z.2 (Qv (some (.long z.1)) z.2) xF := by
  unfold d_X4_bitsOf_48 at h
  refine Y_dstore (lv1 := [(4, .double s0), (2, .long x2)]) dX4_bitsOf_48 (by decide) rfl ?_
  refine Y_ldc2 dX4_bitsOf_50 w7_43 ?_
  obtain ⟨b1, eb1, h⟩ := bndE h
  refine VV.topJ eb1 ?_
  refine Y_lstore (lv1 := [(6, .long b1), (4, .double s0), (2, .long x2)]) dX4_bitsOf_53 (by decide) rfl ?_
  refine Y_iconst (v := (0 : Int32)) dX4_bitsOf_55 rfl ?_
  refine Y_istore (lv1 := [(8, .int (0 : Int32)), (6, .long b1), (4, .double s0), (2, .long x2)]) dX4_bitsOf_56 (by decide) rfl ?_
  refine VV.sub [3, 2, 1, 0] rfl ?_
  exact b_X4_bitsOf_58  fuel _ _ _ h hP
noncomputable def d_X4_bitsOf_14 (x0 : UInt64) (s0 : Int64) (M : Mem) : Option (Int64 × Mem) :=
  if (Op.cmpValue (FP.dcmp x0 FP.dconst0) .l) = 0 then (
    some (s0, M))
  else (
    (d_X4_isEndless x0 M).bind fun y1 =>
    if y1.1 = 0 then (
      if 0 ≤ (Op.cmpValue (FP.dcmp x0 FP.dconst0) .g) then (
        d_X4_bitsOf_48 s0 x0 y1.2)
      else (
        d_X4_bitsOf_48 s0 (FP.dneg x0) y1.2))
    else (
      some ((s0 ||| (9218868437227405312 : Int64)), y1.2)))
theorem b_X4_bitsOf_14 {x0 : UInt64} {s0 : Int64} {M z} (hP : Lay M) (h : d_X4_bitsOf_14 x0 s0 M = some z) : VV Lay k_X4_bitsOf 14 [(0, .double x0)] [.long s0] M z.2 (Qv (some (.long z.1)) z.2) xF := by
  unfold d_X4_bitsOf_14 at h
  refine Y_lstore_n (lv1 := [(2, .long s0), (0, .double x0)]) dX4_bitsOf_14 rfl (by decide) rfl ?_
  refine Y_dload_n (j := 1) dX4_bitsOf_15 rfl rfl ?_
  refine Y_dconst0 dX4_bitsOf_16 ?_
  refine Y_dcmp dX4_bitsOf_17 ?_
  refine Y_if_ne (tgt := 23) dX4_bitsOf_18 (by decide) (fun hc1 => ?_) (fun hc1 => ?_)
  · replace h := ifF hc1 h
    refine Y_dload_n (j := 1) dX4_bitsOf_23 rfl rfl ?_
    obtain ⟨y1, qy1, h⟩ := bindE h
    have cy1 := v_X4_isEndless hP qy1
    refine C_S1r dX4_bitsOf_24 w6_36 i_X4_isEndless (Nat.le_of_ble_eq_true rfl) (Nat.le_of_ble_eq_true rfl) (Nat.le_of_ble_eq_true rfl) (cy1) ?_
    have hPy1 := cy1.1.1
    refine Y_if_eq (tgt := 36) dX4_bitsOf_27 (by decide) (fun hc2 => ?_) (fun hc2 => ?_)
    · replace h := ifT hc2 h
      refine Y_dload_n (j := 1) dX4_bitsOf_36 rfl rfl ?_
      refine Y_dconst0 dX4_bitsOf_37 ?_
      refine Y_dcmp dX4_bitsOf_38 ?_
      refine Y_if_ge (tgt := 47) dX4_bitsOf_39 (by decide) (fun hc3 => ?_) (fun hc3 => ?_)
      · replace h := ifT hc3 h
        refine Y_dload_n (j := 1) dX4_bitsOf_47 rfl rfl ?_
        refine VV.sub [0] rfl ?_
        exact b_X4_bitsOf_48  hPy1 h
      · replace h := ifF hc3 h
        refine Y_dload_n (j := 1) dX4_bitsOf_42 rfl rfl ?_
        refine Y_dneg dX4_bitsOf_43 ?_
        refine Y_goto (tgt := 48) dX4_bitsOf_44 (by decide) ?_
        refine VV.sub [0] rfl ?_
        exact b_X4_bitsOf_48  hPy1 h
    · replace h := ifF hc2 h
      refine Y_lload_n (j := 0) dX4_bitsOf_30 rfl rfl ?_
      refine Y_ldc2 dX4_bitsOf_31 w7_42 ?_
      refine Y_lor dX4_bitsOf_34 ?_
      cases h
      exact Y_lret rfl dX4_bitsOf_35 hPy1 ⟨rfl, rfl⟩
  · replace h := ifT hc1 h
    refine Y_lload_n (j := 0) dX4_bitsOf_21 rfl rfl ?_
    cases h
    exact Y_lret rfl dX4_bitsOf_22 hP ⟨rfl, rfl⟩
noncomputable def d_X4_bitsOf (x0 : UInt64) (M : Mem) : Option (Int64 × Mem) :=
  (d_X4_isNegative x0 M).bind fun y1 =>
  if y1.1 = 0 then (
    d_X4_bitsOf_14 x0 (0 : Int64) y1.2)
  else (
    d_X4_bitsOf_14 x0 (-9223372036854775808 : Int64) y1.2)
theorem b_X4_bitsOf {x0 : UInt64} {M z} (hP : Lay M) (h : d_X4_bitsOf x0 M = some z) : VV Lay k_X4_bitsOf 0 [(0, .double x0)] [] M z.2 (Qv (some (.long z.1)) z.2) xF := by
  unfold d_X4_bitsOf at h
  refine Y_dload_n (j := 0) dX4_bitsOf_0 rfl rfl ?_
  obtain ⟨y1, qy1, h⟩ := bindE h
  have cy1 := v_X4_isNegative hP qy1
  refine C_S1r dX4_bitsOf_1 w7_40 i_X4_isNegative (Nat.le_of_ble_eq_true rfl) (Nat.le_of_ble_eq_true rfl) (Nat.le_of_ble_eq_true rfl) (cy1) ?_
  have hPy1 := cy1.1.1
  refine Y_if_eq (tgt := 13) dX4_bitsOf_4 (by decide) (fun hc1 => ?_) (fun hc1 => ?_)
  · replace h := ifT hc1 h
    refine Y_lconst (v := (0 : Int64)) dX4_bitsOf_13 rfl ?_
    refine VV.sub [0] rfl ?_
    exact b_X4_bitsOf_14  hPy1 h
  · replace h := ifF hc1 h
    refine Y_ldc2 dX4_bitsOf_7 w7_41 ?_
    refine Y_goto (tgt := 14) dX4_bitsOf_10 (by decide) ?_
    refine VV.sub [0] rfl ?_
    exact b_X4_bitsOf_14  hPy1 h
theorem v_X4_bitsOf {x0 : UInt64} {M z} (hP : Lay M) (h : d_X4_bitsOf x0 M = some z) : CC Lay k_X4_bitsOf [.double x0] M z.2 (Qv (some (.long z.1)) z.2) xF :=
  CC.ofVV (by decide) rfl (Nat.le_of_ble_eq_true rfl) (b_X4_bitsOf hP h)
noncomputable def d_X5_init (r0 : Nat) (M : Mem) : Option (Unit × Mem) :=
  bnd (nx M) fun r_1 => okk (r_1 < 2147483648) <|
  bnd (sN M r_1 21 8) fun M1 =>
  okk (mK M1 r0 = 5) <|
  bnd (sR M1 r0 0 (some r_1)) fun M2 =>
  bnd (nx M2) fun r_2 => okk (r_2 < 2147483648) <|
  bnd (sN M2 r_2 21 8) fun M3 =>
  okk (mK M3 r0 = 5) <|
  bnd (sR M3 r0 1 (some r_2)) fun M4 =>
  bnd (nx M4) fun r_3 => okk (r_3 < 2147483648) <|
  bnd (sN M4 r_3 21 8) fun M5 =>
  okk (mK M5 r0 = 5) <|
  bnd (sR M5 r0 2 (some r_3)) fun M6 =>
  bnd (nx M6) fun r_4 => okk (r_4 < 2147483648) <|
  bnd (sN M6 r_4 22 320) fun M7 =>
  okk (mK M7 r0 = 5) <|
  bnd (sR M7 r0 3 (some r_4)) fun M8 =>
  bnd (nx M8) fun r_5 => okk (r_5 < 2147483648) <|
  bnd (sN M8 r_5 21 320) fun M9 =>
  okk (mK M9 r0 = 5) <|
  bnd (sR M9 r0 4 (some r_5)) fun M10 =>
  bnd (nx M10) fun r_6 => okk (r_6 < 2147483648) <|
  bnd (sN M10 r_6 21 8) fun M11 =>
  okk (mK M11 r0 = 5) <|
  bnd (sR M11 r0 5 (some r_6)) fun M12 =>
  bnd (nx M12) fun r_7 => okk (r_7 < 2147483648) <|
  bnd (sN M12 r_7 21 5) fun M13 =>
  okk (mK M13 r0 = 5) <|
  bnd (sR M13 r0 6 (some r_7)) fun M14 =>
  bnd (nx M14) fun r_8 => okk (r_8 < 2147483648) <|
  bnd (sN M14 r_8 21 30) fun M15 =>
  okk (mK M15 r0 = 5) <|
  bnd (sR M15 r0 7 (some r_8)) fun M16 =>
  okk (mK M16 r0 = 5) <|
  (mR M16 r0 2).bind fun r_9 =>
  (d_J7_fill_53178 r_9 (-1 : Int32) M16).bind fun y1 =>
  okk (mK y1.2 r0 = 5) <|
  (mR y1.2 r0 7).bind fun r_10 =>
  (d_J7_fill_53178 r_10 (-1 : Int32) y1.2).bind fun y2 =>
  some ((), y2.2)
theorem b_X5_init {M0 : Mem} {r0 : Nat} {M z} (hP : (Kx r0 M0) M) (h : d_X5_init r0 M = some z) : VV (Kx r0 M0) k_X5_init 0 [(0, .ref r0)] [] M z.2 (Qv (none) z.2) xF := by
  unfold d_X5_init at h
  refine Y_aload_n (j := 0) dX5_init_0 rfl rfl ?_
  refine Y_oinit dX5_init_1 w1_48 ?_
  refine Y_aload_n (j := 0) dX5_init_4 rfl rfl ?_
  refine Y_bipush (v := (8 : Int32)) dX5_init_5 rfl ?_
  obtain ⟨r_1, er_1, h⟩ := bndE h
  obtain ⟨hb1, h⟩ := okE h
  refine Y_newa (a := r_1) (t := 21) (N := 8) dX5_init_7 (by decide) (by decide) rfl w1_100 (hP.free er_1) hb1 (by decide) rfl (by decide) ?_
  obtain ⟨M1, eM1, h⟩ := bndE h
  refine VV.mem eM1 ?_
  have hP1 := hP.wN er_1 (by decide) eM1
  obtain ⟨hb2, h⟩ := okE h
  refine Z_putr dX5_init_9 w1_52 hb2 fr_5_0 (Or.inr ⟨rfl, rfl⟩) ?_
  obtain ⟨M2, eM2, h⟩ := bndE h
  refine VV.mem eM2 ?_
  have hP2 := hP1.wR0 (by omega) eM2
  refine Y_aload_n (j := 0) dX5_init_12 rfl rfl ?_
  refine Y_bipush (v := (8 : Int32)) dX5_init_13 rfl ?_
  obtain ⟨r_2, er_2, h⟩ := bndE h
  obtain ⟨hb3, h⟩ := okE h
  refine Y_newa (a := r_2) (t := 21) (N := 8) dX5_init_15 (by decide) (by decide) rfl w1_100 (hP2.free er_2) hb3 (by decide) rfl (by decide) ?_
  obtain ⟨M3, eM3, h⟩ := bndE h
  refine VV.mem eM3 ?_
  have hP3 := hP2.wN er_2 (by decide) eM3
  obtain ⟨hb4, h⟩ := okE h
  refine Z_putr dX5_init_17 w1_56 hb4 fr_5_1 (Or.inr ⟨rfl, rfl⟩) ?_
  obtain ⟨M4, eM4, h⟩ := bndE h
  refine VV.mem eM4 ?_
  have hP4 := hP3.wR0 (by omega) eM4
  refine Y_aload_n (j := 0) dX5_init_20 rfl rfl ?_
  refine Y_bipush (v := (8 : Int32)) dX5_init_21 rfl ?_
  obtain ⟨r_3, er_3, h⟩ := bndE h
  obtain ⟨hb5, h⟩ := okE h
  refine Y_newa (a := r_3) (t := 21) (N := 8) dX5_init_23 (by decide) (by decide) rfl w1_100 (hP4.free er_3) hb5 (by decide) rfl (by decide) ?_
  obtain ⟨M5, eM5, h⟩ := bndE h
  refine VV.mem eM5 ?_
  have hP5 := hP4.wN er_3 (by decide) eM5
  obtain ⟨hb6, h⟩ := okE h
  refine Z_putr dX5_init_25 w1_58 hb6 fr_5_2 (Or.inr ⟨rfl, rfl⟩) ?_
  obtain ⟨M6, eM6, h⟩ := bndE h
  refine VV.mem eM6 ?_
  have hP6 := hP5.wR0 (by omega) eM6
  refine Y_aload_n (j := 0) dX5_init_28 rfl rfl ?_
  refine Y_sipush (v := (320 : Int32)) dX5_init_29 rfl ?_
  obtain ⟨r_4, er_4, h⟩ := bndE h
  obtain ⟨hb7, h⟩ := okE h
  refine Y_newa (a := r_4) (t := 22) (N := 320) dX5_init_32 (by decide) (by decide) rfl w1_101 (hP6.free er_4) hb7 (by decide) rfl (by decide) ?_
  obtain ⟨M7, eM7, h⟩ := bndE h
  refine VV.mem eM7 ?_
  have hP7 := hP6.wN er_4 (by decide) eM7
  obtain ⟨hb8, h⟩ := okE h
  refine Z_putr dX5_init_34 w1_61 hb8 fr_5_3 (Or.inr ⟨rfl, rfl⟩) ?_
  obtain ⟨M8, eM8, h⟩ := bndE h
  refine VV.mem eM8 ?_
  have hP8 := hP7.wR0 (by omega) eM8
  refine Y_aload_n (j := 0) dX5_init_37 rfl rfl ?_
  refine Y_sipush (v := (320 : Int32)) dX5_init_38 rfl ?_
  obtain ⟨r_5, er_5, h⟩ := bndE h
  obtain ⟨hb9, h⟩ := okE h
  refine Y_newa (a := r_5) (t := 21) (N := 320) dX5_init_41 (by decide) (by decide) rfl w1_100 (hP8.free er_5) hb9 (by decide) rfl (by decide) ?_
  obtain ⟨M9, eM9, h⟩ := bndE h
  refine VV.mem eM9 ?_
  have hP9 := hP8.wN er_5 (by decide) eM9
  obtain ⟨hb10, h⟩ := okE h
  refine Z_putr dX5_init_43 w1_66 hb10 fr_5_4 (Or.inr ⟨rfl, rfl⟩) ?_
  obtain ⟨M10, eM10, h⟩ := bndE h
  refine VV.mem eM10 ?_
  have hP10 := hP9.wR0 (by omega) eM10
  refine Y_aload_n (j := 0) dX5_init_46 rfl rfl ?_
  refine Y_bipush (v := (8 : Int32)) dX5_init_47 rfl ?_
  obtain ⟨r_6, er_6, h⟩ := bndE h
  obtain ⟨hb11, h⟩ := okE h
  refine Y_newa (a := r_6) (t := 21) (N := 8) dX5_init_49 (by decide) (by decide) rfl w1_100 (hP10.free er_6) hb11 (by decide) rfl (by decide) ?_
  obtain ⟨M11, eM11, h⟩ := bndE h
  refine VV.mem eM11 ?_
  have hP11 := hP10.wN er_6 (by decide) eM11
  obtain ⟨hb12, h⟩ := okE h
  refine Z_putr dX5_init_51 w1_69 hb12 fr_5_5 (Or.inr ⟨rfl, rfl⟩) ?_
  obtain ⟨M12, eM12, h⟩ := bndE h
  refine VV.mem eM12 ?_
  have hP12 := hP11.wR0 (by omega) eM12
  refine Y_aload_n (j := 0) dX5_init_54 rfl rfl ?_
  refine Y_iconst (v := (5 : Int32)) dX5_init_55 rfl ?_
  obtain ⟨r_7, er_7, h⟩ := bndE h
  obtain ⟨hb13, h⟩ := okE h
  refine Y_newa (a := r_7) (t := 21) (N := 5) dX5_init_56 (by decide) (by decide) rfl w1_100 (hP12.free er_7) hb13 (by decide) rfl (by decide) ?_
  obtain ⟨M13, eM13, h⟩ := bndE h
  refine VV.mem eM13 ?_
  have hP13 := hP12.wN er_7 (by decide) eM13
  obtain ⟨hb14, h⟩ := okE h
  refine Z_putr dX5_init_58 w1_72 hb14 fr_5_6 (Or.inr ⟨rfl, rfl⟩) ?_
  obtain ⟨M14, eM14, h⟩ := bndE h
  refine VV.mem eM14 ?_
  have hP14 := hP13.wR0 (by omega) eM14
  refine Y_aload_n (j := 0) dX5_init_61 rfl rfl ?_
  refine Y_bipush (v := (30 : Int32)) dX5_init_62 rfl ?_
  obtain ⟨r_8, er_8, h⟩ := bndE h
  obtain ⟨hb15, h⟩ := okE h
  refine Y_newa (a := r_8) (t := 21) (N := 30) dX5_init_64 (by decide) (by decide) rfl w1_100 (hP14.free er_8) hb15 (by decide) rfl (by decide) ?_
  obtain ⟨M15, eM15, h⟩ := bndE h
  refine VV.mem eM15 ?_
  have hP15 := hP14.wN er_8 (by decide) eM15
  obtain ⟨hb16, h⟩ := okE h
  refine Z_putr dX5_init_66 w1_73 hb16 fr_5_7 (Or.inr ⟨rfl, rfl⟩) ?_
  obtain ⟨M16, eM16, h⟩ := bndE h
  refine VV.mem eM16 ?_
  have hP16 := hP15.wR0 (by omega) eM16
  refine Y_aload_n (j := 0) dX5_init_69 rfl rfl ?_
  obtain ⟨hb17, h⟩ := okE h
  obtain ⟨r_9, er_9, h⟩ := bindE h
  refine Z_getr dX5_init_70 w1_58 hb17 fr_5_2 er_9 ?_
  refine Y_iconst (v := (-1 : Int32)) dX5_init_73 rfl ?_
  obtain ⟨y1, qy1, h⟩ := bindE h
  have cy1 := v_J7_fill_53178 hP16.fsh qy1
  refine C_S2o dX5_init_74 w1_49 i_J7_fill_53178 (Nat.le_of_ble_eq_true rfl) (Nat.le_of_ble_eq_true rfl) (Nat.le_of_ble_eq_true rfl) (cy1) ?_
  have hPy1 := hP16.jdk cy1.1.1
  refine Y_aload_n (j := 0) dX5_init_77 rfl rfl ?_
  obtain ⟨hb18, h⟩ := okE h
  obtain ⟨r_10, er_10, h⟩ := bindE h
  refine Z_getr dX5_init_78 w1_73 hb18 fr_5_7 er_10 ?_
  refine Y_iconst (v := (-1 : Int32)) dX5_init_81 rfl ?_
  obtain ⟨y2, qy2, h⟩ := bindE h
  have cy2 := v_J7_fill_53178 hPy1.fsh qy2
  refine C_S2o dX5_init_82 w1_49 i_J7_fill_53178 (Nat.le_of_ble_eq_true rfl) (Nat.le_of_ble_eq_true rfl) (Nat.le_of_ble_eq_true rfl) (cy2) ?_
  have hPy2 := hPy1.jdk cy2.1.1
  cases h
  exact Y_vret rfl dX5_init_85 hPy2 ⟨rfl, rfl⟩
theorem v_X5_init {r0 : Nat} {M z} (hP : Fsh M) (hr : r0 ≤ nx M) (h : d_X5_init r0 M = some z) : CC (Kx r0 M) k_X5_init [.ref r0] M z.2 (Qv (none) z.2) xF :=
  CC.ofVV (by decide) rfl (Nat.le_of_ble_eq_true rfl) (b_X5_init (Kx.refl hP hr) h)
noncomputable def d_X5_hasFunction (x1 : Int32) (M : Mem) : Option (Int32 × Mem) :=
  if x1 < 0 then (
    some ((0 : Int32), M))
  else (
    if (mI M 2 8) ≤ x1 then (
      some ((0 : Int32), M))
    else (
      some ((1 : Int32), M)))
theorem b_X5_hasFunction {x1 : Int32} {M z} (hP : Lay M) (h : d_X5_hasFunction x1 M = some z) : VV Lay k_X5_hasFunction 0 [(0, .ref 2), (1, .int x1)] [] M z.2 (Qv (some (.int z.1)) z.2) xF := by
  unfold d_X5_hasFunction at h
  refine Y_iload_n (j := 1) dX5_hasFunction_0 rfl rfl ?_
  refine Y_if_lt (tgt := 16) dX5_hasFunction_1 (by decide) (fun hc1 => ?_) (fun hc1 => ?_)
  · replace h := ifT hc1 h
    refine Y_iconst (v := (0 : Int32)) dX5_hasFunction_16 rfl ?_
    cases h
    exact Y_iret rfl (nar_bo (by decide)) dX5_hasFunction_17 hP ⟨rfl, rfl⟩
  · replace h := ifF hc1 h
    refine Y_iload_n (j := 1) dX5_hasFunction_4 rfl rfl ?_
    refine Y_aload_n (j := 0) dX5_hasFunction_5 rfl rfl ?_
    refine Z_geti dX5_hasFunction_6 w1_75 (lk_2 hP) fi_5_8 ?_
    refine Y_icmp_ge (tgt := 16) dX5_hasFunction_9 (by decide) (fun hc2 => ?_) (fun hc2 => ?_)
    · replace h := ifT hc2 h
      refine Y_iconst (v := (0 : Int32)) dX5_hasFunction_16 rfl ?_
      cases h
      exact Y_iret rfl (nar_bo (by decide)) dX5_hasFunction_17 hP ⟨rfl, rfl⟩
    · replace h := ifF hc2 h
      refine Y_iconst (v := (1 : Int32)) dX5_hasFunction_12 rfl ?_
      refine Y_goto (tgt := 17) dX5_hasFunction_13 (by decide) ?_
      cases h
      exact Y_iret rfl (nar_bo (by decide)) dX5_hasFunction_17 hP ⟨rfl, rfl⟩
theorem v_X5_hasFunction {x1 : Int32} {M z} (hP : Lay M) (h : d_X5_hasFunction x1 M = some z) : CC Lay k_X5_hasFunction [.ref 2, .int x1] M z.2 (Qv (some (.int z.1)) z.2) xF :=
  CC.ofVV (by decide) rfl (Nat.le_of_ble_eq_true rfl) (b_X5_hasFunction hP h)
noncomputable def d_X5_hasClass (x1 : Int32) (M : Mem) : Option (Int32 × Mem) :=
  if x1 < 0 then (
    some ((0 : Int32), M))
  else (
    if (mI M 2 9) ≤ x1 then (
      some ((0 : Int32), M))
    else (
      some ((1 : Int32), M)))
theorem b_X5_hasClass {x1 : Int32} {M z} (hP : Lay M) (h : d_X5_hasClass x1 M = some z) : VV Lay k_X5_hasClass 0 [(0, .ref 2), (1, .int x1)] [] M z.2 (Qv (some (.int z.1)) z.2) xF := by
  unfold d_X5_hasClass at h
  refine Y_iload_n (j := 1) dX5_hasClass_0 rfl rfl ?_
  refine Y_if_lt (tgt := 16) dX5_hasClass_1 (by decide) (fun hc1 => ?_) (fun hc1 => ?_)
  · replace h := ifT hc1 h
    refine Y_iconst (v := (0 : Int32)) dX5_hasClass_16 rfl ?_
    cases h
    exact Y_iret rfl (nar_bo (by decide)) dX5_hasClass_17 hP ⟨rfl, rfl⟩
  · replace h := ifF hc1 h
    refine Y_iload_n (j := 1) dX5_hasClass_4 rfl rfl ?_
    refine Y_aload_n (j := 0) dX5_hasClass_5 rfl rfl ?_
    refine Z_geti dX5_hasClass_6 w1_77 (lk_2 hP) fi_5_9 ?_
    refine Y_icmp_ge (tgt := 16) dX5_hasClass_9 (by decide) (fun hc2 => ?_) (fun hc2 => ?_)
    · replace h := ifT hc2 h
      refine Y_iconst (v := (0 : Int32)) dX5_hasClass_16 rfl ?_
      cases h
      exact Y_iret rfl (nar_bo (by decide)) dX5_hasClass_17 hP ⟨rfl, rfl⟩
    · replace h := ifF hc2 h
      refine Y_iconst (v := (1 : Int32)) dX5_hasClass_12 rfl ?_
      refine Y_goto (tgt := 17) dX5_hasClass_13 (by decide) ?_
      cases h
      exact Y_iret rfl (nar_bo (by decide)) dX5_hasClass_17 hP ⟨rfl, rfl⟩
theorem v_X5_hasClass {x1 : Int32} {M z} (hP : Lay M) (h : d_X5_hasClass x1 M = some z) : CC Lay k_X5_hasClass [.ref 2, .int x1] M z.2 (Qv (some (.int z.1)) z.2) xF :=
  CC.ofVV (by decide) rfl (Nat.le_of_ble_eq_true rfl) (b_X5_hasClass hP h)
noncomputable def d_X5_addFunctionWith (x1 : Int32) (M : Mem) : Option (Int32 × Mem) :=
  okk (vp_in (mI M 2 8) 8) <|
  bnd (sI M 3 (mI M 2 8).toNatClampNeg x1) fun M1 =>
  bnd (sI M1 2 8 ((mI M1 2 8) + (1 : Int32))) fun M2 =>
  some (((mI M2 2 8) - (1 : Int32)), M2)
theorem b_X5_addFunctionWith {x1 : Int32} {M z} (hP : Lay M) (h : d_X5_addFunctionWith x1 M = some z) : VV Lay k_X5_addFunctionWith 0 [(0, .ref 2), (1, .int x1)] [] M z.2 (Qv (some (.int z.1)) z.2) xF := by
  unfold d_X5_addFunctionWith at h
  refine Y_aload_n (j := 0) dX5_addFunctionWith_0 rfl rfl ?_
  refine Z_getr dX5_addFunctionWith_1 w1_52 (lk_2 hP) fr_5_0 (lr_2_0 hP) ?_
  refine Y_aload_n (j := 0) dX5_addFunctionWith_4 rfl rfl ?_
  refine Z_geti dX5_addFunctionWith_5 w1_75 (lk_2 hP) fi_5_8 ?_
  refine Y_iload_n (j := 1) dX5_addFunctionWith_8 rfl rfl ?_
  obtain ⟨hb1, h⟩ := okE h
  refine Y_iast dX5_addFunctionWith_9 (lk_3 hP) (ln_3 hP) hb1 ?_
  obtain ⟨M1, eM1, h⟩ := bndE h
  refine VV.mem eM1 ?_
  have hP1 := hP.wI eM1
  refine Y_aload_n (j := 0) dX5_addFunctionWith_10 rfl rfl ?_
  refine Y_dup dX5_addFunctionWith_11 rfl ?_
  refine Z_geti dX5_addFunctionWith_12 w1_75 (lk_2 hP1) fi_5_8 ?_
  refine Y_iconst (v := (1 : Int32)) dX5_addFunctionWith_15 rfl ?_
  refine Y_iadd dX5_addFunctionWith_16 ?_
  refine Z_puti dX5_addFunctionWith_17 w1_75 (lk_2 hP1) fi_5_8 (Or.inl rfl) rfl ?_
  obtain ⟨M2, eM2, h⟩ := bndE h
  refine VV.mem eM2 ?_
  have hP2 := hP1.wI eM2
  refine Y_aload_n (j := 0) dX5_addFunctionWith_20 rfl rfl ?_
  refine Z_geti dX5_addFunctionWith_21 w1_75 (lk_2 hP2) fi_5_8 ?_
  refine Y_iconst (v := (1 : Int32)) dX5_addFunctionWith_24 rfl ?_
  refine Y_isub dX5_addFunctionWith_25 ?_
  cases h
  exact Y_iret rfl rfl dX5_addFunctionWith_26 hP2 ⟨rfl, rfl⟩
theorem v_X5_addFunctionWith {x1 : Int32} {M z} (hP : Lay M) (h : d_X5_addFunctionWith x1 M = some z) : CC Lay k_X5_addFunctionWith [.ref 2, .int x1] M z.2 (Qv (some (.int z.1)) z.2) xF :=
  CC.ofVV (by decide) rfl (Nat.le_of_ble_eq_true rfl) (b_X5_addFunctionWith hP h)
noncomputable def d_X5_addClassBelow (x1 : Int32) (M : Mem) : Option (Int32 × Mem) :=
  okk (vp_in (mI M 2 9) 5) <|
  bnd (sI M 9 (mI M 2 9).toNatClampNeg x1) fun M1 =>
  bnd (sI M1 2 9 ((mI M1 2 9) + (1 : Int32))) fun M2 =>
  some (((mI M2 2 9) - (1 : Int32)), M2)
theorem b_X5_addClassBelow {x1 : Int32} {M z} (hP : Lay M) (h : d_X5_addClassBelow x1 M = some z) : VV Lay k_X5_addClassBelow 0 [(0, .ref 2), (1, .int x1)] [] M z.2 (Qv (some (.int z.1)) z.2) xF := by
  unfold d_X5_addClassBelow at h
  refine Y_aload_n (j := 0) dX5_addClassBelow_0 rfl rfl ?_
  refine Z_getr dX5_addClassBelow_1 w1_72 (lk_2 hP) fr_5_6 (lr_2_6 hP) ?_
  refine Y_aload_n (j := 0) dX5_addClassBelow_4 rfl rfl ?_
  refine Z_geti dX5_addClassBelow_5 w1_77 (lk_2 hP) fi_5_9 ?_
  refine Y_iload_n (j := 1) dX5_addClassBelow_8 rfl rfl ?_
  obtain ⟨hb1, h⟩ := okE h
  refine Y_iast dX5_addClassBelow_9 (lk_9 hP) (ln_9 hP) hb1 ?_
  obtain ⟨M1, eM1, h⟩ := bndE h
  refine VV.mem eM1 ?_
  have hP1 := hP.wI eM1
  refine Y_aload_n (j := 0) dX5_addClassBelow_10 rfl rfl ?_
  refine Y_dup dX5_addClassBelow_11 rfl ?_
  refine Z_geti dX5_addClassBelow_12 w1_77 (lk_2 hP1) fi_5_9 ?_
  refine Y_iconst (v := (1 : Int32)) dX5_addClassBelow_15 rfl ?_
  refine Y_iadd dX5_addClassBelow_16 ?_
  refine Z_puti dX5_addClassBelow_17 w1_77 (lk_2 hP1) fi_5_9 (Or.inl rfl) rfl ?_
  obtain ⟨M2, eM2, h⟩ := bndE h
  refine VV.mem eM2 ?_
  have hP2 := hP1.wI eM2
  refine Y_aload_n (j := 0) dX5_addClassBelow_20 rfl rfl ?_
  refine Z_geti dX5_addClassBelow_21 w1_77 (lk_2 hP2) fi_5_9 ?_
  refine Y_iconst (v := (1 : Int32)) dX5_addClassBelow_24 rfl ?_
  refine Y_isub dX5_addClassBelow_25 ?_
  cases h
  exact Y_iret rfl rfl dX5_addClassBelow_26 hP2 ⟨rfl, rfl⟩
theorem v_X5_addClassBelow {x1 : Int32} {M z} (hP : Lay M) (h : d_X5_addClassBelow x1 M = some z) : CC Lay k_X5_addClassBelow [.ref 2, .int x1] M z.2 (Qv (some (.int z.1)) z.2) xF :=
  CC.ofVV (by decide) rfl (Nat.le_of_ble_eq_true rfl) (b_X5_addClassBelow hP h)
noncomputable def d_X5_operandBound (x1 : Int32) (M : Mem) : Option (Int32 × Mem) :=
  if x1 = (99 : Int32) then (
    some ((mI M 2 8), M))
  else if x1 = (103 : Int32) ∨ x1 = (109 : Int32) ∨ x1 = (112 : Int32) then (
    some ((6 : Int32), M))
  else if x1 = (106 : Int32) ∨ x1 = (122 : Int32) then (
    some ((40 : Int32), M))
  else if x1 = (107 : Int32) then (
    some ((8 : Int32), M))
  else if x1 = (108 : Int32) ∨ x1 = (115 : Int32) then (
    some ((6 : Int32), M))
  else if x1 = (110 : Int32) then (
    some ((mI M 2 9), M))
  else (
    some ((1 : Int32), M))
theorem b_X5_operandBound {x1 : Int32} {M z} (hP : Lay M) (h : d_X5_operandBound x1 M = some z) : VV Lay k_X5_operandBound 0 [(0, .ref 2), (1, .int x1)] [] M z.2 (Qv (some (.int z.1)) z.2) xF := by
  unfold d_X5_operandBound at h
  refine Y_iload_n (j := 1) dX5_operandBound_0 rfl rfl ?_
  refine Y_table dX5_operandBound_1 [(99, 129), (100, 134), (101, 134), (102, 134), (103, 126), (104, 134), (105, 134), (106, 118), (107, 112), (108, 115), (109, 126), (110, 121), (111, 134), (112, 126), (113, 134), (114, 134), (115, 115), (116, 134), (117, 134), (118, 134), (119, 134), (120, 134), (121, 134), (122, 118)] 134 (by decide) (tab_ok (by decide +kernel)) (by decide) ?_ ?_
  · refine xs_cons ?_ <| xs_cons ?_ <| xs_cons ?_ <| xs_cons ?_ <| xs_cons ?_ <| xs_cons ?_ <| xs_cons ?_ <| xs_cons ?_ <| xs_cons ?_ <| xs_cons ?_ <| xs_cons ?_ <| xs_cons ?_ <| xs_cons ?_ <| xs_cons ?_ <| xs_cons ?_ <| xs_cons ?_ <| xs_cons ?_ <| xs_cons ?_ <| xs_cons ?_ <| xs_cons ?_ <| xs_cons ?_ <| xs_cons ?_ <| xs_cons ?_ <| xs_cons ?_ <| xs_nil
    · intro e9
      replace h := ifT (by rw [e9]; decide) h
      refine Y_aload_n (j := 0) dX5_operandBound_129 rfl rfl ?_
      refine Z_geti dX5_operandBound_130 w1_75 (lk_2 hP) fi_5_8 ?_
      cases h
      exact Y_iret rfl rfl dX5_operandBound_133 hP ⟨rfl, rfl⟩
    · intro e9
      replace h := ifF (by rw [e9]; decide) h
      replace h := ifF (by rw [e9]; decide) h
      replace h := ifF (by rw [e9]; decide) h
      replace h := ifF (by rw [e9]; decide) h
      replace h := ifF (by rw [e9]; decide) h
      replace h := ifF (by rw [e9]; decide) h
      refine Y_iconst (v := (1 : Int32)) dX5_operandBound_134 rfl ?_
      cases h
      exact Y_iret rfl rfl dX5_operandBound_135 hP ⟨rfl, rfl⟩
    · intro e9
      replace h := ifF (by rw [e9]; decide) h
      replace h := ifF (by rw [e9]; decide) h
      replace h := ifF (by rw [e9]; decide) h
      replace h := ifF (by rw [e9]; decide) h
      replace h := ifF (by rw [e9]; decide) h
      replace h := ifF (by rw [e9]; decide) h
      refine Y_iconst (v := (1 : Int32)) dX5_operandBound_134 rfl ?_
      cases h
      exact Y_iret rfl rfl dX5_operandBound_135 hP ⟨rfl, rfl⟩
    · intro e9
      replace h := ifF (by rw [e9]; decide) h
      replace h := ifF (by rw [e9]; decide) h
      replace h := ifF (by rw [e9]; decide) h
      replace h := ifF (by rw [e9]; decide) h
      replace h := ifF (by rw [e9]; decide) h
      replace h := ifF (by rw [e9]; decide) h
      refine Y_iconst (v := (1 : Int32)) dX5_operandBound_134 rfl ?_
      cases h
      exact Y_iret rfl rfl dX5_operandBound_135 hP ⟨rfl, rfl⟩
    · intro e9
      replace h := ifF (by rw [e9]; decide) h
      replace h := ifT (by rw [e9]; decide) h
      refine Y_bipush (v := (6 : Int32)) dX5_operandBound_126 rfl ?_
      cases h
      exact Y_iret rfl rfl dX5_operandBound_128 hP ⟨rfl, rfl⟩
    · intro e9
      replace h := ifF (by rw [e9]; decide) h
      replace h := ifF (by rw [e9]; decide) h
      replace h := ifF (by rw [e9]; decide) h
      replace h := ifF (by rw [e9]; decide) h
      replace h := ifF (by rw [e9]; decide) h
      replace h := ifF (by rw [e9]; decide) h
      refine Y_iconst (v := (1 : Int32)) dX5_operandBound_134 rfl ?_
      cases h
      exact Y_iret rfl rfl dX5_operandBound_135 hP ⟨rfl, rfl⟩
    · intro e9
      replace h := ifF (by rw [e9]; decide) h
      replace h := ifF (by rw [e9]; decide) h
      replace h := ifF (by rw [e9]; decide) h
      replace h := ifF (by rw [e9]; decide) h
      replace h := ifF (by rw [e9]; decide) h
      replace h := ifF (by rw [e9]; decide) h
      refine Y_iconst (v := (1 : Int32)) dX5_operandBound_134 rfl ?_
      cases h
      exact Y_iret rfl rfl dX5_operandBound_135 hP ⟨rfl, rfl⟩
    · intro e9
      replace h := ifF (by rw [e9]; decide) h
      replace h := ifF (by rw [e9]; decide) h
      replace h := ifT (by rw [e9]; decide) h
      refine Y_bipush (v := (40 : Int32)) dX5_operandBound_118 rfl ?_
      cases h
      exact Y_iret rfl rfl dX5_operandBound_120 hP ⟨rfl, rfl⟩
    · intro e9
      replace h := ifF (by rw [e9]; decide) h
      replace h := ifF (by rw [e9]; decide) h
      replace h := ifF (by rw [e9]; decide) h
      replace h := ifT (by rw [e9]; decide) h
      refine Y_bipush (v := (8 : Int32)) dX5_operandBound_112 rfl ?_
      cases h
      exact Y_iret rfl rfl dX5_operandBound_114 hP ⟨rfl, rfl⟩
    · intro e9
      replace h := ifF (by rw [e9]; decide) h
      replace h := ifF (by rw [e9]; decide) h
      replace h := ifF (by rw [e9]; decide) h
      replace h := ifF (by rw [e9]; decide) h
      replace h := ifT (by rw [e9]; decide) h
      refine Y_bipush (v := (6 : Int32)) dX5_operandBound_115 rfl ?_
      cases h
      exact Y_iret rfl rfl dX5_operandBound_117 hP ⟨rfl, rfl⟩
    · intro e9
      replace h := ifF (by rw [e9]; decide) h
      replace h := ifT (by rw [e9]; decide) h
      refine Y_bipush (v := (6 : Int32)) dX5_operandBound_126 rfl ?_
      cases h
      exact Y_iret rfl rfl dX5_operandBound_128 hP ⟨rfl, rfl⟩
    · intro e9
      replace h := ifF (by rw [e9]; decide) h
      replace h := ifF (by rw [e9]; decide) h
      replace h := ifF (by rw [e9]; decide) h
      replace h := ifF (by rw [e9]; decide) h
      replace h := ifF (by rw [e9]; decide) h
      replace h := ifT (by rw [e9]; decide) h
      refine Y_aload_n (j := 0) dX5_operandBound_121 rfl rfl ?_
      refine Z_geti dX5_operandBound_122 w1_77 (lk_2 hP) fi_5_9 ?_
      cases h
      exact Y_iret rfl rfl dX5_operandBound_125 hP ⟨rfl, rfl⟩
    · intro e9
      replace h := ifF (by rw [e9]; decide) h
      replace h := ifF (by rw [e9]; decide) h
      replace h := ifF (by rw [e9]; decide) h
      replace h := ifF (by rw [e9]; decide) h
      replace h := ifF (by rw [e9]; decide) h
      replace h := ifF (by rw [e9]; decide) h
      refine Y_iconst (v := (1 : Int32)) dX5_operandBound_134 rfl ?_
      cases h
      exact Y_iret rfl rfl dX5_operandBound_135 hP ⟨rfl, rfl⟩
    · intro e9
      replace h := ifF (by rw [e9]; decide) h
      replace h := ifT (by rw [e9]; decide) h
      refine Y_bipush (v := (6 : Int32)) dX5_operandBound_126 rfl ?_
      cases h
      exact Y_iret rfl rfl dX5_operandBound_128 hP ⟨rfl, rfl⟩
    · intro e9
      replace h := ifF (by rw [e9]; decide) h
      replace h := ifF (by rw [e9]; decide) h
      replace h := ifF (by rw [e9]; decide) h
      replace h := ifF (by rw [e9]; decide) h
      replace h := ifF (by rw [e9]; decide) h
      replace h := ifF (by rw [e9]; decide) h
      refine Y_iconst (v := (1 : Int32)) dX5_operandBound_134 rfl ?_
      cases h
      exact Y_iret rfl rfl dX5_operandBound_135 hP ⟨rfl, rfl⟩
    · intro e9
      replace h := ifF (by rw [e9]; decide) h
      replace h := ifF (by rw [e9]; decide) h
      replace h := ifF (by rw [e9]; decide) h
      replace h := ifF (by rw [e9]; decide) h
      replace h := ifF (by rw [e9]; decide) h
      replace h := ifF (by rw [e9]; decide) h
      refine Y_iconst (v := (1 : Int32)) dX5_operandBound_134 rfl ?_
      cases h
      exact Y_iret rfl rfl dX5_operandBound_135 hP ⟨rfl, rfl⟩
    · intro e9
      replace h := ifF (by rw [e9]; decide) h
      replace h := ifF (by rw [e9]; decide) h
      replace h := ifF (by rw [e9]; decide) h
      replace h := ifF (by rw [e9]; decide) h
      replace h := ifT (by rw [e9]; decide) h
      refine Y_bipush (v := (6 : Int32)) dX5_operandBound_115 rfl ?_
      cases h
      exact Y_iret rfl rfl dX5_operandBound_117 hP ⟨rfl, rfl⟩
    · intro e9
      replace h := ifF (by rw [e9]; decide) h
      replace h := ifF (by rw [e9]; decide) h
      replace h := ifF (by rw [e9]; decide) h
      replace h := ifF (by rw [e9]; decide) h
      replace h := ifF (by rw [e9]; decide) h
      replace h := ifF (by rw [e9]; decide) h
      refine Y_iconst (v := (1 : Int32)) dX5_operandBound_134 rfl ?_
      cases h
      exact Y_iret rfl rfl dX5_operandBound_135 hP ⟨rfl, rfl⟩
    · intro e9
      replace h := ifF (by rw [e9]; decide) h
      replace h := ifF (by rw [e9]; decide) h
      replace h := ifF (by rw [e9]; decide) h
      replace h := ifF (by rw [e9]; decide) h
      replace h := ifF (by rw [e9]; decide) h
      replace h := ifF (by rw [e9]; decide) h
      refine Y_iconst (v := (1 : Int32)) dX5_operandBound_134 rfl ?_
      cases h
      exact Y_iret rfl rfl dX5_operandBound_135 hP ⟨rfl, rfl⟩
    · intro e9
      replace h := ifF (by rw [e9]; decide) h
      replace h := ifF (by rw [e9]; decide) h
      replace h := ifF (by rw [e9]; decide) h
      replace h := ifF (by rw [e9]; decide) h
      replace h := ifF (by rw [e9]; decide) h
      replace h := ifF (by rw [e9]; decide) h
      refine Y_iconst (v := (1 : Int32)) dX5_operandBound_134 rfl ?_
      cases h
      exact Y_iret rfl rfl dX5_operandBound_135 hP ⟨rfl, rfl⟩
    · intro e9
      replace h := ifF (by rw [e9]; decide) h
      replace h := ifF (by rw [e9]; decide) h
      replace h := ifF (by rw [e9]; decide) h
      replace h := ifF (by rw [e9]; decide) h
      replace h := ifF (by rw [e9]; decide) h
      replace h := ifF (by rw [e9]; decide) h
      refine Y_iconst (v := (1 : Int32)) dX5_operandBound_134 rfl ?_
      cases h
      exact Y_iret rfl rfl dX5_operandBound_135 hP ⟨rfl, rfl⟩
    · intro e9
      replace h := ifF (by rw [e9]; decide) h
      replace h := ifF (by rw [e9]; decide) h
      replace h := ifF (by rw [e9]; decide) h
      replace h := ifF (by rw [e9]; decide) h
      replace h := ifF (by rw [e9]; decide) h
      replace h := ifF (by rw [e9]; decide) h
      refine Y_iconst (v := (1 : Int32)) dX5_operandBound_134 rfl ?_
      cases h
      exact Y_iret rfl rfl dX5_operandBound_135 hP ⟨rfl, rfl⟩
    · intro e9
      replace h := ifF (by rw [e9]; decide) h
      replace h := ifF (by rw [e9]; decide) h
      replace h := ifF (by rw [e9]; decide) h
      replace h := ifF (by rw [e9]; decide) h
      replace h := ifF (by rw [e9]; decide) h
      replace h := ifF (by rw [e9]; decide) h
      refine Y_iconst (v := (1 : Int32)) dX5_operandBound_134 rfl ?_
      cases h
      exact Y_iret rfl rfl dX5_operandBound_135 hP ⟨rfl, rfl⟩
    · intro e9
      replace h := ifF (by rw [e9]; decide) h
      replace h := ifF (by rw [e9]; decide) h
      replace h := ifT (by rw [e9]; decide) h
      refine Y_bipush (v := (40 : Int32)) dX5_operandBound_118 rfl ?_
      cases h
      exact Y_iret rfl rfl dX5_operandBound_120 hP ⟨rfl, rfl⟩
  · intro n9
    replace h := ifF (xs_no n9 (by decide : ((99 : Int32), 129) ∈ _)) h
    replace h := ifF (fun q => q.elim (xs_no n9 (by decide : ((103 : Int32), 126) ∈ _)) (fun q => q.elim (xs_no n9 (by decide : ((109 : Int32), 126) ∈ _)) (xs_no n9 (by decide : ((112 : Int32), 126) ∈ _)))) h
    replace h := ifF (fun q => q.elim (xs_no n9 (by decide : ((106 : Int32), 118) ∈ _)) (xs_no n9 (by decide : ((122 : Int32), 118) ∈ _))) h
    replace h := ifF (xs_no n9 (by decide : ((107 : Int32), 112) ∈ _)) h
    replace h := ifF (fun q => q.elim (xs_no n9 (by decide : ((108 : Int32), 115) ∈ _)) (xs_no n9 (by decide : ((115 : Int32), 115) ∈ _))) h
    replace h := ifF (xs_no n9 (by decide : ((110 : Int32), 121) ∈ _)) h
    refine Y_iconst (v := (1 : Int32)) dX5_operandBound_134 rfl ?_
    cases h
    exact Y_iret rfl rfl dX5_operandBound_135 hP ⟨rfl, rfl⟩
theorem v_X5_operandBound {x1 : Int32} {M z} (hP : Lay M) (h : d_X5_operandBound x1 M = some z) : CC Lay k_X5_operandBound [.ref 2, .int x1] M z.2 (Qv (some (.int z.1)) z.2) xF :=
  CC.ofVV (by decide) rfl (Nat.le_of_ble_eq_true rfl) (b_X5_operandBound hP h)
noncomputable def d_X5_allowsOperand (x1 : Int32) (x2 : Int32) (M : Mem) : Option (Int32 × Mem) :=
  if x1 = (105 : Int32) then (
    some ((1 : Int32), M))
  else (
    if x2 < 0 then (
      some ((0 : Int32), M))
    else (
      (d_X5_operandBound x1 M).bind fun y1 =>
      if y1.1 ≤ x2 then (
        some ((0 : Int32), y1.2))
      else (
        some ((1 : Int32), y1.2))))
theorem b_X5_allowsOperand {x1 : Int32} {x2 : Int32} {M z} (hP : Lay M) (h : d_X5_allowsOperand x1 x2 M = some z) : VV Lay k_X5_allowsOperand 0 [(0, .ref 2), (1, .int x1), (2, .int x2)] [] M z.2 (Qv (some (.int z.1)) z.2) xF := by
  unfold d_X5_allowsOperand at h
  refine Y_iload_n (j := 1) dX5_allowsOperand_0 rfl rfl ?_
  refine Y_bipush (v := (105 : Int32)) dX5_allowsOperand_1 rfl ?_
  refine Y_icmp_eq (tgt := 19) dX5_allowsOperand_3 (by decide) (fun hc1 => ?_) (fun hc1 => ?_)
  · replace h := ifT hc1 h
    refine Y_iconst (v := (1 : Int32)) dX5_allowsOperand_19 rfl ?_
    refine Y_goto (tgt := 24) dX5_allowsOperand_20 (by decide) ?_
    cases h
    exact Y_iret rfl (nar_bo (by decide)) dX5_allowsOperand_24 hP ⟨rfl, rfl⟩
  · replace h := ifF hc1 h
    refine Y_iload_n (j := 2) dX5_allowsOperand_6 rfl rfl ?_
    refine Y_if_lt (tgt := 23) dX5_allowsOperand_7 (by decide) (fun hc2 => ?_) (fun hc2 => ?_)
    · replace h := ifT hc2 h
      refine Y_iconst (v := (0 : Int32)) dX5_allowsOperand_23 rfl ?_
      cases h
      exact Y_iret rfl (nar_bo (by decide)) dX5_allowsOperand_24 hP ⟨rfl, rfl⟩
    · replace h := ifF hc2 h
      refine Y_iload_n (j := 2) dX5_allowsOperand_10 rfl rfl ?_
      refine Y_aload_n (j := 0) dX5_allowsOperand_11 rfl rfl ?_
      refine Y_iload_n (j := 1) dX5_allowsOperand_12 rfl rfl ?_
      obtain ⟨y1, qy1, h⟩ := bindE h
      have cy1 := v_X5_operandBound hP qy1
      refine C_V1r dX5_allowsOperand_13 w4_122 i_X5_operandBound (lk_2 hP) ⟨Nat.le_of_ble_eq_true rfl, Nat.le_of_ble_eq_true rfl⟩ rfl (Nat.le_of_ble_eq_true rfl) (Nat.le_of_ble_eq_true rfl) (Nat.le_of_ble_eq_true rfl) (cy1) ?_
      have hPy1 := cy1.1.1
      refine Y_icmp_ge (tgt := 23) dX5_allowsOperand_16 (by decide) (fun hc3 => ?_) (fun hc3 => ?_)
      · replace h := ifT hc3 h
        refine Y_iconst (v := (0 : Int32)) dX5_allowsOperand_23 rfl ?_
        cases h
        exact Y_iret rfl (nar_bo (by decide)) dX5_allowsOperand_24 hPy1 ⟨rfl, rfl⟩
      · replace h := ifF hc3 h
        refine Y_iconst (v := (1 : Int32)) dX5_allowsOperand_19 rfl ?_
        refine Y_goto (tgt := 24) dX5_allowsOperand_20 (by decide) ?_
        cases h
        exact Y_iret rfl (nar_bo (by decide)) dX5_allowsOperand_24 hPy1 ⟨rfl, rfl⟩
theorem v_X5_allowsOperand {x1 : Int32} {x2 : Int32} {M z} (hP : Lay M) (h : d_X5_allowsOperand x1 x2 M = some z) : CC Lay k_X5_allowsOperand [.ref 2, .int x1, .int x2] M z.2 (Qv (some (.int z.1)) z.2) xF :=
  CC.ofVV (by decide) rfl (Nat.le_of_ble_eq_true rfl) (b_X5_allowsOperand hP h)
noncomputable def d_X6_init (r0 : Nat) (M : Mem) : Option (Unit × Mem) :=
  bnd (nx M) fun r_1 => okk (r_1 < 2147483648) <|
  bnd (sN M r_1 21 30) fun M1 =>
  okk (mK M1 r0 = 6) <|
  bnd (sR M1 r0 0 (some r_1)) fun M2 =>
  bnd (nx M2) fun r_2 => okk (r_2 < 2147483648) <|
  bnd (sN M2 r_2 21 31) fun M3 =>
  okk (mK M3 r0 = 6) <|
  bnd (sR M3 r0 1 (some r_2)) fun M4 =>
  bnd (nx M4) fun r_3 => okk (r_3 < 2147483648) <|
  bnd (sN M4 r_3 21 120) fun M5 =>
  okk (mK M5 r0 = 6) <|
  bnd (sR M5 r0 2 (some r_3)) fun M6 =>
  bnd (nx M6) fun r_4 => okk (r_4 < 2147483648) <|
  bnd (sN M6 r_4 21 120) fun M7 =>
  okk (mK M7 r0 = 6) <|
  bnd (sR M7 r0 3 (some r_4)) fun M8 =>
  bnd (nx M8) fun r_5 => okk (r_5 < 2147483648) <|
  bnd (sN M8 r_5 21 120) fun M9 =>
  okk (mK M9 r0 = 6) <|
  bnd (sR M9 r0 4 (some r_5)) fun M10 =>
  bnd (nx M10) fun r_6 => okk (r_6 < 2147483648) <|
  bnd (sN M10 r_6 21 120) fun M11 =>
  okk (mK M11 r0 = 6) <|
  bnd (sR M11 r0 5 (some r_6)) fun M12 =>
  bnd (nx M12) fun r_7 => okk (r_7 < 2147483648) <|
  bnd (sN M12 r_7 21 378) fun M13 =>
  okk (mK M13 r0 = 6) <|
  bnd (sR M13 r0 6 (some r_7)) fun M14 =>
  some ((), M14)
theorem b_X6_init {M0 : Mem} {r0 : Nat} {M z} (hP : (Kx r0 M0) M) (h : d_X6_init r0 M = some z) : VV (Kx r0 M0) k_X6_init 0 [(0, .ref r0)] [] M z.2 (Qv (none) z.2) xF := by
  unfold d_X6_init at h
  refine Y_aload_n (j := 0) dX6_init_0 rfl rfl ?_
  refine Y_oinit dX6_init_1 w2_46 ?_
  refine Y_aload_n (j := 0) dX6_init_4 rfl rfl ?_
  refine Y_bipush (v := (30 : Int32)) dX6_init_5 rfl ?_
  obtain ⟨r_1, er_1, h⟩ := bndE h
  obtain ⟨hb1, h⟩ := okE h
  refine Y_newa (a := r_1) (t := 21) (N := 30) dX6_init_7 (by decide) (by decide) rfl w1_100 (hP.free er_1) hb1 (by decide) rfl (by decide) ?_
  obtain ⟨M1, eM1, h⟩ := bndE h
  refine VV.mem eM1 ?_
  have hP1 := hP.wN er_1 (by decide) eM1
  obtain ⟨hb2, h⟩ := okE h
  refine Z_putr dX6_init_9 w2_47 hb2 fr_6_0 (Or.inr ⟨rfl, rfl⟩) ?_
  obtain ⟨M2, eM2, h⟩ := bndE h
  refine VV.mem eM2 ?_
  have hP2 := hP1.wR0 (by omega) eM2
  refine Y_aload_n (j := 0) dX6_init_12 rfl rfl ?_
  refine Y_bipush (v := (31 : Int32)) dX6_init_13 rfl ?_
  obtain ⟨r_2, er_2, h⟩ := bndE h
  obtain ⟨hb3, h⟩ := okE h
  refine Y_newa (a := r_2) (t := 21) (N := 31) dX6_init_15 (by decide) (by decide) rfl w1_100 (hP2.free er_2) hb3 (by decide) rfl (by decide) ?_
  obtain ⟨M3, eM3, h⟩ := bndE h
  refine VV.mem eM3 ?_
  have hP3 := hP2.wN er_2 (by decide) eM3
  obtain ⟨hb4, h⟩ := okE h
  refine Z_putr dX6_init_17 w2_49 hb4 fr_6_1 (Or.inr ⟨rfl, rfl⟩) ?_
  obtain ⟨M4, eM4, h⟩ := bndE h
  refine VV.mem eM4 ?_
  have hP4 := hP3.wR0 (by omega) eM4
  refine Y_aload_n (j := 0) dX6_init_20 rfl rfl ?_
  refine Y_bipush (v := (120 : Int32)) dX6_init_21 rfl ?_
  obtain ⟨r_3, er_3, h⟩ := bndE h
  obtain ⟨hb5, h⟩ := okE h
  refine Y_newa (a := r_3) (t := 21) (N := 120) dX6_init_23 (by decide) (by decide) rfl w1_100 (hP4.free er_3) hb5 (by decide) rfl (by decide) ?_
  obtain ⟨M5, eM5, h⟩ := bndE h
  refine VV.mem eM5 ?_
  have hP5 := hP4.wN er_3 (by decide) eM5
  obtain ⟨hb6, h⟩ := okE h
  refine Z_putr dX6_init_25 w2_51 hb6 fr_6_2 (Or.inr ⟨rfl, rfl⟩) ?_
  obtain ⟨M6, eM6, h⟩ := bndE h
  refine VV.mem eM6 ?_
  have hP6 := hP5.wR0 (by omega) eM6
  refine Y_aload_n (j := 0) dX6_init_28 rfl rfl ?_
  refine Y_bipush (v := (120 : Int32)) dX6_init_29 rfl ?_
  obtain ⟨r_4, er_4, h⟩ := bndE h
  obtain ⟨hb7, h⟩ := okE h
  refine Y_newa (a := r_4) (t := 21) (N := 120) dX6_init_31 (by decide) (by decide) rfl w1_100 (hP6.free er_4) hb7 (by decide) rfl (by decide) ?_
  obtain ⟨M7, eM7, h⟩ := bndE h
  refine VV.mem eM7 ?_
  have hP7 := hP6.wN er_4 (by decide) eM7
  obtain ⟨hb8, h⟩ := okE h
  refine Z_putr dX6_init_33 w2_53 hb8 fr_6_3 (Or.inr ⟨rfl, rfl⟩) ?_
  obtain ⟨M8, eM8, h⟩ := bndE h
  refine VV.mem eM8 ?_
  have hP8 := hP7.wR0 (by omega) eM8
  refine Y_aload_n (j := 0) dX6_init_36 rfl rfl ?_
  refine Y_bipush (v := (120 : Int32)) dX6_init_37 rfl ?_
  obtain ⟨r_5, er_5, h⟩ := bndE h
  obtain ⟨hb9, h⟩ := okE h
  refine Y_newa (a := r_5) (t := 21) (N := 120) dX6_init_39 (by decide) (by decide) rfl w1_100 (hP8.free er_5) hb9 (by decide) rfl (by decide) ?_
  obtain ⟨M9, eM9, h⟩ := bndE h
  refine VV.mem eM9 ?_
  have hP9 := hP8.wN er_5 (by decide) eM9
  obtain ⟨hb10, h⟩ := okE h
  refine Z_putr dX6_init_41 w2_55 hb10 fr_6_4 (Or.inr ⟨rfl, rfl⟩) ?_
  obtain ⟨M10, eM10, h⟩ := bndE h
  refine VV.mem eM10 ?_
  have hP10 := hP9.wR0 (by omega) eM10
  refine Y_aload_n (j := 0) dX6_init_44 rfl rfl ?_
  refine Y_bipush (v := (120 : Int32)) dX6_init_45 rfl ?_
  obtain ⟨r_6, er_6, h⟩ := bndE h
  obtain ⟨hb11, h⟩ := okE h
  refine Y_newa (a := r_6) (t := 21) (N := 120) dX6_init_47 (by decide) (by decide) rfl w1_100 (hP10.free er_6) hb11 (by decide) rfl (by decide) ?_
  obtain ⟨M11, eM11, h⟩ := bndE h
  refine VV.mem eM11 ?_
  have hP11 := hP10.wN er_6 (by decide) eM11
  obtain ⟨hb12, h⟩ := okE h
  refine Z_putr dX6_init_49 w2_57 hb12 fr_6_5 (Or.inr ⟨rfl, rfl⟩) ?_
  obtain ⟨M12, eM12, h⟩ := bndE h
  refine VV.mem eM12 ?_
  have hP12 := hP11.wR0 (by omega) eM12
  refine Y_aload_n (j := 0) dX6_init_52 rfl rfl ?_
  refine Y_sipush (v := (378 : Int32)) dX6_init_53 rfl ?_
  obtain ⟨r_7, er_7, h⟩ := bndE h
  obtain ⟨hb13, h⟩ := okE h
  refine Y_newa (a := r_7) (t := 21) (N := 378) dX6_init_56 (by decide) (by decide) rfl w1_100 (hP12.free er_7) hb13 (by decide) rfl (by decide) ?_
  obtain ⟨M13, eM13, h⟩ := bndE h
  refine VV.mem eM13 ?_
  have hP13 := hP12.wN er_7 (by decide) eM13
  obtain ⟨hb14, h⟩ := okE h
  refine Z_putr dX6_init_58 w2_59 hb14 fr_6_6 (Or.inr ⟨rfl, rfl⟩) ?_
  obtain ⟨M14, eM14, h⟩ := bndE h
  refine VV.mem eM14 ?_
  have hP14 := hP13.wR0 (by omega) eM14
  cases h
  exact Y_vret rfl dX6_init_61 hP14 ⟨rfl, rfl⟩
theorem v_X6_init {r0 : Nat} {M z} (hP : Fsh M) (hr : r0 ≤ nx M) (h : d_X6_init r0 M = some z) : CC (Kx r0 M) k_X6_init [.ref r0] M z.2 (Qv (none) z.2) xF :=
  CC.ofVV (by decide) rfl (Nat.le_of_ble_eq_true rfl) (b_X6_init (Kx.refl hP hr) h)
noncomputable def d_X6_begin_28b (k28 : (Int32) → Mem → Option (Unit × Mem)) (x4 : Int32) (M : Mem) : Option (Unit × Mem) :=
  if (168 : Int32) ≤ x4 then (
    bnd (sI M 48 9 (168 : Int32)) fun M1 =>
    some ((), M1))
  else (
    okk (vp_in x4 549) <|
    bnd (sI M 23 x4.toNatClampNeg x4) fun M2 =>
    okk (vp_in x4 378) <|
    bnd (sI M2 55 x4.toNatClampNeg (0 : Int32)) fun M3 =>
    bnd ((x4 + (1 : Int32))) fun b1 =>
    k28 (b1) M3)
theorem b_X6_begin_28b {k28 : (Int32) → Mem → Option (Unit × Mem)} {x4 : Int32} {M z} (hk28 : ∀ (a : (Int32)) (M : Mem) (z : Unit × Mem), Lay M → k28 a M = some z → VV Lay k_X6_begin 28 [(0, .ref 48), (1, .ref 18), (4, .int a)] [] M z.2 (Qv (none) z.2) xF) (hP : Lay M) (h : d_X6_begin_28b k28 x4 M = some z) : VV Lay k_X6_begin 28 [(0, .ref 48), (1, .ref 18), (4, .int x4)] [] M z.2 (Qv (none) z.2) xF := by
  unfold d_X6_begin_28b at h
  refine Y_iload (j := 2) dX6_begin_28 rfl ?_
  refine Y_sipush (v := (168 : Int32)) dX6_begin_30 rfl ?_
  refine Y_icmp_ge (tgt := 62) dX6_begin_33 (by decide) (fun hc1 => ?_) (fun hc1 => ?_)
  · replace h := ifT hc1 h
    refine Y_aload_n (j := 0) dX6_begin_62 rfl rfl ?_
    refine Y_sipush (v := (168 : Int32)) dX6_begin_63 rfl ?_
    refine Z_puti dX6_begin_66 w2_65 (lk_48 hP) fi_6_9 (Or.inl rfl) rfl ?_
    obtain ⟨M1, eM1, h⟩ := bndE h
    refine VV.mem eM1 ?_
    have hP1 := hP.wI eM1
    cases h
    exact Y_vret rfl dX6_begin_69 hP1 ⟨rfl, rfl⟩
  · replace h := ifF hc1 h
    refine Y_aload_n (j := 1) dX6_begin_36 rfl rfl ?_
    refine Z_getr dX6_begin_37 w1_172 (lk_18 hP) fr_4_2 (lr_18_2 hP) ?_
    refine Z_getr dX6_begin_40 w1_156 (lk_19 hP) fr_8_3 (lr_19_3 hP) ?_
    refine Y_iload (j := 2) dX6_begin_43 rfl ?_
    refine Y_iload (j := 2) dX6_begin_45 rfl ?_
    obtain ⟨hb1, h⟩ := okE h
    refine Y_iast dX6_begin_47 (lk_23 hP) (ln_23 hP) hb1 ?_
    obtain ⟨M2, eM2, h⟩ := bndE h
    refine VV.mem eM2 ?_
    have hP2 := hP.wI eM2
    refine Y_aload_n (j := 0) dX6_begin_48 rfl rfl ?_
    refine Z_getr dX6_begin_49 w2_59 (lk_48 hP2) fr_6_6 (lr_48_6 hP2) ?_
    refine Y_iload (j := 2) dX6_begin_52 rfl ?_
    refine Y_iconst (v := (0 : Int32)) dX6_begin_54 rfl ?_
    obtain ⟨hb2, h⟩ := okE h
    refine Y_iast dX6_begin_55 (lk_55 hP2) (ln_55 hP2) hb2 ?_
    obtain ⟨M3, eM3, h⟩ := bndE h
    refine VV.mem eM3 ?_
    have hP3 := hP2.wI eM3
    obtain ⟨b1, eb1, h⟩ := bndE h
    refine Y_iinc (j := 2) (v := b1) (lv1 := [(4, .int b1), (0, .ref 48), (1, .ref 18)]) dX6_begin_56 rfl eb1.symm (by decide) rfl ?_
    refine Y_goto (tgt := 28) dX6_begin_59 (by decide) ?_
    refine VV.sub [1, 2, 0] rfl ?_
    exact hk28 _ _ _ hP3 h
noncomputable def d_X6_begin_28 : Nat → (Int32) → Mem → Option (Unit × Mem) := lp fun k a M => d_X6_begin_28b k a M
theorem b_X6_begin_28 (n : Nat) : ∀ (a : (Int32)) (M : Mem) (z : Unit × Mem), d_X6_begin_28 n a M = some z → Lay M → VV Lay k_X6_begin 28 [(0, .ref 48), (1, .ref 18), (4, .int a)] [] M z.2 (Qv (none) z.2) xF :=
  lp_ind (fun k hk a M z h hP => b_X6_begin_28b  (fun a M z hP h => hk a M z h hP) hP h) n
noncomputable def d_X6_begin (x2 : Int32) (x3 : Int32) (M : Mem) : Option (Unit × Mem) :=
  bnd (sI M 48 10 (1 : Int32)) fun M1 =>
  bnd (sI M1 48 11 x2) fun M2 =>
  bnd (sI M2 48 12 x3) fun M3 =>
  bnd (sI M3 48 7 (0 : Int32)) fun M4 =>
  bnd (sI M4 48 8 (0 : Int32)) fun M5 =>
  d_X6_begin_28 fuel ((0 : Int32)) M5
theorem b_X6_begin {x2 : Int32} {x3 : Int32} {M z} (hP : Lay M) (h : d_X6_begin x2 x3 M = some z) : VV Lay k_X6_begin 0 [(0, .ref 48), (1, .ref 18), (2, .int x2), (3, .int x3)] [] M z.2 (Qv (none) z.2) xF := by
  unfold d_X6_begin at h
  refine Y_aload_n (j := 0) dX6_begin_0 rfl rfl ?_
  refine Y_iconst (v := (1 : Int32)) dX6_begin_1 rfl ?_
  refine Z_putz dX6_begin_2 w2_66 (lk_48 hP) fi_6_10 (Or.inl rfl) rfl (by decide) ?_
  obtain ⟨M1, eM1, h⟩ := bndE h
  refine VV.mem eM1 ?_
  have hP1 := hP.wI eM1
  refine Y_aload_n (j := 0) dX6_begin_5 rfl rfl ?_
  refine Y_iload_n (j := 2) dX6_begin_6 rfl rfl ?_
  refine Z_puti dX6_begin_7 w2_69 (lk_48 hP1) fi_6_11 (Or.inl rfl) rfl ?_
  obtain ⟨M2, eM2, h⟩ := bndE h
  refine VV.mem eM2 ?_
  have hP2 := hP1.wI eM2
  refine Y_aload_n (j := 0) dX6_begin_10 rfl rfl ?_
  refine Y_iload_n (j := 3) dX6_begin_11 rfl rfl ?_
  refine Z_puti dX6_begin_12 w2_71 (lk_48 hP2) fi_6_12 (Or.inl rfl) rfl ?_
  obtain ⟨M3, eM3, h⟩ := bndE h
  refine VV.mem eM3 ?_
  have hP3 := hP2.wI eM3
  refine Y_aload_n (j := 0) dX6_begin_15 rfl rfl ?_
  refine Y_iconst (v := (0 : Int32)) dX6_begin_16 rfl ?_
  refine Z_puti dX6_begin_17 w2_61 (lk_48 hP3) fi_6_7 (Or.inl rfl) rfl ?_
  obtain ⟨M4, eM4, h⟩ := bndE h
  refine VV.mem eM4 ?_
  have hP4 := hP3.wI eM4
  refine Y_aload_n (j := 0) dX6_begin_20 rfl rfl ?_
  refine Y_iconst (v := (0 : Int32)) dX6_begin_21 rfl ?_
  refine Z_puti dX6_begin_22 w2_64 (lk_48 hP4) fi_6_8 (Or.inl rfl) rfl ?_
  obtain ⟨M5, eM5, h⟩ := bndE h
  refine VV.mem eM5 ?_
  have hP5 := hP4.wI eM5
  refine Y_iconst (v := (0 : Int32)) dX6_begin_25 rfl ?_
  refine Y_istore (lv1 := [(4, .int (0 : Int32)), (0, .ref 48), (1, .ref 18), (2, .int x2), (3, .int x3)]) dX6_begin_26 (by decide) rfl ?_
  refine VV.sub [1, 2, 0] rfl ?_
  exact b_X6_begin_28  fuel _ _ _ h hP5
theorem v_X6_begin {x2 : Int32} {x3 : Int32} {M z} (hP : Lay M) (h : d_X6_begin x2 x3 M = some z) : CC Lay k_X6_begin [.ref 48, .ref 18, .int x2, .int x3] M z.2 (Qv (none) z.2) xF :=
  CC.ofVV (by decide) rfl (Nat.le_of_ble_eq_true rfl) (b_X6_begin hP h)
noncomputable def d_X6_beginRoot (x2 : Int32) (M : Mem) : Option (Unit × Mem) :=
  bnd (sI M 48 13 (-1 : Int32)) fun M1 =>
  bnd (sI M1 48 14 (-1 : Int32)) fun M2 =>
  (d_X6_begin x2 (mI M2 18 9) M2).bind fun y1 =>
  some ((), y1.2)
theorem b_X6_beginRoot {x2 : Int32} {M z} (hP : Lay M) (h : d_X6_beginRoot x2 M = some z) : VV Lay k_X6_beginRoot 0 [(0, .ref 48), (1, .ref 18), (2, .int x2)] [] M z.2 (Qv (none) z.2) xF := by
  unfold d_X6_beginRoot at h
  refine Y_aload_n (j := 0) dX6_beginRoot_0 rfl rfl ?_
  refine Y_iconst (v := (-1 : Int32)) dX6_beginRoot_1 rfl ?_
  refine Z_puti dX6_beginRoot_2 w2_73 (lk_48 hP) fi_6_13 (Or.inl rfl) rfl ?_
  obtain ⟨M1, eM1, h⟩ := bndE h
  refine VV.mem eM1 ?_
  have hP1 := hP.wI eM1
  refine Y_aload_n (j := 0) dX6_beginRoot_5 rfl rfl ?_
  refine Y_iconst (v := (-1 : Int32)) dX6_beginRoot_6 rfl ?_
  refine Z_puti dX6_beginRoot_7 w2_75 (lk_48 hP1) fi_6_14 (Or.inl rfl) rfl ?_
  obtain ⟨M2, eM2, h⟩ := bndE h
  refine VV.mem eM2 ?_
  have hP2 := hP1.wI eM2
  refine Y_aload_n (j := 0) dX6_beginRoot_10 rfl rfl ?_
  refine Y_aload_n (j := 1) dX6_beginRoot_11 rfl rfl ?_
  refine Y_iload_n (j := 2) dX6_beginRoot_12 rfl rfl ?_
  refine Y_aload_n (j := 1) dX6_beginRoot_13 rfl rfl ?_
  refine Z_geti dX6_beginRoot_14 w1_185 (lk_18 hP2) fi_4_9 ?_
  obtain ⟨y1, qy1, h⟩ := bindE h
  have cy1 := v_X6_begin hP2 qy1
  refine C_V3o dX6_beginRoot_17 w6_89 i_X6_begin (lk_48 hP2) ⟨Nat.le_of_ble_eq_true rfl, Nat.le_of_ble_eq_true rfl⟩ rfl (Nat.le_of_ble_eq_true rfl) (Nat.le_of_ble_eq_true rfl) (Nat.le_of_ble_eq_true rfl) (cy1) ?_
  have hPy1 := cy1.1.1
  cases h
  exact Y_vret rfl dX6_beginRoot_20 hPy1 ⟨rfl, rfl⟩
theorem v_X6_beginRoot {x2 : Int32} {M z} (hP : Lay M) (h : d_X6_beginRoot x2 M = some z) : CC Lay k_X6_beginRoot [.ref 48, .ref 18, .int x2] M z.2 (Qv (none) z.2) xF :=
  CC.ofVV (by decide) rfl (Nat.le_of_ble_eq_true rfl) (b_X6_beginRoot hP h)
noncomputable def d_X6_beginSide (r2 : Nat) (x3 : Int32) (x4 : Int32) (x5 : Int32) (M : Mem) : Option (Unit × Mem) :=
  bnd (sI M 48 13 x3) fun M1 =>
  bnd (sI M1 48 14 x4) fun M2 =>
  okk (mK M2 r2 = 9) <|
  (d_X6_begin (mI M2 r2 13) x5 M2).bind fun y1 =>
  some ((), y1.2)
theorem b_X6_beginSide {r2 : Nat} {x3 : Int32} {x4 : Int32} {x5 : Int32} {M z} (hP : Lay M) (h : d_X6_beginSide r2 x3 x4 x5 M = some z) : VV Lay k_X6_beginSide 0 [(0, .ref 48), (1, .ref 18), (2, .ref r2), (3, .int x3), (4, .int x4), (5, .int x5)] [] M z.2 (Qv (none) z.2) xF := by
  unfold d_X6_beginSide at h
  refine Y_aload_n (j := 0) dX6_beginSide_0 rfl rfl ?_
  refine Y_iload_n (j := 3) dX6_beginSide_1 rfl rfl ?_
  refine Z_puti dX6_beginSide_2 w2_73 (lk_48 hP) fi_6_13 (Or.inl rfl) rfl ?_
  obtain ⟨M1, eM1, h⟩ := bndE h
  refine VV.mem eM1 ?_
  have hP1 := hP.wI eM1
  refine Y_aload_n (j := 0) dX6_beginSide_5 rfl rfl ?_
  refine Y_iload (j := 4) dX6_beginSide_6 rfl ?_
  refine Z_puti dX6_beginSide_8 w2_75 (lk_48 hP1) fi_6_14 (Or.inl rfl) rfl ?_
  obtain ⟨M2, eM2, h⟩ := bndE h
  refine VV.mem eM2 ?_
  have hP2 := hP1.wI eM2
  refine Y_aload_n (j := 0) dX6_beginSide_11 rfl rfl ?_
  refine Y_aload_n (j := 1) dX6_beginSide_12 rfl rfl ?_
  refine Y_aload_n (j := 2) dX6_beginSide_13 rfl rfl ?_
  obtain ⟨hb1, h⟩ := okE h
  refine Z_geti dX6_beginSide_14 w2_169 hb1 fi_9_13 ?_
  refine Y_iload (j := 5) dX6_beginSide_17 rfl ?_
  obtain ⟨y1, qy1, h⟩ := bindE h
  have cy1 := v_X6_begin hP2 qy1
  refine C_V3o dX6_beginSide_19 w6_89 i_X6_begin (lk_48 hP2) ⟨Nat.le_of_ble_eq_true rfl, Nat.le_of_ble_eq_true rfl⟩ rfl (Nat.le_of_ble_eq_true rfl) (Nat.le_of_ble_eq_true rfl) (Nat.le_of_ble_eq_true rfl) (cy1) ?_
  have hPy1 := cy1.1.1
  cases h
  exact Y_vret rfl dX6_beginSide_22 hPy1 ⟨rfl, rfl⟩
theorem v_X6_beginSide {r2 : Nat} {x3 : Int32} {x4 : Int32} {x5 : Int32} {M z} (hP : Lay M) (h : d_X6_beginSide r2 x3 x4 x5 M = some z) : CC Lay k_X6_beginSide [.ref 48, .ref 18, .ref r2, .int x3, .int x4, .int x5] M z.2 (Qv (none) z.2) xF :=
  CC.ofVV (by decide) rfl (Nat.le_of_ble_eq_true rfl) (b_X6_beginSide hP h)
noncomputable def d_X6_isFull (M : Mem) : Option (Int32 × Mem) :=
  if (mI M 48 7) < (30 : Int32) then (
    some ((0 : Int32), M))
  else (
    some ((1 : Int32), M))
theorem b_X6_isFull {M z} (hP : Lay M) (h : d_X6_isFull M = some z) : VV Lay k_X6_isFull 0 [(0, .ref 48)] [] M z.2 (Qv (some (.int z.1)) z.2) xF := by
  unfold d_X6_isFull at h
  refine Y_aload_n (j := 0) dX6_isFull_0 rfl rfl ?_
  refine Z_geti dX6_isFull_1 w2_61 (lk_48 hP) fi_6_7 ?_
  refine Y_bipush (v := (30 : Int32)) dX6_isFull_4 rfl ?_
  refine Y_icmp_lt (tgt := 13) dX6_isFull_6 (by decide) (fun hc1 => ?_) (fun hc1 => ?_)
  · replace h := ifT hc1 h
    refine Y_iconst (v := (0 : Int32)) dX6_isFull_13 rfl ?_
    cases h
    exact Y_iret rfl (nar_bo (by decide)) dX6_isFull_14 hP ⟨rfl, rfl⟩
  · replace h := ifF hc1 h
    refine Y_iconst (v := (1 : Int32)) dX6_isFull_9 rfl ?_
    refine Y_goto (tgt := 14) dX6_isFull_10 (by decide) ?_
    cases h
    exact Y_iret rfl (nar_bo (by decide)) dX6_isFull_14 hP ⟨rfl, rfl⟩
theorem v_X6_isFull {M z} (hP : Lay M) (h : d_X6_isFull M = some z) : CC Lay k_X6_isFull [.ref 48] M z.2 (Qv (some (.int z.1)) z.2) xF :=
  CC.ofVV (by decide) rfl (Nat.le_of_ble_eq_true rfl) (b_X6_isFull hP h)
noncomputable def d_X6_isClosedBy (M : Mem) : Option (Int32 × Mem) :=
  if (mI M 18 9) = (mI M 48 12) then (
    (d_X3_siteAhead 18 M).bind fun y1 =>
    if y1.1 = (mI y1.2 48 11) then (
      some ((1 : Int32), y1.2))
    else (
      some ((0 : Int32), y1.2)))
  else (
    some ((0 : Int32), M))
theorem b_X6_isClosedBy {M z} (hP : Lay M) (h : d_X6_isClosedBy M = some z) : VV Lay k_X6_isClosedBy 0 [(0, .ref 48), (1, .ref 18)] [] M z.2 (Qv (some (.int z.1)) z.2) xF := by
  unfold d_X6_isClosedBy at h
  refine Y_aload_n (j := 1) dX6_isClosedBy_0 rfl rfl ?_
  refine Z_geti dX6_isClosedBy_1 w1_185 (lk_18 hP) fi_4_9 ?_
  refine Y_aload_n (j := 0) dX6_isClosedBy_4 rfl rfl ?_
  refine Z_geti dX6_isClosedBy_5 w2_71 (lk_48 hP) fi_6_12 ?_
  refine Y_icmp_ne (tgt := 26) dX6_isClosedBy_8 (by decide) (fun hc1 => ?_) (fun hc1 => ?_)
  · replace h := ifF hc1 h
    refine Y_iconst (v := (0 : Int32)) dX6_isClosedBy_26 rfl ?_
    cases h
    exact Y_iret rfl (nar_bo (by decide)) dX6_isClosedBy_27 hP ⟨rfl, rfl⟩
  · replace h := ifT hc1 h
    refine Y_aload_n (j := 1) dX6_isClosedBy_11 rfl rfl ?_
    obtain ⟨y1, qy1, h⟩ := bindE h
    have cy1 := v_X3_siteAhead (Or.inl rfl) hP qy1
    refine C_V0r dX6_isClosedBy_12 w6_208 i_X3_siteAhead (lk_18 hP) ⟨Nat.le_of_ble_eq_true rfl, Nat.le_of_ble_eq_true rfl⟩ rfl (Nat.le_of_ble_eq_true rfl) (Nat.le_of_ble_eq_true rfl) (Nat.le_of_ble_eq_true rfl) (cy1) ?_
    have hPy1 := cy1.1.1
    refine Y_aload_n (j := 0) dX6_isClosedBy_15 rfl rfl ?_
    refine Z_geti dX6_isClosedBy_16 w2_69 (lk_48 hPy1) fi_6_11 ?_
    refine Y_icmp_ne (tgt := 26) dX6_isClosedBy_19 (by decide) (fun hc2 => ?_) (fun hc2 => ?_)
    · replace h := ifF hc2 h
      refine Y_iconst (v := (0 : Int32)) dX6_isClosedBy_26 rfl ?_
      cases h
      exact Y_iret rfl (nar_bo (by decide)) dX6_isClosedBy_27 hPy1 ⟨rfl, rfl⟩
    · replace h := ifT hc2 h
      refine Y_iconst (v := (1 : Int32)) dX6_isClosedBy_22 rfl ?_
      refine Y_goto (tgt := 27) dX6_isClosedBy_23 (by decide) ?_
      cases h
      exact Y_iret rfl (nar_bo (by decide)) dX6_isClosedBy_27 hPy1 ⟨rfl, rfl⟩
theorem v_X6_isClosedBy {M z} (hP : Lay M) (h : d_X6_isClosedBy M = some z) : CC Lay k_X6_isClosedBy [.ref 48, .ref 18] M z.2 (Qv (some (.int z.1)) z.2) xF :=
  CC.ofVV (by decide) rfl (Nat.le_of_ble_eq_true rfl) (b_X6_isClosedBy hP h)
noncomputable def d_X6_isKnown (x2 : Int32) (x3 : Int32) (M : Mem) : Option (Int32 × Mem) :=
  (d_X3_fromTop 18 x2 M).bind fun y1 =>
  okk (vp_in y1.1 549) <|
  okk (vp_in (mI y1.2 23 y1.1.toNatClampNeg) 378) <|
  if ((mI y1.2 55 (mI y1.2 23 y1.1.toNatClampNeg).toNatClampNeg) &&& x3) = 0 then (
    some ((0 : Int32), y1.2))
  else (
    some ((1 : Int32), y1.2))
theorem b_X6_isKnown {x2 : Int32} {x3 : Int32} {M z} (hP : Lay M) (h : d_X6_isKnown x2 x3 M = some z) : VV Lay k_X6_isKnown 0 [(0, .ref 48), (1, .ref 18), (2, .int x2), (3, .int x3)] [] M z.2 (Qv (some (.int z.1)) z.2) xF := by
  unfold d_X6_isKnown at h
  refine Y_aload_n (j := 0) dX6_isKnown_0 rfl rfl ?_
  refine Z_getr dX6_isKnown_1 w2_59 (lk_48 hP) fr_6_6 (lr_48_6 hP) ?_
  refine Y_aload_n (j := 1) dX6_isKnown_4 rfl rfl ?_
  refine Z_getr dX6_isKnown_5 w1_172 (lk_18 hP) fr_4_2 (lr_18_2 hP) ?_
  refine Z_getr dX6_isKnown_8 w1_156 (lk_19 hP) fr_8_3 (lr_19_3 hP) ?_
  refine Y_aload_n (j := 1) dX6_isKnown_11 rfl rfl ?_
  refine Y_iload_n (j := 2) dX6_isKnown_12 rfl rfl ?_
  obtain ⟨y1, qy1, h⟩ := bindE h
  have cy1 := v_X3_fromTop (Or.inl rfl) hP qy1
  refine C_V1r dX6_isKnown_13 w6_148 i_X3_fromTop (lk_18 hP) ⟨Nat.le_of_ble_eq_true rfl, Nat.le_of_ble_eq_true rfl⟩ rfl (Nat.le_of_ble_eq_true rfl) (Nat.le_of_ble_eq_true rfl) (Nat.le_of_ble_eq_true rfl) (cy1) ?_
  have hPy1 := cy1.1.1
  obtain ⟨hb1, h⟩ := okE h
  refine Y_iald dX6_isKnown_16 (lk_23 hPy1) (ln_23 hPy1) hb1 ?_
  obtain ⟨hb2, h⟩ := okE h
  refine Y_iald dX6_isKnown_17 (lk_55 hPy1) (ln_55 hPy1) hb2 ?_
  refine Y_iload_n (j := 3) dX6_isKnown_18 rfl rfl ?_
  refine Y_iand dX6_isKnown_19 ?_
  refine Y_if_eq (tgt := 27) dX6_isKnown_20 (by decide) (fun hc1 => ?_) (fun hc1 => ?_)
  · replace h := ifT hc1 h
    refine Y_iconst (v := (0 : Int32)) dX6_isKnown_27 rfl ?_
    cases h
    exact Y_iret rfl (nar_bo (by decide)) dX6_isKnown_28 hPy1 ⟨rfl, rfl⟩
  · replace h := ifF hc1 h
    refine Y_iconst (v := (1 : Int32)) dX6_isKnown_23 rfl ?_
    refine Y_goto (tgt := 28) dX6_isKnown_24 (by decide) ?_
    cases h
    exact Y_iret rfl (nar_bo (by decide)) dX6_isKnown_28 hPy1 ⟨rfl, rfl⟩
theorem v_X6_isKnown {x2 : Int32} {x3 : Int32} {M z} (hP : Lay M) (h : d_X6_isKnown x2 x3 M = some z) : CC Lay k_X6_isKnown [.ref 48, .ref 18, .int x2, .int x3] M z.2 (Qv (some (.int z.1)) z.2) xF :=
  CC.ofVV (by decide) rfl (Nat.le_of_ble_eq_true rfl) (b_X6_isKnown hP h)
noncomputable def d_X6_madeOf (x1 : Int32) (M : Mem) : Option (Int32 × Mem) :=
  if x1 = 0 then (
    some ((1 : Int32), M))
  else (
    some ((7 : Int32), M))
theorem b_X6_madeOf {x1 : Int32} {M z} (hP : Lay M) (h : d_X6_madeOf x1 M = some z) : VV Lay k_X6_madeOf 0 [(0, .ref 48), (1, .int x1)] [] M z.2 (Qv (some (.int z.1)) z.2) xF := by
  unfold d_X6_madeOf at h
  refine Y_iload_n (j := 1) dX6_madeOf_0 rfl rfl ?_
  refine Y_if_eq (tgt := 9) dX6_madeOf_1 (by decide) (fun hc1 => ?_) (fun hc1 => ?_)
  · replace h := ifT hc1 h
    refine Y_iconst (v := (1 : Int32)) dX6_madeOf_9 rfl ?_
    cases h
    exact Y_iret rfl rfl dX6_madeOf_10 hP ⟨rfl, rfl⟩
  · replace h := ifF hc1 h
    refine Y_bipush (v := (7 : Int32)) dX6_madeOf_4 rfl ?_
    refine Y_goto (tgt := 10) dX6_madeOf_6 (by decide) ?_
    cases h
    exact Y_iret rfl rfl dX6_madeOf_10 hP ⟨rfl, rfl⟩
theorem v_X6_madeOf {x1 : Int32} {M z} (hP : Lay M) (h : d_X6_madeOf x1 M = some z) : CC Lay k_X6_madeOf [.ref 48, .int x1] M z.2 (Qv (some (.int z.1)) z.2) xF :=
  CC.ofVV (by decide) rfl (Nat.le_of_ble_eq_true rfl) (b_X6_madeOf hP h)
noncomputable def d_X6_ask (x1 : Int32) (x2 : Int32) (x3 : Int32) (M : Mem) : Option (Unit × Mem) :=
  okk (vp_in (mI M 48 8) 120) <|
  bnd (sI M 51 (mI M 48 8).toNatClampNeg x1) fun M1 =>
  okk (vp_in (mI M1 48 8) 120) <|
  bnd (sI M1 52 (mI M1 48 8).toNatClampNeg (mI M1 48 7)) fun M2 =>
  okk (vp_in (mI M2 48 8) 120) <|
  bnd (sI M2 53 (mI M2 48 8).toNatClampNeg x2) fun M3 =>
  okk (vp_in (mI M3 48 8) 120) <|
  bnd (sI M3 54 (mI M3 48 8).toNatClampNeg x3) fun M4 =>
  bnd (sI M4 48 8 ((mI M4 48 8) + (1 : Int32))) fun M5 =>
  some ((), M5)
theorem b_X6_ask {x1 : Int32} {x2 : Int32} {x3 : Int32} {M z} (hP : Lay M) (h : d_X6_ask x1 x2 x3 M = some z) : VV Lay k_X6_ask 0 [(0, .ref 48), (1, .int x1), (2, .int x2), (3, .int x3)] [] M z.2 (Qv (none) z.2) xF := by
  unfold d_X6_ask at h
  refine Y_aload_n (j := 0) dX6_ask_0 rfl rfl ?_
  refine Z_getr dX6_ask_1 w2_51 (lk_48 hP) fr_6_2 (lr_48_2 hP) ?_
  refine Y_aload_n (j := 0) dX6_ask_4 rfl rfl ?_
  refine Z_geti dX6_ask_5 w2_64 (lk_48 hP) fi_6_8 ?_
  refine Y_iload_n (j := 1) dX6_ask_8 rfl rfl ?_
  obtain ⟨hb1, h⟩ := okE h
  refine Y_iast dX6_ask_9 (lk_51 hP) (ln_51 hP) hb1 ?_
  obtain ⟨M1, eM1, h⟩ := bndE h
  refine VV.mem eM1 ?_
  have hP1 := hP.wI eM1
  refine Y_aload_n (j := 0) dX6_ask_10 rfl rfl ?_
  refine Z_getr dX6_ask_11 w2_53 (lk_48 hP1) fr_6_3 (lr_48_3 hP1) ?_
  refine Y_aload_n (j := 0) dX6_ask_14 rfl rfl ?_
  refine Z_geti dX6_ask_15 w2_64 (lk_48 hP1) fi_6_8 ?_
  refine Y_aload_n (j := 0) dX6_ask_18 rfl rfl ?_
  refine Z_geti dX6_ask_19 w2_61 (lk_48 hP1) fi_6_7 ?_
  obtain ⟨hb2, h⟩ := okE h
  refine Y_iast dX6_ask_22 (lk_52 hP1) (ln_52 hP1) hb2 ?_
  obtain ⟨M2, eM2, h⟩ := bndE h
  refine VV.mem eM2 ?_
  have hP2 := hP1.wI eM2
  refine Y_aload_n (j := 0) dX6_ask_23 rfl rfl ?_
  refine Z_getr dX6_ask_24 w2_55 (lk_48 hP2) fr_6_4 (lr_48_4 hP2) ?_
  refine Y_aload_n (j := 0) dX6_ask_27 rfl rfl ?_
  refine Z_geti dX6_ask_28 w2_64 (lk_48 hP2) fi_6_8 ?_
  refine Y_iload_n (j := 2) dX6_ask_31 rfl rfl ?_
  obtain ⟨hb3, h⟩ := okE h
  refine Y_iast dX6_ask_32 (lk_53 hP2) (ln_53 hP2) hb3 ?_
  obtain ⟨M3, eM3, h⟩ := bndE h
  refine VV.mem eM3 ?_
  have hP3 := hP2.wI eM3
  refine Y_aload_n (j := 0) dX6_ask_33 rfl rfl ?_
  refine Z_getr dX6_ask_34 w2_57 (lk_48 hP3) fr_6_5 (lr_48_5 hP3) ?_
  refine Y_aload_n (j := 0) dX6_ask_37 rfl rfl ?_
  refine Z_geti dX6_ask_38 w2_64 (lk_48 hP3) fi_6_8 ?_
  refine Y_iload_n (j := 3) dX6_ask_41 rfl rfl ?_
  obtain ⟨hb4, h⟩ := okE h
  refine Y_iast dX6_ask_42 (lk_54 hP3) (ln_54 hP3) hb4 ?_
  obtain ⟨M4, eM4, h⟩ := bndE h
  refine VV.mem eM4 ?_
  have hP4 := hP3.wI eM4
  refine Y_aload_n (j := 0) dX6_ask_43 rfl rfl ?_
  refine Y_dup dX6_ask_44 rfl ?_
  refine Z_geti dX6_ask_45 w2_64 (lk_48 hP4) fi_6_8 ?_
  refine Y_iconst (v := (1 : Int32)) dX6_ask_48 rfl ?_
  refine Y_iadd dX6_ask_49 ?_
  refine Z_puti dX6_ask_50 w2_64 (lk_48 hP4) fi_6_8 (Or.inl rfl) rfl ?_
  obtain ⟨M5, eM5, h⟩ := bndE h
  refine VV.mem eM5 ?_
  have hP5 := hP4.wI eM5
  cases h
  exact Y_vret rfl dX6_ask_53 hP5 ⟨rfl, rfl⟩
theorem v_X6_ask {x1 : Int32} {x2 : Int32} {x3 : Int32} {M z} (hP : Lay M) (h : d_X6_ask x1 x2 x3 M = some z) : CC Lay k_X6_ask [.ref 48, .int x1, .int x2, .int x3] M z.2 (Qv (none) z.2) xF :=
  CC.ofVV (by decide) rfl (Nat.le_of_ble_eq_true rfl) (b_X6_ask hP h)
noncomputable def d_X6_learn (x2 : Int32) (x3 : Int32) (M : Mem) : Option (Unit × Mem) :=
  (d_X3_fromTop 18 x2 M).bind fun y1 =>
  okk (vp_in y1.1 549) <|
  okk (vp_in (mI y1.2 23 y1.1.toNatClampNeg) 378) <|
  okk (vp_in (mI y1.2 23 y1.1.toNatClampNeg) 378) <|
  bnd (sI y1.2 55 (mI y1.2 23 y1.1.toNatClampNeg).toNatClampNeg ((mI y1.2 55 (mI y1.2 23 y1.1.toNatClampNeg).toNatClampNeg) ||| x3)) fun M1 =>
  some ((), M1)
theorem b_X6_learn {x2 : Int32} {x3 : Int32} {M z} (hP : Lay M) (h : d_X6_learn x2 x3 M = some z) : VV Lay k_X6_learn 0 [(0, .ref 48), (1, .ref 18), (2, .int x2), (3, .int x3)] [] M z.2 (Qv (none) z.2) xF := by
  unfold d_X6_learn at h
  refine Y_aload_n (j := 0) dX6_learn_0 rfl rfl ?_
  refine Z_getr dX6_learn_1 w2_59 (lk_48 hP) fr_6_6 (lr_48_6 hP) ?_
  refine Y_aload_n (j := 1) dX6_learn_4 rfl rfl ?_
  refine Z_getr dX6_learn_5 w1_172 (lk_18 hP) fr_4_2 (lr_18_2 hP) ?_
  refine Z_getr dX6_learn_8 w1_156 (lk_19 hP) fr_8_3 (lr_19_3 hP) ?_
  refine Y_aload_n (j := 1) dX6_learn_11 rfl rfl ?_
  refine Y_iload_n (j := 2) dX6_learn_12 rfl rfl ?_
  obtain ⟨y1, qy1, h⟩ := bindE h
  have cy1 := v_X3_fromTop (Or.inl rfl) hP qy1
  refine C_V1r dX6_learn_13 w6_148 i_X3_fromTop (lk_18 hP) ⟨Nat.le_of_ble_eq_true rfl, Nat.le_of_ble_eq_true rfl⟩ rfl (Nat.le_of_ble_eq_true rfl) (Nat.le_of_ble_eq_true rfl) (Nat.le_of_ble_eq_true rfl) (cy1) ?_
  have hPy1 := cy1.1.1
  obtain ⟨hb1, h⟩ := okE h
  refine Y_iald dX6_learn_16 (lk_23 hPy1) (ln_23 hPy1) hb1 ?_
  refine Y_dup2 dX6_learn_17 rfl rfl ?_
  obtain ⟨hb2, h⟩ := okE h
  refine Y_iald dX6_learn_18 (lk_55 hPy1) (ln_55 hPy1) hb2 ?_
  refine Y_iload_n (j := 3) dX6_learn_19 rfl rfl ?_
  refine Y_ior dX6_learn_20 ?_
  obtain ⟨hb3, h⟩ := okE h
  refine Y_iast dX6_learn_21 (lk_55 hPy1) (ln_55 hPy1) hb3 ?_
  obtain ⟨M1, eM1, h⟩ := bndE h
  refine VV.mem eM1 ?_
  have hP1 := hPy1.wI eM1
  cases h
  exact Y_vret rfl dX6_learn_22 hP1 ⟨rfl, rfl⟩
theorem v_X6_learn {x2 : Int32} {x3 : Int32} {M z} (hP : Lay M) (h : d_X6_learn x2 x3 M = some z) : CC Lay k_X6_learn [.ref 48, .ref 18, .int x2, .int x3] M z.2 (Qv (none) z.2) xF :=
  CC.ofVV (by decide) rfl (Nat.le_of_ble_eq_true rfl) (b_X6_learn hP h)
noncomputable def d_X6_askKind (x2 : Int32) (M : Mem) : Option (Unit × Mem) :=
  (d_X6_isKnown x2 (1 : Int32) M).bind fun y1 =>
  if y1.1 = 0 then (
    (d_X3_answerTo 18 (107 : Int32) x2 y1.2).bind fun y2 =>
    (d_X6_ask (107 : Int32) x2 y2.1 y2.2).bind fun y3 =>
    (d_X3_fromTop 18 x2 y3.2).bind fun y4 =>
    (d_X8_isNumber 18 y4.1 y4.2).bind fun y5 =>
    if y5.1 = 0 then (
      (d_X6_learn x2 (3 : Int32) y5.2).bind fun y6 =>
      some ((), y6.2))
    else (
      (d_X6_learn x2 (1 : Int32) y5.2).bind fun y7 =>
      some ((), y7.2)))
  else (
    some ((), y1.2))
theorem b_X6_askKind {x2 : Int32} {M z} (hP : Lay M) (h : d_X6_askKind x2 M = some z) : VV Lay k_X6_askKind 0 [(0, .ref 48), (1, .ref 18), (2, .int x2)] [] M z.2 (Qv (none) z.2) xF := by
  unfold d_X6_askKind at h
  refine Y_aload_n (j := 0) dX6_askKind_0 rfl rfl ?_
  refine Y_aload_n (j := 1) dX6_askKind_1 rfl rfl ?_
  refine Y_iload_n (j := 2) dX6_askKind_2 rfl rfl ?_
  refine Y_iconst (v := (1 : Int32)) dX6_askKind_3 rfl ?_
  obtain ⟨y1, qy1, h⟩ := bindE h
  have cy1 := v_X6_isKnown hP qy1
  refine C_V3r dX6_askKind_4 w6_144 i_X6_isKnown (lk_48 hP) ⟨Nat.le_of_ble_eq_true rfl, Nat.le_of_ble_eq_true rfl⟩ rfl (Nat.le_of_ble_eq_true rfl) (Nat.le_of_ble_eq_true rfl) (Nat.le_of_ble_eq_true rfl) (cy1) ?_
  have hPy1 := cy1.1.1
  refine Y_if_ne (tgt := 50) dX6_askKind_7 (by decide) (fun hc1 => ?_) (fun hc1 => ?_)
  · replace h := ifF hc1 h
    cases h
    exact Y_vret rfl dX6_askKind_50 hPy1 ⟨rfl, rfl⟩
  · replace h := ifT hc1 h
    refine Y_aload_n (j := 0) dX6_askKind_10 rfl rfl ?_
    refine Y_bipush (v := (107 : Int32)) dX6_askKind_11 rfl ?_
    refine Y_iload_n (j := 2) dX6_askKind_13 rfl rfl ?_
    refine Y_aload_n (j := 1) dX6_askKind_14 rfl rfl ?_
    refine Y_bipush (v := (107 : Int32)) dX6_askKind_15 rfl ?_
    refine Y_iload_n (j := 2) dX6_askKind_17 rfl rfl ?_
    obtain ⟨y2, qy2, h⟩ := bindE h
    have cy2 := v_X3_answerTo (Or.inl rfl) hPy1 qy2
    refine C_V2r dX6_askKind_18 w6_157 i_X3_answerTo (lk_18 hPy1) ⟨Nat.le_of_ble_eq_true rfl, Nat.le_of_ble_eq_true rfl⟩ rfl (Nat.le_of_ble_eq_true rfl) (Nat.le_of_ble_eq_true rfl) (Nat.le_of_ble_eq_true rfl) (cy2) ?_
    have hPy2 := cy2.1.1
    obtain ⟨y3, qy3, h⟩ := bindE h
    have cy3 := v_X6_ask hPy2 qy3
    refine C_V3o dX6_askKind_21 w6_158 i_X6_ask (lk_48 hPy2) ⟨Nat.le_of_ble_eq_true rfl, Nat.le_of_ble_eq_true rfl⟩ rfl (Nat.le_of_ble_eq_true rfl) (Nat.le_of_ble_eq_true rfl) (Nat.le_of_ble_eq_true rfl) (cy3) ?_
    have hPy3 := cy3.1.1
    refine Y_aload_n (j := 0) dX6_askKind_24 rfl rfl ?_
    refine Y_aload_n (j := 1) dX6_askKind_25 rfl rfl ?_
    refine Y_iload_n (j := 2) dX6_askKind_26 rfl rfl ?_
    refine Y_aload_n (j := 1) dX6_askKind_27 rfl rfl ?_
    refine Z_getr dX6_askKind_28 w1_172 (lk_18 hPy3) fr_4_2 (lr_18_2 hPy3) ?_
    refine Y_aload_n (j := 1) dX6_askKind_31 rfl rfl ?_
    refine Y_iload_n (j := 2) dX6_askKind_32 rfl rfl ?_
    obtain ⟨y4, qy4, h⟩ := bindE h
    have cy4 := v_X3_fromTop (Or.inl rfl) hPy3 qy4
    refine C_V1r dX6_askKind_33 w6_148 i_X3_fromTop (lk_18 hPy3) ⟨Nat.le_of_ble_eq_true rfl, Nat.le_of_ble_eq_true rfl⟩ rfl (Nat.le_of_ble_eq_true rfl) (Nat.le_of_ble_eq_true rfl) (Nat.le_of_ble_eq_true rfl) (cy4) ?_
    have hPy4 := cy4.1.1
    obtain ⟨y5, qy5, h⟩ := bindE h
    have cy5 := v_X8_isNumber (Or.inl rfl) hPy4 qy5
    refine C_V1r dX6_askKind_36 w6_162 i_X8_isNumber (lk_19 hPy4) ⟨Nat.le_of_ble_eq_true rfl, Nat.le_of_ble_eq_true rfl⟩ rfl (Nat.le_of_ble_eq_true rfl) (Nat.le_of_ble_eq_true rfl) (Nat.le_of_ble_eq_true rfl) (cy5) ?_
    have hPy5 := cy5.1.1
    refine Y_if_eq (tgt := 46) dX6_askKind_39 (by decide) (fun hc2 => ?_) (fun hc2 => ?_)
    · replace h := ifT hc2 h
      refine Y_iconst (v := (3 : Int32)) dX6_askKind_46 rfl ?_
      obtain ⟨y6, qy6, h⟩ := bindE h
      have cy6 := v_X6_learn hPy5 qy6
      refine C_V3o dX6_askKind_47 w6_163 i_X6_learn (lk_48 hPy5) ⟨Nat.le_of_ble_eq_true rfl, Nat.le_of_ble_eq_true rfl⟩ rfl (Nat.le_of_ble_eq_true rfl) (Nat.le_of_ble_eq_true rfl) (Nat.le_of_ble_eq_true rfl) (cy6) ?_
      have hPy6 := cy6.1.1
      cases h
      exact Y_vret rfl dX6_askKind_50 hPy6 ⟨rfl, rfl⟩
    · replace h := ifF hc2 h
      refine Y_iconst (v := (1 : Int32)) dX6_askKind_42 rfl ?_
      refine Y_goto (tgt := 47) dX6_askKind_43 (by decide) ?_
      obtain ⟨y7, qy7, h⟩ := bindE h
      have cy7 := v_X6_learn hPy5 qy7
      refine C_V3o dX6_askKind_47 w6_163 i_X6_learn (lk_48 hPy5) ⟨Nat.le_of_ble_eq_true rfl, Nat.le_of_ble_eq_true rfl⟩ rfl (Nat.le_of_ble_eq_true rfl) (Nat.le_of_ble_eq_true rfl) (Nat.le_of_ble_eq_true rfl) (cy7) ?_
      have hPy7 := cy7.1.1
      cases h
      exact Y_vret rfl dX6_askKind_50 hPy7 ⟨rfl, rfl⟩
theorem v_X6_askKind {x2 : Int32} {M z} (hP : Lay M) (h : d_X6_askKind x2 M = some z) : CC Lay k_X6_askKind [.ref 48, .ref 18, .int x2] M z.2 (Qv (none) z.2) xF :=
  CC.ofVV (by decide) rfl (Nat.le_of_ble_eq_true rfl) (b_X6_askKind hP h)
noncomputable def d_X6_askNullness (x2 : Int32) (M : Mem) : Option (Unit × Mem) :=
  (d_X6_isKnown (1 : Int32) (2 : Int32) M).bind fun y1 =>
  if y1.1 = 0 then (
    (d_X3_answerTo 18 x2 (1 : Int32) y1.2).bind fun y2 =>
    (d_X6_ask x2 (1 : Int32) y2.1 y2.2).bind fun y3 =>
    (d_X6_learn (1 : Int32) (2 : Int32) y3.2).bind fun y4 =>
    some ((), y4.2))
  else (
    some ((), y1.2))
theorem b_X6_askNullness {x2 : Int32} {M z} (hP : Lay M) (h : d_X6_askNullness x2 M = some z) : VV Lay k_X6_askNullness 0 [(0, .ref 48), (1, .ref 18), (2, .int x2)] [] M z.2 (Qv (none) z.2) xF := by
  unfold d_X6_askNullness at h
  refine Y_aload_n (j := 0) dX6_askNullness_0 rfl rfl ?_
  refine Y_aload_n (j := 1) dX6_askNullness_1 rfl rfl ?_
  refine Y_iconst (v := (1 : Int32)) dX6_askNullness_2 rfl ?_
  refine Y_iconst (v := (2 : Int32)) dX6_askNullness_3 rfl ?_
  obtain ⟨y1, qy1, h⟩ := bindE h
  have cy1 := v_X6_isKnown hP qy1
  refine C_V3r dX6_askNullness_4 w6_144 i_X6_isKnown (lk_48 hP) ⟨Nat.le_of_ble_eq_true rfl, Nat.le_of_ble_eq_true rfl⟩ rfl (Nat.le_of_ble_eq_true rfl) (Nat.le_of_ble_eq_true rfl) (Nat.le_of_ble_eq_true rfl) (cy1) ?_
  have hPy1 := cy1.1.1
  refine Y_if_ne (tgt := 29) dX6_askNullness_7 (by decide) (fun hc1 => ?_) (fun hc1 => ?_)
  · replace h := ifF hc1 h
    cases h
    exact Y_vret rfl dX6_askNullness_29 hPy1 ⟨rfl, rfl⟩
  · replace h := ifT hc1 h
    refine Y_aload_n (j := 0) dX6_askNullness_10 rfl rfl ?_
    refine Y_iload_n (j := 2) dX6_askNullness_11 rfl rfl ?_
    refine Y_iconst (v := (1 : Int32)) dX6_askNullness_12 rfl ?_
    refine Y_aload_n (j := 1) dX6_askNullness_13 rfl rfl ?_
    refine Y_iload_n (j := 2) dX6_askNullness_14 rfl rfl ?_
    refine Y_iconst (v := (1 : Int32)) dX6_askNullness_15 rfl ?_
    obtain ⟨y2, qy2, h⟩ := bindE h
    have cy2 := v_X3_answerTo (Or.inl rfl) hPy1 qy2
    refine C_V2r dX6_askNullness_16 w6_157 i_X3_answerTo (lk_18 hPy1) ⟨Nat.le_of_ble_eq_true rfl, Nat.le_of_ble_eq_true rfl⟩ rfl (Nat.le_of_ble_eq_true rfl) (Nat.le_of_ble_eq_true rfl) (Nat.le_of_ble_eq_true rfl) (cy2) ?_
    have hPy2 := cy2.1.1
    obtain ⟨y3, qy3, h⟩ := bindE h
    have cy3 := v_X6_ask hPy2 qy3
    refine C_V3o dX6_askNullness_19 w6_158 i_X6_ask (lk_48 hPy2) ⟨Nat.le_of_ble_eq_true rfl, Nat.le_of_ble_eq_true rfl⟩ rfl (Nat.le_of_ble_eq_true rfl) (Nat.le_of_ble_eq_true rfl) (Nat.le_of_ble_eq_true rfl) (cy3) ?_
    have hPy3 := cy3.1.1
    refine Y_aload_n (j := 0) dX6_askNullness_22 rfl rfl ?_
    refine Y_aload_n (j := 1) dX6_askNullness_23 rfl rfl ?_
    refine Y_iconst (v := (1 : Int32)) dX6_askNullness_24 rfl ?_
    refine Y_iconst (v := (2 : Int32)) dX6_askNullness_25 rfl ?_
    obtain ⟨y4, qy4, h⟩ := bindE h
    have cy4 := v_X6_learn hPy3 qy4
    refine C_V3o dX6_askNullness_26 w6_163 i_X6_learn (lk_48 hPy3) ⟨Nat.le_of_ble_eq_true rfl, Nat.le_of_ble_eq_true rfl⟩ rfl (Nat.le_of_ble_eq_true rfl) (Nat.le_of_ble_eq_true rfl) (Nat.le_of_ble_eq_true rfl) (cy4) ?_
    have hPy4 := cy4.1.1
    cases h
    exact Y_vret rfl dX6_askNullness_29 hPy4 ⟨rfl, rfl⟩
theorem v_X6_askNullness {x2 : Int32} {M z} (hP : Lay M) (h : d_X6_askNullness x2 M = some z) : CC Lay k_X6_askNullness [.ref 48, .ref 18, .int x2] M z.2 (Qv (none) z.2) xF :=
  CC.ofVV (by decide) rfl (Nat.le_of_ble_eq_true rfl) (b_X6_askNullness hP h)
noncomputable def d_X6_askShape (x2 : Int32) (M : Mem) : Option (Unit × Mem) :=
  (d_X6_isKnown x2 (8 : Int32) M).bind fun y1 =>
  if y1.1 = 0 then (
    (d_X3_answerTo 18 (115 : Int32) x2 y1.2).bind fun y2 =>
    (d_X6_ask (115 : Int32) x2 y2.1 y2.2).bind fun y3 =>
    (d_X6_learn x2 (11 : Int32) y3.2).bind fun y4 =>
    some ((), y4.2))
  else (
    some ((), y1.2))
theorem b_X6_askShape {x2 : Int32} {M z} (hP : Lay M) (h : d_X6_askShape x2 M = some z) : VV Lay k_X6_askShape 0 [(0, .ref 48), (1, .ref 18), (2, .int x2)] [] M z.2 (Qv (none) z.2) xF := by
  unfold d_X6_askShape at h
  refine Y_aload_n (j := 0) dX6_askShape_0 rfl rfl ?_
  refine Y_aload_n (j := 1) dX6_askShape_1 rfl rfl ?_
  refine Y_iload_n (j := 2) dX6_askShape_2 rfl rfl ?_
  refine Y_bipush (v := (8 : Int32)) dX6_askShape_3 rfl ?_
  obtain ⟨y1, qy1, h⟩ := bindE h
  have cy1 := v_X6_isKnown hP qy1
  refine C_V3r dX6_askShape_5 w6_144 i_X6_isKnown (lk_48 hP) ⟨Nat.le_of_ble_eq_true rfl, Nat.le_of_ble_eq_true rfl⟩ rfl (Nat.le_of_ble_eq_true rfl) (Nat.le_of_ble_eq_true rfl) (Nat.le_of_ble_eq_true rfl) (cy1) ?_
  have hPy1 := cy1.1.1
  refine Y_if_ne (tgt := 33) dX6_askShape_8 (by decide) (fun hc1 => ?_) (fun hc1 => ?_)
  · replace h := ifF hc1 h
    cases h
    exact Y_vret rfl dX6_askShape_33 hPy1 ⟨rfl, rfl⟩
  · replace h := ifT hc1 h
    refine Y_aload_n (j := 0) dX6_askShape_11 rfl rfl ?_
    refine Y_bipush (v := (115 : Int32)) dX6_askShape_12 rfl ?_
    refine Y_iload_n (j := 2) dX6_askShape_14 rfl rfl ?_
    refine Y_aload_n (j := 1) dX6_askShape_15 rfl rfl ?_
    refine Y_bipush (v := (115 : Int32)) dX6_askShape_16 rfl ?_
    refine Y_iload_n (j := 2) dX6_askShape_18 rfl rfl ?_
    obtain ⟨y2, qy2, h⟩ := bindE h
    have cy2 := v_X3_answerTo (Or.inl rfl) hPy1 qy2
    refine C_V2r dX6_askShape_19 w6_157 i_X3_answerTo (lk_18 hPy1) ⟨Nat.le_of_ble_eq_true rfl, Nat.le_of_ble_eq_true rfl⟩ rfl (Nat.le_of_ble_eq_true rfl) (Nat.le_of_ble_eq_true rfl) (Nat.le_of_ble_eq_true rfl) (cy2) ?_
    have hPy2 := cy2.1.1
    obtain ⟨y3, qy3, h⟩ := bindE h
    have cy3 := v_X6_ask hPy2 qy3
    refine C_V3o dX6_askShape_22 w6_158 i_X6_ask (lk_48 hPy2) ⟨Nat.le_of_ble_eq_true rfl, Nat.le_of_ble_eq_true rfl⟩ rfl (Nat.le_of_ble_eq_true rfl) (Nat.le_of_ble_eq_true rfl) (Nat.le_of_ble_eq_true rfl) (cy3) ?_
    have hPy3 := cy3.1.1
    refine Y_aload_n (j := 0) dX6_askShape_25 rfl rfl ?_
    refine Y_aload_n (j := 1) dX6_askShape_26 rfl rfl ?_
    refine Y_iload_n (j := 2) dX6_askShape_27 rfl rfl ?_
    refine Y_bipush (v := (11 : Int32)) dX6_askShape_28 rfl ?_
    obtain ⟨y4, qy4, h⟩ := bindE h
    have cy4 := v_X6_learn hPy3 qy4
    refine C_V3o dX6_askShape_30 w6_163 i_X6_learn (lk_48 hPy3) ⟨Nat.le_of_ble_eq_true rfl, Nat.le_of_ble_eq_true rfl⟩ rfl (Nat.le_of_ble_eq_true rfl) (Nat.le_of_ble_eq_true rfl) (Nat.le_of_ble_eq_true rfl) (cy4) ?_
    have hPy4 := cy4.1.1
    cases h
    exact Y_vret rfl dX6_askShape_33 hPy4 ⟨rfl, rfl⟩
theorem v_X6_askShape {x2 : Int32} {M z} (hP : Lay M) (h : d_X6_askShape x2 M = some z) : CC Lay k_X6_askShape [.ref 48, .ref 18, .int x2] M z.2 (Qv (none) z.2) xF :=
  CC.ofVV (by decide) rfl (Nat.le_of_ble_eq_true rfl) (b_X6_askShape hP h)
noncomputable def d_X6_forgetOtherShapes_22b (k22 : (Int32) → Mem → Option (Unit × Mem)) (x2 : Int32) (M : Mem) : Option (Unit × Mem) :=
  if (mI M 48 9) ≤ x2 then (
    (d_X6_learn (2 : Int32) (8 : Int32) M).bind fun y1 =>
    some ((), y1.2))
  else (
    okk (vp_in x2 378) <|
    okk (vp_in x2 378) <|
    bnd (sI M 55 x2.toNatClampNeg ((mI M 55 x2.toNatClampNeg) &&& (-9 : Int32))) fun M1 =>
    bnd ((x2 + (1 : Int32))) fun b1 =>
    k22 (b1) M1)
theorem b_X6_forgetOtherShapes_22b {k22 : (Int32) → Mem → Option (Unit × Mem)} {x2 : Int32} {M z} (hk22 : ∀ (a : (Int32)) (M : Mem) (z : Unit × Mem), Lay M → k22 a M = some z → VV Lay k_X6_forgetOtherShapes 22 [(0, .ref 48), (1, .ref 18), (2, .int a)] [] M z.2 (Qv (none) z.2) xF) (hP : Lay M) (h : d_X6_forgetOtherShapes_22b k22 x2 M = some z) : VV Lay k_X6_forgetOtherShapes 22 [(0, .ref 48), (1, .ref 18), (2, .int x2)] [] M z.2 (Qv (none) z.2) xF := by
  unfold d_X6_forgetOtherShapes_22b at h
  refine Y_iload_n (j := 2) dX6_forgetOtherShapes_22 rfl rfl ?_
  refine Y_aload_n (j := 0) dX6_forgetOtherShapes_23 rfl rfl ?_
  refine Z_geti dX6_forgetOtherShapes_24 w2_65 (lk_48 hP) fi_6_9 ?_
  refine Y_icmp_ge (tgt := 47) dX6_forgetOtherShapes_27 (by decide) (fun hc1 => ?_) (fun hc1 => ?_)
  · replace h := ifT hc1 h
    refine Y_aload_n (j := 0) dX6_forgetOtherShapes_47 rfl rfl ?_
    refine Y_aload_n (j := 1) dX6_forgetOtherShapes_48 rfl rfl ?_
    refine Y_iconst (v := (2 : Int32)) dX6_forgetOtherShapes_49 rfl ?_
    refine Y_bipush (v := (8 : Int32)) dX6_forgetOtherShapes_50 rfl ?_
    obtain ⟨y1, qy1, h⟩ := bindE h
    have cy1 := v_X6_learn hP qy1
    refine C_V3o dX6_forgetOtherShapes_52 w6_163 i_X6_learn (lk_48 hP) ⟨Nat.le_of_ble_eq_true rfl, Nat.le_of_ble_eq_true rfl⟩ rfl (Nat.le_of_ble_eq_true rfl) (Nat.le_of_ble_eq_true rfl) (Nat.le_of_ble_eq_true rfl) (cy1) ?_
    have hPy1 := cy1.1.1
    cases h
    exact Y_vret rfl dX6_forgetOtherShapes_55 hPy1 ⟨rfl, rfl⟩
  · replace h := ifF hc1 h
    refine Y_aload_n (j := 0) dX6_forgetOtherShapes_30 rfl rfl ?_
    refine Z_getr dX6_forgetOtherShapes_31 w2_59 (lk_48 hP) fr_6_6 (lr_48_6 hP) ?_
    refine Y_iload_n (j := 2) dX6_forgetOtherShapes_34 rfl rfl ?_
    refine Y_dup2 dX6_forgetOtherShapes_35 rfl rfl ?_
    obtain ⟨hb1, h⟩ := okE h
    refine Y_iald dX6_forgetOtherShapes_36 (lk_55 hP) (ln_55 hP) hb1 ?_
    refine Y_bipush (v := (-9 : Int32)) dX6_forgetOtherShapes_37 rfl ?_
    refine Y_iand dX6_forgetOtherShapes_39 ?_
    obtain ⟨hb2, h⟩ := okE h
    refine Y_iast dX6_forgetOtherShapes_40 (lk_55 hP) (ln_55 hP) hb2 ?_
    obtain ⟨M1, eM1, h⟩ := bndE h
    refine VV.mem eM1 ?_
    have hP1 := hP.wI eM1
    obtain ⟨b1, eb1, h⟩ := bndE h
    refine Y_iinc (j := 2) (v := b1) (lv1 := [(2, .int b1), (0, .ref 48), (1, .ref 18)]) dX6_forgetOtherShapes_41 rfl eb1.symm (by decide) rfl ?_
    refine Y_goto (tgt := 22) dX6_forgetOtherShapes_44 (by decide) ?_
    refine VV.sub [1, 2, 0] rfl ?_
    exact hk22 _ _ _ hP1 h
noncomputable def d_X6_forgetOtherShapes_22 : Nat → (Int32) → Mem → Option (Unit × Mem) := lp fun k a M => d_X6_forgetOtherShapes_22b k a M
theorem b_X6_forgetOtherShapes_22 (n : Nat) : ∀ (a : (Int32)) (M : Mem) (z : Unit × Mem), d_X6_forgetOtherShapes_22 n a M = some z → Lay M → VV Lay k_X6_forgetOtherShapes 22 [(0, .ref 48), (1, .ref 18), (2, .int a)] [] M z.2 (Qv (none) z.2) xF :=
  lp_ind (fun k hk a M z h hP => b_X6_forgetOtherShapes_22b  (fun a M z hP h => hk a M z h hP) hP h) n
noncomputable def d_X6_forgetOtherShapes (M : Mem) : Option (Unit × Mem) :=
  (d_X3_shapeFromTop 18 (2 : Int32) M).bind fun y1 =>
  (d_X7_has y1.1 (mI y1.2 18 8) y1.2).bind fun y2 =>
  if y2.1 = 0 then (
    d_X6_forgetOtherShapes_22 fuel ((0 : Int32)) y2.2)
  else (
    some ((), y2.2))
theorem b_X6_forgetOtherShapes {M z} (hP : Lay M) (h : d_X6_forgetOtherShapes M = some z) : VV Lay k_X6_forgetOtherShapes 0 [(0, .ref 48), (1, .ref 18)] [] M z.2 (Qv (none) z.2) xF := by
  unfold d_X6_forgetOtherShapes at h
  refine Y_aload_n (j := 1) dX6_forgetOtherShapes_0 rfl rfl ?_
  refine Z_getr dX6_forgetOtherShapes_1 w1_170 (lk_18 hP) fr_4_1 (lr_18_1 hP) ?_
  refine Y_aload_n (j := 1) dX6_forgetOtherShapes_4 rfl rfl ?_
  refine Y_iconst (v := (2 : Int32)) dX6_forgetOtherShapes_5 rfl ?_
  obtain ⟨y1, qy1, h⟩ := bindE h
  have cy1 := v_X3_shapeFromTop (Or.inl rfl) hP qy1
  refine C_V1r dX6_forgetOtherShapes_6 w6_179 i_X3_shapeFromTop (lk_18 hP) ⟨Nat.le_of_ble_eq_true rfl, Nat.le_of_ble_eq_true rfl⟩ rfl (Nat.le_of_ble_eq_true rfl) (Nat.le_of_ble_eq_true rfl) (Nat.le_of_ble_eq_true rfl) (cy1) ?_
  have hPy1 := cy1.1.1
  refine Y_aload_n (j := 1) dX6_forgetOtherShapes_9 rfl rfl ?_
  refine Z_geti dX6_forgetOtherShapes_10 w1_182 (lk_18 hPy1) fi_4_8 ?_
  obtain ⟨y2, qy2, h⟩ := bindE h
  have cy2 := v_X7_has hPy1 qy2
  refine C_V2r dX6_forgetOtherShapes_13 w6_180 i_X7_has (lk_11 hPy1) ⟨Nat.le_of_ble_eq_true rfl, Nat.le_of_ble_eq_true rfl⟩ rfl (Nat.le_of_ble_eq_true rfl) (Nat.le_of_ble_eq_true rfl) (Nat.le_of_ble_eq_true rfl) (cy2) ?_
  have hPy2 := cy2.1.1
  refine Y_if_eq (tgt := 20) dX6_forgetOtherShapes_16 (by decide) (fun hc1 => ?_) (fun hc1 => ?_)
  · replace h := ifT hc1 h
    refine Y_iconst (v := (0 : Int32)) dX6_forgetOtherShapes_20 rfl ?_
    refine Y_istore_n (lv1 := [(2, .int (0 : Int32)), (0, .ref 48), (1, .ref 18)]) dX6_forgetOtherShapes_21 rfl (by decide) rfl ?_
    refine VV.sub [1, 2, 0] rfl ?_
    exact b_X6_forgetOtherShapes_22  fuel _ _ _ h hPy2
  · replace h := ifF hc1 h
    cases h
    exact Y_vret rfl dX6_forgetOtherShapes_19 hPy2 ⟨rfl, rfl⟩
theorem v_X6_forgetOtherShapes {M z} (hP : Lay M) (h : d_X6_forgetOtherShapes M = some z) : CC Lay k_X6_forgetOtherShapes [.ref 48, .ref 18] M z.2 (Qv (none) z.2) xF :=
  CC.ofVV (by decide) rfl (Nat.le_of_ble_eq_true rfl) (b_X6_forgetOtherShapes hP h)
noncomputable def d_X6_noteTwoValues_102 (x2 : Int32) (M : Mem) : Option (Unit × Mem) :=
  if (xIdx 4 x2) < 0 then (
    some ((), M))
  else (
    (d_X3_answerTo 18 (111 : Int32) (2 : Int32) M).bind fun y1 =>
    (d_X6_ask (111 : Int32) (2 : Int32) y1.1 y1.2).bind fun y2 =>
    some ((), y2.2))
theorem b_X6_noteTwoValues_102 {x2 : Int32} {M z} (hP : Lay M) (h : d_X6_noteTwoValues_102 x2 M = some z) : VV Lay k_X6_noteTwoValues 102 [(0, .ref 48), (1, .ref 18), (2, .int x2)] [] M z.2 (Qv (none) z.2) xF := by
  unfold d_X6_noteTwoValues_102 at h
  refine Y_ldcS (i := 4) dX6_noteTwoValues_102 rfl ?_
  refine Y_iload_n (j := 2) dX6_noteTwoValues_104 rfl rfl ?_
  refine Y_indexOf dX6_noteTwoValues_105 w6_186 (i := 4) rfl ?_
  refine Y_if_lt (tgt := 125) dX6_noteTwoValues_108 (by decide) (fun hc1 => ?_) (fun hc1 => ?_)
  · replace h := ifT hc1 h
    cases h
    exact Y_vret rfl dX6_noteTwoValues_125 hP ⟨rfl, rfl⟩
  · replace h := ifF hc1 h
    refine Y_aload_n (j := 0) dX6_noteTwoValues_111 rfl rfl ?_
    refine Y_bipush (v := (111 : Int32)) dX6_noteTwoValues_112 rfl ?_
    refine Y_iconst (v := (2 : Int32)) dX6_noteTwoValues_114 rfl ?_
    refine Y_aload_n (j := 1) dX6_noteTwoValues_115 rfl rfl ?_
    refine Y_bipush (v := (111 : Int32)) dX6_noteTwoValues_116 rfl ?_
    refine Y_iconst (v := (2 : Int32)) dX6_noteTwoValues_118 rfl ?_
    obtain ⟨y1, qy1, h⟩ := bindE h
    have cy1 := v_X3_answerTo (Or.inl rfl) hP qy1
    refine C_V2r dX6_noteTwoValues_119 w6_157 i_X3_answerTo (lk_18 hP) ⟨Nat.le_of_ble_eq_true rfl, Nat.le_of_ble_eq_true rfl⟩ rfl (Nat.le_of_ble_eq_true rfl) (Nat.le_of_ble_eq_true rfl) (Nat.le_of_ble_eq_true rfl) (cy1) ?_
    have hPy1 := cy1.1.1
    obtain ⟨y2, qy2, h⟩ := bindE h
    have cy2 := v_X6_ask hPy1 qy2
    refine C_V3o dX6_noteTwoValues_122 w6_158 i_X6_ask (lk_48 hPy1) ⟨Nat.le_of_ble_eq_true rfl, Nat.le_of_ble_eq_true rfl⟩ rfl (Nat.le_of_ble_eq_true rfl) (Nat.le_of_ble_eq_true rfl) (Nat.le_of_ble_eq_true rfl) (cy2) ?_
    have hPy2 := cy2.1.1
    cases h
    exact Y_vret rfl dX6_noteTwoValues_125 hPy2 ⟨rfl, rfl⟩
noncomputable def d_X6_noteTwoValues_95 (x2 : Int32) (M : Mem) : Option (Unit × Mem) :=
  (d_X6_askNullness (122 : Int32) M).bind fun y1 =>
  d_X6_noteTwoValues_102 x2 y1.2
theorem b_X6_noteTwoValues_95 {x2 : Int32} {M z} (hP : Lay M) (h : d_X6_noteTwoValues_95 x2 M = some z) : VV Lay k_X6_noteTwoValues 95 [(0, .ref 48), (1, .ref 18), (2, .int x2)] [] M z.2 (Qv (none) z.2) xF := by
  unfold d_X6_noteTwoValues_95 at h
  refine Y_aload_n (j := 0) dX6_noteTwoValues_95 rfl rfl ?_
  refine Y_aload_n (j := 1) dX6_noteTwoValues_96 rfl rfl ?_
  refine Y_bipush (v := (122 : Int32)) dX6_noteTwoValues_97 rfl ?_
  obtain ⟨y1, qy1, h⟩ := bindE h
  have cy1 := v_X6_askNullness hP qy1
  refine C_V2o dX6_noteTwoValues_99 w6_167 i_X6_askNullness (lk_48 hP) ⟨Nat.le_of_ble_eq_true rfl, Nat.le_of_ble_eq_true rfl⟩ rfl (Nat.le_of_ble_eq_true rfl) (Nat.le_of_ble_eq_true rfl) (Nat.le_of_ble_eq_true rfl) (cy1) ?_
  have hPy1 := cy1.1.1
  refine VV.sub [0, 1, 2] rfl ?_
  exact b_X6_noteTwoValues_102  hPy1 h
noncomputable def d_X6_noteTwoValues_35 (x2 : Int32) (s0 : Int32) (M : Mem) : Option (Unit × Mem) :=
  (d_X6_madeOf s0 M).bind fun y1 =>
  bnd (sI y1.2 48 15 y1.1) fun M1 =>
  if s0 = 0 then (
    (d_X6_askKind (2 : Int32) M1).bind fun y2 =>
    (d_X6_askKind (1 : Int32) y2.2).bind fun y3 =>
    (d_X3_fromTop 18 (2 : Int32) y3.2).bind fun y4 =>
    (d_X3_fromTop 18 (1 : Int32) y4.2).bind fun y5 =>
    (d_X8_areIntegers 18 y4.1 y5.1 y5.2).bind fun y6 =>
    if y6.1 = 0 then (
      some ((), y6.2))
    else (
      if x2 = (47 : Int32) then (
        d_X6_noteTwoValues_95 x2 y6.2)
      else (
        if x2 = (37 : Int32) then (
          d_X6_noteTwoValues_95 x2 y6.2)
        else (
          d_X6_noteTwoValues_102 x2 y6.2))))
  else (
    some ((), M1))
theorem b_X6_noteTwoValues_35 {x2 : Int32} {s0 : Int32} {M z} (hP : Lay M) (h : d_X6_noteTwoValues_35 x2 s0 M = some z) : VV Lay k_X6_noteTwoValues 35 [(0, .ref 48), (1, .ref 18), (2, .int x2)] [.int s0] M z.2 (Qv (none) z.2) xF := by
  unfold d_X6_noteTwoValues_35 at h
  refine Y_istore_n (lv1 := [(3, .int s0), (0, .ref 48), (1, .ref 18), (2, .int x2)]) dX6_noteTwoValues_35 rfl (by decide) rfl ?_
  refine Y_aload_n (j := 1) dX6_noteTwoValues_36 rfl rfl ?_
  refine Y_aload_n (j := 1) dX6_noteTwoValues_37 rfl rfl ?_
  refine Y_iload_n (j := 0) dX6_noteTwoValues_38 rfl rfl ?_
  obtain ⟨y1, qy1, h⟩ := bindE h
  have cy1 := v_X6_madeOf hP qy1
  refine C_V1r dX6_noteTwoValues_39 w6_149 i_X6_madeOf (lk_48 hP) ⟨Nat.le_of_ble_eq_true rfl, Nat.le_of_ble_eq_true rfl⟩ rfl (Nat.le_of_ble_eq_true rfl) (Nat.le_of_ble_eq_true rfl) (Nat.le_of_ble_eq_true rfl) (cy1) ?_
  have hPy1 := cy1.1.1
  refine Z_puti dX6_noteTwoValues_42 w2_77 (lk_48 hPy1) fi_6_15 (Or.inl rfl) rfl ?_
  obtain ⟨M1, eM1, h⟩ := bndE h
  refine VV.mem eM1 ?_
  have hP1 := hPy1.wI eM1
  refine Y_iload_n (j := 0) dX6_noteTwoValues_45 rfl rfl ?_
  refine Y_if_eq (tgt := 50) dX6_noteTwoValues_46 (by decide) (fun hc1 => ?_) (fun hc1 => ?_)
  · replace h := ifT hc1 h
    refine Y_aload_n (j := 1) dX6_noteTwoValues_50 rfl rfl ?_
    refine Y_aload_n (j := 2) dX6_noteTwoValues_51 rfl rfl ?_
    refine Y_iconst (v := (2 : Int32)) dX6_noteTwoValues_52 rfl ?_
    obtain ⟨y2, qy2, h⟩ := bindE h
    have cy2 := v_X6_askKind hP1 qy2
    refine C_V2o dX6_noteTwoValues_53 w6_153 i_X6_askKind (lk_48 hP1) ⟨Nat.le_of_ble_eq_true rfl, Nat.le_of_ble_eq_true rfl⟩ rfl (Nat.le_of_ble_eq_true rfl) (Nat.le_of_ble_eq_true rfl) (Nat.le_of_ble_eq_true rfl) (cy2) ?_
    have hPy2 := cy2.1.1
    refine Y_aload_n (j := 1) dX6_noteTwoValues_56 rfl rfl ?_
    refine Y_aload_n (j := 2) dX6_noteTwoValues_57 rfl rfl ?_
    refine Y_iconst (v := (1 : Int32)) dX6_noteTwoValues_58 rfl ?_
    obtain ⟨y3, qy3, h⟩ := bindE h
    have cy3 := v_X6_askKind hPy2 qy3
    refine C_V2o dX6_noteTwoValues_59 w6_153 i_X6_askKind (lk_48 hPy2) ⟨Nat.le_of_ble_eq_true rfl, Nat.le_of_ble_eq_true rfl⟩ rfl (Nat.le_of_ble_eq_true rfl) (Nat.le_of_ble_eq_true rfl) (Nat.le_of_ble_eq_true rfl) (cy3) ?_
    have hPy3 := cy3.1.1
    refine Y_aload_n (j := 2) dX6_noteTwoValues_62 rfl rfl ?_
    refine Z_getr dX6_noteTwoValues_63 w1_172 (lk_18 hPy3) fr_4_2 (lr_18_2 hPy3) ?_
    refine Y_aload_n (j := 2) dX6_noteTwoValues_66 rfl rfl ?_
    refine Y_iconst (v := (2 : Int32)) dX6_noteTwoValues_67 rfl ?_
    obtain ⟨y4, qy4, h⟩ := bindE h
    have cy4 := v_X3_fromTop (Or.inl rfl) hPy3 qy4
    refine C_V1r dX6_noteTwoValues_68 w6_148 i_X3_fromTop (lk_18 hPy3) ⟨Nat.le_of_ble_eq_true rfl, Nat.le_of_ble_eq_true rfl⟩ rfl (Nat.le_of_ble_eq_true rfl) (Nat.le_of_ble_eq_true rfl) (Nat.le_of_ble_eq_true rfl) (cy4) ?_
    have hPy4 := cy4.1.1
    refine Y_aload_n (j := 2) dX6_noteTwoValues_71 rfl rfl ?_
    refine Y_iconst (v := (1 : Int32)) dX6_noteTwoValues_72 rfl ?_
    obtain ⟨y5, qy5, h⟩ := bindE h
    have cy5 := v_X3_fromTop (Or.inl rfl) hPy4 qy5
    refine C_V1r dX6_noteTwoValues_73 w6_148 i_X3_fromTop (lk_18 hPy4) ⟨Nat.le_of_ble_eq_true rfl, Nat.le_of_ble_eq_true rfl⟩ rfl (Nat.le_of_ble_eq_true rfl) (Nat.le_of_ble_eq_true rfl) (Nat.le_of_ble_eq_true rfl) (cy5) ?_
    have hPy5 := cy5.1.1
    obtain ⟨y6, qy6, h⟩ := bindE h
    have cy6 := v_X8_areIntegers (Or.inl rfl) hPy5 qy6
    refine C_V2r dX6_noteTwoValues_76 w6_187 i_X8_areIntegers (lk_19 hPy5) ⟨Nat.le_of_ble_eq_true rfl, Nat.le_of_ble_eq_true rfl⟩ rfl (Nat.le_of_ble_eq_true rfl) (Nat.le_of_ble_eq_true rfl) (Nat.le_of_ble_eq_true rfl) (cy6) ?_
    have hPy6 := cy6.1.1
    refine Y_if_ne (tgt := 83) dX6_noteTwoValues_79 (by decide) (fun hc2 => ?_) (fun hc2 => ?_)
    · replace h := ifF hc2 h
      refine Y_iload_n (j := 3) dX6_noteTwoValues_83 rfl rfl ?_
      refine Y_bipush (v := (47 : Int32)) dX6_noteTwoValues_84 rfl ?_
      refine Y_icmp_eq (tgt := 95) dX6_noteTwoValues_86 (by decide) (fun hc3 => ?_) (fun hc3 => ?_)
      · replace h := ifT hc3 h
        refine VV.sub [1, 2, 3] rfl ?_
        exact b_X6_noteTwoValues_95  hPy6 h
      · replace h := ifF hc3 h
        refine Y_iload_n (j := 3) dX6_noteTwoValues_89 rfl rfl ?_
        refine Y_bipush (v := (37 : Int32)) dX6_noteTwoValues_90 rfl ?_
        refine Y_icmp_ne (tgt := 102) dX6_noteTwoValues_92 (by decide) (fun hc4 => ?_) (fun hc4 => ?_)
        · replace h := ifF hc4 h
          refine VV.sub [1, 2, 3] rfl ?_
          exact b_X6_noteTwoValues_102  hPy6 h
        · replace h := ifT hc4 h
          refine VV.sub [1, 2, 3] rfl ?_
          exact b_X6_noteTwoValues_95  hPy6 h
    · replace h := ifT hc2 h
      cases h
      exact Y_vret rfl dX6_noteTwoValues_82 hPy6 ⟨rfl, rfl⟩
  · replace h := ifF hc1 h
    cases h
    exact Y_vret rfl dX6_noteTwoValues_49 hP1 ⟨rfl, rfl⟩
noncomputable def d_X6_noteTwoValues_34 (x2 : Int32) (M : Mem) : Option (Unit × Mem) :=
  d_X6_noteTwoValues_35 x2 (0 : Int32) M
theorem b_X6_noteTwoValues_34 {x2 : Int32} {M z} (hP : Lay M) (h : d_X6_noteTwoValues_34 x2 M = some z) : VV Lay k_X6_noteTwoValues 34 [(0, .ref 48), (1, .ref 18), (2, .int x2)] [] M z.2 (Qv (none) z.2) xF := by
  unfold d_X6_noteTwoValues_34 at h
  refine Y_iconst (v := (0 : Int32)) dX6_noteTwoValues_34 rfl ?_
  refine VV.sub [0, 1, 2] rfl ?_
  exact b_X6_noteTwoValues_35  hP h
noncomputable def d_X6_noteTwoValues (x2 : Int32) (M : Mem) : Option (Unit × Mem) :=
  if 0 ≤ (xIdx 3 x2) then (
    (d_X6_isKnown (2 : Int32) (4 : Int32) M).bind fun y1 =>
    if y1.1 = 0 then (
      d_X6_noteTwoValues_34 x2 y1.2)
    else (
      (d_X6_isKnown (1 : Int32) (4 : Int32) y1.2).bind fun y2 =>
      if y2.1 = 0 then (
        d_X6_noteTwoValues_34 x2 y2.2)
      else (
        d_X6_noteTwoValues_35 x2 (1 : Int32) y2.2)))
  else (
    some ((), M))
theorem b_X6_noteTwoValues {x2 : Int32} {M z} (hP : Lay M) (h : d_X6_noteTwoValues x2 M = some z) : VV Lay k_X6_noteTwoValues 0 [(0, .ref 48), (1, .ref 18), (2, .int x2)] [] M z.2 (Qv (none) z.2) xF := by
  unfold d_X6_noteTwoValues at h
  refine Y_ldcS (i := 3) dX6_noteTwoValues_0 rfl ?_
  refine Y_iload_n (j := 2) dX6_noteTwoValues_2 rfl rfl ?_
  refine Y_indexOf dX6_noteTwoValues_3 w6_186 (i := 3) rfl ?_
  refine Y_if_ge (tgt := 10) dX6_noteTwoValues_6 (by decide) (fun hc1 => ?_) (fun hc1 => ?_)
  · replace h := ifT hc1 h
    refine Y_aload_n (j := 0) dX6_noteTwoValues_10 rfl rfl ?_
    refine Y_aload_n (j := 1) dX6_noteTwoValues_11 rfl rfl ?_
    refine Y_iconst (v := (2 : Int32)) dX6_noteTwoValues_12 rfl ?_
    refine Y_iconst (v := (4 : Int32)) dX6_noteTwoValues_13 rfl ?_
    obtain ⟨y1, qy1, h⟩ := bindE h
    have cy1 := v_X6_isKnown hP qy1
    refine C_V3r dX6_noteTwoValues_14 w6_144 i_X6_isKnown (lk_48 hP) ⟨Nat.le_of_ble_eq_true rfl, Nat.le_of_ble_eq_true rfl⟩ rfl (Nat.le_of_ble_eq_true rfl) (Nat.le_of_ble_eq_true rfl) (Nat.le_of_ble_eq_true rfl) (cy1) ?_
    have hPy1 := cy1.1.1
    refine Y_if_eq (tgt := 34) dX6_noteTwoValues_17 (by decide) (fun hc2 => ?_) (fun hc2 => ?_)
    · replace h := ifT hc2 h
      refine VV.sub [0, 1, 2] rfl ?_
      exact b_X6_noteTwoValues_34  hPy1 h
    · replace h := ifF hc2 h
      refine Y_aload_n (j := 0) dX6_noteTwoValues_20 rfl rfl ?_
      refine Y_aload_n (j := 1) dX6_noteTwoValues_21 rfl rfl ?_
      refine Y_iconst (v := (1 : Int32)) dX6_noteTwoValues_22 rfl ?_
      refine Y_iconst (v := (4 : Int32)) dX6_noteTwoValues_23 rfl ?_
      obtain ⟨y2, qy2, h⟩ := bindE h
      have cy2 := v_X6_isKnown hPy1 qy2
      refine C_V3r dX6_noteTwoValues_24 w6_144 i_X6_isKnown (lk_48 hPy1) ⟨Nat.le_of_ble_eq_true rfl, Nat.le_of_ble_eq_true rfl⟩ rfl (Nat.le_of_ble_eq_true rfl) (Nat.le_of_ble_eq_true rfl) (Nat.le_of_ble_eq_true rfl) (cy2) ?_
      have hPy2 := cy2.1.1
      refine Y_if_eq (tgt := 34) dX6_noteTwoValues_27 (by decide) (fun hc3 => ?_) (fun hc3 => ?_)
      · replace h := ifT hc3 h
        refine VV.sub [0, 1, 2] rfl ?_
        exact b_X6_noteTwoValues_34  hPy2 h
      · replace h := ifF hc3 h
        refine Y_iconst (v := (1 : Int32)) dX6_noteTwoValues_30 rfl ?_
        refine Y_goto (tgt := 35) dX6_noteTwoValues_31 (by decide) ?_
        refine VV.sub [0, 1, 2] rfl ?_
        exact b_X6_noteTwoValues_35  hPy2 h
  · replace h := ifF hc1 h
    cases h
    exact Y_vret rfl dX6_noteTwoValues_9 hP ⟨rfl, rfl⟩
theorem v_X6_noteTwoValues {x2 : Int32} {M z} (hP : Lay M) (h : d_X6_noteTwoValues x2 M = some z) : CC Lay k_X6_noteTwoValues [.ref 48, .ref 18, .int x2] M z.2 (Qv (none) z.2) xF :=
  CC.ofVV (by decide) rfl (Nat.le_of_ble_eq_true rfl) (b_X6_noteTwoValues hP h)
noncomputable def d_X6_noteAhead_213 (M : Mem) : Option (Unit × Mem) :=
  bnd (sI M 48 7 ((mI M 48 7) + (1 : Int32))) fun M1 =>
  some ((), M1)
theorem b_X6_noteAhead_213 {M z} (hP : Lay M) (h : d_X6_noteAhead_213 M = some z) : VV Lay k_X6_noteAhead 213 [(0, .ref 48)] [] M z.2 (Qv (none) z.2) xF := by
  unfold d_X6_noteAhead_213 at h
  refine Y_aload_n (j := 0) dX6_noteAhead_213 rfl rfl ?_
  refine Y_dup dX6_noteAhead_214 rfl ?_
  refine Z_geti dX6_noteAhead_215 w2_61 (lk_48 hP) fi_6_7 ?_
  refine Y_iconst (v := (1 : Int32)) dX6_noteAhead_218 rfl ?_
  refine Y_iadd dX6_noteAhead_219 ?_
  refine Z_puti dX6_noteAhead_220 w2_61 (lk_48 hP) fi_6_7 (Or.inl rfl) rfl ?_
  obtain ⟨M1, eM1, h⟩ := bndE h
  refine VV.mem eM1 ?_
  have hP1 := hP.wI eM1
  cases h
  exact Y_vret rfl dX6_noteAhead_223 hP1 ⟨rfl, rfl⟩
noncomputable def d_X6_noteAhead (M : Mem) : Option (Unit × Mem) :=
  bnd ((mI M 18 7)) fun b1 =>
  (d_X3_lineAhead 18 M).bind fun y1 =>
  okk (vp_in (mI M 48 7) 30) <|
  bnd (sI y1.2 49 (mI M 48 7).toNatClampNeg y1.1) fun M1 =>
  okk (vp_in (mI M1 48 7) 31) <|
  bnd (sI M1 50 (mI M1 48 7).toNatClampNeg (mI M1 48 8)) fun M2 =>
  bnd (sI M2 48 15 (0 : Int32)) fun M3 =>
  if b1 = (103 : Int32) ∨ b1 = (109 : Int32) then (
    (d_X6_askShape (1 : Int32) M3).bind fun y2 =>
    d_X6_noteAhead_213 y2.2)
  else if b1 = (105 : Int32) ∨ b1 = (107 : Int32) then (
    bnd (sI M3 48 15 (7 : Int32)) fun M4 =>
    d_X6_noteAhead_213 M4)
  else if b1 = (110 : Int32) then (
    bnd (sI M3 48 15 (11 : Int32)) fun M5 =>
    d_X6_noteAhead_213 M5)
  else if b1 = (112 : Int32) then (
    (d_X6_askShape (2 : Int32) M3).bind fun y3 =>
    (d_X6_forgetOtherShapes y3.2).bind fun y4 =>
    d_X6_noteAhead_213 y4.2)
  else if b1 = (119 : Int32) then (
    (d_X6_isKnown (1 : Int32) (4 : Int32) M3).bind fun y5 =>
    (d_X6_madeOf y5.1 y5.2).bind fun y6 =>
    bnd (sI y6.2 48 15 y6.1) fun M6 =>
    (d_X6_askKind (1 : Int32) M6).bind fun y7 =>
    d_X6_noteAhead_213 y7.2)
  else if b1 = (122 : Int32) then (
    (d_X6_askNullness (116 : Int32) M3).bind fun y8 =>
    d_X6_noteAhead_213 y8.2)
  else (
    (d_X6_noteTwoValues b1 M3).bind fun y9 =>
    d_X6_noteAhead_213 y9.2)
theorem b_X6_noteAhead {M z} (hP : Lay M) (h : d_X6_noteAhead M = some z) : VV Lay k_X6_noteAhead 0 [(0, .ref 48), (1, .ref 18)] [] M z.2 (Qv (none) z.2) xF := by
  unfold d_X6_noteAhead at h
  refine Y_aload_n (j := 1) dX6_noteAhead_0 rfl rfl ?_
  refine Z_geti dX6_noteAhead_1 w1_179 (lk_18 hP) fi_4_7 ?_
  obtain ⟨b1, eb1, h⟩ := bndE h
  refine VV.topI eb1 ?_
  refine Y_istore_n (lv1 := [(2, .int b1), (0, .ref 48), (1, .ref 18)]) dX6_noteAhead_4 rfl (by decide) rfl ?_
  refine Y_aload_n (j := 1) dX6_noteAhead_5 rfl rfl ?_
  refine Z_getr dX6_noteAhead_6 w2_47 (lk_48 hP) fr_6_0 (lr_48_0 hP) ?_
  refine Y_aload_n (j := 1) dX6_noteAhead_9 rfl rfl ?_
  refine Z_geti dX6_noteAhead_10 w2_61 (lk_48 hP) fi_6_7 ?_
  refine Y_aload_n (j := 2) dX6_noteAhead_13 rfl rfl ?_
  obtain ⟨y1, qy1, h⟩ := bindE h
  have cy1 := v_X3_lineAhead (Or.inl rfl) hP qy1
  refine C_V0r dX6_noteAhead_14 w6_143 i_X3_lineAhead (lk_18 hP) ⟨Nat.le_of_ble_eq_true rfl, Nat.le_of_ble_eq_true rfl⟩ rfl (Nat.le_of_ble_eq_true rfl) (Nat.le_of_ble_eq_true rfl) (Nat.le_of_ble_eq_true rfl) (cy1) ?_
  have hPy1 := cy1.1.1
  obtain ⟨hb1, h⟩ := okE h
  refine Y_iast dX6_noteAhead_17 (lk_49 hPy1) (ln_49 hPy1) hb1 ?_
  obtain ⟨M1, eM1, h⟩ := bndE h
  refine VV.mem eM1 ?_
  have hP1 := hPy1.wI eM1
  refine Y_aload_n (j := 1) dX6_noteAhead_18 rfl rfl ?_
  refine Z_getr dX6_noteAhead_19 w2_49 (lk_48 hP1) fr_6_1 (lr_48_1 hP1) ?_
  refine Y_aload_n (j := 1) dX6_noteAhead_22 rfl rfl ?_
  refine Z_geti dX6_noteAhead_23 w2_61 (lk_48 hP1) fi_6_7 ?_
  refine Y_aload_n (j := 1) dX6_noteAhead_26 rfl rfl ?_
  refine Z_geti dX6_noteAhead_27 w2_64 (lk_48 hP1) fi_6_8 ?_
  obtain ⟨hb2, h⟩ := okE h
  refine Y_iast dX6_noteAhead_30 (lk_50 hP1) (ln_50 hP1) hb2 ?_
  obtain ⟨M2, eM2, h⟩ := bndE h
  refine VV.mem eM2 ?_
  have hP2 := hP1.wI eM2
  refine Y_aload_n (j := 1) dX6_noteAhead_31 rfl rfl ?_
  refine Y_iconst (v := (0 : Int32)) dX6_noteAhead_32 rfl ?_
  refine Z_puti dX6_noteAhead_33 w2_77 (lk_48 hP2) fi_6_15 (Or.inl rfl) rfl ?_
  obtain ⟨M3, eM3, h⟩ := bndE h
  refine VV.mem eM3 ?_
  have hP3 := hP2.wI eM3
  refine Y_iload_n (j := 0) dX6_noteAhead_36 rfl rfl ?_
  refine Y_table dX6_noteAhead_37 [(103, 184), (104, 207), (105, 132), (106, 207), (107, 132), (108, 207), (109, 184), (110, 141), (111, 207), (112, 193), (113, 207), (114, 207), (115, 207), (116, 207), (117, 207), (118, 207), (119, 150), (120, 207), (121, 207), (122, 174)] 207 (by decide) (tab_ok (by decide +kernel)) (by decide) ?_ ?_
  · refine xs_cons ?_ <| xs_cons ?_ <| xs_cons ?_ <| xs_cons ?_ <| xs_cons ?_ <| xs_cons ?_ <| xs_cons ?_ <| xs_cons ?_ <| xs_cons ?_ <| xs_cons ?_ <| xs_cons ?_ <| xs_cons ?_ <| xs_cons ?_ <| xs_cons ?_ <| xs_cons ?_ <| xs_cons ?_ <| xs_cons ?_ <| xs_cons ?_ <| xs_cons ?_ <| xs_cons ?_ <| xs_nil
    · intro e9
      replace h := ifT (by rw [e9]; decide) h
      refine Y_aload_n (j := 1) dX6_noteAhead_184 rfl rfl ?_
      refine Y_aload_n (j := 2) dX6_noteAhead_185 rfl rfl ?_
      refine Y_iconst (v := (1 : Int32)) dX6_noteAhead_186 rfl ?_
      obtain ⟨y2, qy2, h⟩ := bindE h
      have cy2 := v_X6_askShape hP3 qy2
      refine C_V2o dX6_noteAhead_187 w6_171 i_X6_askShape (lk_48 hP3) ⟨Nat.le_of_ble_eq_true rfl, Nat.le_of_ble_eq_true rfl⟩ rfl (Nat.le_of_ble_eq_true rfl) (Nat.le_of_ble_eq_true rfl) (Nat.le_of_ble_eq_true rfl) (cy2) ?_
      have hPy2 := cy2.1.1
      refine Y_goto (tgt := 213) dX6_noteAhead_190 (by decide) ?_
      refine VV.sub [1] rfl ?_
      exact b_X6_noteAhead_213  hPy2 h
    · intro e9
      replace h := ifF (by rw [e9]; decide) h
      replace h := ifF (by rw [e9]; decide) h
      replace h := ifF (by rw [e9]; decide) h
      replace h := ifF (by rw [e9]; decide) h
      replace h := ifF (by rw [e9]; decide) h
      replace h := ifF (by rw [e9]; decide) h
      refine Y_aload_n (j := 1) dX6_noteAhead_207 rfl rfl ?_
      refine Y_aload_n (j := 2) dX6_noteAhead_208 rfl rfl ?_
      refine Y_iload_n (j := 0) dX6_noteAhead_209 rfl rfl ?_
      obtain ⟨y9, qy9, h⟩ := bindE h
      have cy9 := v_X6_noteTwoValues hP3 qy9
      refine C_V2o dX6_noteAhead_210 w6_181 i_X6_noteTwoValues (lk_48 hP3) ⟨Nat.le_of_ble_eq_true rfl, Nat.le_of_ble_eq_true rfl⟩ rfl (Nat.le_of_ble_eq_true rfl) (Nat.le_of_ble_eq_true rfl) (Nat.le_of_ble_eq_true rfl) (cy9) ?_
      have hPy9 := cy9.1.1
      refine VV.sub [1] rfl ?_
      exact b_X6_noteAhead_213  hPy9 h
    · intro e9
      replace h := ifF (by rw [e9]; decide) h
      replace h := ifT (by rw [e9]; decide) h
      refine Y_aload_n (j := 1) dX6_noteAhead_132 rfl rfl ?_
      refine Y_bipush (v := (7 : Int32)) dX6_noteAhead_133 rfl ?_
      refine Z_puti dX6_noteAhead_135 w2_77 (lk_48 hP3) fi_6_15 (Or.inl rfl) rfl ?_
      obtain ⟨M4, eM4, h⟩ := bndE h
      refine VV.mem eM4 ?_
      have hP4 := hP3.wI eM4
      refine Y_goto (tgt := 213) dX6_noteAhead_138 (by decide) ?_
      refine VV.sub [1] rfl ?_
      exact b_X6_noteAhead_213  hP4 h
    · intro e9
      replace h := ifF (by rw [e9]; decide) h
      replace h := ifF (by rw [e9]; decide) h
      replace h := ifF (by rw [e9]; decide) h
      replace h := ifF (by rw [e9]; decide) h
      replace h := ifF (by rw [e9]; decide) h
      replace h := ifF (by rw [e9]; decide) h
      refine Y_aload_n (j := 1) dX6_noteAhead_207 rfl rfl ?_
      refine Y_aload_n (j := 2) dX6_noteAhead_208 rfl rfl ?_
      refine Y_iload_n (j := 0) dX6_noteAhead_209 rfl rfl ?_
      obtain ⟨y9, qy9, h⟩ := bindE h
      have cy9 := v_X6_noteTwoValues hP3 qy9
      refine C_V2o dX6_noteAhead_210 w6_181 i_X6_noteTwoValues (lk_48 hP3) ⟨Nat.le_of_ble_eq_true rfl, Nat.le_of_ble_eq_true rfl⟩ rfl (Nat.le_of_ble_eq_true rfl) (Nat.le_of_ble_eq_true rfl) (Nat.le_of_ble_eq_true rfl) (cy9) ?_
      have hPy9 := cy9.1.1
      refine VV.sub [1] rfl ?_
      exact b_X6_noteAhead_213  hPy9 h
    · intro e9
      replace h := ifF (by rw [e9]; decide) h
      replace h := ifT (by rw [e9]; decide) h
      refine Y_aload_n (j := 1) dX6_noteAhead_132 rfl rfl ?_
      refine Y_bipush (v := (7 : Int32)) dX6_noteAhead_133 rfl ?_
      refine Z_puti dX6_noteAhead_135 w2_77 (lk_48 hP3) fi_6_15 (Or.inl rfl) rfl ?_
      obtain ⟨M4, eM4, h⟩ := bndE h
      refine VV.mem eM4 ?_
      have hP4 := hP3.wI eM4
      refine Y_goto (tgt := 213) dX6_noteAhead_138 (by decide) ?_
      refine VV.sub [1] rfl ?_
      exact b_X6_noteAhead_213  hP4 h
    · intro e9
      replace h := ifF (by rw [e9]; decide) h
      replace h := ifF (by rw [e9]; decide) h
      replace h := ifF (by rw [e9]; decide) h
      replace h := ifF (by rw [e9]; decide) h
      replace h := ifF (by rw [e9]; decide) h
      replace h := ifF (by rw [e9]; decide) h
      refine Y_aload_n (j := 1) dX6_noteAhead_207 rfl rfl ?_
      refine Y_aload_n (j := 2) dX6_noteAhead_208 rfl rfl ?_
      refine Y_iload_n (j := 0) dX6_noteAhead_209 rfl rfl ?_
      obtain ⟨y9, qy9, h⟩ := bindE h
      have cy9 := v_X6_noteTwoValues hP3 qy9
      refine C_V2o dX6_noteAhead_210 w6_181 i_X6_noteTwoValues (lk_48 hP3) ⟨Nat.le_of_ble_eq_true rfl, Nat.le_of_ble_eq_true rfl⟩ rfl (Nat.le_of_ble_eq_true rfl) (Nat.le_of_ble_eq_true rfl) (Nat.le_of_ble_eq_true rfl) (cy9) ?_
      have hPy9 := cy9.1.1
      refine VV.sub [1] rfl ?_
      exact b_X6_noteAhead_213  hPy9 h
    · intro e9
      replace h := ifT (by rw [e9]; decide) h
      refine Y_aload_n (j := 1) dX6_noteAhead_184 rfl rfl ?_
      refine Y_aload_n (j := 2) dX6_noteAhead_185 rfl rfl ?_
      refine Y_iconst (v := (1 : Int32)) dX6_noteAhead_186 rfl ?_
      obtain ⟨y2, qy2, h⟩ := bindE h
      have cy2 := v_X6_askShape hP3 qy2
      refine C_V2o dX6_noteAhead_187 w6_171 i_X6_askShape (lk_48 hP3) ⟨Nat.le_of_ble_eq_true rfl, Nat.le_of_ble_eq_true rfl⟩ rfl (Nat.le_of_ble_eq_true rfl) (Nat.le_of_ble_eq_true rfl) (Nat.le_of_ble_eq_true rfl) (cy2) ?_
      have hPy2 := cy2.1.1
      refine Y_goto (tgt := 213) dX6_noteAhead_190 (by decide) ?_
      refine VV.sub [1] rfl ?_
      exact b_X6_noteAhead_213  hPy2 h
    · intro e9
      replace h := ifF (by rw [e9]; decide) h
      replace h := ifF (by rw [e9]; decide) h
      replace h := ifT (by rw [e9]; decide) h
      refine Y_aload_n (j := 1) dX6_noteAhead_141 rfl rfl ?_
      refine Y_bipush (v := (11 : Int32)) dX6_noteAhead_142 rfl ?_
      refine Z_puti dX6_noteAhead_144 w2_77 (lk_48 hP3) fi_6_15 (Or.inl rfl) rfl ?_
      obtain ⟨M5, eM5, h⟩ := bndE h
      refine VV.mem eM5 ?_
      have hP5 := hP3.wI eM5
      refine Y_goto (tgt := 213) dX6_noteAhead_147 (by decide) ?_
      refine VV.sub [1] rfl ?_
      exact b_X6_noteAhead_213  hP5 h
    · intro e9
      replace h := ifF (by rw [e9]; decide) h
      replace h := ifF (by rw [e9]; decide) h
      replace h := ifF (by rw [e9]; decide) h
      replace h := ifF (by rw [e9]; decide) h
      replace h := ifF (by rw [e9]; decide) h
      replace h := ifF (by rw [e9]; decide) h
      refine Y_aload_n (j := 1) dX6_noteAhead_207 rfl rfl ?_
      refine Y_aload_n (j := 2) dX6_noteAhead_208 rfl rfl ?_
      refine Y_iload_n (j := 0) dX6_noteAhead_209 rfl rfl ?_
      obtain ⟨y9, qy9, h⟩ := bindE h
      have cy9 := v_X6_noteTwoValues hP3 qy9
      refine C_V2o dX6_noteAhead_210 w6_181 i_X6_noteTwoValues (lk_48 hP3) ⟨Nat.le_of_ble_eq_true rfl, Nat.le_of_ble_eq_true rfl⟩ rfl (Nat.le_of_ble_eq_true rfl) (Nat.le_of_ble_eq_true rfl) (Nat.le_of_ble_eq_true rfl) (cy9) ?_
      have hPy9 := cy9.1.1
      refine VV.sub [1] rfl ?_
      exact b_X6_noteAhead_213  hPy9 h
    · intro e9
      replace h := ifF (by rw [e9]; decide) h
      replace h := ifF (by rw [e9]; decide) h
      replace h := ifF (by rw [e9]; decide) h
      replace h := ifT (by rw [e9]; decide) h
      refine Y_aload_n (j := 1) dX6_noteAhead_193 rfl rfl ?_
      refine Y_aload_n (j := 2) dX6_noteAhead_194 rfl rfl ?_
      refine Y_iconst (v := (2 : Int32)) dX6_noteAhead_195 rfl ?_
      obtain ⟨y3, qy3, h⟩ := bindE h
      have cy3 := v_X6_askShape hP3 qy3
      refine C_V2o dX6_noteAhead_196 w6_171 i_X6_askShape (lk_48 hP3) ⟨Nat.le_of_ble_eq_true rfl, Nat.le_of_ble_eq_true rfl⟩ rfl (Nat.le_of_ble_eq_true rfl) (Nat.le_of_ble_eq_true rfl) (Nat.le_of_ble_eq_true rfl) (cy3) ?_
      have hPy3 := cy3.1.1
      refine Y_aload_n (j := 1) dX6_noteAhead_199 rfl rfl ?_
      refine Y_aload_n (j := 2) dX6_noteAhead_200 rfl rfl ?_
      obtain ⟨y4, qy4, h⟩ := bindE h
      have cy4 := v_X6_forgetOtherShapes hPy3 qy4
      refine C_V1o dX6_noteAhead_201 w6_175 i_X6_forgetOtherShapes (lk_48 hPy3) ⟨Nat.le_of_ble_eq_true rfl, Nat.le_of_ble_eq_true rfl⟩ rfl (Nat.le_of_ble_eq_true rfl) (Nat.le_of_ble_eq_true rfl) (Nat.le_of_ble_eq_true rfl) (cy4) ?_
      have hPy4 := cy4.1.1
      refine Y_goto (tgt := 213) dX6_noteAhead_204 (by decide) ?_
      refine VV.sub [1] rfl ?_
      exact b_X6_noteAhead_213  hPy4 h
    · intro e9
      replace h := ifF (by rw [e9]; decide) h
      replace h := ifF (by rw [e9]; decide) h
      replace h := ifF (by rw [e9]; decide) h
      replace h := ifF (by rw [e9]; decide) h
      replace h := ifF (by rw [e9]; decide) h
      replace h := ifF (by rw [e9]; decide) h
      refine Y_aload_n (j := 1) dX6_noteAhead_207 rfl rfl ?_
      refine Y_aload_n (j := 2) dX6_noteAhead_208 rfl rfl ?_
      refine Y_iload_n (j := 0) dX6_noteAhead_209 rfl rfl ?_
      obtain ⟨y9, qy9, h⟩ := bindE h
      have cy9 := v_X6_noteTwoValues hP3 qy9
      refine C_V2o dX6_noteAhead_210 w6_181 i_X6_noteTwoValues (lk_48 hP3) ⟨Nat.le_of_ble_eq_true rfl, Nat.le_of_ble_eq_true rfl⟩ rfl (Nat.le_of_ble_eq_true rfl) (Nat.le_of_ble_eq_true rfl) (Nat.le_of_ble_eq_true rfl) (cy9) ?_
      have hPy9 := cy9.1.1
      refine VV.sub [1] rfl ?_
      exact b_X6_noteAhead_213  hPy9 h
    · intro e9
      replace h := ifF (by rw [e9]; decide) h
      replace h := ifF (by rw [e9]; decide) h
      replace h := ifF (by rw [e9]; decide) h
      replace h := ifF (by rw [e9]; decide) h
      replace h := ifF (by rw [e9]; decide) h
      replace h := ifF (by rw [e9]; decide) h
      refine Y_aload_n (j := 1) dX6_noteAhead_207 rfl rfl ?_
      refine Y_aload_n (j := 2) dX6_noteAhead_208 rfl rfl ?_
      refine Y_iload_n (j := 0) dX6_noteAhead_209 rfl rfl ?_
      obtain ⟨y9, qy9, h⟩ := bindE h
      have cy9 := v_X6_noteTwoValues hP3 qy9
      refine C_V2o dX6_noteAhead_210 w6_181 i_X6_noteTwoValues (lk_48 hP3) ⟨Nat.le_of_ble_eq_true rfl, Nat.le_of_ble_eq_true rfl⟩ rfl (Nat.le_of_ble_eq_true rfl) (Nat.le_of_ble_eq_true rfl) (Nat.le_of_ble_eq_true rfl) (cy9) ?_
      have hPy9 := cy9.1.1
      refine VV.sub [1] rfl ?_
      exact b_X6_noteAhead_213  hPy9 h
    · intro e9
      replace h := ifF (by rw [e9]; decide) h
      replace h := ifF (by rw [e9]; decide) h
      replace h := ifF (by rw [e9]; decide) h
      replace h := ifF (by rw [e9]; decide) h
      replace h := ifF (by rw [e9]; decide) h
      replace h := ifF (by rw [e9]; decide) h
      refine Y_aload_n (j := 1) dX6_noteAhead_207 rfl rfl ?_
      refine Y_aload_n (j := 2) dX6_noteAhead_208 rfl rfl ?_
      refine Y_iload_n (j := 0) dX6_noteAhead_209 rfl rfl ?_
      obtain ⟨y9, qy9, h⟩ := bindE h
      have cy9 := v_X6_noteTwoValues hP3 qy9
      refine C_V2o dX6_noteAhead_210 w6_181 i_X6_noteTwoValues (lk_48 hP3) ⟨Nat.le_of_ble_eq_true rfl, Nat.le_of_ble_eq_true rfl⟩ rfl (Nat.le_of_ble_eq_true rfl) (Nat.le_of_ble_eq_true rfl) (Nat.le_of_ble_eq_true rfl) (cy9) ?_
      have hPy9 := cy9.1.1
      refine VV.sub [1] rfl ?_
      exact b_X6_noteAhead_213  hPy9 h
    · intro e9
      replace h := ifF (by rw [e9]; decide) h
      replace h := ifF (by rw [e9]; decide) h
      replace h := ifF (by rw [e9]; decide) h
      replace h := ifF (by rw [e9]; decide) h
      replace h := ifF (by rw [e9]; decide) h
      replace h := ifF (by rw [e9]; decide) h
      refine Y_aload_n (j := 1) dX6_noteAhead_207 rfl rfl ?_
      refine Y_aload_n (j := 2) dX6_noteAhead_208 rfl rfl ?_
      refine Y_iload_n (j := 0) dX6_noteAhead_209 rfl rfl ?_
      obtain ⟨y9, qy9, h⟩ := bindE h
      have cy9 := v_X6_noteTwoValues hP3 qy9
      refine C_V2o dX6_noteAhead_210 w6_181 i_X6_noteTwoValues (lk_48 hP3) ⟨Nat.le_of_ble_eq_true rfl, Nat.le_of_ble_eq_true rfl⟩ rfl (Nat.le_of_ble_eq_true rfl) (Nat.le_of_ble_eq_true rfl) (Nat.le_of_ble_eq_true rfl) (cy9) ?_
      have hPy9 := cy9.1.1
      refine VV.sub [1] rfl ?_
      exact b_X6_noteAhead_213  hPy9 h
    · intro e9
      replace h := ifF (by rw [e9]; decide) h
      replace h := ifF (by rw [e9]; decide) h
      replace h := ifF (by rw [e9]; decide) h
      replace h := ifF (by rw [e9]; decide) h
      replace h := ifF (by rw [e9]; decide) h
      replace h := ifF (by rw [e9]; decide) h
      refine Y_aload_n (j := 1) dX6_noteAhead_207 rfl rfl ?_
      refine Y_aload_n (j := 2) dX6_noteAhead_208 rfl rfl ?_
      refine Y_iload_n (j := 0) dX6_noteAhead_209 rfl rfl ?_
      obtain ⟨y9, qy9, h⟩ := bindE h
      have cy9 := v_X6_noteTwoValues hP3 qy9
      refine C_V2o dX6_noteAhead_210 w6_181 i_X6_noteTwoValues (lk_48 hP3) ⟨Nat.le_of_ble_eq_true rfl, Nat.le_of_ble_eq_true rfl⟩ rfl (Nat.le_of_ble_eq_true rfl) (Nat.le_of_ble_eq_true rfl) (Nat.le_of_ble_eq_true rfl) (cy9) ?_
      have hPy9 := cy9.1.1
      refine VV.sub [1] rfl ?_
      exact b_X6_noteAhead_213  hPy9 h
    · intro e9
      replace h := ifF (by rw [e9]; decide) h
      replace h := ifF (by rw [e9]; decide) h
      replace h := ifF (by rw [e9]; decide) h
      replace h := ifF (by rw [e9]; decide) h
      replace h := ifF (by rw [e9]; decide) h
      replace h := ifF (by rw [e9]; decide) h
      refine Y_aload_n (j := 1) dX6_noteAhead_207 rfl rfl ?_
      refine Y_aload_n (j := 2) dX6_noteAhead_208 rfl rfl ?_
      refine Y_iload_n (j := 0) dX6_noteAhead_209 rfl rfl ?_
      obtain ⟨y9, qy9, h⟩ := bindE h
      have cy9 := v_X6_noteTwoValues hP3 qy9
      refine C_V2o dX6_noteAhead_210 w6_181 i_X6_noteTwoValues (lk_48 hP3) ⟨Nat.le_of_ble_eq_true rfl, Nat.le_of_ble_eq_true rfl⟩ rfl (Nat.le_of_ble_eq_true rfl) (Nat.le_of_ble_eq_true rfl) (Nat.le_of_ble_eq_true rfl) (cy9) ?_
      have hPy9 := cy9.1.1
      refine VV.sub [1] rfl ?_
      exact b_X6_noteAhead_213  hPy9 h
    · intro e9
      replace h := ifF (by rw [e9]; decide) h
      replace h := ifF (by rw [e9]; decide) h
      replace h := ifF (by rw [e9]; decide) h
      replace h := ifF (by rw [e9]; decide) h
      replace h := ifT (by rw [e9]; decide) h
      refine Y_aload_n (j := 1) dX6_noteAhead_150 rfl rfl ?_
      refine Y_aload_n (j := 1) dX6_noteAhead_151 rfl rfl ?_
      refine Y_aload_n (j := 1) dX6_noteAhead_152 rfl rfl ?_
      refine Y_aload_n (j := 2) dX6_noteAhead_153 rfl rfl ?_
      refine Y_iconst (v := (1 : Int32)) dX6_noteAhead_154 rfl ?_
      refine Y_iconst (v := (4 : Int32)) dX6_noteAhead_155 rfl ?_
      obtain ⟨y5, qy5, h⟩ := bindE h
      have cy5 := v_X6_isKnown hP3 qy5
      refine C_V3r dX6_noteAhead_156 w6_144 i_X6_isKnown (lk_48 hP3) ⟨Nat.le_of_ble_eq_true rfl, Nat.le_of_ble_eq_true rfl⟩ rfl (Nat.le_of_ble_eq_true rfl) (Nat.le_of_ble_eq_true rfl) (Nat.le_of_ble_eq_true rfl) (cy5) ?_
      have hPy5 := cy5.1.1
      obtain ⟨y6, qy6, h⟩ := bindE h
      have cy6 := v_X6_madeOf hPy5 qy6
      refine C_V1r dX6_noteAhead_159 w6_149 i_X6_madeOf (lk_48 hPy5) ⟨Nat.le_of_ble_eq_true rfl, Nat.le_of_ble_eq_true rfl⟩ rfl (Nat.le_of_ble_eq_true rfl) (Nat.le_of_ble_eq_true rfl) (Nat.le_of_ble_eq_true rfl) (cy6) ?_
      have hPy6 := cy6.1.1
      refine Z_puti dX6_noteAhead_162 w2_77 (lk_48 hPy6) fi_6_15 (Or.inl rfl) rfl ?_
      obtain ⟨M6, eM6, h⟩ := bndE h
      refine VV.mem eM6 ?_
      have hP6 := hPy6.wI eM6
      refine Y_aload_n (j := 1) dX6_noteAhead_165 rfl rfl ?_
      refine Y_aload_n (j := 2) dX6_noteAhead_166 rfl rfl ?_
      refine Y_iconst (v := (1 : Int32)) dX6_noteAhead_167 rfl ?_
      obtain ⟨y7, qy7, h⟩ := bindE h
      have cy7 := v_X6_askKind hP6 qy7
      refine C_V2o dX6_noteAhead_168 w6_153 i_X6_askKind (lk_48 hP6) ⟨Nat.le_of_ble_eq_true rfl, Nat.le_of_ble_eq_true rfl⟩ rfl (Nat.le_of_ble_eq_true rfl) (Nat.le_of_ble_eq_true rfl) (Nat.le_of_ble_eq_true rfl) (cy7) ?_
      have hPy7 := cy7.1.1
      refine Y_goto (tgt := 213) dX6_noteAhead_171 (by decide) ?_
      refine VV.sub [1] rfl ?_
      exact b_X6_noteAhead_213  hPy7 h
    · intro e9
      replace h := ifF (by rw [e9]; decide) h
      replace h := ifF (by rw [e9]; decide) h
      replace h := ifF (by rw [e9]; decide) h
      replace h := ifF (by rw [e9]; decide) h
      replace h := ifF (by rw [e9]; decide) h
      replace h := ifF (by rw [e9]; decide) h
      refine Y_aload_n (j := 1) dX6_noteAhead_207 rfl rfl ?_
      refine Y_aload_n (j := 2) dX6_noteAhead_208 rfl rfl ?_
      refine Y_iload_n (j := 0) dX6_noteAhead_209 rfl rfl ?_
      obtain ⟨y9, qy9, h⟩ := bindE h
      have cy9 := v_X6_noteTwoValues hP3 qy9
      refine C_V2o dX6_noteAhead_210 w6_181 i_X6_noteTwoValues (lk_48 hP3) ⟨Nat.le_of_ble_eq_true rfl, Nat.le_of_ble_eq_true rfl⟩ rfl (Nat.le_of_ble_eq_true rfl) (Nat.le_of_ble_eq_true rfl) (Nat.le_of_ble_eq_true rfl) (cy9) ?_
      have hPy9 := cy9.1.1
      refine VV.sub [1] rfl ?_
      exact b_X6_noteAhead_213  hPy9 h
    · intro e9
      replace h := ifF (by rw [e9]; decide) h
      replace h := ifF (by rw [e9]; decide) h
      replace h := ifF (by rw [e9]; decide) h
      replace h := ifF (by rw [e9]; decide) h
      replace h := ifF (by rw [e9]; decide) h
      replace h := ifF (by rw [e9]; decide) h
      refine Y_aload_n (j := 1) dX6_noteAhead_207 rfl rfl ?_
      refine Y_aload_n (j := 2) dX6_noteAhead_208 rfl rfl ?_
      refine Y_iload_n (j := 0) dX6_noteAhead_209 rfl rfl ?_
      obtain ⟨y9, qy9, h⟩ := bindE h
      have cy9 := v_X6_noteTwoValues hP3 qy9
      refine C_V2o dX6_noteAhead_210 w6_181 i_X6_noteTwoValues (lk_48 hP3) ⟨Nat.le_of_ble_eq_true rfl, Nat.le_of_ble_eq_true rfl⟩ rfl (Nat.le_of_ble_eq_true rfl) (Nat.le_of_ble_eq_true rfl) (Nat.le_of_ble_eq_true rfl) (cy9) ?_
      have hPy9 := cy9.1.1
      refine VV.sub [1] rfl ?_
      exact b_X6_noteAhead_213  hPy9 h
    · intro e9
      replace h := ifF (by rw [e9]; decide) h
      replace h := ifF (by rw [e9]; decide) h
      replace h := ifF (by rw [e9]; decide) h
      replace h := ifF (by rw [e9]; decide) h
      replace h := ifF (by rw [e9]; decide) h
      replace h := ifT (by rw [e9]; decide) h
      refine Y_aload_n (j := 1) dX6_noteAhead_174 rfl rfl ?_
      refine Y_aload_n (j := 2) dX6_noteAhead_175 rfl rfl ?_
      refine Y_bipush (v := (116 : Int32)) dX6_noteAhead_176 rfl ?_
      obtain ⟨y8, qy8, h⟩ := bindE h
      have cy8 := v_X6_askNullness hP3 qy8
      refine C_V2o dX6_noteAhead_178 w6_167 i_X6_askNullness (lk_48 hP3) ⟨Nat.le_of_ble_eq_true rfl, Nat.le_of_ble_eq_true rfl⟩ rfl (Nat.le_of_ble_eq_true rfl) (Nat.le_of_ble_eq_true rfl) (Nat.le_of_ble_eq_true rfl) (cy8) ?_
      have hPy8 := cy8.1.1
      refine Y_goto (tgt := 213) dX6_noteAhead_181 (by decide) ?_
      refine VV.sub [1] rfl ?_
      exact b_X6_noteAhead_213  hPy8 h
  · intro n9
    replace h := ifF (fun q => q.elim (xs_no n9 (by decide : ((103 : Int32), 184) ∈ _)) (xs_no n9 (by decide : ((109 : Int32), 184) ∈ _))) h
    replace h := ifF (fun q => q.elim (xs_no n9 (by decide : ((105 : Int32), 132) ∈ _)) (xs_no n9 (by decide : ((107 : Int32), 132) ∈ _))) h
    replace h := ifF (xs_no n9 (by decide : ((110 : Int32), 141) ∈ _)) h
    replace h := ifF (xs_no n9 (by decide : ((112 : Int32), 193) ∈ _)) h
    replace h := ifF (xs_no n9 (by decide : ((119 : Int32), 150) ∈ _)) h
    replace h := ifF (xs_no n9 (by decide : ((122 : Int32), 174) ∈ _)) h
    refine Y_aload_n (j := 1) dX6_noteAhead_207 rfl rfl ?_
    refine Y_aload_n (j := 2) dX6_noteAhead_208 rfl rfl ?_
    refine Y_iload_n (j := 0) dX6_noteAhead_209 rfl rfl ?_
    obtain ⟨y9, qy9, h⟩ := bindE h
    have cy9 := v_X6_noteTwoValues hP3 qy9
    refine C_V2o dX6_noteAhead_210 w6_181 i_X6_noteTwoValues (lk_48 hP3) ⟨Nat.le_of_ble_eq_true rfl, Nat.le_of_ble_eq_true rfl⟩ rfl (Nat.le_of_ble_eq_true rfl) (Nat.le_of_ble_eq_true rfl) (Nat.le_of_ble_eq_true rfl) (cy9) ?_
    have hPy9 := cy9.1.1
    refine VV.sub [1] rfl ?_
    exact b_X6_noteAhead_213  hPy9 h
theorem v_X6_noteAhead {M z} (hP : Lay M) (h : d_X6_noteAhead M = some z) : CC Lay k_X6_noteAhead [.ref 48, .ref 18] M z.2 (Qv (none) z.2) xF :=
  CC.ofVV (by decide) rfl (Nat.le_of_ble_eq_true rfl) (b_X6_noteAhead hP h)
noncomputable def d_X6_giveFacts (x2 : Int32) (x3 : Int32) (M : Mem) : Option (Unit × Mem) :=
  okk (vp_in x2 549) <|
  bnd (sI M 23 x2.toNatClampNeg (mI M 48 9)) fun M1 =>
  okk (vp_in (mI M1 48 9) 378) <|
  bnd (sI M1 55 (mI M1 48 9).toNatClampNeg x3) fun M2 =>
  bnd (sI M2 48 9 ((mI M2 48 9) + (1 : Int32))) fun M3 =>
  some ((), M3)
theorem b_X6_giveFacts {x2 : Int32} {x3 : Int32} {M z} (hP : Lay M) (h : d_X6_giveFacts x2 x3 M = some z) : VV Lay k_X6_giveFacts 0 [(0, .ref 48), (1, .ref 19), (2, .int x2), (3, .int x3)] [] M z.2 (Qv (none) z.2) xF := by
  unfold d_X6_giveFacts at h
  refine Y_aload_n (j := 1) dX6_giveFacts_0 rfl rfl ?_
  refine Z_getr dX6_giveFacts_1 w1_156 (lk_19 hP) fr_8_3 (lr_19_3 hP) ?_
  refine Y_iload_n (j := 2) dX6_giveFacts_4 rfl rfl ?_
  refine Y_aload_n (j := 0) dX6_giveFacts_5 rfl rfl ?_
  refine Z_geti dX6_giveFacts_6 w2_65 (lk_48 hP) fi_6_9 ?_
  obtain ⟨hb1, h⟩ := okE h
  refine Y_iast dX6_giveFacts_9 (lk_23 hP) (ln_23 hP) hb1 ?_
  obtain ⟨M1, eM1, h⟩ := bndE h
  refine VV.mem eM1 ?_
  have hP1 := hP.wI eM1
  refine Y_aload_n (j := 0) dX6_giveFacts_10 rfl rfl ?_
  refine Z_getr dX6_giveFacts_11 w2_59 (lk_48 hP1) fr_6_6 (lr_48_6 hP1) ?_
  refine Y_aload_n (j := 0) dX6_giveFacts_14 rfl rfl ?_
  refine Z_geti dX6_giveFacts_15 w2_65 (lk_48 hP1) fi_6_9 ?_
  refine Y_iload_n (j := 3) dX6_giveFacts_18 rfl rfl ?_
  obtain ⟨hb2, h⟩ := okE h
  refine Y_iast dX6_giveFacts_19 (lk_55 hP1) (ln_55 hP1) hb2 ?_
  obtain ⟨M2, eM2, h⟩ := bndE h
  refine VV.mem eM2 ?_
  have hP2 := hP1.wI eM2
  refine Y_aload_n (j := 0) dX6_giveFacts_20 rfl rfl ?_
  refine Y_dup dX6_giveFacts_21 rfl ?_
  refine Z_geti dX6_giveFacts_22 w2_65 (lk_48 hP2) fi_6_9 ?_
  refine Y_iconst (v := (1 : Int32)) dX6_giveFacts_25 rfl ?_
  refine Y_iadd dX6_giveFacts_26 ?_
  refine Z_puti dX6_giveFacts_27 w2_65 (lk_48 hP2) fi_6_9 (Or.inl rfl) rfl ?_
  obtain ⟨M3, eM3, h⟩ := bndE h
  refine VV.mem eM3 ?_
  have hP3 := hP2.wI eM3
  cases h
  exact Y_vret rfl dX6_giveFacts_30 hP3 ⟨rfl, rfl⟩
theorem v_X6_giveFacts {x2 : Int32} {x3 : Int32} {M z} (hP : Lay M) (h : d_X6_giveFacts x2 x3 M = some z) : CC Lay k_X6_giveFacts [.ref 48, .ref 19, .int x2, .int x3] M z.2 (Qv (none) z.2) xF :=
  CC.ofVV (by decide) rfl (Nat.le_of_ble_eq_true rfl) (b_X6_giveFacts hP h)
noncomputable def d_X7_init (r0 : Nat) (M : Mem) : Option (Unit × Mem) :=
  bnd (nx M) fun r_1 => okk (r_1 < 2147483648) <|
  bnd (sN M r_1 21 60) fun M1 =>
  okk (mK M1 r0 = 7) <|
  bnd (sR M1 r0 0 (some r_1)) fun M2 =>
  bnd (nx M2) fun r_2 => okk (r_2 < 2147483648) <|
  bnd (sN M2 r_2 21 60) fun M3 =>
  okk (mK M3 r0 = 7) <|
  bnd (sR M3 r0 1 (some r_2)) fun M4 =>
  bnd (nx M4) fun r_3 => okk (r_3 < 2147483648) <|
  bnd (sN M4 r_3 21 60) fun M5 =>
  okk (mK M5 r0 = 7) <|
  bnd (sR M5 r0 2 (some r_3)) fun M6 =>
  bnd (nx M6) fun r_4 => okk (r_4 < 2147483648) <|
  bnd (sN M6 r_4 21 360) fun M7 =>
  okk (mK M7 r0 = 7) <|
  bnd (sR M7 r0 3 (some r_4)) fun M8 =>
  bnd (nx M8) fun r_5 => okk (r_5 < 2147483648) <|
  bnd (sN M8 r_5 21 360) fun M9 =>
  okk (mK M9 r0 = 7) <|
  bnd (sR M9 r0 4 (some r_5)) fun M10 =>
  bnd (nx M10) fun r_6 => okk (r_6 < 2147483648) <|
  bnd (sN M10 r_6 21 5) fun M11 =>
  okk (mK M11 r0 = 7) <|
  bnd (sR M11 r0 5 (some r_6)) fun M12 =>
  some ((), M12)
theorem b_X7_init {M0 : Mem} {r0 : Nat} {M z} (hP : (Kx r0 M0) M) (h : d_X7_init r0 M = some z) : VV (Kx r0 M0) k_X7_init 0 [(0, .ref r0)] [] M z.2 (Qv (none) z.2) xF := by
  unfold d_X7_init at h
  refine Y_aload_n (j := 0) dX7_init_0 rfl rfl ?_
  refine Y_oinit dX7_init_1 w1_107 ?_
  refine Y_aload_n (j := 0) dX7_init_4 rfl rfl ?_
  refine Y_bipush (v := (60 : Int32)) dX7_init_5 rfl ?_
  obtain ⟨r_1, er_1, h⟩ := bndE h
  obtain ⟨hb1, h⟩ := okE h
  refine Y_newa (a := r_1) (t := 21) (N := 60) dX7_init_7 (by decide) (by decide) rfl w1_100 (hP.free er_1) hb1 (by decide) rfl (by decide) ?_
  obtain ⟨M1, eM1, h⟩ := bndE h
  refine VV.mem eM1 ?_
  have hP1 := hP.wN er_1 (by decide) eM1
  obtain ⟨hb2, h⟩ := okE h
  refine Z_putr dX7_init_9 w1_108 hb2 fr_7_0 (Or.inr ⟨rfl, rfl⟩) ?_
  obtain ⟨M2, eM2, h⟩ := bndE h
  refine VV.mem eM2 ?_
  have hP2 := hP1.wR0 (by omega) eM2
  refine Y_aload_n (j := 0) dX7_init_12 rfl rfl ?_
  refine Y_bipush (v := (60 : Int32)) dX7_init_13 rfl ?_
  obtain ⟨r_2, er_2, h⟩ := bndE h
  obtain ⟨hb3, h⟩ := okE h
  refine Y_newa (a := r_2) (t := 21) (N := 60) dX7_init_15 (by decide) (by decide) rfl w1_100 (hP2.free er_2) hb3 (by decide) rfl (by decide) ?_
  obtain ⟨M3, eM3, h⟩ := bndE h
  refine VV.mem eM3 ?_
  have hP3 := hP2.wN er_2 (by decide) eM3
  obtain ⟨hb4, h⟩ := okE h
  refine Z_putr dX7_init_17 w1_110 hb4 fr_7_1 (Or.inr ⟨rfl, rfl⟩) ?_
  obtain ⟨M4, eM4, h⟩ := bndE h
  refine VV.mem eM4 ?_
  have hP4 := hP3.wR0 (by omega) eM4
  refine Y_aload_n (j := 0) dX7_init_20 rfl rfl ?_
  refine Y_bipush (v := (60 : Int32)) dX7_init_21 rfl ?_
  obtain ⟨r_3, er_3, h⟩ := bndE h
  obtain ⟨hb5, h⟩ := okE h
  refine Y_newa (a := r_3) (t := 21) (N := 60) dX7_init_23 (by decide) (by decide) rfl w1_100 (hP4.free er_3) hb5 (by decide) rfl (by decide) ?_
  obtain ⟨M5, eM5, h⟩ := bndE h
  refine VV.mem eM5 ?_
  have hP5 := hP4.wN er_3 (by decide) eM5
  obtain ⟨hb6, h⟩ := okE h
  refine Z_putr dX7_init_25 w1_112 hb6 fr_7_2 (Or.inr ⟨rfl, rfl⟩) ?_
  obtain ⟨M6, eM6, h⟩ := bndE h
  refine VV.mem eM6 ?_
  have hP6 := hP5.wR0 (by omega) eM6
  refine Y_aload_n (j := 0) dX7_init_28 rfl rfl ?_
  refine Y_sipush (v := (360 : Int32)) dX7_init_29 rfl ?_
  obtain ⟨r_4, er_4, h⟩ := bndE h
  obtain ⟨hb7, h⟩ := okE h
  refine Y_newa (a := r_4) (t := 21) (N := 360) dX7_init_32 (by decide) (by decide) rfl w1_100 (hP6.free er_4) hb7 (by decide) rfl (by decide) ?_
  obtain ⟨M7, eM7, h⟩ := bndE h
  refine VV.mem eM7 ?_
  have hP7 := hP6.wN er_4 (by decide) eM7
  obtain ⟨hb8, h⟩ := okE h
  refine Z_putr dX7_init_34 w1_113 hb8 fr_7_3 (Or.inr ⟨rfl, rfl⟩) ?_
  obtain ⟨M8, eM8, h⟩ := bndE h
  refine VV.mem eM8 ?_
  have hP8 := hP7.wR0 (by omega) eM8
  refine Y_aload_n (j := 0) dX7_init_37 rfl rfl ?_
  refine Y_sipush (v := (360 : Int32)) dX7_init_38 rfl ?_
  obtain ⟨r_5, er_5, h⟩ := bndE h
  obtain ⟨hb9, h⟩ := okE h
  refine Y_newa (a := r_5) (t := 21) (N := 360) dX7_init_41 (by decide) (by decide) rfl w1_100 (hP8.free er_5) hb9 (by decide) rfl (by decide) ?_
  obtain ⟨M9, eM9, h⟩ := bndE h
  refine VV.mem eM9 ?_
  have hP9 := hP8.wN er_5 (by decide) eM9
  obtain ⟨hb10, h⟩ := okE h
  refine Z_putr dX7_init_43 w1_115 hb10 fr_7_4 (Or.inr ⟨rfl, rfl⟩) ?_
  obtain ⟨M10, eM10, h⟩ := bndE h
  refine VV.mem eM10 ?_
  have hP10 := hP9.wR0 (by omega) eM10
  refine Y_aload_n (j := 0) dX7_init_46 rfl rfl ?_
  refine Y_iconst (v := (5 : Int32)) dX7_init_47 rfl ?_
  obtain ⟨r_6, er_6, h⟩ := bndE h
  obtain ⟨hb11, h⟩ := okE h
  refine Y_newa (a := r_6) (t := 21) (N := 5) dX7_init_48 (by decide) (by decide) rfl w1_100 (hP10.free er_6) hb11 (by decide) rfl (by decide) ?_
  obtain ⟨M11, eM11, h⟩ := bndE h
  refine VV.mem eM11 ?_
  have hP11 := hP10.wN er_6 (by decide) eM11
  obtain ⟨hb12, h⟩ := okE h
  refine Z_putr dX7_init_50 w1_117 hb12 fr_7_5 (Or.inr ⟨rfl, rfl⟩) ?_
  obtain ⟨M12, eM12, h⟩ := bndE h
  refine VV.mem eM12 ?_
  have hP12 := hP11.wR0 (by omega) eM12
  cases h
  exact Y_vret rfl dX7_init_53 hP12 ⟨rfl, rfl⟩
theorem v_X7_init {r0 : Nat} {M z} (hP : Fsh M) (hr : r0 ≤ nx M) (h : d_X7_init r0 M = some z) : CC (Kx r0 M) k_X7_init [.ref r0] M z.2 (Qv (none) z.2) xF :=
  CC.ofVV (by decide) rfl (Nat.le_of_ble_eq_true rfl) (b_X7_init (Kx.refl hP hr) h)
noncomputable def d_X7_takeBack_27 (k2 : (Int32) → Mem → Option (Unit × Mem)) (x1 : Int32) (x2 : Int32) (M : Mem) : Option (Unit × Mem) :=
  bnd ((x2 + (1 : Int32))) fun b1 =>
  k2 (b1) M
theorem b_X7_takeBack_27 {k2 : (Int32) → Mem → Option (Unit × Mem)} {x1 : Int32} {x2 : Int32} {M z} (hk2 : ∀ (a : (Int32)) (M : Mem) (z : Unit × Mem), Lay M → k2 a M = some z → VV Lay k_X7_takeBack 2 [(0, .ref 11), (1, .int x1), (2, .int a)] [] M z.2 (Qv (none) z.2) xF) (hP : Lay M) (h : d_X7_takeBack_27 k2 x1 x2 M = some z) : VV Lay k_X7_takeBack 27 [(0, .ref 11), (1, .int x1), (2, .int x2)] [] M z.2 (Qv (none) z.2) xF := by
  unfold d_X7_takeBack_27 at h
  obtain ⟨b1, eb1, h⟩ := bndE h
  refine Y_iinc (j := 2) (v := b1) (lv1 := [(2, .int b1), (0, .ref 11), (1, .int x1)]) dX7_takeBack_27 rfl eb1.symm (by decide) rfl ?_
  refine Y_goto (tgt := 2) dX7_takeBack_30 (by decide) ?_
  refine VV.sub [1, 2, 0] rfl ?_
  exact hk2 _ _ _ hP h
noncomputable def d_X7_takeBack_2b (k2 : (Int32) → Mem → Option (Unit × Mem)) (x1 : Int32) (x2 : Int32) (M : Mem) : Option (Unit × Mem) :=
  if (x1 * (6 : Int32)) ≤ x2 then (
    bnd (sI M 11 6 x1) fun M1 =>
    some ((), M1))
  else (
    okk (vp_in x2 360) <|
    if (mI M 16 x2.toNatClampNeg) < x1 then (
      d_X7_takeBack_27 k2 x1 x2 M)
    else (
      okk (vp_in x2 360) <|
      bnd (sI M 16 x2.toNatClampNeg (-1 : Int32)) fun M2 =>
      d_X7_takeBack_27 k2 x1 x2 M2))
theorem b_X7_takeBack_2b {k2 : (Int32) → Mem → Option (Unit × Mem)} {x1 : Int32} {x2 : Int32} {M z} (hk2 : ∀ (a : (Int32)) (M : Mem) (z : Unit × Mem), Lay M → k2 a M = some z → VV Lay k_X7_takeBack 2 [(0, .ref 11), (1, .int x1), (2, .int a)] [] M z.2 (Qv (none) z.2) xF) (hP : Lay M) (h : d_X7_takeBack_2b k2 x1 x2 M = some z) : VV Lay k_X7_takeBack 2 [(0, .ref 11), (1, .int x1), (2, .int x2)] [] M z.2 (Qv (none) z.2) xF := by
  unfold d_X7_takeBack_2b at h
  refine Y_iload_n (j := 2) dX7_takeBack_2 rfl rfl ?_
  refine Y_iload_n (j := 1) dX7_takeBack_3 rfl rfl ?_
  refine Y_bipush (v := (6 : Int32)) dX7_takeBack_4 rfl ?_
  refine Y_imul dX7_takeBack_6 ?_
  refine Y_icmp_ge (tgt := 33) dX7_takeBack_7 (by decide) (fun hc1 => ?_) (fun hc1 => ?_)
  · replace h := ifT hc1 h
    refine Y_aload_n (j := 0) dX7_takeBack_33 rfl rfl ?_
    refine Y_iload_n (j := 1) dX7_takeBack_34 rfl rfl ?_
    refine Z_puti dX7_takeBack_35 w1_120 (lk_11 hP) fi_7_6 (Or.inl rfl) rfl ?_
    obtain ⟨M1, eM1, h⟩ := bndE h
    refine VV.mem eM1 ?_
    have hP1 := hP.wI eM1
    cases h
    exact Y_vret rfl dX7_takeBack_38 hP1 ⟨rfl, rfl⟩
  · replace h := ifF hc1 h
    refine Y_aload_n (j := 0) dX7_takeBack_10 rfl rfl ?_
    refine Z_getr dX7_takeBack_11 w1_115 (lk_11 hP) fr_7_4 (lr_11_4 hP) ?_
    refine Y_iload_n (j := 2) dX7_takeBack_14 rfl rfl ?_
    obtain ⟨hb1, h⟩ := okE h
    refine Y_iald dX7_takeBack_15 (lk_16 hP) (ln_16 hP) hb1 ?_
    refine Y_iload_n (j := 1) dX7_takeBack_16 rfl rfl ?_
    refine Y_icmp_lt (tgt := 27) dX7_takeBack_17 (by decide) (fun hc2 => ?_) (fun hc2 => ?_)
    · replace h := ifT hc2 h
      refine VV.sub [0, 1, 2] rfl ?_
      exact b_X7_takeBack_27 hk2 hP h
    · replace h := ifF hc2 h
      refine Y_aload_n (j := 0) dX7_takeBack_20 rfl rfl ?_
      refine Z_getr dX7_takeBack_21 w1_115 (lk_11 hP) fr_7_4 (lr_11_4 hP) ?_
      refine Y_iload_n (j := 2) dX7_takeBack_24 rfl rfl ?_
      refine Y_iconst (v := (-1 : Int32)) dX7_takeBack_25 rfl ?_
      obtain ⟨hb2, h⟩ := okE h
      refine Y_iast dX7_takeBack_26 (lk_16 hP) (ln_16 hP) hb2 ?_
      obtain ⟨M2, eM2, h⟩ := bndE h
      refine VV.mem eM2 ?_
      have hP2 := hP.wI eM2
      refine VV.sub [0, 1, 2] rfl ?_
      exact b_X7_takeBack_27 hk2 hP2 h
noncomputable def d_X7_takeBack_2 (x1 : Int32) : Nat → (Int32) → Mem → Option (Unit × Mem) := lp fun k a M => d_X7_takeBack_2b k x1 a M
theorem b_X7_takeBack_2 {x1 : Int32} (n : Nat) : ∀ (a : (Int32)) (M : Mem) (z : Unit × Mem), d_X7_takeBack_2 x1 n a M = some z → Lay M → VV Lay k_X7_takeBack 2 [(0, .ref 11), (1, .int x1), (2, .int a)] [] M z.2 (Qv (none) z.2) xF :=
  lp_ind (fun k hk a M z h hP => b_X7_takeBack_2b  (fun a M z hP h => hk a M z h hP) hP h) n
noncomputable def d_X7_takeBack (x1 : Int32) (M : Mem) : Option (Unit × Mem) :=
  d_X7_takeBack_2 x1 fuel ((0 : Int32)) M
theorem b_X7_takeBack {x1 : Int32} {M z} (hP : Lay M) (h : d_X7_takeBack x1 M = some z) : VV Lay k_X7_takeBack 0 [(0, .ref 11), (1, .int x1)] [] M z.2 (Qv (none) z.2) xF := by
  unfold d_X7_takeBack at h
  refine Y_iconst (v := (0 : Int32)) dX7_takeBack_0 rfl ?_
  refine Y_istore_n (lv1 := [(2, .int (0 : Int32)), (0, .ref 11), (1, .int x1)]) dX7_takeBack_1 rfl (by decide) rfl ?_
  refine VV.sub [1, 2, 0] rfl ?_
  exact b_X7_takeBack_2  fuel _ _ _ h hP
theorem v_X7_takeBack {x1 : Int32} {M z} (hP : Lay M) (h : d_X7_takeBack x1 M = some z) : CC Lay k_X7_takeBack [.ref 11, .int x1] M z.2 (Qv (none) z.2) xF :=
  CC.ofVV (by decide) rfl (Nat.le_of_ble_eq_true rfl) (b_X7_takeBack hP h)
noncomputable def d_X8_bitsAt (o : Nat) (x1 : Int32) (M : Mem) : Option (Int64 × Mem) :=
  (d_X8_isUndefined o x1 M).bind fun y1 =>
  if y1.1 = 0 then (
    okk (vp_in x1 549) <|
    if (mI y1.2 (o + 2) x1.toNatClampNeg) = (102 : Int32) then (
      okk (vp_in x1 549) <|
      (d_X4_bitsOf (mD y1.2 (o + 4) x1.toNatClampNeg) y1.2).bind fun y2 =>
      some (y2.1, y2.2))
    else (
      okk (vp_in x1 549) <|
      some (((mI y1.2 (o + 3) x1.toNatClampNeg).toInt64), y1.2)))
  else (
    some ((9221120237041090560 : Int64), y1.2))
theorem b_X8_bitsAt {o : Nat} {x1 : Int32} {M z} (ho : o = 18 ∨ o = 28) (hP : Lay M) (h : d_X8_bitsAt o x1 M = some z) : VV Lay k_X8_bitsAt 0 [(0, .ref (o + 1)), (1, .int x1)] [] M z.2 (Qv (some (.long z.1)) z.2) xF := by
  unfold d_X8_bitsAt at h
  refine Y_aload_n (j := 0) dX8_bitsAt_0 rfl rfl ?_
  refine Y_iload_n (j := 1) dX8_bitsAt_1 rfl rfl ?_
  obtain ⟨y1, qy1, h⟩ := bindE h
  have cy1 := v_X8_isUndefined ho hP qy1
  refine C_V1r dX8_bitsAt_2 w5_131 i_X8_isUndefined (lo_1 hP ho) ⟨Nat.le_of_ble_eq_true rfl, Nat.le_of_ble_eq_true rfl⟩ rfl (Nat.le_of_ble_eq_true rfl) (Nat.le_of_ble_eq_true rfl) (Nat.le_of_ble_eq_true rfl) (cy1) ?_
  have hPy1 := cy1.1.1
  refine Y_if_eq (tgt := 12) dX8_bitsAt_5 (by decide) (fun hc1 => ?_) (fun hc1 => ?_)
  · replace h := ifT hc1 h
    refine Y_aload_n (j := 0) dX8_bitsAt_12 rfl rfl ?_
    refine Z_getr dX8_bitsAt_13 w1_149 (lo_1 hPy1 ho) fr_8_0 (lor_1_0 hPy1 ho) ?_
    refine Y_iload_n (j := 1) dX8_bitsAt_16 rfl rfl ?_
    obtain ⟨hb1, h⟩ := okE h
    refine Y_cald dX8_bitsAt_17 (lo_2 hPy1 ho) (lon_2 hPy1 ho) hb1 ?_
    refine Y_bipush (v := (102 : Int32)) dX8_bitsAt_18 rfl ?_
    refine Y_icmp_ne (tgt := 35) dX8_bitsAt_20 (by decide) (fun hc2 => ?_) (fun hc2 => ?_)
    · replace h := ifF hc2 h
      refine Y_aload_n (j := 0) dX8_bitsAt_35 rfl rfl ?_
      refine Z_getr dX8_bitsAt_36 w1_152 (lo_1 hPy1 ho) fr_8_1 (lor_1_1 hPy1 ho) ?_
      refine Y_iload_n (j := 1) dX8_bitsAt_39 rfl rfl ?_
      obtain ⟨hb2, h⟩ := okE h
      refine Y_iald dX8_bitsAt_40 (lo_3 hPy1 ho) (lon_3 hPy1 ho) hb2 ?_
      refine Y_i2l dX8_bitsAt_41 ?_
      cases h
      exact Y_lret rfl dX8_bitsAt_42 hPy1 ⟨rfl, rfl⟩
    · replace h := ifT hc2 h
      refine Y_aload_n (j := 0) dX8_bitsAt_23 rfl rfl ?_
      refine Z_getr dX8_bitsAt_24 w1_154 (lo_1 hPy1 ho) fr_8_2 (lor_1_2 hPy1 ho) ?_
      refine Y_iload_n (j := 1) dX8_bitsAt_27 rfl rfl ?_
      obtain ⟨hb3, h⟩ := okE h
      refine Y_dald dX8_bitsAt_28 (lo_4 hPy1 ho) (lon_4 hPy1 ho) hb3 ?_
      obtain ⟨y2, qy2, h⟩ := bindE h
      have cy2 := v_X4_bitsOf hPy1 qy2
      refine C_S1r dX8_bitsAt_29 w7_37 i_X4_bitsOf (Nat.le_of_ble_eq_true rfl) (Nat.le_of_ble_eq_true rfl) (Nat.le_of_ble_eq_true rfl) (cy2) ?_
      have hPy2 := cy2.1.1
      refine Y_goto (tgt := 42) dX8_bitsAt_32 (by decide) ?_
      cases h
      exact Y_lret rfl dX8_bitsAt_42 hPy2 ⟨rfl, rfl⟩
  · replace h := ifF hc1 h
    refine Y_ldc2 dX8_bitsAt_8 w7_36 ?_
    cases h
    exact Y_lret rfl dX8_bitsAt_11 hPy1 ⟨rfl, rfl⟩
theorem v_X8_bitsAt {o : Nat} {x1 : Int32} {M z} (ho : o = 18 ∨ o = 28) (hP : Lay M) (h : d_X8_bitsAt o x1 M = some z) : CC Lay k_X8_bitsAt [.ref (o + 1), .int x1] M z.2 (Qv (some (.long z.1)) z.2) xF :=
  CC.ofVV (by decide) rfl (Nat.le_of_ble_eq_true rfl) (b_X8_bitsAt ho hP h)
noncomputable def d_X9_init (r0 : Nat) (r1 : Nat) (x2 : Int32) (M : Mem) : Option (Unit × Mem) :=
  okk (mK M r1 = 6) <|
  okk (mK M r0 = 9) <|
  bnd (sI M r0 0 (mI M r1 7)) fun M1 =>
  okk (mK M1 r1 = 6) <|
  okk (mK M1 r0 = 9) <|
  bnd (sI M1 r0 1 (mI M1 r1 8)) fun M2 =>
  okk (mK M2 r1 = 6) <|
  (mR M2 r1 0).bind fun r_1 =>
  okk (mK M2 r0 = 9) <|
  (d_J7_copyOf_59c91 r_1 (mI M2 r0 0) M2).bind fun y1 =>
  okk (mK y1.2 r0 = 9) <|
  bnd (sR y1.2 r0 2 (some y1.1)) fun M3 =>
  okk (mK M3 r1 = 6) <|
  (mR M3 r1 1).bind fun r_2 =>
  okk (mK M3 r0 = 9) <|
  (d_J7_copyOf_59c91 r_2 ((mI M3 r0 0) + (1 : Int32)) M3).bind fun y2 =>
  okk (mK y2.2 r0 = 9) <|
  bnd (sR y2.2 r0 3 (some y2.1)) fun M4 =>
  okk (mK M4 r0 = 9) <|
  (mR M4 r0 3).bind fun r_3 =>
  okk (mK M4 r0 = 9) <|
  okk (mK M4 r0 = 9) <|
  okk (mK M4 r_3 = 21) <|
  okk (vp_in (mI M4 r0 0) (mN M4 r_3)) <|
  bnd (sI M4 r_3 (mI M4 r0 0).toNatClampNeg (mI M4 r0 1)) fun M5 =>
  okk (mK M5 r1 = 6) <|
  (mR M5 r1 2).bind fun r_4 =>
  okk (mK M5 r0 = 9) <|
  (d_J7_copyOf_59c91 r_4 (mI M5 r0 1) M5).bind fun y3 =>
  okk (mK y3.2 r0 = 9) <|
  bnd (sR y3.2 r0 4 (some y3.1)) fun M6 =>
  okk (mK M6 r1 = 6) <|
  (mR M6 r1 3).bind fun r_5 =>
  okk (mK M6 r0 = 9) <|
  (d_J7_copyOf_59c91 r_5 (mI M6 r0 1) M6).bind fun y4 =>
  okk (mK y4.2 r0 = 9) <|
  bnd (sR y4.2 r0 5 (some y4.1)) fun M7 =>
  okk (mK M7 r1 = 6) <|
  (mR M7 r1 4).bind fun r_6 =>
  okk (mK M7 r0 = 9) <|
  (d_J7_copyOf_59c91 r_6 (mI M7 r0 1) M7).bind fun y5 =>
  okk (mK y5.2 r0 = 9) <|
  bnd (sR y5.2 r0 6 (some y5.1)) fun M8 =>
  okk (mK M8 r1 = 6) <|
  (mR M8 r1 5).bind fun r_7 =>
  okk (mK M8 r0 = 9) <|
  (d_J7_copyOf_59c91 r_7 (mI M8 r0 1) M8).bind fun y6 =>
  okk (mK y6.2 r0 = 9) <|
  bnd (sR y6.2 r0 7 (some y6.1)) fun M9 =>
  okk (mK M9 r0 = 9) <|
  bnd (nx M9) fun r_8 => okk (r_8 < 2147483648) <|
  okk (0 ≤ (mI M9 r0 1) ∧ (mI M9 r0 1) ≤ 100000) <|
  bnd (sN M9 r_8 21 (mI M9 r0 1).toNatClampNeg) fun M10 =>
  okk (mK M10 r0 = 9) <|
  bnd (sR M10 r0 8 (some r_8)) fun M11 =>
  okk (mK M11 r0 = 9) <|
  bnd (nx M11) fun r_9 => okk (r_9 < 2147483648) <|
  okk (0 ≤ (mI M11 r0 1) ∧ (mI M11 r0 1) ≤ 100000) <|
  bnd (sN M11 r_9 21 (mI M11 r0 1).toNatClampNeg) fun M12 =>
  okk (mK M12 r0 = 9) <|
  bnd (sR M12 r0 9 (some r_9)) fun M13 =>
  okk (mK M13 r0 = 9) <|
  bnd (nx M13) fun r_10 => okk (r_10 < 2147483648) <|
  okk (0 ≤ (mI M13 r0 1) ∧ (mI M13 r0 1) ≤ 100000) <|
  bnd (sN M13 r_10 21 (mI M13 r0 1).toNatClampNeg) fun M14 =>
  okk (mK M14 r0 = 9) <|
  bnd (sR M14 r0 10 (some r_10)) fun M15 =>
  okk (mK M15 r0 = 9) <|
  bnd (nx M15) fun r_11 => okk (r_11 < 2147483648) <|
  okk (0 ≤ (mI M15 r0 1) ∧ (mI M15 r0 1) ≤ 100000) <|
  bnd (sN M15 r_11 21 (mI M15 r0 1).toNatClampNeg) fun M16 =>
  okk (mK M16 r0 = 9) <|
  bnd (sR M16 r0 11 (some r_11)) fun M17 =>
  okk (mK M17 r0 = 9) <|
  (mR M17 r0 11).bind fun r_12 =>
  (d_J7_fill_53178 r_12 (-1 : Int32) M17).bind fun y7 =>
  okk (mK y7.2 r0 = 9) <|
  bnd (sI y7.2 r0 12 x2) fun M18 =>
  okk (mK M18 r1 = 6) <|
  okk (mK M18 r0 = 9) <|
  bnd (sI M18 r0 13 (mI M18 r1 11)) fun M19 =>
  okk (mK M19 r0 = 9) <|
  bnd (sI M19 r0 14 (1 : Int32)) fun M20 =>
  some ((), M20)
theorem b_X9_init {M0 : Mem} {r0 : Nat} {r1 : Nat} {x2 : Int32} {M z} (hP : (Kx r0 M0) M) (h : d_X9_init r0 r1 x2 M = some z) : VV (Kx r0 M0) k_X9_init 0 [(0, .ref r0), (1, .ref r1), (2, .int x2)] [] M z.2 (Qv (none) z.2) xF := by
  unfold d_X9_init at h
  refine Y_aload_n (j := 0) dX9_init_0 rfl rfl ?_
  refine Y_oinit dX9_init_1 w2_116 ?_
  refine Y_aload_n (j := 0) dX9_init_4 rfl rfl ?_
  refine Y_aload_n (j := 1) dX9_init_5 rfl rfl ?_
  obtain ⟨hb1, h⟩ := okE h
  refine Z_geti dX9_init_6 w2_60 hb1 fi_6_7 ?_
  obtain ⟨hb2, h⟩ := okE h
  refine Z_puti dX9_init_9 w2_134 hb2 fi_9_0 (Or.inr ⟨rfl, rfl⟩) rfl ?_
  obtain ⟨M1, eM1, h⟩ := bndE h
  refine VV.mem eM1 ?_
  have hP1 := hP.wI eM1
  refine Y_aload_n (j := 0) dX9_init_12 rfl rfl ?_
  refine Y_aload_n (j := 1) dX9_init_13 rfl rfl ?_
  obtain ⟨hb3, h⟩ := okE h
  refine Z_geti dX9_init_14 w2_63 hb3 fi_6_8 ?_
  obtain ⟨hb4, h⟩ := okE h
  refine Z_puti dX9_init_17 w2_138 hb4 fi_9_1 (Or.inr ⟨rfl, rfl⟩) rfl ?_
  obtain ⟨M2, eM2, h⟩ := bndE h
  refine VV.mem eM2 ?_
  have hP2 := hP1.wI eM2
  refine Y_aload_n (j := 0) dX9_init_20 rfl rfl ?_
  refine Y_aload_n (j := 1) dX9_init_21 rfl rfl ?_
  obtain ⟨hb5, h⟩ := okE h
  obtain ⟨r_1, er_1, h⟩ := bindE h
  refine Z_getr dX9_init_22 w2_48 hb5 fr_6_0 er_1 ?_
  refine Y_aload_n (j := 0) dX9_init_25 rfl rfl ?_
  obtain ⟨hb6, h⟩ := okE h
  refine Z_geti dX9_init_26 w2_134 hb6 fi_9_0 ?_
  obtain ⟨y1, qy1, h⟩ := bindE h
  have cy1 := v_J7_copyOf_59c91 hP2.fsh qy1
  refine C_S2r dX9_init_29 w2_117 i_J7_copyOf_59c91 (Nat.le_of_ble_eq_true rfl) (Nat.le_of_ble_eq_true rfl) (Nat.le_of_ble_eq_true rfl) (cy1) ?_
  have hPy1 := hP2.jdk cy1.1.1
  obtain ⟨hb7, h⟩ := okE h
  refine Z_putr dX9_init_32 w2_141 hb7 fr_9_2 (Or.inr ⟨rfl, rfl⟩) ?_
  obtain ⟨M3, eM3, h⟩ := bndE h
  refine VV.mem eM3 ?_
  have hP3 := hPy1.wR0 (by omega) eM3
  refine Y_aload_n (j := 0) dX9_init_35 rfl rfl ?_
  refine Y_aload_n (j := 1) dX9_init_36 rfl rfl ?_
  obtain ⟨hb8, h⟩ := okE h
  obtain ⟨r_2, er_2, h⟩ := bindE h
  refine Z_getr dX9_init_37 w2_50 hb8 fr_6_1 er_2 ?_
  refine Y_aload_n (j := 0) dX9_init_40 rfl rfl ?_
  obtain ⟨hb9, h⟩ := okE h
  refine Z_geti dX9_init_41 w2_134 hb9 fi_9_0 ?_
  refine Y_iconst (v := (1 : Int32)) dX9_init_44 rfl ?_
  refine Y_iadd dX9_init_45 ?_
  obtain ⟨y2, qy2, h⟩ := bindE h
  have cy2 := v_J7_copyOf_59c91 hP3.fsh qy2
  refine C_S2r dX9_init_46 w2_117 i_J7_copyOf_59c91 (Nat.le_of_ble_eq_true rfl) (Nat.le_of_ble_eq_true rfl) (Nat.le_of_ble_eq_true rfl) (cy2) ?_
  have hPy2 := hP3.jdk cy2.1.1
  obtain ⟨hb10, h⟩ := okE h
  refine Z_putr dX9_init_49 w2_144 hb10 fr_9_3 (Or.inr ⟨rfl, rfl⟩) ?_
  obtain ⟨M4, eM4, h⟩ := bndE h
  refine VV.mem eM4 ?_
  have hP4 := hPy2.wR0 (by omega) eM4
  refine Y_aload_n (j := 0) dX9_init_52 rfl rfl ?_
  obtain ⟨hb11, h⟩ := okE h
  obtain ⟨r_3, er_3, h⟩ := bindE h
  refine Z_getr dX9_init_53 w2_144 hb11 fr_9_3 er_3 ?_
  refine Y_aload_n (j := 0) dX9_init_56 rfl rfl ?_
  obtain ⟨hb12, h⟩ := okE h
  refine Z_geti dX9_init_57 w2_134 hb12 fi_9_0 ?_
  refine Y_aload_n (j := 0) dX9_init_60 rfl rfl ?_
  obtain ⟨hb13, h⟩ := okE h
  refine Z_geti dX9_init_61 w2_138 hb13 fi_9_1 ?_
  obtain ⟨hb14, h⟩ := okE h
  obtain ⟨hb15, h⟩ := okE h
  refine Y_iast dX9_init_64 hb14 rfl hb15 ?_
  obtain ⟨M5, eM5, h⟩ := bndE h
  refine VV.mem eM5 ?_
  have hP5 := hP4.wI eM5
  refine Y_aload_n (j := 0) dX9_init_65 rfl rfl ?_
  refine Y_aload_n (j := 1) dX9_init_66 rfl rfl ?_
  obtain ⟨hb16, h⟩ := okE h
  obtain ⟨r_4, er_4, h⟩ := bindE h
  refine Z_getr dX9_init_67 w2_52 hb16 fr_6_2 er_4 ?_
  refine Y_aload_n (j := 0) dX9_init_70 rfl rfl ?_
  obtain ⟨hb17, h⟩ := okE h
  refine Z_geti dX9_init_71 w2_138 hb17 fi_9_1 ?_
  obtain ⟨y3, qy3, h⟩ := bindE h
  have cy3 := v_J7_copyOf_59c91 hP5.fsh qy3
  refine C_S2r dX9_init_74 w2_117 i_J7_copyOf_59c91 (Nat.le_of_ble_eq_true rfl) (Nat.le_of_ble_eq_true rfl) (Nat.le_of_ble_eq_true rfl) (cy3) ?_
  have hPy3 := hP5.jdk cy3.1.1
  obtain ⟨hb18, h⟩ := okE h
  refine Z_putr dX9_init_77 w2_146 hb18 fr_9_4 (Or.inr ⟨rfl, rfl⟩) ?_
  obtain ⟨M6, eM6, h⟩ := bndE h
  refine VV.mem eM6 ?_
  have hP6 := hPy3.wR0 (by omega) eM6
  refine Y_aload_n (j := 0) dX9_init_80 rfl rfl ?_
  refine Y_aload_n (j := 1) dX9_init_81 rfl rfl ?_
  obtain ⟨hb19, h⟩ := okE h
  obtain ⟨r_5, er_5, h⟩ := bindE h
  refine Z_getr dX9_init_82 w2_54 hb19 fr_6_3 er_5 ?_
  refine Y_aload_n (j := 0) dX9_init_85 rfl rfl ?_
  obtain ⟨hb20, h⟩ := okE h
  refine Z_geti dX9_init_86 w2_138 hb20 fi_9_1 ?_
  obtain ⟨y4, qy4, h⟩ := bindE h
  have cy4 := v_J7_copyOf_59c91 hP6.fsh qy4
  refine C_S2r dX9_init_89 w2_117 i_J7_copyOf_59c91 (Nat.le_of_ble_eq_true rfl) (Nat.le_of_ble_eq_true rfl) (Nat.le_of_ble_eq_true rfl) (cy4) ?_
  have hPy4 := hP6.jdk cy4.1.1
  obtain ⟨hb21, h⟩ := okE h
  refine Z_putr dX9_init_92 w2_149 hb21 fr_9_5 (Or.inr ⟨rfl, rfl⟩) ?_
  obtain ⟨M7, eM7, h⟩ := bndE h
  refine VV.mem eM7 ?_
  have hP7 := hPy4.wR0 (by omega) eM7
  refine Y_aload_n (j := 0) dX9_init_95 rfl rfl ?_
  refine Y_aload_n (j := 1) dX9_init_96 rfl rfl ?_
  obtain ⟨hb22, h⟩ := okE h
  obtain ⟨r_6, er_6, h⟩ := bindE h
  refine Z_getr dX9_init_97 w2_56 hb22 fr_6_4 er_6 ?_
  refine Y_aload_n (j := 0) dX9_init_100 rfl rfl ?_
  obtain ⟨hb23, h⟩ := okE h
  refine Z_geti dX9_init_101 w2_138 hb23 fi_9_1 ?_
  obtain ⟨y5, qy5, h⟩ := bindE h
  have cy5 := v_J7_copyOf_59c91 hP7.fsh qy5
  refine C_S2r dX9_init_104 w2_117 i_J7_copyOf_59c91 (Nat.le_of_ble_eq_true rfl) (Nat.le_of_ble_eq_true rfl) (Nat.le_of_ble_eq_true rfl) (cy5) ?_
  have hPy5 := hP7.jdk cy5.1.1
  obtain ⟨hb24, h⟩ := okE h
  refine Z_putr dX9_init_107 w2_151 hb24 fr_9_6 (Or.inr ⟨rfl, rfl⟩) ?_
  obtain ⟨M8, eM8, h⟩ := bndE h
  refine VV.mem eM8 ?_
  have hP8 := hPy5.wR0 (by omega) eM8
  refine Y_aload_n (j := 0) dX9_init_110 rfl rfl ?_
  refine Y_aload_n (j := 1) dX9_init_111 rfl rfl ?_
  obtain ⟨hb25, h⟩ := okE h
  obtain ⟨r_7, er_7, h⟩ := bindE h
  refine Z_getr dX9_init_112 w2_58 hb25 fr_6_5 er_7 ?_
  refine Y_aload_n (j := 0) dX9_init_115 rfl rfl ?_
  obtain ⟨hb26, h⟩ := okE h
  refine Z_geti dX9_init_116 w2_138 hb26 fi_9_1 ?_
  obtain ⟨y6, qy6, h⟩ := bindE h
  have cy6 := v_J7_copyOf_59c91 hP8.fsh qy6
  refine C_S2r dX9_init_119 w2_117 i_J7_copyOf_59c91 (Nat.le_of_ble_eq_true rfl) (Nat.le_of_ble_eq_true rfl) (Nat.le_of_ble_eq_true rfl) (cy6) ?_
  have hPy6 := hP8.jdk cy6.1.1
  obtain ⟨hb27, h⟩ := okE h
  refine Z_putr dX9_init_122 w2_153 hb27 fr_9_7 (Or.inr ⟨rfl, rfl⟩) ?_
  obtain ⟨M9, eM9, h⟩ := bndE h
  refine VV.mem eM9 ?_
  have hP9 := hPy6.wR0 (by omega) eM9
  refine Y_aload_n (j := 0) dX9_init_125 rfl rfl ?_
  refine Y_aload_n (j := 0) dX9_init_126 rfl rfl ?_
  obtain ⟨hb28, h⟩ := okE h
  refine Z_geti dX9_init_127 w2_138 hb28 fi_9_1 ?_
  obtain ⟨r_8, er_8, h⟩ := bndE h
  obtain ⟨hb29, h⟩ := okE h
  obtain ⟨hb30, h⟩ := okE h
  refine Y_newa (a := r_8) (t := 21) (N := (mI M9 r0 1).toNatClampNeg) dX9_init_130 (by decide) (by decide) rfl w1_100 (hP9.free er_8) hb29 (na_1 hb30) rfl (na_2 hb30) ?_
  obtain ⟨M10, eM10, h⟩ := bndE h
  refine VV.mem eM10 ?_
  have hP10 := hP9.wN er_8 (by decide) eM10
  obtain ⟨hb31, h⟩ := okE h
  refine Z_putr dX9_init_132 w2_155 hb31 fr_9_8 (Or.inr ⟨rfl, rfl⟩) ?_
  obtain ⟨M11, eM11, h⟩ := bndE h
  refine VV.mem eM11 ?_
  have hP11 := hP10.wR0 (by omega) eM11
  refine Y_aload_n (j := 0) dX9_init_135 rfl rfl ?_
  refine Y_aload_n (j := 0) dX9_init_136 rfl rfl ?_
  obtain ⟨hb32, h⟩ := okE h
  refine Z_geti dX9_init_137 w2_138 hb32 fi_9_1 ?_
  obtain ⟨r_9, er_9, h⟩ := bndE h
  obtain ⟨hb33, h⟩ := okE h
  obtain ⟨hb34, h⟩ := okE h
  refine Y_newa (a := r_9) (t := 21) (N := (mI M11 r0 1).toNatClampNeg) dX9_init_140 (by decide) (by decide) rfl w1_100 (hP11.free er_9) hb33 (na_1 hb34) rfl (na_2 hb34) ?_
  obtain ⟨M12, eM12, h⟩ := bndE h
  refine VV.mem eM12 ?_
  have hP12 := hP11.wN er_9 (by decide) eM12
  obtain ⟨hb35, h⟩ := okE h
  refine Z_putr dX9_init_142 w2_158 hb35 fr_9_9 (Or.inr ⟨rfl, rfl⟩) ?_
  obtain ⟨M13, eM13, h⟩ := bndE h
  refine VV.mem eM13 ?_
  have hP13 := hP12.wR0 (by omega) eM13
  refine Y_aload_n (j := 0) dX9_init_145 rfl rfl ?_
  refine Y_aload_n (j := 0) dX9_init_146 rfl rfl ?_
  obtain ⟨hb36, h⟩ := okE h
  refine Z_geti dX9_init_147 w2_138 hb36 fi_9_1 ?_
  obtain ⟨r_10, er_10, h⟩ := bndE h
  obtain ⟨hb37, h⟩ := okE h
  obtain ⟨hb38, h⟩ := okE h
  refine Y_newa (a := r_10) (t := 21) (N := (mI M13 r0 1).toNatClampNeg) dX9_init_150 (by decide) (by decide) rfl w1_100 (hP13.free er_10) hb37 (na_1 hb38) rfl (na_2 hb38) ?_
  obtain ⟨M14, eM14, h⟩ := bndE h
  refine VV.mem eM14 ?_
  have hP14 := hP13.wN er_10 (by decide) eM14
  obtain ⟨hb39, h⟩ := okE h
  refine Z_putr dX9_init_152 w2_160 hb39 fr_9_10 (Or.inr ⟨rfl, rfl⟩) ?_
  obtain ⟨M15, eM15, h⟩ := bndE h
  refine VV.mem eM15 ?_
  have hP15 := hP14.wR0 (by omega) eM15
  refine Y_aload_n (j := 0) dX9_init_155 rfl rfl ?_
  refine Y_aload_n (j := 0) dX9_init_156 rfl rfl ?_
  obtain ⟨hb40, h⟩ := okE h
  refine Z_geti dX9_init_157 w2_138 hb40 fi_9_1 ?_
  obtain ⟨r_11, er_11, h⟩ := bndE h
  obtain ⟨hb41, h⟩ := okE h
  obtain ⟨hb42, h⟩ := okE h
  refine Y_newa (a := r_11) (t := 21) (N := (mI M15 r0 1).toNatClampNeg) dX9_init_160 (by decide) (by decide) rfl w1_100 (hP15.free er_11) hb41 (na_1 hb42) rfl (na_2 hb42) ?_
  obtain ⟨M16, eM16, h⟩ := bndE h
  refine VV.mem eM16 ?_
  have hP16 := hP15.wN er_11 (by decide) eM16
  obtain ⟨hb43, h⟩ := okE h
  refine Z_putr dX9_init_162 w2_161 hb43 fr_9_11 (Or.inr ⟨rfl, rfl⟩) ?_
  obtain ⟨M17, eM17, h⟩ := bndE h
  refine VV.mem eM17 ?_
  have hP17 := hP16.wR0 (by omega) eM17
  refine Y_aload_n (j := 0) dX9_init_165 rfl rfl ?_
  obtain ⟨hb44, h⟩ := okE h
  obtain ⟨r_12, er_12, h⟩ := bindE h
  refine Z_getr dX9_init_166 w2_161 hb44 fr_9_11 er_12 ?_
  refine Y_iconst (v := (-1 : Int32)) dX9_init_169 rfl ?_
  obtain ⟨y7, qy7, h⟩ := bindE h
  have cy7 := v_J7_fill_53178 hP17.fsh qy7
  refine C_S2o dX9_init_170 w2_133 i_J7_fill_53178 (Nat.le_of_ble_eq_true rfl) (Nat.le_of_ble_eq_true rfl) (Nat.le_of_ble_eq_true rfl) (cy7) ?_
  have hPy7 := hP17.jdk cy7.1.1
  refine Y_aload_n (j := 0) dX9_init_173 rfl rfl ?_
  refine Y_iload_n (j := 2) dX9_init_174 rfl rfl ?_
  obtain ⟨hb45, h⟩ := okE h
  refine Z_puti dX9_init_175 w2_164 hb45 fi_9_12 (Or.inr ⟨rfl, rfl⟩) rfl ?_
  obtain ⟨M18, eM18, h⟩ := bndE h
  refine VV.mem eM18 ?_
  have hP18 := hPy7.wI eM18
  refine Y_aload_n (j := 0) dX9_init_178 rfl rfl ?_
  refine Y_aload_n (j := 1) dX9_init_179 rfl rfl ?_
  obtain ⟨hb46, h⟩ := okE h
  refine Z_geti dX9_init_180 w2_68 hb46 fi_6_11 ?_
  obtain ⟨hb47, h⟩ := okE h
  refine Z_puti dX9_init_183 w2_168 hb47 fi_9_13 (Or.inr ⟨rfl, rfl⟩) rfl ?_
  obtain ⟨M19, eM19, h⟩ := bndE h
  refine VV.mem eM19 ?_
  have hP19 := hP18.wI eM19
  refine Y_aload_n (j := 0) dX9_init_186 rfl rfl ?_
  refine Y_iconst (v := (1 : Int32)) dX9_init_187 rfl ?_
  obtain ⟨hb48, h⟩ := okE h
  refine Z_putz dX9_init_188 w2_171 hb48 fi_9_14 (Or.inl rfl) rfl (by decide) ?_
  obtain ⟨M20, eM20, h⟩ := bndE h
  refine VV.mem eM20 ?_
  have hP20 := hP19.wI eM20
  cases h
  exact Y_vret rfl dX9_init_191 hP20 ⟨rfl, rfl⟩
theorem v_X9_init {r0 : Nat} {r1 : Nat} {x2 : Int32} {M z} (hP : Fsh M) (hr : r0 ≤ nx M) (h : d_X9_init r0 r1 x2 M = some z) : CC (Kx r0 M) k_X9_init [.ref r0, .ref r1, .int x2] M z.2 (Qv (none) z.2) xF :=
  CC.ofVV (by decide) rfl (Nat.le_of_ble_eq_true rfl) (b_X9_init (Kx.refl hP hr) h)
noncomputable def d_X9_bars (r0 : Nat) (x1 : Int32) (M : Mem) : Option (Int32 × Mem) :=
  okk (mK M r0 = 9) <|
  (mR M r0 10).bind fun r_1 =>
  okk (mK M r_1 = 21) <|
  okk (vp_in x1 (mN M r_1)) <|
  if (mI M r_1 x1.toNatClampNeg) < (2 : Int32) then (
    some ((0 : Int32), M))
  else (
    some ((1 : Int32), M))
theorem b_X9_bars {r0 : Nat} {x1 : Int32} {M z} (hP : Lay M) (h : d_X9_bars r0 x1 M = some z) : VV Lay k_X9_bars 0 [(0, .ref r0), (1, .int x1)] [] M z.2 (Qv (some (.int z.1)) z.2) xF := by
  unfold d_X9_bars at h
  refine Y_aload_n (j := 0) dX9_bars_0 rfl rfl ?_
  obtain ⟨hb1, h⟩ := okE h
  obtain ⟨r_1, er_1, h⟩ := bindE h
  refine Z_getr dX9_bars_1 w2_160 hb1 fr_9_10 er_1 ?_
  refine Y_iload_n (j := 1) dX9_bars_4 rfl rfl ?_
  obtain ⟨hb2, h⟩ := okE h
  obtain ⟨hb3, h⟩ := okE h
  refine Y_iald dX9_bars_5 hb2 rfl hb3 ?_
  refine Y_iconst (v := (2 : Int32)) dX9_bars_6 rfl ?_
  refine Y_icmp_lt (tgt := 14) dX9_bars_7 (by decide) (fun hc1 => ?_) (fun hc1 => ?_)
  · replace h := ifT hc1 h
    refine Y_iconst (v := (0 : Int32)) dX9_bars_14 rfl ?_
    cases h
    exact Y_iret rfl (nar_bo (by decide)) dX9_bars_15 hP ⟨rfl, rfl⟩
  · replace h := ifF hc1 h
    refine Y_iconst (v := (1 : Int32)) dX9_bars_10 rfl ?_
    refine Y_goto (tgt := 15) dX9_bars_11 (by decide) ?_
    cases h
    exact Y_iret rfl (nar_bo (by decide)) dX9_bars_15 hP ⟨rfl, rfl⟩
theorem v_X9_bars {r0 : Nat} {x1 : Int32} {M z} (hP : Lay M) (h : d_X9_bars r0 x1 M = some z) : CC Lay k_X9_bars [.ref r0, .int x1] M z.2 (Qv (some (.int z.1)) z.2) xF :=
  CC.ofVV (by decide) rfl (Nat.le_of_ble_eq_true rfl) (b_X9_bars hP h)
noncomputable def d_X9_breakOff (r0 : Nat) (x1 : Int32) (M : Mem) : Option (Unit × Mem) :=
  okk (mK M r0 = 9) <|
  (mR M r0 9).bind fun r_1 =>
  okk (mK M r_1 = 21) <|
  okk (vp_in x1 (mN M r_1)) <|
  bnd (sI M r_1 x1.toNatClampNeg (0 : Int32)) fun M1 =>
  okk (mK M1 r0 = 9) <|
  (mR M1 r0 10).bind fun r_2 =>
  okk (mK M1 r_2 = 21) <|
  okk (vp_in x1 (mN M1 r_2)) <|
  okk (mK M1 r_2 = 21) <|
  okk (vp_in x1 (mN M1 r_2)) <|
  bnd (sI M1 r_2 x1.toNatClampNeg ((mI M1 r_2 x1.toNatClampNeg) + (1 : Int32))) fun M2 =>
  some ((), M2)
theorem b_X9_breakOff {r0 : Nat} {x1 : Int32} {M z} (hP : Lay M) (h : d_X9_breakOff r0 x1 M = some z) : VV Lay k_X9_breakOff 0 [(0, .ref r0), (1, .int x1)] [] M z.2 (Qv (none) z.2) xF := by
  unfold d_X9_breakOff at h
  refine Y_aload_n (j := 0) dX9_breakOff_0 rfl rfl ?_
  obtain ⟨hb1, h⟩ := okE h
  obtain ⟨r_1, er_1, h⟩ := bindE h
  refine Z_getr dX9_breakOff_1 w2_158 hb1 fr_9_9 er_1 ?_
  refine Y_iload_n (j := 1) dX9_breakOff_4 rfl rfl ?_
  refine Y_iconst (v := (0 : Int32)) dX9_breakOff_5 rfl ?_
  obtain ⟨hb2, h⟩ := okE h
  obtain ⟨hb3, h⟩ := okE h
  refine Y_iast dX9_breakOff_6 hb2 rfl hb3 ?_
  obtain ⟨M1, eM1, h⟩ := bndE h
  refine VV.mem eM1 ?_
  have hP1 := hP.wI eM1
  refine Y_aload_n (j := 0) dX9_breakOff_7 rfl rfl ?_
  obtain ⟨hb4, h⟩ := okE h
  obtain ⟨r_2, er_2, h⟩ := bindE h
  refine Z_getr dX9_breakOff_8 w2_160 hb4 fr_9_10 er_2 ?_
  refine Y_iload_n (j := 1) dX9_breakOff_11 rfl rfl ?_
  refine Y_dup2 dX9_breakOff_12 rfl rfl ?_
  obtain ⟨hb5, h⟩ := okE h
  obtain ⟨hb6, h⟩ := okE h
  refine Y_iald dX9_breakOff_13 hb5 rfl hb6 ?_
  refine Y_iconst (v := (1 : Int32)) dX9_breakOff_14 rfl ?_
  refine Y_iadd dX9_breakOff_15 ?_
  obtain ⟨hb7, h⟩ := okE h
  obtain ⟨hb8, h⟩ := okE h
  refine Y_iast dX9_breakOff_16 hb7 rfl hb8 ?_
  obtain ⟨M2, eM2, h⟩ := bndE h
  refine VV.mem eM2 ?_
  have hP2 := hP1.wI eM2
  cases h
  exact Y_vret rfl dX9_breakOff_17 hP2 ⟨rfl, rfl⟩
theorem v_X9_breakOff {r0 : Nat} {x1 : Int32} {M z} (hP : Lay M) (h : d_X9_breakOff r0 x1 M = some z) : CC Lay k_X9_breakOff [.ref r0, .int x1] M z.2 (Qv (none) z.2) xF :=
  CC.ofVV (by decide) rfl (Nat.le_of_ble_eq_true rfl) (b_X9_breakOff hP h)
noncomputable def d_X10_init (r0 : Nat) (r1 : Nat) (r2 : Nat) (M : Mem) : Option (Unit × Mem) :=
  okk (mK M r0 = 10) <|
  bnd (sR M r0 0 (some r2)) fun M1 =>
  bnd (nx M1) fun r_1 => okk (r_1 < 2147483648) <|
  bnd (sN M1 r_1 1 4) fun M2 =>
  okk (r_1 ≤ nx M2) <| okk (r0 ≤ r_1) <|
  (d_X0_init r_1 M2).bind fun y1 =>
  okk (mK y1.2 r0 = 10) <|
  bnd (sR y1.2 r0 1 (some r_1)) fun M3 =>
  bnd (nx M3) fun r_2 => okk (r_2 < 2147483648) <|
  bnd (sN M3 r_2 3 3) fun M4 =>
  okk (r_2 ≤ nx M4) <| okk (r0 ≤ r_2) <|
  (d_X2_init r_2 M4).bind fun y2 =>
  okk (mK y2.2 r0 = 10) <|
  bnd (sR y2.2 r0 2 (some r_2)) fun M5 =>
  bnd (nx M5) fun r_3 => okk (r_3 < 2147483648) <|
  bnd (sN M5 r_3 6 16) fun M6 =>
  okk (r_3 ≤ nx M6) <| okk (r0 ≤ r_3) <|
  (d_X6_init r_3 M6).bind fun y3 =>
  okk (mK y3.2 r0 = 10) <|
  bnd (sR y3.2 r0 3 (some r_3)) fun M7 =>
  bnd (nx M7) fun r_4 => okk (r_4 < 2147483648) <|
  bnd (sN M7 r_4 9 17) fun M8 =>
  okk (mK M8 r0 = 10) <|
  (mR M8 r0 3).bind fun r_5 =>
  okk (r_4 ≤ nx M8) <| okk (r0 ≤ r_4) <|
  (d_X9_init r_4 r_5 (-1 : Int32) M8).bind fun y4 =>
  okk (mK y4.2 r0 = 10) <|
  bnd (sR y4.2 r0 9 (some r_4)) fun M9 =>
  bnd (nx M9) fun r_6 => okk (r_6 < 2147483648) <|
  bnd (sN M9 r_6 2 6) fun M10 =>
  okk (mK M10 r0 = 10) <|
  (mR M10 r0 2).bind fun r_7 =>
  okk (mK M10 r0 = 10) <|
  (mR M10 r0 9).bind fun r_8 =>
  okk (r_6 ≤ nx M10) <| okk (r0 ≤ r_6) <|
  (d_X1_init r_6 r1 r_7 r_8 M10).bind fun y5 =>
  okk (mK y5.2 r0 = 10) <|
  bnd (sR y5.2 r0 4 (some r_6)) fun M11 =>
  okk (mK M11 r0 = 10) <|
  bnd (sI M11 r0 5 (3 : Int32)) fun M12 =>
  okk (mK M12 r0 = 10) <|
  bnd (sI M12 r0 6 (2 : Int32)) fun M13 =>
  some ((), M13)
theorem b_X10_init {M0 : Mem} {r0 : Nat} {r1 : Nat} {r2 : Nat} {M z} (hP : (Kx r0 M0) M) (h : d_X10_init r0 r1 r2 M = some z) : VV (Kx r0 M0) k_X10_init 0 [(0, .ref r0), (1, .ref r1), (2, .ref r2)] [] M z.2 (Qv (none) z.2) xF := by
  unfold d_X10_init at h
  refine Y_aload_n (j := 0) dX10_init_0 rfl rfl ?_
  refine Y_oinit dX10_init_1 w1_237 ?_
  refine Y_aload_n (j := 0) dX10_init_4 rfl rfl ?_
  refine Y_aload_n (j := 2) dX10_init_5 rfl rfl ?_
  obtain ⟨hb1, h⟩ := okE h
  refine Z_putr dX10_init_6 w3_5 hb1 fr_10_0 (Or.inr ⟨rfl, rfl⟩) ?_
  obtain ⟨M1, eM1, h⟩ := bndE h
  refine VV.mem eM1 ?_
  have hP1 := hP.wR0 (by omega) eM1
  refine Y_aload_n (j := 0) dX10_init_9 rfl rfl ?_
  obtain ⟨r_1, er_1, h⟩ := bndE h
  obtain ⟨hb2, h⟩ := okE h
  refine Y_new (a := r_1) (t := 1) dX10_init_10 (by decide) (by decide) w1_238 w1_239 w1_8 (hP1.free er_1) hb2 ?_
  obtain ⟨M2, eM2, h⟩ := bndE h
  refine VV.mem eM2 ?_
  have hP2 := hP1.wN er_1 (by decide) eM2
  refine Y_dup dX10_init_13 rfl ?_
  obtain ⟨hb3, h⟩ := okE h
  obtain ⟨hb4, h⟩ := okE h
  obtain ⟨y1, qy1, h⟩ := bindE h
  have cy1 := v_X0_init hP2.fsh hb3 qy1
  refine C_I0o dX10_init_14 w2_0 i_X0_init (Nat.le_of_ble_eq_true rfl) (Nat.le_of_ble_eq_true rfl) (Nat.le_of_ble_eq_true rfl) (cy1) ?_
  have hPy1 := hP2.ini cy1.1.1 hb4
  obtain ⟨hb5, h⟩ := okE h
  refine Z_putr dX10_init_17 w3_6 hb5 fr_10_1 (Or.inr ⟨rfl, rfl⟩) ?_
  obtain ⟨M3, eM3, h⟩ := bndE h
  refine VV.mem eM3 ?_
  have hP3 := hPy1.wR0 (by omega) eM3
  refine Y_aload_n (j := 0) dX10_init_20 rfl rfl ?_
  obtain ⟨r_2, er_2, h⟩ := bndE h
  obtain ⟨hb6, h⟩ := okE h
  refine Y_new (a := r_2) (t := 3) dX10_init_21 (by decide) (by decide) w2_19 w2_20 w1_9 (hP3.free er_2) hb6 ?_
  obtain ⟨M4, eM4, h⟩ := bndE h
  refine VV.mem eM4 ?_
  have hP4 := hP3.wN er_2 (by decide) eM4
  refine Y_dup dX10_init_24 rfl ?_
  obtain ⟨hb7, h⟩ := okE h
  obtain ⟨hb8, h⟩ := okE h
  obtain ⟨y2, qy2, h⟩ := bindE h
  have cy2 := v_X2_init hP4.fsh hb7 qy2
  refine C_I0o dX10_init_25 w2_21 i_X2_init (Nat.le_of_ble_eq_true rfl) (Nat.le_of_ble_eq_true rfl) (Nat.le_of_ble_eq_true rfl) (cy2) ?_
  have hPy2 := hP4.ini cy2.1.1 hb8
  obtain ⟨hb9, h⟩ := okE h
  refine Z_putr dX10_init_28 w3_8 hb9 fr_10_2 (Or.inr ⟨rfl, rfl⟩) ?_
  obtain ⟨M5, eM5, h⟩ := bndE h
  refine VV.mem eM5 ?_
  have hP5 := hPy2.wR0 (by omega) eM5
  refine Y_aload_n (j := 0) dX10_init_31 rfl rfl ?_
  obtain ⟨r_3, er_3, h⟩ := bndE h
  obtain ⟨hb10, h⟩ := okE h
  refine Y_new (a := r_3) (t := 6) dX10_init_32 (by decide) (by decide) w2_41 w2_42 w1_10 (hP5.free er_3) hb10 ?_
  obtain ⟨M6, eM6, h⟩ := bndE h
  refine VV.mem eM6 ?_
  have hP6 := hP5.wN er_3 (by decide) eM6
  refine Y_dup dX10_init_35 rfl ?_
  obtain ⟨hb11, h⟩ := okE h
  obtain ⟨hb12, h⟩ := okE h
  obtain ⟨y3, qy3, h⟩ := bindE h
  have cy3 := v_X6_init hP6.fsh hb11 qy3
  refine C_I0o dX10_init_36 w2_43 i_X6_init (Nat.le_of_ble_eq_true rfl) (Nat.le_of_ble_eq_true rfl) (Nat.le_of_ble_eq_true rfl) (cy3) ?_
  have hPy3 := hP6.ini cy3.1.1 hb12
  obtain ⟨hb13, h⟩ := okE h
  refine Z_putr dX10_init_39 w3_10 hb13 fr_10_3 (Or.inr ⟨rfl, rfl⟩) ?_
  obtain ⟨M7, eM7, h⟩ := bndE h
  refine VV.mem eM7 ?_
  have hP7 := hPy3.wR0 (by omega) eM7
  refine Y_aload_n (j := 0) dX10_init_42 rfl rfl ?_
  obtain ⟨r_4, er_4, h⟩ := bndE h
  obtain ⟨hb14, h⟩ := okE h
  refine Y_new (a := r_4) (t := 9) dX10_init_43 (by decide) (by decide) w2_111 w2_112 w1_11 (hP7.free er_4) hb14 ?_
  obtain ⟨M8, eM8, h⟩ := bndE h
  refine VV.mem eM8 ?_
  have hP8 := hP7.wN er_4 (by decide) eM8
  refine Y_dup dX10_init_46 rfl ?_
  refine Y_aload_n (j := 0) dX10_init_47 rfl rfl ?_
  obtain ⟨hb15, h⟩ := okE h
  obtain ⟨r_5, er_5, h⟩ := bindE h
  refine Z_getr dX10_init_48 w3_10 hb15 fr_10_3 er_5 ?_
  refine Y_iconst (v := (-1 : Int32)) dX10_init_51 rfl ?_
  obtain ⟨hb16, h⟩ := okE h
  obtain ⟨hb17, h⟩ := okE h
  obtain ⟨y4, qy4, h⟩ := bindE h
  have cy4 := v_X9_init hP8.fsh hb16 qy4
  refine C_I2o dX10_init_52 w2_113 i_X9_init (Nat.le_of_ble_eq_true rfl) (Nat.le_of_ble_eq_true rfl) (Nat.le_of_ble_eq_true rfl) (cy4) ?_
  have hPy4 := hP8.ini cy4.1.1 hb17
  obtain ⟨hb18, h⟩ := okE h
  refine Z_putr dX10_init_55 w3_21 hb18 fr_10_9 (Or.inl rfl) ?_
  obtain ⟨M9, eM9, h⟩ := bndE h
  refine VV.mem eM9 ?_
  have hP9 := hPy4.wR0 (by omega) eM9
  refine Y_aload_n (j := 0) dX10_init_58 rfl rfl ?_
  obtain ⟨r_6, er_6, h⟩ := bndE h
  obtain ⟨hb19, h⟩ := okE h
  refine Y_new (a := r_6) (t := 2) dX10_init_59 (by decide) (by decide) w2_213 w2_214 w1_14 (hP9.free er_6) hb19 ?_
  obtain ⟨M10, eM10, h⟩ := bndE h
  refine VV.mem eM10 ?_
  have hP10 := hP9.wN er_6 (by decide) eM10
  refine Y_dup dX10_init_62 rfl ?_
  refine Y_aload_n (j := 1) dX10_init_63 rfl rfl ?_
  refine Y_aload_n (j := 0) dX10_init_64 rfl rfl ?_
  obtain ⟨hb20, h⟩ := okE h
  obtain ⟨r_7, er_7, h⟩ := bindE h
  refine Z_getr dX10_init_65 w3_8 hb20 fr_10_2 er_7 ?_
  refine Y_aload_n (j := 0) dX10_init_68 rfl rfl ?_
  obtain ⟨hb21, h⟩ := okE h
  obtain ⟨r_8, er_8, h⟩ := bindE h
  refine Z_getr dX10_init_69 w3_21 hb21 fr_10_9 er_8 ?_
  obtain ⟨hb22, h⟩ := okE h
  obtain ⟨hb23, h⟩ := okE h
  obtain ⟨y5, qy5, h⟩ := bindE h
  have cy5 := v_X1_init hP10.fsh hb22 qy5
  refine C_I3o dX10_init_72 w2_215 i_X1_init (Nat.le_of_ble_eq_true rfl) (Nat.le_of_ble_eq_true rfl) (Nat.le_of_ble_eq_true rfl) (cy5) ?_
  have hPy5 := hP10.ini cy5.1.1 hb23
  obtain ⟨hb24, h⟩ := okE h
  refine Z_putr dX10_init_75 w3_11 hb24 fr_10_4 (Or.inr ⟨rfl, rfl⟩) ?_
  obtain ⟨M11, eM11, h⟩ := bndE h
  refine VV.mem eM11 ?_
  have hP11 := hPy5.wR0 (by omega) eM11
  refine Y_aload_n (j := 0) dX10_init_78 rfl rfl ?_
  refine Y_iconst (v := (3 : Int32)) dX10_init_79 rfl ?_
  obtain ⟨hb25, h⟩ := okE h
  refine Z_puti dX10_init_80 w3_13 hb25 fi_10_5 (Or.inl rfl) rfl ?_
  obtain ⟨M12, eM12, h⟩ := bndE h
  refine VV.mem eM12 ?_
  have hP12 := hP11.wI eM12
  refine Y_aload_n (j := 0) dX10_init_83 rfl rfl ?_
  refine Y_iconst (v := (2 : Int32)) dX10_init_84 rfl ?_
  obtain ⟨hb26, h⟩ := okE h
  refine Z_puti dX10_init_85 w3_15 hb26 fi_10_6 (Or.inl rfl) rfl ?_
  obtain ⟨M13, eM13, h⟩ := bndE h
  refine VV.mem eM13 ?_
  have hP13 := hP12.wI eM13
  cases h
  exact Y_vret rfl dX10_init_88 hP13 ⟨rfl, rfl⟩
theorem v_X10_init {r0 : Nat} {r1 : Nat} {r2 : Nat} {M z} (hP : Fsh M) (hr : r0 ≤ nx M) (h : d_X10_init r0 r1 r2 M = some z) : CC (Kx r0 M) k_X10_init [.ref r0, .ref r1, .ref r2] M z.2 (Qv (none) z.2) xF :=
  CC.ofVV (by decide) rfl (Nat.le_of_ble_eq_true rfl) (b_X10_init (Kx.refl hP hr) h)
noncomputable def d_X10_begin (M : Mem) : Option (Unit × Mem) :=
  bnd (sI M 38 7 (0 : Int32)) fun M1 =>
  bnd (sI M1 38 8 (0 : Int32)) fun M2 =>
  some ((), M2)
theorem b_X10_begin {M z} (hP : Lay M) (h : d_X10_begin M = some z) : VV Lay k_X10_begin 0 [(0, .ref 38)] [] M z.2 (Qv (none) z.2) xF := by
  unfold d_X10_begin at h
  refine Y_aload_n (j := 0) dX10_begin_0 rfl rfl ?_
  refine Y_iconst (v := (0 : Int32)) dX10_begin_1 rfl ?_
  refine Z_puti dX10_begin_2 w3_17 (lk_38 hP) fi_10_7 (Or.inl rfl) rfl ?_
  obtain ⟨M1, eM1, h⟩ := bndE h
  refine VV.mem eM1 ?_
  have hP1 := hP.wI eM1
  refine Y_aload_n (j := 0) dX10_begin_5 rfl rfl ?_
  refine Y_iconst (v := (0 : Int32)) dX10_begin_6 rfl ?_
  refine Z_putz dX10_begin_7 w3_19 (lk_38 hP1) fi_10_8 (Or.inl rfl) rfl (by decide) ?_
  obtain ⟨M2, eM2, h⟩ := bndE h
  refine VV.mem eM2 ?_
  have hP2 := hP1.wI eM2
  cases h
  exact Y_vret rfl dX10_begin_10 hP2 ⟨rfl, rfl⟩
theorem v_X10_begin {M z} (hP : Lay M) (h : d_X10_begin M = some z) : CC Lay k_X10_begin [.ref 38] M z.2 (Qv (none) z.2) xF :=
  CC.ofVV (by decide) rfl (Nat.le_of_ble_eq_true rfl) (b_X10_begin hP h)
noncomputable def d_X10_follow (x1 : Int32) (M : Mem) : Option (Unit × Mem) :=
  bnd (sI M 38 10 x1) fun M1 =>
  okk (vp_in x1 20) <|
  (mR M1 68 x1.toNatClampNeg).bind fun r_1 =>
  bnd (sR M1 38 9 (some r_1)) fun M2 =>
  (mR M2 38 9).bind fun r_2 =>
  okk (mK M2 r_2 = 9) <|
  okk (mK M2 r_2 = 9) <|
  bnd (sI M2 r_2 15 ((mI M2 r_2 15) + (1 : Int32))) fun M3 =>
  bnd (sI M3 38 11 (0 : Int32)) fun M4 =>
  bnd (sI M4 38 8 (1 : Int32)) fun M5 =>
  some ((), M5)
theorem b_X10_follow {x1 : Int32} {M z} (hP : Lay M) (h : d_X10_follow x1 M = some z) : VV Lay k_X10_follow 0 [(0, .ref 38), (1, .int x1)] [] M z.2 (Qv (none) z.2) xF := by
  unfold d_X10_follow at h
  refine Y_aload_n (j := 0) dX10_follow_0 rfl rfl ?_
  refine Y_iload_n (j := 1) dX10_follow_1 rfl rfl ?_
  refine Z_puti dX10_follow_2 w3_22 (lk_38 hP) fi_10_10 (Or.inl rfl) rfl ?_
  obtain ⟨M1, eM1, h⟩ := bndE h
  refine VV.mem eM1 ?_
  have hP1 := hP.wI eM1
  refine Y_aload_n (j := 0) dX10_follow_5 rfl rfl ?_
  refine Y_aload_n (j := 0) dX10_follow_6 rfl rfl ?_
  refine Z_getr dX10_follow_7 w3_11 (lk_38 hP1) fr_10_4 (lr_38_4 hP1) ?_
  refine Z_getr dX10_follow_10 w2_224 (lk_67 hP1) fr_2_2 (lr_67_2 hP1) ?_
  refine Y_iload_n (j := 1) dX10_follow_13 rfl rfl ?_
  obtain ⟨hb1, h⟩ := okE h
  obtain ⟨r_1, er_1, h⟩ := bindE h
  refine Y_aald dX10_follow_14 (lk_68 hP1) (ln_68 hP1) hb1 er_1 ?_
  refine Z_putr dX10_follow_15 w3_21 (lk_38 hP1) fr_10_9 (Or.inl rfl) ?_
  obtain ⟨M2, eM2, h⟩ := bndE h
  refine VV.mem eM2 ?_
  have hP2 := hP1.wRD (by decide +kernel) eM2
  refine Y_aload_n (j := 0) dX10_follow_18 rfl rfl ?_
  obtain ⟨r_2, er_2, h⟩ := bindE h
  refine Z_getr dX10_follow_19 w3_21 (lk_38 hP2) fr_10_9 er_2 ?_
  refine Y_dup dX10_follow_22 rfl ?_
  obtain ⟨hb2, h⟩ := okE h
  refine Z_geti dX10_follow_23 w2_174 hb2 fi_9_15 ?_
  refine Y_iconst (v := (1 : Int32)) dX10_follow_26 rfl ?_
  refine Y_iadd dX10_follow_27 ?_
  obtain ⟨hb3, h⟩ := okE h
  refine Z_puti dX10_follow_28 w2_174 hb3 fi_9_15 (Or.inl rfl) rfl ?_
  obtain ⟨M3, eM3, h⟩ := bndE h
  refine VV.mem eM3 ?_
  have hP3 := hP2.wI eM3
  refine Y_aload_n (j := 0) dX10_follow_31 rfl rfl ?_
  refine Y_iconst (v := (0 : Int32)) dX10_follow_32 rfl ?_
  refine Z_puti dX10_follow_33 w3_23 (lk_38 hP3) fi_10_11 (Or.inl rfl) rfl ?_
  obtain ⟨M4, eM4, h⟩ := bndE h
  refine VV.mem eM4 ?_
  have hP4 := hP3.wI eM4
  refine Y_aload_n (j := 0) dX10_follow_36 rfl rfl ?_
  refine Y_iconst (v := (1 : Int32)) dX10_follow_37 rfl ?_
  refine Z_putz dX10_follow_38 w3_19 (lk_38 hP4) fi_10_8 (Or.inl rfl) rfl (by decide) ?_
  obtain ⟨M5, eM5, h⟩ := bndE h
  refine VV.mem eM5 ?_
  have hP5 := hP4.wI eM5
  cases h
  exact Y_vret rfl dX10_follow_41 hP5 ⟨rfl, rfl⟩
theorem v_X10_follow {x1 : Int32} {M z} (hP : Lay M) (h : d_X10_follow x1 M = some z) : CC Lay k_X10_follow [.ref 38, .int x1] M z.2 (Qv (none) z.2) xF :=
  CC.ofVV (by decide) rfl (Nat.le_of_ble_eq_true rfl) (b_X10_follow hP h)
noncomputable def d_X10_exitAt (x1 : Int32) (M : Mem) : Option (Unit × Mem) :=
  (mR M 38 9).bind fun r_1 =>
  okk (mK M r_1 = 9) <|
  (mR M r_1 8).bind fun r_2 =>
  okk (mK M r_2 = 21) <|
  okk (vp_in x1 (mN M r_2)) <|
  okk (mK M r_2 = 21) <|
  okk (vp_in x1 (mN M r_2)) <|
  bnd (sI M r_2 x1.toNatClampNeg ((mI M r_2 x1.toNatClampNeg) + (1 : Int32))) fun M1 =>
  (mR M1 38 9).bind fun r_3 =>
  okk (mK M1 r_3 = 9) <|
  (mR M1 r_3 11).bind fun r_4 =>
  okk (mK M1 r_4 = 21) <|
  okk (vp_in x1 (mN M1 r_4)) <|
  if (mI M1 r_4 x1.toNatClampNeg) = (-1 : Int32) then (
    (mR M1 38 9).bind fun r_5 =>
    okk (mK M1 r_5 = 9) <|
    (mR M1 r_5 9).bind fun r_6 =>
    okk (mK M1 r_6 = 21) <|
    okk (vp_in x1 (mN M1 r_6)) <|
    okk (mK M1 r_6 = 21) <|
    okk (vp_in x1 (mN M1 r_6)) <|
    bnd (sI M1 r_6 x1.toNatClampNeg ((mI M1 r_6 x1.toNatClampNeg) + (1 : Int32))) fun M2 =>
    bnd (sI M2 38 8 (0 : Int32)) fun M3 =>
    (mR M3 38 9).bind fun r_7 =>
    okk (mK M3 r_7 = 9) <|
    (mR M3 r_7 9).bind fun r_8 =>
    okk (mK M3 r_8 = 21) <|
    okk (vp_in x1 (mN M3 r_8)) <|
    if (mI M3 r_8 x1.toNatClampNeg) < (mI M3 38 6) then (
      some ((), M3))
    else (
      (mR M3 38 9).bind fun r_9 =>
      okk (mK M3 r_9 = 9) <|
      (d_X9_bars r_9 x1 M3).bind fun y1 =>
      if y1.1 = 0 then (
        (mR y1.2 38 9).bind fun r_10 =>
        (d_X6_beginSide r_10 (mI y1.2 38 10) x1 (mI y1.2 38 12) y1.2).bind fun y2 =>
        some ((), y2.2))
      else (
        some ((), y1.2))))
  else (
    (mR M1 38 9).bind fun r_11 =>
    okk (mK M1 r_11 = 9) <|
    (mR M1 r_11 11).bind fun r_12 =>
    okk (mK M1 r_12 = 21) <|
    okk (vp_in x1 (mN M1 r_12)) <|
    (d_X10_follow (mI M1 r_12 x1.toNatClampNeg) M1).bind fun y3 =>
    some ((), y3.2))
theorem b_X10_exitAt {x1 : Int32} {M z} (hP : Lay M) (h : d_X10_exitAt x1 M = some z) : VV Lay k_X10_exitAt 0 [(0, .ref 38), (1, .int x1)] [] M z.2 (Qv (none) z.2) xF := by
  unfold d_X10_exitAt at h
  refine Y_aload_n (j := 0) dX10_exitAt_0 rfl rfl ?_
  obtain ⟨r_1, er_1, h⟩ := bindE h
  refine Z_getr dX10_exitAt_1 w3_21 (lk_38 hP) fr_10_9 er_1 ?_
  obtain ⟨hb1, h⟩ := okE h
  obtain ⟨r_2, er_2, h⟩ := bindE h
  refine Z_getr dX10_exitAt_4 w2_156 hb1 fr_9_8 er_2 ?_
  refine Y_iload_n (j := 1) dX10_exitAt_7 rfl rfl ?_
  refine Y_dup2 dX10_exitAt_8 rfl rfl ?_
  obtain ⟨hb2, h⟩ := okE h
  obtain ⟨hb3, h⟩ := okE h
  refine Y_iald dX10_exitAt_9 hb2 rfl hb3 ?_
  refine Y_iconst (v := (1 : Int32)) dX10_exitAt_10 rfl ?_
  refine Y_iadd dX10_exitAt_11 ?_
  obtain ⟨hb4, h⟩ := okE h
  obtain ⟨hb5, h⟩ := okE h
  refine Y_iast dX10_exitAt_12 hb4 rfl hb5 ?_
  obtain ⟨M1, eM1, h⟩ := bndE h
  refine VV.mem eM1 ?_
  have hP1 := hP.wI eM1
  refine Y_aload_n (j := 0) dX10_exitAt_13 rfl rfl ?_
  obtain ⟨r_3, er_3, h⟩ := bindE h
  refine Z_getr dX10_exitAt_14 w3_21 (lk_38 hP1) fr_10_9 er_3 ?_
  obtain ⟨hb6, h⟩ := okE h
  obtain ⟨r_4, er_4, h⟩ := bindE h
  refine Z_getr dX10_exitAt_17 w2_162 hb6 fr_9_11 er_4 ?_
  refine Y_iload_n (j := 1) dX10_exitAt_20 rfl rfl ?_
  obtain ⟨hb7, h⟩ := okE h
  obtain ⟨hb8, h⟩ := okE h
  refine Y_iald dX10_exitAt_21 hb7 rfl hb8 ?_
  refine Y_iconst (v := (-1 : Int32)) dX10_exitAt_22 rfl ?_
  refine Y_icmp_eq (tgt := 40) dX10_exitAt_23 (by decide) (fun hc1 => ?_) (fun hc1 => ?_)
  · replace h := ifT hc1 h
    refine Y_aload_n (j := 0) dX10_exitAt_40 rfl rfl ?_
    obtain ⟨r_5, er_5, h⟩ := bindE h
    refine Z_getr dX10_exitAt_41 w3_21 (lk_38 hP1) fr_10_9 er_5 ?_
    obtain ⟨hb9, h⟩ := okE h
    obtain ⟨r_6, er_6, h⟩ := bindE h
    refine Z_getr dX10_exitAt_44 w2_159 hb9 fr_9_9 er_6 ?_
    refine Y_iload_n (j := 1) dX10_exitAt_47 rfl rfl ?_
    refine Y_dup2 dX10_exitAt_48 rfl rfl ?_
    obtain ⟨hb10, h⟩ := okE h
    obtain ⟨hb11, h⟩ := okE h
    refine Y_iald dX10_exitAt_49 hb10 rfl hb11 ?_
    refine Y_iconst (v := (1 : Int32)) dX10_exitAt_50 rfl ?_
    refine Y_iadd dX10_exitAt_51 ?_
    obtain ⟨hb12, h⟩ := okE h
    obtain ⟨hb13, h⟩ := okE h
    refine Y_iast dX10_exitAt_52 hb12 rfl hb13 ?_
    obtain ⟨M2, eM2, h⟩ := bndE h
    refine VV.mem eM2 ?_
    have hP2 := hP1.wI eM2
    refine Y_aload_n (j := 0) dX10_exitAt_53 rfl rfl ?_
    refine Y_iconst (v := (0 : Int32)) dX10_exitAt_54 rfl ?_
    refine Z_putz dX10_exitAt_55 w3_19 (lk_38 hP2) fi_10_8 (Or.inl rfl) rfl (by decide) ?_
    obtain ⟨M3, eM3, h⟩ := bndE h
    refine VV.mem eM3 ?_
    have hP3 := hP2.wI eM3
    refine Y_aload_n (j := 0) dX10_exitAt_58 rfl rfl ?_
    obtain ⟨r_7, er_7, h⟩ := bindE h
    refine Z_getr dX10_exitAt_59 w3_21 (lk_38 hP3) fr_10_9 er_7 ?_
    obtain ⟨hb14, h⟩ := okE h
    obtain ⟨r_8, er_8, h⟩ := bindE h
    refine Z_getr dX10_exitAt_62 w2_159 hb14 fr_9_9 er_8 ?_
    refine Y_iload_n (j := 1) dX10_exitAt_65 rfl rfl ?_
    obtain ⟨hb15, h⟩ := okE h
    obtain ⟨hb16, h⟩ := okE h
    refine Y_iald dX10_exitAt_66 hb15 rfl hb16 ?_
    refine Y_aload_n (j := 0) dX10_exitAt_67 rfl rfl ?_
    refine Z_geti dX10_exitAt_68 w3_15 (lk_38 hP3) fi_10_6 ?_
    refine Y_icmp_lt (tgt := 109) dX10_exitAt_71 (by decide) (fun hc2 => ?_) (fun hc2 => ?_)
    · replace h := ifT hc2 h
      cases h
      exact Y_vret rfl dX10_exitAt_109 hP3 ⟨rfl, rfl⟩
    · replace h := ifF hc2 h
      refine Y_aload_n (j := 0) dX10_exitAt_74 rfl rfl ?_
      obtain ⟨r_9, er_9, h⟩ := bindE h
      refine Z_getr dX10_exitAt_75 w3_21 (lk_38 hP3) fr_10_9 er_9 ?_
      refine Y_iload_n (j := 1) dX10_exitAt_78 rfl rfl ?_
      obtain ⟨cy1t, h⟩ := okE h
      obtain ⟨y1, qy1, h⟩ := bindE h
      have cy1 := v_X9_bars hP3 qy1
      refine C_V1r dX10_exitAt_79 w6_81 i_X9_bars cy1t ⟨Nat.le_of_ble_eq_true rfl, Nat.le_of_ble_eq_true rfl⟩ rfl (Nat.le_of_ble_eq_true rfl) (Nat.le_of_ble_eq_true rfl) (Nat.le_of_ble_eq_true rfl) (cy1) ?_
      have hPy1 := cy1.1.1
      refine Y_if_ne (tgt := 109) dX10_exitAt_82 (by decide) (fun hc3 => ?_) (fun hc3 => ?_)
      · replace h := ifF hc3 h
        cases h
        exact Y_vret rfl dX10_exitAt_109 hPy1 ⟨rfl, rfl⟩
      · replace h := ifT hc3 h
        refine Y_aload_n (j := 0) dX10_exitAt_85 rfl rfl ?_
        refine Z_getr dX10_exitAt_86 w3_10 (lk_38 hPy1) fr_10_3 (lr_38_3 hPy1) ?_
        refine Y_aload_n (j := 0) dX10_exitAt_89 rfl rfl ?_
        refine Z_getr dX10_exitAt_90 w3_5 (lk_38 hPy1) fr_10_0 (lr_38_0 hPy1) ?_
        refine Y_aload_n (j := 0) dX10_exitAt_93 rfl rfl ?_
        obtain ⟨r_10, er_10, h⟩ := bindE h
        refine Z_getr dX10_exitAt_94 w3_21 (lk_38 hPy1) fr_10_9 er_10 ?_
        refine Y_aload_n (j := 0) dX10_exitAt_97 rfl rfl ?_
        refine Z_geti dX10_exitAt_98 w3_22 (lk_38 hPy1) fi_10_10 ?_
        refine Y_iload_n (j := 1) dX10_exitAt_101 rfl rfl ?_
        refine Y_aload_n (j := 0) dX10_exitAt_102 rfl rfl ?_
        refine Z_geti dX10_exitAt_103 w3_24 (lk_38 hPy1) fi_10_12 ?_
        obtain ⟨y2, qy2, h⟩ := bindE h
        have cy2 := v_X6_beginSide hPy1 qy2
        refine C_V5o dX10_exitAt_106 w6_85 i_X6_beginSide (lk_48 hPy1) ⟨Nat.le_of_ble_eq_true rfl, Nat.le_of_ble_eq_true rfl⟩ rfl (Nat.le_of_ble_eq_true rfl) (Nat.le_of_ble_eq_true rfl) (Nat.le_of_ble_eq_true rfl) (cy2) ?_
        have hPy2 := cy2.1.1
        cases h
        exact Y_vret rfl dX10_exitAt_109 hPy2 ⟨rfl, rfl⟩
  · replace h := ifF hc1 h
    refine Y_aload_n (j := 0) dX10_exitAt_26 rfl rfl ?_
    refine Y_aload_n (j := 0) dX10_exitAt_27 rfl rfl ?_
    obtain ⟨r_11, er_11, h⟩ := bindE h
    refine Z_getr dX10_exitAt_28 w3_21 (lk_38 hP1) fr_10_9 er_11 ?_
    obtain ⟨hb17, h⟩ := okE h
    obtain ⟨r_12, er_12, h⟩ := bindE h
    refine Z_getr dX10_exitAt_31 w2_162 hb17 fr_9_11 er_12 ?_
    refine Y_iload_n (j := 1) dX10_exitAt_34 rfl rfl ?_
    obtain ⟨hb18, h⟩ := okE h
    obtain ⟨hb19, h⟩ := okE h
    refine Y_iald dX10_exitAt_35 hb18 rfl hb19 ?_
    obtain ⟨y3, qy3, h⟩ := bindE h
    have cy3 := v_X10_follow hP1 qy3
    refine C_V1o dX10_exitAt_36 w6_77 i_X10_follow (lk_38 hP1) ⟨Nat.le_of_ble_eq_true rfl, Nat.le_of_ble_eq_true rfl⟩ rfl (Nat.le_of_ble_eq_true rfl) (Nat.le_of_ble_eq_true rfl) (Nat.le_of_ble_eq_true rfl) (cy3) ?_
    have hPy3 := cy3.1.1
    cases h
    exact Y_vret rfl dX10_exitAt_39 hPy3 ⟨rfl, rfl⟩
theorem v_X10_exitAt {x1 : Int32} {M z} (hP : Lay M) (h : d_X10_exitAt x1 M = some z) : CC Lay k_X10_exitAt [.ref 38, .int x1] M z.2 (Qv (none) z.2) xF :=
  CC.ofVV (by decide) rfl (Nat.le_of_ble_eq_true rfl) (b_X10_exitAt hP h)
noncomputable def d_X10_enter (x1 : Int32) (M : Mem) : Option (Unit × Mem) :=
  okk (vp_in x1 20) <|
  (mR M 68 x1.toNatClampNeg).bind fun r_1 =>
  bnd (sI M 67 5 ((mI M 67 5) + (1 : Int32))) fun M1 =>
  okk (mK M1 r_1 = 9) <|
  bnd (sI M1 r_1 16 (mI M1 67 5)) fun M2 =>
  bnd (sI M2 38 12 (mI M2 18 9)) fun M3 =>
  (d_X10_follow x1 M3).bind fun y1 =>
  some ((), y1.2)
theorem b_X10_enter {x1 : Int32} {M z} (hP : Lay M) (h : d_X10_enter x1 M = some z) : VV Lay k_X10_enter 0 [(0, .ref 38), (1, .int x1)] [] M z.2 (Qv (none) z.2) xF := by
  unfold d_X10_enter at h
  refine Y_aload_n (j := 0) dX10_enter_0 rfl rfl ?_
  refine Z_getr dX10_enter_1 w3_11 (lk_38 hP) fr_10_4 (lr_38_4 hP) ?_
  refine Z_getr dX10_enter_4 w2_224 (lk_67 hP) fr_2_2 (lr_67_2 hP) ?_
  refine Y_iload_n (j := 1) dX10_enter_7 rfl rfl ?_
  obtain ⟨hb1, h⟩ := okE h
  obtain ⟨r_1, er_1, h⟩ := bindE h
  refine Y_aald dX10_enter_8 (lk_68 hP) (ln_68 hP) hb1 er_1 ?_
  refine Y_astore_n (lv1 := [(2, .ref r_1), (0, .ref 38), (1, .int x1)]) dX10_enter_9 rfl (by decide) rfl ?_
  refine Y_aload_n (j := 1) dX10_enter_10 rfl rfl ?_
  refine Z_getr dX10_enter_11 w3_11 (lk_38 hP) fr_10_4 (lr_38_4 hP) ?_
  refine Y_dup dX10_enter_14 rfl ?_
  refine Z_geti dX10_enter_15 w2_231 (lk_67 hP) fi_2_5 ?_
  refine Y_iconst (v := (1 : Int32)) dX10_enter_18 rfl ?_
  refine Y_iadd dX10_enter_19 ?_
  refine Z_puti dX10_enter_20 w2_231 (lk_67 hP) fi_2_5 (Or.inl rfl) rfl ?_
  obtain ⟨M1, eM1, h⟩ := bndE h
  refine VV.mem eM1 ?_
  have hP1 := hP.wI eM1
  refine Y_aload_n (j := 0) dX10_enter_23 rfl rfl ?_
  refine Y_aload_n (j := 1) dX10_enter_24 rfl rfl ?_
  refine Z_getr dX10_enter_25 w3_11 (lk_38 hP1) fr_10_4 (lr_38_4 hP1) ?_
  refine Z_geti dX10_enter_28 w2_231 (lk_67 hP1) fi_2_5 ?_
  obtain ⟨hb2, h⟩ := okE h
  refine Z_puti dX10_enter_31 w2_176 hb2 fi_9_16 (Or.inl rfl) rfl ?_
  obtain ⟨M2, eM2, h⟩ := bndE h
  refine VV.mem eM2 ?_
  have hP2 := hP1.wI eM2
  refine Y_aload_n (j := 1) dX10_enter_34 rfl rfl ?_
  refine Y_aload_n (j := 1) dX10_enter_35 rfl rfl ?_
  refine Z_getr dX10_enter_36 w3_5 (lk_38 hP2) fr_10_0 (lr_38_0 hP2) ?_
  refine Z_geti dX10_enter_39 w1_186 (lk_18 hP2) fi_4_9 ?_
  refine Z_puti dX10_enter_42 w3_24 (lk_38 hP2) fi_10_12 (Or.inl rfl) rfl ?_
  obtain ⟨M3, eM3, h⟩ := bndE h
  refine VV.mem eM3 ?_
  have hP3 := hP2.wI eM3
  refine Y_aload_n (j := 1) dX10_enter_45 rfl rfl ?_
  refine Y_iload_n (j := 2) dX10_enter_46 rfl rfl ?_
  obtain ⟨y1, qy1, h⟩ := bindE h
  have cy1 := v_X10_follow hP3 qy1
  refine C_V1o dX10_enter_47 w6_77 i_X10_follow (lk_38 hP3) ⟨Nat.le_of_ble_eq_true rfl, Nat.le_of_ble_eq_true rfl⟩ rfl (Nat.le_of_ble_eq_true rfl) (Nat.le_of_ble_eq_true rfl) (Nat.le_of_ble_eq_true rfl) (cy1) ?_
  have hPy1 := cy1.1.1
  cases h
  exact Y_vret rfl dX10_enter_50 hPy1 ⟨rfl, rfl⟩
theorem v_X10_enter {x1 : Int32} {M z} (hP : Lay M) (h : d_X10_enter x1 M = some z) : CC Lay k_X10_enter [.ref 38, .int x1] M z.2 (Qv (none) z.2) xF :=
  CC.ofVV (by decide) rfl (Nat.le_of_ble_eq_true rfl) (b_X10_enter hP h)
noncomputable def d_X10_turnInTrace_41b (k41 : (Int32) → Mem → Option (Unit × Mem)) (x1 : Int32) (M : Mem) : Option (Unit × Mem) :=
  (mR M 38 9).bind fun r_1 =>
  okk (mK M r_1 = 9) <|
  (mR M r_1 3).bind fun r_2 =>
  okk (mK M r_2 = 21) <|
  okk (vp_in ((mI M 38 11) + (1 : Int32)) (mN M r_2)) <|
  if (mI M r_2 ((mI M 38 11) + (1 : Int32)).toNatClampNeg) ≤ x1 then (
    (d_X3_execute 18 M).bind fun y1 =>
    bnd (sI y1.2 38 7 ((mI y1.2 38 7) + (1 : Int32))) fun M1 =>
    bnd (sI M1 38 11 ((mI M1 38 11) + (1 : Int32))) fun M2 =>
    (mR M2 38 9).bind fun r_3 =>
    okk (mK M2 r_3 = 9) <|
    if (mI M2 38 11) < (mI M2 r_3 0) then (
      some ((), M2))
    else (
      (mR M2 38 9).bind fun r_4 =>
      okk (mK M2 r_4 = 9) <|
      (d_X10_enter (mI M2 r_4 12) M2).bind fun y2 =>
      some ((), y2.2)))
  else (
    (mR M 38 9).bind fun r_5 =>
    okk (mK M r_5 = 9) <|
    (mR M r_5 4).bind fun r_6 =>
    okk (mK M r_6 = 21) <|
    okk (vp_in x1 (mN M r_6)) <|
    (mR M 38 9).bind fun r_7 =>
    okk (mK M r_7 = 9) <|
    (mR M r_7 6).bind fun r_8 =>
    okk (mK M r_8 = 21) <|
    okk (vp_in x1 (mN M r_8)) <|
    (d_X3_answerTo 18 (((mI M r_6 x1.toNatClampNeg).toUInt32 % 65536).toInt32) (mI M r_8 x1.toNatClampNeg) M).bind fun y3 =>
    (mR y3.2 38 9).bind fun r_9 =>
    okk (mK y3.2 r_9 = 9) <|
    (mR y3.2 r_9 7).bind fun r_10 =>
    okk (mK y3.2 r_10 = 21) <|
    okk (vp_in x1 (mN y3.2 r_10)) <|
    if y3.1 = (mI y3.2 r_10 x1.toNatClampNeg) then (
      bnd ((x1 + (1 : Int32))) fun b1 =>
      k41 (b1) y3.2)
    else (
      (d_X10_exitAt x1 y3.2).bind fun y4 =>
      some ((), y4.2)))
theorem b_X10_turnInTrace_41b {k41 : (Int32) → Mem → Option (Unit × Mem)} {x1 : Int32} {M z} (hk41 : ∀ (a : (Int32)) (M : Mem) (z : Unit × Mem), Lay M → k41 a M = some z → VV Lay k_X10_turnInTrace 41 [(0, .ref 38), (1, .int a)] [] M z.2 (Qv (none) z.2) xF) (hP : Lay M) (h : d_X10_turnInTrace_41b k41 x1 M = some z) : VV Lay k_X10_turnInTrace 41 [(0, .ref 38), (1, .int x1)] [] M z.2 (Qv (none) z.2) xF := by
  unfold d_X10_turnInTrace_41b at h
  refine Y_iload_n (j := 1) dX10_turnInTrace_41 rfl rfl ?_
  refine Y_aload_n (j := 0) dX10_turnInTrace_42 rfl rfl ?_
  obtain ⟨r_1, er_1, h⟩ := bindE h
  refine Z_getr dX10_turnInTrace_43 w3_21 (lk_38 hP) fr_10_9 er_1 ?_
  obtain ⟨hb1, h⟩ := okE h
  obtain ⟨r_2, er_2, h⟩ := bindE h
  refine Z_getr dX10_turnInTrace_46 w2_145 hb1 fr_9_3 er_2 ?_
  refine Y_aload_n (j := 0) dX10_turnInTrace_49 rfl rfl ?_
  refine Z_geti dX10_turnInTrace_50 w3_23 (lk_38 hP) fi_10_11 ?_
  refine Y_iconst (v := (1 : Int32)) dX10_turnInTrace_53 rfl ?_
  refine Y_iadd dX10_turnInTrace_54 ?_
  obtain ⟨hb2, h⟩ := okE h
  obtain ⟨hb3, h⟩ := okE h
  refine Y_iald dX10_turnInTrace_55 hb2 rfl hb3 ?_
  refine Y_icmp_ge (tgt := 111) dX10_turnInTrace_56 (by decide) (fun hc1 => ?_) (fun hc1 => ?_)
  · replace h := ifT hc1 h
    refine Y_aload_n (j := 0) dX10_turnInTrace_111 rfl rfl ?_
    refine Z_getr dX10_turnInTrace_112 w3_5 (lk_38 hP) fr_10_0 (lr_38_0 hP) ?_
    obtain ⟨y1, qy1, h⟩ := bindE h
    have cy1 := v_X3_execute (Or.inl rfl) hP qy1
    refine C_V0r dX10_turnInTrace_115 w6_93 i_X3_execute (lk_18 hP) ⟨Nat.le_of_ble_eq_true rfl, Nat.le_of_ble_eq_true rfl⟩ rfl (Nat.le_of_ble_eq_true rfl) (Nat.le_of_ble_eq_true rfl) (Nat.le_of_ble_eq_true rfl) (cy1) ?_
    have hPy1 := cy1.1.1
    refine Y_pop dX10_turnInTrace_118 rfl ?_
    refine Y_aload_n (j := 0) dX10_turnInTrace_119 rfl rfl ?_
    refine Y_dup dX10_turnInTrace_120 rfl ?_
    refine Z_geti dX10_turnInTrace_121 w3_17 (lk_38 hPy1) fi_10_7 ?_
    refine Y_iconst (v := (1 : Int32)) dX10_turnInTrace_124 rfl ?_
    refine Y_iadd dX10_turnInTrace_125 ?_
    refine Z_puti dX10_turnInTrace_126 w3_17 (lk_38 hPy1) fi_10_7 (Or.inl rfl) rfl ?_
    obtain ⟨M1, eM1, h⟩ := bndE h
    refine VV.mem eM1 ?_
    have hP1 := hPy1.wI eM1
    refine Y_aload_n (j := 0) dX10_turnInTrace_129 rfl rfl ?_
    refine Y_dup dX10_turnInTrace_130 rfl ?_
    refine Z_geti dX10_turnInTrace_131 w3_23 (lk_38 hP1) fi_10_11 ?_
    refine Y_iconst (v := (1 : Int32)) dX10_turnInTrace_134 rfl ?_
    refine Y_iadd dX10_turnInTrace_135 ?_
    refine Z_puti dX10_turnInTrace_136 w3_23 (lk_38 hP1) fi_10_11 (Or.inl rfl) rfl ?_
    obtain ⟨M2, eM2, h⟩ := bndE h
    refine VV.mem eM2 ?_
    have hP2 := hP1.wI eM2
    refine Y_aload_n (j := 0) dX10_turnInTrace_139 rfl rfl ?_
    refine Z_geti dX10_turnInTrace_140 w3_23 (lk_38 hP2) fi_10_11 ?_
    refine Y_aload_n (j := 0) dX10_turnInTrace_143 rfl rfl ?_
    obtain ⟨r_3, er_3, h⟩ := bindE h
    refine Z_getr dX10_turnInTrace_144 w3_21 (lk_38 hP2) fr_10_9 er_3 ?_
    obtain ⟨hb4, h⟩ := okE h
    refine Z_geti dX10_turnInTrace_147 w2_136 hb4 fi_9_0 ?_
    refine Y_icmp_lt (tgt := 164) dX10_turnInTrace_150 (by decide) (fun hc2 => ?_) (fun hc2 => ?_)
    · replace h := ifT hc2 h
      cases h
      exact Y_vret rfl dX10_turnInTrace_164 hP2 ⟨rfl, rfl⟩
    · replace h := ifF hc2 h
      refine Y_aload_n (j := 0) dX10_turnInTrace_153 rfl rfl ?_
      refine Y_aload_n (j := 0) dX10_turnInTrace_154 rfl rfl ?_
      obtain ⟨r_4, er_4, h⟩ := bindE h
      refine Z_getr dX10_turnInTrace_155 w3_21 (lk_38 hP2) fr_10_9 er_4 ?_
      obtain ⟨hb5, h⟩ := okE h
      refine Z_geti dX10_turnInTrace_158 w2_165 hb5 fi_9_12 ?_
      obtain ⟨y2, qy2, h⟩ := bindE h
      have cy2 := v_X10_enter hP2 qy2
      refine C_V1o dX10_turnInTrace_161 w6_94 i_X10_enter (lk_38 hP2) ⟨Nat.le_of_ble_eq_true rfl, Nat.le_of_ble_eq_true rfl⟩ rfl (Nat.le_of_ble_eq_true rfl) (Nat.le_of_ble_eq_true rfl) (Nat.le_of_ble_eq_true rfl) (cy2) ?_
      have hPy2 := cy2.1.1
      cases h
      exact Y_vret rfl dX10_turnInTrace_164 hPy2 ⟨rfl, rfl⟩
  · replace h := ifF hc1 h
    refine Y_aload_n (j := 0) dX10_turnInTrace_59 rfl rfl ?_
    refine Z_getr dX10_turnInTrace_60 w3_5 (lk_38 hP) fr_10_0 (lr_38_0 hP) ?_
    refine Y_aload_n (j := 0) dX10_turnInTrace_63 rfl rfl ?_
    obtain ⟨r_5, er_5, h⟩ := bindE h
    refine Z_getr dX10_turnInTrace_64 w3_21 (lk_38 hP) fr_10_9 er_5 ?_
    obtain ⟨hb6, h⟩ := okE h
    obtain ⟨r_6, er_6, h⟩ := bindE h
    refine Z_getr dX10_turnInTrace_67 w2_147 hb6 fr_9_4 er_6 ?_
    refine Y_iload_n (j := 1) dX10_turnInTrace_70 rfl rfl ?_
    obtain ⟨hb7, h⟩ := okE h
    obtain ⟨hb8, h⟩ := okE h
    refine Y_iald dX10_turnInTrace_71 hb7 rfl hb8 ?_
    refine Y_i2c dX10_turnInTrace_72 ?_
    refine Y_aload_n (j := 0) dX10_turnInTrace_73 rfl rfl ?_
    obtain ⟨r_7, er_7, h⟩ := bindE h
    refine Z_getr dX10_turnInTrace_74 w3_21 (lk_38 hP) fr_10_9 er_7 ?_
    obtain ⟨hb9, h⟩ := okE h
    obtain ⟨r_8, er_8, h⟩ := bindE h
    refine Z_getr dX10_turnInTrace_77 w2_152 hb9 fr_9_6 er_8 ?_
    refine Y_iload_n (j := 1) dX10_turnInTrace_80 rfl rfl ?_
    obtain ⟨hb10, h⟩ := okE h
    obtain ⟨hb11, h⟩ := okE h
    refine Y_iald dX10_turnInTrace_81 hb10 rfl hb11 ?_
    obtain ⟨y3, qy3, h⟩ := bindE h
    have cy3 := v_X3_answerTo (Or.inl rfl) hP qy3
    refine C_V2r dX10_turnInTrace_82 w6_68 i_X3_answerTo (lk_18 hP) ⟨Nat.le_of_ble_eq_true rfl, Nat.le_of_ble_eq_true rfl⟩ rfl (Nat.le_of_ble_eq_true rfl) (Nat.le_of_ble_eq_true rfl) (Nat.le_of_ble_eq_true rfl) (cy3) ?_
    have hPy3 := cy3.1.1
    refine Y_istore_n (lv1 := [(2, .int y3.1), (0, .ref 38), (1, .int x1)]) dX10_turnInTrace_85 rfl (by decide) rfl ?_
    refine Y_iload_n (j := 0) dX10_turnInTrace_86 rfl rfl ?_
    refine Y_aload_n (j := 1) dX10_turnInTrace_87 rfl rfl ?_
    obtain ⟨r_9, er_9, h⟩ := bindE h
    refine Z_getr dX10_turnInTrace_88 w3_21 (lk_38 hPy3) fr_10_9 er_9 ?_
    obtain ⟨hb12, h⟩ := okE h
    obtain ⟨r_10, er_10, h⟩ := bindE h
    refine Z_getr dX10_turnInTrace_91 w2_154 hb12 fr_9_7 er_10 ?_
    refine Y_iload_n (j := 2) dX10_turnInTrace_94 rfl rfl ?_
    obtain ⟨hb13, h⟩ := okE h
    obtain ⟨hb14, h⟩ := okE h
    refine Y_iald dX10_turnInTrace_95 hb13 rfl hb14 ?_
    refine Y_icmp_eq (tgt := 105) dX10_turnInTrace_96 (by decide) (fun hc3 => ?_) (fun hc3 => ?_)
    · replace h := ifT hc3 h
      obtain ⟨b1, eb1, h⟩ := bndE h
      refine Y_iinc (j := 2) (v := b1) (lv1 := [(1, .int b1), (2, .int y3.1), (0, .ref 38)]) dX10_turnInTrace_105 rfl eb1.symm (by decide) rfl ?_
      refine Y_goto (tgt := 41) dX10_turnInTrace_108 (by decide) ?_
      refine VV.sub [2, 0] rfl ?_
      exact hk41 _ _ _ hPy3 h
    · replace h := ifF hc3 h
      refine Y_aload_n (j := 1) dX10_turnInTrace_99 rfl rfl ?_
      refine Y_iload_n (j := 2) dX10_turnInTrace_100 rfl rfl ?_
      obtain ⟨y4, qy4, h⟩ := bindE h
      have cy4 := v_X10_exitAt hPy3 qy4
      refine C_V1o dX10_turnInTrace_101 w6_73 i_X10_exitAt (lk_38 hPy3) ⟨Nat.le_of_ble_eq_true rfl, Nat.le_of_ble_eq_true rfl⟩ rfl (Nat.le_of_ble_eq_true rfl) (Nat.le_of_ble_eq_true rfl) (Nat.le_of_ble_eq_true rfl) (cy4) ?_
      have hPy4 := cy4.1.1
      cases h
      exact Y_vret rfl dX10_turnInTrace_104 hPy4 ⟨rfl, rfl⟩
noncomputable def d_X10_turnInTrace_41 : Nat → (Int32) → Mem → Option (Unit × Mem) := lp fun k a M => d_X10_turnInTrace_41b k a M
theorem b_X10_turnInTrace_41 (n : Nat) : ∀ (a : (Int32)) (M : Mem) (z : Unit × Mem), d_X10_turnInTrace_41 n a M = some z → Lay M → VV Lay k_X10_turnInTrace 41 [(0, .ref 38), (1, .int a)] [] M z.2 (Qv (none) z.2) xF :=
  lp_ind (fun k hk a M z h hP => b_X10_turnInTrace_41b  (fun a M z hP h => hk a M z h hP) hP h) n
noncomputable def d_X10_turnInTrace (M : Mem) : Option (Unit × Mem) :=
  (d_X3_isAtLimit 18 M).bind fun y1 =>
  if y1.1 = 0 then (
    (d_X3_failureAhead 18 y1.2).bind fun y2 =>
    if y2.1 = (45 : Int32) then (
      (mR y2.2 38 9).bind fun r_1 =>
      okk (mK y2.2 r_1 = 9) <|
      (mR y2.2 r_1 3).bind fun r_2 =>
      okk (mK y2.2 r_2 = 21) <|
      okk (vp_in (mI y2.2 38 11) (mN y2.2 r_2)) <|
      bnd ((mI y2.2 r_2 (mI y2.2 38 11).toNatClampNeg)) fun b1 =>
      d_X10_turnInTrace_41 fuel (b1) y2.2)
    else (
      bnd (sI y2.2 38 8 (0 : Int32)) fun M2 =>
      some ((), M2)))
  else (
    bnd (sI y1.2 38 8 (0 : Int32)) fun M1 =>
    some ((), M1))
theorem b_X10_turnInTrace {M z} (hP : Lay M) (h : d_X10_turnInTrace M = some z) : VV Lay k_X10_turnInTrace 0 [(0, .ref 38)] [] M z.2 (Qv (none) z.2) xF := by
  unfold d_X10_turnInTrace at h
  refine Y_aload_n (j := 0) dX10_turnInTrace_0 rfl rfl ?_
  refine Z_getr dX10_turnInTrace_1 w3_5 (lk_38 hP) fr_10_0 (lr_38_0 hP) ?_
  obtain ⟨y1, qy1, h⟩ := bindE h
  have cy1 := v_X3_isAtLimit (Or.inl rfl) hP qy1
  refine C_V0r dX10_turnInTrace_4 w6_66 i_X3_isAtLimit (lk_18 hP) ⟨Nat.le_of_ble_eq_true rfl, Nat.le_of_ble_eq_true rfl⟩ rfl (Nat.le_of_ble_eq_true rfl) (Nat.le_of_ble_eq_true rfl) (Nat.le_of_ble_eq_true rfl) (cy1) ?_
  have hPy1 := cy1.1.1
  refine Y_if_ne (tgt := 22) dX10_turnInTrace_7 (by decide) (fun hc1 => ?_) (fun hc1 => ?_)
  · replace h := ifF hc1 h
    refine Y_aload_n (j := 0) dX10_turnInTrace_22 rfl rfl ?_
    refine Y_iconst (v := (0 : Int32)) dX10_turnInTrace_23 rfl ?_
    refine Z_putz dX10_turnInTrace_24 w3_19 (lk_38 hPy1) fi_10_8 (Or.inl rfl) rfl (by decide) ?_
    obtain ⟨M1, eM1, h⟩ := bndE h
    refine VV.mem eM1 ?_
    have hP1 := hPy1.wI eM1
    cases h
    exact Y_vret rfl dX10_turnInTrace_27 hP1 ⟨rfl, rfl⟩
  · replace h := ifT hc1 h
    refine Y_aload_n (j := 0) dX10_turnInTrace_10 rfl rfl ?_
    refine Z_getr dX10_turnInTrace_11 w3_5 (lk_38 hPy1) fr_10_0 (lr_38_0 hPy1) ?_
    obtain ⟨y2, qy2, h⟩ := bindE h
    have cy2 := v_X3_failureAhead (Or.inl rfl) hPy1 qy2
    refine C_V0r dX10_turnInTrace_14 w6_67 i_X3_failureAhead (lk_18 hPy1) ⟨Nat.le_of_ble_eq_true rfl, Nat.le_of_ble_eq_true rfl⟩ rfl (Nat.le_of_ble_eq_true rfl) (Nat.le_of_ble_eq_true rfl) (Nat.le_of_ble_eq_true rfl) (cy2) ?_
    have hPy2 := cy2.1.1
    refine Y_bipush (v := (45 : Int32)) dX10_turnInTrace_17 rfl ?_
    refine Y_icmp_eq (tgt := 28) dX10_turnInTrace_19 (by decide) (fun hc2 => ?_) (fun hc2 => ?_)
    · replace h := ifT hc2 h
      refine Y_aload_n (j := 0) dX10_turnInTrace_28 rfl rfl ?_
      obtain ⟨r_1, er_1, h⟩ := bindE h
      refine Z_getr dX10_turnInTrace_29 w3_21 (lk_38 hPy2) fr_10_9 er_1 ?_
      obtain ⟨hb1, h⟩ := okE h
      obtain ⟨r_2, er_2, h⟩ := bindE h
      refine Z_getr dX10_turnInTrace_32 w2_145 hb1 fr_9_3 er_2 ?_
      refine Y_aload_n (j := 0) dX10_turnInTrace_35 rfl rfl ?_
      refine Z_geti dX10_turnInTrace_36 w3_23 (lk_38 hPy2) fi_10_11 ?_
      obtain ⟨hb2, h⟩ := okE h
      obtain ⟨hb3, h⟩ := okE h
      refine Y_iald dX10_turnInTrace_39 hb2 rfl hb3 ?_
      obtain ⟨b1, eb1, h⟩ := bndE h
      refine VV.topI eb1 ?_
      refine Y_istore_n (lv1 := [(1, .int b1), (0, .ref 38)]) dX10_turnInTrace_40 rfl (by decide) rfl ?_
      refine VV.sub [1, 0] rfl ?_
      exact b_X10_turnInTrace_41  fuel _ _ _ h hPy2
    · replace h := ifF hc2 h
      refine Y_aload_n (j := 0) dX10_turnInTrace_22 rfl rfl ?_
      refine Y_iconst (v := (0 : Int32)) dX10_turnInTrace_23 rfl ?_
      refine Z_putz dX10_turnInTrace_24 w3_19 (lk_38 hPy2) fi_10_8 (Or.inl rfl) rfl (by decide) ?_
      obtain ⟨M2, eM2, h⟩ := bndE h
      refine VV.mem eM2 ?_
      have hP2 := hPy2.wI eM2
      cases h
      exact Y_vret rfl dX10_turnInTrace_27 hP2 ⟨rfl, rfl⟩
theorem v_X10_turnInTrace {M z} (hP : Lay M) (h : d_X10_turnInTrace M = some z) : CC Lay k_X10_turnInTrace [.ref 38] M z.2 (Qv (none) z.2) xF :=
  CC.ofVV (by decide) rfl (Nat.le_of_ble_eq_true rfl) (b_X10_turnInTrace hP h)
noncomputable def d_X10_breakOff (M : Mem) : Option (Unit × Mem) :=
  if (mI M 48 10) = 0 then (
    some ((), M))
  else (
    bnd (sI M 48 10 (0 : Int32)) fun M1 =>
    if (mI M1 48 13) = (-1 : Int32) then (
      (d_X2_breakOff (mI M1 48 11) M1).bind fun y2 =>
      some ((), y2.2))
    else (
      okk (vp_in (mI M1 48 13) 20) <|
      (mR M1 68 (mI M1 48 13).toNatClampNeg).bind fun r_1 =>
      okk (mK M1 r_1 = 9) <|
      (d_X9_breakOff r_1 (mI M1 48 14) M1).bind fun y1 =>
      some ((), y1.2)))
theorem b_X10_breakOff {M z} (hP : Lay M) (h : d_X10_breakOff M = some z) : VV Lay k_X10_breakOff 0 [(0, .ref 38)] [] M z.2 (Qv (none) z.2) xF := by
  unfold d_X10_breakOff at h
  refine Y_aload_n (j := 0) dX10_breakOff_0 rfl rfl ?_
  refine Z_getr dX10_breakOff_1 w3_10 (lk_38 hP) fr_10_3 (lr_38_3 hP) ?_
  refine Z_geti dX10_breakOff_4 w2_67 (lk_48 hP) fi_6_10 ?_
  refine Y_if_ne (tgt := 11) dX10_breakOff_7 (by decide) (fun hc1 => ?_) (fun hc1 => ?_)
  · replace h := ifF hc1 h
    refine Y_aload_n (j := 0) dX10_breakOff_11 rfl rfl ?_
    refine Z_getr dX10_breakOff_12 w3_10 (lk_38 hP) fr_10_3 (lr_38_3 hP) ?_
    refine Y_iconst (v := (0 : Int32)) dX10_breakOff_15 rfl ?_
    refine Z_putz dX10_breakOff_16 w2_67 (lk_48 hP) fi_6_10 (Or.inl rfl) rfl (by decide) ?_
    obtain ⟨M1, eM1, h⟩ := bndE h
    refine VV.mem eM1 ?_
    have hP1 := hP.wI eM1
    refine Y_aload_n (j := 0) dX10_breakOff_19 rfl rfl ?_
    refine Z_getr dX10_breakOff_20 w3_10 (lk_38 hP1) fr_10_3 (lr_38_3 hP1) ?_
    refine Z_geti dX10_breakOff_23 w2_74 (lk_48 hP1) fi_6_13 ?_
    refine Y_iconst (v := (-1 : Int32)) dX10_breakOff_26 rfl ?_
    refine Y_icmp_ne (tgt := 47) dX10_breakOff_27 (by decide) (fun hc2 => ?_) (fun hc2 => ?_)
    · replace h := ifF hc2 h
      refine Y_aload_n (j := 0) dX10_breakOff_47 rfl rfl ?_
      refine Z_getr dX10_breakOff_48 w3_11 (lk_38 hP1) fr_10_4 (lr_38_4 hP1) ?_
      refine Z_getr dX10_breakOff_51 w2_224 (lk_67 hP1) fr_2_2 (lr_67_2 hP1) ?_
      refine Y_aload_n (j := 0) dX10_breakOff_54 rfl rfl ?_
      refine Z_getr dX10_breakOff_55 w3_10 (lk_38 hP1) fr_10_3 (lr_38_3 hP1) ?_
      refine Z_geti dX10_breakOff_58 w2_74 (lk_48 hP1) fi_6_13 ?_
      obtain ⟨hb1, h⟩ := okE h
      obtain ⟨r_1, er_1, h⟩ := bindE h
      refine Y_aald dX10_breakOff_61 (lk_68 hP1) (ln_68 hP1) hb1 er_1 ?_
      refine Y_aload_n (j := 0) dX10_breakOff_62 rfl rfl ?_
      refine Z_getr dX10_breakOff_63 w3_10 (lk_38 hP1) fr_10_3 (lr_38_3 hP1) ?_
      refine Z_geti dX10_breakOff_66 w2_76 (lk_48 hP1) fi_6_14 ?_
      obtain ⟨cy1t, h⟩ := okE h
      obtain ⟨y1, qy1, h⟩ := bindE h
      have cy1 := v_X9_breakOff hP1 qy1
      refine C_V1o dX10_breakOff_69 w6_115 i_X9_breakOff cy1t ⟨Nat.le_of_ble_eq_true rfl, Nat.le_of_ble_eq_true rfl⟩ rfl (Nat.le_of_ble_eq_true rfl) (Nat.le_of_ble_eq_true rfl) (Nat.le_of_ble_eq_true rfl) (cy1) ?_
      have hPy1 := cy1.1.1
      cases h
      exact Y_vret rfl dX10_breakOff_72 hPy1 ⟨rfl, rfl⟩
    · replace h := ifT hc2 h
      refine Y_aload_n (j := 0) dX10_breakOff_30 rfl rfl ?_
      refine Z_getr dX10_breakOff_31 w3_8 (lk_38 hP1) fr_10_2 (lr_38_2 hP1) ?_
      refine Y_aload_n (j := 0) dX10_breakOff_34 rfl rfl ?_
      refine Z_getr dX10_breakOff_35 w3_10 (lk_38 hP1) fr_10_3 (lr_38_3 hP1) ?_
      refine Z_geti dX10_breakOff_38 w2_70 (lk_48 hP1) fi_6_11 ?_
      obtain ⟨y2, qy2, h⟩ := bindE h
      have cy2 := v_X2_breakOff hP1 qy2
      refine C_V1o dX10_breakOff_41 w6_111 i_X2_breakOff (lk_44 hP1) ⟨Nat.le_of_ble_eq_true rfl, Nat.le_of_ble_eq_true rfl⟩ rfl (Nat.le_of_ble_eq_true rfl) (Nat.le_of_ble_eq_true rfl) (Nat.le_of_ble_eq_true rfl) (cy2) ?_
      have hPy2 := cy2.1.1
      refine Y_goto (tgt := 72) dX10_breakOff_44 (by decide) ?_
      cases h
      exact Y_vret rfl dX10_breakOff_72 hPy2 ⟨rfl, rfl⟩
  · replace h := ifT hc1 h
    cases h
    exact Y_vret rfl dX10_breakOff_10 hP ⟨rfl, rfl⟩
theorem v_X10_breakOff {M z} (hP : Lay M) (h : d_X10_breakOff M = some z) : CC Lay k_X10_breakOff [.ref 38] M z.2 (Qv (none) z.2) xF :=
  CC.ofVV (by decide) rfl (Nat.le_of_ble_eq_true rfl) (b_X10_breakOff hP h)
noncomputable def d_X10_canExecute_33 (M : Mem) : Option (Int32 × Mem) :=
  (d_X3_failureAhead 18 M).bind fun y1 =>
  if y1.1 = (45 : Int32) then (
    some ((1 : Int32), y1.2))
  else (
    (d_X10_breakOff y1.2).bind fun y2 =>
    (d_X3_failWith 18 y1.1 y2.2).bind fun y3 =>
    some ((0 : Int32), y3.2))
theorem b_X10_canExecute_33 {M z} (hP : Lay M) (h : d_X10_canExecute_33 M = some z) : VV Lay k_X10_canExecute 33 [(0, .ref 38)] [] M z.2 (Qv (some (.int z.1)) z.2) xF := by
  unfold d_X10_canExecute_33 at h
  refine Y_aload_n (j := 0) dX10_canExecute_33 rfl rfl ?_
  refine Z_getr dX10_canExecute_34 w3_5 (lk_38 hP) fr_10_0 (lr_38_0 hP) ?_
  obtain ⟨y1, qy1, h⟩ := bindE h
  have cy1 := v_X3_failureAhead (Or.inl rfl) hP qy1
  refine C_V0r dX10_canExecute_37 w6_67 i_X3_failureAhead (lk_18 hP) ⟨Nat.le_of_ble_eq_true rfl, Nat.le_of_ble_eq_true rfl⟩ rfl (Nat.le_of_ble_eq_true rfl) (Nat.le_of_ble_eq_true rfl) (Nat.le_of_ble_eq_true rfl) (cy1) ?_
  have hPy1 := cy1.1.1
  refine Y_istore_n (lv1 := [(1, .int y1.1), (0, .ref 38)]) dX10_canExecute_40 rfl (by decide) rfl ?_
  refine Y_iload_n (j := 0) dX10_canExecute_41 rfl rfl ?_
  refine Y_bipush (v := (45 : Int32)) dX10_canExecute_42 rfl ?_
  refine Y_icmp_ne (tgt := 49) dX10_canExecute_44 (by decide) (fun hc1 => ?_) (fun hc1 => ?_)
  · replace h := ifF hc1 h
    refine Y_aload_n (j := 1) dX10_canExecute_49 rfl rfl ?_
    obtain ⟨y2, qy2, h⟩ := bindE h
    have cy2 := v_X10_breakOff hPy1 qy2
    refine C_V0o dX10_canExecute_50 w6_107 i_X10_breakOff (lk_38 hPy1) ⟨Nat.le_of_ble_eq_true rfl, Nat.le_of_ble_eq_true rfl⟩ rfl (Nat.le_of_ble_eq_true rfl) (Nat.le_of_ble_eq_true rfl) (Nat.le_of_ble_eq_true rfl) (cy2) ?_
    have hPy2 := cy2.1.1
    refine Y_aload_n (j := 1) dX10_canExecute_53 rfl rfl ?_
    refine Z_getr dX10_canExecute_54 w3_5 (lk_38 hPy2) fr_10_0 (lr_38_0 hPy2) ?_
    refine Y_iload_n (j := 0) dX10_canExecute_57 rfl rfl ?_
    obtain ⟨y3, qy3, h⟩ := bindE h
    have cy3 := v_X3_failWith (Or.inl rfl) hPy2 qy3
    refine C_V1o dX10_canExecute_58 w6_119 i_X3_failWith (lk_18 hPy2) ⟨Nat.le_of_ble_eq_true rfl, Nat.le_of_ble_eq_true rfl⟩ rfl (Nat.le_of_ble_eq_true rfl) (Nat.le_of_ble_eq_true rfl) (Nat.le_of_ble_eq_true rfl) (cy3) ?_
    have hPy3 := cy3.1.1
    refine Y_iconst (v := (0 : Int32)) dX10_canExecute_61 rfl ?_
    cases h
    exact Y_iret rfl (nar_bo (by decide)) dX10_canExecute_62 hPy3 ⟨rfl, rfl⟩
  · replace h := ifT hc1 h
    refine Y_iconst (v := (1 : Int32)) dX10_canExecute_47 rfl ?_
    cases h
    exact Y_iret rfl (nar_bo (by decide)) dX10_canExecute_48 hPy1 ⟨rfl, rfl⟩
noncomputable def d_X10_canExecute (M : Mem) : Option (Int32 × Mem) :=
  (d_X3_isAtLimit 18 M).bind fun y1 =>
  if y1.1 = 0 then (
    (d_X6_isFull y1.2).bind fun y2 =>
    if y2.1 = 0 then (
      d_X10_canExecute_33 y2.2)
    else (
      (d_X10_breakOff y2.2).bind fun y3 =>
      d_X10_canExecute_33 y3.2))
  else (
    (d_X3_endAtLimit 18 y1.2).bind fun y4 =>
    some ((0 : Int32), y4.2))
theorem b_X10_canExecute {M z} (hP : Lay M) (h : d_X10_canExecute M = some z) : VV Lay k_X10_canExecute 0 [(0, .ref 38)] [] M z.2 (Qv (some (.int z.1)) z.2) xF := by
  unfold d_X10_canExecute at h
  refine Y_aload_n (j := 0) dX10_canExecute_0 rfl rfl ?_
  refine Z_getr dX10_canExecute_1 w3_5 (lk_38 hP) fr_10_0 (lr_38_0 hP) ?_
  obtain ⟨y1, qy1, h⟩ := bindE h
  have cy1 := v_X3_isAtLimit (Or.inl rfl) hP qy1
  refine C_V0r dX10_canExecute_4 w6_66 i_X3_isAtLimit (lk_18 hP) ⟨Nat.le_of_ble_eq_true rfl, Nat.le_of_ble_eq_true rfl⟩ rfl (Nat.le_of_ble_eq_true rfl) (Nat.le_of_ble_eq_true rfl) (Nat.le_of_ble_eq_true rfl) (cy1) ?_
  have hPy1 := cy1.1.1
  refine Y_if_eq (tgt := 19) dX10_canExecute_7 (by decide) (fun hc1 => ?_) (fun hc1 => ?_)
  · replace h := ifT hc1 h
    refine Y_aload_n (j := 0) dX10_canExecute_19 rfl rfl ?_
    refine Z_getr dX10_canExecute_20 w3_10 (lk_38 hPy1) fr_10_3 (lr_38_3 hPy1) ?_
    obtain ⟨y2, qy2, h⟩ := bindE h
    have cy2 := v_X6_isFull hPy1 qy2
    refine C_V0r dX10_canExecute_23 w6_103 i_X6_isFull (lk_48 hPy1) ⟨Nat.le_of_ble_eq_true rfl, Nat.le_of_ble_eq_true rfl⟩ rfl (Nat.le_of_ble_eq_true rfl) (Nat.le_of_ble_eq_true rfl) (Nat.le_of_ble_eq_true rfl) (cy2) ?_
    have hPy2 := cy2.1.1
    refine Y_if_eq (tgt := 33) dX10_canExecute_26 (by decide) (fun hc2 => ?_) (fun hc2 => ?_)
    · replace h := ifT hc2 h
      refine VV.sub [0] rfl ?_
      exact b_X10_canExecute_33  hPy2 h
    · replace h := ifF hc2 h
      refine Y_aload_n (j := 0) dX10_canExecute_29 rfl rfl ?_
      obtain ⟨y3, qy3, h⟩ := bindE h
      have cy3 := v_X10_breakOff hPy2 qy3
      refine C_V0o dX10_canExecute_30 w6_107 i_X10_breakOff (lk_38 hPy2) ⟨Nat.le_of_ble_eq_true rfl, Nat.le_of_ble_eq_true rfl⟩ rfl (Nat.le_of_ble_eq_true rfl) (Nat.le_of_ble_eq_true rfl) (Nat.le_of_ble_eq_true rfl) (cy3) ?_
      have hPy3 := cy3.1.1
      refine VV.sub [0] rfl ?_
      exact b_X10_canExecute_33  hPy3 h
  · replace h := ifF hc1 h
    refine Y_aload_n (j := 0) dX10_canExecute_10 rfl rfl ?_
    refine Z_getr dX10_canExecute_11 w3_5 (lk_38 hPy1) fr_10_0 (lr_38_0 hPy1) ?_
    obtain ⟨y4, qy4, h⟩ := bindE h
    have cy4 := v_X3_endAtLimit (Or.inl rfl) hPy1 qy4
    refine C_V0o dX10_canExecute_14 w6_102 i_X3_endAtLimit (lk_18 hPy1) ⟨Nat.le_of_ble_eq_true rfl, Nat.le_of_ble_eq_true rfl⟩ rfl (Nat.le_of_ble_eq_true rfl) (Nat.le_of_ble_eq_true rfl) (Nat.le_of_ble_eq_true rfl) (cy4) ?_
    have hPy4 := cy4.1.1
    refine Y_iconst (v := (0 : Int32)) dX10_canExecute_17 rfl ?_
    cases h
    exact Y_iret rfl (nar_bo (by decide)) dX10_canExecute_18 hPy4 ⟨rfl, rfl⟩
theorem v_X10_canExecute {M z} (hP : Lay M) (h : d_X10_canExecute M = some z) : CC Lay k_X10_canExecute [.ref 38] M z.2 (Qv (some (.int z.1)) z.2) xF :=
  CC.ofVV (by decide) rfl (Nat.le_of_ble_eq_true rfl) (b_X10_canExecute hP h)
noncomputable def d_X10_meetCache (x1 : Int32) (M : Mem) : Option (Unit × Mem) :=
  if x1 = (103 : Int32) then (
    (d_X3_siteAhead 18 M).bind fun y7 =>
    (d_X3_shapeFromTop 18 (1 : Int32) y7.2).bind fun y8 =>
    (d_X0_meet y7.1 y8.1 y8.2).bind fun y9 =>
    some ((), y9.2))
  else (
    if x1 = (112 : Int32) then (
      (d_X3_siteAhead 18 M).bind fun y4 =>
      (d_X3_shapeFromTop 18 (2 : Int32) y4.2).bind fun y5 =>
      (d_X0_meet y4.1 y5.1 y5.2).bind fun y6 =>
      some ((), y6.2))
    else (
      if x1 = (109 : Int32) then (
        (d_X3_siteAhead 18 M).bind fun y1 =>
        (d_X3_classFromTop 18 y1.2).bind fun y2 =>
        (d_X0_meet y1.1 y2.1 y2.2).bind fun y3 =>
        some ((), y3.2))
      else (
        some ((), M))))
theorem b_X10_meetCache {x1 : Int32} {M z} (hP : Lay M) (h : d_X10_meetCache x1 M = some z) : VV Lay k_X10_meetCache 0 [(0, .ref 38), (1, .int x1)] [] M z.2 (Qv (none) z.2) xF := by
  unfold d_X10_meetCache at h
  refine Y_iload_n (j := 1) dX10_meetCache_0 rfl rfl ?_
  refine Y_bipush (v := (103 : Int32)) dX10_meetCache_1 rfl ?_
  refine Y_icmp_ne (tgt := 31) dX10_meetCache_3 (by decide) (fun hc1 => ?_) (fun hc1 => ?_)
  · replace h := ifF hc1 h
    refine Y_iload_n (j := 1) dX10_meetCache_31 rfl rfl ?_
    refine Y_bipush (v := (112 : Int32)) dX10_meetCache_32 rfl ?_
    refine Y_icmp_ne (tgt := 62) dX10_meetCache_34 (by decide) (fun hc2 => ?_) (fun hc2 => ?_)
    · replace h := ifF hc2 h
      refine Y_iload_n (j := 1) dX10_meetCache_62 rfl rfl ?_
      refine Y_bipush (v := (109 : Int32)) dX10_meetCache_63 rfl ?_
      refine Y_icmp_ne (tgt := 89) dX10_meetCache_65 (by decide) (fun hc3 => ?_) (fun hc3 => ?_)
      · replace h := ifF hc3 h
        cases h
        exact Y_vret rfl dX10_meetCache_89 hP ⟨rfl, rfl⟩
      · replace h := ifT hc3 h
        refine Y_aload_n (j := 0) dX10_meetCache_68 rfl rfl ?_
        refine Z_getr dX10_meetCache_69 w3_6 (lk_38 hP) fr_10_1 (lr_38_1 hP) ?_
        refine Y_aload_n (j := 0) dX10_meetCache_72 rfl rfl ?_
        refine Z_getr dX10_meetCache_73 w3_5 (lk_38 hP) fr_10_0 (lr_38_0 hP) ?_
        obtain ⟨y1, qy1, h⟩ := bindE h
        have cy1 := v_X3_siteAhead (Or.inl rfl) hP qy1
        refine C_V0r dX10_meetCache_76 w6_128 i_X3_siteAhead (lk_18 hP) ⟨Nat.le_of_ble_eq_true rfl, Nat.le_of_ble_eq_true rfl⟩ rfl (Nat.le_of_ble_eq_true rfl) (Nat.le_of_ble_eq_true rfl) (Nat.le_of_ble_eq_true rfl) (cy1) ?_
        have hPy1 := cy1.1.1
        refine Y_aload_n (j := 0) dX10_meetCache_79 rfl rfl ?_
        refine Z_getr dX10_meetCache_80 w3_5 (lk_38 hPy1) fr_10_0 (lr_38_0 hPy1) ?_
        obtain ⟨y2, qy2, h⟩ := bindE h
        have cy2 := v_X3_classFromTop (Or.inl rfl) hPy1 qy2
        refine C_V0r dX10_meetCache_83 w6_138 i_X3_classFromTop (lk_18 hPy1) ⟨Nat.le_of_ble_eq_true rfl, Nat.le_of_ble_eq_true rfl⟩ rfl (Nat.le_of_ble_eq_true rfl) (Nat.le_of_ble_eq_true rfl) (Nat.le_of_ble_eq_true rfl) (cy2) ?_
        have hPy2 := cy2.1.1
        obtain ⟨y3, qy3, h⟩ := bindE h
        have cy3 := v_X0_meet hPy2 qy3
        refine C_V2o dX10_meetCache_86 w6_130 i_X0_meet (lk_39 hPy2) ⟨Nat.le_of_ble_eq_true rfl, Nat.le_of_ble_eq_true rfl⟩ rfl (Nat.le_of_ble_eq_true rfl) (Nat.le_of_ble_eq_true rfl) (Nat.le_of_ble_eq_true rfl) (cy3) ?_
        have hPy3 := cy3.1.1
        cases h
        exact Y_vret rfl dX10_meetCache_89 hPy3 ⟨rfl, rfl⟩
    · replace h := ifT hc2 h
      refine Y_aload_n (j := 0) dX10_meetCache_37 rfl rfl ?_
      refine Z_getr dX10_meetCache_38 w3_6 (lk_38 hP) fr_10_1 (lr_38_1 hP) ?_
      refine Y_aload_n (j := 0) dX10_meetCache_41 rfl rfl ?_
      refine Z_getr dX10_meetCache_42 w3_5 (lk_38 hP) fr_10_0 (lr_38_0 hP) ?_
      obtain ⟨y4, qy4, h⟩ := bindE h
      have cy4 := v_X3_siteAhead (Or.inl rfl) hP qy4
      refine C_V0r dX10_meetCache_45 w6_128 i_X3_siteAhead (lk_18 hP) ⟨Nat.le_of_ble_eq_true rfl, Nat.le_of_ble_eq_true rfl⟩ rfl (Nat.le_of_ble_eq_true rfl) (Nat.le_of_ble_eq_true rfl) (Nat.le_of_ble_eq_true rfl) (cy4) ?_
      have hPy4 := cy4.1.1
      refine Y_aload_n (j := 0) dX10_meetCache_48 rfl rfl ?_
      refine Z_getr dX10_meetCache_49 w3_5 (lk_38 hPy4) fr_10_0 (lr_38_0 hPy4) ?_
      refine Y_iconst (v := (2 : Int32)) dX10_meetCache_52 rfl ?_
      obtain ⟨y5, qy5, h⟩ := bindE h
      have cy5 := v_X3_shapeFromTop (Or.inl rfl) hPy4 qy5
      refine C_V1r dX10_meetCache_53 w6_129 i_X3_shapeFromTop (lk_18 hPy4) ⟨Nat.le_of_ble_eq_true rfl, Nat.le_of_ble_eq_true rfl⟩ rfl (Nat.le_of_ble_eq_true rfl) (Nat.le_of_ble_eq_true rfl) (Nat.le_of_ble_eq_true rfl) (cy5) ?_
      have hPy5 := cy5.1.1
      obtain ⟨y6, qy6, h⟩ := bindE h
      have cy6 := v_X0_meet hPy5 qy6
      refine C_V2o dX10_meetCache_56 w6_130 i_X0_meet (lk_39 hPy5) ⟨Nat.le_of_ble_eq_true rfl, Nat.le_of_ble_eq_true rfl⟩ rfl (Nat.le_of_ble_eq_true rfl) (Nat.le_of_ble_eq_true rfl) (Nat.le_of_ble_eq_true rfl) (cy6) ?_
      have hPy6 := cy6.1.1
      refine Y_goto (tgt := 89) dX10_meetCache_59 (by decide) ?_
      cases h
      exact Y_vret rfl dX10_meetCache_89 hPy6 ⟨rfl, rfl⟩
  · replace h := ifT hc1 h
    refine Y_aload_n (j := 0) dX10_meetCache_6 rfl rfl ?_
    refine Z_getr dX10_meetCache_7 w3_6 (lk_38 hP) fr_10_1 (lr_38_1 hP) ?_
    refine Y_aload_n (j := 0) dX10_meetCache_10 rfl rfl ?_
    refine Z_getr dX10_meetCache_11 w3_5 (lk_38 hP) fr_10_0 (lr_38_0 hP) ?_
    obtain ⟨y7, qy7, h⟩ := bindE h
    have cy7 := v_X3_siteAhead (Or.inl rfl) hP qy7
    refine C_V0r dX10_meetCache_14 w6_128 i_X3_siteAhead (lk_18 hP) ⟨Nat.le_of_ble_eq_true rfl, Nat.le_of_ble_eq_true rfl⟩ rfl (Nat.le_of_ble_eq_true rfl) (Nat.le_of_ble_eq_true rfl) (Nat.le_of_ble_eq_true rfl) (cy7) ?_
    have hPy7 := cy7.1.1
    refine Y_aload_n (j := 0) dX10_meetCache_17 rfl rfl ?_
    refine Z_getr dX10_meetCache_18 w3_5 (lk_38 hPy7) fr_10_0 (lr_38_0 hPy7) ?_
    refine Y_iconst (v := (1 : Int32)) dX10_meetCache_21 rfl ?_
    obtain ⟨y8, qy8, h⟩ := bindE h
    have cy8 := v_X3_shapeFromTop (Or.inl rfl) hPy7 qy8
    refine C_V1r dX10_meetCache_22 w6_129 i_X3_shapeFromTop (lk_18 hPy7) ⟨Nat.le_of_ble_eq_true rfl, Nat.le_of_ble_eq_true rfl⟩ rfl (Nat.le_of_ble_eq_true rfl) (Nat.le_of_ble_eq_true rfl) (Nat.le_of_ble_eq_true rfl) (cy8) ?_
    have hPy8 := cy8.1.1
    obtain ⟨y9, qy9, h⟩ := bindE h
    have cy9 := v_X0_meet hPy8 qy9
    refine C_V2o dX10_meetCache_25 w6_130 i_X0_meet (lk_39 hPy8) ⟨Nat.le_of_ble_eq_true rfl, Nat.le_of_ble_eq_true rfl⟩ rfl (Nat.le_of_ble_eq_true rfl) (Nat.le_of_ble_eq_true rfl) (Nat.le_of_ble_eq_true rfl) (cy9) ?_
    have hPy9 := cy9.1.1
    refine Y_goto (tgt := 89) dX10_meetCache_28 (by decide) ?_
    cases h
    exact Y_vret rfl dX10_meetCache_89 hPy9 ⟨rfl, rfl⟩
theorem v_X10_meetCache {x1 : Int32} {M z} (hP : Lay M) (h : d_X10_meetCache x1 M = some z) : CC Lay k_X10_meetCache [.ref 38, .int x1] M z.2 (Qv (none) z.2) xF :=
  CC.ofVV (by decide) rfl (Nat.le_of_ble_eq_true rfl) (b_X10_meetCache hP h)
end VCR
