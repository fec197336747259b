/-! ===== what the methods reckon (printed by a program) ===== -/
section VCR
noncomputable def d_X4_bitsOf_142 (x2 : Int64) (x4 : UInt64) (x6 : Int64) (M : Mem) : Option (Int64 × Mem) :=
  bnd ((FP.d2l x4)) fun b1 =>
  if 0 ≤ (lg_cmp b1 (4503599627370496 : Int64)) then (
    some (((x2 ||| (x6 <<< ((52 : Int32).toInt64 &&& 63))) ||| (b1 &&& (4503599627370495 : Int64))), M))
  else (
    some ((x2 ||| b1), M))
theorem b_X4_bitsOf_142 {x2 : Int64} {x4 : UInt64} {x6 : Int64} {M z} (hP : Lay M) (h : d_X4_bitsOf_142 x2 x4 x6 M = some z) : VV Lay k_X4_bitsOf 142 [(2, .long x2), (4, .double x4), (6, .long x6)] [] M z.2 (Qv (some (.long z.1)) z.2) xF := by
  unfold d_X4_bitsOf_142 at h
  refine Y_dload (pc := 142) (j := 1) dX4_bitsOf_142 rfl ?_
  refine Y_d2l (pc := 144) dX4_bitsOf_144 ?_
  obtain ⟨b1, eb1, h⟩ := bndE h
  refine VV.topL eb1 ?_
  refine Y_lstore (pc := 145) (lv1 := [(8, .long b1), (2, .long x2), (4, .double x4), (6, .long x6)]) dX4_bitsOf_145 (by decide) rfl ?_
  refine Y_lload (pc := 147) (j := 0) dX4_bitsOf_147 rfl ?_
  refine Y_ldc2 (pc := 149) dX4_bitsOf_149 w7_46 ?_
  refine Y_lcmp (pc := 152) dX4_bitsOf_152 ?_
  refine Y_if_ge (pc := 153) (tgt := 161) dX4_bitsOf_153 (by decide) (fun hc1 => ?_) (fun hc1 => ?_)
  · replace h := ifT hc1 h
    refine Y_lload_n (pc := 161) (j := 1) dX4_bitsOf_161 rfl rfl ?_
    refine Y_lload (pc := 162) (j := 3) dX4_bitsOf_162 rfl ?_
    refine Y_bipush (pc := 164) (v := (52 : Int32)) dX4_bitsOf_164 rfl ?_
    refine Y_lshl (pc := 166) dX4_bitsOf_166 ?_
    refine Y_lor (pc := 167) dX4_bitsOf_167 ?_
    refine Y_lload (pc := 168) (j := 0) dX4_bitsOf_168 rfl ?_
    refine Y_ldc2 (pc := 170) dX4_bitsOf_170 w7_47 ?_
    refine Y_land (pc := 173) dX4_bitsOf_173 ?_
    refine Y_lor (pc := 174) dX4_bitsOf_174 ?_
    cases h
    exact Y_lret (pc := 175) rfl dX4_bitsOf_175 hP ⟨rfl, rfl⟩
  · replace h := ifF hc1 h
    refine Y_lload_n (pc := 156) (j := 1) dX4_bitsOf_156 rfl rfl ?_
    refine Y_lload (pc := 157) (j := 0) dX4_bitsOf_157 rfl ?_
    refine Y_lor (pc := 159) dX4_bitsOf_159 ?_
    cases h
    exact Y_lret (pc := 160) rfl dX4_bitsOf_160 hP ⟨rfl, rfl⟩
noncomputable def d_X4_bitsOf_98b (k98 : (UInt64 × Int64 × Int32) → Mem → Option (Int64 × Mem)) (x2 : Int64) (x4 : UInt64) (x6 : Int64) (x8 : Int32) (M : Mem) : Option (Int64 × Mem) :=
  if (2000 : Int32) ≤ x8 then (
    d_X4_bitsOf_142 x2 x4 x6 M)
  else (
    if 0 ≤ (Op.cmpValue (FP.dcmp x4 (4841369599423283200 : UInt64)) .g) then (
      d_X4_bitsOf_142 x2 x4 x6 M)
    else (
      if (lg_cmp x6 (1 : Int64)) ≤ 0 then (
        d_X4_bitsOf_142 x2 x4 x6 M)
      else (
        bnd ((FP.dmul x4 (4611686018427387904 : UInt64))) fun b1 =>
        bnd ((x6 - (1 : Int64))) fun b2 =>
        bnd ((x8 + (1 : Int32))) fun b3 =>
        k98 (b1, b2, b3) M)))
theorem b_X4_bitsOf_98b {k98 : (UInt64 × Int64 × Int32) → Mem → Option (Int64 × Mem)} {x2 : Int64} {x4 : UInt64} {x6 : Int64} {x8 : Int32} {M z} (hk98 : ∀ (a : (UInt64 × Int64 × Int32)) (M : Mem) (z : Int64 × Mem), Lay M → k98 a M = some z → VV Lay k_X4_bitsOf 98 [(2, .long x2), (4, .double a.1), (6, .long a.2.1), (8, .int a.2.2)] [] M z.2 (Qv (some (.long z.1)) z.2) xF) (hP : Lay M) (h : d_X4_bitsOf_98b k98 x2 x4 x6 x8 M = some z) : VV Lay k_X4_bitsOf 98 [(2, .long x2), (4, .double x4), (6, .long x6), (8, .int x8)] [] M z.2 (Qv (some (.long z.1)) z.2) xF := by
  unfold d_X4_bitsOf_98b at h
  refine Y_iload (pc := 98) (j := 3) dX4_bitsOf_98 rfl ?_
  refine Y_sipush (pc := 100) (v := (2000 : Int32)) dX4_bitsOf_100 rfl ?_
  refine Y_icmp_ge (pc := 103) (tgt := 142) dX4_bitsOf_103 (by decide) (fun hc1 => ?_) (fun hc1 => ?_)
  · replace h := ifT hc1 h
    refine VV.sub [0, 1, 2] rfl ?_
    exact b_X4_bitsOf_142  hP h
  · replace h := ifF hc1 h
    refine Y_dload (pc := 106) (j := 1) dX4_bitsOf_106 rfl ?_
    refine Y_ldc2d (pc := 108) (by decide) dX4_bitsOf_108 w7_45 ?_
    refine Y_dcmp (pc := 111) dX4_bitsOf_111 ?_
    refine Y_if_ge (pc := 112) (tgt := 142) dX4_bitsOf_112 (by decide) (fun hc2 => ?_) (fun hc2 => ?_)
    · replace h := ifT hc2 h
      refine VV.sub [0, 1, 2] rfl ?_
      exact b_X4_bitsOf_142  hP h
    · replace h := ifF hc2 h
      refine Y_lload (pc := 115) (j := 2) dX4_bitsOf_115 rfl ?_
      refine Y_lconst (pc := 117) (v := (1 : Int64)) dX4_bitsOf_117 rfl ?_
      refine Y_lcmp (pc := 118) dX4_bitsOf_118 ?_
      refine Y_if_le (pc := 119) (tgt := 142) dX4_bitsOf_119 (by decide) (fun hc3 => ?_) (fun hc3 => ?_)
      · replace h := ifT hc3 h
        refine VV.sub [0, 1, 2] rfl ?_
        exact b_X4_bitsOf_142  hP h
      · replace h := ifF hc3 h
        refine Y_dload (pc := 122) (j := 1) dX4_bitsOf_122 rfl ?_
        refine Y_ldc2d (pc := 124) (by decide) dX4_bitsOf_124 w6_47 ?_
        refine Y_dmul (pc := 127) dX4_bitsOf_127 ?_
        obtain ⟨b1, eb1, h⟩ := bndE h
        refine VV.topD eb1 ?_
        refine Y_dstore (pc := 128) (lv1 := [(4, .double b1), (2, .long x2), (6, .long x6), (8, .int x8)]) dX4_bitsOf_128 (by decide) rfl ?_
        refine Y_lload (pc := 130) (j := 2) dX4_bitsOf_130 rfl ?_
        refine Y_lconst (pc := 132) (v := (1 : Int64)) dX4_bitsOf_132 rfl ?_
        refine Y_lsub (pc := 133) dX4_bitsOf_133 ?_
        obtain ⟨b2, eb2, h⟩ := bndE h
        refine VV.topL eb2 ?_
        refine Y_lstore (pc := 134) (lv1 := [(6, .long b2), (4, .double b1), (2, .long x2), (8, .int x8)]) dX4_bitsOf_134 (by decide) rfl ?_
        obtain ⟨b3, eb3, h⟩ := bndE h
        refine Y_iinc (pc := 136) (j := 3) (v := b3) (lv1 := [(8, .int b3), (6, .long b2), (4, .double b1), (2, .long x2)]) dX4_bitsOf_136 rfl eb3.symm (by decide) rfl ?_
        refine Y_goto (pc := 139) (tgt := 98) dX4_bitsOf_139 (by decide) ?_
        refine VV.sub [3, 2, 1, 0] rfl ?_
        exact hk98 _ _ _ hP h
noncomputable def d_X4_bitsOf_98 (x2 : Int64) : Nat → (UInt64 × Int64 × Int32) → Mem → Option (Int64 × Mem) := lp fun k a M => d_X4_bitsOf_98b k x2 a.1 a.2.1 a.2.2 M
theorem b_X4_bitsOf_98 {x2 : Int64} (n : Nat) : ∀ (a : (UInt64 × Int64 × Int32)) (M : Mem) (z : Int64 × Mem), d_X4_bitsOf_98 x2 n a M = some z → Lay M → VV Lay k_X4_bitsOf 98 [(2, .long x2), (4, .double a.1), (6, .long a.2.1), (8, .int a.2.2)] [] M z.2 (Qv (some (.long z.1)) z.2) xF :=
  lp_ind (G := fun (a : (UInt64 × Int64 × Int32)) (M : Mem) (z : Int64 × Mem) => Lay M → VV Lay k_X4_bitsOf 98 [(2, .long x2), (4, .double a.1), (6, .long a.2.1), (8, .int a.2.2)] [] M z.2 (Qv (some (.long z.1)) z.2) xF) (fun k hk a M z h hP => b_X4_bitsOf_98b  (fun a M z hP h => hk a M z h hP) hP h) n
noncomputable def d_X4_bitsOf_95 (x2 : Int64) (x4 : UInt64) (x6 : Int64) (M : Mem) : Option (Int64 × Mem) :=
  d_X4_bitsOf_98 x2 fuel (x4, x6, (0 : Int32)) M
theorem b_X4_bitsOf_95 {x2 : Int64} {x4 : UInt64} {x6 : Int64} {M z} (hP : Lay M) (h : d_X4_bitsOf_95 x2 x4 x6 M = some z) : VV Lay k_X4_bitsOf 95 [(2, .long x2), (4, .double x4), (6, .long x6)] [] M z.2 (Qv (some (.long z.1)) z.2) xF := by
  unfold d_X4_bitsOf_95 at h
  refine Y_iconst (pc := 95) (v := (0 : Int32)) dX4_bitsOf_95 rfl ?_
  refine Y_istore (pc := 96) (lv1 := [(8, .int (0 : Int32)), (2, .long x2), (4, .double x4), (6, .long x6)]) dX4_bitsOf_96 (by decide) rfl ?_
  refine VV.sub [1, 2, 3, 0] rfl ?_
  exact b_X4_bitsOf_98  fuel _ _ _ h hP
noncomputable def d_X4_bitsOf_58b (k58 : (UInt64 × Int64 × Int32) → Mem → Option (Int64 × Mem)) (x2 : Int64) (x4 : UInt64) (x6 : Int64) (x8 : Int32) (M : Mem) : Option (Int64 × Mem) :=
  if (2000 : Int32) ≤ x8 then (
    d_X4_bitsOf_95 x2 x4 x6 M)
  else (
    if (Op.cmpValue (FP.dcmp x4 (4845873199050653696 : UInt64)) .l) < 0 then (
      d_X4_bitsOf_95 x2 x4 x6 M)
    else (
      bnd ((FP.ddiv x4 (4611686018427387904 : UInt64))) fun b1 =>
      bnd ((x6 + (1 : Int64))) fun b2 =>
      bnd ((x8 + (1 : Int32))) fun b3 =>
      k58 (b1, b2, b3) M))
theorem b_X4_bitsOf_58b {k58 : (UInt64 × Int64 × Int32) → Mem → Option (Int64 × Mem)} {x2 : Int64} {x4 : UInt64} {x6 : Int64} {x8 : Int32} {M z} (hk58 : ∀ (a : (UInt64 × Int64 × Int32)) (M : Mem) (z : Int64 × Mem), Lay M → k58 a M = some z → VV Lay k_X4_bitsOf 58 [(2, .long x2), (4, .double a.1), (6, .long a.2.1), (8, .int a.2.2)] [] M z.2 (Qv (some (.long z.1)) z.2) xF) (hP : Lay M) (h : d_X4_bitsOf_58b k58 x2 x4 x6 x8 M = some z) : VV Lay k_X4_bitsOf 58 [(2, .long x2), (4, .double x4), (6, .long x6), (8, .int x8)] [] M z.2 (Qv (some (.long z.1)) z.2) xF := by
  unfold d_X4_bitsOf_58b at h
  refine Y_iload (pc := 58) (j := 3) dX4_bitsOf_58 rfl ?_
  refine Y_sipush (pc := 60) (v := (2000 : Int32)) dX4_bitsOf_60 rfl ?_
  refine Y_icmp_ge (pc := 63) (tgt := 95) dX4_bitsOf_63 (by decide) (fun hc1 => ?_) (fun hc1 => ?_)
  · replace h := ifT hc1 h
    refine VV.sub [0, 1, 2] rfl ?_
    exact b_X4_bitsOf_95  hP h
  · replace h := ifF hc1 h
    refine Y_dload (pc := 66) (j := 1) dX4_bitsOf_66 rfl ?_
    refine Y_ldc2d (pc := 68) (by decide) dX4_bitsOf_68 w7_44 ?_
    refine Y_dcmp (pc := 71) dX4_bitsOf_71 ?_
    refine Y_if_lt (pc := 72) (tgt := 95) dX4_bitsOf_72 (by decide) (fun hc2 => ?_) (fun hc2 => ?_)
    · replace h := ifT hc2 h
      refine VV.sub [0, 1, 2] rfl ?_
      exact b_X4_bitsOf_95  hP h
    · replace h := ifF hc2 h
      refine Y_dload (pc := 75) (j := 1) dX4_bitsOf_75 rfl ?_
      refine Y_ldc2d (pc := 77) (by decide) dX4_bitsOf_77 w6_47 ?_
      refine Y_ddiv (pc := 80) dX4_bitsOf_80 ?_
      obtain ⟨b1, eb1, h⟩ := bndE h
      refine VV.topD eb1 ?_
      refine Y_dstore (pc := 81) (lv1 := [(4, .double b1), (2, .long x2), (6, .long x6), (8, .int x8)]) dX4_bitsOf_81 (by decide) rfl ?_
      refine Y_lload (pc := 83) (j := 2) dX4_bitsOf_83 rfl ?_
      refine Y_lconst (pc := 85) (v := (1 : Int64)) dX4_bitsOf_85 rfl ?_
      refine Y_ladd (pc := 86) dX4_bitsOf_86 ?_
      obtain ⟨b2, eb2, h⟩ := bndE h
      refine VV.topL eb2 ?_
      refine Y_lstore (pc := 87) (lv1 := [(6, .long b2), (4, .double b1), (2, .long x2), (8, .int x8)]) dX4_bitsOf_87 (by decide) rfl ?_
      obtain ⟨b3, eb3, h⟩ := bndE h
      refine Y_iinc (pc := 89) (j := 3) (v := b3) (lv1 := [(8, .int b3), (6, .long b2), (4, .double b1), (2, .long x2)]) dX4_bitsOf_89 rfl eb3.symm (by decide) rfl ?_
      refine Y_goto (pc := 92) (tgt := 58) dX4_bitsOf_92 (by decide) ?_
      refine VV.sub [3, 2, 1, 0] rfl ?_
      exact hk58 _ _ _ hP h
noncomputable def d_X4_bitsOf_58 (x2 : Int64) : Nat → (UInt64 × Int64 × Int32) → Mem → Option (Int64 × Mem) := lp fun k a M => d_X4_bitsOf_58b k x2 a.1 a.2.1 a.2.2 M
theorem b_X4_bitsOf_58 {x2 : Int64} (n : Nat) : ∀ (a : (UInt64 × Int64 × Int32)) (M : Mem) (z : Int64 × Mem), d_X4_bitsOf_58 x2 n a M = some z → Lay M → VV Lay k_X4_bitsOf 58 [(2, .long x2), (4, .double a.1), (6, .long a.2.1), (8, .int a.2.2)] [] M z.2 (Qv (some (.long z.1)) z.2) xF :=
  lp_ind (G := fun (a : (UInt64 × Int64 × Int32)) (M : Mem) (z : Int64 × Mem) => Lay M → VV Lay k_X4_bitsOf 58 [(2, .long x2), (4, .double a.1), (6, .long a.2.1), (8, .int a.2.2)] [] M z.2 (Qv (some (.long z.1)) z.2) xF) (fun k hk a M z h hP => b_X4_bitsOf_58b  (fun a M z hP h => hk a M z h hP) hP h) n
noncomputable def d_X4_bitsOf_48 (x2 : Int64) (s0 : UInt64) (M : Mem) : Option (Int64 × Mem) :=
  bnd ((1075 : Int64)) fun b1 =>
  d_X4_bitsOf_58 x2 fuel (s0, b1, (0 : Int32)) M
theorem b_X4_bitsOf_48 {x2 : Int64} {s0 : UInt64} {M z} (hP : Lay M) (h : d_X4_bitsOf_48 x2 s0 M = some z) : VV Lay k_X4_bitsOf 48 [(2, .long x2)] [.double s0] M z.2 (Qv (some (.long z.1)) z.2) xF := by
  unfold d_X4_bitsOf_48 at h
  refine Y_dstore (pc := 48) (lv1 := [(4, .double s0), (2, .long x2)]) dX4_bitsOf_48 (by decide) rfl ?_
  refine Y_ldc2 (pc := 50) dX4_bitsOf_50 w7_43 ?_
  obtain ⟨b1, eb1, h⟩ := bndE h
  refine VV.topL eb1 ?_
  refine Y_lstore (pc := 53) (lv1 := [(6, .long b1), (4, .double s0), (2, .long x2)]) dX4_bitsOf_53 (by decide) rfl ?_
  refine Y_iconst (pc := 55) (v := (0 : Int32)) dX4_bitsOf_55 rfl ?_
  refine Y_istore (pc := 56) (lv1 := [(8, .int (0 : Int32)), (6, .long b1), (4, .double s0), (2, .long x2)]) dX4_bitsOf_56 (by decide) rfl ?_
  refine VV.sub [3, 2, 1, 0] rfl ?_
  exact b_X4_bitsOf_58  fuel _ _ _ h hP
noncomputable def d_X4_bitsOf_14 (x0 : UInt64) (s0 : Int64) (M : Mem) : Option (Int64 × Mem) :=
  if (Op.cmpValue (FP.dcmp x0 FP.dconst0) .l) = 0 then (
    some (s0, M))
  else (
    (d_X4_isEndless x0 M).bind fun y1 =>
    if y1.1 = 0 then (
      if 0 ≤ (Op.cmpValue (FP.dcmp x0 FP.dconst0) .g) then (
        d_X4_bitsOf_48 s0 x0 y1.2)
      else (
        d_X4_bitsOf_48 s0 (FP.dneg x0) y1.2))
    else (
      some ((s0 ||| (9218868437227405312 : Int64)), y1.2)))
theorem b_X4_bitsOf_14 {x0 : UInt64} {s0 : Int64} {M z} (hP : Lay M) (h : d_X4_bitsOf_14 x0 s0 M = some z) : VV Lay k_X4_bitsOf 14 [(0, .double x0)] [.long s0] M z.2 (Qv (some (.long z.1)) z.2) xF := by
  unfold d_X4_bitsOf_14 at h
  refine Y_lstore_n (pc := 14) (lv1 := [(2, .long s0), (0, .double x0)]) dX4_bitsOf_14 rfl (by decide) rfl ?_
  refine Y_dload_n (pc := 15) (j := 1) dX4_bitsOf_15 rfl rfl ?_
  refine Y_dconst0 (pc := 16) dX4_bitsOf_16 ?_
  refine Y_dcmp (pc := 17) dX4_bitsOf_17 ?_
  refine Y_if_ne (pc := 18) (tgt := 23) dX4_bitsOf_18 (by decide) (fun hc1 => ?_) (fun hc1 => ?_)
  · replace h := ifF hc1 h
    refine Y_dload_n (pc := 23) (j := 1) dX4_bitsOf_23 rfl rfl ?_
    obtain ⟨y1, qy1, h⟩ := bindE h
    have cy1 := v_X4_isEndless hP qy1
    refine C_S1r (pc := 24) (k' := k_X4_isEndless) dX4_bitsOf_24 w6_36 i_X4_isEndless (Nat.le_of_ble_eq_true rfl) (Nat.le_of_ble_eq_true rfl) (Nat.le_of_ble_eq_true rfl) (cy1) ?_
    have hPy1 := cy1.1.1
    refine Y_if_eq (pc := 27) (tgt := 36) dX4_bitsOf_27 (by decide) (fun hc2 => ?_) (fun hc2 => ?_)
    · replace h := ifT hc2 h
      refine Y_dload_n (pc := 36) (j := 1) dX4_bitsOf_36 rfl rfl ?_
      refine Y_dconst0 (pc := 37) dX4_bitsOf_37 ?_
      refine Y_dcmp (pc := 38) dX4_bitsOf_38 ?_
      refine Y_if_ge (pc := 39) (tgt := 47) dX4_bitsOf_39 (by decide) (fun hc3 => ?_) (fun hc3 => ?_)
      · replace h := ifT hc3 h
        refine Y_dload_n (pc := 47) (j := 1) dX4_bitsOf_47 rfl rfl ?_
        refine VV.sub [0] rfl ?_
        exact b_X4_bitsOf_48  hPy1 h
      · replace h := ifF hc3 h
        refine Y_dload_n (pc := 42) (j := 1) dX4_bitsOf_42 rfl rfl ?_
        refine Y_dneg (pc := 43) dX4_bitsOf_43 ?_
        refine Y_goto (pc := 44) (tgt := 48) dX4_bitsOf_44 (by decide) ?_
        refine VV.sub [0] rfl ?_
        exact b_X4_bitsOf_48  hPy1 h
    · replace h := ifF hc2 h
      refine Y_lload_n (pc := 30) (j := 0) dX4_bitsOf_30 rfl rfl ?_
      refine Y_ldc2 (pc := 31) dX4_bitsOf_31 w7_42 ?_
      refine Y_lor (pc := 34) dX4_bitsOf_34 ?_
      cases h
      exact Y_lret (pc := 35) rfl dX4_bitsOf_35 hPy1 ⟨rfl, rfl⟩
  · replace h := ifT hc1 h
    refine Y_lload_n (pc := 21) (j := 0) dX4_bitsOf_21 rfl rfl ?_
    cases h
    exact Y_lret (pc := 22) rfl dX4_bitsOf_22 hP ⟨rfl, rfl⟩
noncomputable def d_X4_bitsOf (x0 : UInt64) (M : Mem) : Option (Int64 × Mem) :=
  (d_X4_isNegative x0 M).bind fun y1 =>
  if y1.1 = 0 then (
    d_X4_bitsOf_14 x0 (0 : Int64) y1.2)
  else (
    d_X4_bitsOf_14 x0 (-9223372036854775808 : Int64) y1.2)
theorem b_X4_bitsOf {x0 : UInt64} {M z} (hP : Lay M) (h : d_X4_bitsOf x0 M = some z) : VV Lay k_X4_bitsOf 0 [(0, .double x0)] [] M z.2 (Qv (some (.long z.1)) z.2) xF := by
  unfold d_X4_bitsOf at h
  refine Y_dload_n (pc := 0) (j := 0) dX4_bitsOf_0 rfl rfl ?_
  obtain ⟨y1, qy1, h⟩ := bindE h
  have cy1 := v_X4_isNegative hP qy1
  refine C_S1r (pc := 1) (k' := k_X4_isNegative) dX4_bitsOf_1 w7_40 i_X4_isNegative (Nat.le_of_ble_eq_true rfl) (Nat.le_of_ble_eq_true rfl) (Nat.le_of_ble_eq_true rfl) (cy1) ?_
  have hPy1 := cy1.1.1
  refine Y_if_eq (pc := 4) (tgt := 13) dX4_bitsOf_4 (by decide) (fun hc1 => ?_) (fun hc1 => ?_)
  · replace h := ifT hc1 h
    refine Y_lconst (pc := 13) (v := (0 : Int64)) dX4_bitsOf_13 rfl ?_
    refine VV.sub [0] rfl ?_
    exact b_X4_bitsOf_14  hPy1 h
  · replace h := ifF hc1 h
    refine Y_ldc2 (pc := 7) dX4_bitsOf_7 w7_41 ?_
    refine Y_goto (pc := 10) (tgt := 14) dX4_bitsOf_10 (by decide) ?_
    refine VV.sub [0] rfl ?_
    exact b_X4_bitsOf_14  hPy1 h
theorem v_X4_bitsOf {x0 : UInt64} {M z} (hP : Lay M) (h : d_X4_bitsOf x0 M = some z) : CC Lay k_X4_bitsOf [.double x0] M z.2 (Qv (some (.long z.1)) z.2) xF :=
  CC.ofVV (by decide) rfl (Nat.le_of_ble_eq_true rfl) (b_X4_bitsOf hP h)
noncomputable def d_X5_init (r0 : Nat) (M : Mem) : Option (Unit × Mem) :=
  bnd (nx M) fun r_1 => okk (r_1 < 2147483648) <|
  bnd (sN M r_1 21 8) fun M1 =>
  okk (mK M1 r0 = 5) <|
  bnd (sR M1 r0 0 (some r_1)) fun M2 =>
  bnd (nx M2) fun r_2 => okk (r_2 < 2147483648) <|
  bnd (sN M2 r_2 21 8) fun M3 =>
  okk (mK M3 r0 = 5) <|
  bnd (sR M3 r0 1 (some r_2)) fun M4 =>
  bnd (nx M4) fun r_3 => okk (r_3 < 2147483648) <|
  bnd (sN M4 r_3 21 8) fun M5 =>
  okk (mK M5 r0 = 5) <|
  bnd (sR M5 r0 2 (some r_3)) fun M6 =>
  bnd (nx M6) fun r_4 => okk (r_4 < 2147483648) <|
  bnd (sN M6 r_4 22 320) fun M7 =>
  okk (mK M7 r0 = 5) <|
  bnd (sR M7 r0 3 (some r_4)) fun M8 =>
  bnd (nx M8) fun r_5 => okk (r_5 < 2147483648) <|
  bnd (sN M8 r_5 21 320) fun M9 =>
  okk (mK M9 r0 = 5) <|
  bnd (sR M9 r0 4 (some r_5)) fun M10 =>
  bnd (nx M10) fun r_6 => okk (r_6 < 2147483648) <|
  bnd (sN M10 r_6 21 8) fun M11 =>
  okk (mK M11 r0 = 5) <|
  bnd (sR M11 r0 5 (some r_6)) fun M12 =>
  bnd (nx M12) fun r_7 => okk (r_7 < 2147483648) <|
  bnd (sN M12 r_7 21 5) fun M13 =>
  okk (mK M13 r0 = 5) <|
  bnd (sR M13 r0 6 (some r_7)) fun M14 =>
  bnd (nx M14) fun r_8 => okk (r_8 < 2147483648) <|
  bnd (sN M14 r_8 21 30) fun M15 =>
  okk (mK M15 r0 = 5) <|
  bnd (sR M15 r0 7 (some r_8)) fun M16 =>
  okk (mK M16 r0 = 5) <|
  (mR M16 r0 2).bind fun r_9 =>
  (d_J7_fill_53178 r_9 (-1 : Int32) M16).bind fun y1 =>
  okk (mK y1.2 r0 = 5) <|
  (mR y1.2 r0 7).bind fun r_10 =>
  (d_J7_fill_53178 r_10 (-1 : Int32) y1.2).bind fun y2 =>
  some ((), y2.2)
theorem b_X5_init {M0 : Mem} {r0 : Nat} {M z} (hP : (Kx r0 M0) M) (h : d_X5_init r0 M = some z) : VV (Kx r0 M0) k_X5_init 0 [(0, .ref r0)] [] M z.2 (Qv (none) z.2) xF := by
  unfold d_X5_init at h
  refine Y_aload_n (pc := 0) (j := 0) dX5_init_0 rfl rfl ?_
  refine Y_oinit (pc := 1) dX5_init_1 w1_48 (Nat.le_of_ble_eq_true rfl) (Nat.le_of_ble_eq_true rfl) (Nat.le_of_ble_eq_true rfl) ?_
  refine Y_aload_n (pc := 4) (j := 0) dX5_init_4 rfl rfl ?_
  refine Y_bipush (pc := 5) (v := (8 : Int32)) dX5_init_5 rfl ?_
  obtain ⟨r_1, er_1, h⟩ := bndE h
  obtain ⟨hb1, h⟩ := okE h
  refine Y_newa (pc := 7) (a := r_1) (t := 21) (N := 8) dX5_init_7 (by decide) (by decide) rfl w1_100 (hP.free er_1) hb1 (by decide) rfl (by decide) ?_
  obtain ⟨M1, eM1, h⟩ := bndE h
  refine VV.mem eM1 ?_
  have hP1 := hP.wN er_1 (by decide) eM1
  obtain ⟨hb2, h⟩ := okE h
  refine Z_putr (pc := 9) dX5_init_9 w1_52 hb2 fr_5_0 (Or.inr ⟨rfl, rfl⟩) (Or.inr ⟨_, rfl⟩) ?_
  obtain ⟨M2, eM2, h⟩ := bndE h
  refine VV.mem eM2 ?_
  have hP2 := hP1.wR0 (by omega) eM2
  refine Y_aload_n (pc := 12) (j := 0) dX5_init_12 rfl rfl ?_
  refine Y_bipush (pc := 13) (v := (8 : Int32)) dX5_init_13 rfl ?_
  obtain ⟨r_2, er_2, h⟩ := bndE h
  obtain ⟨hb3, h⟩ := okE h
  refine Y_newa (pc := 15) (a := r_2) (t := 21) (N := 8) dX5_init_15 (by decide) (by decide) rfl w1_100 (hP2.free er_2) hb3 (by decide) rfl (by decide) ?_
  obtain ⟨M3, eM3, h⟩ := bndE h
  refine VV.mem eM3 ?_
  have hP3 := hP2.wN er_2 (by decide) eM3
  obtain ⟨hb4, h⟩ := okE h
  refine Z_putr (pc := 17) dX5_init_17 w1_56 hb4 fr_5_1 (Or.inr ⟨rfl, rfl⟩) (Or.inr ⟨_, rfl⟩) ?_
  obtain ⟨M4, eM4, h⟩ := bndE h
  refine VV.mem eM4 ?_
  have hP4 := hP3.wR0 (by omega) eM4
  refine Y_aload_n (pc := 20) (j := 0) dX5_init_20 rfl rfl ?_
  refine Y_bipush (pc := 21) (v := (8 : Int32)) dX5_init_21 rfl ?_
  obtain ⟨r_3, er_3, h⟩ := bndE h
  obtain ⟨hb5, h⟩ := okE h
  refine Y_newa (pc := 23) (a := r_3) (t := 21) (N := 8) dX5_init_23 (by decide) (by decide) rfl w1_100 (hP4.free er_3) hb5 (by decide) rfl (by decide) ?_
  obtain ⟨M5, eM5, h⟩ := bndE h
  refine VV.mem eM5 ?_
  have hP5 := hP4.wN er_3 (by decide) eM5
  obtain ⟨hb6, h⟩ := okE h
  refine Z_putr (pc := 25) dX5_init_25 w1_58 hb6 fr_5_2 (Or.inr ⟨rfl, rfl⟩) (Or.inr ⟨_, rfl⟩) ?_
  obtain ⟨M6, eM6, h⟩ := bndE h
  refine VV.mem eM6 ?_
  have hP6 := hP5.wR0 (by omega) eM6
  refine Y_aload_n (pc := 28) (j := 0) dX5_init_28 rfl rfl ?_
  refine Y_sipush (pc := 29) (v := (320 : Int32)) dX5_init_29 rfl ?_
  obtain ⟨r_4, er_4, h⟩ := bndE h
  obtain ⟨hb7, h⟩ := okE h
  refine Y_newa (pc := 32) (a := r_4) (t := 22) (N := 320) dX5_init_32 (by decide) (by decide) rfl w1_101 (hP6.free er_4) hb7 (by decide) rfl (by decide) ?_
  obtain ⟨M7, eM7, h⟩ := bndE h
  refine VV.mem eM7 ?_
  have hP7 := hP6.wN er_4 (by decide) eM7
  obtain ⟨hb8, h⟩ := okE h
  refine Z_putr (pc := 34) dX5_init_34 w1_61 hb8 fr_5_3 (Or.inr ⟨rfl, rfl⟩) (Or.inr ⟨_, rfl⟩) ?_
  obtain ⟨M8, eM8, h⟩ := bndE h
  refine VV.mem eM8 ?_
  have hP8 := hP7.wR0 (by omega) eM8
  refine Y_aload_n (pc := 37) (j := 0) dX5_init_37 rfl rfl ?_
  refine Y_sipush (pc := 38) (v := (320 : Int32)) dX5_init_38 rfl ?_
  obtain ⟨r_5, er_5, h⟩ := bndE h
  obtain ⟨hb9, h⟩ := okE h
  refine Y_newa (pc := 41) (a := r_5) (t := 21) (N := 320) dX5_init_41 (by decide) (by decide) rfl w1_100 (hP8.free er_5) hb9 (by decide) rfl (by decide) ?_
  obtain ⟨M9, eM9, h⟩ := bndE h
  refine VV.mem eM9 ?_
  have hP9 := hP8.wN er_5 (by decide) eM9
  obtain ⟨hb10, h⟩ := okE h
  refine Z_putr (pc := 43) dX5_init_43 w1_66 hb10 fr_5_4 (Or.inr ⟨rfl, rfl⟩) (Or.inr ⟨_, rfl⟩) ?_
  obtain ⟨M10, eM10, h⟩ := bndE h
  refine VV.mem eM10 ?_
  have hP10 := hP9.wR0 (by omega) eM10
  refine Y_aload_n (pc := 46) (j := 0) dX5_init_46 rfl rfl ?_
  refine Y_bipush (pc := 47) (v := (8 : Int32)) dX5_init_47 rfl ?_
  obtain ⟨r_6, er_6, h⟩ := bndE h
  obtain ⟨hb11, h⟩ := okE h
  refine Y_newa (pc := 49) (a := r_6) (t := 21) (N := 8) dX5_init_49 (by decide) (by decide) rfl w1_100 (hP10.free er_6) hb11 (by decide) rfl (by decide) ?_
  obtain ⟨M11, eM11, h⟩ := bndE h
  refine VV.mem eM11 ?_
  have hP11 := hP10.wN er_6 (by decide) eM11
  obtain ⟨hb12, h⟩ := okE h
  refine Z_putr (pc := 51) dX5_init_51 w1_69 hb12 fr_5_5 (Or.inr ⟨rfl, rfl⟩) (Or.inr ⟨_, rfl⟩) ?_
  obtain ⟨M12, eM12, h⟩ := bndE h
  refine VV.mem eM12 ?_
  have hP12 := hP11.wR0 (by omega) eM12
  refine Y_aload_n (pc := 54) (j := 0) dX5_init_54 rfl rfl ?_
  refine Y_iconst (pc := 55) (v := (5 : Int32)) dX5_init_55 rfl ?_
  obtain ⟨r_7, er_7, h⟩ := bndE h
  obtain ⟨hb13, h⟩ := okE h
  refine Y_newa (pc := 56) (a := r_7) (t := 21) (N := 5) dX5_init_56 (by decide) (by decide) rfl w1_100 (hP12.free er_7) hb13 (by decide) rfl (by decide) ?_
  obtain ⟨M13, eM13, h⟩ := bndE h
  refine VV.mem eM13 ?_
  have hP13 := hP12.wN er_7 (by decide) eM13
  obtain ⟨hb14, h⟩ := okE h
  refine Z_putr (pc := 58) dX5_init_58 w1_72 hb14 fr_5_6 (Or.inr ⟨rfl, rfl⟩) (Or.inr ⟨_, rfl⟩) ?_
  obtain ⟨M14, eM14, h⟩ := bndE h
  refine VV.mem eM14 ?_
  have hP14 := hP13.wR0 (by omega) eM14
  refine Y_aload_n (pc := 61) (j := 0) dX5_init_61 rfl rfl ?_
  refine Y_bipush (pc := 62) (v := (30 : Int32)) dX5_init_62 rfl ?_
  obtain ⟨r_8, er_8, h⟩ := bndE h
  obtain ⟨hb15, h⟩ := okE h
  refine Y_newa (pc := 64) (a := r_8) (t := 21) (N := 30) dX5_init_64 (by decide) (by decide) rfl w1_100 (hP14.free er_8) hb15 (by decide) rfl (by decide) ?_
  obtain ⟨M15, eM15, h⟩ := bndE h
  refine VV.mem eM15 ?_
  have hP15 := hP14.wN er_8 (by decide) eM15
  obtain ⟨hb16, h⟩ := okE h
  refine Z_putr (pc := 66) dX5_init_66 w1_73 hb16 fr_5_7 (Or.inr ⟨rfl, rfl⟩) (Or.inr ⟨_, rfl⟩) ?_
  obtain ⟨M16, eM16, h⟩ := bndE h
  refine VV.mem eM16 ?_
  have hP16 := hP15.wR0 (by omega) eM16
  refine Y_aload_n (pc := 69) (j := 0) dX5_init_69 rfl rfl ?_
  obtain ⟨hb17, h⟩ := okE h
  obtain ⟨r_9, er_9, h⟩ := bindE h
  refine Z_getr (pc := 70) dX5_init_70 w1_58 hb17 fr_5_2 er_9 ?_
  refine Y_iconst (pc := 73) (v := (-1 : Int32)) dX5_init_73 rfl ?_
  obtain ⟨y1, qy1, h⟩ := bindE h
  have cy1 := v_J7_fill_53178 hP16.fsh qy1
  refine C_S2o (pc := 74) (k' := k_J7_fill_53178) dX5_init_74 w1_49 i_J7_fill_53178 (Nat.le_of_ble_eq_true rfl) (Nat.le_of_ble_eq_true rfl) (Nat.le_of_ble_eq_true rfl) (cy1) ?_
  have hPy1 := hP16.jdk cy1.1.1
  refine Y_aload_n (pc := 77) (j := 0) dX5_init_77 rfl rfl ?_
  obtain ⟨hb18, h⟩ := okE h
  obtain ⟨r_10, er_10, h⟩ := bindE h
  refine Z_getr (pc := 78) dX5_init_78 w1_73 hb18 fr_5_7 er_10 ?_
  refine Y_iconst (pc := 81) (v := (-1 : Int32)) dX5_init_81 rfl ?_
  obtain ⟨y2, qy2, h⟩ := bindE h
  have cy2 := v_J7_fill_53178 hPy1.fsh qy2
  refine C_S2o (pc := 82) (k' := k_J7_fill_53178) dX5_init_82 w1_49 i_J7_fill_53178 (Nat.le_of_ble_eq_true rfl) (Nat.le_of_ble_eq_true rfl) (Nat.le_of_ble_eq_true rfl) (cy2) ?_
  have hPy2 := hPy1.jdk cy2.1.1
  cases h
  exact Y_vret (pc := 85) rfl dX5_init_85 hPy2 ⟨rfl, rfl⟩
theorem v_X5_init {r0 : Nat} {M z} (hP : Fsh M) (hr : r0 ≤ nx M) (h : d_X5_init r0 M = some z) : CC (Kx r0 M) k_X5_init [.ref r0] M z.2 (Qv (none) z.2) xF :=
  CC.ofVV (by decide) rfl (Nat.le_of_ble_eq_true rfl) (b_X5_init (Kx.refl hP hr) h)
noncomputable def d_X5_hasFunction (x1 : Int32) (M : Mem) : Option (Int32 × Mem) :=
  if x1 < 0 then (
    some ((0 : Int32), M))
  else (
    if (mI M 2 8) ≤ x1 then (
      some ((0 : Int32), M))
    else (
      some ((1 : Int32), M)))
theorem b_X5_hasFunction {x1 : Int32} {M z} (hP : Lay M) (h : d_X5_hasFunction x1 M = some z) : VV Lay k_X5_hasFunction 0 [(0, .ref 2), (1, .int x1)] [] M z.2 (Qv (some (.int z.1)) z.2) xF := by
  unfold d_X5_hasFunction at h
  refine Y_iload_n (pc := 0) (j := 1) dX5_hasFunction_0 rfl rfl ?_
  refine Y_if_lt (pc := 1) (tgt := 16) dX5_hasFunction_1 (by decide) (fun hc1 => ?_) (fun hc1 => ?_)
  · replace h := ifT hc1 h
    refine Y_iconst (pc := 16) (v := (0 : Int32)) dX5_hasFunction_16 rfl ?_
    cases h
    exact Y_iret (pc := 17) rfl (nar_bo (by decide)) dX5_hasFunction_17 hP ⟨rfl, rfl⟩
  · replace h := ifF hc1 h
    refine Y_iload_n (pc := 4) (j := 1) dX5_hasFunction_4 rfl rfl ?_
    refine Y_aload_n (pc := 5) (j := 0) dX5_hasFunction_5 rfl rfl ?_
    refine Z_geti (pc := 6) dX5_hasFunction_6 w1_75 (lk_2 hP) fi_5_8 ?_
    refine Y_icmp_ge (pc := 9) (tgt := 16) dX5_hasFunction_9 (by decide) (fun hc2 => ?_) (fun hc2 => ?_)
    · replace h := ifT hc2 h
      refine Y_iconst (pc := 16) (v := (0 : Int32)) dX5_hasFunction_16 rfl ?_
      cases h
      exact Y_iret (pc := 17) rfl (nar_bo (by decide)) dX5_hasFunction_17 hP ⟨rfl, rfl⟩
    · replace h := ifF hc2 h
      refine Y_iconst (pc := 12) (v := (1 : Int32)) dX5_hasFunction_12 rfl ?_
      refine Y_goto (pc := 13) (tgt := 17) dX5_hasFunction_13 (by decide) ?_
      cases h
      exact Y_iret (pc := 17) rfl (nar_bo (by decide)) dX5_hasFunction_17 hP ⟨rfl, rfl⟩
theorem v_X5_hasFunction {x1 : Int32} {M z} (hP : Lay M) (h : d_X5_hasFunction x1 M = some z) : CC Lay k_X5_hasFunction [.ref 2, .int x1] M z.2 (Qv (some (.int z.1)) z.2) xF :=
  CC.ofVV (by decide) rfl (Nat.le_of_ble_eq_true rfl) (b_X5_hasFunction hP h)
noncomputable def d_X5_hasClass (x1 : Int32) (M : Mem) : Option (Int32 × Mem) :=
  if x1 < 0 then (
    some ((0 : Int32), M))
  else (
    if (mI M 2 9) ≤ x1 then (
      some ((0 : Int32), M))
    else (
      some ((1 : Int32), M)))
theorem b_X5_hasClass {x1 : Int32} {M z} (hP : Lay M) (h : d_X5_hasClass x1 M = some z) : VV Lay k_X5_hasClass 0 [(0, .ref 2), (1, .int x1)] [] M z.2 (Qv (some (.int z.1)) z.2) xF := by
  unfold d_X5_hasClass at h
  refine Y_iload_n (pc := 0) (j := 1) dX5_hasClass_0 rfl rfl ?_
  refine Y_if_lt (pc := 1) (tgt := 16) dX5_hasClass_1 (by decide) (fun hc1 => ?_) (fun hc1 => ?_)
  · replace h := ifT hc1 h
    refine Y_iconst (pc := 16) (v := (0 : Int32)) dX5_hasClass_16 rfl ?_
    cases h
    exact Y_iret (pc := 17) rfl (nar_bo (by decide)) dX5_hasClass_17 hP ⟨rfl, rfl⟩
  · replace h := ifF hc1 h
    refine Y_iload_n (pc := 4) (j := 1) dX5_hasClass_4 rfl rfl ?_
    refine Y_aload_n (pc := 5) (j := 0) dX5_hasClass_5 rfl rfl ?_
    refine Z_geti (pc := 6) dX5_hasClass_6 w1_77 (lk_2 hP) fi_5_9 ?_
    refine Y_icmp_ge (pc := 9) (tgt := 16) dX5_hasClass_9 (by decide) (fun hc2 => ?_) (fun hc2 => ?_)
    · replace h := ifT hc2 h
      refine Y_iconst (pc := 16) (v := (0 : Int32)) dX5_hasClass_16 rfl ?_
      cases h
      exact Y_iret (pc := 17) rfl (nar_bo (by decide)) dX5_hasClass_17 hP ⟨rfl, rfl⟩
    · replace h := ifF hc2 h
      refine Y_iconst (pc := 12) (v := (1 : Int32)) dX5_hasClass_12 rfl ?_
      refine Y_goto (pc := 13) (tgt := 17) dX5_hasClass_13 (by decide) ?_
      cases h
      exact Y_iret (pc := 17) rfl (nar_bo (by decide)) dX5_hasClass_17 hP ⟨rfl, rfl⟩
theorem v_X5_hasClass {x1 : Int32} {M z} (hP : Lay M) (h : d_X5_hasClass x1 M = some z) : CC Lay k_X5_hasClass [.ref 2, .int x1] M z.2 (Qv (some (.int z.1)) z.2) xF :=
  CC.ofVV (by decide) rfl (Nat.le_of_ble_eq_true rfl) (b_X5_hasClass hP h)
noncomputable def d_X5_addFunctionWith (x1 : Int32) (M : Mem) : Option (Int32 × Mem) :=
  okk (vp_in (mI M 2 8) 8) <|
  bnd (sI M 3 (mI M 2 8).toNatClampNeg x1) fun M1 =>
  bnd (sI M1 2 8 ((mI M1 2 8) + (1 : Int32))) fun M2 =>
  some (((mI M2 2 8) - (1 : Int32)), M2)
theorem b_X5_addFunctionWith {x1 : Int32} {M z} (hP : Lay M) (h : d_X5_addFunctionWith x1 M = some z) : VV Lay k_X5_addFunctionWith 0 [(0, .ref 2), (1, .int x1)] [] M z.2 (Qv (some (.int z.1)) z.2) xF := by
  unfold d_X5_addFunctionWith at h
  refine Y_aload_n (pc := 0) (j := 0) dX5_addFunctionWith_0 rfl rfl ?_
  refine Z_getr (pc := 1) dX5_addFunctionWith_1 w1_52 (lk_2 hP) fr_5_0 (lr_2_0 hP) ?_
  refine Y_aload_n (pc := 4) (j := 0) dX5_addFunctionWith_4 rfl rfl ?_
  refine Z_geti (pc := 5) dX5_addFunctionWith_5 w1_75 (lk_2 hP) fi_5_8 ?_
  refine Y_iload_n (pc := 8) (j := 1) dX5_addFunctionWith_8 rfl rfl ?_
  obtain ⟨hb1, h⟩ := okE h
  refine Y_iast (pc := 9) dX5_addFunctionWith_9 (lk_3 hP) (ln_3 hP) hb1 ?_
  obtain ⟨M1, eM1, h⟩ := bndE h
  refine VV.mem eM1 ?_
  have hP1 := hP.wI eM1
  refine Y_aload_n (pc := 10) (j := 0) dX5_addFunctionWith_10 rfl rfl ?_
  refine Y_dup (pc := 11) dX5_addFunctionWith_11 rfl ?_
  refine Z_geti (pc := 12) dX5_addFunctionWith_12 w1_75 (lk_2 hP1) fi_5_8 ?_
  refine Y_iconst (pc := 15) (v := (1 : Int32)) dX5_addFunctionWith_15 rfl ?_
  refine Y_iadd (pc := 16) dX5_addFunctionWith_16 ?_
  refine Z_puti (pc := 17) dX5_addFunctionWith_17 w1_75 (lk_2 hP1) fi_5_8 (Or.inl rfl) rfl ?_
  obtain ⟨M2, eM2, h⟩ := bndE h
  refine VV.mem eM2 ?_
  have hP2 := hP1.wI eM2
  refine Y_aload_n (pc := 20) (j := 0) dX5_addFunctionWith_20 rfl rfl ?_
  refine Z_geti (pc := 21) dX5_addFunctionWith_21 w1_75 (lk_2 hP2) fi_5_8 ?_
  refine Y_iconst (pc := 24) (v := (1 : Int32)) dX5_addFunctionWith_24 rfl ?_
  refine Y_isub (pc := 25) dX5_addFunctionWith_25 ?_
  cases h
  exact Y_iret (pc := 26) rfl rfl dX5_addFunctionWith_26 hP2 ⟨rfl, rfl⟩
theorem v_X5_addFunctionWith {x1 : Int32} {M z} (hP : Lay M) (h : d_X5_addFunctionWith x1 M = some z) : CC Lay k_X5_addFunctionWith [.ref 2, .int x1] M z.2 (Qv (some (.int z.1)) z.2) xF :=
  CC.ofVV (by decide) rfl (Nat.le_of_ble_eq_true rfl) (b_X5_addFunctionWith hP h)
noncomputable def d_X5_addClassBelow (x1 : Int32) (M : Mem) : Option (Int32 × Mem) :=
  okk (vp_in (mI M 2 9) 5) <|
  bnd (sI M 9 (mI M 2 9).toNatClampNeg x1) fun M1 =>
  bnd (sI M1 2 9 ((mI M1 2 9) + (1 : Int32))) fun M2 =>
  some (((mI M2 2 9) - (1 : Int32)), M2)
theorem b_X5_addClassBelow {x1 : Int32} {M z} (hP : Lay M) (h : d_X5_addClassBelow x1 M = some z) : VV Lay k_X5_addClassBelow 0 [(0, .ref 2), (1, .int x1)] [] M z.2 (Qv (some (.int z.1)) z.2) xF := by
  unfold d_X5_addClassBelow at h
  refine Y_aload_n (pc := 0) (j := 0) dX5_addClassBelow_0 rfl rfl ?_
  refine Z_getr (pc := 1) dX5_addClassBelow_1 w1_72 (lk_2 hP) fr_5_6 (lr_2_6 hP) ?_
  refine Y_aload_n (pc := 4) (j := 0) dX5_addClassBelow_4 rfl rfl ?_
  refine Z_geti (pc := 5) dX5_addClassBelow_5 w1_77 (lk_2 hP) fi_5_9 ?_
  refine Y_iload_n (pc := 8) (j := 1) dX5_addClassBelow_8 rfl rfl ?_
  obtain ⟨hb1, h⟩ := okE h
  refine Y_iast (pc := 9) dX5_addClassBelow_9 (lk_9 hP) (ln_9 hP) hb1 ?_
  obtain ⟨M1, eM1, h⟩ := bndE h
  refine VV.mem eM1 ?_
  have hP1 := hP.wI eM1
  refine Y_aload_n (pc := 10) (j := 0) dX5_addClassBelow_10 rfl rfl ?_
  refine Y_dup (pc := 11) dX5_addClassBelow_11 rfl ?_
  refine Z_geti (pc := 12) dX5_addClassBelow_12 w1_77 (lk_2 hP1) fi_5_9 ?_
  refine Y_iconst (pc := 15) (v := (1 : Int32)) dX5_addClassBelow_15 rfl ?_
  refine Y_iadd (pc := 16) dX5_addClassBelow_16 ?_
  refine Z_puti (pc := 17) dX5_addClassBelow_17 w1_77 (lk_2 hP1) fi_5_9 (Or.inl rfl) rfl ?_
  obtain ⟨M2, eM2, h⟩ := bndE h
  refine VV.mem eM2 ?_
  have hP2 := hP1.wI eM2
  refine Y_aload_n (pc := 20) (j := 0) dX5_addClassBelow_20 rfl rfl ?_
  refine Z_geti (pc := 21) dX5_addClassBelow_21 w1_77 (lk_2 hP2) fi_5_9 ?_
  refine Y_iconst (pc := 24) (v := (1 : Int32)) dX5_addClassBelow_24 rfl ?_
  refine Y_isub (pc := 25) dX5_addClassBelow_25 ?_
  cases h
  exact Y_iret (pc := 26) rfl rfl dX5_addClassBelow_26 hP2 ⟨rfl, rfl⟩
theorem v_X5_addClassBelow {x1 : Int32} {M z} (hP : Lay M) (h : d_X5_addClassBelow x1 M = some z) : CC Lay k_X5_addClassBelow [.ref 2, .int x1] M z.2 (Qv (some (.int z.1)) z.2) xF :=
  CC.ofVV (by decide) rfl (Nat.le_of_ble_eq_true rfl) (b_X5_addClassBelow hP h)
noncomputable def d_X5_append (x1 : Int32) (x2 : Int32) (x3 : Int32) (M : Mem) : Option (Int32 × Mem) :=
  okk (vp_in x1 8) <|
  (d_X11_siteOf x1 (mI M 4 x1.toNatClampNeg) M).bind fun y1 =>
  okk (vp_in y1.1 320) <|
  okk (isCh x2) <|
  bnd (sI y1.2 6 y1.1.toNatClampNeg x2) fun M1 =>
  okk (vp_in y1.1 320) <|
  bnd (sI M1 7 y1.1.toNatClampNeg x3) fun M2 =>
  okk (vp_in x1 8) <|
  okk (vp_in x1 8) <|
  bnd (sI M2 4 x1.toNatClampNeg ((mI M2 4 x1.toNatClampNeg) + (1 : Int32))) fun M3 =>
  okk (vp_in x1 8) <|
  some ((mI M3 4 x1.toNatClampNeg), M3)
theorem b_X5_append {x1 : Int32} {x2 : Int32} {x3 : Int32} {M z} (hP : Lay M) (h : d_X5_append x1 x2 x3 M = some z) : VV Lay k_X5_append 0 [(0, .ref 2), (1, .int x1), (2, .int x2), (3, .int x3)] [] M z.2 (Qv (some (.int z.1)) z.2) xF := by
  unfold d_X5_append at h
  refine Y_iload_n (pc := 0) (j := 1) dX5_append_0 rfl rfl ?_
  refine Y_aload_n (pc := 1) (j := 0) dX5_append_1 rfl rfl ?_
  refine Z_getr (pc := 2) dX5_append_2 w1_56 (lk_2 hP) fr_5_1 (lr_2_1 hP) ?_
  refine Y_iload_n (pc := 5) (j := 1) dX5_append_5 rfl rfl ?_
  obtain ⟨hb1, h⟩ := okE h
  refine Y_iald (pc := 6) dX5_append_6 (lk_4 hP) (ln_4 hP) hb1 ?_
  obtain ⟨y1, qy1, h⟩ := bindE h
  have cy1 := v_X11_siteOf hP qy1
  refine C_N2r (pc := 7) (k' := k_X11_siteOf) dX5_append_7 nl_Program_50 i_X11_siteOf (Nat.le_of_ble_eq_true rfl) (Nat.le_of_ble_eq_true rfl) (Nat.le_of_ble_eq_true rfl) (cy1) ?_
  have hPy1 := cy1.1.1
  refine Y_istore (pc := 10) (lv1 := [(4, .int y1.1), (0, .ref 2), (1, .int x1), (2, .int x2), (3, .int x3)]) dX5_append_10 (by decide) rfl ?_
  refine Y_aload_n (pc := 12) (j := 1) dX5_append_12 rfl rfl ?_
  refine Z_getr (pc := 13) dX5_append_13 w1_61 (lk_2 hPy1) fr_5_3 (lr_2_3 hPy1) ?_
  refine Y_iload (pc := 16) (j := 0) dX5_append_16 rfl ?_
  refine Y_iload_n (pc := 18) (j := 3) dX5_append_18 rfl rfl ?_
  obtain ⟨hb2, h⟩ := okE h
  obtain ⟨hb3, h⟩ := okE h
  refine Y_cast (pc := 19) dX5_append_19 (lk_6 hPy1) (ln_6 hPy1) hb2 (nar_ch hb3) ?_
  obtain ⟨M1, eM1, h⟩ := bndE h
  refine VV.mem eM1 ?_
  have hP1 := hPy1.wI eM1
  refine Y_aload_n (pc := 20) (j := 1) dX5_append_20 rfl rfl ?_
  refine Z_getr (pc := 21) dX5_append_21 w1_66 (lk_2 hP1) fr_5_4 (lr_2_4 hP1) ?_
  refine Y_iload (pc := 24) (j := 0) dX5_append_24 rfl ?_
  refine Y_iload_n (pc := 26) (j := 4) dX5_append_26 rfl rfl ?_
  obtain ⟨hb4, h⟩ := okE h
  refine Y_iast (pc := 27) dX5_append_27 (lk_7 hP1) (ln_7 hP1) hb4 ?_
  obtain ⟨M2, eM2, h⟩ := bndE h
  refine VV.mem eM2 ?_
  have hP2 := hP1.wI eM2
  refine Y_aload_n (pc := 28) (j := 1) dX5_append_28 rfl rfl ?_
  refine Z_getr (pc := 29) dX5_append_29 w1_56 (lk_2 hP2) fr_5_1 (lr_2_1 hP2) ?_
  refine Y_iload_n (pc := 32) (j := 2) dX5_append_32 rfl rfl ?_
  refine Y_dup2 (pc := 33) dX5_append_33 rfl rfl ?_
  obtain ⟨hb5, h⟩ := okE h
  refine Y_iald (pc := 34) dX5_append_34 (lk_4 hP2) (ln_4 hP2) hb5 ?_
  refine Y_iconst (pc := 35) (v := (1 : Int32)) dX5_append_35 rfl ?_
  refine Y_iadd (pc := 36) dX5_append_36 ?_
  obtain ⟨hb6, h⟩ := okE h
  refine Y_iast (pc := 37) dX5_append_37 (lk_4 hP2) (ln_4 hP2) hb6 ?_
  obtain ⟨M3, eM3, h⟩ := bndE h
  refine VV.mem eM3 ?_
  have hP3 := hP2.wI eM3
  refine Y_aload_n (pc := 38) (j := 1) dX5_append_38 rfl rfl ?_
  refine Z_getr (pc := 39) dX5_append_39 w1_56 (lk_2 hP3) fr_5_1 (lr_2_1 hP3) ?_
  refine Y_iload_n (pc := 42) (j := 2) dX5_append_42 rfl rfl ?_
  obtain ⟨hb7, h⟩ := okE h
  refine Y_iald (pc := 43) dX5_append_43 (lk_4 hP3) (ln_4 hP3) hb7 ?_
  cases h
  exact Y_iret (pc := 44) rfl rfl dX5_append_44 hP3 ⟨rfl, rfl⟩
theorem v_X5_append {x1 : Int32} {x2 : Int32} {x3 : Int32} {M z} (hP : Lay M) (h : d_X5_append x1 x2 x3 M = some z) : CC Lay k_X5_append [.ref 2, .int x1, .int x2, .int x3] M z.2 (Qv (some (.int z.1)) z.2) xF :=
  CC.ofVV (by decide) rfl (Nat.le_of_ble_eq_true rfl) (b_X5_append hP h)
noncomputable def d_X5_operandBound (x1 : Int32) (M : Mem) : Option (Int32 × Mem) :=
  if x1 = (99 : Int32) then (
    some ((mI M 2 8), M))
  else if x1 = (103 : Int32) ∨ x1 = (109 : Int32) ∨ x1 = (112 : Int32) then (
    some ((6 : Int32), M))
  else if x1 = (106 : Int32) ∨ x1 = (122 : Int32) then (
    some ((40 : Int32), M))
  else if x1 = (107 : Int32) then (
    some ((8 : Int32), M))
  else if x1 = (108 : Int32) ∨ x1 = (115 : Int32) then (
    some ((6 : Int32), M))
  else if x1 = (110 : Int32) then (
    some ((mI M 2 9), M))
  else (
    some ((1 : Int32), M))
theorem b_X5_operandBound {x1 : Int32} {M z} (hP : Lay M) (h : d_X5_operandBound x1 M = some z) : VV Lay k_X5_operandBound 0 [(0, .ref 2), (1, .int x1)] [] M z.2 (Qv (some (.int z.1)) z.2) xF := by
  unfold d_X5_operandBound at h
  refine Y_iload_n (pc := 0) (j := 1) dX5_operandBound_0 rfl rfl ?_
  refine Y_table (pc := 1) dX5_operandBound_1 [(99, 129), (100, 134), (101, 134), (102, 134), (103, 126), (104, 134), (105, 134), (106, 118), (107, 112), (108, 115), (109, 126), (110, 121), (111, 134), (112, 126), (113, 134), (114, 134), (115, 115), (116, 134), (117, 134), (118, 134), (119, 134), (120, 134), (121, 134), (122, 118)] 134 (by decide) (tab_ok (by decide +kernel)) (by decide) ?_ ?_
  · refine xs_cons ?_ <| xs_cons ?_ <| xs_cons ?_ <| xs_cons ?_ <| xs_cons ?_ <| xs_cons ?_ <| xs_cons ?_ <| xs_cons ?_ <| xs_cons ?_ <| xs_cons ?_ <| xs_cons ?_ <| xs_cons ?_ <| xs_cons ?_ <| xs_cons ?_ <| xs_cons ?_ <| xs_cons ?_ <| xs_cons ?_ <| xs_cons ?_ <| xs_cons ?_ <| xs_cons ?_ <| xs_cons ?_ <| xs_cons ?_ <| xs_cons ?_ <| xs_cons ?_ <| xs_nil
    · intro e9
      replace h := ifT (by rw [e9] <;> decide) h
      refine Y_aload_n (pc := 129) (j := 0) dX5_operandBound_129 rfl rfl ?_
      refine Z_geti (pc := 130) dX5_operandBound_130 w1_75 (lk_2 hP) fi_5_8 ?_
      cases h
      exact Y_iret (pc := 133) rfl rfl dX5_operandBound_133 hP ⟨rfl, rfl⟩
    · intro e9
      replace h := ifF (by rw [e9] <;> decide) h
      replace h := ifF (by rw [e9] <;> decide) h
      replace h := ifF (by rw [e9] <;> decide) h
      replace h := ifF (by rw [e9] <;> decide) h
      replace h := ifF (by rw [e9] <;> decide) h
      replace h := ifF (by rw [e9] <;> decide) h
      refine Y_iconst (pc := 134) (v := (1 : Int32)) dX5_operandBound_134 rfl ?_
      cases h
      exact Y_iret (pc := 135) rfl rfl dX5_operandBound_135 hP ⟨rfl, rfl⟩
    · intro e9
      replace h := ifF (by rw [e9] <;> decide) h
      replace h := ifF (by rw [e9] <;> decide) h
      replace h := ifF (by rw [e9] <;> decide) h
      replace h := ifF (by rw [e9] <;> decide) h
      replace h := ifF (by rw [e9] <;> decide) h
      replace h := ifF (by rw [e9] <;> decide) h
      refine Y_iconst (pc := 134) (v := (1 : Int32)) dX5_operandBound_134 rfl ?_
      cases h
      exact Y_iret (pc := 135) rfl rfl dX5_operandBound_135 hP ⟨rfl, rfl⟩
    · intro e9
      replace h := ifF (by rw [e9] <;> decide) h
      replace h := ifF (by rw [e9] <;> decide) h
      replace h := ifF (by rw [e9] <;> decide) h
      replace h := ifF (by rw [e9] <;> decide) h
      replace h := ifF (by rw [e9] <;> decide) h
      replace h := ifF (by rw [e9] <;> decide) h
      refine Y_iconst (pc := 134) (v := (1 : Int32)) dX5_operandBound_134 rfl ?_
      cases h
      exact Y_iret (pc := 135) rfl rfl dX5_operandBound_135 hP ⟨rfl, rfl⟩
    · intro e9
      replace h := ifF (by rw [e9] <;> decide) h
      replace h := ifT (by rw [e9] <;> decide) h
      refine Y_bipush (pc := 126) (v := (6 : Int32)) dX5_operandBound_126 rfl ?_
      cases h
      exact Y_iret (pc := 128) rfl rfl dX5_operandBound_128 hP ⟨rfl, rfl⟩
    · intro e9
      replace h := ifF (by rw [e9] <;> decide) h
      replace h := ifF (by rw [e9] <;> decide) h
      replace h := ifF (by rw [e9] <;> decide) h
      replace h := ifF (by rw [e9] <;> decide) h
      replace h := ifF (by rw [e9] <;> decide) h
      replace h := ifF (by rw [e9] <;> decide) h
      refine Y_iconst (pc := 134) (v := (1 : Int32)) dX5_operandBound_134 rfl ?_
      cases h
      exact Y_iret (pc := 135) rfl rfl dX5_operandBound_135 hP ⟨rfl, rfl⟩
    · intro e9
      replace h := ifF (by rw [e9] <;> decide) h
      replace h := ifF (by rw [e9] <;> decide) h
      replace h := ifF (by rw [e9] <;> decide) h
      replace h := ifF (by rw [e9] <;> decide) h
      replace h := ifF (by rw [e9] <;> decide) h
      replace h := ifF (by rw [e9] <;> decide) h
      refine Y_iconst (pc := 134) (v := (1 : Int32)) dX5_operandBound_134 rfl ?_
      cases h
      exact Y_iret (pc := 135) rfl rfl dX5_operandBound_135 hP ⟨rfl, rfl⟩
    · intro e9
      replace h := ifF (by rw [e9] <;> decide) h
      replace h := ifF (by rw [e9] <;> decide) h
      replace h := ifT (by rw [e9] <;> decide) h
      refine Y_bipush (pc := 118) (v := (40 : Int32)) dX5_operandBound_118 rfl ?_
      cases h
      exact Y_iret (pc := 120) rfl rfl dX5_operandBound_120 hP ⟨rfl, rfl⟩
    · intro e9
      replace h := ifF (by rw [e9] <;> decide) h
      replace h := ifF (by rw [e9] <;> decide) h
      replace h := ifF (by rw [e9] <;> decide) h
      replace h := ifT (by rw [e9] <;> decide) h
      refine Y_bipush (pc := 112) (v := (8 : Int32)) dX5_operandBound_112 rfl ?_
      cases h
      exact Y_iret (pc := 114) rfl rfl dX5_operandBound_114 hP ⟨rfl, rfl⟩
    · intro e9
      replace h := ifF (by rw [e9] <;> decide) h
      replace h := ifF (by rw [e9] <;> decide) h
      replace h := ifF (by rw [e9] <;> decide) h
      replace h := ifF (by rw [e9] <;> decide) h
      replace h := ifT (by rw [e9] <;> decide) h
      refine Y_bipush (pc := 115) (v := (6 : Int32)) dX5_operandBound_115 rfl ?_
      cases h
      exact Y_iret (pc := 117) rfl rfl dX5_operandBound_117 hP ⟨rfl, rfl⟩
    · intro e9
      replace h := ifF (by rw [e9] <;> decide) h
      replace h := ifT (by rw [e9] <;> decide) h
      refine Y_bipush (pc := 126) (v := (6 : Int32)) dX5_operandBound_126 rfl ?_
      cases h
      exact Y_iret (pc := 128) rfl rfl dX5_operandBound_128 hP ⟨rfl, rfl⟩
    · intro e9
      replace h := ifF (by rw [e9] <;> decide) h
      replace h := ifF (by rw [e9] <;> decide) h
      replace h := ifF (by rw [e9] <;> decide) h
      replace h := ifF (by rw [e9] <;> decide) h
      replace h := ifF (by rw [e9] <;> decide) h
      replace h := ifT (by rw [e9] <;> decide) h
      refine Y_aload_n (pc := 121) (j := 0) dX5_operandBound_121 rfl rfl ?_
      refine Z_geti (pc := 122) dX5_operandBound_122 w1_77 (lk_2 hP) fi_5_9 ?_
      cases h
      exact Y_iret (pc := 125) rfl rfl dX5_operandBound_125 hP ⟨rfl, rfl⟩
    · intro e9
      replace h := ifF (by rw [e9] <;> decide) h
      replace h := ifF (by rw [e9] <;> decide) h
      replace h := ifF (by rw [e9] <;> decide) h
      replace h := ifF (by rw [e9] <;> decide) h
      replace h := ifF (by rw [e9] <;> decide) h
      replace h := ifF (by rw [e9] <;> decide) h
      refine Y_iconst (pc := 134) (v := (1 : Int32)) dX5_operandBound_134 rfl ?_
      cases h
      exact Y_iret (pc := 135) rfl rfl dX5_operandBound_135 hP ⟨rfl, rfl⟩
    · intro e9
      replace h := ifF (by rw [e9] <;> decide) h
      replace h := ifT (by rw [e9] <;> decide) h
      refine Y_bipush (pc := 126) (v := (6 : Int32)) dX5_operandBound_126 rfl ?_
      cases h
      exact Y_iret (pc := 128) rfl rfl dX5_operandBound_128 hP ⟨rfl, rfl⟩
    · intro e9
      replace h := ifF (by rw [e9] <;> decide) h
      replace h := ifF (by rw [e9] <;> decide) h
      replace h := ifF (by rw [e9] <;> decide) h
      replace h := ifF (by rw [e9] <;> decide) h
      replace h := ifF (by rw [e9] <;> decide) h
      replace h := ifF (by rw [e9] <;> decide) h
      refine Y_iconst (pc := 134) (v := (1 : Int32)) dX5_operandBound_134 rfl ?_
      cases h
      exact Y_iret (pc := 135) rfl rfl dX5_operandBound_135 hP ⟨rfl, rfl⟩
    · intro e9
      replace h := ifF (by rw [e9] <;> decide) h
      replace h := ifF (by rw [e9] <;> decide) h
      replace h := ifF (by rw [e9] <;> decide) h
      replace h := ifF (by rw [e9] <;> decide) h
      replace h := ifF (by rw [e9] <;> decide) h
      replace h := ifF (by rw [e9] <;> decide) h
      refine Y_iconst (pc := 134) (v := (1 : Int32)) dX5_operandBound_134 rfl ?_
      cases h
      exact Y_iret (pc := 135) rfl rfl dX5_operandBound_135 hP ⟨rfl, rfl⟩
    · intro e9
      replace h := ifF (by rw [e9] <;> decide) h
      replace h := ifF (by rw [e9] <;> decide) h
      replace h := ifF (by rw [e9] <;> decide) h
      replace h := ifF (by rw [e9] <;> decide) h
      replace h := ifT (by rw [e9] <;> decide) h
      refine Y_bipush (pc := 115) (v := (6 : Int32)) dX5_operandBound_115 rfl ?_
      cases h
      exact Y_iret (pc := 117) rfl rfl dX5_operandBound_117 hP ⟨rfl, rfl⟩
    · intro e9
      replace h := ifF (by rw [e9] <;> decide) h
      replace h := ifF (by rw [e9] <;> decide) h
      replace h := ifF (by rw [e9] <;> decide) h
      replace h := ifF (by rw [e9] <;> decide) h
      replace h := ifF (by rw [e9] <;> decide) h
      replace h := ifF (by rw [e9] <;> decide) h
      refine Y_iconst (pc := 134) (v := (1 : Int32)) dX5_operandBound_134 rfl ?_
      cases h
      exact Y_iret (pc := 135) rfl rfl dX5_operandBound_135 hP ⟨rfl, rfl⟩
    · intro e9
      replace h := ifF (by rw [e9] <;> decide) h
      replace h := ifF (by rw [e9] <;> decide) h
      replace h := ifF (by rw [e9] <;> decide) h
      replace h := ifF (by rw [e9] <;> decide) h
      replace h := ifF (by rw [e9] <;> decide) h
      replace h := ifF (by rw [e9] <;> decide) h
      refine Y_iconst (pc := 134) (v := (1 : Int32)) dX5_operandBound_134 rfl ?_
      cases h
      exact Y_iret (pc := 135) rfl rfl dX5_operandBound_135 hP ⟨rfl, rfl⟩
    · intro e9
      replace h := ifF (by rw [e9] <;> decide) h
      replace h := ifF (by rw [e9] <;> decide) h
      replace h := ifF (by rw [e9] <;> decide) h
      replace h := ifF (by rw [e9] <;> decide) h
      replace h := ifF (by rw [e9] <;> decide) h
      replace h := ifF (by rw [e9] <;> decide) h
      refine Y_iconst (pc := 134) (v := (1 : Int32)) dX5_operandBound_134 rfl ?_
      cases h
      exact Y_iret (pc := 135) rfl rfl dX5_operandBound_135 hP ⟨rfl, rfl⟩
    · intro e9
      replace h := ifF (by rw [e9] <;> decide) h
      replace h := ifF (by rw [e9] <;> decide) h
      replace h := ifF (by rw [e9] <;> decide) h
      replace h := ifF (by rw [e9] <;> decide) h
      replace h := ifF (by rw [e9] <;> decide) h
      replace h := ifF (by rw [e9] <;> decide) h
      refine Y_iconst (pc := 134) (v := (1 : Int32)) dX5_operandBound_134 rfl ?_
      cases h
      exact Y_iret (pc := 135) rfl rfl dX5_operandBound_135 hP ⟨rfl, rfl⟩
    · intro e9
      replace h := ifF (by rw [e9] <;> decide) h
      replace h := ifF (by rw [e9] <;> decide) h
      replace h := ifF (by rw [e9] <;> decide) h
      replace h := ifF (by rw [e9] <;> decide) h
      replace h := ifF (by rw [e9] <;> decide) h
      replace h := ifF (by rw [e9] <;> decide) h
      refine Y_iconst (pc := 134) (v := (1 : Int32)) dX5_operandBound_134 rfl ?_
      cases h
      exact Y_iret (pc := 135) rfl rfl dX5_operandBound_135 hP ⟨rfl, rfl⟩
    · intro e9
      replace h := ifF (by rw [e9] <;> decide) h
      replace h := ifF (by rw [e9] <;> decide) h
      replace h := ifF (by rw [e9] <;> decide) h
      replace h := ifF (by rw [e9] <;> decide) h
      replace h := ifF (by rw [e9] <;> decide) h
      replace h := ifF (by rw [e9] <;> decide) h
      refine Y_iconst (pc := 134) (v := (1 : Int32)) dX5_operandBound_134 rfl ?_
      cases h
      exact Y_iret (pc := 135) rfl rfl dX5_operandBound_135 hP ⟨rfl, rfl⟩
    · intro e9
      replace h := ifF (by rw [e9] <;> decide) h
      replace h := ifF (by rw [e9] <;> decide) h
      replace h := ifT (by rw [e9] <;> decide) h
      refine Y_bipush (pc := 118) (v := (40 : Int32)) dX5_operandBound_118 rfl ?_
      cases h
      exact Y_iret (pc := 120) rfl rfl dX5_operandBound_120 hP ⟨rfl, rfl⟩
  · intro n9
    replace h := ifF (xs_no n9 (by decide : ((99 : Int32), 129) ∈ _)) h
    replace h := ifF (fun q => q.elim (xs_no n9 (by decide : ((103 : Int32), 126) ∈ _)) (fun q => q.elim (xs_no n9 (by decide : ((109 : Int32), 126) ∈ _)) (xs_no n9 (by decide : ((112 : Int32), 126) ∈ _)))) h
    replace h := ifF (fun q => q.elim (xs_no n9 (by decide : ((106 : Int32), 118) ∈ _)) (xs_no n9 (by decide : ((122 : Int32), 118) ∈ _))) h
    replace h := ifF (xs_no n9 (by decide : ((107 : Int32), 112) ∈ _)) h
    replace h := ifF (fun q => q.elim (xs_no n9 (by decide : ((108 : Int32), 115) ∈ _)) (xs_no n9 (by decide : ((115 : Int32), 115) ∈ _))) h
    replace h := ifF (xs_no n9 (by decide : ((110 : Int32), 121) ∈ _)) h
    refine Y_iconst (pc := 134) (v := (1 : Int32)) dX5_operandBound_134 rfl ?_
    cases h
    exact Y_iret (pc := 135) rfl rfl dX5_operandBound_135 hP ⟨rfl, rfl⟩
theorem v_X5_operandBound {x1 : Int32} {M z} (hP : Lay M) (h : d_X5_operandBound x1 M = some z) : CC Lay k_X5_operandBound [.ref 2, .int x1] M z.2 (Qv (some (.int z.1)) z.2) xF :=
  CC.ofVV (by decide) rfl (Nat.le_of_ble_eq_true rfl) (b_X5_operandBound hP h)
noncomputable def d_X5_allowsOperand (x1 : Int32) (x2 : Int32) (M : Mem) : Option (Int32 × Mem) :=
  if x1 = (105 : Int32) then (
    some ((1 : Int32), M))
  else (
    if x2 < 0 then (
      some ((0 : Int32), M))
    else (
      (d_X5_operandBound x1 M).bind fun y1 =>
      if y1.1 ≤ x2 then (
        some ((0 : Int32), y1.2))
      else (
        some ((1 : Int32), y1.2))))
theorem b_X5_allowsOperand {x1 : Int32} {x2 : Int32} {M z} (hP : Lay M) (h : d_X5_allowsOperand x1 x2 M = some z) : VV Lay k_X5_allowsOperand 0 [(0, .ref 2), (1, .int x1), (2, .int x2)] [] M z.2 (Qv (some (.int z.1)) z.2) xF := by
  unfold d_X5_allowsOperand at h
  refine Y_iload_n (pc := 0) (j := 1) dX5_allowsOperand_0 rfl rfl ?_
  refine Y_bipush (pc := 1) (v := (105 : Int32)) dX5_allowsOperand_1 rfl ?_
  refine Y_icmp_eq (pc := 3) (tgt := 19) dX5_allowsOperand_3 (by decide) (fun hc1 => ?_) (fun hc1 => ?_)
  · replace h := ifT hc1 h
    refine Y_iconst (pc := 19) (v := (1 : Int32)) dX5_allowsOperand_19 rfl ?_
    refine Y_goto (pc := 20) (tgt := 24) dX5_allowsOperand_20 (by decide) ?_
    cases h
    exact Y_iret (pc := 24) rfl (nar_bo (by decide)) dX5_allowsOperand_24 hP ⟨rfl, rfl⟩
  · replace h := ifF hc1 h
    refine Y_iload_n (pc := 6) (j := 2) dX5_allowsOperand_6 rfl rfl ?_
    refine Y_if_lt (pc := 7) (tgt := 23) dX5_allowsOperand_7 (by decide) (fun hc2 => ?_) (fun hc2 => ?_)
    · replace h := ifT hc2 h
      refine Y_iconst (pc := 23) (v := (0 : Int32)) dX5_allowsOperand_23 rfl ?_
      cases h
      exact Y_iret (pc := 24) rfl (nar_bo (by decide)) dX5_allowsOperand_24 hP ⟨rfl, rfl⟩
    · replace h := ifF hc2 h
      refine Y_iload_n (pc := 10) (j := 2) dX5_allowsOperand_10 rfl rfl ?_
      refine Y_aload_n (pc := 11) (j := 0) dX5_allowsOperand_11 rfl rfl ?_
      refine Y_iload_n (pc := 12) (j := 1) dX5_allowsOperand_12 rfl rfl ?_
      obtain ⟨y1, qy1, h⟩ := bindE h
      have cy1 := v_X5_operandBound hP qy1
      refine C_V1r (pc := 13) (k' := k_X5_operandBound) dX5_allowsOperand_13 w4_122 i_X5_operandBound (lk_2 hP) ⟨Nat.le_of_ble_eq_true rfl, Nat.le_of_ble_eq_true rfl⟩ rfl (Nat.le_of_ble_eq_true rfl) (Nat.le_of_ble_eq_true rfl) (Nat.le_of_ble_eq_true rfl) (cy1) ?_
      have hPy1 := cy1.1.1
      refine Y_icmp_ge (pc := 16) (tgt := 23) dX5_allowsOperand_16 (by decide) (fun hc3 => ?_) (fun hc3 => ?_)
      · replace h := ifT hc3 h
        refine Y_iconst (pc := 23) (v := (0 : Int32)) dX5_allowsOperand_23 rfl ?_
        cases h
        exact Y_iret (pc := 24) rfl (nar_bo (by decide)) dX5_allowsOperand_24 hPy1 ⟨rfl, rfl⟩
      · replace h := ifF hc3 h
        refine Y_iconst (pc := 19) (v := (1 : Int32)) dX5_allowsOperand_19 rfl ?_
        refine Y_goto (pc := 20) (tgt := 24) dX5_allowsOperand_20 (by decide) ?_
        cases h
        exact Y_iret (pc := 24) rfl (nar_bo (by decide)) dX5_allowsOperand_24 hPy1 ⟨rfl, rfl⟩
theorem v_X5_allowsOperand {x1 : Int32} {x2 : Int32} {M z} (hP : Lay M) (h : d_X5_allowsOperand x1 x2 M = some z) : CC Lay k_X5_allowsOperand [.ref 2, .int x1, .int x2] M z.2 (Qv (some (.int z.1)) z.2) xF :=
  CC.ofVV (by decide) rfl (Nat.le_of_ble_eq_true rfl) (b_X5_allowsOperand hP h)
noncomputable def d_X6_init (r0 : Nat) (M : Mem) : Option (Unit × Mem) :=
  bnd (nx M) fun r_1 => okk (r_1 < 2147483648) <|
  bnd (sN M r_1 21 30) fun M1 =>
  okk (mK M1 r0 = 6) <|
  bnd (sR M1 r0 0 (some r_1)) fun M2 =>
  bnd (nx M2) fun r_2 => okk (r_2 < 2147483648) <|
  bnd (sN M2 r_2 21 31) fun M3 =>
  okk (mK M3 r0 = 6) <|
  bnd (sR M3 r0 1 (some r_2)) fun M4 =>
  bnd (nx M4) fun r_3 => okk (r_3 < 2147483648) <|
  bnd (sN M4 r_3 21 120) fun M5 =>
  okk (mK M5 r0 = 6) <|
  bnd (sR M5 r0 2 (some r_3)) fun M6 =>
  bnd (nx M6) fun r_4 => okk (r_4 < 2147483648) <|
  bnd (sN M6 r_4 21 120) fun M7 =>
  okk (mK M7 r0 = 6) <|
  bnd (sR M7 r0 3 (some r_4)) fun M8 =>
  bnd (nx M8) fun r_5 => okk (r_5 < 2147483648) <|
  bnd (sN M8 r_5 21 120) fun M9 =>
  okk (mK M9 r0 = 6) <|
  bnd (sR M9 r0 4 (some r_5)) fun M10 =>
  bnd (nx M10) fun r_6 => okk (r_6 < 2147483648) <|
  bnd (sN M10 r_6 21 120) fun M11 =>
  okk (mK M11 r0 = 6) <|
  bnd (sR M11 r0 5 (some r_6)) fun M12 =>
  bnd (nx M12) fun r_7 => okk (r_7 < 2147483648) <|
  bnd (sN M12 r_7 21 378) fun M13 =>
  okk (mK M13 r0 = 6) <|
  bnd (sR M13 r0 6 (some r_7)) fun M14 =>
  some ((), M14)
theorem b_X6_init {M0 : Mem} {r0 : Nat} {M z} (hP : (Kx r0 M0) M) (h : d_X6_init r0 M = some z) : VV (Kx r0 M0) k_X6_init 0 [(0, .ref r0)] [] M z.2 (Qv (none) z.2) xF := by
  unfold d_X6_init at h
  refine Y_aload_n (pc := 0) (j := 0) dX6_init_0 rfl rfl ?_
  refine Y_oinit (pc := 1) dX6_init_1 w2_46 (Nat.le_of_ble_eq_true rfl) (Nat.le_of_ble_eq_true rfl) (Nat.le_of_ble_eq_true rfl) ?_
  refine Y_aload_n (pc := 4) (j := 0) dX6_init_4 rfl rfl ?_
  refine Y_bipush (pc := 5) (v := (30 : Int32)) dX6_init_5 rfl ?_
  obtain ⟨r_1, er_1, h⟩ := bndE h
  obtain ⟨hb1, h⟩ := okE h
  refine Y_newa (pc := 7) (a := r_1) (t := 21) (N := 30) dX6_init_7 (by decide) (by decide) rfl w1_100 (hP.free er_1) hb1 (by decide) rfl (by decide) ?_
  obtain ⟨M1, eM1, h⟩ := bndE h
  refine VV.mem eM1 ?_
  have hP1 := hP.wN er_1 (by decide) eM1
  obtain ⟨hb2, h⟩ := okE h
  refine Z_putr (pc := 9) dX6_init_9 w2_47 hb2 fr_6_0 (Or.inr ⟨rfl, rfl⟩) (Or.inr ⟨_, rfl⟩) ?_
  obtain ⟨M2, eM2, h⟩ := bndE h
  refine VV.mem eM2 ?_
  have hP2 := hP1.wR0 (by omega) eM2
  refine Y_aload_n (pc := 12) (j := 0) dX6_init_12 rfl rfl ?_
  refine Y_bipush (pc := 13) (v := (31 : Int32)) dX6_init_13 rfl ?_
  obtain ⟨r_2, er_2, h⟩ := bndE h
  obtain ⟨hb3, h⟩ := okE h
  refine Y_newa (pc := 15) (a := r_2) (t := 21) (N := 31) dX6_init_15 (by decide) (by decide) rfl w1_100 (hP2.free er_2) hb3 (by decide) rfl (by decide) ?_
  obtain ⟨M3, eM3, h⟩ := bndE h
  refine VV.mem eM3 ?_
  have hP3 := hP2.wN er_2 (by decide) eM3
  obtain ⟨hb4, h⟩ := okE h
  refine Z_putr (pc := 17) dX6_init_17 w2_49 hb4 fr_6_1 (Or.inr ⟨rfl, rfl⟩) (Or.inr ⟨_, rfl⟩) ?_
  obtain ⟨M4, eM4, h⟩ := bndE h
  refine VV.mem eM4 ?_
  have hP4 := hP3.wR0 (by omega) eM4
  refine Y_aload_n (pc := 20) (j := 0) dX6_init_20 rfl rfl ?_
  refine Y_bipush (pc := 21) (v := (120 : Int32)) dX6_init_21 rfl ?_
  obtain ⟨r_3, er_3, h⟩ := bndE h
  obtain ⟨hb5, h⟩ := okE h
  refine Y_newa (pc := 23) (a := r_3) (t := 21) (N := 120) dX6_init_23 (by decide) (by decide) rfl w1_100 (hP4.free er_3) hb5 (by decide) rfl (by decide) ?_
  obtain ⟨M5, eM5, h⟩ := bndE h
  refine VV.mem eM5 ?_
  have hP5 := hP4.wN er_3 (by decide) eM5
  obtain ⟨hb6, h⟩ := okE h
  refine Z_putr (pc := 25) dX6_init_25 w2_51 hb6 fr_6_2 (Or.inr ⟨rfl, rfl⟩) (Or.inr ⟨_, rfl⟩) ?_
  obtain ⟨M6, eM6, h⟩ := bndE h
  refine VV.mem eM6 ?_
  have hP6 := hP5.wR0 (by omega) eM6
  refine Y_aload_n (pc := 28) (j := 0) dX6_init_28 rfl rfl ?_
  refine Y_bipush (pc := 29) (v := (120 : Int32)) dX6_init_29 rfl ?_
  obtain ⟨r_4, er_4, h⟩ := bndE h
  obtain ⟨hb7, h⟩ := okE h
  refine Y_newa (pc := 31) (a := r_4) (t := 21) (N := 120) dX6_init_31 (by decide) (by decide) rfl w1_100 (hP6.free er_4) hb7 (by decide) rfl (by decide) ?_
  obtain ⟨M7, eM7, h⟩ := bndE h
  refine VV.mem eM7 ?_
  have hP7 := hP6.wN er_4 (by decide) eM7
  obtain ⟨hb8, h⟩ := okE h
  refine Z_putr (pc := 33) dX6_init_33 w2_53 hb8 fr_6_3 (Or.inr ⟨rfl, rfl⟩) (Or.inr ⟨_, rfl⟩) ?_
  obtain ⟨M8, eM8, h⟩ := bndE h
  refine VV.mem eM8 ?_
  have hP8 := hP7.wR0 (by omega) eM8
  refine Y_aload_n (pc := 36) (j := 0) dX6_init_36 rfl rfl ?_
  refine Y_bipush (pc := 37) (v := (120 : Int32)) dX6_init_37 rfl ?_
  obtain ⟨r_5, er_5, h⟩ := bndE h
  obtain ⟨hb9, h⟩ := okE h
  refine Y_newa (pc := 39) (a := r_5) (t := 21) (N := 120) dX6_init_39 (by decide) (by decide) rfl w1_100 (hP8.free er_5) hb9 (by decide) rfl (by decide) ?_
  obtain ⟨M9, eM9, h⟩ := bndE h
  refine VV.mem eM9 ?_
  have hP9 := hP8.wN er_5 (by decide) eM9
  obtain ⟨hb10, h⟩ := okE h
  refine Z_putr (pc := 41) dX6_init_41 w2_55 hb10 fr_6_4 (Or.inr ⟨rfl, rfl⟩) (Or.inr ⟨_, rfl⟩) ?_
  obtain ⟨M10, eM10, h⟩ := bndE h
  refine VV.mem eM10 ?_
  have hP10 := hP9.wR0 (by omega) eM10
  refine Y_aload_n (pc := 44) (j := 0) dX6_init_44 rfl rfl ?_
  refine Y_bipush (pc := 45) (v := (120 : Int32)) dX6_init_45 rfl ?_
  obtain ⟨r_6, er_6, h⟩ := bndE h
  obtain ⟨hb11, h⟩ := okE h
  refine Y_newa (pc := 47) (a := r_6) (t := 21) (N := 120) dX6_init_47 (by decide) (by decide) rfl w1_100 (hP10.free er_6) hb11 (by decide) rfl (by decide) ?_
  obtain ⟨M11, eM11, h⟩ := bndE h
  refine VV.mem eM11 ?_
  have hP11 := hP10.wN er_6 (by decide) eM11
  obtain ⟨hb12, h⟩ := okE h
  refine Z_putr (pc := 49) dX6_init_49 w2_57 hb12 fr_6_5 (Or.inr ⟨rfl, rfl⟩) (Or.inr ⟨_, rfl⟩) ?_
  obtain ⟨M12, eM12, h⟩ := bndE h
  refine VV.mem eM12 ?_
  have hP12 := hP11.wR0 (by omega) eM12
  refine Y_aload_n (pc := 52) (j := 0) dX6_init_52 rfl rfl ?_
  refine Y_sipush (pc := 53) (v := (378 : Int32)) dX6_init_53 rfl ?_
  obtain ⟨r_7, er_7, h⟩ := bndE h
  obtain ⟨hb13, h⟩ := okE h
  refine Y_newa (pc := 56) (a := r_7) (t := 21) (N := 378) dX6_init_56 (by decide) (by decide) rfl w1_100 (hP12.free er_7) hb13 (by decide) rfl (by decide) ?_
  obtain ⟨M13, eM13, h⟩ := bndE h
  refine VV.mem eM13 ?_
  have hP13 := hP12.wN er_7 (by decide) eM13
  obtain ⟨hb14, h⟩ := okE h
  refine Z_putr (pc := 58) dX6_init_58 w2_59 hb14 fr_6_6 (Or.inr ⟨rfl, rfl⟩) (Or.inr ⟨_, rfl⟩) ?_
  obtain ⟨M14, eM14, h⟩ := bndE h
  refine VV.mem eM14 ?_
  have hP14 := hP13.wR0 (by omega) eM14
  cases h
  exact Y_vret (pc := 61) rfl dX6_init_61 hP14 ⟨rfl, rfl⟩
theorem v_X6_init {r0 : Nat} {M z} (hP : Fsh M) (hr : r0 ≤ nx M) (h : d_X6_init r0 M = some z) : CC (Kx r0 M) k_X6_init [.ref r0] M z.2 (Qv (none) z.2) xF :=
  CC.ofVV (by decide) rfl (Nat.le_of_ble_eq_true rfl) (b_X6_init (Kx.refl hP hr) h)
noncomputable def d_X6_begin_28b (k28 : (Int32) → Mem → Option (Unit × Mem)) (x4 : Int32) (M : Mem) : Option (Unit × Mem) :=
  if (168 : Int32) ≤ x4 then (
    bnd (sI M 48 9 (168 : Int32)) fun M1 =>
    some ((), M1))
  else (
    okk (vp_in x4 549) <|
    bnd (sI M 23 x4.toNatClampNeg x4) fun M2 =>
    okk (vp_in x4 378) <|
    bnd (sI M2 55 x4.toNatClampNeg (0 : Int32)) fun M3 =>
    bnd ((x4 + (1 : Int32))) fun b1 =>
    k28 (b1) M3)
theorem b_X6_begin_28b {k28 : (Int32) → Mem → Option (Unit × Mem)} {x4 : Int32} {M z} (hk28 : ∀ (a : (Int32)) (M : Mem) (z : Unit × Mem), Lay M → k28 a M = some z → VV Lay k_X6_begin 28 [(0, .ref 48), (1, .ref 18), (4, .int a)] [] M z.2 (Qv (none) z.2) xF) (hP : Lay M) (h : d_X6_begin_28b k28 x4 M = some z) : VV Lay k_X6_begin 28 [(0, .ref 48), (1, .ref 18), (4, .int x4)] [] M z.2 (Qv (none) z.2) xF := by
  unfold d_X6_begin_28b at h
  refine Y_iload (pc := 28) (j := 2) dX6_begin_28 rfl ?_
  refine Y_sipush (pc := 30) (v := (168 : Int32)) dX6_begin_30 rfl ?_
  refine Y_icmp_ge (pc := 33) (tgt := 62) dX6_begin_33 (by decide) (fun hc1 => ?_) (fun hc1 => ?_)
  · replace h := ifT hc1 h
    refine Y_aload_n (pc := 62) (j := 0) dX6_begin_62 rfl rfl ?_
    refine Y_sipush (pc := 63) (v := (168 : Int32)) dX6_begin_63 rfl ?_
    refine Z_puti (pc := 66) dX6_begin_66 w2_65 (lk_48 hP) fi_6_9 (Or.inl rfl) rfl ?_
    obtain ⟨M1, eM1, h⟩ := bndE h
    refine VV.mem eM1 ?_
    have hP1 := hP.wI eM1
    cases h
    exact Y_vret (pc := 69) rfl dX6_begin_69 hP1 ⟨rfl, rfl⟩
  · replace h := ifF hc1 h
    refine Y_aload_n (pc := 36) (j := 1) dX6_begin_36 rfl rfl ?_
    refine Z_getr (pc := 37) dX6_begin_37 w1_172 (lk_18 hP) fr_4_2 (lr_18_2 hP) ?_
    refine Z_getr (pc := 40) dX6_begin_40 w1_156 (lk_19 hP) fr_8_3 (lr_19_3 hP) ?_
    refine Y_iload (pc := 43) (j := 2) dX6_begin_43 rfl ?_
    refine Y_iload (pc := 45) (j := 2) dX6_begin_45 rfl ?_
    obtain ⟨hb1, h⟩ := okE h
    refine Y_iast (pc := 47) dX6_begin_47 (lk_23 hP) (ln_23 hP) hb1 ?_
    obtain ⟨M2, eM2, h⟩ := bndE h
    refine VV.mem eM2 ?_
    have hP2 := hP.wI eM2
    refine Y_aload_n (pc := 48) (j := 0) dX6_begin_48 rfl rfl ?_
    refine Z_getr (pc := 49) dX6_begin_49 w2_59 (lk_48 hP2) fr_6_6 (lr_48_6 hP2) ?_
    refine Y_iload (pc := 52) (j := 2) dX6_begin_52 rfl ?_
    refine Y_iconst (pc := 54) (v := (0 : Int32)) dX6_begin_54 rfl ?_
    obtain ⟨hb2, h⟩ := okE h
    refine Y_iast (pc := 55) dX6_begin_55 (lk_55 hP2) (ln_55 hP2) hb2 ?_
    obtain ⟨M3, eM3, h⟩ := bndE h
    refine VV.mem eM3 ?_
    have hP3 := hP2.wI eM3
    obtain ⟨b1, eb1, h⟩ := bndE h
    refine Y_iinc (pc := 56) (j := 2) (v := b1) (lv1 := [(4, .int b1), (0, .ref 48), (1, .ref 18)]) dX6_begin_56 rfl eb1.symm (by decide) rfl ?_
    refine Y_goto (pc := 59) (tgt := 28) dX6_begin_59 (by decide) ?_
    refine VV.sub [1, 2, 0] rfl ?_
    exact hk28 _ _ _ hP3 h
noncomputable def d_X6_begin_28 : Nat → (Int32) → Mem → Option (Unit × Mem) := lp fun k a M => d_X6_begin_28b k a M
theorem b_X6_begin_28 (n : Nat) : ∀ (a : (Int32)) (M : Mem) (z : Unit × Mem), d_X6_begin_28 n a M = some z → Lay M → VV Lay k_X6_begin 28 [(0, .ref 48), (1, .ref 18), (4, .int a)] [] M z.2 (Qv (none) z.2) xF :=
  lp_ind (G := fun (a : (Int32)) (M : Mem) (z : Unit × Mem) => Lay M → VV Lay k_X6_begin 28 [(0, .ref 48), (1, .ref 18), (4, .int a)] [] M z.2 (Qv (none) z.2) xF) (fun k hk a M z h hP => b_X6_begin_28b  (fun a M z hP h => hk a M z h hP) hP h) n
noncomputable def d_X6_begin (x2 : Int32) (x3 : Int32) (M : Mem) : Option (Unit × Mem) :=
  bnd (sI M 48 10 (1 : Int32)) fun M1 =>
  bnd (sI M1 48 11 x2) fun M2 =>
  bnd (sI M2 48 12 x3) fun M3 =>
  bnd (sI M3 48 7 (0 : Int32)) fun M4 =>
  bnd (sI M4 48 8 (0 : Int32)) fun M5 =>
  d_X6_begin_28 fuel ((0 : Int32)) M5
theorem b_X6_begin {x2 : Int32} {x3 : Int32} {M z} (hP : Lay M) (h : d_X6_begin x2 x3 M = some z) : VV Lay k_X6_begin 0 [(0, .ref 48), (1, .ref 18), (2, .int x2), (3, .int x3)] [] M z.2 (Qv (none) z.2) xF := by
  unfold d_X6_begin at h
  refine Y_aload_n (pc := 0) (j := 0) dX6_begin_0 rfl rfl ?_
  refine Y_iconst (pc := 1) (v := (1 : Int32)) dX6_begin_1 rfl ?_
  refine Z_putz (pc := 2) dX6_begin_2 w2_66 (lk_48 hP) fi_6_10 (Or.inl rfl) rfl (by decide) ?_
  obtain ⟨M1, eM1, h⟩ := bndE h
  refine VV.mem eM1 ?_
  have hP1 := hP.wI eM1
  refine Y_aload_n (pc := 5) (j := 0) dX6_begin_5 rfl rfl ?_
  refine Y_iload_n (pc := 6) (j := 2) dX6_begin_6 rfl rfl ?_
  refine Z_puti (pc := 7) dX6_begin_7 w2_69 (lk_48 hP1) fi_6_11 (Or.inl rfl) rfl ?_
  obtain ⟨M2, eM2, h⟩ := bndE h
  refine VV.mem eM2 ?_
  have hP2 := hP1.wI eM2
  refine Y_aload_n (pc := 10) (j := 0) dX6_begin_10 rfl rfl ?_
  refine Y_iload_n (pc := 11) (j := 3) dX6_begin_11 rfl rfl ?_
  refine Z_puti (pc := 12) dX6_begin_12 w2_71 (lk_48 hP2) fi_6_12 (Or.inl rfl) rfl ?_
  obtain ⟨M3, eM3, h⟩ := bndE h
  refine VV.mem eM3 ?_
  have hP3 := hP2.wI eM3
  refine Y_aload_n (pc := 15) (j := 0) dX6_begin_15 rfl rfl ?_
  refine Y_iconst (pc := 16) (v := (0 : Int32)) dX6_begin_16 rfl ?_
  refine Z_puti (pc := 17) dX6_begin_17 w2_61 (lk_48 hP3) fi_6_7 (Or.inl rfl) rfl ?_
  obtain ⟨M4, eM4, h⟩ := bndE h
  refine VV.mem eM4 ?_
  have hP4 := hP3.wI eM4
  refine Y_aload_n (pc := 20) (j := 0) dX6_begin_20 rfl rfl ?_
  refine Y_iconst (pc := 21) (v := (0 : Int32)) dX6_begin_21 rfl ?_
  refine Z_puti (pc := 22) dX6_begin_22 w2_64 (lk_48 hP4) fi_6_8 (Or.inl rfl) rfl ?_
  obtain ⟨M5, eM5, h⟩ := bndE h
  refine VV.mem eM5 ?_
  have hP5 := hP4.wI eM5
  refine Y_iconst (pc := 25) (v := (0 : Int32)) dX6_begin_25 rfl ?_
  refine Y_istore (pc := 26) (lv1 := [(4, .int (0 : Int32)), (0, .ref 48), (1, .ref 18), (2, .int x2), (3, .int x3)]) dX6_begin_26 (by decide) rfl ?_
  refine VV.sub [1, 2, 0] rfl ?_
  exact b_X6_begin_28  fuel _ _ _ h hP5
theorem v_X6_begin {x2 : Int32} {x3 : Int32} {M z} (hP : Lay M) (h : d_X6_begin x2 x3 M = some z) : CC Lay k_X6_begin [.ref 48, .ref 18, .int x2, .int x3] M z.2 (Qv (none) z.2) xF :=
  CC.ofVV (by decide) rfl (Nat.le_of_ble_eq_true rfl) (b_X6_begin hP h)
noncomputable def d_X6_beginRoot (x2 : Int32) (M : Mem) : Option (Unit × Mem) :=
  bnd (sI M 48 13 (-1 : Int32)) fun M1 =>
  bnd (sI M1 48 14 (-1 : Int32)) fun M2 =>
  (d_X6_begin x2 (mI M2 18 9) M2).bind fun y1 =>
  some ((), y1.2)
theorem b_X6_beginRoot {x2 : Int32} {M z} (hP : Lay M) (h : d_X6_beginRoot x2 M = some z) : VV Lay k_X6_beginRoot 0 [(0, .ref 48), (1, .ref 18), (2, .int x2)] [] M z.2 (Qv (none) z.2) xF := by
  unfold d_X6_beginRoot at h
  refine Y_aload_n (pc := 0) (j := 0) dX6_beginRoot_0 rfl rfl ?_
  refine Y_iconst (pc := 1) (v := (-1 : Int32)) dX6_beginRoot_1 rfl ?_
  refine Z_puti (pc := 2) dX6_beginRoot_2 w2_73 (lk_48 hP) fi_6_13 (Or.inl rfl) rfl ?_
  obtain ⟨M1, eM1, h⟩ := bndE h
  refine VV.mem eM1 ?_
  have hP1 := hP.wI eM1
  refine Y_aload_n (pc := 5) (j := 0) dX6_beginRoot_5 rfl rfl ?_
  refine Y_iconst (pc := 6) (v := (-1 : Int32)) dX6_beginRoot_6 rfl ?_
  refine Z_puti (pc := 7) dX6_beginRoot_7 w2_75 (lk_48 hP1) fi_6_14 (Or.inl rfl) rfl ?_
  obtain ⟨M2, eM2, h⟩ := bndE h
  refine VV.mem eM2 ?_
  have hP2 := hP1.wI eM2
  refine Y_aload_n (pc := 10) (j := 0) dX6_beginRoot_10 rfl rfl ?_
  refine Y_aload_n (pc := 11) (j := 1) dX6_beginRoot_11 rfl rfl ?_
  refine Y_iload_n (pc := 12) (j := 2) dX6_beginRoot_12 rfl rfl ?_
  refine Y_aload_n (pc := 13) (j := 1) dX6_beginRoot_13 rfl rfl ?_
  refine Z_geti (pc := 14) dX6_beginRoot_14 w1_185 (lk_18 hP2) fi_4_9 ?_
  obtain ⟨y1, qy1, h⟩ := bindE h
  have cy1 := v_X6_begin hP2 qy1
  refine C_V3o (pc := 17) (k' := k_X6_begin) dX6_beginRoot_17 w6_89 i_X6_begin (lk_48 hP2) ⟨Nat.le_of_ble_eq_true rfl, Nat.le_of_ble_eq_true rfl⟩ rfl (Nat.le_of_ble_eq_true rfl) (Nat.le_of_ble_eq_true rfl) (Nat.le_of_ble_eq_true rfl) (cy1) ?_
  have hPy1 := cy1.1.1
  cases h
  exact Y_vret (pc := 20) rfl dX6_beginRoot_20 hPy1 ⟨rfl, rfl⟩
theorem v_X6_beginRoot {x2 : Int32} {M z} (hP : Lay M) (h : d_X6_beginRoot x2 M = some z) : CC Lay k_X6_beginRoot [.ref 48, .ref 18, .int x2] M z.2 (Qv (none) z.2) xF :=
  CC.ofVV (by decide) rfl (Nat.le_of_ble_eq_true rfl) (b_X6_beginRoot hP h)
noncomputable def d_X6_beginSide (r2 : Nat) (x3 : Int32) (x4 : Int32) (x5 : Int32) (M : Mem) : Option (Unit × Mem) :=
  bnd (sI M 48 13 x3) fun M1 =>
  bnd (sI M1 48 14 x4) fun M2 =>
  okk (mK M2 r2 = 9) <|
  (d_X6_begin (mI M2 r2 13) x5 M2).bind fun y1 =>
  some ((), y1.2)
theorem b_X6_beginSide {r2 : Nat} {x3 : Int32} {x4 : Int32} {x5 : Int32} {M z} (hP : Lay M) (h : d_X6_beginSide r2 x3 x4 x5 M = some z) : VV Lay k_X6_beginSide 0 [(0, .ref 48), (1, .ref 18), (2, .ref r2), (3, .int x3), (4, .int x4), (5, .int x5)] [] M z.2 (Qv (none) z.2) xF := by
  unfold d_X6_beginSide at h
  refine Y_aload_n (pc := 0) (j := 0) dX6_beginSide_0 rfl rfl ?_
  refine Y_iload_n (pc := 1) (j := 3) dX6_beginSide_1 rfl rfl ?_
  refine Z_puti (pc := 2) dX6_beginSide_2 w2_73 (lk_48 hP) fi_6_13 (Or.inl rfl) rfl ?_
  obtain ⟨M1, eM1, h⟩ := bndE h
  refine VV.mem eM1 ?_
  have hP1 := hP.wI eM1
  refine Y_aload_n (pc := 5) (j := 0) dX6_beginSide_5 rfl rfl ?_
  refine Y_iload (pc := 6) (j := 4) dX6_beginSide_6 rfl ?_
  refine Z_puti (pc := 8) dX6_beginSide_8 w2_75 (lk_48 hP1) fi_6_14 (Or.inl rfl) rfl ?_
  obtain ⟨M2, eM2, h⟩ := bndE h
  refine VV.mem eM2 ?_
  have hP2 := hP1.wI eM2
  refine Y_aload_n (pc := 11) (j := 0) dX6_beginSide_11 rfl rfl ?_
  refine Y_aload_n (pc := 12) (j := 1) dX6_beginSide_12 rfl rfl ?_
  refine Y_aload_n (pc := 13) (j := 2) dX6_beginSide_13 rfl rfl ?_
  obtain ⟨hb1, h⟩ := okE h
  refine Z_geti (pc := 14) dX6_beginSide_14 w2_169 hb1 fi_9_13 ?_
  refine Y_iload (pc := 17) (j := 5) dX6_beginSide_17 rfl ?_
  obtain ⟨y1, qy1, h⟩ := bindE h
  have cy1 := v_X6_begin hP2 qy1
  refine C_V3o (pc := 19) (k' := k_X6_begin) dX6_beginSide_19 w6_89 i_X6_begin (lk_48 hP2) ⟨Nat.le_of_ble_eq_true rfl, Nat.le_of_ble_eq_true rfl⟩ rfl (Nat.le_of_ble_eq_true rfl) (Nat.le_of_ble_eq_true rfl) (Nat.le_of_ble_eq_true rfl) (cy1) ?_
  have hPy1 := cy1.1.1
  cases h
  exact Y_vret (pc := 22) rfl dX6_beginSide_22 hPy1 ⟨rfl, rfl⟩
theorem v_X6_beginSide {r2 : Nat} {x3 : Int32} {x4 : Int32} {x5 : Int32} {M z} (hP : Lay M) (h : d_X6_beginSide r2 x3 x4 x5 M = some z) : CC Lay k_X6_beginSide [.ref 48, .ref 18, .ref r2, .int x3, .int x4, .int x5] M z.2 (Qv (none) z.2) xF :=
  CC.ofVV (by decide) rfl (Nat.le_of_ble_eq_true rfl) (b_X6_beginSide hP h)
noncomputable def d_X6_isFull (M : Mem) : Option (Int32 × Mem) :=
  if (mI M 48 7) < (30 : Int32) then (
    some ((0 : Int32), M))
  else (
    some ((1 : Int32), M))
theorem b_X6_isFull {M z} (hP : Lay M) (h : d_X6_isFull M = some z) : VV Lay k_X6_isFull 0 [(0, .ref 48)] [] M z.2 (Qv (some (.int z.1)) z.2) xF := by
  unfold d_X6_isFull at h
  refine Y_aload_n (pc := 0) (j := 0) dX6_isFull_0 rfl rfl ?_
  refine Z_geti (pc := 1) dX6_isFull_1 w2_61 (lk_48 hP) fi_6_7 ?_
  refine Y_bipush (pc := 4) (v := (30 : Int32)) dX6_isFull_4 rfl ?_
  refine Y_icmp_lt (pc := 6) (tgt := 13) dX6_isFull_6 (by decide) (fun hc1 => ?_) (fun hc1 => ?_)
  · replace h := ifT hc1 h
    refine Y_iconst (pc := 13) (v := (0 : Int32)) dX6_isFull_13 rfl ?_
    cases h
    exact Y_iret (pc := 14) rfl (nar_bo (by decide)) dX6_isFull_14 hP ⟨rfl, rfl⟩
  · replace h := ifF hc1 h
    refine Y_iconst (pc := 9) (v := (1 : Int32)) dX6_isFull_9 rfl ?_
    refine Y_goto (pc := 10) (tgt := 14) dX6_isFull_10 (by decide) ?_
    cases h
    exact Y_iret (pc := 14) rfl (nar_bo (by decide)) dX6_isFull_14 hP ⟨rfl, rfl⟩
theorem v_X6_isFull {M z} (hP : Lay M) (h : d_X6_isFull M = some z) : CC Lay k_X6_isFull [.ref 48] M z.2 (Qv (some (.int z.1)) z.2) xF :=
  CC.ofVV (by decide) rfl (Nat.le_of_ble_eq_true rfl) (b_X6_isFull hP h)
noncomputable def d_X6_isClosedBy (M : Mem) : Option (Int32 × Mem) :=
  if (mI M 18 9) = (mI M 48 12) then (
    (d_X3_siteAhead 18 M).bind fun y1 =>
    if y1.1 = (mI y1.2 48 11) then (
      some ((1 : Int32), y1.2))
    else (
      some ((0 : Int32), y1.2)))
  else (
    some ((0 : Int32), M))
theorem b_X6_isClosedBy {M z} (hP : Lay M) (h : d_X6_isClosedBy M = some z) : VV Lay k_X6_isClosedBy 0 [(0, .ref 48), (1, .ref 18)] [] M z.2 (Qv (some (.int z.1)) z.2) xF := by
  unfold d_X6_isClosedBy at h
  refine Y_aload_n (pc := 0) (j := 1) dX6_isClosedBy_0 rfl rfl ?_
  refine Z_geti (pc := 1) dX6_isClosedBy_1 w1_185 (lk_18 hP) fi_4_9 ?_
  refine Y_aload_n (pc := 4) (j := 0) dX6_isClosedBy_4 rfl rfl ?_
  refine Z_geti (pc := 5) dX6_isClosedBy_5 w2_71 (lk_48 hP) fi_6_12 ?_
  refine Y_icmp_ne (pc := 8) (tgt := 26) dX6_isClosedBy_8 (by decide) (fun hc1 => ?_) (fun hc1 => ?_)
  · replace h := ifF hc1 h
    refine Y_iconst (pc := 26) (v := (0 : Int32)) dX6_isClosedBy_26 rfl ?_
    cases h
    exact Y_iret (pc := 27) rfl (nar_bo (by decide)) dX6_isClosedBy_27 hP ⟨rfl, rfl⟩
  · replace h := ifT hc1 h
    refine Y_aload_n (pc := 11) (j := 1) dX6_isClosedBy_11 rfl rfl ?_
    obtain ⟨y1, qy1, h⟩ := bindE h
    have cy1 := v_X3_siteAhead (Or.inl rfl) hP qy1
    refine C_V0r (pc := 12) (k' := k_X3_siteAhead) dX6_isClosedBy_12 w6_208 i_X3_siteAhead (lk_18 hP) ⟨Nat.le_of_ble_eq_true rfl, Nat.le_of_ble_eq_true rfl⟩ rfl (Nat.le_of_ble_eq_true rfl) (Nat.le_of_ble_eq_true rfl) (Nat.le_of_ble_eq_true rfl) (cy1) ?_
    have hPy1 := cy1.1.1
    refine Y_aload_n (pc := 15) (j := 0) dX6_isClosedBy_15 rfl rfl ?_
    refine Z_geti (pc := 16) dX6_isClosedBy_16 w2_69 (lk_48 hPy1) fi_6_11 ?_
    refine Y_icmp_ne (pc := 19) (tgt := 26) dX6_isClosedBy_19 (by decide) (fun hc2 => ?_) (fun hc2 => ?_)
    · replace h := ifF hc2 h
      refine Y_iconst (pc := 26) (v := (0 : Int32)) dX6_isClosedBy_26 rfl ?_
      cases h
      exact Y_iret (pc := 27) rfl (nar_bo (by decide)) dX6_isClosedBy_27 hPy1 ⟨rfl, rfl⟩
    · replace h := ifT hc2 h
      refine Y_iconst (pc := 22) (v := (1 : Int32)) dX6_isClosedBy_22 rfl ?_
      refine Y_goto (pc := 23) (tgt := 27) dX6_isClosedBy_23 (by decide) ?_
      cases h
      exact Y_iret (pc := 27) rfl (nar_bo (by decide)) dX6_isClosedBy_27 hPy1 ⟨rfl, rfl⟩
theorem v_X6_isClosedBy {M z} (hP : Lay M) (h : d_X6_isClosedBy M = some z) : CC Lay k_X6_isClosedBy [.ref 48, .ref 18] M z.2 (Qv (some (.int z.1)) z.2) xF :=
  CC.ofVV (by decide) rfl (Nat.le_of_ble_eq_true rfl) (b_X6_isClosedBy hP h)
noncomputable def d_X6_isKnown (x2 : Int32) (x3 : Int32) (M : Mem) : Option (Int32 × Mem) :=
  (d_X3_fromTop 18 x2 M).bind fun y1 =>
  okk (vp_in y1.1 549) <|
  okk (vp_in (mI y1.2 23 y1.1.toNatClampNeg) 378) <|
  if ((mI y1.2 55 (mI y1.2 23 y1.1.toNatClampNeg).toNatClampNeg) &&& x3) = 0 then (
    some ((0 : Int32), y1.2))
  else (
    some ((1 : Int32), y1.2))
theorem b_X6_isKnown {x2 : Int32} {x3 : Int32} {M z} (hP : Lay M) (h : d_X6_isKnown x2 x3 M = some z) : VV Lay k_X6_isKnown 0 [(0, .ref 48), (1, .ref 18), (2, .int x2), (3, .int x3)] [] M z.2 (Qv (some (.int z.1)) z.2) xF := by
  unfold d_X6_isKnown at h
  refine Y_aload_n (pc := 0) (j := 0) dX6_isKnown_0 rfl rfl ?_
  refine Z_getr (pc := 1) dX6_isKnown_1 w2_59 (lk_48 hP) fr_6_6 (lr_48_6 hP) ?_
  refine Y_aload_n (pc := 4) (j := 1) dX6_isKnown_4 rfl rfl ?_
  refine Z_getr (pc := 5) dX6_isKnown_5 w1_172 (lk_18 hP) fr_4_2 (lr_18_2 hP) ?_
  refine Z_getr (pc := 8) dX6_isKnown_8 w1_156 (lk_19 hP) fr_8_3 (lr_19_3 hP) ?_
  refine Y_aload_n (pc := 11) (j := 1) dX6_isKnown_11 rfl rfl ?_
  refine Y_iload_n (pc := 12) (j := 2) dX6_isKnown_12 rfl rfl ?_
  obtain ⟨y1, qy1, h⟩ := bindE h
  have cy1 := v_X3_fromTop (Or.inl rfl) hP qy1
  refine C_V1r (pc := 13) (k' := k_X3_fromTop) dX6_isKnown_13 w6_148 i_X3_fromTop (lk_18 hP) ⟨Nat.le_of_ble_eq_true rfl, Nat.le_of_ble_eq_true rfl⟩ rfl (Nat.le_of_ble_eq_true rfl) (Nat.le_of_ble_eq_true rfl) (Nat.le_of_ble_eq_true rfl) (cy1) ?_
  have hPy1 := cy1.1.1
  obtain ⟨hb1, h⟩ := okE h
  refine Y_iald (pc := 16) dX6_isKnown_16 (lk_23 hPy1) (ln_23 hPy1) hb1 ?_
  obtain ⟨hb2, h⟩ := okE h
  refine Y_iald (pc := 17) dX6_isKnown_17 (lk_55 hPy1) (ln_55 hPy1) hb2 ?_
  refine Y_iload_n (pc := 18) (j := 3) dX6_isKnown_18 rfl rfl ?_
  refine Y_iand (pc := 19) dX6_isKnown_19 ?_
  refine Y_if_eq (pc := 20) (tgt := 27) dX6_isKnown_20 (by decide) (fun hc1 => ?_) (fun hc1 => ?_)
  · replace h := ifT hc1 h
    refine Y_iconst (pc := 27) (v := (0 : Int32)) dX6_isKnown_27 rfl ?_
    cases h
    exact Y_iret (pc := 28) rfl (nar_bo (by decide)) dX6_isKnown_28 hPy1 ⟨rfl, rfl⟩
  · replace h := ifF hc1 h
    refine Y_iconst (pc := 23) (v := (1 : Int32)) dX6_isKnown_23 rfl ?_
    refine Y_goto (pc := 24) (tgt := 28) dX6_isKnown_24 (by decide) ?_
    cases h
    exact Y_iret (pc := 28) rfl (nar_bo (by decide)) dX6_isKnown_28 hPy1 ⟨rfl, rfl⟩
theorem v_X6_isKnown {x2 : Int32} {x3 : Int32} {M z} (hP : Lay M) (h : d_X6_isKnown x2 x3 M = some z) : CC Lay k_X6_isKnown [.ref 48, .ref 18, .int x2, .int x3] M z.2 (Qv (some (.int z.1)) z.2) xF :=
  CC.ofVV (by decide) rfl (Nat.le_of_ble_eq_true rfl) (b_X6_isKnown hP h)
noncomputable def d_X6_madeOf (x1 : Int32) (M : Mem) : Option (Int32 × Mem) :=
  if x1 = 0 then (
    some ((1 : Int32), M))
  else (
    some ((7 : Int32), M))
theorem b_X6_madeOf {x1 : Int32} {M z} (hP : Lay M) (h : d_X6_madeOf x1 M = some z) : VV Lay k_X6_madeOf 0 [(0, .ref 48), (1, .int x1)] [] M z.2 (Qv (some (.int z.1)) z.2) xF := by
  unfold d_X6_madeOf at h
  refine Y_iload_n (pc := 0) (j := 1) dX6_madeOf_0 rfl rfl ?_
  refine Y_if_eq (pc := 1) (tgt := 9) dX6_madeOf_1 (by decide) (fun hc1 => ?_) (fun hc1 => ?_)
  · replace h := ifT hc1 h
    refine Y_iconst (pc := 9) (v := (1 : Int32)) dX6_madeOf_9 rfl ?_
    cases h
    exact Y_iret (pc := 10) rfl rfl dX6_madeOf_10 hP ⟨rfl, rfl⟩
  · replace h := ifF hc1 h
    refine Y_bipush (pc := 4) (v := (7 : Int32)) dX6_madeOf_4 rfl ?_
    refine Y_goto (pc := 6) (tgt := 10) dX6_madeOf_6 (by decide) ?_
    cases h
    exact Y_iret (pc := 10) rfl rfl dX6_madeOf_10 hP ⟨rfl, rfl⟩
theorem v_X6_madeOf {x1 : Int32} {M z} (hP : Lay M) (h : d_X6_madeOf x1 M = some z) : CC Lay k_X6_madeOf [.ref 48, .int x1] M z.2 (Qv (some (.int z.1)) z.2) xF :=
  CC.ofVV (by decide) rfl (Nat.le_of_ble_eq_true rfl) (b_X6_madeOf hP h)
noncomputable def d_X6_ask (x1 : Int32) (x2 : Int32) (x3 : Int32) (M : Mem) : Option (Unit × Mem) :=
  okk (vp_in (mI M 48 8) 120) <|
  bnd (sI M 51 (mI M 48 8).toNatClampNeg x1) fun M1 =>
  okk (vp_in (mI M1 48 8) 120) <|
  bnd (sI M1 52 (mI M1 48 8).toNatClampNeg (mI M1 48 7)) fun M2 =>
  okk (vp_in (mI M2 48 8) 120) <|
  bnd (sI M2 53 (mI M2 48 8).toNatClampNeg x2) fun M3 =>
  okk (vp_in (mI M3 48 8) 120) <|
  bnd (sI M3 54 (mI M3 48 8).toNatClampNeg x3) fun M4 =>
  bnd (sI M4 48 8 ((mI M4 48 8) + (1 : Int32))) fun M5 =>
  some ((), M5)
theorem b_X6_ask {x1 : Int32} {x2 : Int32} {x3 : Int32} {M z} (hP : Lay M) (h : d_X6_ask x1 x2 x3 M = some z) : VV Lay k_X6_ask 0 [(0, .ref 48), (1, .int x1), (2, .int x2), (3, .int x3)] [] M z.2 (Qv (none) z.2) xF := by
  unfold d_X6_ask at h
  refine Y_aload_n (pc := 0) (j := 0) dX6_ask_0 rfl rfl ?_
  refine Z_getr (pc := 1) dX6_ask_1 w2_51 (lk_48 hP) fr_6_2 (lr_48_2 hP) ?_
  refine Y_aload_n (pc := 4) (j := 0) dX6_ask_4 rfl rfl ?_
  refine Z_geti (pc := 5) dX6_ask_5 w2_64 (lk_48 hP) fi_6_8 ?_
  refine Y_iload_n (pc := 8) (j := 1) dX6_ask_8 rfl rfl ?_
  obtain ⟨hb1, h⟩ := okE h
  refine Y_iast (pc := 9) dX6_ask_9 (lk_51 hP) (ln_51 hP) hb1 ?_
  obtain ⟨M1, eM1, h⟩ := bndE h
  refine VV.mem eM1 ?_
  have hP1 := hP.wI eM1
  refine Y_aload_n (pc := 10) (j := 0) dX6_ask_10 rfl rfl ?_
  refine Z_getr (pc := 11) dX6_ask_11 w2_53 (lk_48 hP1) fr_6_3 (lr_48_3 hP1) ?_
  refine Y_aload_n (pc := 14) (j := 0) dX6_ask_14 rfl rfl ?_
  refine Z_geti (pc := 15) dX6_ask_15 w2_64 (lk_48 hP1) fi_6_8 ?_
  refine Y_aload_n (pc := 18) (j := 0) dX6_ask_18 rfl rfl ?_
  refine Z_geti (pc := 19) dX6_ask_19 w2_61 (lk_48 hP1) fi_6_7 ?_
  obtain ⟨hb2, h⟩ := okE h
  refine Y_iast (pc := 22) dX6_ask_22 (lk_52 hP1) (ln_52 hP1) hb2 ?_
  obtain ⟨M2, eM2, h⟩ := bndE h
  refine VV.mem eM2 ?_
  have hP2 := hP1.wI eM2
  refine Y_aload_n (pc := 23) (j := 0) dX6_ask_23 rfl rfl ?_
  refine Z_getr (pc := 24) dX6_ask_24 w2_55 (lk_48 hP2) fr_6_4 (lr_48_4 hP2) ?_
  refine Y_aload_n (pc := 27) (j := 0) dX6_ask_27 rfl rfl ?_
  refine Z_geti (pc := 28) dX6_ask_28 w2_64 (lk_48 hP2) fi_6_8 ?_
  refine Y_iload_n (pc := 31) (j := 2) dX6_ask_31 rfl rfl ?_
  obtain ⟨hb3, h⟩ := okE h
  refine Y_iast (pc := 32) dX6_ask_32 (lk_53 hP2) (ln_53 hP2) hb3 ?_
  obtain ⟨M3, eM3, h⟩ := bndE h
  refine VV.mem eM3 ?_
  have hP3 := hP2.wI eM3
  refine Y_aload_n (pc := 33) (j := 0) dX6_ask_33 rfl rfl ?_
  refine Z_getr (pc := 34) dX6_ask_34 w2_57 (lk_48 hP3) fr_6_5 (lr_48_5 hP3) ?_
  refine Y_aload_n (pc := 37) (j := 0) dX6_ask_37 rfl rfl ?_
  refine Z_geti (pc := 38) dX6_ask_38 w2_64 (lk_48 hP3) fi_6_8 ?_
  refine Y_iload_n (pc := 41) (j := 3) dX6_ask_41 rfl rfl ?_
  obtain ⟨hb4, h⟩ := okE h
  refine Y_iast (pc := 42) dX6_ask_42 (lk_54 hP3) (ln_54 hP3) hb4 ?_
  obtain ⟨M4, eM4, h⟩ := bndE h
  refine VV.mem eM4 ?_
  have hP4 := hP3.wI eM4
  refine Y_aload_n (pc := 43) (j := 0) dX6_ask_43 rfl rfl ?_
  refine Y_dup (pc := 44) dX6_ask_44 rfl ?_
  refine Z_geti (pc := 45) dX6_ask_45 w2_64 (lk_48 hP4) fi_6_8 ?_
  refine Y_iconst (pc := 48) (v := (1 : Int32)) dX6_ask_48 rfl ?_
  refine Y_iadd (pc := 49) dX6_ask_49 ?_
  refine Z_puti (pc := 50) dX6_ask_50 w2_64 (lk_48 hP4) fi_6_8 (Or.inl rfl) rfl ?_
  obtain ⟨M5, eM5, h⟩ := bndE h
  refine VV.mem eM5 ?_
  have hP5 := hP4.wI eM5
  cases h
  exact Y_vret (pc := 53) rfl dX6_ask_53 hP5 ⟨rfl, rfl⟩
theorem v_X6_ask {x1 : Int32} {x2 : Int32} {x3 : Int32} {M z} (hP : Lay M) (h : d_X6_ask x1 x2 x3 M = some z) : CC Lay k_X6_ask [.ref 48, .int x1, .int x2, .int x3] M z.2 (Qv (none) z.2) xF :=
  CC.ofVV (by decide) rfl (Nat.le_of_ble_eq_true rfl) (b_X6_ask hP h)
noncomputable def d_X6_learn (x2 : Int32) (x3 : Int32) (M : Mem) : Option (Unit × Mem) :=
  (d_X3_fromTop 18 x2 M).bind fun y1 =>
  okk (vp_in y1.1 549) <|
  okk (vp_in (mI y1.2 23 y1.1.toNatClampNeg) 378) <|
  okk (vp_in (mI y1.2 23 y1.1.toNatClampNeg) 378) <|
  bnd (sI y1.2 55 (mI y1.2 23 y1.1.toNatClampNeg).toNatClampNeg ((mI y1.2 55 (mI y1.2 23 y1.1.toNatClampNeg).toNatClampNeg) ||| x3)) fun M1 =>
  some ((), M1)
theorem b_X6_learn {x2 : Int32} {x3 : Int32} {M z} (hP : Lay M) (h : d_X6_learn x2 x3 M = some z) : VV Lay k_X6_learn 0 [(0, .ref 48), (1, .ref 18), (2, .int x2), (3, .int x3)] [] M z.2 (Qv (none) z.2) xF := by
  unfold d_X6_learn at h
  refine Y_aload_n (pc := 0) (j := 0) dX6_learn_0 rfl rfl ?_
  refine Z_getr (pc := 1) dX6_learn_1 w2_59 (lk_48 hP) fr_6_6 (lr_48_6 hP) ?_
  refine Y_aload_n (pc := 4) (j := 1) dX6_learn_4 rfl rfl ?_
  refine Z_getr (pc := 5) dX6_learn_5 w1_172 (lk_18 hP) fr_4_2 (lr_18_2 hP) ?_
  refine Z_getr (pc := 8) dX6_learn_8 w1_156 (lk_19 hP) fr_8_3 (lr_19_3 hP) ?_
  refine Y_aload_n (pc := 11) (j := 1) dX6_learn_11 rfl rfl ?_
  refine Y_iload_n (pc := 12) (j := 2) dX6_learn_12 rfl rfl ?_
  obtain ⟨y1, qy1, h⟩ := bindE h
  have cy1 := v_X3_fromTop (Or.inl rfl) hP qy1
  refine C_V1r (pc := 13) (k' := k_X3_fromTop) dX6_learn_13 w6_148 i_X3_fromTop (lk_18 hP) ⟨Nat.le_of_ble_eq_true rfl, Nat.le_of_ble_eq_true rfl⟩ rfl (Nat.le_of_ble_eq_true rfl) (Nat.le_of_ble_eq_true rfl) (Nat.le_of_ble_eq_true rfl) (cy1) ?_
  have hPy1 := cy1.1.1
  obtain ⟨hb1, h⟩ := okE h
  refine Y_iald (pc := 16) dX6_learn_16 (lk_23 hPy1) (ln_23 hPy1) hb1 ?_
  refine Y_dup2 (pc := 17) dX6_learn_17 rfl rfl ?_
  obtain ⟨hb2, h⟩ := okE h
  refine Y_iald (pc := 18) dX6_learn_18 (lk_55 hPy1) (ln_55 hPy1) hb2 ?_
  refine Y_iload_n (pc := 19) (j := 3) dX6_learn_19 rfl rfl ?_
  refine Y_ior (pc := 20) dX6_learn_20 ?_
  obtain ⟨hb3, h⟩ := okE h
  refine Y_iast (pc := 21) dX6_learn_21 (lk_55 hPy1) (ln_55 hPy1) hb3 ?_
  obtain ⟨M1, eM1, h⟩ := bndE h
  refine VV.mem eM1 ?_
  have hP1 := hPy1.wI eM1
  cases h
  exact Y_vret (pc := 22) rfl dX6_learn_22 hP1 ⟨rfl, rfl⟩
theorem v_X6_learn {x2 : Int32} {x3 : Int32} {M z} (hP : Lay M) (h : d_X6_learn x2 x3 M = some z) : CC Lay k_X6_learn [.ref 48, .ref 18, .int x2, .int x3] M z.2 (Qv (none) z.2) xF :=
  CC.ofVV (by decide) rfl (Nat.le_of_ble_eq_true rfl) (b_X6_learn hP h)
noncomputable def d_X6_askKind (x2 : Int32) (M : Mem) : Option (Unit × Mem) :=
  (d_X6_isKnown x2 (1 : Int32) M).bind fun y1 =>
  if y1.1 = 0 then (
    (d_X3_answerTo 18 (107 : Int32) x2 y1.2).bind fun y2 =>
    (d_X6_ask (107 : Int32) x2 y2.1 y2.2).bind fun y3 =>
    (d_X3_fromTop 18 x2 y3.2).bind fun y4 =>
    (d_X8_isNumber 18 y4.1 y4.2).bind fun y5 =>
    if y5.1 = 0 then (
      (d_X6_learn x2 (3 : Int32) y5.2).bind fun y6 =>
      some ((), y6.2))
    else (
      (d_X6_learn x2 (1 : Int32) y5.2).bind fun y7 =>
      some ((), y7.2)))
  else (
    some ((), y1.2))
theorem b_X6_askKind {x2 : Int32} {M z} (hP : Lay M) (h : d_X6_askKind x2 M = some z) : VV Lay k_X6_askKind 0 [(0, .ref 48), (1, .ref 18), (2, .int x2)] [] M z.2 (Qv (none) z.2) xF := by
  unfold d_X6_askKind at h
  refine Y_aload_n (pc := 0) (j := 0) dX6_askKind_0 rfl rfl ?_
  refine Y_aload_n (pc := 1) (j := 1) dX6_askKind_1 rfl rfl ?_
  refine Y_iload_n (pc := 2) (j := 2) dX6_askKind_2 rfl rfl ?_
  refine Y_iconst (pc := 3) (v := (1 : Int32)) dX6_askKind_3 rfl ?_
  obtain ⟨y1, qy1, h⟩ := bindE h
  have cy1 := v_X6_isKnown hP qy1
  refine C_V3r (pc := 4) (k' := k_X6_isKnown) dX6_askKind_4 w6_144 i_X6_isKnown (lk_48 hP) ⟨Nat.le_of_ble_eq_true rfl, Nat.le_of_ble_eq_true rfl⟩ rfl (Nat.le_of_ble_eq_true rfl) (Nat.le_of_ble_eq_true rfl) (Nat.le_of_ble_eq_true rfl) (cy1) ?_
  have hPy1 := cy1.1.1
  refine Y_if_ne (pc := 7) (tgt := 50) dX6_askKind_7 (by decide) (fun hc1 => ?_) (fun hc1 => ?_)
  · replace h := ifF hc1 h
    cases h
    exact Y_vret (pc := 50) rfl dX6_askKind_50 hPy1 ⟨rfl, rfl⟩
  · replace h := ifT hc1 h
    refine Y_aload_n (pc := 10) (j := 0) dX6_askKind_10 rfl rfl ?_
    refine Y_bipush (pc := 11) (v := (107 : Int32)) dX6_askKind_11 rfl ?_
    refine Y_iload_n (pc := 13) (j := 2) dX6_askKind_13 rfl rfl ?_
    refine Y_aload_n (pc := 14) (j := 1) dX6_askKind_14 rfl rfl ?_
    refine Y_bipush (pc := 15) (v := (107 : Int32)) dX6_askKind_15 rfl ?_
    refine Y_iload_n (pc := 17) (j := 2) dX6_askKind_17 rfl rfl ?_
    obtain ⟨y2, qy2, h⟩ := bindE h
    have cy2 := v_X3_answerTo (Or.inl rfl) hPy1 qy2
    refine C_V2r (pc := 18) (k' := k_X3_answerTo) dX6_askKind_18 w6_157 i_X3_answerTo (lk_18 hPy1) ⟨Nat.le_of_ble_eq_true rfl, Nat.le_of_ble_eq_true rfl⟩ rfl (Nat.le_of_ble_eq_true rfl) (Nat.le_of_ble_eq_true rfl) (Nat.le_of_ble_eq_true rfl) (cy2) ?_
    have hPy2 := cy2.1.1
    obtain ⟨y3, qy3, h⟩ := bindE h
    have cy3 := v_X6_ask hPy2 qy3
    refine C_V3o (pc := 21) (k' := k_X6_ask) dX6_askKind_21 w6_158 i_X6_ask (lk_48 hPy2) ⟨Nat.le_of_ble_eq_true rfl, Nat.le_of_ble_eq_true rfl⟩ rfl (Nat.le_of_ble_eq_true rfl) (Nat.le_of_ble_eq_true rfl) (Nat.le_of_ble_eq_true rfl) (cy3) ?_
    have hPy3 := cy3.1.1
    refine Y_aload_n (pc := 24) (j := 0) dX6_askKind_24 rfl rfl ?_
    refine Y_aload_n (pc := 25) (j := 1) dX6_askKind_25 rfl rfl ?_
    refine Y_iload_n (pc := 26) (j := 2) dX6_askKind_26 rfl rfl ?_
    refine Y_aload_n (pc := 27) (j := 1) dX6_askKind_27 rfl rfl ?_
    refine Z_getr (pc := 28) dX6_askKind_28 w1_172 (lk_18 hPy3) fr_4_2 (lr_18_2 hPy3) ?_
    refine Y_aload_n (pc := 31) (j := 1) dX6_askKind_31 rfl rfl ?_
    refine Y_iload_n (pc := 32) (j := 2) dX6_askKind_32 rfl rfl ?_
    obtain ⟨y4, qy4, h⟩ := bindE h
    have cy4 := v_X3_fromTop (Or.inl rfl) hPy3 qy4
    refine C_V1r (pc := 33) (k' := k_X3_fromTop) dX6_askKind_33 w6_148 i_X3_fromTop (lk_18 hPy3) ⟨Nat.le_of_ble_eq_true rfl, Nat.le_of_ble_eq_true rfl⟩ rfl (Nat.le_of_ble_eq_true rfl) (Nat.le_of_ble_eq_true rfl) (Nat.le_of_ble_eq_true rfl) (cy4) ?_
    have hPy4 := cy4.1.1
    obtain ⟨y5, qy5, h⟩ := bindE h
    have cy5 := v_X8_isNumber (Or.inl rfl) hPy4 qy5
    refine C_V1r (pc := 36) (k' := k_X8_isNumber) dX6_askKind_36 w6_162 i_X8_isNumber (lk_19 hPy4) ⟨Nat.le_of_ble_eq_true rfl, Nat.le_of_ble_eq_true rfl⟩ rfl (Nat.le_of_ble_eq_true rfl) (Nat.le_of_ble_eq_true rfl) (Nat.le_of_ble_eq_true rfl) (cy5) ?_
    have hPy5 := cy5.1.1
    refine Y_if_eq (pc := 39) (tgt := 46) dX6_askKind_39 (by decide) (fun hc2 => ?_) (fun hc2 => ?_)
    · replace h := ifT hc2 h
      refine Y_iconst (pc := 46) (v := (3 : Int32)) dX6_askKind_46 rfl ?_
      obtain ⟨y6, qy6, h⟩ := bindE h
      have cy6 := v_X6_learn hPy5 qy6
      refine C_V3o (pc := 47) (k' := k_X6_learn) dX6_askKind_47 w6_163 i_X6_learn (lk_48 hPy5) ⟨Nat.le_of_ble_eq_true rfl, Nat.le_of_ble_eq_true rfl⟩ rfl (Nat.le_of_ble_eq_true rfl) (Nat.le_of_ble_eq_true rfl) (Nat.le_of_ble_eq_true rfl) (cy6) ?_
      have hPy6 := cy6.1.1
      cases h
      exact Y_vret (pc := 50) rfl dX6_askKind_50 hPy6 ⟨rfl, rfl⟩
    · replace h := ifF hc2 h
      refine Y_iconst (pc := 42) (v := (1 : Int32)) dX6_askKind_42 rfl ?_
      refine Y_goto (pc := 43) (tgt := 47) dX6_askKind_43 (by decide) ?_
      obtain ⟨y7, qy7, h⟩ := bindE h
      have cy7 := v_X6_learn hPy5 qy7
      refine C_V3o (pc := 47) (k' := k_X6_learn) dX6_askKind_47 w6_163 i_X6_learn (lk_48 hPy5) ⟨Nat.le_of_ble_eq_true rfl, Nat.le_of_ble_eq_true rfl⟩ rfl (Nat.le_of_ble_eq_true rfl) (Nat.le_of_ble_eq_true rfl) (Nat.le_of_ble_eq_true rfl) (cy7) ?_
      have hPy7 := cy7.1.1
      cases h
      exact Y_vret (pc := 50) rfl dX6_askKind_50 hPy7 ⟨rfl, rfl⟩
theorem v_X6_askKind {x2 : Int32} {M z} (hP : Lay M) (h : d_X6_askKind x2 M = some z) : CC Lay k_X6_askKind [.ref 48, .ref 18, .int x2] M z.2 (Qv (none) z.2) xF :=
  CC.ofVV (by decide) rfl (Nat.le_of_ble_eq_true rfl) (b_X6_askKind hP h)
noncomputable def d_X6_askNullness (x2 : Int32) (M : Mem) : Option (Unit × Mem) :=
  (d_X6_isKnown (1 : Int32) (2 : Int32) M).bind fun y1 =>
  if y1.1 = 0 then (
    (d_X3_answerTo 18 x2 (1 : Int32) y1.2).bind fun y2 =>
    (d_X6_ask x2 (1 : Int32) y2.1 y2.2).bind fun y3 =>
    (d_X6_learn (1 : Int32) (2 : Int32) y3.2).bind fun y4 =>
    some ((), y4.2))
  else (
    some ((), y1.2))
theorem b_X6_askNullness {x2 : Int32} {M z} (hP : Lay M) (h : d_X6_askNullness x2 M = some z) : VV Lay k_X6_askNullness 0 [(0, .ref 48), (1, .ref 18), (2, .int x2)] [] M z.2 (Qv (none) z.2) xF := by
  unfold d_X6_askNullness at h
  refine Y_aload_n (pc := 0) (j := 0) dX6_askNullness_0 rfl rfl ?_
  refine Y_aload_n (pc := 1) (j := 1) dX6_askNullness_1 rfl rfl ?_
  refine Y_iconst (pc := 2) (v := (1 : Int32)) dX6_askNullness_2 rfl ?_
  refine Y_iconst (pc := 3) (v := (2 : Int32)) dX6_askNullness_3 rfl ?_
  obtain ⟨y1, qy1, h⟩ := bindE h
  have cy1 := v_X6_isKnown hP qy1
  refine C_V3r (pc := 4) (k' := k_X6_isKnown) dX6_askNullness_4 w6_144 i_X6_isKnown (lk_48 hP) ⟨Nat.le_of_ble_eq_true rfl, Nat.le_of_ble_eq_true rfl⟩ rfl (Nat.le_of_ble_eq_true rfl) (Nat.le_of_ble_eq_true rfl) (Nat.le_of_ble_eq_true rfl) (cy1) ?_
  have hPy1 := cy1.1.1
  refine Y_if_ne (pc := 7) (tgt := 29) dX6_askNullness_7 (by decide) (fun hc1 => ?_) (fun hc1 => ?_)
  · replace h := ifF hc1 h
    cases h
    exact Y_vret (pc := 29) rfl dX6_askNullness_29 hPy1 ⟨rfl, rfl⟩
  · replace h := ifT hc1 h
    refine Y_aload_n (pc := 10) (j := 0) dX6_askNullness_10 rfl rfl ?_
    refine Y_iload_n (pc := 11) (j := 2) dX6_askNullness_11 rfl rfl ?_
    refine Y_iconst (pc := 12) (v := (1 : Int32)) dX6_askNullness_12 rfl ?_
    refine Y_aload_n (pc := 13) (j := 1) dX6_askNullness_13 rfl rfl ?_
    refine Y_iload_n (pc := 14) (j := 2) dX6_askNullness_14 rfl rfl ?_
    refine Y_iconst (pc := 15) (v := (1 : Int32)) dX6_askNullness_15 rfl ?_
    obtain ⟨y2, qy2, h⟩ := bindE h
    have cy2 := v_X3_answerTo (Or.inl rfl) hPy1 qy2
    refine C_V2r (pc := 16) (k' := k_X3_answerTo) dX6_askNullness_16 w6_157 i_X3_answerTo (lk_18 hPy1) ⟨Nat.le_of_ble_eq_true rfl, Nat.le_of_ble_eq_true rfl⟩ rfl (Nat.le_of_ble_eq_true rfl) (Nat.le_of_ble_eq_true rfl) (Nat.le_of_ble_eq_true rfl) (cy2) ?_
    have hPy2 := cy2.1.1
    obtain ⟨y3, qy3, h⟩ := bindE h
    have cy3 := v_X6_ask hPy2 qy3
    refine C_V3o (pc := 19) (k' := k_X6_ask) dX6_askNullness_19 w6_158 i_X6_ask (lk_48 hPy2) ⟨Nat.le_of_ble_eq_true rfl, Nat.le_of_ble_eq_true rfl⟩ rfl (Nat.le_of_ble_eq_true rfl) (Nat.le_of_ble_eq_true rfl) (Nat.le_of_ble_eq_true rfl) (cy3) ?_
    have hPy3 := cy3.1.1
    refine Y_aload_n (pc := 22) (j := 0) dX6_askNullness_22 rfl rfl ?_
    refine Y_aload_n (pc := 23) (j := 1) dX6_askNullness_23 rfl rfl ?_
    refine Y_iconst (pc := 24) (v := (1 : Int32)) dX6_askNullness_24 rfl ?_
    refine Y_iconst (pc := 25) (v := (2 : Int32)) dX6_askNullness_25 rfl ?_
    obtain ⟨y4, qy4, h⟩ := bindE h
    have cy4 := v_X6_learn hPy3 qy4
    refine C_V3o (pc := 26) (k' := k_X6_learn) dX6_askNullness_26 w6_163 i_X6_learn (lk_48 hPy3) ⟨Nat.le_of_ble_eq_true rfl, Nat.le_of_ble_eq_true rfl⟩ rfl (Nat.le_of_ble_eq_true rfl) (Nat.le_of_ble_eq_true rfl) (Nat.le_of_ble_eq_true rfl) (cy4) ?_
    have hPy4 := cy4.1.1
    cases h
    exact Y_vret (pc := 29) rfl dX6_askNullness_29 hPy4 ⟨rfl, rfl⟩
theorem v_X6_askNullness {x2 : Int32} {M z} (hP : Lay M) (h : d_X6_askNullness x2 M = some z) : CC Lay k_X6_askNullness [.ref 48, .ref 18, .int x2] M z.2 (Qv (none) z.2) xF :=
  CC.ofVV (by decide) rfl (Nat.le_of_ble_eq_true rfl) (b_X6_askNullness hP h)
noncomputable def d_X6_askShape (x2 : Int32) (M : Mem) : Option (Unit × Mem) :=
  (d_X6_isKnown x2 (8 : Int32) M).bind fun y1 =>
  if y1.1 = 0 then (
    (d_X3_answerTo 18 (115 : Int32) x2 y1.2).bind fun y2 =>
    (d_X6_ask (115 : Int32) x2 y2.1 y2.2).bind fun y3 =>
    (d_X6_learn x2 (11 : Int32) y3.2).bind fun y4 =>
    some ((), y4.2))
  else (
    some ((), y1.2))
theorem b_X6_askShape {x2 : Int32} {M z} (hP : Lay M) (h : d_X6_askShape x2 M = some z) : VV Lay k_X6_askShape 0 [(0, .ref 48), (1, .ref 18), (2, .int x2)] [] M z.2 (Qv (none) z.2) xF := by
  unfold d_X6_askShape at h
  refine Y_aload_n (pc := 0) (j := 0) dX6_askShape_0 rfl rfl ?_
  refine Y_aload_n (pc := 1) (j := 1) dX6_askShape_1 rfl rfl ?_
  refine Y_iload_n (pc := 2) (j := 2) dX6_askShape_2 rfl rfl ?_
  refine Y_bipush (pc := 3) (v := (8 : Int32)) dX6_askShape_3 rfl ?_
  obtain ⟨y1, qy1, h⟩ := bindE h
  have cy1 := v_X6_isKnown hP qy1
  refine C_V3r (pc := 5) (k' := k_X6_isKnown) dX6_askShape_5 w6_144 i_X6_isKnown (lk_48 hP) ⟨Nat.le_of_ble_eq_true rfl, Nat.le_of_ble_eq_true rfl⟩ rfl (Nat.le_of_ble_eq_true rfl) (Nat.le_of_ble_eq_true rfl) (Nat.le_of_ble_eq_true rfl) (cy1) ?_
  have hPy1 := cy1.1.1
  refine Y_if_ne (pc := 8) (tgt := 33) dX6_askShape_8 (by decide) (fun hc1 => ?_) (fun hc1 => ?_)
  · replace h := ifF hc1 h
    cases h
    exact Y_vret (pc := 33) rfl dX6_askShape_33 hPy1 ⟨rfl, rfl⟩
  · replace h := ifT hc1 h
    refine Y_aload_n (pc := 11) (j := 0) dX6_askShape_11 rfl rfl ?_
    refine Y_bipush (pc := 12) (v := (115 : Int32)) dX6_askShape_12 rfl ?_
    refine Y_iload_n (pc := 14) (j := 2) dX6_askShape_14 rfl rfl ?_
    refine Y_aload_n (pc := 15) (j := 1) dX6_askShape_15 rfl rfl ?_
    refine Y_bipush (pc := 16) (v := (115 : Int32)) dX6_askShape_16 rfl ?_
    refine Y_iload_n (pc := 18) (j := 2) dX6_askShape_18 rfl rfl ?_
    obtain ⟨y2, qy2, h⟩ := bindE h
    have cy2 := v_X3_answerTo (Or.inl rfl) hPy1 qy2
    refine C_V2r (pc := 19) (k' := k_X3_answerTo) dX6_askShape_19 w6_157 i_X3_answerTo (lk_18 hPy1) ⟨Nat.le_of_ble_eq_true rfl, Nat.le_of_ble_eq_true rfl⟩ rfl (Nat.le_of_ble_eq_true rfl) (Nat.le_of_ble_eq_true rfl) (Nat.le_of_ble_eq_true rfl) (cy2) ?_
    have hPy2 := cy2.1.1
    obtain ⟨y3, qy3, h⟩ := bindE h
    have cy3 := v_X6_ask hPy2 qy3
    refine C_V3o (pc := 22) (k' := k_X6_ask) dX6_askShape_22 w6_158 i_X6_ask (lk_48 hPy2) ⟨Nat.le_of_ble_eq_true rfl, Nat.le_of_ble_eq_true rfl⟩ rfl (Nat.le_of_ble_eq_true rfl) (Nat.le_of_ble_eq_true rfl) (Nat.le_of_ble_eq_true rfl) (cy3) ?_
    have hPy3 := cy3.1.1
    refine Y_aload_n (pc := 25) (j := 0) dX6_askShape_25 rfl rfl ?_
    refine Y_aload_n (pc := 26) (j := 1) dX6_askShape_26 rfl rfl ?_
    refine Y_iload_n (pc := 27) (j := 2) dX6_askShape_27 rfl rfl ?_
    refine Y_bipush (pc := 28) (v := (11 : Int32)) dX6_askShape_28 rfl ?_
    obtain ⟨y4, qy4, h⟩ := bindE h
    have cy4 := v_X6_learn hPy3 qy4
    refine C_V3o (pc := 30) (k' := k_X6_learn) dX6_askShape_30 w6_163 i_X6_learn (lk_48 hPy3) ⟨Nat.le_of_ble_eq_true rfl, Nat.le_of_ble_eq_true rfl⟩ rfl (Nat.le_of_ble_eq_true rfl) (Nat.le_of_ble_eq_true rfl) (Nat.le_of_ble_eq_true rfl) (cy4) ?_
    have hPy4 := cy4.1.1
    cases h
    exact Y_vret (pc := 33) rfl dX6_askShape_33 hPy4 ⟨rfl, rfl⟩
theorem v_X6_askShape {x2 : Int32} {M z} (hP : Lay M) (h : d_X6_askShape x2 M = some z) : CC Lay k_X6_askShape [.ref 48, .ref 18, .int x2] M z.2 (Qv (none) z.2) xF :=
  CC.ofVV (by decide) rfl (Nat.le_of_ble_eq_true rfl) (b_X6_askShape hP h)
noncomputable def d_X6_forgetOtherShapes_22b (k22 : (Int32) → Mem → Option (Unit × Mem)) (x2 : Int32) (M : Mem) : Option (Unit × Mem) :=
  if (mI M 48 9) ≤ x2 then (
    (d_X6_learn (2 : Int32) (8 : Int32) M).bind fun y1 =>
    some ((), y1.2))
  else (
    okk (vp_in x2 378) <|
    okk (vp_in x2 378) <|
    bnd (sI M 55 x2.toNatClampNeg ((mI M 55 x2.toNatClampNeg) &&& (-9 : Int32))) fun M1 =>
    bnd ((x2 + (1 : Int32))) fun b1 =>
    k22 (b1) M1)
theorem b_X6_forgetOtherShapes_22b {k22 : (Int32) → Mem → Option (Unit × Mem)} {x2 : Int32} {M z} (hk22 : ∀ (a : (Int32)) (M : Mem) (z : Unit × Mem), Lay M → k22 a M = some z → VV Lay k_X6_forgetOtherShapes 22 [(0, .ref 48), (1, .ref 18), (2, .int a)] [] M z.2 (Qv (none) z.2) xF) (hP : Lay M) (h : d_X6_forgetOtherShapes_22b k22 x2 M = some z) : VV Lay k_X6_forgetOtherShapes 22 [(0, .ref 48), (1, .ref 18), (2, .int x2)] [] M z.2 (Qv (none) z.2) xF := by
  unfold d_X6_forgetOtherShapes_22b at h
  refine Y_iload_n (pc := 22) (j := 2) dX6_forgetOtherShapes_22 rfl rfl ?_
  refine Y_aload_n (pc := 23) (j := 0) dX6_forgetOtherShapes_23 rfl rfl ?_
  refine Z_geti (pc := 24) dX6_forgetOtherShapes_24 w2_65 (lk_48 hP) fi_6_9 ?_
  refine Y_icmp_ge (pc := 27) (tgt := 47) dX6_forgetOtherShapes_27 (by decide) (fun hc1 => ?_) (fun hc1 => ?_)
  · replace h := ifT hc1 h
    refine Y_aload_n (pc := 47) (j := 0) dX6_forgetOtherShapes_47 rfl rfl ?_
    refine Y_aload_n (pc := 48) (j := 1) dX6_forgetOtherShapes_48 rfl rfl ?_
    refine Y_iconst (pc := 49) (v := (2 : Int32)) dX6_forgetOtherShapes_49 rfl ?_
    refine Y_bipush (pc := 50) (v := (8 : Int32)) dX6_forgetOtherShapes_50 rfl ?_
    obtain ⟨y1, qy1, h⟩ := bindE h
    have cy1 := v_X6_learn hP qy1
    refine C_V3o (pc := 52) (k' := k_X6_learn) dX6_forgetOtherShapes_52 w6_163 i_X6_learn (lk_48 hP) ⟨Nat.le_of_ble_eq_true rfl, Nat.le_of_ble_eq_true rfl⟩ rfl (Nat.le_of_ble_eq_true rfl) (Nat.le_of_ble_eq_true rfl) (Nat.le_of_ble_eq_true rfl) (cy1) ?_
    have hPy1 := cy1.1.1
    cases h
    exact Y_vret (pc := 55) rfl dX6_forgetOtherShapes_55 hPy1 ⟨rfl, rfl⟩
  · replace h := ifF hc1 h
    refine Y_aload_n (pc := 30) (j := 0) dX6_forgetOtherShapes_30 rfl rfl ?_
    refine Z_getr (pc := 31) dX6_forgetOtherShapes_31 w2_59 (lk_48 hP) fr_6_6 (lr_48_6 hP) ?_
    refine Y_iload_n (pc := 34) (j := 2) dX6_forgetOtherShapes_34 rfl rfl ?_
    refine Y_dup2 (pc := 35) dX6_forgetOtherShapes_35 rfl rfl ?_
    obtain ⟨hb1, h⟩ := okE h
    refine Y_iald (pc := 36) dX6_forgetOtherShapes_36 (lk_55 hP) (ln_55 hP) hb1 ?_
    refine Y_bipush (pc := 37) (v := (-9 : Int32)) dX6_forgetOtherShapes_37 rfl ?_
    refine Y_iand (pc := 39) dX6_forgetOtherShapes_39 ?_
    obtain ⟨hb2, h⟩ := okE h
    refine Y_iast (pc := 40) dX6_forgetOtherShapes_40 (lk_55 hP) (ln_55 hP) hb2 ?_
    obtain ⟨M1, eM1, h⟩ := bndE h
    refine VV.mem eM1 ?_
    have hP1 := hP.wI eM1
    obtain ⟨b1, eb1, h⟩ := bndE h
    refine Y_iinc (pc := 41) (j := 2) (v := b1) (lv1 := [(2, .int b1), (0, .ref 48), (1, .ref 18)]) dX6_forgetOtherShapes_41 rfl eb1.symm (by decide) rfl ?_
    refine Y_goto (pc := 44) (tgt := 22) dX6_forgetOtherShapes_44 (by decide) ?_
    refine VV.sub [1, 2, 0] rfl ?_
    exact hk22 _ _ _ hP1 h
noncomputable def d_X6_forgetOtherShapes_22 : Nat → (Int32) → Mem → Option (Unit × Mem) := lp fun k a M => d_X6_forgetOtherShapes_22b k a M
theorem b_X6_forgetOtherShapes_22 (n : Nat) : ∀ (a : (Int32)) (M : Mem) (z : Unit × Mem), d_X6_forgetOtherShapes_22 n a M = some z → Lay M → VV Lay k_X6_forgetOtherShapes 22 [(0, .ref 48), (1, .ref 18), (2, .int a)] [] M z.2 (Qv (none) z.2) xF :=
  lp_ind (G := fun (a : (Int32)) (M : Mem) (z : Unit × Mem) => Lay M → VV Lay k_X6_forgetOtherShapes 22 [(0, .ref 48), (1, .ref 18), (2, .int a)] [] M z.2 (Qv (none) z.2) xF) (fun k hk a M z h hP => b_X6_forgetOtherShapes_22b  (fun a M z hP h => hk a M z h hP) hP h) n
noncomputable def d_X6_forgetOtherShapes (M : Mem) : Option (Unit × Mem) :=
  (d_X3_shapeFromTop 18 (2 : Int32) M).bind fun y1 =>
  (d_X7_has y1.1 (mI y1.2 18 8) y1.2).bind fun y2 =>
  if y2.1 = 0 then (
    d_X6_forgetOtherShapes_22 fuel ((0 : Int32)) y2.2)
  else (
    some ((), y2.2))
theorem b_X6_forgetOtherShapes {M z} (hP : Lay M) (h : d_X6_forgetOtherShapes M = some z) : VV Lay k_X6_forgetOtherShapes 0 [(0, .ref 48), (1, .ref 18)] [] M z.2 (Qv (none) z.2) xF := by
  unfold d_X6_forgetOtherShapes at h
  refine Y_aload_n (pc := 0) (j := 1) dX6_forgetOtherShapes_0 rfl rfl ?_
  refine Z_getr (pc := 1) dX6_forgetOtherShapes_1 w1_170 (lk_18 hP) fr_4_1 (lr_18_1 hP) ?_
  refine Y_aload_n (pc := 4) (j := 1) dX6_forgetOtherShapes_4 rfl rfl ?_
  refine Y_iconst (pc := 5) (v := (2 : Int32)) dX6_forgetOtherShapes_5 rfl ?_
  obtain ⟨y1, qy1, h⟩ := bindE h
  have cy1 := v_X3_shapeFromTop (Or.inl rfl) hP qy1
  refine C_V1r (pc := 6) (k' := k_X3_shapeFromTop) dX6_forgetOtherShapes_6 w6_179 i_X3_shapeFromTop (lk_18 hP) ⟨Nat.le_of_ble_eq_true rfl, Nat.le_of_ble_eq_true rfl⟩ rfl (Nat.le_of_ble_eq_true rfl) (Nat.le_of_ble_eq_true rfl) (Nat.le_of_ble_eq_true rfl) (cy1) ?_
  have hPy1 := cy1.1.1
  refine Y_aload_n (pc := 9) (j := 1) dX6_forgetOtherShapes_9 rfl rfl ?_
  refine Z_geti (pc := 10) dX6_forgetOtherShapes_10 w1_182 (lk_18 hPy1) fi_4_8 ?_
  obtain ⟨y2, qy2, h⟩ := bindE h
  have cy2 := v_X7_has hPy1 qy2
  refine C_V2r (pc := 13) (k' := k_X7_has) dX6_forgetOtherShapes_13 w6_180 i_X7_has (lk_11 hPy1) ⟨Nat.le_of_ble_eq_true rfl, Nat.le_of_ble_eq_true rfl⟩ rfl (Nat.le_of_ble_eq_true rfl) (Nat.le_of_ble_eq_true rfl) (Nat.le_of_ble_eq_true rfl) (cy2) ?_
  have hPy2 := cy2.1.1
  refine Y_if_eq (pc := 16) (tgt := 20) dX6_forgetOtherShapes_16 (by decide) (fun hc1 => ?_) (fun hc1 => ?_)
  · replace h := ifT hc1 h
    refine Y_iconst (pc := 20) (v := (0 : Int32)) dX6_forgetOtherShapes_20 rfl ?_
    refine Y_istore_n (pc := 21) (lv1 := [(2, .int (0 : Int32)), (0, .ref 48), (1, .ref 18)]) dX6_forgetOtherShapes_21 rfl (by decide) rfl ?_
    refine VV.sub [1, 2, 0] rfl ?_
    exact b_X6_forgetOtherShapes_22  fuel _ _ _ h hPy2
  · replace h := ifF hc1 h
    cases h
    exact Y_vret (pc := 19) rfl dX6_forgetOtherShapes_19 hPy2 ⟨rfl, rfl⟩
theorem v_X6_forgetOtherShapes {M z} (hP : Lay M) (h : d_X6_forgetOtherShapes M = some z) : CC Lay k_X6_forgetOtherShapes [.ref 48, .ref 18] M z.2 (Qv (none) z.2) xF :=
  CC.ofVV (by decide) rfl (Nat.le_of_ble_eq_true rfl) (b_X6_forgetOtherShapes hP h)
noncomputable def d_X6_noteTwoValues_102 (x2 : Int32) (M : Mem) : Option (Unit × Mem) :=
  if (xIdx 4 x2) < 0 then (
    some ((), M))
  else (
    (d_X3_answerTo 18 (111 : Int32) (2 : Int32) M).bind fun y1 =>
    (d_X6_ask (111 : Int32) (2 : Int32) y1.1 y1.2).bind fun y2 =>
    some ((), y2.2))
theorem b_X6_noteTwoValues_102 {x2 : Int32} {M z} (hP : Lay M) (h : d_X6_noteTwoValues_102 x2 M = some z) : VV Lay k_X6_noteTwoValues 102 [(0, .ref 48), (1, .ref 18), (2, .int x2)] [] M z.2 (Qv (none) z.2) xF := by
  unfold d_X6_noteTwoValues_102 at h
  refine Y_ldcS (pc := 102) (i := 4) dX6_noteTwoValues_102 rfl ?_
  refine Y_iload_n (pc := 104) (j := 2) dX6_noteTwoValues_104 rfl rfl ?_
  refine Y_indexOf (pc := 105) dX6_noteTwoValues_105 w6_186 (i := 4) (by decide) (Nat.le_of_ble_eq_true rfl) (Nat.le_of_ble_eq_true rfl) (Nat.le_of_ble_eq_true rfl) ?_
  refine Y_if_lt (pc := 108) (tgt := 125) dX6_noteTwoValues_108 (by decide) (fun hc1 => ?_) (fun hc1 => ?_)
  · replace h := ifT hc1 h
    cases h
    exact Y_vret (pc := 125) rfl dX6_noteTwoValues_125 hP ⟨rfl, rfl⟩
  · replace h := ifF hc1 h
    refine Y_aload_n (pc := 111) (j := 0) dX6_noteTwoValues_111 rfl rfl ?_
    refine Y_bipush (pc := 112) (v := (111 : Int32)) dX6_noteTwoValues_112 rfl ?_
    refine Y_iconst (pc := 114) (v := (2 : Int32)) dX6_noteTwoValues_114 rfl ?_
    refine Y_aload_n (pc := 115) (j := 1) dX6_noteTwoValues_115 rfl rfl ?_
    refine Y_bipush (pc := 116) (v := (111 : Int32)) dX6_noteTwoValues_116 rfl ?_
    refine Y_iconst (pc := 118) (v := (2 : Int32)) dX6_noteTwoValues_118 rfl ?_
    obtain ⟨y1, qy1, h⟩ := bindE h
    have cy1 := v_X3_answerTo (Or.inl rfl) hP qy1
    refine C_V2r (pc := 119) (k' := k_X3_answerTo) dX6_noteTwoValues_119 w6_157 i_X3_answerTo (lk_18 hP) ⟨Nat.le_of_ble_eq_true rfl, Nat.le_of_ble_eq_true rfl⟩ rfl (Nat.le_of_ble_eq_true rfl) (Nat.le_of_ble_eq_true rfl) (Nat.le_of_ble_eq_true rfl) (cy1) ?_
    have hPy1 := cy1.1.1
    obtain ⟨y2, qy2, h⟩ := bindE h
    have cy2 := v_X6_ask hPy1 qy2
    refine C_V3o (pc := 122) (k' := k_X6_ask) dX6_noteTwoValues_122 w6_158 i_X6_ask (lk_48 hPy1) ⟨Nat.le_of_ble_eq_true rfl, Nat.le_of_ble_eq_true rfl⟩ rfl (Nat.le_of_ble_eq_true rfl) (Nat.le_of_ble_eq_true rfl) (Nat.le_of_ble_eq_true rfl) (cy2) ?_
    have hPy2 := cy2.1.1
    cases h
    exact Y_vret (pc := 125) rfl dX6_noteTwoValues_125 hPy2 ⟨rfl, rfl⟩
noncomputable def d_X6_noteTwoValues_95 (x2 : Int32) (M : Mem) : Option (Unit × Mem) :=
  (d_X6_askNullness (122 : Int32) M).bind fun y1 =>
  d_X6_noteTwoValues_102 x2 y1.2
theorem b_X6_noteTwoValues_95 {x2 : Int32} {M z} (hP : Lay M) (h : d_X6_noteTwoValues_95 x2 M = some z) : VV Lay k_X6_noteTwoValues 95 [(0, .ref 48), (1, .ref 18), (2, .int x2)] [] M z.2 (Qv (none) z.2) xF := by
  unfold d_X6_noteTwoValues_95 at h
  refine Y_aload_n (pc := 95) (j := 0) dX6_noteTwoValues_95 rfl rfl ?_
  refine Y_aload_n (pc := 96) (j := 1) dX6_noteTwoValues_96 rfl rfl ?_
  refine Y_bipush (pc := 97) (v := (122 : Int32)) dX6_noteTwoValues_97 rfl ?_
  obtain ⟨y1, qy1, h⟩ := bindE h
  have cy1 := v_X6_askNullness hP qy1
  refine C_V2o (pc := 99) (k' := k_X6_askNullness) dX6_noteTwoValues_99 w6_167 i_X6_askNullness (lk_48 hP) ⟨Nat.le_of_ble_eq_true rfl, Nat.le_of_ble_eq_true rfl⟩ rfl (Nat.le_of_ble_eq_true rfl) (Nat.le_of_ble_eq_true rfl) (Nat.le_of_ble_eq_true rfl) (cy1) ?_
  have hPy1 := cy1.1.1
  refine VV.sub [0, 1, 2] rfl ?_
  exact b_X6_noteTwoValues_102  hPy1 h
noncomputable def d_X6_noteTwoValues_35 (x2 : Int32) (s0 : Int32) (M : Mem) : Option (Unit × Mem) :=
  (d_X6_madeOf s0 M).bind fun y1 =>
  bnd (sI y1.2 48 15 y1.1) fun M1 =>
  if s0 = 0 then (
    (d_X6_askKind (2 : Int32) M1).bind fun y2 =>
    (d_X6_askKind (1 : Int32) y2.2).bind fun y3 =>
    (d_X3_fromTop 18 (2 : Int32) y3.2).bind fun y4 =>
    (d_X3_fromTop 18 (1 : Int32) y4.2).bind fun y5 =>
    (d_X8_areIntegers 18 y4.1 y5.1 y5.2).bind fun y6 =>
    if y6.1 = 0 then (
      some ((), y6.2))
    else (
      if x2 = (47 : Int32) then (
        d_X6_noteTwoValues_95 x2 y6.2)
      else (
        if x2 = (37 : Int32) then (
          d_X6_noteTwoValues_95 x2 y6.2)
        else (
          d_X6_noteTwoValues_102 x2 y6.2))))
  else (
    some ((), M1))
theorem b_X6_noteTwoValues_35 {x2 : Int32} {s0 : Int32} {M z} (hP : Lay M) (h : d_X6_noteTwoValues_35 x2 s0 M = some z) : VV Lay k_X6_noteTwoValues 35 [(0, .ref 48), (1, .ref 18), (2, .int x2)] [.int s0] M z.2 (Qv (none) z.2) xF := by
  unfold d_X6_noteTwoValues_35 at h
  refine Y_istore_n (pc := 35) (lv1 := [(3, .int s0), (0, .ref 48), (1, .ref 18), (2, .int x2)]) dX6_noteTwoValues_35 rfl (by decide) rfl ?_
  refine Y_aload_n (pc := 36) (j := 1) dX6_noteTwoValues_36 rfl rfl ?_
  refine Y_aload_n (pc := 37) (j := 1) dX6_noteTwoValues_37 rfl rfl ?_
  refine Y_iload_n (pc := 38) (j := 0) dX6_noteTwoValues_38 rfl rfl ?_
  obtain ⟨y1, qy1, h⟩ := bindE h
  have cy1 := v_X6_madeOf hP qy1
  refine C_V1r (pc := 39) (k' := k_X6_madeOf) dX6_noteTwoValues_39 w6_149 i_X6_madeOf (lk_48 hP) ⟨Nat.le_of_ble_eq_true rfl, Nat.le_of_ble_eq_true rfl⟩ rfl (Nat.le_of_ble_eq_true rfl) (Nat.le_of_ble_eq_true rfl) (Nat.le_of_ble_eq_true rfl) (cy1) ?_
  have hPy1 := cy1.1.1
  refine Z_puti (pc := 42) dX6_noteTwoValues_42 w2_77 (lk_48 hPy1) fi_6_15 (Or.inl rfl) rfl ?_
  obtain ⟨M1, eM1, h⟩ := bndE h
  refine VV.mem eM1 ?_
  have hP1 := hPy1.wI eM1
  refine Y_iload_n (pc := 45) (j := 0) dX6_noteTwoValues_45 rfl rfl ?_
  refine Y_if_eq (pc := 46) (tgt := 50) dX6_noteTwoValues_46 (by decide) (fun hc1 => ?_) (fun hc1 => ?_)
  · replace h := ifT hc1 h
    refine Y_aload_n (pc := 50) (j := 1) dX6_noteTwoValues_50 rfl rfl ?_
    refine Y_aload_n (pc := 51) (j := 2) dX6_noteTwoValues_51 rfl rfl ?_
    refine Y_iconst (pc := 52) (v := (2 : Int32)) dX6_noteTwoValues_52 rfl ?_
    obtain ⟨y2, qy2, h⟩ := bindE h
    have cy2 := v_X6_askKind hP1 qy2
    refine C_V2o (pc := 53) (k' := k_X6_askKind) dX6_noteTwoValues_53 w6_153 i_X6_askKind (lk_48 hP1) ⟨Nat.le_of_ble_eq_true rfl, Nat.le_of_ble_eq_true rfl⟩ rfl (Nat.le_of_ble_eq_true rfl) (Nat.le_of_ble_eq_true rfl) (Nat.le_of_ble_eq_true rfl) (cy2) ?_
    have hPy2 := cy2.1.1
    refine Y_aload_n (pc := 56) (j := 1) dX6_noteTwoValues_56 rfl rfl ?_
    refine Y_aload_n (pc := 57) (j := 2) dX6_noteTwoValues_57 rfl rfl ?_
    refine Y_iconst (pc := 58) (v := (1 : Int32)) dX6_noteTwoValues_58 rfl ?_
    obtain ⟨y3, qy3, h⟩ := bindE h
    have cy3 := v_X6_askKind hPy2 qy3
    refine C_V2o (pc := 59) (k' := k_X6_askKind) dX6_noteTwoValues_59 w6_153 i_X6_askKind (lk_48 hPy2) ⟨Nat.le_of_ble_eq_true rfl, Nat.le_of_ble_eq_true rfl⟩ rfl (Nat.le_of_ble_eq_true rfl) (Nat.le_of_ble_eq_true rfl) (Nat.le_of_ble_eq_true rfl) (cy3) ?_
    have hPy3 := cy3.1.1
    refine Y_aload_n (pc := 62) (j := 2) dX6_noteTwoValues_62 rfl rfl ?_
    refine Z_getr (pc := 63) dX6_noteTwoValues_63 w1_172 (lk_18 hPy3) fr_4_2 (lr_18_2 hPy3) ?_
    refine Y_aload_n (pc := 66) (j := 2) dX6_noteTwoValues_66 rfl rfl ?_
    refine Y_iconst (pc := 67) (v := (2 : Int32)) dX6_noteTwoValues_67 rfl ?_
    obtain ⟨y4, qy4, h⟩ := bindE h
    have cy4 := v_X3_fromTop (Or.inl rfl) hPy3 qy4
    refine C_V1r (pc := 68) (k' := k_X3_fromTop) dX6_noteTwoValues_68 w6_148 i_X3_fromTop (lk_18 hPy3) ⟨Nat.le_of_ble_eq_true rfl, Nat.le_of_ble_eq_true rfl⟩ rfl (Nat.le_of_ble_eq_true rfl) (Nat.le_of_ble_eq_true rfl) (Nat.le_of_ble_eq_true rfl) (cy4) ?_
    have hPy4 := cy4.1.1
    refine Y_aload_n (pc := 71) (j := 2) dX6_noteTwoValues_71 rfl rfl ?_
    refine Y_iconst (pc := 72) (v := (1 : Int32)) dX6_noteTwoValues_72 rfl ?_
    obtain ⟨y5, qy5, h⟩ := bindE h
    have cy5 := v_X3_fromTop (Or.inl rfl) hPy4 qy5
    refine C_V1r (pc := 73) (k' := k_X3_fromTop) dX6_noteTwoValues_73 w6_148 i_X3_fromTop (lk_18 hPy4) ⟨Nat.le_of_ble_eq_true rfl, Nat.le_of_ble_eq_true rfl⟩ rfl (Nat.le_of_ble_eq_true rfl) (Nat.le_of_ble_eq_true rfl) (Nat.le_of_ble_eq_true rfl) (cy5) ?_
    have hPy5 := cy5.1.1
    obtain ⟨y6, qy6, h⟩ := bindE h
    have cy6 := v_X8_areIntegers (Or.inl rfl) hPy5 qy6
    refine C_V2r (pc := 76) (k' := k_X8_areIntegers) dX6_noteTwoValues_76 w6_187 i_X8_areIntegers (lk_19 hPy5) ⟨Nat.le_of_ble_eq_true rfl, Nat.le_of_ble_eq_true rfl⟩ rfl (Nat.le_of_ble_eq_true rfl) (Nat.le_of_ble_eq_true rfl) (Nat.le_of_ble_eq_true rfl) (cy6) ?_
    have hPy6 := cy6.1.1
    refine Y_if_ne (pc := 79) (tgt := 83) dX6_noteTwoValues_79 (by decide) (fun hc2 => ?_) (fun hc2 => ?_)
    · replace h := ifF hc2 h
      refine Y_iload_n (pc := 83) (j := 3) dX6_noteTwoValues_83 rfl rfl ?_
      refine Y_bipush (pc := 84) (v := (47 : Int32)) dX6_noteTwoValues_84 rfl ?_
      refine Y_icmp_eq (pc := 86) (tgt := 95) dX6_noteTwoValues_86 (by decide) (fun hc3 => ?_) (fun hc3 => ?_)
      · replace h := ifT hc3 h
        refine VV.sub [1, 2, 3] rfl ?_
        exact b_X6_noteTwoValues_95  hPy6 h
      · replace h := ifF hc3 h
        refine Y_iload_n (pc := 89) (j := 3) dX6_noteTwoValues_89 rfl rfl ?_
        refine Y_bipush (pc := 90) (v := (37 : Int32)) dX6_noteTwoValues_90 rfl ?_
        refine Y_icmp_ne (pc := 92) (tgt := 102) dX6_noteTwoValues_92 (by decide) (fun hc4 => ?_) (fun hc4 => ?_)
        · replace h := ifF hc4 h
          refine VV.sub [1, 2, 3] rfl ?_
          exact b_X6_noteTwoValues_102  hPy6 h
        · replace h := ifT hc4 h
          refine VV.sub [1, 2, 3] rfl ?_
          exact b_X6_noteTwoValues_95  hPy6 h
    · replace h := ifT hc2 h
      cases h
      exact Y_vret (pc := 82) rfl dX6_noteTwoValues_82 hPy6 ⟨rfl, rfl⟩
  · replace h := ifF hc1 h
    cases h
    exact Y_vret (pc := 49) rfl dX6_noteTwoValues_49 hP1 ⟨rfl, rfl⟩
noncomputable def d_X6_noteTwoValues_34 (x2 : Int32) (M : Mem) : Option (Unit × Mem) :=
  d_X6_noteTwoValues_35 x2 (0 : Int32) M
theorem b_X6_noteTwoValues_34 {x2 : Int32} {M z} (hP : Lay M) (h : d_X6_noteTwoValues_34 x2 M = some z) : VV Lay k_X6_noteTwoValues 34 [(0, .ref 48), (1, .ref 18), (2, .int x2)] [] M z.2 (Qv (none) z.2) xF := by
  unfold d_X6_noteTwoValues_34 at h
  refine Y_iconst (pc := 34) (v := (0 : Int32)) dX6_noteTwoValues_34 rfl ?_
  refine VV.sub [0, 1, 2] rfl ?_
  exact b_X6_noteTwoValues_35  hP h
noncomputable def d_X6_noteTwoValues (x2 : Int32) (M : Mem) : Option (Unit × Mem) :=
  if 0 ≤ (xIdx 3 x2) then (
    (d_X6_isKnown (2 : Int32) (4 : Int32) M).bind fun y1 =>
    if y1.1 = 0 then (
      d_X6_noteTwoValues_34 x2 y1.2)
    else (
      (d_X6_isKnown (1 : Int32) (4 : Int32) y1.2).bind fun y2 =>
      if y2.1 = 0 then (
        d_X6_noteTwoValues_34 x2 y2.2)
      else (
        d_X6_noteTwoValues_35 x2 (1 : Int32) y2.2)))
  else (
    some ((), M))
theorem b_X6_noteTwoValues {x2 : Int32} {M z} (hP : Lay M) (h : d_X6_noteTwoValues x2 M = some z) : VV Lay k_X6_noteTwoValues 0 [(0, .ref 48), (1, .ref 18), (2, .int x2)] [] M z.2 (Qv (none) z.2) xF := by
  unfold d_X6_noteTwoValues at h
  refine Y_ldcS (pc := 0) (i := 3) dX6_noteTwoValues_0 rfl ?_
  refine Y_iload_n (pc := 2) (j := 2) dX6_noteTwoValues_2 rfl rfl ?_
  refine Y_indexOf (pc := 3) dX6_noteTwoValues_3 w6_186 (i := 3) (by decide) (Nat.le_of_ble_eq_true rfl) (Nat.le_of_ble_eq_true rfl) (Nat.le_of_ble_eq_true rfl) ?_
  refine Y_if_ge (pc := 6) (tgt := 10) dX6_noteTwoValues_6 (by decide) (fun hc1 => ?_) (fun hc1 => ?_)
  · replace h := ifT hc1 h
    refine Y_aload_n (pc := 10) (j := 0) dX6_noteTwoValues_10 rfl rfl ?_
    refine Y_aload_n (pc := 11) (j := 1) dX6_noteTwoValues_11 rfl rfl ?_
    refine Y_iconst (pc := 12) (v := (2 : Int32)) dX6_noteTwoValues_12 rfl ?_
    refine Y_iconst (pc := 13) (v := (4 : Int32)) dX6_noteTwoValues_13 rfl ?_
    obtain ⟨y1, qy1, h⟩ := bindE h
    have cy1 := v_X6_isKnown hP qy1
    refine C_V3r (pc := 14) (k' := k_X6_isKnown) dX6_noteTwoValues_14 w6_144 i_X6_isKnown (lk_48 hP) ⟨Nat.le_of_ble_eq_true rfl, Nat.le_of_ble_eq_true rfl⟩ rfl (Nat.le_of_ble_eq_true rfl) (Nat.le_of_ble_eq_true rfl) (Nat.le_of_ble_eq_true rfl) (cy1) ?_
    have hPy1 := cy1.1.1
    refine Y_if_eq (pc := 17) (tgt := 34) dX6_noteTwoValues_17 (by decide) (fun hc2 => ?_) (fun hc2 => ?_)
    · replace h := ifT hc2 h
      refine VV.sub [0, 1, 2] rfl ?_
      exact b_X6_noteTwoValues_34  hPy1 h
    · replace h := ifF hc2 h
      refine Y_aload_n (pc := 20) (j := 0) dX6_noteTwoValues_20 rfl rfl ?_
      refine Y_aload_n (pc := 21) (j := 1) dX6_noteTwoValues_21 rfl rfl ?_
      refine Y_iconst (pc := 22) (v := (1 : Int32)) dX6_noteTwoValues_22 rfl ?_
      refine Y_iconst (pc := 23) (v := (4 : Int32)) dX6_noteTwoValues_23 rfl ?_
      obtain ⟨y2, qy2, h⟩ := bindE h
      have cy2 := v_X6_isKnown hPy1 qy2
      refine C_V3r (pc := 24) (k' := k_X6_isKnown) dX6_noteTwoValues_24 w6_144 i_X6_isKnown (lk_48 hPy1) ⟨Nat.le_of_ble_eq_true rfl, Nat.le_of_ble_eq_true rfl⟩ rfl (Nat.le_of_ble_eq_true rfl) (Nat.le_of_ble_eq_true rfl) (Nat.le_of_ble_eq_true rfl) (cy2) ?_
      have hPy2 := cy2.1.1
      refine Y_if_eq (pc := 27) (tgt := 34) dX6_noteTwoValues_27 (by decide) (fun hc3 => ?_) (fun hc3 => ?_)
      · replace h := ifT hc3 h
        refine VV.sub [0, 1, 2] rfl ?_
        exact b_X6_noteTwoValues_34  hPy2 h
      · replace h := ifF hc3 h
        refine Y_iconst (pc := 30) (v := (1 : Int32)) dX6_noteTwoValues_30 rfl ?_
        refine Y_goto (pc := 31) (tgt := 35) dX6_noteTwoValues_31 (by decide) ?_
        refine VV.sub [0, 1, 2] rfl ?_
        exact b_X6_noteTwoValues_35  hPy2 h
  · replace h := ifF hc1 h
    cases h
    exact Y_vret (pc := 9) rfl dX6_noteTwoValues_9 hP ⟨rfl, rfl⟩
theorem v_X6_noteTwoValues {x2 : Int32} {M z} (hP : Lay M) (h : d_X6_noteTwoValues x2 M = some z) : CC Lay k_X6_noteTwoValues [.ref 48, .ref 18, .int x2] M z.2 (Qv (none) z.2) xF :=
  CC.ofVV (by decide) rfl (Nat.le_of_ble_eq_true rfl) (b_X6_noteTwoValues hP h)
noncomputable def d_X6_noteAhead_213 (M : Mem) : Option (Unit × Mem) :=
  bnd (sI M 48 7 ((mI M 48 7) + (1 : Int32))) fun M1 =>
  some ((), M1)
theorem b_X6_noteAhead_213 {M z} (hP : Lay M) (h : d_X6_noteAhead_213 M = some z) : VV Lay k_X6_noteAhead 213 [(0, .ref 48)] [] M z.2 (Qv (none) z.2) xF := by
  unfold d_X6_noteAhead_213 at h
  refine Y_aload_n (pc := 213) (j := 0) dX6_noteAhead_213 rfl rfl ?_
  refine Y_dup (pc := 214) dX6_noteAhead_214 rfl ?_
  refine Z_geti (pc := 215) dX6_noteAhead_215 w2_61 (lk_48 hP) fi_6_7 ?_
  refine Y_iconst (pc := 218) (v := (1 : Int32)) dX6_noteAhead_218 rfl ?_
  refine Y_iadd (pc := 219) dX6_noteAhead_219 ?_
  refine Z_puti (pc := 220) dX6_noteAhead_220 w2_61 (lk_48 hP) fi_6_7 (Or.inl rfl) rfl ?_
  obtain ⟨M1, eM1, h⟩ := bndE h
  refine VV.mem eM1 ?_
  have hP1 := hP.wI eM1
  cases h
  exact Y_vret (pc := 223) rfl dX6_noteAhead_223 hP1 ⟨rfl, rfl⟩
noncomputable def d_X6_noteAhead (M : Mem) : Option (Unit × Mem) :=
  bnd ((mI M 18 7)) fun b1 =>
  (d_X3_lineAhead 18 M).bind fun y1 =>
  okk (vp_in (mI M 48 7) 30) <|
  bnd (sI y1.2 49 (mI M 48 7).toNatClampNeg y1.1) fun M1 =>
  okk (vp_in (mI M1 48 7) 31) <|
  bnd (sI M1 50 (mI M1 48 7).toNatClampNeg (mI M1 48 8)) fun M2 =>
  bnd (sI M2 48 15 (0 : Int32)) fun M3 =>
  if b1 = (103 : Int32) ∨ b1 = (109 : Int32) then (
    (d_X6_askShape (1 : Int32) M3).bind fun y2 =>
    d_X6_noteAhead_213 y2.2)
  else if b1 = (105 : Int32) ∨ b1 = (107 : Int32) then (
    bnd (sI M3 48 15 (7 : Int32)) fun M4 =>
    d_X6_noteAhead_213 M4)
  else if b1 = (110 : Int32) then (
    bnd (sI M3 48 15 (11 : Int32)) fun M5 =>
    d_X6_noteAhead_213 M5)
  else if b1 = (112 : Int32) then (
    (d_X6_askShape (2 : Int32) M3).bind fun y3 =>
    (d_X6_forgetOtherShapes y3.2).bind fun y4 =>
    d_X6_noteAhead_213 y4.2)
  else if b1 = (119 : Int32) then (
    (d_X6_isKnown (1 : Int32) (4 : Int32) M3).bind fun y5 =>
    (d_X6_madeOf y5.1 y5.2).bind fun y6 =>
    bnd (sI y6.2 48 15 y6.1) fun M6 =>
    (d_X6_askKind (1 : Int32) M6).bind fun y7 =>
    d_X6_noteAhead_213 y7.2)
  else if b1 = (122 : Int32) then (
    (d_X6_askNullness (116 : Int32) M3).bind fun y8 =>
    d_X6_noteAhead_213 y8.2)
  else (
    (d_X6_noteTwoValues b1 M3).bind fun y9 =>
    d_X6_noteAhead_213 y9.2)
theorem b_X6_noteAhead {M z} (hP : Lay M) (h : d_X6_noteAhead M = some z) : VV Lay k_X6_noteAhead 0 [(0, .ref 48), (1, .ref 18)] [] M z.2 (Qv (none) z.2) xF := by
  unfold d_X6_noteAhead at h
  refine Y_aload_n (pc := 0) (j := 1) dX6_noteAhead_0 rfl rfl ?_
  refine Z_geti (pc := 1) dX6_noteAhead_1 w1_179 (lk_18 hP) fi_4_7 ?_
  obtain ⟨b1, eb1, h⟩ := bndE h
  refine VV.topI eb1 ?_
  refine Y_istore_n (pc := 4) (lv1 := [(2, .int b1), (0, .ref 48), (1, .ref 18)]) dX6_noteAhead_4 rfl (by decide) rfl ?_
  refine Y_aload_n (pc := 5) (j := 1) dX6_noteAhead_5 rfl rfl ?_
  refine Z_getr (pc := 6) dX6_noteAhead_6 w2_47 (lk_48 hP) fr_6_0 (lr_48_0 hP) ?_
  refine Y_aload_n (pc := 9) (j := 1) dX6_noteAhead_9 rfl rfl ?_
  refine Z_geti (pc := 10) dX6_noteAhead_10 w2_61 (lk_48 hP) fi_6_7 ?_
  refine Y_aload_n (pc := 13) (j := 2) dX6_noteAhead_13 rfl rfl ?_
  obtain ⟨y1, qy1, h⟩ := bindE h
  have cy1 := v_X3_lineAhead (Or.inl rfl) hP qy1
  refine C_V0r (pc := 14) (k' := k_X3_lineAhead) dX6_noteAhead_14 w6_143 i_X3_lineAhead (lk_18 hP) ⟨Nat.le_of_ble_eq_true rfl, Nat.le_of_ble_eq_true rfl⟩ rfl (Nat.le_of_ble_eq_true rfl) (Nat.le_of_ble_eq_true rfl) (Nat.le_of_ble_eq_true rfl) (cy1) ?_
  have hPy1 := cy1.1.1
  obtain ⟨hb1, h⟩ := okE h
  refine Y_iast (pc := 17) dX6_noteAhead_17 (lk_49 hPy1) (ln_49 hPy1) hb1 ?_
  obtain ⟨M1, eM1, h⟩ := bndE h
  refine VV.mem eM1 ?_
  have hP1 := hPy1.wI eM1
  refine Y_aload_n (pc := 18) (j := 1) dX6_noteAhead_18 rfl rfl ?_
  refine Z_getr (pc := 19) dX6_noteAhead_19 w2_49 (lk_48 hP1) fr_6_1 (lr_48_1 hP1) ?_
  refine Y_aload_n (pc := 22) (j := 1) dX6_noteAhead_22 rfl rfl ?_
  refine Z_geti (pc := 23) dX6_noteAhead_23 w2_61 (lk_48 hP1) fi_6_7 ?_
  refine Y_aload_n (pc := 26) (j := 1) dX6_noteAhead_26 rfl rfl ?_
  refine Z_geti (pc := 27) dX6_noteAhead_27 w2_64 (lk_48 hP1) fi_6_8 ?_
  obtain ⟨hb2, h⟩ := okE h
  refine Y_iast (pc := 30) dX6_noteAhead_30 (lk_50 hP1) (ln_50 hP1) hb2 ?_
  obtain ⟨M2, eM2, h⟩ := bndE h
  refine VV.mem eM2 ?_
  have hP2 := hP1.wI eM2
  refine Y_aload_n (pc := 31) (j := 1) dX6_noteAhead_31 rfl rfl ?_
  refine Y_iconst (pc := 32) (v := (0 : Int32)) dX6_noteAhead_32 rfl ?_
  refine Z_puti (pc := 33) dX6_noteAhead_33 w2_77 (lk_48 hP2) fi_6_15 (Or.inl rfl) rfl ?_
  obtain ⟨M3, eM3, h⟩ := bndE h
  refine VV.mem eM3 ?_
  have hP3 := hP2.wI eM3
  refine Y_iload_n (pc := 36) (j := 0) dX6_noteAhead_36 rfl rfl ?_
  refine Y_table (pc := 37) dX6_noteAhead_37 [(103, 184), (104, 207), (105, 132), (106, 207), (107, 132), (108, 207), (109, 184), (110, 141), (111, 207), (112, 193), (113, 207), (114, 207), (115, 207), (116, 207), (117, 207), (118, 207), (119, 150), (120, 207), (121, 207), (122, 174)] 207 (by decide) (tab_ok (by decide +kernel)) (by decide) ?_ ?_
  · refine xs_cons ?_ <| xs_cons ?_ <| xs_cons ?_ <| xs_cons ?_ <| xs_cons ?_ <| xs_cons ?_ <| xs_cons ?_ <| xs_cons ?_ <| xs_cons ?_ <| xs_cons ?_ <| xs_cons ?_ <| xs_cons ?_ <| xs_cons ?_ <| xs_cons ?_ <| xs_cons ?_ <| xs_cons ?_ <| xs_cons ?_ <| xs_cons ?_ <| xs_cons ?_ <| xs_cons ?_ <| xs_nil
    · intro e9
      replace h := ifT (by rw [e9] <;> decide) h
      refine Y_aload_n (pc := 184) (j := 1) dX6_noteAhead_184 rfl rfl ?_
      refine Y_aload_n (pc := 185) (j := 2) dX6_noteAhead_185 rfl rfl ?_
      refine Y_iconst (pc := 186) (v := (1 : Int32)) dX6_noteAhead_186 rfl ?_
      obtain ⟨y2, qy2, h⟩ := bindE h
      have cy2 := v_X6_askShape hP3 qy2
      refine C_V2o (pc := 187) (k' := k_X6_askShape) dX6_noteAhead_187 w6_171 i_X6_askShape (lk_48 hP3) ⟨Nat.le_of_ble_eq_true rfl, Nat.le_of_ble_eq_true rfl⟩ rfl (Nat.le_of_ble_eq_true rfl) (Nat.le_of_ble_eq_true rfl) (Nat.le_of_ble_eq_true rfl) (cy2) ?_
      have hPy2 := cy2.1.1
      refine Y_goto (pc := 190) (tgt := 213) dX6_noteAhead_190 (by decide) ?_
      refine VV.sub [1] rfl ?_
      exact b_X6_noteAhead_213  hPy2 h
    · intro e9
      replace h := ifF (by rw [e9] <;> decide) h
      replace h := ifF (by rw [e9] <;> decide) h
      replace h := ifF (by rw [e9] <;> decide) h
      replace h := ifF (by rw [e9] <;> decide) h
      replace h := ifF (by rw [e9] <;> decide) h
      replace h := ifF (by rw [e9] <;> decide) h
      refine Y_aload_n (pc := 207) (j := 1) dX6_noteAhead_207 rfl rfl ?_
      refine Y_aload_n (pc := 208) (j := 2) dX6_noteAhead_208 rfl rfl ?_
      refine Y_iload_n (pc := 209) (j := 0) dX6_noteAhead_209 rfl rfl ?_
      obtain ⟨y9, qy9, h⟩ := bindE h
      have cy9 := v_X6_noteTwoValues hP3 qy9
      refine C_V2o (pc := 210) (k' := k_X6_noteTwoValues) dX6_noteAhead_210 w6_181 i_X6_noteTwoValues (lk_48 hP3) ⟨Nat.le_of_ble_eq_true rfl, Nat.le_of_ble_eq_true rfl⟩ rfl (Nat.le_of_ble_eq_true rfl) (Nat.le_of_ble_eq_true rfl) (Nat.le_of_ble_eq_true rfl) (cy9) ?_
      have hPy9 := cy9.1.1
      refine VV.sub [1] rfl ?_
      exact b_X6_noteAhead_213  hPy9 h
    · intro e9
      replace h := ifF (by rw [e9] <;> decide) h
      replace h := ifT (by rw [e9] <;> decide) h
      refine Y_aload_n (pc := 132) (j := 1) dX6_noteAhead_132 rfl rfl ?_
      refine Y_bipush (pc := 133) (v := (7 : Int32)) dX6_noteAhead_133 rfl ?_
      refine Z_puti (pc := 135) dX6_noteAhead_135 w2_77 (lk_48 hP3) fi_6_15 (Or.inl rfl) rfl ?_
      obtain ⟨M4, eM4, h⟩ := bndE h
      refine VV.mem eM4 ?_
      have hP4 := hP3.wI eM4
      refine Y_goto (pc := 138) (tgt := 213) dX6_noteAhead_138 (by decide) ?_
      refine VV.sub [1] rfl ?_
      exact b_X6_noteAhead_213  hP4 h
    · intro e9
      replace h := ifF (by rw [e9] <;> decide) h
      replace h := ifF (by rw [e9] <;> decide) h
      replace h := ifF (by rw [e9] <;> decide) h
      replace h := ifF (by rw [e9] <;> decide) h
      replace h := ifF (by rw [e9] <;> decide) h
      replace h := ifF (by rw [e9] <;> decide) h
      refine Y_aload_n (pc := 207) (j := 1) dX6_noteAhead_207 rfl rfl ?_
      refine Y_aload_n (pc := 208) (j := 2) dX6_noteAhead_208 rfl rfl ?_
      refine Y_iload_n (pc := 209) (j := 0) dX6_noteAhead_209 rfl rfl ?_
      obtain ⟨y9, qy9, h⟩ := bindE h
      have cy9 := v_X6_noteTwoValues hP3 qy9
      refine C_V2o (pc := 210) (k' := k_X6_noteTwoValues) dX6_noteAhead_210 w6_181 i_X6_noteTwoValues (lk_48 hP3) ⟨Nat.le_of_ble_eq_true rfl, Nat.le_of_ble_eq_true rfl⟩ rfl (Nat.le_of_ble_eq_true rfl) (Nat.le_of_ble_eq_true rfl) (Nat.le_of_ble_eq_true rfl) (cy9) ?_
      have hPy9 := cy9.1.1
      refine VV.sub [1] rfl ?_
      exact b_X6_noteAhead_213  hPy9 h
    · intro e9
      replace h := ifF (by rw [e9] <;> decide) h
      replace h := ifT (by rw [e9] <;> decide) h
      refine Y_aload_n (pc := 132) (j := 1) dX6_noteAhead_132 rfl rfl ?_
      refine Y_bipush (pc := 133) (v := (7 : Int32)) dX6_noteAhead_133 rfl ?_
      refine Z_puti (pc := 135) dX6_noteAhead_135 w2_77 (lk_48 hP3) fi_6_15 (Or.inl rfl) rfl ?_
      obtain ⟨M4, eM4, h⟩ := bndE h
      refine VV.mem eM4 ?_
      have hP4 := hP3.wI eM4
      refine Y_goto (pc := 138) (tgt := 213) dX6_noteAhead_138 (by decide) ?_
      refine VV.sub [1] rfl ?_
      exact b_X6_noteAhead_213  hP4 h
    · intro e9
      replace h := ifF (by rw [e9] <;> decide) h
      replace h := ifF (by rw [e9] <;> decide) h
      replace h := ifF (by rw [e9] <;> decide) h
      replace h := ifF (by rw [e9] <;> decide) h
      replace h := ifF (by rw [e9] <;> decide) h
      replace h := ifF (by rw [e9] <;> decide) h
      refine Y_aload_n (pc := 207) (j := 1) dX6_noteAhead_207 rfl rfl ?_
      refine Y_aload_n (pc := 208) (j := 2) dX6_noteAhead_208 rfl rfl ?_
      refine Y_iload_n (pc := 209) (j := 0) dX6_noteAhead_209 rfl rfl ?_
      obtain ⟨y9, qy9, h⟩ := bindE h
      have cy9 := v_X6_noteTwoValues hP3 qy9
      refine C_V2o (pc := 210) (k' := k_X6_noteTwoValues) dX6_noteAhead_210 w6_181 i_X6_noteTwoValues (lk_48 hP3) ⟨Nat.le_of_ble_eq_true rfl, Nat.le_of_ble_eq_true rfl⟩ rfl (Nat.le_of_ble_eq_true rfl) (Nat.le_of_ble_eq_true rfl) (Nat.le_of_ble_eq_true rfl) (cy9) ?_
      have hPy9 := cy9.1.1
      refine VV.sub [1] rfl ?_
      exact b_X6_noteAhead_213  hPy9 h
    · intro e9
      replace h := ifT (by rw [e9] <;> decide) h
      refine Y_aload_n (pc := 184) (j := 1) dX6_noteAhead_184 rfl rfl ?_
      refine Y_aload_n (pc := 185) (j := 2) dX6_noteAhead_185 rfl rfl ?_
      refine Y_iconst (pc := 186) (v := (1 : Int32)) dX6_noteAhead_186 rfl ?_
      obtain ⟨y2, qy2, h⟩ := bindE h
      have cy2 := v_X6_askShape hP3 qy2
      refine C_V2o (pc := 187) (k' := k_X6_askShape) dX6_noteAhead_187 w6_171 i_X6_askShape (lk_48 hP3) ⟨Nat.le_of_ble_eq_true rfl, Nat.le_of_ble_eq_true rfl⟩ rfl (Nat.le_of_ble_eq_true rfl) (Nat.le_of_ble_eq_true rfl) (Nat.le_of_ble_eq_true rfl) (cy2) ?_
      have hPy2 := cy2.1.1
      refine Y_goto (pc := 190) (tgt := 213) dX6_noteAhead_190 (by decide) ?_
      refine VV.sub [1] rfl ?_
      exact b_X6_noteAhead_213  hPy2 h
    · intro e9
      replace h := ifF (by rw [e9] <;> decide) h
      replace h := ifF (by rw [e9] <;> decide) h
      replace h := ifT (by rw [e9] <;> decide) h
      refine Y_aload_n (pc := 141) (j := 1) dX6_noteAhead_141 rfl rfl ?_
      refine Y_bipush (pc := 142) (v := (11 : Int32)) dX6_noteAhead_142 rfl ?_
      refine Z_puti (pc := 144) dX6_noteAhead_144 w2_77 (lk_48 hP3) fi_6_15 (Or.inl rfl) rfl ?_
      obtain ⟨M5, eM5, h⟩ := bndE h
      refine VV.mem eM5 ?_
      have hP5 := hP3.wI eM5
      refine Y_goto (pc := 147) (tgt := 213) dX6_noteAhead_147 (by decide) ?_
      refine VV.sub [1] rfl ?_
      exact b_X6_noteAhead_213  hP5 h
    · intro e9
      replace h := ifF (by rw [e9] <;> decide) h
      replace h := ifF (by rw [e9] <;> decide) h
      replace h := ifF (by rw [e9] <;> decide) h
      replace h := ifF (by rw [e9] <;> decide) h
      replace h := ifF (by rw [e9] <;> decide) h
      replace h := ifF (by rw [e9] <;> decide) h
      refine Y_aload_n (pc := 207) (j := 1) dX6_noteAhead_207 rfl rfl ?_
      refine Y_aload_n (pc := 208) (j := 2) dX6_noteAhead_208 rfl rfl ?_
      refine Y_iload_n (pc := 209) (j := 0) dX6_noteAhead_209 rfl rfl ?_
      obtain ⟨y9, qy9, h⟩ := bindE h
      have cy9 := v_X6_noteTwoValues hP3 qy9
      refine C_V2o (pc := 210) (k' := k_X6_noteTwoValues) dX6_noteAhead_210 w6_181 i_X6_noteTwoValues (lk_48 hP3) ⟨Nat.le_of_ble_eq_true rfl, Nat.le_of_ble_eq_true rfl⟩ rfl (Nat.le_of_ble_eq_true rfl) (Nat.le_of_ble_eq_true rfl) (Nat.le_of_ble_eq_true rfl) (cy9) ?_
      have hPy9 := cy9.1.1
      refine VV.sub [1] rfl ?_
      exact b_X6_noteAhead_213  hPy9 h
    · intro e9
      replace h := ifF (by rw [e9] <;> decide) h
      replace h := ifF (by rw [e9] <;> decide) h
      replace h := ifF (by rw [e9] <;> decide) h
      replace h := ifT (by rw [e9] <;> decide) h
      refine Y_aload_n (pc := 193) (j := 1) dX6_noteAhead_193 rfl rfl ?_
      refine Y_aload_n (pc := 194) (j := 2) dX6_noteAhead_194 rfl rfl ?_
      refine Y_iconst (pc := 195) (v := (2 : Int32)) dX6_noteAhead_195 rfl ?_
      obtain ⟨y3, qy3, h⟩ := bindE h
      have cy3 := v_X6_askShape hP3 qy3
      refine C_V2o (pc := 196) (k' := k_X6_askShape) dX6_noteAhead_196 w6_171 i_X6_askShape (lk_48 hP3) ⟨Nat.le_of_ble_eq_true rfl, Nat.le_of_ble_eq_true rfl⟩ rfl (Nat.le_of_ble_eq_true rfl) (Nat.le_of_ble_eq_true rfl) (Nat.le_of_ble_eq_true rfl) (cy3) ?_
      have hPy3 := cy3.1.1
      refine Y_aload_n (pc := 199) (j := 1) dX6_noteAhead_199 rfl rfl ?_
      refine Y_aload_n (pc := 200) (j := 2) dX6_noteAhead_200 rfl rfl ?_
      obtain ⟨y4, qy4, h⟩ := bindE h
      have cy4 := v_X6_forgetOtherShapes hPy3 qy4
      refine C_V1o (pc := 201) (k' := k_X6_forgetOtherShapes) dX6_noteAhead_201 w6_175 i_X6_forgetOtherShapes (lk_48 hPy3) ⟨Nat.le_of_ble_eq_true rfl, Nat.le_of_ble_eq_true rfl⟩ rfl (Nat.le_of_ble_eq_true rfl) (Nat.le_of_ble_eq_true rfl) (Nat.le_of_ble_eq_true rfl) (cy4) ?_
      have hPy4 := cy4.1.1
      refine Y_goto (pc := 204) (tgt := 213) dX6_noteAhead_204 (by decide) ?_
      refine VV.sub [1] rfl ?_
      exact b_X6_noteAhead_213  hPy4 h
    · intro e9
      replace h := ifF (by rw [e9] <;> decide) h
      replace h := ifF (by rw [e9] <;> decide) h
      replace h := ifF (by rw [e9] <;> decide) h
      replace h := ifF (by rw [e9] <;> decide) h
      replace h := ifF (by rw [e9] <;> decide) h
      replace h := ifF (by rw [e9] <;> decide) h
      refine Y_aload_n (pc := 207) (j := 1) dX6_noteAhead_207 rfl rfl ?_
      refine Y_aload_n (pc := 208) (j := 2) dX6_noteAhead_208 rfl rfl ?_
      refine Y_iload_n (pc := 209) (j := 0) dX6_noteAhead_209 rfl rfl ?_
      obtain ⟨y9, qy9, h⟩ := bindE h
      have cy9 := v_X6_noteTwoValues hP3 qy9
      refine C_V2o (pc := 210) (k' := k_X6_noteTwoValues) dX6_noteAhead_210 w6_181 i_X6_noteTwoValues (lk_48 hP3) ⟨Nat.le_of_ble_eq_true rfl, Nat.le_of_ble_eq_true rfl⟩ rfl (Nat.le_of_ble_eq_true rfl) (Nat.le_of_ble_eq_true rfl) (Nat.le_of_ble_eq_true rfl) (cy9) ?_
      have hPy9 := cy9.1.1
      refine VV.sub [1] rfl ?_
      exact b_X6_noteAhead_213  hPy9 h
    · intro e9
      replace h := ifF (by rw [e9] <;> decide) h
      replace h := ifF (by rw [e9] <;> decide) h
      replace h := ifF (by rw [e9] <;> decide) h
      replace h := ifF (by rw [e9] <;> decide) h
      replace h := ifF (by rw [e9] <;> decide) h
      replace h := ifF (by rw [e9] <;> decide) h
      refine Y_aload_n (pc := 207) (j := 1) dX6_noteAhead_207 rfl rfl ?_
      refine Y_aload_n (pc := 208) (j := 2) dX6_noteAhead_208 rfl rfl ?_
      refine Y_iload_n (pc := 209) (j := 0) dX6_noteAhead_209 rfl rfl ?_
      obtain ⟨y9, qy9, h⟩ := bindE h
      have cy9 := v_X6_noteTwoValues hP3 qy9
      refine C_V2o (pc := 210) (k' := k_X6_noteTwoValues) dX6_noteAhead_210 w6_181 i_X6_noteTwoValues (lk_48 hP3) ⟨Nat.le_of_ble_eq_true rfl, Nat.le_of_ble_eq_true rfl⟩ rfl (Nat.le_of_ble_eq_true rfl) (Nat.le_of_ble_eq_true rfl) (Nat.le_of_ble_eq_true rfl) (cy9) ?_
      have hPy9 := cy9.1.1
      refine VV.sub [1] rfl ?_
      exact b_X6_noteAhead_213  hPy9 h
    · intro e9
      replace h := ifF (by rw [e9] <;> decide) h
      replace h := ifF (by rw [e9] <;> decide) h
      replace h := ifF (by rw [e9] <;> decide) h
      replace h := ifF (by rw [e9] <;> decide) h
      replace h := ifF (by rw [e9] <;> decide) h
      replace h := ifF (by rw [e9] <;> decide) h
      refine Y_aload_n (pc := 207) (j := 1) dX6_noteAhead_207 rfl rfl ?_
      refine Y_aload_n (pc := 208) (j := 2) dX6_noteAhead_208 rfl rfl ?_
      refine Y_iload_n (pc := 209) (j := 0) dX6_noteAhead_209 rfl rfl ?_
      obtain ⟨y9, qy9, h⟩ := bindE h
      have cy9 := v_X6_noteTwoValues hP3 qy9
      refine C_V2o (pc := 210) (k' := k_X6_noteTwoValues) dX6_noteAhead_210 w6_181 i_X6_noteTwoValues (lk_48 hP3) ⟨Nat.le_of_ble_eq_true rfl, Nat.le_of_ble_eq_true rfl⟩ rfl (Nat.le_of_ble_eq_true rfl) (Nat.le_of_ble_eq_true rfl) (Nat.le_of_ble_eq_true rfl) (cy9) ?_
      have hPy9 := cy9.1.1
      refine VV.sub [1] rfl ?_
      exact b_X6_noteAhead_213  hPy9 h
    · intro e9
      replace h := ifF (by rw [e9] <;> decide) h
      replace h := ifF (by rw [e9] <;> decide) h
      replace h := ifF (by rw [e9] <;> decide) h
      replace h := ifF (by rw [e9] <;> decide) h
      replace h := ifF (by rw [e9] <;> decide) h
      replace h := ifF (by rw [e9] <;> decide) h
      refine Y_aload_n (pc := 207) (j := 1) dX6_noteAhead_207 rfl rfl ?_
      refine Y_aload_n (pc := 208) (j := 2) dX6_noteAhead_208 rfl rfl ?_
      refine Y_iload_n (pc := 209) (j := 0) dX6_noteAhead_209 rfl rfl ?_
      obtain ⟨y9, qy9, h⟩ := bindE h
      have cy9 := v_X6_noteTwoValues hP3 qy9
      refine C_V2o (pc := 210) (k' := k_X6_noteTwoValues) dX6_noteAhead_210 w6_181 i_X6_noteTwoValues (lk_48 hP3) ⟨Nat.le_of_ble_eq_true rfl, Nat.le_of_ble_eq_true rfl⟩ rfl (Nat.le_of_ble_eq_true rfl) (Nat.le_of_ble_eq_true rfl) (Nat.le_of_ble_eq_true rfl) (cy9) ?_
      have hPy9 := cy9.1.1
      refine VV.sub [1] rfl ?_
      exact b_X6_noteAhead_213  hPy9 h
    · intro e9
      replace h := ifF (by rw [e9] <;> decide) h
      replace h := ifF (by rw [e9] <;> decide) h
      replace h := ifF (by rw [e9] <;> decide) h
      replace h := ifF (by rw [e9] <;> decide) h
      replace h := ifF (by rw [e9] <;> decide) h
      replace h := ifF (by rw [e9] <;> decide) h
      refine Y_aload_n (pc := 207) (j := 1) dX6_noteAhead_207 rfl rfl ?_
      refine Y_aload_n (pc := 208) (j := 2) dX6_noteAhead_208 rfl rfl ?_
      refine Y_iload_n (pc := 209) (j := 0) dX6_noteAhead_209 rfl rfl ?_
      obtain ⟨y9, qy9, h⟩ := bindE h
      have cy9 := v_X6_noteTwoValues hP3 qy9
      refine C_V2o (pc := 210) (k' := k_X6_noteTwoValues) dX6_noteAhead_210 w6_181 i_X6_noteTwoValues (lk_48 hP3) ⟨Nat.le_of_ble_eq_true rfl, Nat.le_of_ble_eq_true rfl⟩ rfl (Nat.le_of_ble_eq_true rfl) (Nat.le_of_ble_eq_true rfl) (Nat.le_of_ble_eq_true rfl) (cy9) ?_
      have hPy9 := cy9.1.1
      refine VV.sub [1] rfl ?_
      exact b_X6_noteAhead_213  hPy9 h
    · intro e9
      replace h := ifF (by rw [e9] <;> decide) h
      replace h := ifF (by rw [e9] <;> decide) h
      replace h := ifF (by rw [e9] <;> decide) h
      replace h := ifF (by rw [e9] <;> decide) h
      replace h := ifF (by rw [e9] <;> decide) h
      replace h := ifF (by rw [e9] <;> decide) h
      refine Y_aload_n (pc := 207) (j := 1) dX6_noteAhead_207 rfl rfl ?_
      refine Y_aload_n (pc := 208) (j := 2) dX6_noteAhead_208 rfl rfl ?_
      refine Y_iload_n (pc := 209) (j := 0) dX6_noteAhead_209 rfl rfl ?_
      obtain ⟨y9, qy9, h⟩ := bindE h
      have cy9 := v_X6_noteTwoValues hP3 qy9
      refine C_V2o (pc := 210) (k' := k_X6_noteTwoValues) dX6_noteAhead_210 w6_181 i_X6_noteTwoValues (lk_48 hP3) ⟨Nat.le_of_ble_eq_true rfl, Nat.le_of_ble_eq_true rfl⟩ rfl (Nat.le_of_ble_eq_true rfl) (Nat.le_of_ble_eq_true rfl) (Nat.le_of_ble_eq_true rfl) (cy9) ?_
      have hPy9 := cy9.1.1
      refine VV.sub [1] rfl ?_
      exact b_X6_noteAhead_213  hPy9 h
    · intro e9
      replace h := ifF (by rw [e9] <;> decide) h
      replace h := ifF (by rw [e9] <;> decide) h
      replace h := ifF (by rw [e9] <;> decide) h
      replace h := ifF (by rw [e9] <;> decide) h
      replace h := ifT (by rw [e9] <;> decide) h
      refine Y_aload_n (pc := 150) (j := 1) dX6_noteAhead_150 rfl rfl ?_
      refine Y_aload_n (pc := 151) (j := 1) dX6_noteAhead_151 rfl rfl ?_
      refine Y_aload_n (pc := 152) (j := 1) dX6_noteAhead_152 rfl rfl ?_
      refine Y_aload_n (pc := 153) (j := 2) dX6_noteAhead_153 rfl rfl ?_
      refine Y_iconst (pc := 154) (v := (1 : Int32)) dX6_noteAhead_154 rfl ?_
      refine Y_iconst (pc := 155) (v := (4 : Int32)) dX6_noteAhead_155 rfl ?_
      obtain ⟨y5, qy5, h⟩ := bindE h
      have cy5 := v_X6_isKnown hP3 qy5
      refine C_V3r (pc := 156) (k' := k_X6_isKnown) dX6_noteAhead_156 w6_144 i_X6_isKnown (lk_48 hP3) ⟨Nat.le_of_ble_eq_true rfl, Nat.le_of_ble_eq_true rfl⟩ rfl (Nat.le_of_ble_eq_true rfl) (Nat.le_of_ble_eq_true rfl) (Nat.le_of_ble_eq_true rfl) (cy5) ?_
      have hPy5 := cy5.1.1
      obtain ⟨y6, qy6, h⟩ := bindE h
      have cy6 := v_X6_madeOf hPy5 qy6
      refine C_V1r (pc := 159) (k' := k_X6_madeOf) dX6_noteAhead_159 w6_149 i_X6_madeOf (lk_48 hPy5) ⟨Nat.le_of_ble_eq_true rfl, Nat.le_of_ble_eq_true rfl⟩ rfl (Nat.le_of_ble_eq_true rfl) (Nat.le_of_ble_eq_true rfl) (Nat.le_of_ble_eq_true rfl) (cy6) ?_
      have hPy6 := cy6.1.1
      refine Z_puti (pc := 162) dX6_noteAhead_162 w2_77 (lk_48 hPy6) fi_6_15 (Or.inl rfl) rfl ?_
      obtain ⟨M6, eM6, h⟩ := bndE h
      refine VV.mem eM6 ?_
      have hP6 := hPy6.wI eM6
      refine Y_aload_n (pc := 165) (j := 1) dX6_noteAhead_165 rfl rfl ?_
      refine Y_aload_n (pc := 166) (j := 2) dX6_noteAhead_166 rfl rfl ?_
      refine Y_iconst (pc := 167) (v := (1 : Int32)) dX6_noteAhead_167 rfl ?_
      obtain ⟨y7, qy7, h⟩ := bindE h
      have cy7 := v_X6_askKind hP6 qy7
      refine C_V2o (pc := 168) (k' := k_X6_askKind) dX6_noteAhead_168 w6_153 i_X6_askKind (lk_48 hP6) ⟨Nat.le_of_ble_eq_true rfl, Nat.le_of_ble_eq_true rfl⟩ rfl (Nat.le_of_ble_eq_true rfl) (Nat.le_of_ble_eq_true rfl) (Nat.le_of_ble_eq_true rfl) (cy7) ?_
      have hPy7 := cy7.1.1
      refine Y_goto (pc := 171) (tgt := 213) dX6_noteAhead_171 (by decide) ?_
      refine VV.sub [1] rfl ?_
      exact b_X6_noteAhead_213  hPy7 h
    · intro e9
      replace h := ifF (by rw [e9] <;> decide) h
      replace h := ifF (by rw [e9] <;> decide) h
      replace h := ifF (by rw [e9] <;> decide) h
      replace h := ifF (by rw [e9] <;> decide) h
      replace h := ifF (by rw [e9] <;> decide) h
      replace h := ifF (by rw [e9] <;> decide) h
      refine Y_aload_n (pc := 207) (j := 1) dX6_noteAhead_207 rfl rfl ?_
      refine Y_aload_n (pc := 208) (j := 2) dX6_noteAhead_208 rfl rfl ?_
      refine Y_iload_n (pc := 209) (j := 0) dX6_noteAhead_209 rfl rfl ?_
      obtain ⟨y9, qy9, h⟩ := bindE h
      have cy9 := v_X6_noteTwoValues hP3 qy9
      refine C_V2o (pc := 210) (k' := k_X6_noteTwoValues) dX6_noteAhead_210 w6_181 i_X6_noteTwoValues (lk_48 hP3) ⟨Nat.le_of_ble_eq_true rfl, Nat.le_of_ble_eq_true rfl⟩ rfl (Nat.le_of_ble_eq_true rfl) (Nat.le_of_ble_eq_true rfl) (Nat.le_of_ble_eq_true rfl) (cy9) ?_
      have hPy9 := cy9.1.1
      refine VV.sub [1] rfl ?_
      exact b_X6_noteAhead_213  hPy9 h
    · intro e9
      replace h := ifF (by rw [e9] <;> decide) h
      replace h := ifF (by rw [e9] <;> decide) h
      replace h := ifF (by rw [e9] <;> decide) h
      replace h := ifF (by rw [e9] <;> decide) h
      replace h := ifF (by rw [e9] <;> decide) h
      replace h := ifF (by rw [e9] <;> decide) h
      refine Y_aload_n (pc := 207) (j := 1) dX6_noteAhead_207 rfl rfl ?_
      refine Y_aload_n (pc := 208) (j := 2) dX6_noteAhead_208 rfl rfl ?_
      refine Y_iload_n (pc := 209) (j := 0) dX6_noteAhead_209 rfl rfl ?_
      obtain ⟨y9, qy9, h⟩ := bindE h
      have cy9 := v_X6_noteTwoValues hP3 qy9
      refine C_V2o (pc := 210) (k' := k_X6_noteTwoValues) dX6_noteAhead_210 w6_181 i_X6_noteTwoValues (lk_48 hP3) ⟨Nat.le_of_ble_eq_true rfl, Nat.le_of_ble_eq_true rfl⟩ rfl (Nat.le_of_ble_eq_true rfl) (Nat.le_of_ble_eq_true rfl) (Nat.le_of_ble_eq_true rfl) (cy9) ?_
      have hPy9 := cy9.1.1
      refine VV.sub [1] rfl ?_
      exact b_X6_noteAhead_213  hPy9 h
    · intro e9
      replace h := ifF (by rw [e9] <;> decide) h
      replace h := ifF (by rw [e9] <;> decide) h
      replace h := ifF (by rw [e9] <;> decide) h
      replace h := ifF (by rw [e9] <;> decide) h
      replace h := ifF (by rw [e9] <;> decide) h
      replace h := ifT (by rw [e9] <;> decide) h
      refine Y_aload_n (pc := 174) (j := 1) dX6_noteAhead_174 rfl rfl ?_
      refine Y_aload_n (pc := 175) (j := 2) dX6_noteAhead_175 rfl rfl ?_
      refine Y_bipush (pc := 176) (v := (116 : Int32)) dX6_noteAhead_176 rfl ?_
      obtain ⟨y8, qy8, h⟩ := bindE h
      have cy8 := v_X6_askNullness hP3 qy8
      refine C_V2o (pc := 178) (k' := k_X6_askNullness) dX6_noteAhead_178 w6_167 i_X6_askNullness (lk_48 hP3) ⟨Nat.le_of_ble_eq_true rfl, Nat.le_of_ble_eq_true rfl⟩ rfl (Nat.le_of_ble_eq_true rfl) (Nat.le_of_ble_eq_true rfl) (Nat.le_of_ble_eq_true rfl) (cy8) ?_
      have hPy8 := cy8.1.1
      refine Y_goto (pc := 181) (tgt := 213) dX6_noteAhead_181 (by decide) ?_
      refine VV.sub [1] rfl ?_
      exact b_X6_noteAhead_213  hPy8 h
  · intro n9
    replace h := ifF (fun q => q.elim (xs_no n9 (by decide : ((103 : Int32), 184) ∈ _)) (xs_no n9 (by decide : ((109 : Int32), 184) ∈ _))) h
    replace h := ifF (fun q => q.elim (xs_no n9 (by decide : ((105 : Int32), 132) ∈ _)) (xs_no n9 (by decide : ((107 : Int32), 132) ∈ _))) h
    replace h := ifF (xs_no n9 (by decide : ((110 : Int32), 141) ∈ _)) h
    replace h := ifF (xs_no n9 (by decide : ((112 : Int32), 193) ∈ _)) h
    replace h := ifF (xs_no n9 (by decide : ((119 : Int32), 150) ∈ _)) h
    replace h := ifF (xs_no n9 (by decide : ((122 : Int32), 174) ∈ _)) h
    refine Y_aload_n (pc := 207) (j := 1) dX6_noteAhead_207 rfl rfl ?_
    refine Y_aload_n (pc := 208) (j := 2) dX6_noteAhead_208 rfl rfl ?_
    refine Y_iload_n (pc := 209) (j := 0) dX6_noteAhead_209 rfl rfl ?_
    obtain ⟨y9, qy9, h⟩ := bindE h
    have cy9 := v_X6_noteTwoValues hP3 qy9
    refine C_V2o (pc := 210) (k' := k_X6_noteTwoValues) dX6_noteAhead_210 w6_181 i_X6_noteTwoValues (lk_48 hP3) ⟨Nat.le_of_ble_eq_true rfl, Nat.le_of_ble_eq_true rfl⟩ rfl (Nat.le_of_ble_eq_true rfl) (Nat.le_of_ble_eq_true rfl) (Nat.le_of_ble_eq_true rfl) (cy9) ?_
    have hPy9 := cy9.1.1
    refine VV.sub [1] rfl ?_
    exact b_X6_noteAhead_213  hPy9 h
theorem v_X6_noteAhead {M z} (hP : Lay M) (h : d_X6_noteAhead M = some z) : CC Lay k_X6_noteAhead [.ref 48, .ref 18] M z.2 (Qv (none) z.2) xF :=
  CC.ofVV (by decide) rfl (Nat.le_of_ble_eq_true rfl) (b_X6_noteAhead hP h)
noncomputable def d_X6_giveFacts (x2 : Int32) (x3 : Int32) (M : Mem) : Option (Unit × Mem) :=
  okk (vp_in x2 549) <|
  bnd (sI M 23 x2.toNatClampNeg (mI M 48 9)) fun M1 =>
  okk (vp_in (mI M1 48 9) 378) <|
  bnd (sI M1 55 (mI M1 48 9).toNatClampNeg x3) fun M2 =>
  bnd (sI M2 48 9 ((mI M2 48 9) + (1 : Int32))) fun M3 =>
  some ((), M3)
theorem b_X6_giveFacts {x2 : Int32} {x3 : Int32} {M z} (hP : Lay M) (h : d_X6_giveFacts x2 x3 M = some z) : VV Lay k_X6_giveFacts 0 [(0, .ref 48), (1, .ref 19), (2, .int x2), (3, .int x3)] [] M z.2 (Qv (none) z.2) xF := by
  unfold d_X6_giveFacts at h
  refine Y_aload_n (pc := 0) (j := 1) dX6_giveFacts_0 rfl rfl ?_
  refine Z_getr (pc := 1) dX6_giveFacts_1 w1_156 (lk_19 hP) fr_8_3 (lr_19_3 hP) ?_
  refine Y_iload_n (pc := 4) (j := 2) dX6_giveFacts_4 rfl rfl ?_
  refine Y_aload_n (pc := 5) (j := 0) dX6_giveFacts_5 rfl rfl ?_
  refine Z_geti (pc := 6) dX6_giveFacts_6 w2_65 (lk_48 hP) fi_6_9 ?_
  obtain ⟨hb1, h⟩ := okE h
  refine Y_iast (pc := 9) dX6_giveFacts_9 (lk_23 hP) (ln_23 hP) hb1 ?_
  obtain ⟨M1, eM1, h⟩ := bndE h
  refine VV.mem eM1 ?_
  have hP1 := hP.wI eM1
  refine Y_aload_n (pc := 10) (j := 0) dX6_giveFacts_10 rfl rfl ?_
  refine Z_getr (pc := 11) dX6_giveFacts_11 w2_59 (lk_48 hP1) fr_6_6 (lr_48_6 hP1) ?_
  refine Y_aload_n (pc := 14) (j := 0) dX6_giveFacts_14 rfl rfl ?_
  refine Z_geti (pc := 15) dX6_giveFacts_15 w2_65 (lk_48 hP1) fi_6_9 ?_
  refine Y_iload_n (pc := 18) (j := 3) dX6_giveFacts_18 rfl rfl ?_
  obtain ⟨hb2, h⟩ := okE h
  refine Y_iast (pc := 19) dX6_giveFacts_19 (lk_55 hP1) (ln_55 hP1) hb2 ?_
  obtain ⟨M2, eM2, h⟩ := bndE h
  refine VV.mem eM2 ?_
  have hP2 := hP1.wI eM2
  refine Y_aload_n (pc := 20) (j := 0) dX6_giveFacts_20 rfl rfl ?_
  refine Y_dup (pc := 21) dX6_giveFacts_21 rfl ?_
  refine Z_geti (pc := 22) dX6_giveFacts_22 w2_65 (lk_48 hP2) fi_6_9 ?_
  refine Y_iconst (pc := 25) (v := (1 : Int32)) dX6_giveFacts_25 rfl ?_
  refine Y_iadd (pc := 26) dX6_giveFacts_26 ?_
  refine Z_puti (pc := 27) dX6_giveFacts_27 w2_65 (lk_48 hP2) fi_6_9 (Or.inl rfl) rfl ?_
  obtain ⟨M3, eM3, h⟩ := bndE h
  refine VV.mem eM3 ?_
  have hP3 := hP2.wI eM3
  cases h
  exact Y_vret (pc := 30) rfl dX6_giveFacts_30 hP3 ⟨rfl, rfl⟩
theorem v_X6_giveFacts {x2 : Int32} {x3 : Int32} {M z} (hP : Lay M) (h : d_X6_giveFacts x2 x3 M = some z) : CC Lay k_X6_giveFacts [.ref 48, .ref 19, .int x2, .int x3] M z.2 (Qv (none) z.2) xF :=
  CC.ofVV (by decide) rfl (Nat.le_of_ble_eq_true rfl) (b_X6_giveFacts hP h)
noncomputable def d_X6_noteBehind_62b (k62 : (Int32) → Mem → Option (Unit × Mem)) (x3 : Int32) (x4 : Int32) (M : Mem) : Option (Unit × Mem) :=
  if (6 : Int32) ≤ x4 then (
    some ((), M))
  else (
    (d_X11_localPlace x3 x4 M).bind fun y1 =>
    (d_X6_giveFacts y1.1 (3 : Int32) y1.2).bind fun y2 =>
    bnd ((x4 + (1 : Int32))) fun b1 =>
    k62 (b1) y2.2)
theorem b_X6_noteBehind_62b {k62 : (Int32) → Mem → Option (Unit × Mem)} {x3 : Int32} {x4 : Int32} {M z} (hk62 : ∀ (a : (Int32)) (M : Mem) (z : Unit × Mem), Lay M → k62 a M = some z → VV Lay k_X6_noteBehind 62 [(0, .ref 48), (1, .ref 18), (3, .int x3), (4, .int a)] [] M z.2 (Qv (none) z.2) xF) (hP : Lay M) (h : d_X6_noteBehind_62b k62 x3 x4 M = some z) : VV Lay k_X6_noteBehind 62 [(0, .ref 48), (1, .ref 18), (3, .int x3), (4, .int x4)] [] M z.2 (Qv (none) z.2) xF := by
  unfold d_X6_noteBehind_62b at h
  refine Y_iload (pc := 62) (j := 3) dX6_noteBehind_62 rfl ?_
  refine Y_bipush (pc := 64) (v := (6 : Int32)) dX6_noteBehind_64 rfl ?_
  refine Y_icmp_ge (pc := 66) (tgt := 90) dX6_noteBehind_66 (by decide) (fun hc1 => ?_) (fun hc1 => ?_)
  · replace h := ifT hc1 h
    cases h
    exact Y_vret (pc := 90) rfl dX6_noteBehind_90 hP ⟨rfl, rfl⟩
  · replace h := ifF hc1 h
    refine Y_aload_n (pc := 69) (j := 0) dX6_noteBehind_69 rfl rfl ?_
    refine Y_aload_n (pc := 70) (j := 1) dX6_noteBehind_70 rfl rfl ?_
    refine Z_getr (pc := 71) dX6_noteBehind_71 w1_172 (lk_18 hP) fr_4_2 (lr_18_2 hP) ?_
    refine Y_iload_n (pc := 74) (j := 2) dX6_noteBehind_74 rfl rfl ?_
    refine Y_iload (pc := 75) (j := 3) dX6_noteBehind_75 rfl ?_
    obtain ⟨y1, qy1, h⟩ := bindE h
    have cy1 := v_X11_localPlace hP qy1
    refine C_N2r (pc := 77) (k' := k_X11_localPlace) dX6_noteBehind_77 nl_Recorder_185 i_X11_localPlace (Nat.le_of_ble_eq_true rfl) (Nat.le_of_ble_eq_true rfl) (Nat.le_of_ble_eq_true rfl) (cy1) ?_
    have hPy1 := cy1.1.1
    refine Y_iconst (pc := 80) (v := (3 : Int32)) dX6_noteBehind_80 rfl ?_
    obtain ⟨y2, qy2, h⟩ := bindE h
    have cy2 := v_X6_giveFacts hPy1 qy2
    refine C_V3o (pc := 81) (k' := k_X6_giveFacts) dX6_noteBehind_81 w6_194 i_X6_giveFacts (lk_48 hPy1) ⟨Nat.le_of_ble_eq_true rfl, Nat.le_of_ble_eq_true rfl⟩ rfl (Nat.le_of_ble_eq_true rfl) (Nat.le_of_ble_eq_true rfl) (Nat.le_of_ble_eq_true rfl) (cy2) ?_
    have hPy2 := cy2.1.1
    obtain ⟨b1, eb1, h⟩ := bndE h
    refine Y_iinc (pc := 84) (j := 3) (v := b1) (lv1 := [(4, .int b1), (0, .ref 48), (1, .ref 18), (3, .int x3)]) dX6_noteBehind_84 rfl eb1.symm (by decide) rfl ?_
    refine Y_goto (pc := 87) (tgt := 62) dX6_noteBehind_87 (by decide) ?_
    refine VV.sub [1, 2, 3, 0] rfl ?_
    exact hk62 _ _ _ hPy2 h
noncomputable def d_X6_noteBehind_62 (x3 : Int32) : Nat → (Int32) → Mem → Option (Unit × Mem) := lp fun k a M => d_X6_noteBehind_62b k x3 a M
theorem b_X6_noteBehind_62 {x3 : Int32} (n : Nat) : ∀ (a : (Int32)) (M : Mem) (z : Unit × Mem), d_X6_noteBehind_62 x3 n a M = some z → Lay M → VV Lay k_X6_noteBehind 62 [(0, .ref 48), (1, .ref 18), (3, .int x3), (4, .int a)] [] M z.2 (Qv (none) z.2) xF :=
  lp_ind (G := fun (a : (Int32)) (M : Mem) (z : Unit × Mem) => Lay M → VV Lay k_X6_noteBehind 62 [(0, .ref 48), (1, .ref 18), (3, .int x3), (4, .int a)] [] M z.2 (Qv (none) z.2) xF) (fun k hk a M z h hP => b_X6_noteBehind_62b  (fun a M z hP h => hk a M z h hP) hP h) n
noncomputable def d_X6_noteBehind_41 (M : Mem) : Option (Unit × Mem) :=
  bnd (((mI M 18 9) - (1 : Int32))) fun b1 =>
  (d_X3_functionAhead 18 M).bind fun y1 =>
  okk (vp_in y1.1 8) <|
  bnd ((mI y1.2 3 y1.1.toNatClampNeg)) fun b2 =>
  d_X6_noteBehind_62 b1 fuel (b2) y1.2
theorem b_X6_noteBehind_41 {M z} (hP : Lay M) (h : d_X6_noteBehind_41 M = some z) : VV Lay k_X6_noteBehind 41 [(0, .ref 48), (1, .ref 18)] [] M z.2 (Qv (none) z.2) xF := by
  unfold d_X6_noteBehind_41 at h
  refine Y_aload_n (pc := 41) (j := 1) dX6_noteBehind_41 rfl rfl ?_
  refine Z_geti (pc := 42) dX6_noteBehind_42 w1_185 (lk_18 hP) fi_4_9 ?_
  refine Y_iconst (pc := 45) (v := (1 : Int32)) dX6_noteBehind_45 rfl ?_
  refine Y_isub (pc := 46) dX6_noteBehind_46 ?_
  obtain ⟨b1, eb1, h⟩ := bndE h
  refine VV.topI eb1 ?_
  refine Y_istore_n (pc := 47) (lv1 := [(3, .int b1), (0, .ref 48), (1, .ref 18)]) dX6_noteBehind_47 rfl (by decide) rfl ?_
  refine Y_aload_n (pc := 48) (j := 2) dX6_noteBehind_48 rfl rfl ?_
  refine Z_getr (pc := 49) dX6_noteBehind_49 w1_168 (lk_18 hP) fr_4_0 (lr_18_0 hP) ?_
  refine Z_getr (pc := 52) dX6_noteBehind_52 w1_54 (lk_2 hP) fr_5_0 (lr_2_0 hP) ?_
  refine Y_aload_n (pc := 55) (j := 2) dX6_noteBehind_55 rfl rfl ?_
  obtain ⟨y1, qy1, h⟩ := bindE h
  have cy1 := v_X3_functionAhead (Or.inl rfl) hP qy1
  refine C_V0r (pc := 56) (k' := k_X3_functionAhead) dX6_noteBehind_56 w6_198 i_X3_functionAhead (lk_18 hP) ⟨Nat.le_of_ble_eq_true rfl, Nat.le_of_ble_eq_true rfl⟩ rfl (Nat.le_of_ble_eq_true rfl) (Nat.le_of_ble_eq_true rfl) (Nat.le_of_ble_eq_true rfl) (cy1) ?_
  have hPy1 := cy1.1.1
  obtain ⟨hb1, h⟩ := okE h
  refine Y_iald (pc := 59) dX6_noteBehind_59 (lk_3 hPy1) (ln_3 hPy1) hb1 ?_
  obtain ⟨b2, eb2, h⟩ := bndE h
  refine VV.topI eb2 ?_
  refine Y_istore (pc := 60) (lv1 := [(4, .int b2), (3, .int b1), (0, .ref 48), (1, .ref 18)]) dX6_noteBehind_60 (by decide) rfl ?_
  refine VV.sub [2, 3, 1, 0] rfl ?_
  exact b_X6_noteBehind_62  fuel _ _ _ h hPy1
noncomputable def d_X6_noteBehind (x2 : Int32) (M : Mem) : Option (Unit × Mem) :=
  if (xIdx 5 x2) < 0 then (
    if x2 = (99 : Int32) then (
      d_X6_noteBehind_41 M)
    else (
      if x2 = (109 : Int32) then (
        d_X6_noteBehind_41 M)
      else (
        some ((), M))))
  else (
    (d_X3_fromTop 18 (1 : Int32) M).bind fun y1 =>
    (d_X6_giveFacts y1.1 (mI y1.2 48 15) y1.2).bind fun y2 =>
    some ((), y2.2))
theorem b_X6_noteBehind {x2 : Int32} {M z} (hP : Lay M) (h : d_X6_noteBehind x2 M = some z) : VV Lay k_X6_noteBehind 0 [(0, .ref 48), (1, .ref 18), (2, .int x2)] [] M z.2 (Qv (none) z.2) xF := by
  unfold d_X6_noteBehind at h
  refine Y_ldcS (pc := 0) (i := 5) dX6_noteBehind_0 rfl ?_
  refine Y_iload_n (pc := 2) (j := 2) dX6_noteBehind_2 rfl rfl ?_
  refine Y_indexOf (pc := 3) dX6_noteBehind_3 w6_186 (i := 5) (by decide) (Nat.le_of_ble_eq_true rfl) (Nat.le_of_ble_eq_true rfl) (Nat.le_of_ble_eq_true rfl) ?_
  refine Y_if_lt (pc := 6) (tgt := 29) dX6_noteBehind_6 (by decide) (fun hc1 => ?_) (fun hc1 => ?_)
  · replace h := ifT hc1 h
    refine Y_iload_n (pc := 29) (j := 2) dX6_noteBehind_29 rfl rfl ?_
    refine Y_bipush (pc := 30) (v := (99 : Int32)) dX6_noteBehind_30 rfl ?_
    refine Y_icmp_eq (pc := 32) (tgt := 41) dX6_noteBehind_32 (by decide) (fun hc2 => ?_) (fun hc2 => ?_)
    · replace h := ifT hc2 h
      refine VV.sub [0, 1] rfl ?_
      exact b_X6_noteBehind_41  hP h
    · replace h := ifF hc2 h
      refine Y_iload_n (pc := 35) (j := 2) dX6_noteBehind_35 rfl rfl ?_
      refine Y_bipush (pc := 36) (v := (109 : Int32)) dX6_noteBehind_36 rfl ?_
      refine Y_icmp_ne (pc := 38) (tgt := 90) dX6_noteBehind_38 (by decide) (fun hc3 => ?_) (fun hc3 => ?_)
      · replace h := ifF hc3 h
        cases h
        exact Y_vret (pc := 90) rfl dX6_noteBehind_90 hP ⟨rfl, rfl⟩
      · replace h := ifT hc3 h
        refine VV.sub [0, 1] rfl ?_
        exact b_X6_noteBehind_41  hP h
  · replace h := ifF hc1 h
    refine Y_aload_n (pc := 9) (j := 0) dX6_noteBehind_9 rfl rfl ?_
    refine Y_aload_n (pc := 10) (j := 1) dX6_noteBehind_10 rfl rfl ?_
    refine Z_getr (pc := 11) dX6_noteBehind_11 w1_172 (lk_18 hP) fr_4_2 (lr_18_2 hP) ?_
    refine Y_aload_n (pc := 14) (j := 1) dX6_noteBehind_14 rfl rfl ?_
    refine Y_iconst (pc := 15) (v := (1 : Int32)) dX6_noteBehind_15 rfl ?_
    obtain ⟨y1, qy1, h⟩ := bindE h
    have cy1 := v_X3_fromTop (Or.inl rfl) hP qy1
    refine C_V1r (pc := 16) (k' := k_X3_fromTop) dX6_noteBehind_16 w6_148 i_X3_fromTop (lk_18 hP) ⟨Nat.le_of_ble_eq_true rfl, Nat.le_of_ble_eq_true rfl⟩ rfl (Nat.le_of_ble_eq_true rfl) (Nat.le_of_ble_eq_true rfl) (Nat.le_of_ble_eq_true rfl) (cy1) ?_
    have hPy1 := cy1.1.1
    refine Y_aload_n (pc := 19) (j := 0) dX6_noteBehind_19 rfl rfl ?_
    refine Z_geti (pc := 20) dX6_noteBehind_20 w2_77 (lk_48 hPy1) fi_6_15 ?_
    obtain ⟨y2, qy2, h⟩ := bindE h
    have cy2 := v_X6_giveFacts hPy1 qy2
    refine C_V3o (pc := 23) (k' := k_X6_giveFacts) dX6_noteBehind_23 w6_194 i_X6_giveFacts (lk_48 hPy1) ⟨Nat.le_of_ble_eq_true rfl, Nat.le_of_ble_eq_true rfl⟩ rfl (Nat.le_of_ble_eq_true rfl) (Nat.le_of_ble_eq_true rfl) (Nat.le_of_ble_eq_true rfl) (cy2) ?_
    have hPy2 := cy2.1.1
    refine Y_goto (pc := 26) (tgt := 90) dX6_noteBehind_26 (by decide) ?_
    cases h
    exact Y_vret (pc := 90) rfl dX6_noteBehind_90 hPy2 ⟨rfl, rfl⟩
theorem v_X6_noteBehind {x2 : Int32} {M z} (hP : Lay M) (h : d_X6_noteBehind x2 M = some z) : CC Lay k_X6_noteBehind [.ref 48, .ref 18, .int x2] M z.2 (Qv (none) z.2) xF :=
  CC.ofVV (by decide) rfl (Nat.le_of_ble_eq_true rfl) (b_X6_noteBehind hP h)
end VCR
