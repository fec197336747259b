/-! ===== what the methods reckon (printed by a program) ===== -/
section VCR
noncomputable def d_X12_looksUp_63b (k63 : (Int32) → Mem → Option (Unit × Mem)) (x2 : Int32) (x5 : Int32) (x6 : Int32) (M : Mem) : Option (Unit × Mem) :=
  okk (vp_in x2 320) <|
  if (mI M 83 x2.toNatClampNeg) ≤ x6 then (
    okk (vp_in x2 320) <|
    okk (vp_in x2 320) <|
    bnd (sI M 86 x2.toNatClampNeg ((mI M 86 x2.toNatClampNeg) + (1 : Int32))) fun M1 =>
    okk (vp_in x2 320) <|
    if (mI M1 83 x2.toNatClampNeg) = (3 : Int32) then (
      okk (vp_in x2 320) <|
      bnd (sI M1 83 x2.toNatClampNeg (-1 : Int32)) fun M4 =>
      some ((), M4))
    else (
      okk (vp_in x2 320) <|
      okk (vp_in (((3 : Int32) * x2) + (mI M1 83 x2.toNatClampNeg)) 960) <|
      bnd (sI M1 84 (((3 : Int32) * x2) + (mI M1 83 x2.toNatClampNeg)).toNatClampNeg x5) fun M2 =>
      okk (vp_in x2 320) <|
      okk (vp_in x2 320) <|
      bnd (sI M2 83 x2.toNatClampNeg ((mI M2 83 x2.toNatClampNeg) + (1 : Int32))) fun M3 =>
      some ((), M3)))
  else (
    okk (vp_in (((3 : Int32) * x2) + x6) 960) <|
    if (mI M 84 (((3 : Int32) * x2) + x6).toNatClampNeg) = x5 then (
      okk (vp_in x2 320) <|
      okk (vp_in x2 320) <|
      bnd (sI M 85 x2.toNatClampNeg ((mI M 85 x2.toNatClampNeg) + (1 : Int32))) fun M5 =>
      some ((), M5))
    else (
      bnd ((x6 + (1 : Int32))) fun b1 =>
      k63 (b1) M))
theorem b_X12_looksUp_63b {k63 : (Int32) → Mem → Option (Unit × Mem)} {x2 : Int32} {x5 : Int32} {x6 : Int32} {M z} (hk63 : ∀ (a : (Int32)) (M : Mem) (z : Unit × Mem), Lay M → k63 a M = some z → VV Lay k_X12_looksUp 63 [(0, .ref 69), (2, .int x2), (5, .int x5), (6, .int a)] [] M z.2 (Qv (none) z.2) xF) (hP : Lay M) (h : d_X12_looksUp_63b k63 x2 x5 x6 M = some z) : VV Lay k_X12_looksUp 63 [(0, .ref 69), (2, .int x2), (5, .int x5), (6, .int x6)] [] M z.2 (Qv (none) z.2) xF := by
  unfold d_X12_looksUp_63b at h
  refine Y_iload (pc := 63) (j := 3) dX12_looksUp_63 rfl ?_
  refine Y_aload_n (pc := 65) (j := 0) dX12_looksUp_65 rfl rfl ?_
  refine Z_getr (pc := 66) dX12_looksUp_66 w8_83 (lk_69 hP) fr_12_17 (lr_69_17 hP) ?_
  refine Y_iload_n (pc := 69) (j := 1) dX12_looksUp_69 rfl rfl ?_
  obtain ⟨hb1, h⟩ := okE h
  refine Y_iald (pc := 70) dX12_looksUp_70 (lk_83 hP) (ln_83 hP) hb1 ?_
  refine Y_icmp_ge (pc := 71) (tgt := 107) dX12_looksUp_71 (by decide) (fun hc1 => ?_) (fun hc1 => ?_)
  · replace h := ifT hc1 h
    refine Y_aload_n (pc := 107) (j := 0) dX12_looksUp_107 rfl rfl ?_
    refine Z_getr (pc := 108) dX12_looksUp_108 w8_86 (lk_69 hP) fr_12_20 (lr_69_20 hP) ?_
    refine Y_iload_n (pc := 111) (j := 1) dX12_looksUp_111 rfl rfl ?_
    refine Y_dup2 (pc := 112) dX12_looksUp_112 rfl rfl ?_
    obtain ⟨hb2, h⟩ := okE h
    refine Y_iald (pc := 113) dX12_looksUp_113 (lk_86 hP) (ln_86 hP) hb2 ?_
    refine Y_iconst (pc := 114) (v := (1 : Int32)) dX12_looksUp_114 rfl ?_
    refine Y_iadd (pc := 115) dX12_looksUp_115 ?_
    obtain ⟨hb3, h⟩ := okE h
    refine Y_iast (pc := 116) dX12_looksUp_116 (lk_86 hP) (ln_86 hP) hb3 ?_
    obtain ⟨M1, eM1, h⟩ := bndE h
    refine VV.mem eM1 ?_
    have hP1 := hP.wI eM1
    refine Y_aload_n (pc := 117) (j := 0) dX12_looksUp_117 rfl rfl ?_
    refine Z_getr (pc := 118) dX12_looksUp_118 w8_83 (lk_69 hP1) fr_12_17 (lr_69_17 hP1) ?_
    refine Y_iload_n (pc := 121) (j := 1) dX12_looksUp_121 rfl rfl ?_
    obtain ⟨hb4, h⟩ := okE h
    refine Y_iald (pc := 122) dX12_looksUp_122 (lk_83 hP1) (ln_83 hP1) hb4 ?_
    refine Y_iconst (pc := 123) (v := (3 : Int32)) dX12_looksUp_123 rfl ?_
    refine Y_icmp_ne (pc := 124) (tgt := 137) dX12_looksUp_124 (by decide) (fun hc2 => ?_) (fun hc2 => ?_)
    · replace h := ifF hc2 h
      refine Y_aload_n (pc := 137) (j := 0) dX12_looksUp_137 rfl rfl ?_
      refine Z_getr (pc := 138) dX12_looksUp_138 w8_84 (lk_69 hP1) fr_12_18 (lr_69_18 hP1) ?_
      refine Y_iconst (pc := 141) (v := (3 : Int32)) dX12_looksUp_141 rfl ?_
      refine Y_iload_n (pc := 142) (j := 1) dX12_looksUp_142 rfl rfl ?_
      refine Y_imul (pc := 143) dX12_looksUp_143 ?_
      refine Y_aload_n (pc := 144) (j := 0) dX12_looksUp_144 rfl rfl ?_
      refine Z_getr (pc := 145) dX12_looksUp_145 w8_83 (lk_69 hP1) fr_12_17 (lr_69_17 hP1) ?_
      refine Y_iload_n (pc := 148) (j := 1) dX12_looksUp_148 rfl rfl ?_
      obtain ⟨hb5, h⟩ := okE h
      refine Y_iald (pc := 149) dX12_looksUp_149 (lk_83 hP1) (ln_83 hP1) hb5 ?_
      refine Y_iadd (pc := 150) dX12_looksUp_150 ?_
      refine Y_iload (pc := 151) (j := 2) dX12_looksUp_151 rfl ?_
      obtain ⟨hb6, h⟩ := okE h
      refine Y_iast (pc := 153) dX12_looksUp_153 (lk_84 hP1) (ln_84 hP1) hb6 ?_
      obtain ⟨M2, eM2, h⟩ := bndE h
      refine VV.mem eM2 ?_
      have hP2 := hP1.wI eM2
      refine Y_aload_n (pc := 154) (j := 0) dX12_looksUp_154 rfl rfl ?_
      refine Z_getr (pc := 155) dX12_looksUp_155 w8_83 (lk_69 hP2) fr_12_17 (lr_69_17 hP2) ?_
      refine Y_iload_n (pc := 158) (j := 1) dX12_looksUp_158 rfl rfl ?_
      refine Y_dup2 (pc := 159) dX12_looksUp_159 rfl rfl ?_
      obtain ⟨hb7, h⟩ := okE h
      refine Y_iald (pc := 160) dX12_looksUp_160 (lk_83 hP2) (ln_83 hP2) hb7 ?_
      refine Y_iconst (pc := 161) (v := (1 : Int32)) dX12_looksUp_161 rfl ?_
      refine Y_iadd (pc := 162) dX12_looksUp_162 ?_
      obtain ⟨hb8, h⟩ := okE h
      refine Y_iast (pc := 163) dX12_looksUp_163 (lk_83 hP2) (ln_83 hP2) hb8 ?_
      obtain ⟨M3, eM3, h⟩ := bndE h
      refine VV.mem eM3 ?_
      have hP3 := hP2.wI eM3
      cases h
      exact Y_vret (pc := 164) rfl dX12_looksUp_164 hP3 ⟨rfl, rfl⟩
    · replace h := ifT hc2 h
      refine Y_aload_n (pc := 127) (j := 0) dX12_looksUp_127 rfl rfl ?_
      refine Z_getr (pc := 128) dX12_looksUp_128 w8_83 (lk_69 hP1) fr_12_17 (lr_69_17 hP1) ?_
      refine Y_iload_n (pc := 131) (j := 1) dX12_looksUp_131 rfl rfl ?_
      refine Y_iconst (pc := 132) (v := (-1 : Int32)) dX12_looksUp_132 rfl ?_
      obtain ⟨hb9, h⟩ := okE h
      refine Y_iast (pc := 133) dX12_looksUp_133 (lk_83 hP1) (ln_83 hP1) hb9 ?_
      obtain ⟨M4, eM4, h⟩ := bndE h
      refine VV.mem eM4 ?_
      have hP4 := hP1.wI eM4
      refine Y_goto (pc := 134) (tgt := 164) dX12_looksUp_134 (by decide) ?_
      cases h
      exact Y_vret (pc := 164) rfl dX12_looksUp_164 hP4 ⟨rfl, rfl⟩
  · replace h := ifF hc1 h
    refine Y_aload_n (pc := 74) (j := 0) dX12_looksUp_74 rfl rfl ?_
    refine Z_getr (pc := 75) dX12_looksUp_75 w8_84 (lk_69 hP) fr_12_18 (lr_69_18 hP) ?_
    refine Y_iconst (pc := 78) (v := (3 : Int32)) dX12_looksUp_78 rfl ?_
    refine Y_iload_n (pc := 79) (j := 1) dX12_looksUp_79 rfl rfl ?_
    refine Y_imul (pc := 80) dX12_looksUp_80 ?_
    refine Y_iload (pc := 81) (j := 3) dX12_looksUp_81 rfl ?_
    refine Y_iadd (pc := 83) dX12_looksUp_83 ?_
    obtain ⟨hb10, h⟩ := okE h
    refine Y_iald (pc := 84) dX12_looksUp_84 (lk_84 hP) (ln_84 hP) hb10 ?_
    refine Y_iload (pc := 85) (j := 2) dX12_looksUp_85 rfl ?_
    refine Y_icmp_ne (pc := 87) (tgt := 101) dX12_looksUp_87 (by decide) (fun hc3 => ?_) (fun hc3 => ?_)
    · replace h := ifF hc3 h
      obtain ⟨b1, eb1, h⟩ := bndE h
      refine Y_iinc (pc := 101) (j := 3) (v := b1) (lv1 := [(6, .int b1), (0, .ref 69), (2, .int x2), (5, .int x5)]) dX12_looksUp_101 rfl eb1.symm (by decide) rfl ?_
      refine Y_goto (pc := 104) (tgt := 63) dX12_looksUp_104 (by decide) ?_
      refine VV.sub [1, 2, 3, 0] rfl ?_
      exact hk63 _ _ _ hP h
    · replace h := ifT hc3 h
      refine Y_aload_n (pc := 90) (j := 0) dX12_looksUp_90 rfl rfl ?_
      refine Z_getr (pc := 91) dX12_looksUp_91 w8_85 (lk_69 hP) fr_12_19 (lr_69_19 hP) ?_
      refine Y_iload_n (pc := 94) (j := 1) dX12_looksUp_94 rfl rfl ?_
      refine Y_dup2 (pc := 95) dX12_looksUp_95 rfl rfl ?_
      obtain ⟨hb11, h⟩ := okE h
      refine Y_iald (pc := 96) dX12_looksUp_96 (lk_85 hP) (ln_85 hP) hb11 ?_
      refine Y_iconst (pc := 97) (v := (1 : Int32)) dX12_looksUp_97 rfl ?_
      refine Y_iadd (pc := 98) dX12_looksUp_98 ?_
      obtain ⟨hb12, h⟩ := okE h
      refine Y_iast (pc := 99) dX12_looksUp_99 (lk_85 hP) (ln_85 hP) hb12 ?_
      obtain ⟨M5, eM5, h⟩ := bndE h
      refine VV.mem eM5 ?_
      have hP5 := hP.wI eM5
      cases h
      exact Y_vret (pc := 100) rfl dX12_looksUp_100 hP5 ⟨rfl, rfl⟩
noncomputable def d_X12_looksUp_63 (x2 : Int32) (x5 : Int32) : Nat → (Int32) → Mem → Option (Unit × Mem) := lp fun k a M => d_X12_looksUp_63b k x2 x5 a M
theorem b_X12_looksUp_63 {x2 : Int32} {x5 : Int32} (n : Nat) : ∀ (a : (Int32)) (M : Mem) (z : Unit × Mem), d_X12_looksUp_63 x2 x5 n a M = some z → Lay M → VV Lay k_X12_looksUp 63 [(0, .ref 69), (2, .int x2), (5, .int x5), (6, .int a)] [] M z.2 (Qv (none) z.2) xF :=
  lp_ind (G := fun (a : (Int32)) (M : Mem) (z : Unit × Mem) => Lay M → VV Lay k_X12_looksUp 63 [(0, .ref 69), (2, .int x2), (5, .int x5), (6, .int a)] [] M z.2 (Qv (none) z.2) xF) (fun k hk a M z h hP => b_X12_looksUp_63b  (fun a M z hP h => hk a M z h hP) hP h) n
noncomputable def d_X12_looksUp_47 (x2 : Int32) (s0 : Int32) (M : Mem) : Option (Unit × Mem) :=
  okk (vp_in x2 320) <|
  if (mI M 83 x2.toNatClampNeg) = (-1 : Int32) then (
    some ((), M))
  else (
    d_X12_looksUp_63 x2 s0 fuel ((0 : Int32)) M)
theorem b_X12_looksUp_47 {x2 : Int32} {s0 : Int32} {M z} (hP : Lay M) (h : d_X12_looksUp_47 x2 s0 M = some z) : VV Lay k_X12_looksUp 47 [(0, .ref 69), (2, .int x2)] [.int s0] M z.2 (Qv (none) z.2) xF := by
  unfold d_X12_looksUp_47 at h
  refine Y_istore (pc := 47) (lv1 := [(5, .int s0), (0, .ref 69), (2, .int x2)]) dX12_looksUp_47 (by decide) rfl ?_
  refine Y_aload_n (pc := 49) (j := 1) dX12_looksUp_49 rfl rfl ?_
  refine Z_getr (pc := 50) dX12_looksUp_50 w8_83 (lk_69 hP) fr_12_17 (lr_69_17 hP) ?_
  refine Y_iload_n (pc := 53) (j := 2) dX12_looksUp_53 rfl rfl ?_
  obtain ⟨hb1, h⟩ := okE h
  refine Y_iald (pc := 54) dX12_looksUp_54 (lk_83 hP) (ln_83 hP) hb1 ?_
  refine Y_iconst (pc := 55) (v := (-1 : Int32)) dX12_looksUp_55 rfl ?_
  refine Y_icmp_ne (pc := 56) (tgt := 60) dX12_looksUp_56 (by decide) (fun hc1 => ?_) (fun hc1 => ?_)
  · replace h := ifF hc1 h
    refine Y_iconst (pc := 60) (v := (0 : Int32)) dX12_looksUp_60 rfl ?_
    refine Y_istore (pc := 61) (lv1 := [(6, .int (0 : Int32)), (5, .int s0), (0, .ref 69), (2, .int x2)]) dX12_looksUp_61 (by decide) rfl ?_
    refine VV.sub [2, 3, 1, 0] rfl ?_
    exact b_X12_looksUp_63  fuel _ _ _ h hP
  · replace h := ifT hc1 h
    cases h
    exact Y_vret (pc := 59) rfl dX12_looksUp_59 hP ⟨rfl, rfl⟩
noncomputable def d_X12_looksUp_11 (x1 : Int32) (x2 : Int32) (s0 : Int32) (M : Mem) : Option (Unit × Mem) :=
  (d_X12_top s0 M).bind fun y1 =>
  okk (vp_in y1.1 168) <|
  okk (vp_in (mI y1.2 106 y1.1.toNatClampNeg) 60) <|
  bnd ((mI y1.2 112 (mI y1.2 106 y1.1.toNatClampNeg).toNatClampNeg)) fun b1 =>
  if x1 = (109 : Int32) then (
    okk (vp_in b1 60) <|
    d_X12_looksUp_47 x2 (mI y1.2 79 b1.toNatClampNeg) y1.2)
  else (
    d_X12_looksUp_47 x2 b1 y1.2)
theorem b_X12_looksUp_11 {x1 : Int32} {x2 : Int32} {s0 : Int32} {M z} (hP : Lay M) (h : d_X12_looksUp_11 x1 x2 s0 M = some z) : VV Lay k_X12_looksUp 11 [(0, .ref 69), (1, .int x1), (2, .int x2)] [.int s0] M z.2 (Qv (none) z.2) xF := by
  unfold d_X12_looksUp_11 at h
  refine Y_istore_n (pc := 11) (lv1 := [(3, .int s0), (0, .ref 69), (1, .int x1), (2, .int x2)]) dX12_looksUp_11 rfl (by decide) rfl ?_
  refine Y_aload_n (pc := 12) (j := 1) dX12_looksUp_12 rfl rfl ?_
  refine Z_getr (pc := 13) dX12_looksUp_13 w8_119 (lk_69 hP) fr_12_53 (lr_69_53 hP) ?_
  refine Y_aload_n (pc := 16) (j := 1) dX12_looksUp_16 rfl rfl ?_
  refine Z_getr (pc := 17) dX12_looksUp_17 w8_111 (lk_69 hP) fr_12_45 (lr_69_45 hP) ?_
  refine Y_aload_n (pc := 20) (j := 1) dX12_looksUp_20 rfl rfl ?_
  refine Y_iload_n (pc := 21) (j := 0) dX12_looksUp_21 rfl rfl ?_
  obtain ⟨y1, qy1, h⟩ := bindE h
  have cy1 := v_X12_top hP qy1
  refine C_V1r (pc := 22) (k' := k_X12_top) dX12_looksUp_22 w9_200 i_X12_top (lk_69 hP) ⟨Nat.le_of_ble_eq_true rfl, Nat.le_of_ble_eq_true rfl⟩ rfl (Nat.le_of_ble_eq_true rfl) (Nat.le_of_ble_eq_true rfl) (Nat.le_of_ble_eq_true rfl) (cy1) ?_
  have hPy1 := cy1.1.1
  obtain ⟨hb1, h⟩ := okE h
  refine Y_iald (pc := 25) dX12_looksUp_25 (lk_106 hPy1) (ln_106 hPy1) hb1 ?_
  obtain ⟨hb2, h⟩ := okE h
  refine Y_iald (pc := 26) dX12_looksUp_26 (lk_112 hPy1) (ln_112 hPy1) hb2 ?_
  obtain ⟨b1, eb1, h⟩ := bndE h
  refine VV.topI eb1 ?_
  refine Y_istore (pc := 27) (lv1 := [(4, .int b1), (3, .int s0), (0, .ref 69), (1, .int x1), (2, .int x2)]) dX12_looksUp_27 (by decide) rfl ?_
  refine Y_iload_n (pc := 29) (j := 3) dX12_looksUp_29 rfl rfl ?_
  refine Y_bipush (pc := 30) (v := (109 : Int32)) dX12_looksUp_30 rfl ?_
  refine Y_icmp_ne (pc := 32) (tgt := 45) dX12_looksUp_32 (by decide) (fun hc1 => ?_) (fun hc1 => ?_)
  · replace h := ifF hc1 h
    refine Y_iload (pc := 45) (j := 0) dX12_looksUp_45 rfl ?_
    refine VV.sub [2, 4] rfl ?_
    exact b_X12_looksUp_47  hPy1 h
  · replace h := ifT hc1 h
    refine Y_aload_n (pc := 35) (j := 2) dX12_looksUp_35 rfl rfl ?_
    refine Z_getr (pc := 36) dX12_looksUp_36 w8_79 (lk_69 hPy1) fr_12_13 (lr_69_13 hPy1) ?_
    refine Y_iload (pc := 39) (j := 0) dX12_looksUp_39 rfl ?_
    obtain ⟨hb3, h⟩ := okE h
    refine Y_iald (pc := 41) dX12_looksUp_41 (lk_79 hPy1) (ln_79 hPy1) hb3 ?_
    refine Y_goto (pc := 42) (tgt := 47) dX12_looksUp_42 (by decide) ?_
    refine VV.sub [2, 4] rfl ?_
    exact b_X12_looksUp_47  hPy1 h
noncomputable def d_X12_looksUp (x1 : Int32) (x2 : Int32) (M : Mem) : Option (Unit × Mem) :=
  if x1 = (112 : Int32) then (
    d_X12_looksUp_11 x1 x2 (1 : Int32) M)
  else (
    d_X12_looksUp_11 x1 x2 (0 : Int32) M)
theorem b_X12_looksUp {x1 : Int32} {x2 : Int32} {M z} (hP : Lay M) (h : d_X12_looksUp x1 x2 M = some z) : VV Lay k_X12_looksUp 0 [(0, .ref 69), (1, .int x1), (2, .int x2)] [] M z.2 (Qv (none) z.2) xF := by
  unfold d_X12_looksUp at h
  refine Y_iload_n (pc := 0) (j := 1) dX12_looksUp_0 rfl rfl ?_
  refine Y_bipush (pc := 1) (v := (112 : Int32)) dX12_looksUp_1 rfl ?_
  refine Y_icmp_ne (pc := 3) (tgt := 10) dX12_looksUp_3 (by decide) (fun hc1 => ?_) (fun hc1 => ?_)
  · replace h := ifF hc1 h
    refine Y_iconst (pc := 10) (v := (0 : Int32)) dX12_looksUp_10 rfl ?_
    refine VV.sub [0, 1, 2] rfl ?_
    exact b_X12_looksUp_11  hP h
  · replace h := ifT hc1 h
    refine Y_iconst (pc := 6) (v := (1 : Int32)) dX12_looksUp_6 rfl ?_
    refine Y_goto (pc := 7) (tgt := 11) dX12_looksUp_7 (by decide) ?_
    refine VV.sub [0, 1, 2] rfl ?_
    exact b_X12_looksUp_11  hP h
theorem v_X12_looksUp {x1 : Int32} {x2 : Int32} {M z} (hP : Lay M) (h : d_X12_looksUp x1 x2 M = some z) : CC Lay k_X12_looksUp [.ref 69, .int x1, .int x2] M z.2 (Qv (none) z.2) xF :=
  CC.ofVV (by decide) rfl (Nat.le_of_ble_eq_true rfl) (b_X12_looksUp hP h)
noncomputable def d_X12_jumpsBack_31 (x1 : Int32) (M : Mem) : Option (Unit × Mem) :=
  (d_X12_breaksOff M).bind fun y1 =>
  (d_X12_rootAt x1 y1.2).bind fun y2 =>
  if y2.1 = (-1 : Int32) then (
    okk (vp_in x1 320) <|
    okk (vp_in x1 320) <|
    bnd (sI y2.2 87 x1.toNatClampNeg ((mI y2.2 87 x1.toNatClampNeg) + (1 : Int32))) fun M1 =>
    okk (vp_in x1 320) <|
    if (mI M1 87 x1.toNatClampNeg) < (mI M1 69 23) then (
      some ((), M1))
    else (
      okk (vp_in x1 320) <|
      if (2 : Int32) ≤ (mI M1 88 x1.toNatClampNeg) then (
        some ((), M1))
      else (
        (d_X12_records (-1 : Int32) (-1 : Int32) x1 (mI M1 69 48) M1).bind fun y3 =>
        some ((), y3.2))))
  else (
    (d_X12_enters y2.1 y2.2).bind fun y4 =>
    some ((), y4.2))
theorem b_X12_jumpsBack_31 {x1 : Int32} {M z} (hP : Lay M) (h : d_X12_jumpsBack_31 x1 M = some z) : VV Lay k_X12_jumpsBack 31 [(0, .ref 69), (1, .int x1)] [] M z.2 (Qv (none) z.2) xF := by
  unfold d_X12_jumpsBack_31 at h
  refine Y_aload_n (pc := 31) (j := 0) dX12_jumpsBack_31 rfl rfl ?_
  obtain ⟨y1, qy1, h⟩ := bindE h
  have cy1 := v_X12_breaksOff hP qy1
  refine C_V0o (pc := 32) (k' := k_X12_breaksOff) dX12_jumpsBack_32 w9_180 i_X12_breaksOff (lk_69 hP) ⟨Nat.le_of_ble_eq_true rfl, Nat.le_of_ble_eq_true rfl⟩ rfl (Nat.le_of_ble_eq_true rfl) (Nat.le_of_ble_eq_true rfl) (Nat.le_of_ble_eq_true rfl) (cy1) ?_
  have hPy1 := cy1.1.1
  refine Y_aload_n (pc := 35) (j := 0) dX12_jumpsBack_35 rfl rfl ?_
  refine Y_iload_n (pc := 36) (j := 1) dX12_jumpsBack_36 rfl rfl ?_
  obtain ⟨y2, qy2, h⟩ := bindE h
  have cy2 := v_X12_rootAt hPy1 qy2
  refine C_V1r (pc := 37) (k' := k_X12_rootAt) dX12_jumpsBack_37 w10_151 i_X12_rootAt (lk_69 hPy1) ⟨Nat.le_of_ble_eq_true rfl, Nat.le_of_ble_eq_true rfl⟩ rfl (Nat.le_of_ble_eq_true rfl) (Nat.le_of_ble_eq_true rfl) (Nat.le_of_ble_eq_true rfl) (cy2) ?_
  have hPy2 := cy2.1.1
  refine Y_istore_n (pc := 40) (lv1 := [(2, .int y2.1), (0, .ref 69), (1, .int x1)]) dX12_jumpsBack_40 rfl (by decide) rfl ?_
  refine Y_iload_n (pc := 41) (j := 0) dX12_jumpsBack_41 rfl rfl ?_
  refine Y_iconst (pc := 42) (v := (-1 : Int32)) dX12_jumpsBack_42 rfl ?_
  refine Y_icmp_eq (pc := 43) (tgt := 52) dX12_jumpsBack_43 (by decide) (fun hc1 => ?_) (fun hc1 => ?_)
  · replace h := ifT hc1 h
    refine Y_aload_n (pc := 52) (j := 1) dX12_jumpsBack_52 rfl rfl ?_
    refine Z_getr (pc := 53) dX12_jumpsBack_53 w8_87 (lk_69 hPy2) fr_12_21 (lr_69_21 hPy2) ?_
    refine Y_iload_n (pc := 56) (j := 2) dX12_jumpsBack_56 rfl rfl ?_
    refine Y_dup2 (pc := 57) dX12_jumpsBack_57 rfl rfl ?_
    obtain ⟨hb1, h⟩ := okE h
    refine Y_iald (pc := 58) dX12_jumpsBack_58 (lk_87 hPy2) (ln_87 hPy2) hb1 ?_
    refine Y_iconst (pc := 59) (v := (1 : Int32)) dX12_jumpsBack_59 rfl ?_
    refine Y_iadd (pc := 60) dX12_jumpsBack_60 ?_
    obtain ⟨hb2, h⟩ := okE h
    refine Y_iast (pc := 61) dX12_jumpsBack_61 (lk_87 hPy2) (ln_87 hPy2) hb2 ?_
    obtain ⟨M1, eM1, h⟩ := bndE h
    refine VV.mem eM1 ?_
    have hP1 := hPy2.wI eM1
    refine Y_aload_n (pc := 62) (j := 1) dX12_jumpsBack_62 rfl rfl ?_
    refine Z_getr (pc := 63) dX12_jumpsBack_63 w8_87 (lk_69 hP1) fr_12_21 (lr_69_21 hP1) ?_
    refine Y_iload_n (pc := 66) (j := 2) dX12_jumpsBack_66 rfl rfl ?_
    obtain ⟨hb3, h⟩ := okE h
    refine Y_iald (pc := 67) dX12_jumpsBack_67 (lk_87 hP1) (ln_87 hP1) hb3 ?_
    refine Y_aload_n (pc := 68) (j := 1) dX12_jumpsBack_68 rfl rfl ?_
    refine Z_geti (pc := 69) dX12_jumpsBack_69 w8_89 (lk_69 hP1) fi_12_23 ?_
    refine Y_icmp_lt (pc := 72) (tgt := 96) dX12_jumpsBack_72 (by decide) (fun hc2 => ?_) (fun hc2 => ?_)
    · replace h := ifT hc2 h
      cases h
      exact Y_vret (pc := 96) rfl dX12_jumpsBack_96 hP1 ⟨rfl, rfl⟩
    · replace h := ifF hc2 h
      refine Y_aload_n (pc := 75) (j := 1) dX12_jumpsBack_75 rfl rfl ?_
      refine Z_getr (pc := 76) dX12_jumpsBack_76 w8_88 (lk_69 hP1) fr_12_22 (lr_69_22 hP1) ?_
      refine Y_iload_n (pc := 79) (j := 2) dX12_jumpsBack_79 rfl rfl ?_
      obtain ⟨hb4, h⟩ := okE h
      refine Y_iald (pc := 80) dX12_jumpsBack_80 (lk_88 hP1) (ln_88 hP1) hb4 ?_
      refine Y_iconst (pc := 81) (v := (2 : Int32)) dX12_jumpsBack_81 rfl ?_
      refine Y_icmp_ge (pc := 82) (tgt := 96) dX12_jumpsBack_82 (by decide) (fun hc3 => ?_) (fun hc3 => ?_)
      · replace h := ifT hc3 h
        cases h
        exact Y_vret (pc := 96) rfl dX12_jumpsBack_96 hP1 ⟨rfl, rfl⟩
      · replace h := ifF hc3 h
        refine Y_aload_n (pc := 85) (j := 1) dX12_jumpsBack_85 rfl rfl ?_
        refine Y_iconst (pc := 86) (v := (-1 : Int32)) dX12_jumpsBack_86 rfl ?_
        refine Y_iconst (pc := 87) (v := (-1 : Int32)) dX12_jumpsBack_87 rfl ?_
        refine Y_iload_n (pc := 88) (j := 2) dX12_jumpsBack_88 rfl rfl ?_
        refine Y_aload_n (pc := 89) (j := 1) dX12_jumpsBack_89 rfl rfl ?_
        refine Z_geti (pc := 90) dX12_jumpsBack_90 w8_114 (lk_69 hP1) fi_12_48 ?_
        obtain ⟨y3, qy3, h⟩ := bindE h
        have cy3 := v_X12_records hP1 qy3
        refine C_V4o (pc := 93) (k' := k_X12_records) dX12_jumpsBack_93 w10_31 i_X12_records (lk_69 hP1) ⟨Nat.le_of_ble_eq_true rfl, Nat.le_of_ble_eq_true rfl⟩ rfl (Nat.le_of_ble_eq_true rfl) (Nat.le_of_ble_eq_true rfl) (Nat.le_of_ble_eq_true rfl) (cy3) ?_
        have hPy3 := cy3.1.1
        cases h
        exact Y_vret (pc := 96) rfl dX12_jumpsBack_96 hPy3 ⟨rfl, rfl⟩
  · replace h := ifF hc1 h
    refine Y_aload_n (pc := 46) (j := 1) dX12_jumpsBack_46 rfl rfl ?_
    refine Y_iload_n (pc := 47) (j := 0) dX12_jumpsBack_47 rfl rfl ?_
    obtain ⟨y4, qy4, h⟩ := bindE h
    have cy4 := v_X12_enters hPy2 qy4
    refine C_V1o (pc := 48) (k' := k_X12_enters) dX12_jumpsBack_48 w10_103 i_X12_enters (lk_69 hPy2) ⟨Nat.le_of_ble_eq_true rfl, Nat.le_of_ble_eq_true rfl⟩ rfl (Nat.le_of_ble_eq_true rfl) (Nat.le_of_ble_eq_true rfl) (Nat.le_of_ble_eq_true rfl) (cy4) ?_
    have hPy4 := cy4.1.1
    cases h
    exact Y_vret (pc := 51) rfl dX12_jumpsBack_51 hPy4 ⟨rfl, rfl⟩
noncomputable def d_X12_jumpsBack (x1 : Int32) (M : Mem) : Option (Unit × Mem) :=
  if (mI M 69 71) = 0 then (
    d_X12_jumpsBack_31 x1 M)
  else (
    if x1 = (mI M 69 74) then (
      if (mI M 69 48) = (mI M 69 75) then (
        (d_X12_ends M).bind fun y1 =>
        some ((), y1.2))
      else (
        d_X12_jumpsBack_31 x1 M))
    else (
      d_X12_jumpsBack_31 x1 M))
theorem b_X12_jumpsBack {x1 : Int32} {M z} (hP : Lay M) (h : d_X12_jumpsBack x1 M = some z) : VV Lay k_X12_jumpsBack 0 [(0, .ref 69), (1, .int x1)] [] M z.2 (Qv (none) z.2) xF := by
  unfold d_X12_jumpsBack at h
  refine Y_aload_n (pc := 0) (j := 0) dX12_jumpsBack_0 rfl rfl ?_
  refine Z_geti (pc := 1) dX12_jumpsBack_1 w8_137 (lk_69 hP) fi_12_71 ?_
  refine Y_if_eq (pc := 4) (tgt := 31) dX12_jumpsBack_4 (by decide) (fun hc1 => ?_) (fun hc1 => ?_)
  · replace h := ifT hc1 h
    refine VV.sub [0, 1] rfl ?_
    exact b_X12_jumpsBack_31  hP h
  · replace h := ifF hc1 h
    refine Y_iload_n (pc := 7) (j := 1) dX12_jumpsBack_7 rfl rfl ?_
    refine Y_aload_n (pc := 8) (j := 0) dX12_jumpsBack_8 rfl rfl ?_
    refine Z_geti (pc := 9) dX12_jumpsBack_9 w8_140 (lk_69 hP) fi_12_74 ?_
    refine Y_icmp_ne (pc := 12) (tgt := 31) dX12_jumpsBack_12 (by decide) (fun hc2 => ?_) (fun hc2 => ?_)
    · replace h := ifF hc2 h
      refine VV.sub [0, 1] rfl ?_
      exact b_X12_jumpsBack_31  hP h
    · replace h := ifT hc2 h
      refine Y_aload_n (pc := 15) (j := 0) dX12_jumpsBack_15 rfl rfl ?_
      refine Z_geti (pc := 16) dX12_jumpsBack_16 w8_114 (lk_69 hP) fi_12_48 ?_
      refine Y_aload_n (pc := 19) (j := 0) dX12_jumpsBack_19 rfl rfl ?_
      refine Z_geti (pc := 20) dX12_jumpsBack_20 w8_141 (lk_69 hP) fi_12_75 ?_
      refine Y_icmp_ne (pc := 23) (tgt := 31) dX12_jumpsBack_23 (by decide) (fun hc3 => ?_) (fun hc3 => ?_)
      · replace h := ifF hc3 h
        refine VV.sub [0, 1] rfl ?_
        exact b_X12_jumpsBack_31  hP h
      · replace h := ifT hc3 h
        refine Y_aload_n (pc := 26) (j := 0) dX12_jumpsBack_26 rfl rfl ?_
        obtain ⟨y1, qy1, h⟩ := bindE h
        have cy1 := v_X12_ends hP qy1
        refine C_V0o (pc := 27) (k' := k_X12_ends) dX12_jumpsBack_27 w10_147 i_X12_ends (lk_69 hP) ⟨Nat.le_of_ble_eq_true rfl, Nat.le_of_ble_eq_true rfl⟩ rfl (Nat.le_of_ble_eq_true rfl) (Nat.le_of_ble_eq_true rfl) (Nat.le_of_ble_eq_true rfl) (cy1) ?_
        have hPy1 := cy1.1.1
        cases h
        exact Y_vret (pc := 30) rfl dX12_jumpsBack_30 hPy1 ⟨rfl, rfl⟩
theorem v_X12_jumpsBack {x1 : Int32} {M z} (hP : Lay M) (h : d_X12_jumpsBack x1 M = some z) : CC Lay k_X12_jumpsBack [.ref 69, .int x1] M z.2 (Qv (none) z.2) xF :=
  CC.ofVV (by decide) rfl (Nat.le_of_ble_eq_true rfl) (b_X12_jumpsBack hP h)
noncomputable def d_X12_plainly_215 (x2 : Int32) (x3 : Int32) (x5 : Int32) (M : Mem) : Option (Unit × Mem) :=
  (d_X12_executes M).bind fun y1 =>
  if x5 = 0 then (
    some ((), y1.2))
  else (
    okk (vp_in x3 320) <|
    (d_X12_jumpsBack (((40 : Int32) * x2) + (mI y1.2 73 x3.toNatClampNeg)) y1.2).bind fun y2 =>
    some ((), y2.2))
theorem b_X12_plainly_215 {x2 : Int32} {x3 : Int32} {x5 : Int32} {M z} (hP : Lay M) (h : d_X12_plainly_215 x2 x3 x5 M = some z) : VV Lay k_X12_plainly 215 [(0, .ref 69), (2, .int x2), (3, .int x3), (5, .int x5)] [] M z.2 (Qv (none) z.2) xF := by
  unfold d_X12_plainly_215 at h
  refine Y_aload_n (pc := 215) (j := 0) dX12_plainly_215 rfl rfl ?_
  obtain ⟨y1, qy1, h⟩ := bindE h
  have cy1 := v_X12_executes hP qy1
  refine C_V0o (pc := 216) (k' := k_X12_executes) dX12_plainly_216 w10_39 i_X12_executes (lk_69 hP) ⟨Nat.le_of_ble_eq_true rfl, Nat.le_of_ble_eq_true rfl⟩ rfl (Nat.le_of_ble_eq_true rfl) (Nat.le_of_ble_eq_true rfl) (Nat.le_of_ble_eq_true rfl) (cy1) ?_
  have hPy1 := cy1.1.1
  refine Y_iload (pc := 219) (j := 3) dX12_plainly_219 rfl ?_
  refine Y_if_eq (pc := 221) (tgt := 239) dX12_plainly_221 (by decide) (fun hc1 => ?_) (fun hc1 => ?_)
  · replace h := ifT hc1 h
    cases h
    exact Y_vret (pc := 239) rfl dX12_plainly_239 hPy1 ⟨rfl, rfl⟩
  · replace h := ifF hc1 h
    refine Y_aload_n (pc := 224) (j := 0) dX12_plainly_224 rfl rfl ?_
    refine Y_bipush (pc := 225) (v := (40 : Int32)) dX12_plainly_225 rfl ?_
    refine Y_iload_n (pc := 227) (j := 1) dX12_plainly_227 rfl rfl ?_
    refine Y_imul (pc := 228) dX12_plainly_228 ?_
    refine Y_aload_n (pc := 229) (j := 0) dX12_plainly_229 rfl rfl ?_
    refine Z_getr (pc := 230) dX12_plainly_230 w8_71 (lk_69 hPy1) fr_12_5 (lr_69_5 hPy1) ?_
    refine Y_iload_n (pc := 233) (j := 2) dX12_plainly_233 rfl rfl ?_
    obtain ⟨hb1, h⟩ := okE h
    refine Y_iald (pc := 234) dX12_plainly_234 (lk_73 hPy1) (ln_73 hPy1) hb1 ?_
    refine Y_iadd (pc := 235) dX12_plainly_235 ?_
    obtain ⟨y2, qy2, h⟩ := bindE h
    have cy2 := v_X12_jumpsBack hPy1 qy2
    refine C_V1o (pc := 236) (k' := k_X12_jumpsBack) dX12_plainly_236 w10_143 i_X12_jumpsBack (lk_69 hPy1) ⟨Nat.le_of_ble_eq_true rfl, Nat.le_of_ble_eq_true rfl⟩ rfl (Nat.le_of_ble_eq_true rfl) (Nat.le_of_ble_eq_true rfl) (Nat.le_of_ble_eq_true rfl) (cy2) ?_
    have hPy2 := cy2.1.1
    cases h
    exact Y_vret (pc := 239) rfl dX12_plainly_239 hPy2 ⟨rfl, rfl⟩
noncomputable def d_X12_plainly_208 (x2 : Int32) (x3 : Int32) (x4 : Int32) (x5 : Int32) (M : Mem) : Option (Unit × Mem) :=
  (d_X12_looksUp x4 x3 M).bind fun y1 =>
  d_X12_plainly_215 x2 x3 x5 y1.2
theorem b_X12_plainly_208 {x2 : Int32} {x3 : Int32} {x4 : Int32} {x5 : Int32} {M z} (hP : Lay M) (h : d_X12_plainly_208 x2 x3 x4 x5 M = some z) : VV Lay k_X12_plainly 208 [(0, .ref 69), (2, .int x2), (3, .int x3), (4, .int x4), (5, .int x5)] [] M z.2 (Qv (none) z.2) xF := by
  unfold d_X12_plainly_208 at h
  refine Y_aload_n (pc := 208) (j := 0) dX12_plainly_208 rfl rfl ?_
  refine Y_iload (pc := 209) (j := 3) dX12_plainly_209 rfl ?_
  refine Y_iload_n (pc := 211) (j := 2) dX12_plainly_211 rfl rfl ?_
  obtain ⟨y1, qy1, h⟩ := bindE h
  have cy1 := v_X12_looksUp hP qy1
  refine C_V2o (pc := 212) (k' := k_X12_looksUp) dX12_plainly_212 w10_139 i_X12_looksUp (lk_69 hP) ⟨Nat.le_of_ble_eq_true rfl, Nat.le_of_ble_eq_true rfl⟩ rfl (Nat.le_of_ble_eq_true rfl) (Nat.le_of_ble_eq_true rfl) (Nat.le_of_ble_eq_true rfl) (cy1) ?_
  have hPy1 := cy1.1.1
  refine VV.sub [0, 1, 2, 4] rfl ?_
  exact b_X12_plainly_215  hPy1 h
noncomputable def d_X12_plainly_187 (x2 : Int32) (x3 : Int32) (x4 : Int32) (x5 : Int32) (M : Mem) : Option (Unit × Mem) :=
  if x4 = (103 : Int32) then (
    d_X12_plainly_208 x2 x3 x4 x5 M)
  else (
    if x4 = (112 : Int32) then (
      d_X12_plainly_208 x2 x3 x4 x5 M)
    else (
      if x4 = (109 : Int32) then (
        d_X12_plainly_208 x2 x3 x4 x5 M)
      else (
        d_X12_plainly_215 x2 x3 x5 M)))
theorem b_X12_plainly_187 {x2 : Int32} {x3 : Int32} {x4 : Int32} {x5 : Int32} {M z} (hP : Lay M) (h : d_X12_plainly_187 x2 x3 x4 x5 M = some z) : VV Lay k_X12_plainly 187 [(0, .ref 69), (2, .int x2), (3, .int x3), (4, .int x4), (5, .int x5)] [] M z.2 (Qv (none) z.2) xF := by
  unfold d_X12_plainly_187 at h
  refine Y_iload (pc := 187) (j := 3) dX12_plainly_187 rfl ?_
  refine Y_bipush (pc := 189) (v := (103 : Int32)) dX12_plainly_189 rfl ?_
  refine Y_icmp_eq (pc := 191) (tgt := 208) dX12_plainly_191 (by decide) (fun hc1 => ?_) (fun hc1 => ?_)
  · replace h := ifT hc1 h
    refine VV.sub [0, 1, 2, 3, 4] rfl ?_
    exact b_X12_plainly_208  hP h
  · replace h := ifF hc1 h
    refine Y_iload (pc := 194) (j := 3) dX12_plainly_194 rfl ?_
    refine Y_bipush (pc := 196) (v := (112 : Int32)) dX12_plainly_196 rfl ?_
    refine Y_icmp_eq (pc := 198) (tgt := 208) dX12_plainly_198 (by decide) (fun hc2 => ?_) (fun hc2 => ?_)
    · replace h := ifT hc2 h
      refine VV.sub [0, 1, 2, 3, 4] rfl ?_
      exact b_X12_plainly_208  hP h
    · replace h := ifF hc2 h
      refine Y_iload (pc := 201) (j := 3) dX12_plainly_201 rfl ?_
      refine Y_bipush (pc := 203) (v := (109 : Int32)) dX12_plainly_203 rfl ?_
      refine Y_icmp_ne (pc := 205) (tgt := 215) dX12_plainly_205 (by decide) (fun hc3 => ?_) (fun hc3 => ?_)
      · replace h := ifF hc3 h
        refine VV.sub [0, 1, 2, 4] rfl ?_
        exact b_X12_plainly_215  hP h
      · replace h := ifT hc3 h
        refine VV.sub [0, 1, 2, 3, 4] rfl ?_
        exact b_X12_plainly_208  hP h
noncomputable def d_X12_plainly_141 (x2 : Int32) (x3 : Int32) (x4 : Int32) (x5 : Int32) (M : Mem) : Option (Unit × Mem) :=
  if (mI M 69 71) = 0 then (
    d_X12_plainly_187 x2 x3 x4 x5 M)
  else (
    (d_X12_guards x4 M).bind fun y1 =>
    okk (vp_in (mI y1.2 69 48) 12) <|
    okk (vp_in (mI y1.2 69 76) 30) <|
    bnd (sI y1.2 118 (mI y1.2 69 76).toNatClampNeg (((100 : Int32) * x2) + (mI y1.2 110 (mI y1.2 69 48).toNatClampNeg))) fun M1 =>
    bnd (sI M1 69 76 ((mI M1 69 76) + (1 : Int32))) fun M2 =>
    d_X12_plainly_187 x2 x3 x4 x5 M2)
theorem b_X12_plainly_141 {x2 : Int32} {x3 : Int32} {x4 : Int32} {x5 : Int32} {M z} (hP : Lay M) (h : d_X12_plainly_141 x2 x3 x4 x5 M = some z) : VV Lay k_X12_plainly 141 [(0, .ref 69), (2, .int x2), (3, .int x3), (4, .int x4), (5, .int x5)] [] M z.2 (Qv (none) z.2) xF := by
  unfold d_X12_plainly_141 at h
  refine Y_aload_n (pc := 141) (j := 0) dX12_plainly_141 rfl rfl ?_
  refine Z_geti (pc := 142) dX12_plainly_142 w8_137 (lk_69 hP) fi_12_71 ?_
  refine Y_if_eq (pc := 145) (tgt := 187) dX12_plainly_145 (by decide) (fun hc1 => ?_) (fun hc1 => ?_)
  · replace h := ifT hc1 h
    refine VV.sub [0, 1, 2, 3, 4] rfl ?_
    exact b_X12_plainly_187  hP h
  · replace h := ifF hc1 h
    refine Y_aload_n (pc := 148) (j := 0) dX12_plainly_148 rfl rfl ?_
    refine Y_iload (pc := 149) (j := 3) dX12_plainly_149 rfl ?_
    obtain ⟨y1, qy1, h⟩ := bindE h
    have cy1 := v_X12_guards hP qy1
    refine C_V1o (pc := 151) (k' := k_X12_guards) dX12_plainly_151 w10_115 i_X12_guards (lk_69 hP) ⟨Nat.le_of_ble_eq_true rfl, Nat.le_of_ble_eq_true rfl⟩ rfl (Nat.le_of_ble_eq_true rfl) (Nat.le_of_ble_eq_true rfl) (Nat.le_of_ble_eq_true rfl) (cy1) ?_
    have hPy1 := cy1.1.1
    refine Y_aload_n (pc := 154) (j := 0) dX12_plainly_154 rfl rfl ?_
    refine Z_getr (pc := 155) dX12_plainly_155 w8_143 (lk_69 hPy1) fr_12_77 (lr_69_77 hPy1) ?_
    refine Y_aload_n (pc := 158) (j := 0) dX12_plainly_158 rfl rfl ?_
    refine Z_geti (pc := 159) dX12_plainly_159 w8_142 (lk_69 hPy1) fi_12_76 ?_
    refine Y_bipush (pc := 162) (v := (100 : Int32)) dX12_plainly_162 rfl ?_
    refine Y_iload_n (pc := 164) (j := 1) dX12_plainly_164 rfl rfl ?_
    refine Y_imul (pc := 165) dX12_plainly_165 ?_
    refine Y_aload_n (pc := 166) (j := 0) dX12_plainly_166 rfl rfl ?_
    refine Z_getr (pc := 167) dX12_plainly_167 w8_116 (lk_69 hPy1) fr_12_50 (lr_69_50 hPy1) ?_
    refine Y_aload_n (pc := 170) (j := 0) dX12_plainly_170 rfl rfl ?_
    refine Z_geti (pc := 171) dX12_plainly_171 w8_114 (lk_69 hPy1) fi_12_48 ?_
    obtain ⟨hb1, h⟩ := okE h
    refine Y_iald (pc := 174) dX12_plainly_174 (lk_110 hPy1) (ln_110 hPy1) hb1 ?_
    refine Y_iadd (pc := 175) dX12_plainly_175 ?_
    obtain ⟨hb2, h⟩ := okE h
    refine Y_iast (pc := 176) dX12_plainly_176 (lk_118 hPy1) (ln_118 hPy1) hb2 ?_
    obtain ⟨M1, eM1, h⟩ := bndE h
    refine VV.mem eM1 ?_
    have hP1 := hPy1.wI eM1
    refine Y_aload_n (pc := 177) (j := 0) dX12_plainly_177 rfl rfl ?_
    refine Y_dup (pc := 178) dX12_plainly_178 rfl ?_
    refine Z_geti (pc := 179) dX12_plainly_179 w8_142 (lk_69 hP1) fi_12_76 ?_
    refine Y_iconst (pc := 182) (v := (1 : Int32)) dX12_plainly_182 rfl ?_
    refine Y_iadd (pc := 183) dX12_plainly_183 ?_
    refine Z_puti (pc := 184) dX12_plainly_184 w8_142 (lk_69 hP1) fi_12_76 (Or.inl rfl) rfl ?_
    obtain ⟨M2, eM2, h⟩ := bndE h
    refine VV.mem eM2 ?_
    have hP2 := hP1.wI eM2
    refine VV.sub [0, 1, 2, 3, 4] rfl ?_
    exact b_X12_plainly_187  hP2 h
noncomputable def d_X12_plainly_117 (x2 : Int32) (x3 : Int32) (x4 : Int32) (s0 : Int32) (M : Mem) : Option (Unit × Mem) :=
  if x4 = (114 : Int32) then (
    if (mI M 69 48) = (mI M 69 75) then (
      (d_X12_breaksOff M).bind fun y1 =>
      d_X12_plainly_141 x2 x3 x4 s0 y1.2)
    else (
      d_X12_plainly_141 x2 x3 x4 s0 M))
  else (
    d_X12_plainly_141 x2 x3 x4 s0 M)
theorem b_X12_plainly_117 {x2 : Int32} {x3 : Int32} {x4 : Int32} {s0 : Int32} {M z} (hP : Lay M) (h : d_X12_plainly_117 x2 x3 x4 s0 M = some z) : VV Lay k_X12_plainly 117 [(0, .ref 69), (2, .int x2), (3, .int x3), (4, .int x4)] [.int s0] M z.2 (Qv (none) z.2) xF := by
  unfold d_X12_plainly_117 at h
  refine Y_istore (pc := 117) (lv1 := [(5, .int s0), (0, .ref 69), (2, .int x2), (3, .int x3), (4, .int x4)]) dX12_plainly_117 (by decide) rfl ?_
  refine Y_iload (pc := 119) (j := 4) dX12_plainly_119 rfl ?_
  refine Y_bipush (pc := 121) (v := (114 : Int32)) dX12_plainly_121 rfl ?_
  refine Y_icmp_ne (pc := 123) (tgt := 141) dX12_plainly_123 (by decide) (fun hc1 => ?_) (fun hc1 => ?_)
  · replace h := ifF hc1 h
    refine VV.sub [1, 2, 3, 4, 0] rfl ?_
    exact b_X12_plainly_141  hP h
  · replace h := ifT hc1 h
    refine Y_aload_n (pc := 126) (j := 1) dX12_plainly_126 rfl rfl ?_
    refine Z_geti (pc := 127) dX12_plainly_127 w8_114 (lk_69 hP) fi_12_48 ?_
    refine Y_aload_n (pc := 130) (j := 1) dX12_plainly_130 rfl rfl ?_
    refine Z_geti (pc := 131) dX12_plainly_131 w8_141 (lk_69 hP) fi_12_75 ?_
    refine Y_icmp_ne (pc := 134) (tgt := 141) dX12_plainly_134 (by decide) (fun hc2 => ?_) (fun hc2 => ?_)
    · replace h := ifF hc2 h
      refine VV.sub [1, 2, 3, 4, 0] rfl ?_
      exact b_X12_plainly_141  hP h
    · replace h := ifT hc2 h
      refine Y_aload_n (pc := 137) (j := 1) dX12_plainly_137 rfl rfl ?_
      obtain ⟨y1, qy1, h⟩ := bindE h
      have cy1 := v_X12_breaksOff hP qy1
      refine C_V0o (pc := 138) (k' := k_X12_breaksOff) dX12_plainly_138 w9_180 i_X12_breaksOff (lk_69 hP) ⟨Nat.le_of_ble_eq_true rfl, Nat.le_of_ble_eq_true rfl⟩ rfl (Nat.le_of_ble_eq_true rfl) (Nat.le_of_ble_eq_true rfl) (Nat.le_of_ble_eq_true rfl) (cy1) ?_
      have hPy1 := cy1.1.1
      refine VV.sub [1, 2, 3, 4, 0] rfl ?_
      exact b_X12_plainly_141  hPy1 h
noncomputable def d_X12_plainly_116 (x2 : Int32) (x3 : Int32) (x4 : Int32) (M : Mem) : Option (Unit × Mem) :=
  d_X12_plainly_117 x2 x3 x4 (0 : Int32) M
theorem b_X12_plainly_116 {x2 : Int32} {x3 : Int32} {x4 : Int32} {M z} (hP : Lay M) (h : d_X12_plainly_116 x2 x3 x4 M = some z) : VV Lay k_X12_plainly 116 [(0, .ref 69), (2, .int x2), (3, .int x3), (4, .int x4)] [] M z.2 (Qv (none) z.2) xF := by
  unfold d_X12_plainly_116 at h
  refine Y_iconst (pc := 116) (v := (0 : Int32)) dX12_plainly_116 rfl ?_
  refine VV.sub [0, 1, 2, 3] rfl ?_
  exact b_X12_plainly_117  hP h
noncomputable def d_X12_plainly_94 (x2 : Int32) (x3 : Int32) (x4 : Int32) (M : Mem) : Option (Unit × Mem) :=
  okk (vp_in x3 320) <|
  okk (vp_in (mI M 69 48) 12) <|
  if (mI M 110 (mI M 69 48).toNatClampNeg) < (mI M 73 x3.toNatClampNeg) then (
    d_X12_plainly_116 x2 x3 x4 M)
  else (
    d_X12_plainly_117 x2 x3 x4 (1 : Int32) M)
theorem b_X12_plainly_94 {x2 : Int32} {x3 : Int32} {x4 : Int32} {M z} (hP : Lay M) (h : d_X12_plainly_94 x2 x3 x4 M = some z) : VV Lay k_X12_plainly 94 [(0, .ref 69), (2, .int x2), (3, .int x3), (4, .int x4)] [] M z.2 (Qv (none) z.2) xF := by
  unfold d_X12_plainly_94 at h
  refine Y_aload_n (pc := 94) (j := 0) dX12_plainly_94 rfl rfl ?_
  refine Z_getr (pc := 95) dX12_plainly_95 w8_71 (lk_69 hP) fr_12_5 (lr_69_5 hP) ?_
  refine Y_iload_n (pc := 98) (j := 2) dX12_plainly_98 rfl rfl ?_
  obtain ⟨hb1, h⟩ := okE h
  refine Y_iald (pc := 99) dX12_plainly_99 (lk_73 hP) (ln_73 hP) hb1 ?_
  refine Y_aload_n (pc := 100) (j := 0) dX12_plainly_100 rfl rfl ?_
  refine Z_getr (pc := 101) dX12_plainly_101 w8_116 (lk_69 hP) fr_12_50 (lr_69_50 hP) ?_
  refine Y_aload_n (pc := 104) (j := 0) dX12_plainly_104 rfl rfl ?_
  refine Z_geti (pc := 105) dX12_plainly_105 w8_114 (lk_69 hP) fi_12_48 ?_
  obtain ⟨hb2, h⟩ := okE h
  refine Y_iald (pc := 108) dX12_plainly_108 (lk_110 hP) (ln_110 hP) hb2 ?_
  refine Y_icmp_gt (pc := 109) (tgt := 116) dX12_plainly_109 (by decide) (fun hc1 => ?_) (fun hc1 => ?_)
  · replace h := ifT hc1 h
    refine VV.sub [0, 1, 2, 3] rfl ?_
    exact b_X12_plainly_116  hP h
  · replace h := ifF hc1 h
    refine Y_iconst (pc := 112) (v := (1 : Int32)) dX12_plainly_112 rfl ?_
    refine Y_goto (pc := 113) (tgt := 117) dX12_plainly_113 (by decide) ?_
    refine VV.sub [0, 1, 2, 3] rfl ?_
    exact b_X12_plainly_117  hP h
noncomputable def d_X12_plainly_20 (M : Mem) : Option (Unit × Mem) :=
  (d_X12_why M).bind fun y1 =>
  if y1.1 = 0 then (
    okk (vp_in (mI y1.2 69 48) 12) <|
    bnd ((mI y1.2 109 (mI y1.2 69 48).toNatClampNeg)) fun b1 =>
    okk (vp_in (mI y1.2 69 48) 12) <|
    bnd ((((40 : Int32) * b1) + (mI y1.2 110 (mI y1.2 69 48).toNatClampNeg))) fun b2 =>
    okk (vp_in b2 320) <|
    bnd ((mI y1.2 72 b2.toNatClampNeg)) fun b3 =>
    if b3 = (106 : Int32) then (
      d_X12_plainly_94 b1 b2 b3 y1.2)
    else (
      if b3 = (122 : Int32) then (
        (d_X12_top (0 : Int32) y1.2).bind fun y2 =>
        (d_X12_isNull y2.1 y2.2).bind fun y3 =>
        if y3.1 = 0 then (
          d_X12_plainly_116 b1 b2 b3 y3.2)
        else (
          d_X12_plainly_94 b1 b2 b3 y3.2))
      else (
        d_X12_plainly_116 b1 b2 b3 y1.2)))
  else (
    (d_X12_failsBy y1.1 y1.2).bind fun y4 =>
    some ((), y4.2))
theorem b_X12_plainly_20 {M z} (hP : Lay M) (h : d_X12_plainly_20 M = some z) : VV Lay k_X12_plainly 20 [(0, .ref 69)] [] M z.2 (Qv (none) z.2) xF := by
  unfold d_X12_plainly_20 at h
  refine Y_aload_n (pc := 20) (j := 0) dX12_plainly_20 rfl rfl ?_
  obtain ⟨y1, qy1, h⟩ := bindE h
  have cy1 := v_X12_why hP qy1
  refine C_V0r (pc := 21) (k' := k_X12_why) dX12_plainly_21 w9_188 i_X12_why (lk_69 hP) ⟨Nat.le_of_ble_eq_true rfl, Nat.le_of_ble_eq_true rfl⟩ rfl (Nat.le_of_ble_eq_true rfl) (Nat.le_of_ble_eq_true rfl) (Nat.le_of_ble_eq_true rfl) (cy1) ?_
  have hPy1 := cy1.1.1
  refine Y_istore_n (pc := 24) (lv1 := [(1, .int y1.1), (0, .ref 69)]) dX12_plainly_24 rfl (by decide) rfl ?_
  refine Y_iload_n (pc := 25) (j := 0) dX12_plainly_25 rfl rfl ?_
  refine Y_if_eq (pc := 26) (tgt := 35) dX12_plainly_26 (by decide) (fun hc1 => ?_) (fun hc1 => ?_)
  · replace h := ifT hc1 h
    refine Y_aload_n (pc := 35) (j := 1) dX12_plainly_35 rfl rfl ?_
    refine Z_getr (pc := 36) dX12_plainly_36 w8_115 (lk_69 hPy1) fr_12_49 (lr_69_49 hPy1) ?_
    refine Y_aload_n (pc := 39) (j := 1) dX12_plainly_39 rfl rfl ?_
    refine Z_geti (pc := 40) dX12_plainly_40 w8_114 (lk_69 hPy1) fi_12_48 ?_
    obtain ⟨hb1, h⟩ := okE h
    refine Y_iald (pc := 43) dX12_plainly_43 (lk_109 hPy1) (ln_109 hPy1) hb1 ?_
    obtain ⟨b1, eb1, h⟩ := bndE h
    refine VV.topI eb1 ?_
    refine Y_istore_n (pc := 44) (lv1 := [(2, .int b1), (1, .int y1.1), (0, .ref 69)]) dX12_plainly_44 rfl (by decide) rfl ?_
    refine Y_bipush (pc := 45) (v := (40 : Int32)) dX12_plainly_45 rfl ?_
    refine Y_iload_n (pc := 47) (j := 0) dX12_plainly_47 rfl rfl ?_
    refine Y_imul (pc := 48) dX12_plainly_48 ?_
    refine Y_aload_n (pc := 49) (j := 2) dX12_plainly_49 rfl rfl ?_
    refine Z_getr (pc := 50) dX12_plainly_50 w8_116 (lk_69 hPy1) fr_12_50 (lr_69_50 hPy1) ?_
    refine Y_aload_n (pc := 53) (j := 2) dX12_plainly_53 rfl rfl ?_
    refine Z_geti (pc := 54) dX12_plainly_54 w8_114 (lk_69 hPy1) fi_12_48 ?_
    obtain ⟨hb2, h⟩ := okE h
    refine Y_iald (pc := 57) dX12_plainly_57 (lk_110 hPy1) (ln_110 hPy1) hb2 ?_
    refine Y_iadd (pc := 58) dX12_plainly_58 ?_
    obtain ⟨b2, eb2, h⟩ := bndE h
    refine VV.topI eb2 ?_
    refine Y_istore_n (pc := 59) (lv1 := [(3, .int b2), (2, .int b1), (1, .int y1.1), (0, .ref 69)]) dX12_plainly_59 rfl (by decide) rfl ?_
    refine Y_aload_n (pc := 60) (j := 3) dX12_plainly_60 rfl rfl ?_
    refine Z_getr (pc := 61) dX12_plainly_61 w8_70 (lk_69 hPy1) fr_12_4 (lr_69_4 hPy1) ?_
    refine Y_iload_n (pc := 64) (j := 0) dX12_plainly_64 rfl rfl ?_
    obtain ⟨hb3, h⟩ := okE h
    refine Y_cald (pc := 65) dX12_plainly_65 (lk_72 hPy1) (ln_72 hPy1) hb3 ?_
    obtain ⟨b3, eb3, h⟩ := bndE h
    refine VV.topI eb3 ?_
    refine Y_istore (pc := 66) (lv1 := [(4, .int b3), (3, .int b2), (2, .int b1), (1, .int y1.1), (0, .ref 69)]) dX12_plainly_66 (by decide) rfl ?_
    refine Y_iload (pc := 68) (j := 0) dX12_plainly_68 rfl ?_
    refine Y_bipush (pc := 70) (v := (106 : Int32)) dX12_plainly_70 rfl ?_
    refine Y_icmp_eq (pc := 72) (tgt := 94) dX12_plainly_72 (by decide) (fun hc2 => ?_) (fun hc2 => ?_)
    · replace h := ifT hc2 h
      refine VV.sub [4, 2, 1, 0] rfl ?_
      exact b_X12_plainly_94  hPy1 h
    · replace h := ifF hc2 h
      refine Y_iload (pc := 75) (j := 0) dX12_plainly_75 rfl ?_
      refine Y_bipush (pc := 77) (v := (122 : Int32)) dX12_plainly_77 rfl ?_
      refine Y_icmp_ne (pc := 79) (tgt := 116) dX12_plainly_79 (by decide) (fun hc3 => ?_) (fun hc3 => ?_)
      · replace h := ifF hc3 h
        refine VV.sub [4, 2, 1, 0] rfl ?_
        exact b_X12_plainly_116  hPy1 h
      · replace h := ifT hc3 h
        refine Y_aload_n (pc := 82) (j := 4) dX12_plainly_82 rfl rfl ?_
        refine Y_aload_n (pc := 83) (j := 4) dX12_plainly_83 rfl rfl ?_
        refine Y_iconst (pc := 84) (v := (0 : Int32)) dX12_plainly_84 rfl ?_
        obtain ⟨y2, qy2, h⟩ := bindE h
        have cy2 := v_X12_top hPy1 qy2
        refine C_V1r (pc := 85) (k' := k_X12_top) dX12_plainly_85 w9_200 i_X12_top (lk_69 hPy1) ⟨Nat.le_of_ble_eq_true rfl, Nat.le_of_ble_eq_true rfl⟩ rfl (Nat.le_of_ble_eq_true rfl) (Nat.le_of_ble_eq_true rfl) (Nat.le_of_ble_eq_true rfl) (cy2) ?_
        have hPy2 := cy2.1.1
        obtain ⟨y3, qy3, h⟩ := bindE h
        have cy3 := v_X12_isNull hPy2 qy3
        refine C_V1r (pc := 88) (k' := k_X12_isNull) dX12_plainly_88 w10_5 i_X12_isNull (lk_69 hPy2) ⟨Nat.le_of_ble_eq_true rfl, Nat.le_of_ble_eq_true rfl⟩ rfl (Nat.le_of_ble_eq_true rfl) (Nat.le_of_ble_eq_true rfl) (Nat.le_of_ble_eq_true rfl) (cy3) ?_
        have hPy3 := cy3.1.1
        refine Y_if_eq (pc := 91) (tgt := 116) dX12_plainly_91 (by decide) (fun hc4 => ?_) (fun hc4 => ?_)
        · replace h := ifT hc4 h
          refine VV.sub [4, 2, 1, 0] rfl ?_
          exact b_X12_plainly_116  hPy3 h
        · replace h := ifF hc4 h
          refine VV.sub [4, 2, 1, 0] rfl ?_
          exact b_X12_plainly_94  hPy3 h
  · replace h := ifF hc1 h
    refine Y_aload_n (pc := 29) (j := 1) dX12_plainly_29 rfl rfl ?_
    refine Y_iload_n (pc := 30) (j := 0) dX12_plainly_30 rfl rfl ?_
    obtain ⟨y4, qy4, h⟩ := bindE h
    have cy4 := v_X12_failsBy hPy1 qy4
    refine C_V1o (pc := 31) (k' := k_X12_failsBy) dX12_plainly_31 w10_111 i_X12_failsBy (lk_69 hPy1) ⟨Nat.le_of_ble_eq_true rfl, Nat.le_of_ble_eq_true rfl⟩ rfl (Nat.le_of_ble_eq_true rfl) (Nat.le_of_ble_eq_true rfl) (Nat.le_of_ble_eq_true rfl) (cy4) ?_
    have hPy4 := cy4.1.1
    cases h
    exact Y_vret (pc := 34) rfl dX12_plainly_34 hPy4 ⟨rfl, rfl⟩
noncomputable def d_X12_plainly (M : Mem) : Option (Unit × Mem) :=
  if (mI M 69 71) = 0 then (
    d_X12_plainly_20 M)
  else (
    if (mI M 69 76) = (30 : Int32) then (
      (d_X12_breaksOff M).bind fun y1 =>
      d_X12_plainly_20 y1.2)
    else (
      d_X12_plainly_20 M))
theorem b_X12_plainly {M z} (hP : Lay M) (h : d_X12_plainly M = some z) : VV Lay k_X12_plainly 0 [(0, .ref 69)] [] M z.2 (Qv (none) z.2) xF := by
  unfold d_X12_plainly at h
  refine Y_aload_n (pc := 0) (j := 0) dX12_plainly_0 rfl rfl ?_
  refine Z_geti (pc := 1) dX12_plainly_1 w8_137 (lk_69 hP) fi_12_71 ?_
  refine Y_if_eq (pc := 4) (tgt := 20) dX12_plainly_4 (by decide) (fun hc1 => ?_) (fun hc1 => ?_)
  · replace h := ifT hc1 h
    refine VV.sub [0] rfl ?_
    exact b_X12_plainly_20  hP h
  · replace h := ifF hc1 h
    refine Y_aload_n (pc := 7) (j := 0) dX12_plainly_7 rfl rfl ?_
    refine Z_geti (pc := 8) dX12_plainly_8 w8_142 (lk_69 hP) fi_12_76 ?_
    refine Y_bipush (pc := 11) (v := (30 : Int32)) dX12_plainly_11 rfl ?_
    refine Y_icmp_ne (pc := 13) (tgt := 20) dX12_plainly_13 (by decide) (fun hc2 => ?_) (fun hc2 => ?_)
    · replace h := ifF hc2 h
      refine VV.sub [0] rfl ?_
      exact b_X12_plainly_20  hP h
    · replace h := ifT hc2 h
      refine Y_aload_n (pc := 16) (j := 0) dX12_plainly_16 rfl rfl ?_
      obtain ⟨y1, qy1, h⟩ := bindE h
      have cy1 := v_X12_breaksOff hP qy1
      refine C_V0o (pc := 17) (k' := k_X12_breaksOff) dX12_plainly_17 w9_180 i_X12_breaksOff (lk_69 hP) ⟨Nat.le_of_ble_eq_true rfl, Nat.le_of_ble_eq_true rfl⟩ rfl (Nat.le_of_ble_eq_true rfl) (Nat.le_of_ble_eq_true rfl) (Nat.le_of_ble_eq_true rfl) (cy1) ?_
      have hPy1 := cy1.1.1
      refine VV.sub [0] rfl ?_
      exact b_X12_plainly_20  hPy1 h
theorem v_X12_plainly {M z} (hP : Lay M) (h : d_X12_plainly M = some z) : CC Lay k_X12_plainly [.ref 69] M z.2 (Qv (none) z.2) xF :=
  CC.ofVV (by decide) rfl (Nat.le_of_ble_eq_true rfl) (b_X12_plainly hP h)
noncomputable def d_X12_leavesBy (x1 : Int32) (M : Mem) : Option (Unit × Mem) :=
  okk (vp_in x1 2400) <|
  okk (vp_in x1 2400) <|
  bnd (sI M 101 x1.toNatClampNeg ((mI M 101 x1.toNatClampNeg) + (1 : Int32))) fun M1 =>
  okk (vp_in x1 2400) <|
  bnd ((mI M1 104 x1.toNatClampNeg)) fun b1 =>
  if b1 = (-1 : Int32) then (
    okk (vp_in (mI M1 69 68) 20) <|
    bnd ((mI M1 93 (mI M1 69 68).toNatClampNeg)) fun b2 =>
    bnd (sI M1 69 68 (-1 : Int32)) fun M2 =>
    okk (vp_in x1 2400) <|
    okk (vp_in x1 2400) <|
    bnd (sI M2 102 x1.toNatClampNeg ((mI M2 102 x1.toNatClampNeg) + (1 : Int32))) fun M3 =>
    okk (vp_in x1 2400) <|
    if (mI M3 102 x1.toNatClampNeg) < (mI M3 69 24) then (
      some ((), M3))
    else (
      okk (vp_in x1 2400) <|
      if (2 : Int32) ≤ (mI M3 103 x1.toNatClampNeg) then (
        some ((), M3))
      else (
        okk (vp_in b2 20) <|
        (d_X12_records b2 x1 (mI M3 94 b2.toNatClampNeg) (mI M3 69 70) M3).bind fun y1 =>
        some ((), y1.2))))
  else (
    bnd (sI M1 69 68 b1) fun M4 =>
    bnd (sI M4 69 69 (0 : Int32)) fun M5 =>
    okk (vp_in b1 20) <|
    okk (vp_in b1 20) <|
    bnd (sI M5 95 b1.toNatClampNeg ((mI M5 95 b1.toNatClampNeg) + (1 : Int32))) fun M6 =>
    some ((), M6))
theorem b_X12_leavesBy {x1 : Int32} {M z} (hP : Lay M) (h : d_X12_leavesBy x1 M = some z) : VV Lay k_X12_leavesBy 0 [(0, .ref 69), (1, .int x1)] [] M z.2 (Qv (none) z.2) xF := by
  unfold d_X12_leavesBy at h
  refine Y_aload_n (pc := 0) (j := 0) dX12_leavesBy_0 rfl rfl ?_
  refine Z_getr (pc := 1) dX12_leavesBy_1 w8_106 (lk_69 hP) fr_12_40 (lr_69_40 hP) ?_
  refine Y_iload_n (pc := 4) (j := 1) dX12_leavesBy_4 rfl rfl ?_
  refine Y_dup2 (pc := 5) dX12_leavesBy_5 rfl rfl ?_
  obtain ⟨hb1, h⟩ := okE h
  refine Y_iald (pc := 6) dX12_leavesBy_6 (lk_101 hP) (ln_101 hP) hb1 ?_
  refine Y_iconst (pc := 7) (v := (1 : Int32)) dX12_leavesBy_7 rfl ?_
  refine Y_iadd (pc := 8) dX12_leavesBy_8 ?_
  obtain ⟨hb2, h⟩ := okE h
  refine Y_iast (pc := 9) dX12_leavesBy_9 (lk_101 hP) (ln_101 hP) hb2 ?_
  obtain ⟨M1, eM1, h⟩ := bndE h
  refine VV.mem eM1 ?_
  have hP1 := hP.wI eM1
  refine Y_aload_n (pc := 10) (j := 0) dX12_leavesBy_10 rfl rfl ?_
  refine Z_getr (pc := 11) dX12_leavesBy_11 w8_109 (lk_69 hP1) fr_12_43 (lr_69_43 hP1) ?_
  refine Y_iload_n (pc := 14) (j := 1) dX12_leavesBy_14 rfl rfl ?_
  obtain ⟨hb3, h⟩ := okE h
  refine Y_iald (pc := 15) dX12_leavesBy_15 (lk_104 hP1) (ln_104 hP1) hb3 ?_
  obtain ⟨b1, eb1, h⟩ := bndE h
  refine VV.topI eb1 ?_
  refine Y_istore_n (pc := 16) (lv1 := [(2, .int b1), (0, .ref 69), (1, .int x1)]) dX12_leavesBy_16 rfl (by decide) rfl ?_
  refine Y_iload_n (pc := 17) (j := 0) dX12_leavesBy_17 rfl rfl ?_
  refine Y_iconst (pc := 18) (v := (-1 : Int32)) dX12_leavesBy_18 rfl ?_
  refine Y_icmp_eq (pc := 19) (tgt := 43) dX12_leavesBy_19 (by decide) (fun hc1 => ?_) (fun hc1 => ?_)
  · replace h := ifT hc1 h
    refine Y_aload_n (pc := 43) (j := 1) dX12_leavesBy_43 rfl rfl ?_
    refine Z_getr (pc := 44) dX12_leavesBy_44 w8_97 (lk_69 hP1) fr_12_31 (lr_69_31 hP1) ?_
    refine Y_aload_n (pc := 47) (j := 1) dX12_leavesBy_47 rfl rfl ?_
    refine Z_geti (pc := 48) dX12_leavesBy_48 w8_134 (lk_69 hP1) fi_12_68 ?_
    obtain ⟨hb4, h⟩ := okE h
    refine Y_iald (pc := 51) dX12_leavesBy_51 (lk_93 hP1) (ln_93 hP1) hb4 ?_
    obtain ⟨b2, eb2, h⟩ := bndE h
    refine VV.topI eb2 ?_
    refine Y_istore_n (pc := 52) (lv1 := [(3, .int b2), (2, .int b1), (0, .ref 69), (1, .int x1)]) dX12_leavesBy_52 rfl (by decide) rfl ?_
    refine Y_aload_n (pc := 53) (j := 2) dX12_leavesBy_53 rfl rfl ?_
    refine Y_iconst (pc := 54) (v := (-1 : Int32)) dX12_leavesBy_54 rfl ?_
    refine Z_puti (pc := 55) dX12_leavesBy_55 w8_134 (lk_69 hP1) fi_12_68 (Or.inl rfl) rfl ?_
    obtain ⟨M2, eM2, h⟩ := bndE h
    refine VV.mem eM2 ?_
    have hP2 := hP1.wI eM2
    refine Y_aload_n (pc := 58) (j := 2) dX12_leavesBy_58 rfl rfl ?_
    refine Z_getr (pc := 59) dX12_leavesBy_59 w8_107 (lk_69 hP2) fr_12_41 (lr_69_41 hP2) ?_
    refine Y_iload_n (pc := 62) (j := 3) dX12_leavesBy_62 rfl rfl ?_
    refine Y_dup2 (pc := 63) dX12_leavesBy_63 rfl rfl ?_
    obtain ⟨hb5, h⟩ := okE h
    refine Y_iald (pc := 64) dX12_leavesBy_64 (lk_102 hP2) (ln_102 hP2) hb5 ?_
    refine Y_iconst (pc := 65) (v := (1 : Int32)) dX12_leavesBy_65 rfl ?_
    refine Y_iadd (pc := 66) dX12_leavesBy_66 ?_
    obtain ⟨hb6, h⟩ := okE h
    refine Y_iast (pc := 67) dX12_leavesBy_67 (lk_102 hP2) (ln_102 hP2) hb6 ?_
    obtain ⟨M3, eM3, h⟩ := bndE h
    refine VV.mem eM3 ?_
    have hP3 := hP2.wI eM3
    refine Y_aload_n (pc := 68) (j := 2) dX12_leavesBy_68 rfl rfl ?_
    refine Z_getr (pc := 69) dX12_leavesBy_69 w8_107 (lk_69 hP3) fr_12_41 (lr_69_41 hP3) ?_
    refine Y_iload_n (pc := 72) (j := 3) dX12_leavesBy_72 rfl rfl ?_
    obtain ⟨hb7, h⟩ := okE h
    refine Y_iald (pc := 73) dX12_leavesBy_73 (lk_102 hP3) (ln_102 hP3) hb7 ?_
    refine Y_aload_n (pc := 74) (j := 2) dX12_leavesBy_74 rfl rfl ?_
    refine Z_geti (pc := 75) dX12_leavesBy_75 w8_90 (lk_69 hP3) fi_12_24 ?_
    refine Y_icmp_lt (pc := 78) (tgt := 107) dX12_leavesBy_78 (by decide) (fun hc2 => ?_) (fun hc2 => ?_)
    · replace h := ifT hc2 h
      cases h
      exact Y_vret (pc := 107) rfl dX12_leavesBy_107 hP3 ⟨rfl, rfl⟩
    · replace h := ifF hc2 h
      refine Y_aload_n (pc := 81) (j := 2) dX12_leavesBy_81 rfl rfl ?_
      refine Z_getr (pc := 82) dX12_leavesBy_82 w8_108 (lk_69 hP3) fr_12_42 (lr_69_42 hP3) ?_
      refine Y_iload_n (pc := 85) (j := 3) dX12_leavesBy_85 rfl rfl ?_
      obtain ⟨hb8, h⟩ := okE h
      refine Y_iald (pc := 86) dX12_leavesBy_86 (lk_103 hP3) (ln_103 hP3) hb8 ?_
      refine Y_iconst (pc := 87) (v := (2 : Int32)) dX12_leavesBy_87 rfl ?_
      refine Y_icmp_ge (pc := 88) (tgt := 107) dX12_leavesBy_88 (by decide) (fun hc3 => ?_) (fun hc3 => ?_)
      · replace h := ifT hc3 h
        cases h
        exact Y_vret (pc := 107) rfl dX12_leavesBy_107 hP3 ⟨rfl, rfl⟩
      · replace h := ifF hc3 h
        refine Y_aload_n (pc := 91) (j := 2) dX12_leavesBy_91 rfl rfl ?_
        refine Y_iload_n (pc := 92) (j := 0) dX12_leavesBy_92 rfl rfl ?_
        refine Y_iload_n (pc := 93) (j := 3) dX12_leavesBy_93 rfl rfl ?_
        refine Y_aload_n (pc := 94) (j := 2) dX12_leavesBy_94 rfl rfl ?_
        refine Z_getr (pc := 95) dX12_leavesBy_95 w8_98 (lk_69 hP3) fr_12_32 (lr_69_32 hP3) ?_
        refine Y_iload_n (pc := 98) (j := 0) dX12_leavesBy_98 rfl rfl ?_
        obtain ⟨hb9, h⟩ := okE h
        refine Y_iald (pc := 99) dX12_leavesBy_99 (lk_94 hP3) (ln_94 hP3) hb9 ?_
        refine Y_aload_n (pc := 100) (j := 2) dX12_leavesBy_100 rfl rfl ?_
        refine Z_geti (pc := 101) dX12_leavesBy_101 w8_136 (lk_69 hP3) fi_12_70 ?_
        obtain ⟨y1, qy1, h⟩ := bindE h
        have cy1 := v_X12_records hP3 qy1
        refine C_V4o (pc := 104) (k' := k_X12_records) dX12_leavesBy_104 w10_31 i_X12_records (lk_69 hP3) ⟨Nat.le_of_ble_eq_true rfl, Nat.le_of_ble_eq_true rfl⟩ rfl (Nat.le_of_ble_eq_true rfl) (Nat.le_of_ble_eq_true rfl) (Nat.le_of_ble_eq_true rfl) (cy1) ?_
        have hPy1 := cy1.1.1
        cases h
        exact Y_vret (pc := 107) rfl dX12_leavesBy_107 hPy1 ⟨rfl, rfl⟩
  · replace h := ifF hc1 h
    refine Y_aload_n (pc := 22) (j := 1) dX12_leavesBy_22 rfl rfl ?_
    refine Y_iload_n (pc := 23) (j := 0) dX12_leavesBy_23 rfl rfl ?_
    refine Z_puti (pc := 24) dX12_leavesBy_24 w8_134 (lk_69 hP1) fi_12_68 (Or.inl rfl) rfl ?_
    obtain ⟨M4, eM4, h⟩ := bndE h
    refine VV.mem eM4 ?_
    have hP4 := hP1.wI eM4
    refine Y_aload_n (pc := 27) (j := 1) dX12_leavesBy_27 rfl rfl ?_
    refine Y_iconst (pc := 28) (v := (0 : Int32)) dX12_leavesBy_28 rfl ?_
    refine Z_puti (pc := 29) dX12_leavesBy_29 w8_135 (lk_69 hP4) fi_12_69 (Or.inl rfl) rfl ?_
    obtain ⟨M5, eM5, h⟩ := bndE h
    refine VV.mem eM5 ?_
    have hP5 := hP4.wI eM5
    refine Y_aload_n (pc := 32) (j := 1) dX12_leavesBy_32 rfl rfl ?_
    refine Z_getr (pc := 33) dX12_leavesBy_33 w8_99 (lk_69 hP5) fr_12_33 (lr_69_33 hP5) ?_
    refine Y_iload_n (pc := 36) (j := 0) dX12_leavesBy_36 rfl rfl ?_
    refine Y_dup2 (pc := 37) dX12_leavesBy_37 rfl rfl ?_
    obtain ⟨hb10, h⟩ := okE h
    refine Y_iald (pc := 38) dX12_leavesBy_38 (lk_95 hP5) (ln_95 hP5) hb10 ?_
    refine Y_iconst (pc := 39) (v := (1 : Int32)) dX12_leavesBy_39 rfl ?_
    refine Y_iadd (pc := 40) dX12_leavesBy_40 ?_
    obtain ⟨hb11, h⟩ := okE h
    refine Y_iast (pc := 41) dX12_leavesBy_41 (lk_95 hP5) (ln_95 hP5) hb11 ?_
    obtain ⟨M6, eM6, h⟩ := bndE h
    refine VV.mem eM6 ?_
    have hP6 := hP5.wI eM6
    cases h
    exact Y_vret (pc := 42) rfl dX12_leavesBy_42 hP6 ⟨rfl, rfl⟩
theorem v_X12_leavesBy {x1 : Int32} {M z} (hP : Lay M) (h : d_X12_leavesBy x1 M = some z) : CC Lay k_X12_leavesBy [.ref 69, .int x1] M z.2 (Qv (none) z.2) xF :=
  CC.ofVV (by decide) rfl (Nat.le_of_ble_eq_true rfl) (b_X12_leavesBy hP h)
noncomputable def d_X12_inTrace_65 (k15 : (Int32) → Mem → Option (Unit × Mem)) (x1 : Int32) (M : Mem) : Option (Unit × Mem) :=
  bnd ((x1 + (1 : Int32))) fun b1 =>
  k15 (b1) M
theorem b_X12_inTrace_65 {k15 : (Int32) → Mem → Option (Unit × Mem)} {x1 : Int32} {M z} (hk15 : ∀ (a : (Int32)) (M : Mem) (z : Unit × Mem), Lay M → k15 a M = some z → VV Lay k_X12_inTrace 15 [(0, .ref 69), (1, .int a)] [] M z.2 (Qv (none) z.2) xF) (hP : Lay M) (h : d_X12_inTrace_65 k15 x1 M = some z) : VV Lay k_X12_inTrace 65 [(0, .ref 69), (1, .int x1)] [] M z.2 (Qv (none) z.2) xF := by
  unfold d_X12_inTrace_65 at h
  obtain ⟨b1, eb1, h⟩ := bndE h
  refine Y_iinc (pc := 65) (j := 1) (v := b1) (lv1 := [(1, .int b1), (0, .ref 69)]) dX12_inTrace_65 rfl eb1.symm (by decide) rfl ?_
  refine Y_goto (pc := 68) (tgt := 15) dX12_inTrace_68 (by decide) ?_
  refine VV.sub [1, 0] rfl ?_
  exact hk15 _ _ _ hP h
noncomputable def d_X12_inTrace_15b (k15 : (Int32) → Mem → Option (Unit × Mem)) (x1 : Int32) (M : Mem) : Option (Unit × Mem) :=
  okk (vp_in (mI M 69 68) 20) <|
  if (mI M 92 (mI M 69 68).toNatClampNeg) ≤ x1 then (
    (d_X12_executes M).bind fun y1 =>
    bnd (sI y1.2 69 58 ((mI y1.2 69 58) + (1 : Int32))) fun M1 =>
    bnd (sI M1 69 69 ((mI M1 69 69) + (1 : Int32))) fun M2 =>
    okk (vp_in (mI M2 69 68) 20) <|
    if (mI M2 69 69) = (mI M2 90 (mI M2 69 68).toNatClampNeg) then (
      okk (vp_in (mI M2 69 68) 20) <|
      (d_X12_enters (mI M2 93 (mI M2 69 68).toNatClampNeg) M2).bind fun y2 =>
      some ((), y2.2))
    else (
      some ((), M2)))
  else (
    bnd ((((120 : Int32) * (mI M 69 68)) + x1)) fun b1 =>
    okk (vp_in b1 2400) <|
    if (mI M 98 b1.toNatClampNeg) = (mI M 69 69) then (
      (d_X12_holds b1 M).bind fun y3 =>
      if y3.1 = 0 then (
        (d_X12_leavesBy b1 y3.2).bind fun y4 =>
        some ((), y4.2))
      else (
        d_X12_inTrace_65 k15 x1 y3.2))
    else (
      d_X12_inTrace_65 k15 x1 M))
theorem b_X12_inTrace_15b {k15 : (Int32) → Mem → Option (Unit × Mem)} {x1 : Int32} {M z} (hk15 : ∀ (a : (Int32)) (M : Mem) (z : Unit × Mem), Lay M → k15 a M = some z → VV Lay k_X12_inTrace 15 [(0, .ref 69), (1, .int a)] [] M z.2 (Qv (none) z.2) xF) (hP : Lay M) (h : d_X12_inTrace_15b k15 x1 M = some z) : VV Lay k_X12_inTrace 15 [(0, .ref 69), (1, .int x1)] [] M z.2 (Qv (none) z.2) xF := by
  unfold d_X12_inTrace_15b at h
  refine Y_iload_n (pc := 15) (j := 1) dX12_inTrace_15 rfl rfl ?_
  refine Y_aload_n (pc := 16) (j := 0) dX12_inTrace_16 rfl rfl ?_
  refine Z_getr (pc := 17) dX12_inTrace_17 w8_96 (lk_69 hP) fr_12_30 (lr_69_30 hP) ?_
  refine Y_aload_n (pc := 20) (j := 0) dX12_inTrace_20 rfl rfl ?_
  refine Z_geti (pc := 21) dX12_inTrace_21 w8_134 (lk_69 hP) fi_12_68 ?_
  obtain ⟨hb1, h⟩ := okE h
  refine Y_iald (pc := 24) dX12_inTrace_24 (lk_92 hP) (ln_92 hP) hb1 ?_
  refine Y_icmp_ge (pc := 25) (tgt := 71) dX12_inTrace_25 (by decide) (fun hc1 => ?_) (fun hc1 => ?_)
  · replace h := ifT hc1 h
    refine Y_aload_n (pc := 71) (j := 0) dX12_inTrace_71 rfl rfl ?_
    obtain ⟨y1, qy1, h⟩ := bindE h
    have cy1 := v_X12_executes hP qy1
    refine C_V0o (pc := 72) (k' := k_X12_executes) dX12_inTrace_72 w10_39 i_X12_executes (lk_69 hP) ⟨Nat.le_of_ble_eq_true rfl, Nat.le_of_ble_eq_true rfl⟩ rfl (Nat.le_of_ble_eq_true rfl) (Nat.le_of_ble_eq_true rfl) (Nat.le_of_ble_eq_true rfl) (cy1) ?_
    have hPy1 := cy1.1.1
    refine Y_aload_n (pc := 75) (j := 0) dX12_inTrace_75 rfl rfl ?_
    refine Y_dup (pc := 76) dX12_inTrace_76 rfl ?_
    refine Z_geti (pc := 77) dX12_inTrace_77 w8_124 (lk_69 hPy1) fi_12_58 ?_
    refine Y_iconst (pc := 80) (v := (1 : Int32)) dX12_inTrace_80 rfl ?_
    refine Y_iadd (pc := 81) dX12_inTrace_81 ?_
    refine Z_puti (pc := 82) dX12_inTrace_82 w8_124 (lk_69 hPy1) fi_12_58 (Or.inl rfl) rfl ?_
    obtain ⟨M1, eM1, h⟩ := bndE h
    refine VV.mem eM1 ?_
    have hP1 := hPy1.wI eM1
    refine Y_aload_n (pc := 85) (j := 0) dX12_inTrace_85 rfl rfl ?_
    refine Y_dup (pc := 86) dX12_inTrace_86 rfl ?_
    refine Z_geti (pc := 87) dX12_inTrace_87 w8_135 (lk_69 hP1) fi_12_69 ?_
    refine Y_iconst (pc := 90) (v := (1 : Int32)) dX12_inTrace_90 rfl ?_
    refine Y_iadd (pc := 91) dX12_inTrace_91 ?_
    refine Z_puti (pc := 92) dX12_inTrace_92 w8_135 (lk_69 hP1) fi_12_69 (Or.inl rfl) rfl ?_
    obtain ⟨M2, eM2, h⟩ := bndE h
    refine VV.mem eM2 ?_
    have hP2 := hP1.wI eM2
    refine Y_aload_n (pc := 95) (j := 0) dX12_inTrace_95 rfl rfl ?_
    refine Z_geti (pc := 96) dX12_inTrace_96 w8_135 (lk_69 hP2) fi_12_69 ?_
    refine Y_aload_n (pc := 99) (j := 0) dX12_inTrace_99 rfl rfl ?_
    refine Z_getr (pc := 100) dX12_inTrace_100 w8_94 (lk_69 hP2) fr_12_28 (lr_69_28 hP2) ?_
    refine Y_aload_n (pc := 103) (j := 0) dX12_inTrace_103 rfl rfl ?_
    refine Z_geti (pc := 104) dX12_inTrace_104 w8_134 (lk_69 hP2) fi_12_68 ?_
    obtain ⟨hb2, h⟩ := okE h
    refine Y_iald (pc := 107) dX12_inTrace_107 (lk_90 hP2) (ln_90 hP2) hb2 ?_
    refine Y_icmp_ne (pc := 108) (tgt := 124) dX12_inTrace_108 (by decide) (fun hc2 => ?_) (fun hc2 => ?_)
    · replace h := ifF hc2 h
      cases h
      exact Y_vret (pc := 124) rfl dX12_inTrace_124 hP2 ⟨rfl, rfl⟩
    · replace h := ifT hc2 h
      refine Y_aload_n (pc := 111) (j := 0) dX12_inTrace_111 rfl rfl ?_
      refine Y_aload_n (pc := 112) (j := 0) dX12_inTrace_112 rfl rfl ?_
      refine Z_getr (pc := 113) dX12_inTrace_113 w8_97 (lk_69 hP2) fr_12_31 (lr_69_31 hP2) ?_
      refine Y_aload_n (pc := 116) (j := 0) dX12_inTrace_116 rfl rfl ?_
      refine Z_geti (pc := 117) dX12_inTrace_117 w8_134 (lk_69 hP2) fi_12_68 ?_
      obtain ⟨hb3, h⟩ := okE h
      refine Y_iald (pc := 120) dX12_inTrace_120 (lk_93 hP2) (ln_93 hP2) hb3 ?_
      obtain ⟨y2, qy2, h⟩ := bindE h
      have cy2 := v_X12_enters hP2 qy2
      refine C_V1o (pc := 121) (k' := k_X12_enters) dX12_inTrace_121 w10_103 i_X12_enters (lk_69 hP2) ⟨Nat.le_of_ble_eq_true rfl, Nat.le_of_ble_eq_true rfl⟩ rfl (Nat.le_of_ble_eq_true rfl) (Nat.le_of_ble_eq_true rfl) (Nat.le_of_ble_eq_true rfl) (cy2) ?_
      have hPy2 := cy2.1.1
      cases h
      exact Y_vret (pc := 124) rfl dX12_inTrace_124 hPy2 ⟨rfl, rfl⟩
  · replace h := ifF hc1 h
    refine Y_bipush (pc := 28) (v := (120 : Int32)) dX12_inTrace_28 rfl ?_
    refine Y_aload_n (pc := 30) (j := 0) dX12_inTrace_30 rfl rfl ?_
    refine Z_geti (pc := 31) dX12_inTrace_31 w8_134 (lk_69 hP) fi_12_68 ?_
    refine Y_imul (pc := 34) dX12_inTrace_34 ?_
    refine Y_iload_n (pc := 35) (j := 1) dX12_inTrace_35 rfl rfl ?_
    refine Y_iadd (pc := 36) dX12_inTrace_36 ?_
    obtain ⟨b1, eb1, h⟩ := bndE h
    refine VV.topI eb1 ?_
    refine Y_istore_n (pc := 37) (lv1 := [(2, .int b1), (0, .ref 69), (1, .int x1)]) dX12_inTrace_37 rfl (by decide) rfl ?_
    refine Y_aload_n (pc := 38) (j := 1) dX12_inTrace_38 rfl rfl ?_
    refine Z_getr (pc := 39) dX12_inTrace_39 w8_103 (lk_69 hP) fr_12_37 (lr_69_37 hP) ?_
    refine Y_iload_n (pc := 42) (j := 0) dX12_inTrace_42 rfl rfl ?_
    obtain ⟨hb4, h⟩ := okE h
    refine Y_iald (pc := 43) dX12_inTrace_43 (lk_98 hP) (ln_98 hP) hb4 ?_
    refine Y_aload_n (pc := 44) (j := 1) dX12_inTrace_44 rfl rfl ?_
    refine Z_geti (pc := 45) dX12_inTrace_45 w8_135 (lk_69 hP) fi_12_69 ?_
    refine Y_icmp_ne (pc := 48) (tgt := 65) dX12_inTrace_48 (by decide) (fun hc3 => ?_) (fun hc3 => ?_)
    · replace h := ifF hc3 h
      refine VV.sub [1, 2] rfl ?_
      exact b_X12_inTrace_65 hk15 hP h
    · replace h := ifT hc3 h
      refine Y_aload_n (pc := 51) (j := 1) dX12_inTrace_51 rfl rfl ?_
      refine Y_iload_n (pc := 52) (j := 0) dX12_inTrace_52 rfl rfl ?_
      obtain ⟨y3, qy3, h⟩ := bindE h
      have cy3 := v_X12_holds hP qy3
      refine C_V1r (pc := 53) (k' := k_X12_holds) dX12_inTrace_53 w10_1 i_X12_holds (lk_69 hP) ⟨Nat.le_of_ble_eq_true rfl, Nat.le_of_ble_eq_true rfl⟩ rfl (Nat.le_of_ble_eq_true rfl) (Nat.le_of_ble_eq_true rfl) (Nat.le_of_ble_eq_true rfl) (cy3) ?_
      have hPy3 := cy3.1.1
      refine Y_if_ne (pc := 56) (tgt := 65) dX12_inTrace_56 (by decide) (fun hc4 => ?_) (fun hc4 => ?_)
      · replace h := ifF hc4 h
        refine VV.sub [1, 2] rfl ?_
        exact b_X12_inTrace_65 hk15 hPy3 h
      · replace h := ifT hc4 h
        refine Y_aload_n (pc := 59) (j := 1) dX12_inTrace_59 rfl rfl ?_
        refine Y_iload_n (pc := 60) (j := 0) dX12_inTrace_60 rfl rfl ?_
        obtain ⟨y4, qy4, h⟩ := bindE h
        have cy4 := v_X12_leavesBy hPy3 qy4
        refine C_V1o (pc := 61) (k' := k_X12_leavesBy) dX12_inTrace_61 w10_27 i_X12_leavesBy (lk_69 hPy3) ⟨Nat.le_of_ble_eq_true rfl, Nat.le_of_ble_eq_true rfl⟩ rfl (Nat.le_of_ble_eq_true rfl) (Nat.le_of_ble_eq_true rfl) (Nat.le_of_ble_eq_true rfl) (cy4) ?_
        have hPy4 := cy4.1.1
        cases h
        exact Y_vret (pc := 64) rfl dX12_inTrace_64 hPy4 ⟨rfl, rfl⟩
noncomputable def d_X12_inTrace_15 : Nat → (Int32) → Mem → Option (Unit × Mem) := lp fun k a M => d_X12_inTrace_15b k a M
theorem b_X12_inTrace_15 (n : Nat) : ∀ (a : (Int32)) (M : Mem) (z : Unit × Mem), d_X12_inTrace_15 n a M = some z → Lay M → VV Lay k_X12_inTrace 15 [(0, .ref 69), (1, .int a)] [] M z.2 (Qv (none) z.2) xF :=
  lp_ind (G := fun (a : (Int32)) (M : Mem) (z : Unit × Mem) => Lay M → VV Lay k_X12_inTrace 15 [(0, .ref 69), (1, .int a)] [] M z.2 (Qv (none) z.2) xF) (fun k hk a M z h hP => b_X12_inTrace_15b  (fun a M z hP h => hk a M z h hP) hP h) n
noncomputable def d_X12_inTrace (M : Mem) : Option (Unit × Mem) :=
  (d_X12_why M).bind fun y1 =>
  if y1.1 = 0 then (
    d_X12_inTrace_15 fuel ((0 : Int32)) y1.2)
  else (
    bnd (sI y1.2 69 68 (-1 : Int32)) fun M1 =>
    some ((), M1))
theorem b_X12_inTrace {M z} (hP : Lay M) (h : d_X12_inTrace M = some z) : VV Lay k_X12_inTrace 0 [(0, .ref 69)] [] M z.2 (Qv (none) z.2) xF := by
  unfold d_X12_inTrace at h
  refine Y_aload_n (pc := 0) (j := 0) dX12_inTrace_0 rfl rfl ?_
  obtain ⟨y1, qy1, h⟩ := bindE h
  have cy1 := v_X12_why hP qy1
  refine C_V0r (pc := 1) (k' := k_X12_why) dX12_inTrace_1 w9_188 i_X12_why (lk_69 hP) ⟨Nat.le_of_ble_eq_true rfl, Nat.le_of_ble_eq_true rfl⟩ rfl (Nat.le_of_ble_eq_true rfl) (Nat.le_of_ble_eq_true rfl) (Nat.le_of_ble_eq_true rfl) (cy1) ?_
  have hPy1 := cy1.1.1
  refine Y_if_eq (pc := 4) (tgt := 13) dX12_inTrace_4 (by decide) (fun hc1 => ?_) (fun hc1 => ?_)
  · replace h := ifT hc1 h
    refine Y_iconst (pc := 13) (v := (0 : Int32)) dX12_inTrace_13 rfl ?_
    refine Y_istore_n (pc := 14) (lv1 := [(1, .int (0 : Int32)), (0, .ref 69)]) dX12_inTrace_14 rfl (by decide) rfl ?_
    refine VV.sub [1, 0] rfl ?_
    exact b_X12_inTrace_15  fuel _ _ _ h hPy1
  · replace h := ifF hc1 h
    refine Y_aload_n (pc := 7) (j := 0) dX12_inTrace_7 rfl rfl ?_
    refine Y_iconst (pc := 8) (v := (-1 : Int32)) dX12_inTrace_8 rfl ?_
    refine Z_puti (pc := 9) dX12_inTrace_9 w8_134 (lk_69 hPy1) fi_12_68 (Or.inl rfl) rfl ?_
    obtain ⟨M1, eM1, h⟩ := bndE h
    refine VV.mem eM1 ?_
    have hP1 := hPy1.wI eM1
    cases h
    exact Y_vret (pc := 12) rfl dX12_inTrace_12 hP1 ⟨rfl, rfl⟩
theorem v_X12_inTrace {M z} (hP : Lay M) (h : d_X12_inTrace M = some z) : CC Lay k_X12_inTrace [.ref 69] M z.2 (Qv (none) z.2) xF :=
  CC.ofVV (by decide) rfl (Nat.le_of_ble_eq_true rfl) (b_X12_inTrace hP h)
noncomputable def d_X12_run_148b (k148 : Unit → Mem → Option (Int32 × Mem)) (M : Mem) : Option (Int32 × Mem) :=
  if (mI M 69 67) = 0 then (
    (d_X12_breaksOff M).bind fun y1 =>
    bnd (sI y1.2 69 68 (-1 : Int32)) fun M1 =>
    some ((mI M1 69 57), M1))
  else (
    if (mI M 69 57) = (1000 : Int32) then (
      (d_X12_endsBy (108 : Int32) M).bind fun y4 =>
      k148 () y4.2)
    else (
      if (mI M 69 68) = (-1 : Int32) then (
        (d_X12_plainly M).bind fun y2 =>
        k148 () y2.2)
      else (
        (d_X12_inTrace M).bind fun y3 =>
        k148 () y3.2)))
theorem b_X12_run_148b {k148 : Unit → Mem → Option (Int32 × Mem)} {M z} (hk148 : ∀ (a : Unit) (M : Mem) (z : Int32 × Mem), Lay M → k148 a M = some z → VV Lay k_X12_run 148 [(0, .ref 69)] [] M z.2 (Qv (some (.int z.1)) z.2) xF) (hP : Lay M) (h : d_X12_run_148b k148 M = some z) : VV Lay k_X12_run 148 [(0, .ref 69)] [] M z.2 (Qv (some (.int z.1)) z.2) xF := by
  unfold d_X12_run_148b at h
  refine Y_aload_n (pc := 148) (j := 0) dX12_run_148 rfl rfl ?_
  refine Z_geti (pc := 149) dX12_run_149 w8_133 (lk_69 hP) fi_12_67 ?_
  refine Y_if_eq (pc := 152) (tgt := 196) dX12_run_152 (by decide) (fun hc1 => ?_) (fun hc1 => ?_)
  · replace h := ifT hc1 h
    refine Y_aload_n (pc := 196) (j := 0) dX12_run_196 rfl rfl ?_
    obtain ⟨y1, qy1, h⟩ := bindE h
    have cy1 := v_X12_breaksOff hP qy1
    refine C_V0o (pc := 197) (k' := k_X12_breaksOff) dX12_run_197 w9_180 i_X12_breaksOff (lk_69 hP) ⟨Nat.le_of_ble_eq_true rfl, Nat.le_of_ble_eq_true rfl⟩ rfl (Nat.le_of_ble_eq_true rfl) (Nat.le_of_ble_eq_true rfl) (Nat.le_of_ble_eq_true rfl) (cy1) ?_
    have hPy1 := cy1.1.1
    refine Y_aload_n (pc := 200) (j := 0) dX12_run_200 rfl rfl ?_
    refine Y_iconst (pc := 201) (v := (-1 : Int32)) dX12_run_201 rfl ?_
    refine Z_puti (pc := 202) dX12_run_202 w8_134 (lk_69 hPy1) fi_12_68 (Or.inl rfl) rfl ?_
    obtain ⟨M1, eM1, h⟩ := bndE h
    refine VV.mem eM1 ?_
    have hP1 := hPy1.wI eM1
    refine Y_aload_n (pc := 205) (j := 0) dX12_run_205 rfl rfl ?_
    refine Z_geti (pc := 206) dX12_run_206 w8_123 (lk_69 hP1) fi_12_57 ?_
    cases h
    exact Y_iret (pc := 209) rfl rfl dX12_run_209 hP1 ⟨rfl, rfl⟩
  · replace h := ifF hc1 h
    refine Y_aload_n (pc := 155) (j := 0) dX12_run_155 rfl rfl ?_
    refine Z_geti (pc := 156) dX12_run_156 w8_123 (lk_69 hP) fi_12_57 ?_
    refine Y_sipush (pc := 159) (v := (1000 : Int32)) dX12_run_159 rfl ?_
    refine Y_icmp_ne (pc := 162) (tgt := 174) dX12_run_162 (by decide) (fun hc2 => ?_) (fun hc2 => ?_)
    · replace h := ifF hc2 h
      refine Y_aload_n (pc := 174) (j := 0) dX12_run_174 rfl rfl ?_
      refine Z_geti (pc := 175) dX12_run_175 w8_134 (lk_69 hP) fi_12_68 ?_
      refine Y_iconst (pc := 178) (v := (-1 : Int32)) dX12_run_178 rfl ?_
      refine Y_icmp_eq (pc := 179) (tgt := 189) dX12_run_179 (by decide) (fun hc3 => ?_) (fun hc3 => ?_)
      · replace h := ifT hc3 h
        refine Y_aload_n (pc := 189) (j := 0) dX12_run_189 rfl rfl ?_
        obtain ⟨y2, qy2, h⟩ := bindE h
        have cy2 := v_X12_plainly hP qy2
        refine C_V0o (pc := 190) (k' := k_X12_plainly) dX12_run_190 w10_107 i_X12_plainly (lk_69 hP) ⟨Nat.le_of_ble_eq_true rfl, Nat.le_of_ble_eq_true rfl⟩ rfl (Nat.le_of_ble_eq_true rfl) (Nat.le_of_ble_eq_true rfl) (Nat.le_of_ble_eq_true rfl) (cy2) ?_
        have hPy2 := cy2.1.1
        refine Y_goto (pc := 193) (tgt := 148) dX12_run_193 (by decide) ?_
        refine VV.sub [0] rfl ?_
        exact hk148 _ _ _ hPy2 h
      · replace h := ifF hc3 h
        refine Y_aload_n (pc := 182) (j := 0) dX12_run_182 rfl rfl ?_
        obtain ⟨y3, qy3, h⟩ := bindE h
        have cy3 := v_X12_inTrace hP qy3
        refine C_V0o (pc := 183) (k' := k_X12_inTrace) dX12_run_183 w9_184 i_X12_inTrace (lk_69 hP) ⟨Nat.le_of_ble_eq_true rfl, Nat.le_of_ble_eq_true rfl⟩ rfl (Nat.le_of_ble_eq_true rfl) (Nat.le_of_ble_eq_true rfl) (Nat.le_of_ble_eq_true rfl) (cy3) ?_
        have hPy3 := cy3.1.1
        refine Y_goto (pc := 186) (tgt := 148) dX12_run_186 (by decide) ?_
        refine VV.sub [0] rfl ?_
        exact hk148 _ _ _ hPy3 h
    · replace h := ifT hc2 h
      refine Y_aload_n (pc := 165) (j := 0) dX12_run_165 rfl rfl ?_
      refine Y_bipush (pc := 166) (v := (108 : Int32)) dX12_run_166 rfl ?_
      obtain ⟨y4, qy4, h⟩ := bindE h
      have cy4 := v_X12_endsBy hP qy4
      refine C_V1o (pc := 168) (k' := k_X12_endsBy) dX12_run_168 w9_176 i_X12_endsBy (lk_69 hP) ⟨Nat.le_of_ble_eq_true rfl, Nat.le_of_ble_eq_true rfl⟩ rfl (Nat.le_of_ble_eq_true rfl) (Nat.le_of_ble_eq_true rfl) (Nat.le_of_ble_eq_true rfl) (cy4) ?_
      have hPy4 := cy4.1.1
      refine Y_goto (pc := 171) (tgt := 148) dX12_run_171 (by decide) ?_
      refine VV.sub [0] rfl ?_
      exact hk148 _ _ _ hPy4 h
noncomputable def d_X12_run_148 : Nat → Unit → Mem → Option (Int32 × Mem) := lp fun k a M => d_X12_run_148b k M
theorem b_X12_run_148 (n : Nat) : ∀ (a : Unit) (M : Mem) (z : Int32 × Mem), d_X12_run_148 n a M = some z → Lay M → VV Lay k_X12_run 148 [(0, .ref 69)] [] M z.2 (Qv (some (.int z.1)) z.2) xF :=
  lp_ind (G := fun (a : Unit) (M : Mem) (z : Int32 × Mem) => Lay M → VV Lay k_X12_run 148 [(0, .ref 69)] [] M z.2 (Qv (some (.int z.1)) z.2) xF) (fun k hk a M z h hP => b_X12_run_148b  (fun a M z hP h => hk a M z h hP) hP h) n
noncomputable def d_X12_run_119 (k82 : (Int32) → Mem → Option (Int32 × Mem)) (x2 : Int32) (x3 : Int32) (s1 : Int32) (s2 : Int32) (M : Mem) : Option (Int32 × Mem) :=
  okk (vp_in s1 168) <|
  bnd (sI M 106 s1.toNatClampNeg s2) fun M1 =>
  okk (vp_in x3 168) <|
  bnd (sD M1 107 x3.toNatClampNeg FP.dconst0) fun M2 =>
  bnd ((x3 + (1 : Int32))) fun b1 =>
  k82 (b1) M2
theorem b_X12_run_119 {k82 : (Int32) → Mem → Option (Int32 × Mem)} {x2 : Int32} {x3 : Int32} {s1 : Int32} {s2 : Int32} {M z} (hk82 : ∀ (a : (Int32)) (M : Mem) (z : Int32 × Mem), Lay M → k82 a M = some z → VV Lay k_X12_run 82 [(0, .ref 69), (2, .int x2), (3, .int a)] [] M z.2 (Qv (some (.int z.1)) z.2) xF) (hP : Lay M) (h : d_X12_run_119 k82 x2 x3 s1 s2 M = some z) : VV Lay k_X12_run 119 [(0, .ref 69), (2, .int x2), (3, .int x3)] [.int s2, .int s1, .ref 106] M z.2 (Qv (some (.int z.1)) z.2) xF := by
  unfold d_X12_run_119 at h
  obtain ⟨hb1, h⟩ := okE h
  refine Y_iast (pc := 119) dX12_run_119 (lk_106 hP) (ln_106 hP) hb1 ?_
  obtain ⟨M1, eM1, h⟩ := bndE h
  refine VV.mem eM1 ?_
  have hP1 := hP.wI eM1
  refine Y_aload_n (pc := 120) (j := 0) dX12_run_120 rfl rfl ?_
  refine Z_getr (pc := 121) dX12_run_121 w8_112 (lk_69 hP1) fr_12_46 (lr_69_46 hP1) ?_
  refine Y_iload_n (pc := 124) (j := 2) dX12_run_124 rfl rfl ?_
  refine Y_dconst0 (pc := 125) dX12_run_125 ?_
  obtain ⟨hb2, h⟩ := okE h
  refine Y_dast (pc := 126) dX12_run_126 (lk_107 hP1) (ln_107 hP1) hb2 ?_
  obtain ⟨M2, eM2, h⟩ := bndE h
  refine VV.mem eM2 ?_
  have hP2 := hP1.wD eM2
  obtain ⟨b1, eb1, h⟩ := bndE h
  refine Y_iinc (pc := 127) (j := 2) (v := b1) (lv1 := [(3, .int b1), (0, .ref 69), (2, .int x2)]) dX12_run_127 rfl eb1.symm (by decide) rfl ?_
  refine Y_goto (pc := 130) (tgt := 82) dX12_run_130 (by decide) ?_
  refine VV.sub [1, 2, 0] rfl ?_
  exact hk82 _ _ _ hP2 h
noncomputable def d_X12_run_104 (k82 : (Int32) → Mem → Option (Int32 × Mem)) (x2 : Int32) (x3 : Int32) (s1 : Int32) (s2 : Int32) (M : Mem) : Option (Int32 × Mem) :=
  okk (vp_in s1 168) <|
  okk (isCh s2) <|
  bnd (sI M 105 s1.toNatClampNeg s2) fun M1 =>
  if x3 = 0 then (
    d_X12_run_119 k82 x2 x3 x3 x2 M1)
  else (
    d_X12_run_119 k82 x2 x3 x3 (0 : Int32) M1)
theorem b_X12_run_104 {k82 : (Int32) → Mem → Option (Int32 × Mem)} {x2 : Int32} {x3 : Int32} {s1 : Int32} {s2 : Int32} {M z} (hk82 : ∀ (a : (Int32)) (M : Mem) (z : Int32 × Mem), Lay M → k82 a M = some z → VV Lay k_X12_run 82 [(0, .ref 69), (2, .int x2), (3, .int a)] [] M z.2 (Qv (some (.int z.1)) z.2) xF) (hP : Lay M) (h : d_X12_run_104 k82 x2 x3 s1 s2 M = some z) : VV Lay k_X12_run 104 [(0, .ref 69), (2, .int x2), (3, .int x3)] [.int s2, .int s1, .ref 105] M z.2 (Qv (some (.int z.1)) z.2) xF := by
  unfold d_X12_run_104 at h
  obtain ⟨hb1, h⟩ := okE h
  obtain ⟨hb2, h⟩ := okE h
  refine Y_cast (pc := 104) dX12_run_104 (lk_105 hP) (ln_105 hP) hb1 (nar_ch hb2) ?_
  obtain ⟨M1, eM1, h⟩ := bndE h
  refine VV.mem eM1 ?_
  have hP1 := hP.wI eM1
  refine Y_aload_n (pc := 105) (j := 0) dX12_run_105 rfl rfl ?_
  refine Z_getr (pc := 106) dX12_run_106 w8_111 (lk_69 hP1) fr_12_45 (lr_69_45 hP1) ?_
  refine Y_iload_n (pc := 109) (j := 2) dX12_run_109 rfl rfl ?_
  refine Y_iload_n (pc := 110) (j := 2) dX12_run_110 rfl rfl ?_
  refine Y_if_ne (pc := 111) (tgt := 118) dX12_run_111 (by decide) (fun hc1 => ?_) (fun hc1 => ?_)
  · replace h := ifF hc1 h
    refine Y_iconst (pc := 118) (v := (0 : Int32)) dX12_run_118 rfl ?_
    refine VV.sub [0, 1, 2] rfl ?_
    exact b_X12_run_119 hk82 hP1 h
  · replace h := ifT hc1 h
    refine Y_iload_n (pc := 114) (j := 1) dX12_run_114 rfl rfl ?_
    refine Y_goto (pc := 115) (tgt := 119) dX12_run_115 (by decide) ?_
    refine VV.sub [0, 1, 2] rfl ?_
    exact b_X12_run_119 hk82 hP1 h
noncomputable def d_X12_run_82b (k82 : (Int32) → Mem → Option (Int32 × Mem)) (x2 : Int32) (x3 : Int32) (M : Mem) : Option (Int32 × Mem) :=
  if (6 : Int32) ≤ x3 then (
    bnd (sI M 69 67 (1 : Int32)) fun M1 =>
    bnd (sI M1 69 71 (0 : Int32)) fun M2 =>
    bnd (sI M2 69 68 (-1 : Int32)) fun M3 =>
    d_X12_run_148 fuel () M3)
  else (
    if x3 = 0 then (
      d_X12_run_104 k82 x2 x3 x3 (105 : Int32) M)
    else (
      d_X12_run_104 k82 x2 x3 x3 (110 : Int32) M))
theorem b_X12_run_82b {k82 : (Int32) → Mem → Option (Int32 × Mem)} {x2 : Int32} {x3 : Int32} {M z} (hk82 : ∀ (a : (Int32)) (M : Mem) (z : Int32 × Mem), Lay M → k82 a M = some z → VV Lay k_X12_run 82 [(0, .ref 69), (2, .int x2), (3, .int a)] [] M z.2 (Qv (some (.int z.1)) z.2) xF) (hP : Lay M) (h : d_X12_run_82b k82 x2 x3 M = some z) : VV Lay k_X12_run 82 [(0, .ref 69), (2, .int x2), (3, .int x3)] [] M z.2 (Qv (some (.int z.1)) z.2) xF := by
  unfold d_X12_run_82b at h
  refine Y_iload_n (pc := 82) (j := 2) dX12_run_82 rfl rfl ?_
  refine Y_bipush (pc := 83) (v := (6 : Int32)) dX12_run_83 rfl ?_
  refine Y_icmp_ge (pc := 85) (tgt := 133) dX12_run_85 (by decide) (fun hc1 => ?_) (fun hc1 => ?_)
  · replace h := ifT hc1 h
    refine Y_aload_n (pc := 133) (j := 0) dX12_run_133 rfl rfl ?_
    refine Y_iconst (pc := 134) (v := (1 : Int32)) dX12_run_134 rfl ?_
    refine Z_putz (pc := 135) dX12_run_135 w8_133 (lk_69 hP) fi_12_67 (Or.inl rfl) rfl (by decide) ?_
    obtain ⟨M1, eM1, h⟩ := bndE h
    refine VV.mem eM1 ?_
    have hP1 := hP.wI eM1
    refine Y_aload_n (pc := 138) (j := 0) dX12_run_138 rfl rfl ?_
    refine Y_iconst (pc := 139) (v := (0 : Int32)) dX12_run_139 rfl ?_
    refine Z_putz (pc := 140) dX12_run_140 w8_137 (lk_69 hP1) fi_12_71 (Or.inl rfl) rfl (by decide) ?_
    obtain ⟨M2, eM2, h⟩ := bndE h
    refine VV.mem eM2 ?_
    have hP2 := hP1.wI eM2
    refine Y_aload_n (pc := 143) (j := 0) dX12_run_143 rfl rfl ?_
    refine Y_iconst (pc := 144) (v := (-1 : Int32)) dX12_run_144 rfl ?_
    refine Z_puti (pc := 145) dX12_run_145 w8_134 (lk_69 hP2) fi_12_68 (Or.inl rfl) rfl ?_
    obtain ⟨M3, eM3, h⟩ := bndE h
    refine VV.mem eM3 ?_
    have hP3 := hP2.wI eM3
    refine VV.sub [0] rfl ?_
    exact b_X12_run_148  fuel _ _ _ h hP3
  · replace h := ifF hc1 h
    refine Y_aload_n (pc := 88) (j := 0) dX12_run_88 rfl rfl ?_
    refine Z_getr (pc := 89) dX12_run_89 w8_110 (lk_69 hP) fr_12_44 (lr_69_44 hP) ?_
    refine Y_iload_n (pc := 92) (j := 2) dX12_run_92 rfl rfl ?_
    refine Y_iload_n (pc := 93) (j := 2) dX12_run_93 rfl rfl ?_
    refine Y_if_ne (pc := 94) (tgt := 102) dX12_run_94 (by decide) (fun hc2 => ?_) (fun hc2 => ?_)
    · replace h := ifF hc2 h
      refine Y_bipush (pc := 102) (v := (110 : Int32)) dX12_run_102 rfl ?_
      refine VV.sub [0, 1, 2] rfl ?_
      exact b_X12_run_104 hk82 hP h
    · replace h := ifT hc2 h
      refine Y_bipush (pc := 97) (v := (105 : Int32)) dX12_run_97 rfl ?_
      refine Y_goto (pc := 99) (tgt := 104) dX12_run_99 (by decide) ?_
      refine VV.sub [0, 1, 2] rfl ?_
      exact b_X12_run_104 hk82 hP h
noncomputable def d_X12_run_82 (x2 : Int32) : Nat → (Int32) → Mem → Option (Int32 × Mem) := lp fun k a M => d_X12_run_82b k x2 a M
theorem b_X12_run_82 {x2 : Int32} (n : Nat) : ∀ (a : (Int32)) (M : Mem) (z : Int32 × Mem), d_X12_run_82 x2 n a M = some z → Lay M → VV Lay k_X12_run 82 [(0, .ref 69), (2, .int x2), (3, .int a)] [] M z.2 (Qv (some (.int z.1)) z.2) xF :=
  lp_ind (G := fun (a : (Int32)) (M : Mem) (z : Int32 × Mem) => Lay M → VV Lay k_X12_run 82 [(0, .ref 69), (2, .int x2), (3, .int a)] [] M z.2 (Qv (some (.int z.1)) z.2) xF) (fun k hk a M z h hP => b_X12_run_82b  (fun a M z hP h => hk a M z h hP) hP h) n
noncomputable def d_X12_run (x1 : Int32) (x2 : Int32) (M : Mem) : Option (Int32 × Mem) :=
  bnd (sI M 69 0 (0 : Int32)) fun M1 =>
  (d_X12_isFunction x1 M1).bind fun y1 =>
  if y1.1 = 0 then (
    (d_X12_fails (1 : Int32) y1.2).bind fun y3 =>
    some (y3.1, y3.2))
  else (
    okk (vp_in x1 8) <|
    if (mI y1.2 70 x1.toNatClampNeg) = 0 then (
      (d_X12_fails (2 : Int32) y1.2).bind fun y2 =>
      some (y2.1, y2.2))
    else (
      bnd (sI y1.2 69 52 (0 : Int32)) fun M2 =>
      bnd (sI M2 69 57 (0 : Int32)) fun M3 =>
      bnd (sI M3 69 58 (0 : Int32)) fun M4 =>
      bnd (sI M4 69 59 (0 : Int32)) fun M5 =>
      bnd (sI M5 69 48 (0 : Int32)) fun M6 =>
      bnd (sI M6 109 0 x1) fun M7 =>
      bnd (sI M7 110 0 (0 : Int32)) fun M8 =>
      bnd (sI M8 111 0 (0 : Int32)) fun M9 =>
      d_X12_run_82 x2 fuel ((0 : Int32)) M9))
theorem b_X12_run {x1 : Int32} {x2 : Int32} {M z} (hP : Lay M) (h : d_X12_run x1 x2 M = some z) : VV Lay k_X12_run 0 [(0, .ref 69), (1, .int x1), (2, .int x2)] [] M z.2 (Qv (some (.int z.1)) z.2) xF := by
  unfold d_X12_run at h
  refine Y_aload_n (pc := 0) (j := 0) dX12_run_0 rfl rfl ?_
  refine Y_iconst (pc := 1) (v := (0 : Int32)) dX12_run_1 rfl ?_
  refine Z_puti (pc := 2) dX12_run_2 w8_66 (lk_69 hP) fi_12_0 (Or.inl rfl) rfl ?_
  obtain ⟨M1, eM1, h⟩ := bndE h
  refine VV.mem eM1 ?_
  have hP1 := hP.wI eM1
  refine Y_aload_n (pc := 5) (j := 0) dX12_run_5 rfl rfl ?_
  refine Y_iload_n (pc := 6) (j := 1) dX12_run_6 rfl rfl ?_
  obtain ⟨y1, qy1, h⟩ := bindE h
  have cy1 := v_X12_isFunction hP1 qy1
  refine C_V1r (pc := 7) (k' := k_X12_isFunction) dX12_run_7 w9_121 i_X12_isFunction (lk_69 hP1) ⟨Nat.le_of_ble_eq_true rfl, Nat.le_of_ble_eq_true rfl⟩ rfl (Nat.le_of_ble_eq_true rfl) (Nat.le_of_ble_eq_true rfl) (Nat.le_of_ble_eq_true rfl) (cy1) ?_
  have hPy1 := cy1.1.1
  refine Y_if_ne (pc := 10) (tgt := 19) dX12_run_10 (by decide) (fun hc1 => ?_) (fun hc1 => ?_)
  · replace h := ifF hc1 h
    refine Y_aload_n (pc := 19) (j := 0) dX12_run_19 rfl rfl ?_
    refine Z_getr (pc := 20) dX12_run_20 w8_68 (lk_69 hPy1) fr_12_2 (lr_69_2 hPy1) ?_
    refine Y_iload_n (pc := 23) (j := 1) dX12_run_23 rfl rfl ?_
    obtain ⟨hb1, h⟩ := okE h
    refine Y_iald (pc := 24) dX12_run_24 (lk_70 hPy1) (ln_70 hPy1) hb1 ?_
    refine Y_if_ne (pc := 25) (tgt := 34) dX12_run_25 (by decide) (fun hc2 => ?_) (fun hc2 => ?_)
    · replace h := ifF hc2 h
      refine Y_aload_n (pc := 34) (j := 0) dX12_run_34 rfl rfl ?_
      refine Y_iconst (pc := 35) (v := (0 : Int32)) dX12_run_35 rfl ?_
      refine Z_puti (pc := 36) dX12_run_36 w8_118 (lk_69 hPy1) fi_12_52 (Or.inl rfl) rfl ?_
      obtain ⟨M2, eM2, h⟩ := bndE h
      refine VV.mem eM2 ?_
      have hP2 := hPy1.wI eM2
      refine Y_aload_n (pc := 39) (j := 0) dX12_run_39 rfl rfl ?_
      refine Y_iconst (pc := 40) (v := (0 : Int32)) dX12_run_40 rfl ?_
      refine Z_puti (pc := 41) dX12_run_41 w8_123 (lk_69 hP2) fi_12_57 (Or.inl rfl) rfl ?_
      obtain ⟨M3, eM3, h⟩ := bndE h
      refine VV.mem eM3 ?_
      have hP3 := hP2.wI eM3
      refine Y_aload_n (pc := 44) (j := 0) dX12_run_44 rfl rfl ?_
      refine Y_iconst (pc := 45) (v := (0 : Int32)) dX12_run_45 rfl ?_
      refine Z_puti (pc := 46) dX12_run_46 w8_124 (lk_69 hP3) fi_12_58 (Or.inl rfl) rfl ?_
      obtain ⟨M4, eM4, h⟩ := bndE h
      refine VV.mem eM4 ?_
      have hP4 := hP3.wI eM4
      refine Y_aload_n (pc := 49) (j := 0) dX12_run_49 rfl rfl ?_
      refine Y_iconst (pc := 50) (v := (0 : Int32)) dX12_run_50 rfl ?_
      refine Z_puti (pc := 51) dX12_run_51 w8_125 (lk_69 hP4) fi_12_59 (Or.inl rfl) rfl ?_
      obtain ⟨M5, eM5, h⟩ := bndE h
      refine VV.mem eM5 ?_
      have hP5 := hP4.wI eM5
      refine Y_aload_n (pc := 54) (j := 0) dX12_run_54 rfl rfl ?_
      refine Y_iconst (pc := 55) (v := (0 : Int32)) dX12_run_55 rfl ?_
      refine Z_puti (pc := 56) dX12_run_56 w8_114 (lk_69 hP5) fi_12_48 (Or.inl rfl) rfl ?_
      obtain ⟨M6, eM6, h⟩ := bndE h
      refine VV.mem eM6 ?_
      have hP6 := hP5.wI eM6
      refine Y_aload_n (pc := 59) (j := 0) dX12_run_59 rfl rfl ?_
      refine Z_getr (pc := 60) dX12_run_60 w8_115 (lk_69 hP6) fr_12_49 (lr_69_49 hP6) ?_
      refine Y_iconst (pc := 63) (v := (0 : Int32)) dX12_run_63 rfl ?_
      refine Y_iload_n (pc := 64) (j := 1) dX12_run_64 rfl rfl ?_
      refine Y_iast (pc := 65) dX12_run_65 (lk_109 hP6) (ln_109 hP6) (vp_lit (by decide)) ?_
      obtain ⟨M7, eM7, h⟩ := bndE h
      refine VV.mem eM7 ?_
      have hP7 := hP6.wI eM7
      refine Y_aload_n (pc := 66) (j := 0) dX12_run_66 rfl rfl ?_
      refine Z_getr (pc := 67) dX12_run_67 w8_116 (lk_69 hP7) fr_12_50 (lr_69_50 hP7) ?_
      refine Y_iconst (pc := 70) (v := (0 : Int32)) dX12_run_70 rfl ?_
      refine Y_iconst (pc := 71) (v := (0 : Int32)) dX12_run_71 rfl ?_
      refine Y_iast (pc := 72) dX12_run_72 (lk_110 hP7) (ln_110 hP7) (vp_lit (by decide)) ?_
      obtain ⟨M8, eM8, h⟩ := bndE h
      refine VV.mem eM8 ?_
      have hP8 := hP7.wI eM8
      refine Y_aload_n (pc := 73) (j := 0) dX12_run_73 rfl rfl ?_
      refine Z_getr (pc := 74) dX12_run_74 w8_117 (lk_69 hP8) fr_12_51 (lr_69_51 hP8) ?_
      refine Y_iconst (pc := 77) (v := (0 : Int32)) dX12_run_77 rfl ?_
      refine Y_iconst (pc := 78) (v := (0 : Int32)) dX12_run_78 rfl ?_
      refine Y_iast (pc := 79) dX12_run_79 (lk_111 hP8) (ln_111 hP8) (vp_lit (by decide)) ?_
      obtain ⟨M9, eM9, h⟩ := bndE h
      refine VV.mem eM9 ?_
      have hP9 := hP8.wI eM9
      refine Y_iconst (pc := 80) (v := (0 : Int32)) dX12_run_80 rfl ?_
      refine Y_istore_n (pc := 81) (lv1 := [(3, .int (0 : Int32)), (0, .ref 69), (1, .int x1), (2, .int x2)]) dX12_run_81 rfl (by decide) rfl ?_
      refine VV.sub [1, 3, 0] rfl ?_
      exact b_X12_run_82  fuel _ _ _ h hP9
    · replace h := ifT hc2 h
      refine Y_aload_n (pc := 28) (j := 0) dX12_run_28 rfl rfl ?_
      refine Y_iconst (pc := 29) (v := (2 : Int32)) dX12_run_29 rfl ?_
      obtain ⟨y2, qy2, h⟩ := bindE h
      have cy2 := v_X12_fails hPy1 qy2
      refine C_V1r (pc := 30) (k' := k_X12_fails) dX12_run_30 w9_113 i_X12_fails (lk_69 hPy1) ⟨Nat.le_of_ble_eq_true rfl, Nat.le_of_ble_eq_true rfl⟩ rfl (Nat.le_of_ble_eq_true rfl) (Nat.le_of_ble_eq_true rfl) (Nat.le_of_ble_eq_true rfl) (cy2) ?_
      have hPy2 := cy2.1.1
      cases h
      exact Y_iret (pc := 33) rfl rfl dX12_run_33 hPy2 ⟨rfl, rfl⟩
  · replace h := ifT hc1 h
    refine Y_aload_n (pc := 13) (j := 0) dX12_run_13 rfl rfl ?_
    refine Y_iconst (pc := 14) (v := (1 : Int32)) dX12_run_14 rfl ?_
    obtain ⟨y3, qy3, h⟩ := bindE h
    have cy3 := v_X12_fails hPy1 qy3
    refine C_V1r (pc := 15) (k' := k_X12_fails) dX12_run_15 w9_113 i_X12_fails (lk_69 hPy1) ⟨Nat.le_of_ble_eq_true rfl, Nat.le_of_ble_eq_true rfl⟩ rfl (Nat.le_of_ble_eq_true rfl) (Nat.le_of_ble_eq_true rfl) (Nat.le_of_ble_eq_true rfl) (cy3) ?_
    have hPy3 := cy3.1.1
    cases h
    exact Y_iret (pc := 18) rfl rfl dX12_run_18 hPy3 ⟨rfl, rfl⟩
theorem v_X12_run {x1 : Int32} {x2 : Int32} {M z} (hP : Lay M) (h : d_X12_run x1 x2 M = some z) : CC Lay k_X12_run [.ref 69, .int x1, .int x2] M z.2 (Qv (some (.int z.1)) z.2) xF :=
  CC.ofVV (by decide) rfl (Nat.le_of_ble_eq_true rfl) (b_X12_run hP h)
noncomputable def d_X12_outcome (M : Mem) : Option (Int32 × Mem) :=
  bnd (sI M 69 0 (0 : Int32)) fun M1 =>
  okk (isCh (mI M1 69 62)) <|
  some ((mI M1 69 62), M1)
theorem b_X12_outcome {M z} (hP : Lay M) (h : d_X12_outcome M = some z) : VV Lay k_X12_outcome 0 [(0, .ref 69)] [] M z.2 (Qv (some (.int z.1)) z.2) xF := by
  unfold d_X12_outcome at h
  refine Y_aload_n (pc := 0) (j := 0) dX12_outcome_0 rfl rfl ?_
  refine Y_iconst (pc := 1) (v := (0 : Int32)) dX12_outcome_1 rfl ?_
  refine Z_puti (pc := 2) dX12_outcome_2 w8_66 (lk_69 hP) fi_12_0 (Or.inl rfl) rfl ?_
  obtain ⟨M1, eM1, h⟩ := bndE h
  refine VV.mem eM1 ?_
  have hP1 := hP.wI eM1
  refine Y_aload_n (pc := 5) (j := 0) dX12_outcome_5 rfl rfl ?_
  refine Z_geti (pc := 6) dX12_outcome_6 w8_128 (lk_69 hP1) fi_12_62 ?_
  obtain ⟨hb1, h⟩ := okE h
  cases h
  exact Y_iret (pc := 9) rfl (nar_ch hb1) dX12_outcome_9 hP1 ⟨rfl, rfl⟩
theorem v_X12_outcome {M z} (hP : Lay M) (h : d_X12_outcome M = some z) : CC Lay k_X12_outcome [.ref 69] M z.2 (Qv (some (.int z.1)) z.2) xF :=
  CC.ofVV (by decide) rfl (Nat.le_of_ble_eq_true rfl) (b_X12_outcome hP h)
noncomputable def d_X12_resultKind_15 (s1 : Int32) (M : Mem) : Option (Int32 × Mem) :=
  bnd (sI M 69 0 s1) fun M1 =>
  if (mI M1 69 0) ≤ 0 then (
    okk (isCh (mI M1 69 63)) <|
    some ((mI M1 69 63), M1))
  else (
    some ((0 : Int32), M1))
theorem b_X12_resultKind_15 {s1 : Int32} {M z} (hP : Lay M) (h : d_X12_resultKind_15 s1 M = some z) : VV Lay k_X12_resultKind 15 [(0, .ref 69)] [.int s1, .ref 69] M z.2 (Qv (some (.int z.1)) z.2) xF := by
  unfold d_X12_resultKind_15 at h
  refine Z_puti (pc := 15) dX12_resultKind_15 w8_66 (lk_69 hP) fi_12_0 (Or.inl rfl) rfl ?_
  obtain ⟨M1, eM1, h⟩ := bndE h
  refine VV.mem eM1 ?_
  have hP1 := hP.wI eM1
  refine Y_aload_n (pc := 18) (j := 0) dX12_resultKind_18 rfl rfl ?_
  refine Z_geti (pc := 19) dX12_resultKind_19 w8_66 (lk_69 hP1) fi_12_0 ?_
  refine Y_if_le (pc := 22) (tgt := 29) dX12_resultKind_22 (by decide) (fun hc1 => ?_) (fun hc1 => ?_)
  · replace h := ifT hc1 h
    refine Y_aload_n (pc := 29) (j := 0) dX12_resultKind_29 rfl rfl ?_
    refine Z_geti (pc := 30) dX12_resultKind_30 w8_129 (lk_69 hP1) fi_12_63 ?_
    obtain ⟨hb1, h⟩ := okE h
    cases h
    exact Y_iret (pc := 33) rfl (nar_ch hb1) dX12_resultKind_33 hP1 ⟨rfl, rfl⟩
  · replace h := ifF hc1 h
    refine Y_iconst (pc := 25) (v := (0 : Int32)) dX12_resultKind_25 rfl ?_
    refine Y_goto (pc := 26) (tgt := 33) dX12_resultKind_26 (by decide) ?_
    cases h
    exact Y_iret (pc := 33) rfl (nar_ch (by decide)) dX12_resultKind_33 hP1 ⟨rfl, rfl⟩
noncomputable def d_X12_resultKind (M : Mem) : Option (Int32 × Mem) :=
  if (mI M 69 62) = (118 : Int32) then (
    d_X12_resultKind_15 (0 : Int32) M)
  else (
    d_X12_resultKind_15 (1 : Int32) M)
theorem b_X12_resultKind {M z} (hP : Lay M) (h : d_X12_resultKind M = some z) : VV Lay k_X12_resultKind 0 [(0, .ref 69)] [] M z.2 (Qv (some (.int z.1)) z.2) xF := by
  unfold d_X12_resultKind at h
  refine Y_aload_n (pc := 0) (j := 0) dX12_resultKind_0 rfl rfl ?_
  refine Y_aload_n (pc := 1) (j := 0) dX12_resultKind_1 rfl rfl ?_
  refine Z_geti (pc := 2) dX12_resultKind_2 w8_128 (lk_69 hP) fi_12_62 ?_
  refine Y_bipush (pc := 5) (v := (118 : Int32)) dX12_resultKind_5 rfl ?_
  refine Y_icmp_ne (pc := 7) (tgt := 14) dX12_resultKind_7 (by decide) (fun hc1 => ?_) (fun hc1 => ?_)
  · replace h := ifF hc1 h
    refine Y_iconst (pc := 14) (v := (1 : Int32)) dX12_resultKind_14 rfl ?_
    refine VV.sub [0] rfl ?_
    exact b_X12_resultKind_15  hP h
  · replace h := ifT hc1 h
    refine Y_iconst (pc := 10) (v := (0 : Int32)) dX12_resultKind_10 rfl ?_
    refine Y_goto (pc := 11) (tgt := 15) dX12_resultKind_11 (by decide) ?_
    refine VV.sub [0] rfl ?_
    exact b_X12_resultKind_15  hP h
theorem v_X12_resultKind {M z} (hP : Lay M) (h : d_X12_resultKind M = some z) : CC Lay k_X12_resultKind [.ref 69] M z.2 (Qv (some (.int z.1)) z.2) xF :=
  CC.ofVV (by decide) rfl (Nat.le_of_ble_eq_true rfl) (b_X12_resultKind hP h)
noncomputable def d_X12_result_15 (s1 : Int32) (M : Mem) : Option (Int64 × Mem) :=
  bnd (sI M 69 0 s1) fun M1 =>
  if (mI M1 69 0) ≤ 0 then (
    some ((mL M1 69 64), M1))
  else (
    some ((0 : Int64), M1))
theorem b_X12_result_15 {s1 : Int32} {M z} (hP : Lay M) (h : d_X12_result_15 s1 M = some z) : VV Lay k_X12_result 15 [(0, .ref 69)] [.int s1, .ref 69] M z.2 (Qv (some (.long z.1)) z.2) xF := by
  unfold d_X12_result_15 at h
  refine Z_puti (pc := 15) dX12_result_15 w8_66 (lk_69 hP) fi_12_0 (Or.inl rfl) rfl ?_
  obtain ⟨M1, eM1, h⟩ := bndE h
  refine VV.mem eM1 ?_
  have hP1 := hP.wI eM1
  refine Y_aload_n (pc := 18) (j := 0) dX12_result_18 rfl rfl ?_
  refine Z_geti (pc := 19) dX12_result_19 w8_66 (lk_69 hP1) fi_12_0 ?_
  refine Y_if_le (pc := 22) (tgt := 29) dX12_result_22 (by decide) (fun hc1 => ?_) (fun hc1 => ?_)
  · replace h := ifT hc1 h
    refine Y_aload_n (pc := 29) (j := 0) dX12_result_29 rfl rfl ?_
    refine Z_getl (pc := 30) dX12_result_30 w8_130 (lk_69 hP1) fl_12_64 ?_
    cases h
    exact Y_lret (pc := 33) rfl dX12_result_33 hP1 ⟨rfl, rfl⟩
  · replace h := ifF hc1 h
    refine Y_lconst (pc := 25) (v := (0 : Int64)) dX12_result_25 rfl ?_
    refine Y_goto (pc := 26) (tgt := 33) dX12_result_26 (by decide) ?_
    cases h
    exact Y_lret (pc := 33) rfl dX12_result_33 hP1 ⟨rfl, rfl⟩
noncomputable def d_X12_result (M : Mem) : Option (Int64 × Mem) :=
  if (mI M 69 62) = (118 : Int32) then (
    d_X12_result_15 (0 : Int32) M)
  else (
    d_X12_result_15 (1 : Int32) M)
theorem b_X12_result {M z} (hP : Lay M) (h : d_X12_result M = some z) : VV Lay k_X12_result 0 [(0, .ref 69)] [] M z.2 (Qv (some (.long z.1)) z.2) xF := by
  unfold d_X12_result at h
  refine Y_aload_n (pc := 0) (j := 0) dX12_result_0 rfl rfl ?_
  refine Y_aload_n (pc := 1) (j := 0) dX12_result_1 rfl rfl ?_
  refine Z_geti (pc := 2) dX12_result_2 w8_128 (lk_69 hP) fi_12_62 ?_
  refine Y_bipush (pc := 5) (v := (118 : Int32)) dX12_result_5 rfl ?_
  refine Y_icmp_ne (pc := 7) (tgt := 14) dX12_result_7 (by decide) (fun hc1 => ?_) (fun hc1 => ?_)
  · replace h := ifF hc1 h
    refine Y_iconst (pc := 14) (v := (1 : Int32)) dX12_result_14 rfl ?_
    refine VV.sub [0] rfl ?_
    exact b_X12_result_15  hP h
  · replace h := ifT hc1 h
    refine Y_iconst (pc := 10) (v := (0 : Int32)) dX12_result_10 rfl ?_
    refine Y_goto (pc := 11) (tgt := 15) dX12_result_11 (by decide) ?_
    refine VV.sub [0] rfl ?_
    exact b_X12_result_15  hP h
theorem v_X12_result {M z} (hP : Lay M) (h : d_X12_result M = some z) : CC Lay k_X12_result [.ref 69] M z.2 (Qv (some (.long z.1)) z.2) xF :=
  CC.ofVV (by decide) rfl (Nat.le_of_ble_eq_true rfl) (b_X12_result hP h)
noncomputable def d_X12_failure_15 (s1 : Int32) (M : Mem) : Option (Int32 × Mem) :=
  bnd (sI M 69 0 s1) fun M1 =>
  if (mI M1 69 0) ≤ 0 then (
    okk (isCh (mI M1 69 65)) <|
    some ((mI M1 69 65), M1))
  else (
    some ((0 : Int32), M1))
theorem b_X12_failure_15 {s1 : Int32} {M z} (hP : Lay M) (h : d_X12_failure_15 s1 M = some z) : VV Lay k_X12_failure 15 [(0, .ref 69)] [.int s1, .ref 69] M z.2 (Qv (some (.int z.1)) z.2) xF := by
  unfold d_X12_failure_15 at h
  refine Z_puti (pc := 15) dX12_failure_15 w8_66 (lk_69 hP) fi_12_0 (Or.inl rfl) rfl ?_
  obtain ⟨M1, eM1, h⟩ := bndE h
  refine VV.mem eM1 ?_
  have hP1 := hP.wI eM1
  refine Y_aload_n (pc := 18) (j := 0) dX12_failure_18 rfl rfl ?_
  refine Z_geti (pc := 19) dX12_failure_19 w8_66 (lk_69 hP1) fi_12_0 ?_
  refine Y_if_le (pc := 22) (tgt := 29) dX12_failure_22 (by decide) (fun hc1 => ?_) (fun hc1 => ?_)
  · replace h := ifT hc1 h
    refine Y_aload_n (pc := 29) (j := 0) dX12_failure_29 rfl rfl ?_
    refine Z_geti (pc := 30) dX12_failure_30 w8_131 (lk_69 hP1) fi_12_65 ?_
    obtain ⟨hb1, h⟩ := okE h
    cases h
    exact Y_iret (pc := 33) rfl (nar_ch hb1) dX12_failure_33 hP1 ⟨rfl, rfl⟩
  · replace h := ifF hc1 h
    refine Y_iconst (pc := 25) (v := (0 : Int32)) dX12_failure_25 rfl ?_
    refine Y_goto (pc := 26) (tgt := 33) dX12_failure_26 (by decide) ?_
    cases h
    exact Y_iret (pc := 33) rfl (nar_ch (by decide)) dX12_failure_33 hP1 ⟨rfl, rfl⟩
noncomputable def d_X12_failure (M : Mem) : Option (Int32 × Mem) :=
  if (mI M 69 62) = (120 : Int32) then (
    d_X12_failure_15 (0 : Int32) M)
  else (
    d_X12_failure_15 (1 : Int32) M)
theorem b_X12_failure {M z} (hP : Lay M) (h : d_X12_failure M = some z) : VV Lay k_X12_failure 0 [(0, .ref 69)] [] M z.2 (Qv (some (.int z.1)) z.2) xF := by
  unfold d_X12_failure at h
  refine Y_aload_n (pc := 0) (j := 0) dX12_failure_0 rfl rfl ?_
  refine Y_aload_n (pc := 1) (j := 0) dX12_failure_1 rfl rfl ?_
  refine Z_geti (pc := 2) dX12_failure_2 w8_128 (lk_69 hP) fi_12_62 ?_
  refine Y_bipush (pc := 5) (v := (120 : Int32)) dX12_failure_5 rfl ?_
  refine Y_icmp_ne (pc := 7) (tgt := 14) dX12_failure_7 (by decide) (fun hc1 => ?_) (fun hc1 => ?_)
  · replace h := ifF hc1 h
    refine Y_iconst (pc := 14) (v := (1 : Int32)) dX12_failure_14 rfl ?_
    refine VV.sub [0] rfl ?_
    exact b_X12_failure_15  hP h
  · replace h := ifT hc1 h
    refine Y_iconst (pc := 10) (v := (0 : Int32)) dX12_failure_10 rfl ?_
    refine Y_goto (pc := 11) (tgt := 15) dX12_failure_11 (by decide) ?_
    refine VV.sub [0] rfl ?_
    exact b_X12_failure_15  hP h
theorem v_X12_failure {M z} (hP : Lay M) (h : d_X12_failure M = some z) : CC Lay k_X12_failure [.ref 69] M z.2 (Qv (some (.int z.1)) z.2) xF :=
  CC.ofVV (by decide) rfl (Nat.le_of_ble_eq_true rfl) (b_X12_failure hP h)
noncomputable def d_X12_line (M : Mem) : Option (Int32 × Mem) :=
  bnd (sI M 69 0 (0 : Int32)) fun M1 =>
  if (mI M1 69 62) = (120 : Int32) then (
    some ((mI M1 69 66), M1))
  else (
    (d_X12_fails (1 : Int32) M1).bind fun y1 =>
    some (y1.1, y1.2))
theorem b_X12_line {M z} (hP : Lay M) (h : d_X12_line M = some z) : VV Lay k_X12_line 0 [(0, .ref 69)] [] M z.2 (Qv (some (.int z.1)) z.2) xF := by
  unfold d_X12_line at h
  refine Y_aload_n (pc := 0) (j := 0) dX12_line_0 rfl rfl ?_
  refine Y_iconst (pc := 1) (v := (0 : Int32)) dX12_line_1 rfl ?_
  refine Z_puti (pc := 2) dX12_line_2 w8_66 (lk_69 hP) fi_12_0 (Or.inl rfl) rfl ?_
  obtain ⟨M1, eM1, h⟩ := bndE h
  refine VV.mem eM1 ?_
  have hP1 := hP.wI eM1
  refine Y_aload_n (pc := 5) (j := 0) dX12_line_5 rfl rfl ?_
  refine Z_geti (pc := 6) dX12_line_6 w8_128 (lk_69 hP1) fi_12_62 ?_
  refine Y_bipush (pc := 9) (v := (120 : Int32)) dX12_line_9 rfl ?_
  refine Y_icmp_ne (pc := 11) (tgt := 21) dX12_line_11 (by decide) (fun hc1 => ?_) (fun hc1 => ?_)
  · replace h := ifF hc1 h
    refine Y_aload_n (pc := 21) (j := 0) dX12_line_21 rfl rfl ?_
    refine Y_iconst (pc := 22) (v := (1 : Int32)) dX12_line_22 rfl ?_
    obtain ⟨y1, qy1, h⟩ := bindE h
    have cy1 := v_X12_fails hP1 qy1
    refine C_V1r (pc := 23) (k' := k_X12_fails) dX12_line_23 w9_113 i_X12_fails (lk_69 hP1) ⟨Nat.le_of_ble_eq_true rfl, Nat.le_of_ble_eq_true rfl⟩ rfl (Nat.le_of_ble_eq_true rfl) (Nat.le_of_ble_eq_true rfl) (Nat.le_of_ble_eq_true rfl) (cy1) ?_
    have hPy1 := cy1.1.1
    cases h
    exact Y_iret (pc := 26) rfl rfl dX12_line_26 hPy1 ⟨rfl, rfl⟩
  · replace h := ifT hc1 h
    refine Y_aload_n (pc := 14) (j := 0) dX12_line_14 rfl rfl ?_
    refine Z_geti (pc := 15) dX12_line_15 w8_132 (lk_69 hP1) fi_12_66 ?_
    refine Y_goto (pc := 18) (tgt := 26) dX12_line_18 (by decide) ?_
    cases h
    exact Y_iret (pc := 26) rfl rfl dX12_line_26 hP1 ⟨rfl, rfl⟩
theorem v_X12_line {M z} (hP : Lay M) (h : d_X12_line M = some z) : CC Lay k_X12_line [.ref 69] M z.2 (Qv (some (.int z.1)) z.2) xF :=
  CC.ofVV (by decide) rfl (Nat.le_of_ble_eq_true rfl) (b_X12_line hP h)
noncomputable def d_X12_told_ (M : Mem) : Option (Int32 × Mem) :=
  bnd (sI M 69 0 (0 : Int32)) fun M1 =>
  some ((mI M1 69 59), M1)
theorem b_X12_told_ {M z} (hP : Lay M) (h : d_X12_told_ M = some z) : VV Lay k_X12_told_ 0 [(0, .ref 69)] [] M z.2 (Qv (some (.int z.1)) z.2) xF := by
  unfold d_X12_told_ at h
  refine Y_aload_n (pc := 0) (j := 0) dX12_told__0 rfl rfl ?_
  refine Y_iconst (pc := 1) (v := (0 : Int32)) dX12_told__1 rfl ?_
  refine Z_puti (pc := 2) dX12_told__2 w8_66 (lk_69 hP) fi_12_0 (Or.inl rfl) rfl ?_
  obtain ⟨M1, eM1, h⟩ := bndE h
  refine VV.mem eM1 ?_
  have hP1 := hP.wI eM1
  refine Y_aload_n (pc := 5) (j := 0) dX12_told__5 rfl rfl ?_
  refine Z_geti (pc := 6) dX12_told__6 w8_125 (lk_69 hP1) fi_12_59 ?_
  cases h
  exact Y_iret (pc := 9) rfl rfl dX12_told__9 hP1 ⟨rfl, rfl⟩
theorem v_X12_told_ {M z} (hP : Lay M) (h : d_X12_told_ M = some z) : CC Lay k_X12_told_ [.ref 69] M z.2 (Qv (some (.int z.1)) z.2) xF :=
  CC.ofVV (by decide) rfl (Nat.le_of_ble_eq_true rfl) (b_X12_told_ hP h)
noncomputable def d_X12_toldKind_20 (x1 : Int32) (s1 : Int32) (M : Mem) : Option (Int32 × Mem) :=
  bnd (sI M 69 0 s1) fun M1 =>
  if (mI M1 69 0) ≤ 0 then (
    okk (vp_in x1 20) <|
    okk (isCh (mI M1 116 x1.toNatClampNeg)) <|
    some ((mI M1 116 x1.toNatClampNeg), M1))
  else (
    some ((0 : Int32), M1))
theorem b_X12_toldKind_20 {x1 : Int32} {s1 : Int32} {M z} (hP : Lay M) (h : d_X12_toldKind_20 x1 s1 M = some z) : VV Lay k_X12_toldKind 20 [(0, .ref 69), (1, .int x1)] [.int s1, .ref 69] M z.2 (Qv (some (.int z.1)) z.2) xF := by
  unfold d_X12_toldKind_20 at h
  refine Z_puti (pc := 20) dX12_toldKind_20 w8_66 (lk_69 hP) fi_12_0 (Or.inl rfl) rfl ?_
  obtain ⟨M1, eM1, h⟩ := bndE h
  refine VV.mem eM1 ?_
  have hP1 := hP.wI eM1
  refine Y_aload_n (pc := 23) (j := 0) dX12_toldKind_23 rfl rfl ?_
  refine Z_geti (pc := 24) dX12_toldKind_24 w8_66 (lk_69 hP1) fi_12_0 ?_
  refine Y_if_le (pc := 27) (tgt := 34) dX12_toldKind_27 (by decide) (fun hc1 => ?_) (fun hc1 => ?_)
  · replace h := ifT hc1 h
    refine Y_aload_n (pc := 34) (j := 0) dX12_toldKind_34 rfl rfl ?_
    refine Z_getr (pc := 35) dX12_toldKind_35 w8_126 (lk_69 hP1) fr_12_60 (lr_69_60 hP1) ?_
    refine Y_iload_n (pc := 38) (j := 1) dX12_toldKind_38 rfl rfl ?_
    obtain ⟨hb1, h⟩ := okE h
    refine Y_cald (pc := 39) dX12_toldKind_39 (lk_116 hP1) (ln_116 hP1) hb1 ?_
    obtain ⟨hb2, h⟩ := okE h
    cases h
    exact Y_iret (pc := 40) rfl (nar_ch hb2) dX12_toldKind_40 hP1 ⟨rfl, rfl⟩
  · replace h := ifF hc1 h
    refine Y_iconst (pc := 30) (v := (0 : Int32)) dX12_toldKind_30 rfl ?_
    refine Y_goto (pc := 31) (tgt := 40) dX12_toldKind_31 (by decide) ?_
    cases h
    exact Y_iret (pc := 40) rfl (nar_ch (by decide)) dX12_toldKind_40 hP1 ⟨rfl, rfl⟩
noncomputable def d_X12_toldKind (x1 : Int32) (M : Mem) : Option (Int32 × Mem) :=
  (d_X12_in x1 (0 : Int32) ((mI M 69 59) - (1 : Int32)) M).bind fun y1 =>
  if y1.1 = 0 then (
    d_X12_toldKind_20 x1 (1 : Int32) y1.2)
  else (
    d_X12_toldKind_20 x1 (0 : Int32) y1.2)
theorem b_X12_toldKind {x1 : Int32} {M z} (hP : Lay M) (h : d_X12_toldKind x1 M = some z) : VV Lay k_X12_toldKind 0 [(0, .ref 69), (1, .int x1)] [] M z.2 (Qv (some (.int z.1)) z.2) xF := by
  unfold d_X12_toldKind at h
  refine Y_aload_n (pc := 0) (j := 0) dX12_toldKind_0 rfl rfl ?_
  refine Y_iload_n (pc := 1) (j := 1) dX12_toldKind_1 rfl rfl ?_
  refine Y_iconst (pc := 2) (v := (0 : Int32)) dX12_toldKind_2 rfl ?_
  refine Y_aload_n (pc := 3) (j := 0) dX12_toldKind_3 rfl rfl ?_
  refine Z_geti (pc := 4) dX12_toldKind_4 w8_125 (lk_69 hP) fi_12_59 ?_
  refine Y_iconst (pc := 7) (v := (1 : Int32)) dX12_toldKind_7 rfl ?_
  refine Y_isub (pc := 8) dX12_toldKind_8 ?_
  obtain ⟨y1, qy1, h⟩ := bindE h
  have cy1 := v_X12_in hP qy1
  refine C_S3r (pc := 9) (k' := k_X12_in) dX12_toldKind_9 w9_110 i_X12_in (Nat.le_of_ble_eq_true rfl) (Nat.le_of_ble_eq_true rfl) (Nat.le_of_ble_eq_true rfl) (cy1) ?_
  have hPy1 := cy1.1.1
  refine Y_if_eq (pc := 12) (tgt := 19) dX12_toldKind_12 (by decide) (fun hc1 => ?_) (fun hc1 => ?_)
  · replace h := ifT hc1 h
    refine Y_iconst (pc := 19) (v := (1 : Int32)) dX12_toldKind_19 rfl ?_
    refine VV.sub [0, 1] rfl ?_
    exact b_X12_toldKind_20  hPy1 h
  · replace h := ifF hc1 h
    refine Y_iconst (pc := 15) (v := (0 : Int32)) dX12_toldKind_15 rfl ?_
    refine Y_goto (pc := 16) (tgt := 20) dX12_toldKind_16 (by decide) ?_
    refine VV.sub [0, 1] rfl ?_
    exact b_X12_toldKind_20  hPy1 h
theorem v_X12_toldKind {x1 : Int32} {M z} (hP : Lay M) (h : d_X12_toldKind x1 M = some z) : CC Lay k_X12_toldKind [.ref 69, .int x1] M z.2 (Qv (some (.int z.1)) z.2) xF :=
  CC.ofVV (by decide) rfl (Nat.le_of_ble_eq_true rfl) (b_X12_toldKind hP h)
noncomputable def d_X12_toldAt_20 (x1 : Int32) (s1 : Int32) (M : Mem) : Option (Int64 × Mem) :=
  bnd (sI M 69 0 s1) fun M1 =>
  if (mI M1 69 0) ≤ 0 then (
    okk (vp_in x1 20) <|
    some ((mL M1 117 x1.toNatClampNeg), M1))
  else (
    some ((0 : Int64), M1))
theorem b_X12_toldAt_20 {x1 : Int32} {s1 : Int32} {M z} (hP : Lay M) (h : d_X12_toldAt_20 x1 s1 M = some z) : VV Lay k_X12_toldAt 20 [(0, .ref 69), (1, .int x1)] [.int s1, .ref 69] M z.2 (Qv (some (.long z.1)) z.2) xF := by
  unfold d_X12_toldAt_20 at h
  refine Z_puti (pc := 20) dX12_toldAt_20 w8_66 (lk_69 hP) fi_12_0 (Or.inl rfl) rfl ?_
  obtain ⟨M1, eM1, h⟩ := bndE h
  refine VV.mem eM1 ?_
  have hP1 := hP.wI eM1
  refine Y_aload_n (pc := 23) (j := 0) dX12_toldAt_23 rfl rfl ?_
  refine Z_geti (pc := 24) dX12_toldAt_24 w8_66 (lk_69 hP1) fi_12_0 ?_
  refine Y_if_le (pc := 27) (tgt := 34) dX12_toldAt_27 (by decide) (fun hc1 => ?_) (fun hc1 => ?_)
  · replace h := ifT hc1 h
    refine Y_aload_n (pc := 34) (j := 0) dX12_toldAt_34 rfl rfl ?_
    refine Z_getr (pc := 35) dX12_toldAt_35 w8_127 (lk_69 hP1) fr_12_61 (lr_69_61 hP1) ?_
    refine Y_iload_n (pc := 38) (j := 1) dX12_toldAt_38 rfl rfl ?_
    obtain ⟨hb1, h⟩ := okE h
    refine Y_lald (pc := 39) dX12_toldAt_39 (lk_117 hP1) (ln_117 hP1) hb1 ?_
    cases h
    exact Y_lret (pc := 40) rfl dX12_toldAt_40 hP1 ⟨rfl, rfl⟩
  · replace h := ifF hc1 h
    refine Y_lconst (pc := 30) (v := (0 : Int64)) dX12_toldAt_30 rfl ?_
    refine Y_goto (pc := 31) (tgt := 40) dX12_toldAt_31 (by decide) ?_
    cases h
    exact Y_lret (pc := 40) rfl dX12_toldAt_40 hP1 ⟨rfl, rfl⟩
noncomputable def d_X12_toldAt (x1 : Int32) (M : Mem) : Option (Int64 × Mem) :=
  (d_X12_in x1 (0 : Int32) ((mI M 69 59) - (1 : Int32)) M).bind fun y1 =>
  if y1.1 = 0 then (
    d_X12_toldAt_20 x1 (1 : Int32) y1.2)
  else (
    d_X12_toldAt_20 x1 (0 : Int32) y1.2)
theorem b_X12_toldAt {x1 : Int32} {M z} (hP : Lay M) (h : d_X12_toldAt x1 M = some z) : VV Lay k_X12_toldAt 0 [(0, .ref 69), (1, .int x1)] [] M z.2 (Qv (some (.long z.1)) z.2) xF := by
  unfold d_X12_toldAt at h
  refine Y_aload_n (pc := 0) (j := 0) dX12_toldAt_0 rfl rfl ?_
  refine Y_iload_n (pc := 1) (j := 1) dX12_toldAt_1 rfl rfl ?_
  refine Y_iconst (pc := 2) (v := (0 : Int32)) dX12_toldAt_2 rfl ?_
  refine Y_aload_n (pc := 3) (j := 0) dX12_toldAt_3 rfl rfl ?_
  refine Z_geti (pc := 4) dX12_toldAt_4 w8_125 (lk_69 hP) fi_12_59 ?_
  refine Y_iconst (pc := 7) (v := (1 : Int32)) dX12_toldAt_7 rfl ?_
  refine Y_isub (pc := 8) dX12_toldAt_8 ?_
  obtain ⟨y1, qy1, h⟩ := bindE h
  have cy1 := v_X12_in hP qy1
  refine C_S3r (pc := 9) (k' := k_X12_in) dX12_toldAt_9 w9_110 i_X12_in (Nat.le_of_ble_eq_true rfl) (Nat.le_of_ble_eq_true rfl) (Nat.le_of_ble_eq_true rfl) (cy1) ?_
  have hPy1 := cy1.1.1
  refine Y_if_eq (pc := 12) (tgt := 19) dX12_toldAt_12 (by decide) (fun hc1 => ?_) (fun hc1 => ?_)
  · replace h := ifT hc1 h
    refine Y_iconst (pc := 19) (v := (1 : Int32)) dX12_toldAt_19 rfl ?_
    refine VV.sub [0, 1] rfl ?_
    exact b_X12_toldAt_20  hPy1 h
  · replace h := ifF hc1 h
    refine Y_iconst (pc := 15) (v := (0 : Int32)) dX12_toldAt_15 rfl ?_
    refine Y_goto (pc := 16) (tgt := 20) dX12_toldAt_16 (by decide) ?_
    refine VV.sub [0, 1] rfl ?_
    exact b_X12_toldAt_20  hPy1 h
theorem v_X12_toldAt {x1 : Int32} {M z} (hP : Lay M) (h : d_X12_toldAt x1 M = some z) : CC Lay k_X12_toldAt [.ref 69, .int x1] M z.2 (Qv (some (.long z.1)) z.2) xF :=
  CC.ofVV (by decide) rfl (Nat.le_of_ble_eq_true rfl) (b_X12_toldAt hP h)
noncomputable def d_X12_objects (M : Mem) : Option (Int32 × Mem) :=
  bnd (sI M 69 0 (0 : Int32)) fun M1 =>
  some ((mI M1 69 52), M1)
theorem b_X12_objects {M z} (hP : Lay M) (h : d_X12_objects M = some z) : VV Lay k_X12_objects 0 [(0, .ref 69)] [] M z.2 (Qv (some (.int z.1)) z.2) xF := by
  unfold d_X12_objects at h
  refine Y_aload_n (pc := 0) (j := 0) dX12_objects_0 rfl rfl ?_
  refine Y_iconst (pc := 1) (v := (0 : Int32)) dX12_objects_1 rfl ?_
  refine Z_puti (pc := 2) dX12_objects_2 w8_66 (lk_69 hP) fi_12_0 (Or.inl rfl) rfl ?_
  obtain ⟨M1, eM1, h⟩ := bndE h
  refine VV.mem eM1 ?_
  have hP1 := hP.wI eM1
  refine Y_aload_n (pc := 5) (j := 0) dX12_objects_5 rfl rfl ?_
  refine Z_geti (pc := 6) dX12_objects_6 w8_118 (lk_69 hP1) fi_12_52 ?_
  cases h
  exact Y_iret (pc := 9) rfl rfl dX12_objects_9 hP1 ⟨rfl, rfl⟩
theorem v_X12_objects {M z} (hP : Lay M) (h : d_X12_objects M = some z) : CC Lay k_X12_objects [.ref 69] M z.2 (Qv (some (.int z.1)) z.2) xF :=
  CC.ofVV (by decide) rfl (Nat.le_of_ble_eq_true rfl) (b_X12_objects hP h)
noncomputable def d_X12_shapeOf (x1 : Int32) (M : Mem) : Option (Int32 × Mem) :=
  bnd (sI M 69 0 (0 : Int32)) fun M1 =>
  (d_X12_in x1 (0 : Int32) ((mI M1 69 52) - (1 : Int32)) M1).bind fun y1 =>
  if y1.1 = 0 then (
    (d_X12_fails (1 : Int32) y1.2).bind fun y2 =>
    some (y2.1, y2.2))
  else (
    okk (vp_in x1 60) <|
    some ((mI y1.2 112 x1.toNatClampNeg), y1.2))
theorem b_X12_shapeOf {x1 : Int32} {M z} (hP : Lay M) (h : d_X12_shapeOf x1 M = some z) : VV Lay k_X12_shapeOf 0 [(0, .ref 69), (1, .int x1)] [] M z.2 (Qv (some (.int z.1)) z.2) xF := by
  unfold d_X12_shapeOf at h
  refine Y_aload_n (pc := 0) (j := 0) dX12_shapeOf_0 rfl rfl ?_
  refine Y_iconst (pc := 1) (v := (0 : Int32)) dX12_shapeOf_1 rfl ?_
  refine Z_puti (pc := 2) dX12_shapeOf_2 w8_66 (lk_69 hP) fi_12_0 (Or.inl rfl) rfl ?_
  obtain ⟨M1, eM1, h⟩ := bndE h
  refine VV.mem eM1 ?_
  have hP1 := hP.wI eM1
  refine Y_iload_n (pc := 5) (j := 1) dX12_shapeOf_5 rfl rfl ?_
  refine Y_iconst (pc := 6) (v := (0 : Int32)) dX12_shapeOf_6 rfl ?_
  refine Y_aload_n (pc := 7) (j := 0) dX12_shapeOf_7 rfl rfl ?_
  refine Z_geti (pc := 8) dX12_shapeOf_8 w8_118 (lk_69 hP1) fi_12_52 ?_
  refine Y_iconst (pc := 11) (v := (1 : Int32)) dX12_shapeOf_11 rfl ?_
  refine Y_isub (pc := 12) dX12_shapeOf_12 ?_
  obtain ⟨y1, qy1, h⟩ := bindE h
  have cy1 := v_X12_in hP1 qy1
  refine C_S3r (pc := 13) (k' := k_X12_in) dX12_shapeOf_13 w9_110 i_X12_in (Nat.le_of_ble_eq_true rfl) (Nat.le_of_ble_eq_true rfl) (Nat.le_of_ble_eq_true rfl) (cy1) ?_
  have hPy1 := cy1.1.1
  refine Y_if_eq (pc := 16) (tgt := 28) dX12_shapeOf_16 (by decide) (fun hc1 => ?_) (fun hc1 => ?_)
  · replace h := ifT hc1 h
    refine Y_aload_n (pc := 28) (j := 0) dX12_shapeOf_28 rfl rfl ?_
    refine Y_iconst (pc := 29) (v := (1 : Int32)) dX12_shapeOf_29 rfl ?_
    obtain ⟨y2, qy2, h⟩ := bindE h
    have cy2 := v_X12_fails hPy1 qy2
    refine C_V1r (pc := 30) (k' := k_X12_fails) dX12_shapeOf_30 w9_113 i_X12_fails (lk_69 hPy1) ⟨Nat.le_of_ble_eq_true rfl, Nat.le_of_ble_eq_true rfl⟩ rfl (Nat.le_of_ble_eq_true rfl) (Nat.le_of_ble_eq_true rfl) (Nat.le_of_ble_eq_true rfl) (cy2) ?_
    have hPy2 := cy2.1.1
    cases h
    exact Y_iret (pc := 33) rfl rfl dX12_shapeOf_33 hPy2 ⟨rfl, rfl⟩
  · replace h := ifF hc1 h
    refine Y_aload_n (pc := 19) (j := 0) dX12_shapeOf_19 rfl rfl ?_
    refine Z_getr (pc := 20) dX12_shapeOf_20 w8_119 (lk_69 hPy1) fr_12_53 (lr_69_53 hPy1) ?_
    refine Y_iload_n (pc := 23) (j := 1) dX12_shapeOf_23 rfl rfl ?_
    obtain ⟨hb1, h⟩ := okE h
    refine Y_iald (pc := 24) dX12_shapeOf_24 (lk_112 hPy1) (ln_112 hPy1) hb1 ?_
    refine Y_goto (pc := 25) (tgt := 33) dX12_shapeOf_25 (by decide) ?_
    cases h
    exact Y_iret (pc := 33) rfl rfl dX12_shapeOf_33 hPy1 ⟨rfl, rfl⟩
theorem v_X12_shapeOf {x1 : Int32} {M z} (hP : Lay M) (h : d_X12_shapeOf x1 M = some z) : CC Lay k_X12_shapeOf [.ref 69, .int x1] M z.2 (Qv (some (.int z.1)) z.2) xF :=
  CC.ofVV (by decide) rfl (Nat.le_of_ble_eq_true rfl) (b_X12_shapeOf hP h)
noncomputable def d_X12_field_47 (x1 : Int32) (x2 : Int32) (s1 : Int32) (M : Mem) : Option (Int64 × Mem) :=
  bnd (sI M 69 0 s1) fun M1 =>
  if (mI M1 69 0) ≤ 0 then (
    okk (vp_in (((6 : Int32) * x1) + x2) 360) <|
    okk (vp_in (((6 : Int32) * x1) + x2) 360) <|
    okk (vp_in (((6 : Int32) * x1) + x2) 360) <|
    (d_X12_told (mI M1 113 (((6 : Int32) * x1) + x2).toNatClampNeg) (mI M1 114 (((6 : Int32) * x1) + x2).toNatClampNeg) (mD M1 115 (((6 : Int32) * x1) + x2).toNatClampNeg) M1).bind fun y1 =>
    some (y1.1, y1.2))
  else (
    some ((0 : Int64), M1))
theorem b_X12_field_47 {x1 : Int32} {x2 : Int32} {s1 : Int32} {M z} (hP : Lay M) (h : d_X12_field_47 x1 x2 s1 M = some z) : VV Lay k_X12_field 47 [(0, .ref 69), (1, .int x1), (2, .int x2)] [.int s1, .ref 69] M z.2 (Qv (some (.long z.1)) z.2) xF := by
  unfold d_X12_field_47 at h
  refine Z_puti (pc := 47) dX12_field_47 w8_66 (lk_69 hP) fi_12_0 (Or.inl rfl) rfl ?_
  obtain ⟨M1, eM1, h⟩ := bndE h
  refine VV.mem eM1 ?_
  have hP1 := hP.wI eM1
  refine Y_aload_n (pc := 50) (j := 0) dX12_field_50 rfl rfl ?_
  refine Z_geti (pc := 51) dX12_field_51 w8_66 (lk_69 hP1) fi_12_0 ?_
  refine Y_if_le (pc := 54) (tgt := 61) dX12_field_54 (by decide) (fun hc1 => ?_) (fun hc1 => ?_)
  · replace h := ifT hc1 h
    refine Y_aload_n (pc := 61) (j := 0) dX12_field_61 rfl rfl ?_
    refine Z_getr (pc := 62) dX12_field_62 w8_120 (lk_69 hP1) fr_12_54 (lr_69_54 hP1) ?_
    refine Y_bipush (pc := 65) (v := (6 : Int32)) dX12_field_65 rfl ?_
    refine Y_iload_n (pc := 67) (j := 1) dX12_field_67 rfl rfl ?_
    refine Y_imul (pc := 68) dX12_field_68 ?_
    refine Y_iload_n (pc := 69) (j := 2) dX12_field_69 rfl rfl ?_
    refine Y_iadd (pc := 70) dX12_field_70 ?_
    obtain ⟨hb1, h⟩ := okE h
    refine Y_cald (pc := 71) dX12_field_71 (lk_113 hP1) (ln_113 hP1) hb1 ?_
    refine Y_aload_n (pc := 72) (j := 0) dX12_field_72 rfl rfl ?_
    refine Z_getr (pc := 73) dX12_field_73 w8_121 (lk_69 hP1) fr_12_55 (lr_69_55 hP1) ?_
    refine Y_bipush (pc := 76) (v := (6 : Int32)) dX12_field_76 rfl ?_
    refine Y_iload_n (pc := 78) (j := 1) dX12_field_78 rfl rfl ?_
    refine Y_imul (pc := 79) dX12_field_79 ?_
    refine Y_iload_n (pc := 80) (j := 2) dX12_field_80 rfl rfl ?_
    refine Y_iadd (pc := 81) dX12_field_81 ?_
    obtain ⟨hb2, h⟩ := okE h
    refine Y_iald (pc := 82) dX12_field_82 (lk_114 hP1) (ln_114 hP1) hb2 ?_
    refine Y_aload_n (pc := 83) (j := 0) dX12_field_83 rfl rfl ?_
    refine Z_getr (pc := 84) dX12_field_84 w8_122 (lk_69 hP1) fr_12_56 (lr_69_56 hP1) ?_
    refine Y_bipush (pc := 87) (v := (6 : Int32)) dX12_field_87 rfl ?_
    refine Y_iload_n (pc := 89) (j := 1) dX12_field_89 rfl rfl ?_
    refine Y_imul (pc := 90) dX12_field_90 ?_
    refine Y_iload_n (pc := 91) (j := 2) dX12_field_91 rfl rfl ?_
    refine Y_iadd (pc := 92) dX12_field_92 ?_
    obtain ⟨hb3, h⟩ := okE h
    refine Y_dald (pc := 93) dX12_field_93 (lk_115 hP1) (ln_115 hP1) hb3 ?_
    obtain ⟨y1, qy1, h⟩ := bindE h
    have cy1 := v_X12_told hP1 qy1
    refine C_S3r (pc := 94) (k' := k_X12_told) dX12_field_94 w10_87 i_X12_told (Nat.le_of_ble_eq_true rfl) (Nat.le_of_ble_eq_true rfl) (Nat.le_of_ble_eq_true rfl) (cy1) ?_
    have hPy1 := cy1.1.1
    cases h
    exact Y_lret (pc := 97) rfl dX12_field_97 hPy1 ⟨rfl, rfl⟩
  · replace h := ifF hc1 h
    refine Y_lconst (pc := 57) (v := (0 : Int64)) dX12_field_57 rfl ?_
    refine Y_goto (pc := 58) (tgt := 97) dX12_field_58 (by decide) ?_
    cases h
    exact Y_lret (pc := 97) rfl dX12_field_97 hP1 ⟨rfl, rfl⟩
noncomputable def d_X12_field_42 (x1 : Int32) (x2 : Int32) (M : Mem) : Option (Int64 × Mem) :=
  d_X12_field_47 x1 x2 (2 : Int32) M
theorem b_X12_field_42 {x1 : Int32} {x2 : Int32} {M z} (hP : Lay M) (h : d_X12_field_42 x1 x2 M = some z) : VV Lay k_X12_field 42 [(0, .ref 69), (1, .int x1), (2, .int x2)] [.ref 69] M z.2 (Qv (some (.long z.1)) z.2) xF := by
  unfold d_X12_field_42 at h
  refine Y_iconst (pc := 42) (v := (2 : Int32)) dX12_field_42 rfl ?_
  refine Y_goto (pc := 43) (tgt := 47) dX12_field_43 (by decide) ?_
  refine VV.sub [0, 1, 2] rfl ?_
  exact b_X12_field_47  hP h
noncomputable def d_X12_field (x1 : Int32) (x2 : Int32) (M : Mem) : Option (Int64 × Mem) :=
  (d_X12_in x1 (0 : Int32) ((mI M 69 52) - (1 : Int32)) M).bind fun y1 =>
  if y1.1 = 0 then (
    d_X12_field_47 x1 x2 (1 : Int32) y1.2)
  else (
    (d_X12_in x2 (0 : Int32) (5 : Int32) y1.2).bind fun y2 =>
    if y2.1 = 0 then (
      d_X12_field_42 x1 x2 y2.2)
    else (
      okk (vp_in x1 60) <|
      (d_X12_hasField (mI y2.2 112 x1.toNatClampNeg) x2 y2.2).bind fun y3 =>
      if y3.1 = 0 then (
        d_X12_field_42 x1 x2 y3.2)
      else (
        d_X12_field_47 x1 x2 (0 : Int32) y3.2)))
theorem b_X12_field {x1 : Int32} {x2 : Int32} {M z} (hP : Lay M) (h : d_X12_field x1 x2 M = some z) : VV Lay k_X12_field 0 [(0, .ref 69), (1, .int x1), (2, .int x2)] [] M z.2 (Qv (some (.long z.1)) z.2) xF := by
  unfold d_X12_field at h
  refine Y_aload_n (pc := 0) (j := 0) dX12_field_0 rfl rfl ?_
  refine Y_iload_n (pc := 1) (j := 1) dX12_field_1 rfl rfl ?_
  refine Y_iconst (pc := 2) (v := (0 : Int32)) dX12_field_2 rfl ?_
  refine Y_aload_n (pc := 3) (j := 0) dX12_field_3 rfl rfl ?_
  refine Z_geti (pc := 4) dX12_field_4 w8_118 (lk_69 hP) fi_12_52 ?_
  refine Y_iconst (pc := 7) (v := (1 : Int32)) dX12_field_7 rfl ?_
  refine Y_isub (pc := 8) dX12_field_8 ?_
  obtain ⟨y1, qy1, h⟩ := bindE h
  have cy1 := v_X12_in hP qy1
  refine C_S3r (pc := 9) (k' := k_X12_in) dX12_field_9 w9_110 i_X12_in (Nat.le_of_ble_eq_true rfl) (Nat.le_of_ble_eq_true rfl) (Nat.le_of_ble_eq_true rfl) (cy1) ?_
  have hPy1 := cy1.1.1
  refine Y_if_ne (pc := 12) (tgt := 19) dX12_field_12 (by decide) (fun hc1 => ?_) (fun hc1 => ?_)
  · replace h := ifF hc1 h
    refine Y_iload_n (pc := 19) (j := 2) dX12_field_19 rfl rfl ?_
    refine Y_iconst (pc := 20) (v := (0 : Int32)) dX12_field_20 rfl ?_
    refine Y_iconst (pc := 21) (v := (5 : Int32)) dX12_field_21 rfl ?_
    obtain ⟨y2, qy2, h⟩ := bindE h
    have cy2 := v_X12_in hPy1 qy2
    refine C_S3r (pc := 22) (k' := k_X12_in) dX12_field_22 w9_110 i_X12_in (Nat.le_of_ble_eq_true rfl) (Nat.le_of_ble_eq_true rfl) (Nat.le_of_ble_eq_true rfl) (cy2) ?_
    have hPy2 := cy2.1.1
    refine Y_if_eq (pc := 25) (tgt := 42) dX12_field_25 (by decide) (fun hc2 => ?_) (fun hc2 => ?_)
    · replace h := ifT hc2 h
      refine VV.sub [0, 1, 2] rfl ?_
      exact b_X12_field_42  hPy2 h
    · replace h := ifF hc2 h
      refine Y_aload_n (pc := 28) (j := 0) dX12_field_28 rfl rfl ?_
      refine Y_aload_n (pc := 29) (j := 0) dX12_field_29 rfl rfl ?_
      refine Z_getr (pc := 30) dX12_field_30 w8_119 (lk_69 hPy2) fr_12_53 (lr_69_53 hPy2) ?_
      refine Y_iload_n (pc := 33) (j := 1) dX12_field_33 rfl rfl ?_
      obtain ⟨hb1, h⟩ := okE h
      refine Y_iald (pc := 34) dX12_field_34 (lk_112 hPy2) (ln_112 hPy2) hb1 ?_
      refine Y_iload_n (pc := 35) (j := 2) dX12_field_35 rfl rfl ?_
      obtain ⟨y3, qy3, h⟩ := bindE h
      have cy3 := v_X12_hasField hPy2 qy3
      refine C_V2r (pc := 36) (k' := k_X12_hasField) dX12_field_36 w9_233 i_X12_hasField (lk_69 hPy2) ⟨Nat.le_of_ble_eq_true rfl, Nat.le_of_ble_eq_true rfl⟩ rfl (Nat.le_of_ble_eq_true rfl) (Nat.le_of_ble_eq_true rfl) (Nat.le_of_ble_eq_true rfl) (cy3) ?_
      have hPy3 := cy3.1.1
      refine Y_if_ne (pc := 39) (tgt := 46) dX12_field_39 (by decide) (fun hc3 => ?_) (fun hc3 => ?_)
      · replace h := ifF hc3 h
        refine Y_iconst (pc := 46) (v := (0 : Int32)) dX12_field_46 rfl ?_
        refine VV.sub [0, 1, 2] rfl ?_
        exact b_X12_field_47  hPy3 h
      · replace h := ifT hc3 h
        refine VV.sub [0, 1, 2] rfl ?_
        exact b_X12_field_42  hPy3 h
  · replace h := ifT hc1 h
    refine Y_iconst (pc := 15) (v := (1 : Int32)) dX12_field_15 rfl ?_
    refine Y_goto (pc := 16) (tgt := 47) dX12_field_16 (by decide) ?_
    refine VV.sub [0, 1, 2] rfl ?_
    exact b_X12_field_47  hPy1 h
theorem v_X12_field {x1 : Int32} {x2 : Int32} {M z} (hP : Lay M) (h : d_X12_field x1 x2 M = some z) : CC Lay k_X12_field [.ref 69, .int x1, .int x2] M z.2 (Qv (some (.long z.1)) z.2) xF :=
  CC.ofVV (by decide) rfl (Nat.le_of_ble_eq_true rfl) (b_X12_field hP h)
noncomputable def d_X12_shapes (M : Mem) : Option (Int32 × Mem) :=
  bnd (sI M 69 0 (0 : Int32)) fun M1 =>
  some ((mI M1 69 12), M1)
theorem b_X12_shapes {M z} (hP : Lay M) (h : d_X12_shapes M = some z) : VV Lay k_X12_shapes 0 [(0, .ref 69)] [] M z.2 (Qv (some (.int z.1)) z.2) xF := by
  unfold d_X12_shapes at h
  refine Y_aload_n (pc := 0) (j := 0) dX12_shapes_0 rfl rfl ?_
  refine Y_iconst (pc := 1) (v := (0 : Int32)) dX12_shapes_1 rfl ?_
  refine Z_puti (pc := 2) dX12_shapes_2 w8_66 (lk_69 hP) fi_12_0 (Or.inl rfl) rfl ?_
  obtain ⟨M1, eM1, h⟩ := bndE h
  refine VV.mem eM1 ?_
  have hP1 := hP.wI eM1
  refine Y_aload_n (pc := 5) (j := 0) dX12_shapes_5 rfl rfl ?_
  refine Z_geti (pc := 6) dX12_shapes_6 w8_78 (lk_69 hP1) fi_12_12 ?_
  cases h
  exact Y_iret (pc := 9) rfl rfl dX12_shapes_9 hP1 ⟨rfl, rfl⟩
theorem v_X12_shapes {M z} (hP : Lay M) (h : d_X12_shapes M = some z) : CC Lay k_X12_shapes [.ref 69] M z.2 (Qv (some (.int z.1)) z.2) xF :=
  CC.ofVV (by decide) rfl (Nat.le_of_ble_eq_true rfl) (b_X12_shapes hP h)
noncomputable def d_X12_fields (x1 : Int32) (M : Mem) : Option (Int32 × Mem) :=
  bnd (sI M 69 0 (0 : Int32)) fun M1 =>
  (d_X12_in x1 (0 : Int32) ((mI M1 69 12) - (1 : Int32)) M1).bind fun y1 =>
  if y1.1 = 0 then (
    (d_X12_fails (1 : Int32) y1.2).bind fun y2 =>
    some (y2.1, y2.2))
  else (
    okk (vp_in x1 60) <|
    some ((mI y1.2 80 x1.toNatClampNeg), y1.2))
theorem b_X12_fields {x1 : Int32} {M z} (hP : Lay M) (h : d_X12_fields x1 M = some z) : VV Lay k_X12_fields 0 [(0, .ref 69), (1, .int x1)] [] M z.2 (Qv (some (.int z.1)) z.2) xF := by
  unfold d_X12_fields at h
  refine Y_aload_n (pc := 0) (j := 0) dX12_fields_0 rfl rfl ?_
  refine Y_iconst (pc := 1) (v := (0 : Int32)) dX12_fields_1 rfl ?_
  refine Z_puti (pc := 2) dX12_fields_2 w8_66 (lk_69 hP) fi_12_0 (Or.inl rfl) rfl ?_
  obtain ⟨M1, eM1, h⟩ := bndE h
  refine VV.mem eM1 ?_
  have hP1 := hP.wI eM1
  refine Y_iload_n (pc := 5) (j := 1) dX12_fields_5 rfl rfl ?_
  refine Y_iconst (pc := 6) (v := (0 : Int32)) dX12_fields_6 rfl ?_
  refine Y_aload_n (pc := 7) (j := 0) dX12_fields_7 rfl rfl ?_
  refine Z_geti (pc := 8) dX12_fields_8 w8_78 (lk_69 hP1) fi_12_12 ?_
  refine Y_iconst (pc := 11) (v := (1 : Int32)) dX12_fields_11 rfl ?_
  refine Y_isub (pc := 12) dX12_fields_12 ?_
  obtain ⟨y1, qy1, h⟩ := bindE h
  have cy1 := v_X12_in hP1 qy1
  refine C_S3r (pc := 13) (k' := k_X12_in) dX12_fields_13 w9_110 i_X12_in (Nat.le_of_ble_eq_true rfl) (Nat.le_of_ble_eq_true rfl) (Nat.le_of_ble_eq_true rfl) (cy1) ?_
  have hPy1 := cy1.1.1
  refine Y_if_eq (pc := 16) (tgt := 28) dX12_fields_16 (by decide) (fun hc1 => ?_) (fun hc1 => ?_)
  · replace h := ifT hc1 h
    refine Y_aload_n (pc := 28) (j := 0) dX12_fields_28 rfl rfl ?_
    refine Y_iconst (pc := 29) (v := (1 : Int32)) dX12_fields_29 rfl ?_
    obtain ⟨y2, qy2, h⟩ := bindE h
    have cy2 := v_X12_fails hPy1 qy2
    refine C_V1r (pc := 30) (k' := k_X12_fails) dX12_fields_30 w9_113 i_X12_fails (lk_69 hPy1) ⟨Nat.le_of_ble_eq_true rfl, Nat.le_of_ble_eq_true rfl⟩ rfl (Nat.le_of_ble_eq_true rfl) (Nat.le_of_ble_eq_true rfl) (Nat.le_of_ble_eq_true rfl) (cy2) ?_
    have hPy2 := cy2.1.1
    cases h
    exact Y_iret (pc := 33) rfl rfl dX12_fields_33 hPy2 ⟨rfl, rfl⟩
  · replace h := ifF hc1 h
    refine Y_aload_n (pc := 19) (j := 0) dX12_fields_19 rfl rfl ?_
    refine Z_getr (pc := 20) dX12_fields_20 w8_80 (lk_69 hPy1) fr_12_14 (lr_69_14 hPy1) ?_
    refine Y_iload_n (pc := 23) (j := 1) dX12_fields_23 rfl rfl ?_
    obtain ⟨hb1, h⟩ := okE h
    refine Y_iald (pc := 24) dX12_fields_24 (lk_80 hPy1) (ln_80 hPy1) hb1 ?_
    refine Y_goto (pc := 25) (tgt := 33) dX12_fields_25 (by decide) ?_
    cases h
    exact Y_iret (pc := 33) rfl rfl dX12_fields_33 hPy1 ⟨rfl, rfl⟩
theorem v_X12_fields {x1 : Int32} {M z} (hP : Lay M) (h : d_X12_fields x1 M = some z) : CC Lay k_X12_fields [.ref 69, .int x1] M z.2 (Qv (some (.int z.1)) z.2) xF :=
  CC.ofVV (by decide) rfl (Nat.le_of_ble_eq_true rfl) (b_X12_fields hP h)
noncomputable def d_X12_fieldAt (x1 : Int32) (x2 : Int32) (M : Mem) : Option (Int32 × Mem) :=
  bnd (sI M 69 0 (0 : Int32)) fun M1 =>
  (d_X12_in x1 (0 : Int32) ((mI M1 69 12) - (1 : Int32)) M1).bind fun y1 =>
  if y1.1 = 0 then (
    (d_X12_fails (1 : Int32) y1.2).bind fun y4 =>
    some (y4.1, y4.2))
  else (
    okk (vp_in x1 60) <|
    (d_X12_in x2 (0 : Int32) ((mI y1.2 80 x1.toNatClampNeg) - (1 : Int32)) y1.2).bind fun y2 =>
    if y2.1 = 0 then (
      (d_X12_fails (2 : Int32) y2.2).bind fun y3 =>
      some (y3.1, y3.2))
    else (
      okk (vp_in (((6 : Int32) * x1) + x2) 360) <|
      some ((mI y2.2 81 (((6 : Int32) * x1) + x2).toNatClampNeg), y2.2)))
theorem b_X12_fieldAt {x1 : Int32} {x2 : Int32} {M z} (hP : Lay M) (h : d_X12_fieldAt x1 x2 M = some z) : VV Lay k_X12_fieldAt 0 [(0, .ref 69), (1, .int x1), (2, .int x2)] [] M z.2 (Qv (some (.int z.1)) z.2) xF := by
  unfold d_X12_fieldAt at h
  refine Y_aload_n (pc := 0) (j := 0) dX12_fieldAt_0 rfl rfl ?_
  refine Y_iconst (pc := 1) (v := (0 : Int32)) dX12_fieldAt_1 rfl ?_
  refine Z_puti (pc := 2) dX12_fieldAt_2 w8_66 (lk_69 hP) fi_12_0 (Or.inl rfl) rfl ?_
  obtain ⟨M1, eM1, h⟩ := bndE h
  refine VV.mem eM1 ?_
  have hP1 := hP.wI eM1
  refine Y_iload_n (pc := 5) (j := 1) dX12_fieldAt_5 rfl rfl ?_
  refine Y_iconst (pc := 6) (v := (0 : Int32)) dX12_fieldAt_6 rfl ?_
  refine Y_aload_n (pc := 7) (j := 0) dX12_fieldAt_7 rfl rfl ?_
  refine Z_geti (pc := 8) dX12_fieldAt_8 w8_78 (lk_69 hP1) fi_12_12 ?_
  refine Y_iconst (pc := 11) (v := (1 : Int32)) dX12_fieldAt_11 rfl ?_
  refine Y_isub (pc := 12) dX12_fieldAt_12 ?_
  obtain ⟨y1, qy1, h⟩ := bindE h
  have cy1 := v_X12_in hP1 qy1
  refine C_S3r (pc := 13) (k' := k_X12_in) dX12_fieldAt_13 w9_110 i_X12_in (Nat.le_of_ble_eq_true rfl) (Nat.le_of_ble_eq_true rfl) (Nat.le_of_ble_eq_true rfl) (cy1) ?_
  have hPy1 := cy1.1.1
  refine Y_if_ne (pc := 16) (tgt := 25) dX12_fieldAt_16 (by decide) (fun hc1 => ?_) (fun hc1 => ?_)
  · replace h := ifF hc1 h
    refine Y_iload_n (pc := 25) (j := 2) dX12_fieldAt_25 rfl rfl ?_
    refine Y_iconst (pc := 26) (v := (0 : Int32)) dX12_fieldAt_26 rfl ?_
    refine Y_aload_n (pc := 27) (j := 0) dX12_fieldAt_27 rfl rfl ?_
    refine Z_getr (pc := 28) dX12_fieldAt_28 w8_80 (lk_69 hPy1) fr_12_14 (lr_69_14 hPy1) ?_
    refine Y_iload_n (pc := 31) (j := 1) dX12_fieldAt_31 rfl rfl ?_
    obtain ⟨hb1, h⟩ := okE h
    refine Y_iald (pc := 32) dX12_fieldAt_32 (lk_80 hPy1) (ln_80 hPy1) hb1 ?_
    refine Y_iconst (pc := 33) (v := (1 : Int32)) dX12_fieldAt_33 rfl ?_
    refine Y_isub (pc := 34) dX12_fieldAt_34 ?_
    obtain ⟨y2, qy2, h⟩ := bindE h
    have cy2 := v_X12_in hPy1 qy2
    refine C_S3r (pc := 35) (k' := k_X12_in) dX12_fieldAt_35 w9_110 i_X12_in (Nat.le_of_ble_eq_true rfl) (Nat.le_of_ble_eq_true rfl) (Nat.le_of_ble_eq_true rfl) (cy2) ?_
    have hPy2 := cy2.1.1
    refine Y_if_eq (pc := 38) (tgt := 55) dX12_fieldAt_38 (by decide) (fun hc2 => ?_) (fun hc2 => ?_)
    · replace h := ifT hc2 h
      refine Y_aload_n (pc := 55) (j := 0) dX12_fieldAt_55 rfl rfl ?_
      refine Y_iconst (pc := 56) (v := (2 : Int32)) dX12_fieldAt_56 rfl ?_
      obtain ⟨y3, qy3, h⟩ := bindE h
      have cy3 := v_X12_fails hPy2 qy3
      refine C_V1r (pc := 57) (k' := k_X12_fails) dX12_fieldAt_57 w9_113 i_X12_fails (lk_69 hPy2) ⟨Nat.le_of_ble_eq_true rfl, Nat.le_of_ble_eq_true rfl⟩ rfl (Nat.le_of_ble_eq_true rfl) (Nat.le_of_ble_eq_true rfl) (Nat.le_of_ble_eq_true rfl) (cy3) ?_
      have hPy3 := cy3.1.1
      cases h
      exact Y_iret (pc := 60) rfl rfl dX12_fieldAt_60 hPy3 ⟨rfl, rfl⟩
    · replace h := ifF hc2 h
      refine Y_aload_n (pc := 41) (j := 0) dX12_fieldAt_41 rfl rfl ?_
      refine Z_getr (pc := 42) dX12_fieldAt_42 w8_81 (lk_69 hPy2) fr_12_15 (lr_69_15 hPy2) ?_
      refine Y_bipush (pc := 45) (v := (6 : Int32)) dX12_fieldAt_45 rfl ?_
      refine Y_iload_n (pc := 47) (j := 1) dX12_fieldAt_47 rfl rfl ?_
      refine Y_imul (pc := 48) dX12_fieldAt_48 ?_
      refine Y_iload_n (pc := 49) (j := 2) dX12_fieldAt_49 rfl rfl ?_
      refine Y_iadd (pc := 50) dX12_fieldAt_50 ?_
      obtain ⟨hb2, h⟩ := okE h
      refine Y_iald (pc := 51) dX12_fieldAt_51 (lk_81 hPy2) (ln_81 hPy2) hb2 ?_
      refine Y_goto (pc := 52) (tgt := 60) dX12_fieldAt_52 (by decide) ?_
      cases h
      exact Y_iret (pc := 60) rfl rfl dX12_fieldAt_60 hPy2 ⟨rfl, rfl⟩
  · replace h := ifT hc1 h
    refine Y_aload_n (pc := 19) (j := 0) dX12_fieldAt_19 rfl rfl ?_
    refine Y_iconst (pc := 20) (v := (1 : Int32)) dX12_fieldAt_20 rfl ?_
    obtain ⟨y4, qy4, h⟩ := bindE h
    have cy4 := v_X12_fails hPy1 qy4
    refine C_V1r (pc := 21) (k' := k_X12_fails) dX12_fieldAt_21 w9_113 i_X12_fails (lk_69 hPy1) ⟨Nat.le_of_ble_eq_true rfl, Nat.le_of_ble_eq_true rfl⟩ rfl (Nat.le_of_ble_eq_true rfl) (Nat.le_of_ble_eq_true rfl) (Nat.le_of_ble_eq_true rfl) (cy4) ?_
    have hPy4 := cy4.1.1
    cases h
    exact Y_iret (pc := 24) rfl rfl dX12_fieldAt_24 hPy4 ⟨rfl, rfl⟩
theorem v_X12_fieldAt {x1 : Int32} {x2 : Int32} {M z} (hP : Lay M) (h : d_X12_fieldAt x1 x2 M = some z) : CC Lay k_X12_fieldAt [.ref 69, .int x1, .int x2] M z.2 (Qv (some (.int z.1)) z.2) xF :=
  CC.ofVV (by decide) rfl (Nat.le_of_ble_eq_true rfl) (b_X12_fieldAt hP h)
noncomputable def d_X12_nextShape (x1 : Int32) (x2 : Int32) (M : Mem) : Option (Int32 × Mem) :=
  bnd (sI M 69 0 (0 : Int32)) fun M1 =>
  (d_X12_in x1 (0 : Int32) ((mI M1 69 12) - (1 : Int32)) M1).bind fun y1 =>
  if y1.1 = 0 then (
    (d_X12_fails (1 : Int32) y1.2).bind fun y5 =>
    some (y5.1, y5.2))
  else (
    (d_X12_in x2 (0 : Int32) (5 : Int32) y1.2).bind fun y2 =>
    if y2.1 = 0 then (
      (d_X12_fails (2 : Int32) y2.2).bind fun y3 =>
      some (y3.1, y3.2))
    else (
      okk (vp_in (((6 : Int32) * x1) + x2) 360) <|
      if (mI y2.2 82 (((6 : Int32) * x1) + x2).toNatClampNeg) = (-1 : Int32) then (
        (d_X12_fails (2 : Int32) y2.2).bind fun y4 =>
        some (y4.1, y4.2))
      else (
        okk (vp_in (((6 : Int32) * x1) + x2) 360) <|
        some ((mI y2.2 82 (((6 : Int32) * x1) + x2).toNatClampNeg), y2.2))))
theorem b_X12_nextShape {x1 : Int32} {x2 : Int32} {M z} (hP : Lay M) (h : d_X12_nextShape x1 x2 M = some z) : VV Lay k_X12_nextShape 0 [(0, .ref 69), (1, .int x1), (2, .int x2)] [] M z.2 (Qv (some (.int z.1)) z.2) xF := by
  unfold d_X12_nextShape at h
  refine Y_aload_n (pc := 0) (j := 0) dX12_nextShape_0 rfl rfl ?_
  refine Y_iconst (pc := 1) (v := (0 : Int32)) dX12_nextShape_1 rfl ?_
  refine Z_puti (pc := 2) dX12_nextShape_2 w8_66 (lk_69 hP) fi_12_0 (Or.inl rfl) rfl ?_
  obtain ⟨M1, eM1, h⟩ := bndE h
  refine VV.mem eM1 ?_
  have hP1 := hP.wI eM1
  refine Y_iload_n (pc := 5) (j := 1) dX12_nextShape_5 rfl rfl ?_
  refine Y_iconst (pc := 6) (v := (0 : Int32)) dX12_nextShape_6 rfl ?_
  refine Y_aload_n (pc := 7) (j := 0) dX12_nextShape_7 rfl rfl ?_
  refine Z_geti (pc := 8) dX12_nextShape_8 w8_78 (lk_69 hP1) fi_12_12 ?_
  refine Y_iconst (pc := 11) (v := (1 : Int32)) dX12_nextShape_11 rfl ?_
  refine Y_isub (pc := 12) dX12_nextShape_12 ?_
  obtain ⟨y1, qy1, h⟩ := bindE h
  have cy1 := v_X12_in hP1 qy1
  refine C_S3r (pc := 13) (k' := k_X12_in) dX12_nextShape_13 w9_110 i_X12_in (Nat.le_of_ble_eq_true rfl) (Nat.le_of_ble_eq_true rfl) (Nat.le_of_ble_eq_true rfl) (cy1) ?_
  have hPy1 := cy1.1.1
  refine Y_if_ne (pc := 16) (tgt := 25) dX12_nextShape_16 (by decide) (fun hc1 => ?_) (fun hc1 => ?_)
  · replace h := ifF hc1 h
    refine Y_iload_n (pc := 25) (j := 2) dX12_nextShape_25 rfl rfl ?_
    refine Y_iconst (pc := 26) (v := (0 : Int32)) dX12_nextShape_26 rfl ?_
    refine Y_iconst (pc := 27) (v := (5 : Int32)) dX12_nextShape_27 rfl ?_
    obtain ⟨y2, qy2, h⟩ := bindE h
    have cy2 := v_X12_in hPy1 qy2
    refine C_S3r (pc := 28) (k' := k_X12_in) dX12_nextShape_28 w9_110 i_X12_in (Nat.le_of_ble_eq_true rfl) (Nat.le_of_ble_eq_true rfl) (Nat.le_of_ble_eq_true rfl) (cy2) ?_
    have hPy2 := cy2.1.1
    refine Y_if_eq (pc := 31) (tgt := 63) dX12_nextShape_31 (by decide) (fun hc2 => ?_) (fun hc2 => ?_)
    · replace h := ifT hc2 h
      refine Y_aload_n (pc := 63) (j := 0) dX12_nextShape_63 rfl rfl ?_
      refine Y_iconst (pc := 64) (v := (2 : Int32)) dX12_nextShape_64 rfl ?_
      obtain ⟨y3, qy3, h⟩ := bindE h
      have cy3 := v_X12_fails hPy2 qy3
      refine C_V1r (pc := 65) (k' := k_X12_fails) dX12_nextShape_65 w9_113 i_X12_fails (lk_69 hPy2) ⟨Nat.le_of_ble_eq_true rfl, Nat.le_of_ble_eq_true rfl⟩ rfl (Nat.le_of_ble_eq_true rfl) (Nat.le_of_ble_eq_true rfl) (Nat.le_of_ble_eq_true rfl) (cy3) ?_
      have hPy3 := cy3.1.1
      cases h
      exact Y_iret (pc := 68) rfl rfl dX12_nextShape_68 hPy3 ⟨rfl, rfl⟩
    · replace h := ifF hc2 h
      refine Y_aload_n (pc := 34) (j := 0) dX12_nextShape_34 rfl rfl ?_
      refine Z_getr (pc := 35) dX12_nextShape_35 w8_82 (lk_69 hPy2) fr_12_16 (lr_69_16 hPy2) ?_
      refine Y_bipush (pc := 38) (v := (6 : Int32)) dX12_nextShape_38 rfl ?_
      refine Y_iload_n (pc := 40) (j := 1) dX12_nextShape_40 rfl rfl ?_
      refine Y_imul (pc := 41) dX12_nextShape_41 ?_
      refine Y_iload_n (pc := 42) (j := 2) dX12_nextShape_42 rfl rfl ?_
      refine Y_iadd (pc := 43) dX12_nextShape_43 ?_
      obtain ⟨hb1, h⟩ := okE h
      refine Y_iald (pc := 44) dX12_nextShape_44 (lk_82 hPy2) (ln_82 hPy2) hb1 ?_
      refine Y_iconst (pc := 45) (v := (-1 : Int32)) dX12_nextShape_45 rfl ?_
      refine Y_icmp_eq (pc := 46) (tgt := 63) dX12_nextShape_46 (by decide) (fun hc3 => ?_) (fun hc3 => ?_)
      · replace h := ifT hc3 h
        refine Y_aload_n (pc := 63) (j := 0) dX12_nextShape_63 rfl rfl ?_
        refine Y_iconst (pc := 64) (v := (2 : Int32)) dX12_nextShape_64 rfl ?_
        obtain ⟨y4, qy4, h⟩ := bindE h
        have cy4 := v_X12_fails hPy2 qy4
        refine C_V1r (pc := 65) (k' := k_X12_fails) dX12_nextShape_65 w9_113 i_X12_fails (lk_69 hPy2) ⟨Nat.le_of_ble_eq_true rfl, Nat.le_of_ble_eq_true rfl⟩ rfl (Nat.le_of_ble_eq_true rfl) (Nat.le_of_ble_eq_true rfl) (Nat.le_of_ble_eq_true rfl) (cy4) ?_
        have hPy4 := cy4.1.1
        cases h
        exact Y_iret (pc := 68) rfl rfl dX12_nextShape_68 hPy4 ⟨rfl, rfl⟩
      · replace h := ifF hc3 h
        refine Y_aload_n (pc := 49) (j := 0) dX12_nextShape_49 rfl rfl ?_
        refine Z_getr (pc := 50) dX12_nextShape_50 w8_82 (lk_69 hPy2) fr_12_16 (lr_69_16 hPy2) ?_
        refine Y_bipush (pc := 53) (v := (6 : Int32)) dX12_nextShape_53 rfl ?_
        refine Y_iload_n (pc := 55) (j := 1) dX12_nextShape_55 rfl rfl ?_
        refine Y_imul (pc := 56) dX12_nextShape_56 ?_
        refine Y_iload_n (pc := 57) (j := 2) dX12_nextShape_57 rfl rfl ?_
        refine Y_iadd (pc := 58) dX12_nextShape_58 ?_
        obtain ⟨hb2, h⟩ := okE h
        refine Y_iald (pc := 59) dX12_nextShape_59 (lk_82 hPy2) (ln_82 hPy2) hb2 ?_
        refine Y_goto (pc := 60) (tgt := 68) dX12_nextShape_60 (by decide) ?_
        cases h
        exact Y_iret (pc := 68) rfl rfl dX12_nextShape_68 hPy2 ⟨rfl, rfl⟩
  · replace h := ifT hc1 h
    refine Y_aload_n (pc := 19) (j := 0) dX12_nextShape_19 rfl rfl ?_
    refine Y_iconst (pc := 20) (v := (1 : Int32)) dX12_nextShape_20 rfl ?_
    obtain ⟨y5, qy5, h⟩ := bindE h
    have cy5 := v_X12_fails hPy1 qy5
    refine C_V1r (pc := 21) (k' := k_X12_fails) dX12_nextShape_21 w9_113 i_X12_fails (lk_69 hPy1) ⟨Nat.le_of_ble_eq_true rfl, Nat.le_of_ble_eq_true rfl⟩ rfl (Nat.le_of_ble_eq_true rfl) (Nat.le_of_ble_eq_true rfl) (Nat.le_of_ble_eq_true rfl) (cy5) ?_
    have hPy5 := cy5.1.1
    cases h
    exact Y_iret (pc := 24) rfl rfl dX12_nextShape_24 hPy5 ⟨rfl, rfl⟩
theorem v_X12_nextShape {x1 : Int32} {x2 : Int32} {M z} (hP : Lay M) (h : d_X12_nextShape x1 x2 M = some z) : CC Lay k_X12_nextShape [.ref 69, .int x1, .int x2] M z.2 (Qv (some (.int z.1)) z.2) xF :=
  CC.ofVV (by decide) rfl (Nat.le_of_ble_eq_true rfl) (b_X12_nextShape hP h)
noncomputable def d_X12_cache_77 (x1 : Int32) (x2 : Int32) (s1 : Int32) (M : Mem) : Option (Int32 × Mem) :=
  bnd (sI M 69 0 s1) fun M1 =>
  if (mI M1 69 0) ≤ 0 then (
    some ((((40 : Int32) * x1) + x2), M1))
  else (
    some ((-1 : Int32), M1))
theorem b_X12_cache_77 {x1 : Int32} {x2 : Int32} {s1 : Int32} {M z} (hP : Lay M) (h : d_X12_cache_77 x1 x2 s1 M = some z) : VV Lay k_X12_cache 77 [(0, .ref 69), (1, .int x1), (2, .int x2)] [.int s1, .ref 69] M z.2 (Qv (some (.int z.1)) z.2) xF := by
  unfold d_X12_cache_77 at h
  refine Z_puti (pc := 77) dX12_cache_77 w8_66 (lk_69 hP) fi_12_0 (Or.inl rfl) rfl ?_
  obtain ⟨M1, eM1, h⟩ := bndE h
  refine VV.mem eM1 ?_
  have hP1 := hP.wI eM1
  refine Y_aload_n (pc := 80) (j := 0) dX12_cache_80 rfl rfl ?_
  refine Z_geti (pc := 81) dX12_cache_81 w8_66 (lk_69 hP1) fi_12_0 ?_
  refine Y_if_le (pc := 84) (tgt := 91) dX12_cache_84 (by decide) (fun hc1 => ?_) (fun hc1 => ?_)
  · replace h := ifT hc1 h
    refine Y_bipush (pc := 91) (v := (40 : Int32)) dX12_cache_91 rfl ?_
    refine Y_iload_n (pc := 93) (j := 1) dX12_cache_93 rfl rfl ?_
    refine Y_imul (pc := 94) dX12_cache_94 ?_
    refine Y_iload_n (pc := 95) (j := 2) dX12_cache_95 rfl rfl ?_
    refine Y_iadd (pc := 96) dX12_cache_96 ?_
    cases h
    exact Y_iret (pc := 97) rfl rfl dX12_cache_97 hP1 ⟨rfl, rfl⟩
  · replace h := ifF hc1 h
    refine Y_iconst (pc := 87) (v := (-1 : Int32)) dX12_cache_87 rfl ?_
    refine Y_goto (pc := 88) (tgt := 97) dX12_cache_88 (by decide) ?_
    cases h
    exact Y_iret (pc := 97) rfl rfl dX12_cache_97 hP1 ⟨rfl, rfl⟩
noncomputable def d_X12_cache_72 (x1 : Int32) (x2 : Int32) (M : Mem) : Option (Int32 × Mem) :=
  d_X12_cache_77 x1 x2 (0 : Int32) M
theorem b_X12_cache_72 {x1 : Int32} {x2 : Int32} {M z} (hP : Lay M) (h : d_X12_cache_72 x1 x2 M = some z) : VV Lay k_X12_cache 72 [(0, .ref 69), (1, .int x1), (2, .int x2)] [.ref 69] M z.2 (Qv (some (.int z.1)) z.2) xF := by
  unfold d_X12_cache_72 at h
  refine Y_iconst (pc := 72) (v := (0 : Int32)) dX12_cache_72 rfl ?_
  refine Y_goto (pc := 73) (tgt := 77) dX12_cache_73 (by decide) ?_
  refine VV.sub [0, 1, 2] rfl ?_
  exact b_X12_cache_77  hP h
noncomputable def d_X12_cache_52 (x1 : Int32) (x2 : Int32) (s0 : Int32) (M : Mem) : Option (Int32 × Mem) :=
  if s0 = (103 : Int32) then (
    d_X12_cache_72 x1 x2 M)
  else (
    if s0 = (112 : Int32) then (
      d_X12_cache_72 x1 x2 M)
    else (
      if s0 = (109 : Int32) then (
        d_X12_cache_72 x1 x2 M)
      else (
        d_X12_cache_77 x1 x2 (2 : Int32) M)))
theorem b_X12_cache_52 {x1 : Int32} {x2 : Int32} {s0 : Int32} {M z} (hP : Lay M) (h : d_X12_cache_52 x1 x2 s0 M = some z) : VV Lay k_X12_cache 52 [(0, .ref 69), (1, .int x1), (2, .int x2)] [.int s0] M z.2 (Qv (some (.int z.1)) z.2) xF := by
  unfold d_X12_cache_52 at h
  refine Y_istore_n (pc := 52) (lv1 := [(3, .int s0), (0, .ref 69), (1, .int x1), (2, .int x2)]) dX12_cache_52 rfl (by decide) rfl ?_
  refine Y_aload_n (pc := 53) (j := 1) dX12_cache_53 rfl rfl ?_
  refine Y_iload_n (pc := 54) (j := 0) dX12_cache_54 rfl rfl ?_
  refine Y_bipush (pc := 55) (v := (103 : Int32)) dX12_cache_55 rfl ?_
  refine Y_icmp_eq (pc := 57) (tgt := 72) dX12_cache_57 (by decide) (fun hc1 => ?_) (fun hc1 => ?_)
  · replace h := ifT hc1 h
    refine VV.sub [1, 2, 3] rfl ?_
    exact b_X12_cache_72  hP h
  · replace h := ifF hc1 h
    refine Y_iload_n (pc := 60) (j := 0) dX12_cache_60 rfl rfl ?_
    refine Y_bipush (pc := 61) (v := (112 : Int32)) dX12_cache_61 rfl ?_
    refine Y_icmp_eq (pc := 63) (tgt := 72) dX12_cache_63 (by decide) (fun hc2 => ?_) (fun hc2 => ?_)
    · replace h := ifT hc2 h
      refine VV.sub [1, 2, 3] rfl ?_
      exact b_X12_cache_72  hP h
    · replace h := ifF hc2 h
      refine Y_iload_n (pc := 66) (j := 0) dX12_cache_66 rfl rfl ?_
      refine Y_bipush (pc := 67) (v := (109 : Int32)) dX12_cache_67 rfl ?_
      refine Y_icmp_ne (pc := 69) (tgt := 76) dX12_cache_69 (by decide) (fun hc3 => ?_) (fun hc3 => ?_)
      · replace h := ifF hc3 h
        refine Y_iconst (pc := 76) (v := (2 : Int32)) dX12_cache_76 rfl ?_
        refine VV.sub [1, 2, 3] rfl ?_
        exact b_X12_cache_77  hP h
      · replace h := ifT hc3 h
        refine VV.sub [1, 2, 3] rfl ?_
        exact b_X12_cache_72  hP h
noncomputable def d_X12_cache (x1 : Int32) (x2 : Int32) (M : Mem) : Option (Int32 × Mem) :=
  bnd (sI M 69 0 (0 : Int32)) fun M1 =>
  (d_X12_isFunction x1 M1).bind fun y1 =>
  if y1.1 = 0 then (
    bnd (sI y1.2 69 0 (1 : Int32)) fun M2 =>
    some ((-1 : Int32), M2))
  else (
    okk (vp_in x1 8) <|
    (d_X12_in x2 (0 : Int32) ((mI y1.2 71 x1.toNatClampNeg) - (1 : Int32)) y1.2).bind fun y2 =>
    if y2.1 = 0 then (
      d_X12_cache_52 x1 x2 (32 : Int32) y2.2)
    else (
      okk (vp_in (((40 : Int32) * x1) + x2) 320) <|
      d_X12_cache_52 x1 x2 (mI y2.2 72 (((40 : Int32) * x1) + x2).toNatClampNeg) y2.2))
theorem b_X12_cache {x1 : Int32} {x2 : Int32} {M z} (hP : Lay M) (h : d_X12_cache x1 x2 M = some z) : VV Lay k_X12_cache 0 [(0, .ref 69), (1, .int x1), (2, .int x2)] [] M z.2 (Qv (some (.int z.1)) z.2) xF := by
  unfold d_X12_cache at h
  refine Y_aload_n (pc := 0) (j := 0) dX12_cache_0 rfl rfl ?_
  refine Y_iconst (pc := 1) (v := (0 : Int32)) dX12_cache_1 rfl ?_
  refine Z_puti (pc := 2) dX12_cache_2 w8_66 (lk_69 hP) fi_12_0 (Or.inl rfl) rfl ?_
  obtain ⟨M1, eM1, h⟩ := bndE h
  refine VV.mem eM1 ?_
  have hP1 := hP.wI eM1
  refine Y_aload_n (pc := 5) (j := 0) dX12_cache_5 rfl rfl ?_
  refine Y_iload_n (pc := 6) (j := 1) dX12_cache_6 rfl rfl ?_
  obtain ⟨y1, qy1, h⟩ := bindE h
  have cy1 := v_X12_isFunction hP1 qy1
  refine C_V1r (pc := 7) (k' := k_X12_isFunction) dX12_cache_7 w9_121 i_X12_isFunction (lk_69 hP1) ⟨Nat.le_of_ble_eq_true rfl, Nat.le_of_ble_eq_true rfl⟩ rfl (Nat.le_of_ble_eq_true rfl) (Nat.le_of_ble_eq_true rfl) (Nat.le_of_ble_eq_true rfl) (cy1) ?_
  have hPy1 := cy1.1.1
  refine Y_if_ne (pc := 10) (tgt := 20) dX12_cache_10 (by decide) (fun hc1 => ?_) (fun hc1 => ?_)
  · replace h := ifF hc1 h
    refine Y_iload_n (pc := 20) (j := 2) dX12_cache_20 rfl rfl ?_
    refine Y_iconst (pc := 21) (v := (0 : Int32)) dX12_cache_21 rfl ?_
    refine Y_aload_n (pc := 22) (j := 0) dX12_cache_22 rfl rfl ?_
    refine Z_getr (pc := 23) dX12_cache_23 w8_69 (lk_69 hPy1) fr_12_3 (lr_69_3 hPy1) ?_
    refine Y_iload_n (pc := 26) (j := 1) dX12_cache_26 rfl rfl ?_
    obtain ⟨hb1, h⟩ := okE h
    refine Y_iald (pc := 27) dX12_cache_27 (lk_71 hPy1) (ln_71 hPy1) hb1 ?_
    refine Y_iconst (pc := 28) (v := (1 : Int32)) dX12_cache_28 rfl ?_
    refine Y_isub (pc := 29) dX12_cache_29 ?_
    obtain ⟨y2, qy2, h⟩ := bindE h
    have cy2 := v_X12_in hPy1 qy2
    refine C_S3r (pc := 30) (k' := k_X12_in) dX12_cache_30 w9_110 i_X12_in (Nat.le_of_ble_eq_true rfl) (Nat.le_of_ble_eq_true rfl) (Nat.le_of_ble_eq_true rfl) (cy2) ?_
    have hPy2 := cy2.1.1
    refine Y_if_eq (pc := 33) (tgt := 50) dX12_cache_33 (by decide) (fun hc2 => ?_) (fun hc2 => ?_)
    · replace h := ifT hc2 h
      refine Y_bipush (pc := 50) (v := (32 : Int32)) dX12_cache_50 rfl ?_
      refine VV.sub [0, 1, 2] rfl ?_
      exact b_X12_cache_52  hPy2 h
    · replace h := ifF hc2 h
      refine Y_aload_n (pc := 36) (j := 0) dX12_cache_36 rfl rfl ?_
      refine Z_getr (pc := 37) dX12_cache_37 w8_70 (lk_69 hPy2) fr_12_4 (lr_69_4 hPy2) ?_
      refine Y_bipush (pc := 40) (v := (40 : Int32)) dX12_cache_40 rfl ?_
      refine Y_iload_n (pc := 42) (j := 1) dX12_cache_42 rfl rfl ?_
      refine Y_imul (pc := 43) dX12_cache_43 ?_
      refine Y_iload_n (pc := 44) (j := 2) dX12_cache_44 rfl rfl ?_
      refine Y_iadd (pc := 45) dX12_cache_45 ?_
      obtain ⟨hb2, h⟩ := okE h
      refine Y_cald (pc := 46) dX12_cache_46 (lk_72 hPy2) (ln_72 hPy2) hb2 ?_
      refine Y_goto (pc := 47) (tgt := 52) dX12_cache_47 (by decide) ?_
      refine VV.sub [0, 1, 2] rfl ?_
      exact b_X12_cache_52  hPy2 h
  · replace h := ifT hc1 h
    refine Y_aload_n (pc := 13) (j := 0) dX12_cache_13 rfl rfl ?_
    refine Y_iconst (pc := 14) (v := (1 : Int32)) dX12_cache_14 rfl ?_
    refine Z_puti (pc := 15) dX12_cache_15 w8_66 (lk_69 hPy1) fi_12_0 (Or.inl rfl) rfl ?_
    obtain ⟨M2, eM2, h⟩ := bndE h
    refine VV.mem eM2 ?_
    have hP2 := hPy1.wI eM2
    refine Y_iconst (pc := 18) (v := (-1 : Int32)) dX12_cache_18 rfl ?_
    cases h
    exact Y_iret (pc := 19) rfl rfl dX12_cache_19 hP2 ⟨rfl, rfl⟩
theorem v_X12_cache {x1 : Int32} {x2 : Int32} {M z} (hP : Lay M) (h : d_X12_cache x1 x2 M = some z) : CC Lay k_X12_cache [.ref 69, .int x1, .int x2] M z.2 (Qv (some (.int z.1)) z.2) xF :=
  CC.ofVV (by decide) rfl (Nat.le_of_ble_eq_true rfl) (b_X12_cache hP h)
noncomputable def d_X12_cacheState (x1 : Int32) (x2 : Int32) (M : Mem) : Option (Int32 × Mem) :=
  (d_X12_cache x1 x2 M).bind fun y1 =>
  if y1.1 = (-1 : Int32) then (
    some ((0 : Int32), y1.2))
  else (
    okk (vp_in y1.1 320) <|
    if (mI y1.2 83 y1.1.toNatClampNeg) = (-1 : Int32) then (
      some ((120 : Int32), y1.2))
    else (
      okk (vp_in y1.1 320) <|
      if (mI y1.2 83 y1.1.toNatClampNeg) = 0 then (
        some ((101 : Int32), y1.2))
      else (
        okk (vp_in y1.1 320) <|
        okk (isCh ((((48 : Int32) + (mI y1.2 83 y1.1.toNatClampNeg)).toUInt32 % 65536).toInt32)) <|
        some (((((48 : Int32) + (mI y1.2 83 y1.1.toNatClampNeg)).toUInt32 % 65536).toInt32), y1.2))))
theorem b_X12_cacheState {x1 : Int32} {x2 : Int32} {M z} (hP : Lay M) (h : d_X12_cacheState x1 x2 M = some z) : VV Lay k_X12_cacheState 0 [(0, .ref 69), (1, .int x1), (2, .int x2)] [] M z.2 (Qv (some (.int z.1)) z.2) xF := by
  unfold d_X12_cacheState at h
  refine Y_aload_n (pc := 0) (j := 0) dX12_cacheState_0 rfl rfl ?_
  refine Y_iload_n (pc := 1) (j := 1) dX12_cacheState_1 rfl rfl ?_
  refine Y_iload_n (pc := 2) (j := 2) dX12_cacheState_2 rfl rfl ?_
  obtain ⟨y1, qy1, h⟩ := bindE h
  have cy1 := v_X12_cache hP qy1
  refine C_V2r (pc := 3) (k' := k_X12_cache) dX12_cacheState_3 w10_219 i_X12_cache (lk_69 hP) ⟨Nat.le_of_ble_eq_true rfl, Nat.le_of_ble_eq_true rfl⟩ rfl (Nat.le_of_ble_eq_true rfl) (Nat.le_of_ble_eq_true rfl) (Nat.le_of_ble_eq_true rfl) (cy1) ?_
  have hPy1 := cy1.1.1
  refine Y_istore_n (pc := 6) (lv1 := [(3, .int y1.1), (0, .ref 69), (1, .int x1), (2, .int x2)]) dX12_cacheState_6 rfl (by decide) rfl ?_
  refine Y_iload_n (pc := 7) (j := 0) dX12_cacheState_7 rfl rfl ?_
  refine Y_iconst (pc := 8) (v := (-1 : Int32)) dX12_cacheState_8 rfl ?_
  refine Y_icmp_ne (pc := 9) (tgt := 14) dX12_cacheState_9 (by decide) (fun hc1 => ?_) (fun hc1 => ?_)
  · replace h := ifF hc1 h
    refine Y_aload_n (pc := 14) (j := 1) dX12_cacheState_14 rfl rfl ?_
    refine Z_getr (pc := 15) dX12_cacheState_15 w8_83 (lk_69 hPy1) fr_12_17 (lr_69_17 hPy1) ?_
    refine Y_iload_n (pc := 18) (j := 0) dX12_cacheState_18 rfl rfl ?_
    obtain ⟨hb1, h⟩ := okE h
    refine Y_iald (pc := 19) dX12_cacheState_19 (lk_83 hPy1) (ln_83 hPy1) hb1 ?_
    refine Y_iconst (pc := 20) (v := (-1 : Int32)) dX12_cacheState_20 rfl ?_
    refine Y_icmp_ne (pc := 21) (tgt := 29) dX12_cacheState_21 (by decide) (fun hc2 => ?_) (fun hc2 => ?_)
    · replace h := ifF hc2 h
      refine Y_aload_n (pc := 29) (j := 1) dX12_cacheState_29 rfl rfl ?_
      refine Z_getr (pc := 30) dX12_cacheState_30 w8_83 (lk_69 hPy1) fr_12_17 (lr_69_17 hPy1) ?_
      refine Y_iload_n (pc := 33) (j := 0) dX12_cacheState_33 rfl rfl ?_
      obtain ⟨hb2, h⟩ := okE h
      refine Y_iald (pc := 34) dX12_cacheState_34 (lk_83 hPy1) (ln_83 hPy1) hb2 ?_
      refine Y_if_ne (pc := 35) (tgt := 43) dX12_cacheState_35 (by decide) (fun hc3 => ?_) (fun hc3 => ?_)
      · replace h := ifF hc3 h
        refine Y_bipush (pc := 43) (v := (48 : Int32)) dX12_cacheState_43 rfl ?_
        refine Y_aload_n (pc := 45) (j := 1) dX12_cacheState_45 rfl rfl ?_
        refine Z_getr (pc := 46) dX12_cacheState_46 w8_83 (lk_69 hPy1) fr_12_17 (lr_69_17 hPy1) ?_
        refine Y_iload_n (pc := 49) (j := 0) dX12_cacheState_49 rfl rfl ?_
        obtain ⟨hb3, h⟩ := okE h
        refine Y_iald (pc := 50) dX12_cacheState_50 (lk_83 hPy1) (ln_83 hPy1) hb3 ?_
        refine Y_iadd (pc := 51) dX12_cacheState_51 ?_
        refine Y_i2c (pc := 52) dX12_cacheState_52 ?_
        obtain ⟨hb4, h⟩ := okE h
        cases h
        exact Y_iret (pc := 53) rfl (nar_ch hb4) dX12_cacheState_53 hPy1 ⟨rfl, rfl⟩
      · replace h := ifT hc3 h
        refine Y_bipush (pc := 38) (v := (101 : Int32)) dX12_cacheState_38 rfl ?_
        refine Y_goto (pc := 40) (tgt := 53) dX12_cacheState_40 (by decide) ?_
        cases h
        exact Y_iret (pc := 53) rfl (nar_ch (by decide)) dX12_cacheState_53 hPy1 ⟨rfl, rfl⟩
    · replace h := ifT hc2 h
      refine Y_bipush (pc := 24) (v := (120 : Int32)) dX12_cacheState_24 rfl ?_
      refine Y_goto (pc := 26) (tgt := 53) dX12_cacheState_26 (by decide) ?_
      cases h
      exact Y_iret (pc := 53) rfl (nar_ch (by decide)) dX12_cacheState_53 hPy1 ⟨rfl, rfl⟩
  · replace h := ifT hc1 h
    refine Y_iconst (pc := 12) (v := (0 : Int32)) dX12_cacheState_12 rfl ?_
    cases h
    exact Y_iret (pc := 13) rfl (nar_ch (by decide)) dX12_cacheState_13 hPy1 ⟨rfl, rfl⟩
theorem v_X12_cacheState {x1 : Int32} {x2 : Int32} {M z} (hP : Lay M) (h : d_X12_cacheState x1 x2 M = some z) : CC Lay k_X12_cacheState [.ref 69, .int x1, .int x2] M z.2 (Qv (some (.int z.1)) z.2) xF :=
  CC.ofVV (by decide) rfl (Nat.le_of_ble_eq_true rfl) (b_X12_cacheState hP h)
noncomputable def d_X12_hits (x1 : Int32) (x2 : Int32) (M : Mem) : Option (Int32 × Mem) :=
  (d_X12_cache x1 x2 M).bind fun y1 =>
  if y1.1 = (-1 : Int32) then (
    some ((0 : Int32), y1.2))
  else (
    okk (vp_in y1.1 320) <|
    some ((mI y1.2 85 y1.1.toNatClampNeg), y1.2))
theorem b_X12_hits {x1 : Int32} {x2 : Int32} {M z} (hP : Lay M) (h : d_X12_hits x1 x2 M = some z) : VV Lay k_X12_hits 0 [(0, .ref 69), (1, .int x1), (2, .int x2)] [] M z.2 (Qv (some (.int z.1)) z.2) xF := by
  unfold d_X12_hits at h
  refine Y_aload_n (pc := 0) (j := 0) dX12_hits_0 rfl rfl ?_
  refine Y_iload_n (pc := 1) (j := 1) dX12_hits_1 rfl rfl ?_
  refine Y_iload_n (pc := 2) (j := 2) dX12_hits_2 rfl rfl ?_
  obtain ⟨y1, qy1, h⟩ := bindE h
  have cy1 := v_X12_cache hP qy1
  refine C_V2r (pc := 3) (k' := k_X12_cache) dX12_hits_3 w10_219 i_X12_cache (lk_69 hP) ⟨Nat.le_of_ble_eq_true rfl, Nat.le_of_ble_eq_true rfl⟩ rfl (Nat.le_of_ble_eq_true rfl) (Nat.le_of_ble_eq_true rfl) (Nat.le_of_ble_eq_true rfl) (cy1) ?_
  have hPy1 := cy1.1.1
  refine Y_istore_n (pc := 6) (lv1 := [(3, .int y1.1), (0, .ref 69), (1, .int x1), (2, .int x2)]) dX12_hits_6 rfl (by decide) rfl ?_
  refine Y_iload_n (pc := 7) (j := 0) dX12_hits_7 rfl rfl ?_
  refine Y_iconst (pc := 8) (v := (-1 : Int32)) dX12_hits_8 rfl ?_
  refine Y_icmp_ne (pc := 9) (tgt := 16) dX12_hits_9 (by decide) (fun hc1 => ?_) (fun hc1 => ?_)
  · replace h := ifF hc1 h
    refine Y_aload_n (pc := 16) (j := 1) dX12_hits_16 rfl rfl ?_
    refine Z_getr (pc := 17) dX12_hits_17 w8_85 (lk_69 hPy1) fr_12_19 (lr_69_19 hPy1) ?_
    refine Y_iload_n (pc := 20) (j := 0) dX12_hits_20 rfl rfl ?_
    obtain ⟨hb1, h⟩ := okE h
    refine Y_iald (pc := 21) dX12_hits_21 (lk_85 hPy1) (ln_85 hPy1) hb1 ?_
    cases h
    exact Y_iret (pc := 22) rfl rfl dX12_hits_22 hPy1 ⟨rfl, rfl⟩
  · replace h := ifT hc1 h
    refine Y_iconst (pc := 12) (v := (0 : Int32)) dX12_hits_12 rfl ?_
    refine Y_goto (pc := 13) (tgt := 22) dX12_hits_13 (by decide) ?_
    cases h
    exact Y_iret (pc := 22) rfl rfl dX12_hits_22 hPy1 ⟨rfl, rfl⟩
theorem v_X12_hits {x1 : Int32} {x2 : Int32} {M z} (hP : Lay M) (h : d_X12_hits x1 x2 M = some z) : CC Lay k_X12_hits [.ref 69, .int x1, .int x2] M z.2 (Qv (some (.int z.1)) z.2) xF :=
  CC.ofVV (by decide) rfl (Nat.le_of_ble_eq_true rfl) (b_X12_hits hP h)
noncomputable def d_X12_misses (x1 : Int32) (x2 : Int32) (M : Mem) : Option (Int32 × Mem) :=
  (d_X12_cache x1 x2 M).bind fun y1 =>
  if y1.1 = (-1 : Int32) then (
    some ((0 : Int32), y1.2))
  else (
    okk (vp_in y1.1 320) <|
    some ((mI y1.2 86 y1.1.toNatClampNeg), y1.2))
theorem b_X12_misses {x1 : Int32} {x2 : Int32} {M z} (hP : Lay M) (h : d_X12_misses x1 x2 M = some z) : VV Lay k_X12_misses 0 [(0, .ref 69), (1, .int x1), (2, .int x2)] [] M z.2 (Qv (some (.int z.1)) z.2) xF := by
  unfold d_X12_misses at h
  refine Y_aload_n (pc := 0) (j := 0) dX12_misses_0 rfl rfl ?_
  refine Y_iload_n (pc := 1) (j := 1) dX12_misses_1 rfl rfl ?_
  refine Y_iload_n (pc := 2) (j := 2) dX12_misses_2 rfl rfl ?_
  obtain ⟨y1, qy1, h⟩ := bindE h
  have cy1 := v_X12_cache hP qy1
  refine C_V2r (pc := 3) (k' := k_X12_cache) dX12_misses_3 w10_219 i_X12_cache (lk_69 hP) ⟨Nat.le_of_ble_eq_true rfl, Nat.le_of_ble_eq_true rfl⟩ rfl (Nat.le_of_ble_eq_true rfl) (Nat.le_of_ble_eq_true rfl) (Nat.le_of_ble_eq_true rfl) (cy1) ?_
  have hPy1 := cy1.1.1
  refine Y_istore_n (pc := 6) (lv1 := [(3, .int y1.1), (0, .ref 69), (1, .int x1), (2, .int x2)]) dX12_misses_6 rfl (by decide) rfl ?_
  refine Y_iload_n (pc := 7) (j := 0) dX12_misses_7 rfl rfl ?_
  refine Y_iconst (pc := 8) (v := (-1 : Int32)) dX12_misses_8 rfl ?_
  refine Y_icmp_ne (pc := 9) (tgt := 16) dX12_misses_9 (by decide) (fun hc1 => ?_) (fun hc1 => ?_)
  · replace h := ifF hc1 h
    refine Y_aload_n (pc := 16) (j := 1) dX12_misses_16 rfl rfl ?_
    refine Z_getr (pc := 17) dX12_misses_17 w8_86 (lk_69 hPy1) fr_12_20 (lr_69_20 hPy1) ?_
    refine Y_iload_n (pc := 20) (j := 0) dX12_misses_20 rfl rfl ?_
    obtain ⟨hb1, h⟩ := okE h
    refine Y_iald (pc := 21) dX12_misses_21 (lk_86 hPy1) (ln_86 hPy1) hb1 ?_
    cases h
    exact Y_iret (pc := 22) rfl rfl dX12_misses_22 hPy1 ⟨rfl, rfl⟩
  · replace h := ifT hc1 h
    refine Y_iconst (pc := 12) (v := (0 : Int32)) dX12_misses_12 rfl ?_
    refine Y_goto (pc := 13) (tgt := 22) dX12_misses_13 (by decide) ?_
    cases h
    exact Y_iret (pc := 22) rfl rfl dX12_misses_22 hPy1 ⟨rfl, rfl⟩
theorem v_X12_misses {x1 : Int32} {x2 : Int32} {M z} (hP : Lay M) (h : d_X12_misses x1 x2 M = some z) : CC Lay k_X12_misses [.ref 69, .int x1, .int x2] M z.2 (Qv (some (.int z.1)) z.2) xF :=
  CC.ofVV (by decide) rfl (Nat.le_of_ble_eq_true rfl) (b_X12_misses hP h)
end VCR
