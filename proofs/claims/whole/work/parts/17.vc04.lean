/-! ===== what the methods reckon (printed by a program) ===== -/
section VCR
noncomputable def d_X12_calls_166 (k79 : (Int32) → Mem → Option (Unit × Mem)) (x2 : Int32) (x3 : Int32) (x4 : Int32) (M : Mem) : Option (Unit × Mem) :=
  bnd ((x4 + (1 : Int32))) fun b1 =>
  k79 (b1) M
theorem b_X12_calls_166 {k79 : (Int32) → Mem → Option (Unit × Mem)} {x2 : Int32} {x3 : Int32} {x4 : Int32} {M z} (hk79 : ∀ (a : (Int32)) (M : Mem) (z : Unit × Mem), Lay M → k79 a M = some z → VV Lay k_X12_calls 79 [(0, .ref 69), (2, .int x2), (3, .int x3), (4, .int a)] [] M z.2 (Qv (none) z.2) xF) (hP : Lay M) (h : d_X12_calls_166 k79 x2 x3 x4 M = some z) : VV Lay k_X12_calls 166 [(0, .ref 69), (2, .int x2), (3, .int x3), (4, .int x4)] [] M z.2 (Qv (none) z.2) xF := by
  unfold d_X12_calls_166 at h
  obtain ⟨b1, eb1, h⟩ := bndE h
  refine Y_iinc (pc := 166) (j := 3) (v := b1) (lv1 := [(4, .int b1), (0, .ref 69), (2, .int x2), (3, .int x3)]) dX12_calls_166 rfl eb1.symm (by decide) rfl ?_
  refine Y_goto (pc := 169) (tgt := 79) dX12_calls_169 (by decide) ?_
  refine VV.sub [1, 2, 3, 0] rfl ?_
  exact hk79 _ _ _ hP h
noncomputable def d_X12_calls_165 (k79 : (Int32) → Mem → Option (Unit × Mem)) (x2 : Int32) (x3 : Int32) (x4 : Int32) (s1 : Int32) (s2 : Int32) (M : Mem) : Option (Unit × Mem) :=
  okk (vp_in s1 168) <|
  bnd (sI M 108 s1.toNatClampNeg s2) fun M1 =>
  d_X12_calls_166 k79 x2 x3 x4 M1
theorem b_X12_calls_165 {k79 : (Int32) → Mem → Option (Unit × Mem)} {x2 : Int32} {x3 : Int32} {x4 : Int32} {s1 : Int32} {s2 : Int32} {M z} (hk79 : ∀ (a : (Int32)) (M : Mem) (z : Unit × Mem), Lay M → k79 a M = some z → VV Lay k_X12_calls 79 [(0, .ref 69), (2, .int x2), (3, .int x3), (4, .int a)] [] M z.2 (Qv (none) z.2) xF) (hP : Lay M) (h : d_X12_calls_165 k79 x2 x3 x4 s1 s2 M = some z) : VV Lay k_X12_calls 165 [(0, .ref 69), (2, .int x2), (3, .int x3), (4, .int x4)] [.int s2, .int s1, .ref 108] M z.2 (Qv (none) z.2) xF := by
  unfold d_X12_calls_165 at h
  obtain ⟨hb1, h⟩ := okE h
  refine Y_iast (pc := 165) dX12_calls_165 (lk_108 hP) (ln_108 hP) hb1 ?_
  obtain ⟨M1, eM1, h⟩ := bndE h
  refine VV.mem eM1 ?_
  have hP1 := hP.wI eM1
  refine VV.sub [0, 1, 2, 3] rfl ?_
  exact b_X12_calls_166 hk79 hP1 h
noncomputable def d_X12_calls_79b (k79 : (Int32) → Mem → Option (Unit × Mem)) (x2 : Int32) (x3 : Int32) (x4 : Int32) (M : Mem) : Option (Unit × Mem) :=
  if (6 : Int32) ≤ x4 then (
    some ((), M))
  else (
    bnd ((((14 : Int32) * (mI M 69 48)) + x4)) fun b1 =>
    if x2 ≤ x4 then (
      okk (vp_in b1 168) <|
      bnd (sI M 105 b1.toNatClampNeg (110 : Int32)) fun M1 =>
      okk (vp_in b1 168) <|
      bnd (sI M1 106 b1.toNatClampNeg (0 : Int32)) fun M2 =>
      okk (vp_in b1 168) <|
      bnd (sD M2 107 b1.toNatClampNeg FP.dconst0) fun M3 =>
      if (mI M3 69 71) = 0 then (
        d_X12_calls_165 k79 x2 x3 x4 b1 (0 : Int32) M3)
      else (
        (d_X12_valueOf (110 : Int32) M3).bind fun y1 =>
        d_X12_calls_165 k79 x2 x3 x4 b1 y1.1 y1.2))
    else (
      (d_X12_copies (x3 + x4) b1 M).bind fun y2 =>
      d_X12_calls_166 k79 x2 x3 x4 y2.2))
theorem b_X12_calls_79b {k79 : (Int32) → Mem → Option (Unit × Mem)} {x2 : Int32} {x3 : Int32} {x4 : Int32} {M z} (hk79 : ∀ (a : (Int32)) (M : Mem) (z : Unit × Mem), Lay M → k79 a M = some z → VV Lay k_X12_calls 79 [(0, .ref 69), (2, .int x2), (3, .int x3), (4, .int a)] [] M z.2 (Qv (none) z.2) xF) (hP : Lay M) (h : d_X12_calls_79b k79 x2 x3 x4 M = some z) : VV Lay k_X12_calls 79 [(0, .ref 69), (2, .int x2), (3, .int x3), (4, .int x4)] [] M z.2 (Qv (none) z.2) xF := by
  unfold d_X12_calls_79b at h
  refine Y_iload (pc := 79) (j := 3) dX12_calls_79 rfl ?_
  refine Y_bipush (pc := 81) (v := (6 : Int32)) dX12_calls_81 rfl ?_
  refine Y_icmp_ge (pc := 83) (tgt := 172) dX12_calls_83 (by decide) (fun hc1 => ?_) (fun hc1 => ?_)
  · replace h := ifT hc1 h
    cases h
    exact Y_vret (pc := 172) rfl dX12_calls_172 hP ⟨rfl, rfl⟩
  · replace h := ifF hc1 h
    refine Y_bipush (pc := 86) (v := (14 : Int32)) dX12_calls_86 rfl ?_
    refine Y_aload_n (pc := 88) (j := 0) dX12_calls_88 rfl rfl ?_
    refine Z_geti (pc := 89) dX12_calls_89 w8_114 (lk_69 hP) fi_12_48 ?_
    refine Y_imul (pc := 92) dX12_calls_92 ?_
    refine Y_iload (pc := 93) (j := 3) dX12_calls_93 rfl ?_
    refine Y_iadd (pc := 95) dX12_calls_95 ?_
    obtain ⟨b1, eb1, h⟩ := bndE h
    refine VV.topI eb1 ?_
    refine Y_istore (pc := 96) (lv1 := [(5, .int b1), (0, .ref 69), (2, .int x2), (3, .int x3), (4, .int x4)]) dX12_calls_96 (by decide) rfl ?_
    refine Y_iload (pc := 98) (j := 4) dX12_calls_98 rfl ?_
    refine Y_iload_n (pc := 100) (j := 2) dX12_calls_100 rfl rfl ?_
    refine Y_icmp_ge (pc := 101) (tgt := 117) dX12_calls_101 (by decide) (fun hc2 => ?_) (fun hc2 => ?_)
    · replace h := ifT hc2 h
      refine Y_aload_n (pc := 117) (j := 1) dX12_calls_117 rfl rfl ?_
      refine Z_getr (pc := 118) dX12_calls_118 w8_110 (lk_69 hP) fr_12_44 (lr_69_44 hP) ?_
      refine Y_iload (pc := 121) (j := 0) dX12_calls_121 rfl ?_
      refine Y_bipush (pc := 123) (v := (110 : Int32)) dX12_calls_123 rfl ?_
      obtain ⟨hb1, h⟩ := okE h
      refine Y_cast (pc := 125) dX12_calls_125 (lk_105 hP) (ln_105 hP) hb1 (nar_ch (by decide)) ?_
      obtain ⟨M1, eM1, h⟩ := bndE h
      refine VV.mem eM1 ?_
      have hP1 := hP.wI eM1
      refine Y_aload_n (pc := 126) (j := 1) dX12_calls_126 rfl rfl ?_
      refine Z_getr (pc := 127) dX12_calls_127 w8_111 (lk_69 hP1) fr_12_45 (lr_69_45 hP1) ?_
      refine Y_iload (pc := 130) (j := 0) dX12_calls_130 rfl ?_
      refine Y_iconst (pc := 132) (v := (0 : Int32)) dX12_calls_132 rfl ?_
      obtain ⟨hb2, h⟩ := okE h
      refine Y_iast (pc := 133) dX12_calls_133 (lk_106 hP1) (ln_106 hP1) hb2 ?_
      obtain ⟨M2, eM2, h⟩ := bndE h
      refine VV.mem eM2 ?_
      have hP2 := hP1.wI eM2
      refine Y_aload_n (pc := 134) (j := 1) dX12_calls_134 rfl rfl ?_
      refine Z_getr (pc := 135) dX12_calls_135 w8_112 (lk_69 hP2) fr_12_46 (lr_69_46 hP2) ?_
      refine Y_iload (pc := 138) (j := 0) dX12_calls_138 rfl ?_
      refine Y_dconst0 (pc := 140) dX12_calls_140 ?_
      obtain ⟨hb3, h⟩ := okE h
      refine Y_dast (pc := 141) dX12_calls_141 (lk_107 hP2) (ln_107 hP2) hb3 ?_
      obtain ⟨M3, eM3, h⟩ := bndE h
      refine VV.mem eM3 ?_
      have hP3 := hP2.wD eM3
      refine Y_aload_n (pc := 142) (j := 1) dX12_calls_142 rfl rfl ?_
      refine Z_getr (pc := 143) dX12_calls_143 w8_113 (lk_69 hP3) fr_12_47 (lr_69_47 hP3) ?_
      refine Y_iload (pc := 146) (j := 0) dX12_calls_146 rfl ?_
      refine Y_aload_n (pc := 148) (j := 1) dX12_calls_148 rfl rfl ?_
      refine Z_geti (pc := 149) dX12_calls_149 w8_137 (lk_69 hP3) fi_12_71 ?_
      refine Y_if_eq (pc := 152) (tgt := 164) dX12_calls_152 (by decide) (fun hc3 => ?_) (fun hc3 => ?_)
      · replace h := ifT hc3 h
        refine Y_iconst (pc := 164) (v := (0 : Int32)) dX12_calls_164 rfl ?_
        refine VV.sub [1, 2, 3, 4] rfl ?_
        exact b_X12_calls_165 hk79 hP3 h
      · replace h := ifF hc3 h
        refine Y_aload_n (pc := 155) (j := 1) dX12_calls_155 rfl rfl ?_
        refine Y_bipush (pc := 156) (v := (110 : Int32)) dX12_calls_156 rfl ?_
        obtain ⟨y1, qy1, h⟩ := bindE h
        have cy1 := v_X12_valueOf hP3 qy1
        refine C_V1r (pc := 158) (k' := k_X12_valueOf) dX12_calls_158 w10_47 i_X12_valueOf (lk_69 hP3) ⟨Nat.le_of_ble_eq_true rfl, Nat.le_of_ble_eq_true rfl⟩ rfl (Nat.le_of_ble_eq_true rfl) (Nat.le_of_ble_eq_true rfl) (Nat.le_of_ble_eq_true rfl) (cy1) ?_
        have hPy1 := cy1.1.1
        refine Y_goto (pc := 161) (tgt := 165) dX12_calls_161 (by decide) ?_
        refine VV.sub [1, 2, 3, 4] rfl ?_
        exact b_X12_calls_165 hk79 hPy1 h
    · replace h := ifF hc2 h
      refine Y_aload_n (pc := 104) (j := 1) dX12_calls_104 rfl rfl ?_
      refine Y_iload_n (pc := 105) (j := 3) dX12_calls_105 rfl rfl ?_
      refine Y_iload (pc := 106) (j := 4) dX12_calls_106 rfl ?_
      refine Y_iadd (pc := 108) dX12_calls_108 ?_
      refine Y_iload (pc := 109) (j := 0) dX12_calls_109 rfl ?_
      obtain ⟨y2, qy2, h⟩ := bindE h
      have cy2 := v_X12_copies hP qy2
      refine C_V2o (pc := 111) (k' := k_X12_copies) dX12_calls_111 w10_55 i_X12_copies (lk_69 hP) ⟨Nat.le_of_ble_eq_true rfl, Nat.le_of_ble_eq_true rfl⟩ rfl (Nat.le_of_ble_eq_true rfl) (Nat.le_of_ble_eq_true rfl) (Nat.le_of_ble_eq_true rfl) (cy2) ?_
      have hPy2 := cy2.1.1
      refine Y_goto (pc := 114) (tgt := 166) dX12_calls_114 (by decide) ?_
      refine VV.sub [1, 2, 3, 4] rfl ?_
      exact b_X12_calls_166 hk79 hPy2 h
noncomputable def d_X12_calls_79 (x2 : Int32) (x3 : Int32) : Nat → (Int32) → Mem → Option (Unit × Mem) := lp fun k a M => d_X12_calls_79b k x2 x3 a M
theorem b_X12_calls_79 {x2 : Int32} {x3 : Int32} (n : Nat) : ∀ (a : (Int32)) (M : Mem) (z : Unit × Mem), d_X12_calls_79 x2 x3 n a M = some z → Lay M → VV Lay k_X12_calls 79 [(0, .ref 69), (2, .int x2), (3, .int x3), (4, .int a)] [] M z.2 (Qv (none) z.2) xF :=
  lp_ind (G := fun (a : (Int32)) (M : Mem) (z : Unit × Mem) => Lay M → VV Lay k_X12_calls 79 [(0, .ref 69), (2, .int x2), (3, .int x3), (4, .int a)] [] M z.2 (Qv (none) z.2) xF) (fun k hk a M z h hP => b_X12_calls_79b  (fun a M z hP h => hk a M z h hP) hP h) n
noncomputable def d_X12_calls (x1 : Int32) (x2 : Int32) (M : Mem) : Option (Unit × Mem) :=
  (d_X12_top (0 : Int32) M).bind fun y1 =>
  bnd (((y1.1 - x2) + (1 : Int32))) fun b1 =>
  okk (vp_in (mI y1.2 69 48) 12) <|
  okk (vp_in (mI y1.2 69 48) 12) <|
  bnd (sI y1.2 111 (mI y1.2 69 48).toNatClampNeg ((mI y1.2 111 (mI y1.2 69 48).toNatClampNeg) - x2)) fun M1 =>
  okk (vp_in (mI M1 69 48) 12) <|
  okk (vp_in (mI M1 69 48) 12) <|
  bnd (sI M1 110 (mI M1 69 48).toNatClampNeg ((mI M1 110 (mI M1 69 48).toNatClampNeg) + (1 : Int32))) fun M2 =>
  bnd (sI M2 69 48 ((mI M2 69 48) + (1 : Int32))) fun M3 =>
  okk (vp_in (mI M3 69 48) 12) <|
  bnd (sI M3 109 (mI M3 69 48).toNatClampNeg x1) fun M4 =>
  okk (vp_in (mI M4 69 48) 12) <|
  bnd (sI M4 110 (mI M4 69 48).toNatClampNeg (0 : Int32)) fun M5 =>
  okk (vp_in (mI M5 69 48) 12) <|
  bnd (sI M5 111 (mI M5 69 48).toNatClampNeg (0 : Int32)) fun M6 =>
  d_X12_calls_79 x2 b1 fuel ((0 : Int32)) M6
theorem b_X12_calls {x1 : Int32} {x2 : Int32} {M z} (hP : Lay M) (h : d_X12_calls x1 x2 M = some z) : VV Lay k_X12_calls 0 [(0, .ref 69), (1, .int x1), (2, .int x2)] [] M z.2 (Qv (none) z.2) xF := by
  unfold d_X12_calls at h
  refine Y_aload_n (pc := 0) (j := 0) dX12_calls_0 rfl rfl ?_
  refine Y_iconst (pc := 1) (v := (0 : Int32)) dX12_calls_1 rfl ?_
  obtain ⟨y1, qy1, h⟩ := bindE h
  have cy1 := v_X12_top hP qy1
  refine C_V1r (pc := 2) (k' := k_X12_top) dX12_calls_2 w9_200 i_X12_top (lk_69 hP) ⟨Nat.le_of_ble_eq_true rfl, Nat.le_of_ble_eq_true rfl⟩ rfl (Nat.le_of_ble_eq_true rfl) (Nat.le_of_ble_eq_true rfl) (Nat.le_of_ble_eq_true rfl) (cy1) ?_
  have hPy1 := cy1.1.1
  refine Y_iload_n (pc := 5) (j := 2) dX12_calls_5 rfl rfl ?_
  refine Y_isub (pc := 6) dX12_calls_6 ?_
  refine Y_iconst (pc := 7) (v := (1 : Int32)) dX12_calls_7 rfl ?_
  refine Y_iadd (pc := 8) dX12_calls_8 ?_
  obtain ⟨b1, eb1, h⟩ := bndE h
  refine VV.topI eb1 ?_
  refine Y_istore_n (pc := 9) (lv1 := [(3, .int b1), (0, .ref 69), (1, .int x1), (2, .int x2)]) dX12_calls_9 rfl (by decide) rfl ?_
  refine Y_aload_n (pc := 10) (j := 1) dX12_calls_10 rfl rfl ?_
  refine Z_getr (pc := 11) dX12_calls_11 w8_117 (lk_69 hPy1) fr_12_51 (lr_69_51 hPy1) ?_
  refine Y_aload_n (pc := 14) (j := 1) dX12_calls_14 rfl rfl ?_
  refine Z_geti (pc := 15) dX12_calls_15 w8_114 (lk_69 hPy1) fi_12_48 ?_
  refine Y_dup2 (pc := 18) dX12_calls_18 rfl rfl ?_
  obtain ⟨hb1, h⟩ := okE h
  refine Y_iald (pc := 19) dX12_calls_19 (lk_111 hPy1) (ln_111 hPy1) hb1 ?_
  refine Y_iload_n (pc := 20) (j := 3) dX12_calls_20 rfl rfl ?_
  refine Y_isub (pc := 21) dX12_calls_21 ?_
  obtain ⟨hb2, h⟩ := okE h
  refine Y_iast (pc := 22) dX12_calls_22 (lk_111 hPy1) (ln_111 hPy1) hb2 ?_
  obtain ⟨M1, eM1, h⟩ := bndE h
  refine VV.mem eM1 ?_
  have hP1 := hPy1.wI eM1
  refine Y_aload_n (pc := 23) (j := 1) dX12_calls_23 rfl rfl ?_
  refine Z_getr (pc := 24) dX12_calls_24 w8_116 (lk_69 hP1) fr_12_50 (lr_69_50 hP1) ?_
  refine Y_aload_n (pc := 27) (j := 1) dX12_calls_27 rfl rfl ?_
  refine Z_geti (pc := 28) dX12_calls_28 w8_114 (lk_69 hP1) fi_12_48 ?_
  refine Y_dup2 (pc := 31) dX12_calls_31 rfl rfl ?_
  obtain ⟨hb3, h⟩ := okE h
  refine Y_iald (pc := 32) dX12_calls_32 (lk_110 hP1) (ln_110 hP1) hb3 ?_
  refine Y_iconst (pc := 33) (v := (1 : Int32)) dX12_calls_33 rfl ?_
  refine Y_iadd (pc := 34) dX12_calls_34 ?_
  obtain ⟨hb4, h⟩ := okE h
  refine Y_iast (pc := 35) dX12_calls_35 (lk_110 hP1) (ln_110 hP1) hb4 ?_
  obtain ⟨M2, eM2, h⟩ := bndE h
  refine VV.mem eM2 ?_
  have hP2 := hP1.wI eM2
  refine Y_aload_n (pc := 36) (j := 1) dX12_calls_36 rfl rfl ?_
  refine Y_dup (pc := 37) dX12_calls_37 rfl ?_
  refine Z_geti (pc := 38) dX12_calls_38 w8_114 (lk_69 hP2) fi_12_48 ?_
  refine Y_iconst (pc := 41) (v := (1 : Int32)) dX12_calls_41 rfl ?_
  refine Y_iadd (pc := 42) dX12_calls_42 ?_
  refine Z_puti (pc := 43) dX12_calls_43 w8_114 (lk_69 hP2) fi_12_48 (Or.inl rfl) rfl ?_
  obtain ⟨M3, eM3, h⟩ := bndE h
  refine VV.mem eM3 ?_
  have hP3 := hP2.wI eM3
  refine Y_aload_n (pc := 46) (j := 1) dX12_calls_46 rfl rfl ?_
  refine Z_getr (pc := 47) dX12_calls_47 w8_115 (lk_69 hP3) fr_12_49 (lr_69_49 hP3) ?_
  refine Y_aload_n (pc := 50) (j := 1) dX12_calls_50 rfl rfl ?_
  refine Z_geti (pc := 51) dX12_calls_51 w8_114 (lk_69 hP3) fi_12_48 ?_
  refine Y_iload_n (pc := 54) (j := 2) dX12_calls_54 rfl rfl ?_
  obtain ⟨hb5, h⟩ := okE h
  refine Y_iast (pc := 55) dX12_calls_55 (lk_109 hP3) (ln_109 hP3) hb5 ?_
  obtain ⟨M4, eM4, h⟩ := bndE h
  refine VV.mem eM4 ?_
  have hP4 := hP3.wI eM4
  refine Y_aload_n (pc := 56) (j := 1) dX12_calls_56 rfl rfl ?_
  refine Z_getr (pc := 57) dX12_calls_57 w8_116 (lk_69 hP4) fr_12_50 (lr_69_50 hP4) ?_
  refine Y_aload_n (pc := 60) (j := 1) dX12_calls_60 rfl rfl ?_
  refine Z_geti (pc := 61) dX12_calls_61 w8_114 (lk_69 hP4) fi_12_48 ?_
  refine Y_iconst (pc := 64) (v := (0 : Int32)) dX12_calls_64 rfl ?_
  obtain ⟨hb6, h⟩ := okE h
  refine Y_iast (pc := 65) dX12_calls_65 (lk_110 hP4) (ln_110 hP4) hb6 ?_
  obtain ⟨M5, eM5, h⟩ := bndE h
  refine VV.mem eM5 ?_
  have hP5 := hP4.wI eM5
  refine Y_aload_n (pc := 66) (j := 1) dX12_calls_66 rfl rfl ?_
  refine Z_getr (pc := 67) dX12_calls_67 w8_117 (lk_69 hP5) fr_12_51 (lr_69_51 hP5) ?_
  refine Y_aload_n (pc := 70) (j := 1) dX12_calls_70 rfl rfl ?_
  refine Z_geti (pc := 71) dX12_calls_71 w8_114 (lk_69 hP5) fi_12_48 ?_
  refine Y_iconst (pc := 74) (v := (0 : Int32)) dX12_calls_74 rfl ?_
  obtain ⟨hb7, h⟩ := okE h
  refine Y_iast (pc := 75) dX12_calls_75 (lk_111 hP5) (ln_111 hP5) hb7 ?_
  obtain ⟨M6, eM6, h⟩ := bndE h
  refine VV.mem eM6 ?_
  have hP6 := hP5.wI eM6
  refine Y_iconst (pc := 76) (v := (0 : Int32)) dX12_calls_76 rfl ?_
  refine Y_istore (pc := 77) (lv1 := [(4, .int (0 : Int32)), (3, .int b1), (0, .ref 69), (1, .int x1), (2, .int x2)]) dX12_calls_77 (by decide) rfl ?_
  refine VV.sub [2, 4, 1, 0] rfl ?_
  exact b_X12_calls_79  fuel _ _ _ h hP6
theorem v_X12_calls {x1 : Int32} {x2 : Int32} {M z} (hP : Lay M) (h : d_X12_calls x1 x2 M = some z) : CC Lay k_X12_calls [.ref 69, .int x1, .int x2] M z.2 (Qv (none) z.2) xF :=
  CC.ofVV (by decide) rfl (Nat.le_of_ble_eq_true rfl) (b_X12_calls hP h)
noncomputable def d_X12_puts_152 (M : Mem) : Option (Unit × Mem) :=
  okk (vp_in (mI M 69 48) 12) <|
  okk (vp_in (mI M 69 48) 12) <|
  bnd (sI M 111 (mI M 69 48).toNatClampNeg ((mI M 111 (mI M 69 48).toNatClampNeg) - (2 : Int32))) fun M1 =>
  okk (vp_in (mI M1 69 48) 12) <|
  okk (vp_in (mI M1 69 48) 12) <|
  bnd (sI M1 110 (mI M1 69 48).toNatClampNeg ((mI M1 110 (mI M1 69 48).toNatClampNeg) + (1 : Int32))) fun M2 =>
  some ((), M2)
theorem b_X12_puts_152 {M z} (hP : Lay M) (h : d_X12_puts_152 M = some z) : VV Lay k_X12_puts 152 [(0, .ref 69)] [] M z.2 (Qv (none) z.2) xF := by
  unfold d_X12_puts_152 at h
  refine Y_aload_n (pc := 152) (j := 0) dX12_puts_152 rfl rfl ?_
  refine Z_getr (pc := 153) dX12_puts_153 w8_117 (lk_69 hP) fr_12_51 (lr_69_51 hP) ?_
  refine Y_aload_n (pc := 156) (j := 0) dX12_puts_156 rfl rfl ?_
  refine Z_geti (pc := 157) dX12_puts_157 w8_114 (lk_69 hP) fi_12_48 ?_
  refine Y_dup2 (pc := 160) dX12_puts_160 rfl rfl ?_
  obtain ⟨hb1, h⟩ := okE h
  refine Y_iald (pc := 161) dX12_puts_161 (lk_111 hP) (ln_111 hP) hb1 ?_
  refine Y_iconst (pc := 162) (v := (2 : Int32)) dX12_puts_162 rfl ?_
  refine Y_isub (pc := 163) dX12_puts_163 ?_
  obtain ⟨hb2, h⟩ := okE h
  refine Y_iast (pc := 164) dX12_puts_164 (lk_111 hP) (ln_111 hP) hb2 ?_
  obtain ⟨M1, eM1, h⟩ := bndE h
  refine VV.mem eM1 ?_
  have hP1 := hP.wI eM1
  refine Y_aload_n (pc := 165) (j := 0) dX12_puts_165 rfl rfl ?_
  refine Z_getr (pc := 166) dX12_puts_166 w8_116 (lk_69 hP1) fr_12_50 (lr_69_50 hP1) ?_
  refine Y_aload_n (pc := 169) (j := 0) dX12_puts_169 rfl rfl ?_
  refine Z_geti (pc := 170) dX12_puts_170 w8_114 (lk_69 hP1) fi_12_48 ?_
  refine Y_dup2 (pc := 173) dX12_puts_173 rfl rfl ?_
  obtain ⟨hb3, h⟩ := okE h
  refine Y_iald (pc := 174) dX12_puts_174 (lk_110 hP1) (ln_110 hP1) hb3 ?_
  refine Y_iconst (pc := 175) (v := (1 : Int32)) dX12_puts_175 rfl ?_
  refine Y_iadd (pc := 176) dX12_puts_176 ?_
  obtain ⟨hb4, h⟩ := okE h
  refine Y_iast (pc := 177) dX12_puts_177 (lk_110 hP1) (ln_110 hP1) hb4 ?_
  obtain ⟨M2, eM2, h⟩ := bndE h
  refine VV.mem eM2 ?_
  have hP2 := hP1.wI eM2
  cases h
  exact Y_vret (pc := 178) rfl dX12_puts_178 hP2 ⟨rfl, rfl⟩
noncomputable def d_X12_puts_116b (k116 : (Int32) → Mem → Option (Unit × Mem)) (x2 : Int32) (x6 : Int32) (x7 : Int32) (M : Mem) : Option (Unit × Mem) :=
  if (mI M 69 83) ≤ x7 then (
    okk (vp_in x2 168) <|
    okk (vp_in (mI M 108 x2.toNatClampNeg) 600) <|
    bnd (sI M 125 (mI M 108 x2.toNatClampNeg).toNatClampNeg x6) fun M1 =>
    d_X12_puts_152 M1)
  else (
    okk (vp_in x7 600) <|
    bnd (sI M 125 x7.toNatClampNeg (-1 : Int32)) fun M2 =>
    bnd ((x7 + (1 : Int32))) fun b1 =>
    k116 (b1) M2)
theorem b_X12_puts_116b {k116 : (Int32) → Mem → Option (Unit × Mem)} {x2 : Int32} {x6 : Int32} {x7 : Int32} {M z} (hk116 : ∀ (a : (Int32)) (M : Mem) (z : Unit × Mem), Lay M → k116 a M = some z → VV Lay k_X12_puts 116 [(0, .ref 69), (2, .int x2), (6, .int x6), (7, .int a)] [] M z.2 (Qv (none) z.2) xF) (hP : Lay M) (h : d_X12_puts_116b k116 x2 x6 x7 M = some z) : VV Lay k_X12_puts 116 [(0, .ref 69), (2, .int x2), (6, .int x6), (7, .int x7)] [] M z.2 (Qv (none) z.2) xF := by
  unfold d_X12_puts_116b at h
  refine Y_iload (pc := 116) (j := 3) dX12_puts_116 rfl ?_
  refine Y_aload_n (pc := 118) (j := 0) dX12_puts_118 rfl rfl ?_
  refine Z_geti (pc := 119) dX12_puts_119 w8_149 (lk_69 hP) fi_12_83 ?_
  refine Y_icmp_ge (pc := 122) (tgt := 139) dX12_puts_122 (by decide) (fun hc1 => ?_) (fun hc1 => ?_)
  · replace h := ifT hc1 h
    refine Y_aload_n (pc := 139) (j := 0) dX12_puts_139 rfl rfl ?_
    refine Z_getr (pc := 140) dX12_puts_140 w8_152 (lk_69 hP) fr_12_86 (lr_69_86 hP) ?_
    refine Y_aload_n (pc := 143) (j := 0) dX12_puts_143 rfl rfl ?_
    refine Z_getr (pc := 144) dX12_puts_144 w8_113 (lk_69 hP) fr_12_47 (lr_69_47 hP) ?_
    refine Y_iload_n (pc := 147) (j := 1) dX12_puts_147 rfl rfl ?_
    obtain ⟨hb1, h⟩ := okE h
    refine Y_iald (pc := 148) dX12_puts_148 (lk_108 hP) (ln_108 hP) hb1 ?_
    refine Y_iload (pc := 149) (j := 2) dX12_puts_149 rfl ?_
    obtain ⟨hb2, h⟩ := okE h
    refine Y_iast (pc := 151) dX12_puts_151 (lk_125 hP) (ln_125 hP) hb2 ?_
    obtain ⟨M1, eM1, h⟩ := bndE h
    refine VV.mem eM1 ?_
    have hP1 := hP.wI eM1
    refine VV.sub [0] rfl ?_
    exact b_X12_puts_152  hP1 h
  · replace h := ifF hc1 h
    refine Y_aload_n (pc := 125) (j := 0) dX12_puts_125 rfl rfl ?_
    refine Z_getr (pc := 126) dX12_puts_126 w8_152 (lk_69 hP) fr_12_86 (lr_69_86 hP) ?_
    refine Y_iload (pc := 129) (j := 3) dX12_puts_129 rfl ?_
    refine Y_iconst (pc := 131) (v := (-1 : Int32)) dX12_puts_131 rfl ?_
    obtain ⟨hb3, h⟩ := okE h
    refine Y_iast (pc := 132) dX12_puts_132 (lk_125 hP) (ln_125 hP) hb3 ?_
    obtain ⟨M2, eM2, h⟩ := bndE h
    refine VV.mem eM2 ?_
    have hP2 := hP.wI eM2
    obtain ⟨b1, eb1, h⟩ := bndE h
    refine Y_iinc (pc := 133) (j := 3) (v := b1) (lv1 := [(7, .int b1), (0, .ref 69), (2, .int x2), (6, .int x6)]) dX12_puts_133 rfl eb1.symm (by decide) rfl ?_
    refine Y_goto (pc := 136) (tgt := 116) dX12_puts_136 (by decide) ?_
    refine VV.sub [1, 2, 3, 0] rfl ?_
    exact hk116 _ _ _ hP2 h
noncomputable def d_X12_puts_116 (x2 : Int32) (x6 : Int32) : Nat → (Int32) → Mem → Option (Unit × Mem) := lp fun k a M => d_X12_puts_116b k x2 x6 a M
theorem b_X12_puts_116 {x2 : Int32} {x6 : Int32} (n : Nat) : ∀ (a : (Int32)) (M : Mem) (z : Unit × Mem), d_X12_puts_116 x2 x6 n a M = some z → Lay M → VV Lay k_X12_puts 116 [(0, .ref 69), (2, .int x2), (6, .int x6), (7, .int a)] [] M z.2 (Qv (none) z.2) xF :=
  lp_ind (G := fun (a : (Int32)) (M : Mem) (z : Unit × Mem) => Lay M → VV Lay k_X12_puts 116 [(0, .ref 69), (2, .int x2), (6, .int x6), (7, .int a)] [] M z.2 (Qv (none) z.2) xF) (fun k hk a M z h hP => b_X12_puts_116b  (fun a M z hP h => hk a M z h hP) hP h) n
noncomputable def d_X12_puts (x1 : Int32) (M : Mem) : Option (Unit × Mem) :=
  (d_X12_top (1 : Int32) M).bind fun y1 =>
  okk (vp_in y1.1 168) <|
  bnd ((mI y1.2 106 y1.1.toNatClampNeg)) fun b1 =>
  (d_X12_top (0 : Int32) y1.2).bind fun y2 =>
  okk (vp_in b1 60) <|
  bnd ((mI y2.2 112 b1.toNatClampNeg)) fun b2 =>
  (d_X12_shapeBehind b2 x1 y2.2).bind fun y3 =>
  okk (vp_in b1 60) <|
  bnd (sI y3.2 112 b1.toNatClampNeg y3.1) fun M1 =>
  okk (vp_in y2.1 168) <|
  okk (vp_in (((6 : Int32) * b1) + x1) 360) <|
  okk (isCh (mI M1 105 y2.1.toNatClampNeg)) <|
  bnd (sI M1 113 (((6 : Int32) * b1) + x1).toNatClampNeg (mI M1 105 y2.1.toNatClampNeg)) fun M2 =>
  okk (vp_in y2.1 168) <|
  okk (vp_in (((6 : Int32) * b1) + x1) 360) <|
  bnd (sI M2 114 (((6 : Int32) * b1) + x1).toNatClampNeg (mI M2 106 y2.1.toNatClampNeg)) fun M3 =>
  okk (vp_in y2.1 168) <|
  okk (vp_in (((6 : Int32) * b1) + x1) 360) <|
  bnd (sD M3 115 (((6 : Int32) * b1) + x1).toNatClampNeg (mD M3 107 y2.1.toNatClampNeg)) fun M4 =>
  if (mI M4 69 71) = 0 then (
    d_X12_puts_152 M4)
  else (
    if y3.1 = b2 then (
      d_X12_puts_152 M4)
    else (
      d_X12_puts_116 y1.1 y3.1 fuel ((0 : Int32)) M4))
theorem b_X12_puts {x1 : Int32} {M z} (hP : Lay M) (h : d_X12_puts x1 M = some z) : VV Lay k_X12_puts 0 [(0, .ref 69), (1, .int x1)] [] M z.2 (Qv (none) z.2) xF := by
  unfold d_X12_puts at h
  refine Y_aload_n (pc := 0) (j := 0) dX12_puts_0 rfl rfl ?_
  refine Y_iconst (pc := 1) (v := (1 : Int32)) dX12_puts_1 rfl ?_
  obtain ⟨y1, qy1, h⟩ := bindE h
  have cy1 := v_X12_top hP qy1
  refine C_V1r (pc := 2) (k' := k_X12_top) dX12_puts_2 w9_200 i_X12_top (lk_69 hP) ⟨Nat.le_of_ble_eq_true rfl, Nat.le_of_ble_eq_true rfl⟩ rfl (Nat.le_of_ble_eq_true rfl) (Nat.le_of_ble_eq_true rfl) (Nat.le_of_ble_eq_true rfl) (cy1) ?_
  have hPy1 := cy1.1.1
  refine Y_istore_n (pc := 5) (lv1 := [(2, .int y1.1), (0, .ref 69), (1, .int x1)]) dX12_puts_5 rfl (by decide) rfl ?_
  refine Y_aload_n (pc := 6) (j := 1) dX12_puts_6 rfl rfl ?_
  refine Z_getr (pc := 7) dX12_puts_7 w8_111 (lk_69 hPy1) fr_12_45 (lr_69_45 hPy1) ?_
  refine Y_iload_n (pc := 10) (j := 0) dX12_puts_10 rfl rfl ?_
  obtain ⟨hb1, h⟩ := okE h
  refine Y_iald (pc := 11) dX12_puts_11 (lk_106 hPy1) (ln_106 hPy1) hb1 ?_
  obtain ⟨b1, eb1, h⟩ := bndE h
  refine VV.topI eb1 ?_
  refine Y_istore_n (pc := 12) (lv1 := [(3, .int b1), (2, .int y1.1), (0, .ref 69), (1, .int x1)]) dX12_puts_12 rfl (by decide) rfl ?_
  refine Y_aload_n (pc := 13) (j := 2) dX12_puts_13 rfl rfl ?_
  refine Y_iconst (pc := 14) (v := (0 : Int32)) dX12_puts_14 rfl ?_
  obtain ⟨y2, qy2, h⟩ := bindE h
  have cy2 := v_X12_top hPy1 qy2
  refine C_V1r (pc := 15) (k' := k_X12_top) dX12_puts_15 w9_200 i_X12_top (lk_69 hPy1) ⟨Nat.le_of_ble_eq_true rfl, Nat.le_of_ble_eq_true rfl⟩ rfl (Nat.le_of_ble_eq_true rfl) (Nat.le_of_ble_eq_true rfl) (Nat.le_of_ble_eq_true rfl) (cy2) ?_
  have hPy2 := cy2.1.1
  refine Y_istore (pc := 18) (lv1 := [(4, .int y2.1), (3, .int b1), (2, .int y1.1), (0, .ref 69), (1, .int x1)]) dX12_puts_18 (by decide) rfl ?_
  refine Y_aload_n (pc := 20) (j := 3) dX12_puts_20 rfl rfl ?_
  refine Z_getr (pc := 21) dX12_puts_21 w8_119 (lk_69 hPy2) fr_12_53 (lr_69_53 hPy2) ?_
  refine Y_iload_n (pc := 24) (j := 1) dX12_puts_24 rfl rfl ?_
  obtain ⟨hb2, h⟩ := okE h
  refine Y_iald (pc := 25) dX12_puts_25 (lk_112 hPy2) (ln_112 hPy2) hb2 ?_
  obtain ⟨b2, eb2, h⟩ := bndE h
  refine VV.topI eb2 ?_
  refine Y_istore (pc := 26) (lv1 := [(5, .int b2), (4, .int y2.1), (3, .int b1), (2, .int y1.1), (0, .ref 69), (1, .int x1)]) dX12_puts_26 (by decide) rfl ?_
  refine Y_aload_n (pc := 28) (j := 4) dX12_puts_28 rfl rfl ?_
  refine Y_iload (pc := 29) (j := 0) dX12_puts_29 rfl ?_
  refine Y_iload_n (pc := 31) (j := 5) dX12_puts_31 rfl rfl ?_
  obtain ⟨y3, qy3, h⟩ := bindE h
  have cy3 := v_X12_shapeBehind hPy2 qy3
  refine C_V2r (pc := 32) (k' := k_X12_shapeBehind) dX12_puts_32 w10_75 i_X12_shapeBehind (lk_69 hPy2) ⟨Nat.le_of_ble_eq_true rfl, Nat.le_of_ble_eq_true rfl⟩ rfl (Nat.le_of_ble_eq_true rfl) (Nat.le_of_ble_eq_true rfl) (Nat.le_of_ble_eq_true rfl) (cy3) ?_
  have hPy3 := cy3.1.1
  refine Y_istore (pc := 35) (lv1 := [(6, .int y3.1), (5, .int b2), (4, .int y2.1), (3, .int b1), (2, .int y1.1), (0, .ref 69), (1, .int x1)]) dX12_puts_35 (by decide) rfl ?_
  refine Y_aload_n (pc := 37) (j := 5) dX12_puts_37 rfl rfl ?_
  refine Z_getr (pc := 38) dX12_puts_38 w8_119 (lk_69 hPy3) fr_12_53 (lr_69_53 hPy3) ?_
  refine Y_iload_n (pc := 41) (j := 3) dX12_puts_41 rfl rfl ?_
  refine Y_iload (pc := 42) (j := 0) dX12_puts_42 rfl ?_
  obtain ⟨hb3, h⟩ := okE h
  refine Y_iast (pc := 44) dX12_puts_44 (lk_112 hPy3) (ln_112 hPy3) hb3 ?_
  obtain ⟨M1, eM1, h⟩ := bndE h
  refine VV.mem eM1 ?_
  have hP1 := hPy3.wI eM1
  refine Y_aload_n (pc := 45) (j := 5) dX12_puts_45 rfl rfl ?_
  refine Z_getr (pc := 46) dX12_puts_46 w8_120 (lk_69 hP1) fr_12_54 (lr_69_54 hP1) ?_
  refine Y_bipush (pc := 49) (v := (6 : Int32)) dX12_puts_49 rfl ?_
  refine Y_iload_n (pc := 51) (j := 3) dX12_puts_51 rfl rfl ?_
  refine Y_imul (pc := 52) dX12_puts_52 ?_
  refine Y_iload_n (pc := 53) (j := 6) dX12_puts_53 rfl rfl ?_
  refine Y_iadd (pc := 54) dX12_puts_54 ?_
  refine Y_aload_n (pc := 55) (j := 5) dX12_puts_55 rfl rfl ?_
  refine Z_getr (pc := 56) dX12_puts_56 w8_110 (lk_69 hP1) fr_12_44 (lr_69_44 hP1) ?_
  refine Y_iload (pc := 59) (j := 2) dX12_puts_59 rfl ?_
  obtain ⟨hb4, h⟩ := okE h
  refine Y_cald (pc := 61) dX12_puts_61 (lk_105 hP1) (ln_105 hP1) hb4 ?_
  obtain ⟨hb5, h⟩ := okE h
  obtain ⟨hb6, h⟩ := okE h
  refine Y_cast (pc := 62) dX12_puts_62 (lk_113 hP1) (ln_113 hP1) hb5 (nar_ch hb6) ?_
  obtain ⟨M2, eM2, h⟩ := bndE h
  refine VV.mem eM2 ?_
  have hP2 := hP1.wI eM2
  refine Y_aload_n (pc := 63) (j := 5) dX12_puts_63 rfl rfl ?_
  refine Z_getr (pc := 64) dX12_puts_64 w8_121 (lk_69 hP2) fr_12_55 (lr_69_55 hP2) ?_
  refine Y_bipush (pc := 67) (v := (6 : Int32)) dX12_puts_67 rfl ?_
  refine Y_iload_n (pc := 69) (j := 3) dX12_puts_69 rfl rfl ?_
  refine Y_imul (pc := 70) dX12_puts_70 ?_
  refine Y_iload_n (pc := 71) (j := 6) dX12_puts_71 rfl rfl ?_
  refine Y_iadd (pc := 72) dX12_puts_72 ?_
  refine Y_aload_n (pc := 73) (j := 5) dX12_puts_73 rfl rfl ?_
  refine Z_getr (pc := 74) dX12_puts_74 w8_111 (lk_69 hP2) fr_12_45 (lr_69_45 hP2) ?_
  refine Y_iload (pc := 77) (j := 2) dX12_puts_77 rfl ?_
  obtain ⟨hb7, h⟩ := okE h
  refine Y_iald (pc := 79) dX12_puts_79 (lk_106 hP2) (ln_106 hP2) hb7 ?_
  obtain ⟨hb8, h⟩ := okE h
  refine Y_iast (pc := 80) dX12_puts_80 (lk_114 hP2) (ln_114 hP2) hb8 ?_
  obtain ⟨M3, eM3, h⟩ := bndE h
  refine VV.mem eM3 ?_
  have hP3 := hP2.wI eM3
  refine Y_aload_n (pc := 81) (j := 5) dX12_puts_81 rfl rfl ?_
  refine Z_getr (pc := 82) dX12_puts_82 w8_122 (lk_69 hP3) fr_12_56 (lr_69_56 hP3) ?_
  refine Y_bipush (pc := 85) (v := (6 : Int32)) dX12_puts_85 rfl ?_
  refine Y_iload_n (pc := 87) (j := 3) dX12_puts_87 rfl rfl ?_
  refine Y_imul (pc := 88) dX12_puts_88 ?_
  refine Y_iload_n (pc := 89) (j := 6) dX12_puts_89 rfl rfl ?_
  refine Y_iadd (pc := 90) dX12_puts_90 ?_
  refine Y_aload_n (pc := 91) (j := 5) dX12_puts_91 rfl rfl ?_
  refine Z_getr (pc := 92) dX12_puts_92 w8_112 (lk_69 hP3) fr_12_46 (lr_69_46 hP3) ?_
  refine Y_iload (pc := 95) (j := 2) dX12_puts_95 rfl ?_
  obtain ⟨hb9, h⟩ := okE h
  refine Y_dald (pc := 97) dX12_puts_97 (lk_107 hP3) (ln_107 hP3) hb9 ?_
  obtain ⟨hb10, h⟩ := okE h
  refine Y_dast (pc := 98) dX12_puts_98 (lk_115 hP3) (ln_115 hP3) hb10 ?_
  obtain ⟨M4, eM4, h⟩ := bndE h
  refine VV.mem eM4 ?_
  have hP4 := hP3.wD eM4
  refine Y_aload_n (pc := 99) (j := 5) dX12_puts_99 rfl rfl ?_
  refine Z_geti (pc := 100) dX12_puts_100 w8_137 (lk_69 hP4) fi_12_71 ?_
  refine Y_if_eq (pc := 103) (tgt := 152) dX12_puts_103 (by decide) (fun hc1 => ?_) (fun hc1 => ?_)
  · replace h := ifT hc1 h
    refine VV.sub [5] rfl ?_
    exact b_X12_puts_152  hP4 h
  · replace h := ifF hc1 h
    refine Y_iload (pc := 106) (j := 0) dX12_puts_106 rfl ?_
    refine Y_iload (pc := 108) (j := 1) dX12_puts_108 rfl ?_
    refine Y_icmp_eq (pc := 110) (tgt := 152) dX12_puts_110 (by decide) (fun hc2 => ?_) (fun hc2 => ?_)
    · replace h := ifT hc2 h
      refine VV.sub [5] rfl ?_
      exact b_X12_puts_152  hP4 h
    · replace h := ifF hc2 h
      refine Y_iconst (pc := 113) (v := (0 : Int32)) dX12_puts_113 rfl ?_
      refine Y_istore (pc := 114) (lv1 := [(7, .int (0 : Int32)), (6, .int y3.1), (5, .int b2), (4, .int y2.1), (3, .int b1), (2, .int y1.1), (0, .ref 69), (1, .int x1)]) dX12_puts_114 (by decide) rfl ?_
      refine VV.sub [6, 5, 1, 0] rfl ?_
      exact b_X12_puts_116  fuel _ _ _ h hP4
theorem v_X12_puts {x1 : Int32} {M z} (hP : Lay M) (h : d_X12_puts x1 M = some z) : CC Lay k_X12_puts [.ref 69, .int x1] M z.2 (Qv (none) z.2) xF :=
  CC.ofVV (by decide) rfl (Nat.le_of_ble_eq_true rfl) (b_X12_puts hP h)
noncomputable def d_X12_returns (M : Mem) : Option (Unit × Mem) :=
  (d_X12_top (0 : Int32) M).bind fun y1 =>
  if (mI y1.2 69 48) = 0 then (
    bnd (sI y1.2 69 67 (0 : Int32)) fun M3 =>
    bnd (sI M3 69 62 (118 : Int32)) fun M4 =>
    okk (vp_in y1.1 168) <|
    okk (isCh (mI M4 105 y1.1.toNatClampNeg)) <|
    bnd (sI M4 69 63 (mI M4 105 y1.1.toNatClampNeg)) fun M5 =>
    okk (vp_in y1.1 168) <|
    okk (vp_in y1.1 168) <|
    okk (vp_in y1.1 168) <|
    (d_X12_told (mI M5 105 y1.1.toNatClampNeg) (mI M5 106 y1.1.toNatClampNeg) (mD M5 107 y1.1.toNatClampNeg) M5).bind fun y4 =>
    bnd (sL y4.2 69 64 y4.1) fun M6 =>
    some ((), M6))
  else (
    bnd (sI y1.2 69 48 ((mI y1.2 69 48) - (1 : Int32))) fun M1 =>
    okk (vp_in (mI M1 69 48) 12) <|
    okk (vp_in (mI M1 69 48) 12) <|
    bnd (sI M1 111 (mI M1 69 48).toNatClampNeg ((mI M1 111 (mI M1 69 48).toNatClampNeg) + (1 : Int32))) fun M2 =>
    (d_X12_top (0 : Int32) M2).bind fun y2 =>
    (d_X12_copies y1.1 y2.1 y2.2).bind fun y3 =>
    some ((), y3.2))
theorem b_X12_returns {M z} (hP : Lay M) (h : d_X12_returns M = some z) : VV Lay k_X12_returns 0 [(0, .ref 69)] [] M z.2 (Qv (none) z.2) xF := by
  unfold d_X12_returns at h
  refine Y_aload_n (pc := 0) (j := 0) dX12_returns_0 rfl rfl ?_
  refine Y_iconst (pc := 1) (v := (0 : Int32)) dX12_returns_1 rfl ?_
  obtain ⟨y1, qy1, h⟩ := bindE h
  have cy1 := v_X12_top hP qy1
  refine C_V1r (pc := 2) (k' := k_X12_top) dX12_returns_2 w9_200 i_X12_top (lk_69 hP) ⟨Nat.le_of_ble_eq_true rfl, Nat.le_of_ble_eq_true rfl⟩ rfl (Nat.le_of_ble_eq_true rfl) (Nat.le_of_ble_eq_true rfl) (Nat.le_of_ble_eq_true rfl) (cy1) ?_
  have hPy1 := cy1.1.1
  refine Y_istore_n (pc := 5) (lv1 := [(1, .int y1.1), (0, .ref 69)]) dX12_returns_5 rfl (by decide) rfl ?_
  refine Y_aload_n (pc := 6) (j := 1) dX12_returns_6 rfl rfl ?_
  refine Z_geti (pc := 7) dX12_returns_7 w8_114 (lk_69 hPy1) fi_12_48 ?_
  refine Y_if_ne (pc := 10) (tgt := 60) dX12_returns_10 (by decide) (fun hc1 => ?_) (fun hc1 => ?_)
  · replace h := ifF hc1 h
    refine Y_aload_n (pc := 60) (j := 1) dX12_returns_60 rfl rfl ?_
    refine Y_dup (pc := 61) dX12_returns_61 rfl ?_
    refine Z_geti (pc := 62) dX12_returns_62 w8_114 (lk_69 hPy1) fi_12_48 ?_
    refine Y_iconst (pc := 65) (v := (1 : Int32)) dX12_returns_65 rfl ?_
    refine Y_isub (pc := 66) dX12_returns_66 ?_
    refine Z_puti (pc := 67) dX12_returns_67 w8_114 (lk_69 hPy1) fi_12_48 (Or.inl rfl) rfl ?_
    obtain ⟨M1, eM1, h⟩ := bndE h
    refine VV.mem eM1 ?_
    have hP1 := hPy1.wI eM1
    refine Y_aload_n (pc := 70) (j := 1) dX12_returns_70 rfl rfl ?_
    refine Z_getr (pc := 71) dX12_returns_71 w8_117 (lk_69 hP1) fr_12_51 (lr_69_51 hP1) ?_
    refine Y_aload_n (pc := 74) (j := 1) dX12_returns_74 rfl rfl ?_
    refine Z_geti (pc := 75) dX12_returns_75 w8_114 (lk_69 hP1) fi_12_48 ?_
    refine Y_dup2 (pc := 78) dX12_returns_78 rfl rfl ?_
    obtain ⟨hb1, h⟩ := okE h
    refine Y_iald (pc := 79) dX12_returns_79 (lk_111 hP1) (ln_111 hP1) hb1 ?_
    refine Y_iconst (pc := 80) (v := (1 : Int32)) dX12_returns_80 rfl ?_
    refine Y_iadd (pc := 81) dX12_returns_81 ?_
    obtain ⟨hb2, h⟩ := okE h
    refine Y_iast (pc := 82) dX12_returns_82 (lk_111 hP1) (ln_111 hP1) hb2 ?_
    obtain ⟨M2, eM2, h⟩ := bndE h
    refine VV.mem eM2 ?_
    have hP2 := hP1.wI eM2
    refine Y_aload_n (pc := 83) (j := 1) dX12_returns_83 rfl rfl ?_
    refine Y_iload_n (pc := 84) (j := 0) dX12_returns_84 rfl rfl ?_
    refine Y_aload_n (pc := 85) (j := 1) dX12_returns_85 rfl rfl ?_
    refine Y_iconst (pc := 86) (v := (0 : Int32)) dX12_returns_86 rfl ?_
    obtain ⟨y2, qy2, h⟩ := bindE h
    have cy2 := v_X12_top hP2 qy2
    refine C_V1r (pc := 87) (k' := k_X12_top) dX12_returns_87 w9_200 i_X12_top (lk_69 hP2) ⟨Nat.le_of_ble_eq_true rfl, Nat.le_of_ble_eq_true rfl⟩ rfl (Nat.le_of_ble_eq_true rfl) (Nat.le_of_ble_eq_true rfl) (Nat.le_of_ble_eq_true rfl) (cy2) ?_
    have hPy2 := cy2.1.1
    obtain ⟨y3, qy3, h⟩ := bindE h
    have cy3 := v_X12_copies hPy2 qy3
    refine C_V2o (pc := 90) (k' := k_X12_copies) dX12_returns_90 w10_55 i_X12_copies (lk_69 hPy2) ⟨Nat.le_of_ble_eq_true rfl, Nat.le_of_ble_eq_true rfl⟩ rfl (Nat.le_of_ble_eq_true rfl) (Nat.le_of_ble_eq_true rfl) (Nat.le_of_ble_eq_true rfl) (cy3) ?_
    have hPy3 := cy3.1.1
    cases h
    exact Y_vret (pc := 93) rfl dX12_returns_93 hPy3 ⟨rfl, rfl⟩
  · replace h := ifT hc1 h
    refine Y_aload_n (pc := 13) (j := 1) dX12_returns_13 rfl rfl ?_
    refine Y_iconst (pc := 14) (v := (0 : Int32)) dX12_returns_14 rfl ?_
    refine Z_putz (pc := 15) dX12_returns_15 w8_133 (lk_69 hPy1) fi_12_67 (Or.inl rfl) rfl (by decide) ?_
    obtain ⟨M3, eM3, h⟩ := bndE h
    refine VV.mem eM3 ?_
    have hP3 := hPy1.wI eM3
    refine Y_aload_n (pc := 18) (j := 1) dX12_returns_18 rfl rfl ?_
    refine Y_bipush (pc := 19) (v := (118 : Int32)) dX12_returns_19 rfl ?_
    refine Z_putc (pc := 21) dX12_returns_21 w8_128 (lk_69 hP3) fi_12_62 (Or.inl rfl) rfl (by decide) ?_
    obtain ⟨M4, eM4, h⟩ := bndE h
    refine VV.mem eM4 ?_
    have hP4 := hP3.wI eM4
    refine Y_aload_n (pc := 24) (j := 1) dX12_returns_24 rfl rfl ?_
    refine Y_aload_n (pc := 25) (j := 1) dX12_returns_25 rfl rfl ?_
    refine Z_getr (pc := 26) dX12_returns_26 w8_110 (lk_69 hP4) fr_12_44 (lr_69_44 hP4) ?_
    refine Y_iload_n (pc := 29) (j := 0) dX12_returns_29 rfl rfl ?_
    obtain ⟨hb3, h⟩ := okE h
    refine Y_cald (pc := 30) dX12_returns_30 (lk_105 hP4) (ln_105 hP4) hb3 ?_
    obtain ⟨hb4, h⟩ := okE h
    refine Z_putc (pc := 31) dX12_returns_31 w8_129 (lk_69 hP4) fi_12_63 (Or.inl rfl) rfl hb4 ?_
    obtain ⟨M5, eM5, h⟩ := bndE h
    refine VV.mem eM5 ?_
    have hP5 := hP4.wI eM5
    refine Y_aload_n (pc := 34) (j := 1) dX12_returns_34 rfl rfl ?_
    refine Y_aload_n (pc := 35) (j := 1) dX12_returns_35 rfl rfl ?_
    refine Z_getr (pc := 36) dX12_returns_36 w8_110 (lk_69 hP5) fr_12_44 (lr_69_44 hP5) ?_
    refine Y_iload_n (pc := 39) (j := 0) dX12_returns_39 rfl rfl ?_
    obtain ⟨hb5, h⟩ := okE h
    refine Y_cald (pc := 40) dX12_returns_40 (lk_105 hP5) (ln_105 hP5) hb5 ?_
    refine Y_aload_n (pc := 41) (j := 1) dX12_returns_41 rfl rfl ?_
    refine Z_getr (pc := 42) dX12_returns_42 w8_111 (lk_69 hP5) fr_12_45 (lr_69_45 hP5) ?_
    refine Y_iload_n (pc := 45) (j := 0) dX12_returns_45 rfl rfl ?_
    obtain ⟨hb6, h⟩ := okE h
    refine Y_iald (pc := 46) dX12_returns_46 (lk_106 hP5) (ln_106 hP5) hb6 ?_
    refine Y_aload_n (pc := 47) (j := 1) dX12_returns_47 rfl rfl ?_
    refine Z_getr (pc := 48) dX12_returns_48 w8_112 (lk_69 hP5) fr_12_46 (lr_69_46 hP5) ?_
    refine Y_iload_n (pc := 51) (j := 0) dX12_returns_51 rfl rfl ?_
    obtain ⟨hb7, h⟩ := okE h
    refine Y_dald (pc := 52) dX12_returns_52 (lk_107 hP5) (ln_107 hP5) hb7 ?_
    obtain ⟨y4, qy4, h⟩ := bindE h
    have cy4 := v_X12_told hP5 qy4
    refine C_S3r (pc := 53) (k' := k_X12_told) dX12_returns_53 w10_87 i_X12_told (Nat.le_of_ble_eq_true rfl) (Nat.le_of_ble_eq_true rfl) (Nat.le_of_ble_eq_true rfl) (cy4) ?_
    have hPy4 := cy4.1.1
    refine Z_putl (pc := 56) dX12_returns_56 w8_130 (lk_69 hPy4) fl_12_64 (Or.inl rfl) rfl ?_
    obtain ⟨M6, eM6, h⟩ := bndE h
    refine VV.mem eM6 ?_
    have hP6 := hPy4.wL eM6
    cases h
    exact Y_vret (pc := 59) rfl dX12_returns_59 hP6 ⟨rfl, rfl⟩
theorem v_X12_returns {M z} (hP : Lay M) (h : d_X12_returns M = some z) : CC Lay k_X12_returns [.ref 69] M z.2 (Qv (none) z.2) xF :=
  CC.ofVV (by decide) rfl (Nat.le_of_ble_eq_true rfl) (b_X12_returns hP h)
noncomputable def d_X12_tells_70 (M : Mem) : Option (Unit × Mem) :=
  okk (vp_in (mI M 69 48) 12) <|
  okk (vp_in (mI M 69 48) 12) <|
  bnd (sI M 111 (mI M 69 48).toNatClampNeg ((mI M 111 (mI M 69 48).toNatClampNeg) - (1 : Int32))) fun M1 =>
  okk (vp_in (mI M1 69 48) 12) <|
  okk (vp_in (mI M1 69 48) 12) <|
  bnd (sI M1 110 (mI M1 69 48).toNatClampNeg ((mI M1 110 (mI M1 69 48).toNatClampNeg) + (1 : Int32))) fun M2 =>
  some ((), M2)
theorem b_X12_tells_70 {M z} (hP : Lay M) (h : d_X12_tells_70 M = some z) : VV Lay k_X12_tells 70 [(0, .ref 69)] [] M z.2 (Qv (none) z.2) xF := by
  unfold d_X12_tells_70 at h
  refine Y_aload_n (pc := 70) (j := 0) dX12_tells_70 rfl rfl ?_
  refine Z_getr (pc := 71) dX12_tells_71 w8_117 (lk_69 hP) fr_12_51 (lr_69_51 hP) ?_
  refine Y_aload_n (pc := 74) (j := 0) dX12_tells_74 rfl rfl ?_
  refine Z_geti (pc := 75) dX12_tells_75 w8_114 (lk_69 hP) fi_12_48 ?_
  refine Y_dup2 (pc := 78) dX12_tells_78 rfl rfl ?_
  obtain ⟨hb1, h⟩ := okE h
  refine Y_iald (pc := 79) dX12_tells_79 (lk_111 hP) (ln_111 hP) hb1 ?_
  refine Y_iconst (pc := 80) (v := (1 : Int32)) dX12_tells_80 rfl ?_
  refine Y_isub (pc := 81) dX12_tells_81 ?_
  obtain ⟨hb2, h⟩ := okE h
  refine Y_iast (pc := 82) dX12_tells_82 (lk_111 hP) (ln_111 hP) hb2 ?_
  obtain ⟨M1, eM1, h⟩ := bndE h
  refine VV.mem eM1 ?_
  have hP1 := hP.wI eM1
  refine Y_aload_n (pc := 83) (j := 0) dX12_tells_83 rfl rfl ?_
  refine Z_getr (pc := 84) dX12_tells_84 w8_116 (lk_69 hP1) fr_12_50 (lr_69_50 hP1) ?_
  refine Y_aload_n (pc := 87) (j := 0) dX12_tells_87 rfl rfl ?_
  refine Z_geti (pc := 88) dX12_tells_88 w8_114 (lk_69 hP1) fi_12_48 ?_
  refine Y_dup2 (pc := 91) dX12_tells_91 rfl rfl ?_
  obtain ⟨hb3, h⟩ := okE h
  refine Y_iald (pc := 92) dX12_tells_92 (lk_110 hP1) (ln_110 hP1) hb3 ?_
  refine Y_iconst (pc := 93) (v := (1 : Int32)) dX12_tells_93 rfl ?_
  refine Y_iadd (pc := 94) dX12_tells_94 ?_
  obtain ⟨hb4, h⟩ := okE h
  refine Y_iast (pc := 95) dX12_tells_95 (lk_110 hP1) (ln_110 hP1) hb4 ?_
  obtain ⟨M2, eM2, h⟩ := bndE h
  refine VV.mem eM2 ?_
  have hP2 := hP1.wI eM2
  cases h
  exact Y_vret (pc := 96) rfl dX12_tells_96 hP2 ⟨rfl, rfl⟩
noncomputable def d_X12_tells (M : Mem) : Option (Unit × Mem) :=
  (d_X12_top (0 : Int32) M).bind fun y1 =>
  if (20 : Int32) ≤ (mI y1.2 69 59) then (
    d_X12_tells_70 y1.2)
  else (
    okk (vp_in y1.1 168) <|
    okk (vp_in (mI y1.2 69 59) 20) <|
    okk (isCh (mI y1.2 105 y1.1.toNatClampNeg)) <|
    bnd (sI y1.2 116 (mI y1.2 69 59).toNatClampNeg (mI y1.2 105 y1.1.toNatClampNeg)) fun M1 =>
    okk (vp_in y1.1 168) <|
    okk (vp_in y1.1 168) <|
    okk (vp_in y1.1 168) <|
    (d_X12_told (mI M1 105 y1.1.toNatClampNeg) (mI M1 106 y1.1.toNatClampNeg) (mD M1 107 y1.1.toNatClampNeg) M1).bind fun y2 =>
    okk (vp_in (mI M1 69 59) 20) <|
    bnd (sL y2.2 117 (mI M1 69 59).toNatClampNeg y2.1) fun M2 =>
    bnd (sI M2 69 59 ((mI M2 69 59) + (1 : Int32))) fun M3 =>
    d_X12_tells_70 M3)
theorem b_X12_tells {M z} (hP : Lay M) (h : d_X12_tells M = some z) : VV Lay k_X12_tells 0 [(0, .ref 69)] [] M z.2 (Qv (none) z.2) xF := by
  unfold d_X12_tells at h
  refine Y_aload_n (pc := 0) (j := 0) dX12_tells_0 rfl rfl ?_
  refine Y_iconst (pc := 1) (v := (0 : Int32)) dX12_tells_1 rfl ?_
  obtain ⟨y1, qy1, h⟩ := bindE h
  have cy1 := v_X12_top hP qy1
  refine C_V1r (pc := 2) (k' := k_X12_top) dX12_tells_2 w9_200 i_X12_top (lk_69 hP) ⟨Nat.le_of_ble_eq_true rfl, Nat.le_of_ble_eq_true rfl⟩ rfl (Nat.le_of_ble_eq_true rfl) (Nat.le_of_ble_eq_true rfl) (Nat.le_of_ble_eq_true rfl) (cy1) ?_
  have hPy1 := cy1.1.1
  refine Y_istore_n (pc := 5) (lv1 := [(1, .int y1.1), (0, .ref 69)]) dX12_tells_5 rfl (by decide) rfl ?_
  refine Y_aload_n (pc := 6) (j := 1) dX12_tells_6 rfl rfl ?_
  refine Z_geti (pc := 7) dX12_tells_7 w8_125 (lk_69 hPy1) fi_12_59 ?_
  refine Y_bipush (pc := 10) (v := (20 : Int32)) dX12_tells_10 rfl ?_
  refine Y_icmp_ge (pc := 12) (tgt := 70) dX12_tells_12 (by decide) (fun hc1 => ?_) (fun hc1 => ?_)
  · replace h := ifT hc1 h
    refine VV.sub [1] rfl ?_
    exact b_X12_tells_70  hPy1 h
  · replace h := ifF hc1 h
    refine Y_aload_n (pc := 15) (j := 1) dX12_tells_15 rfl rfl ?_
    refine Z_getr (pc := 16) dX12_tells_16 w8_126 (lk_69 hPy1) fr_12_60 (lr_69_60 hPy1) ?_
    refine Y_aload_n (pc := 19) (j := 1) dX12_tells_19 rfl rfl ?_
    refine Z_geti (pc := 20) dX12_tells_20 w8_125 (lk_69 hPy1) fi_12_59 ?_
    refine Y_aload_n (pc := 23) (j := 1) dX12_tells_23 rfl rfl ?_
    refine Z_getr (pc := 24) dX12_tells_24 w8_110 (lk_69 hPy1) fr_12_44 (lr_69_44 hPy1) ?_
    refine Y_iload_n (pc := 27) (j := 0) dX12_tells_27 rfl rfl ?_
    obtain ⟨hb1, h⟩ := okE h
    refine Y_cald (pc := 28) dX12_tells_28 (lk_105 hPy1) (ln_105 hPy1) hb1 ?_
    obtain ⟨hb2, h⟩ := okE h
    obtain ⟨hb3, h⟩ := okE h
    refine Y_cast (pc := 29) dX12_tells_29 (lk_116 hPy1) (ln_116 hPy1) hb2 (nar_ch hb3) ?_
    obtain ⟨M1, eM1, h⟩ := bndE h
    refine VV.mem eM1 ?_
    have hP1 := hPy1.wI eM1
    refine Y_aload_n (pc := 30) (j := 1) dX12_tells_30 rfl rfl ?_
    refine Z_getr (pc := 31) dX12_tells_31 w8_127 (lk_69 hP1) fr_12_61 (lr_69_61 hP1) ?_
    refine Y_aload_n (pc := 34) (j := 1) dX12_tells_34 rfl rfl ?_
    refine Z_geti (pc := 35) dX12_tells_35 w8_125 (lk_69 hP1) fi_12_59 ?_
    refine Y_aload_n (pc := 38) (j := 1) dX12_tells_38 rfl rfl ?_
    refine Z_getr (pc := 39) dX12_tells_39 w8_110 (lk_69 hP1) fr_12_44 (lr_69_44 hP1) ?_
    refine Y_iload_n (pc := 42) (j := 0) dX12_tells_42 rfl rfl ?_
    obtain ⟨hb4, h⟩ := okE h
    refine Y_cald (pc := 43) dX12_tells_43 (lk_105 hP1) (ln_105 hP1) hb4 ?_
    refine Y_aload_n (pc := 44) (j := 1) dX12_tells_44 rfl rfl ?_
    refine Z_getr (pc := 45) dX12_tells_45 w8_111 (lk_69 hP1) fr_12_45 (lr_69_45 hP1) ?_
    refine Y_iload_n (pc := 48) (j := 0) dX12_tells_48 rfl rfl ?_
    obtain ⟨hb5, h⟩ := okE h
    refine Y_iald (pc := 49) dX12_tells_49 (lk_106 hP1) (ln_106 hP1) hb5 ?_
    refine Y_aload_n (pc := 50) (j := 1) dX12_tells_50 rfl rfl ?_
    refine Z_getr (pc := 51) dX12_tells_51 w8_112 (lk_69 hP1) fr_12_46 (lr_69_46 hP1) ?_
    refine Y_iload_n (pc := 54) (j := 0) dX12_tells_54 rfl rfl ?_
    obtain ⟨hb6, h⟩ := okE h
    refine Y_dald (pc := 55) dX12_tells_55 (lk_107 hP1) (ln_107 hP1) hb6 ?_
    obtain ⟨y2, qy2, h⟩ := bindE h
    have cy2 := v_X12_told hP1 qy2
    refine C_S3r (pc := 56) (k' := k_X12_told) dX12_tells_56 w10_87 i_X12_told (Nat.le_of_ble_eq_true rfl) (Nat.le_of_ble_eq_true rfl) (Nat.le_of_ble_eq_true rfl) (cy2) ?_
    have hPy2 := cy2.1.1
    obtain ⟨hb7, h⟩ := okE h
    refine Y_last (pc := 59) dX12_tells_59 (lk_117 hPy2) (ln_117 hPy2) hb7 ?_
    obtain ⟨M2, eM2, h⟩ := bndE h
    refine VV.mem eM2 ?_
    have hP2 := hPy2.wL eM2
    refine Y_aload_n (pc := 60) (j := 1) dX12_tells_60 rfl rfl ?_
    refine Y_dup (pc := 61) dX12_tells_61 rfl ?_
    refine Z_geti (pc := 62) dX12_tells_62 w8_125 (lk_69 hP2) fi_12_59 ?_
    refine Y_iconst (pc := 65) (v := (1 : Int32)) dX12_tells_65 rfl ?_
    refine Y_iadd (pc := 66) dX12_tells_66 ?_
    refine Z_puti (pc := 67) dX12_tells_67 w8_125 (lk_69 hP2) fi_12_59 (Or.inl rfl) rfl ?_
    obtain ⟨M3, eM3, h⟩ := bndE h
    refine VV.mem eM3 ?_
    have hP3 := hP2.wI eM3
    refine VV.sub [1] rfl ?_
    exact b_X12_tells_70  hP3 h
theorem v_X12_tells {M z} (hP : Lay M) (h : d_X12_tells M = some z) : CC Lay k_X12_tells [.ref 69] M z.2 (Qv (none) z.2) xF :=
  CC.ofVV (by decide) rfl (Nat.le_of_ble_eq_true rfl) (b_X12_tells hP h)
noncomputable def d_X12_made_64 (x1 : Int32) (x2 : Int32) (s0 : Int32) (M : Mem) : Option (Int32 × Mem) :=
  if x1 = 0 then (
    okk (vp_in x2 600) <|
    bnd (sI M 126 x2.toNatClampNeg (0 : Int32)) fun M3 =>
    some (x2, M3))
  else (
    if s0 = 0 then (
      okk (vp_in x2 600) <|
      bnd (sI M 126 x2.toNatClampNeg (2 : Int32)) fun M1 =>
      some (x2, M1))
    else (
      okk (vp_in x2 600) <|
      bnd (sI M 126 x2.toNatClampNeg (1 : Int32)) fun M2 =>
      some (x2, M2)))
theorem b_X12_made_64 {x1 : Int32} {x2 : Int32} {s0 : Int32} {M z} (hP : Lay M) (h : d_X12_made_64 x1 x2 s0 M = some z) : VV Lay k_X12_made 64 [(0, .ref 69), (1, .int x1), (2, .int x2)] [.int s0] M z.2 (Qv (some (.int z.1)) z.2) xF := by
  unfold d_X12_made_64 at h
  refine Y_istore_n (pc := 64) (lv1 := [(3, .int s0), (0, .ref 69), (1, .int x1), (2, .int x2)]) dX12_made_64 rfl (by decide) rfl ?_
  refine Y_aload_n (pc := 65) (j := 1) dX12_made_65 rfl rfl ?_
  refine Z_getr (pc := 66) dX12_made_66 w8_153 (lk_69 hP) fr_12_87 (lr_69_87 hP) ?_
  refine Y_iload_n (pc := 69) (j := 3) dX12_made_69 rfl rfl ?_
  refine Y_iload_n (pc := 70) (j := 2) dX12_made_70 rfl rfl ?_
  refine Y_if_ne (pc := 71) (tgt := 78) dX12_made_71 (by decide) (fun hc1 => ?_) (fun hc1 => ?_)
  · replace h := ifF hc1 h
    refine Y_iload_n (pc := 78) (j := 0) dX12_made_78 rfl rfl ?_
    refine Y_if_eq (pc := 79) (tgt := 86) dX12_made_79 (by decide) (fun hc2 => ?_) (fun hc2 => ?_)
    · replace h := ifT hc2 h
      refine Y_iconst (pc := 86) (v := (2 : Int32)) dX12_made_86 rfl ?_
      obtain ⟨hb1, h⟩ := okE h
      refine Y_iast (pc := 87) dX12_made_87 (lk_126 hP) (ln_126 hP) hb1 ?_
      obtain ⟨M1, eM1, h⟩ := bndE h
      refine VV.mem eM1 ?_
      have hP1 := hP.wI eM1
      refine Y_iload_n (pc := 88) (j := 3) dX12_made_88 rfl rfl ?_
      cases h
      exact Y_iret (pc := 89) rfl rfl dX12_made_89 hP1 ⟨rfl, rfl⟩
    · replace h := ifF hc2 h
      refine Y_iconst (pc := 82) (v := (1 : Int32)) dX12_made_82 rfl ?_
      refine Y_goto (pc := 83) (tgt := 87) dX12_made_83 (by decide) ?_
      obtain ⟨hb2, h⟩ := okE h
      refine Y_iast (pc := 87) dX12_made_87 (lk_126 hP) (ln_126 hP) hb2 ?_
      obtain ⟨M2, eM2, h⟩ := bndE h
      refine VV.mem eM2 ?_
      have hP2 := hP.wI eM2
      refine Y_iload_n (pc := 88) (j := 3) dX12_made_88 rfl rfl ?_
      cases h
      exact Y_iret (pc := 89) rfl rfl dX12_made_89 hP2 ⟨rfl, rfl⟩
  · replace h := ifT hc1 h
    refine Y_iconst (pc := 74) (v := (0 : Int32)) dX12_made_74 rfl ?_
    refine Y_goto (pc := 75) (tgt := 87) dX12_made_75 (by decide) ?_
    obtain ⟨hb3, h⟩ := okE h
    refine Y_iast (pc := 87) dX12_made_87 (lk_126 hP) (ln_126 hP) hb3 ?_
    obtain ⟨M3, eM3, h⟩ := bndE h
    refine VV.mem eM3 ?_
    have hP3 := hP.wI eM3
    refine Y_iload_n (pc := 88) (j := 3) dX12_made_88 rfl rfl ?_
    cases h
    exact Y_iret (pc := 89) rfl rfl dX12_made_89 hP3 ⟨rfl, rfl⟩
noncomputable def d_X12_made_63 (x1 : Int32) (x2 : Int32) (M : Mem) : Option (Int32 × Mem) :=
  d_X12_made_64 x1 x2 (0 : Int32) M
theorem b_X12_made_63 {x1 : Int32} {x2 : Int32} {M z} (hP : Lay M) (h : d_X12_made_63 x1 x2 M = some z) : VV Lay k_X12_made 63 [(0, .ref 69), (1, .int x1), (2, .int x2)] [] M z.2 (Qv (some (.int z.1)) z.2) xF := by
  unfold d_X12_made_63 at h
  refine Y_iconst (pc := 63) (v := (0 : Int32)) dX12_made_63 rfl ?_
  refine VV.sub [0, 1, 2] rfl ?_
  exact b_X12_made_64  hP h
noncomputable def d_X12_made_59 (x1 : Int32) (x2 : Int32) (M : Mem) : Option (Int32 × Mem) :=
  d_X12_made_64 x1 x2 (1 : Int32) M
theorem b_X12_made_59 {x1 : Int32} {x2 : Int32} {M z} (hP : Lay M) (h : d_X12_made_59 x1 x2 M = some z) : VV Lay k_X12_made 59 [(0, .ref 69), (1, .int x1), (2, .int x2)] [] M z.2 (Qv (some (.int z.1)) z.2) xF := by
  unfold d_X12_made_59 at h
  refine Y_iconst (pc := 59) (v := (1 : Int32)) dX12_made_59 rfl ?_
  refine Y_goto (pc := 60) (tgt := 64) dX12_made_60 (by decide) ?_
  refine VV.sub [0, 1, 2] rfl ?_
  exact b_X12_made_64  hP h
noncomputable def d_X12_made_41 (x1 : Int32) (x2 : Int32) (M : Mem) : Option (Int32 × Mem) :=
  if (mI M 69 88) = (102 : Int32) then (
    if (Op.cmpValue (FP.dcmp (mD M 69 90) FP.dconst0) .l) = 0 then (
      d_X12_made_59 x1 x2 M)
    else (
      d_X12_made_63 x1 x2 M))
  else (
    d_X12_made_63 x1 x2 M)
theorem b_X12_made_41 {x1 : Int32} {x2 : Int32} {M z} (hP : Lay M) (h : d_X12_made_41 x1 x2 M = some z) : VV Lay k_X12_made 41 [(0, .ref 69), (1, .int x1), (2, .int x2)] [] M z.2 (Qv (some (.int z.1)) z.2) xF := by
  unfold d_X12_made_41 at h
  refine Y_aload_n (pc := 41) (j := 0) dX12_made_41 rfl rfl ?_
  refine Z_geti (pc := 42) dX12_made_42 w8_154 (lk_69 hP) fi_12_88 ?_
  refine Y_bipush (pc := 45) (v := (102 : Int32)) dX12_made_45 rfl ?_
  refine Y_icmp_ne (pc := 47) (tgt := 63) dX12_made_47 (by decide) (fun hc1 => ?_) (fun hc1 => ?_)
  · replace h := ifF hc1 h
    refine VV.sub [0, 1, 2] rfl ?_
    exact b_X12_made_63  hP h
  · replace h := ifT hc1 h
    refine Y_aload_n (pc := 50) (j := 0) dX12_made_50 rfl rfl ?_
    refine Z_getd (pc := 51) dX12_made_51 w8_156 (lk_69 hP) fd_12_90 ?_
    refine Y_dconst0 (pc := 54) dX12_made_54 ?_
    refine Y_dcmp (pc := 55) dX12_made_55 ?_
    refine Y_if_ne (pc := 56) (tgt := 63) dX12_made_56 (by decide) (fun hc2 => ?_) (fun hc2 => ?_)
    · replace h := ifF hc2 h
      refine VV.sub [0, 1, 2] rfl ?_
      exact b_X12_made_63  hP h
    · replace h := ifT hc2 h
      refine VV.sub [0, 1, 2] rfl ?_
      exact b_X12_made_59  hP h
noncomputable def d_X12_made (x1 : Int32) (M : Mem) : Option (Int32 × Mem) :=
  if (mI M 69 71) = 0 then (
    some ((0 : Int32), M))
  else (
    (d_X12_valueOf (mI M 69 88) M).bind fun y1 =>
    okk (vp_in y1.1 600) <|
    okk (isBo x1) <|
    bnd (sI y1.2 124 y1.1.toNatClampNeg x1) fun M1 =>
    if (mI M1 69 88) = (105 : Int32) then (
      if (mI M1 69 89) = 0 then (
        d_X12_made_59 x1 y1.1 M1)
      else (
        d_X12_made_41 x1 y1.1 M1))
    else (
      d_X12_made_41 x1 y1.1 M1))
theorem b_X12_made {x1 : Int32} {M z} (hP : Lay M) (h : d_X12_made x1 M = some z) : VV Lay k_X12_made 0 [(0, .ref 69), (1, .int x1)] [] M z.2 (Qv (some (.int z.1)) z.2) xF := by
  unfold d_X12_made at h
  refine Y_aload_n (pc := 0) (j := 0) dX12_made_0 rfl rfl ?_
  refine Z_geti (pc := 1) dX12_made_1 w8_137 (lk_69 hP) fi_12_71 ?_
  refine Y_if_ne (pc := 4) (tgt := 9) dX12_made_4 (by decide) (fun hc1 => ?_) (fun hc1 => ?_)
  · replace h := ifF hc1 h
    refine Y_aload_n (pc := 9) (j := 0) dX12_made_9 rfl rfl ?_
    refine Y_aload_n (pc := 10) (j := 0) dX12_made_10 rfl rfl ?_
    refine Z_geti (pc := 11) dX12_made_11 w8_154 (lk_69 hP) fi_12_88 ?_
    obtain ⟨y1, qy1, h⟩ := bindE h
    have cy1 := v_X12_valueOf hP qy1
    refine C_V1r (pc := 14) (k' := k_X12_valueOf) dX12_made_14 w10_47 i_X12_valueOf (lk_69 hP) ⟨Nat.le_of_ble_eq_true rfl, Nat.le_of_ble_eq_true rfl⟩ rfl (Nat.le_of_ble_eq_true rfl) (Nat.le_of_ble_eq_true rfl) (Nat.le_of_ble_eq_true rfl) (cy1) ?_
    have hPy1 := cy1.1.1
    refine Y_istore_n (pc := 17) (lv1 := [(2, .int y1.1), (0, .ref 69), (1, .int x1)]) dX12_made_17 rfl (by decide) rfl ?_
    refine Y_aload_n (pc := 18) (j := 1) dX12_made_18 rfl rfl ?_
    refine Z_getr (pc := 19) dX12_made_19 w8_151 (lk_69 hPy1) fr_12_85 (lr_69_85 hPy1) ?_
    refine Y_iload_n (pc := 22) (j := 0) dX12_made_22 rfl rfl ?_
    refine Y_iload_n (pc := 23) (j := 2) dX12_made_23 rfl rfl ?_
    obtain ⟨hb1, h⟩ := okE h
    obtain ⟨hb2, h⟩ := okE h
    refine Y_zast (pc := 24) dX12_made_24 (lk_124 hPy1) (ln_124 hPy1) hb1 (nar_bo hb2) ?_
    obtain ⟨M1, eM1, h⟩ := bndE h
    refine VV.mem eM1 ?_
    have hP1 := hPy1.wI eM1
    refine Y_aload_n (pc := 25) (j := 1) dX12_made_25 rfl rfl ?_
    refine Z_geti (pc := 26) dX12_made_26 w8_154 (lk_69 hP1) fi_12_88 ?_
    refine Y_bipush (pc := 29) (v := (105 : Int32)) dX12_made_29 rfl ?_
    refine Y_icmp_ne (pc := 31) (tgt := 41) dX12_made_31 (by decide) (fun hc2 => ?_) (fun hc2 => ?_)
    · replace h := ifF hc2 h
      refine VV.sub [1, 2, 0] rfl ?_
      exact b_X12_made_41  hP1 h
    · replace h := ifT hc2 h
      refine Y_aload_n (pc := 34) (j := 1) dX12_made_34 rfl rfl ?_
      refine Z_geti (pc := 35) dX12_made_35 w8_155 (lk_69 hP1) fi_12_89 ?_
      refine Y_if_eq (pc := 38) (tgt := 59) dX12_made_38 (by decide) (fun hc3 => ?_) (fun hc3 => ?_)
      · replace h := ifT hc3 h
        refine VV.sub [1, 2, 0] rfl ?_
        exact b_X12_made_59  hP1 h
      · replace h := ifF hc3 h
        refine VV.sub [1, 2, 0] rfl ?_
        exact b_X12_made_41  hP1 h
  · replace h := ifT hc1 h
    refine Y_iconst (pc := 7) (v := (0 : Int32)) dX12_made_7 rfl ?_
    cases h
    exact Y_iret (pc := 8) rfl rfl dX12_made_8 hP ⟨rfl, rfl⟩
theorem v_X12_made {x1 : Int32} {M z} (hP : Lay M) (h : d_X12_made x1 M = some z) : CC Lay k_X12_made [.ref 69, .int x1] M z.2 (Qv (some (.int z.1)) z.2) xF :=
  CC.ofVV (by decide) rfl (Nat.le_of_ble_eq_true rfl) (b_X12_made hP h)
noncomputable def d_X12_reckonsOn_194 (x2 : Int32) (M : Mem) : Option (Unit × Mem) :=
  (d_X12_pushes x2 M).bind fun y1 =>
  okk (vp_in (mI y1.2 69 48) 12) <|
  okk (vp_in (mI y1.2 69 48) 12) <|
  bnd (sI y1.2 110 (mI y1.2 69 48).toNatClampNeg ((mI y1.2 110 (mI y1.2 69 48).toNatClampNeg) + (1 : Int32))) fun M1 =>
  some ((), M1)
theorem b_X12_reckonsOn_194 {x2 : Int32} {M z} (hP : Lay M) (h : d_X12_reckonsOn_194 x2 M = some z) : VV Lay k_X12_reckonsOn 194 [(0, .ref 69), (2, .int x2)] [] M z.2 (Qv (none) z.2) xF := by
  unfold d_X12_reckonsOn_194 at h
  refine Y_aload_n (pc := 194) (j := 0) dX12_reckonsOn_194 rfl rfl ?_
  refine Y_iload_n (pc := 195) (j := 1) dX12_reckonsOn_195 rfl rfl ?_
  obtain ⟨y1, qy1, h⟩ := bindE h
  have cy1 := v_X12_pushes hP qy1
  refine C_V1o (pc := 196) (k' := k_X12_pushes) dX12_reckonsOn_196 w10_51 i_X12_pushes (lk_69 hP) ⟨Nat.le_of_ble_eq_true rfl, Nat.le_of_ble_eq_true rfl⟩ rfl (Nat.le_of_ble_eq_true rfl) (Nat.le_of_ble_eq_true rfl) (Nat.le_of_ble_eq_true rfl) (cy1) ?_
  have hPy1 := cy1.1.1
  refine Y_aload_n (pc := 199) (j := 0) dX12_reckonsOn_199 rfl rfl ?_
  refine Z_getr (pc := 200) dX12_reckonsOn_200 w8_116 (lk_69 hPy1) fr_12_50 (lr_69_50 hPy1) ?_
  refine Y_aload_n (pc := 203) (j := 0) dX12_reckonsOn_203 rfl rfl ?_
  refine Z_geti (pc := 204) dX12_reckonsOn_204 w8_114 (lk_69 hPy1) fi_12_48 ?_
  refine Y_dup2 (pc := 207) dX12_reckonsOn_207 rfl rfl ?_
  obtain ⟨hb1, h⟩ := okE h
  refine Y_iald (pc := 208) dX12_reckonsOn_208 (lk_110 hPy1) (ln_110 hPy1) hb1 ?_
  refine Y_iconst (pc := 209) (v := (1 : Int32)) dX12_reckonsOn_209 rfl ?_
  refine Y_iadd (pc := 210) dX12_reckonsOn_210 ?_
  obtain ⟨hb2, h⟩ := okE h
  refine Y_iast (pc := 211) dX12_reckonsOn_211 (lk_110 hPy1) (ln_110 hPy1) hb2 ?_
  obtain ⟨M1, eM1, h⟩ := bndE h
  refine VV.mem eM1 ?_
  have hP1 := hPy1.wI eM1
  cases h
  exact Y_vret (pc := 212) rfl dX12_reckonsOn_212 hP1 ⟨rfl, rfl⟩
noncomputable def d_X12_reckonsOn_171 (x3 : Int32) (s1 : Int32) (s2 : Int32) (M : Mem) : Option (Unit × Mem) :=
  (d_X12_gives s1 s2 FP.dconst0 M).bind fun y1 =>
  okk (vp_in (mI y1.2 69 48) 12) <|
  okk (vp_in (mI y1.2 69 48) 12) <|
  bnd (sI y1.2 111 (mI y1.2 69 48).toNatClampNeg ((mI y1.2 111 (mI y1.2 69 48).toNatClampNeg) - (1 : Int32))) fun M1 =>
  (d_X12_made x3 M1).bind fun y2 =>
  d_X12_reckonsOn_194 y2.1 y2.2
theorem b_X12_reckonsOn_171 {x3 : Int32} {s1 : Int32} {s2 : Int32} {M z} (hP : Lay M) (h : d_X12_reckonsOn_171 x3 s1 s2 M = some z) : VV Lay k_X12_reckonsOn 171 [(0, .ref 69), (3, .int x3)] [.int s2, .int s1, .ref 69] M z.2 (Qv (none) z.2) xF := by
  unfold d_X12_reckonsOn_171 at h
  refine Y_dconst0 (pc := 171) dX12_reckonsOn_171 ?_
  obtain ⟨y1, qy1, h⟩ := bindE h
  have cy1 := v_X12_gives hP qy1
  refine C_V3o (pc := 172) (k' := k_X12_gives) dX12_reckonsOn_172 w10_17 i_X12_gives (lk_69 hP) ⟨Nat.le_of_ble_eq_true rfl, Nat.le_of_ble_eq_true rfl⟩ rfl (Nat.le_of_ble_eq_true rfl) (Nat.le_of_ble_eq_true rfl) (Nat.le_of_ble_eq_true rfl) (cy1) ?_
  have hPy1 := cy1.1.1
  refine Y_aload_n (pc := 175) (j := 0) dX12_reckonsOn_175 rfl rfl ?_
  refine Z_getr (pc := 176) dX12_reckonsOn_176 w8_117 (lk_69 hPy1) fr_12_51 (lr_69_51 hPy1) ?_
  refine Y_aload_n (pc := 179) (j := 0) dX12_reckonsOn_179 rfl rfl ?_
  refine Z_geti (pc := 180) dX12_reckonsOn_180 w8_114 (lk_69 hPy1) fi_12_48 ?_
  refine Y_dup2 (pc := 183) dX12_reckonsOn_183 rfl rfl ?_
  obtain ⟨hb1, h⟩ := okE h
  refine Y_iald (pc := 184) dX12_reckonsOn_184 (lk_111 hPy1) (ln_111 hPy1) hb1 ?_
  refine Y_iconst (pc := 185) (v := (1 : Int32)) dX12_reckonsOn_185 rfl ?_
  refine Y_isub (pc := 186) dX12_reckonsOn_186 ?_
  obtain ⟨hb2, h⟩ := okE h
  refine Y_iast (pc := 187) dX12_reckonsOn_187 (lk_111 hPy1) (ln_111 hPy1) hb2 ?_
  obtain ⟨M1, eM1, h⟩ := bndE h
  refine VV.mem eM1 ?_
  have hP1 := hPy1.wI eM1
  refine Y_aload_n (pc := 188) (j := 0) dX12_reckonsOn_188 rfl rfl ?_
  refine Y_iload_n (pc := 189) (j := 1) dX12_reckonsOn_189 rfl rfl ?_
  obtain ⟨y2, qy2, h⟩ := bindE h
  have cy2 := v_X12_made hP1 qy2
  refine C_V1r (pc := 190) (k' := k_X12_made) dX12_reckonsOn_190 w10_43 i_X12_made (lk_69 hP1) ⟨Nat.le_of_ble_eq_true rfl, Nat.le_of_ble_eq_true rfl⟩ rfl (Nat.le_of_ble_eq_true rfl) (Nat.le_of_ble_eq_true rfl) (Nat.le_of_ble_eq_true rfl) (cy2) ?_
  have hPy2 := cy2.1.1
  refine Y_istore_n (pc := 193) (lv1 := [(2, .int y2.1), (0, .ref 69), (3, .int x3)]) dX12_reckonsOn_193 rfl (by decide) rfl ?_
  refine VV.sub [1, 0] rfl ?_
  exact b_X12_reckonsOn_194  hPy2 h
noncomputable def d_X12_reckonsOn_125 (s0 : Int32) (M : Mem) : Option (Unit × Mem) :=
  (d_X12_top (0 : Int32) M).bind fun y1 =>
  okk (vp_in y1.1 168) <|
  if (mI y1.2 105 y1.1.toNatClampNeg) = (105 : Int32) then (
    (d_X12_top (0 : Int32) y1.2).bind fun y4 =>
    okk (vp_in y4.1 168) <|
    d_X12_reckonsOn_171 s0 (105 : Int32) (mI y4.2 106 y4.1.toNatClampNeg) y4.2)
  else (
    (d_X12_top (0 : Int32) y1.2).bind fun y2 =>
    okk (vp_in y2.1 168) <|
    (d_X12_rounded (mD y2.2 107 y2.1.toNatClampNeg) y2.2).bind fun y3 =>
    d_X12_reckonsOn_171 s0 (105 : Int32) (FP.d2i y3.1) y3.2)
theorem b_X12_reckonsOn_125 {s0 : Int32} {M z} (hP : Lay M) (h : d_X12_reckonsOn_125 s0 M = some z) : VV Lay k_X12_reckonsOn 125 [(0, .ref 69)] [.int s0] M z.2 (Qv (none) z.2) xF := by
  unfold d_X12_reckonsOn_125 at h
  refine Y_istore_n (pc := 125) (lv1 := [(3, .int s0), (0, .ref 69)]) dX12_reckonsOn_125 rfl (by decide) rfl ?_
  refine Y_aload_n (pc := 126) (j := 1) dX12_reckonsOn_126 rfl rfl ?_
  refine Y_bipush (pc := 127) (v := (105 : Int32)) dX12_reckonsOn_127 rfl ?_
  refine Y_aload_n (pc := 129) (j := 1) dX12_reckonsOn_129 rfl rfl ?_
  refine Z_getr (pc := 130) dX12_reckonsOn_130 w8_110 (lk_69 hP) fr_12_44 (lr_69_44 hP) ?_
  refine Y_aload_n (pc := 133) (j := 1) dX12_reckonsOn_133 rfl rfl ?_
  refine Y_iconst (pc := 134) (v := (0 : Int32)) dX12_reckonsOn_134 rfl ?_
  obtain ⟨y1, qy1, h⟩ := bindE h
  have cy1 := v_X12_top hP qy1
  refine C_V1r (pc := 135) (k' := k_X12_top) dX12_reckonsOn_135 w9_200 i_X12_top (lk_69 hP) ⟨Nat.le_of_ble_eq_true rfl, Nat.le_of_ble_eq_true rfl⟩ rfl (Nat.le_of_ble_eq_true rfl) (Nat.le_of_ble_eq_true rfl) (Nat.le_of_ble_eq_true rfl) (cy1) ?_
  have hPy1 := cy1.1.1
  obtain ⟨hb1, h⟩ := okE h
  refine Y_cald (pc := 138) dX12_reckonsOn_138 (lk_105 hPy1) (ln_105 hPy1) hb1 ?_
  refine Y_bipush (pc := 139) (v := (105 : Int32)) dX12_reckonsOn_139 rfl ?_
  refine Y_icmp_ne (pc := 141) (tgt := 157) dX12_reckonsOn_141 (by decide) (fun hc1 => ?_) (fun hc1 => ?_)
  · replace h := ifF hc1 h
    refine Y_aload_n (pc := 157) (j := 1) dX12_reckonsOn_157 rfl rfl ?_
    refine Z_getr (pc := 158) dX12_reckonsOn_158 w8_112 (lk_69 hPy1) fr_12_46 (lr_69_46 hPy1) ?_
    refine Y_aload_n (pc := 161) (j := 1) dX12_reckonsOn_161 rfl rfl ?_
    refine Y_iconst (pc := 162) (v := (0 : Int32)) dX12_reckonsOn_162 rfl ?_
    obtain ⟨y2, qy2, h⟩ := bindE h
    have cy2 := v_X12_top hPy1 qy2
    refine C_V1r (pc := 163) (k' := k_X12_top) dX12_reckonsOn_163 w9_200 i_X12_top (lk_69 hPy1) ⟨Nat.le_of_ble_eq_true rfl, Nat.le_of_ble_eq_true rfl⟩ rfl (Nat.le_of_ble_eq_true rfl) (Nat.le_of_ble_eq_true rfl) (Nat.le_of_ble_eq_true rfl) (cy2) ?_
    have hPy2 := cy2.1.1
    obtain ⟨hb2, h⟩ := okE h
    refine Y_dald (pc := 166) dX12_reckonsOn_166 (lk_107 hPy2) (ln_107 hPy2) hb2 ?_
    obtain ⟨y3, qy3, h⟩ := bindE h
    have cy3 := v_X12_rounded hPy2 qy3
    refine C_S1r (pc := 167) (k' := k_X12_rounded) dX12_reckonsOn_167 w9_207 i_X12_rounded (Nat.le_of_ble_eq_true rfl) (Nat.le_of_ble_eq_true rfl) (Nat.le_of_ble_eq_true rfl) (cy3) ?_
    have hPy3 := cy3.1.1
    refine Y_d2i (pc := 170) dX12_reckonsOn_170 ?_
    refine VV.sub [1, 0] rfl ?_
    exact b_X12_reckonsOn_171  hPy3 h
  · replace h := ifT hc1 h
    refine Y_aload_n (pc := 144) (j := 1) dX12_reckonsOn_144 rfl rfl ?_
    refine Z_getr (pc := 145) dX12_reckonsOn_145 w8_111 (lk_69 hPy1) fr_12_45 (lr_69_45 hPy1) ?_
    refine Y_aload_n (pc := 148) (j := 1) dX12_reckonsOn_148 rfl rfl ?_
    refine Y_iconst (pc := 149) (v := (0 : Int32)) dX12_reckonsOn_149 rfl ?_
    obtain ⟨y4, qy4, h⟩ := bindE h
    have cy4 := v_X12_top hPy1 qy4
    refine C_V1r (pc := 150) (k' := k_X12_top) dX12_reckonsOn_150 w9_200 i_X12_top (lk_69 hPy1) ⟨Nat.le_of_ble_eq_true rfl, Nat.le_of_ble_eq_true rfl⟩ rfl (Nat.le_of_ble_eq_true rfl) (Nat.le_of_ble_eq_true rfl) (Nat.le_of_ble_eq_true rfl) (cy4) ?_
    have hPy4 := cy4.1.1
    obtain ⟨hb3, h⟩ := okE h
    refine Y_iald (pc := 153) dX12_reckonsOn_153 (lk_106 hPy4) (ln_106 hPy4) hb3 ?_
    refine Y_goto (pc := 154) (tgt := 171) dX12_reckonsOn_154 (by decide) ?_
    refine VV.sub [1, 0] rfl ?_
    exact b_X12_reckonsOn_171  hPy4 h
noncomputable def d_X12_reckonsOn_124 (M : Mem) : Option (Unit × Mem) :=
  d_X12_reckonsOn_125 (0 : Int32) M
theorem b_X12_reckonsOn_124 {M z} (hP : Lay M) (h : d_X12_reckonsOn_124 M = some z) : VV Lay k_X12_reckonsOn 124 [(0, .ref 69)] [] M z.2 (Qv (none) z.2) xF := by
  unfold d_X12_reckonsOn_124 at h
  refine Y_iconst (pc := 124) (v := (0 : Int32)) dX12_reckonsOn_124 rfl ?_
  refine VV.sub [0] rfl ?_
  exact b_X12_reckonsOn_125  hP h
noncomputable def d_X12_reckonsOn_57 (x1 : Int32) (s0 : Int32) (M : Mem) : Option (Unit × Mem) :=
  (d_X12_top (1 : Int32) M).bind fun y1 =>
  (d_X12_top (0 : Int32) y1.2).bind fun y2 =>
  (d_X12_reckons x1 y1.1 y2.1 y2.2).bind fun y3 =>
  okk (vp_in (mI y3.2 69 48) 12) <|
  okk (vp_in (mI y3.2 69 48) 12) <|
  bnd (sI y3.2 111 (mI y3.2 69 48).toNatClampNeg ((mI y3.2 111 (mI y3.2 69 48).toNatClampNeg) - (2 : Int32))) fun M1 =>
  (d_X12_made s0 M1).bind fun y4 =>
  d_X12_reckonsOn_194 y4.1 y4.2
theorem b_X12_reckonsOn_57 {x1 : Int32} {s0 : Int32} {M z} (hP : Lay M) (h : d_X12_reckonsOn_57 x1 s0 M = some z) : VV Lay k_X12_reckonsOn 57 [(0, .ref 69), (1, .int x1)] [.int s0] M z.2 (Qv (none) z.2) xF := by
  unfold d_X12_reckonsOn_57 at h
  refine Y_istore_n (pc := 57) (lv1 := [(3, .int s0), (0, .ref 69), (1, .int x1)]) dX12_reckonsOn_57 rfl (by decide) rfl ?_
  refine Y_aload_n (pc := 58) (j := 1) dX12_reckonsOn_58 rfl rfl ?_
  refine Y_iload_n (pc := 59) (j := 2) dX12_reckonsOn_59 rfl rfl ?_
  refine Y_aload_n (pc := 60) (j := 1) dX12_reckonsOn_60 rfl rfl ?_
  refine Y_iconst (pc := 61) (v := (1 : Int32)) dX12_reckonsOn_61 rfl ?_
  obtain ⟨y1, qy1, h⟩ := bindE h
  have cy1 := v_X12_top hP qy1
  refine C_V1r (pc := 62) (k' := k_X12_top) dX12_reckonsOn_62 w9_200 i_X12_top (lk_69 hP) ⟨Nat.le_of_ble_eq_true rfl, Nat.le_of_ble_eq_true rfl⟩ rfl (Nat.le_of_ble_eq_true rfl) (Nat.le_of_ble_eq_true rfl) (Nat.le_of_ble_eq_true rfl) (cy1) ?_
  have hPy1 := cy1.1.1
  refine Y_aload_n (pc := 65) (j := 1) dX12_reckonsOn_65 rfl rfl ?_
  refine Y_iconst (pc := 66) (v := (0 : Int32)) dX12_reckonsOn_66 rfl ?_
  obtain ⟨y2, qy2, h⟩ := bindE h
  have cy2 := v_X12_top hPy1 qy2
  refine C_V1r (pc := 67) (k' := k_X12_top) dX12_reckonsOn_67 w9_200 i_X12_top (lk_69 hPy1) ⟨Nat.le_of_ble_eq_true rfl, Nat.le_of_ble_eq_true rfl⟩ rfl (Nat.le_of_ble_eq_true rfl) (Nat.le_of_ble_eq_true rfl) (Nat.le_of_ble_eq_true rfl) (cy2) ?_
  have hPy2 := cy2.1.1
  obtain ⟨y3, qy3, h⟩ := bindE h
  have cy3 := v_X12_reckons hPy2 qy3
  refine C_V3o (pc := 70) (k' := k_X12_reckons) dX12_reckonsOn_70 w10_9 i_X12_reckons (lk_69 hPy2) ⟨Nat.le_of_ble_eq_true rfl, Nat.le_of_ble_eq_true rfl⟩ rfl (Nat.le_of_ble_eq_true rfl) (Nat.le_of_ble_eq_true rfl) (Nat.le_of_ble_eq_true rfl) (cy3) ?_
  have hPy3 := cy3.1.1
  refine Y_aload_n (pc := 73) (j := 1) dX12_reckonsOn_73 rfl rfl ?_
  refine Z_getr (pc := 74) dX12_reckonsOn_74 w8_117 (lk_69 hPy3) fr_12_51 (lr_69_51 hPy3) ?_
  refine Y_aload_n (pc := 77) (j := 1) dX12_reckonsOn_77 rfl rfl ?_
  refine Z_geti (pc := 78) dX12_reckonsOn_78 w8_114 (lk_69 hPy3) fi_12_48 ?_
  refine Y_dup2 (pc := 81) dX12_reckonsOn_81 rfl rfl ?_
  obtain ⟨hb1, h⟩ := okE h
  refine Y_iald (pc := 82) dX12_reckonsOn_82 (lk_111 hPy3) (ln_111 hPy3) hb1 ?_
  refine Y_iconst (pc := 83) (v := (2 : Int32)) dX12_reckonsOn_83 rfl ?_
  refine Y_isub (pc := 84) dX12_reckonsOn_84 ?_
  obtain ⟨hb2, h⟩ := okE h
  refine Y_iast (pc := 85) dX12_reckonsOn_85 (lk_111 hPy3) (ln_111 hPy3) hb2 ?_
  obtain ⟨M1, eM1, h⟩ := bndE h
  refine VV.mem eM1 ?_
  have hP1 := hPy3.wI eM1
  refine Y_aload_n (pc := 86) (j := 1) dX12_reckonsOn_86 rfl rfl ?_
  refine Y_iload_n (pc := 87) (j := 0) dX12_reckonsOn_87 rfl rfl ?_
  obtain ⟨y4, qy4, h⟩ := bindE h
  have cy4 := v_X12_made hP1 qy4
  refine C_V1r (pc := 88) (k' := k_X12_made) dX12_reckonsOn_88 w10_43 i_X12_made (lk_69 hP1) ⟨Nat.le_of_ble_eq_true rfl, Nat.le_of_ble_eq_true rfl⟩ rfl (Nat.le_of_ble_eq_true rfl) (Nat.le_of_ble_eq_true rfl) (Nat.le_of_ble_eq_true rfl) (cy4) ?_
  have hPy4 := cy4.1.1
  refine Y_istore_n (pc := 91) (lv1 := [(2, .int y4.1), (3, .int s0), (0, .ref 69), (1, .int x1)]) dX12_reckonsOn_91 rfl (by decide) rfl ?_
  refine Y_goto (pc := 92) (tgt := 194) dX12_reckonsOn_92 (by decide) ?_
  refine VV.sub [2, 0] rfl ?_
  exact b_X12_reckonsOn_194  hPy4 h
noncomputable def d_X12_reckonsOn_56 (x1 : Int32) (M : Mem) : Option (Unit × Mem) :=
  d_X12_reckonsOn_57 x1 (0 : Int32) M
theorem b_X12_reckonsOn_56 {x1 : Int32} {M z} (hP : Lay M) (h : d_X12_reckonsOn_56 x1 M = some z) : VV Lay k_X12_reckonsOn 56 [(0, .ref 69), (1, .int x1)] [] M z.2 (Qv (none) z.2) xF := by
  unfold d_X12_reckonsOn_56 at h
  refine Y_iconst (pc := 56) (v := (0 : Int32)) dX12_reckonsOn_56 rfl ?_
  refine VV.sub [0, 1] rfl ?_
  exact b_X12_reckonsOn_57  hP h
noncomputable def d_X12_reckonsOn (x1 : Int32) (M : Mem) : Option (Unit × Mem) :=
  (d_X12_isPair x1 M).bind fun y1 =>
  if y1.1 = 0 then (
    if (mI y1.2 69 71) = 0 then (
      d_X12_reckonsOn_124 y1.2)
    else (
      (d_X12_top (0 : Int32) y1.2).bind fun y2 =>
      okk (vp_in y2.1 168) <|
      okk (vp_in (mI y2.2 108 y2.1.toNatClampNeg) 600) <|
      if (mI y2.2 124 (mI y2.2 108 y2.1.toNatClampNeg).toNatClampNeg) = 0 then (
        d_X12_reckonsOn_124 y2.2)
      else (
        d_X12_reckonsOn_125 (1 : Int32) y2.2)))
  else (
    if (mI y1.2 69 71) = 0 then (
      d_X12_reckonsOn_56 x1 y1.2)
    else (
      (d_X12_top (1 : Int32) y1.2).bind fun y3 =>
      okk (vp_in y3.1 168) <|
      okk (vp_in (mI y3.2 108 y3.1.toNatClampNeg) 600) <|
      if (mI y3.2 124 (mI y3.2 108 y3.1.toNatClampNeg).toNatClampNeg) = 0 then (
        d_X12_reckonsOn_56 x1 y3.2)
      else (
        (d_X12_top (0 : Int32) y3.2).bind fun y4 =>
        okk (vp_in y4.1 168) <|
        okk (vp_in (mI y4.2 108 y4.1.toNatClampNeg) 600) <|
        if (mI y4.2 124 (mI y4.2 108 y4.1.toNatClampNeg).toNatClampNeg) = 0 then (
          d_X12_reckonsOn_56 x1 y4.2)
        else (
          d_X12_reckonsOn_57 x1 (1 : Int32) y4.2))))
theorem b_X12_reckonsOn {x1 : Int32} {M z} (hP : Lay M) (h : d_X12_reckonsOn x1 M = some z) : VV Lay k_X12_reckonsOn 0 [(0, .ref 69), (1, .int x1)] [] M z.2 (Qv (none) z.2) xF := by
  unfold d_X12_reckonsOn at h
  refine Y_iconst (pc := 0) (v := (0 : Int32)) dX12_reckonsOn_0 rfl ?_
  refine Y_istore_n (pc := 1) (lv1 := [(2, .int (0 : Int32)), (0, .ref 69), (1, .int x1)]) dX12_reckonsOn_1 rfl (by decide) rfl ?_
  refine Y_iload_n (pc := 2) (j := 2) dX12_reckonsOn_2 rfl rfl ?_
  obtain ⟨y1, qy1, h⟩ := bindE h
  have cy1 := v_X12_isPair hP qy1
  refine C_S1r (pc := 3) (k' := k_X12_isPair) dX12_reckonsOn_3 w9_129 i_X12_isPair (Nat.le_of_ble_eq_true rfl) (Nat.le_of_ble_eq_true rfl) (Nat.le_of_ble_eq_true rfl) (cy1) ?_
  have hPy1 := cy1.1.1
  refine Y_if_eq (pc := 6) (tgt := 95) dX12_reckonsOn_6 (by decide) (fun hc1 => ?_) (fun hc1 => ?_)
  · replace h := ifT hc1 h
    refine Y_aload_n (pc := 95) (j := 1) dX12_reckonsOn_95 rfl rfl ?_
    refine Z_geti (pc := 96) dX12_reckonsOn_96 w8_137 (lk_69 hPy1) fi_12_71 ?_
    refine Y_if_eq (pc := 99) (tgt := 124) dX12_reckonsOn_99 (by decide) (fun hc2 => ?_) (fun hc2 => ?_)
    · replace h := ifT hc2 h
      refine VV.sub [1] rfl ?_
      exact b_X12_reckonsOn_124  hPy1 h
    · replace h := ifF hc2 h
      refine Y_aload_n (pc := 102) (j := 1) dX12_reckonsOn_102 rfl rfl ?_
      refine Z_getr (pc := 103) dX12_reckonsOn_103 w8_151 (lk_69 hPy1) fr_12_85 (lr_69_85 hPy1) ?_
      refine Y_aload_n (pc := 106) (j := 1) dX12_reckonsOn_106 rfl rfl ?_
      refine Z_getr (pc := 107) dX12_reckonsOn_107 w8_113 (lk_69 hPy1) fr_12_47 (lr_69_47 hPy1) ?_
      refine Y_aload_n (pc := 110) (j := 1) dX12_reckonsOn_110 rfl rfl ?_
      refine Y_iconst (pc := 111) (v := (0 : Int32)) dX12_reckonsOn_111 rfl ?_
      obtain ⟨y2, qy2, h⟩ := bindE h
      have cy2 := v_X12_top hPy1 qy2
      refine C_V1r (pc := 112) (k' := k_X12_top) dX12_reckonsOn_112 w9_200 i_X12_top (lk_69 hPy1) ⟨Nat.le_of_ble_eq_true rfl, Nat.le_of_ble_eq_true rfl⟩ rfl (Nat.le_of_ble_eq_true rfl) (Nat.le_of_ble_eq_true rfl) (Nat.le_of_ble_eq_true rfl) (cy2) ?_
      have hPy2 := cy2.1.1
      obtain ⟨hb1, h⟩ := okE h
      refine Y_iald (pc := 115) dX12_reckonsOn_115 (lk_108 hPy2) (ln_108 hPy2) hb1 ?_
      obtain ⟨hb2, h⟩ := okE h
      refine Y_zald (pc := 116) dX12_reckonsOn_116 (lk_124 hPy2) (ln_124 hPy2) hb2 ?_
      refine Y_if_eq (pc := 117) (tgt := 124) dX12_reckonsOn_117 (by decide) (fun hc3 => ?_) (fun hc3 => ?_)
      · replace h := ifT hc3 h
        refine VV.sub [1] rfl ?_
        exact b_X12_reckonsOn_124  hPy2 h
      · replace h := ifF hc3 h
        refine Y_iconst (pc := 120) (v := (1 : Int32)) dX12_reckonsOn_120 rfl ?_
        refine Y_goto (pc := 121) (tgt := 125) dX12_reckonsOn_121 (by decide) ?_
        refine VV.sub [1] rfl ?_
        exact b_X12_reckonsOn_125  hPy2 h
  · replace h := ifF hc1 h
    refine Y_aload_n (pc := 9) (j := 1) dX12_reckonsOn_9 rfl rfl ?_
    refine Z_geti (pc := 10) dX12_reckonsOn_10 w8_137 (lk_69 hPy1) fi_12_71 ?_
    refine Y_if_eq (pc := 13) (tgt := 56) dX12_reckonsOn_13 (by decide) (fun hc4 => ?_) (fun hc4 => ?_)
    · replace h := ifT hc4 h
      refine VV.sub [1, 2] rfl ?_
      exact b_X12_reckonsOn_56  hPy1 h
    · replace h := ifF hc4 h
      refine Y_aload_n (pc := 16) (j := 1) dX12_reckonsOn_16 rfl rfl ?_
      refine Z_getr (pc := 17) dX12_reckonsOn_17 w8_151 (lk_69 hPy1) fr_12_85 (lr_69_85 hPy1) ?_
      refine Y_aload_n (pc := 20) (j := 1) dX12_reckonsOn_20 rfl rfl ?_
      refine Z_getr (pc := 21) dX12_reckonsOn_21 w8_113 (lk_69 hPy1) fr_12_47 (lr_69_47 hPy1) ?_
      refine Y_aload_n (pc := 24) (j := 1) dX12_reckonsOn_24 rfl rfl ?_
      refine Y_iconst (pc := 25) (v := (1 : Int32)) dX12_reckonsOn_25 rfl ?_
      obtain ⟨y3, qy3, h⟩ := bindE h
      have cy3 := v_X12_top hPy1 qy3
      refine C_V1r (pc := 26) (k' := k_X12_top) dX12_reckonsOn_26 w9_200 i_X12_top (lk_69 hPy1) ⟨Nat.le_of_ble_eq_true rfl, Nat.le_of_ble_eq_true rfl⟩ rfl (Nat.le_of_ble_eq_true rfl) (Nat.le_of_ble_eq_true rfl) (Nat.le_of_ble_eq_true rfl) (cy3) ?_
      have hPy3 := cy3.1.1
      obtain ⟨hb3, h⟩ := okE h
      refine Y_iald (pc := 29) dX12_reckonsOn_29 (lk_108 hPy3) (ln_108 hPy3) hb3 ?_
      obtain ⟨hb4, h⟩ := okE h
      refine Y_zald (pc := 30) dX12_reckonsOn_30 (lk_124 hPy3) (ln_124 hPy3) hb4 ?_
      refine Y_if_eq (pc := 31) (tgt := 56) dX12_reckonsOn_31 (by decide) (fun hc5 => ?_) (fun hc5 => ?_)
      · replace h := ifT hc5 h
        refine VV.sub [1, 2] rfl ?_
        exact b_X12_reckonsOn_56  hPy3 h
      · replace h := ifF hc5 h
        refine Y_aload_n (pc := 34) (j := 1) dX12_reckonsOn_34 rfl rfl ?_
        refine Z_getr (pc := 35) dX12_reckonsOn_35 w8_151 (lk_69 hPy3) fr_12_85 (lr_69_85 hPy3) ?_
        refine Y_aload_n (pc := 38) (j := 1) dX12_reckonsOn_38 rfl rfl ?_
        refine Z_getr (pc := 39) dX12_reckonsOn_39 w8_113 (lk_69 hPy3) fr_12_47 (lr_69_47 hPy3) ?_
        refine Y_aload_n (pc := 42) (j := 1) dX12_reckonsOn_42 rfl rfl ?_
        refine Y_iconst (pc := 43) (v := (0 : Int32)) dX12_reckonsOn_43 rfl ?_
        obtain ⟨y4, qy4, h⟩ := bindE h
        have cy4 := v_X12_top hPy3 qy4
        refine C_V1r (pc := 44) (k' := k_X12_top) dX12_reckonsOn_44 w9_200 i_X12_top (lk_69 hPy3) ⟨Nat.le_of_ble_eq_true rfl, Nat.le_of_ble_eq_true rfl⟩ rfl (Nat.le_of_ble_eq_true rfl) (Nat.le_of_ble_eq_true rfl) (Nat.le_of_ble_eq_true rfl) (cy4) ?_
        have hPy4 := cy4.1.1
        obtain ⟨hb5, h⟩ := okE h
        refine Y_iald (pc := 47) dX12_reckonsOn_47 (lk_108 hPy4) (ln_108 hPy4) hb5 ?_
        obtain ⟨hb6, h⟩ := okE h
        refine Y_zald (pc := 48) dX12_reckonsOn_48 (lk_124 hPy4) (ln_124 hPy4) hb6 ?_
        refine Y_if_eq (pc := 49) (tgt := 56) dX12_reckonsOn_49 (by decide) (fun hc6 => ?_) (fun hc6 => ?_)
        · replace h := ifT hc6 h
          refine VV.sub [1, 2] rfl ?_
          exact b_X12_reckonsOn_56  hPy4 h
        · replace h := ifF hc6 h
          refine Y_iconst (pc := 52) (v := (1 : Int32)) dX12_reckonsOn_52 rfl ?_
          refine Y_goto (pc := 53) (tgt := 57) dX12_reckonsOn_53 (by decide) ?_
          refine VV.sub [1, 2] rfl ?_
          exact b_X12_reckonsOn_57  hPy4 h
theorem v_X12_reckonsOn {x1 : Int32} {M z} (hP : Lay M) (h : d_X12_reckonsOn x1 M = some z) : CC Lay k_X12_reckonsOn [.ref 69, .int x1] M z.2 (Qv (none) z.2) xF :=
  CC.ofVV (by decide) rfl (Nat.le_of_ble_eq_true rfl) (b_X12_reckonsOn hP h)
noncomputable def d_X12_makes_61 (x3 : Int32) (M : Mem) : Option (Unit × Mem) :=
  (d_X12_pushes x3 M).bind fun y1 =>
  okk (vp_in (mI y1.2 69 48) 12) <|
  okk (vp_in (mI y1.2 69 48) 12) <|
  bnd (sI y1.2 110 (mI y1.2 69 48).toNatClampNeg ((mI y1.2 110 (mI y1.2 69 48).toNatClampNeg) + (1 : Int32))) fun M1 =>
  some ((), M1)
theorem b_X12_makes_61 {x3 : Int32} {M z} (hP : Lay M) (h : d_X12_makes_61 x3 M = some z) : VV Lay k_X12_makes 61 [(0, .ref 69), (3, .int x3)] [] M z.2 (Qv (none) z.2) xF := by
  unfold d_X12_makes_61 at h
  refine Y_aload_n (pc := 61) (j := 0) dX12_makes_61 rfl rfl ?_
  refine Y_iload_n (pc := 62) (j := 1) dX12_makes_62 rfl rfl ?_
  obtain ⟨y1, qy1, h⟩ := bindE h
  have cy1 := v_X12_pushes hP qy1
  refine C_V1o (pc := 63) (k' := k_X12_pushes) dX12_makes_63 w10_51 i_X12_pushes (lk_69 hP) ⟨Nat.le_of_ble_eq_true rfl, Nat.le_of_ble_eq_true rfl⟩ rfl (Nat.le_of_ble_eq_true rfl) (Nat.le_of_ble_eq_true rfl) (Nat.le_of_ble_eq_true rfl) (cy1) ?_
  have hPy1 := cy1.1.1
  refine Y_aload_n (pc := 66) (j := 0) dX12_makes_66 rfl rfl ?_
  refine Z_getr (pc := 67) dX12_makes_67 w8_116 (lk_69 hPy1) fr_12_50 (lr_69_50 hPy1) ?_
  refine Y_aload_n (pc := 70) (j := 0) dX12_makes_70 rfl rfl ?_
  refine Z_geti (pc := 71) dX12_makes_71 w8_114 (lk_69 hPy1) fi_12_48 ?_
  refine Y_dup2 (pc := 74) dX12_makes_74 rfl rfl ?_
  obtain ⟨hb1, h⟩ := okE h
  refine Y_iald (pc := 75) dX12_makes_75 (lk_110 hPy1) (ln_110 hPy1) hb1 ?_
  refine Y_iconst (pc := 76) (v := (1 : Int32)) dX12_makes_76 rfl ?_
  refine Y_iadd (pc := 77) dX12_makes_77 ?_
  obtain ⟨hb2, h⟩ := okE h
  refine Y_iast (pc := 78) dX12_makes_78 (lk_110 hPy1) (ln_110 hPy1) hb2 ?_
  obtain ⟨M1, eM1, h⟩ := bndE h
  refine VV.mem eM1 ?_
  have hP1 := hPy1.wI eM1
  cases h
  exact Y_vret (pc := 79) rfl dX12_makes_79 hP1 ⟨rfl, rfl⟩
noncomputable def d_X12_makes (x1 : Int32) (M : Mem) : Option (Unit × Mem) :=
  okk (vp_in x1 5) <|
  bnd ((mI M 78 x1.toNatClampNeg)) fun b1 =>
  okk (vp_in (mI M 69 52) 60) <|
  bnd (sI M 112 (mI M 69 52).toNatClampNeg b1) fun M1 =>
  (d_X12_gives (111 : Int32) (mI M1 69 52) FP.dconst0 M1).bind fun y1 =>
  bnd (sI y1.2 69 52 ((mI y1.2 69 52) + (1 : Int32))) fun M2 =>
  if (mI M2 69 71) = 0 then (
    d_X12_makes_61 (0 : Int32) M2)
  else (
    (d_X12_valueOf (111 : Int32) M2).bind fun y2 =>
    okk (vp_in y2.1 600) <|
    bnd (sI y2.2 125 y2.1.toNatClampNeg b1) fun M3 =>
    d_X12_makes_61 y2.1 M3)
theorem b_X12_makes {x1 : Int32} {M z} (hP : Lay M) (h : d_X12_makes x1 M = some z) : VV Lay k_X12_makes 0 [(0, .ref 69), (1, .int x1)] [] M z.2 (Qv (none) z.2) xF := by
  unfold d_X12_makes at h
  refine Y_aload_n (pc := 0) (j := 0) dX12_makes_0 rfl rfl ?_
  refine Z_getr (pc := 1) dX12_makes_1 w8_77 (lk_69 hP) fr_12_11 (lr_69_11 hP) ?_
  refine Y_iload_n (pc := 4) (j := 1) dX12_makes_4 rfl rfl ?_
  obtain ⟨hb1, h⟩ := okE h
  refine Y_iald (pc := 5) dX12_makes_5 (lk_78 hP) (ln_78 hP) hb1 ?_
  obtain ⟨b1, eb1, h⟩ := bndE h
  refine VV.topI eb1 ?_
  refine Y_istore_n (pc := 6) (lv1 := [(2, .int b1), (0, .ref 69), (1, .int x1)]) dX12_makes_6 rfl (by decide) rfl ?_
  refine Y_aload_n (pc := 7) (j := 1) dX12_makes_7 rfl rfl ?_
  refine Z_getr (pc := 8) dX12_makes_8 w8_119 (lk_69 hP) fr_12_53 (lr_69_53 hP) ?_
  refine Y_aload_n (pc := 11) (j := 1) dX12_makes_11 rfl rfl ?_
  refine Z_geti (pc := 12) dX12_makes_12 w8_118 (lk_69 hP) fi_12_52 ?_
  refine Y_iload_n (pc := 15) (j := 0) dX12_makes_15 rfl rfl ?_
  obtain ⟨hb2, h⟩ := okE h
  refine Y_iast (pc := 16) dX12_makes_16 (lk_112 hP) (ln_112 hP) hb2 ?_
  obtain ⟨M1, eM1, h⟩ := bndE h
  refine VV.mem eM1 ?_
  have hP1 := hP.wI eM1
  refine Y_aload_n (pc := 17) (j := 1) dX12_makes_17 rfl rfl ?_
  refine Y_bipush (pc := 18) (v := (111 : Int32)) dX12_makes_18 rfl ?_
  refine Y_aload_n (pc := 20) (j := 1) dX12_makes_20 rfl rfl ?_
  refine Z_geti (pc := 21) dX12_makes_21 w8_118 (lk_69 hP1) fi_12_52 ?_
  refine Y_dconst0 (pc := 24) dX12_makes_24 ?_
  obtain ⟨y1, qy1, h⟩ := bindE h
  have cy1 := v_X12_gives hP1 qy1
  refine C_V3o (pc := 25) (k' := k_X12_gives) dX12_makes_25 w10_17 i_X12_gives (lk_69 hP1) ⟨Nat.le_of_ble_eq_true rfl, Nat.le_of_ble_eq_true rfl⟩ rfl (Nat.le_of_ble_eq_true rfl) (Nat.le_of_ble_eq_true rfl) (Nat.le_of_ble_eq_true rfl) (cy1) ?_
  have hPy1 := cy1.1.1
  refine Y_aload_n (pc := 28) (j := 1) dX12_makes_28 rfl rfl ?_
  refine Y_dup (pc := 29) dX12_makes_29 rfl ?_
  refine Z_geti (pc := 30) dX12_makes_30 w8_118 (lk_69 hPy1) fi_12_52 ?_
  refine Y_iconst (pc := 33) (v := (1 : Int32)) dX12_makes_33 rfl ?_
  refine Y_iadd (pc := 34) dX12_makes_34 ?_
  refine Z_puti (pc := 35) dX12_makes_35 w8_118 (lk_69 hPy1) fi_12_52 (Or.inl rfl) rfl ?_
  obtain ⟨M2, eM2, h⟩ := bndE h
  refine VV.mem eM2 ?_
  have hP2 := hPy1.wI eM2
  refine Y_iconst (pc := 38) (v := (0 : Int32)) dX12_makes_38 rfl ?_
  refine Y_istore_n (pc := 39) (lv1 := [(3, .int (0 : Int32)), (2, .int b1), (0, .ref 69), (1, .int x1)]) dX12_makes_39 rfl (by decide) rfl ?_
  refine Y_aload_n (pc := 40) (j := 2) dX12_makes_40 rfl rfl ?_
  refine Z_geti (pc := 41) dX12_makes_41 w8_137 (lk_69 hP2) fi_12_71 ?_
  refine Y_if_eq (pc := 44) (tgt := 61) dX12_makes_44 (by decide) (fun hc1 => ?_) (fun hc1 => ?_)
  · replace h := ifT hc1 h
    refine VV.sub [2, 0] rfl ?_
    exact b_X12_makes_61  hP2 h
  · replace h := ifF hc1 h
    refine Y_aload_n (pc := 47) (j := 2) dX12_makes_47 rfl rfl ?_
    refine Y_bipush (pc := 48) (v := (111 : Int32)) dX12_makes_48 rfl ?_
    obtain ⟨y2, qy2, h⟩ := bindE h
    have cy2 := v_X12_valueOf hP2 qy2
    refine C_V1r (pc := 50) (k' := k_X12_valueOf) dX12_makes_50 w10_47 i_X12_valueOf (lk_69 hP2) ⟨Nat.le_of_ble_eq_true rfl, Nat.le_of_ble_eq_true rfl⟩ rfl (Nat.le_of_ble_eq_true rfl) (Nat.le_of_ble_eq_true rfl) (Nat.le_of_ble_eq_true rfl) (cy2) ?_
    have hPy2 := cy2.1.1
    refine Y_istore_n (pc := 53) (lv1 := [(3, .int y2.1), (2, .int b1), (0, .ref 69), (1, .int x1)]) dX12_makes_53 rfl (by decide) rfl ?_
    refine Y_aload_n (pc := 54) (j := 2) dX12_makes_54 rfl rfl ?_
    refine Z_getr (pc := 55) dX12_makes_55 w8_152 (lk_69 hPy2) fr_12_86 (lr_69_86 hPy2) ?_
    refine Y_iload_n (pc := 58) (j := 0) dX12_makes_58 rfl rfl ?_
    refine Y_iload_n (pc := 59) (j := 1) dX12_makes_59 rfl rfl ?_
    obtain ⟨hb3, h⟩ := okE h
    refine Y_iast (pc := 60) dX12_makes_60 (lk_125 hPy2) (ln_125 hPy2) hb3 ?_
    obtain ⟨M3, eM3, h⟩ := bndE h
    refine VV.mem eM3 ?_
    have hP3 := hPy2.wI eM3
    refine VV.sub [2, 0] rfl ?_
    exact b_X12_makes_61  hP3 h
theorem v_X12_makes {x1 : Int32} {M z} (hP : Lay M) (h : d_X12_makes x1 M = some z) : CC Lay k_X12_makes [.ref 69, .int x1] M z.2 (Qv (none) z.2) xF :=
  CC.ofVV (by decide) rfl (Nat.le_of_ble_eq_true rfl) (b_X12_makes hP h)
noncomputable def d_X12_fetches_77 (s1 : Int32) (M : Mem) : Option (Unit × Mem) :=
  (d_X12_pushes s1 M).bind fun y1 =>
  okk (vp_in (mI y1.2 69 48) 12) <|
  okk (vp_in (mI y1.2 69 48) 12) <|
  bnd (sI y1.2 110 (mI y1.2 69 48).toNatClampNeg ((mI y1.2 110 (mI y1.2 69 48).toNatClampNeg) + (1 : Int32))) fun M1 =>
  some ((), M1)
theorem b_X12_fetches_77 {s1 : Int32} {M z} (hP : Lay M) (h : d_X12_fetches_77 s1 M = some z) : VV Lay k_X12_fetches 77 [(0, .ref 69)] [.int s1, .ref 69] M z.2 (Qv (none) z.2) xF := by
  unfold d_X12_fetches_77 at h
  obtain ⟨y1, qy1, h⟩ := bindE h
  have cy1 := v_X12_pushes hP qy1
  refine C_V1o (pc := 77) (k' := k_X12_pushes) dX12_fetches_77 w10_51 i_X12_pushes (lk_69 hP) ⟨Nat.le_of_ble_eq_true rfl, Nat.le_of_ble_eq_true rfl⟩ rfl (Nat.le_of_ble_eq_true rfl) (Nat.le_of_ble_eq_true rfl) (Nat.le_of_ble_eq_true rfl) (cy1) ?_
  have hPy1 := cy1.1.1
  refine Y_aload_n (pc := 80) (j := 0) dX12_fetches_80 rfl rfl ?_
  refine Z_getr (pc := 81) dX12_fetches_81 w8_116 (lk_69 hPy1) fr_12_50 (lr_69_50 hPy1) ?_
  refine Y_aload_n (pc := 84) (j := 0) dX12_fetches_84 rfl rfl ?_
  refine Z_geti (pc := 85) dX12_fetches_85 w8_114 (lk_69 hPy1) fi_12_48 ?_
  refine Y_dup2 (pc := 88) dX12_fetches_88 rfl rfl ?_
  obtain ⟨hb1, h⟩ := okE h
  refine Y_iald (pc := 89) dX12_fetches_89 (lk_110 hPy1) (ln_110 hPy1) hb1 ?_
  refine Y_iconst (pc := 90) (v := (1 : Int32)) dX12_fetches_90 rfl ?_
  refine Y_iadd (pc := 91) dX12_fetches_91 ?_
  obtain ⟨hb2, h⟩ := okE h
  refine Y_iast (pc := 92) dX12_fetches_92 (lk_110 hPy1) (ln_110 hPy1) hb2 ?_
  obtain ⟨M1, eM1, h⟩ := bndE h
  refine VV.mem eM1 ?_
  have hP1 := hPy1.wI eM1
  cases h
  exact Y_vret (pc := 93) rfl dX12_fetches_93 hP1 ⟨rfl, rfl⟩
noncomputable def d_X12_fetches (x1 : Int32) (M : Mem) : Option (Unit × Mem) :=
  (d_X12_top (0 : Int32) M).bind fun y1 =>
  okk (vp_in y1.1 168) <|
  bnd ((mI y1.2 106 y1.1.toNatClampNeg)) fun b1 =>
  okk (vp_in (((6 : Int32) * b1) + x1) 360) <|
  okk (vp_in (((6 : Int32) * b1) + x1) 360) <|
  okk (vp_in (((6 : Int32) * b1) + x1) 360) <|
  (d_X12_gives (mI y1.2 113 (((6 : Int32) * b1) + x1).toNatClampNeg) (mI y1.2 114 (((6 : Int32) * b1) + x1).toNatClampNeg) (mD y1.2 115 (((6 : Int32) * b1) + x1).toNatClampNeg) y1.2).bind fun y2 =>
  okk (vp_in (mI y2.2 69 48) 12) <|
  okk (vp_in (mI y2.2 69 48) 12) <|
  bnd (sI y2.2 111 (mI y2.2 69 48).toNatClampNeg ((mI y2.2 111 (mI y2.2 69 48).toNatClampNeg) - (1 : Int32))) fun M1 =>
  if (mI M1 69 71) = 0 then (
    d_X12_fetches_77 (0 : Int32) M1)
  else (
    (d_X12_newValue M1).bind fun y3 =>
    d_X12_fetches_77 y3.1 y3.2)
theorem b_X12_fetches {x1 : Int32} {M z} (hP : Lay M) (h : d_X12_fetches x1 M = some z) : VV Lay k_X12_fetches 0 [(0, .ref 69), (1, .int x1)] [] M z.2 (Qv (none) z.2) xF := by
  unfold d_X12_fetches at h
  refine Y_aload_n (pc := 0) (j := 0) dX12_fetches_0 rfl rfl ?_
  refine Z_getr (pc := 1) dX12_fetches_1 w8_111 (lk_69 hP) fr_12_45 (lr_69_45 hP) ?_
  refine Y_aload_n (pc := 4) (j := 0) dX12_fetches_4 rfl rfl ?_
  refine Y_iconst (pc := 5) (v := (0 : Int32)) dX12_fetches_5 rfl ?_
  obtain ⟨y1, qy1, h⟩ := bindE h
  have cy1 := v_X12_top hP qy1
  refine C_V1r (pc := 6) (k' := k_X12_top) dX12_fetches_6 w9_200 i_X12_top (lk_69 hP) ⟨Nat.le_of_ble_eq_true rfl, Nat.le_of_ble_eq_true rfl⟩ rfl (Nat.le_of_ble_eq_true rfl) (Nat.le_of_ble_eq_true rfl) (Nat.le_of_ble_eq_true rfl) (cy1) ?_
  have hPy1 := cy1.1.1
  obtain ⟨hb1, h⟩ := okE h
  refine Y_iald (pc := 9) dX12_fetches_9 (lk_106 hPy1) (ln_106 hPy1) hb1 ?_
  obtain ⟨b1, eb1, h⟩ := bndE h
  refine VV.topI eb1 ?_
  refine Y_istore_n (pc := 10) (lv1 := [(2, .int b1), (0, .ref 69), (1, .int x1)]) dX12_fetches_10 rfl (by decide) rfl ?_
  refine Y_aload_n (pc := 11) (j := 1) dX12_fetches_11 rfl rfl ?_
  refine Y_aload_n (pc := 12) (j := 1) dX12_fetches_12 rfl rfl ?_
  refine Z_getr (pc := 13) dX12_fetches_13 w8_120 (lk_69 hPy1) fr_12_54 (lr_69_54 hPy1) ?_
  refine Y_bipush (pc := 16) (v := (6 : Int32)) dX12_fetches_16 rfl ?_
  refine Y_iload_n (pc := 18) (j := 0) dX12_fetches_18 rfl rfl ?_
  refine Y_imul (pc := 19) dX12_fetches_19 ?_
  refine Y_iload_n (pc := 20) (j := 2) dX12_fetches_20 rfl rfl ?_
  refine Y_iadd (pc := 21) dX12_fetches_21 ?_
  obtain ⟨hb2, h⟩ := okE h
  refine Y_cald (pc := 22) dX12_fetches_22 (lk_113 hPy1) (ln_113 hPy1) hb2 ?_
  refine Y_aload_n (pc := 23) (j := 1) dX12_fetches_23 rfl rfl ?_
  refine Z_getr (pc := 24) dX12_fetches_24 w8_121 (lk_69 hPy1) fr_12_55 (lr_69_55 hPy1) ?_
  refine Y_bipush (pc := 27) (v := (6 : Int32)) dX12_fetches_27 rfl ?_
  refine Y_iload_n (pc := 29) (j := 0) dX12_fetches_29 rfl rfl ?_
  refine Y_imul (pc := 30) dX12_fetches_30 ?_
  refine Y_iload_n (pc := 31) (j := 2) dX12_fetches_31 rfl rfl ?_
  refine Y_iadd (pc := 32) dX12_fetches_32 ?_
  obtain ⟨hb3, h⟩ := okE h
  refine Y_iald (pc := 33) dX12_fetches_33 (lk_114 hPy1) (ln_114 hPy1) hb3 ?_
  refine Y_aload_n (pc := 34) (j := 1) dX12_fetches_34 rfl rfl ?_
  refine Z_getr (pc := 35) dX12_fetches_35 w8_122 (lk_69 hPy1) fr_12_56 (lr_69_56 hPy1) ?_
  refine Y_bipush (pc := 38) (v := (6 : Int32)) dX12_fetches_38 rfl ?_
  refine Y_iload_n (pc := 40) (j := 0) dX12_fetches_40 rfl rfl ?_
  refine Y_imul (pc := 41) dX12_fetches_41 ?_
  refine Y_iload_n (pc := 42) (j := 2) dX12_fetches_42 rfl rfl ?_
  refine Y_iadd (pc := 43) dX12_fetches_43 ?_
  obtain ⟨hb4, h⟩ := okE h
  refine Y_dald (pc := 44) dX12_fetches_44 (lk_115 hPy1) (ln_115 hPy1) hb4 ?_
  obtain ⟨y2, qy2, h⟩ := bindE h
  have cy2 := v_X12_gives hPy1 qy2
  refine C_V3o (pc := 45) (k' := k_X12_gives) dX12_fetches_45 w10_17 i_X12_gives (lk_69 hPy1) ⟨Nat.le_of_ble_eq_true rfl, Nat.le_of_ble_eq_true rfl⟩ rfl (Nat.le_of_ble_eq_true rfl) (Nat.le_of_ble_eq_true rfl) (Nat.le_of_ble_eq_true rfl) (cy2) ?_
  have hPy2 := cy2.1.1
  refine Y_aload_n (pc := 48) (j := 1) dX12_fetches_48 rfl rfl ?_
  refine Z_getr (pc := 49) dX12_fetches_49 w8_117 (lk_69 hPy2) fr_12_51 (lr_69_51 hPy2) ?_
  refine Y_aload_n (pc := 52) (j := 1) dX12_fetches_52 rfl rfl ?_
  refine Z_geti (pc := 53) dX12_fetches_53 w8_114 (lk_69 hPy2) fi_12_48 ?_
  refine Y_dup2 (pc := 56) dX12_fetches_56 rfl rfl ?_
  obtain ⟨hb5, h⟩ := okE h
  refine Y_iald (pc := 57) dX12_fetches_57 (lk_111 hPy2) (ln_111 hPy2) hb5 ?_
  refine Y_iconst (pc := 58) (v := (1 : Int32)) dX12_fetches_58 rfl ?_
  refine Y_isub (pc := 59) dX12_fetches_59 ?_
  obtain ⟨hb6, h⟩ := okE h
  refine Y_iast (pc := 60) dX12_fetches_60 (lk_111 hPy2) (ln_111 hPy2) hb6 ?_
  obtain ⟨M1, eM1, h⟩ := bndE h
  refine VV.mem eM1 ?_
  have hP1 := hPy2.wI eM1
  refine Y_aload_n (pc := 61) (j := 1) dX12_fetches_61 rfl rfl ?_
  refine Y_aload_n (pc := 62) (j := 1) dX12_fetches_62 rfl rfl ?_
  refine Z_geti (pc := 63) dX12_fetches_63 w8_137 (lk_69 hP1) fi_12_71 ?_
  refine Y_if_eq (pc := 66) (tgt := 76) dX12_fetches_66 (by decide) (fun hc1 => ?_) (fun hc1 => ?_)
  · replace h := ifT hc1 h
    refine Y_iconst (pc := 76) (v := (0 : Int32)) dX12_fetches_76 rfl ?_
    refine VV.sub [1] rfl ?_
    exact b_X12_fetches_77  hP1 h
  · replace h := ifF hc1 h
    refine Y_aload_n (pc := 69) (j := 1) dX12_fetches_69 rfl rfl ?_
    obtain ⟨y3, qy3, h⟩ := bindE h
    have cy3 := v_X12_newValue hP1 qy3
    refine C_V0r (pc := 70) (k' := k_X12_newValue) dX12_fetches_70 w10_35 i_X12_newValue (lk_69 hP1) ⟨Nat.le_of_ble_eq_true rfl, Nat.le_of_ble_eq_true rfl⟩ rfl (Nat.le_of_ble_eq_true rfl) (Nat.le_of_ble_eq_true rfl) (Nat.le_of_ble_eq_true rfl) (cy3) ?_
    have hPy3 := cy3.1.1
    refine Y_goto (pc := 73) (tgt := 77) dX12_fetches_73 (by decide) ?_
    refine VV.sub [1] rfl ?_
    exact b_X12_fetches_77  hPy3 h
theorem v_X12_fetches {x1 : Int32} {M z} (hP : Lay M) (h : d_X12_fetches x1 M = some z) : CC Lay k_X12_fetches [.ref 69, .int x1] M z.2 (Qv (none) z.2) xF :=
  CC.ofVV (by decide) rfl (Nat.le_of_ble_eq_true rfl) (b_X12_fetches hP h)
noncomputable def d_X12_executes_78 (s1 : Int32) (s2 : Int32) (M : Mem) : Option (Unit × Mem) :=
  (d_X12_gives s1 s2 FP.dconst0 M).bind fun y1 =>
  (d_X12_made (1 : Int32) y1.2).bind fun y2 =>
  (d_X12_pushes y2.1 y2.2).bind fun y3 =>
  okk (vp_in (mI y3.2 69 48) 12) <|
  okk (vp_in (mI y3.2 69 48) 12) <|
  bnd (sI y3.2 110 (mI y3.2 69 48).toNatClampNeg ((mI y3.2 110 (mI y3.2 69 48).toNatClampNeg) + (1 : Int32))) fun M1 =>
  some ((), M1)
theorem b_X12_executes_78 {s1 : Int32} {s2 : Int32} {M z} (hP : Lay M) (h : d_X12_executes_78 s1 s2 M = some z) : VV Lay k_X12_executes 78 [(0, .ref 69)] [.int s2, .int s1, .ref 69] M z.2 (Qv (none) z.2) xF := by
  unfold d_X12_executes_78 at h
  refine Y_dconst0 (pc := 78) dX12_executes_78 ?_
  obtain ⟨y1, qy1, h⟩ := bindE h
  have cy1 := v_X12_gives hP qy1
  refine C_V3o (pc := 79) (k' := k_X12_gives) dX12_executes_79 w10_17 i_X12_gives (lk_69 hP) ⟨Nat.le_of_ble_eq_true rfl, Nat.le_of_ble_eq_true rfl⟩ rfl (Nat.le_of_ble_eq_true rfl) (Nat.le_of_ble_eq_true rfl) (Nat.le_of_ble_eq_true rfl) (cy1) ?_
  have hPy1 := cy1.1.1
  refine Y_aload_n (pc := 82) (j := 0) dX12_executes_82 rfl rfl ?_
  refine Y_aload_n (pc := 83) (j := 0) dX12_executes_83 rfl rfl ?_
  refine Y_iconst (pc := 84) (v := (1 : Int32)) dX12_executes_84 rfl ?_
  obtain ⟨y2, qy2, h⟩ := bindE h
  have cy2 := v_X12_made hPy1 qy2
  refine C_V1r (pc := 85) (k' := k_X12_made) dX12_executes_85 w10_43 i_X12_made (lk_69 hPy1) ⟨Nat.le_of_ble_eq_true rfl, Nat.le_of_ble_eq_true rfl⟩ rfl (Nat.le_of_ble_eq_true rfl) (Nat.le_of_ble_eq_true rfl) (Nat.le_of_ble_eq_true rfl) (cy2) ?_
  have hPy2 := cy2.1.1
  obtain ⟨y3, qy3, h⟩ := bindE h
  have cy3 := v_X12_pushes hPy2 qy3
  refine C_V1o (pc := 88) (k' := k_X12_pushes) dX12_executes_88 w10_51 i_X12_pushes (lk_69 hPy2) ⟨Nat.le_of_ble_eq_true rfl, Nat.le_of_ble_eq_true rfl⟩ rfl (Nat.le_of_ble_eq_true rfl) (Nat.le_of_ble_eq_true rfl) (Nat.le_of_ble_eq_true rfl) (cy3) ?_
  have hPy3 := cy3.1.1
  refine Y_aload_n (pc := 91) (j := 0) dX12_executes_91 rfl rfl ?_
  refine Z_getr (pc := 92) dX12_executes_92 w8_116 (lk_69 hPy3) fr_12_50 (lr_69_50 hPy3) ?_
  refine Y_aload_n (pc := 95) (j := 0) dX12_executes_95 rfl rfl ?_
  refine Z_geti (pc := 96) dX12_executes_96 w8_114 (lk_69 hPy3) fi_12_48 ?_
  refine Y_dup2 (pc := 99) dX12_executes_99 rfl rfl ?_
  obtain ⟨hb1, h⟩ := okE h
  refine Y_iald (pc := 100) dX12_executes_100 (lk_110 hPy3) (ln_110 hPy3) hb1 ?_
  refine Y_iconst (pc := 101) (v := (1 : Int32)) dX12_executes_101 rfl ?_
  refine Y_iadd (pc := 102) dX12_executes_102 ?_
  obtain ⟨hb2, h⟩ := okE h
  refine Y_iast (pc := 103) dX12_executes_103 (lk_110 hPy3) (ln_110 hPy3) hb2 ?_
  obtain ⟨M1, eM1, h⟩ := bndE h
  refine VV.mem eM1 ?_
  have hP1 := hPy3.wI eM1
  refine Y_goto (pc := 104) (tgt := 517) dX12_executes_104 (by decide) ?_
  cases h
  exact Y_vret (pc := 517) rfl dX12_executes_517 hP1 ⟨rfl, rfl⟩
noncomputable def d_X12_executes_59 (x2 : Int32) (x3 : Int32) (M : Mem) : Option (Unit × Mem) :=
  if x2 = (105 : Int32) then (
    d_X12_executes_78 (105 : Int32) x3 M)
  else (
    okk (vp_in x3 8) <|
    d_X12_executes_78 (105 : Int32) (mI M 75 x3.toNatClampNeg) M)
theorem b_X12_executes_59 {x2 : Int32} {x3 : Int32} {M z} (hP : Lay M) (h : d_X12_executes_59 x2 x3 M = some z) : VV Lay k_X12_executes 59 [(0, .ref 69), (2, .int x2), (3, .int x3)] [] M z.2 (Qv (none) z.2) xF := by
  unfold d_X12_executes_59 at h
  refine Y_aload_n (pc := 59) (j := 0) dX12_executes_59 rfl rfl ?_
  refine Y_bipush (pc := 60) (v := (105 : Int32)) dX12_executes_60 rfl ?_
  refine Y_iload_n (pc := 62) (j := 1) dX12_executes_62 rfl rfl ?_
  refine Y_bipush (pc := 63) (v := (105 : Int32)) dX12_executes_63 rfl ?_
  refine Y_icmp_ne (pc := 65) (tgt := 72) dX12_executes_65 (by decide) (fun hc1 => ?_) (fun hc1 => ?_)
  · replace h := ifF hc1 h
    refine Y_aload_n (pc := 72) (j := 0) dX12_executes_72 rfl rfl ?_
    refine Z_getr (pc := 73) dX12_executes_73 w8_73 (lk_69 hP) fr_12_7 (lr_69_7 hP) ?_
    refine Y_iload_n (pc := 76) (j := 2) dX12_executes_76 rfl rfl ?_
    obtain ⟨hb1, h⟩ := okE h
    refine Y_iald (pc := 77) dX12_executes_77 (lk_75 hP) (ln_75 hP) hb1 ?_
    refine VV.sub [0] rfl ?_
    exact b_X12_executes_78  hP h
  · replace h := ifT hc1 h
    refine Y_iload_n (pc := 68) (j := 2) dX12_executes_68 rfl rfl ?_
    refine Y_goto (pc := 69) (tgt := 78) dX12_executes_69 (by decide) ?_
    refine VV.sub [0] rfl ?_
    exact b_X12_executes_78  hP h
noncomputable def d_X12_executes_310 (x2 : Int32) (M : Mem) : Option (Unit × Mem) :=
  (d_X12_reckonsOn x2 M).bind fun y1 =>
  some ((), y1.2)
theorem b_X12_executes_310 {x2 : Int32} {M z} (hP : Lay M) (h : d_X12_executes_310 x2 M = some z) : VV Lay k_X12_executes 310 [(0, .ref 69), (2, .int x2)] [] M z.2 (Qv (none) z.2) xF := by
  unfold d_X12_executes_310 at h
  refine Y_aload_n (pc := 310) (j := 0) dX12_executes_310 rfl rfl ?_
  refine Y_iload_n (pc := 311) (j := 1) dX12_executes_311 rfl rfl ?_
  obtain ⟨y1, qy1, h⟩ := bindE h
  have cy1 := v_X12_reckonsOn hP qy1
  refine C_V1o (pc := 312) (k' := k_X12_reckonsOn) dX12_executes_312 w10_59 i_X12_reckonsOn (lk_69 hP) ⟨Nat.le_of_ble_eq_true rfl, Nat.le_of_ble_eq_true rfl⟩ rfl (Nat.le_of_ble_eq_true rfl) (Nat.le_of_ble_eq_true rfl) (Nat.le_of_ble_eq_true rfl) (cy1) ?_
  have hPy1 := cy1.1.1
  refine Y_goto (pc := 315) (tgt := 517) dX12_executes_315 (by decide) ?_
  cases h
  exact Y_vret (pc := 517) rfl dX12_executes_517 hPy1 ⟨rfl, rfl⟩
noncomputable def d_X12_executes (M : Mem) : Option (Unit × Mem) :=
  okk (vp_in (mI M 69 48) 12) <|
  okk (vp_in (mI M 69 48) 12) <|
  bnd ((((40 : Int32) * (mI M 109 (mI M 69 48).toNatClampNeg)) + (mI M 110 (mI M 69 48).toNatClampNeg))) fun b1 =>
  okk (vp_in b1 320) <|
  bnd ((mI M 72 b1.toNatClampNeg)) fun b2 =>
  okk (vp_in b1 320) <|
  bnd ((mI M 73 b1.toNatClampNeg)) fun b3 =>
  bnd (sI M 69 57 ((mI M 69 57) + (1 : Int32))) fun M1 =>
  if b2 = (105 : Int32) then (
    d_X12_executes_59 b2 b3 M1)
  else (
    if b2 = (107 : Int32) then (
      d_X12_executes_59 b2 b3 M1)
    else (
      if b2 = (108 : Int32) then (
        okk (vp_in (mI M1 69 48) 12) <|
        okk (vp_in (mI M1 69 48) 12) <|
        bnd (sI M1 111 (mI M1 69 48).toNatClampNeg ((mI M1 111 (mI M1 69 48).toNatClampNeg) + (1 : Int32))) fun M12 =>
        (d_X12_top (0 : Int32) M12).bind fun y18 =>
        (d_X12_copies (((14 : Int32) * (mI M12 69 48)) + b3) y18.1 y18.2).bind fun y19 =>
        okk (vp_in (mI y19.2 69 48) 12) <|
        okk (vp_in (mI y19.2 69 48) 12) <|
        bnd (sI y19.2 110 (mI y19.2 69 48).toNatClampNeg ((mI y19.2 110 (mI y19.2 69 48).toNatClampNeg) + (1 : Int32))) fun M13 =>
        some ((), M13))
      else (
        if b2 = (115 : Int32) then (
          (d_X12_top (0 : Int32) M1).bind fun y16 =>
          (d_X12_copies y16.1 (((14 : Int32) * (mI y16.2 69 48)) + b3) y16.2).bind fun y17 =>
          okk (vp_in (mI y17.2 69 48) 12) <|
          okk (vp_in (mI y17.2 69 48) 12) <|
          bnd (sI y17.2 111 (mI y17.2 69 48).toNatClampNeg ((mI y17.2 111 (mI y17.2 69 48).toNatClampNeg) - (1 : Int32))) fun M10 =>
          okk (vp_in (mI M10 69 48) 12) <|
          okk (vp_in (mI M10 69 48) 12) <|
          bnd (sI M10 110 (mI M10 69 48).toNatClampNeg ((mI M10 110 (mI M10 69 48).toNatClampNeg) + (1 : Int32))) fun M11 =>
          some ((), M11))
        else (
          if b2 = (117 : Int32) then (
            okk (vp_in (mI M1 69 48) 12) <|
            okk (vp_in (mI M1 69 48) 12) <|
            bnd (sI M1 111 (mI M1 69 48).toNatClampNeg ((mI M1 111 (mI M1 69 48).toNatClampNeg) + (1 : Int32))) fun M8 =>
            (d_X12_top (1 : Int32) M8).bind fun y13 =>
            (d_X12_top (0 : Int32) y13.2).bind fun y14 =>
            (d_X12_copies y13.1 y14.1 y14.2).bind fun y15 =>
            okk (vp_in (mI y15.2 69 48) 12) <|
            okk (vp_in (mI y15.2 69 48) 12) <|
            bnd (sI y15.2 110 (mI y15.2 69 48).toNatClampNeg ((mI y15.2 110 (mI y15.2 69 48).toNatClampNeg) + (1 : Int32))) fun M9 =>
            some ((), M9))
          else (
            if b2 = (100 : Int32) then (
              okk (vp_in (mI M1 69 48) 12) <|
              okk (vp_in (mI M1 69 48) 12) <|
              bnd (sI M1 111 (mI M1 69 48).toNatClampNeg ((mI M1 111 (mI M1 69 48).toNatClampNeg) - (1 : Int32))) fun M6 =>
              okk (vp_in (mI M6 69 48) 12) <|
              okk (vp_in (mI M6 69 48) 12) <|
              bnd (sI M6 110 (mI M6 69 48).toNatClampNeg ((mI M6 110 (mI M6 69 48).toNatClampNeg) + (1 : Int32))) fun M7 =>
              some ((), M7))
            else (
              (d_X12_isPair b2 M1).bind fun y1 =>
              if y1.1 = 0 then (
                if b2 = (119 : Int32) then (
                  d_X12_executes_310 b2 y1.2)
                else (
                  if b2 = (106 : Int32) then (
                    okk (vp_in (mI y1.2 69 48) 12) <|
                    bnd (sI y1.2 110 (mI y1.2 69 48).toNatClampNeg b3) fun M5 =>
                    some ((), M5))
                  else (
                    if b2 = (122 : Int32) then (
                      (d_X12_top (0 : Int32) y1.2).bind fun y11 =>
                      (d_X12_isNull y11.1 y11.2).bind fun y12 =>
                      okk (vp_in (mI y12.2 69 48) 12) <|
                      okk (vp_in (mI y12.2 69 48) 12) <|
                      bnd (sI y12.2 111 (mI y12.2 69 48).toNatClampNeg ((mI y12.2 111 (mI y12.2 69 48).toNatClampNeg) - (1 : Int32))) fun M2 =>
                      if y12.1 = 0 then (
                        okk (vp_in (mI M2 69 48) 12) <|
                        okk (vp_in (mI M2 69 48) 12) <|
                        bnd (sI M2 110 (mI M2 69 48).toNatClampNeg ((mI M2 110 (mI M2 69 48).toNatClampNeg) + (1 : Int32))) fun M3 =>
                        some ((), M3))
                      else (
                        okk (vp_in (mI M2 69 48) 12) <|
                        bnd (sI M2 110 (mI M2 69 48).toNatClampNeg b3) fun M4 =>
                        some ((), M4)))
                    else (
                      if b2 = (110 : Int32) then (
                        (d_X12_makes b3 y1.2).bind fun y10 =>
                        some ((), y10.2))
                      else (
                        if b2 = (103 : Int32) then (
                          (d_X12_fetches b3 y1.2).bind fun y9 =>
                          some ((), y9.2))
                        else (
                          if b2 = (112 : Int32) then (
                            (d_X12_puts b3 y1.2).bind fun y8 =>
                            some ((), y8.2))
                          else (
                            if b2 = (99 : Int32) then (
                              okk (vp_in b3 8) <|
                              (d_X12_calls b3 (mI y1.2 70 b3.toNatClampNeg) y1.2).bind fun y7 =>
                              some ((), y7.2))
                            else (
                              if b2 = (109 : Int32) then (
                                (d_X12_top (0 : Int32) y1.2).bind fun y4 =>
                                okk (vp_in y4.1 168) <|
                                okk (vp_in (mI y4.2 106 y4.1.toNatClampNeg) 60) <|
                                okk (vp_in (mI y4.2 112 (mI y4.2 106 y4.1.toNatClampNeg).toNatClampNeg) 60) <|
                                (d_X12_methodOf (mI y4.2 79 (mI y4.2 112 (mI y4.2 106 y4.1.toNatClampNeg).toNatClampNeg).toNatClampNeg) b3 y4.2).bind fun y5 =>
                                (d_X12_calls y5.1 (1 : Int32) y5.2).bind fun y6 =>
                                some ((), y6.2))
                              else (
                                if b2 = (114 : Int32) then (
                                  (d_X12_returns y1.2).bind fun y3 =>
                                  some ((), y3.2))
                                else (
                                  (d_X12_tells y1.2).bind fun y2 =>
                                  some ((), y2.2)))))))))))
              else (
                d_X12_executes_310 b2 y1.2)))))))
theorem b_X12_executes {M z} (hP : Lay M) (h : d_X12_executes M = some z) : VV Lay k_X12_executes 0 [(0, .ref 69)] [] M z.2 (Qv (none) z.2) xF := by
  unfold d_X12_executes at h
  refine Y_bipush (pc := 0) (v := (40 : Int32)) dX12_executes_0 rfl ?_
  refine Y_aload_n (pc := 2) (j := 0) dX12_executes_2 rfl rfl ?_
  refine Z_getr (pc := 3) dX12_executes_3 w8_115 (lk_69 hP) fr_12_49 (lr_69_49 hP) ?_
  refine Y_aload_n (pc := 6) (j := 0) dX12_executes_6 rfl rfl ?_
  refine Z_geti (pc := 7) dX12_executes_7 w8_114 (lk_69 hP) fi_12_48 ?_
  obtain ⟨hb1, h⟩ := okE h
  refine Y_iald (pc := 10) dX12_executes_10 (lk_109 hP) (ln_109 hP) hb1 ?_
  refine Y_imul (pc := 11) dX12_executes_11 ?_
  refine Y_aload_n (pc := 12) (j := 0) dX12_executes_12 rfl rfl ?_
  refine Z_getr (pc := 13) dX12_executes_13 w8_116 (lk_69 hP) fr_12_50 (lr_69_50 hP) ?_
  refine Y_aload_n (pc := 16) (j := 0) dX12_executes_16 rfl rfl ?_
  refine Z_geti (pc := 17) dX12_executes_17 w8_114 (lk_69 hP) fi_12_48 ?_
  obtain ⟨hb2, h⟩ := okE h
  refine Y_iald (pc := 20) dX12_executes_20 (lk_110 hP) (ln_110 hP) hb2 ?_
  refine Y_iadd (pc := 21) dX12_executes_21 ?_
  obtain ⟨b1, eb1, h⟩ := bndE h
  refine VV.topI eb1 ?_
  refine Y_istore_n (pc := 22) (lv1 := [(1, .int b1), (0, .ref 69)]) dX12_executes_22 rfl (by decide) rfl ?_
  refine Y_aload_n (pc := 23) (j := 1) dX12_executes_23 rfl rfl ?_
  refine Z_getr (pc := 24) dX12_executes_24 w8_70 (lk_69 hP) fr_12_4 (lr_69_4 hP) ?_
  refine Y_iload_n (pc := 27) (j := 0) dX12_executes_27 rfl rfl ?_
  obtain ⟨hb3, h⟩ := okE h
  refine Y_cald (pc := 28) dX12_executes_28 (lk_72 hP) (ln_72 hP) hb3 ?_
  obtain ⟨b2, eb2, h⟩ := bndE h
  refine VV.topI eb2 ?_
  refine Y_istore_n (pc := 29) (lv1 := [(2, .int b2), (1, .int b1), (0, .ref 69)]) dX12_executes_29 rfl (by decide) rfl ?_
  refine Y_aload_n (pc := 30) (j := 2) dX12_executes_30 rfl rfl ?_
  refine Z_getr (pc := 31) dX12_executes_31 w8_71 (lk_69 hP) fr_12_5 (lr_69_5 hP) ?_
  refine Y_iload_n (pc := 34) (j := 1) dX12_executes_34 rfl rfl ?_
  obtain ⟨hb4, h⟩ := okE h
  refine Y_iald (pc := 35) dX12_executes_35 (lk_73 hP) (ln_73 hP) hb4 ?_
  obtain ⟨b3, eb3, h⟩ := bndE h
  refine VV.topI eb3 ?_
  refine Y_istore_n (pc := 36) (lv1 := [(3, .int b3), (2, .int b2), (1, .int b1), (0, .ref 69)]) dX12_executes_36 rfl (by decide) rfl ?_
  refine Y_aload_n (pc := 37) (j := 3) dX12_executes_37 rfl rfl ?_
  refine Y_dup (pc := 38) dX12_executes_38 rfl ?_
  refine Z_geti (pc := 39) dX12_executes_39 w8_123 (lk_69 hP) fi_12_57 ?_
  refine Y_iconst (pc := 42) (v := (1 : Int32)) dX12_executes_42 rfl ?_
  refine Y_iadd (pc := 43) dX12_executes_43 ?_
  refine Z_puti (pc := 44) dX12_executes_44 w8_123 (lk_69 hP) fi_12_57 (Or.inl rfl) rfl ?_
  obtain ⟨M1, eM1, h⟩ := bndE h
  refine VV.mem eM1 ?_
  have hP1 := hP.wI eM1
  refine Y_iload_n (pc := 47) (j := 1) dX12_executes_47 rfl rfl ?_
  refine Y_bipush (pc := 48) (v := (105 : Int32)) dX12_executes_48 rfl ?_
  refine Y_icmp_eq (pc := 50) (tgt := 59) dX12_executes_50 (by decide) (fun hc1 => ?_) (fun hc1 => ?_)
  · replace h := ifT hc1 h
    refine VV.sub [3, 1, 0] rfl ?_
    exact b_X12_executes_59  hP1 h
  · replace h := ifF hc1 h
    refine Y_iload_n (pc := 53) (j := 1) dX12_executes_53 rfl rfl ?_
    refine Y_bipush (pc := 54) (v := (107 : Int32)) dX12_executes_54 rfl ?_
    refine Y_icmp_ne (pc := 56) (tgt := 107) dX12_executes_56 (by decide) (fun hc2 => ?_) (fun hc2 => ?_)
    · replace h := ifF hc2 h
      refine Y_iload_n (pc := 107) (j := 1) dX12_executes_107 rfl rfl ?_
      refine Y_bipush (pc := 108) (v := (108 : Int32)) dX12_executes_108 rfl ?_
      refine Y_icmp_ne (pc := 110) (tgt := 160) dX12_executes_110 (by decide) (fun hc3 => ?_) (fun hc3 => ?_)
      · replace h := ifF hc3 h
        refine Y_iload_n (pc := 160) (j := 1) dX12_executes_160 rfl rfl ?_
        refine Y_bipush (pc := 161) (v := (115 : Int32)) dX12_executes_161 rfl ?_
        refine Y_icmp_ne (pc := 163) (tgt := 213) dX12_executes_163 (by decide) (fun hc4 => ?_) (fun hc4 => ?_)
        · replace h := ifF hc4 h
          refine Y_iload_n (pc := 213) (j := 1) dX12_executes_213 rfl rfl ?_
          refine Y_bipush (pc := 214) (v := (117 : Int32)) dX12_executes_214 rfl ?_
          refine Y_icmp_ne (pc := 216) (tgt := 262) dX12_executes_216 (by decide) (fun hc5 => ?_) (fun hc5 => ?_)
          · replace h := ifF hc5 h
            refine Y_iload_n (pc := 262) (j := 1) dX12_executes_262 rfl rfl ?_
            refine Y_bipush (pc := 263) (v := (100 : Int32)) dX12_executes_263 rfl ?_
            refine Y_icmp_ne (pc := 265) (tgt := 297) dX12_executes_265 (by decide) (fun hc6 => ?_) (fun hc6 => ?_)
            · replace h := ifF hc6 h
              refine Y_iload_n (pc := 297) (j := 1) dX12_executes_297 rfl rfl ?_
              obtain ⟨y1, qy1, h⟩ := bindE h
              have cy1 := v_X12_isPair hP1 qy1
              refine C_S1r (pc := 298) (k' := k_X12_isPair) dX12_executes_298 w9_129 i_X12_isPair (Nat.le_of_ble_eq_true rfl) (Nat.le_of_ble_eq_true rfl) (Nat.le_of_ble_eq_true rfl) (cy1) ?_
              have hPy1 := cy1.1.1
              refine Y_if_ne (pc := 301) (tgt := 310) dX12_executes_301 (by decide) (fun hc7 => ?_) (fun hc7 => ?_)
              · replace h := ifF hc7 h
                refine VV.sub [3, 1] rfl ?_
                exact b_X12_executes_310  hPy1 h
              · replace h := ifT hc7 h
                refine Y_iload_n (pc := 304) (j := 1) dX12_executes_304 rfl rfl ?_
                refine Y_bipush (pc := 305) (v := (119 : Int32)) dX12_executes_305 rfl ?_
                refine Y_icmp_ne (pc := 307) (tgt := 318) dX12_executes_307 (by decide) (fun hc8 => ?_) (fun hc8 => ?_)
                · replace h := ifF hc8 h
                  refine Y_iload_n (pc := 318) (j := 1) dX12_executes_318 rfl rfl ?_
                  refine Y_bipush (pc := 319) (v := (106 : Int32)) dX12_executes_319 rfl ?_
                  refine Y_icmp_ne (pc := 321) (tgt := 337) dX12_executes_321 (by decide) (fun hc9 => ?_) (fun hc9 => ?_)
                  · replace h := ifF hc9 h
                    refine Y_iload_n (pc := 337) (j := 1) dX12_executes_337 rfl rfl ?_
                    refine Y_bipush (pc := 338) (v := (122 : Int32)) dX12_executes_338 rfl ?_
                    refine Y_icmp_ne (pc := 340) (tgt := 399) dX12_executes_340 (by decide) (fun hc10 => ?_) (fun hc10 => ?_)
                    · replace h := ifF hc10 h
                      refine Y_iload_n (pc := 399) (j := 1) dX12_executes_399 rfl rfl ?_
                      refine Y_bipush (pc := 400) (v := (110 : Int32)) dX12_executes_400 rfl ?_
                      refine Y_icmp_ne (pc := 402) (tgt := 413) dX12_executes_402 (by decide) (fun hc11 => ?_) (fun hc11 => ?_)
                      · replace h := ifF hc11 h
                        refine Y_iload_n (pc := 413) (j := 1) dX12_executes_413 rfl rfl ?_
                        refine Y_bipush (pc := 414) (v := (103 : Int32)) dX12_executes_414 rfl ?_
                        refine Y_icmp_ne (pc := 416) (tgt := 427) dX12_executes_416 (by decide) (fun hc12 => ?_) (fun hc12 => ?_)
                        · replace h := ifF hc12 h
                          refine Y_iload_n (pc := 427) (j := 1) dX12_executes_427 rfl rfl ?_
                          refine Y_bipush (pc := 428) (v := (112 : Int32)) dX12_executes_428 rfl ?_
                          refine Y_icmp_ne (pc := 430) (tgt := 441) dX12_executes_430 (by decide) (fun hc13 => ?_) (fun hc13 => ?_)
                          · replace h := ifF hc13 h
                            refine Y_iload_n (pc := 441) (j := 1) dX12_executes_441 rfl rfl ?_
                            refine Y_bipush (pc := 442) (v := (99 : Int32)) dX12_executes_442 rfl ?_
                            refine Y_icmp_ne (pc := 444) (tgt := 461) dX12_executes_444 (by decide) (fun hc14 => ?_) (fun hc14 => ?_)
                            · replace h := ifF hc14 h
                              refine Y_iload_n (pc := 461) (j := 1) dX12_executes_461 rfl rfl ?_
                              refine Y_bipush (pc := 462) (v := (109 : Int32)) dX12_executes_462 rfl ?_
                              refine Y_icmp_ne (pc := 464) (tgt := 500) dX12_executes_464 (by decide) (fun hc15 => ?_) (fun hc15 => ?_)
                              · replace h := ifF hc15 h
                                refine Y_iload_n (pc := 500) (j := 1) dX12_executes_500 rfl rfl ?_
                                refine Y_bipush (pc := 501) (v := (114 : Int32)) dX12_executes_501 rfl ?_
                                refine Y_icmp_ne (pc := 503) (tgt := 513) dX12_executes_503 (by decide) (fun hc16 => ?_) (fun hc16 => ?_)
                                · replace h := ifF hc16 h
                                  refine Y_aload_n (pc := 513) (j := 3) dX12_executes_513 rfl rfl ?_
                                  obtain ⟨y2, qy2, h⟩ := bindE h
                                  have cy2 := v_X12_tells hPy1 qy2
                                  refine C_V0o (pc := 514) (k' := k_X12_tells) dX12_executes_514 w10_99 i_X12_tells (lk_69 hPy1) ⟨Nat.le_of_ble_eq_true rfl, Nat.le_of_ble_eq_true rfl⟩ rfl (Nat.le_of_ble_eq_true rfl) (Nat.le_of_ble_eq_true rfl) (Nat.le_of_ble_eq_true rfl) (cy2) ?_
                                  have hPy2 := cy2.1.1
                                  cases h
                                  exact Y_vret (pc := 517) rfl dX12_executes_517 hPy2 ⟨rfl, rfl⟩
                                · replace h := ifT hc16 h
                                  refine Y_aload_n (pc := 506) (j := 3) dX12_executes_506 rfl rfl ?_
                                  obtain ⟨y3, qy3, h⟩ := bindE h
                                  have cy3 := v_X12_returns hPy1 qy3
                                  refine C_V0o (pc := 507) (k' := k_X12_returns) dX12_executes_507 w10_83 i_X12_returns (lk_69 hPy1) ⟨Nat.le_of_ble_eq_true rfl, Nat.le_of_ble_eq_true rfl⟩ rfl (Nat.le_of_ble_eq_true rfl) (Nat.le_of_ble_eq_true rfl) (Nat.le_of_ble_eq_true rfl) (cy3) ?_
                                  have hPy3 := cy3.1.1
                                  refine Y_goto (pc := 510) (tgt := 517) dX12_executes_510 (by decide) ?_
                                  cases h
                                  exact Y_vret (pc := 517) rfl dX12_executes_517 hPy3 ⟨rfl, rfl⟩
                              · replace h := ifT hc15 h
                                refine Y_aload_n (pc := 467) (j := 3) dX12_executes_467 rfl rfl ?_
                                refine Y_aload_n (pc := 468) (j := 3) dX12_executes_468 rfl rfl ?_
                                refine Y_aload_n (pc := 469) (j := 3) dX12_executes_469 rfl rfl ?_
                                refine Z_getr (pc := 470) dX12_executes_470 w8_79 (lk_69 hPy1) fr_12_13 (lr_69_13 hPy1) ?_
                                refine Y_aload_n (pc := 473) (j := 3) dX12_executes_473 rfl rfl ?_
                                refine Z_getr (pc := 474) dX12_executes_474 w8_119 (lk_69 hPy1) fr_12_53 (lr_69_53 hPy1) ?_
                                refine Y_aload_n (pc := 477) (j := 3) dX12_executes_477 rfl rfl ?_
                                refine Z_getr (pc := 478) dX12_executes_478 w8_111 (lk_69 hPy1) fr_12_45 (lr_69_45 hPy1) ?_
                                refine Y_aload_n (pc := 481) (j := 3) dX12_executes_481 rfl rfl ?_
                                refine Y_iconst (pc := 482) (v := (0 : Int32)) dX12_executes_482 rfl ?_
                                obtain ⟨y4, qy4, h⟩ := bindE h
                                have cy4 := v_X12_top hPy1 qy4
                                refine C_V1r (pc := 483) (k' := k_X12_top) dX12_executes_483 w9_200 i_X12_top (lk_69 hPy1) ⟨Nat.le_of_ble_eq_true rfl, Nat.le_of_ble_eq_true rfl⟩ rfl (Nat.le_of_ble_eq_true rfl) (Nat.le_of_ble_eq_true rfl) (Nat.le_of_ble_eq_true rfl) (cy4) ?_
                                have hPy4 := cy4.1.1
                                obtain ⟨hb5, h⟩ := okE h
                                refine Y_iald (pc := 486) dX12_executes_486 (lk_106 hPy4) (ln_106 hPy4) hb5 ?_
                                obtain ⟨hb6, h⟩ := okE h
                                refine Y_iald (pc := 487) dX12_executes_487 (lk_112 hPy4) (ln_112 hPy4) hb6 ?_
                                obtain ⟨hb7, h⟩ := okE h
                                refine Y_iald (pc := 488) dX12_executes_488 (lk_79 hPy4) (ln_79 hPy4) hb7 ?_
                                refine Y_iload_n (pc := 489) (j := 0) dX12_executes_489 rfl rfl ?_
                                obtain ⟨y5, qy5, h⟩ := bindE h
                                have cy5 := v_X12_methodOf hPy4 qy5
                                refine C_V2r (pc := 490) (k' := k_X12_methodOf) dX12_executes_490 w9_237 i_X12_methodOf (lk_69 hPy4) ⟨Nat.le_of_ble_eq_true rfl, Nat.le_of_ble_eq_true rfl⟩ rfl (Nat.le_of_ble_eq_true rfl) (Nat.le_of_ble_eq_true rfl) (Nat.le_of_ble_eq_true rfl) (cy5) ?_
                                have hPy5 := cy5.1.1
                                refine Y_iconst (pc := 493) (v := (1 : Int32)) dX12_executes_493 rfl ?_
                                obtain ⟨y6, qy6, h⟩ := bindE h
                                have cy6 := v_X12_calls hPy5 qy6
                                refine C_V2o (pc := 494) (k' := k_X12_calls) dX12_executes_494 w10_79 i_X12_calls (lk_69 hPy5) ⟨Nat.le_of_ble_eq_true rfl, Nat.le_of_ble_eq_true rfl⟩ rfl (Nat.le_of_ble_eq_true rfl) (Nat.le_of_ble_eq_true rfl) (Nat.le_of_ble_eq_true rfl) (cy6) ?_
                                have hPy6 := cy6.1.1
                                refine Y_goto (pc := 497) (tgt := 517) dX12_executes_497 (by decide) ?_
                                cases h
                                exact Y_vret (pc := 517) rfl dX12_executes_517 hPy6 ⟨rfl, rfl⟩
                            · replace h := ifT hc14 h
                              refine Y_aload_n (pc := 447) (j := 3) dX12_executes_447 rfl rfl ?_
                              refine Y_iload_n (pc := 448) (j := 0) dX12_executes_448 rfl rfl ?_
                              refine Y_aload_n (pc := 449) (j := 3) dX12_executes_449 rfl rfl ?_
                              refine Z_getr (pc := 450) dX12_executes_450 w8_68 (lk_69 hPy1) fr_12_2 (lr_69_2 hPy1) ?_
                              refine Y_iload_n (pc := 453) (j := 0) dX12_executes_453 rfl rfl ?_
                              obtain ⟨hb8, h⟩ := okE h
                              refine Y_iald (pc := 454) dX12_executes_454 (lk_70 hPy1) (ln_70 hPy1) hb8 ?_
                              obtain ⟨y7, qy7, h⟩ := bindE h
                              have cy7 := v_X12_calls hPy1 qy7
                              refine C_V2o (pc := 455) (k' := k_X12_calls) dX12_executes_455 w10_79 i_X12_calls (lk_69 hPy1) ⟨Nat.le_of_ble_eq_true rfl, Nat.le_of_ble_eq_true rfl⟩ rfl (Nat.le_of_ble_eq_true rfl) (Nat.le_of_ble_eq_true rfl) (Nat.le_of_ble_eq_true rfl) (cy7) ?_
                              have hPy7 := cy7.1.1
                              refine Y_goto (pc := 458) (tgt := 517) dX12_executes_458 (by decide) ?_
                              cases h
                              exact Y_vret (pc := 517) rfl dX12_executes_517 hPy7 ⟨rfl, rfl⟩
                          · replace h := ifT hc13 h
                            refine Y_aload_n (pc := 433) (j := 3) dX12_executes_433 rfl rfl ?_
                            refine Y_iload_n (pc := 434) (j := 0) dX12_executes_434 rfl rfl ?_
                            obtain ⟨y8, qy8, h⟩ := bindE h
                            have cy8 := v_X12_puts hPy1 qy8
                            refine C_V1o (pc := 435) (k' := k_X12_puts) dX12_executes_435 w10_71 i_X12_puts (lk_69 hPy1) ⟨Nat.le_of_ble_eq_true rfl, Nat.le_of_ble_eq_true rfl⟩ rfl (Nat.le_of_ble_eq_true rfl) (Nat.le_of_ble_eq_true rfl) (Nat.le_of_ble_eq_true rfl) (cy8) ?_
                            have hPy8 := cy8.1.1
                            refine Y_goto (pc := 438) (tgt := 517) dX12_executes_438 (by decide) ?_
                            cases h
                            exact Y_vret (pc := 517) rfl dX12_executes_517 hPy8 ⟨rfl, rfl⟩
                        · replace h := ifT hc12 h
                          refine Y_aload_n (pc := 419) (j := 3) dX12_executes_419 rfl rfl ?_
                          refine Y_iload_n (pc := 420) (j := 0) dX12_executes_420 rfl rfl ?_
                          obtain ⟨y9, qy9, h⟩ := bindE h
                          have cy9 := v_X12_fetches hPy1 qy9
                          refine C_V1o (pc := 421) (k' := k_X12_fetches) dX12_executes_421 w10_67 i_X12_fetches (lk_69 hPy1) ⟨Nat.le_of_ble_eq_true rfl, Nat.le_of_ble_eq_true rfl⟩ rfl (Nat.le_of_ble_eq_true rfl) (Nat.le_of_ble_eq_true rfl) (Nat.le_of_ble_eq_true rfl) (cy9) ?_
                          have hPy9 := cy9.1.1
                          refine Y_goto (pc := 424) (tgt := 517) dX12_executes_424 (by decide) ?_
                          cases h
                          exact Y_vret (pc := 517) rfl dX12_executes_517 hPy9 ⟨rfl, rfl⟩
                      · replace h := ifT hc11 h
                        refine Y_aload_n (pc := 405) (j := 3) dX12_executes_405 rfl rfl ?_
                        refine Y_iload_n (pc := 406) (j := 0) dX12_executes_406 rfl rfl ?_
                        obtain ⟨y10, qy10, h⟩ := bindE h
                        have cy10 := v_X12_makes hPy1 qy10
                        refine C_V1o (pc := 407) (k' := k_X12_makes) dX12_executes_407 w10_63 i_X12_makes (lk_69 hPy1) ⟨Nat.le_of_ble_eq_true rfl, Nat.le_of_ble_eq_true rfl⟩ rfl (Nat.le_of_ble_eq_true rfl) (Nat.le_of_ble_eq_true rfl) (Nat.le_of_ble_eq_true rfl) (cy10) ?_
                        have hPy10 := cy10.1.1
                        refine Y_goto (pc := 410) (tgt := 517) dX12_executes_410 (by decide) ?_
                        cases h
                        exact Y_vret (pc := 517) rfl dX12_executes_517 hPy10 ⟨rfl, rfl⟩
                    · replace h := ifT hc10 h
                      refine Y_aload_n (pc := 343) (j := 3) dX12_executes_343 rfl rfl ?_
                      refine Y_aload_n (pc := 344) (j := 3) dX12_executes_344 rfl rfl ?_
                      refine Y_iconst (pc := 345) (v := (0 : Int32)) dX12_executes_345 rfl ?_
                      obtain ⟨y11, qy11, h⟩ := bindE h
                      have cy11 := v_X12_top hPy1 qy11
                      refine C_V1r (pc := 346) (k' := k_X12_top) dX12_executes_346 w9_200 i_X12_top (lk_69 hPy1) ⟨Nat.le_of_ble_eq_true rfl, Nat.le_of_ble_eq_true rfl⟩ rfl (Nat.le_of_ble_eq_true rfl) (Nat.le_of_ble_eq_true rfl) (Nat.le_of_ble_eq_true rfl) (cy11) ?_
                      have hPy11 := cy11.1.1
                      obtain ⟨y12, qy12, h⟩ := bindE h
                      have cy12 := v_X12_isNull hPy11 qy12
                      refine C_V1r (pc := 349) (k' := k_X12_isNull) dX12_executes_349 w10_5 i_X12_isNull (lk_69 hPy11) ⟨Nat.le_of_ble_eq_true rfl, Nat.le_of_ble_eq_true rfl⟩ rfl (Nat.le_of_ble_eq_true rfl) (Nat.le_of_ble_eq_true rfl) (Nat.le_of_ble_eq_true rfl) (cy12) ?_
                      have hPy12 := cy12.1.1
                      refine Y_istore (pc := 352) (lv1 := [(4, .int y12.1), (3, .int b3), (2, .int b2), (1, .int b1), (0, .ref 69)]) dX12_executes_352 (by decide) rfl ?_
                      refine Y_aload_n (pc := 354) (j := 4) dX12_executes_354 rfl rfl ?_
                      refine Z_getr (pc := 355) dX12_executes_355 w8_117 (lk_69 hPy12) fr_12_51 (lr_69_51 hPy12) ?_
                      refine Y_aload_n (pc := 358) (j := 4) dX12_executes_358 rfl rfl ?_
                      refine Z_geti (pc := 359) dX12_executes_359 w8_114 (lk_69 hPy12) fi_12_48 ?_
                      refine Y_dup2 (pc := 362) dX12_executes_362 rfl rfl ?_
                      obtain ⟨hb9, h⟩ := okE h
                      refine Y_iald (pc := 363) dX12_executes_363 (lk_111 hPy12) (ln_111 hPy12) hb9 ?_
                      refine Y_iconst (pc := 364) (v := (1 : Int32)) dX12_executes_364 rfl ?_
                      refine Y_isub (pc := 365) dX12_executes_365 ?_
                      obtain ⟨hb10, h⟩ := okE h
                      refine Y_iast (pc := 366) dX12_executes_366 (lk_111 hPy12) (ln_111 hPy12) hb10 ?_
                      obtain ⟨M2, eM2, h⟩ := bndE h
                      refine VV.mem eM2 ?_
                      have hP2 := hPy12.wI eM2
                      refine Y_aload_n (pc := 367) (j := 4) dX12_executes_367 rfl rfl ?_
                      refine Z_getr (pc := 368) dX12_executes_368 w8_116 (lk_69 hP2) fr_12_50 (lr_69_50 hP2) ?_
                      refine Y_aload_n (pc := 371) (j := 4) dX12_executes_371 rfl rfl ?_
                      refine Z_geti (pc := 372) dX12_executes_372 w8_114 (lk_69 hP2) fi_12_48 ?_
                      refine Y_iload (pc := 375) (j := 0) dX12_executes_375 rfl ?_
                      refine Y_if_eq (pc := 377) (tgt := 384) dX12_executes_377 (by decide) (fun hc17 => ?_) (fun hc17 => ?_)
                      · replace h := ifT hc17 h
                        refine Y_aload_n (pc := 384) (j := 4) dX12_executes_384 rfl rfl ?_
                        refine Z_getr (pc := 385) dX12_executes_385 w8_116 (lk_69 hP2) fr_12_50 (lr_69_50 hP2) ?_
                        refine Y_aload_n (pc := 388) (j := 4) dX12_executes_388 rfl rfl ?_
                        refine Z_geti (pc := 389) dX12_executes_389 w8_114 (lk_69 hP2) fi_12_48 ?_
                        obtain ⟨hb11, h⟩ := okE h
                        refine Y_iald (pc := 392) dX12_executes_392 (lk_110 hP2) (ln_110 hP2) hb11 ?_
                        refine Y_iconst (pc := 393) (v := (1 : Int32)) dX12_executes_393 rfl ?_
                        refine Y_iadd (pc := 394) dX12_executes_394 ?_
                        obtain ⟨hb12, h⟩ := okE h
                        refine Y_iast (pc := 395) dX12_executes_395 (lk_110 hP2) (ln_110 hP2) hb12 ?_
                        obtain ⟨M3, eM3, h⟩ := bndE h
                        refine VV.mem eM3 ?_
                        have hP3 := hP2.wI eM3
                        refine Y_goto (pc := 396) (tgt := 517) dX12_executes_396 (by decide) ?_
                        cases h
                        exact Y_vret (pc := 517) rfl dX12_executes_517 hP3 ⟨rfl, rfl⟩
                      · replace h := ifF hc17 h
                        refine Y_iload_n (pc := 380) (j := 1) dX12_executes_380 rfl rfl ?_
                        refine Y_goto (pc := 381) (tgt := 395) dX12_executes_381 (by decide) ?_
                        obtain ⟨hb13, h⟩ := okE h
                        refine Y_iast (pc := 395) dX12_executes_395 (lk_110 hP2) (ln_110 hP2) hb13 ?_
                        obtain ⟨M4, eM4, h⟩ := bndE h
                        refine VV.mem eM4 ?_
                        have hP4 := hP2.wI eM4
                        refine Y_goto (pc := 396) (tgt := 517) dX12_executes_396 (by decide) ?_
                        cases h
                        exact Y_vret (pc := 517) rfl dX12_executes_517 hP4 ⟨rfl, rfl⟩
                  · replace h := ifT hc9 h
                    refine Y_aload_n (pc := 324) (j := 3) dX12_executes_324 rfl rfl ?_
                    refine Z_getr (pc := 325) dX12_executes_325 w8_116 (lk_69 hPy1) fr_12_50 (lr_69_50 hPy1) ?_
                    refine Y_aload_n (pc := 328) (j := 3) dX12_executes_328 rfl rfl ?_
                    refine Z_geti (pc := 329) dX12_executes_329 w8_114 (lk_69 hPy1) fi_12_48 ?_
                    refine Y_iload_n (pc := 332) (j := 0) dX12_executes_332 rfl rfl ?_
                    obtain ⟨hb14, h⟩ := okE h
                    refine Y_iast (pc := 333) dX12_executes_333 (lk_110 hPy1) (ln_110 hPy1) hb14 ?_
                    obtain ⟨M5, eM5, h⟩ := bndE h
                    refine VV.mem eM5 ?_
                    have hP5 := hPy1.wI eM5
                    refine Y_goto (pc := 334) (tgt := 517) dX12_executes_334 (by decide) ?_
                    cases h
                    exact Y_vret (pc := 517) rfl dX12_executes_517 hP5 ⟨rfl, rfl⟩
                · replace h := ifT hc8 h
                  refine VV.sub [3, 1] rfl ?_
                  exact b_X12_executes_310  hPy1 h
            · replace h := ifT hc6 h
              refine Y_aload_n (pc := 268) (j := 3) dX12_executes_268 rfl rfl ?_
              refine Z_getr (pc := 269) dX12_executes_269 w8_117 (lk_69 hP1) fr_12_51 (lr_69_51 hP1) ?_
              refine Y_aload_n (pc := 272) (j := 3) dX12_executes_272 rfl rfl ?_
              refine Z_geti (pc := 273) dX12_executes_273 w8_114 (lk_69 hP1) fi_12_48 ?_
              refine Y_dup2 (pc := 276) dX12_executes_276 rfl rfl ?_
              obtain ⟨hb15, h⟩ := okE h
              refine Y_iald (pc := 277) dX12_executes_277 (lk_111 hP1) (ln_111 hP1) hb15 ?_
              refine Y_iconst (pc := 278) (v := (1 : Int32)) dX12_executes_278 rfl ?_
              refine Y_isub (pc := 279) dX12_executes_279 ?_
              obtain ⟨hb16, h⟩ := okE h
              refine Y_iast (pc := 280) dX12_executes_280 (lk_111 hP1) (ln_111 hP1) hb16 ?_
              obtain ⟨M6, eM6, h⟩ := bndE h
              refine VV.mem eM6 ?_
              have hP6 := hP1.wI eM6
              refine Y_aload_n (pc := 281) (j := 3) dX12_executes_281 rfl rfl ?_
              refine Z_getr (pc := 282) dX12_executes_282 w8_116 (lk_69 hP6) fr_12_50 (lr_69_50 hP6) ?_
              refine Y_aload_n (pc := 285) (j := 3) dX12_executes_285 rfl rfl ?_
              refine Z_geti (pc := 286) dX12_executes_286 w8_114 (lk_69 hP6) fi_12_48 ?_
              refine Y_dup2 (pc := 289) dX12_executes_289 rfl rfl ?_
              obtain ⟨hb17, h⟩ := okE h
              refine Y_iald (pc := 290) dX12_executes_290 (lk_110 hP6) (ln_110 hP6) hb17 ?_
              refine Y_iconst (pc := 291) (v := (1 : Int32)) dX12_executes_291 rfl ?_
              refine Y_iadd (pc := 292) dX12_executes_292 ?_
              obtain ⟨hb18, h⟩ := okE h
              refine Y_iast (pc := 293) dX12_executes_293 (lk_110 hP6) (ln_110 hP6) hb18 ?_
              obtain ⟨M7, eM7, h⟩ := bndE h
              refine VV.mem eM7 ?_
              have hP7 := hP6.wI eM7
              refine Y_goto (pc := 294) (tgt := 517) dX12_executes_294 (by decide) ?_
              cases h
              exact Y_vret (pc := 517) rfl dX12_executes_517 hP7 ⟨rfl, rfl⟩
          · replace h := ifT hc5 h
            refine Y_aload_n (pc := 219) (j := 3) dX12_executes_219 rfl rfl ?_
            refine Z_getr (pc := 220) dX12_executes_220 w8_117 (lk_69 hP1) fr_12_51 (lr_69_51 hP1) ?_
            refine Y_aload_n (pc := 223) (j := 3) dX12_executes_223 rfl rfl ?_
            refine Z_geti (pc := 224) dX12_executes_224 w8_114 (lk_69 hP1) fi_12_48 ?_
            refine Y_dup2 (pc := 227) dX12_executes_227 rfl rfl ?_
            obtain ⟨hb19, h⟩ := okE h
            refine Y_iald (pc := 228) dX12_executes_228 (lk_111 hP1) (ln_111 hP1) hb19 ?_
            refine Y_iconst (pc := 229) (v := (1 : Int32)) dX12_executes_229 rfl ?_
            refine Y_iadd (pc := 230) dX12_executes_230 ?_
            obtain ⟨hb20, h⟩ := okE h
            refine Y_iast (pc := 231) dX12_executes_231 (lk_111 hP1) (ln_111 hP1) hb20 ?_
            obtain ⟨M8, eM8, h⟩ := bndE h
            refine VV.mem eM8 ?_
            have hP8 := hP1.wI eM8
            refine Y_aload_n (pc := 232) (j := 3) dX12_executes_232 rfl rfl ?_
            refine Y_aload_n (pc := 233) (j := 3) dX12_executes_233 rfl rfl ?_
            refine Y_iconst (pc := 234) (v := (1 : Int32)) dX12_executes_234 rfl ?_
            obtain ⟨y13, qy13, h⟩ := bindE h
            have cy13 := v_X12_top hP8 qy13
            refine C_V1r (pc := 235) (k' := k_X12_top) dX12_executes_235 w9_200 i_X12_top (lk_69 hP8) ⟨Nat.le_of_ble_eq_true rfl, Nat.le_of_ble_eq_true rfl⟩ rfl (Nat.le_of_ble_eq_true rfl) (Nat.le_of_ble_eq_true rfl) (Nat.le_of_ble_eq_true rfl) (cy13) ?_
            have hPy13 := cy13.1.1
            refine Y_aload_n (pc := 238) (j := 3) dX12_executes_238 rfl rfl ?_
            refine Y_iconst (pc := 239) (v := (0 : Int32)) dX12_executes_239 rfl ?_
            obtain ⟨y14, qy14, h⟩ := bindE h
            have cy14 := v_X12_top hPy13 qy14
            refine C_V1r (pc := 240) (k' := k_X12_top) dX12_executes_240 w9_200 i_X12_top (lk_69 hPy13) ⟨Nat.le_of_ble_eq_true rfl, Nat.le_of_ble_eq_true rfl⟩ rfl (Nat.le_of_ble_eq_true rfl) (Nat.le_of_ble_eq_true rfl) (Nat.le_of_ble_eq_true rfl) (cy14) ?_
            have hPy14 := cy14.1.1
            obtain ⟨y15, qy15, h⟩ := bindE h
            have cy15 := v_X12_copies hPy14 qy15
            refine C_V2o (pc := 243) (k' := k_X12_copies) dX12_executes_243 w10_55 i_X12_copies (lk_69 hPy14) ⟨Nat.le_of_ble_eq_true rfl, Nat.le_of_ble_eq_true rfl⟩ rfl (Nat.le_of_ble_eq_true rfl) (Nat.le_of_ble_eq_true rfl) (Nat.le_of_ble_eq_true rfl) (cy15) ?_
            have hPy15 := cy15.1.1
            refine Y_aload_n (pc := 246) (j := 3) dX12_executes_246 rfl rfl ?_
            refine Z_getr (pc := 247) dX12_executes_247 w8_116 (lk_69 hPy15) fr_12_50 (lr_69_50 hPy15) ?_
            refine Y_aload_n (pc := 250) (j := 3) dX12_executes_250 rfl rfl ?_
            refine Z_geti (pc := 251) dX12_executes_251 w8_114 (lk_69 hPy15) fi_12_48 ?_
            refine Y_dup2 (pc := 254) dX12_executes_254 rfl rfl ?_
            obtain ⟨hb21, h⟩ := okE h
            refine Y_iald (pc := 255) dX12_executes_255 (lk_110 hPy15) (ln_110 hPy15) hb21 ?_
            refine Y_iconst (pc := 256) (v := (1 : Int32)) dX12_executes_256 rfl ?_
            refine Y_iadd (pc := 257) dX12_executes_257 ?_
            obtain ⟨hb22, h⟩ := okE h
            refine Y_iast (pc := 258) dX12_executes_258 (lk_110 hPy15) (ln_110 hPy15) hb22 ?_
            obtain ⟨M9, eM9, h⟩ := bndE h
            refine VV.mem eM9 ?_
            have hP9 := hPy15.wI eM9
            refine Y_goto (pc := 259) (tgt := 517) dX12_executes_259 (by decide) ?_
            cases h
            exact Y_vret (pc := 517) rfl dX12_executes_517 hP9 ⟨rfl, rfl⟩
        · replace h := ifT hc4 h
          refine Y_aload_n (pc := 166) (j := 3) dX12_executes_166 rfl rfl ?_
          refine Y_aload_n (pc := 167) (j := 3) dX12_executes_167 rfl rfl ?_
          refine Y_iconst (pc := 168) (v := (0 : Int32)) dX12_executes_168 rfl ?_
          obtain ⟨y16, qy16, h⟩ := bindE h
          have cy16 := v_X12_top hP1 qy16
          refine C_V1r (pc := 169) (k' := k_X12_top) dX12_executes_169 w9_200 i_X12_top (lk_69 hP1) ⟨Nat.le_of_ble_eq_true rfl, Nat.le_of_ble_eq_true rfl⟩ rfl (Nat.le_of_ble_eq_true rfl) (Nat.le_of_ble_eq_true rfl) (Nat.le_of_ble_eq_true rfl) (cy16) ?_
          have hPy16 := cy16.1.1
          refine Y_bipush (pc := 172) (v := (14 : Int32)) dX12_executes_172 rfl ?_
          refine Y_aload_n (pc := 174) (j := 3) dX12_executes_174 rfl rfl ?_
          refine Z_geti (pc := 175) dX12_executes_175 w8_114 (lk_69 hPy16) fi_12_48 ?_
          refine Y_imul (pc := 178) dX12_executes_178 ?_
          refine Y_iload_n (pc := 179) (j := 0) dX12_executes_179 rfl rfl ?_
          refine Y_iadd (pc := 180) dX12_executes_180 ?_
          obtain ⟨y17, qy17, h⟩ := bindE h
          have cy17 := v_X12_copies hPy16 qy17
          refine C_V2o (pc := 181) (k' := k_X12_copies) dX12_executes_181 w10_55 i_X12_copies (lk_69 hPy16) ⟨Nat.le_of_ble_eq_true rfl, Nat.le_of_ble_eq_true rfl⟩ rfl (Nat.le_of_ble_eq_true rfl) (Nat.le_of_ble_eq_true rfl) (Nat.le_of_ble_eq_true rfl) (cy17) ?_
          have hPy17 := cy17.1.1
          refine Y_aload_n (pc := 184) (j := 3) dX12_executes_184 rfl rfl ?_
          refine Z_getr (pc := 185) dX12_executes_185 w8_117 (lk_69 hPy17) fr_12_51 (lr_69_51 hPy17) ?_
          refine Y_aload_n (pc := 188) (j := 3) dX12_executes_188 rfl rfl ?_
          refine Z_geti (pc := 189) dX12_executes_189 w8_114 (lk_69 hPy17) fi_12_48 ?_
          refine Y_dup2 (pc := 192) dX12_executes_192 rfl rfl ?_
          obtain ⟨hb23, h⟩ := okE h
          refine Y_iald (pc := 193) dX12_executes_193 (lk_111 hPy17) (ln_111 hPy17) hb23 ?_
          refine Y_iconst (pc := 194) (v := (1 : Int32)) dX12_executes_194 rfl ?_
          refine Y_isub (pc := 195) dX12_executes_195 ?_
          obtain ⟨hb24, h⟩ := okE h
          refine Y_iast (pc := 196) dX12_executes_196 (lk_111 hPy17) (ln_111 hPy17) hb24 ?_
          obtain ⟨M10, eM10, h⟩ := bndE h
          refine VV.mem eM10 ?_
          have hP10 := hPy17.wI eM10
          refine Y_aload_n (pc := 197) (j := 3) dX12_executes_197 rfl rfl ?_
          refine Z_getr (pc := 198) dX12_executes_198 w8_116 (lk_69 hP10) fr_12_50 (lr_69_50 hP10) ?_
          refine Y_aload_n (pc := 201) (j := 3) dX12_executes_201 rfl rfl ?_
          refine Z_geti (pc := 202) dX12_executes_202 w8_114 (lk_69 hP10) fi_12_48 ?_
          refine Y_dup2 (pc := 205) dX12_executes_205 rfl rfl ?_
          obtain ⟨hb25, h⟩ := okE h
          refine Y_iald (pc := 206) dX12_executes_206 (lk_110 hP10) (ln_110 hP10) hb25 ?_
          refine Y_iconst (pc := 207) (v := (1 : Int32)) dX12_executes_207 rfl ?_
          refine Y_iadd (pc := 208) dX12_executes_208 ?_
          obtain ⟨hb26, h⟩ := okE h
          refine Y_iast (pc := 209) dX12_executes_209 (lk_110 hP10) (ln_110 hP10) hb26 ?_
          obtain ⟨M11, eM11, h⟩ := bndE h
          refine VV.mem eM11 ?_
          have hP11 := hP10.wI eM11
          refine Y_goto (pc := 210) (tgt := 517) dX12_executes_210 (by decide) ?_
          cases h
          exact Y_vret (pc := 517) rfl dX12_executes_517 hP11 ⟨rfl, rfl⟩
      · replace h := ifT hc3 h
        refine Y_aload_n (pc := 113) (j := 3) dX12_executes_113 rfl rfl ?_
        refine Z_getr (pc := 114) dX12_executes_114 w8_117 (lk_69 hP1) fr_12_51 (lr_69_51 hP1) ?_
        refine Y_aload_n (pc := 117) (j := 3) dX12_executes_117 rfl rfl ?_
        refine Z_geti (pc := 118) dX12_executes_118 w8_114 (lk_69 hP1) fi_12_48 ?_
        refine Y_dup2 (pc := 121) dX12_executes_121 rfl rfl ?_
        obtain ⟨hb27, h⟩ := okE h
        refine Y_iald (pc := 122) dX12_executes_122 (lk_111 hP1) (ln_111 hP1) hb27 ?_
        refine Y_iconst (pc := 123) (v := (1 : Int32)) dX12_executes_123 rfl ?_
        refine Y_iadd (pc := 124) dX12_executes_124 ?_
        obtain ⟨hb28, h⟩ := okE h
        refine Y_iast (pc := 125) dX12_executes_125 (lk_111 hP1) (ln_111 hP1) hb28 ?_
        obtain ⟨M12, eM12, h⟩ := bndE h
        refine VV.mem eM12 ?_
        have hP12 := hP1.wI eM12
        refine Y_aload_n (pc := 126) (j := 3) dX12_executes_126 rfl rfl ?_
        refine Y_bipush (pc := 127) (v := (14 : Int32)) dX12_executes_127 rfl ?_
        refine Y_aload_n (pc := 129) (j := 3) dX12_executes_129 rfl rfl ?_
        refine Z_geti (pc := 130) dX12_executes_130 w8_114 (lk_69 hP12) fi_12_48 ?_
        refine Y_imul (pc := 133) dX12_executes_133 ?_
        refine Y_iload_n (pc := 134) (j := 0) dX12_executes_134 rfl rfl ?_
        refine Y_iadd (pc := 135) dX12_executes_135 ?_
        refine Y_aload_n (pc := 136) (j := 3) dX12_executes_136 rfl rfl ?_
        refine Y_iconst (pc := 137) (v := (0 : Int32)) dX12_executes_137 rfl ?_
        obtain ⟨y18, qy18, h⟩ := bindE h
        have cy18 := v_X12_top hP12 qy18
        refine C_V1r (pc := 138) (k' := k_X12_top) dX12_executes_138 w9_200 i_X12_top (lk_69 hP12) ⟨Nat.le_of_ble_eq_true rfl, Nat.le_of_ble_eq_true rfl⟩ rfl (Nat.le_of_ble_eq_true rfl) (Nat.le_of_ble_eq_true rfl) (Nat.le_of_ble_eq_true rfl) (cy18) ?_
        have hPy18 := cy18.1.1
        obtain ⟨y19, qy19, h⟩ := bindE h
        have cy19 := v_X12_copies hPy18 qy19
        refine C_V2o (pc := 141) (k' := k_X12_copies) dX12_executes_141 w10_55 i_X12_copies (lk_69 hPy18) ⟨Nat.le_of_ble_eq_true rfl, Nat.le_of_ble_eq_true rfl⟩ rfl (Nat.le_of_ble_eq_true rfl) (Nat.le_of_ble_eq_true rfl) (Nat.le_of_ble_eq_true rfl) (cy19) ?_
        have hPy19 := cy19.1.1
        refine Y_aload_n (pc := 144) (j := 3) dX12_executes_144 rfl rfl ?_
        refine Z_getr (pc := 145) dX12_executes_145 w8_116 (lk_69 hPy19) fr_12_50 (lr_69_50 hPy19) ?_
        refine Y_aload_n (pc := 148) (j := 3) dX12_executes_148 rfl rfl ?_
        refine Z_geti (pc := 149) dX12_executes_149 w8_114 (lk_69 hPy19) fi_12_48 ?_
        refine Y_dup2 (pc := 152) dX12_executes_152 rfl rfl ?_
        obtain ⟨hb29, h⟩ := okE h
        refine Y_iald (pc := 153) dX12_executes_153 (lk_110 hPy19) (ln_110 hPy19) hb29 ?_
        refine Y_iconst (pc := 154) (v := (1 : Int32)) dX12_executes_154 rfl ?_
        refine Y_iadd (pc := 155) dX12_executes_155 ?_
        obtain ⟨hb30, h⟩ := okE h
        refine Y_iast (pc := 156) dX12_executes_156 (lk_110 hPy19) (ln_110 hPy19) hb30 ?_
        obtain ⟨M13, eM13, h⟩ := bndE h
        refine VV.mem eM13 ?_
        have hP13 := hPy19.wI eM13
        refine Y_goto (pc := 157) (tgt := 517) dX12_executes_157 (by decide) ?_
        cases h
        exact Y_vret (pc := 517) rfl dX12_executes_517 hP13 ⟨rfl, rfl⟩
    · replace h := ifT hc2 h
      refine VV.sub [3, 1, 0] rfl ?_
      exact b_X12_executes_59  hP1 h
theorem v_X12_executes {M z} (hP : Lay M) (h : d_X12_executes M = some z) : CC Lay k_X12_executes [.ref 69] M z.2 (Qv (none) z.2) xF :=
  CC.ofVV (by decide) rfl (Nat.le_of_ble_eq_true rfl) (b_X12_executes hP h)
noncomputable def d_X12_endsBy (x1 : Int32) (M : Mem) : Option (Unit × Mem) :=
  (d_X12_breaksOff M).bind fun y1 =>
  bnd (sI y1.2 69 68 (-1 : Int32)) fun M1 =>
  bnd (sI M1 69 67 (0 : Int32)) fun M2 =>
  bnd (sI M2 69 62 (120 : Int32)) fun M3 =>
  okk (isCh x1) <|
  bnd (sI M3 69 65 x1) fun M4 =>
  okk (vp_in (mI M4 69 48) 12) <|
  okk (vp_in (mI M4 69 48) 12) <|
  bnd (sI M4 69 66 (((100 : Int32) * (mI M4 109 (mI M4 69 48).toNatClampNeg)) + (mI M4 110 (mI M4 69 48).toNatClampNeg))) fun M5 =>
  some ((), M5)
theorem b_X12_endsBy {x1 : Int32} {M z} (hP : Lay M) (h : d_X12_endsBy x1 M = some z) : VV Lay k_X12_endsBy 0 [(0, .ref 69), (1, .int x1)] [] M z.2 (Qv (none) z.2) xF := by
  unfold d_X12_endsBy at h
  refine Y_aload_n (pc := 0) (j := 0) dX12_endsBy_0 rfl rfl ?_
  obtain ⟨y1, qy1, h⟩ := bindE h
  have cy1 := v_X12_breaksOff hP qy1
  refine C_V0o (pc := 1) (k' := k_X12_breaksOff) dX12_endsBy_1 w9_180 i_X12_breaksOff (lk_69 hP) ⟨Nat.le_of_ble_eq_true rfl, Nat.le_of_ble_eq_true rfl⟩ rfl (Nat.le_of_ble_eq_true rfl) (Nat.le_of_ble_eq_true rfl) (Nat.le_of_ble_eq_true rfl) (cy1) ?_
  have hPy1 := cy1.1.1
  refine Y_aload_n (pc := 4) (j := 0) dX12_endsBy_4 rfl rfl ?_
  refine Y_iconst (pc := 5) (v := (-1 : Int32)) dX12_endsBy_5 rfl ?_
  refine Z_puti (pc := 6) dX12_endsBy_6 w8_134 (lk_69 hPy1) fi_12_68 (Or.inl rfl) rfl ?_
  obtain ⟨M1, eM1, h⟩ := bndE h
  refine VV.mem eM1 ?_
  have hP1 := hPy1.wI eM1
  refine Y_aload_n (pc := 9) (j := 0) dX12_endsBy_9 rfl rfl ?_
  refine Y_iconst (pc := 10) (v := (0 : Int32)) dX12_endsBy_10 rfl ?_
  refine Z_putz (pc := 11) dX12_endsBy_11 w8_133 (lk_69 hP1) fi_12_67 (Or.inl rfl) rfl (by decide) ?_
  obtain ⟨M2, eM2, h⟩ := bndE h
  refine VV.mem eM2 ?_
  have hP2 := hP1.wI eM2
  refine Y_aload_n (pc := 14) (j := 0) dX12_endsBy_14 rfl rfl ?_
  refine Y_bipush (pc := 15) (v := (120 : Int32)) dX12_endsBy_15 rfl ?_
  refine Z_putc (pc := 17) dX12_endsBy_17 w8_128 (lk_69 hP2) fi_12_62 (Or.inl rfl) rfl (by decide) ?_
  obtain ⟨M3, eM3, h⟩ := bndE h
  refine VV.mem eM3 ?_
  have hP3 := hP2.wI eM3
  refine Y_aload_n (pc := 20) (j := 0) dX12_endsBy_20 rfl rfl ?_
  refine Y_iload_n (pc := 21) (j := 1) dX12_endsBy_21 rfl rfl ?_
  obtain ⟨hb1, h⟩ := okE h
  refine Z_putc (pc := 22) dX12_endsBy_22 w8_131 (lk_69 hP3) fi_12_65 (Or.inl rfl) rfl hb1 ?_
  obtain ⟨M4, eM4, h⟩ := bndE h
  refine VV.mem eM4 ?_
  have hP4 := hP3.wI eM4
  refine Y_aload_n (pc := 25) (j := 0) dX12_endsBy_25 rfl rfl ?_
  refine Y_bipush (pc := 26) (v := (100 : Int32)) dX12_endsBy_26 rfl ?_
  refine Y_aload_n (pc := 28) (j := 0) dX12_endsBy_28 rfl rfl ?_
  refine Z_getr (pc := 29) dX12_endsBy_29 w8_115 (lk_69 hP4) fr_12_49 (lr_69_49 hP4) ?_
  refine Y_aload_n (pc := 32) (j := 0) dX12_endsBy_32 rfl rfl ?_
  refine Z_geti (pc := 33) dX12_endsBy_33 w8_114 (lk_69 hP4) fi_12_48 ?_
  obtain ⟨hb2, h⟩ := okE h
  refine Y_iald (pc := 36) dX12_endsBy_36 (lk_109 hP4) (ln_109 hP4) hb2 ?_
  refine Y_imul (pc := 37) dX12_endsBy_37 ?_
  refine Y_aload_n (pc := 38) (j := 0) dX12_endsBy_38 rfl rfl ?_
  refine Z_getr (pc := 39) dX12_endsBy_39 w8_116 (lk_69 hP4) fr_12_50 (lr_69_50 hP4) ?_
  refine Y_aload_n (pc := 42) (j := 0) dX12_endsBy_42 rfl rfl ?_
  refine Z_geti (pc := 43) dX12_endsBy_43 w8_114 (lk_69 hP4) fi_12_48 ?_
  obtain ⟨hb3, h⟩ := okE h
  refine Y_iald (pc := 46) dX12_endsBy_46 (lk_110 hP4) (ln_110 hP4) hb3 ?_
  refine Y_iadd (pc := 47) dX12_endsBy_47 ?_
  refine Z_puti (pc := 48) dX12_endsBy_48 w8_132 (lk_69 hP4) fi_12_66 (Or.inl rfl) rfl ?_
  obtain ⟨M5, eM5, h⟩ := bndE h
  refine VV.mem eM5 ?_
  have hP5 := hP4.wI eM5
  cases h
  exact Y_vret (pc := 51) rfl dX12_endsBy_51 hP5 ⟨rfl, rfl⟩
theorem v_X12_endsBy {x1 : Int32} {M z} (hP : Lay M) (h : d_X12_endsBy x1 M = some z) : CC Lay k_X12_endsBy [.ref 69, .int x1] M z.2 (Qv (none) z.2) xF :=
  CC.ofVV (by decide) rfl (Nat.le_of_ble_eq_true rfl) (b_X12_endsBy hP h)
noncomputable def d_X12_failsBy_44 (x1 : Int32) (x2 : Int32) (M : Mem) : Option (Unit × Mem) :=
  if 0 ≤ x2 then (
    bnd (sI M 69 48 x2) fun M1 =>
    okk (vp_in x2 12) <|
    okk (vp_in (mI M1 109 x2.toNatClampNeg) 8) <|
    okk (vp_in x2 12) <|
    bnd (sI M1 110 x2.toNatClampNeg (mI M1 74 (mI M1 109 x2.toNatClampNeg).toNatClampNeg)) fun M2 =>
    okk (vp_in x2 12) <|
    bnd (sI M2 111 x2.toNatClampNeg (0 : Int32)) fun M3 =>
    (d_X12_gives (105 : Int32) x1 FP.dconst0 M3).bind fun y1 =>
    (d_X12_pushes (0 : Int32) y1.2).bind fun y2 =>
    some ((), y2.2))
  else (
    (d_X12_endsBy x1 M).bind fun y3 =>
    some ((), y3.2))
theorem b_X12_failsBy_44 {x1 : Int32} {x2 : Int32} {M z} (hP : Lay M) (h : d_X12_failsBy_44 x1 x2 M = some z) : VV Lay k_X12_failsBy 44 [(0, .ref 69), (1, .int x1), (2, .int x2)] [] M z.2 (Qv (none) z.2) xF := by
  unfold d_X12_failsBy_44 at h
  refine Y_iload_n (pc := 44) (j := 2) dX12_failsBy_44 rfl rfl ?_
  refine Y_if_ge (pc := 45) (tgt := 54) dX12_failsBy_45 (by decide) (fun hc1 => ?_) (fun hc1 => ?_)
  · replace h := ifT hc1 h
    refine Y_aload_n (pc := 54) (j := 0) dX12_failsBy_54 rfl rfl ?_
    refine Y_iload_n (pc := 55) (j := 2) dX12_failsBy_55 rfl rfl ?_
    refine Z_puti (pc := 56) dX12_failsBy_56 w8_114 (lk_69 hP) fi_12_48 (Or.inl rfl) rfl ?_
    obtain ⟨M1, eM1, h⟩ := bndE h
    refine VV.mem eM1 ?_
    have hP1 := hP.wI eM1
    refine Y_aload_n (pc := 59) (j := 0) dX12_failsBy_59 rfl rfl ?_
    refine Z_getr (pc := 60) dX12_failsBy_60 w8_116 (lk_69 hP1) fr_12_50 (lr_69_50 hP1) ?_
    refine Y_iload_n (pc := 63) (j := 2) dX12_failsBy_63 rfl rfl ?_
    refine Y_aload_n (pc := 64) (j := 0) dX12_failsBy_64 rfl rfl ?_
    refine Z_getr (pc := 65) dX12_failsBy_65 w8_72 (lk_69 hP1) fr_12_6 (lr_69_6 hP1) ?_
    refine Y_aload_n (pc := 68) (j := 0) dX12_failsBy_68 rfl rfl ?_
    refine Z_getr (pc := 69) dX12_failsBy_69 w8_115 (lk_69 hP1) fr_12_49 (lr_69_49 hP1) ?_
    refine Y_iload_n (pc := 72) (j := 2) dX12_failsBy_72 rfl rfl ?_
    obtain ⟨hb1, h⟩ := okE h
    refine Y_iald (pc := 73) dX12_failsBy_73 (lk_109 hP1) (ln_109 hP1) hb1 ?_
    obtain ⟨hb2, h⟩ := okE h
    refine Y_iald (pc := 74) dX12_failsBy_74 (lk_74 hP1) (ln_74 hP1) hb2 ?_
    obtain ⟨hb3, h⟩ := okE h
    refine Y_iast (pc := 75) dX12_failsBy_75 (lk_110 hP1) (ln_110 hP1) hb3 ?_
    obtain ⟨M2, eM2, h⟩ := bndE h
    refine VV.mem eM2 ?_
    have hP2 := hP1.wI eM2
    refine Y_aload_n (pc := 76) (j := 0) dX12_failsBy_76 rfl rfl ?_
    refine Z_getr (pc := 77) dX12_failsBy_77 w8_117 (lk_69 hP2) fr_12_51 (lr_69_51 hP2) ?_
    refine Y_iload_n (pc := 80) (j := 2) dX12_failsBy_80 rfl rfl ?_
    refine Y_iconst (pc := 81) (v := (0 : Int32)) dX12_failsBy_81 rfl ?_
    obtain ⟨hb4, h⟩ := okE h
    refine Y_iast (pc := 82) dX12_failsBy_82 (lk_111 hP2) (ln_111 hP2) hb4 ?_
    obtain ⟨M3, eM3, h⟩ := bndE h
    refine VV.mem eM3 ?_
    have hP3 := hP2.wI eM3
    refine Y_aload_n (pc := 83) (j := 0) dX12_failsBy_83 rfl rfl ?_
    refine Y_bipush (pc := 84) (v := (105 : Int32)) dX12_failsBy_84 rfl ?_
    refine Y_iload_n (pc := 86) (j := 1) dX12_failsBy_86 rfl rfl ?_
    refine Y_dconst0 (pc := 87) dX12_failsBy_87 ?_
    obtain ⟨y1, qy1, h⟩ := bindE h
    have cy1 := v_X12_gives hP3 qy1
    refine C_V3o (pc := 88) (k' := k_X12_gives) dX12_failsBy_88 w10_17 i_X12_gives (lk_69 hP3) ⟨Nat.le_of_ble_eq_true rfl, Nat.le_of_ble_eq_true rfl⟩ rfl (Nat.le_of_ble_eq_true rfl) (Nat.le_of_ble_eq_true rfl) (Nat.le_of_ble_eq_true rfl) (cy1) ?_
    have hPy1 := cy1.1.1
    refine Y_aload_n (pc := 91) (j := 0) dX12_failsBy_91 rfl rfl ?_
    refine Y_iconst (pc := 92) (v := (0 : Int32)) dX12_failsBy_92 rfl ?_
    obtain ⟨y2, qy2, h⟩ := bindE h
    have cy2 := v_X12_pushes hPy1 qy2
    refine C_V1o (pc := 93) (k' := k_X12_pushes) dX12_failsBy_93 w10_51 i_X12_pushes (lk_69 hPy1) ⟨Nat.le_of_ble_eq_true rfl, Nat.le_of_ble_eq_true rfl⟩ rfl (Nat.le_of_ble_eq_true rfl) (Nat.le_of_ble_eq_true rfl) (Nat.le_of_ble_eq_true rfl) (cy2) ?_
    have hPy2 := cy2.1.1
    cases h
    exact Y_vret (pc := 96) rfl dX12_failsBy_96 hPy2 ⟨rfl, rfl⟩
  · replace h := ifF hc1 h
    refine Y_aload_n (pc := 48) (j := 0) dX12_failsBy_48 rfl rfl ?_
    refine Y_iload_n (pc := 49) (j := 1) dX12_failsBy_49 rfl rfl ?_
    obtain ⟨y3, qy3, h⟩ := bindE h
    have cy3 := v_X12_endsBy hP qy3
    refine C_V1o (pc := 50) (k' := k_X12_endsBy) dX12_failsBy_50 w9_176 i_X12_endsBy (lk_69 hP) ⟨Nat.le_of_ble_eq_true rfl, Nat.le_of_ble_eq_true rfl⟩ rfl (Nat.le_of_ble_eq_true rfl) (Nat.le_of_ble_eq_true rfl) (Nat.le_of_ble_eq_true rfl) (cy3) ?_
    have hPy3 := cy3.1.1
    cases h
    exact Y_vret (pc := 53) rfl dX12_failsBy_53 hPy3 ⟨rfl, rfl⟩
noncomputable def d_X12_failsBy_19b (k19 : (Int32) → Mem → Option (Unit × Mem)) (x1 : Int32) (x2 : Int32) (M : Mem) : Option (Unit × Mem) :=
  if x2 < 0 then (
    d_X12_failsBy_44 x1 x2 M)
  else (
    okk (vp_in x2 12) <|
    okk (vp_in (mI M 109 x2.toNatClampNeg) 8) <|
    if (mI M 74 (mI M 109 x2.toNatClampNeg).toNatClampNeg) = (-1 : Int32) then (
      bnd ((x2 + (-1 : Int32))) fun b1 =>
      k19 (b1) M)
    else (
      d_X12_failsBy_44 x1 x2 M))
theorem b_X12_failsBy_19b {k19 : (Int32) → Mem → Option (Unit × Mem)} {x1 : Int32} {x2 : Int32} {M z} (hk19 : ∀ (a : (Int32)) (M : Mem) (z : Unit × Mem), Lay M → k19 a M = some z → VV Lay k_X12_failsBy 19 [(0, .ref 69), (1, .int x1), (2, .int a)] [] M z.2 (Qv (none) z.2) xF) (hP : Lay M) (h : d_X12_failsBy_19b k19 x1 x2 M = some z) : VV Lay k_X12_failsBy 19 [(0, .ref 69), (1, .int x1), (2, .int x2)] [] M z.2 (Qv (none) z.2) xF := by
  unfold d_X12_failsBy_19b at h
  refine Y_iload_n (pc := 19) (j := 2) dX12_failsBy_19 rfl rfl ?_
  refine Y_if_lt (pc := 20) (tgt := 44) dX12_failsBy_20 (by decide) (fun hc1 => ?_) (fun hc1 => ?_)
  · replace h := ifT hc1 h
    refine VV.sub [0, 1, 2] rfl ?_
    exact b_X12_failsBy_44  hP h
  · replace h := ifF hc1 h
    refine Y_aload_n (pc := 23) (j := 0) dX12_failsBy_23 rfl rfl ?_
    refine Z_getr (pc := 24) dX12_failsBy_24 w8_72 (lk_69 hP) fr_12_6 (lr_69_6 hP) ?_
    refine Y_aload_n (pc := 27) (j := 0) dX12_failsBy_27 rfl rfl ?_
    refine Z_getr (pc := 28) dX12_failsBy_28 w8_115 (lk_69 hP) fr_12_49 (lr_69_49 hP) ?_
    refine Y_iload_n (pc := 31) (j := 2) dX12_failsBy_31 rfl rfl ?_
    obtain ⟨hb1, h⟩ := okE h
    refine Y_iald (pc := 32) dX12_failsBy_32 (lk_109 hP) (ln_109 hP) hb1 ?_
    obtain ⟨hb2, h⟩ := okE h
    refine Y_iald (pc := 33) dX12_failsBy_33 (lk_74 hP) (ln_74 hP) hb2 ?_
    refine Y_iconst (pc := 34) (v := (-1 : Int32)) dX12_failsBy_34 rfl ?_
    refine Y_icmp_ne (pc := 35) (tgt := 44) dX12_failsBy_35 (by decide) (fun hc2 => ?_) (fun hc2 => ?_)
    · replace h := ifF hc2 h
      refine VV.sub [0, 1, 2] rfl ?_
      exact b_X12_failsBy_44  hP h
    · replace h := ifT hc2 h
      obtain ⟨b1, eb1, h⟩ := bndE h
      refine Y_iinc (pc := 38) (j := 2) (v := b1) (lv1 := [(2, .int b1), (0, .ref 69), (1, .int x1)]) dX12_failsBy_38 rfl eb1.symm (by decide) rfl ?_
      refine Y_goto (pc := 41) (tgt := 19) dX12_failsBy_41 (by decide) ?_
      refine VV.sub [1, 2, 0] rfl ?_
      exact hk19 _ _ _ hP h
noncomputable def d_X12_failsBy_19 (x1 : Int32) : Nat → (Int32) → Mem → Option (Unit × Mem) := lp fun k a M => d_X12_failsBy_19b k x1 a M
theorem b_X12_failsBy_19 {x1 : Int32} (n : Nat) : ∀ (a : (Int32)) (M : Mem) (z : Unit × Mem), d_X12_failsBy_19 x1 n a M = some z → Lay M → VV Lay k_X12_failsBy 19 [(0, .ref 69), (1, .int x1), (2, .int a)] [] M z.2 (Qv (none) z.2) xF :=
  lp_ind (G := fun (a : (Int32)) (M : Mem) (z : Unit × Mem) => Lay M → VV Lay k_X12_failsBy 19 [(0, .ref 69), (1, .int x1), (2, .int a)] [] M z.2 (Qv (none) z.2) xF) (fun k hk a M z h hP => b_X12_failsBy_19b  (fun a M z hP h => hk a M z h hP) hP h) n
noncomputable def d_X12_failsBy (x1 : Int32) (M : Mem) : Option (Unit × Mem) :=
  (d_X12_breaksOff M).bind fun y1 =>
  bnd (sI y1.2 69 57 ((mI y1.2 69 57) + (1 : Int32))) fun M1 =>
  bnd ((mI M1 69 48)) fun b1 =>
  d_X12_failsBy_19 x1 fuel (b1) M1
theorem b_X12_failsBy {x1 : Int32} {M z} (hP : Lay M) (h : d_X12_failsBy x1 M = some z) : VV Lay k_X12_failsBy 0 [(0, .ref 69), (1, .int x1)] [] M z.2 (Qv (none) z.2) xF := by
  unfold d_X12_failsBy at h
  refine Y_aload_n (pc := 0) (j := 0) dX12_failsBy_0 rfl rfl ?_
  obtain ⟨y1, qy1, h⟩ := bindE h
  have cy1 := v_X12_breaksOff hP qy1
  refine C_V0o (pc := 1) (k' := k_X12_breaksOff) dX12_failsBy_1 w9_180 i_X12_breaksOff (lk_69 hP) ⟨Nat.le_of_ble_eq_true rfl, Nat.le_of_ble_eq_true rfl⟩ rfl (Nat.le_of_ble_eq_true rfl) (Nat.le_of_ble_eq_true rfl) (Nat.le_of_ble_eq_true rfl) (cy1) ?_
  have hPy1 := cy1.1.1
  refine Y_aload_n (pc := 4) (j := 0) dX12_failsBy_4 rfl rfl ?_
  refine Y_dup (pc := 5) dX12_failsBy_5 rfl ?_
  refine Z_geti (pc := 6) dX12_failsBy_6 w8_123 (lk_69 hPy1) fi_12_57 ?_
  refine Y_iconst (pc := 9) (v := (1 : Int32)) dX12_failsBy_9 rfl ?_
  refine Y_iadd (pc := 10) dX12_failsBy_10 ?_
  refine Z_puti (pc := 11) dX12_failsBy_11 w8_123 (lk_69 hPy1) fi_12_57 (Or.inl rfl) rfl ?_
  obtain ⟨M1, eM1, h⟩ := bndE h
  refine VV.mem eM1 ?_
  have hP1 := hPy1.wI eM1
  refine Y_aload_n (pc := 14) (j := 0) dX12_failsBy_14 rfl rfl ?_
  refine Z_geti (pc := 15) dX12_failsBy_15 w8_114 (lk_69 hP1) fi_12_48 ?_
  obtain ⟨b1, eb1, h⟩ := bndE h
  refine VV.topI eb1 ?_
  refine Y_istore_n (pc := 18) (lv1 := [(2, .int b1), (0, .ref 69), (1, .int x1)]) dX12_failsBy_18 rfl (by decide) rfl ?_
  refine VV.sub [1, 2, 0] rfl ?_
  exact b_X12_failsBy_19  fuel _ _ _ h hP1
theorem v_X12_failsBy {x1 : Int32} {M z} (hP : Lay M) (h : d_X12_failsBy x1 M = some z) : CC Lay k_X12_failsBy [.ref 69, .int x1] M z.2 (Qv (none) z.2) xF :=
  CC.ofVV (by decide) rfl (Nat.le_of_ble_eq_true rfl) (b_X12_failsBy hP h)
end VCR
