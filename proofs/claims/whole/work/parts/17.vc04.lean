/-! ===== what the methods reckon (printed by a program) ===== -/
section VCR
noncomputable def d_X10_finish_169 (x1 : Int32) (x2 : Int32) (M : Mem) : Option (Unit × Mem) :=
  bnd (sI M 48 10 (0 : Int32)) fun M1 =>
  if x1 = (-1 : Int32) then (
    (d_X10_enter x2 M1).bind fun y2 =>
    some ((), y2.2))
  else (
    (d_X10_enter x1 M1).bind fun y1 =>
    some ((), y1.2))
theorem b_X10_finish_169 {x1 : Int32} {x2 : Int32} {M z} (hP : Lay M) (h : d_X10_finish_169 x1 x2 M = some z) : VV Lay k_X10_finish 169 [(0, .ref 38), (1, .int x1), (2, .int x2)] [] M z.2 (Qv (none) z.2) xF := by
  unfold d_X10_finish_169 at h
  refine Y_aload_n (j := 0) dX10_finish_169 rfl rfl ?_
  refine Z_getr dX10_finish_170 w3_10 (lk_38 hP) fr_10_3 (lr_38_3 hP) ?_
  refine Y_iconst (v := (0 : Int32)) dX10_finish_173 rfl ?_
  refine Z_putz dX10_finish_174 w2_67 (lk_48 hP) fi_6_10 (Or.inl rfl) rfl (by decide) ?_
  obtain ⟨M1, eM1, h⟩ := bndE h
  refine VV.mem eM1 ?_
  have hP1 := hP.wI eM1
  refine Y_aload_n (j := 0) dX10_finish_177 rfl rfl ?_
  refine Y_iload_n (j := 1) dX10_finish_178 rfl rfl ?_
  refine Y_iconst (v := (-1 : Int32)) dX10_finish_179 rfl ?_
  refine Y_icmp_ne (tgt := 187) dX10_finish_180 (by decide) (fun hc1 => ?_) (fun hc1 => ?_)
  · replace h := ifF hc1 h
    refine Y_iload_n (j := 1) dX10_finish_187 rfl rfl ?_
    obtain ⟨y1, qy1, h⟩ := bindE h
    have cy1 := v_X10_enter hP1 qy1
    refine C_V1o dX10_finish_188 w6_94 i_X10_enter (lk_38 hP1) ⟨Nat.le_of_ble_eq_true rfl, Nat.le_of_ble_eq_true rfl⟩ rfl (Nat.le_of_ble_eq_true rfl) (Nat.le_of_ble_eq_true rfl) (Nat.le_of_ble_eq_true rfl) (cy1) ?_
    have hPy1 := cy1.1.1
    cases h
    exact Y_vret rfl dX10_finish_191 hPy1 ⟨rfl, rfl⟩
  · replace h := ifT hc1 h
    refine Y_iload_n (j := 2) dX10_finish_183 rfl rfl ?_
    refine Y_goto (tgt := 188) dX10_finish_184 (by decide) ?_
    obtain ⟨y2, qy2, h⟩ := bindE h
    have cy2 := v_X10_enter hP1 qy2
    refine C_V1o dX10_finish_188 w6_94 i_X10_enter (lk_38 hP1) ⟨Nat.le_of_ble_eq_true rfl, Nat.le_of_ble_eq_true rfl⟩ rfl (Nat.le_of_ble_eq_true rfl) (Nat.le_of_ble_eq_true rfl) (Nat.le_of_ble_eq_true rfl) (cy2) ?_
    have hPy2 := cy2.1.1
    cases h
    exact Y_vret rfl dX10_finish_191 hPy2 ⟨rfl, rfl⟩
noncomputable def d_X10_finish_101 (x1 : Int32) (x2 : Int32) (s1 : Int32) (s2 : Nat) (s3 : Nat) (s5 : Int32) (M : Mem) : Option (Unit × Mem) :=
  okk (s3 ≤ nx M) <| okk (129 ≤ s3) <|
  (d_X9_init s3 (?) s5 M).bind fun y1 =>
  okk (vp_in s1 20) <|
  bnd (sR y1.2 ? s1.toNatClampNeg (some s2)) fun M1 =>
  bnd (sI M1 67 3 ((mI M1 67 3) + (1 : Int32))) fun M2 =>
  if x1 = (-1 : Int32) then (
    okk (vp_in (mI M2 48 11) 320) <|
    bnd (sI M2 47 (mI M2 48 11).toNatClampNeg x2) fun M4 =>
    d_X10_finish_169 x1 x2 M4)
  else (
    okk (vp_in (mI M2 48 13) 20) <|
    (mR M2 68 (mI M2 48 13).toNatClampNeg).bind fun r_1 =>
    okk (mK M2 r_1 = 9) <|
    (mR M2 r_1 11).bind fun r_2 =>
    okk (mK M2 r_2 = 21) <|
    okk (vp_in (mI M2 48 14) (mN M2 r_2)) <|
    bnd (sI M2 r_2 (mI M2 48 14).toNatClampNeg x2) fun M3 =>
    d_X10_finish_169 x1 x2 M3)
theorem b_X10_finish_101 {x1 : Int32} {x2 : Int32} {s1 : Int32} {s2 : Nat} {s3 : Nat} {s5 : Int32} {M z} (hP : Lay M) (h : d_X10_finish_101 x1 x2 s1 s2 s3 s5 M = some z) : VV Lay k_X10_finish 101 [(0, .ref 38), (1, .int x1), (2, .int x2)] [.int s5, .ref ?, .ref s3, .ref s2, .int s1, .ref ?] M z.2 (Qv (none) z.2) xF := by
  unfold d_X10_finish_101 at h
  obtain ⟨hb1, h⟩ := okE h
  obtain ⟨hb2, h⟩ := okE h
  obtain ⟨y1, qy1, h⟩ := bindE h
  have cy1 := v_X9_init hP.fsh hb1 qy1
  refine C_I2o dX10_finish_101 w2_113 i_X9_init (Nat.le_of_ble_eq_true rfl) (Nat.le_of_ble_eq_true rfl) (Nat.le_of_ble_eq_true rfl) (cy1) ?_
  have hPy1 := hP.ini cy1.1.1 hb2
  obtain ⟨hb3, h⟩ := okE h
  refine Y_aast dX10_finish_104 (lk_68 hPy1) (ln_68 hPy1) hb3 ?_
  obtain ⟨M1, eM1, h⟩ := bndE h
  refine VV.mem eM1 ?_
  have hP1 := hPy1.wRD (by decide +kernel) eM1
  refine Y_aload_n (j := 0) dX10_finish_105 rfl rfl ?_
  refine Z_getr dX10_finish_106 w3_11 (lk_38 hP1) fr_10_4 (lr_38_4 hP1) ?_
  refine Y_dup dX10_finish_109 rfl ?_
  refine Z_geti dX10_finish_110 w2_227 (lk_67 hP1) fi_2_3 ?_
  refine Y_iconst (v := (1 : Int32)) dX10_finish_113 rfl ?_
  refine Y_iadd dX10_finish_114 ?_
  refine Z_puti dX10_finish_115 w2_227 (lk_67 hP1) fi_2_3 (Or.inl rfl) rfl ?_
  obtain ⟨M2, eM2, h⟩ := bndE h
  refine VV.mem eM2 ?_
  have hP2 := hP1.wI eM2
  refine Y_iload_n (j := 1) dX10_finish_118 rfl rfl ?_
  refine Y_iconst (v := (-1 : Int32)) dX10_finish_119 rfl ?_
  refine Y_icmp_ne (tgt := 142) dX10_finish_120 (by decide) (fun hc1 => ?_) (fun hc1 => ?_)
  · replace h := ifF hc1 h
    refine Y_aload_n (j := 0) dX10_finish_142 rfl rfl ?_
    refine Z_getr dX10_finish_143 w3_11 (lk_38 hP2) fr_10_4 (lr_38_4 hP2) ?_
    refine Z_getr dX10_finish_146 w2_224 (lk_67 hP2) fr_2_2 (lr_67_2 hP2) ?_
    refine Y_aload_n (j := 0) dX10_finish_149 rfl rfl ?_
    refine Z_getr dX10_finish_150 w3_10 (lk_38 hP2) fr_10_3 (lr_38_3 hP2) ?_
    refine Z_geti dX10_finish_153 w2_74 (lk_48 hP2) fi_6_13 ?_
    obtain ⟨hb4, h⟩ := okE h
    obtain ⟨r_1, er_1, h⟩ := bindE h
    refine Y_aald dX10_finish_156 (lk_68 hP2) (ln_68 hP2) hb4 er_1 ?_
    obtain ⟨hb5, h⟩ := okE h
    obtain ⟨r_2, er_2, h⟩ := bindE h
    refine Z_getr dX10_finish_157 w2_162 hb5 fr_9_11 er_2 ?_
    refine Y_aload_n (j := 0) dX10_finish_160 rfl rfl ?_
    refine Z_getr dX10_finish_161 w3_10 (lk_38 hP2) fr_10_3 (lr_38_3 hP2) ?_
    refine Z_geti dX10_finish_164 w2_76 (lk_48 hP2) fi_6_14 ?_
    refine Y_iload_n (j := 2) dX10_finish_167 rfl rfl ?_
    obtain ⟨hb6, h⟩ := okE h
    obtain ⟨hb7, h⟩ := okE h
    refine Y_iast dX10_finish_168 hb6 rfl hb7 ?_
    obtain ⟨M3, eM3, h⟩ := bndE h
    refine VV.mem eM3 ?_
    have hP3 := hP2.wI eM3
    refine VV.sub [0, 1, 2] rfl ?_
    exact b_X10_finish_169  hP3 h
  · replace h := ifT hc1 h
    refine Y_aload_n (j := 0) dX10_finish_123 rfl rfl ?_
    refine Z_getr dX10_finish_124 w3_8 (lk_38 hP2) fr_10_2 (lr_38_2 hP2) ?_
    refine Z_getr dX10_finish_127 w2_32 (lk_44 hP2) fr_3_2 (lr_44_2 hP2) ?_
    refine Y_aload_n (j := 0) dX10_finish_130 rfl rfl ?_
    refine Z_getr dX10_finish_131 w3_10 (lk_38 hP2) fr_10_3 (lr_38_3 hP2) ?_
    refine Z_geti dX10_finish_134 w2_70 (lk_48 hP2) fi_6_11 ?_
    refine Y_iload_n (j := 2) dX10_finish_137 rfl rfl ?_
    obtain ⟨hb8, h⟩ := okE h
    refine Y_iast dX10_finish_138 (lk_47 hP2) (ln_47 hP2) hb8 ?_
    obtain ⟨M4, eM4, h⟩ := bndE h
    refine VV.mem eM4 ?_
    have hP4 := hP2.wI eM4
    refine Y_goto (tgt := 169) dX10_finish_139 (by decide) ?_
    refine VV.sub [0, 1, 2] rfl ?_
    exact b_X10_finish_169  hP4 h
noncomputable def d_X10_finish_33 (s0 : Int32) (M : Mem) : Option (Unit × Mem) :=
  (d_X1_isFull M).bind fun y1 =>
  if y1.1 = 0 then (
    (d_X1_makeRoom (mI y1.2 48 7) s0 y1.2).bind fun y3 =>
    if y3.1 = 0 then (
      (d_X10_breakOff y3.2).bind fun y4 =>
      some ((), y4.2))
    else (
      bnd ((mI y3.2 67 3)) fun b1 =>
      bnd (nx y3.2) fun r_1 => okk (r_1 < 2147483648) <|
      bnd (sN y3.2 r_1 9 17) fun M1 =>
      if s0 = (-1 : Int32) then (
        d_X10_finish_101 s0 b1 b1 r_1 r_1 b1 M1)
      else (
        d_X10_finish_101 s0 b1 b1 r_1 r_1 s0 M1)))
  else (
    (d_X10_breakOff y1.2).bind fun y2 =>
    some ((), y2.2))
theorem b_X10_finish_33 {s0 : Int32} {M z} (hP : Lay M) (h : d_X10_finish_33 s0 M = some z) : VV Lay k_X10_finish 33 [(0, .ref 38)] [.int s0] M z.2 (Qv (none) z.2) xF := by
  unfold d_X10_finish_33 at h
  refine Y_istore_n (lv1 := [(1, .int s0), (0, .ref 38)]) dX10_finish_33 rfl (by decide) rfl ?_
  refine Y_aload_n (j := 1) dX10_finish_34 rfl rfl ?_
  refine Z_getr dX10_finish_35 w3_11 (lk_38 hP) fr_10_4 (lr_38_4 hP) ?_
  obtain ⟨y1, qy1, h⟩ := bindE h
  have cy1 := v_X1_isFull hP qy1
  refine C_V0r dX10_finish_38 w6_213 i_X1_isFull (lk_67 hP) ⟨Nat.le_of_ble_eq_true rfl, Nat.le_of_ble_eq_true rfl⟩ rfl (Nat.le_of_ble_eq_true rfl) (Nat.le_of_ble_eq_true rfl) (Nat.le_of_ble_eq_true rfl) (cy1) ?_
  have hPy1 := cy1.1.1
  refine Y_if_ne (tgt := 62) dX10_finish_41 (by decide) (fun hc1 => ?_) (fun hc1 => ?_)
  · replace h := ifF hc1 h
    refine Y_aload_n (j := 1) dX10_finish_62 rfl rfl ?_
    obtain ⟨y2, qy2, h⟩ := bindE h
    have cy2 := v_X10_breakOff hPy1 qy2
    refine C_V0o dX10_finish_63 w6_107 i_X10_breakOff (lk_38 hPy1) ⟨Nat.le_of_ble_eq_true rfl, Nat.le_of_ble_eq_true rfl⟩ rfl (Nat.le_of_ble_eq_true rfl) (Nat.le_of_ble_eq_true rfl) (Nat.le_of_ble_eq_true rfl) (cy2) ?_
    have hPy2 := cy2.1.1
    cases h
    exact Y_vret rfl dX10_finish_66 hPy2 ⟨rfl, rfl⟩
  · replace h := ifT hc1 h
    refine Y_aload_n (j := 1) dX10_finish_44 rfl rfl ?_
    refine Z_getr dX10_finish_45 w3_11 (lk_38 hPy1) fr_10_4 (lr_38_4 hPy1) ?_
    refine Y_aload_n (j := 1) dX10_finish_48 rfl rfl ?_
    refine Z_getr dX10_finish_49 w3_10 (lk_38 hPy1) fr_10_3 (lr_38_3 hPy1) ?_
    refine Z_geti dX10_finish_52 w2_62 (lk_48 hPy1) fi_6_7 ?_
    refine Y_iload_n (j := 0) dX10_finish_55 rfl rfl ?_
    obtain ⟨y3, qy3, h⟩ := bindE h
    have cy3 := v_X1_makeRoom hPy1 qy3
    refine C_V2r dX10_finish_56 w6_217 i_X1_makeRoom (lk_67 hPy1) ⟨Nat.le_of_ble_eq_true rfl, Nat.le_of_ble_eq_true rfl⟩ rfl (Nat.le_of_ble_eq_true rfl) (Nat.le_of_ble_eq_true rfl) (Nat.le_of_ble_eq_true rfl) (cy3) ?_
    have hPy3 := cy3.1.1
    refine Y_if_ne (tgt := 67) dX10_finish_59 (by decide) (fun hc2 => ?_) (fun hc2 => ?_)
    · replace h := ifF hc2 h
      refine Y_aload_n (j := 1) dX10_finish_67 rfl rfl ?_
      refine Z_getr dX10_finish_68 w3_11 (lk_38 hPy3) fr_10_4 (lr_38_4 hPy3) ?_
      refine Z_geti dX10_finish_71 w2_227 (lk_67 hPy3) fi_2_3 ?_
      obtain ⟨b1, eb1, h⟩ := bndE h
      refine VV.topI eb1 ?_
      refine Y_istore_n (lv1 := [(2, .int b1), (1, .int s0), (0, .ref 38)]) dX10_finish_74 rfl (by decide) rfl ?_
      refine Y_aload_n (j := 2) dX10_finish_75 rfl rfl ?_
      refine Z_getr dX10_finish_76 w3_11 (lk_38 hPy3) fr_10_4 (lr_38_4 hPy3) ?_
      refine Z_getr dX10_finish_79 w2_224 (lk_67 hPy3) fr_2_2 (lr_67_2 hPy3) ?_
      refine Y_iload_n (j := 0) dX10_finish_82 rfl rfl ?_
      obtain ⟨r_1, er_1, h⟩ := bndE h
      obtain ⟨hb1, h⟩ := okE h
      refine Y_new (a := r_1) (t := 9) dX10_finish_83 (by decide) (by decide) w2_111 w2_112 w1_11 (hPy3.free er_1) hb1 ?_
      obtain ⟨M1, eM1, h⟩ := bndE h
      refine VV.mem eM1 ?_
      have hP1 := hPy3.wN er_1 (by decide) eM1
      refine Y_dup dX10_finish_86 rfl ?_
      refine Y_aload_n (j := 2) dX10_finish_87 rfl rfl ?_
      refine Z_getr dX10_finish_88 w3_10 (lk_38 hP1) fr_10_3 (lr_38_3 hP1) ?_
      refine Y_iload_n (j := 1) dX10_finish_91 rfl rfl ?_
      refine Y_iconst (v := (-1 : Int32)) dX10_finish_92 rfl ?_
      refine Y_icmp_ne (tgt := 100) dX10_finish_93 (by decide) (fun hc3 => ?_) (fun hc3 => ?_)
      · replace h := ifF hc3 h
        refine Y_iload_n (j := 1) dX10_finish_100 rfl rfl ?_
        refine VV.sub [2, 1, 0] rfl ?_
        exact b_X10_finish_101  hP1 h
      · replace h := ifT hc3 h
        refine Y_iload_n (j := 0) dX10_finish_96 rfl rfl ?_
        refine Y_goto (tgt := 101) dX10_finish_97 (by decide) ?_
        refine VV.sub [2, 1, 0] rfl ?_
        exact b_X10_finish_101  hP1 h
    · replace h := ifT hc2 h
      refine Y_aload_n (j := 1) dX10_finish_62 rfl rfl ?_
      obtain ⟨y4, qy4, h⟩ := bindE h
      have cy4 := v_X10_breakOff hPy3 qy4
      refine C_V0o dX10_finish_63 w6_107 i_X10_breakOff (lk_38 hPy3) ⟨Nat.le_of_ble_eq_true rfl, Nat.le_of_ble_eq_true rfl⟩ rfl (Nat.le_of_ble_eq_true rfl) (Nat.le_of_ble_eq_true rfl) (Nat.le_of_ble_eq_true rfl) (cy4) ?_
      have hPy4 := cy4.1.1
      cases h
      exact Y_vret rfl dX10_finish_66 hPy4 ⟨rfl, rfl⟩
noncomputable def d_X10_finish (M : Mem) : Option (Unit × Mem) :=
  if (mI M 48 13) = (-1 : Int32) then (
    d_X10_finish_33 (-1 : Int32) M)
  else (
    okk (vp_in (mI M 48 13) 20) <|
    (mR M 68 (mI M 48 13).toNatClampNeg).bind fun r_1 =>
    okk (mK M r_1 = 9) <|
    d_X10_finish_33 (mI M r_1 12) M)
theorem b_X10_finish {M z} (hP : Lay M) (h : d_X10_finish M = some z) : VV Lay k_X10_finish 0 [(0, .ref 38)] [] M z.2 (Qv (none) z.2) xF := by
  unfold d_X10_finish at h
  refine Y_aload_n (j := 0) dX10_finish_0 rfl rfl ?_
  refine Z_getr dX10_finish_1 w3_10 (lk_38 hP) fr_10_3 (lr_38_3 hP) ?_
  refine Z_geti dX10_finish_4 w2_74 (lk_48 hP) fi_6_13 ?_
  refine Y_iconst (v := (-1 : Int32)) dX10_finish_7 rfl ?_
  refine Y_icmp_ne (tgt := 15) dX10_finish_8 (by decide) (fun hc1 => ?_) (fun hc1 => ?_)
  · replace h := ifF hc1 h
    refine Y_aload_n (j := 0) dX10_finish_15 rfl rfl ?_
    refine Z_getr dX10_finish_16 w3_11 (lk_38 hP) fr_10_4 (lr_38_4 hP) ?_
    refine Z_getr dX10_finish_19 w2_224 (lk_67 hP) fr_2_2 (lr_67_2 hP) ?_
    refine Y_aload_n (j := 0) dX10_finish_22 rfl rfl ?_
    refine Z_getr dX10_finish_23 w3_10 (lk_38 hP) fr_10_3 (lr_38_3 hP) ?_
    refine Z_geti dX10_finish_26 w2_74 (lk_48 hP) fi_6_13 ?_
    obtain ⟨hb1, h⟩ := okE h
    obtain ⟨r_1, er_1, h⟩ := bindE h
    refine Y_aald dX10_finish_29 (lk_68 hP) (ln_68 hP) hb1 er_1 ?_
    obtain ⟨hb2, h⟩ := okE h
    refine Z_geti dX10_finish_30 w2_165 hb2 fi_9_12 ?_
    refine VV.sub [0] rfl ?_
    exact b_X10_finish_33  hP h
  · replace h := ifT hc1 h
    refine Y_iconst (v := (-1 : Int32)) dX10_finish_11 rfl ?_
    refine Y_goto (tgt := 33) dX10_finish_12 (by decide) ?_
    refine VV.sub [0] rfl ?_
    exact b_X10_finish_33  hP h
theorem v_X10_finish {M z} (hP : Lay M) (h : d_X10_finish M = some z) : CC Lay k_X10_finish [.ref 38] M z.2 (Qv (none) z.2) xF :=
  CC.ofVV (by decide) rfl (Nat.le_of_ble_eq_true rfl) (b_X10_finish hP h)
noncomputable def d_X10_arrive_29 (x1 : Int32) (M : Mem) : Option (Unit × Mem) :=
  (d_X10_breakOff M).bind fun y1 =>
  okk (vp_in x1 320) <|
  if (mI y1.2 47 x1.toNatClampNeg) = (-1 : Int32) then (
    okk (vp_in x1 320) <|
    okk (vp_in x1 320) <|
    bnd (sI y1.2 45 x1.toNatClampNeg ((mI y1.2 45 x1.toNatClampNeg) + (1 : Int32))) fun M1 =>
    okk (vp_in x1 320) <|
    if (mI M1 45 x1.toNatClampNeg) < (mI M1 38 5) then (
      some ((), M1))
    else (
      (d_X2_bars x1 M1).bind fun y2 =>
      if y2.1 = 0 then (
        (d_X6_beginRoot x1 y2.2).bind fun y3 =>
        some ((), y3.2))
      else (
        some ((), y2.2))))
  else (
    okk (vp_in x1 320) <|
    (d_X10_enter (mI y1.2 47 x1.toNatClampNeg) y1.2).bind fun y4 =>
    some ((), y4.2))
theorem b_X10_arrive_29 {x1 : Int32} {M z} (hP : Lay M) (h : d_X10_arrive_29 x1 M = some z) : VV Lay k_X10_arrive 29 [(0, .ref 38), (1, .int x1)] [] M z.2 (Qv (none) z.2) xF := by
  unfold d_X10_arrive_29 at h
  refine Y_aload_n (j := 0) dX10_arrive_29 rfl rfl ?_
  obtain ⟨y1, qy1, h⟩ := bindE h
  have cy1 := v_X10_breakOff hP qy1
  refine C_V0o dX10_arrive_30 w6_107 i_X10_breakOff (lk_38 hP) ⟨Nat.le_of_ble_eq_true rfl, Nat.le_of_ble_eq_true rfl⟩ rfl (Nat.le_of_ble_eq_true rfl) (Nat.le_of_ble_eq_true rfl) (Nat.le_of_ble_eq_true rfl) (cy1) ?_
  have hPy1 := cy1.1.1
  refine Y_aload_n (j := 0) dX10_arrive_33 rfl rfl ?_
  refine Z_getr dX10_arrive_34 w3_8 (lk_38 hPy1) fr_10_2 (lr_38_2 hPy1) ?_
  refine Z_getr dX10_arrive_37 w2_32 (lk_44 hPy1) fr_3_2 (lr_44_2 hPy1) ?_
  refine Y_iload_n (j := 1) dX10_arrive_40 rfl rfl ?_
  obtain ⟨hb1, h⟩ := okE h
  refine Y_iald dX10_arrive_41 (lk_47 hPy1) (ln_47 hPy1) hb1 ?_
  refine Y_iconst (v := (-1 : Int32)) dX10_arrive_42 rfl ?_
  refine Y_icmp_eq (tgt := 60) dX10_arrive_43 (by decide) (fun hc1 => ?_) (fun hc1 => ?_)
  · replace h := ifT hc1 h
    refine Y_aload_n (j := 0) dX10_arrive_60 rfl rfl ?_
    refine Z_getr dX10_arrive_61 w3_8 (lk_38 hPy1) fr_10_2 (lr_38_2 hPy1) ?_
    refine Z_getr dX10_arrive_64 w2_27 (lk_44 hPy1) fr_3_0 (lr_44_0 hPy1) ?_
    refine Y_iload_n (j := 1) dX10_arrive_67 rfl rfl ?_
    refine Y_dup2 dX10_arrive_68 rfl rfl ?_
    obtain ⟨hb2, h⟩ := okE h
    refine Y_iald dX10_arrive_69 (lk_45 hPy1) (ln_45 hPy1) hb2 ?_
    refine Y_iconst (v := (1 : Int32)) dX10_arrive_70 rfl ?_
    refine Y_iadd dX10_arrive_71 ?_
    obtain ⟨hb3, h⟩ := okE h
    refine Y_iast dX10_arrive_72 (lk_45 hPy1) (ln_45 hPy1) hb3 ?_
    obtain ⟨M1, eM1, h⟩ := bndE h
    refine VV.mem eM1 ?_
    have hP1 := hPy1.wI eM1
    refine Y_aload_n (j := 0) dX10_arrive_73 rfl rfl ?_
    refine Z_getr dX10_arrive_74 w3_8 (lk_38 hP1) fr_10_2 (lr_38_2 hP1) ?_
    refine Z_getr dX10_arrive_77 w2_27 (lk_44 hP1) fr_3_0 (lr_44_0 hP1) ?_
    refine Y_iload_n (j := 1) dX10_arrive_80 rfl rfl ?_
    obtain ⟨hb4, h⟩ := okE h
    refine Y_iald dX10_arrive_81 (lk_45 hP1) (ln_45 hP1) hb4 ?_
    refine Y_aload_n (j := 0) dX10_arrive_82 rfl rfl ?_
    refine Z_geti dX10_arrive_83 w3_13 (lk_38 hP1) fi_10_5 ?_
    refine Y_icmp_lt (tgt := 112) dX10_arrive_86 (by decide) (fun hc2 => ?_) (fun hc2 => ?_)
    · replace h := ifT hc2 h
      cases h
      exact Y_vret rfl dX10_arrive_112 hP1 ⟨rfl, rfl⟩
    · replace h := ifF hc2 h
      refine Y_aload_n (j := 0) dX10_arrive_89 rfl rfl ?_
      refine Z_getr dX10_arrive_90 w3_8 (lk_38 hP1) fr_10_2 (lr_38_2 hP1) ?_
      refine Y_iload_n (j := 1) dX10_arrive_93 rfl rfl ?_
      obtain ⟨y2, qy2, h⟩ := bindE h
      have cy2 := v_X2_bars hP1 qy2
      refine C_V1r dX10_arrive_94 w6_221 i_X2_bars (lk_44 hP1) ⟨Nat.le_of_ble_eq_true rfl, Nat.le_of_ble_eq_true rfl⟩ rfl (Nat.le_of_ble_eq_true rfl) (Nat.le_of_ble_eq_true rfl) (Nat.le_of_ble_eq_true rfl) (cy2) ?_
      have hPy2 := cy2.1.1
      refine Y_if_ne (tgt := 112) dX10_arrive_97 (by decide) (fun hc3 => ?_) (fun hc3 => ?_)
      · replace h := ifF hc3 h
        cases h
        exact Y_vret rfl dX10_arrive_112 hPy2 ⟨rfl, rfl⟩
      · replace h := ifT hc3 h
        refine Y_aload_n (j := 0) dX10_arrive_100 rfl rfl ?_
        refine Z_getr dX10_arrive_101 w3_10 (lk_38 hPy2) fr_10_3 (lr_38_3 hPy2) ?_
        refine Y_aload_n (j := 0) dX10_arrive_104 rfl rfl ?_
        refine Z_getr dX10_arrive_105 w3_5 (lk_38 hPy2) fr_10_0 (lr_38_0 hPy2) ?_
        refine Y_iload_n (j := 1) dX10_arrive_108 rfl rfl ?_
        obtain ⟨y3, qy3, h⟩ := bindE h
        have cy3 := v_X6_beginRoot hPy2 qy3
        refine C_V2o dX10_arrive_109 w6_225 i_X6_beginRoot (lk_48 hPy2) ⟨Nat.le_of_ble_eq_true rfl, Nat.le_of_ble_eq_true rfl⟩ rfl (Nat.le_of_ble_eq_true rfl) (Nat.le_of_ble_eq_true rfl) (Nat.le_of_ble_eq_true rfl) (cy3) ?_
        have hPy3 := cy3.1.1
        cases h
        exact Y_vret rfl dX10_arrive_112 hPy3 ⟨rfl, rfl⟩
  · replace h := ifF hc1 h
    refine Y_aload_n (j := 0) dX10_arrive_46 rfl rfl ?_
    refine Y_aload_n (j := 0) dX10_arrive_47 rfl rfl ?_
    refine Z_getr dX10_arrive_48 w3_8 (lk_38 hPy1) fr_10_2 (lr_38_2 hPy1) ?_
    refine Z_getr dX10_arrive_51 w2_32 (lk_44 hPy1) fr_3_2 (lr_44_2 hPy1) ?_
    refine Y_iload_n (j := 1) dX10_arrive_54 rfl rfl ?_
    obtain ⟨hb5, h⟩ := okE h
    refine Y_iald dX10_arrive_55 (lk_47 hPy1) (ln_47 hPy1) hb5 ?_
    obtain ⟨y4, qy4, h⟩ := bindE h
    have cy4 := v_X10_enter hPy1 qy4
    refine C_V1o dX10_arrive_56 w6_94 i_X10_enter (lk_38 hPy1) ⟨Nat.le_of_ble_eq_true rfl, Nat.le_of_ble_eq_true rfl⟩ rfl (Nat.le_of_ble_eq_true rfl) (Nat.le_of_ble_eq_true rfl) (Nat.le_of_ble_eq_true rfl) (cy4) ?_
    have hPy4 := cy4.1.1
    cases h
    exact Y_vret rfl dX10_arrive_59 hPy4 ⟨rfl, rfl⟩
noncomputable def d_X10_arrive (x1 : Int32) (M : Mem) : Option (Unit × Mem) :=
  if (mI M 48 10) = 0 then (
    d_X10_arrive_29 x1 M)
  else (
    (d_X6_isClosedBy M).bind fun y1 =>
    if y1.1 = 0 then (
      d_X10_arrive_29 x1 y1.2)
    else (
      (d_X10_finish y1.2).bind fun y2 =>
      some ((), y2.2)))
theorem b_X10_arrive {x1 : Int32} {M z} (hP : Lay M) (h : d_X10_arrive x1 M = some z) : VV Lay k_X10_arrive 0 [(0, .ref 38), (1, .int x1)] [] M z.2 (Qv (none) z.2) xF := by
  unfold d_X10_arrive at h
  refine Y_aload_n (j := 0) dX10_arrive_0 rfl rfl ?_
  refine Z_getr dX10_arrive_1 w3_10 (lk_38 hP) fr_10_3 (lr_38_3 hP) ?_
  refine Z_geti dX10_arrive_4 w2_67 (lk_48 hP) fi_6_10 ?_
  refine Y_if_eq (tgt := 29) dX10_arrive_7 (by decide) (fun hc1 => ?_) (fun hc1 => ?_)
  · replace h := ifT hc1 h
    refine VV.sub [0, 1] rfl ?_
    exact b_X10_arrive_29  hP h
  · replace h := ifF hc1 h
    refine Y_aload_n (j := 0) dX10_arrive_10 rfl rfl ?_
    refine Z_getr dX10_arrive_11 w3_10 (lk_38 hP) fr_10_3 (lr_38_3 hP) ?_
    refine Y_aload_n (j := 0) dX10_arrive_14 rfl rfl ?_
    refine Z_getr dX10_arrive_15 w3_5 (lk_38 hP) fr_10_0 (lr_38_0 hP) ?_
    obtain ⟨y1, qy1, h⟩ := bindE h
    have cy1 := v_X6_isClosedBy hP qy1
    refine C_V1r dX10_arrive_18 w6_204 i_X6_isClosedBy (lk_48 hP) ⟨Nat.le_of_ble_eq_true rfl, Nat.le_of_ble_eq_true rfl⟩ rfl (Nat.le_of_ble_eq_true rfl) (Nat.le_of_ble_eq_true rfl) (Nat.le_of_ble_eq_true rfl) (cy1) ?_
    have hPy1 := cy1.1.1
    refine Y_if_eq (tgt := 29) dX10_arrive_21 (by decide) (fun hc2 => ?_) (fun hc2 => ?_)
    · replace h := ifT hc2 h
      refine VV.sub [0, 1] rfl ?_
      exact b_X10_arrive_29  hPy1 h
    · replace h := ifF hc2 h
      refine Y_aload_n (j := 0) dX10_arrive_24 rfl rfl ?_
      obtain ⟨y2, qy2, h⟩ := bindE h
      have cy2 := v_X10_finish hPy1 qy2
      refine C_V0o dX10_arrive_25 w6_209 i_X10_finish (lk_38 hPy1) ⟨Nat.le_of_ble_eq_true rfl, Nat.le_of_ble_eq_true rfl⟩ rfl (Nat.le_of_ble_eq_true rfl) (Nat.le_of_ble_eq_true rfl) (Nat.le_of_ble_eq_true rfl) (cy2) ?_
      have hPy2 := cy2.1.1
      cases h
      exact Y_vret rfl dX10_arrive_28 hPy2 ⟨rfl, rfl⟩
theorem v_X10_arrive {x1 : Int32} {M z} (hP : Lay M) (h : d_X10_arrive x1 M = some z) : CC Lay k_X10_arrive [.ref 38, .int x1] M z.2 (Qv (none) z.2) xF :=
  CC.ofVV (by decide) rfl (Nat.le_of_ble_eq_true rfl) (b_X10_arrive hP h)
noncomputable def d_X10_executeOutside_91 (x2 : Int32) (M : Mem) : Option (Unit × Mem) :=
  if x2 = 0 then (
    some ((), M))
  else (
    (d_X3_siteAhead 18 M).bind fun y1 =>
    (d_X10_arrive y1.1 y1.2).bind fun y2 =>
    some ((), y2.2))
theorem b_X10_executeOutside_91 {x2 : Int32} {M z} (hP : Lay M) (h : d_X10_executeOutside_91 x2 M = some z) : VV Lay k_X10_executeOutside 91 [(0, .ref 38), (2, .int x2)] [] M z.2 (Qv (none) z.2) xF := by
  unfold d_X10_executeOutside_91 at h
  refine Y_iload_n (j := 1) dX10_executeOutside_91 rfl rfl ?_
  refine Y_if_eq (tgt := 106) dX10_executeOutside_92 (by decide) (fun hc1 => ?_) (fun hc1 => ?_)
  · replace h := ifT hc1 h
    cases h
    exact Y_vret rfl dX10_executeOutside_106 hP ⟨rfl, rfl⟩
  · replace h := ifF hc1 h
    refine Y_aload_n (j := 0) dX10_executeOutside_95 rfl rfl ?_
    refine Y_aload_n (j := 0) dX10_executeOutside_96 rfl rfl ?_
    refine Z_getr dX10_executeOutside_97 w3_5 (lk_38 hP) fr_10_0 (lr_38_0 hP) ?_
    obtain ⟨y1, qy1, h⟩ := bindE h
    have cy1 := v_X3_siteAhead (Or.inl rfl) hP qy1
    refine C_V0r dX10_executeOutside_100 w6_128 i_X3_siteAhead (lk_18 hP) ⟨Nat.le_of_ble_eq_true rfl, Nat.le_of_ble_eq_true rfl⟩ rfl (Nat.le_of_ble_eq_true rfl) (Nat.le_of_ble_eq_true rfl) (Nat.le_of_ble_eq_true rfl) (cy1) ?_
    have hPy1 := cy1.1.1
    obtain ⟨y2, qy2, h⟩ := bindE h
    have cy2 := v_X10_arrive hPy1 qy2
    refine C_V1o dX10_executeOutside_103 w6_200 i_X10_arrive (lk_38 hPy1) ⟨Nat.le_of_ble_eq_true rfl, Nat.le_of_ble_eq_true rfl⟩ rfl (Nat.le_of_ble_eq_true rfl) (Nat.le_of_ble_eq_true rfl) (Nat.le_of_ble_eq_true rfl) (cy2) ?_
    have hPy2 := cy2.1.1
    cases h
    exact Y_vret rfl dX10_executeOutside_106 hPy2 ⟨rfl, rfl⟩
noncomputable def d_X10_executeOutside_61 (x1 : Int32) (M : Mem) : Option (Unit × Mem) :=
  (d_X3_execute 18 M).bind fun y1 =>
  if (mI y1.2 48 10) = 0 then (
    d_X10_executeOutside_91 y1.1 y1.2)
  else (
    (d_X6_noteBehind x1 y1.2).bind fun y2 =>
    d_X10_executeOutside_91 y1.1 y2.2)
theorem b_X10_executeOutside_61 {x1 : Int32} {M z} (hP : Lay M) (h : d_X10_executeOutside_61 x1 M = some z) : VV Lay k_X10_executeOutside 61 [(0, .ref 38), (1, .int x1)] [] M z.2 (Qv (none) z.2) xF := by
  unfold d_X10_executeOutside_61 at h
  refine Y_aload_n (j := 0) dX10_executeOutside_61 rfl rfl ?_
  refine Z_getr dX10_executeOutside_62 w3_5 (lk_38 hP) fr_10_0 (lr_38_0 hP) ?_
  obtain ⟨y1, qy1, h⟩ := bindE h
  have cy1 := v_X3_execute (Or.inl rfl) hP qy1
  refine C_V0r dX10_executeOutside_65 w6_93 i_X3_execute (lk_18 hP) ⟨Nat.le_of_ble_eq_true rfl, Nat.le_of_ble_eq_true rfl⟩ rfl (Nat.le_of_ble_eq_true rfl) (Nat.le_of_ble_eq_true rfl) (Nat.le_of_ble_eq_true rfl) (cy1) ?_
  have hPy1 := cy1.1.1
  refine Y_istore_n (lv1 := [(2, .int y1.1), (0, .ref 38), (1, .int x1)]) dX10_executeOutside_68 rfl (by decide) rfl ?_
  refine Y_aload_n (j := 1) dX10_executeOutside_69 rfl rfl ?_
  refine Z_getr dX10_executeOutside_70 w3_10 (lk_38 hPy1) fr_10_3 (lr_38_3 hPy1) ?_
  refine Z_geti dX10_executeOutside_73 w2_67 (lk_48 hPy1) fi_6_10 ?_
  refine Y_if_eq (tgt := 91) dX10_executeOutside_76 (by decide) (fun hc1 => ?_) (fun hc1 => ?_)
  · replace h := ifT hc1 h
    refine VV.sub [1, 0] rfl ?_
    exact b_X10_executeOutside_91  hPy1 h
  · replace h := ifF hc1 h
    refine Y_aload_n (j := 1) dX10_executeOutside_79 rfl rfl ?_
    refine Z_getr dX10_executeOutside_80 w3_10 (lk_38 hPy1) fr_10_3 (lr_38_3 hPy1) ?_
    refine Y_aload_n (j := 1) dX10_executeOutside_83 rfl rfl ?_
    refine Z_getr dX10_executeOutside_84 w3_5 (lk_38 hPy1) fr_10_0 (lr_38_0 hPy1) ?_
    refine Y_iload_n (j := 2) dX10_executeOutside_87 rfl rfl ?_
    obtain ⟨y2, qy2, h⟩ := bindE h
    have cy2 := v_X6_noteBehind hPy1 qy2
    refine C_V2o dX10_executeOutside_88 w6_189 i_X6_noteBehind (lk_48 hPy1) ⟨Nat.le_of_ble_eq_true rfl, Nat.le_of_ble_eq_true rfl⟩ rfl (Nat.le_of_ble_eq_true rfl) (Nat.le_of_ble_eq_true rfl) (Nat.le_of_ble_eq_true rfl) (cy2) ?_
    have hPy2 := cy2.1.1
    refine VV.sub [1, 0] rfl ?_
    exact b_X10_executeOutside_91  hPy2 h
noncomputable def d_X10_executeOutside_35 (x1 : Int32) (M : Mem) : Option (Unit × Mem) :=
  (d_X10_meetCache x1 M).bind fun y1 =>
  if (mI y1.2 48 10) = 0 then (
    d_X10_executeOutside_61 x1 y1.2)
  else (
    (d_X6_noteAhead y1.2).bind fun y2 =>
    d_X10_executeOutside_61 x1 y2.2)
theorem b_X10_executeOutside_35 {x1 : Int32} {M z} (hP : Lay M) (h : d_X10_executeOutside_35 x1 M = some z) : VV Lay k_X10_executeOutside 35 [(0, .ref 38), (1, .int x1)] [] M z.2 (Qv (none) z.2) xF := by
  unfold d_X10_executeOutside_35 at h
  refine Y_aload_n (j := 0) dX10_executeOutside_35 rfl rfl ?_
  refine Y_iload_n (j := 1) dX10_executeOutside_36 rfl rfl ?_
  obtain ⟨y1, qy1, h⟩ := bindE h
  have cy1 := v_X10_meetCache hP qy1
  refine C_V1o dX10_executeOutside_37 w6_124 i_X10_meetCache (lk_38 hP) ⟨Nat.le_of_ble_eq_true rfl, Nat.le_of_ble_eq_true rfl⟩ rfl (Nat.le_of_ble_eq_true rfl) (Nat.le_of_ble_eq_true rfl) (Nat.le_of_ble_eq_true rfl) (cy1) ?_
  have hPy1 := cy1.1.1
  refine Y_aload_n (j := 0) dX10_executeOutside_40 rfl rfl ?_
  refine Z_getr dX10_executeOutside_41 w3_10 (lk_38 hPy1) fr_10_3 (lr_38_3 hPy1) ?_
  refine Z_geti dX10_executeOutside_44 w2_67 (lk_48 hPy1) fi_6_10 ?_
  refine Y_if_eq (tgt := 61) dX10_executeOutside_47 (by decide) (fun hc1 => ?_) (fun hc1 => ?_)
  · replace h := ifT hc1 h
    refine VV.sub [0, 1] rfl ?_
    exact b_X10_executeOutside_61  hPy1 h
  · replace h := ifF hc1 h
    refine Y_aload_n (j := 0) dX10_executeOutside_50 rfl rfl ?_
    refine Z_getr dX10_executeOutside_51 w3_10 (lk_38 hPy1) fr_10_3 (lr_38_3 hPy1) ?_
    refine Y_aload_n (j := 0) dX10_executeOutside_54 rfl rfl ?_
    refine Z_getr dX10_executeOutside_55 w3_5 (lk_38 hPy1) fr_10_0 (lr_38_0 hPy1) ?_
    obtain ⟨y2, qy2, h⟩ := bindE h
    have cy2 := v_X6_noteAhead hPy1 qy2
    refine C_V1o dX10_executeOutside_58 w6_139 i_X6_noteAhead (lk_48 hPy1) ⟨Nat.le_of_ble_eq_true rfl, Nat.le_of_ble_eq_true rfl⟩ rfl (Nat.le_of_ble_eq_true rfl) (Nat.le_of_ble_eq_true rfl) (Nat.le_of_ble_eq_true rfl) (cy2) ?_
    have hPy2 := cy2.1.1
    refine VV.sub [0, 1] rfl ?_
    exact b_X10_executeOutside_61  hPy2 h
noncomputable def d_X10_executeOutside (M : Mem) : Option (Unit × Mem) :=
  bnd ((mI M 18 7)) fun b1 =>
  if b1 = (114 : Int32) then (
    if (mI M 18 9) = (mI M 48 12) then (
      (d_X10_breakOff M).bind fun y1 =>
      d_X10_executeOutside_35 b1 y1.2)
    else (
      d_X10_executeOutside_35 b1 M))
  else (
    d_X10_executeOutside_35 b1 M)
theorem b_X10_executeOutside {M z} (hP : Lay M) (h : d_X10_executeOutside M = some z) : VV Lay k_X10_executeOutside 0 [(0, .ref 38)] [] M z.2 (Qv (none) z.2) xF := by
  unfold d_X10_executeOutside at h
  refine Y_aload_n (j := 0) dX10_executeOutside_0 rfl rfl ?_
  refine Z_getr dX10_executeOutside_1 w3_5 (lk_38 hP) fr_10_0 (lr_38_0 hP) ?_
  refine Z_geti dX10_executeOutside_4 w1_180 (lk_18 hP) fi_4_7 ?_
  obtain ⟨b1, eb1, h⟩ := bndE h
  refine VV.topI eb1 ?_
  refine Y_istore_n (lv1 := [(1, .int b1), (0, .ref 38)]) dX10_executeOutside_7 rfl (by decide) rfl ?_
  refine Y_iload_n (j := 0) dX10_executeOutside_8 rfl rfl ?_
  refine Y_bipush (v := (114 : Int32)) dX10_executeOutside_9 rfl ?_
  refine Y_icmp_ne (tgt := 35) dX10_executeOutside_11 (by decide) (fun hc1 => ?_) (fun hc1 => ?_)
  · replace h := ifF hc1 h
    refine VV.sub [1, 0] rfl ?_
    exact b_X10_executeOutside_35  hP h
  · replace h := ifT hc1 h
    refine Y_aload_n (j := 1) dX10_executeOutside_14 rfl rfl ?_
    refine Z_getr dX10_executeOutside_15 w3_5 (lk_38 hP) fr_10_0 (lr_38_0 hP) ?_
    refine Z_geti dX10_executeOutside_18 w1_186 (lk_18 hP) fi_4_9 ?_
    refine Y_aload_n (j := 1) dX10_executeOutside_21 rfl rfl ?_
    refine Z_getr dX10_executeOutside_22 w3_10 (lk_38 hP) fr_10_3 (lr_38_3 hP) ?_
    refine Z_geti dX10_executeOutside_25 w2_72 (lk_48 hP) fi_6_12 ?_
    refine Y_icmp_ne (tgt := 35) dX10_executeOutside_28 (by decide) (fun hc2 => ?_) (fun hc2 => ?_)
    · replace h := ifF hc2 h
      refine VV.sub [1, 0] rfl ?_
      exact b_X10_executeOutside_35  hP h
    · replace h := ifT hc2 h
      refine Y_aload_n (j := 1) dX10_executeOutside_31 rfl rfl ?_
      obtain ⟨y1, qy1, h⟩ := bindE h
      have cy1 := v_X10_breakOff hP qy1
      refine C_V0o dX10_executeOutside_32 w6_107 i_X10_breakOff (lk_38 hP) ⟨Nat.le_of_ble_eq_true rfl, Nat.le_of_ble_eq_true rfl⟩ rfl (Nat.le_of_ble_eq_true rfl) (Nat.le_of_ble_eq_true rfl) (Nat.le_of_ble_eq_true rfl) (cy1) ?_
      have hPy1 := cy1.1.1
      refine VV.sub [1, 0] rfl ?_
      exact b_X10_executeOutside_35  hPy1 h
theorem v_X10_executeOutside {M z} (hP : Lay M) (h : d_X10_executeOutside M = some z) : CC Lay k_X10_executeOutside [.ref 38] M z.2 (Qv (none) z.2) xF :=
  CC.ofVV (by decide) rfl (Nat.le_of_ble_eq_true rfl) (b_X10_executeOutside hP h)
noncomputable def d_X11_init (r0 : Nat) (M : Mem) : Option (Unit × Mem) :=
  bnd (nx M) fun r_1 => okk (r_1 < 2147483648) <|
  bnd (sN M r_1 5 10) fun M1 =>
  okk (r_1 ≤ nx M1) <| okk (r0 ≤ r_1) <|
  (d_X5_init r_1 M1).bind fun y1 =>
  okk (mK y1.2 r0 = 11) <|
  bnd (sR y1.2 r0 0 (some r_1)) fun M2 =>
  bnd (nx M2) fun r_2 => okk (r_2 < 2147483648) <|
  bnd (sN M2 r_2 7 7) fun M3 =>
  okk (r_2 ≤ nx M3) <| okk (r0 ≤ r_2) <|
  (d_X7_init r_2 M3).bind fun y2 =>
  okk (mK y2.2 r0 = 11) <|
  bnd (sR y2.2 r0 1 (some r_2)) fun M4 =>
  bnd (nx M4) fun r_3 => okk (r_3 < 2147483648) <|
  bnd (sN M4 r_3 4 16) fun M5 =>
  okk (mK M5 r0 = 11) <|
  (mR M5 r0 0).bind fun r_4 =>
  okk (mK M5 r0 = 11) <|
  (mR M5 r0 1).bind fun r_5 =>
  okk (r_3 ≤ nx M5) <| okk (r0 ≤ r_3) <|
  (d_X3_init r_3 r_4 r_5 M5).bind fun y3 =>
  okk (mK y3.2 r0 = 11) <|
  bnd (sR y3.2 r0 2 (some r_3)) fun M6 =>
  bnd (nx M6) fun r_6 => okk (r_6 < 2147483648) <|
  bnd (sN M6 r_6 4 16) fun M7 =>
  okk (mK M7 r0 = 11) <|
  (mR M7 r0 0).bind fun r_7 =>
  okk (mK M7 r0 = 11) <|
  (mR M7 r0 1).bind fun r_8 =>
  okk (r_6 ≤ nx M7) <| okk (r0 ≤ r_6) <|
  (d_X3_init r_6 r_7 r_8 M7).bind fun y4 =>
  okk (mK y4.2 r0 = 11) <|
  bnd (sR y4.2 r0 3 (some r_6)) fun M8 =>
  bnd (nx M8) fun r_9 => okk (r_9 < 2147483648) <|
  bnd (sN M8 r_9 10 13) fun M9 =>
  okk (mK M9 r0 = 11) <|
  (mR M9 r0 0).bind fun r_10 =>
  okk (mK M9 r0 = 11) <|
  (mR M9 r0 2).bind fun r_11 =>
  okk (r_9 ≤ nx M9) <| okk (r0 ≤ r_9) <|
  (d_X10_init r_9 r_10 r_11 M9).bind fun y5 =>
  okk (mK y5.2 r0 = 11) <|
  bnd (sR y5.2 r0 4 (some r_9)) fun M10 =>
  okk (mK M10 r0 = 11) <|
  bnd (sI M10 r0 5 (1 : Int32)) fun M11 =>
  some ((), M11)
theorem b_X11_init {M0 : Mem} {r0 : Nat} {M z} (hP : (Kx r0 M0) M) (h : d_X11_init r0 M = some z) : VV (Kx r0 M0) k_X11_init 0 [(0, .ref r0)] [] M z.2 (Qv (none) z.2) xF := by
  unfold d_X11_init at h
  refine Y_aload_n (j := 0) dX11_init_0 rfl rfl ?_
  refine Y_oinit dX11_init_1 w1_40 ?_
  refine Y_aload_n (j := 0) dX11_init_4 rfl rfl ?_
  obtain ⟨r_1, er_1, h⟩ := bndE h
  obtain ⟨hb1, h⟩ := okE h
  refine Y_new (a := r_1) (t := 5) dX11_init_5 (by decide) (by decide) w1_43 w1_44 w1_2 (hP.free er_1) hb1 ?_
  obtain ⟨M1, eM1, h⟩ := bndE h
  refine VV.mem eM1 ?_
  have hP1 := hP.wN er_1 (by decide) eM1
  refine Y_dup dX11_init_8 rfl ?_
  obtain ⟨hb2, h⟩ := okE h
  obtain ⟨hb3, h⟩ := okE h
  obtain ⟨y1, qy1, h⟩ := bindE h
  have cy1 := v_X5_init hP1.fsh hb2 qy1
  refine C_I0o dX11_init_9 w1_45 i_X5_init (Nat.le_of_ble_eq_true rfl) (Nat.le_of_ble_eq_true rfl) (Nat.le_of_ble_eq_true rfl) (cy1) ?_
  have hPy1 := hP1.ini cy1.1.1 hb3
  obtain ⟨hb4, h⟩ := okE h
  refine Z_putr dX11_init_12 w3_52 hb4 fr_11_0 (Or.inr ⟨rfl, rfl⟩) ?_
  obtain ⟨M2, eM2, h⟩ := bndE h
  refine VV.mem eM2 ?_
  have hP2 := hPy1.wR0 (by omega) eM2
  refine Y_aload_n (j := 0) dX11_init_15 rfl rfl ?_
  obtain ⟨r_2, er_2, h⟩ := bndE h
  obtain ⟨hb5, h⟩ := okE h
  refine Y_new (a := r_2) (t := 7) dX11_init_16 (by decide) (by decide) w1_102 w1_103 w1_4 (hP2.free er_2) hb5 ?_
  obtain ⟨M3, eM3, h⟩ := bndE h
  refine VV.mem eM3 ?_
  have hP3 := hP2.wN er_2 (by decide) eM3
  refine Y_dup dX11_init_19 rfl ?_
  obtain ⟨hb6, h⟩ := okE h
  obtain ⟨hb7, h⟩ := okE h
  obtain ⟨y2, qy2, h⟩ := bindE h
  have cy2 := v_X7_init hP3.fsh hb6 qy2
  refine C_I0o dX11_init_20 w1_104 i_X7_init (Nat.le_of_ble_eq_true rfl) (Nat.le_of_ble_eq_true rfl) (Nat.le_of_ble_eq_true rfl) (cy2) ?_
  have hPy2 := hP3.ini cy2.1.1 hb7
  obtain ⟨hb8, h⟩ := okE h
  refine Z_putr dX11_init_23 w3_53 hb8 fr_11_1 (Or.inr ⟨rfl, rfl⟩) ?_
  obtain ⟨M4, eM4, h⟩ := bndE h
  refine VV.mem eM4 ?_
  have hP4 := hPy2.wR0 (by omega) eM4
  refine Y_aload_n (j := 0) dX11_init_26 rfl rfl ?_
  obtain ⟨r_3, er_3, h⟩ := bndE h
  obtain ⟨hb9, h⟩ := okE h
  refine Y_new (a := r_3) (t := 4) dX11_init_27 (by decide) (by decide) w1_137 w1_138 w1_5 (hP4.free er_3) hb9 ?_
  obtain ⟨M5, eM5, h⟩ := bndE h
  refine VV.mem eM5 ?_
  have hP5 := hP4.wN er_3 (by decide) eM5
  refine Y_dup dX11_init_30 rfl ?_
  refine Y_aload_n (j := 0) dX11_init_31 rfl rfl ?_
  obtain ⟨hb10, h⟩ := okE h
  obtain ⟨r_4, er_4, h⟩ := bindE h
  refine Z_getr dX11_init_32 w3_52 hb10 fr_11_0 er_4 ?_
  refine Y_aload_n (j := 0) dX11_init_35 rfl rfl ?_
  obtain ⟨hb11, h⟩ := okE h
  obtain ⟨r_5, er_5, h⟩ := bindE h
  refine Z_getr dX11_init_36 w3_53 hb11 fr_11_1 er_5 ?_
  obtain ⟨hb12, h⟩ := okE h
  obtain ⟨hb13, h⟩ := okE h
  obtain ⟨y3, qy3, h⟩ := bindE h
  have cy3 := v_X3_init hP5.fsh hb12 qy3
  refine C_I2o dX11_init_39 w1_139 i_X3_init (Nat.le_of_ble_eq_true rfl) (Nat.le_of_ble_eq_true rfl) (Nat.le_of_ble_eq_true rfl) (cy3) ?_
  have hPy3 := hP5.ini cy3.1.1 hb13
  obtain ⟨hb14, h⟩ := okE h
  refine Z_putr dX11_init_42 w3_54 hb14 fr_11_2 (Or.inr ⟨rfl, rfl⟩) ?_
  obtain ⟨M6, eM6, h⟩ := bndE h
  refine VV.mem eM6 ?_
  have hP6 := hPy3.wR0 (by omega) eM6
  refine Y_aload_n (j := 0) dX11_init_45 rfl rfl ?_
  obtain ⟨r_6, er_6, h⟩ := bndE h
  obtain ⟨hb15, h⟩ := okE h
  refine Y_new (a := r_6) (t := 4) dX11_init_46 (by decide) (by decide) w1_137 w1_138 w1_5 (hP6.free er_6) hb15 ?_
  obtain ⟨M7, eM7, h⟩ := bndE h
  refine VV.mem eM7 ?_
  have hP7 := hP6.wN er_6 (by decide) eM7
  refine Y_dup dX11_init_49 rfl ?_
  refine Y_aload_n (j := 0) dX11_init_50 rfl rfl ?_
  obtain ⟨hb16, h⟩ := okE h
  obtain ⟨r_7, er_7, h⟩ := bindE h
  refine Z_getr dX11_init_51 w3_52 hb16 fr_11_0 er_7 ?_
  refine Y_aload_n (j := 0) dX11_init_54 rfl rfl ?_
  obtain ⟨hb17, h⟩ := okE h
  obtain ⟨r_8, er_8, h⟩ := bindE h
  refine Z_getr dX11_init_55 w3_53 hb17 fr_11_1 er_8 ?_
  obtain ⟨hb18, h⟩ := okE h
  obtain ⟨hb19, h⟩ := okE h
  obtain ⟨y4, qy4, h⟩ := bindE h
  have cy4 := v_X3_init hP7.fsh hb18 qy4
  refine C_I2o dX11_init_58 w1_139 i_X3_init (Nat.le_of_ble_eq_true rfl) (Nat.le_of_ble_eq_true rfl) (Nat.le_of_ble_eq_true rfl) (cy4) ?_
  have hPy4 := hP7.ini cy4.1.1 hb19
  obtain ⟨hb20, h⟩ := okE h
  refine Z_putr dX11_init_61 w3_55 hb20 fr_11_3 (Or.inr ⟨rfl, rfl⟩) ?_
  obtain ⟨M8, eM8, h⟩ := bndE h
  refine VV.mem eM8 ?_
  have hP8 := hPy4.wR0 (by omega) eM8
  refine Y_aload_n (j := 0) dX11_init_64 rfl rfl ?_
  obtain ⟨r_9, er_9, h⟩ := bndE h
  obtain ⟨hb21, h⟩ := okE h
  refine Y_new (a := r_9) (t := 10) dX11_init_65 (by decide) (by decide) w1_232 w1_233 w1_7 (hP8.free er_9) hb21 ?_
  obtain ⟨M9, eM9, h⟩ := bndE h
  refine VV.mem eM9 ?_
  have hP9 := hP8.wN er_9 (by decide) eM9
  refine Y_dup dX11_init_68 rfl ?_
  refine Y_aload_n (j := 0) dX11_init_69 rfl rfl ?_
  obtain ⟨hb22, h⟩ := okE h
  obtain ⟨r_10, er_10, h⟩ := bindE h
  refine Z_getr dX11_init_70 w3_52 hb22 fr_11_0 er_10 ?_
  refine Y_aload_n (j := 0) dX11_init_73 rfl rfl ?_
  obtain ⟨hb23, h⟩ := okE h
  obtain ⟨r_11, er_11, h⟩ := bindE h
  refine Z_getr dX11_init_74 w3_54 hb23 fr_11_2 er_11 ?_
  obtain ⟨hb24, h⟩ := okE h
  obtain ⟨hb25, h⟩ := okE h
  obtain ⟨y5, qy5, h⟩ := bindE h
  have cy5 := v_X10_init hP9.fsh hb24 qy5
  refine C_I2o dX11_init_77 w1_234 i_X10_init (Nat.le_of_ble_eq_true rfl) (Nat.le_of_ble_eq_true rfl) (Nat.le_of_ble_eq_true rfl) (cy5) ?_
  have hPy5 := hP9.ini cy5.1.1 hb25
  obtain ⟨hb26, h⟩ := okE h
  refine Z_putr dX11_init_80 w3_56 hb26 fr_11_4 (Or.inr ⟨rfl, rfl⟩) ?_
  obtain ⟨M10, eM10, h⟩ := bndE h
  refine VV.mem eM10 ?_
  have hP10 := hPy5.wR0 (by omega) eM10
  refine Y_aload_n (j := 0) dX11_init_83 rfl rfl ?_
  refine Y_iconst (v := (1 : Int32)) dX11_init_84 rfl ?_
  obtain ⟨hb27, h⟩ := okE h
  refine Z_putz dX11_init_85 w3_57 hb27 fi_11_5 (Or.inl rfl) rfl (by decide) ?_
  obtain ⟨M11, eM11, h⟩ := bndE h
  refine VV.mem eM11 ?_
  have hP11 := hP10.wI eM11
  cases h
  exact Y_vret rfl dX11_init_88 hP11 ⟨rfl, rfl⟩
theorem v_X11_init {r0 : Nat} {M z} (hP : Fsh M) (hr : r0 ≤ nx M) (h : d_X11_init r0 M = some z) : CC (Kx r0 M) k_X11_init [.ref r0] M z.2 (Qv (none) z.2) xF :=
  CC.ofVV (by decide) rfl (Nat.le_of_ble_eq_true rfl) (b_X11_init (Kx.refl hP hr) h)
noncomputable def d_X11_addFunction_9 (M : Mem) : Option ((Int32 ⊕ String) × Mem) :=
  some (.inr "java/lang/IllegalArgumentException", tk M 6)
theorem b_X11_addFunction_9 {M z} (hP : Lay M) (h : d_X11_addFunction_9 M = some z) : VV Lay k_X11_addFunction 9 [] [] M z.2 (QS (fun v => some (.int v)) z) (XS z) := by
  unfold d_X11_addFunction_9 at h
  cases h
  exact Y_throw_IllegalArgumentException rfl w3_128 (mi := 0) rfl dX11_addFunction_9 dX11_addFunction_12 dX11_addFunction_13 dX11_addFunction_15 dX11_addFunction_18 (hP.wT rfl) ⟨rfl, rfl⟩
noncomputable def d_X11_addFunction (x1 : Int32) (M : Mem) : Option ((Int32 ⊕ String) × Mem) :=
  if x1 < 0 then (
    d_X11_addFunction_9 M)
  else (
    if x1 ≤ (3 : Int32) then (
      if (mI M 2 8) < (8 : Int32) then (
        (d_X5_addFunctionWith x1 M).bind fun y1 =>
        some (.inl y1.1, y1.2))
      else (
        some (.inr "java/lang/IllegalStateException", tk M 6)))
    else (
      d_X11_addFunction_9 M))
theorem b_X11_addFunction {x1 : Int32} {M z} (hP : Lay M) (h : d_X11_addFunction x1 M = some z) : VV Lay k_X11_addFunction 0 [(0, .ref 1), (1, .int x1)] [] M z.2 (QS (fun v => some (.int v)) z) (XS z) := by
  unfold d_X11_addFunction at h
  refine Y_iload_n (j := 1) dX11_addFunction_0 rfl rfl ?_
  refine Y_if_lt (tgt := 9) dX11_addFunction_1 (by decide) (fun hc1 => ?_) (fun hc1 => ?_)
  · replace h := ifT hc1 h
    refine VV.sub [] rfl ?_
    exact b_X11_addFunction_9  hP h
  · replace h := ifF hc1 h
    refine Y_iload_n (j := 1) dX11_addFunction_4 rfl rfl ?_
    refine Y_iconst (v := (3 : Int32)) dX11_addFunction_5 rfl ?_
    refine Y_icmp_le (tgt := 19) dX11_addFunction_6 (by decide) (fun hc2 => ?_) (fun hc2 => ?_)
    · replace h := ifT hc2 h
      refine Y_aload_n (j := 0) dX11_addFunction_19 rfl rfl ?_
      refine Z_getr dX11_addFunction_20 w3_52 (lk_1 hP) fr_11_0 (lr_1_0 hP) ?_
      refine Z_geti dX11_addFunction_23 w1_76 (lk_2 hP) fi_5_8 ?_
      refine Y_bipush (v := (8 : Int32)) dX11_addFunction_26 rfl ?_
      refine Y_icmp_lt (tgt := 41) dX11_addFunction_28 (by decide) (fun hc3 => ?_) (fun hc3 => ?_)
      · replace h := ifT hc3 h
        refine Y_aload_n (j := 0) dX11_addFunction_41 rfl rfl ?_
        refine Z_getr dX11_addFunction_42 w3_52 (lk_1 hP) fr_11_0 (lr_1_0 hP) ?_
        refine Y_iload_n (j := 1) dX11_addFunction_45 rfl rfl ?_
        obtain ⟨y1, qy1, h⟩ := bindE h
        have cy1 := v_X5_addFunctionWith hP qy1
        refine C_V1r dX11_addFunction_46 w3_216 i_X5_addFunctionWith (lk_2 hP) ⟨Nat.le_of_ble_eq_true rfl, Nat.le_of_ble_eq_true rfl⟩ rfl (Nat.le_of_ble_eq_true rfl) (Nat.le_of_ble_eq_true rfl) (Nat.le_of_ble_eq_true rfl) (cy1) ?_
        have hPy1 := cy1.1.1
        cases h
        exact Y_iret rfl rfl dX11_addFunction_49 hPy1 ⟨_, rfl, rfl, rfl⟩
      · replace h := ifF hc3 h
        cases h
        exact Y_throw_IllegalStateException rfl w3_200 (mi := 1) rfl dX11_addFunction_31 dX11_addFunction_34 dX11_addFunction_35 dX11_addFunction_37 dX11_addFunction_40 (hP.wT rfl) ⟨rfl, rfl⟩
    · replace h := ifF hc2 h
      refine VV.sub [] rfl ?_
      exact b_X11_addFunction_9  hP h
theorem v_X11_addFunction {x1 : Int32} {M z} (hP : Lay M) (h : d_X11_addFunction x1 M = some z) : CC Lay k_X11_addFunction [.ref 1, .int x1] M z.2 (QS (fun v => some (.int v)) z) (XS z) :=
  CC.ofVV (by decide) rfl (Nat.le_of_ble_eq_true rfl) (b_X11_addFunction hP h)
noncomputable def d_X11_needFunction (x1 : Int32) (M : Mem) : Option ((Unit ⊕ String) × Mem) :=
  (d_X5_hasFunction x1 M).bind fun y1 =>
  if y1.1 = 0 then (
    some (.inr "java/lang/IndexOutOfBoundsException", tk y1.2 6))
  else (
    some (.inl (), y1.2))
theorem b_X11_needFunction {x1 : Int32} {M z} (hP : Lay M) (h : d_X11_needFunction x1 M = some z) : VV Lay k_X11_needFunction 0 [(0, .ref 1), (1, .int x1)] [] M z.2 (QS (fun _ => none) z) (XS z) := by
  unfold d_X11_needFunction at h
  refine Y_aload_n (j := 0) dX11_needFunction_0 rfl rfl ?_
  refine Z_getr dX11_needFunction_1 w3_52 (lk_1 hP) fr_11_0 (lr_1_0 hP) ?_
  refine Y_iload_n (j := 1) dX11_needFunction_4 rfl rfl ?_
  obtain ⟨y1, qy1, h⟩ := bindE h
  have cy1 := v_X5_hasFunction hP qy1
  refine C_V1r dX11_needFunction_5 w4_15 i_X5_hasFunction (lk_2 hP) ⟨Nat.le_of_ble_eq_true rfl, Nat.le_of_ble_eq_true rfl⟩ rfl (Nat.le_of_ble_eq_true rfl) (Nat.le_of_ble_eq_true rfl) (Nat.le_of_ble_eq_true rfl) (cy1) ?_
  have hPy1 := cy1.1.1
  refine Y_if_ne (tgt := 21) dX11_needFunction_8 (by decide) (fun hc1 => ?_) (fun hc1 => ?_)
  · replace h := ifF hc1 h
    cases h
    exact Y_vret rfl dX11_needFunction_21 hPy1 ⟨_, rfl, rfl, rfl⟩
  · replace h := ifT hc1 h
    cases h
    exact Y_throw_IndexOutOfBoundsException rfl w4_19 (mi := 2) rfl dX11_needFunction_11 dX11_needFunction_14 dX11_needFunction_15 dX11_needFunction_17 dX11_needFunction_20 (hPy1.wT rfl) ⟨rfl, rfl⟩
theorem v_X11_needFunction {x1 : Int32} {M z} (hP : Lay M) (h : d_X11_needFunction x1 M = some z) : CC Lay k_X11_needFunction [.ref 1, .int x1] M z.2 (QS (fun _ => none) z) (XS z) :=
  CC.ofVV (by decide) rfl (Nat.le_of_ble_eq_true rfl) (b_X11_needFunction hP h)
noncomputable def d_X11_code (x1 : Int32) (x2 : Int32) (x3 : Int32) (M : Mem) : Option ((Int32 ⊕ String) × Mem) :=
  (d_X11_needFunction x1 M).bind fun y1 => match y1 with
  | (.inl y1, N1) => (
    if 0 ≤ (xIdx 0 x2) then (
      (d_X5_allowsOperand x2 x3 N1).bind fun y2 =>
      if y2.1 = 0 then (
        some (.inr "java/lang/IllegalArgumentException", tk y2.2 6))
      else (
        okk (vp_in x1 8) <|
        if (mI y2.2 4 x1.toNatClampNeg) < (40 : Int32) then (
          (d_X5_append x1 x2 x3 y2.2).bind fun y3 =>
          some (.inl y3.1, y3.2))
        else (
          some (.inr "java/lang/IllegalStateException", tk y2.2 6))))
    else (
      some (.inr "java/lang/IllegalArgumentException", tk N1 6)))
  | (.inr E1, N1) => (
    some (.inr E1, N1))
theorem b_X11_code {x1 : Int32} {x2 : Int32} {x3 : Int32} {M z} (hP : Lay M) (h : d_X11_code x1 x2 x3 M = some z) : VV Lay k_X11_code 0 [(0, .ref 1), (1, .int x1), (2, .int x2), (3, .int x3)] [] M z.2 (QS (fun v => some (.int v)) z) (XS z) := by
  unfold d_X11_code at h
  refine Y_aload_n (j := 0) dX11_code_0 rfl rfl ?_
  refine Y_iload_n (j := 1) dX11_code_1 rfl rfl ?_
  obtain ⟨y1, qy1, h⟩ := bindE h
  have cy1 := v_X11_needFunction hP qy1
  have hPN1 := cy1.1.1
  obtain ⟨y1 | E1, N1⟩ := y1
  · replace h := id h
    refine C_V1o dX11_code_2 w4_11 i_X11_needFunction (lk_1 hP) ⟨Nat.le_of_ble_eq_true rfl, Nat.le_of_ble_eq_true rfl⟩ rfl (Nat.le_of_ble_eq_true rfl) (Nat.le_of_ble_eq_true rfl) (Nat.le_of_ble_eq_true rfl) (cy1.mono id (QSl rfl) (XSl rfl)) ?_
    refine Y_ldcS (i := 0) dX11_code_5 rfl ?_
    refine Y_iload_n (j := 2) dX11_code_7 rfl rfl ?_
    refine Y_indexOf dX11_code_8 w4_33 (i := 0) rfl ?_
    refine Y_if_ge (tgt := 24) dX11_code_11 (by decide) (fun hc1 => ?_) (fun hc1 => ?_)
    · replace h := ifT hc1 h
      refine Y_aload_n (j := 0) dX11_code_24 rfl rfl ?_
      refine Z_getr dX11_code_25 w3_52 (lk_1 hPN1) fr_11_0 (lr_1_0 hPN1) ?_
      refine Y_iload_n (j := 2) dX11_code_28 rfl rfl ?_
      refine Y_iload_n (j := 3) dX11_code_29 rfl rfl ?_
      obtain ⟨y2, qy2, h⟩ := bindE h
      have cy2 := v_X5_allowsOperand hPN1 qy2
      refine C_V2r dX11_code_30 w4_118 i_X5_allowsOperand (lk_2 hPN1) ⟨Nat.le_of_ble_eq_true rfl, Nat.le_of_ble_eq_true rfl⟩ rfl (Nat.le_of_ble_eq_true rfl) (Nat.le_of_ble_eq_true rfl) (Nat.le_of_ble_eq_true rfl) (cy2) ?_
      have hPy2 := cy2.1.1
      refine Y_if_ne (tgt := 46) dX11_code_33 (by decide) (fun hc2 => ?_) (fun hc2 => ?_)
      · replace h := ifF hc2 h
        refine Y_aload_n (j := 0) dX11_code_46 rfl rfl ?_
        refine Z_getr dX11_code_47 w3_52 (lk_1 hPy2) fr_11_0 (lr_1_0 hPy2) ?_
        refine Z_getr dX11_code_50 w1_57 (lk_2 hPy2) fr_5_1 (lr_2_1 hPy2) ?_
        refine Y_iload_n (j := 1) dX11_code_53 rfl rfl ?_
        obtain ⟨hb1, h⟩ := okE h
        refine Y_iald dX11_code_54 (lk_4 hPy2) (ln_4 hPy2) hb1 ?_
        refine Y_bipush (v := (40 : Int32)) dX11_code_55 rfl ?_
        refine Y_icmp_lt (tgt := 70) dX11_code_57 (by decide) (fun hc3 => ?_) (fun hc3 => ?_)
        · replace h := ifT hc3 h
          refine Y_aload_n (j := 0) dX11_code_70 rfl rfl ?_
          refine Z_getr dX11_code_71 w3_52 (lk_1 hPy2) fr_11_0 (lr_1_0 hPy2) ?_
          refine Y_iload_n (j := 1) dX11_code_74 rfl rfl ?_
          refine Y_iload_n (j := 2) dX11_code_75 rfl rfl ?_
          refine Y_iload_n (j := 3) dX11_code_76 rfl rfl ?_
          obtain ⟨y3, qy3, h⟩ := bindE h
          have cy3 := v_X5_append hPy2 qy3
          refine C_V3r dX11_code_77 w4_128 i_X5_append (lk_2 hPy2) ⟨Nat.le_of_ble_eq_true rfl, Nat.le_of_ble_eq_true rfl⟩ rfl (Nat.le_of_ble_eq_true rfl) (Nat.le_of_ble_eq_true rfl) (Nat.le_of_ble_eq_true rfl) (cy3) ?_
          have hPy3 := cy3.1.1
          cases h
          exact Y_iret rfl rfl dX11_code_80 hPy3 ⟨_, rfl, rfl, rfl⟩
        · replace h := ifF hc3 h
          cases h
          exact Y_throw_IllegalStateException rfl w3_200 (mi := 5) rfl dX11_code_60 dX11_code_63 dX11_code_64 dX11_code_66 dX11_code_69 (hPy2.wT rfl) ⟨rfl, rfl⟩
      · replace h := ifT hc2 h
        cases h
        exact Y_throw_IllegalArgumentException rfl w3_128 (mi := 4) rfl dX11_code_36 dX11_code_39 dX11_code_40 dX11_code_42 dX11_code_45 (hPy2.wT rfl) ⟨rfl, rfl⟩
    · replace h := ifF hc1 h
      cases h
      exact Y_throw_IllegalArgumentException rfl w3_128 (mi := 3) rfl dX11_code_14 dX11_code_17 dX11_code_18 dX11_code_20 dX11_code_23 (hPN1.wT rfl) ⟨rfl, rfl⟩
  · replace h := id h
    cases h
    refine C_V1x dX11_code_2 w4_11 i_X11_needFunction (lk_1 hP) ⟨Nat.le_of_ble_eq_true rfl, Nat.le_of_ble_eq_true rfl⟩ rfl (Nat.le_of_ble_eq_true rfl) (Nat.le_of_ble_eq_true rfl) (Nat.le_of_ble_eq_true rfl) (cy1.mono id (QSr rfl) (XSr rfl)) ?_
    exact Y_out (by decide) hPN1 ⟨rfl, rfl⟩
theorem v_X11_code {x1 : Int32} {x2 : Int32} {x3 : Int32} {M z} (hP : Lay M) (h : d_X11_code x1 x2 x3 M = some z) : CC Lay k_X11_code [.ref 1, .int x1, .int x2, .int x3] M z.2 (QS (fun v => some (.int v)) z) (XS z) :=
  CC.ofVV (by decide) rfl (Nat.le_of_ble_eq_true rfl) (b_X11_code hP h)
noncomputable def d_X11_setHandler (x1 : Int32) (x2 : Int32) (M : Mem) : Option ((Int32 ⊕ String) × Mem) :=
  (d_X11_needFunction x1 M).bind fun y1 => match y1 with
  | (.inl y1, N1) => (
    (d_X11_needIndex x2 N1).bind fun y2 => match y2 with
    | (.inl y2, N2) => (
      okk (vp_in x1 8) <|
      bnd ((mI N2 5 x1.toNatClampNeg)) fun b1 =>
      okk (vp_in x1 8) <|
      bnd (sI N2 5 x1.toNatClampNeg x2) fun M1 =>
      some (.inl b1, M1))
    | (.inr E2, N2) => (
      some (.inr E2, N2)))
  | (.inr E1, N1) => (
    some (.inr E1, N1))
theorem b_X11_setHandler {x1 : Int32} {x2 : Int32} {M z} (hP : Lay M) (h : d_X11_setHandler x1 x2 M = some z) : VV Lay k_X11_setHandler 0 [(0, .ref 1), (1, .int x1), (2, .int x2)] [] M z.2 (QS (fun v => some (.int v)) z) (XS z) := by
  unfold d_X11_setHandler at h
  refine Y_aload_n (j := 0) dX11_setHandler_0 rfl rfl ?_
  refine Y_iload_n (j := 1) dX11_setHandler_1 rfl rfl ?_
  obtain ⟨y1, qy1, h⟩ := bindE h
  have cy1 := v_X11_needFunction hP qy1
  have hPN1 := cy1.1.1
  obtain ⟨y1 | E1, N1⟩ := y1
  · replace h := id h
    refine C_V1o dX11_setHandler_2 w4_11 i_X11_needFunction (lk_1 hP) ⟨Nat.le_of_ble_eq_true rfl, Nat.le_of_ble_eq_true rfl⟩ rfl (Nat.le_of_ble_eq_true rfl) (Nat.le_of_ble_eq_true rfl) (Nat.le_of_ble_eq_true rfl) (cy1.mono id (QSl rfl) (XSl rfl)) ?_
    refine Y_aload_n (j := 0) dX11_setHandler_5 rfl rfl ?_
    refine Y_iload_n (j := 2) dX11_setHandler_6 rfl rfl ?_
    obtain ⟨y2, qy2, h⟩ := bindE h
    have cy2 := v_X11_needIndex hPN1 qy2
    have hPN2 := cy2.1.1
    obtain ⟨y2 | E2, N2⟩ := y2
    · replace h := id h
      refine C_V1o dX11_setHandler_7 w4_142 i_X11_needIndex (lk_1 hPN1) ⟨Nat.le_of_ble_eq_true rfl, Nat.le_of_ble_eq_true rfl⟩ rfl (Nat.le_of_ble_eq_true rfl) (Nat.le_of_ble_eq_true rfl) (Nat.le_of_ble_eq_true rfl) (cy2.mono id (QSl rfl) (XSl rfl)) ?_
      refine Y_aload_n (j := 0) dX11_setHandler_10 rfl rfl ?_
      refine Z_getr dX11_setHandler_11 w3_52 (lk_1 hPN2) fr_11_0 (lr_1_0 hPN2) ?_
      refine Z_getr dX11_setHandler_14 w1_59 (lk_2 hPN2) fr_5_2 (lr_2_2 hPN2) ?_
      refine Y_iload_n (j := 1) dX11_setHandler_17 rfl rfl ?_
      obtain ⟨hb1, h⟩ := okE h
      refine Y_iald dX11_setHandler_18 (lk_5 hPN2) (ln_5 hPN2) hb1 ?_
      obtain ⟨b1, eb1, h⟩ := bndE h
      refine VV.topI eb1 ?_
      refine Y_istore_n (lv1 := [(3, .int b1), (0, .ref 1), (1, .int x1), (2, .int x2)]) dX11_setHandler_19 rfl (by decide) rfl ?_
      refine Y_aload_n (j := 1) dX11_setHandler_20 rfl rfl ?_
      refine Z_getr dX11_setHandler_21 w3_52 (lk_1 hPN2) fr_11_0 (lr_1_0 hPN2) ?_
      refine Z_getr dX11_setHandler_24 w1_59 (lk_2 hPN2) fr_5_2 (lr_2_2 hPN2) ?_
      refine Y_iload_n (j := 2) dX11_setHandler_27 rfl rfl ?_
      refine Y_iload_n (j := 3) dX11_setHandler_28 rfl rfl ?_
      obtain ⟨hb2, h⟩ := okE h
      refine Y_iast dX11_setHandler_29 (lk_5 hPN2) (ln_5 hPN2) hb2 ?_
      obtain ⟨M1, eM1, h⟩ := bndE h
      refine VV.mem eM1 ?_
      have hP1 := hPN2.wI eM1
      refine Y_iload_n (j := 0) dX11_setHandler_30 rfl rfl ?_
      cases h
      exact Y_iret rfl rfl dX11_setHandler_31 hP1 ⟨_, rfl, rfl, rfl⟩
    · replace h := id h
      cases h
      refine C_V1x dX11_setHandler_7 w4_142 i_X11_needIndex (lk_1 hPN1) ⟨Nat.le_of_ble_eq_true rfl, Nat.le_of_ble_eq_true rfl⟩ rfl (Nat.le_of_ble_eq_true rfl) (Nat.le_of_ble_eq_true rfl) (Nat.le_of_ble_eq_true rfl) (cy2.mono id (QSr rfl) (XSr rfl)) ?_
      exact Y_out (by decide) hPN2 ⟨rfl, rfl⟩
  · replace h := id h
    cases h
    refine C_V1x dX11_setHandler_2 w4_11 i_X11_needFunction (lk_1 hP) ⟨Nat.le_of_ble_eq_true rfl, Nat.le_of_ble_eq_true rfl⟩ rfl (Nat.le_of_ble_eq_true rfl) (Nat.le_of_ble_eq_true rfl) (Nat.le_of_ble_eq_true rfl) (cy1.mono id (QSr rfl) (XSr rfl)) ?_
    exact Y_out (by decide) hPN1 ⟨rfl, rfl⟩
theorem v_X11_setHandler {x1 : Int32} {x2 : Int32} {M z} (hP : Lay M) (h : d_X11_setHandler x1 x2 M = some z) : CC Lay k_X11_setHandler [.ref 1, .int x1, .int x2] M z.2 (QS (fun v => some (.int v)) z) (XS z) :=
  CC.ofVV (by decide) rfl (Nat.le_of_ble_eq_true rfl) (b_X11_setHandler hP h)
noncomputable def d_X11_addClass_26 (x1 : Int32) (M : Mem) : Option ((Int32 ⊕ String) × Mem) :=
  if (mI M 2 9) < (5 : Int32) then (
    if (mI M 11 6) < (60 : Int32) then (
      (d_X5_addClassBelow x1 M).bind fun y1 =>
      (d_X7_addEmpty y1.1 y1.2).bind fun y2 =>
      okk (vp_in y1.1 5) <|
      bnd (sI y2.2 17 y1.1.toNatClampNeg y2.1) fun M1 =>
      some (.inl y1.1, M1))
    else (
      some (.inr "java/lang/UnsupportedOperationException", tk M 6)))
  else (
    some (.inr "java/lang/IllegalStateException", tk M 6))
theorem b_X11_addClass_26 {x1 : Int32} {M z} (hP : Lay M) (h : d_X11_addClass_26 x1 M = some z) : VV Lay k_X11_addClass 26 [(0, .ref 1), (1, .int x1)] [] M z.2 (QS (fun v => some (.int v)) z) (XS z) := by
  unfold d_X11_addClass_26 at h
  refine Y_aload_n (j := 0) dX11_addClass_26 rfl rfl ?_
  refine Z_getr dX11_addClass_27 w3_52 (lk_1 hP) fr_11_0 (lr_1_0 hP) ?_
  refine Z_geti dX11_addClass_30 w1_78 (lk_2 hP) fi_5_9 ?_
  refine Y_iconst (v := (5 : Int32)) dX11_addClass_33 rfl ?_
  refine Y_icmp_lt (tgt := 47) dX11_addClass_34 (by decide) (fun hc1 => ?_) (fun hc1 => ?_)
  · replace h := ifT hc1 h
    refine Y_aload_n (j := 0) dX11_addClass_47 rfl rfl ?_
    refine Z_getr dX11_addClass_48 w3_53 (lk_1 hP) fr_11_1 (lr_1_1 hP) ?_
    refine Z_geti dX11_addClass_51 w1_121 (lk_11 hP) fi_7_6 ?_
    refine Y_bipush (v := (60 : Int32)) dX11_addClass_54 rfl ?_
    refine Y_icmp_lt (tgt := 69) dX11_addClass_56 (by decide) (fun hc2 => ?_) (fun hc2 => ?_)
    · replace h := ifT hc2 h
      refine Y_aload_n (j := 0) dX11_addClass_69 rfl rfl ?_
      refine Z_getr dX11_addClass_70 w3_52 (lk_1 hP) fr_11_0 (lr_1_0 hP) ?_
      refine Y_iload_n (j := 1) dX11_addClass_73 rfl rfl ?_
      obtain ⟨y1, qy1, h⟩ := bindE h
      have cy1 := v_X5_addClassBelow hP qy1
      refine C_V1r dX11_addClass_74 w4_177 i_X5_addClassBelow (lk_2 hP) ⟨Nat.le_of_ble_eq_true rfl, Nat.le_of_ble_eq_true rfl⟩ rfl (Nat.le_of_ble_eq_true rfl) (Nat.le_of_ble_eq_true rfl) (Nat.le_of_ble_eq_true rfl) (cy1) ?_
      have hPy1 := cy1.1.1
      refine Y_istore_n (lv1 := [(2, .int y1.1), (0, .ref 1), (1, .int x1)]) dX11_addClass_77 rfl (by decide) rfl ?_
      refine Y_aload_n (j := 1) dX11_addClass_78 rfl rfl ?_
      refine Z_getr dX11_addClass_79 w3_53 (lk_1 hPy1) fr_11_1 (lr_1_1 hPy1) ?_
      refine Z_getr dX11_addClass_82 w1_118 (lk_11 hPy1) fr_7_5 (lr_11_5 hPy1) ?_
      refine Y_iload_n (j := 0) dX11_addClass_85 rfl rfl ?_
      refine Y_aload_n (j := 1) dX11_addClass_86 rfl rfl ?_
      refine Z_getr dX11_addClass_87 w3_53 (lk_1 hPy1) fr_11_1 (lr_1_1 hPy1) ?_
      refine Y_iload_n (j := 0) dX11_addClass_90 rfl rfl ?_
      obtain ⟨y2, qy2, h⟩ := bindE h
      have cy2 := v_X7_addEmpty hPy1 qy2
      refine C_V1r dX11_addClass_91 w4_181 i_X7_addEmpty (lk_11 hPy1) ⟨Nat.le_of_ble_eq_true rfl, Nat.le_of_ble_eq_true rfl⟩ rfl (Nat.le_of_ble_eq_true rfl) (Nat.le_of_ble_eq_true rfl) (Nat.le_of_ble_eq_true rfl) (cy2) ?_
      have hPy2 := cy2.1.1
      obtain ⟨hb1, h⟩ := okE h
      refine Y_iast dX11_addClass_94 (lk_17 hPy2) (ln_17 hPy2) hb1 ?_
      obtain ⟨M1, eM1, h⟩ := bndE h
      refine VV.mem eM1 ?_
      have hP1 := hPy2.wI eM1
      refine Y_iload_n (j := 0) dX11_addClass_95 rfl rfl ?_
      cases h
      exact Y_iret rfl rfl dX11_addClass_96 hP1 ⟨_, rfl, rfl, rfl⟩
    · replace h := ifF hc2 h
      cases h
      exact Y_throw_UnsupportedOperationException rfl w4_161 (mi := 9) rfl dX11_addClass_59 dX11_addClass_62 dX11_addClass_63 dX11_addClass_65 dX11_addClass_68 (hP.wT rfl) ⟨rfl, rfl⟩
  · replace h := ifF hc1 h
    cases h
    exact Y_throw_IllegalStateException rfl w3_200 (mi := 8) rfl dX11_addClass_37 dX11_addClass_40 dX11_addClass_41 dX11_addClass_43 dX11_addClass_46 (hP.wT rfl) ⟨rfl, rfl⟩
noncomputable def d_X11_addClass (x1 : Int32) (M : Mem) : Option ((Int32 ⊕ String) × Mem) :=
  if x1 = (-1 : Int32) then (
    d_X11_addClass_26 x1 M)
  else (
    (d_X5_hasClass x1 M).bind fun y1 =>
    if y1.1 = 0 then (
      some (.inr "java/lang/IndexOutOfBoundsException", tk y1.2 6))
    else (
      d_X11_addClass_26 x1 y1.2))
theorem b_X11_addClass {x1 : Int32} {M z} (hP : Lay M) (h : d_X11_addClass x1 M = some z) : VV Lay k_X11_addClass 0 [(0, .ref 1), (1, .int x1)] [] M z.2 (QS (fun v => some (.int v)) z) (XS z) := by
  unfold d_X11_addClass at h
  refine Y_iload_n (j := 1) dX11_addClass_0 rfl rfl ?_
  refine Y_iconst (v := (-1 : Int32)) dX11_addClass_1 rfl ?_
  refine Y_icmp_eq (tgt := 26) dX11_addClass_2 (by decide) (fun hc1 => ?_) (fun hc1 => ?_)
  · replace h := ifT hc1 h
    refine VV.sub [0, 1] rfl ?_
    exact b_X11_addClass_26  hP h
  · replace h := ifF hc1 h
    refine Y_aload_n (j := 0) dX11_addClass_5 rfl rfl ?_
    refine Z_getr dX11_addClass_6 w3_52 (lk_1 hP) fr_11_0 (lr_1_0 hP) ?_
    refine Y_iload_n (j := 1) dX11_addClass_9 rfl rfl ?_
    obtain ⟨y1, qy1, h⟩ := bindE h
    have cy1 := v_X5_hasClass hP qy1
    refine C_V1r dX11_addClass_10 w4_155 i_X5_hasClass (lk_2 hP) ⟨Nat.le_of_ble_eq_true rfl, Nat.le_of_ble_eq_true rfl⟩ rfl (Nat.le_of_ble_eq_true rfl) (Nat.le_of_ble_eq_true rfl) (Nat.le_of_ble_eq_true rfl) (cy1) ?_
    have hPy1 := cy1.1.1
    refine Y_if_ne (tgt := 26) dX11_addClass_13 (by decide) (fun hc2 => ?_) (fun hc2 => ?_)
    · replace h := ifF hc2 h
      refine VV.sub [0, 1] rfl ?_
      exact b_X11_addClass_26  hPy1 h
    · replace h := ifT hc2 h
      cases h
      exact Y_throw_IndexOutOfBoundsException rfl w4_19 (mi := 7) rfl dX11_addClass_16 dX11_addClass_19 dX11_addClass_20 dX11_addClass_22 dX11_addClass_25 (hPy1.wT rfl) ⟨rfl, rfl⟩
theorem v_X11_addClass {x1 : Int32} {M z} (hP : Lay M) (h : d_X11_addClass x1 M = some z) : CC Lay k_X11_addClass [.ref 1, .int x1] M z.2 (QS (fun v => some (.int v)) z) (XS z) :=
  CC.ofVV (by decide) rfl (Nat.le_of_ble_eq_true rfl) (b_X11_addClass hP h)
noncomputable def d_X11_isName (x0 : Int32) (M : Mem) : Option (Int32 × Mem) :=
  if x0 < 0 then (
    some ((0 : Int32), M))
  else (
    if (6 : Int32) ≤ x0 then (
      some ((0 : Int32), M))
    else (
      some ((1 : Int32), M)))
theorem b_X11_isName {x0 : Int32} {M z} (hP : Lay M) (h : d_X11_isName x0 M = some z) : VV Lay k_X11_isName 0 [(0, .int x0)] [] M z.2 (Qv (some (.int z.1)) z.2) xF := by
  unfold d_X11_isName at h
  refine Y_iload_n (j := 0) dX11_isName_0 rfl rfl ?_
  refine Y_if_lt (tgt := 14) dX11_isName_1 (by decide) (fun hc1 => ?_) (fun hc1 => ?_)
  · replace h := ifT hc1 h
    refine Y_iconst (v := (0 : Int32)) dX11_isName_14 rfl ?_
    cases h
    exact Y_iret rfl (nar_bo (by decide)) dX11_isName_15 hP ⟨rfl, rfl⟩
  · replace h := ifF hc1 h
    refine Y_iload_n (j := 0) dX11_isName_4 rfl rfl ?_
    refine Y_bipush (v := (6 : Int32)) dX11_isName_5 rfl ?_
    refine Y_icmp_ge (tgt := 14) dX11_isName_7 (by decide) (fun hc2 => ?_) (fun hc2 => ?_)
    · replace h := ifT hc2 h
      refine Y_iconst (v := (0 : Int32)) dX11_isName_14 rfl ?_
      cases h
      exact Y_iret rfl (nar_bo (by decide)) dX11_isName_15 hP ⟨rfl, rfl⟩
    · replace h := ifF hc2 h
      refine Y_iconst (v := (1 : Int32)) dX11_isName_10 rfl ?_
      refine Y_goto (tgt := 15) dX11_isName_11 (by decide) ?_
      cases h
      exact Y_iret rfl (nar_bo (by decide)) dX11_isName_15 hP ⟨rfl, rfl⟩
theorem v_X11_isName {x0 : Int32} {M z} (hP : Lay M) (h : d_X11_isName x0 M = some z) : CC Lay k_X11_isName [.int x0] M z.2 (Qv (some (.int z.1)) z.2) xF :=
  CC.ofVV (by decide) rfl (Nat.le_of_ble_eq_true rfl) (b_X11_isName hP h)
noncomputable def d_X11_setMethod (x1 : Int32) (x2 : Int32) (x3 : Int32) (M : Mem) : Option ((Int32 ⊕ String) × Mem) :=
  (d_X5_hasClass x1 M).bind fun y1 =>
  if y1.1 = 0 then (
    some (.inr "java/lang/IndexOutOfBoundsException", tk y1.2 6))
  else (
    (d_X11_isName x2 y1.2).bind fun y2 =>
    if y2.1 = 0 then (
      some (.inr "java/lang/IllegalArgumentException", tk y2.2 6))
    else (
      (d_X5_hasFunction x3 y2.2).bind fun y3 =>
      if y3.1 = 0 then (
        some (.inr "java/util/NoSuchElementException", tk y3.2 6))
      else (
        okk (vp_in x3 8) <|
        if (mI y3.2 3 x3.toNatClampNeg) = (1 : Int32) then (
          okk (vp_in ((x1 * (6 : Int32)) + x2) 30) <|
          bnd (sI y3.2 10 ((x1 * (6 : Int32)) + x2).toNatClampNeg x3) fun M1 =>
          (d_X0_emptyMethods M1).bind fun y4 =>
          (d_X1_throwThoseWith (109 : Int32) (0 : Int32) y4.2).bind fun y5 =>
          some (.inl y5.1, y5.2))
        else (
          some (.inr "java/lang/UnsupportedOperationException", tk y3.2 6)))))
theorem b_X11_setMethod {x1 : Int32} {x2 : Int32} {x3 : Int32} {M z} (hP : Lay M) (h : d_X11_setMethod x1 x2 x3 M = some z) : VV Lay k_X11_setMethod 0 [(0, .ref 1), (1, .int x1), (2, .int x2), (3, .int x3)] [] M z.2 (QS (fun v => some (.int v)) z) (XS z) := by
  unfold d_X11_setMethod at h
  refine Y_aload_n (j := 0) dX11_setMethod_0 rfl rfl ?_
  refine Z_getr dX11_setMethod_1 w3_52 (lk_1 hP) fr_11_0 (lr_1_0 hP) ?_
  refine Y_iload_n (j := 1) dX11_setMethod_4 rfl rfl ?_
  obtain ⟨y1, qy1, h⟩ := bindE h
  have cy1 := v_X5_hasClass hP qy1
  refine C_V1r dX11_setMethod_5 w4_155 i_X5_hasClass (lk_2 hP) ⟨Nat.le_of_ble_eq_true rfl, Nat.le_of_ble_eq_true rfl⟩ rfl (Nat.le_of_ble_eq_true rfl) (Nat.le_of_ble_eq_true rfl) (Nat.le_of_ble_eq_true rfl) (cy1) ?_
  have hPy1 := cy1.1.1
  refine Y_if_ne (tgt := 21) dX11_setMethod_8 (by decide) (fun hc1 => ?_) (fun hc1 => ?_)
  · replace h := ifF hc1 h
    refine Y_iload_n (j := 2) dX11_setMethod_21 rfl rfl ?_
    obtain ⟨y2, qy2, h⟩ := bindE h
    have cy2 := v_X11_isName hPy1 qy2
    refine C_S1r dX11_setMethod_22 w4_194 i_X11_isName (Nat.le_of_ble_eq_true rfl) (Nat.le_of_ble_eq_true rfl) (Nat.le_of_ble_eq_true rfl) (cy2) ?_
    have hPy2 := cy2.1.1
    refine Y_if_ne (tgt := 38) dX11_setMethod_25 (by decide) (fun hc2 => ?_) (fun hc2 => ?_)
    · replace h := ifF hc2 h
      refine Y_aload_n (j := 0) dX11_setMethod_38 rfl rfl ?_
      refine Z_getr dX11_setMethod_39 w3_52 (lk_1 hPy2) fr_11_0 (lr_1_0 hPy2) ?_
      refine Y_iload_n (j := 3) dX11_setMethod_42 rfl rfl ?_
      obtain ⟨y3, qy3, h⟩ := bindE h
      have cy3 := v_X5_hasFunction hPy2 qy3
      refine C_V1r dX11_setMethod_43 w4_15 i_X5_hasFunction (lk_2 hPy2) ⟨Nat.le_of_ble_eq_true rfl, Nat.le_of_ble_eq_true rfl⟩ rfl (Nat.le_of_ble_eq_true rfl) (Nat.le_of_ble_eq_true rfl) (Nat.le_of_ble_eq_true rfl) (cy3) ?_
      have hPy3 := cy3.1.1
      refine Y_if_ne (tgt := 59) dX11_setMethod_46 (by decide) (fun hc3 => ?_) (fun hc3 => ?_)
      · replace h := ifF hc3 h
        refine Y_aload_n (j := 0) dX11_setMethod_59 rfl rfl ?_
        refine Z_getr dX11_setMethod_60 w3_52 (lk_1 hPy3) fr_11_0 (lr_1_0 hPy3) ?_
        refine Z_getr dX11_setMethod_63 w1_53 (lk_2 hPy3) fr_5_0 (lr_2_0 hPy3) ?_
        refine Y_iload_n (j := 3) dX11_setMethod_66 rfl rfl ?_
        obtain ⟨hb1, h⟩ := okE h
        refine Y_iald dX11_setMethod_67 (lk_3 hPy3) (ln_3 hPy3) hb1 ?_
        refine Y_iconst (v := (1 : Int32)) dX11_setMethod_68 rfl ?_
        refine Y_icmp_eq (tgt := 82) dX11_setMethod_69 (by decide) (fun hc4 => ?_) (fun hc4 => ?_)
        · replace h := ifT hc4 h
          refine Y_aload_n (j := 0) dX11_setMethod_82 rfl rfl ?_
          refine Z_getr dX11_setMethod_83 w3_52 (lk_1 hPy3) fr_11_0 (lr_1_0 hPy3) ?_
          refine Z_getr dX11_setMethod_86 w1_74 (lk_2 hPy3) fr_5_7 (lr_2_7 hPy3) ?_
          refine Y_iload_n (j := 1) dX11_setMethod_89 rfl rfl ?_
          refine Y_bipush (v := (6 : Int32)) dX11_setMethod_90 rfl ?_
          refine Y_imul dX11_setMethod_92 ?_
          refine Y_iload_n (j := 2) dX11_setMethod_93 rfl rfl ?_
          refine Y_iadd dX11_setMethod_94 ?_
          refine Y_iload_n (j := 3) dX11_setMethod_95 rfl rfl ?_
          obtain ⟨hb2, h⟩ := okE h
          refine Y_iast dX11_setMethod_96 (lk_10 hPy3) (ln_10 hPy3) hb2 ?_
          obtain ⟨M1, eM1, h⟩ := bndE h
          refine VV.mem eM1 ?_
          have hP1 := hPy3.wI eM1
          refine Y_aload_n (j := 0) dX11_setMethod_97 rfl rfl ?_
          refine Z_getr dX11_setMethod_98 w3_56 (lk_1 hP1) fr_11_4 (lr_1_4 hP1) ?_
          refine Z_getr dX11_setMethod_101 w3_7 (lk_38 hP1) fr_10_1 (lr_38_1 hP1) ?_
          refine Y_aload_n (j := 0) dX11_setMethod_104 rfl rfl ?_
          refine Z_getr dX11_setMethod_105 w3_52 (lk_1 hP1) fr_11_0 (lr_1_0 hP1) ?_
          obtain ⟨y4, qy4, h⟩ := bindE h
          have cy4 := v_X0_emptyMethods hP1 qy4
          refine C_V1o dX11_setMethod_108 w4_214 i_X0_emptyMethods (lk_39 hP1) ⟨Nat.le_of_ble_eq_true rfl, Nat.le_of_ble_eq_true rfl⟩ rfl (Nat.le_of_ble_eq_true rfl) (Nat.le_of_ble_eq_true rfl) (Nat.le_of_ble_eq_true rfl) (cy4) ?_
          have hPy4 := cy4.1.1
          refine Y_aload_n (j := 0) dX11_setMethod_111 rfl rfl ?_
          refine Z_getr dX11_setMethod_112 w3_56 (lk_1 hPy4) fr_11_4 (lr_1_4 hPy4) ?_
          refine Z_getr dX11_setMethod_115 w3_12 (lk_38 hPy4) fr_10_4 (lr_38_4 hPy4) ?_
          refine Y_bipush (v := (109 : Int32)) dX11_setMethod_118 rfl ?_
          refine Y_iconst (v := (0 : Int32)) dX11_setMethod_120 rfl ?_
          obtain ⟨y5, qy5, h⟩ := bindE h
          have cy5 := v_X1_throwThoseWith hPy4 qy5
          refine C_V2r dX11_setMethod_121 w4_218 i_X1_throwThoseWith (lk_67 hPy4) ⟨Nat.le_of_ble_eq_true rfl, Nat.le_of_ble_eq_true rfl⟩ rfl (Nat.le_of_ble_eq_true rfl) (Nat.le_of_ble_eq_true rfl) (Nat.le_of_ble_eq_true rfl) (cy5) ?_
          have hPy5 := cy5.1.1
          cases h
          exact Y_iret rfl rfl dX11_setMethod_124 hPy5 ⟨_, rfl, rfl, rfl⟩
        · replace h := ifF hc4 h
          cases h
          exact Y_throw_UnsupportedOperationException rfl w4_161 (mi := 12) rfl dX11_setMethod_72 dX11_setMethod_75 dX11_setMethod_76 dX11_setMethod_78 dX11_setMethod_81 (hPy3.wT rfl) ⟨rfl, rfl⟩
      · replace h := ifT hc3 h
        cases h
        exact Y_throw_NoSuchElementException rfl w4_198 (mi := 2) rfl dX11_setMethod_49 dX11_setMethod_52 dX11_setMethod_53 dX11_setMethod_55 dX11_setMethod_58 (hPy3.wT rfl) ⟨rfl, rfl⟩
    · replace h := ifT hc2 h
      cases h
      exact Y_throw_IllegalArgumentException rfl w3_128 (mi := 11) rfl dX11_setMethod_28 dX11_setMethod_31 dX11_setMethod_32 dX11_setMethod_34 dX11_setMethod_37 (hPy2.wT rfl) ⟨rfl, rfl⟩
  · replace h := ifT hc1 h
    cases h
    exact Y_throw_IndexOutOfBoundsException rfl w4_19 (mi := 10) rfl dX11_setMethod_11 dX11_setMethod_14 dX11_setMethod_15 dX11_setMethod_17 dX11_setMethod_20 (hPy1.wT rfl) ⟨rfl, rfl⟩
theorem v_X11_setMethod {x1 : Int32} {x2 : Int32} {x3 : Int32} {M z} (hP : Lay M) (h : d_X11_setMethod x1 x2 x3 M = some z) : CC Lay k_X11_setMethod [.ref 1, .int x1, .int x2, .int x3] M z.2 (QS (fun v => some (.int v)) z) (XS z) :=
  CC.ofVV (by decide) rfl (Nat.le_of_ble_eq_true rfl) (b_X11_setMethod hP h)
noncomputable def d_X11_setCell_10 (M : Mem) : Option ((Int32 ⊕ String) × Mem) :=
  some (.inr "java/lang/IllegalArgumentException", tk M 6)
theorem b_X11_setCell_10 {M z} (hP : Lay M) (h : d_X11_setCell_10 M = some z) : VV Lay k_X11_setCell 10 [] [] M z.2 (QS (fun v => some (.int v)) z) (XS z) := by
  unfold d_X11_setCell_10 at h
  cases h
  exact Y_throw_IllegalArgumentException rfl w3_128 (mi := 13) rfl dX11_setCell_10 dX11_setCell_13 dX11_setCell_14 dX11_setCell_16 dX11_setCell_19 (hP.wT rfl) ⟨rfl, rfl⟩
noncomputable def d_X11_setCell (x1 : Int32) (x2 : Int32) (M : Mem) : Option ((Int32 ⊕ String) × Mem) :=
  if x1 < 0 then (
    d_X11_setCell_10 M)
  else (
    if x1 < (8 : Int32) then (
      okk (vp_in x1 8) <|
      if (mI M 8 x1.toNatClampNeg) = x2 then (
        some (.inl (0 : Int32), M))
      else (
        okk (vp_in x1 8) <|
        bnd (sI M 8 x1.toNatClampNeg x2) fun M1 =>
        (d_X1_throwThoseWith (107 : Int32) x1 M1).bind fun y1 =>
        some (.inl y1.1, y1.2)))
    else (
      d_X11_setCell_10 M))
theorem b_X11_setCell {x1 : Int32} {x2 : Int32} {M z} (hP : Lay M) (h : d_X11_setCell x1 x2 M = some z) : VV Lay k_X11_setCell 0 [(0, .ref 1), (1, .int x1), (2, .int x2)] [] M z.2 (QS (fun v => some (.int v)) z) (XS z) := by
  unfold d_X11_setCell at h
  refine Y_iload_n (j := 1) dX11_setCell_0 rfl rfl ?_
  refine Y_if_lt (tgt := 10) dX11_setCell_1 (by decide) (fun hc1 => ?_) (fun hc1 => ?_)
  · replace h := ifT hc1 h
    refine VV.sub [] rfl ?_
    exact b_X11_setCell_10  hP h
  · replace h := ifF hc1 h
    refine Y_iload_n (j := 1) dX11_setCell_4 rfl rfl ?_
    refine Y_bipush (v := (8 : Int32)) dX11_setCell_5 rfl ?_
    refine Y_icmp_lt (tgt := 20) dX11_setCell_7 (by decide) (fun hc2 => ?_) (fun hc2 => ?_)
    · replace h := ifT hc2 h
      refine Y_aload_n (j := 0) dX11_setCell_20 rfl rfl ?_
      refine Z_getr dX11_setCell_21 w3_52 (lk_1 hP) fr_11_0 (lr_1_0 hP) ?_
      refine Z_getr dX11_setCell_24 w1_70 (lk_2 hP) fr_5_5 (lr_2_5 hP) ?_
      refine Y_iload_n (j := 1) dX11_setCell_27 rfl rfl ?_
      obtain ⟨hb1, h⟩ := okE h
      refine Y_iald dX11_setCell_28 (lk_8 hP) (ln_8 hP) hb1 ?_
      refine Y_iload_n (j := 2) dX11_setCell_29 rfl rfl ?_
      refine Y_icmp_ne (tgt := 35) dX11_setCell_30 (by decide) (fun hc3 => ?_) (fun hc3 => ?_)
      · replace h := ifF hc3 h
        refine Y_aload_n (j := 0) dX11_setCell_35 rfl rfl ?_
        refine Z_getr dX11_setCell_36 w3_52 (lk_1 hP) fr_11_0 (lr_1_0 hP) ?_
        refine Z_getr dX11_setCell_39 w1_70 (lk_2 hP) fr_5_5 (lr_2_5 hP) ?_
        refine Y_iload_n (j := 1) dX11_setCell_42 rfl rfl ?_
        refine Y_iload_n (j := 2) dX11_setCell_43 rfl rfl ?_
        obtain ⟨hb2, h⟩ := okE h
        refine Y_iast dX11_setCell_44 (lk_8 hP) (ln_8 hP) hb2 ?_
        obtain ⟨M1, eM1, h⟩ := bndE h
        refine VV.mem eM1 ?_
        have hP1 := hP.wI eM1
        refine Y_aload_n (j := 0) dX11_setCell_45 rfl rfl ?_
        refine Z_getr dX11_setCell_46 w3_56 (lk_1 hP1) fr_11_4 (lr_1_4 hP1) ?_
        refine Z_getr dX11_setCell_49 w3_12 (lk_38 hP1) fr_10_4 (lr_38_4 hP1) ?_
        refine Y_bipush (v := (107 : Int32)) dX11_setCell_52 rfl ?_
        refine Y_iload_n (j := 1) dX11_setCell_54 rfl rfl ?_
        obtain ⟨y1, qy1, h⟩ := bindE h
        have cy1 := v_X1_throwThoseWith hP1 qy1
        refine C_V2r dX11_setCell_55 w4_218 i_X1_throwThoseWith (lk_67 hP1) ⟨Nat.le_of_ble_eq_true rfl, Nat.le_of_ble_eq_true rfl⟩ rfl (Nat.le_of_ble_eq_true rfl) (Nat.le_of_ble_eq_true rfl) (Nat.le_of_ble_eq_true rfl) (cy1) ?_
        have hPy1 := cy1.1.1
        cases h
        exact Y_iret rfl rfl dX11_setCell_58 hPy1 ⟨_, rfl, rfl, rfl⟩
      · replace h := ifT hc3 h
        refine Y_iconst (v := (0 : Int32)) dX11_setCell_33 rfl ?_
        cases h
        exact Y_iret rfl rfl dX11_setCell_34 hP ⟨_, rfl, rfl, rfl⟩
    · replace h := ifF hc2 h
      refine VV.sub [] rfl ?_
      exact b_X11_setCell_10  hP h
theorem v_X11_setCell {x1 : Int32} {x2 : Int32} {M z} (hP : Lay M) (h : d_X11_setCell x1 x2 M = some z) : CC Lay k_X11_setCell [.ref 1, .int x1, .int x2] M z.2 (QS (fun v => some (.int v)) z) (XS z) :=
  CC.ofVV (by decide) rfl (Nat.le_of_ble_eq_true rfl) (b_X11_setCell hP h)
noncomputable def d_X11_setLimits_35 (M : Mem) : Option ((Int32 ⊕ String) × Mem) :=
  some (.inr "java/lang/IllegalArgumentException", tk M 6)
theorem b_X11_setLimits_35 {M z} (hP : Lay M) (h : d_X11_setLimits_35 M = some z) : VV Lay k_X11_setLimits 35 [] [] M z.2 (QS (fun v => some (.int v)) z) (XS z) := by
  unfold d_X11_setLimits_35 at h
  cases h
  exact Y_throw_IllegalArgumentException rfl w3_128 (mi := 14) rfl dX11_setLimits_35 dX11_setLimits_38 dX11_setLimits_39 dX11_setLimits_41 dX11_setLimits_44 (hP.wT rfl) ⟨rfl, rfl⟩
noncomputable def d_X11_setLimits (x1 : Int32) (x2 : Int32) (x3 : Int32) (M : Mem) : Option ((Int32 ⊕ String) × Mem) :=
  if x1 < (2 : Int32) then (
    d_X11_setLimits_35 M)
  else (
    if (50 : Int32) < x1 then (
      d_X11_setLimits_35 M)
    else (
      if x2 < (1 : Int32) then (
        d_X11_setLimits_35 M)
      else (
        if (20 : Int32) < x2 then (
          d_X11_setLimits_35 M)
        else (
          if x3 < (10 : Int32) then (
            d_X11_setLimits_35 M)
          else (
            if x3 ≤ (200 : Int32) then (
              bnd (sI M 38 5 x1) fun M1 =>
              bnd (sI M1 38 6 x2) fun M2 =>
              bnd (sI M2 67 4 x3) fun M3 =>
              (d_X1_shrink M3).bind fun y1 =>
              some (.inl y1.1, y1.2))
            else (
              d_X11_setLimits_35 M))))))
theorem b_X11_setLimits {x1 : Int32} {x2 : Int32} {x3 : Int32} {M z} (hP : Lay M) (h : d_X11_setLimits x1 x2 x3 M = some z) : VV Lay k_X11_setLimits 0 [(0, .ref 1), (1, .int x1), (2, .int x2), (3, .int x3)] [] M z.2 (QS (fun v => some (.int v)) z) (XS z) := by
  unfold d_X11_setLimits at h
  refine Y_iload_n (j := 1) dX11_setLimits_0 rfl rfl ?_
  refine Y_iconst (v := (2 : Int32)) dX11_setLimits_1 rfl ?_
  refine Y_icmp_lt (tgt := 35) dX11_setLimits_2 (by decide) (fun hc1 => ?_) (fun hc1 => ?_)
  · replace h := ifT hc1 h
    refine VV.sub [] rfl ?_
    exact b_X11_setLimits_35  hP h
  · replace h := ifF hc1 h
    refine Y_iload_n (j := 1) dX11_setLimits_5 rfl rfl ?_
    refine Y_bipush (v := (50 : Int32)) dX11_setLimits_6 rfl ?_
    refine Y_icmp_gt (tgt := 35) dX11_setLimits_8 (by decide) (fun hc2 => ?_) (fun hc2 => ?_)
    · replace h := ifT hc2 h
      refine VV.sub [] rfl ?_
      exact b_X11_setLimits_35  hP h
    · replace h := ifF hc2 h
      refine Y_iload_n (j := 2) dX11_setLimits_11 rfl rfl ?_
      refine Y_iconst (v := (1 : Int32)) dX11_setLimits_12 rfl ?_
      refine Y_icmp_lt (tgt := 35) dX11_setLimits_13 (by decide) (fun hc3 => ?_) (fun hc3 => ?_)
      · replace h := ifT hc3 h
        refine VV.sub [] rfl ?_
        exact b_X11_setLimits_35  hP h
      · replace h := ifF hc3 h
        refine Y_iload_n (j := 2) dX11_setLimits_16 rfl rfl ?_
        refine Y_bipush (v := (20 : Int32)) dX11_setLimits_17 rfl ?_
        refine Y_icmp_gt (tgt := 35) dX11_setLimits_19 (by decide) (fun hc4 => ?_) (fun hc4 => ?_)
        · replace h := ifT hc4 h
          refine VV.sub [] rfl ?_
          exact b_X11_setLimits_35  hP h
        · replace h := ifF hc4 h
          refine Y_iload_n (j := 3) dX11_setLimits_22 rfl rfl ?_
          refine Y_bipush (v := (10 : Int32)) dX11_setLimits_23 rfl ?_
          refine Y_icmp_lt (tgt := 35) dX11_setLimits_25 (by decide) (fun hc5 => ?_) (fun hc5 => ?_)
          · replace h := ifT hc5 h
            refine VV.sub [] rfl ?_
            exact b_X11_setLimits_35  hP h
          · replace h := ifF hc5 h
            refine Y_iload_n (j := 3) dX11_setLimits_28 rfl rfl ?_
            refine Y_sipush (v := (200 : Int32)) dX11_setLimits_29 rfl ?_
            refine Y_icmp_le (tgt := 45) dX11_setLimits_32 (by decide) (fun hc6 => ?_) (fun hc6 => ?_)
            · replace h := ifT hc6 h
              refine Y_aload_n (j := 0) dX11_setLimits_45 rfl rfl ?_
              refine Z_getr dX11_setLimits_46 w3_56 (lk_1 hP) fr_11_4 (lr_1_4 hP) ?_
              refine Y_iload_n (j := 1) dX11_setLimits_49 rfl rfl ?_
              refine Z_puti dX11_setLimits_50 w3_14 (lk_38 hP) fi_10_5 (Or.inl rfl) rfl ?_
              obtain ⟨M1, eM1, h⟩ := bndE h
              refine VV.mem eM1 ?_
              have hP1 := hP.wI eM1
              refine Y_aload_n (j := 0) dX11_setLimits_53 rfl rfl ?_
              refine Z_getr dX11_setLimits_54 w3_56 (lk_1 hP1) fr_11_4 (lr_1_4 hP1) ?_
              refine Y_iload_n (j := 2) dX11_setLimits_57 rfl rfl ?_
              refine Z_puti dX11_setLimits_58 w3_16 (lk_38 hP1) fi_10_6 (Or.inl rfl) rfl ?_
              obtain ⟨M2, eM2, h⟩ := bndE h
              refine VV.mem eM2 ?_
              have hP2 := hP1.wI eM2
              refine Y_aload_n (j := 0) dX11_setLimits_61 rfl rfl ?_
              refine Z_getr dX11_setLimits_62 w3_56 (lk_1 hP2) fr_11_4 (lr_1_4 hP2) ?_
              refine Z_getr dX11_setLimits_65 w3_12 (lk_38 hP2) fr_10_4 (lr_38_4 hP2) ?_
              refine Y_iload_n (j := 3) dX11_setLimits_68 rfl rfl ?_
              refine Z_puti dX11_setLimits_69 w2_230 (lk_67 hP2) fi_2_4 (Or.inl rfl) rfl ?_
              obtain ⟨M3, eM3, h⟩ := bndE h
              refine VV.mem eM3 ?_
              have hP3 := hP2.wI eM3
              refine Y_aload_n (j := 0) dX11_setLimits_72 rfl rfl ?_
              refine Z_getr dX11_setLimits_73 w3_56 (lk_1 hP3) fr_11_4 (lr_1_4 hP3) ?_
              refine Z_getr dX11_setLimits_76 w3_12 (lk_38 hP3) fr_10_4 (lr_38_4 hP3) ?_
              obtain ⟨y1, qy1, h⟩ := bindE h
              have cy1 := v_X1_shrink hP3 qy1
              refine C_V0r dX11_setLimits_79 w5_10 i_X1_shrink (lk_67 hP3) ⟨Nat.le_of_ble_eq_true rfl, Nat.le_of_ble_eq_true rfl⟩ rfl (Nat.le_of_ble_eq_true rfl) (Nat.le_of_ble_eq_true rfl) (Nat.le_of_ble_eq_true rfl) (cy1) ?_
              have hPy1 := cy1.1.1
              cases h
              exact Y_iret rfl rfl dX11_setLimits_82 hPy1 ⟨_, rfl, rfl, rfl⟩
            · replace h := ifF hc6 h
              refine VV.sub [] rfl ?_
              exact b_X11_setLimits_35  hP h
theorem v_X11_setLimits {x1 : Int32} {x2 : Int32} {x3 : Int32} {M z} (hP : Lay M) (h : d_X11_setLimits x1 x2 x3 M = some z) : CC Lay k_X11_setLimits [.ref 1, .int x1, .int x2, .int x3] M z.2 (QS (fun v => some (.int v)) z) (XS z) :=
  CC.ofVV (by decide) rfl (Nat.le_of_ble_eq_true rfl) (b_X11_setLimits hP h)
noncomputable def d_X11_run_138 (M : Mem) : Option ((Int32 ⊕ String) × Mem) :=
  (d_X10_breakOff M).bind fun y1 =>
  (d_X3_endedLike y1.2).bind fun y2 =>
  okk (isBo y2.1) <|
  bnd (sI y2.2 1 5 y2.1) fun M1 =>
  some (.inl (mI M1 18 12), M1)
theorem b_X11_run_138 {M z} (hP : Lay M) (h : d_X11_run_138 M = some z) : VV Lay k_X11_run 138 [(0, .ref 1)] [] M z.2 (QS (fun v => some (.int v)) z) (XS z) := by
  unfold d_X11_run_138 at h
  refine Y_aload_n (j := 0) dX11_run_138 rfl rfl ?_
  refine Z_getr dX11_run_139 w3_56 (lk_1 hP) fr_11_4 (lr_1_4 hP) ?_
  obtain ⟨y1, qy1, h⟩ := bindE h
  have cy1 := v_X10_breakOff hP qy1
  refine C_V0o dX11_run_142 w6_229 i_X10_breakOff (lk_38 hP) ⟨Nat.le_of_ble_eq_true rfl, Nat.le_of_ble_eq_true rfl⟩ rfl (Nat.le_of_ble_eq_true rfl) (Nat.le_of_ble_eq_true rfl) (Nat.le_of_ble_eq_true rfl) (cy1) ?_
  have hPy1 := cy1.1.1
  refine Y_aload_n (j := 0) dX11_run_145 rfl rfl ?_
  refine Y_aload_n (j := 0) dX11_run_146 rfl rfl ?_
  refine Z_getr dX11_run_147 w3_54 (lk_1 hPy1) fr_11_2 (lr_1_2 hPy1) ?_
  refine Y_aload_n (j := 0) dX11_run_150 rfl rfl ?_
  refine Z_getr dX11_run_151 w3_55 (lk_1 hPy1) fr_11_3 (lr_1_3 hPy1) ?_
  obtain ⟨y2, qy2, h⟩ := bindE h
  have cy2 := v_X3_endedLike hPy1 qy2
  refine C_V1r dX11_run_154 w6_230 i_X3_endedLike (lk_18 hPy1) ⟨Nat.le_of_ble_eq_true rfl, Nat.le_of_ble_eq_true rfl⟩ rfl (Nat.le_of_ble_eq_true rfl) (Nat.le_of_ble_eq_true rfl) (Nat.le_of_ble_eq_true rfl) (cy2) ?_
  have hPy2 := cy2.1.1
  obtain ⟨hb1, h⟩ := okE h
  refine Z_putz dX11_run_157 w3_57 (lk_1 hPy2) fi_11_5 (Or.inl rfl) rfl hb1 ?_
  obtain ⟨M1, eM1, h⟩ := bndE h
  refine VV.mem eM1 ?_
  have hP1 := hPy2.wI eM1
  refine Y_aload_n (j := 0) dX11_run_160 rfl rfl ?_
  refine Z_getr dX11_run_161 w3_54 (lk_1 hP1) fr_11_2 (lr_1_2 hP1) ?_
  refine Z_geti dX11_run_164 w1_192 (lk_18 hP1) fi_4_12 ?_
  cases h
  exact Y_iret rfl rfl dX11_run_167 hP1 ⟨_, rfl, rfl, rfl⟩
noncomputable def d_X11_run_132 (k78 : (Int32) → Mem → Option ((Int32 ⊕ String) × Mem)) (x4 : Int32) (M : Mem) : Option ((Int32 ⊕ String) × Mem) :=
  bnd ((x4 + (1 : Int32))) fun b1 =>
  k78 (b1) M
theorem b_X11_run_132 {k78 : (Int32) → Mem → Option ((Int32 ⊕ String) × Mem)} {x4 : Int32} {M z} (hk78 : ∀ (a : (Int32)) (M : Mem) (z : (Int32 ⊕ String) × Mem), Lay M → k78 a M = some z → VV Lay k_X11_run 78 [(0, .ref 1), (4, .int a)] [] M z.2 (QS (fun v => some (.int v)) z) (XS z)) (hP : Lay M) (h : d_X11_run_132 k78 x4 M = some z) : VV Lay k_X11_run 132 [(0, .ref 1), (4, .int x4)] [] M z.2 (QS (fun v => some (.int v)) z) (XS z) := by
  unfold d_X11_run_132 at h
  obtain ⟨b1, eb1, h⟩ := bndE h
  refine Y_iinc (j := 1) (v := b1) (lv1 := [(4, .int b1), (0, .ref 1)]) dX11_run_132 rfl eb1.symm (by decide) rfl ?_
  refine Y_goto (tgt := 78) dX11_run_135 (by decide) ?_
  refine VV.sub [1, 0] rfl ?_
  exact hk78 _ _ _ hP h
noncomputable def d_X11_run_78b (k78 : (Int32) → Mem → Option ((Int32 ⊕ String) × Mem)) (x4 : Int32) (M : Mem) : Option ((Int32 ⊕ String) × Mem) :=
  if (1000000 : Int32) ≤ x4 then (
    d_X11_run_138 M)
  else (
    (d_X3_isRunning 18 M).bind fun y1 =>
    if y1.1 = 0 then (
      d_X11_run_138 y1.2)
    else (
      if (mI y1.2 38 8) = 0 then (
        (d_X10_canExecute y1.2).bind fun y2 =>
        if y2.1 = 0 then (
          d_X11_run_132 k78 x4 y2.2)
        else (
          (d_X10_executeOutside y2.2).bind fun y3 =>
          d_X11_run_132 k78 x4 y3.2))
      else (
        (d_X10_turnInTrace y1.2).bind fun y4 =>
        d_X11_run_132 k78 x4 y4.2)))
theorem b_X11_run_78b {k78 : (Int32) → Mem → Option ((Int32 ⊕ String) × Mem)} {x4 : Int32} {M z} (hk78 : ∀ (a : (Int32)) (M : Mem) (z : (Int32 ⊕ String) × Mem), Lay M → k78 a M = some z → VV Lay k_X11_run 78 [(0, .ref 1), (4, .int a)] [] M z.2 (QS (fun v => some (.int v)) z) (XS z)) (hP : Lay M) (h : d_X11_run_78b k78 x4 M = some z) : VV Lay k_X11_run 78 [(0, .ref 1), (4, .int x4)] [] M z.2 (QS (fun v => some (.int v)) z) (XS z) := by
  unfold d_X11_run_78b at h
  refine Y_iload (j := 1) dX11_run_78 rfl ?_
  refine Y_ldc dX11_run_80 w6_60 ?_
  refine Y_icmp_ge (tgt := 138) dX11_run_82 (by decide) (fun hc1 => ?_) (fun hc1 => ?_)
  · replace h := ifT hc1 h
    refine VV.sub [0] rfl ?_
    exact b_X11_run_138  hP h
  · replace h := ifF hc1 h
    refine Y_aload_n (j := 0) dX11_run_85 rfl rfl ?_
    refine Z_getr dX11_run_86 w3_54 (lk_1 hP) fr_11_2 (lr_1_2 hP) ?_
    obtain ⟨y1, qy1, h⟩ := bindE h
    have cy1 := v_X3_isRunning (Or.inl rfl) hP qy1
    refine C_V0r dX11_run_89 w6_61 i_X3_isRunning (lk_18 hP) ⟨Nat.le_of_ble_eq_true rfl, Nat.le_of_ble_eq_true rfl⟩ rfl (Nat.le_of_ble_eq_true rfl) (Nat.le_of_ble_eq_true rfl) (Nat.le_of_ble_eq_true rfl) (cy1) ?_
    have hPy1 := cy1.1.1
    refine Y_if_eq (tgt := 138) dX11_run_92 (by decide) (fun hc2 => ?_) (fun hc2 => ?_)
    · replace h := ifT hc2 h
      refine VV.sub [0] rfl ?_
      exact b_X11_run_138  hPy1 h
    · replace h := ifF hc2 h
      refine Y_aload_n (j := 0) dX11_run_95 rfl rfl ?_
      refine Z_getr dX11_run_96 w3_56 (lk_1 hPy1) fr_11_4 (lr_1_4 hPy1) ?_
      refine Z_geti dX11_run_99 w3_20 (lk_38 hPy1) fi_10_8 ?_
      refine Y_if_eq (tgt := 115) dX11_run_102 (by decide) (fun hc3 => ?_) (fun hc3 => ?_)
      · replace h := ifT hc3 h
        refine Y_aload_n (j := 0) dX11_run_115 rfl rfl ?_
        refine Z_getr dX11_run_116 w3_56 (lk_1 hPy1) fr_11_4 (lr_1_4 hPy1) ?_
        obtain ⟨y2, qy2, h⟩ := bindE h
        have cy2 := v_X10_canExecute hPy1 qy2
        refine C_V0r dX11_run_119 w6_98 i_X10_canExecute (lk_38 hPy1) ⟨Nat.le_of_ble_eq_true rfl, Nat.le_of_ble_eq_true rfl⟩ rfl (Nat.le_of_ble_eq_true rfl) (Nat.le_of_ble_eq_true rfl) (Nat.le_of_ble_eq_true rfl) (cy2) ?_
        have hPy2 := cy2.1.1
        refine Y_if_eq (tgt := 132) dX11_run_122 (by decide) (fun hc4 => ?_) (fun hc4 => ?_)
        · replace h := ifT hc4 h
          refine VV.sub [0, 1] rfl ?_
          exact b_X11_run_132 hk78 hPy2 h
        · replace h := ifF hc4 h
          refine Y_aload_n (j := 0) dX11_run_125 rfl rfl ?_
          refine Z_getr dX11_run_126 w3_56 (lk_1 hPy2) fr_11_4 (lr_1_4 hPy2) ?_
          obtain ⟨y3, qy3, h⟩ := bindE h
          have cy3 := v_X10_executeOutside hPy2 qy3
          refine C_V0o dX11_run_129 w6_120 i_X10_executeOutside (lk_38 hPy2) ⟨Nat.le_of_ble_eq_true rfl, Nat.le_of_ble_eq_true rfl⟩ rfl (Nat.le_of_ble_eq_true rfl) (Nat.le_of_ble_eq_true rfl) (Nat.le_of_ble_eq_true rfl) (cy3) ?_
          have hPy3 := cy3.1.1
          refine VV.sub [0, 1] rfl ?_
          exact b_X11_run_132 hk78 hPy3 h
      · replace h := ifF hc3 h
        refine Y_aload_n (j := 0) dX11_run_105 rfl rfl ?_
        refine Z_getr dX11_run_106 w3_56 (lk_1 hPy1) fr_11_4 (lr_1_4 hPy1) ?_
        obtain ⟨y4, qy4, h⟩ := bindE h
        have cy4 := v_X10_turnInTrace hPy1 qy4
        refine C_V0o dX11_run_109 w6_62 i_X10_turnInTrace (lk_38 hPy1) ⟨Nat.le_of_ble_eq_true rfl, Nat.le_of_ble_eq_true rfl⟩ rfl (Nat.le_of_ble_eq_true rfl) (Nat.le_of_ble_eq_true rfl) (Nat.le_of_ble_eq_true rfl) (cy4) ?_
        have hPy4 := cy4.1.1
        refine Y_goto (tgt := 132) dX11_run_112 (by decide) ?_
        refine VV.sub [0, 1] rfl ?_
        exact b_X11_run_132 hk78 hPy4 h
noncomputable def d_X11_run_78 : Nat → (Int32) → Mem → Option ((Int32 ⊕ String) × Mem) := lp fun k a M => d_X11_run_78b k a M
theorem b_X11_run_78 (n : Nat) : ∀ (a : (Int32)) (M : Mem) (z : (Int32 ⊕ String) × Mem), d_X11_run_78 n a M = some z → Lay M → VV Lay k_X11_run 78 [(0, .ref 1), (4, .int a)] [] M z.2 (QS (fun v => some (.int v)) z) (XS z) :=
  lp_ind (fun k hk a M z h hP => b_X11_run_78b  (fun a M z hP h => hk a M z h hP) hP h) n
noncomputable def d_X11_run (x1 : Int32) (x2 : Int32) (M : Mem) : Option ((Int32 ⊕ String) × Mem) :=
  (d_X11_needFunction x1 M).bind fun y1 => match y1 with
  | (.inl y1, N1) => (
    okk (vp_in x1 8) <|
    if (mI N1 3 x1.toNatClampNeg) = 0 then (
      some (.inr "java/lang/UnsupportedOperationException", tk N1 6))
    else (
      bnd ((mI N1 11 6)) fun b1 =>
      (d_X3_begin 28 x1 x2 N1).bind fun y2 =>
      (d_X3_runOut 28 y2.2).bind fun y3 =>
      (d_X7_takeBack b1 y3.2).bind fun y4 =>
      (d_X3_begin 18 x1 x2 y4.2).bind fun y5 =>
      (d_X10_begin y5.2).bind fun y6 =>
      d_X11_run_78 fuel ((0 : Int32)) y6.2))
  | (.inr E1, N1) => (
    some (.inr E1, N1))
theorem b_X11_run {x1 : Int32} {x2 : Int32} {M z} (hP : Lay M) (h : d_X11_run x1 x2 M = some z) : VV Lay k_X11_run 0 [(0, .ref 1), (1, .int x1), (2, .int x2)] [] M z.2 (QS (fun v => some (.int v)) z) (XS z) := by
  unfold d_X11_run at h
  refine Y_aload_n (j := 0) dX11_run_0 rfl rfl ?_
  refine Y_iload_n (j := 1) dX11_run_1 rfl rfl ?_
  obtain ⟨y1, qy1, h⟩ := bindE h
  have cy1 := v_X11_needFunction hP qy1
  have hPN1 := cy1.1.1
  obtain ⟨y1 | E1, N1⟩ := y1
  · replace h := id h
    refine C_V1o dX11_run_2 w4_11 i_X11_needFunction (lk_1 hP) ⟨Nat.le_of_ble_eq_true rfl, Nat.le_of_ble_eq_true rfl⟩ rfl (Nat.le_of_ble_eq_true rfl) (Nat.le_of_ble_eq_true rfl) (Nat.le_of_ble_eq_true rfl) (cy1.mono id (QSl rfl) (XSl rfl)) ?_
    refine Y_aload_n (j := 0) dX11_run_5 rfl rfl ?_
    refine Z_getr dX11_run_6 w3_52 (lk_1 hPN1) fr_11_0 (lr_1_0 hPN1) ?_
    refine Z_getr dX11_run_9 w1_53 (lk_2 hPN1) fr_5_0 (lr_2_0 hPN1) ?_
    refine Y_iload_n (j := 1) dX11_run_12 rfl rfl ?_
    obtain ⟨hb1, h⟩ := okE h
    refine Y_iald dX11_run_13 (lk_3 hPN1) (ln_3 hPN1) hb1 ?_
    refine Y_if_ne (tgt := 27) dX11_run_14 (by decide) (fun hc1 => ?_) (fun hc1 => ?_)
    · replace h := ifF hc1 h
      refine Y_aload_n (j := 0) dX11_run_27 rfl rfl ?_
      refine Z_getr dX11_run_28 w3_53 (lk_1 hPN1) fr_11_1 (lr_1_1 hPN1) ?_
      refine Z_geti dX11_run_31 w1_121 (lk_11 hPN1) fi_7_6 ?_
      obtain ⟨b1, eb1, h⟩ := bndE h
      refine VV.topI eb1 ?_
      refine Y_istore_n (lv1 := [(3, .int b1), (0, .ref 1), (1, .int x1), (2, .int x2)]) dX11_run_34 rfl (by decide) rfl ?_
      refine Y_aload_n (j := 1) dX11_run_35 rfl rfl ?_
      refine Z_getr dX11_run_36 w3_55 (lk_1 hPN1) fr_11_3 (lr_1_3 hPN1) ?_
      refine Y_iload_n (j := 2) dX11_run_39 rfl rfl ?_
      refine Y_iload_n (j := 3) dX11_run_40 rfl rfl ?_
      obtain ⟨y2, qy2, h⟩ := bindE h
      have cy2 := v_X3_begin (Or.inr rfl) hPN1 qy2
      refine C_V2o dX11_run_41 w5_27 i_X3_begin (lk_28 hPN1) ⟨Nat.le_of_ble_eq_true rfl, Nat.le_of_ble_eq_true rfl⟩ rfl (Nat.le_of_ble_eq_true rfl) (Nat.le_of_ble_eq_true rfl) (Nat.le_of_ble_eq_true rfl) (cy2) ?_
      have hPy2 := cy2.1.1
      refine Y_aload_n (j := 1) dX11_run_44 rfl rfl ?_
      refine Z_getr dX11_run_45 w3_55 (lk_1 hPy2) fr_11_3 (lr_1_3 hPy2) ?_
      obtain ⟨y3, qy3, h⟩ := bindE h
      have cy3 := v_X3_runOut (Or.inr rfl) hPy2 qy3
      refine C_V0o dX11_run_48 w5_42 i_X3_runOut (lk_28 hPy2) ⟨Nat.le_of_ble_eq_true rfl, Nat.le_of_ble_eq_true rfl⟩ rfl (Nat.le_of_ble_eq_true rfl) (Nat.le_of_ble_eq_true rfl) (Nat.le_of_ble_eq_true rfl) (cy3) ?_
      have hPy3 := cy3.1.1
      refine Y_aload_n (j := 1) dX11_run_51 rfl rfl ?_
      refine Z_getr dX11_run_52 w3_53 (lk_1 hPy3) fr_11_1 (lr_1_1 hPy3) ?_
      refine Y_iload_n (j := 0) dX11_run_55 rfl rfl ?_
      obtain ⟨y4, qy4, h⟩ := bindE h
      have cy4 := v_X7_takeBack hPy3 qy4
      refine C_V1o dX11_run_56 w6_52 i_X7_takeBack (lk_11 hPy3) ⟨Nat.le_of_ble_eq_true rfl, Nat.le_of_ble_eq_true rfl⟩ rfl (Nat.le_of_ble_eq_true rfl) (Nat.le_of_ble_eq_true rfl) (Nat.le_of_ble_eq_true rfl) (cy4) ?_
      have hPy4 := cy4.1.1
      refine Y_aload_n (j := 1) dX11_run_59 rfl rfl ?_
      refine Z_getr dX11_run_60 w3_54 (lk_1 hPy4) fr_11_2 (lr_1_2 hPy4) ?_
      refine Y_iload_n (j := 2) dX11_run_63 rfl rfl ?_
      refine Y_iload_n (j := 3) dX11_run_64 rfl rfl ?_
      obtain ⟨y5, qy5, h⟩ := bindE h
      have cy5 := v_X3_begin (Or.inl rfl) hPy4 qy5
      refine C_V2o dX11_run_65 w5_27 i_X3_begin (lk_18 hPy4) ⟨Nat.le_of_ble_eq_true rfl, Nat.le_of_ble_eq_true rfl⟩ rfl (Nat.le_of_ble_eq_true rfl) (Nat.le_of_ble_eq_true rfl) (Nat.le_of_ble_eq_true rfl) (cy5) ?_
      have hPy5 := cy5.1.1
      refine Y_aload_n (j := 1) dX11_run_68 rfl rfl ?_
      refine Z_getr dX11_run_69 w3_56 (lk_1 hPy5) fr_11_4 (lr_1_4 hPy5) ?_
      obtain ⟨y6, qy6, h⟩ := bindE h
      have cy6 := v_X10_begin hPy5 qy6
      refine C_V0o dX11_run_72 w6_56 i_X10_begin (lk_38 hPy5) ⟨Nat.le_of_ble_eq_true rfl, Nat.le_of_ble_eq_true rfl⟩ rfl (Nat.le_of_ble_eq_true rfl) (Nat.le_of_ble_eq_true rfl) (Nat.le_of_ble_eq_true rfl) (cy6) ?_
      have hPy6 := cy6.1.1
      refine Y_iconst (v := (0 : Int32)) dX11_run_75 rfl ?_
      refine Y_istore (lv1 := [(4, .int (0 : Int32)), (3, .int b1), (0, .ref 1), (1, .int x1), (2, .int x2)]) dX11_run_76 (by decide) rfl ?_
      refine VV.sub [2, 0] rfl ?_
      exact b_X11_run_78  fuel _ _ _ h hPy6
    · replace h := ifT hc1 h
      cases h
      exact Y_throw_UnsupportedOperationException rfl w4_161 (mi := 15) rfl dX11_run_17 dX11_run_20 dX11_run_21 dX11_run_23 dX11_run_26 (hPN1.wT rfl) ⟨rfl, rfl⟩
  · replace h := id h
    cases h
    refine C_V1x dX11_run_2 w4_11 i_X11_needFunction (lk_1 hP) ⟨Nat.le_of_ble_eq_true rfl, Nat.le_of_ble_eq_true rfl⟩ rfl (Nat.le_of_ble_eq_true rfl) (Nat.le_of_ble_eq_true rfl) (Nat.le_of_ble_eq_true rfl) (cy1.mono id (QSr rfl) (XSr rfl)) ?_
    exact Y_out (by decide) hPN1 ⟨rfl, rfl⟩
theorem v_X11_run {x1 : Int32} {x2 : Int32} {M z} (hP : Lay M) (h : d_X11_run x1 x2 M = some z) : CC Lay k_X11_run [.ref 1, .int x1, .int x2] M z.2 (QS (fun v => some (.int v)) z) (XS z) :=
  CC.ofVV (by decide) rfl (Nat.le_of_ble_eq_true rfl) (b_X11_run hP h)
noncomputable def d_X11_outcome (M : Mem) : Option (Int32 × Mem) :=
  okk (isCh (mI M 18 13)) <|
  some ((mI M 18 13), M)
theorem b_X11_outcome {M z} (hP : Lay M) (h : d_X11_outcome M = some z) : VV Lay k_X11_outcome 0 [(0, .ref 1)] [] M z.2 (Qv (some (.int z.1)) z.2) xF := by
  unfold d_X11_outcome at h
  refine Y_aload_n (j := 0) dX11_outcome_0 rfl rfl ?_
  refine Z_getr dX11_outcome_1 w3_54 (lk_1 hP) fr_11_2 (lr_1_2 hP) ?_
  refine Z_geti dX11_outcome_4 w1_194 (lk_18 hP) fi_4_13 ?_
  obtain ⟨hb1, h⟩ := okE h
  cases h
  exact Y_iret rfl (nar_ch hb1) dX11_outcome_7 hP ⟨rfl, rfl⟩
theorem v_X11_outcome {M z} (hP : Lay M) (h : d_X11_outcome M = some z) : CC Lay k_X11_outcome [.ref 1] M z.2 (Qv (some (.int z.1)) z.2) xF :=
  CC.ofVV (by decide) rfl (Nat.le_of_ble_eq_true rfl) (b_X11_outcome hP h)
noncomputable def d_X11_resultKind (M : Mem) : Option ((Int32 ⊕ String) × Mem) :=
  (d_X11_needEnding (118 : Int32) M).bind fun y1 => match y1 with
  | (.inl y1, N1) => (
    okk (isCh (mI N1 20 548)) <|
    some (.inl (mI N1 20 548), N1))
  | (.inr E1, N1) => (
    some (.inr E1, N1))
theorem b_X11_resultKind {M z} (hP : Lay M) (h : d_X11_resultKind M = some z) : VV Lay k_X11_resultKind 0 [(0, .ref 1)] [] M z.2 (QS (fun v => some (.int v)) z) (XS z) := by
  unfold d_X11_resultKind at h
  refine Y_aload_n (j := 0) dX11_resultKind_0 rfl rfl ?_
  refine Y_bipush (v := (118 : Int32)) dX11_resultKind_1 rfl ?_
  obtain ⟨y1, qy1, h⟩ := bindE h
  have cy1 := v_X11_needEnding hP qy1
  have hPN1 := cy1.1.1
  obtain ⟨y1 | E1, N1⟩ := y1
  · replace h := id h
    refine C_V1o dX11_resultKind_3 w7_20 i_X11_needEnding (lk_1 hP) ⟨Nat.le_of_ble_eq_true rfl, Nat.le_of_ble_eq_true rfl⟩ rfl (Nat.le_of_ble_eq_true rfl) (Nat.le_of_ble_eq_true rfl) (Nat.le_of_ble_eq_true rfl) (cy1.mono id (QSl rfl) (XSl rfl)) ?_
    refine Y_aload_n (j := 0) dX11_resultKind_6 rfl rfl ?_
    refine Z_getr dX11_resultKind_7 w3_54 (lk_1 hPN1) fr_11_2 (lr_1_2 hPN1) ?_
    refine Z_getr dX11_resultKind_10 w1_173 (lk_18 hPN1) fr_4_2 (lr_18_2 hPN1) ?_
    refine Z_getr dX11_resultKind_13 w1_150 (lk_19 hPN1) fr_8_0 (lr_19_0 hPN1) ?_
    refine Y_sipush (v := (548 : Int32)) dX11_resultKind_16 rfl ?_
    refine Y_cald dX11_resultKind_19 (lk_20 hPN1) (ln_20 hPN1) (vp_lit (by decide)) ?_
    obtain ⟨hb1, h⟩ := okE h
    cases h
    exact Y_iret rfl (nar_ch hb1) dX11_resultKind_20 hPN1 ⟨_, rfl, rfl, rfl⟩
  · replace h := id h
    cases h
    refine C_V1x dX11_resultKind_3 w7_20 i_X11_needEnding (lk_1 hP) ⟨Nat.le_of_ble_eq_true rfl, Nat.le_of_ble_eq_true rfl⟩ rfl (Nat.le_of_ble_eq_true rfl) (Nat.le_of_ble_eq_true rfl) (Nat.le_of_ble_eq_true rfl) (cy1.mono id (QSr rfl) (XSr rfl)) ?_
    exact Y_out (by decide) hPN1 ⟨rfl, rfl⟩
theorem v_X11_resultKind {M z} (hP : Lay M) (h : d_X11_resultKind M = some z) : CC Lay k_X11_resultKind [.ref 1] M z.2 (QS (fun v => some (.int v)) z) (XS z) :=
  CC.ofVV (by decide) rfl (Nat.le_of_ble_eq_true rfl) (b_X11_resultKind hP h)
noncomputable def d_X11_result (M : Mem) : Option ((Int64 ⊕ String) × Mem) :=
  (d_X11_needEnding (118 : Int32) M).bind fun y1 => match y1 with
  | (.inl y1, N1) => (
    (d_X8_bitsAt 18 (548 : Int32) N1).bind fun y2 =>
    some (.inl y2.1, y2.2))
  | (.inr E1, N1) => (
    some (.inr E1, N1))
theorem b_X11_result {M z} (hP : Lay M) (h : d_X11_result M = some z) : VV Lay k_X11_result 0 [(0, .ref 1)] [] M z.2 (QS (fun v => some (.long v)) z) (XS z) := by
  unfold d_X11_result at h
  refine Y_aload_n (j := 0) dX11_result_0 rfl rfl ?_
  refine Y_bipush (v := (118 : Int32)) dX11_result_1 rfl ?_
  obtain ⟨y1, qy1, h⟩ := bindE h
  have cy1 := v_X11_needEnding hP qy1
  have hPN1 := cy1.1.1
  obtain ⟨y1 | E1, N1⟩ := y1
  · replace h := id h
    refine C_V1o dX11_result_3 w7_20 i_X11_needEnding (lk_1 hP) ⟨Nat.le_of_ble_eq_true rfl, Nat.le_of_ble_eq_true rfl⟩ rfl (Nat.le_of_ble_eq_true rfl) (Nat.le_of_ble_eq_true rfl) (Nat.le_of_ble_eq_true rfl) (cy1.mono id (QSl rfl) (XSl rfl)) ?_
    refine Y_aload_n (j := 0) dX11_result_6 rfl rfl ?_
    refine Z_getr dX11_result_7 w3_54 (lk_1 hPN1) fr_11_2 (lr_1_2 hPN1) ?_
    refine Z_getr dX11_result_10 w1_173 (lk_18 hPN1) fr_4_2 (lr_18_2 hPN1) ?_
    refine Y_sipush (v := (548 : Int32)) dX11_result_13 rfl ?_
    obtain ⟨y2, qy2, h⟩ := bindE h
    have cy2 := v_X8_bitsAt (Or.inl rfl) hPN1 qy2
    refine C_V1r dX11_result_16 w7_32 i_X8_bitsAt (lk_19 hPN1) ⟨Nat.le_of_ble_eq_true rfl, Nat.le_of_ble_eq_true rfl⟩ rfl (Nat.le_of_ble_eq_true rfl) (Nat.le_of_ble_eq_true rfl) (Nat.le_of_ble_eq_true rfl) (cy2) ?_
    have hPy2 := cy2.1.1
    cases h
    exact Y_lret rfl dX11_result_19 hPy2 ⟨_, rfl, rfl, rfl⟩
  · replace h := id h
    cases h
    refine C_V1x dX11_result_3 w7_20 i_X11_needEnding (lk_1 hP) ⟨Nat.le_of_ble_eq_true rfl, Nat.le_of_ble_eq_true rfl⟩ rfl (Nat.le_of_ble_eq_true rfl) (Nat.le_of_ble_eq_true rfl) (Nat.le_of_ble_eq_true rfl) (cy1.mono id (QSr rfl) (XSr rfl)) ?_
    exact Y_out (by decide) hPN1 ⟨rfl, rfl⟩
theorem v_X11_result {M z} (hP : Lay M) (h : d_X11_result M = some z) : CC Lay k_X11_result [.ref 1] M z.2 (QS (fun v => some (.long v)) z) (XS z) :=
  CC.ofVV (by decide) rfl (Nat.le_of_ble_eq_true rfl) (b_X11_result hP h)
noncomputable def d_X11_failure (M : Mem) : Option ((Int32 ⊕ String) × Mem) :=
  (d_X11_needEnding (120 : Int32) M).bind fun y1 => match y1 with
  | (.inl y1, N1) => (
    okk (isCh (mI N1 18 14)) <|
    some (.inl (mI N1 18 14), N1))
  | (.inr E1, N1) => (
    some (.inr E1, N1))
theorem b_X11_failure {M z} (hP : Lay M) (h : d_X11_failure M = some z) : VV Lay k_X11_failure 0 [(0, .ref 1)] [] M z.2 (QS (fun v => some (.int v)) z) (XS z) := by
  unfold d_X11_failure at h
  refine Y_aload_n (j := 0) dX11_failure_0 rfl rfl ?_
  refine Y_bipush (v := (120 : Int32)) dX11_failure_1 rfl ?_
  obtain ⟨y1, qy1, h⟩ := bindE h
  have cy1 := v_X11_needEnding hP qy1
  have hPN1 := cy1.1.1
  obtain ⟨y1 | E1, N1⟩ := y1
  · replace h := id h
    refine C_V1o dX11_failure_3 w7_20 i_X11_needEnding (lk_1 hP) ⟨Nat.le_of_ble_eq_true rfl, Nat.le_of_ble_eq_true rfl⟩ rfl (Nat.le_of_ble_eq_true rfl) (Nat.le_of_ble_eq_true rfl) (Nat.le_of_ble_eq_true rfl) (cy1.mono id (QSl rfl) (XSl rfl)) ?_
    refine Y_aload_n (j := 0) dX11_failure_6 rfl rfl ?_
    refine Z_getr dX11_failure_7 w3_54 (lk_1 hPN1) fr_11_2 (lr_1_2 hPN1) ?_
    refine Z_geti dX11_failure_10 w1_196 (lk_18 hPN1) fi_4_14 ?_
    obtain ⟨hb1, h⟩ := okE h
    cases h
    exact Y_iret rfl (nar_ch hb1) dX11_failure_13 hPN1 ⟨_, rfl, rfl, rfl⟩
  · replace h := id h
    cases h
    refine C_V1x dX11_failure_3 w7_20 i_X11_needEnding (lk_1 hP) ⟨Nat.le_of_ble_eq_true rfl, Nat.le_of_ble_eq_true rfl⟩ rfl (Nat.le_of_ble_eq_true rfl) (Nat.le_of_ble_eq_true rfl) (Nat.le_of_ble_eq_true rfl) (cy1.mono id (QSr rfl) (XSr rfl)) ?_
    exact Y_out (by decide) hPN1 ⟨rfl, rfl⟩
theorem v_X11_failure {M z} (hP : Lay M) (h : d_X11_failure M = some z) : CC Lay k_X11_failure [.ref 1] M z.2 (QS (fun v => some (.int v)) z) (XS z) :=
  CC.ofVV (by decide) rfl (Nat.le_of_ble_eq_true rfl) (b_X11_failure hP h)
noncomputable def d_X11_line (M : Mem) : Option ((Int32 ⊕ String) × Mem) :=
  (d_X11_needEnding (120 : Int32) M).bind fun y1 => match y1 with
  | (.inl y1, N1) => (
    some (.inl (mI N1 18 15), N1))
  | (.inr E1, N1) => (
    some (.inr E1, N1))
theorem b_X11_line {M z} (hP : Lay M) (h : d_X11_line M = some z) : VV Lay k_X11_line 0 [(0, .ref 1)] [] M z.2 (QS (fun v => some (.int v)) z) (XS z) := by
  unfold d_X11_line at h
  refine Y_aload_n (j := 0) dX11_line_0 rfl rfl ?_
  refine Y_bipush (v := (120 : Int32)) dX11_line_1 rfl ?_
  obtain ⟨y1, qy1, h⟩ := bindE h
  have cy1 := v_X11_needEnding hP qy1
  have hPN1 := cy1.1.1
  obtain ⟨y1 | E1, N1⟩ := y1
  · replace h := id h
    refine C_V1o dX11_line_3 w7_20 i_X11_needEnding (lk_1 hP) ⟨Nat.le_of_ble_eq_true rfl, Nat.le_of_ble_eq_true rfl⟩ rfl (Nat.le_of_ble_eq_true rfl) (Nat.le_of_ble_eq_true rfl) (Nat.le_of_ble_eq_true rfl) (cy1.mono id (QSl rfl) (XSl rfl)) ?_
    refine Y_aload_n (j := 0) dX11_line_6 rfl rfl ?_
    refine Z_getr dX11_line_7 w3_54 (lk_1 hPN1) fr_11_2 (lr_1_2 hPN1) ?_
    refine Z_geti dX11_line_10 w1_198 (lk_18 hPN1) fi_4_15 ?_
    cases h
    exact Y_iret rfl rfl dX11_line_13 hPN1 ⟨_, rfl, rfl, rfl⟩
  · replace h := id h
    cases h
    refine C_V1x dX11_line_3 w7_20 i_X11_needEnding (lk_1 hP) ⟨Nat.le_of_ble_eq_true rfl, Nat.le_of_ble_eq_true rfl⟩ rfl (Nat.le_of_ble_eq_true rfl) (Nat.le_of_ble_eq_true rfl) (Nat.le_of_ble_eq_true rfl) (cy1.mono id (QSr rfl) (XSr rfl)) ?_
    exact Y_out (by decide) hPN1 ⟨rfl, rfl⟩
theorem v_X11_line {M z} (hP : Lay M) (h : d_X11_line M = some z) : CC Lay k_X11_line [.ref 1] M z.2 (QS (fun v => some (.int v)) z) (XS z) :=
  CC.ofVV (by decide) rfl (Nat.le_of_ble_eq_true rfl) (b_X11_line hP h)
noncomputable def d_X11_told (M : Mem) : Option (Int32 × Mem) :=
  some ((mI M 18 11), M)
theorem b_X11_told {M z} (hP : Lay M) (h : d_X11_told M = some z) : VV Lay k_X11_told 0 [(0, .ref 1)] [] M z.2 (Qv (some (.int z.1)) z.2) xF := by
  unfold d_X11_told at h
  refine Y_aload_n (j := 0) dX11_told_0 rfl rfl ?_
  refine Z_getr dX11_told_1 w3_54 (lk_1 hP) fr_11_2 (lr_1_2 hP) ?_
  refine Z_geti dX11_told_4 w1_190 (lk_18 hP) fi_4_11 ?_
  cases h
  exact Y_iret rfl rfl dX11_told_7 hP ⟨rfl, rfl⟩
theorem v_X11_told {M z} (hP : Lay M) (h : d_X11_told M = some z) : CC Lay k_X11_told [.ref 1] M z.2 (Qv (some (.int z.1)) z.2) xF :=
  CC.ofVV (by decide) rfl (Nat.le_of_ble_eq_true rfl) (b_X11_told hP h)
noncomputable def d_X11_toldKind (x1 : Int32) (M : Mem) : Option ((Int32 ⊕ String) × Mem) :=
  (d_X11_needTold x1 M).bind fun y1 => match y1 with
  | (.inl y1, N1) => (
    okk (vp_in ((528 : Int32) + x1) 549) <|
    okk (isCh (mI N1 20 ((528 : Int32) + x1).toNatClampNeg)) <|
    some (.inl (mI N1 20 ((528 : Int32) + x1).toNatClampNeg), N1))
  | (.inr E1, N1) => (
    some (.inr E1, N1))
theorem b_X11_toldKind {x1 : Int32} {M z} (hP : Lay M) (h : d_X11_toldKind x1 M = some z) : VV Lay k_X11_toldKind 0 [(0, .ref 1), (1, .int x1)] [] M z.2 (QS (fun v => some (.int v)) z) (XS z) := by
  unfold d_X11_toldKind at h
  refine Y_aload_n (j := 0) dX11_toldKind_0 rfl rfl ?_
  refine Y_iload_n (j := 1) dX11_toldKind_1 rfl rfl ?_
  obtain ⟨y1, qy1, h⟩ := bindE h
  have cy1 := v_X11_needTold hP qy1
  have hPN1 := cy1.1.1
  obtain ⟨y1 | E1, N1⟩ := y1
  · replace h := id h
    refine C_V1o dX11_toldKind_2 w7_69 i_X11_needTold (lk_1 hP) ⟨Nat.le_of_ble_eq_true rfl, Nat.le_of_ble_eq_true rfl⟩ rfl (Nat.le_of_ble_eq_true rfl) (Nat.le_of_ble_eq_true rfl) (Nat.le_of_ble_eq_true rfl) (cy1.mono id (QSl rfl) (XSl rfl)) ?_
    refine Y_aload_n (j := 0) dX11_toldKind_5 rfl rfl ?_
    refine Z_getr dX11_toldKind_6 w3_54 (lk_1 hPN1) fr_11_2 (lr_1_2 hPN1) ?_
    refine Z_getr dX11_toldKind_9 w1_173 (lk_18 hPN1) fr_4_2 (lr_18_2 hPN1) ?_
    refine Z_getr dX11_toldKind_12 w1_150 (lk_19 hPN1) fr_8_0 (lr_19_0 hPN1) ?_
    refine Y_sipush (v := (528 : Int32)) dX11_toldKind_15 rfl ?_
    refine Y_iload_n (j := 1) dX11_toldKind_18 rfl rfl ?_
    refine Y_iadd dX11_toldKind_19 ?_
    obtain ⟨hb1, h⟩ := okE h
    refine Y_cald dX11_toldKind_20 (lk_20 hPN1) (ln_20 hPN1) hb1 ?_
    obtain ⟨hb2, h⟩ := okE h
    cases h
    exact Y_iret rfl (nar_ch hb2) dX11_toldKind_21 hPN1 ⟨_, rfl, rfl, rfl⟩
  · replace h := id h
    cases h
    refine C_V1x dX11_toldKind_2 w7_69 i_X11_needTold (lk_1 hP) ⟨Nat.le_of_ble_eq_true rfl, Nat.le_of_ble_eq_true rfl⟩ rfl (Nat.le_of_ble_eq_true rfl) (Nat.le_of_ble_eq_true rfl) (Nat.le_of_ble_eq_true rfl) (cy1.mono id (QSr rfl) (XSr rfl)) ?_
    exact Y_out (by decide) hPN1 ⟨rfl, rfl⟩
theorem v_X11_toldKind {x1 : Int32} {M z} (hP : Lay M) (h : d_X11_toldKind x1 M = some z) : CC Lay k_X11_toldKind [.ref 1, .int x1] M z.2 (QS (fun v => some (.int v)) z) (XS z) :=
  CC.ofVV (by decide) rfl (Nat.le_of_ble_eq_true rfl) (b_X11_toldKind hP h)
noncomputable def d_X11_toldAt (x1 : Int32) (M : Mem) : Option ((Int64 ⊕ String) × Mem) :=
  (d_X11_needTold x1 M).bind fun y1 => match y1 with
  | (.inl y1, N1) => (
    (d_X8_bitsAt 18 ((528 : Int32) + x1) N1).bind fun y2 =>
    some (.inl y2.1, y2.2))
  | (.inr E1, N1) => (
    some (.inr E1, N1))
theorem b_X11_toldAt {x1 : Int32} {M z} (hP : Lay M) (h : d_X11_toldAt x1 M = some z) : VV Lay k_X11_toldAt 0 [(0, .ref 1), (1, .int x1)] [] M z.2 (QS (fun v => some (.long v)) z) (XS z) := by
  unfold d_X11_toldAt at h
  refine Y_aload_n (j := 0) dX11_toldAt_0 rfl rfl ?_
  refine Y_iload_n (j := 1) dX11_toldAt_1 rfl rfl ?_
  obtain ⟨y1, qy1, h⟩ := bindE h
  have cy1 := v_X11_needTold hP qy1
  have hPN1 := cy1.1.1
  obtain ⟨y1 | E1, N1⟩ := y1
  · replace h := id h
    refine C_V1o dX11_toldAt_2 w7_69 i_X11_needTold (lk_1 hP) ⟨Nat.le_of_ble_eq_true rfl, Nat.le_of_ble_eq_true rfl⟩ rfl (Nat.le_of_ble_eq_true rfl) (Nat.le_of_ble_eq_true rfl) (Nat.le_of_ble_eq_true rfl) (cy1.mono id (QSl rfl) (XSl rfl)) ?_
    refine Y_aload_n (j := 0) dX11_toldAt_5 rfl rfl ?_
    refine Z_getr dX11_toldAt_6 w3_54 (lk_1 hPN1) fr_11_2 (lr_1_2 hPN1) ?_
    refine Z_getr dX11_toldAt_9 w1_173 (lk_18 hPN1) fr_4_2 (lr_18_2 hPN1) ?_
    refine Y_sipush (v := (528 : Int32)) dX11_toldAt_12 rfl ?_
    refine Y_iload_n (j := 1) dX11_toldAt_15 rfl rfl ?_
    refine Y_iadd dX11_toldAt_16 ?_
    obtain ⟨y2, qy2, h⟩ := bindE h
    have cy2 := v_X8_bitsAt (Or.inl rfl) hPN1 qy2
    refine C_V1r dX11_toldAt_17 w7_32 i_X8_bitsAt (lk_19 hPN1) ⟨Nat.le_of_ble_eq_true rfl, Nat.le_of_ble_eq_true rfl⟩ rfl (Nat.le_of_ble_eq_true rfl) (Nat.le_of_ble_eq_true rfl) (Nat.le_of_ble_eq_true rfl) (cy2) ?_
    have hPy2 := cy2.1.1
    cases h
    exact Y_lret rfl dX11_toldAt_20 hPy2 ⟨_, rfl, rfl, rfl⟩
  · replace h := id h
    cases h
    refine C_V1x dX11_toldAt_2 w7_69 i_X11_needTold (lk_1 hP) ⟨Nat.le_of_ble_eq_true rfl, Nat.le_of_ble_eq_true rfl⟩ rfl (Nat.le_of_ble_eq_true rfl) (Nat.le_of_ble_eq_true rfl) (Nat.le_of_ble_eq_true rfl) (cy1.mono id (QSr rfl) (XSr rfl)) ?_
    exact Y_out (by decide) hPN1 ⟨rfl, rfl⟩
theorem v_X11_toldAt {x1 : Int32} {M z} (hP : Lay M) (h : d_X11_toldAt x1 M = some z) : CC Lay k_X11_toldAt [.ref 1, .int x1] M z.2 (QS (fun v => some (.long v)) z) (XS z) :=
  CC.ofVV (by decide) rfl (Nat.le_of_ble_eq_true rfl) (b_X11_toldAt hP h)
noncomputable def d_X11_objects (M : Mem) : Option (Int32 × Mem) :=
  some ((mI M 18 10), M)
theorem b_X11_objects {M z} (hP : Lay M) (h : d_X11_objects M = some z) : VV Lay k_X11_objects 0 [(0, .ref 1)] [] M z.2 (Qv (some (.int z.1)) z.2) xF := by
  unfold d_X11_objects at h
  refine Y_aload_n (j := 0) dX11_objects_0 rfl rfl ?_
  refine Z_getr dX11_objects_1 w3_54 (lk_1 hP) fr_11_2 (lr_1_2 hP) ?_
  refine Z_geti dX11_objects_4 w1_188 (lk_18 hP) fi_4_10 ?_
  cases h
  exact Y_iret rfl rfl dX11_objects_7 hP ⟨rfl, rfl⟩
theorem v_X11_objects {M z} (hP : Lay M) (h : d_X11_objects M = some z) : CC Lay k_X11_objects [.ref 1] M z.2 (Qv (some (.int z.1)) z.2) xF :=
  CC.ofVV (by decide) rfl (Nat.le_of_ble_eq_true rfl) (b_X11_objects hP h)
noncomputable def d_X11_shapeOf (x1 : Int32) (M : Mem) : Option ((Int32 ⊕ String) × Mem) :=
  (d_X11_needObject x1 M).bind fun y1 => match y1 with
  | (.inl y1, N1) => (
    okk (vp_in x1 60) <|
    some (.inl (mI N1 27 x1.toNatClampNeg), N1))
  | (.inr E1, N1) => (
    some (.inr E1, N1))
theorem b_X11_shapeOf {x1 : Int32} {M z} (hP : Lay M) (h : d_X11_shapeOf x1 M = some z) : VV Lay k_X11_shapeOf 0 [(0, .ref 1), (1, .int x1)] [] M z.2 (QS (fun v => some (.int v)) z) (XS z) := by
  unfold d_X11_shapeOf at h
  refine Y_aload_n (j := 0) dX11_shapeOf_0 rfl rfl ?_
  refine Y_iload_n (j := 1) dX11_shapeOf_1 rfl rfl ?_
  obtain ⟨y1, qy1, h⟩ := bindE h
  have cy1 := v_X11_needObject hP qy1
  have hPN1 := cy1.1.1
  obtain ⟨y1 | E1, N1⟩ := y1
  · replace h := id h
    refine C_V1o dX11_shapeOf_2 w7_88 i_X11_needObject (lk_1 hP) ⟨Nat.le_of_ble_eq_true rfl, Nat.le_of_ble_eq_true rfl⟩ rfl (Nat.le_of_ble_eq_true rfl) (Nat.le_of_ble_eq_true rfl) (Nat.le_of_ble_eq_true rfl) (cy1.mono id (QSl rfl) (XSl rfl)) ?_
    refine Y_aload_n (j := 0) dX11_shapeOf_5 rfl rfl ?_
    refine Z_getr dX11_shapeOf_6 w3_54 (lk_1 hPN1) fr_11_2 (lr_1_2 hPN1) ?_
    refine Z_getr dX11_shapeOf_9 w1_178 (lk_18 hPN1) fr_4_6 (lr_18_6 hPN1) ?_
    refine Y_iload_n (j := 1) dX11_shapeOf_12 rfl rfl ?_
    obtain ⟨hb1, h⟩ := okE h
    refine Y_iald dX11_shapeOf_13 (lk_27 hPN1) (ln_27 hPN1) hb1 ?_
    cases h
    exact Y_iret rfl rfl dX11_shapeOf_14 hPN1 ⟨_, rfl, rfl, rfl⟩
  · replace h := id h
    cases h
    refine C_V1x dX11_shapeOf_2 w7_88 i_X11_needObject (lk_1 hP) ⟨Nat.le_of_ble_eq_true rfl, Nat.le_of_ble_eq_true rfl⟩ rfl (Nat.le_of_ble_eq_true rfl) (Nat.le_of_ble_eq_true rfl) (Nat.le_of_ble_eq_true rfl) (cy1.mono id (QSr rfl) (XSr rfl)) ?_
    exact Y_out (by decide) hPN1 ⟨rfl, rfl⟩
theorem v_X11_shapeOf {x1 : Int32} {M z} (hP : Lay M) (h : d_X11_shapeOf x1 M = some z) : CC Lay k_X11_shapeOf [.ref 1, .int x1] M z.2 (QS (fun v => some (.int v)) z) (XS z) :=
  CC.ofVV (by decide) rfl (Nat.le_of_ble_eq_true rfl) (b_X11_shapeOf hP h)
noncomputable def d_X11_shapes (M : Mem) : Option (Int32 × Mem) :=
  some ((mI M 11 6), M)
theorem b_X11_shapes {M z} (hP : Lay M) (h : d_X11_shapes M = some z) : VV Lay k_X11_shapes 0 [(0, .ref 1)] [] M z.2 (Qv (some (.int z.1)) z.2) xF := by
  unfold d_X11_shapes at h
  refine Y_aload_n (j := 0) dX11_shapes_0 rfl rfl ?_
  refine Z_getr dX11_shapes_1 w3_53 (lk_1 hP) fr_11_1 (lr_1_1 hP) ?_
  refine Z_geti dX11_shapes_4 w1_121 (lk_11 hP) fi_7_6 ?_
  cases h
  exact Y_iret rfl rfl dX11_shapes_7 hP ⟨rfl, rfl⟩
theorem v_X11_shapes {M z} (hP : Lay M) (h : d_X11_shapes M = some z) : CC Lay k_X11_shapes [.ref 1] M z.2 (Qv (some (.int z.1)) z.2) xF :=
  CC.ofVV (by decide) rfl (Nat.le_of_ble_eq_true rfl) (b_X11_shapes hP h)
noncomputable def d_X11_fields (x1 : Int32) (M : Mem) : Option ((Int32 ⊕ String) × Mem) :=
  (d_X11_needShape x1 M).bind fun y1 => match y1 with
  | (.inl y1, N1) => (
    okk (vp_in x1 60) <|
    some (.inl (mI N1 13 x1.toNatClampNeg), N1))
  | (.inr E1, N1) => (
    some (.inr E1, N1))
theorem b_X11_fields {x1 : Int32} {M z} (hP : Lay M) (h : d_X11_fields x1 M = some z) : VV Lay k_X11_fields 0 [(0, .ref 1), (1, .int x1)] [] M z.2 (QS (fun v => some (.int v)) z) (XS z) := by
  unfold d_X11_fields at h
  refine Y_aload_n (j := 0) dX11_fields_0 rfl rfl ?_
  refine Y_iload_n (j := 1) dX11_fields_1 rfl rfl ?_
  obtain ⟨y1, qy1, h⟩ := bindE h
  have cy1 := v_X11_needShape hP qy1
  have hPN1 := cy1.1.1
  obtain ⟨y1 | E1, N1⟩ := y1
  · replace h := id h
    refine C_V1o dX11_fields_2 w7_110 i_X11_needShape (lk_1 hP) ⟨Nat.le_of_ble_eq_true rfl, Nat.le_of_ble_eq_true rfl⟩ rfl (Nat.le_of_ble_eq_true rfl) (Nat.le_of_ble_eq_true rfl) (Nat.le_of_ble_eq_true rfl) (cy1.mono id (QSl rfl) (XSl rfl)) ?_
    refine Y_aload_n (j := 0) dX11_fields_5 rfl rfl ?_
    refine Z_getr dX11_fields_6 w3_53 (lk_1 hPN1) fr_11_1 (lr_1_1 hPN1) ?_
    refine Z_getr dX11_fields_9 w1_111 (lk_11 hPN1) fr_7_1 (lr_11_1 hPN1) ?_
    refine Y_iload_n (j := 1) dX11_fields_12 rfl rfl ?_
    obtain ⟨hb1, h⟩ := okE h
    refine Y_iald dX11_fields_13 (lk_13 hPN1) (ln_13 hPN1) hb1 ?_
    cases h
    exact Y_iret rfl rfl dX11_fields_14 hPN1 ⟨_, rfl, rfl, rfl⟩
  · replace h := id h
    cases h
    refine C_V1x dX11_fields_2 w7_110 i_X11_needShape (lk_1 hP) ⟨Nat.le_of_ble_eq_true rfl, Nat.le_of_ble_eq_true rfl⟩ rfl (Nat.le_of_ble_eq_true rfl) (Nat.le_of_ble_eq_true rfl) (Nat.le_of_ble_eq_true rfl) (cy1.mono id (QSr rfl) (XSr rfl)) ?_
    exact Y_out (by decide) hPN1 ⟨rfl, rfl⟩
theorem v_X11_fields {x1 : Int32} {M z} (hP : Lay M) (h : d_X11_fields x1 M = some z) : CC Lay k_X11_fields [.ref 1, .int x1] M z.2 (QS (fun v => some (.int v)) z) (XS z) :=
  CC.ofVV (by decide) rfl (Nat.le_of_ble_eq_true rfl) (b_X11_fields hP h)
noncomputable def d_X11_cacheState (x1 : Int32) (x2 : Int32) (M : Mem) : Option ((Int32 ⊕ String) × Mem) :=
  (d_X11_cacheSite x1 x2 M).bind fun y1 => match y1 with
  | (.inl y1, N1) => (
    (d_X0_stateAt y1 N1).bind fun y2 =>
    okk (isCh y2.1) <|
    some (.inl y2.1, y2.2))
  | (.inr E1, N1) => (
    some (.inr E1, N1))
theorem b_X11_cacheState {x1 : Int32} {x2 : Int32} {M z} (hP : Lay M) (h : d_X11_cacheState x1 x2 M = some z) : VV Lay k_X11_cacheState 0 [(0, .ref 1), (1, .int x1), (2, .int x2)] [] M z.2 (QS (fun v => some (.int v)) z) (XS z) := by
  unfold d_X11_cacheState at h
  refine Y_aload_n (j := 0) dX11_cacheState_0 rfl rfl ?_
  refine Z_getr dX11_cacheState_1 w3_56 (lk_1 hP) fr_11_4 (lr_1_4 hP) ?_
  refine Z_getr dX11_cacheState_4 w3_7 (lk_38 hP) fr_10_1 (lr_38_1 hP) ?_
  refine Y_aload_n (j := 0) dX11_cacheState_7 rfl rfl ?_
  refine Y_iload_n (j := 1) dX11_cacheState_8 rfl rfl ?_
  refine Y_iload_n (j := 2) dX11_cacheState_9 rfl rfl ?_
  obtain ⟨y1, qy1, h⟩ := bindE h
  have cy1 := v_X11_cacheSite hP qy1
  have hPN1 := cy1.1.1
  obtain ⟨y1 | E1, N1⟩ := y1
  · replace h := id h
    refine C_V2r dX11_cacheState_10 w7_138 i_X11_cacheSite (lk_1 hP) ⟨Nat.le_of_ble_eq_true rfl, Nat.le_of_ble_eq_true rfl⟩ rfl (Nat.le_of_ble_eq_true rfl) (Nat.le_of_ble_eq_true rfl) (Nat.le_of_ble_eq_true rfl) (cy1.mono id (QSl rfl) (XSl rfl)) ?_
    obtain ⟨y2, qy2, h⟩ := bindE h
    have cy2 := v_X0_stateAt hPN1 qy2
    refine C_V1r dX11_cacheState_13 w7_145 i_X0_stateAt (lk_39 hPN1) ⟨Nat.le_of_ble_eq_true rfl, Nat.le_of_ble_eq_true rfl⟩ rfl (Nat.le_of_ble_eq_true rfl) (Nat.le_of_ble_eq_true rfl) (Nat.le_of_ble_eq_true rfl) (cy2) ?_
    have hPy2 := cy2.1.1
    obtain ⟨hb1, h⟩ := okE h
    cases h
    exact Y_iret rfl (nar_ch hb1) dX11_cacheState_16 hPy2 ⟨_, rfl, rfl, rfl⟩
  · replace h := id h
    cases h
    refine C_V2x dX11_cacheState_10 w7_138 i_X11_cacheSite (lk_1 hP) ⟨Nat.le_of_ble_eq_true rfl, Nat.le_of_ble_eq_true rfl⟩ rfl (Nat.le_of_ble_eq_true rfl) (Nat.le_of_ble_eq_true rfl) (Nat.le_of_ble_eq_true rfl) (cy1.mono id (QSr rfl) (XSr rfl)) ?_
    exact Y_out (by decide) hPN1 ⟨rfl, rfl⟩
theorem v_X11_cacheState {x1 : Int32} {x2 : Int32} {M z} (hP : Lay M) (h : d_X11_cacheState x1 x2 M = some z) : CC Lay k_X11_cacheState [.ref 1, .int x1, .int x2] M z.2 (QS (fun v => some (.int v)) z) (XS z) :=
  CC.ofVV (by decide) rfl (Nat.le_of_ble_eq_true rfl) (b_X11_cacheState hP h)
noncomputable def d_X11_hits (x1 : Int32) (x2 : Int32) (M : Mem) : Option ((Int32 ⊕ String) × Mem) :=
  (d_X11_cacheSite x1 x2 M).bind fun y1 => match y1 with
  | (.inl y1, N1) => (
    okk (vp_in y1 320) <|
    some (.inl (mI N1 42 y1.toNatClampNeg), N1))
  | (.inr E1, N1) => (
    some (.inr E1, N1))
theorem b_X11_hits {x1 : Int32} {x2 : Int32} {M z} (hP : Lay M) (h : d_X11_hits x1 x2 M = some z) : VV Lay k_X11_hits 0 [(0, .ref 1), (1, .int x1), (2, .int x2)] [] M z.2 (QS (fun v => some (.int v)) z) (XS z) := by
  unfold d_X11_hits at h
  refine Y_aload_n (j := 0) dX11_hits_0 rfl rfl ?_
  refine Z_getr dX11_hits_1 w3_56 (lk_1 hP) fr_11_4 (lr_1_4 hP) ?_
  refine Z_getr dX11_hits_4 w3_7 (lk_38 hP) fr_10_1 (lr_38_1 hP) ?_
  refine Z_getr dX11_hits_7 w2_7 (lk_39 hP) fr_1_2 (lr_39_2 hP) ?_
  refine Y_aload_n (j := 0) dX11_hits_10 rfl rfl ?_
  refine Y_iload_n (j := 1) dX11_hits_11 rfl rfl ?_
  refine Y_iload_n (j := 2) dX11_hits_12 rfl rfl ?_
  obtain ⟨y1, qy1, h⟩ := bindE h
  have cy1 := v_X11_cacheSite hP qy1
  have hPN1 := cy1.1.1
  obtain ⟨y1 | E1, N1⟩ := y1
  · replace h := id h
    refine C_V2r dX11_hits_13 w7_138 i_X11_cacheSite (lk_1 hP) ⟨Nat.le_of_ble_eq_true rfl, Nat.le_of_ble_eq_true rfl⟩ rfl (Nat.le_of_ble_eq_true rfl) (Nat.le_of_ble_eq_true rfl) (Nat.le_of_ble_eq_true rfl) (cy1.mono id (QSl rfl) (XSl rfl)) ?_
    obtain ⟨hb1, h⟩ := okE h
    refine Y_iald dX11_hits_16 (lk_42 hPN1) (ln_42 hPN1) hb1 ?_
    cases h
    exact Y_iret rfl rfl dX11_hits_17 hPN1 ⟨_, rfl, rfl, rfl⟩
  · replace h := id h
    cases h
    refine C_V2x dX11_hits_13 w7_138 i_X11_cacheSite (lk_1 hP) ⟨Nat.le_of_ble_eq_true rfl, Nat.le_of_ble_eq_true rfl⟩ rfl (Nat.le_of_ble_eq_true rfl) (Nat.le_of_ble_eq_true rfl) (Nat.le_of_ble_eq_true rfl) (cy1.mono id (QSr rfl) (XSr rfl)) ?_
    exact Y_out (by decide) hPN1 ⟨rfl, rfl⟩
theorem v_X11_hits {x1 : Int32} {x2 : Int32} {M z} (hP : Lay M) (h : d_X11_hits x1 x2 M = some z) : CC Lay k_X11_hits [.ref 1, .int x1, .int x2] M z.2 (QS (fun v => some (.int v)) z) (XS z) :=
  CC.ofVV (by decide) rfl (Nat.le_of_ble_eq_true rfl) (b_X11_hits hP h)
noncomputable def d_X11_misses (x1 : Int32) (x2 : Int32) (M : Mem) : Option ((Int32 ⊕ String) × Mem) :=
  (d_X11_cacheSite x1 x2 M).bind fun y1 => match y1 with
  | (.inl y1, N1) => (
    okk (vp_in y1 320) <|
    some (.inl (mI N1 43 y1.toNatClampNeg), N1))
  | (.inr E1, N1) => (
    some (.inr E1, N1))
theorem b_X11_misses {x1 : Int32} {x2 : Int32} {M z} (hP : Lay M) (h : d_X11_misses x1 x2 M = some z) : VV Lay k_X11_misses 0 [(0, .ref 1), (1, .int x1), (2, .int x2)] [] M z.2 (QS (fun v => some (.int v)) z) (XS z) := by
  unfold d_X11_misses at h
  refine Y_aload_n (j := 0) dX11_misses_0 rfl rfl ?_
  refine Z_getr dX11_misses_1 w3_56 (lk_1 hP) fr_11_4 (lr_1_4 hP) ?_
  refine Z_getr dX11_misses_4 w3_7 (lk_38 hP) fr_10_1 (lr_38_1 hP) ?_
  refine Z_getr dX11_misses_7 w2_9 (lk_39 hP) fr_1_3 (lr_39_3 hP) ?_
  refine Y_aload_n (j := 0) dX11_misses_10 rfl rfl ?_
  refine Y_iload_n (j := 1) dX11_misses_11 rfl rfl ?_
  refine Y_iload_n (j := 2) dX11_misses_12 rfl rfl ?_
  obtain ⟨y1, qy1, h⟩ := bindE h
  have cy1 := v_X11_cacheSite hP qy1
  have hPN1 := cy1.1.1
  obtain ⟨y1 | E1, N1⟩ := y1
  · replace h := id h
    refine C_V2r dX11_misses_13 w7_138 i_X11_cacheSite (lk_1 hP) ⟨Nat.le_of_ble_eq_true rfl, Nat.le_of_ble_eq_true rfl⟩ rfl (Nat.le_of_ble_eq_true rfl) (Nat.le_of_ble_eq_true rfl) (Nat.le_of_ble_eq_true rfl) (cy1.mono id (QSl rfl) (XSl rfl)) ?_
    obtain ⟨hb1, h⟩ := okE h
    refine Y_iald dX11_misses_16 (lk_43 hPN1) (ln_43 hPN1) hb1 ?_
    cases h
    exact Y_iret rfl rfl dX11_misses_17 hPN1 ⟨_, rfl, rfl, rfl⟩
  · replace h := id h
    cases h
    refine C_V2x dX11_misses_13 w7_138 i_X11_cacheSite (lk_1 hP) ⟨Nat.le_of_ble_eq_true rfl, Nat.le_of_ble_eq_true rfl⟩ rfl (Nat.le_of_ble_eq_true rfl) (Nat.le_of_ble_eq_true rfl) (Nat.le_of_ble_eq_true rfl) (cy1.mono id (QSr rfl) (XSr rfl)) ?_
    exact Y_out (by decide) hPN1 ⟨rfl, rfl⟩
theorem v_X11_misses {x1 : Int32} {x2 : Int32} {M z} (hP : Lay M) (h : d_X11_misses x1 x2 M = some z) : CC Lay k_X11_misses [.ref 1, .int x1, .int x2] M z.2 (QS (fun v => some (.int v)) z) (XS z) :=
  CC.ofVV (by decide) rfl (Nat.le_of_ble_eq_true rfl) (b_X11_misses hP h)
noncomputable def d_X11_counter (x1 : Int32) (x2 : Int32) (M : Mem) : Option ((Int32 ⊕ String) × Mem) :=
  (d_X11_needFunction x1 M).bind fun y1 => match y1 with
  | (.inl y1, N1) => (
    (d_X11_needIndex x2 N1).bind fun y2 => match y2 with
    | (.inl y2, N2) => (
      (d_X11_siteOf x1 x2 N2).bind fun y3 =>
      okk (vp_in y3.1 320) <|
      some (.inl (mI y3.2 45 y3.1.toNatClampNeg), y3.2))
    | (.inr E2, N2) => (
      some (.inr E2, N2)))
  | (.inr E1, N1) => (
    some (.inr E1, N1))
theorem b_X11_counter {x1 : Int32} {x2 : Int32} {M z} (hP : Lay M) (h : d_X11_counter x1 x2 M = some z) : VV Lay k_X11_counter 0 [(0, .ref 1), (1, .int x1), (2, .int x2)] [] M z.2 (QS (fun v => some (.int v)) z) (XS z) := by
  unfold d_X11_counter at h
  refine Y_aload_n (j := 0) dX11_counter_0 rfl rfl ?_
  refine Y_iload_n (j := 1) dX11_counter_1 rfl rfl ?_
  obtain ⟨y1, qy1, h⟩ := bindE h
  have cy1 := v_X11_needFunction hP qy1
  have hPN1 := cy1.1.1
  obtain ⟨y1 | E1, N1⟩ := y1
  · replace h := id h
    refine C_V1o dX11_counter_2 w4_11 i_X11_needFunction (lk_1 hP) ⟨Nat.le_of_ble_eq_true rfl, Nat.le_of_ble_eq_true rfl⟩ rfl (Nat.le_of_ble_eq_true rfl) (Nat.le_of_ble_eq_true rfl) (Nat.le_of_ble_eq_true rfl) (cy1.mono id (QSl rfl) (XSl rfl)) ?_
    refine Y_aload_n (j := 0) dX11_counter_5 rfl rfl ?_
    refine Y_iload_n (j := 2) dX11_counter_6 rfl rfl ?_
    obtain ⟨y2, qy2, h⟩ := bindE h
    have cy2 := v_X11_needIndex hPN1 qy2
    have hPN2 := cy2.1.1
    obtain ⟨y2 | E2, N2⟩ := y2
    · replace h := id h
      refine C_V1o dX11_counter_7 w4_142 i_X11_needIndex (lk_1 hPN1) ⟨Nat.le_of_ble_eq_true rfl, Nat.le_of_ble_eq_true rfl⟩ rfl (Nat.le_of_ble_eq_true rfl) (Nat.le_of_ble_eq_true rfl) (Nat.le_of_ble_eq_true rfl) (cy2.mono id (QSl rfl) (XSl rfl)) ?_
      refine Y_aload_n (j := 0) dX11_counter_10 rfl rfl ?_
      refine Z_getr dX11_counter_11 w3_56 (lk_1 hPN2) fr_11_4 (lr_1_4 hPN2) ?_
      refine Z_getr dX11_counter_14 w3_9 (lk_38 hPN2) fr_10_2 (lr_38_2 hPN2) ?_
      refine Z_getr dX11_counter_17 w2_29 (lk_44 hPN2) fr_3_0 (lr_44_0 hPN2) ?_
      refine Y_iload_n (j := 1) dX11_counter_20 rfl rfl ?_
      refine Y_iload_n (j := 2) dX11_counter_21 rfl rfl ?_
      obtain ⟨y3, qy3, h⟩ := bindE h
      have cy3 := v_X11_siteOf hPN2 qy3
      refine C_S2r dX11_counter_22 w4_229 i_X11_siteOf (Nat.le_of_ble_eq_true rfl) (Nat.le_of_ble_eq_true rfl) (Nat.le_of_ble_eq_true rfl) (cy3) ?_
      have hPy3 := cy3.1.1
      obtain ⟨hb1, h⟩ := okE h
      refine Y_iald dX11_counter_25 (lk_45 hPy3) (ln_45 hPy3) hb1 ?_
      cases h
      exact Y_iret rfl rfl dX11_counter_26 hPy3 ⟨_, rfl, rfl, rfl⟩
    · replace h := id h
      cases h
      refine C_V1x dX11_counter_7 w4_142 i_X11_needIndex (lk_1 hPN1) ⟨Nat.le_of_ble_eq_true rfl, Nat.le_of_ble_eq_true rfl⟩ rfl (Nat.le_of_ble_eq_true rfl) (Nat.le_of_ble_eq_true rfl) (Nat.le_of_ble_eq_true rfl) (cy2.mono id (QSr rfl) (XSr rfl)) ?_
      exact Y_out (by decide) hPN2 ⟨rfl, rfl⟩
  · replace h := id h
    cases h
    refine C_V1x dX11_counter_2 w4_11 i_X11_needFunction (lk_1 hP) ⟨Nat.le_of_ble_eq_true rfl, Nat.le_of_ble_eq_true rfl⟩ rfl (Nat.le_of_ble_eq_true rfl) (Nat.le_of_ble_eq_true rfl) (Nat.le_of_ble_eq_true rfl) (cy1.mono id (QSr rfl) (XSr rfl)) ?_
    exact Y_out (by decide) hPN1 ⟨rfl, rfl⟩
theorem v_X11_counter {x1 : Int32} {x2 : Int32} {M z} (hP : Lay M) (h : d_X11_counter x1 x2 M = some z) : CC Lay k_X11_counter [.ref 1, .int x1, .int x2] M z.2 (QS (fun v => some (.int v)) z) (XS z) :=
  CC.ofVV (by decide) rfl (Nat.le_of_ble_eq_true rfl) (b_X11_counter hP h)
noncomputable def d_X11_isBarred (x1 : Int32) (x2 : Int32) (M : Mem) : Option ((Int32 ⊕ String) × Mem) :=
  (d_X11_needFunction x1 M).bind fun y1 => match y1 with
  | (.inl y1, N1) => (
    (d_X11_needIndex x2 N1).bind fun y2 => match y2 with
    | (.inl y2, N2) => (
      (d_X11_siteOf x1 x2 N2).bind fun y3 =>
      (d_X2_bars y3.1 y3.2).bind fun y4 =>
      okk (isBo y4.1) <|
      some (.inl y4.1, y4.2))
    | (.inr E2, N2) => (
      some (.inr E2, N2)))
  | (.inr E1, N1) => (
    some (.inr E1, N1))
theorem b_X11_isBarred {x1 : Int32} {x2 : Int32} {M z} (hP : Lay M) (h : d_X11_isBarred x1 x2 M = some z) : VV Lay k_X11_isBarred 0 [(0, .ref 1), (1, .int x1), (2, .int x2)] [] M z.2 (QS (fun v => some (.int v)) z) (XS z) := by
  unfold d_X11_isBarred at h
  refine Y_aload_n (j := 0) dX11_isBarred_0 rfl rfl ?_
  refine Y_iload_n (j := 1) dX11_isBarred_1 rfl rfl ?_
  obtain ⟨y1, qy1, h⟩ := bindE h
  have cy1 := v_X11_needFunction hP qy1
  have hPN1 := cy1.1.1
  obtain ⟨y1 | E1, N1⟩ := y1
  · replace h := id h
    refine C_V1o dX11_isBarred_2 w4_11 i_X11_needFunction (lk_1 hP) ⟨Nat.le_of_ble_eq_true rfl, Nat.le_of_ble_eq_true rfl⟩ rfl (Nat.le_of_ble_eq_true rfl) (Nat.le_of_ble_eq_true rfl) (Nat.le_of_ble_eq_true rfl) (cy1.mono id (QSl rfl) (XSl rfl)) ?_
    refine Y_aload_n (j := 0) dX11_isBarred_5 rfl rfl ?_
    refine Y_iload_n (j := 2) dX11_isBarred_6 rfl rfl ?_
    obtain ⟨y2, qy2, h⟩ := bindE h
    have cy2 := v_X11_needIndex hPN1 qy2
    have hPN2 := cy2.1.1
    obtain ⟨y2 | E2, N2⟩ := y2
    · replace h := id h
      refine C_V1o dX11_isBarred_7 w4_142 i_X11_needIndex (lk_1 hPN1) ⟨Nat.le_of_ble_eq_true rfl, Nat.le_of_ble_eq_true rfl⟩ rfl (Nat.le_of_ble_eq_true rfl) (Nat.le_of_ble_eq_true rfl) (Nat.le_of_ble_eq_true rfl) (cy2.mono id (QSl rfl) (XSl rfl)) ?_
      refine Y_aload_n (j := 0) dX11_isBarred_10 rfl rfl ?_
      refine Z_getr dX11_isBarred_11 w3_56 (lk_1 hPN2) fr_11_4 (lr_1_4 hPN2) ?_
      refine Z_getr dX11_isBarred_14 w3_9 (lk_38 hPN2) fr_10_2 (lr_38_2 hPN2) ?_
      refine Y_iload_n (j := 1) dX11_isBarred_17 rfl rfl ?_
      refine Y_iload_n (j := 2) dX11_isBarred_18 rfl rfl ?_
      obtain ⟨y3, qy3, h⟩ := bindE h
      have cy3 := v_X11_siteOf hPN2 qy3
      refine C_S2r dX11_isBarred_19 w4_229 i_X11_siteOf (Nat.le_of_ble_eq_true rfl) (Nat.le_of_ble_eq_true rfl) (Nat.le_of_ble_eq_true rfl) (cy3) ?_
      have hPy3 := cy3.1.1
      obtain ⟨y4, qy4, h⟩ := bindE h
      have cy4 := v_X2_bars hPy3 qy4
      refine C_V1r dX11_isBarred_22 w7_177 i_X2_bars (lk_44 hPy3) ⟨Nat.le_of_ble_eq_true rfl, Nat.le_of_ble_eq_true rfl⟩ rfl (Nat.le_of_ble_eq_true rfl) (Nat.le_of_ble_eq_true rfl) (Nat.le_of_ble_eq_true rfl) (cy4) ?_
      have hPy4 := cy4.1.1
      obtain ⟨hb1, h⟩ := okE h
      cases h
      exact Y_iret rfl (nar_bo hb1) dX11_isBarred_25 hPy4 ⟨_, rfl, rfl, rfl⟩
    · replace h := id h
      cases h
      refine C_V1x dX11_isBarred_7 w4_142 i_X11_needIndex (lk_1 hPN1) ⟨Nat.le_of_ble_eq_true rfl, Nat.le_of_ble_eq_true rfl⟩ rfl (Nat.le_of_ble_eq_true rfl) (Nat.le_of_ble_eq_true rfl) (Nat.le_of_ble_eq_true rfl) (cy2.mono id (QSr rfl) (XSr rfl)) ?_
      exact Y_out (by decide) hPN2 ⟨rfl, rfl⟩
  · replace h := id h
    cases h
    refine C_V1x dX11_isBarred_2 w4_11 i_X11_needFunction (lk_1 hP) ⟨Nat.le_of_ble_eq_true rfl, Nat.le_of_ble_eq_true rfl⟩ rfl (Nat.le_of_ble_eq_true rfl) (Nat.le_of_ble_eq_true rfl) (Nat.le_of_ble_eq_true rfl) (cy1.mono id (QSr rfl) (XSr rfl)) ?_
    exact Y_out (by decide) hPN1 ⟨rfl, rfl⟩
theorem v_X11_isBarred {x1 : Int32} {x2 : Int32} {M z} (hP : Lay M) (h : d_X11_isBarred x1 x2 M = some z) : CC Lay k_X11_isBarred [.ref 1, .int x1, .int x2] M z.2 (QS (fun v => some (.int v)) z) (XS z) :=
  CC.ofVV (by decide) rfl (Nat.le_of_ble_eq_true rfl) (b_X11_isBarred hP h)
noncomputable def d_X11_traces (M : Mem) : Option (Int32 × Mem) :=
  some ((mI M 67 3), M)
theorem b_X11_traces {M z} (hP : Lay M) (h : d_X11_traces M = some z) : VV Lay k_X11_traces 0 [(0, .ref 1)] [] M z.2 (Qv (some (.int z.1)) z.2) xF := by
  unfold d_X11_traces at h
  refine Y_aload_n (j := 0) dX11_traces_0 rfl rfl ?_
  refine Z_getr dX11_traces_1 w3_56 (lk_1 hP) fr_11_4 (lr_1_4 hP) ?_
  refine Z_getr dX11_traces_4 w3_12 (lk_38 hP) fr_10_4 (lr_38_4 hP) ?_
  refine Z_geti dX11_traces_7 w2_228 (lk_67 hP) fi_2_3 ?_
  cases h
  exact Y_iret rfl rfl dX11_traces_10 hP ⟨rfl, rfl⟩
theorem v_X11_traces {M z} (hP : Lay M) (h : d_X11_traces M = some z) : CC Lay k_X11_traces [.ref 1] M z.2 (Qv (some (.int z.1)) z.2) xF :=
  CC.ofVV (by decide) rfl (Nat.le_of_ble_eq_true rfl) (b_X11_traces hP h)
noncomputable def d_X11_isThere (x1 : Int32) (M : Mem) : Option ((Int32 ⊕ String) × Mem) :=
  (d_X11_traceAt x1 M).bind fun y1 => match y1 with
  | (.inl y1, N1) => (
    okk (mK N1 y1 = 9) <|
    okk (isBo (mI N1 y1 14)) <|
    some (.inl (mI N1 y1 14), N1))
  | (.inr E1, N1) => (
    some (.inr E1, N1))
theorem b_X11_isThere {x1 : Int32} {M z} (hP : Lay M) (h : d_X11_isThere x1 M = some z) : VV Lay k_X11_isThere 0 [(0, .ref 1), (1, .int x1)] [] M z.2 (QS (fun v => some (.int v)) z) (XS z) := by
  unfold d_X11_isThere at h
  refine Y_aload_n (j := 0) dX11_isThere_0 rfl rfl ?_
  refine Y_iload_n (j := 1) dX11_isThere_1 rfl rfl ?_
  obtain ⟨y1, qy1, h⟩ := bindE h
  have cy1 := v_X11_traceAt hP qy1
  have hPN1 := cy1.1.1
  obtain ⟨y1 | E1, N1⟩ := y1
  · replace h := id h
    refine C_V1r dX11_isThere_2 w7_185 i_X11_traceAt (lk_1 hP) ⟨Nat.le_of_ble_eq_true rfl, Nat.le_of_ble_eq_true rfl⟩ rfl (Nat.le_of_ble_eq_true rfl) (Nat.le_of_ble_eq_true rfl) (Nat.le_of_ble_eq_true rfl) (cy1.mono id (QSl rfl) (XSl rfl)) ?_
    obtain ⟨hb1, h⟩ := okE h
    refine Z_geti dX11_isThere_5 w2_173 hb1 fi_9_14 ?_
    obtain ⟨hb2, h⟩ := okE h
    cases h
    exact Y_iret rfl (nar_bo hb2) dX11_isThere_8 hPN1 ⟨_, rfl, rfl, rfl⟩
  · replace h := id h
    cases h
    refine C_V1x dX11_isThere_2 w7_185 i_X11_traceAt (lk_1 hP) ⟨Nat.le_of_ble_eq_true rfl, Nat.le_of_ble_eq_true rfl⟩ rfl (Nat.le_of_ble_eq_true rfl) (Nat.le_of_ble_eq_true rfl) (Nat.le_of_ble_eq_true rfl) (cy1.mono id (QSr rfl) (XSr rfl)) ?_
    exact Y_out (by decide) hPN1 ⟨rfl, rfl⟩
theorem v_X11_isThere {x1 : Int32} {M z} (hP : Lay M) (h : d_X11_isThere x1 M = some z) : CC Lay k_X11_isThere [.ref 1, .int x1] M z.2 (QS (fun v => some (.int v)) z) (XS z) :=
  CC.ofVV (by decide) rfl (Nat.le_of_ble_eq_true rfl) (b_X11_isThere hP h)
noncomputable def d_X11_steps (x1 : Int32) (M : Mem) : Option ((Int32 ⊕ String) × Mem) :=
  (d_X11_traceAt x1 M).bind fun y1 => match y1 with
  | (.inl y1, N1) => (
    okk (mK N1 y1 = 9) <|
    some (.inl (mI N1 y1 0), N1))
  | (.inr E1, N1) => (
    some (.inr E1, N1))
theorem b_X11_steps {x1 : Int32} {M z} (hP : Lay M) (h : d_X11_steps x1 M = some z) : VV Lay k_X11_steps 0 [(0, .ref 1), (1, .int x1)] [] M z.2 (QS (fun v => some (.int v)) z) (XS z) := by
  unfold d_X11_steps at h
  refine Y_aload_n (j := 0) dX11_steps_0 rfl rfl ?_
  refine Y_iload_n (j := 1) dX11_steps_1 rfl rfl ?_
  obtain ⟨y1, qy1, h⟩ := bindE h
  have cy1 := v_X11_traceAt hP qy1
  have hPN1 := cy1.1.1
  obtain ⟨y1 | E1, N1⟩ := y1
  · replace h := id h
    refine C_V1r dX11_steps_2 w7_185 i_X11_traceAt (lk_1 hP) ⟨Nat.le_of_ble_eq_true rfl, Nat.le_of_ble_eq_true rfl⟩ rfl (Nat.le_of_ble_eq_true rfl) (Nat.le_of_ble_eq_true rfl) (Nat.le_of_ble_eq_true rfl) (cy1.mono id (QSl rfl) (XSl rfl)) ?_
    obtain ⟨hb1, h⟩ := okE h
    refine Z_geti dX11_steps_5 w2_137 hb1 fi_9_0 ?_
    cases h
    exact Y_iret rfl rfl dX11_steps_8 hPN1 ⟨_, rfl, rfl, rfl⟩
  · replace h := id h
    cases h
    refine C_V1x dX11_steps_2 w7_185 i_X11_traceAt (lk_1 hP) ⟨Nat.le_of_ble_eq_true rfl, Nat.le_of_ble_eq_true rfl⟩ rfl (Nat.le_of_ble_eq_true rfl) (Nat.le_of_ble_eq_true rfl) (Nat.le_of_ble_eq_true rfl) (cy1.mono id (QSr rfl) (XSr rfl)) ?_
    exact Y_out (by decide) hPN1 ⟨rfl, rfl⟩
theorem v_X11_steps {x1 : Int32} {M z} (hP : Lay M) (h : d_X11_steps x1 M = some z) : CC Lay k_X11_steps [.ref 1, .int x1] M z.2 (QS (fun v => some (.int v)) z) (XS z) :=
  CC.ofVV (by decide) rfl (Nat.le_of_ble_eq_true rfl) (b_X11_steps hP h)
noncomputable def d_X11_guards (x1 : Int32) (M : Mem) : Option ((Int32 ⊕ String) × Mem) :=
  (d_X11_traceAt x1 M).bind fun y1 => match y1 with
  | (.inl y1, N1) => (
    okk (mK N1 y1 = 9) <|
    some (.inl (mI N1 y1 1), N1))
  | (.inr E1, N1) => (
    some (.inr E1, N1))
theorem b_X11_guards {x1 : Int32} {M z} (hP : Lay M) (h : d_X11_guards x1 M = some z) : VV Lay k_X11_guards 0 [(0, .ref 1), (1, .int x1)] [] M z.2 (QS (fun v => some (.int v)) z) (XS z) := by
  unfold d_X11_guards at h
  refine Y_aload_n (j := 0) dX11_guards_0 rfl rfl ?_
  refine Y_iload_n (j := 1) dX11_guards_1 rfl rfl ?_
  obtain ⟨y1, qy1, h⟩ := bindE h
  have cy1 := v_X11_traceAt hP qy1
  have hPN1 := cy1.1.1
  obtain ⟨y1 | E1, N1⟩ := y1
  · replace h := id h
    refine C_V1r dX11_guards_2 w7_185 i_X11_traceAt (lk_1 hP) ⟨Nat.le_of_ble_eq_true rfl, Nat.le_of_ble_eq_true rfl⟩ rfl (Nat.le_of_ble_eq_true rfl) (Nat.le_of_ble_eq_true rfl) (Nat.le_of_ble_eq_true rfl) (cy1.mono id (QSl rfl) (XSl rfl)) ?_
    obtain ⟨hb1, h⟩ := okE h
    refine Z_geti dX11_guards_5 w2_140 hb1 fi_9_1 ?_
    cases h
    exact Y_iret rfl rfl dX11_guards_8 hPN1 ⟨_, rfl, rfl, rfl⟩
  · replace h := id h
    cases h
    refine C_V1x dX11_guards_2 w7_185 i_X11_traceAt (lk_1 hP) ⟨Nat.le_of_ble_eq_true rfl, Nat.le_of_ble_eq_true rfl⟩ rfl (Nat.le_of_ble_eq_true rfl) (Nat.le_of_ble_eq_true rfl) (Nat.le_of_ble_eq_true rfl) (cy1.mono id (QSr rfl) (XSr rfl)) ?_
    exact Y_out (by decide) hPN1 ⟨rfl, rfl⟩
theorem v_X11_guards {x1 : Int32} {M z} (hP : Lay M) (h : d_X11_guards x1 M = some z) : CC Lay k_X11_guards [.ref 1, .int x1] M z.2 (QS (fun v => some (.int v)) z) (XS z) :=
  CC.ofVV (by decide) rfl (Nat.le_of_ble_eq_true rfl) (b_X11_guards hP h)
noncomputable def d_X11_guardAt (x1 : Int32) (x2 : Int32) (M : Mem) : Option ((Int32 ⊕ String) × Mem) :=
  (d_X11_traceWithGuard x1 x2 M).bind fun y1 => match y1 with
  | (.inl y1, N1) => (
    okk (mK N1 y1 = 9) <|
    (mR N1 y1 4).bind fun r_1 =>
    okk (mK N1 r_1 = 21) <|
    okk (vp_in x2 (mN N1 r_1)) <|
    okk (isCh (((mI N1 r_1 x2.toNatClampNeg).toUInt32 % 65536).toInt32)) <|
    some (.inl (((mI N1 r_1 x2.toNatClampNeg).toUInt32 % 65536).toInt32), N1))
  | (.inr E1, N1) => (
    some (.inr E1, N1))
theorem b_X11_guardAt {x1 : Int32} {x2 : Int32} {M z} (hP : Lay M) (h : d_X11_guardAt x1 x2 M = some z) : VV Lay k_X11_guardAt 0 [(0, .ref 1), (1, .int x1), (2, .int x2)] [] M z.2 (QS (fun v => some (.int v)) z) (XS z) := by
  unfold d_X11_guardAt at h
  refine Y_aload_n (j := 0) dX11_guardAt_0 rfl rfl ?_
  refine Y_iload_n (j := 1) dX11_guardAt_1 rfl rfl ?_
  refine Y_iload_n (j := 2) dX11_guardAt_2 rfl rfl ?_
  obtain ⟨y1, qy1, h⟩ := bindE h
  have cy1 := v_X11_traceWithGuard hP qy1
  have hPN1 := cy1.1.1
  obtain ⟨y1 | E1, N1⟩ := y1
  · replace h := id h
    refine C_V2r dX11_guardAt_3 w7_219 i_X11_traceWithGuard (lk_1 hP) ⟨Nat.le_of_ble_eq_true rfl, Nat.le_of_ble_eq_true rfl⟩ rfl (Nat.le_of_ble_eq_true rfl) (Nat.le_of_ble_eq_true rfl) (Nat.le_of_ble_eq_true rfl) (cy1.mono id (QSl rfl) (XSl rfl)) ?_
    obtain ⟨hb1, h⟩ := okE h
    obtain ⟨r_1, er_1, h⟩ := bindE h
    refine Z_getr dX11_guardAt_6 w2_148 hb1 fr_9_4 er_1 ?_
    refine Y_iload_n (j := 2) dX11_guardAt_9 rfl rfl ?_
    obtain ⟨hb2, h⟩ := okE h
    obtain ⟨hb3, h⟩ := okE h
    refine Y_iald dX11_guardAt_10 hb2 rfl hb3 ?_
    refine Y_i2c dX11_guardAt_11 ?_
    obtain ⟨hb4, h⟩ := okE h
    cases h
    exact Y_iret rfl (nar_ch hb4) dX11_guardAt_12 hPN1 ⟨_, rfl, rfl, rfl⟩
  · replace h := id h
    cases h
    refine C_V2x dX11_guardAt_3 w7_219 i_X11_traceWithGuard (lk_1 hP) ⟨Nat.le_of_ble_eq_true rfl, Nat.le_of_ble_eq_true rfl⟩ rfl (Nat.le_of_ble_eq_true rfl) (Nat.le_of_ble_eq_true rfl) (Nat.le_of_ble_eq_true rfl) (cy1.mono id (QSr rfl) (XSr rfl)) ?_
    exact Y_out (by decide) hPN1 ⟨rfl, rfl⟩
theorem v_X11_guardAt {x1 : Int32} {x2 : Int32} {M z} (hP : Lay M) (h : d_X11_guardAt x1 x2 M = some z) : CC Lay k_X11_guardAt [.ref 1, .int x1, .int x2] M z.2 (QS (fun v => some (.int v)) z) (XS z) :=
  CC.ofVV (by decide) rfl (Nat.le_of_ble_eq_true rfl) (b_X11_guardAt hP h)
noncomputable def d_X11_guardStep (x1 : Int32) (x2 : Int32) (M : Mem) : Option ((Int32 ⊕ String) × Mem) :=
  (d_X11_traceWithGuard x1 x2 M).bind fun y1 => match y1 with
  | (.inl y1, N1) => (
    okk (mK N1 y1 = 9) <|
    (mR N1 y1 5).bind fun r_1 =>
    okk (mK N1 r_1 = 21) <|
    okk (vp_in x2 (mN N1 r_1)) <|
    some (.inl (mI N1 r_1 x2.toNatClampNeg), N1))
  | (.inr E1, N1) => (
    some (.inr E1, N1))
theorem b_X11_guardStep {x1 : Int32} {x2 : Int32} {M z} (hP : Lay M) (h : d_X11_guardStep x1 x2 M = some z) : VV Lay k_X11_guardStep 0 [(0, .ref 1), (1, .int x1), (2, .int x2)] [] M z.2 (QS (fun v => some (.int v)) z) (XS z) := by
  unfold d_X11_guardStep at h
  refine Y_aload_n (j := 0) dX11_guardStep_0 rfl rfl ?_
  refine Y_iload_n (j := 1) dX11_guardStep_1 rfl rfl ?_
  refine Y_iload_n (j := 2) dX11_guardStep_2 rfl rfl ?_
  obtain ⟨y1, qy1, h⟩ := bindE h
  have cy1 := v_X11_traceWithGuard hP qy1
  have hPN1 := cy1.1.1
  obtain ⟨y1 | E1, N1⟩ := y1
  · replace h := id h
    refine C_V2r dX11_guardStep_3 w7_219 i_X11_traceWithGuard (lk_1 hP) ⟨Nat.le_of_ble_eq_true rfl, Nat.le_of_ble_eq_true rfl⟩ rfl (Nat.le_of_ble_eq_true rfl) (Nat.le_of_ble_eq_true rfl) (Nat.le_of_ble_eq_true rfl) (cy1.mono id (QSl rfl) (XSl rfl)) ?_
    obtain ⟨hb1, h⟩ := okE h
    obtain ⟨r_1, er_1, h⟩ := bindE h
    refine Z_getr dX11_guardStep_6 w2_150 hb1 fr_9_5 er_1 ?_
    refine Y_iload_n (j := 2) dX11_guardStep_9 rfl rfl ?_
    obtain ⟨hb2, h⟩ := okE h
    obtain ⟨hb3, h⟩ := okE h
    refine Y_iald dX11_guardStep_10 hb2 rfl hb3 ?_
    cases h
    exact Y_iret rfl rfl dX11_guardStep_11 hPN1 ⟨_, rfl, rfl, rfl⟩
  · replace h := id h
    cases h
    refine C_V2x dX11_guardStep_3 w7_219 i_X11_traceWithGuard (lk_1 hP) ⟨Nat.le_of_ble_eq_true rfl, Nat.le_of_ble_eq_true rfl⟩ rfl (Nat.le_of_ble_eq_true rfl) (Nat.le_of_ble_eq_true rfl) (Nat.le_of_ble_eq_true rfl) (cy1.mono id (QSr rfl) (XSr rfl)) ?_
    exact Y_out (by decide) hPN1 ⟨rfl, rfl⟩
theorem v_X11_guardStep {x1 : Int32} {x2 : Int32} {M z} (hP : Lay M) (h : d_X11_guardStep x1 x2 M = some z) : CC Lay k_X11_guardStep [.ref 1, .int x1, .int x2] M z.2 (QS (fun v => some (.int v)) z) (XS z) :=
  CC.ofVV (by decide) rfl (Nat.le_of_ble_eq_true rfl) (b_X11_guardStep hP h)
noncomputable def d_X11_exits (x1 : Int32) (x2 : Int32) (M : Mem) : Option ((Int32 ⊕ String) × Mem) :=
  (d_X11_traceWithGuard x1 x2 M).bind fun y1 => match y1 with
  | (.inl y1, N1) => (
    okk (mK N1 y1 = 9) <|
    (mR N1 y1 8).bind fun r_1 =>
    okk (mK N1 r_1 = 21) <|
    okk (vp_in x2 (mN N1 r_1)) <|
    some (.inl (mI N1 r_1 x2.toNatClampNeg), N1))
  | (.inr E1, N1) => (
    some (.inr E1, N1))
theorem b_X11_exits {x1 : Int32} {x2 : Int32} {M z} (hP : Lay M) (h : d_X11_exits x1 x2 M = some z) : VV Lay k_X11_exits 0 [(0, .ref 1), (1, .int x1), (2, .int x2)] [] M z.2 (QS (fun v => some (.int v)) z) (XS z) := by
  unfold d_X11_exits at h
  refine Y_aload_n (j := 0) dX11_exits_0 rfl rfl ?_
  refine Y_iload_n (j := 1) dX11_exits_1 rfl rfl ?_
  refine Y_iload_n (j := 2) dX11_exits_2 rfl rfl ?_
  obtain ⟨y1, qy1, h⟩ := bindE h
  have cy1 := v_X11_traceWithGuard hP qy1
  have hPN1 := cy1.1.1
  obtain ⟨y1 | E1, N1⟩ := y1
  · replace h := id h
    refine C_V2r dX11_exits_3 w7_219 i_X11_traceWithGuard (lk_1 hP) ⟨Nat.le_of_ble_eq_true rfl, Nat.le_of_ble_eq_true rfl⟩ rfl (Nat.le_of_ble_eq_true rfl) (Nat.le_of_ble_eq_true rfl) (Nat.le_of_ble_eq_true rfl) (cy1.mono id (QSl rfl) (XSl rfl)) ?_
    obtain ⟨hb1, h⟩ := okE h
    obtain ⟨r_1, er_1, h⟩ := bindE h
    refine Z_getr dX11_exits_6 w2_157 hb1 fr_9_8 er_1 ?_
    refine Y_iload_n (j := 2) dX11_exits_9 rfl rfl ?_
    obtain ⟨hb2, h⟩ := okE h
    obtain ⟨hb3, h⟩ := okE h
    refine Y_iald dX11_exits_10 hb2 rfl hb3 ?_
    cases h
    exact Y_iret rfl rfl dX11_exits_11 hPN1 ⟨_, rfl, rfl, rfl⟩
  · replace h := id h
    cases h
    refine C_V2x dX11_exits_3 w7_219 i_X11_traceWithGuard (lk_1 hP) ⟨Nat.le_of_ble_eq_true rfl, Nat.le_of_ble_eq_true rfl⟩ rfl (Nat.le_of_ble_eq_true rfl) (Nat.le_of_ble_eq_true rfl) (Nat.le_of_ble_eq_true rfl) (cy1.mono id (QSr rfl) (XSr rfl)) ?_
    exact Y_out (by decide) hPN1 ⟨rfl, rfl⟩
theorem v_X11_exits {x1 : Int32} {x2 : Int32} {M z} (hP : Lay M) (h : d_X11_exits x1 x2 M = some z) : CC Lay k_X11_exits [.ref 1, .int x1, .int x2] M z.2 (QS (fun v => some (.int v)) z) (XS z) :=
  CC.ofVV (by decide) rfl (Nat.le_of_ble_eq_true rfl) (b_X11_exits hP h)
noncomputable def d_X11_rootOf (x1 : Int32) (M : Mem) : Option ((Int32 ⊕ String) × Mem) :=
  (d_X11_traceAt x1 M).bind fun y1 => match y1 with
  | (.inl y1, N1) => (
    okk (mK N1 y1 = 9) <|
    some (.inl (mI N1 y1 12), N1))
  | (.inr E1, N1) => (
    some (.inr E1, N1))
theorem b_X11_rootOf {x1 : Int32} {M z} (hP : Lay M) (h : d_X11_rootOf x1 M = some z) : VV Lay k_X11_rootOf 0 [(0, .ref 1), (1, .int x1)] [] M z.2 (QS (fun v => some (.int v)) z) (XS z) := by
  unfold d_X11_rootOf at h
  refine Y_aload_n (j := 0) dX11_rootOf_0 rfl rfl ?_
  refine Y_iload_n (j := 1) dX11_rootOf_1 rfl rfl ?_
  obtain ⟨y1, qy1, h⟩ := bindE h
  have cy1 := v_X11_traceAt hP qy1
  have hPN1 := cy1.1.1
  obtain ⟨y1 | E1, N1⟩ := y1
  · replace h := id h
    refine C_V1r dX11_rootOf_2 w7_185 i_X11_traceAt (lk_1 hP) ⟨Nat.le_of_ble_eq_true rfl, Nat.le_of_ble_eq_true rfl⟩ rfl (Nat.le_of_ble_eq_true rfl) (Nat.le_of_ble_eq_true rfl) (Nat.le_of_ble_eq_true rfl) (cy1.mono id (QSl rfl) (XSl rfl)) ?_
    obtain ⟨hb1, h⟩ := okE h
    refine Z_geti dX11_rootOf_5 w2_167 hb1 fi_9_12 ?_
    cases h
    exact Y_iret rfl rfl dX11_rootOf_8 hPN1 ⟨_, rfl, rfl, rfl⟩
  · replace h := id h
    cases h
    refine C_V1x dX11_rootOf_2 w7_185 i_X11_traceAt (lk_1 hP) ⟨Nat.le_of_ble_eq_true rfl, Nat.le_of_ble_eq_true rfl⟩ rfl (Nat.le_of_ble_eq_true rfl) (Nat.le_of_ble_eq_true rfl) (Nat.le_of_ble_eq_true rfl) (cy1.mono id (QSr rfl) (XSr rfl)) ?_
    exact Y_out (by decide) hPN1 ⟨rfl, rfl⟩
theorem v_X11_rootOf {x1 : Int32} {M z} (hP : Lay M) (h : d_X11_rootOf x1 M = some z) : CC Lay k_X11_rootOf [.ref 1, .int x1] M z.2 (QS (fun v => some (.int v)) z) (XS z) :=
  CC.ofVV (by decide) rfl (Nat.le_of_ble_eq_true rfl) (b_X11_rootOf hP h)
noncomputable def d_X11_begun (x1 : Int32) (M : Mem) : Option ((Int32 ⊕ String) × Mem) :=
  (d_X11_traceAt x1 M).bind fun y1 => match y1 with
  | (.inl y1, N1) => (
    okk (mK N1 y1 = 9) <|
    some (.inl (mI N1 y1 15), N1))
  | (.inr E1, N1) => (
    some (.inr E1, N1))
theorem b_X11_begun {x1 : Int32} {M z} (hP : Lay M) (h : d_X11_begun x1 M = some z) : VV Lay k_X11_begun 0 [(0, .ref 1), (1, .int x1)] [] M z.2 (QS (fun v => some (.int v)) z) (XS z) := by
  unfold d_X11_begun at h
  refine Y_aload_n (j := 0) dX11_begun_0 rfl rfl ?_
  refine Y_iload_n (j := 1) dX11_begun_1 rfl rfl ?_
  obtain ⟨y1, qy1, h⟩ := bindE h
  have cy1 := v_X11_traceAt hP qy1
  have hPN1 := cy1.1.1
  obtain ⟨y1 | E1, N1⟩ := y1
  · replace h := id h
    refine C_V1r dX11_begun_2 w7_185 i_X11_traceAt (lk_1 hP) ⟨Nat.le_of_ble_eq_true rfl, Nat.le_of_ble_eq_true rfl⟩ rfl (Nat.le_of_ble_eq_true rfl) (Nat.le_of_ble_eq_true rfl) (Nat.le_of_ble_eq_true rfl) (cy1.mono id (QSl rfl) (XSl rfl)) ?_
    obtain ⟨hb1, h⟩ := okE h
    refine Z_geti dX11_begun_5 w2_175 hb1 fi_9_15 ?_
    cases h
    exact Y_iret rfl rfl dX11_begun_8 hPN1 ⟨_, rfl, rfl, rfl⟩
  · replace h := id h
    cases h
    refine C_V1x dX11_begun_2 w7_185 i_X11_traceAt (lk_1 hP) ⟨Nat.le_of_ble_eq_true rfl, Nat.le_of_ble_eq_true rfl⟩ rfl (Nat.le_of_ble_eq_true rfl) (Nat.le_of_ble_eq_true rfl) (Nat.le_of_ble_eq_true rfl) (cy1.mono id (QSr rfl) (XSr rfl)) ?_
    exact Y_out (by decide) hPN1 ⟨rfl, rfl⟩
theorem v_X11_begun {x1 : Int32} {M z} (hP : Lay M) (h : d_X11_begun x1 M = some z) : CC Lay k_X11_begun [.ref 1, .int x1] M z.2 (QS (fun v => some (.int v)) z) (XS z) :=
  CC.ofVV (by decide) rfl (Nat.le_of_ble_eq_true rfl) (b_X11_begun hP h)
noncomputable def d_X11_inTraces (M : Mem) : Option (Int32 × Mem) :=
  some ((mI M 38 7), M)
theorem b_X11_inTraces {M z} (hP : Lay M) (h : d_X11_inTraces M = some z) : VV Lay k_X11_inTraces 0 [(0, .ref 1)] [] M z.2 (Qv (some (.int z.1)) z.2) xF := by
  unfold d_X11_inTraces at h
  refine Y_aload_n (j := 0) dX11_inTraces_0 rfl rfl ?_
  refine Z_getr dX11_inTraces_1 w3_56 (lk_1 hP) fr_11_4 (lr_1_4 hP) ?_
  refine Z_geti dX11_inTraces_4 w3_18 (lk_38 hP) fi_10_7 ?_
  cases h
  exact Y_iret rfl rfl dX11_inTraces_7 hP ⟨rfl, rfl⟩
theorem v_X11_inTraces {M z} (hP : Lay M) (h : d_X11_inTraces M = some z) : CC Lay k_X11_inTraces [.ref 1] M z.2 (Qv (some (.int z.1)) z.2) xF :=
  CC.ofVV (by decide) rfl (Nat.le_of_ble_eq_true rfl) (b_X11_inTraces hP h)
noncomputable def d_X11_codeSize (M : Mem) : Option (Int32 × Mem) :=
  (d_X1_size M).bind fun y1 =>
  some (y1.1, y1.2)
theorem b_X11_codeSize {M z} (hP : Lay M) (h : d_X11_codeSize M = some z) : VV Lay k_X11_codeSize 0 [(0, .ref 1)] [] M z.2 (Qv (some (.int z.1)) z.2) xF := by
  unfold d_X11_codeSize at h
  refine Y_aload_n (j := 0) dX11_codeSize_0 rfl rfl ?_
  refine Z_getr dX11_codeSize_1 w3_56 (lk_1 hP) fr_11_4 (lr_1_4 hP) ?_
  refine Z_getr dX11_codeSize_4 w3_12 (lk_38 hP) fr_10_4 (lr_38_4 hP) ?_
  obtain ⟨y1, qy1, h⟩ := bindE h
  have cy1 := v_X1_size hP qy1
  refine C_V0r dX11_codeSize_7 w3_99 i_X1_size (lk_67 hP) ⟨Nat.le_of_ble_eq_true rfl, Nat.le_of_ble_eq_true rfl⟩ rfl (Nat.le_of_ble_eq_true rfl) (Nat.le_of_ble_eq_true rfl) (Nat.le_of_ble_eq_true rfl) (cy1) ?_
  have hPy1 := cy1.1.1
  cases h
  exact Y_iret rfl rfl dX11_codeSize_10 hPy1 ⟨rfl, rfl⟩
theorem v_X11_codeSize {M z} (hP : Lay M) (h : d_X11_codeSize M = some z) : CC Lay k_X11_codeSize [.ref 1] M z.2 (Qv (some (.int z.1)) z.2) xF :=
  CC.ofVV (by decide) rfl (Nat.le_of_ble_eq_true rfl) (b_X11_codeSize hP h)
noncomputable def d_X11_agrees (M : Mem) : Option (Int32 × Mem) :=
  okk (isBo (mI M 1 5)) <|
  some ((mI M 1 5), M)
theorem b_X11_agrees {M z} (hP : Lay M) (h : d_X11_agrees M = some z) : VV Lay k_X11_agrees 0 [(0, .ref 1)] [] M z.2 (Qv (some (.int z.1)) z.2) xF := by
  unfold d_X11_agrees at h
  refine Y_aload_n (j := 0) dX11_agrees_0 rfl rfl ?_
  refine Z_geti dX11_agrees_1 w3_57 (lk_1 hP) fi_11_5 ?_
  obtain ⟨hb1, h⟩ := okE h
  cases h
  exact Y_iret rfl (nar_bo hb1) dX11_agrees_4 hP ⟨rfl, rfl⟩
theorem v_X11_agrees {M z} (hP : Lay M) (h : d_X11_agrees M = some z) : CC Lay k_X11_agrees [.ref 1] M z.2 (Qv (some (.int z.1)) z.2) xF :=
  CC.ofVV (by decide) rfl (Nat.le_of_ble_eq_true rfl) (b_X11_agrees hP h)
noncomputable def d_X11_isSound (M : Mem) : Option (Int32 × Mem) :=
  if (mI M 1 5) = 0 then (
    some ((0 : Int32), M))
  else (
    (d_X1_size M).bind fun y1 =>
    if (mI y1.2 67 4) < y1.1 then (
      some ((0 : Int32), y1.2))
    else (
      (d_X1_hasRoots y1.2).bind fun y2 =>
      if y2.1 = 0 then (
        some ((0 : Int32), y2.2))
      else (
        (d_X0_areSmall y2.2).bind fun y3 =>
        if y3.1 = 0 then (
          some ((0 : Int32), y3.2))
        else (
          some ((1 : Int32), y3.2)))))
theorem b_X11_isSound {M z} (hP : Lay M) (h : d_X11_isSound M = some z) : VV Lay k_X11_isSound 0 [(0, .ref 1)] [] M z.2 (Qv (some (.int z.1)) z.2) xF := by
  unfold d_X11_isSound at h
  refine Y_aload_n (j := 0) dX11_isSound_0 rfl rfl ?_
  refine Z_geti dX11_isSound_1 w3_57 (lk_1 hP) fi_11_5 ?_
  refine Y_if_eq (tgt := 60) dX11_isSound_4 (by decide) (fun hc1 => ?_) (fun hc1 => ?_)
  · replace h := ifT hc1 h
    refine Y_iconst (v := (0 : Int32)) dX11_isSound_60 rfl ?_
    cases h
    exact Y_iret rfl (nar_bo (by decide)) dX11_isSound_61 hP ⟨rfl, rfl⟩
  · replace h := ifF hc1 h
    refine Y_aload_n (j := 0) dX11_isSound_7 rfl rfl ?_
    refine Z_getr dX11_isSound_8 w3_56 (lk_1 hP) fr_11_4 (lr_1_4 hP) ?_
    refine Z_getr dX11_isSound_11 w3_12 (lk_38 hP) fr_10_4 (lr_38_4 hP) ?_
    obtain ⟨y1, qy1, h⟩ := bindE h
    have cy1 := v_X1_size hP qy1
    refine C_V0r dX11_isSound_14 w3_99 i_X1_size (lk_67 hP) ⟨Nat.le_of_ble_eq_true rfl, Nat.le_of_ble_eq_true rfl⟩ rfl (Nat.le_of_ble_eq_true rfl) (Nat.le_of_ble_eq_true rfl) (Nat.le_of_ble_eq_true rfl) (cy1) ?_
    have hPy1 := cy1.1.1
    refine Y_aload_n (j := 0) dX11_isSound_17 rfl rfl ?_
    refine Z_getr dX11_isSound_18 w3_56 (lk_1 hPy1) fr_11_4 (lr_1_4 hPy1) ?_
    refine Z_getr dX11_isSound_21 w3_12 (lk_38 hPy1) fr_10_4 (lr_38_4 hPy1) ?_
    refine Z_geti dX11_isSound_24 w2_230 (lk_67 hPy1) fi_2_4 ?_
    refine Y_icmp_gt (tgt := 60) dX11_isSound_27 (by decide) (fun hc2 => ?_) (fun hc2 => ?_)
    · replace h := ifT hc2 h
      refine Y_iconst (v := (0 : Int32)) dX11_isSound_60 rfl ?_
      cases h
      exact Y_iret rfl (nar_bo (by decide)) dX11_isSound_61 hPy1 ⟨rfl, rfl⟩
    · replace h := ifF hc2 h
      refine Y_aload_n (j := 0) dX11_isSound_30 rfl rfl ?_
      refine Z_getr dX11_isSound_31 w3_56 (lk_1 hPy1) fr_11_4 (lr_1_4 hPy1) ?_
      refine Z_getr dX11_isSound_34 w3_12 (lk_38 hPy1) fr_10_4 (lr_38_4 hPy1) ?_
      obtain ⟨y2, qy2, h⟩ := bindE h
      have cy2 := v_X1_hasRoots hPy1 qy2
      refine C_V0r dX11_isSound_37 w3_111 i_X1_hasRoots (lk_67 hPy1) ⟨Nat.le_of_ble_eq_true rfl, Nat.le_of_ble_eq_true rfl⟩ rfl (Nat.le_of_ble_eq_true rfl) (Nat.le_of_ble_eq_true rfl) (Nat.le_of_ble_eq_true rfl) (cy2) ?_
      have hPy2 := cy2.1.1
      refine Y_if_eq (tgt := 60) dX11_isSound_40 (by decide) (fun hc3 => ?_) (fun hc3 => ?_)
      · replace h := ifT hc3 h
        refine Y_iconst (v := (0 : Int32)) dX11_isSound_60 rfl ?_
        cases h
        exact Y_iret rfl (nar_bo (by decide)) dX11_isSound_61 hPy2 ⟨rfl, rfl⟩
      · replace h := ifF hc3 h
        refine Y_aload_n (j := 0) dX11_isSound_43 rfl rfl ?_
        refine Z_getr dX11_isSound_44 w3_56 (lk_1 hPy2) fr_11_4 (lr_1_4 hPy2) ?_
        refine Z_getr dX11_isSound_47 w3_7 (lk_38 hPy2) fr_10_1 (lr_38_1 hPy2) ?_
        obtain ⟨y3, qy3, h⟩ := bindE h
        have cy3 := v_X0_areSmall hPy2 qy3
        refine C_V0r dX11_isSound_50 w3_115 i_X0_areSmall (lk_39 hPy2) ⟨Nat.le_of_ble_eq_true rfl, Nat.le_of_ble_eq_true rfl⟩ rfl (Nat.le_of_ble_eq_true rfl) (Nat.le_of_ble_eq_true rfl) (Nat.le_of_ble_eq_true rfl) (cy3) ?_
        have hPy3 := cy3.1.1
        refine Y_if_eq (tgt := 60) dX11_isSound_53 (by decide) (fun hc4 => ?_) (fun hc4 => ?_)
        · replace h := ifT hc4 h
          refine Y_iconst (v := (0 : Int32)) dX11_isSound_60 rfl ?_
          cases h
          exact Y_iret rfl (nar_bo (by decide)) dX11_isSound_61 hPy3 ⟨rfl, rfl⟩
        · replace h := ifF hc4 h
          refine Y_iconst (v := (1 : Int32)) dX11_isSound_56 rfl ?_
          refine Y_goto (tgt := 61) dX11_isSound_57 (by decide) ?_
          cases h
          exact Y_iret rfl (nar_bo (by decide)) dX11_isSound_61 hPy3 ⟨rfl, rfl⟩
theorem v_X11_isSound {M z} (hP : Lay M) (h : d_X11_isSound M = some z) : CC Lay k_X11_isSound [.ref 1] M z.2 (Qv (some (.int z.1)) z.2) xF :=
  CC.ofVV (by decide) rfl (Nat.le_of_ble_eq_true rfl) (b_X11_isSound hP h)
noncomputable def d_X12_init_560b (k560 : (Int32) → Mem → Option (Unit × Mem)) (r0 : Nat) (x1 : Int32) (M : Mem) : Option (Unit × Mem) :=
  if (8 : Int32) ≤ x1 then (
    some ((), M))
  else (
    okk (mK M r0 = 12) <|
    (mR M r0 6).bind fun r_1 =>
    okk (mK M r_1 = 21) <|
    okk (vp_in x1 (mN M r_1)) <|
    bnd (sI M r_1 x1.toNatClampNeg (-1 : Int32)) fun M1 =>
    bnd ((x1 + (1 : Int32))) fun b1 =>
    k560 (b1) M1)
theorem b_X12_init_560b {M0 : Mem} {k560 : (Int32) → Mem → Option (Unit × Mem)} {r0 : Nat} {x1 : Int32} {M z} (hk560 : ∀ (a : (Int32)) (M : Mem) (z : Unit × Mem), (Kx r0 M0) M → k560 a M = some z → VV (Kx r0 M0) k_X12_init 560 [(0, .ref r0), (1, .int a)] [] M z.2 (Qv (none) z.2) xF) (hP : (Kx r0 M0) M) (h : d_X12_init_560b k560 r0 x1 M = some z) : VV (Kx r0 M0) k_X12_init 560 [(0, .ref r0), (1, .int x1)] [] M z.2 (Qv (none) z.2) xF := by
  unfold d_X12_init_560b at h
  refine Y_iload_n (j := 1) dX12_init_560 rfl rfl ?_
  refine Y_bipush (v := (8 : Int32)) dX12_init_561 rfl ?_
  refine Y_icmp_ge (tgt := 579) dX12_init_563 (by decide) (fun hc1 => ?_) (fun hc1 => ?_)
  · replace h := ifT hc1 h
    cases h
    exact Y_vret rfl dX12_init_579 hP ⟨rfl, rfl⟩
  · replace h := ifF hc1 h
    refine Y_aload_n (j := 0) dX12_init_566 rfl rfl ?_
    obtain ⟨hb1, h⟩ := okE h
    obtain ⟨r_1, er_1, h⟩ := bindE h
    refine Z_getr dX12_init_567 w8_72 hb1 fr_12_6 er_1 ?_
    refine Y_iload_n (j := 1) dX12_init_570 rfl rfl ?_
    refine Y_iconst (v := (-1 : Int32)) dX12_init_571 rfl ?_
    obtain ⟨hb2, h⟩ := okE h
    obtain ⟨hb3, h⟩ := okE h
    refine Y_iast dX12_init_572 hb2 rfl hb3 ?_
    obtain ⟨M1, eM1, h⟩ := bndE h
    refine VV.mem eM1 ?_
    have hP1 := hP.wI eM1
    obtain ⟨b1, eb1, h⟩ := bndE h
    refine Y_iinc (j := 1) (v := b1) (lv1 := [(1, .int b1), (0, .ref r0)]) dX12_init_573 rfl eb1.symm (by decide) rfl ?_
    refine Y_goto (tgt := 560) dX12_init_576 (by decide) ?_
    refine VV.sub [1, 0] rfl ?_
    exact hk560 _ _ _ hP1 h
noncomputable def d_X12_init_560 (r0 : Nat) : Nat → (Int32) → Mem → Option (Unit × Mem) := lp fun k a M => d_X12_init_560b k r0 a M
theorem b_X12_init_560 {M0 : Mem} {r0 : Nat} (n : Nat) : ∀ (a : (Int32)) (M : Mem) (z : Unit × Mem), d_X12_init_560 r0 n a M = some z → (Kx r0 M0) M → VV (Kx r0 M0) k_X12_init 560 [(0, .ref r0), (1, .int a)] [] M z.2 (Qv (none) z.2) xF :=
  lp_ind (fun k hk a M z h hP => b_X12_init_560b  (fun a M z hP h => hk a M z h hP) hP h) n
noncomputable def d_X12_init_538b (k538 : (Int32) → Mem → Option (Unit × Mem)) (r0 : Nat) (x1 : Int32) (M : Mem) : Option (Unit × Mem) :=
  if (360 : Int32) ≤ x1 then (
    d_X12_init_560 r0 fuel ((0 : Int32)) M)
  else (
    okk (mK M r0 = 12) <|
    (mR M r0 16).bind fun r_1 =>
    okk (mK M r_1 = 21) <|
    okk (vp_in x1 (mN M r_1)) <|
    bnd (sI M r_1 x1.toNatClampNeg (-1 : Int32)) fun M1 =>
    bnd ((x1 + (1 : Int32))) fun b1 =>
    k538 (b1) M1)
theorem b_X12_init_538b {M0 : Mem} {k538 : (Int32) → Mem → Option (Unit × Mem)} {r0 : Nat} {x1 : Int32} {M z} (hk538 : ∀ (a : (Int32)) (M : Mem) (z : Unit × Mem), (Kx r0 M0) M → k538 a M = some z → VV (Kx r0 M0) k_X12_init 538 [(0, .ref r0), (1, .int a)] [] M z.2 (Qv (none) z.2) xF) (hP : (Kx r0 M0) M) (h : d_X12_init_538b k538 r0 x1 M = some z) : VV (Kx r0 M0) k_X12_init 538 [(0, .ref r0), (1, .int x1)] [] M z.2 (Qv (none) z.2) xF := by
  unfold d_X12_init_538b at h
  refine Y_iload_n (j := 1) dX12_init_538 rfl rfl ?_
  refine Y_sipush (v := (360 : Int32)) dX12_init_539 rfl ?_
  refine Y_icmp_ge (tgt := 558) dX12_init_542 (by decide) (fun hc1 => ?_) (fun hc1 => ?_)
  · replace h := ifT hc1 h
    refine Y_iconst (v := (0 : Int32)) dX12_init_558 rfl ?_
    refine Y_istore_n (lv1 := [(1, .int (0 : Int32)), (0, .ref r0)]) dX12_init_559 rfl (by decide) rfl ?_
    refine VV.sub [1, 0] rfl ?_
    exact b_X12_init_560  fuel _ _ _ h hP
  · replace h := ifF hc1 h
    refine Y_aload_n (j := 0) dX12_init_545 rfl rfl ?_
    obtain ⟨hb1, h⟩ := okE h
    obtain ⟨r_1, er_1, h⟩ := bindE h
    refine Z_getr dX12_init_546 w8_82 hb1 fr_12_16 er_1 ?_
    refine Y_iload_n (j := 1) dX12_init_549 rfl rfl ?_
    refine Y_iconst (v := (-1 : Int32)) dX12_init_550 rfl ?_
    obtain ⟨hb2, h⟩ := okE h
    obtain ⟨hb3, h⟩ := okE h
    refine Y_iast dX12_init_551 hb2 rfl hb3 ?_
    obtain ⟨M1, eM1, h⟩ := bndE h
    refine VV.mem eM1 ?_
    have hP1 := hP.wI eM1
    obtain ⟨b1, eb1, h⟩ := bndE h
    refine Y_iinc (j := 1) (v := b1) (lv1 := [(1, .int b1), (0, .ref r0)]) dX12_init_552 rfl eb1.symm (by decide) rfl ?_
    refine Y_goto (tgt := 538) dX12_init_555 (by decide) ?_
    refine VV.sub [1, 0] rfl ?_
    exact hk538 _ _ _ hP1 h
noncomputable def d_X12_init_538 (r0 : Nat) : Nat → (Int32) → Mem → Option (Unit × Mem) := lp fun k a M => d_X12_init_538b k r0 a M
theorem b_X12_init_538 {M0 : Mem} {r0 : Nat} (n : Nat) : ∀ (a : (Int32)) (M : Mem) (z : Unit × Mem), d_X12_init_538 r0 n a M = some z → (Kx r0 M0) M → VV (Kx r0 M0) k_X12_init 538 [(0, .ref r0), (1, .int a)] [] M z.2 (Qv (none) z.2) xF :=
  lp_ind (fun k hk a M z h hP => b_X12_init_538b  (fun a M z hP h => hk a M z h hP) hP h) n
noncomputable def d_X12_init_517b (k517 : (Int32) → Mem → Option (Unit × Mem)) (r0 : Nat) (x1 : Int32) (M : Mem) : Option (Unit × Mem) :=
  if (30 : Int32) ≤ x1 then (
    d_X12_init_538 r0 fuel ((0 : Int32)) M)
  else (
    okk (mK M r0 = 12) <|
    (mR M r0 10).bind fun r_1 =>
    okk (mK M r_1 = 21) <|
    okk (vp_in x1 (mN M r_1)) <|
    bnd (sI M r_1 x1.toNatClampNeg (-1 : Int32)) fun M1 =>
    bnd ((x1 + (1 : Int32))) fun b1 =>
    k517 (b1) M1)
theorem b_X12_init_517b {M0 : Mem} {k517 : (Int32) → Mem → Option (Unit × Mem)} {r0 : Nat} {x1 : Int32} {M z} (hk517 : ∀ (a : (Int32)) (M : Mem) (z : Unit × Mem), (Kx r0 M0) M → k517 a M = some z → VV (Kx r0 M0) k_X12_init 517 [(0, .ref r0), (1, .int a)] [] M z.2 (Qv (none) z.2) xF) (hP : (Kx r0 M0) M) (h : d_X12_init_517b k517 r0 x1 M = some z) : VV (Kx r0 M0) k_X12_init 517 [(0, .ref r0), (1, .int x1)] [] M z.2 (Qv (none) z.2) xF := by
  unfold d_X12_init_517b at h
  refine Y_iload_n (j := 1) dX12_init_517 rfl rfl ?_
  refine Y_bipush (v := (30 : Int32)) dX12_init_518 rfl ?_
  refine Y_icmp_ge (tgt := 536) dX12_init_520 (by decide) (fun hc1 => ?_) (fun hc1 => ?_)
  · replace h := ifT hc1 h
    refine Y_iconst (v := (0 : Int32)) dX12_init_536 rfl ?_
    refine Y_istore_n (lv1 := [(1, .int (0 : Int32)), (0, .ref r0)]) dX12_init_537 rfl (by decide) rfl ?_
    refine VV.sub [1, 0] rfl ?_
    exact b_X12_init_538  fuel _ _ _ h hP
  · replace h := ifF hc1 h
    refine Y_aload_n (j := 0) dX12_init_523 rfl rfl ?_
    obtain ⟨hb1, h⟩ := okE h
    obtain ⟨r_1, er_1, h⟩ := bindE h
    refine Z_getr dX12_init_524 w8_76 hb1 fr_12_10 er_1 ?_
    refine Y_iload_n (j := 1) dX12_init_527 rfl rfl ?_
    refine Y_iconst (v := (-1 : Int32)) dX12_init_528 rfl ?_
    obtain ⟨hb2, h⟩ := okE h
    obtain ⟨hb3, h⟩ := okE h
    refine Y_iast dX12_init_529 hb2 rfl hb3 ?_
    obtain ⟨M1, eM1, h⟩ := bndE h
    refine VV.mem eM1 ?_
    have hP1 := hP.wI eM1
    obtain ⟨b1, eb1, h⟩ := bndE h
    refine Y_iinc (j := 1) (v := b1) (lv1 := [(1, .int b1), (0, .ref r0)]) dX12_init_530 rfl eb1.symm (by decide) rfl ?_
    refine Y_goto (tgt := 517) dX12_init_533 (by decide) ?_
    refine VV.sub [1, 0] rfl ?_
    exact hk517 _ _ _ hP1 h
noncomputable def d_X12_init_517 (r0 : Nat) : Nat → (Int32) → Mem → Option (Unit × Mem) := lp fun k a M => d_X12_init_517b k r0 a M
theorem b_X12_init_517 {M0 : Mem} {r0 : Nat} (n : Nat) : ∀ (a : (Int32)) (M : Mem) (z : Unit × Mem), d_X12_init_517 r0 n a M = some z → (Kx r0 M0) M → VV (Kx r0 M0) k_X12_init 517 [(0, .ref r0), (1, .int a)] [] M z.2 (Qv (none) z.2) xF :=
  lp_ind (fun k hk a M z h hP => b_X12_init_517b  (fun a M z hP h => hk a M z h hP) hP h) n
noncomputable def d_X12_init (r0 : Nat) (M : Mem) : Option (Unit × Mem) :=
  bnd (nx M) fun r_1 => okk (r_1 < 2147483648) <|
  bnd (sN M r_1 21 8) fun M1 =>
  okk (mK M1 r0 = 12) <|
  bnd (sR M1 r0 2 (some r_1)) fun M2 =>
  bnd (nx M2) fun r_2 => okk (r_2 < 2147483648) <|
  bnd (sN M2 r_2 21 8) fun M3 =>
  okk (mK M3 r0 = 12) <|
  bnd (sR M3 r0 3 (some r_2)) fun M4 =>
  bnd (nx M4) fun r_3 => okk (r_3 < 2147483648) <|
  bnd (sN M4 r_3 22 320) fun M5 =>
  okk (mK M5 r0 = 12) <|
  bnd (sR M5 r0 4 (some r_3)) fun M6 =>
  bnd (nx M6) fun r_4 => okk (r_4 < 2147483648) <|
  bnd (sN M6 r_4 21 320) fun M7 =>
  okk (mK M7 r0 = 12) <|
  bnd (sR M7 r0 5 (some r_4)) fun M8 =>
  bnd (nx M8) fun r_5 => okk (r_5 < 2147483648) <|
  bnd (sN M8 r_5 21 8) fun M9 =>
  okk (mK M9 r0 = 12) <|
  bnd (sR M9 r0 6 (some r_5)) fun M10 =>
  bnd (nx M10) fun r_6 => okk (r_6 < 2147483648) <|
  bnd (sN M10 r_6 21 8) fun M11 =>
  okk (mK M11 r0 = 12) <|
  bnd (sR M11 r0 7 (some r_6)) fun M12 =>
  bnd (nx M12) fun r_7 => okk (r_7 < 2147483648) <|
  bnd (sN M12 r_7 21 5) fun M13 =>
  okk (mK M13 r0 = 12) <|
  bnd (sR M13 r0 9 (some r_7)) fun M14 =>
  bnd (nx M14) fun r_8 => okk (r_8 < 2147483648) <|
  bnd (sN M14 r_8 21 30) fun M15 =>
  okk (mK M15 r0 = 12) <|
  bnd (sR M15 r0 10 (some r_8)) fun M16 =>
  bnd (nx M16) fun r_9 => okk (r_9 < 2147483648) <|
  bnd (sN M16 r_9 21 5) fun M17 =>
  okk (mK M17 r0 = 12) <|
  bnd (sR M17 r0 11 (some r_9)) fun M18 =>
  bnd (nx M18) fun r_10 => okk (r_10 < 2147483648) <|
  bnd (sN M18 r_10 21 60) fun M19 =>
  okk (mK M19 r0 = 12) <|
  bnd (sR M19 r0 13 (some r_10)) fun M20 =>
  bnd (nx M20) fun r_11 => okk (r_11 < 2147483648) <|
  bnd (sN M20 r_11 21 60) fun M21 =>
  okk (mK M21 r0 = 12) <|
  bnd (sR M21 r0 14 (some r_11)) fun M22 =>
  bnd (nx M22) fun r_12 => okk (r_12 < 2147483648) <|
  bnd (sN M22 r_12 21 360) fun M23 =>
  okk (mK M23 r0 = 12) <|
  bnd (sR M23 r0 15 (some r_12)) fun M24 =>
  bnd (nx M24) fun r_13 => okk (r_13 < 2147483648) <|
  bnd (sN M24 r_13 21 360) fun M25 =>
  okk (mK M25 r0 = 12) <|
  bnd (sR M25 r0 16 (some r_13)) fun M26 =>
  bnd (nx M26) fun r_14 => okk (r_14 < 2147483648) <|
  bnd (sN M26 r_14 21 320) fun M27 =>
  okk (mK M27 r0 = 12) <|
  bnd (sR M27 r0 17 (some r_14)) fun M28 =>
  bnd (nx M28) fun r_15 => okk (r_15 < 2147483648) <|
  bnd (sN M28 r_15 21 960) fun M29 =>
  okk (mK M29 r0 = 12) <|
  bnd (sR M29 r0 18 (some r_15)) fun M30 =>
  bnd (nx M30) fun r_16 => okk (r_16 < 2147483648) <|
  bnd (sN M30 r_16 21 320) fun M31 =>
  okk (mK M31 r0 = 12) <|
  bnd (sR M31 r0 19 (some r_16)) fun M32 =>
  bnd (nx M32) fun r_17 => okk (r_17 < 2147483648) <|
  bnd (sN M32 r_17 21 320) fun M33 =>
  okk (mK M33 r0 = 12) <|
  bnd (sR M33 r0 20 (some r_17)) fun M34 =>
  bnd (nx M34) fun r_18 => okk (r_18 < 2147483648) <|
  bnd (sN M34 r_18 21 320) fun M35 =>
  okk (mK M35 r0 = 12) <|
  bnd (sR M35 r0 21 (some r_18)) fun M36 =>
  bnd (nx M36) fun r_19 => okk (r_19 < 2147483648) <|
  bnd (sN M36 r_19 21 320) fun M37 =>
  okk (mK M37 r0 = 12) <|
  bnd (sR M37 r0 22 (some r_19)) fun M38 =>
  okk (mK M38 r0 = 12) <|
  bnd (sI M38 r0 23 (3 : Int32)) fun M39 =>
  okk (mK M39 r0 = 12) <|
  bnd (sI M39 r0 24 (2 : Int32)) fun M40 =>
  okk (mK M40 r0 = 12) <|
  bnd (sI M40 r0 25 (80 : Int32)) fun M41 =>
  bnd (nx M41) fun r_20 => okk (r_20 < 2147483648) <|
  bnd (sN M41 r_20 23 20) fun M42 =>
  okk (mK M42 r0 = 12) <|
  bnd (sR M42 r0 27 (some r_20)) fun M43 =>
  bnd (nx M43) fun r_21 => okk (r_21 < 2147483648) <|
  bnd (sN M43 r_21 21 20) fun M44 =>
  okk (mK M44 r0 = 12) <|
  bnd (sR M44 r0 28 (some r_21)) fun M45 =>
  bnd (nx M45) fun r_22 => okk (r_22 < 2147483648) <|
  bnd (sN M45 r_22 21 600) fun M46 =>
  okk (mK M46 r0 = 12) <|
  bnd (sR M46 r0 29 (some r_22)) fun M47 =>
  bnd (nx M47) fun r_23 => okk (r_23 < 2147483648) <|
  bnd (sN M47 r_23 21 20) fun M48 =>
  okk (mK M48 r0 = 12) <|
  bnd (sR M48 r0 30 (some r_23)) fun M49 =>
  bnd (nx M49) fun r_24 => okk (r_24 < 2147483648) <|
  bnd (sN M49 r_24 21 20) fun M50 =>
  okk (mK M50 r0 = 12) <|
  bnd (sR M50 r0 31 (some r_24)) fun M51 =>
  bnd (nx M51) fun r_25 => okk (r_25 < 2147483648) <|
  bnd (sN M51 r_25 21 20) fun M52 =>
  okk (mK M52 r0 = 12) <|
  bnd (sR M52 r0 32 (some r_25)) fun M53 =>
  bnd (nx M53) fun r_26 => okk (r_26 < 2147483648) <|
  bnd (sN M53 r_26 21 20) fun M54 =>
  okk (mK M54 r0 = 12) <|
  bnd (sR M54 r0 33 (some r_26)) fun M55 =>
  bnd (nx M55) fun r_27 => okk (r_27 < 2147483648) <|
  bnd (sN M55 r_27 21 20) fun M56 =>
  okk (mK M56 r0 = 12) <|
  bnd (sR M56 r0 34 (some r_27)) fun M57 =>
  bnd (nx M57) fun r_28 => okk (r_28 < 2147483648) <|
  bnd (sN M57 r_28 22 2400) fun M58 =>
  okk (mK M58 r0 = 12) <|
  bnd (sR M58 r0 36 (some r_28)) fun M59 =>
  bnd (nx M59) fun r_29 => okk (r_29 < 2147483648) <|
  bnd (sN M59 r_29 21 2400) fun M60 =>
  okk (mK M60 r0 = 12) <|
  bnd (sR M60 r0 37 (some r_29)) fun M61 =>
  bnd (nx M61) fun r_30 => okk (r_30 < 2147483648) <|
  bnd (sN M61 r_30 21 2400) fun M62 =>
  okk (mK M62 r0 = 12) <|
  bnd (sR M62 r0 38 (some r_30)) fun M63 =>
  bnd (nx M63) fun r_31 => okk (r_31 < 2147483648) <|
  bnd (sN M63 r_31 21 2400) fun M64 =>
  okk (mK M64 r0 = 12) <|
  bnd (sR M64 r0 39 (some r_31)) fun M65 =>
  bnd (nx M65) fun r_32 => okk (r_32 < 2147483648) <|
  bnd (sN M65 r_32 21 2400) fun M66 =>
  okk (mK M66 r0 = 12) <|
  bnd (sR M66 r0 40 (some r_32)) fun M67 =>
  bnd (nx M67) fun r_33 => okk (r_33 < 2147483648) <|
  bnd (sN M67 r_33 21 2400) fun M68 =>
  okk (mK M68 r0 = 12) <|
  bnd (sR M68 r0 41 (some r_33)) fun M69 =>
  bnd (nx M69) fun r_34 => okk (r_34 < 2147483648) <|
  bnd (sN M69 r_34 21 2400) fun M70 =>
  okk (mK M70 r0 = 12) <|
  bnd (sR M70 r0 42 (some r_34)) fun M71 =>
  bnd (nx M71) fun r_35 => okk (r_35 < 2147483648) <|
  bnd (sN M71 r_35 21 2400) fun M72 =>
  okk (mK M72 r0 = 12) <|
  bnd (sR M72 r0 43 (some r_35)) fun M73 =>
  bnd (nx M73) fun r_36 => okk (r_36 < 2147483648) <|
  bnd (sN M73 r_36 22 168) fun M74 =>
  okk (mK M74 r0 = 12) <|
  bnd (sR M74 r0 44 (some r_36)) fun M75 =>
  bnd (nx M75) fun r_37 => okk (r_37 < 2147483648) <|
  bnd (sN M75 r_37 21 168) fun M76 =>
  okk (mK M76 r0 = 12) <|
  bnd (sR M76 r0 45 (some r_37)) fun M77 =>
  bnd (nx M77) fun r_38 => okk (r_38 < 2147483648) <|
  bnd (sN M77 r_38 25 168) fun M78 =>
  okk (mK M78 r0 = 12) <|
  bnd (sR M78 r0 46 (some r_38)) fun M79 =>
  bnd (nx M79) fun r_39 => okk (r_39 < 2147483648) <|
  bnd (sN M79 r_39 21 168) fun M80 =>
  okk (mK M80 r0 = 12) <|
  bnd (sR M80 r0 47 (some r_39)) fun M81 =>
  bnd (nx M81) fun r_40 => okk (r_40 < 2147483648) <|
  bnd (sN M81 r_40 21 12) fun M82 =>
  okk (mK M82 r0 = 12) <|
  bnd (sR M82 r0 49 (some r_40)) fun M83 =>
  bnd (nx M83) fun r_41 => okk (r_41 < 2147483648) <|
  bnd (sN M83 r_41 21 12) fun M84 =>
  okk (mK M84 r0 = 12) <|
  bnd (sR M84 r0 50 (some r_41)) fun M85 =>
  bnd (nx M85) fun r_42 => okk (r_42 < 2147483648) <|
  bnd (sN M85 r_42 21 12) fun M86 =>
  okk (mK M86 r0 = 12) <|
  bnd (sR M86 r0 51 (some r_42)) fun M87 =>
  bnd (nx M87) fun r_43 => okk (r_43 < 2147483648) <|
  bnd (sN M87 r_43 21 60) fun M88 =>
  okk (mK M88 r0 = 12) <|
  bnd (sR M88 r0 53 (some r_43)) fun M89 =>
  bnd (nx M89) fun r_44 => okk (r_44 < 2147483648) <|
  bnd (sN M89 r_44 22 360) fun M90 =>
  okk (mK M90 r0 = 12) <|
  bnd (sR M90 r0 54 (some r_44)) fun M91 =>
  bnd (nx M91) fun r_45 => okk (r_45 < 2147483648) <|
  bnd (sN M91 r_45 21 360) fun M92 =>
  okk (mK M92 r0 = 12) <|
  bnd (sR M92 r0 55 (some r_45)) fun M93 =>
  bnd (nx M93) fun r_46 => okk (r_46 < 2147483648) <|
  bnd (sN M93 r_46 25 360) fun M94 =>
  okk (mK M94 r0 = 12) <|
  bnd (sR M94 r0 56 (some r_46)) fun M95 =>
  bnd (nx M95) fun r_47 => okk (r_47 < 2147483648) <|
  bnd (sN M95 r_47 22 20) fun M96 =>
  okk (mK M96 r0 = 12) <|
  bnd (sR M96 r0 60 (some r_47)) fun M97 =>
  bnd (nx M97) fun r_48 => okk (r_48 < 2147483648) <|
  bnd (sN M97 r_48 24 20) fun M98 =>
  okk (mK M98 r0 = 12) <|
  bnd (sR M98 r0 61 (some r_48)) fun M99 =>
  okk (mK M99 r0 = 12) <|
  bnd (sI M99 r0 62 (45 : Int32)) fun M100 =>
  okk (mK M100 r0 = 12) <|
  bnd (sI M100 r0 68 (-1 : Int32)) fun M101 =>
  bnd (nx M101) fun r_49 => okk (r_49 < 2147483648) <|
  bnd (sN M101 r_49 21 30) fun M102 =>
  okk (mK M102 r0 = 12) <|
  bnd (sR M102 r0 77 (some r_49)) fun M103 =>
  bnd (nx M103) fun r_50 => okk (r_50 < 2147483648) <|
  bnd (sN M103 r_50 22 120) fun M104 =>
  okk (mK M104 r0 = 12) <|
  bnd (sR M104 r0 79 (some r_50)) fun M105 =>
  bnd (nx M105) fun r_51 => okk (r_51 < 2147483648) <|
  bnd (sN M105 r_51 21 120) fun M106 =>
  okk (mK M106 r0 = 12) <|
  bnd (sR M106 r0 80 (some r_51)) fun M107 =>
  bnd (nx M107) fun r_52 => okk (r_52 < 2147483648) <|
  bnd (sN M107 r_52 21 120) fun M108 =>
  okk (mK M108 r0 = 12) <|
  bnd (sR M108 r0 81 (some r_52)) fun M109 =>
  bnd (nx M109) fun r_53 => okk (r_53 < 2147483648) <|
  bnd (sN M109 r_53 21 120) fun M110 =>
  okk (mK M110 r0 = 12) <|
  bnd (sR M110 r0 82 (some r_53)) fun M111 =>
  bnd (nx M111) fun r_54 => okk (r_54 < 2147483648) <|
  bnd (sN M111 r_54 22 600) fun M112 =>
  okk (mK M112 r0 = 12) <|
  bnd (sR M112 r0 84 (some r_54)) fun M113 =>
  bnd (nx M113) fun r_55 => okk (r_55 < 2147483648) <|
  bnd (sN M113 r_55 23 600) fun M114 =>
  okk (mK M114 r0 = 12) <|
  bnd (sR M114 r0 85 (some r_55)) fun M115 =>
  bnd (nx M115) fun r_56 => okk (r_56 < 2147483648) <|
  bnd (sN M115 r_56 21 600) fun M116 =>
  okk (mK M116 r0 = 12) <|
  bnd (sR M116 r0 86 (some r_56)) fun M117 =>
  bnd (nx M117) fun r_57 => okk (r_57 < 2147483648) <|
  bnd (sN M117 r_57 21 600) fun M118 =>
  okk (mK M118 r0 = 12) <|
  bnd (sR M118 r0 87 (some r_57)) fun M119 =>
  d_X12_init_517 r0 fuel ((0 : Int32)) M119
theorem b_X12_init {M0 : Mem} {r0 : Nat} {M z} (hP : (Kx r0 M0) M) (h : d_X12_init r0 M = some z) : VV (Kx r0 M0) k_X12_init 0 [(0, .ref r0)] [] M z.2 (Qv (none) z.2) xF := by
  unfold d_X12_init at h
  refine Y_aload_n (j := 0) dX12_init_0 rfl rfl ?_
  refine Y_oinit dX12_init_1 w8_65 ?_
  refine Y_aload_n (j := 0) dX12_init_4 rfl rfl ?_
  refine Y_bipush (v := (8 : Int32)) dX12_init_5 rfl ?_
  obtain ⟨r_1, er_1, h⟩ := bndE h
  obtain ⟨hb1, h⟩ := okE h
  refine Y_newa (a := r_1) (t := 21) (N := 8) dX12_init_7 (by decide) (by decide) rfl w1_100 (hP.free er_1) hb1 (by decide) rfl (by decide) ?_
  obtain ⟨M1, eM1, h⟩ := bndE h
  refine VV.mem eM1 ?_
  have hP1 := hP.wN er_1 (by decide) eM1
  obtain ⟨hb2, h⟩ := okE h
  refine Z_putr dX12_init_9 w8_68 hb2 fr_12_2 (Or.inr ⟨rfl, rfl⟩) ?_
  obtain ⟨M2, eM2, h⟩ := bndE h
  refine VV.mem eM2 ?_
  have hP2 := hP1.wR0 (by omega) eM2
  refine Y_aload_n (j := 0) dX12_init_12 rfl rfl ?_
  refine Y_bipush (v := (8 : Int32)) dX12_init_13 rfl ?_
  obtain ⟨r_2, er_2, h⟩ := bndE h
  obtain ⟨hb3, h⟩ := okE h
  refine Y_newa (a := r_2) (t := 21) (N := 8) dX12_init_15 (by decide) (by decide) rfl w1_100 (hP2.free er_2) hb3 (by decide) rfl (by decide) ?_
  obtain ⟨M3, eM3, h⟩ := bndE h
  refine VV.mem eM3 ?_
  have hP3 := hP2.wN er_2 (by decide) eM3
  obtain ⟨hb4, h⟩ := okE h
  refine Z_putr dX12_init_17 w8_69 hb4 fr_12_3 (Or.inr ⟨rfl, rfl⟩) ?_
  obtain ⟨M4, eM4, h⟩ := bndE h
  refine VV.mem eM4 ?_
  have hP4 := hP3.wR0 (by omega) eM4
  refine Y_aload_n (j := 0) dX12_init_20 rfl rfl ?_
  refine Y_sipush (v := (320 : Int32)) dX12_init_21 rfl ?_
  obtain ⟨r_3, er_3, h⟩ := bndE h
  obtain ⟨hb5, h⟩ := okE h
  refine Y_newa (a := r_3) (t := 22) (N := 320) dX12_init_24 (by decide) (by decide) rfl w1_101 (hP4.free er_3) hb5 (by decide) rfl (by decide) ?_
  obtain ⟨M5, eM5, h⟩ := bndE h
  refine VV.mem eM5 ?_
  have hP5 := hP4.wN er_3 (by decide) eM5
  obtain ⟨hb6, h⟩ := okE h
  refine Z_putr dX12_init_26 w8_70 hb6 fr_12_4 (Or.inr ⟨rfl, rfl⟩) ?_
  obtain ⟨M6, eM6, h⟩ := bndE h
  refine VV.mem eM6 ?_
  have hP6 := hP5.wR0 (by omega) eM6
  refine Y_aload_n (j := 0) dX12_init_29 rfl rfl ?_
  refine Y_sipush (v := (320 : Int32)) dX12_init_30 rfl ?_
  obtain ⟨r_4, er_4, h⟩ := bndE h
  obtain ⟨hb7, h⟩ := okE h
  refine Y_newa (a := r_4) (t := 21) (N := 320) dX12_init_33 (by decide) (by decide) rfl w1_100 (hP6.free er_4) hb7 (by decide) rfl (by decide) ?_
  obtain ⟨M7, eM7, h⟩ := bndE h
  refine VV.mem eM7 ?_
  have hP7 := hP6.wN er_4 (by decide) eM7
  obtain ⟨hb8, h⟩ := okE h
  refine Z_putr dX12_init_35 w8_71 hb8 fr_12_5 (Or.inr ⟨rfl, rfl⟩) ?_
  obtain ⟨M8, eM8, h⟩ := bndE h
  refine VV.mem eM8 ?_
  have hP8 := hP7.wR0 (by omega) eM8
  refine Y_aload_n (j := 0) dX12_init_38 rfl rfl ?_
  refine Y_bipush (v := (8 : Int32)) dX12_init_39 rfl ?_
  obtain ⟨r_5, er_5, h⟩ := bndE h
  obtain ⟨hb9, h⟩ := okE h
  refine Y_newa (a := r_5) (t := 21) (N := 8) dX12_init_41 (by decide) (by decide) rfl w1_100 (hP8.free er_5) hb9 (by decide) rfl (by decide) ?_
  obtain ⟨M9, eM9, h⟩ := bndE h
  refine VV.mem eM9 ?_
  have hP9 := hP8.wN er_5 (by decide) eM9
  obtain ⟨hb10, h⟩ := okE h
  refine Z_putr dX12_init_43 w8_72 hb10 fr_12_6 (Or.inr ⟨rfl, rfl⟩) ?_
  obtain ⟨M10, eM10, h⟩ := bndE h
  refine VV.mem eM10 ?_
  have hP10 := hP9.wR0 (by omega) eM10
  refine Y_aload_n (j := 0) dX12_init_46 rfl rfl ?_
  refine Y_bipush (v := (8 : Int32)) dX12_init_47 rfl ?_
  obtain ⟨r_6, er_6, h⟩ := bndE h
  obtain ⟨hb11, h⟩ := okE h
  refine Y_newa (a := r_6) (t := 21) (N := 8) dX12_init_49 (by decide) (by decide) rfl w1_100 (hP10.free er_6) hb11 (by decide) rfl (by decide) ?_
  obtain ⟨M11, eM11, h⟩ := bndE h
  refine VV.mem eM11 ?_
  have hP11 := hP10.wN er_6 (by decide) eM11
  obtain ⟨hb12, h⟩ := okE h
  refine Z_putr dX12_init_51 w8_73 hb12 fr_12_7 (Or.inr ⟨rfl, rfl⟩) ?_
  obtain ⟨M12, eM12, h⟩ := bndE h
  refine VV.mem eM12 ?_
  have hP12 := hP11.wR0 (by omega) eM12
  refine Y_aload_n (j := 0) dX12_init_54 rfl rfl ?_
  refine Y_iconst (v := (5 : Int32)) dX12_init_55 rfl ?_
  obtain ⟨r_7, er_7, h⟩ := bndE h
  obtain ⟨hb13, h⟩ := okE h
  refine Y_newa (a := r_7) (t := 21) (N := 5) dX12_init_56 (by decide) (by decide) rfl w1_100 (hP12.free er_7) hb13 (by decide) rfl (by decide) ?_
  obtain ⟨M13, eM13, h⟩ := bndE h
  refine VV.mem eM13 ?_
  have hP13 := hP12.wN er_7 (by decide) eM13
  obtain ⟨hb14, h⟩ := okE h
  refine Z_putr dX12_init_58 w8_75 hb14 fr_12_9 (Or.inr ⟨rfl, rfl⟩) ?_
  obtain ⟨M14, eM14, h⟩ := bndE h
  refine VV.mem eM14 ?_
  have hP14 := hP13.wR0 (by omega) eM14
  refine Y_aload_n (j := 0) dX12_init_61 rfl rfl ?_
  refine Y_bipush (v := (30 : Int32)) dX12_init_62 rfl ?_
  obtain ⟨r_8, er_8, h⟩ := bndE h
  obtain ⟨hb15, h⟩ := okE h
  refine Y_newa (a := r_8) (t := 21) (N := 30) dX12_init_64 (by decide) (by decide) rfl w1_100 (hP14.free er_8) hb15 (by decide) rfl (by decide) ?_
  obtain ⟨M15, eM15, h⟩ := bndE h
  refine VV.mem eM15 ?_
  have hP15 := hP14.wN er_8 (by decide) eM15
  obtain ⟨hb16, h⟩ := okE h
  refine Z_putr dX12_init_66 w8_76 hb16 fr_12_10 (Or.inr ⟨rfl, rfl⟩) ?_
  obtain ⟨M16, eM16, h⟩ := bndE h
  refine VV.mem eM16 ?_
  have hP16 := hP15.wR0 (by omega) eM16
  refine Y_aload_n (j := 0) dX12_init_69 rfl rfl ?_
  refine Y_iconst (v := (5 : Int32)) dX12_init_70 rfl ?_
  obtain ⟨r_9, er_9, h⟩ := bndE h
  obtain ⟨hb17, h⟩ := okE h
  refine Y_newa (a := r_9) (t := 21) (N := 5) dX12_init_71 (by decide) (by decide) rfl w1_100 (hP16.free er_9) hb17 (by decide) rfl (by decide) ?_
  obtain ⟨M17, eM17, h⟩ := bndE h
  refine VV.mem eM17 ?_
  have hP17 := hP16.wN er_9 (by decide) eM17
  obtain ⟨hb18, h⟩ := okE h
  refine Z_putr dX12_init_73 w8_77 hb18 fr_12_11 (Or.inr ⟨rfl, rfl⟩) ?_
  obtain ⟨M18, eM18, h⟩ := bndE h
  refine VV.mem eM18 ?_
  have hP18 := hP17.wR0 (by omega) eM18
  refine Y_aload_n (j := 0) dX12_init_76 rfl rfl ?_
  refine Y_bipush (v := (60 : Int32)) dX12_init_77 rfl ?_
  obtain ⟨r_10, er_10, h⟩ := bndE h
  obtain ⟨hb19, h⟩ := okE h
  refine Y_newa (a := r_10) (t := 21) (N := 60) dX12_init_79 (by decide) (by decide) rfl w1_100 (hP18.free er_10) hb19 (by decide) rfl (by decide) ?_
  obtain ⟨M19, eM19, h⟩ := bndE h
  refine VV.mem eM19 ?_
  have hP19 := hP18.wN er_10 (by decide) eM19
  obtain ⟨hb20, h⟩ := okE h
  refine Z_putr dX12_init_81 w8_79 hb20 fr_12_13 (Or.inr ⟨rfl, rfl⟩) ?_
  obtain ⟨M20, eM20, h⟩ := bndE h
  refine VV.mem eM20 ?_
  have hP20 := hP19.wR0 (by omega) eM20
  refine Y_aload_n (j := 0) dX12_init_84 rfl rfl ?_
  refine Y_bipush (v := (60 : Int32)) dX12_init_85 rfl ?_
  obtain ⟨r_11, er_11, h⟩ := bndE h
  obtain ⟨hb21, h⟩ := okE h
  refine Y_newa (a := r_11) (t := 21) (N := 60) dX12_init_87 (by decide) (by decide) rfl w1_100 (hP20.free er_11) hb21 (by decide) rfl (by decide) ?_
  obtain ⟨M21, eM21, h⟩ := bndE h
  refine VV.mem eM21 ?_
  have hP21 := hP20.wN er_11 (by decide) eM21
  obtain ⟨hb22, h⟩ := okE h
  refine Z_putr dX12_init_89 w8_80 hb22 fr_12_14 (Or.inr ⟨rfl, rfl⟩) ?_
  obtain ⟨M22, eM22, h⟩ := bndE h
  refine VV.mem eM22 ?_
  have hP22 := hP21.wR0 (by omega) eM22
  refine Y_aload_n (j := 0) dX12_init_92 rfl rfl ?_
  refine Y_sipush (v := (360 : Int32)) dX12_init_93 rfl ?_
  obtain ⟨r_12, er_12, h⟩ := bndE h
  obtain ⟨hb23, h⟩ := okE h
  refine Y_newa (a := r_12) (t := 21) (N := 360) dX12_init_96 (by decide) (by decide) rfl w1_100 (hP22.free er_12) hb23 (by decide) rfl (by decide) ?_
  obtain ⟨M23, eM23, h⟩ := bndE h
  refine VV.mem eM23 ?_
  have hP23 := hP22.wN er_12 (by decide) eM23
  obtain ⟨hb24, h⟩ := okE h
  refine Z_putr dX12_init_98 w8_81 hb24 fr_12_15 (Or.inr ⟨rfl, rfl⟩) ?_
  obtain ⟨M24, eM24, h⟩ := bndE h
  refine VV.mem eM24 ?_
  have hP24 := hP23.wR0 (by omega) eM24
  refine Y_aload_n (j := 0) dX12_init_101 rfl rfl ?_
  refine Y_sipush (v := (360 : Int32)) dX12_init_102 rfl ?_
  obtain ⟨r_13, er_13, h⟩ := bndE h
  obtain ⟨hb25, h⟩ := okE h
  refine Y_newa (a := r_13) (t := 21) (N := 360) dX12_init_105 (by decide) (by decide) rfl w1_100 (hP24.free er_13) hb25 (by decide) rfl (by decide) ?_
  obtain ⟨M25, eM25, h⟩ := bndE h
  refine VV.mem eM25 ?_
  have hP25 := hP24.wN er_13 (by decide) eM25
  obtain ⟨hb26, h⟩ := okE h
  refine Z_putr dX12_init_107 w8_82 hb26 fr_12_16 (Or.inr ⟨rfl, rfl⟩) ?_
  obtain ⟨M26, eM26, h⟩ := bndE h
  refine VV.mem eM26 ?_
  have hP26 := hP25.wR0 (by omega) eM26
  refine Y_aload_n (j := 0) dX12_init_110 rfl rfl ?_
  refine Y_sipush (v := (320 : Int32)) dX12_init_111 rfl ?_
  obtain ⟨r_14, er_14, h⟩ := bndE h
  obtain ⟨hb27, h⟩ := okE h
  refine Y_newa (a := r_14) (t := 21) (N := 320) dX12_init_114 (by decide) (by decide) rfl w1_100 (hP26.free er_14) hb27 (by decide) rfl (by decide) ?_
  obtain ⟨M27, eM27, h⟩ := bndE h
  refine VV.mem eM27 ?_
  have hP27 := hP26.wN er_14 (by decide) eM27
  obtain ⟨hb28, h⟩ := okE h
  refine Z_putr dX12_init_116 w8_83 hb28 fr_12_17 (Or.inr ⟨rfl, rfl⟩) ?_
  obtain ⟨M28, eM28, h⟩ := bndE h
  refine VV.mem eM28 ?_
  have hP28 := hP27.wR0 (by omega) eM28
  refine Y_aload_n (j := 0) dX12_init_119 rfl rfl ?_
  refine Y_sipush (v := (960 : Int32)) dX12_init_120 rfl ?_
  obtain ⟨r_15, er_15, h⟩ := bndE h
  obtain ⟨hb29, h⟩ := okE h
  refine Y_newa (a := r_15) (t := 21) (N := 960) dX12_init_123 (by decide) (by decide) rfl w1_100 (hP28.free er_15) hb29 (by decide) rfl (by decide) ?_
  obtain ⟨M29, eM29, h⟩ := bndE h
  refine VV.mem eM29 ?_
  have hP29 := hP28.wN er_15 (by decide) eM29
  obtain ⟨hb30, h⟩ := okE h
  refine Z_putr dX12_init_125 w8_84 hb30 fr_12_18 (Or.inr ⟨rfl, rfl⟩) ?_
  obtain ⟨M30, eM30, h⟩ := bndE h
  refine VV.mem eM30 ?_
  have hP30 := hP29.wR0 (by omega) eM30
  refine Y_aload_n (j := 0) dX12_init_128 rfl rfl ?_
  refine Y_sipush (v := (320 : Int32)) dX12_init_129 rfl ?_
  obtain ⟨r_16, er_16, h⟩ := bndE h
  obtain ⟨hb31, h⟩ := okE h
  refine Y_newa (a := r_16) (t := 21) (N := 320) dX12_init_132 (by decide) (by decide) rfl w1_100 (hP30.free er_16) hb31 (by decide) rfl (by decide) ?_
  obtain ⟨M31, eM31, h⟩ := bndE h
  refine VV.mem eM31 ?_
  have hP31 := hP30.wN er_16 (by decide) eM31
  obtain ⟨hb32, h⟩ := okE h
  refine Z_putr dX12_init_134 w8_85 hb32 fr_12_19 (Or.inr ⟨rfl, rfl⟩) ?_
  obtain ⟨M32, eM32, h⟩ := bndE h
  refine VV.mem eM32 ?_
  have hP32 := hP31.wR0 (by omega) eM32
  refine Y_aload_n (j := 0) dX12_init_137 rfl rfl ?_
  refine Y_sipush (v := (320 : Int32)) dX12_init_138 rfl ?_
  obtain ⟨r_17, er_17, h⟩ := bndE h
  obtain ⟨hb33, h⟩ := okE h
  refine Y_newa (a := r_17) (t := 21) (N := 320) dX12_init_141 (by decide) (by decide) rfl w1_100 (hP32.free er_17) hb33 (by decide) rfl (by decide) ?_
  obtain ⟨M33, eM33, h⟩ := bndE h
  refine VV.mem eM33 ?_
  have hP33 := hP32.wN er_17 (by decide) eM33
  obtain ⟨hb34, h⟩ := okE h
  refine Z_putr dX12_init_143 w8_86 hb34 fr_12_20 (Or.inr ⟨rfl, rfl⟩) ?_
  obtain ⟨M34, eM34, h⟩ := bndE h
  refine VV.mem eM34 ?_
  have hP34 := hP33.wR0 (by omega) eM34
  refine Y_aload_n (j := 0) dX12_init_146 rfl rfl ?_
  refine Y_sipush (v := (320 : Int32)) dX12_init_147 rfl ?_
  obtain ⟨r_18, er_18, h⟩ := bndE h
  obtain ⟨hb35, h⟩ := okE h
  refine Y_newa (a := r_18) (t := 21) (N := 320) dX12_init_150 (by decide) (by decide) rfl w1_100 (hP34.free er_18) hb35 (by decide) rfl (by decide) ?_
  obtain ⟨M35, eM35, h⟩ := bndE h
  refine VV.mem eM35 ?_
  have hP35 := hP34.wN er_18 (by decide) eM35
  obtain ⟨hb36, h⟩ := okE h
  refine Z_putr dX12_init_152 w8_87 hb36 fr_12_21 (Or.inr ⟨rfl, rfl⟩) ?_
  obtain ⟨M36, eM36, h⟩ := bndE h
  refine VV.mem eM36 ?_
  have hP36 := hP35.wR0 (by omega) eM36
  refine Y_aload_n (j := 0) dX12_init_155 rfl rfl ?_
  refine Y_sipush (v := (320 : Int32)) dX12_init_156 rfl ?_
  obtain ⟨r_19, er_19, h⟩ := bndE h
  obtain ⟨hb37, h⟩ := okE h
  refine Y_newa (a := r_19) (t := 21) (N := 320) dX12_init_159 (by decide) (by decide) rfl w1_100 (hP36.free er_19) hb37 (by decide) rfl (by decide) ?_
  obtain ⟨M37, eM37, h⟩ := bndE h
  refine VV.mem eM37 ?_
  have hP37 := hP36.wN er_19 (by decide) eM37
  obtain ⟨hb38, h⟩ := okE h
  refine Z_putr dX12_init_161 w8_88 hb38 fr_12_22 (Or.inr ⟨rfl, rfl⟩) ?_
  obtain ⟨M38, eM38, h⟩ := bndE h
  refine VV.mem eM38 ?_
  have hP38 := hP37.wR0 (by omega) eM38
  refine Y_aload_n (j := 0) dX12_init_164 rfl rfl ?_
  refine Y_iconst (v := (3 : Int32)) dX12_init_165 rfl ?_
  obtain ⟨hb39, h⟩ := okE h
  refine Z_puti dX12_init_166 w8_89 hb39 fi_12_23 (Or.inl rfl) rfl ?_
  obtain ⟨M39, eM39, h⟩ := bndE h
  refine VV.mem eM39 ?_
  have hP39 := hP38.wI eM39
  refine Y_aload_n (j := 0) dX12_init_169 rfl rfl ?_
  refine Y_iconst (v := (2 : Int32)) dX12_init_170 rfl ?_
  obtain ⟨hb40, h⟩ := okE h
  refine Z_puti dX12_init_171 w8_90 hb40 fi_12_24 (Or.inl rfl) rfl ?_
  obtain ⟨M40, eM40, h⟩ := bndE h
  refine VV.mem eM40 ?_
  have hP40 := hP39.wI eM40
  refine Y_aload_n (j := 0) dX12_init_174 rfl rfl ?_
  refine Y_bipush (v := (80 : Int32)) dX12_init_175 rfl ?_
  obtain ⟨hb41, h⟩ := okE h
  refine Z_puti dX12_init_177 w8_91 hb41 fi_12_25 (Or.inl rfl) rfl ?_
  obtain ⟨M41, eM41, h⟩ := bndE h
  refine VV.mem eM41 ?_
  have hP41 := hP40.wI eM41
  refine Y_aload_n (j := 0) dX12_init_180 rfl rfl ?_
  refine Y_bipush (v := (20 : Int32)) dX12_init_181 rfl ?_
  obtain ⟨r_20, er_20, h⟩ := bndE h
  obtain ⟨hb42, h⟩ := okE h
  refine Y_newa (a := r_20) (t := 23) (N := 20) dX12_init_183 (by decide) (by decide) rfl w9_100 (hP41.free er_20) hb42 (by decide) rfl (by decide) ?_
  obtain ⟨M42, eM42, h⟩ := bndE h
  refine VV.mem eM42 ?_
  have hP42 := hP41.wN er_20 (by decide) eM42
  obtain ⟨hb43, h⟩ := okE h
  refine Z_putr dX12_init_185 w8_93 hb43 fr_12_27 (Or.inr ⟨rfl, rfl⟩) ?_
  obtain ⟨M43, eM43, h⟩ := bndE h
  refine VV.mem eM43 ?_
  have hP43 := hP42.wR0 (by omega) eM43
  refine Y_aload_n (j := 0) dX12_init_188 rfl rfl ?_
  refine Y_bipush (v := (20 : Int32)) dX12_init_189 rfl ?_
  obtain ⟨r_21, er_21, h⟩ := bndE h
  obtain ⟨hb44, h⟩ := okE h
  refine Y_newa (a := r_21) (t := 21) (N := 20) dX12_init_191 (by decide) (by decide) rfl w1_100 (hP43.free er_21) hb44 (by decide) rfl (by decide) ?_
  obtain ⟨M44, eM44, h⟩ := bndE h
  refine VV.mem eM44 ?_
  have hP44 := hP43.wN er_21 (by decide) eM44
  obtain ⟨hb45, h⟩ := okE h
  refine Z_putr dX12_init_193 w8_94 hb45 fr_12_28 (Or.inr ⟨rfl, rfl⟩) ?_
  obtain ⟨M45, eM45, h⟩ := bndE h
  refine VV.mem eM45 ?_
  have hP45 := hP44.wR0 (by omega) eM45
  refine Y_aload_n (j := 0) dX12_init_196 rfl rfl ?_
  refine Y_sipush (v := (600 : Int32)) dX12_init_197 rfl ?_
  obtain ⟨r_22, er_22, h⟩ := bndE h
  obtain ⟨hb46, h⟩ := okE h
  refine Y_newa (a := r_22) (t := 21) (N := 600) dX12_init_200 (by decide) (by decide) rfl w1_100 (hP45.free er_22) hb46 (by decide) rfl (by decide) ?_
  obtain ⟨M46, eM46, h⟩ := bndE h
  refine VV.mem eM46 ?_
  have hP46 := hP45.wN er_22 (by decide) eM46
  obtain ⟨hb47, h⟩ := okE h
  refine Z_putr dX12_init_202 w8_95 hb47 fr_12_29 (Or.inr ⟨rfl, rfl⟩) ?_
  obtain ⟨M47, eM47, h⟩ := bndE h
  refine VV.mem eM47 ?_
  have hP47 := hP46.wR0 (by omega) eM47
  refine Y_aload_n (j := 0) dX12_init_205 rfl rfl ?_
  refine Y_bipush (v := (20 : Int32)) dX12_init_206 rfl ?_
  obtain ⟨r_23, er_23, h⟩ := bndE h
  obtain ⟨hb48, h⟩ := okE h
  refine Y_newa (a := r_23) (t := 21) (N := 20) dX12_init_208 (by decide) (by decide) rfl w1_100 (hP47.free er_23) hb48 (by decide) rfl (by decide) ?_
  obtain ⟨M48, eM48, h⟩ := bndE h
  refine VV.mem eM48 ?_
  have hP48 := hP47.wN er_23 (by decide) eM48
  obtain ⟨hb49, h⟩ := okE h
  refine Z_putr dX12_init_210 w8_96 hb49 fr_12_30 (Or.inr ⟨rfl, rfl⟩) ?_
  obtain ⟨M49, eM49, h⟩ := bndE h
  refine VV.mem eM49 ?_
  have hP49 := hP48.wR0 (by omega) eM49
  refine Y_aload_n (j := 0) dX12_init_213 rfl rfl ?_
  refine Y_bipush (v := (20 : Int32)) dX12_init_214 rfl ?_
  obtain ⟨r_24, er_24, h⟩ := bndE h
  obtain ⟨hb50, h⟩ := okE h
  refine Y_newa (a := r_24) (t := 21) (N := 20) dX12_init_216 (by decide) (by decide) rfl w1_100 (hP49.free er_24) hb50 (by decide) rfl (by decide) ?_
  obtain ⟨M50, eM50, h⟩ := bndE h
  refine VV.mem eM50 ?_
  have hP50 := hP49.wN er_24 (by decide) eM50
  obtain ⟨hb51, h⟩ := okE h
  refine Z_putr dX12_init_218 w8_97 hb51 fr_12_31 (Or.inr ⟨rfl, rfl⟩) ?_
  obtain ⟨M51, eM51, h⟩ := bndE h
  refine VV.mem eM51 ?_
  have hP51 := hP50.wR0 (by omega) eM51
  refine Y_aload_n (j := 0) dX12_init_221 rfl rfl ?_
  refine Y_bipush (v := (20 : Int32)) dX12_init_222 rfl ?_
  obtain ⟨r_25, er_25, h⟩ := bndE h
  obtain ⟨hb52, h⟩ := okE h
  refine Y_newa (a := r_25) (t := 21) (N := 20) dX12_init_224 (by decide) (by decide) rfl w1_100 (hP51.free er_25) hb52 (by decide) rfl (by decide) ?_
  obtain ⟨M52, eM52, h⟩ := bndE h
  refine VV.mem eM52 ?_
  have hP52 := hP51.wN er_25 (by decide) eM52
  obtain ⟨hb53, h⟩ := okE h
  refine Z_putr dX12_init_226 w8_98 hb53 fr_12_32 (Or.inr ⟨rfl, rfl⟩) ?_
  obtain ⟨M53, eM53, h⟩ := bndE h
  refine VV.mem eM53 ?_
  have hP53 := hP52.wR0 (by omega) eM53
  refine Y_aload_n (j := 0) dX12_init_229 rfl rfl ?_
  refine Y_bipush (v := (20 : Int32)) dX12_init_230 rfl ?_
  obtain ⟨r_26, er_26, h⟩ := bndE h
  obtain ⟨hb54, h⟩ := okE h
  refine Y_newa (a := r_26) (t := 21) (N := 20) dX12_init_232 (by decide) (by decide) rfl w1_100 (hP53.free er_26) hb54 (by decide) rfl (by decide) ?_
  obtain ⟨M54, eM54, h⟩ := bndE h
  refine VV.mem eM54 ?_
  have hP54 := hP53.wN er_26 (by decide) eM54
  obtain ⟨hb55, h⟩ := okE h
  refine Z_putr dX12_init_234 w8_99 hb55 fr_12_33 (Or.inr ⟨rfl, rfl⟩) ?_
  obtain ⟨M55, eM55, h⟩ := bndE h
  refine VV.mem eM55 ?_
  have hP55 := hP54.wR0 (by omega) eM55
  refine Y_aload_n (j := 0) dX12_init_237 rfl rfl ?_
  refine Y_bipush (v := (20 : Int32)) dX12_init_238 rfl ?_
  obtain ⟨r_27, er_27, h⟩ := bndE h
  obtain ⟨hb56, h⟩ := okE h
  refine Y_newa (a := r_27) (t := 21) (N := 20) dX12_init_240 (by decide) (by decide) rfl w1_100 (hP55.free er_27) hb56 (by decide) rfl (by decide) ?_
  obtain ⟨M56, eM56, h⟩ := bndE h
  refine VV.mem eM56 ?_
  have hP56 := hP55.wN er_27 (by decide) eM56
  obtain ⟨hb57, h⟩ := okE h
  refine Z_putr dX12_init_242 w8_100 hb57 fr_12_34 (Or.inr ⟨rfl, rfl⟩) ?_
  obtain ⟨M57, eM57, h⟩ := bndE h
  refine VV.mem eM57 ?_
  have hP57 := hP56.wR0 (by omega) eM57
  refine Y_aload_n (j := 0) dX12_init_245 rfl rfl ?_
  refine Y_sipush (v := (2400 : Int32)) dX12_init_246 rfl ?_
  obtain ⟨r_28, er_28, h⟩ := bndE h
  obtain ⟨hb58, h⟩ := okE h
  refine Y_newa (a := r_28) (t := 22) (N := 2400) dX12_init_249 (by decide) (by decide) rfl w1_101 (hP57.free er_28) hb58 (by decide) rfl (by decide) ?_
  obtain ⟨M58, eM58, h⟩ := bndE h
  refine VV.mem eM58 ?_
  have hP58 := hP57.wN er_28 (by decide) eM58
  obtain ⟨hb59, h⟩ := okE h
  refine Z_putr dX12_init_251 w8_102 hb59 fr_12_36 (Or.inr ⟨rfl, rfl⟩) ?_
  obtain ⟨M59, eM59, h⟩ := bndE h
  refine VV.mem eM59 ?_
  have hP59 := hP58.wR0 (by omega) eM59
  refine Y_aload_n (j := 0) dX12_init_254 rfl rfl ?_
  refine Y_sipush (v := (2400 : Int32)) dX12_init_255 rfl ?_
  obtain ⟨r_29, er_29, h⟩ := bndE h
  obtain ⟨hb60, h⟩ := okE h
  refine Y_newa (a := r_29) (t := 21) (N := 2400) dX12_init_258 (by decide) (by decide) rfl w1_100 (hP59.free er_29) hb60 (by decide) rfl (by decide) ?_
  obtain ⟨M60, eM60, h⟩ := bndE h
  refine VV.mem eM60 ?_
  have hP60 := hP59.wN er_29 (by decide) eM60
  obtain ⟨hb61, h⟩ := okE h
  refine Z_putr dX12_init_260 w8_103 hb61 fr_12_37 (Or.inr ⟨rfl, rfl⟩) ?_
  obtain ⟨M61, eM61, h⟩ := bndE h
  refine VV.mem eM61 ?_
  have hP61 := hP60.wR0 (by omega) eM61
  refine Y_aload_n (j := 0) dX12_init_263 rfl rfl ?_
  refine Y_sipush (v := (2400 : Int32)) dX12_init_264 rfl ?_
  obtain ⟨r_30, er_30, h⟩ := bndE h
  obtain ⟨hb62, h⟩ := okE h
  refine Y_newa (a := r_30) (t := 21) (N := 2400) dX12_init_267 (by decide) (by decide) rfl w1_100 (hP61.free er_30) hb62 (by decide) rfl (by decide) ?_
  obtain ⟨M62, eM62, h⟩ := bndE h
  refine VV.mem eM62 ?_
  have hP62 := hP61.wN er_30 (by decide) eM62
  obtain ⟨hb63, h⟩ := okE h
  refine Z_putr dX12_init_269 w8_104 hb63 fr_12_38 (Or.inr ⟨rfl, rfl⟩) ?_
  obtain ⟨M63, eM63, h⟩ := bndE h
  refine VV.mem eM63 ?_
  have hP63 := hP62.wR0 (by omega) eM63
  refine Y_aload_n (j := 0) dX12_init_272 rfl rfl ?_
  refine Y_sipush (v := (2400 : Int32)) dX12_init_273 rfl ?_
  obtain ⟨r_31, er_31, h⟩ := bndE h
  obtain ⟨hb64, h⟩ := okE h
  refine Y_newa (a := r_31) (t := 21) (N := 2400) dX12_init_276 (by decide) (by decide) rfl w1_100 (hP63.free er_31) hb64 (by decide) rfl (by decide) ?_
  obtain ⟨M64, eM64, h⟩ := bndE h
  refine VV.mem eM64 ?_
  have hP64 := hP63.wN er_31 (by decide) eM64
  obtain ⟨hb65, h⟩ := okE h
  refine Z_putr dX12_init_278 w8_105 hb65 fr_12_39 (Or.inr ⟨rfl, rfl⟩) ?_
  obtain ⟨M65, eM65, h⟩ := bndE h
  refine VV.mem eM65 ?_
  have hP65 := hP64.wR0 (by omega) eM65
  refine Y_aload_n (j := 0) dX12_init_281 rfl rfl ?_
  refine Y_sipush (v := (2400 : Int32)) dX12_init_282 rfl ?_
  obtain ⟨r_32, er_32, h⟩ := bndE h
  obtain ⟨hb66, h⟩ := okE h
  refine Y_newa (a := r_32) (t := 21) (N := 2400) dX12_init_285 (by decide) (by decide) rfl w1_100 (hP65.free er_32) hb66 (by decide) rfl (by decide) ?_
  obtain ⟨M66, eM66, h⟩ := bndE h
  refine VV.mem eM66 ?_
  have hP66 := hP65.wN er_32 (by decide) eM66
  obtain ⟨hb67, h⟩ := okE h
  refine Z_putr dX12_init_287 w8_106 hb67 fr_12_40 (Or.inr ⟨rfl, rfl⟩) ?_
  obtain ⟨M67, eM67, h⟩ := bndE h
  refine VV.mem eM67 ?_
  have hP67 := hP66.wR0 (by omega) eM67
  refine Y_aload_n (j := 0) dX12_init_290 rfl rfl ?_
  refine Y_sipush (v := (2400 : Int32)) dX12_init_291 rfl ?_
  obtain ⟨r_33, er_33, h⟩ := bndE h
  obtain ⟨hb68, h⟩ := okE h
  refine Y_newa (a := r_33) (t := 21) (N := 2400) dX12_init_294 (by decide) (by decide) rfl w1_100 (hP67.free er_33) hb68 (by decide) rfl (by decide) ?_
  obtain ⟨M68, eM68, h⟩ := bndE h
  refine VV.mem eM68 ?_
  have hP68 := hP67.wN er_33 (by decide) eM68
  obtain ⟨hb69, h⟩ := okE h
  refine Z_putr dX12_init_296 w8_107 hb69 fr_12_41 (Or.inr ⟨rfl, rfl⟩) ?_
  obtain ⟨M69, eM69, h⟩ := bndE h
  refine VV.mem eM69 ?_
  have hP69 := hP68.wR0 (by omega) eM69
  refine Y_aload_n (j := 0) dX12_init_299 rfl rfl ?_
  refine Y_sipush (v := (2400 : Int32)) dX12_init_300 rfl ?_
  obtain ⟨r_34, er_34, h⟩ := bndE h
  obtain ⟨hb70, h⟩ := okE h
  refine Y_newa (a := r_34) (t := 21) (N := 2400) dX12_init_303 (by decide) (by decide) rfl w1_100 (hP69.free er_34) hb70 (by decide) rfl (by decide) ?_
  obtain ⟨M70, eM70, h⟩ := bndE h
  refine VV.mem eM70 ?_
  have hP70 := hP69.wN er_34 (by decide) eM70
  obtain ⟨hb71, h⟩ := okE h
  refine Z_putr dX12_init_305 w8_108 hb71 fr_12_42 (Or.inr ⟨rfl, rfl⟩) ?_
  obtain ⟨M71, eM71, h⟩ := bndE h
  refine VV.mem eM71 ?_
  have hP71 := hP70.wR0 (by omega) eM71
  refine Y_aload_n (j := 0) dX12_init_308 rfl rfl ?_
  refine Y_sipush (v := (2400 : Int32)) dX12_init_309 rfl ?_
  obtain ⟨r_35, er_35, h⟩ := bndE h
  obtain ⟨hb72, h⟩ := okE h
  refine Y_newa (a := r_35) (t := 21) (N := 2400) dX12_init_312 (by decide) (by decide) rfl w1_100 (hP71.free er_35) hb72 (by decide) rfl (by decide) ?_
  obtain ⟨M72, eM72, h⟩ := bndE h
  refine VV.mem eM72 ?_
  have hP72 := hP71.wN er_35 (by decide) eM72
  obtain ⟨hb73, h⟩ := okE h
  refine Z_putr dX12_init_314 w8_109 hb73 fr_12_43 (Or.inr ⟨rfl, rfl⟩) ?_
  obtain ⟨M73, eM73, h⟩ := bndE h
  refine VV.mem eM73 ?_
  have hP73 := hP72.wR0 (by omega) eM73
  refine Y_aload_n (j := 0) dX12_init_317 rfl rfl ?_
  refine Y_sipush (v := (168 : Int32)) dX12_init_318 rfl ?_
  obtain ⟨r_36, er_36, h⟩ := bndE h
  obtain ⟨hb74, h⟩ := okE h
  refine Y_newa (a := r_36) (t := 22) (N := 168) dX12_init_321 (by decide) (by decide) rfl w1_101 (hP73.free er_36) hb74 (by decide) rfl (by decide) ?_
  obtain ⟨M74, eM74, h⟩ := bndE h
  refine VV.mem eM74 ?_
  have hP74 := hP73.wN er_36 (by decide) eM74
  obtain ⟨hb75, h⟩ := okE h
  refine Z_putr dX12_init_323 w8_110 hb75 fr_12_44 (Or.inr ⟨rfl, rfl⟩) ?_
  obtain ⟨M75, eM75, h⟩ := bndE h
  refine VV.mem eM75 ?_
  have hP75 := hP74.wR0 (by omega) eM75
  refine Y_aload_n (j := 0) dX12_init_326 rfl rfl ?_
  refine Y_sipush (v := (168 : Int32)) dX12_init_327 rfl ?_
  obtain ⟨r_37, er_37, h⟩ := bndE h
  obtain ⟨hb76, h⟩ := okE h
  refine Y_newa (a := r_37) (t := 21) (N := 168) dX12_init_330 (by decide) (by decide) rfl w1_100 (hP75.free er_37) hb76 (by decide) rfl (by decide) ?_
  obtain ⟨M76, eM76, h⟩ := bndE h
  refine VV.mem eM76 ?_
  have hP76 := hP75.wN er_37 (by decide) eM76
  obtain ⟨hb77, h⟩ := okE h
  refine Z_putr dX12_init_332 w8_111 hb77 fr_12_45 (Or.inr ⟨rfl, rfl⟩) ?_
  obtain ⟨M77, eM77, h⟩ := bndE h
  refine VV.mem eM77 ?_
  have hP77 := hP76.wR0 (by omega) eM77
  refine Y_aload_n (j := 0) dX12_init_335 rfl rfl ?_
  refine Y_sipush (v := (168 : Int32)) dX12_init_336 rfl ?_
  obtain ⟨r_38, er_38, h⟩ := bndE h
  obtain ⟨hb78, h⟩ := okE h
  refine Y_newa (a := r_38) (t := 25) (N := 168) dX12_init_339 (by decide) (by decide) rfl w1_166 (hP77.free er_38) hb78 (by decide) rfl (by decide) ?_
  obtain ⟨M78, eM78, h⟩ := bndE h
  refine VV.mem eM78 ?_
  have hP78 := hP77.wN er_38 (by decide) eM78
  obtain ⟨hb79, h⟩ := okE h
  refine Z_putr dX12_init_341 w8_112 hb79 fr_12_46 (Or.inr ⟨rfl, rfl⟩) ?_
  obtain ⟨M79, eM79, h⟩ := bndE h
  refine VV.mem eM79 ?_
  have hP79 := hP78.wR0 (by omega) eM79
  refine Y_aload_n (j := 0) dX12_init_344 rfl rfl ?_
  refine Y_sipush (v := (168 : Int32)) dX12_init_345 rfl ?_
  obtain ⟨r_39, er_39, h⟩ := bndE h
  obtain ⟨hb80, h⟩ := okE h
  refine Y_newa (a := r_39) (t := 21) (N := 168) dX12_init_348 (by decide) (by decide) rfl w1_100 (hP79.free er_39) hb80 (by decide) rfl (by decide) ?_
  obtain ⟨M80, eM80, h⟩ := bndE h
  refine VV.mem eM80 ?_
  have hP80 := hP79.wN er_39 (by decide) eM80
  obtain ⟨hb81, h⟩ := okE h
  refine Z_putr dX12_init_350 w8_113 hb81 fr_12_47 (Or.inr ⟨rfl, rfl⟩) ?_
  obtain ⟨M81, eM81, h⟩ := bndE h
  refine VV.mem eM81 ?_
  have hP81 := hP80.wR0 (by omega) eM81
  refine Y_aload_n (j := 0) dX12_init_353 rfl rfl ?_
  refine Y_bipush (v := (12 : Int32)) dX12_init_354 rfl ?_
  obtain ⟨r_40, er_40, h⟩ := bndE h
  obtain ⟨hb82, h⟩ := okE h
  refine Y_newa (a := r_40) (t := 21) (N := 12) dX12_init_356 (by decide) (by decide) rfl w1_100 (hP81.free er_40) hb82 (by decide) rfl (by decide) ?_
  obtain ⟨M82, eM82, h⟩ := bndE h
  refine VV.mem eM82 ?_
  have hP82 := hP81.wN er_40 (by decide) eM82
  obtain ⟨hb83, h⟩ := okE h
  refine Z_putr dX12_init_358 w8_115 hb83 fr_12_49 (Or.inr ⟨rfl, rfl⟩) ?_
  obtain ⟨M83, eM83, h⟩ := bndE h
  refine VV.mem eM83 ?_
  have hP83 := hP82.wR0 (by omega) eM83
  refine Y_aload_n (j := 0) dX12_init_361 rfl rfl ?_
  refine Y_bipush (v := (12 : Int32)) dX12_init_362 rfl ?_
  obtain ⟨r_41, er_41, h⟩ := bndE h
  obtain ⟨hb84, h⟩ := okE h
  refine Y_newa (a := r_41) (t := 21) (N := 12) dX12_init_364 (by decide) (by decide) rfl w1_100 (hP83.free er_41) hb84 (by decide) rfl (by decide) ?_
  obtain ⟨M84, eM84, h⟩ := bndE h
  refine VV.mem eM84 ?_
  have hP84 := hP83.wN er_41 (by decide) eM84
  obtain ⟨hb85, h⟩ := okE h
  refine Z_putr dX12_init_366 w8_116 hb85 fr_12_50 (Or.inr ⟨rfl, rfl⟩) ?_
  obtain ⟨M85, eM85, h⟩ := bndE h
  refine VV.mem eM85 ?_
  have hP85 := hP84.wR0 (by omega) eM85
  refine Y_aload_n (j := 0) dX12_init_369 rfl rfl ?_
  refine Y_bipush (v := (12 : Int32)) dX12_init_370 rfl ?_
  obtain ⟨r_42, er_42, h⟩ := bndE h
  obtain ⟨hb86, h⟩ := okE h
  refine Y_newa (a := r_42) (t := 21) (N := 12) dX12_init_372 (by decide) (by decide) rfl w1_100 (hP85.free er_42) hb86 (by decide) rfl (by decide) ?_
  obtain ⟨M86, eM86, h⟩ := bndE h
  refine VV.mem eM86 ?_
  have hP86 := hP85.wN er_42 (by decide) eM86
  obtain ⟨hb87, h⟩ := okE h
  refine Z_putr dX12_init_374 w8_117 hb87 fr_12_51 (Or.inr ⟨rfl, rfl⟩) ?_
  obtain ⟨M87, eM87, h⟩ := bndE h
  refine VV.mem eM87 ?_
  have hP87 := hP86.wR0 (by omega) eM87
  refine Y_aload_n (j := 0) dX12_init_377 rfl rfl ?_
  refine Y_bipush (v := (60 : Int32)) dX12_init_378 rfl ?_
  obtain ⟨r_43, er_43, h⟩ := bndE h
  obtain ⟨hb88, h⟩ := okE h
  refine Y_newa (a := r_43) (t := 21) (N := 60) dX12_init_380 (by decide) (by decide) rfl w1_100 (hP87.free er_43) hb88 (by decide) rfl (by decide) ?_
  obtain ⟨M88, eM88, h⟩ := bndE h
  refine VV.mem eM88 ?_
  have hP88 := hP87.wN er_43 (by decide) eM88
  obtain ⟨hb89, h⟩ := okE h
  refine Z_putr dX12_init_382 w8_119 hb89 fr_12_53 (Or.inr ⟨rfl, rfl⟩) ?_
  obtain ⟨M89, eM89, h⟩ := bndE h
  refine VV.mem eM89 ?_
  have hP89 := hP88.wR0 (by omega) eM89
  refine Y_aload_n (j := 0) dX12_init_385 rfl rfl ?_
  refine Y_sipush (v := (360 : Int32)) dX12_init_386 rfl ?_
  obtain ⟨r_44, er_44, h⟩ := bndE h
  obtain ⟨hb90, h⟩ := okE h
  refine Y_newa (a := r_44) (t := 22) (N := 360) dX12_init_389 (by decide) (by decide) rfl w1_101 (hP89.free er_44) hb90 (by decide) rfl (by decide) ?_
  obtain ⟨M90, eM90, h⟩ := bndE h
  refine VV.mem eM90 ?_
  have hP90 := hP89.wN er_44 (by decide) eM90
  obtain ⟨hb91, h⟩ := okE h
  refine Z_putr dX12_init_391 w8_120 hb91 fr_12_54 (Or.inr ⟨rfl, rfl⟩) ?_
  obtain ⟨M91, eM91, h⟩ := bndE h
  refine VV.mem eM91 ?_
  have hP91 := hP90.wR0 (by omega) eM91
  refine Y_aload_n (j := 0) dX12_init_394 rfl rfl ?_
  refine Y_sipush (v := (360 : Int32)) dX12_init_395 rfl ?_
  obtain ⟨r_45, er_45, h⟩ := bndE h
  obtain ⟨hb92, h⟩ := okE h
  refine Y_newa (a := r_45) (t := 21) (N := 360) dX12_init_398 (by decide) (by decide) rfl w1_100 (hP91.free er_45) hb92 (by decide) rfl (by decide) ?_
  obtain ⟨M92, eM92, h⟩ := bndE h
  refine VV.mem eM92 ?_
  have hP92 := hP91.wN er_45 (by decide) eM92
  obtain ⟨hb93, h⟩ := okE h
  refine Z_putr dX12_init_400 w8_121 hb93 fr_12_55 (Or.inr ⟨rfl, rfl⟩) ?_
  obtain ⟨M93, eM93, h⟩ := bndE h
  refine VV.mem eM93 ?_
  have hP93 := hP92.wR0 (by omega) eM93
  refine Y_aload_n (j := 0) dX12_init_403 rfl rfl ?_
  refine Y_sipush (v := (360 : Int32)) dX12_init_404 rfl ?_
  obtain ⟨r_46, er_46, h⟩ := bndE h
  obtain ⟨hb94, h⟩ := okE h
  refine Y_newa (a := r_46) (t := 25) (N := 360) dX12_init_407 (by decide) (by decide) rfl w1_166 (hP93.free er_46) hb94 (by decide) rfl (by decide) ?_
  obtain ⟨M94, eM94, h⟩ := bndE h
  refine VV.mem eM94 ?_
  have hP94 := hP93.wN er_46 (by decide) eM94
  obtain ⟨hb95, h⟩ := okE h
  refine Z_putr dX12_init_409 w8_122 hb95 fr_12_56 (Or.inr ⟨rfl, rfl⟩) ?_
  obtain ⟨M95, eM95, h⟩ := bndE h
  refine VV.mem eM95 ?_
  have hP95 := hP94.wR0 (by omega) eM95
  refine Y_aload_n (j := 0) dX12_init_412 rfl rfl ?_
  refine Y_bipush (v := (20 : Int32)) dX12_init_413 rfl ?_
  obtain ⟨r_47, er_47, h⟩ := bndE h
  obtain ⟨hb96, h⟩ := okE h
  refine Y_newa (a := r_47) (t := 22) (N := 20) dX12_init_415 (by decide) (by decide) rfl w1_101 (hP95.free er_47) hb96 (by decide) rfl (by decide) ?_
  obtain ⟨M96, eM96, h⟩ := bndE h
  refine VV.mem eM96 ?_
  have hP96 := hP95.wN er_47 (by decide) eM96
  obtain ⟨hb97, h⟩ := okE h
  refine Z_putr dX12_init_417 w8_126 hb97 fr_12_60 (Or.inr ⟨rfl, rfl⟩) ?_
  obtain ⟨M97, eM97, h⟩ := bndE h
  refine VV.mem eM97 ?_
  have hP97 := hP96.wR0 (by omega) eM97
  refine Y_aload_n (j := 0) dX12_init_420 rfl rfl ?_
  refine Y_bipush (v := (20 : Int32)) dX12_init_421 rfl ?_
  obtain ⟨r_48, er_48, h⟩ := bndE h
  obtain ⟨hb98, h⟩ := okE h
  refine Y_newa (a := r_48) (t := 24) (N := 20) dX12_init_423 (by decide) (by decide) rfl w9_101 (hP97.free er_48) hb98 (by decide) rfl (by decide) ?_
  obtain ⟨M98, eM98, h⟩ := bndE h
  refine VV.mem eM98 ?_
  have hP98 := hP97.wN er_48 (by decide) eM98
  obtain ⟨hb99, h⟩ := okE h
  refine Z_putr dX12_init_425 w8_127 hb99 fr_12_61 (Or.inr ⟨rfl, rfl⟩) ?_
  obtain ⟨M99, eM99, h⟩ := bndE h
  refine VV.mem eM99 ?_
  have hP99 := hP98.wR0 (by omega) eM99
  refine Y_aload_n (j := 0) dX12_init_428 rfl rfl ?_
  refine Y_bipush (v := (45 : Int32)) dX12_init_429 rfl ?_
  obtain ⟨hb100, h⟩ := okE h
  refine Z_putc dX12_init_431 w8_128 hb100 fi_12_62 (Or.inl rfl) rfl (by decide) ?_
  obtain ⟨M100, eM100, h⟩ := bndE h
  refine VV.mem eM100 ?_
  have hP100 := hP99.wI eM100
  refine Y_aload_n (j := 0) dX12_init_434 rfl rfl ?_
  refine Y_iconst (v := (-1 : Int32)) dX12_init_435 rfl ?_
  obtain ⟨hb101, h⟩ := okE h
  refine Z_puti dX12_init_436 w8_134 hb101 fi_12_68 (Or.inl rfl) rfl ?_
  obtain ⟨M101, eM101, h⟩ := bndE h
  refine VV.mem eM101 ?_
  have hP101 := hP100.wI eM101
  refine Y_aload_n (j := 0) dX12_init_439 rfl rfl ?_
  refine Y_bipush (v := (30 : Int32)) dX12_init_440 rfl ?_
  obtain ⟨r_49, er_49, h⟩ := bndE h
  obtain ⟨hb102, h⟩ := okE h
  refine Y_newa (a := r_49) (t := 21) (N := 30) dX12_init_442 (by decide) (by decide) rfl w1_100 (hP101.free er_49) hb102 (by decide) rfl (by decide) ?_
  obtain ⟨M102, eM102, h⟩ := bndE h
  refine VV.mem eM102 ?_
  have hP102 := hP101.wN er_49 (by decide) eM102
  obtain ⟨hb103, h⟩ := okE h
  refine Z_putr dX12_init_444 w8_143 hb103 fr_12_77 (Or.inr ⟨rfl, rfl⟩) ?_
  obtain ⟨M103, eM103, h⟩ := bndE h
  refine VV.mem eM103 ?_
  have hP103 := hP102.wR0 (by omega) eM103
  refine Y_aload_n (j := 0) dX12_init_447 rfl rfl ?_
  refine Y_bipush (v := (120 : Int32)) dX12_init_448 rfl ?_
  obtain ⟨r_50, er_50, h⟩ := bndE h
  obtain ⟨hb104, h⟩ := okE h
  refine Y_newa (a := r_50) (t := 22) (N := 120) dX12_init_450 (by decide) (by decide) rfl w1_101 (hP103.free er_50) hb104 (by decide) rfl (by decide) ?_
  obtain ⟨M104, eM104, h⟩ := bndE h
  refine VV.mem eM104 ?_
  have hP104 := hP103.wN er_50 (by decide) eM104
  obtain ⟨hb105, h⟩ := okE h
  refine Z_putr dX12_init_452 w8_145 hb105 fr_12_79 (Or.inr ⟨rfl, rfl⟩) ?_
  obtain ⟨M105, eM105, h⟩ := bndE h
  refine VV.mem eM105 ?_
  have hP105 := hP104.wR0 (by omega) eM105
  refine Y_aload_n (j := 0) dX12_init_455 rfl rfl ?_
  refine Y_bipush (v := (120 : Int32)) dX12_init_456 rfl ?_
  obtain ⟨r_51, er_51, h⟩ := bndE h
  obtain ⟨hb106, h⟩ := okE h
  refine Y_newa (a := r_51) (t := 21) (N := 120) dX12_init_458 (by decide) (by decide) rfl w1_100 (hP105.free er_51) hb106 (by decide) rfl (by decide) ?_
  obtain ⟨M106, eM106, h⟩ := bndE h
  refine VV.mem eM106 ?_
  have hP106 := hP105.wN er_51 (by decide) eM106
  obtain ⟨hb107, h⟩ := okE h
  refine Z_putr dX12_init_460 w8_146 hb107 fr_12_80 (Or.inr ⟨rfl, rfl⟩) ?_
  obtain ⟨M107, eM107, h⟩ := bndE h
  refine VV.mem eM107 ?_
  have hP107 := hP106.wR0 (by omega) eM107
  refine Y_aload_n (j := 0) dX12_init_463 rfl rfl ?_
  refine Y_bipush (v := (120 : Int32)) dX12_init_464 rfl ?_
  obtain ⟨r_52, er_52, h⟩ := bndE h
  obtain ⟨hb108, h⟩ := okE h
  refine Y_newa (a := r_52) (t := 21) (N := 120) dX12_init_466 (by decide) (by decide) rfl w1_100 (hP107.free er_52) hb108 (by decide) rfl (by decide) ?_
  obtain ⟨M108, eM108, h⟩ := bndE h
  refine VV.mem eM108 ?_
  have hP108 := hP107.wN er_52 (by decide) eM108
  obtain ⟨hb109, h⟩ := okE h
  refine Z_putr dX12_init_468 w8_147 hb109 fr_12_81 (Or.inr ⟨rfl, rfl⟩) ?_
  obtain ⟨M109, eM109, h⟩ := bndE h
  refine VV.mem eM109 ?_
  have hP109 := hP108.wR0 (by omega) eM109
  refine Y_aload_n (j := 0) dX12_init_471 rfl rfl ?_
  refine Y_bipush (v := (120 : Int32)) dX12_init_472 rfl ?_
  obtain ⟨r_53, er_53, h⟩ := bndE h
  obtain ⟨hb110, h⟩ := okE h
  refine Y_newa (a := r_53) (t := 21) (N := 120) dX12_init_474 (by decide) (by decide) rfl w1_100 (hP109.free er_53) hb110 (by decide) rfl (by decide) ?_
  obtain ⟨M110, eM110, h⟩ := bndE h
  refine VV.mem eM110 ?_
  have hP110 := hP109.wN er_53 (by decide) eM110
  obtain ⟨hb111, h⟩ := okE h
  refine Z_putr dX12_init_476 w8_148 hb111 fr_12_82 (Or.inr ⟨rfl, rfl⟩) ?_
  obtain ⟨M111, eM111, h⟩ := bndE h
  refine VV.mem eM111 ?_
  have hP111 := hP110.wR0 (by omega) eM111
  refine Y_aload_n (j := 0) dX12_init_479 rfl rfl ?_
  refine Y_sipush (v := (600 : Int32)) dX12_init_480 rfl ?_
  obtain ⟨r_54, er_54, h⟩ := bndE h
  obtain ⟨hb112, h⟩ := okE h
  refine Y_newa (a := r_54) (t := 22) (N := 600) dX12_init_483 (by decide) (by decide) rfl w1_101 (hP111.free er_54) hb112 (by decide) rfl (by decide) ?_
  obtain ⟨M112, eM112, h⟩ := bndE h
  refine VV.mem eM112 ?_
  have hP112 := hP111.wN er_54 (by decide) eM112
  obtain ⟨hb113, h⟩ := okE h
  refine Z_putr dX12_init_485 w8_150 hb113 fr_12_84 (Or.inr ⟨rfl, rfl⟩) ?_
  obtain ⟨M113, eM113, h⟩ := bndE h
  refine VV.mem eM113 ?_
  have hP113 := hP112.wR0 (by omega) eM113
  refine Y_aload_n (j := 0) dX12_init_488 rfl rfl ?_
  refine Y_sipush (v := (600 : Int32)) dX12_init_489 rfl ?_
  obtain ⟨r_55, er_55, h⟩ := bndE h
  obtain ⟨hb114, h⟩ := okE h
  refine Y_newa (a := r_55) (t := 23) (N := 600) dX12_init_492 (by decide) (by decide) rfl w9_100 (hP113.free er_55) hb114 (by decide) rfl (by decide) ?_
  obtain ⟨M114, eM114, h⟩ := bndE h
  refine VV.mem eM114 ?_
  have hP114 := hP113.wN er_55 (by decide) eM114
  obtain ⟨hb115, h⟩ := okE h
  refine Z_putr dX12_init_494 w8_151 hb115 fr_12_85 (Or.inr ⟨rfl, rfl⟩) ?_
  obtain ⟨M115, eM115, h⟩ := bndE h
  refine VV.mem eM115 ?_
  have hP115 := hP114.wR0 (by omega) eM115
  refine Y_aload_n (j := 0) dX12_init_497 rfl rfl ?_
  refine Y_sipush (v := (600 : Int32)) dX12_init_498 rfl ?_
  obtain ⟨r_56, er_56, h⟩ := bndE h
  obtain ⟨hb116, h⟩ := okE h
  refine Y_newa (a := r_56) (t := 21) (N := 600) dX12_init_501 (by decide) (by decide) rfl w1_100 (hP115.free er_56) hb116 (by decide) rfl (by decide) ?_
  obtain ⟨M116, eM116, h⟩ := bndE h
  refine VV.mem eM116 ?_
  have hP116 := hP115.wN er_56 (by decide) eM116
  obtain ⟨hb117, h⟩ := okE h
  refine Z_putr dX12_init_503 w8_152 hb117 fr_12_86 (Or.inr ⟨rfl, rfl⟩) ?_
  obtain ⟨M117, eM117, h⟩ := bndE h
  refine VV.mem eM117 ?_
  have hP117 := hP116.wR0 (by omega) eM117
  refine Y_aload_n (j := 0) dX12_init_506 rfl rfl ?_
  refine Y_sipush (v := (600 : Int32)) dX12_init_507 rfl ?_
  obtain ⟨r_57, er_57, h⟩ := bndE h
  obtain ⟨hb118, h⟩ := okE h
  refine Y_newa (a := r_57) (t := 21) (N := 600) dX12_init_510 (by decide) (by decide) rfl w1_100 (hP117.free er_57) hb118 (by decide) rfl (by decide) ?_
  obtain ⟨M118, eM118, h⟩ := bndE h
  refine VV.mem eM118 ?_
  have hP118 := hP117.wN er_57 (by decide) eM118
  obtain ⟨hb119, h⟩ := okE h
  refine Z_putr dX12_init_512 w8_153 hb119 fr_12_87 (Or.inr ⟨rfl, rfl⟩) ?_
  obtain ⟨M119, eM119, h⟩ := bndE h
  refine VV.mem eM119 ?_
  have hP119 := hP118.wR0 (by omega) eM119
  refine Y_iconst (v := (0 : Int32)) dX12_init_515 rfl ?_
  refine Y_istore_n (lv1 := [(1, .int (0 : Int32)), (0, .ref r0)]) dX12_init_516 rfl (by decide) rfl ?_
  refine VV.sub [1, 0] rfl ?_
  exact b_X12_init_517  fuel _ _ _ h hP119
theorem v_X12_init {r0 : Nat} {M z} (hP : Fsh M) (hr : r0 ≤ nx M) (h : d_X12_init r0 M = some z) : CC (Kx r0 M) k_X12_init [.ref r0] M z.2 (Qv (none) z.2) xF :=
  CC.ofVV (by decide) rfl (Nat.le_of_ble_eq_true rfl) (b_X12_init (Kx.refl hP hr) h)
noncomputable def d_X12_thrown (M : Mem) : Option (Int32 × Mem) :=
  some ((mI M 69 0), M)
theorem b_X12_thrown {M z} (hP : Lay M) (h : d_X12_thrown M = some z) : VV Lay k_X12_thrown 0 [(0, .ref 69)] [] M z.2 (Qv (some (.int z.1)) z.2) xF := by
  unfold d_X12_thrown at h
  refine Y_aload_n (j := 0) dX12_thrown_0 rfl rfl ?_
  refine Z_geti dX12_thrown_1 w8_66 (lk_69 hP) fi_12_0 ?_
  cases h
  exact Y_iret rfl rfl dX12_thrown_4 hP ⟨rfl, rfl⟩
theorem v_X12_thrown {M z} (hP : Lay M) (h : d_X12_thrown M = some z) : CC Lay k_X12_thrown [.ref 69] M z.2 (Qv (some (.int z.1)) z.2) xF :=
  CC.ofVV (by decide) rfl (Nat.le_of_ble_eq_true rfl) (b_X12_thrown hP h)
noncomputable def d_X12_in (x0 : Int32) (x1 : Int32) (x2 : Int32) (M : Mem) : Option (Int32 × Mem) :=
  if x0 < x1 then (
    some ((0 : Int32), M))
  else (
    if x2 < x0 then (
      some ((0 : Int32), M))
    else (
      some ((1 : Int32), M)))
theorem b_X12_in {x0 : Int32} {x1 : Int32} {x2 : Int32} {M z} (hP : Lay M) (h : d_X12_in x0 x1 x2 M = some z) : VV Lay k_X12_in 0 [(0, .int x0), (1, .int x1), (2, .int x2)] [] M z.2 (Qv (some (.int z.1)) z.2) xF := by
  unfold d_X12_in at h
  refine Y_iload_n (j := 0) dX12_in_0 rfl rfl ?_
  refine Y_iload_n (j := 1) dX12_in_1 rfl rfl ?_
  refine Y_icmp_lt (tgt := 14) dX12_in_2 (by decide) (fun hc1 => ?_) (fun hc1 => ?_)
  · replace h := ifT hc1 h
    refine Y_iconst (v := (0 : Int32)) dX12_in_14 rfl ?_
    cases h
    exact Y_iret rfl (nar_bo (by decide)) dX12_in_15 hP ⟨rfl, rfl⟩
  · replace h := ifF hc1 h
    refine Y_iload_n (j := 0) dX12_in_5 rfl rfl ?_
    refine Y_iload_n (j := 2) dX12_in_6 rfl rfl ?_
    refine Y_icmp_gt (tgt := 14) dX12_in_7 (by decide) (fun hc2 => ?_) (fun hc2 => ?_)
    · replace h := ifT hc2 h
      refine Y_iconst (v := (0 : Int32)) dX12_in_14 rfl ?_
      cases h
      exact Y_iret rfl (nar_bo (by decide)) dX12_in_15 hP ⟨rfl, rfl⟩
    · replace h := ifF hc2 h
      refine Y_iconst (v := (1 : Int32)) dX12_in_10 rfl ?_
      refine Y_goto (tgt := 15) dX12_in_11 (by decide) ?_
      cases h
      exact Y_iret rfl (nar_bo (by decide)) dX12_in_15 hP ⟨rfl, rfl⟩
theorem v_X12_in {x0 : Int32} {x1 : Int32} {x2 : Int32} {M z} (hP : Lay M) (h : d_X12_in x0 x1 x2 M = some z) : CC Lay k_X12_in [.int x0, .int x1, .int x2] M z.2 (Qv (some (.int z.1)) z.2) xF :=
  CC.ofVV (by decide) rfl (Nat.le_of_ble_eq_true rfl) (b_X12_in hP h)
noncomputable def d_X12_fails (x1 : Int32) (M : Mem) : Option (Int32 × Mem) :=
  bnd (sI M 69 0 x1) fun M1 =>
  some ((0 : Int32), M1)
theorem b_X12_fails {x1 : Int32} {M z} (hP : Lay M) (h : d_X12_fails x1 M = some z) : VV Lay k_X12_fails 0 [(0, .ref 69), (1, .int x1)] [] M z.2 (Qv (some (.int z.1)) z.2) xF := by
  unfold d_X12_fails at h
  refine Y_aload_n (j := 0) dX12_fails_0 rfl rfl ?_
  refine Y_iload_n (j := 1) dX12_fails_1 rfl rfl ?_
  refine Z_puti dX12_fails_2 w8_66 (lk_69 hP) fi_12_0 (Or.inl rfl) rfl ?_
  obtain ⟨M1, eM1, h⟩ := bndE h
  refine VV.mem eM1 ?_
  have hP1 := hP.wI eM1
  refine Y_iconst (v := (0 : Int32)) dX12_fails_5 rfl ?_
  cases h
  exact Y_iret rfl rfl dX12_fails_6 hP1 ⟨rfl, rfl⟩
theorem v_X12_fails {x1 : Int32} {M z} (hP : Lay M) (h : d_X12_fails x1 M = some z) : CC Lay k_X12_fails [.ref 69, .int x1] M z.2 (Qv (some (.int z.1)) z.2) xF :=
  CC.ofVV (by decide) rfl (Nat.le_of_ble_eq_true rfl) (b_X12_fails hP h)
noncomputable def d_X12_isFunction (x1 : Int32) (M : Mem) : Option (Int32 × Mem) :=
  (d_X12_in x1 (0 : Int32) ((mI M 69 1) - (1 : Int32)) M).bind fun y1 =>
  okk (isBo y1.1) <|
  some (y1.1, y1.2)
theorem b_X12_isFunction {x1 : Int32} {M z} (hP : Lay M) (h : d_X12_isFunction x1 M = some z) : VV Lay k_X12_isFunction 0 [(0, .ref 69), (1, .int x1)] [] M z.2 (Qv (some (.int z.1)) z.2) xF := by
  unfold d_X12_isFunction at h
  refine Y_iload_n (j := 1) dX12_isFunction_0 rfl rfl ?_
  refine Y_iconst (v := (0 : Int32)) dX12_isFunction_1 rfl ?_
  refine Y_aload_n (j := 0) dX12_isFunction_2 rfl rfl ?_
  refine Z_geti dX12_isFunction_3 w8_67 (lk_69 hP) fi_12_1 ?_
  refine Y_iconst (v := (1 : Int32)) dX12_isFunction_6 rfl ?_
  refine Y_isub dX12_isFunction_7 ?_
  obtain ⟨y1, qy1, h⟩ := bindE h
  have cy1 := v_X12_in hP qy1
  refine C_S3r dX12_isFunction_8 w9_110 i_X12_in (Nat.le_of_ble_eq_true rfl) (Nat.le_of_ble_eq_true rfl) (Nat.le_of_ble_eq_true rfl) (cy1) ?_
  have hPy1 := cy1.1.1
  obtain ⟨hb1, h⟩ := okE h
  cases h
  exact Y_iret rfl (nar_bo hb1) dX12_isFunction_11 hPy1 ⟨rfl, rfl⟩
theorem v_X12_isFunction {x1 : Int32} {M z} (hP : Lay M) (h : d_X12_isFunction x1 M = some z) : CC Lay k_X12_isFunction [.ref 69, .int x1] M z.2 (Qv (some (.int z.1)) z.2) xF :=
  CC.ofVV (by decide) rfl (Nat.le_of_ble_eq_true rfl) (b_X12_isFunction hP h)
noncomputable def d_X12_addFunction (x1 : Int32) (M : Mem) : Option (Int32 × Mem) :=
  bnd (sI M 69 0 (0 : Int32)) fun M1 =>
  (d_X12_in x1 (0 : Int32) (3 : Int32) M1).bind fun y1 =>
  if y1.1 = 0 then (
    (d_X12_fails (1 : Int32) y1.2).bind fun y3 =>
    some (y3.1, y3.2))
  else (
    if (mI y1.2 69 1) = (8 : Int32) then (
      (d_X12_fails (2 : Int32) y1.2).bind fun y2 =>
      some (y2.1, y2.2))
    else (
      okk (vp_in (mI y1.2 69 1) 8) <|
      bnd (sI y1.2 70 (mI y1.2 69 1).toNatClampNeg x1) fun M2 =>
      bnd (sI M2 69 1 ((mI M2 69 1) + (1 : Int32))) fun M3 =>
      some (((mI M3 69 1) - (1 : Int32)), M3)))
theorem b_X12_addFunction {x1 : Int32} {M z} (hP : Lay M) (h : d_X12_addFunction x1 M = some z) : VV Lay k_X12_addFunction 0 [(0, .ref 69), (1, .int x1)] [] M z.2 (Qv (some (.int z.1)) z.2) xF := by
  unfold d_X12_addFunction at h
  refine Y_aload_n (j := 0) dX12_addFunction_0 rfl rfl ?_
  refine Y_iconst (v := (0 : Int32)) dX12_addFunction_1 rfl ?_
  refine Z_puti dX12_addFunction_2 w8_66 (lk_69 hP) fi_12_0 (Or.inl rfl) rfl ?_
  obtain ⟨M1, eM1, h⟩ := bndE h
  refine VV.mem eM1 ?_
  have hP1 := hP.wI eM1
  refine Y_iload_n (j := 1) dX12_addFunction_5 rfl rfl ?_
  refine Y_iconst (v := (0 : Int32)) dX12_addFunction_6 rfl ?_
  refine Y_iconst (v := (3 : Int32)) dX12_addFunction_7 rfl ?_
  obtain ⟨y1, qy1, h⟩ := bindE h
  have cy1 := v_X12_in hP1 qy1
  refine C_S3r dX12_addFunction_8 w9_110 i_X12_in (Nat.le_of_ble_eq_true rfl) (Nat.le_of_ble_eq_true rfl) (Nat.le_of_ble_eq_true rfl) (cy1) ?_
  have hPy1 := cy1.1.1
  refine Y_if_ne (tgt := 20) dX12_addFunction_11 (by decide) (fun hc1 => ?_) (fun hc1 => ?_)
  · replace h := ifF hc1 h
    refine Y_aload_n (j := 0) dX12_addFunction_20 rfl rfl ?_
    refine Z_geti dX12_addFunction_21 w8_67 (lk_69 hPy1) fi_12_1 ?_
    refine Y_bipush (v := (8 : Int32)) dX12_addFunction_24 rfl ?_
    refine Y_icmp_ne (tgt := 35) dX12_addFunction_26 (by decide) (fun hc2 => ?_) (fun hc2 => ?_)
    · replace h := ifF hc2 h
      refine Y_aload_n (j := 0) dX12_addFunction_35 rfl rfl ?_
      refine Z_getr dX12_addFunction_36 w8_68 (lk_69 hPy1) fr_12_2 (lr_69_2 hPy1) ?_
      refine Y_aload_n (j := 0) dX12_addFunction_39 rfl rfl ?_
      refine Z_geti dX12_addFunction_40 w8_67 (lk_69 hPy1) fi_12_1 ?_
      refine Y_iload_n (j := 1) dX12_addFunction_43 rfl rfl ?_
      obtain ⟨hb1, h⟩ := okE h
      refine Y_iast dX12_addFunction_44 (lk_70 hPy1) (ln_70 hPy1) hb1 ?_
      obtain ⟨M2, eM2, h⟩ := bndE h
      refine VV.mem eM2 ?_
      have hP2 := hPy1.wI eM2
      refine Y_aload_n (j := 0) dX12_addFunction_45 rfl rfl ?_
      refine Y_dup dX12_addFunction_46 rfl ?_
      refine Z_geti dX12_addFunction_47 w8_67 (lk_69 hP2) fi_12_1 ?_
      refine Y_iconst (v := (1 : Int32)) dX12_addFunction_50 rfl ?_
      refine Y_iadd dX12_addFunction_51 ?_
      refine Z_puti dX12_addFunction_52 w8_67 (lk_69 hP2) fi_12_1 (Or.inl rfl) rfl ?_
      obtain ⟨M3, eM3, h⟩ := bndE h
      refine VV.mem eM3 ?_
      have hP3 := hP2.wI eM3
      refine Y_aload_n (j := 0) dX12_addFunction_55 rfl rfl ?_
      refine Z_geti dX12_addFunction_56 w8_67 (lk_69 hP3) fi_12_1 ?_
      refine Y_iconst (v := (1 : Int32)) dX12_addFunction_59 rfl ?_
      refine Y_isub dX12_addFunction_60 ?_
      cases h
      exact Y_iret rfl rfl dX12_addFunction_61 hP3 ⟨rfl, rfl⟩
    · replace h := ifT hc2 h
      refine Y_aload_n (j := 0) dX12_addFunction_29 rfl rfl ?_
      refine Y_iconst (v := (2 : Int32)) dX12_addFunction_30 rfl ?_
      obtain ⟨y2, qy2, h⟩ := bindE h
      have cy2 := v_X12_fails hPy1 qy2
      refine C_V1r dX12_addFunction_31 w9_113 i_X12_fails (lk_69 hPy1) ⟨Nat.le_of_ble_eq_true rfl, Nat.le_of_ble_eq_true rfl⟩ rfl (Nat.le_of_ble_eq_true rfl) (Nat.le_of_ble_eq_true rfl) (Nat.le_of_ble_eq_true rfl) (cy2) ?_
      have hPy2 := cy2.1.1
      cases h
      exact Y_iret rfl rfl dX12_addFunction_34 hPy2 ⟨rfl, rfl⟩
  · replace h := ifT hc1 h
    refine Y_aload_n (j := 0) dX12_addFunction_14 rfl rfl ?_
    refine Y_iconst (v := (1 : Int32)) dX12_addFunction_15 rfl ?_
    obtain ⟨y3, qy3, h⟩ := bindE h
    have cy3 := v_X12_fails hPy1 qy3
    refine C_V1r dX12_addFunction_16 w9_113 i_X12_fails (lk_69 hPy1) ⟨Nat.le_of_ble_eq_true rfl, Nat.le_of_ble_eq_true rfl⟩ rfl (Nat.le_of_ble_eq_true rfl) (Nat.le_of_ble_eq_true rfl) (Nat.le_of_ble_eq_true rfl) (cy3) ?_
    have hPy3 := cy3.1.1
    cases h
    exact Y_iret rfl rfl dX12_addFunction_19 hPy3 ⟨rfl, rfl⟩
theorem v_X12_addFunction {x1 : Int32} {M z} (hP : Lay M) (h : d_X12_addFunction x1 M = some z) : CC Lay k_X12_addFunction [.ref 69, .int x1] M z.2 (Qv (some (.int z.1)) z.2) xF :=
  CC.ofVV (by decide) rfl (Nat.le_of_ble_eq_true rfl) (b_X12_addFunction hP h)
noncomputable def d_X12_isPair (x0 : Int32) (M : Mem) : Option (Int32 × Mem) :=
  if x0 = (43 : Int32) then (
    some ((1 : Int32), M))
  else (
    if x0 = (45 : Int32) then (
      some ((1 : Int32), M))
    else (
      if x0 = (42 : Int32) then (
        some ((1 : Int32), M))
      else (
        if x0 = (47 : Int32) then (
          some ((1 : Int32), M))
        else (
          if x0 = (37 : Int32) then (
            some ((1 : Int32), M))
          else (
            if x0 = (60 : Int32) then (
              some ((1 : Int32), M))
            else (
              if x0 = (61 : Int32) then (
                some ((1 : Int32), M))
              else (
                some ((0 : Int32), M))))))))
theorem b_X12_isPair {x0 : Int32} {M z} (hP : Lay M) (h : d_X12_isPair x0 M = some z) : VV Lay k_X12_isPair 0 [(0, .int x0)] [] M z.2 (Qv (some (.int z.1)) z.2) xF := by
  unfold d_X12_isPair at h
  refine Y_iload_n (j := 0) dX12_isPair_0 rfl rfl ?_
  refine Y_bipush (v := (43 : Int32)) dX12_isPair_1 rfl ?_
  refine Y_icmp_eq (tgt := 42) dX12_isPair_3 (by decide) (fun hc1 => ?_) (fun hc1 => ?_)
  · replace h := ifT hc1 h
    refine Y_iconst (v := (1 : Int32)) dX12_isPair_42 rfl ?_
    refine Y_goto (tgt := 47) dX12_isPair_43 (by decide) ?_
    cases h
    exact Y_iret rfl (nar_bo (by decide)) dX12_isPair_47 hP ⟨rfl, rfl⟩
  · replace h := ifF hc1 h
    refine Y_iload_n (j := 0) dX12_isPair_6 rfl rfl ?_
    refine Y_bipush (v := (45 : Int32)) dX12_isPair_7 rfl ?_
    refine Y_icmp_eq (tgt := 42) dX12_isPair_9 (by decide) (fun hc2 => ?_) (fun hc2 => ?_)
    · replace h := ifT hc2 h
      refine Y_iconst (v := (1 : Int32)) dX12_isPair_42 rfl ?_
      refine Y_goto (tgt := 47) dX12_isPair_43 (by decide) ?_
      cases h
      exact Y_iret rfl (nar_bo (by decide)) dX12_isPair_47 hP ⟨rfl, rfl⟩
    · replace h := ifF hc2 h
      refine Y_iload_n (j := 0) dX12_isPair_12 rfl rfl ?_
      refine Y_bipush (v := (42 : Int32)) dX12_isPair_13 rfl ?_
      refine Y_icmp_eq (tgt := 42) dX12_isPair_15 (by decide) (fun hc3 => ?_) (fun hc3 => ?_)
      · replace h := ifT hc3 h
        refine Y_iconst (v := (1 : Int32)) dX12_isPair_42 rfl ?_
        refine Y_goto (tgt := 47) dX12_isPair_43 (by decide) ?_
        cases h
        exact Y_iret rfl (nar_bo (by decide)) dX12_isPair_47 hP ⟨rfl, rfl⟩
      · replace h := ifF hc3 h
        refine Y_iload_n (j := 0) dX12_isPair_18 rfl rfl ?_
        refine Y_bipush (v := (47 : Int32)) dX12_isPair_19 rfl ?_
        refine Y_icmp_eq (tgt := 42) dX12_isPair_21 (by decide) (fun hc4 => ?_) (fun hc4 => ?_)
        · replace h := ifT hc4 h
          refine Y_iconst (v := (1 : Int32)) dX12_isPair_42 rfl ?_
          refine Y_goto (tgt := 47) dX12_isPair_43 (by decide) ?_
          cases h
          exact Y_iret rfl (nar_bo (by decide)) dX12_isPair_47 hP ⟨rfl, rfl⟩
        · replace h := ifF hc4 h
          refine Y_iload_n (j := 0) dX12_isPair_24 rfl rfl ?_
          refine Y_bipush (v := (37 : Int32)) dX12_isPair_25 rfl ?_
          refine Y_icmp_eq (tgt := 42) dX12_isPair_27 (by decide) (fun hc5 => ?_) (fun hc5 => ?_)
          · replace h := ifT hc5 h
            refine Y_iconst (v := (1 : Int32)) dX12_isPair_42 rfl ?_
            refine Y_goto (tgt := 47) dX12_isPair_43 (by decide) ?_
            cases h
            exact Y_iret rfl (nar_bo (by decide)) dX12_isPair_47 hP ⟨rfl, rfl⟩
          · replace h := ifF hc5 h
            refine Y_iload_n (j := 0) dX12_isPair_30 rfl rfl ?_
            refine Y_bipush (v := (60 : Int32)) dX12_isPair_31 rfl ?_
            refine Y_icmp_eq (tgt := 42) dX12_isPair_33 (by decide) (fun hc6 => ?_) (fun hc6 => ?_)
            · replace h := ifT hc6 h
              refine Y_iconst (v := (1 : Int32)) dX12_isPair_42 rfl ?_
              refine Y_goto (tgt := 47) dX12_isPair_43 (by decide) ?_
              cases h
              exact Y_iret rfl (nar_bo (by decide)) dX12_isPair_47 hP ⟨rfl, rfl⟩
            · replace h := ifF hc6 h
              refine Y_iload_n (j := 0) dX12_isPair_36 rfl rfl ?_
              refine Y_bipush (v := (61 : Int32)) dX12_isPair_37 rfl ?_
              refine Y_icmp_ne (tgt := 46) dX12_isPair_39 (by decide) (fun hc7 => ?_) (fun hc7 => ?_)
              · replace h := ifF hc7 h
                refine Y_iconst (v := (0 : Int32)) dX12_isPair_46 rfl ?_
                cases h
                exact Y_iret rfl (nar_bo (by decide)) dX12_isPair_47 hP ⟨rfl, rfl⟩
              · replace h := ifT hc7 h
                refine Y_iconst (v := (1 : Int32)) dX12_isPair_42 rfl ?_
                refine Y_goto (tgt := 47) dX12_isPair_43 (by decide) ?_
                cases h
                exact Y_iret rfl (nar_bo (by decide)) dX12_isPair_47 hP ⟨rfl, rfl⟩
theorem v_X12_isPair {x0 : Int32} {M z} (hP : Lay M) (h : d_X12_isPair x0 M = some z) : CC Lay k_X12_isPair [.int x0] M z.2 (Qv (some (.int z.1)) z.2) xF :=
  CC.ofVV (by decide) rfl (Nat.le_of_ble_eq_true rfl) (b_X12_isPair hP h)
noncomputable def d_X12_isCode_52 (x2 : Int32) (M : Mem) : Option (Int32 × Mem) :=
  (d_X12_in x2 (0 : Int32) (5 : Int32) M).bind fun y1 =>
  okk (isBo y1.1) <|
  some (y1.1, y1.2)
theorem b_X12_isCode_52 {x2 : Int32} {M z} (hP : Lay M) (h : d_X12_isCode_52 x2 M = some z) : VV Lay k_X12_isCode 52 [(2, .int x2)] [] M z.2 (Qv (some (.int z.1)) z.2) xF := by
  unfold d_X12_isCode_52 at h
  refine Y_iload_n (j := 0) dX12_isCode_52 rfl rfl ?_
  refine Y_iconst (v := (0 : Int32)) dX12_isCode_53 rfl ?_
  refine Y_iconst (v := (5 : Int32)) dX12_isCode_54 rfl ?_
  obtain ⟨y1, qy1, h⟩ := bindE h
  have cy1 := v_X12_in hP qy1
  refine C_S3r dX12_isCode_55 w9_110 i_X12_in (Nat.le_of_ble_eq_true rfl) (Nat.le_of_ble_eq_true rfl) (Nat.le_of_ble_eq_true rfl) (cy1) ?_
  have hPy1 := cy1.1.1
  obtain ⟨hb1, h⟩ := okE h
  cases h
  exact Y_iret rfl (nar_bo hb1) dX12_isCode_58 hPy1 ⟨rfl, rfl⟩
noncomputable def d_X12_isCode_71 (x2 : Int32) (M : Mem) : Option (Int32 × Mem) :=
  (d_X12_in x2 (0 : Int32) (39 : Int32) M).bind fun y1 =>
  okk (isBo y1.1) <|
  some (y1.1, y1.2)
theorem b_X12_isCode_71 {x2 : Int32} {M z} (hP : Lay M) (h : d_X12_isCode_71 x2 M = some z) : VV Lay k_X12_isCode 71 [(2, .int x2)] [] M z.2 (Qv (some (.int z.1)) z.2) xF := by
  unfold d_X12_isCode_71 at h
  refine Y_iload_n (j := 0) dX12_isCode_71 rfl rfl ?_
  refine Y_iconst (v := (0 : Int32)) dX12_isCode_72 rfl ?_
  refine Y_bipush (v := (39 : Int32)) dX12_isCode_73 rfl ?_
  obtain ⟨y1, qy1, h⟩ := bindE h
  have cy1 := v_X12_in hP qy1
  refine C_S3r dX12_isCode_75 w9_110 i_X12_in (Nat.le_of_ble_eq_true rfl) (Nat.le_of_ble_eq_true rfl) (Nat.le_of_ble_eq_true rfl) (cy1) ?_
  have hPy1 := cy1.1.1
  obtain ⟨hb1, h⟩ := okE h
  cases h
  exact Y_iret rfl (nar_bo hb1) dX12_isCode_78 hPy1 ⟨rfl, rfl⟩
noncomputable def d_X12_isCode_157 (x2 : Int32) (s0 : Int32) (M : Mem) : Option (Int32 × Mem) :=
  if s0 = 0 then (
    some ((0 : Int32), M))
  else (
    if x2 = 0 then (
      some ((1 : Int32), M))
    else (
      some ((0 : Int32), M)))
theorem b_X12_isCode_157 {x2 : Int32} {s0 : Int32} {M z} (hP : Lay M) (h : d_X12_isCode_157 x2 s0 M = some z) : VV Lay k_X12_isCode 157 [(2, .int x2)] [.int s0] M z.2 (Qv (some (.int z.1)) z.2) xF := by
  unfold d_X12_isCode_157 at h
  refine Y_istore_n (lv1 := [(3, .int s0), (2, .int x2)]) dX12_isCode_157 rfl (by decide) rfl ?_
  refine Y_iload_n (j := 0) dX12_isCode_158 rfl rfl ?_
  refine Y_if_eq (tgt := 170) dX12_isCode_159 (by decide) (fun hc1 => ?_) (fun hc1 => ?_)
  · replace h := ifT hc1 h
    refine Y_iconst (v := (0 : Int32)) dX12_isCode_170 rfl ?_
    cases h
    exact Y_iret rfl (nar_bo (by decide)) dX12_isCode_171 hP ⟨rfl, rfl⟩
  · replace h := ifF hc1 h
    refine Y_iload_n (j := 1) dX12_isCode_162 rfl rfl ?_
    refine Y_if_ne (tgt := 170) dX12_isCode_163 (by decide) (fun hc2 => ?_) (fun hc2 => ?_)
    · replace h := ifF hc2 h
      refine Y_iconst (v := (0 : Int32)) dX12_isCode_170 rfl ?_
      cases h
      exact Y_iret rfl (nar_bo (by decide)) dX12_isCode_171 hP ⟨rfl, rfl⟩
    · replace h := ifT hc2 h
      refine Y_iconst (v := (1 : Int32)) dX12_isCode_166 rfl ?_
      refine Y_goto (tgt := 171) dX12_isCode_167 (by decide) ?_
      cases h
      exact Y_iret rfl (nar_bo (by decide)) dX12_isCode_171 hP ⟨rfl, rfl⟩
noncomputable def d_X12_isCode_152 (x2 : Int32) (M : Mem) : Option (Int32 × Mem) :=
  d_X12_isCode_157 x2 (1 : Int32) M
theorem b_X12_isCode_152 {x2 : Int32} {M z} (hP : Lay M) (h : d_X12_isCode_152 x2 M = some z) : VV Lay k_X12_isCode 152 [(2, .int x2)] [] M z.2 (Qv (some (.int z.1)) z.2) xF := by
  unfold d_X12_isCode_152 at h
  refine Y_iconst (v := (1 : Int32)) dX12_isCode_152 rfl ?_
  refine Y_goto (tgt := 157) dX12_isCode_153 (by decide) ?_
  refine VV.sub [0] rfl ?_
  exact b_X12_isCode_157  hP h
noncomputable def d_X12_isCode (x1 : Int32) (x2 : Int32) (M : Mem) : Option (Int32 × Mem) :=
  if x1 = (105 : Int32) then (
    some ((1 : Int32), M))
  else (
    if x1 = (107 : Int32) then (
      (d_X12_in x2 (0 : Int32) (7 : Int32) M).bind fun y4 =>
      okk (isBo y4.1) <|
      some (y4.1, y4.2))
    else (
      if x1 = (108 : Int32) then (
        d_X12_isCode_52 x2 M)
      else (
        if x1 = (115 : Int32) then (
          d_X12_isCode_52 x2 M)
        else (
          if x1 = (103 : Int32) then (
            d_X12_isCode_52 x2 M)
          else (
            if x1 = (112 : Int32) then (
              d_X12_isCode_52 x2 M)
            else (
              if x1 = (109 : Int32) then (
                d_X12_isCode_52 x2 M)
              else (
                if x1 = (106 : Int32) then (
                  d_X12_isCode_71 x2 M)
                else (
                  if x1 = (122 : Int32) then (
                    d_X12_isCode_71 x2 M)
                  else (
                    if x1 = (110 : Int32) then (
                      (d_X12_in x2 (0 : Int32) ((mI M 69 8) - (1 : Int32)) M).bind fun y3 =>
                      okk (isBo y3.1) <|
                      some (y3.1, y3.2))
                    else (
                      if x1 = (99 : Int32) then (
                        (d_X12_in x2 (0 : Int32) ((mI M 69 1) - (1 : Int32)) M).bind fun y2 =>
                        okk (isBo y2.1) <|
                        some (y2.1, y2.2))
                      else (
                        if x1 = (117 : Int32) then (
                          d_X12_isCode_152 x2 M)
                        else (
                          if x1 = (100 : Int32) then (
                            d_X12_isCode_152 x2 M)
                          else (
                            if x1 = (119 : Int32) then (
                              d_X12_isCode_152 x2 M)
                            else (
                              if x1 = (114 : Int32) then (
                                d_X12_isCode_152 x2 M)
                              else (
                                if x1 = (116 : Int32) then (
                                  d_X12_isCode_152 x2 M)
                                else (
                                  (d_X12_isPair x1 M).bind fun y1 =>
                                  if y1.1 = 0 then (
                                    d_X12_isCode_157 x2 (0 : Int32) y1.2)
                                  else (
                                    d_X12_isCode_152 x2 y1.2)))))))))))))))))
theorem b_X12_isCode {x1 : Int32} {x2 : Int32} {M z} (hP : Lay M) (h : d_X12_isCode x1 x2 M = some z) : VV Lay k_X12_isCode 0 [(0, .ref 69), (1, .int x1), (2, .int x2)] [] M z.2 (Qv (some (.int z.1)) z.2) xF := by
  unfold d_X12_isCode at h
  refine Y_iload_n (j := 1) dX12_isCode_0 rfl rfl ?_
  refine Y_bipush (v := (105 : Int32)) dX12_isCode_1 rfl ?_
  refine Y_icmp_ne (tgt := 8) dX12_isCode_3 (by decide) (fun hc1 => ?_) (fun hc1 => ?_)
  · replace h := ifF hc1 h
    refine Y_iload_n (j := 1) dX12_isCode_8 rfl rfl ?_
    refine Y_bipush (v := (107 : Int32)) dX12_isCode_9 rfl ?_
    refine Y_icmp_ne (tgt := 22) dX12_isCode_11 (by decide) (fun hc2 => ?_) (fun hc2 => ?_)
    · replace h := ifF hc2 h
      refine Y_iload_n (j := 1) dX12_isCode_22 rfl rfl ?_
      refine Y_bipush (v := (108 : Int32)) dX12_isCode_23 rfl ?_
      refine Y_icmp_eq (tgt := 52) dX12_isCode_25 (by decide) (fun hc3 => ?_) (fun hc3 => ?_)
      · replace h := ifT hc3 h
        refine VV.sub [2] rfl ?_
        exact b_X12_isCode_52  hP h
      · replace h := ifF hc3 h
        refine Y_iload_n (j := 1) dX12_isCode_28 rfl rfl ?_
        refine Y_bipush (v := (115 : Int32)) dX12_isCode_29 rfl ?_
        refine Y_icmp_eq (tgt := 52) dX12_isCode_31 (by decide) (fun hc4 => ?_) (fun hc4 => ?_)
        · replace h := ifT hc4 h
          refine VV.sub [2] rfl ?_
          exact b_X12_isCode_52  hP h
        · replace h := ifF hc4 h
          refine Y_iload_n (j := 1) dX12_isCode_34 rfl rfl ?_
          refine Y_bipush (v := (103 : Int32)) dX12_isCode_35 rfl ?_
          refine Y_icmp_eq (tgt := 52) dX12_isCode_37 (by decide) (fun hc5 => ?_) (fun hc5 => ?_)
          · replace h := ifT hc5 h
            refine VV.sub [2] rfl ?_
            exact b_X12_isCode_52  hP h
          · replace h := ifF hc5 h
            refine Y_iload_n (j := 1) dX12_isCode_40 rfl rfl ?_
            refine Y_bipush (v := (112 : Int32)) dX12_isCode_41 rfl ?_
            refine Y_icmp_eq (tgt := 52) dX12_isCode_43 (by decide) (fun hc6 => ?_) (fun hc6 => ?_)
            · replace h := ifT hc6 h
              refine VV.sub [2] rfl ?_
              exact b_X12_isCode_52  hP h
            · replace h := ifF hc6 h
              refine Y_iload_n (j := 1) dX12_isCode_46 rfl rfl ?_
              refine Y_bipush (v := (109 : Int32)) dX12_isCode_47 rfl ?_
              refine Y_icmp_ne (tgt := 59) dX12_isCode_49 (by decide) (fun hc7 => ?_) (fun hc7 => ?_)
              · replace h := ifF hc7 h
                refine Y_iload_n (j := 1) dX12_isCode_59 rfl rfl ?_
                refine Y_bipush (v := (106 : Int32)) dX12_isCode_60 rfl ?_
                refine Y_icmp_eq (tgt := 71) dX12_isCode_62 (by decide) (fun hc8 => ?_) (fun hc8 => ?_)
                · replace h := ifT hc8 h
                  refine VV.sub [2] rfl ?_
                  exact b_X12_isCode_71  hP h
                · replace h := ifF hc8 h
                  refine Y_iload_n (j := 1) dX12_isCode_65 rfl rfl ?_
                  refine Y_bipush (v := (122 : Int32)) dX12_isCode_66 rfl ?_
                  refine Y_icmp_ne (tgt := 79) dX12_isCode_68 (by decide) (fun hc9 => ?_) (fun hc9 => ?_)
                  · replace h := ifF hc9 h
                    refine Y_iload_n (j := 1) dX12_isCode_79 rfl rfl ?_
                    refine Y_bipush (v := (110 : Int32)) dX12_isCode_80 rfl ?_
                    refine Y_icmp_ne (tgt := 97) dX12_isCode_82 (by decide) (fun hc10 => ?_) (fun hc10 => ?_)
                    · replace h := ifF hc10 h
                      refine Y_iload_n (j := 1) dX12_isCode_97 rfl rfl ?_
                      refine Y_bipush (v := (99 : Int32)) dX12_isCode_98 rfl ?_
                      refine Y_icmp_ne (tgt := 115) dX12_isCode_100 (by decide) (fun hc11 => ?_) (fun hc11 => ?_)
                      · replace h := ifF hc11 h
                        refine Y_iload_n (j := 1) dX12_isCode_115 rfl rfl ?_
                        refine Y_bipush (v := (117 : Int32)) dX12_isCode_116 rfl ?_
                        refine Y_icmp_eq (tgt := 152) dX12_isCode_118 (by decide) (fun hc12 => ?_) (fun hc12 => ?_)
                        · replace h := ifT hc12 h
                          refine VV.sub [2] rfl ?_
                          exact b_X12_isCode_152  hP h
                        · replace h := ifF hc12 h
                          refine Y_iload_n (j := 1) dX12_isCode_121 rfl rfl ?_
                          refine Y_bipush (v := (100 : Int32)) dX12_isCode_122 rfl ?_
                          refine Y_icmp_eq (tgt := 152) dX12_isCode_124 (by decide) (fun hc13 => ?_) (fun hc13 => ?_)
                          · replace h := ifT hc13 h
                            refine VV.sub [2] rfl ?_
                            exact b_X12_isCode_152  hP h
                          · replace h := ifF hc13 h
                            refine Y_iload_n (j := 1) dX12_isCode_127 rfl rfl ?_
                            refine Y_bipush (v := (119 : Int32)) dX12_isCode_128 rfl ?_
                            refine Y_icmp_eq (tgt := 152) dX12_isCode_130 (by decide) (fun hc14 => ?_) (fun hc14 => ?_)
                            · replace h := ifT hc14 h
                              refine VV.sub [2] rfl ?_
                              exact b_X12_isCode_152  hP h
                            · replace h := ifF hc14 h
                              refine Y_iload_n (j := 1) dX12_isCode_133 rfl rfl ?_
                              refine Y_bipush (v := (114 : Int32)) dX12_isCode_134 rfl ?_
                              refine Y_icmp_eq (tgt := 152) dX12_isCode_136 (by decide) (fun hc15 => ?_) (fun hc15 => ?_)
                              · replace h := ifT hc15 h
                                refine VV.sub [2] rfl ?_
                                exact b_X12_isCode_152  hP h
                              · replace h := ifF hc15 h
                                refine Y_iload_n (j := 1) dX12_isCode_139 rfl rfl ?_
                                refine Y_bipush (v := (116 : Int32)) dX12_isCode_140 rfl ?_
                                refine Y_icmp_eq (tgt := 152) dX12_isCode_142 (by decide) (fun hc16 => ?_) (fun hc16 => ?_)
                                · replace h := ifT hc16 h
                                  refine VV.sub [2] rfl ?_
                                  exact b_X12_isCode_152  hP h
                                · replace h := ifF hc16 h
                                  refine Y_iload_n (j := 1) dX12_isCode_145 rfl rfl ?_
                                  obtain ⟨y1, qy1, h⟩ := bindE h
                                  have cy1 := v_X12_isPair hP qy1
                                  refine C_S1r dX12_isCode_146 w9_129 i_X12_isPair (Nat.le_of_ble_eq_true rfl) (Nat.le_of_ble_eq_true rfl) (Nat.le_of_ble_eq_true rfl) (cy1) ?_
                                  have hPy1 := cy1.1.1
                                  refine Y_if_eq (tgt := 156) dX12_isCode_149 (by decide) (fun hc17 => ?_) (fun hc17 => ?_)
                                  · replace h := ifT hc17 h
                                    refine Y_iconst (v := (0 : Int32)) dX12_isCode_156 rfl ?_
                                    refine VV.sub [2] rfl ?_
                                    exact b_X12_isCode_157  hPy1 h
                                  · replace h := ifF hc17 h
                                    refine VV.sub [2] rfl ?_
                                    exact b_X12_isCode_152  hPy1 h
                      · replace h := ifT hc11 h
                        refine Y_iload_n (j := 2) dX12_isCode_103 rfl rfl ?_
                        refine Y_iconst (v := (0 : Int32)) dX12_isCode_104 rfl ?_
                        refine Y_aload_n (j := 0) dX12_isCode_105 rfl rfl ?_
                        refine Z_geti dX12_isCode_106 w8_67 (lk_69 hP) fi_12_1 ?_
                        refine Y_iconst (v := (1 : Int32)) dX12_isCode_109 rfl ?_
                        refine Y_isub dX12_isCode_110 ?_
                        obtain ⟨y2, qy2, h⟩ := bindE h
                        have cy2 := v_X12_in hP qy2
                        refine C_S3r dX12_isCode_111 w9_110 i_X12_in (Nat.le_of_ble_eq_true rfl) (Nat.le_of_ble_eq_true rfl) (Nat.le_of_ble_eq_true rfl) (cy2) ?_
                        have hPy2 := cy2.1.1
                        obtain ⟨hb1, h⟩ := okE h
                        cases h
                        exact Y_iret rfl (nar_bo hb1) dX12_isCode_114 hPy2 ⟨rfl, rfl⟩
                    · replace h := ifT hc10 h
                      refine Y_iload_n (j := 2) dX12_isCode_85 rfl rfl ?_
                      refine Y_iconst (v := (0 : Int32)) dX12_isCode_86 rfl ?_
                      refine Y_aload_n (j := 0) dX12_isCode_87 rfl rfl ?_
                      refine Z_geti dX12_isCode_88 w8_74 (lk_69 hP) fi_12_8 ?_
                      refine Y_iconst (v := (1 : Int32)) dX12_isCode_91 rfl ?_
                      refine Y_isub dX12_isCode_92 ?_
                      obtain ⟨y3, qy3, h⟩ := bindE h
                      have cy3 := v_X12_in hP qy3
                      refine C_S3r dX12_isCode_93 w9_110 i_X12_in (Nat.le_of_ble_eq_true rfl) (Nat.le_of_ble_eq_true rfl) (Nat.le_of_ble_eq_true rfl) (cy3) ?_
                      have hPy3 := cy3.1.1
                      obtain ⟨hb2, h⟩ := okE h
                      cases h
                      exact Y_iret rfl (nar_bo hb2) dX12_isCode_96 hPy3 ⟨rfl, rfl⟩
                  · replace h := ifT hc9 h
                    refine VV.sub [2] rfl ?_
                    exact b_X12_isCode_71  hP h
              · replace h := ifT hc7 h
                refine VV.sub [2] rfl ?_
                exact b_X12_isCode_52  hP h
    · replace h := ifT hc2 h
      refine Y_iload_n (j := 2) dX12_isCode_14 rfl rfl ?_
      refine Y_iconst (v := (0 : Int32)) dX12_isCode_15 rfl ?_
      refine Y_bipush (v := (7 : Int32)) dX12_isCode_16 rfl ?_
      obtain ⟨y4, qy4, h⟩ := bindE h
      have cy4 := v_X12_in hP qy4
      refine C_S3r dX12_isCode_18 w9_110 i_X12_in (Nat.le_of_ble_eq_true rfl) (Nat.le_of_ble_eq_true rfl) (Nat.le_of_ble_eq_true rfl) (cy4) ?_
      have hPy4 := cy4.1.1
      obtain ⟨hb3, h⟩ := okE h
      cases h
      exact Y_iret rfl (nar_bo hb3) dX12_isCode_21 hPy4 ⟨rfl, rfl⟩
  · replace h := ifT hc1 h
    refine Y_iconst (v := (1 : Int32)) dX12_isCode_6 rfl ?_
    cases h
    exact Y_iret rfl (nar_bo (by decide)) dX12_isCode_7 hP ⟨rfl, rfl⟩
theorem v_X12_isCode {x1 : Int32} {x2 : Int32} {M z} (hP : Lay M) (h : d_X12_isCode x1 x2 M = some z) : CC Lay k_X12_isCode [.ref 69, .int x1, .int x2] M z.2 (Qv (some (.int z.1)) z.2) xF :=
  CC.ofVV (by decide) rfl (Nat.le_of_ble_eq_true rfl) (b_X12_isCode hP h)
end VCR
