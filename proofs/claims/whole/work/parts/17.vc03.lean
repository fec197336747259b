/-! ===== what the methods reckon (printed by a program) ===== -/
section VCR
noncomputable def d_X12_valueOf (x1 : Int32) (M : Mem) : Option (Int32 × Mem) :=
  (d_X12_newValue M).bind fun y1 =>
  okk (vp_in y1.1 600) <|
  okk (isCh x1) <|
  bnd (sI y1.2 123 y1.1.toNatClampNeg x1) fun M1 =>
  some (y1.1, M1)
theorem b_X12_valueOf {x1 : Int32} {M z} (hP : Lay M) (h : d_X12_valueOf x1 M = some z) : VV Lay k_X12_valueOf 0 [(0, .ref 69), (1, .int x1)] [] M z.2 (Qv (some (.int z.1)) z.2) xF := by
  unfold d_X12_valueOf at h
  refine Y_aload_n (pc := 0) (j := 0) dX12_valueOf_0 rfl rfl ?_
  obtain ⟨y1, qy1, h⟩ := bindE h
  have cy1 := v_X12_newValue hP qy1
  refine C_V0r (pc := 1) (k' := k_X12_newValue) dX12_valueOf_1 w10_35 i_X12_newValue (lk_69 hP) ⟨Nat.le_of_ble_eq_true rfl, Nat.le_of_ble_eq_true rfl⟩ rfl (Nat.le_of_ble_eq_true rfl) (Nat.le_of_ble_eq_true rfl) (Nat.le_of_ble_eq_true rfl) (cy1) ?_
  have hPy1 := cy1.1.1
  refine Y_istore_n (pc := 4) (lv1 := [(2, .int y1.1), (0, .ref 69), (1, .int x1)]) dX12_valueOf_4 rfl (by decide) rfl ?_
  refine Y_aload_n (pc := 5) (j := 1) dX12_valueOf_5 rfl rfl ?_
  refine Z_getr (pc := 6) dX12_valueOf_6 w8_150 (lk_69 hPy1) fr_12_84 (lr_69_84 hPy1) ?_
  refine Y_iload_n (pc := 9) (j := 0) dX12_valueOf_9 rfl rfl ?_
  refine Y_iload_n (pc := 10) (j := 2) dX12_valueOf_10 rfl rfl ?_
  obtain ⟨hb1, h⟩ := okE h
  obtain ⟨hb2, h⟩ := okE h
  refine Y_cast (pc := 11) dX12_valueOf_11 (lk_123 hPy1) (ln_123 hPy1) hb1 (nar_ch hb2) ?_
  obtain ⟨M1, eM1, h⟩ := bndE h
  refine VV.mem eM1 ?_
  have hP1 := hPy1.wI eM1
  refine Y_iload_n (pc := 12) (j := 0) dX12_valueOf_12 rfl rfl ?_
  cases h
  exact Y_iret (pc := 13) rfl rfl dX12_valueOf_13 hP1 ⟨rfl, rfl⟩
theorem v_X12_valueOf {x1 : Int32} {M z} (hP : Lay M) (h : d_X12_valueOf x1 M = some z) : CC Lay k_X12_valueOf [.ref 69, .int x1] M z.2 (Qv (some (.int z.1)) z.2) xF :=
  CC.ofVV (by decide) rfl (Nat.le_of_ble_eq_true rfl) (b_X12_valueOf hP h)
noncomputable def d_X12_isKindKnown (x1 : Int32) (M : Mem) : Option (Int32 × Mem) :=
  okk (vp_in x1 600) <|
  if (mI M 123 x1.toNatClampNeg) = 0 then (
    some ((0 : Int32), M))
  else (
    some ((1 : Int32), M))
theorem b_X12_isKindKnown {x1 : Int32} {M z} (hP : Lay M) (h : d_X12_isKindKnown x1 M = some z) : VV Lay k_X12_isKindKnown 0 [(0, .ref 69), (1, .int x1)] [] M z.2 (Qv (some (.int z.1)) z.2) xF := by
  unfold d_X12_isKindKnown at h
  refine Y_aload_n (pc := 0) (j := 0) dX12_isKindKnown_0 rfl rfl ?_
  refine Z_getr (pc := 1) dX12_isKindKnown_1 w8_150 (lk_69 hP) fr_12_84 (lr_69_84 hP) ?_
  refine Y_iload_n (pc := 4) (j := 1) dX12_isKindKnown_4 rfl rfl ?_
  obtain ⟨hb1, h⟩ := okE h
  refine Y_cald (pc := 5) dX12_isKindKnown_5 (lk_123 hP) (ln_123 hP) hb1 ?_
  refine Y_if_eq (pc := 6) (tgt := 13) dX12_isKindKnown_6 (by decide) (fun hc1 => ?_) (fun hc1 => ?_)
  · replace h := ifT hc1 h
    refine Y_iconst (pc := 13) (v := (0 : Int32)) dX12_isKindKnown_13 rfl ?_
    cases h
    exact Y_iret (pc := 14) rfl (nar_bo (by decide)) dX12_isKindKnown_14 hP ⟨rfl, rfl⟩
  · replace h := ifF hc1 h
    refine Y_iconst (pc := 9) (v := (1 : Int32)) dX12_isKindKnown_9 rfl ?_
    refine Y_goto (pc := 10) (tgt := 14) dX12_isKindKnown_10 (by decide) ?_
    cases h
    exact Y_iret (pc := 14) rfl (nar_bo (by decide)) dX12_isKindKnown_14 hP ⟨rfl, rfl⟩
theorem v_X12_isKindKnown {x1 : Int32} {M z} (hP : Lay M) (h : d_X12_isKindKnown x1 M = some z) : CC Lay k_X12_isKindKnown [.ref 69, .int x1] M z.2 (Qv (some (.int z.1)) z.2) xF :=
  CC.ofVV (by decide) rfl (Nat.le_of_ble_eq_true rfl) (b_X12_isKindKnown hP h)
noncomputable def d_X12_isNullKnown (x1 : Int32) (M : Mem) : Option (Int32 × Mem) :=
  okk (vp_in x1 600) <|
  if (mI M 126 x1.toNatClampNeg) = 0 then (
    okk (vp_in x1 600) <|
    if (mI M 123 x1.toNatClampNeg) = (111 : Int32) then (
      some ((1 : Int32), M))
    else (
      okk (vp_in x1 600) <|
      if (mI M 123 x1.toNatClampNeg) = (110 : Int32) then (
        some ((1 : Int32), M))
      else (
        some ((0 : Int32), M))))
  else (
    some ((1 : Int32), M))
theorem b_X12_isNullKnown {x1 : Int32} {M z} (hP : Lay M) (h : d_X12_isNullKnown x1 M = some z) : VV Lay k_X12_isNullKnown 0 [(0, .ref 69), (1, .int x1)] [] M z.2 (Qv (some (.int z.1)) z.2) xF := by
  unfold d_X12_isNullKnown at h
  refine Y_aload_n (pc := 0) (j := 0) dX12_isNullKnown_0 rfl rfl ?_
  refine Z_getr (pc := 1) dX12_isNullKnown_1 w8_153 (lk_69 hP) fr_12_87 (lr_69_87 hP) ?_
  refine Y_iload_n (pc := 4) (j := 1) dX12_isNullKnown_4 rfl rfl ?_
  obtain ⟨hb1, h⟩ := okE h
  refine Y_iald (pc := 5) dX12_isNullKnown_5 (lk_126 hP) (ln_126 hP) hb1 ?_
  refine Y_if_ne (pc := 6) (tgt := 31) dX12_isNullKnown_6 (by decide) (fun hc1 => ?_) (fun hc1 => ?_)
  · replace h := ifF hc1 h
    refine Y_iconst (pc := 31) (v := (1 : Int32)) dX12_isNullKnown_31 rfl ?_
    refine Y_goto (pc := 32) (tgt := 36) dX12_isNullKnown_32 (by decide) ?_
    cases h
    exact Y_iret (pc := 36) rfl (nar_bo (by decide)) dX12_isNullKnown_36 hP ⟨rfl, rfl⟩
  · replace h := ifT hc1 h
    refine Y_aload_n (pc := 9) (j := 0) dX12_isNullKnown_9 rfl rfl ?_
    refine Z_getr (pc := 10) dX12_isNullKnown_10 w8_150 (lk_69 hP) fr_12_84 (lr_69_84 hP) ?_
    refine Y_iload_n (pc := 13) (j := 1) dX12_isNullKnown_13 rfl rfl ?_
    obtain ⟨hb2, h⟩ := okE h
    refine Y_cald (pc := 14) dX12_isNullKnown_14 (lk_123 hP) (ln_123 hP) hb2 ?_
    refine Y_bipush (pc := 15) (v := (111 : Int32)) dX12_isNullKnown_15 rfl ?_
    refine Y_icmp_eq (pc := 17) (tgt := 31) dX12_isNullKnown_17 (by decide) (fun hc2 => ?_) (fun hc2 => ?_)
    · replace h := ifT hc2 h
      refine Y_iconst (pc := 31) (v := (1 : Int32)) dX12_isNullKnown_31 rfl ?_
      refine Y_goto (pc := 32) (tgt := 36) dX12_isNullKnown_32 (by decide) ?_
      cases h
      exact Y_iret (pc := 36) rfl (nar_bo (by decide)) dX12_isNullKnown_36 hP ⟨rfl, rfl⟩
    · replace h := ifF hc2 h
      refine Y_aload_n (pc := 20) (j := 0) dX12_isNullKnown_20 rfl rfl ?_
      refine Z_getr (pc := 21) dX12_isNullKnown_21 w8_150 (lk_69 hP) fr_12_84 (lr_69_84 hP) ?_
      refine Y_iload_n (pc := 24) (j := 1) dX12_isNullKnown_24 rfl rfl ?_
      obtain ⟨hb3, h⟩ := okE h
      refine Y_cald (pc := 25) dX12_isNullKnown_25 (lk_123 hP) (ln_123 hP) hb3 ?_
      refine Y_bipush (pc := 26) (v := (110 : Int32)) dX12_isNullKnown_26 rfl ?_
      refine Y_icmp_ne (pc := 28) (tgt := 35) dX12_isNullKnown_28 (by decide) (fun hc3 => ?_) (fun hc3 => ?_)
      · replace h := ifF hc3 h
        refine Y_iconst (pc := 35) (v := (0 : Int32)) dX12_isNullKnown_35 rfl ?_
        cases h
        exact Y_iret (pc := 36) rfl (nar_bo (by decide)) dX12_isNullKnown_36 hP ⟨rfl, rfl⟩
      · replace h := ifT hc3 h
        refine Y_iconst (pc := 31) (v := (1 : Int32)) dX12_isNullKnown_31 rfl ?_
        refine Y_goto (pc := 32) (tgt := 36) dX12_isNullKnown_32 (by decide) ?_
        cases h
        exact Y_iret (pc := 36) rfl (nar_bo (by decide)) dX12_isNullKnown_36 hP ⟨rfl, rfl⟩
theorem v_X12_isNullKnown {x1 : Int32} {M z} (hP : Lay M) (h : d_X12_isNullKnown x1 M = some z) : CC Lay k_X12_isNullKnown [.ref 69, .int x1] M z.2 (Qv (some (.int z.1)) z.2) xF :=
  CC.ofVV (by decide) rfl (Nat.le_of_ble_eq_true rfl) (b_X12_isNullKnown hP h)
noncomputable def d_X12_asks (x1 : Int32) (x2 : Int32) (x3 : Int32) (M : Mem) : Option (Unit × Mem) :=
  okk (vp_in (mI M 69 78) 120) <|
  okk (isCh x1) <|
  bnd (sI M 119 (mI M 69 78).toNatClampNeg x1) fun M1 =>
  okk (vp_in (mI M1 69 78) 120) <|
  bnd (sI M1 120 (mI M1 69 78).toNatClampNeg (mI M1 69 76)) fun M2 =>
  okk (vp_in (mI M2 69 78) 120) <|
  bnd (sI M2 121 (mI M2 69 78).toNatClampNeg x2) fun M3 =>
  okk (vp_in (mI M3 69 78) 120) <|
  bnd (sI M3 122 (mI M3 69 78).toNatClampNeg x3) fun M4 =>
  bnd (sI M4 69 78 ((mI M4 69 78) + (1 : Int32))) fun M5 =>
  some ((), M5)
theorem b_X12_asks {x1 : Int32} {x2 : Int32} {x3 : Int32} {M z} (hP : Lay M) (h : d_X12_asks x1 x2 x3 M = some z) : VV Lay k_X12_asks 0 [(0, .ref 69), (1, .int x1), (2, .int x2), (3, .int x3)] [] M z.2 (Qv (none) z.2) xF := by
  unfold d_X12_asks at h
  refine Y_aload_n (pc := 0) (j := 0) dX12_asks_0 rfl rfl ?_
  refine Z_getr (pc := 1) dX12_asks_1 w8_145 (lk_69 hP) fr_12_79 (lr_69_79 hP) ?_
  refine Y_aload_n (pc := 4) (j := 0) dX12_asks_4 rfl rfl ?_
  refine Z_geti (pc := 5) dX12_asks_5 w8_144 (lk_69 hP) fi_12_78 ?_
  refine Y_iload_n (pc := 8) (j := 1) dX12_asks_8 rfl rfl ?_
  obtain ⟨hb1, h⟩ := okE h
  obtain ⟨hb2, h⟩ := okE h
  refine Y_cast (pc := 9) dX12_asks_9 (lk_119 hP) (ln_119 hP) hb1 (nar_ch hb2) ?_
  obtain ⟨M1, eM1, h⟩ := bndE h
  refine VV.mem eM1 ?_
  have hP1 := hP.wI eM1
  refine Y_aload_n (pc := 10) (j := 0) dX12_asks_10 rfl rfl ?_
  refine Z_getr (pc := 11) dX12_asks_11 w8_146 (lk_69 hP1) fr_12_80 (lr_69_80 hP1) ?_
  refine Y_aload_n (pc := 14) (j := 0) dX12_asks_14 rfl rfl ?_
  refine Z_geti (pc := 15) dX12_asks_15 w8_144 (lk_69 hP1) fi_12_78 ?_
  refine Y_aload_n (pc := 18) (j := 0) dX12_asks_18 rfl rfl ?_
  refine Z_geti (pc := 19) dX12_asks_19 w8_142 (lk_69 hP1) fi_12_76 ?_
  obtain ⟨hb3, h⟩ := okE h
  refine Y_iast (pc := 22) dX12_asks_22 (lk_120 hP1) (ln_120 hP1) hb3 ?_
  obtain ⟨M2, eM2, h⟩ := bndE h
  refine VV.mem eM2 ?_
  have hP2 := hP1.wI eM2
  refine Y_aload_n (pc := 23) (j := 0) dX12_asks_23 rfl rfl ?_
  refine Z_getr (pc := 24) dX12_asks_24 w8_147 (lk_69 hP2) fr_12_81 (lr_69_81 hP2) ?_
  refine Y_aload_n (pc := 27) (j := 0) dX12_asks_27 rfl rfl ?_
  refine Z_geti (pc := 28) dX12_asks_28 w8_144 (lk_69 hP2) fi_12_78 ?_
  refine Y_iload_n (pc := 31) (j := 2) dX12_asks_31 rfl rfl ?_
  obtain ⟨hb4, h⟩ := okE h
  refine Y_iast (pc := 32) dX12_asks_32 (lk_121 hP2) (ln_121 hP2) hb4 ?_
  obtain ⟨M3, eM3, h⟩ := bndE h
  refine VV.mem eM3 ?_
  have hP3 := hP2.wI eM3
  refine Y_aload_n (pc := 33) (j := 0) dX12_asks_33 rfl rfl ?_
  refine Z_getr (pc := 34) dX12_asks_34 w8_148 (lk_69 hP3) fr_12_82 (lr_69_82 hP3) ?_
  refine Y_aload_n (pc := 37) (j := 0) dX12_asks_37 rfl rfl ?_
  refine Z_geti (pc := 38) dX12_asks_38 w8_144 (lk_69 hP3) fi_12_78 ?_
  refine Y_iload_n (pc := 41) (j := 3) dX12_asks_41 rfl rfl ?_
  obtain ⟨hb5, h⟩ := okE h
  refine Y_iast (pc := 42) dX12_asks_42 (lk_122 hP3) (ln_122 hP3) hb5 ?_
  obtain ⟨M4, eM4, h⟩ := bndE h
  refine VV.mem eM4 ?_
  have hP4 := hP3.wI eM4
  refine Y_aload_n (pc := 43) (j := 0) dX12_asks_43 rfl rfl ?_
  refine Y_dup (pc := 44) dX12_asks_44 rfl ?_
  refine Z_geti (pc := 45) dX12_asks_45 w8_144 (lk_69 hP4) fi_12_78 ?_
  refine Y_iconst (pc := 48) (v := (1 : Int32)) dX12_asks_48 rfl ?_
  refine Y_iadd (pc := 49) dX12_asks_49 ?_
  refine Z_puti (pc := 50) dX12_asks_50 w8_144 (lk_69 hP4) fi_12_78 (Or.inl rfl) rfl ?_
  obtain ⟨M5, eM5, h⟩ := bndE h
  refine VV.mem eM5 ?_
  have hP5 := hP4.wI eM5
  cases h
  exact Y_vret (pc := 53) rfl dX12_asks_53 hP5 ⟨rfl, rfl⟩
theorem v_X12_asks {x1 : Int32} {x2 : Int32} {x3 : Int32} {M z} (hP : Lay M) (h : d_X12_asks x1 x2 x3 M = some z) : CC Lay k_X12_asks [.ref 69, .int x1, .int x2, .int x3] M z.2 (Qv (none) z.2) xF :=
  CC.ofVV (by decide) rfl (Nat.le_of_ble_eq_true rfl) (b_X12_asks hP h)
noncomputable def d_X12_asksKind (x1 : Int32) (M : Mem) : Option (Unit × Mem) :=
  (d_X12_top x1 M).bind fun y1 =>
  okk (vp_in y1.1 168) <|
  bnd ((mI y1.2 108 y1.1.toNatClampNeg)) fun b1 =>
  (d_X12_isKindKnown b1 y1.2).bind fun y2 =>
  if y2.1 = 0 then (
    (d_X12_top x1 y2.2).bind fun y3 =>
    okk (vp_in y3.1 168) <|
    (d_X12_asks (107 : Int32) x1 (mI y3.2 105 y3.1.toNatClampNeg) y3.2).bind fun y4 =>
    (d_X12_top x1 y4.2).bind fun y5 =>
    okk (vp_in y5.1 168) <|
    okk (vp_in b1 600) <|
    okk (isCh (mI y5.2 105 y5.1.toNatClampNeg)) <|
    bnd (sI y5.2 123 b1.toNatClampNeg (mI y5.2 105 y5.1.toNatClampNeg)) fun M1 =>
    some ((), M1))
  else (
    some ((), y2.2))
theorem b_X12_asksKind {x1 : Int32} {M z} (hP : Lay M) (h : d_X12_asksKind x1 M = some z) : VV Lay k_X12_asksKind 0 [(0, .ref 69), (1, .int x1)] [] M z.2 (Qv (none) z.2) xF := by
  unfold d_X12_asksKind at h
  refine Y_aload_n (pc := 0) (j := 0) dX12_asksKind_0 rfl rfl ?_
  refine Z_getr (pc := 1) dX12_asksKind_1 w8_113 (lk_69 hP) fr_12_47 (lr_69_47 hP) ?_
  refine Y_aload_n (pc := 4) (j := 0) dX12_asksKind_4 rfl rfl ?_
  refine Y_iload_n (pc := 5) (j := 1) dX12_asksKind_5 rfl rfl ?_
  obtain ⟨y1, qy1, h⟩ := bindE h
  have cy1 := v_X12_top hP qy1
  refine C_V1r (pc := 6) (k' := k_X12_top) dX12_asksKind_6 w9_200 i_X12_top (lk_69 hP) ⟨Nat.le_of_ble_eq_true rfl, Nat.le_of_ble_eq_true rfl⟩ rfl (Nat.le_of_ble_eq_true rfl) (Nat.le_of_ble_eq_true rfl) (Nat.le_of_ble_eq_true rfl) (cy1) ?_
  have hPy1 := cy1.1.1
  obtain ⟨hb1, h⟩ := okE h
  refine Y_iald (pc := 9) dX12_asksKind_9 (lk_108 hPy1) (ln_108 hPy1) hb1 ?_
  obtain ⟨b1, eb1, h⟩ := bndE h
  refine VV.topI eb1 ?_
  refine Y_istore_n (pc := 10) (lv1 := [(2, .int b1), (0, .ref 69), (1, .int x1)]) dX12_asksKind_10 rfl (by decide) rfl ?_
  refine Y_aload_n (pc := 11) (j := 1) dX12_asksKind_11 rfl rfl ?_
  refine Y_iload_n (pc := 12) (j := 0) dX12_asksKind_12 rfl rfl ?_
  obtain ⟨y2, qy2, h⟩ := bindE h
  have cy2 := v_X12_isKindKnown hPy1 qy2
  refine C_V1r (pc := 13) (k' := k_X12_isKindKnown) dX12_asksKind_13 w10_123 i_X12_isKindKnown (lk_69 hPy1) ⟨Nat.le_of_ble_eq_true rfl, Nat.le_of_ble_eq_true rfl⟩ rfl (Nat.le_of_ble_eq_true rfl) (Nat.le_of_ble_eq_true rfl) (Nat.le_of_ble_eq_true rfl) (cy2) ?_
  have hPy2 := cy2.1.1
  refine Y_if_ne (pc := 16) (tgt := 52) dX12_asksKind_16 (by decide) (fun hc1 => ?_) (fun hc1 => ?_)
  · replace h := ifF hc1 h
    cases h
    exact Y_vret (pc := 52) rfl dX12_asksKind_52 hPy2 ⟨rfl, rfl⟩
  · replace h := ifT hc1 h
    refine Y_aload_n (pc := 19) (j := 1) dX12_asksKind_19 rfl rfl ?_
    refine Y_bipush (pc := 20) (v := (107 : Int32)) dX12_asksKind_20 rfl ?_
    refine Y_iload_n (pc := 22) (j := 2) dX12_asksKind_22 rfl rfl ?_
    refine Y_aload_n (pc := 23) (j := 1) dX12_asksKind_23 rfl rfl ?_
    refine Z_getr (pc := 24) dX12_asksKind_24 w8_110 (lk_69 hPy2) fr_12_44 (lr_69_44 hPy2) ?_
    refine Y_aload_n (pc := 27) (j := 1) dX12_asksKind_27 rfl rfl ?_
    refine Y_iload_n (pc := 28) (j := 2) dX12_asksKind_28 rfl rfl ?_
    obtain ⟨y3, qy3, h⟩ := bindE h
    have cy3 := v_X12_top hPy2 qy3
    refine C_V1r (pc := 29) (k' := k_X12_top) dX12_asksKind_29 w9_200 i_X12_top (lk_69 hPy2) ⟨Nat.le_of_ble_eq_true rfl, Nat.le_of_ble_eq_true rfl⟩ rfl (Nat.le_of_ble_eq_true rfl) (Nat.le_of_ble_eq_true rfl) (Nat.le_of_ble_eq_true rfl) (cy3) ?_
    have hPy3 := cy3.1.1
    obtain ⟨hb2, h⟩ := okE h
    refine Y_cald (pc := 32) dX12_asksKind_32 (lk_105 hPy3) (ln_105 hPy3) hb2 ?_
    obtain ⟨y4, qy4, h⟩ := bindE h
    have cy4 := v_X12_asks hPy3 qy4
    refine C_V3o (pc := 33) (k' := k_X12_asks) dX12_asksKind_33 w10_127 i_X12_asks (lk_69 hPy3) ⟨Nat.le_of_ble_eq_true rfl, Nat.le_of_ble_eq_true rfl⟩ rfl (Nat.le_of_ble_eq_true rfl) (Nat.le_of_ble_eq_true rfl) (Nat.le_of_ble_eq_true rfl) (cy4) ?_
    have hPy4 := cy4.1.1
    refine Y_aload_n (pc := 36) (j := 1) dX12_asksKind_36 rfl rfl ?_
    refine Z_getr (pc := 37) dX12_asksKind_37 w8_150 (lk_69 hPy4) fr_12_84 (lr_69_84 hPy4) ?_
    refine Y_iload_n (pc := 40) (j := 0) dX12_asksKind_40 rfl rfl ?_
    refine Y_aload_n (pc := 41) (j := 1) dX12_asksKind_41 rfl rfl ?_
    refine Z_getr (pc := 42) dX12_asksKind_42 w8_110 (lk_69 hPy4) fr_12_44 (lr_69_44 hPy4) ?_
    refine Y_aload_n (pc := 45) (j := 1) dX12_asksKind_45 rfl rfl ?_
    refine Y_iload_n (pc := 46) (j := 2) dX12_asksKind_46 rfl rfl ?_
    obtain ⟨y5, qy5, h⟩ := bindE h
    have cy5 := v_X12_top hPy4 qy5
    refine C_V1r (pc := 47) (k' := k_X12_top) dX12_asksKind_47 w9_200 i_X12_top (lk_69 hPy4) ⟨Nat.le_of_ble_eq_true rfl, Nat.le_of_ble_eq_true rfl⟩ rfl (Nat.le_of_ble_eq_true rfl) (Nat.le_of_ble_eq_true rfl) (Nat.le_of_ble_eq_true rfl) (cy5) ?_
    have hPy5 := cy5.1.1
    obtain ⟨hb3, h⟩ := okE h
    refine Y_cald (pc := 50) dX12_asksKind_50 (lk_105 hPy5) (ln_105 hPy5) hb3 ?_
    obtain ⟨hb4, h⟩ := okE h
    obtain ⟨hb5, h⟩ := okE h
    refine Y_cast (pc := 51) dX12_asksKind_51 (lk_123 hPy5) (ln_123 hPy5) hb4 (nar_ch hb5) ?_
    obtain ⟨M1, eM1, h⟩ := bndE h
    refine VV.mem eM1 ?_
    have hP1 := hPy5.wI eM1
    cases h
    exact Y_vret (pc := 52) rfl dX12_asksKind_52 hP1 ⟨rfl, rfl⟩
theorem v_X12_asksKind {x1 : Int32} {M z} (hP : Lay M) (h : d_X12_asksKind x1 M = some z) : CC Lay k_X12_asksKind [.ref 69, .int x1] M z.2 (Qv (none) z.2) xF :=
  CC.ofVV (by decide) rfl (Nat.le_of_ble_eq_true rfl) (b_X12_asksKind hP h)
noncomputable def d_X12_asksShape (x1 : Int32) (M : Mem) : Option (Unit × Mem) :=
  (d_X12_top x1 M).bind fun y1 =>
  okk (vp_in y1.1 168) <|
  bnd ((mI y1.2 108 y1.1.toNatClampNeg)) fun b1 =>
  (d_X12_top x1 y1.2).bind fun y2 =>
  okk (vp_in y2.1 168) <|
  okk (vp_in (mI y2.2 106 y2.1.toNatClampNeg) 60) <|
  bnd ((mI y2.2 112 (mI y2.2 106 y2.1.toNatClampNeg).toNatClampNeg)) fun b2 =>
  okk (vp_in b1 600) <|
  if (mI y2.2 125 b1.toNatClampNeg) = (-1 : Int32) then (
    (d_X12_asks (115 : Int32) x1 b2 y2.2).bind fun y3 =>
    okk (vp_in b1 600) <|
    bnd (sI y3.2 125 b1.toNatClampNeg b2) fun M1 =>
    okk (vp_in b1 600) <|
    bnd (sI M1 123 b1.toNatClampNeg (111 : Int32)) fun M2 =>
    some ((), M2))
  else (
    some ((), y2.2))
theorem b_X12_asksShape {x1 : Int32} {M z} (hP : Lay M) (h : d_X12_asksShape x1 M = some z) : VV Lay k_X12_asksShape 0 [(0, .ref 69), (1, .int x1)] [] M z.2 (Qv (none) z.2) xF := by
  unfold d_X12_asksShape at h
  refine Y_aload_n (pc := 0) (j := 0) dX12_asksShape_0 rfl rfl ?_
  refine Z_getr (pc := 1) dX12_asksShape_1 w8_113 (lk_69 hP) fr_12_47 (lr_69_47 hP) ?_
  refine Y_aload_n (pc := 4) (j := 0) dX12_asksShape_4 rfl rfl ?_
  refine Y_iload_n (pc := 5) (j := 1) dX12_asksShape_5 rfl rfl ?_
  obtain ⟨y1, qy1, h⟩ := bindE h
  have cy1 := v_X12_top hP qy1
  refine C_V1r (pc := 6) (k' := k_X12_top) dX12_asksShape_6 w9_200 i_X12_top (lk_69 hP) ⟨Nat.le_of_ble_eq_true rfl, Nat.le_of_ble_eq_true rfl⟩ rfl (Nat.le_of_ble_eq_true rfl) (Nat.le_of_ble_eq_true rfl) (Nat.le_of_ble_eq_true rfl) (cy1) ?_
  have hPy1 := cy1.1.1
  obtain ⟨hb1, h⟩ := okE h
  refine Y_iald (pc := 9) dX12_asksShape_9 (lk_108 hPy1) (ln_108 hPy1) hb1 ?_
  obtain ⟨b1, eb1, h⟩ := bndE h
  refine VV.topI eb1 ?_
  refine Y_istore_n (pc := 10) (lv1 := [(2, .int b1), (0, .ref 69), (1, .int x1)]) dX12_asksShape_10 rfl (by decide) rfl ?_
  refine Y_aload_n (pc := 11) (j := 1) dX12_asksShape_11 rfl rfl ?_
  refine Z_getr (pc := 12) dX12_asksShape_12 w8_119 (lk_69 hPy1) fr_12_53 (lr_69_53 hPy1) ?_
  refine Y_aload_n (pc := 15) (j := 1) dX12_asksShape_15 rfl rfl ?_
  refine Z_getr (pc := 16) dX12_asksShape_16 w8_111 (lk_69 hPy1) fr_12_45 (lr_69_45 hPy1) ?_
  refine Y_aload_n (pc := 19) (j := 1) dX12_asksShape_19 rfl rfl ?_
  refine Y_iload_n (pc := 20) (j := 2) dX12_asksShape_20 rfl rfl ?_
  obtain ⟨y2, qy2, h⟩ := bindE h
  have cy2 := v_X12_top hPy1 qy2
  refine C_V1r (pc := 21) (k' := k_X12_top) dX12_asksShape_21 w9_200 i_X12_top (lk_69 hPy1) ⟨Nat.le_of_ble_eq_true rfl, Nat.le_of_ble_eq_true rfl⟩ rfl (Nat.le_of_ble_eq_true rfl) (Nat.le_of_ble_eq_true rfl) (Nat.le_of_ble_eq_true rfl) (cy2) ?_
  have hPy2 := cy2.1.1
  obtain ⟨hb2, h⟩ := okE h
  refine Y_iald (pc := 24) dX12_asksShape_24 (lk_106 hPy2) (ln_106 hPy2) hb2 ?_
  obtain ⟨hb3, h⟩ := okE h
  refine Y_iald (pc := 25) dX12_asksShape_25 (lk_112 hPy2) (ln_112 hPy2) hb3 ?_
  obtain ⟨b2, eb2, h⟩ := bndE h
  refine VV.topI eb2 ?_
  refine Y_istore_n (pc := 26) (lv1 := [(3, .int b2), (2, .int b1), (0, .ref 69), (1, .int x1)]) dX12_asksShape_26 rfl (by decide) rfl ?_
  refine Y_aload_n (pc := 27) (j := 2) dX12_asksShape_27 rfl rfl ?_
  refine Z_getr (pc := 28) dX12_asksShape_28 w8_152 (lk_69 hPy2) fr_12_86 (lr_69_86 hPy2) ?_
  refine Y_iload_n (pc := 31) (j := 1) dX12_asksShape_31 rfl rfl ?_
  obtain ⟨hb4, h⟩ := okE h
  refine Y_iald (pc := 32) dX12_asksShape_32 (lk_125 hPy2) (ln_125 hPy2) hb4 ?_
  refine Y_iconst (pc := 33) (v := (-1 : Int32)) dX12_asksShape_33 rfl ?_
  refine Y_icmp_ne (pc := 34) (tgt := 60) dX12_asksShape_34 (by decide) (fun hc1 => ?_) (fun hc1 => ?_)
  · replace h := ifF hc1 h
    cases h
    exact Y_vret (pc := 60) rfl dX12_asksShape_60 hPy2 ⟨rfl, rfl⟩
  · replace h := ifT hc1 h
    refine Y_aload_n (pc := 37) (j := 2) dX12_asksShape_37 rfl rfl ?_
    refine Y_bipush (pc := 38) (v := (115 : Int32)) dX12_asksShape_38 rfl ?_
    refine Y_iload_n (pc := 40) (j := 3) dX12_asksShape_40 rfl rfl ?_
    refine Y_iload_n (pc := 41) (j := 0) dX12_asksShape_41 rfl rfl ?_
    obtain ⟨y3, qy3, h⟩ := bindE h
    have cy3 := v_X12_asks hPy2 qy3
    refine C_V3o (pc := 42) (k' := k_X12_asks) dX12_asksShape_42 w10_127 i_X12_asks (lk_69 hPy2) ⟨Nat.le_of_ble_eq_true rfl, Nat.le_of_ble_eq_true rfl⟩ rfl (Nat.le_of_ble_eq_true rfl) (Nat.le_of_ble_eq_true rfl) (Nat.le_of_ble_eq_true rfl) (cy3) ?_
    have hPy3 := cy3.1.1
    refine Y_aload_n (pc := 45) (j := 2) dX12_asksShape_45 rfl rfl ?_
    refine Z_getr (pc := 46) dX12_asksShape_46 w8_152 (lk_69 hPy3) fr_12_86 (lr_69_86 hPy3) ?_
    refine Y_iload_n (pc := 49) (j := 1) dX12_asksShape_49 rfl rfl ?_
    refine Y_iload_n (pc := 50) (j := 0) dX12_asksShape_50 rfl rfl ?_
    obtain ⟨hb5, h⟩ := okE h
    refine Y_iast (pc := 51) dX12_asksShape_51 (lk_125 hPy3) (ln_125 hPy3) hb5 ?_
    obtain ⟨M1, eM1, h⟩ := bndE h
    refine VV.mem eM1 ?_
    have hP1 := hPy3.wI eM1
    refine Y_aload_n (pc := 52) (j := 2) dX12_asksShape_52 rfl rfl ?_
    refine Z_getr (pc := 53) dX12_asksShape_53 w8_150 (lk_69 hP1) fr_12_84 (lr_69_84 hP1) ?_
    refine Y_iload_n (pc := 56) (j := 1) dX12_asksShape_56 rfl rfl ?_
    refine Y_bipush (pc := 57) (v := (111 : Int32)) dX12_asksShape_57 rfl ?_
    obtain ⟨hb6, h⟩ := okE h
    refine Y_cast (pc := 59) dX12_asksShape_59 (lk_123 hP1) (ln_123 hP1) hb6 (nar_ch (by decide)) ?_
    obtain ⟨M2, eM2, h⟩ := bndE h
    refine VV.mem eM2 ?_
    have hP2 := hP1.wI eM2
    cases h
    exact Y_vret (pc := 60) rfl dX12_asksShape_60 hP2 ⟨rfl, rfl⟩
theorem v_X12_asksShape {x1 : Int32} {M z} (hP : Lay M) (h : d_X12_asksShape x1 M = some z) : CC Lay k_X12_asksShape [.ref 69, .int x1] M z.2 (Qv (none) z.2) xF :=
  CC.ofVV (by decide) rfl (Nat.le_of_ble_eq_true rfl) (b_X12_asksShape hP h)
noncomputable def d_X12_guards_304 (M : Mem) : Option (Unit × Mem) :=
  (d_X12_asksShape (0 : Int32) M).bind fun y1 =>
  some ((), y1.2)
theorem b_X12_guards_304 {M z} (hP : Lay M) (h : d_X12_guards_304 M = some z) : VV Lay k_X12_guards 304 [(0, .ref 69)] [] M z.2 (Qv (none) z.2) xF := by
  unfold d_X12_guards_304 at h
  refine Y_aload_n (pc := 304) (j := 0) dX12_guards_304 rfl rfl ?_
  refine Y_iconst (pc := 305) (v := (0 : Int32)) dX12_guards_305 rfl ?_
  obtain ⟨y1, qy1, h⟩ := bindE h
  have cy1 := v_X12_asksShape hP qy1
  refine C_V1o (pc := 306) (k' := k_X12_asksShape) dX12_guards_306 w10_135 i_X12_asksShape (lk_69 hP) ⟨Nat.le_of_ble_eq_true rfl, Nat.le_of_ble_eq_true rfl⟩ rfl (Nat.le_of_ble_eq_true rfl) (Nat.le_of_ble_eq_true rfl) (Nat.le_of_ble_eq_true rfl) (cy1) ?_
  have hPy1 := cy1.1.1
  refine Y_goto (pc := 309) (tgt := 323) dX12_guards_309 (by decide) ?_
  cases h
  exact Y_vret (pc := 323) rfl dX12_guards_323 hPy1 ⟨rfl, rfl⟩
noncomputable def d_X12_guards_263 (x2 : Int32) (s1 : Int32) (s2 : Int32) (s3 : Int32) (M : Mem) : Option (Unit × Mem) :=
  (d_X12_asks s1 s2 s3 M).bind fun y1 =>
  (d_X12_top (0 : Int32) y1.2).bind fun y2 =>
  (d_X12_isNull y2.1 y2.2).bind fun y3 =>
  if y3.1 = 0 then (
    okk (vp_in x2 600) <|
    bnd (sI y3.2 126 x2.toNatClampNeg (2 : Int32)) fun M1 =>
    some ((), M1))
  else (
    okk (vp_in x2 600) <|
    bnd (sI y3.2 126 x2.toNatClampNeg (1 : Int32)) fun M2 =>
    some ((), M2))
theorem b_X12_guards_263 {x2 : Int32} {s1 : Int32} {s2 : Int32} {s3 : Int32} {M z} (hP : Lay M) (h : d_X12_guards_263 x2 s1 s2 s3 M = some z) : VV Lay k_X12_guards 263 [(0, .ref 69), (2, .int x2)] [.int s3, .int s2, .int s1, .ref 69] M z.2 (Qv (none) z.2) xF := by
  unfold d_X12_guards_263 at h
  obtain ⟨y1, qy1, h⟩ := bindE h
  have cy1 := v_X12_asks hP qy1
  refine C_V3o (pc := 263) (k' := k_X12_asks) dX12_guards_263 w10_127 i_X12_asks (lk_69 hP) ⟨Nat.le_of_ble_eq_true rfl, Nat.le_of_ble_eq_true rfl⟩ rfl (Nat.le_of_ble_eq_true rfl) (Nat.le_of_ble_eq_true rfl) (Nat.le_of_ble_eq_true rfl) (cy1) ?_
  have hPy1 := cy1.1.1
  refine Y_aload_n (pc := 266) (j := 0) dX12_guards_266 rfl rfl ?_
  refine Z_getr (pc := 267) dX12_guards_267 w8_153 (lk_69 hPy1) fr_12_87 (lr_69_87 hPy1) ?_
  refine Y_iload_n (pc := 270) (j := 1) dX12_guards_270 rfl rfl ?_
  refine Y_aload_n (pc := 271) (j := 0) dX12_guards_271 rfl rfl ?_
  refine Y_aload_n (pc := 272) (j := 0) dX12_guards_272 rfl rfl ?_
  refine Y_iconst (pc := 273) (v := (0 : Int32)) dX12_guards_273 rfl ?_
  obtain ⟨y2, qy2, h⟩ := bindE h
  have cy2 := v_X12_top hPy1 qy2
  refine C_V1r (pc := 274) (k' := k_X12_top) dX12_guards_274 w9_200 i_X12_top (lk_69 hPy1) ⟨Nat.le_of_ble_eq_true rfl, Nat.le_of_ble_eq_true rfl⟩ rfl (Nat.le_of_ble_eq_true rfl) (Nat.le_of_ble_eq_true rfl) (Nat.le_of_ble_eq_true rfl) (cy2) ?_
  have hPy2 := cy2.1.1
  obtain ⟨y3, qy3, h⟩ := bindE h
  have cy3 := v_X12_isNull hPy2 qy3
  refine C_V1r (pc := 277) (k' := k_X12_isNull) dX12_guards_277 w10_5 i_X12_isNull (lk_69 hPy2) ⟨Nat.le_of_ble_eq_true rfl, Nat.le_of_ble_eq_true rfl⟩ rfl (Nat.le_of_ble_eq_true rfl) (Nat.le_of_ble_eq_true rfl) (Nat.le_of_ble_eq_true rfl) (cy3) ?_
  have hPy3 := cy3.1.1
  refine Y_if_eq (pc := 280) (tgt := 287) dX12_guards_280 (by decide) (fun hc1 => ?_) (fun hc1 => ?_)
  · replace h := ifT hc1 h
    refine Y_iconst (pc := 287) (v := (2 : Int32)) dX12_guards_287 rfl ?_
    obtain ⟨hb1, h⟩ := okE h
    refine Y_iast (pc := 288) dX12_guards_288 (lk_126 hPy3) (ln_126 hPy3) hb1 ?_
    obtain ⟨M1, eM1, h⟩ := bndE h
    refine VV.mem eM1 ?_
    have hP1 := hPy3.wI eM1
    refine Y_goto (pc := 289) (tgt := 323) dX12_guards_289 (by decide) ?_
    cases h
    exact Y_vret (pc := 323) rfl dX12_guards_323 hP1 ⟨rfl, rfl⟩
  · replace h := ifF hc1 h
    refine Y_iconst (pc := 283) (v := (1 : Int32)) dX12_guards_283 rfl ?_
    refine Y_goto (pc := 284) (tgt := 288) dX12_guards_284 (by decide) ?_
    obtain ⟨hb2, h⟩ := okE h
    refine Y_iast (pc := 288) dX12_guards_288 (lk_126 hPy3) (ln_126 hPy3) hb2 ?_
    obtain ⟨M2, eM2, h⟩ := bndE h
    refine VV.mem eM2 ?_
    have hP2 := hPy3.wI eM2
    refine Y_goto (pc := 289) (tgt := 323) dX12_guards_289 (by decide) ?_
    cases h
    exact Y_vret (pc := 323) rfl dX12_guards_323 hP2 ⟨rfl, rfl⟩
noncomputable def d_X12_guards_164 (x1 : Int32) (M : Mem) : Option (Unit × Mem) :=
  (d_X12_top (1 : Int32) M).bind fun y1 =>
  (d_X12_top (0 : Int32) y1.2).bind fun y2 =>
  (d_X12_reckons x1 y1.1 y2.1 y2.2).bind fun y3 =>
  if (mI y3.2 69 88) = (105 : Int32) then (
    (d_X12_asks (111 : Int32) (0 : Int32) (1 : Int32) y3.2).bind fun y5 =>
    some ((), y5.2))
  else (
    (d_X12_asks (111 : Int32) (0 : Int32) (0 : Int32) y3.2).bind fun y4 =>
    some ((), y4.2))
theorem b_X12_guards_164 {x1 : Int32} {M z} (hP : Lay M) (h : d_X12_guards_164 x1 M = some z) : VV Lay k_X12_guards 164 [(0, .ref 69), (1, .int x1)] [] M z.2 (Qv (none) z.2) xF := by
  unfold d_X12_guards_164 at h
  refine Y_aload_n (pc := 164) (j := 0) dX12_guards_164 rfl rfl ?_
  refine Y_iload_n (pc := 165) (j := 1) dX12_guards_165 rfl rfl ?_
  refine Y_aload_n (pc := 166) (j := 0) dX12_guards_166 rfl rfl ?_
  refine Y_iconst (pc := 167) (v := (1 : Int32)) dX12_guards_167 rfl ?_
  obtain ⟨y1, qy1, h⟩ := bindE h
  have cy1 := v_X12_top hP qy1
  refine C_V1r (pc := 168) (k' := k_X12_top) dX12_guards_168 w9_200 i_X12_top (lk_69 hP) ⟨Nat.le_of_ble_eq_true rfl, Nat.le_of_ble_eq_true rfl⟩ rfl (Nat.le_of_ble_eq_true rfl) (Nat.le_of_ble_eq_true rfl) (Nat.le_of_ble_eq_true rfl) (cy1) ?_
  have hPy1 := cy1.1.1
  refine Y_aload_n (pc := 171) (j := 0) dX12_guards_171 rfl rfl ?_
  refine Y_iconst (pc := 172) (v := (0 : Int32)) dX12_guards_172 rfl ?_
  obtain ⟨y2, qy2, h⟩ := bindE h
  have cy2 := v_X12_top hPy1 qy2
  refine C_V1r (pc := 173) (k' := k_X12_top) dX12_guards_173 w9_200 i_X12_top (lk_69 hPy1) ⟨Nat.le_of_ble_eq_true rfl, Nat.le_of_ble_eq_true rfl⟩ rfl (Nat.le_of_ble_eq_true rfl) (Nat.le_of_ble_eq_true rfl) (Nat.le_of_ble_eq_true rfl) (cy2) ?_
  have hPy2 := cy2.1.1
  obtain ⟨y3, qy3, h⟩ := bindE h
  have cy3 := v_X12_reckons hPy2 qy3
  refine C_V3o (pc := 176) (k' := k_X12_reckons) dX12_guards_176 w10_9 i_X12_reckons (lk_69 hPy2) ⟨Nat.le_of_ble_eq_true rfl, Nat.le_of_ble_eq_true rfl⟩ rfl (Nat.le_of_ble_eq_true rfl) (Nat.le_of_ble_eq_true rfl) (Nat.le_of_ble_eq_true rfl) (cy3) ?_
  have hPy3 := cy3.1.1
  refine Y_aload_n (pc := 179) (j := 0) dX12_guards_179 rfl rfl ?_
  refine Y_bipush (pc := 180) (v := (111 : Int32)) dX12_guards_180 rfl ?_
  refine Y_iconst (pc := 182) (v := (0 : Int32)) dX12_guards_182 rfl ?_
  refine Y_aload_n (pc := 183) (j := 0) dX12_guards_183 rfl rfl ?_
  refine Z_geti (pc := 184) dX12_guards_184 w8_154 (lk_69 hPy3) fi_12_88 ?_
  refine Y_bipush (pc := 187) (v := (105 : Int32)) dX12_guards_187 rfl ?_
  refine Y_icmp_ne (pc := 189) (tgt := 196) dX12_guards_189 (by decide) (fun hc1 => ?_) (fun hc1 => ?_)
  · replace h := ifF hc1 h
    refine Y_iconst (pc := 196) (v := (0 : Int32)) dX12_guards_196 rfl ?_
    obtain ⟨y4, qy4, h⟩ := bindE h
    have cy4 := v_X12_asks hPy3 qy4
    refine C_V3o (pc := 197) (k' := k_X12_asks) dX12_guards_197 w10_127 i_X12_asks (lk_69 hPy3) ⟨Nat.le_of_ble_eq_true rfl, Nat.le_of_ble_eq_true rfl⟩ rfl (Nat.le_of_ble_eq_true rfl) (Nat.le_of_ble_eq_true rfl) (Nat.le_of_ble_eq_true rfl) (cy4) ?_
    have hPy4 := cy4.1.1
    refine Y_goto (pc := 200) (tgt := 323) dX12_guards_200 (by decide) ?_
    cases h
    exact Y_vret (pc := 323) rfl dX12_guards_323 hPy4 ⟨rfl, rfl⟩
  · replace h := ifT hc1 h
    refine Y_iconst (pc := 192) (v := (1 : Int32)) dX12_guards_192 rfl ?_
    refine Y_goto (pc := 193) (tgt := 197) dX12_guards_193 (by decide) ?_
    obtain ⟨y5, qy5, h⟩ := bindE h
    have cy5 := v_X12_asks hPy3 qy5
    refine C_V3o (pc := 197) (k' := k_X12_asks) dX12_guards_197 w10_127 i_X12_asks (lk_69 hPy3) ⟨Nat.le_of_ble_eq_true rfl, Nat.le_of_ble_eq_true rfl⟩ rfl (Nat.le_of_ble_eq_true rfl) (Nat.le_of_ble_eq_true rfl) (Nat.le_of_ble_eq_true rfl) (cy5) ?_
    have hPy5 := cy5.1.1
    refine Y_goto (pc := 200) (tgt := 323) dX12_guards_200 (by decide) ?_
    cases h
    exact Y_vret (pc := 323) rfl dX12_guards_323 hPy5 ⟨rfl, rfl⟩
noncomputable def d_X12_guards_135 (x1 : Int32) (x4 : Int32) (M : Mem) : Option (Unit × Mem) :=
  if x4 = 0 then (
    some ((), M))
  else (
    if x1 = (43 : Int32) then (
      d_X12_guards_164 x1 M)
    else (
      if x1 = (45 : Int32) then (
        d_X12_guards_164 x1 M)
      else (
        if x1 = (42 : Int32) then (
          d_X12_guards_164 x1 M)
        else (
          if x1 = (47 : Int32) then (
            d_X12_guards_164 x1 M)
          else (
            some ((), M))))))
theorem b_X12_guards_135 {x1 : Int32} {x4 : Int32} {M z} (hP : Lay M) (h : d_X12_guards_135 x1 x4 M = some z) : VV Lay k_X12_guards 135 [(0, .ref 69), (1, .int x1), (4, .int x4)] [] M z.2 (Qv (none) z.2) xF := by
  unfold d_X12_guards_135 at h
  refine Y_iload (pc := 135) (j := 2) dX12_guards_135 rfl ?_
  refine Y_if_eq (pc := 137) (tgt := 200) dX12_guards_137 (by decide) (fun hc1 => ?_) (fun hc1 => ?_)
  · replace h := ifT hc1 h
    refine Y_goto (pc := 200) (tgt := 323) dX12_guards_200 (by decide) ?_
    cases h
    exact Y_vret (pc := 323) rfl dX12_guards_323 hP ⟨rfl, rfl⟩
  · replace h := ifF hc1 h
    refine Y_iload_n (pc := 140) (j := 1) dX12_guards_140 rfl rfl ?_
    refine Y_bipush (pc := 141) (v := (43 : Int32)) dX12_guards_141 rfl ?_
    refine Y_icmp_eq (pc := 143) (tgt := 164) dX12_guards_143 (by decide) (fun hc2 => ?_) (fun hc2 => ?_)
    · replace h := ifT hc2 h
      refine VV.sub [0, 1] rfl ?_
      exact b_X12_guards_164  hP h
    · replace h := ifF hc2 h
      refine Y_iload_n (pc := 146) (j := 1) dX12_guards_146 rfl rfl ?_
      refine Y_bipush (pc := 147) (v := (45 : Int32)) dX12_guards_147 rfl ?_
      refine Y_icmp_eq (pc := 149) (tgt := 164) dX12_guards_149 (by decide) (fun hc3 => ?_) (fun hc3 => ?_)
      · replace h := ifT hc3 h
        refine VV.sub [0, 1] rfl ?_
        exact b_X12_guards_164  hP h
      · replace h := ifF hc3 h
        refine Y_iload_n (pc := 152) (j := 1) dX12_guards_152 rfl rfl ?_
        refine Y_bipush (pc := 153) (v := (42 : Int32)) dX12_guards_153 rfl ?_
        refine Y_icmp_eq (pc := 155) (tgt := 164) dX12_guards_155 (by decide) (fun hc4 => ?_) (fun hc4 => ?_)
        · replace h := ifT hc4 h
          refine VV.sub [0, 1] rfl ?_
          exact b_X12_guards_164  hP h
        · replace h := ifF hc4 h
          refine Y_iload_n (pc := 158) (j := 1) dX12_guards_158 rfl rfl ?_
          refine Y_bipush (pc := 159) (v := (47 : Int32)) dX12_guards_159 rfl ?_
          refine Y_icmp_ne (pc := 161) (tgt := 200) dX12_guards_161 (by decide) (fun hc5 => ?_) (fun hc5 => ?_)
          · replace h := ifF hc5 h
            refine Y_goto (pc := 200) (tgt := 323) dX12_guards_200 (by decide) ?_
            cases h
            exact Y_vret (pc := 323) rfl dX12_guards_323 hP ⟨rfl, rfl⟩
          · replace h := ifT hc5 h
            refine VV.sub [0, 1] rfl ?_
            exact b_X12_guards_164  hP h
noncomputable def d_X12_guards_112 (x1 : Int32) (x3 : Int32) (x4 : Int32) (M : Mem) : Option (Unit × Mem) :=
  (d_X12_isNullKnown x3 M).bind fun y1 =>
  if y1.1 = 0 then (
    (d_X12_asks (122 : Int32) (0 : Int32) (0 : Int32) y1.2).bind fun y2 =>
    okk (vp_in x3 600) <|
    bnd (sI y2.2 126 x3.toNatClampNeg (2 : Int32)) fun M1 =>
    d_X12_guards_135 x1 x4 M1)
  else (
    d_X12_guards_135 x1 x4 y1.2)
theorem b_X12_guards_112 {x1 : Int32} {x3 : Int32} {x4 : Int32} {M z} (hP : Lay M) (h : d_X12_guards_112 x1 x3 x4 M = some z) : VV Lay k_X12_guards 112 [(0, .ref 69), (1, .int x1), (3, .int x3), (4, .int x4)] [] M z.2 (Qv (none) z.2) xF := by
  unfold d_X12_guards_112 at h
  refine Y_aload_n (pc := 112) (j := 0) dX12_guards_112 rfl rfl ?_
  refine Y_iload_n (pc := 113) (j := 2) dX12_guards_113 rfl rfl ?_
  obtain ⟨y1, qy1, h⟩ := bindE h
  have cy1 := v_X12_isNullKnown hP qy1
  refine C_V1r (pc := 114) (k' := k_X12_isNullKnown) dX12_guards_114 w10_131 i_X12_isNullKnown (lk_69 hP) ⟨Nat.le_of_ble_eq_true rfl, Nat.le_of_ble_eq_true rfl⟩ rfl (Nat.le_of_ble_eq_true rfl) (Nat.le_of_ble_eq_true rfl) (Nat.le_of_ble_eq_true rfl) (cy1) ?_
  have hPy1 := cy1.1.1
  refine Y_if_ne (pc := 117) (tgt := 135) dX12_guards_117 (by decide) (fun hc1 => ?_) (fun hc1 => ?_)
  · replace h := ifF hc1 h
    refine VV.sub [0, 1, 3] rfl ?_
    exact b_X12_guards_135  hPy1 h
  · replace h := ifT hc1 h
    refine Y_aload_n (pc := 120) (j := 0) dX12_guards_120 rfl rfl ?_
    refine Y_bipush (pc := 121) (v := (122 : Int32)) dX12_guards_121 rfl ?_
    refine Y_iconst (pc := 123) (v := (0 : Int32)) dX12_guards_123 rfl ?_
    refine Y_iconst (pc := 124) (v := (0 : Int32)) dX12_guards_124 rfl ?_
    obtain ⟨y2, qy2, h⟩ := bindE h
    have cy2 := v_X12_asks hPy1 qy2
    refine C_V3o (pc := 125) (k' := k_X12_asks) dX12_guards_125 w10_127 i_X12_asks (lk_69 hPy1) ⟨Nat.le_of_ble_eq_true rfl, Nat.le_of_ble_eq_true rfl⟩ rfl (Nat.le_of_ble_eq_true rfl) (Nat.le_of_ble_eq_true rfl) (Nat.le_of_ble_eq_true rfl) (cy2) ?_
    have hPy2 := cy2.1.1
    refine Y_aload_n (pc := 128) (j := 0) dX12_guards_128 rfl rfl ?_
    refine Z_getr (pc := 129) dX12_guards_129 w8_153 (lk_69 hPy2) fr_12_87 (lr_69_87 hPy2) ?_
    refine Y_iload_n (pc := 132) (j := 2) dX12_guards_132 rfl rfl ?_
    refine Y_iconst (pc := 133) (v := (2 : Int32)) dX12_guards_133 rfl ?_
    obtain ⟨hb1, h⟩ := okE h
    refine Y_iast (pc := 134) dX12_guards_134 (lk_126 hPy2) (ln_126 hPy2) hb1 ?_
    obtain ⟨M1, eM1, h⟩ := bndE h
    refine VV.mem eM1 ?_
    have hP1 := hPy2.wI eM1
    refine VV.sub [0, 1, 3] rfl ?_
    exact b_X12_guards_135  hP1 h
noncomputable def d_X12_guards_93 (x1 : Int32) (x3 : Int32) (s0 : Int32) (M : Mem) : Option (Unit × Mem) :=
  if s0 = 0 then (
    d_X12_guards_135 x1 s0 M)
  else (
    if x1 = (47 : Int32) then (
      d_X12_guards_112 x1 x3 s0 M)
    else (
      if x1 = (37 : Int32) then (
        d_X12_guards_112 x1 x3 s0 M)
      else (
        d_X12_guards_135 x1 s0 M)))
theorem b_X12_guards_93 {x1 : Int32} {x3 : Int32} {s0 : Int32} {M z} (hP : Lay M) (h : d_X12_guards_93 x1 x3 s0 M = some z) : VV Lay k_X12_guards 93 [(0, .ref 69), (1, .int x1), (3, .int x3)] [.int s0] M z.2 (Qv (none) z.2) xF := by
  unfold d_X12_guards_93 at h
  refine Y_istore (pc := 93) (lv1 := [(4, .int s0), (0, .ref 69), (1, .int x1), (3, .int x3)]) dX12_guards_93 (by decide) rfl ?_
  refine Y_iload (pc := 95) (j := 0) dX12_guards_95 rfl ?_
  refine Y_if_eq (pc := 97) (tgt := 135) dX12_guards_97 (by decide) (fun hc1 => ?_) (fun hc1 => ?_)
  · replace h := ifT hc1 h
    refine VV.sub [1, 2, 0] rfl ?_
    exact b_X12_guards_135  hP h
  · replace h := ifF hc1 h
    refine Y_iload_n (pc := 100) (j := 2) dX12_guards_100 rfl rfl ?_
    refine Y_bipush (pc := 101) (v := (47 : Int32)) dX12_guards_101 rfl ?_
    refine Y_icmp_eq (pc := 103) (tgt := 112) dX12_guards_103 (by decide) (fun hc2 => ?_) (fun hc2 => ?_)
    · replace h := ifT hc2 h
      refine VV.sub [1, 2, 3, 0] rfl ?_
      exact b_X12_guards_112  hP h
    · replace h := ifF hc2 h
      refine Y_iload_n (pc := 106) (j := 2) dX12_guards_106 rfl rfl ?_
      refine Y_bipush (pc := 107) (v := (37 : Int32)) dX12_guards_107 rfl ?_
      refine Y_icmp_ne (pc := 109) (tgt := 135) dX12_guards_109 (by decide) (fun hc3 => ?_) (fun hc3 => ?_)
      · replace h := ifF hc3 h
        refine VV.sub [1, 2, 0] rfl ?_
        exact b_X12_guards_135  hP h
      · replace h := ifT hc3 h
        refine VV.sub [1, 2, 3, 0] rfl ?_
        exact b_X12_guards_112  hP h
noncomputable def d_X12_guards_92 (x1 : Int32) (x3 : Int32) (M : Mem) : Option (Unit × Mem) :=
  d_X12_guards_93 x1 x3 (0 : Int32) M
theorem b_X12_guards_92 {x1 : Int32} {x3 : Int32} {M z} (hP : Lay M) (h : d_X12_guards_92 x1 x3 M = some z) : VV Lay k_X12_guards 92 [(0, .ref 69), (1, .int x1), (3, .int x3)] [] M z.2 (Qv (none) z.2) xF := by
  unfold d_X12_guards_92 at h
  refine Y_iconst (pc := 92) (v := (0 : Int32)) dX12_guards_92 rfl ?_
  refine VV.sub [0, 1, 2] rfl ?_
  exact b_X12_guards_93  hP h
noncomputable def d_X12_guards_48 (x1 : Int32) (x3 : Int32) (M : Mem) : Option (Unit × Mem) :=
  (d_X12_asksKind (1 : Int32) M).bind fun y1 =>
  (d_X12_asksKind (0 : Int32) y1.2).bind fun y2 =>
  (d_X12_top (1 : Int32) y2.2).bind fun y3 =>
  okk (vp_in y3.1 168) <|
  if (mI y3.2 105 y3.1.toNatClampNeg) = (105 : Int32) then (
    (d_X12_top (0 : Int32) y3.2).bind fun y4 =>
    okk (vp_in y4.1 168) <|
    if (mI y4.2 105 y4.1.toNatClampNeg) = (105 : Int32) then (
      d_X12_guards_93 x1 x3 (1 : Int32) y4.2)
    else (
      d_X12_guards_92 x1 x3 y4.2))
  else (
    d_X12_guards_92 x1 x3 y3.2)
theorem b_X12_guards_48 {x1 : Int32} {x3 : Int32} {M z} (hP : Lay M) (h : d_X12_guards_48 x1 x3 M = some z) : VV Lay k_X12_guards 48 [(0, .ref 69), (1, .int x1), (3, .int x3)] [] M z.2 (Qv (none) z.2) xF := by
  unfold d_X12_guards_48 at h
  refine Y_aload_n (pc := 48) (j := 0) dX12_guards_48 rfl rfl ?_
  refine Y_iconst (pc := 49) (v := (1 : Int32)) dX12_guards_49 rfl ?_
  obtain ⟨y1, qy1, h⟩ := bindE h
  have cy1 := v_X12_asksKind hP qy1
  refine C_V1o (pc := 50) (k' := k_X12_asksKind) dX12_guards_50 w10_119 i_X12_asksKind (lk_69 hP) ⟨Nat.le_of_ble_eq_true rfl, Nat.le_of_ble_eq_true rfl⟩ rfl (Nat.le_of_ble_eq_true rfl) (Nat.le_of_ble_eq_true rfl) (Nat.le_of_ble_eq_true rfl) (cy1) ?_
  have hPy1 := cy1.1.1
  refine Y_aload_n (pc := 53) (j := 0) dX12_guards_53 rfl rfl ?_
  refine Y_iconst (pc := 54) (v := (0 : Int32)) dX12_guards_54 rfl ?_
  obtain ⟨y2, qy2, h⟩ := bindE h
  have cy2 := v_X12_asksKind hPy1 qy2
  refine C_V1o (pc := 55) (k' := k_X12_asksKind) dX12_guards_55 w10_119 i_X12_asksKind (lk_69 hPy1) ⟨Nat.le_of_ble_eq_true rfl, Nat.le_of_ble_eq_true rfl⟩ rfl (Nat.le_of_ble_eq_true rfl) (Nat.le_of_ble_eq_true rfl) (Nat.le_of_ble_eq_true rfl) (cy2) ?_
  have hPy2 := cy2.1.1
  refine Y_aload_n (pc := 58) (j := 0) dX12_guards_58 rfl rfl ?_
  refine Z_getr (pc := 59) dX12_guards_59 w8_110 (lk_69 hPy2) fr_12_44 (lr_69_44 hPy2) ?_
  refine Y_aload_n (pc := 62) (j := 0) dX12_guards_62 rfl rfl ?_
  refine Y_iconst (pc := 63) (v := (1 : Int32)) dX12_guards_63 rfl ?_
  obtain ⟨y3, qy3, h⟩ := bindE h
  have cy3 := v_X12_top hPy2 qy3
  refine C_V1r (pc := 64) (k' := k_X12_top) dX12_guards_64 w9_200 i_X12_top (lk_69 hPy2) ⟨Nat.le_of_ble_eq_true rfl, Nat.le_of_ble_eq_true rfl⟩ rfl (Nat.le_of_ble_eq_true rfl) (Nat.le_of_ble_eq_true rfl) (Nat.le_of_ble_eq_true rfl) (cy3) ?_
  have hPy3 := cy3.1.1
  obtain ⟨hb1, h⟩ := okE h
  refine Y_cald (pc := 67) dX12_guards_67 (lk_105 hPy3) (ln_105 hPy3) hb1 ?_
  refine Y_bipush (pc := 68) (v := (105 : Int32)) dX12_guards_68 rfl ?_
  refine Y_icmp_ne (pc := 70) (tgt := 92) dX12_guards_70 (by decide) (fun hc1 => ?_) (fun hc1 => ?_)
  · replace h := ifF hc1 h
    refine VV.sub [0, 1, 2] rfl ?_
    exact b_X12_guards_92  hPy3 h
  · replace h := ifT hc1 h
    refine Y_aload_n (pc := 73) (j := 0) dX12_guards_73 rfl rfl ?_
    refine Z_getr (pc := 74) dX12_guards_74 w8_110 (lk_69 hPy3) fr_12_44 (lr_69_44 hPy3) ?_
    refine Y_aload_n (pc := 77) (j := 0) dX12_guards_77 rfl rfl ?_
    refine Y_iconst (pc := 78) (v := (0 : Int32)) dX12_guards_78 rfl ?_
    obtain ⟨y4, qy4, h⟩ := bindE h
    have cy4 := v_X12_top hPy3 qy4
    refine C_V1r (pc := 79) (k' := k_X12_top) dX12_guards_79 w9_200 i_X12_top (lk_69 hPy3) ⟨Nat.le_of_ble_eq_true rfl, Nat.le_of_ble_eq_true rfl⟩ rfl (Nat.le_of_ble_eq_true rfl) (Nat.le_of_ble_eq_true rfl) (Nat.le_of_ble_eq_true rfl) (cy4) ?_
    have hPy4 := cy4.1.1
    obtain ⟨hb2, h⟩ := okE h
    refine Y_cald (pc := 82) dX12_guards_82 (lk_105 hPy4) (ln_105 hPy4) hb2 ?_
    refine Y_bipush (pc := 83) (v := (105 : Int32)) dX12_guards_83 rfl ?_
    refine Y_icmp_ne (pc := 85) (tgt := 92) dX12_guards_85 (by decide) (fun hc2 => ?_) (fun hc2 => ?_)
    · replace h := ifF hc2 h
      refine VV.sub [0, 1, 2] rfl ?_
      exact b_X12_guards_92  hPy4 h
    · replace h := ifT hc2 h
      refine Y_iconst (pc := 88) (v := (1 : Int32)) dX12_guards_88 rfl ?_
      refine Y_goto (pc := 89) (tgt := 93) dX12_guards_89 (by decide) ?_
      refine VV.sub [0, 1, 2] rfl ?_
      exact b_X12_guards_93  hPy4 h
noncomputable def d_X12_guards (x1 : Int32) (M : Mem) : Option (Unit × Mem) :=
  (d_X12_isPair x1 M).bind fun y1 =>
  if y1.1 = 0 then (
    if x1 = (119 : Int32) then (
      (d_X12_asksKind (0 : Int32) y1.2).bind fun y7 =>
      some ((), y7.2))
    else (
      if x1 = (122 : Int32) then (
        (d_X12_top (0 : Int32) y1.2).bind fun y3 =>
        okk (vp_in y3.1 168) <|
        bnd ((mI y3.2 108 y3.1.toNatClampNeg)) fun b1 =>
        (d_X12_isNullKnown b1 y3.2).bind fun y4 =>
        if y4.1 = 0 then (
          (d_X12_top (0 : Int32) y4.2).bind fun y5 =>
          (d_X12_isNull y5.1 y5.2).bind fun y6 =>
          if y6.1 = 0 then (
            d_X12_guards_263 b1 (116 : Int32) (0 : Int32) (0 : Int32) y6.2)
          else (
            d_X12_guards_263 b1 (116 : Int32) (0 : Int32) (1 : Int32) y6.2))
        else (
          some ((), y4.2)))
      else (
        if x1 = (103 : Int32) then (
          d_X12_guards_304 y1.2)
        else (
          if x1 = (109 : Int32) then (
            d_X12_guards_304 y1.2)
          else (
            if x1 = (112 : Int32) then (
              (d_X12_asksShape (1 : Int32) y1.2).bind fun y2 =>
              some ((), y2.2))
            else (
              some ((), y1.2)))))))
  else (
    (d_X12_top (1 : Int32) y1.2).bind fun y8 =>
    okk (vp_in y8.1 168) <|
    bnd ((mI y8.2 108 y8.1.toNatClampNeg)) fun b2 =>
    (d_X12_top (0 : Int32) y8.2).bind fun y9 =>
    okk (vp_in y9.1 168) <|
    bnd ((mI y9.2 108 y9.1.toNatClampNeg)) fun b3 =>
    okk (vp_in b2 600) <|
    if (mI y9.2 124 b2.toNatClampNeg) = 0 then (
      d_X12_guards_48 x1 b3 y9.2)
    else (
      okk (vp_in b3 600) <|
      if (mI y9.2 124 b3.toNatClampNeg) = 0 then (
        d_X12_guards_48 x1 b3 y9.2)
      else (
        some ((), y9.2))))
theorem b_X12_guards {x1 : Int32} {M z} (hP : Lay M) (h : d_X12_guards x1 M = some z) : VV Lay k_X12_guards 0 [(0, .ref 69), (1, .int x1)] [] M z.2 (Qv (none) z.2) xF := by
  unfold d_X12_guards at h
  refine Y_iload_n (pc := 0) (j := 1) dX12_guards_0 rfl rfl ?_
  obtain ⟨y1, qy1, h⟩ := bindE h
  have cy1 := v_X12_isPair hP qy1
  refine C_S1r (pc := 1) (k' := k_X12_isPair) dX12_guards_1 w9_129 i_X12_isPair (Nat.le_of_ble_eq_true rfl) (Nat.le_of_ble_eq_true rfl) (Nat.le_of_ble_eq_true rfl) (cy1) ?_
  have hPy1 := cy1.1.1
  refine Y_if_eq (pc := 4) (tgt := 203) dX12_guards_4 (by decide) (fun hc1 => ?_) (fun hc1 => ?_)
  · replace h := ifT hc1 h
    refine Y_iload_n (pc := 203) (j := 1) dX12_guards_203 rfl rfl ?_
    refine Y_bipush (pc := 204) (v := (119 : Int32)) dX12_guards_204 rfl ?_
    refine Y_icmp_ne (pc := 206) (tgt := 217) dX12_guards_206 (by decide) (fun hc2 => ?_) (fun hc2 => ?_)
    · replace h := ifF hc2 h
      refine Y_iload_n (pc := 217) (j := 1) dX12_guards_217 rfl rfl ?_
      refine Y_bipush (pc := 218) (v := (122 : Int32)) dX12_guards_218 rfl ?_
      refine Y_icmp_ne (pc := 220) (tgt := 292) dX12_guards_220 (by decide) (fun hc3 => ?_) (fun hc3 => ?_)
      · replace h := ifF hc3 h
        refine Y_iload_n (pc := 292) (j := 1) dX12_guards_292 rfl rfl ?_
        refine Y_bipush (pc := 293) (v := (103 : Int32)) dX12_guards_293 rfl ?_
        refine Y_icmp_eq (pc := 295) (tgt := 304) dX12_guards_295 (by decide) (fun hc4 => ?_) (fun hc4 => ?_)
        · replace h := ifT hc4 h
          refine VV.sub [0] rfl ?_
          exact b_X12_guards_304  hPy1 h
        · replace h := ifF hc4 h
          refine Y_iload_n (pc := 298) (j := 1) dX12_guards_298 rfl rfl ?_
          refine Y_bipush (pc := 299) (v := (109 : Int32)) dX12_guards_299 rfl ?_
          refine Y_icmp_ne (pc := 301) (tgt := 312) dX12_guards_301 (by decide) (fun hc5 => ?_) (fun hc5 => ?_)
          · replace h := ifF hc5 h
            refine Y_iload_n (pc := 312) (j := 1) dX12_guards_312 rfl rfl ?_
            refine Y_bipush (pc := 313) (v := (112 : Int32)) dX12_guards_313 rfl ?_
            refine Y_icmp_ne (pc := 315) (tgt := 323) dX12_guards_315 (by decide) (fun hc6 => ?_) (fun hc6 => ?_)
            · replace h := ifF hc6 h
              cases h
              exact Y_vret (pc := 323) rfl dX12_guards_323 hPy1 ⟨rfl, rfl⟩
            · replace h := ifT hc6 h
              refine Y_aload_n (pc := 318) (j := 0) dX12_guards_318 rfl rfl ?_
              refine Y_iconst (pc := 319) (v := (1 : Int32)) dX12_guards_319 rfl ?_
              obtain ⟨y2, qy2, h⟩ := bindE h
              have cy2 := v_X12_asksShape hPy1 qy2
              refine C_V1o (pc := 320) (k' := k_X12_asksShape) dX12_guards_320 w10_135 i_X12_asksShape (lk_69 hPy1) ⟨Nat.le_of_ble_eq_true rfl, Nat.le_of_ble_eq_true rfl⟩ rfl (Nat.le_of_ble_eq_true rfl) (Nat.le_of_ble_eq_true rfl) (Nat.le_of_ble_eq_true rfl) (cy2) ?_
              have hPy2 := cy2.1.1
              cases h
              exact Y_vret (pc := 323) rfl dX12_guards_323 hPy2 ⟨rfl, rfl⟩
          · replace h := ifT hc5 h
            refine VV.sub [0] rfl ?_
            exact b_X12_guards_304  hPy1 h
      · replace h := ifT hc3 h
        refine Y_aload_n (pc := 223) (j := 0) dX12_guards_223 rfl rfl ?_
        refine Z_getr (pc := 224) dX12_guards_224 w8_113 (lk_69 hPy1) fr_12_47 (lr_69_47 hPy1) ?_
        refine Y_aload_n (pc := 227) (j := 0) dX12_guards_227 rfl rfl ?_
        refine Y_iconst (pc := 228) (v := (0 : Int32)) dX12_guards_228 rfl ?_
        obtain ⟨y3, qy3, h⟩ := bindE h
        have cy3 := v_X12_top hPy1 qy3
        refine C_V1r (pc := 229) (k' := k_X12_top) dX12_guards_229 w9_200 i_X12_top (lk_69 hPy1) ⟨Nat.le_of_ble_eq_true rfl, Nat.le_of_ble_eq_true rfl⟩ rfl (Nat.le_of_ble_eq_true rfl) (Nat.le_of_ble_eq_true rfl) (Nat.le_of_ble_eq_true rfl) (cy3) ?_
        have hPy3 := cy3.1.1
        obtain ⟨hb1, h⟩ := okE h
        refine Y_iald (pc := 232) dX12_guards_232 (lk_108 hPy3) (ln_108 hPy3) hb1 ?_
        obtain ⟨b1, eb1, h⟩ := bndE h
        refine VV.topI eb1 ?_
        refine Y_istore_n (pc := 233) (lv1 := [(2, .int b1), (0, .ref 69), (1, .int x1)]) dX12_guards_233 rfl (by decide) rfl ?_
        refine Y_aload_n (pc := 234) (j := 1) dX12_guards_234 rfl rfl ?_
        refine Y_iload_n (pc := 235) (j := 0) dX12_guards_235 rfl rfl ?_
        obtain ⟨y4, qy4, h⟩ := bindE h
        have cy4 := v_X12_isNullKnown hPy3 qy4
        refine C_V1r (pc := 236) (k' := k_X12_isNullKnown) dX12_guards_236 w10_131 i_X12_isNullKnown (lk_69 hPy3) ⟨Nat.le_of_ble_eq_true rfl, Nat.le_of_ble_eq_true rfl⟩ rfl (Nat.le_of_ble_eq_true rfl) (Nat.le_of_ble_eq_true rfl) (Nat.le_of_ble_eq_true rfl) (cy4) ?_
        have hPy4 := cy4.1.1
        refine Y_if_ne (pc := 239) (tgt := 289) dX12_guards_239 (by decide) (fun hc7 => ?_) (fun hc7 => ?_)
        · replace h := ifF hc7 h
          refine Y_goto (pc := 289) (tgt := 323) dX12_guards_289 (by decide) ?_
          cases h
          exact Y_vret (pc := 323) rfl dX12_guards_323 hPy4 ⟨rfl, rfl⟩
        · replace h := ifT hc7 h
          refine Y_aload_n (pc := 242) (j := 1) dX12_guards_242 rfl rfl ?_
          refine Y_bipush (pc := 243) (v := (116 : Int32)) dX12_guards_243 rfl ?_
          refine Y_iconst (pc := 245) (v := (0 : Int32)) dX12_guards_245 rfl ?_
          refine Y_aload_n (pc := 246) (j := 1) dX12_guards_246 rfl rfl ?_
          refine Y_aload_n (pc := 247) (j := 1) dX12_guards_247 rfl rfl ?_
          refine Y_iconst (pc := 248) (v := (0 : Int32)) dX12_guards_248 rfl ?_
          obtain ⟨y5, qy5, h⟩ := bindE h
          have cy5 := v_X12_top hPy4 qy5
          refine C_V1r (pc := 249) (k' := k_X12_top) dX12_guards_249 w9_200 i_X12_top (lk_69 hPy4) ⟨Nat.le_of_ble_eq_true rfl, Nat.le_of_ble_eq_true rfl⟩ rfl (Nat.le_of_ble_eq_true rfl) (Nat.le_of_ble_eq_true rfl) (Nat.le_of_ble_eq_true rfl) (cy5) ?_
          have hPy5 := cy5.1.1
          obtain ⟨y6, qy6, h⟩ := bindE h
          have cy6 := v_X12_isNull hPy5 qy6
          refine C_V1r (pc := 252) (k' := k_X12_isNull) dX12_guards_252 w10_5 i_X12_isNull (lk_69 hPy5) ⟨Nat.le_of_ble_eq_true rfl, Nat.le_of_ble_eq_true rfl⟩ rfl (Nat.le_of_ble_eq_true rfl) (Nat.le_of_ble_eq_true rfl) (Nat.le_of_ble_eq_true rfl) (cy6) ?_
          have hPy6 := cy6.1.1
          refine Y_if_eq (pc := 255) (tgt := 262) dX12_guards_255 (by decide) (fun hc8 => ?_) (fun hc8 => ?_)
          · replace h := ifT hc8 h
            refine Y_iconst (pc := 262) (v := (0 : Int32)) dX12_guards_262 rfl ?_
            refine VV.sub [1, 0] rfl ?_
            exact b_X12_guards_263  hPy6 h
          · replace h := ifF hc8 h
            refine Y_iconst (pc := 258) (v := (1 : Int32)) dX12_guards_258 rfl ?_
            refine Y_goto (pc := 259) (tgt := 263) dX12_guards_259 (by decide) ?_
            refine VV.sub [1, 0] rfl ?_
            exact b_X12_guards_263  hPy6 h
    · replace h := ifT hc2 h
      refine Y_aload_n (pc := 209) (j := 0) dX12_guards_209 rfl rfl ?_
      refine Y_iconst (pc := 210) (v := (0 : Int32)) dX12_guards_210 rfl ?_
      obtain ⟨y7, qy7, h⟩ := bindE h
      have cy7 := v_X12_asksKind hPy1 qy7
      refine C_V1o (pc := 211) (k' := k_X12_asksKind) dX12_guards_211 w10_119 i_X12_asksKind (lk_69 hPy1) ⟨Nat.le_of_ble_eq_true rfl, Nat.le_of_ble_eq_true rfl⟩ rfl (Nat.le_of_ble_eq_true rfl) (Nat.le_of_ble_eq_true rfl) (Nat.le_of_ble_eq_true rfl) (cy7) ?_
      have hPy7 := cy7.1.1
      refine Y_goto (pc := 214) (tgt := 323) dX12_guards_214 (by decide) ?_
      cases h
      exact Y_vret (pc := 323) rfl dX12_guards_323 hPy7 ⟨rfl, rfl⟩
  · replace h := ifF hc1 h
    refine Y_aload_n (pc := 7) (j := 0) dX12_guards_7 rfl rfl ?_
    refine Z_getr (pc := 8) dX12_guards_8 w8_113 (lk_69 hPy1) fr_12_47 (lr_69_47 hPy1) ?_
    refine Y_aload_n (pc := 11) (j := 0) dX12_guards_11 rfl rfl ?_
    refine Y_iconst (pc := 12) (v := (1 : Int32)) dX12_guards_12 rfl ?_
    obtain ⟨y8, qy8, h⟩ := bindE h
    have cy8 := v_X12_top hPy1 qy8
    refine C_V1r (pc := 13) (k' := k_X12_top) dX12_guards_13 w9_200 i_X12_top (lk_69 hPy1) ⟨Nat.le_of_ble_eq_true rfl, Nat.le_of_ble_eq_true rfl⟩ rfl (Nat.le_of_ble_eq_true rfl) (Nat.le_of_ble_eq_true rfl) (Nat.le_of_ble_eq_true rfl) (cy8) ?_
    have hPy8 := cy8.1.1
    obtain ⟨hb2, h⟩ := okE h
    refine Y_iald (pc := 16) dX12_guards_16 (lk_108 hPy8) (ln_108 hPy8) hb2 ?_
    obtain ⟨b2, eb2, h⟩ := bndE h
    refine VV.topI eb2 ?_
    refine Y_istore_n (pc := 17) (lv1 := [(2, .int b2), (0, .ref 69), (1, .int x1)]) dX12_guards_17 rfl (by decide) rfl ?_
    refine Y_aload_n (pc := 18) (j := 1) dX12_guards_18 rfl rfl ?_
    refine Z_getr (pc := 19) dX12_guards_19 w8_113 (lk_69 hPy8) fr_12_47 (lr_69_47 hPy8) ?_
    refine Y_aload_n (pc := 22) (j := 1) dX12_guards_22 rfl rfl ?_
    refine Y_iconst (pc := 23) (v := (0 : Int32)) dX12_guards_23 rfl ?_
    obtain ⟨y9, qy9, h⟩ := bindE h
    have cy9 := v_X12_top hPy8 qy9
    refine C_V1r (pc := 24) (k' := k_X12_top) dX12_guards_24 w9_200 i_X12_top (lk_69 hPy8) ⟨Nat.le_of_ble_eq_true rfl, Nat.le_of_ble_eq_true rfl⟩ rfl (Nat.le_of_ble_eq_true rfl) (Nat.le_of_ble_eq_true rfl) (Nat.le_of_ble_eq_true rfl) (cy9) ?_
    have hPy9 := cy9.1.1
    obtain ⟨hb3, h⟩ := okE h
    refine Y_iald (pc := 27) dX12_guards_27 (lk_108 hPy9) (ln_108 hPy9) hb3 ?_
    obtain ⟨b3, eb3, h⟩ := bndE h
    refine VV.topI eb3 ?_
    refine Y_istore_n (pc := 28) (lv1 := [(3, .int b3), (2, .int b2), (0, .ref 69), (1, .int x1)]) dX12_guards_28 rfl (by decide) rfl ?_
    refine Y_aload_n (pc := 29) (j := 2) dX12_guards_29 rfl rfl ?_
    refine Z_getr (pc := 30) dX12_guards_30 w8_151 (lk_69 hPy9) fr_12_85 (lr_69_85 hPy9) ?_
    refine Y_iload_n (pc := 33) (j := 1) dX12_guards_33 rfl rfl ?_
    obtain ⟨hb4, h⟩ := okE h
    refine Y_zald (pc := 34) dX12_guards_34 (lk_124 hPy9) (ln_124 hPy9) hb4 ?_
    refine Y_if_eq (pc := 35) (tgt := 48) dX12_guards_35 (by decide) (fun hc9 => ?_) (fun hc9 => ?_)
    · replace h := ifT hc9 h
      refine VV.sub [2, 3, 0] rfl ?_
      exact b_X12_guards_48  hPy9 h
    · replace h := ifF hc9 h
      refine Y_aload_n (pc := 38) (j := 2) dX12_guards_38 rfl rfl ?_
      refine Z_getr (pc := 39) dX12_guards_39 w8_151 (lk_69 hPy9) fr_12_85 (lr_69_85 hPy9) ?_
      refine Y_iload_n (pc := 42) (j := 0) dX12_guards_42 rfl rfl ?_
      obtain ⟨hb5, h⟩ := okE h
      refine Y_zald (pc := 43) dX12_guards_43 (lk_124 hPy9) (ln_124 hPy9) hb5 ?_
      refine Y_if_eq (pc := 44) (tgt := 48) dX12_guards_44 (by decide) (fun hc10 => ?_) (fun hc10 => ?_)
      · replace h := ifT hc10 h
        refine VV.sub [2, 3, 0] rfl ?_
        exact b_X12_guards_48  hPy9 h
      · replace h := ifF hc10 h
        cases h
        exact Y_vret (pc := 47) rfl dX12_guards_47 hPy9 ⟨rfl, rfl⟩
theorem v_X12_guards {x1 : Int32} {M z} (hP : Lay M) (h : d_X12_guards x1 M = some z) : CC Lay k_X12_guards [.ref 69, .int x1] M z.2 (Qv (none) z.2) xF :=
  CC.ofVV (by decide) rfl (Nat.le_of_ble_eq_true rfl) (b_X12_guards hP h)
noncomputable def d_X12_holds_187 (x1 : Int32) (s0 : Int32) (M : Mem) : Option (Int32 × Mem) :=
  okk (vp_in x1 2400) <|
  if s0 = (mI M 100 x1.toNatClampNeg) then (
    some ((1 : Int32), M))
  else (
    some ((0 : Int32), M))
theorem b_X12_holds_187 {x1 : Int32} {s0 : Int32} {M z} (hP : Lay M) (h : d_X12_holds_187 x1 s0 M = some z) : VV Lay k_X12_holds 187 [(0, .ref 69), (1, .int x1)] [.int s0] M z.2 (Qv (some (.int z.1)) z.2) xF := by
  unfold d_X12_holds_187 at h
  refine Y_aload_n (pc := 187) (j := 0) dX12_holds_187 rfl rfl ?_
  refine Z_getr (pc := 188) dX12_holds_188 w8_105 (lk_69 hP) fr_12_39 (lr_69_39 hP) ?_
  refine Y_iload_n (pc := 191) (j := 1) dX12_holds_191 rfl rfl ?_
  obtain ⟨hb1, h⟩ := okE h
  refine Y_iald (pc := 192) dX12_holds_192 (lk_100 hP) (ln_100 hP) hb1 ?_
  refine Y_icmp_ne (pc := 193) (tgt := 200) dX12_holds_193 (by decide) (fun hc1 => ?_) (fun hc1 => ?_)
  · replace h := ifF hc1 h
    refine Y_iconst (pc := 200) (v := (0 : Int32)) dX12_holds_200 rfl ?_
    cases h
    exact Y_iret (pc := 201) rfl (nar_bo (by decide)) dX12_holds_201 hP ⟨rfl, rfl⟩
  · replace h := ifT hc1 h
    refine Y_iconst (pc := 196) (v := (1 : Int32)) dX12_holds_196 rfl ?_
    refine Y_goto (pc := 197) (tgt := 201) dX12_holds_197 (by decide) ?_
    cases h
    exact Y_iret (pc := 201) rfl (nar_bo (by decide)) dX12_holds_201 hP ⟨rfl, rfl⟩
noncomputable def d_X12_holds_85 (x1 : Int32) (s0 : Int32) (M : Mem) : Option (Int32 × Mem) :=
  okk (vp_in x1 2400) <|
  if s0 = (mI M 100 x1.toNatClampNeg) then (
    some ((1 : Int32), M))
  else (
    some ((0 : Int32), M))
theorem b_X12_holds_85 {x1 : Int32} {s0 : Int32} {M z} (hP : Lay M) (h : d_X12_holds_85 x1 s0 M = some z) : VV Lay k_X12_holds 85 [(0, .ref 69), (1, .int x1)] [.int s0] M z.2 (Qv (some (.int z.1)) z.2) xF := by
  unfold d_X12_holds_85 at h
  refine Y_aload_n (pc := 85) (j := 0) dX12_holds_85 rfl rfl ?_
  refine Z_getr (pc := 86) dX12_holds_86 w8_105 (lk_69 hP) fr_12_39 (lr_69_39 hP) ?_
  refine Y_iload_n (pc := 89) (j := 1) dX12_holds_89 rfl rfl ?_
  obtain ⟨hb1, h⟩ := okE h
  refine Y_iald (pc := 90) dX12_holds_90 (lk_100 hP) (ln_100 hP) hb1 ?_
  refine Y_icmp_ne (pc := 91) (tgt := 98) dX12_holds_91 (by decide) (fun hc1 => ?_) (fun hc1 => ?_)
  · replace h := ifF hc1 h
    refine Y_iconst (pc := 98) (v := (0 : Int32)) dX12_holds_98 rfl ?_
    cases h
    exact Y_iret (pc := 99) rfl (nar_bo (by decide)) dX12_holds_99 hP ⟨rfl, rfl⟩
  · replace h := ifT hc1 h
    refine Y_iconst (pc := 94) (v := (1 : Int32)) dX12_holds_94 rfl ?_
    refine Y_goto (pc := 95) (tgt := 99) dX12_holds_95 (by decide) ?_
    cases h
    exact Y_iret (pc := 99) rfl (nar_bo (by decide)) dX12_holds_99 hP ⟨rfl, rfl⟩
noncomputable def d_X12_holds (x1 : Int32) (M : Mem) : Option (Int32 × Mem) :=
  okk (vp_in x1 2400) <|
  (d_X12_top (mI M 99 x1.toNatClampNeg) M).bind fun y1 =>
  okk (vp_in x1 2400) <|
  bnd ((mI y1.2 97 x1.toNatClampNeg)) fun b1 =>
  if b1 = (107 : Int32) then (
    okk (vp_in y1.1 168) <|
    okk (vp_in x1 2400) <|
    if (mI y1.2 105 y1.1.toNatClampNeg) = (mI y1.2 100 x1.toNatClampNeg) then (
      some ((1 : Int32), y1.2))
    else (
      some ((0 : Int32), y1.2)))
  else (
    if b1 = (122 : Int32) then (
      okk (vp_in y1.1 168) <|
      if (mI y1.2 106 y1.1.toNatClampNeg) = 0 then (
        some ((0 : Int32), y1.2))
      else (
        some ((1 : Int32), y1.2)))
    else (
      if b1 = (116 : Int32) then (
        (d_X12_isNull y1.1 y1.2).bind fun y5 =>
        if y5.1 = 0 then (
          d_X12_holds_85 x1 (0 : Int32) y5.2)
        else (
          d_X12_holds_85 x1 (1 : Int32) y5.2))
      else (
        if b1 = (115 : Int32) then (
          okk (vp_in y1.1 168) <|
          okk (vp_in (mI y1.2 106 y1.1.toNatClampNeg) 60) <|
          okk (vp_in x1 2400) <|
          if (mI y1.2 112 (mI y1.2 106 y1.1.toNatClampNeg).toNatClampNeg) = (mI y1.2 100 x1.toNatClampNeg) then (
            some ((1 : Int32), y1.2))
          else (
            some ((0 : Int32), y1.2)))
        else (
          okk (vp_in (mI y1.2 69 48) 12) <|
          okk (vp_in (mI y1.2 69 48) 12) <|
          okk (vp_in (((40 : Int32) * (mI y1.2 109 (mI y1.2 69 48).toNatClampNeg)) + (mI y1.2 110 (mI y1.2 69 48).toNatClampNeg)) 320) <|
          (d_X12_top (1 : Int32) y1.2).bind fun y2 =>
          (d_X12_top (0 : Int32) y2.2).bind fun y3 =>
          (d_X12_reckons (mI y1.2 72 (((40 : Int32) * (mI y1.2 109 (mI y1.2 69 48).toNatClampNeg)) + (mI y1.2 110 (mI y1.2 69 48).toNatClampNeg)).toNatClampNeg) y2.1 y3.1 y3.2).bind fun y4 =>
          if (mI y4.2 69 88) = (105 : Int32) then (
            d_X12_holds_187 x1 (1 : Int32) y4.2)
          else (
            d_X12_holds_187 x1 (0 : Int32) y4.2)))))
theorem b_X12_holds {x1 : Int32} {M z} (hP : Lay M) (h : d_X12_holds x1 M = some z) : VV Lay k_X12_holds 0 [(0, .ref 69), (1, .int x1)] [] M z.2 (Qv (some (.int z.1)) z.2) xF := by
  unfold d_X12_holds at h
  refine Y_aload_n (pc := 0) (j := 0) dX12_holds_0 rfl rfl ?_
  refine Y_aload_n (pc := 1) (j := 0) dX12_holds_1 rfl rfl ?_
  refine Z_getr (pc := 2) dX12_holds_2 w8_104 (lk_69 hP) fr_12_38 (lr_69_38 hP) ?_
  refine Y_iload_n (pc := 5) (j := 1) dX12_holds_5 rfl rfl ?_
  obtain ⟨hb1, h⟩ := okE h
  refine Y_iald (pc := 6) dX12_holds_6 (lk_99 hP) (ln_99 hP) hb1 ?_
  obtain ⟨y1, qy1, h⟩ := bindE h
  have cy1 := v_X12_top hP qy1
  refine C_V1r (pc := 7) (k' := k_X12_top) dX12_holds_7 w9_200 i_X12_top (lk_69 hP) ⟨Nat.le_of_ble_eq_true rfl, Nat.le_of_ble_eq_true rfl⟩ rfl (Nat.le_of_ble_eq_true rfl) (Nat.le_of_ble_eq_true rfl) (Nat.le_of_ble_eq_true rfl) (cy1) ?_
  have hPy1 := cy1.1.1
  refine Y_istore_n (pc := 10) (lv1 := [(2, .int y1.1), (0, .ref 69), (1, .int x1)]) dX12_holds_10 rfl (by decide) rfl ?_
  refine Y_aload_n (pc := 11) (j := 1) dX12_holds_11 rfl rfl ?_
  refine Z_getr (pc := 12) dX12_holds_12 w8_102 (lk_69 hPy1) fr_12_36 (lr_69_36 hPy1) ?_
  refine Y_iload_n (pc := 15) (j := 2) dX12_holds_15 rfl rfl ?_
  obtain ⟨hb2, h⟩ := okE h
  refine Y_cald (pc := 16) dX12_holds_16 (lk_97 hPy1) (ln_97 hPy1) hb2 ?_
  obtain ⟨b1, eb1, h⟩ := bndE h
  refine VV.topI eb1 ?_
  refine Y_istore_n (pc := 17) (lv1 := [(3, .int b1), (2, .int y1.1), (0, .ref 69), (1, .int x1)]) dX12_holds_17 rfl (by decide) rfl ?_
  refine Y_iload_n (pc := 18) (j := 0) dX12_holds_18 rfl rfl ?_
  refine Y_bipush (pc := 19) (v := (107 : Int32)) dX12_holds_19 rfl ?_
  refine Y_icmp_ne (pc := 21) (tgt := 45) dX12_holds_21 (by decide) (fun hc1 => ?_) (fun hc1 => ?_)
  · replace h := ifF hc1 h
    refine Y_iload_n (pc := 45) (j := 0) dX12_holds_45 rfl rfl ?_
    refine Y_bipush (pc := 46) (v := (122 : Int32)) dX12_holds_46 rfl ?_
    refine Y_icmp_ne (pc := 48) (tgt := 66) dX12_holds_48 (by decide) (fun hc2 => ?_) (fun hc2 => ?_)
    · replace h := ifF hc2 h
      refine Y_iload_n (pc := 66) (j := 0) dX12_holds_66 rfl rfl ?_
      refine Y_bipush (pc := 67) (v := (116 : Int32)) dX12_holds_67 rfl ?_
      refine Y_icmp_ne (pc := 69) (tgt := 100) dX12_holds_69 (by decide) (fun hc3 => ?_) (fun hc3 => ?_)
      · replace h := ifF hc3 h
        refine Y_iload_n (pc := 100) (j := 0) dX12_holds_100 rfl rfl ?_
        refine Y_bipush (pc := 101) (v := (115 : Int32)) dX12_holds_101 rfl ?_
        refine Y_icmp_ne (pc := 103) (tgt := 132) dX12_holds_103 (by decide) (fun hc4 => ?_) (fun hc4 => ?_)
        · replace h := ifF hc4 h
          refine Y_aload_n (pc := 132) (j := 2) dX12_holds_132 rfl rfl ?_
          refine Y_aload_n (pc := 133) (j := 2) dX12_holds_133 rfl rfl ?_
          refine Z_getr (pc := 134) dX12_holds_134 w8_70 (lk_69 hPy1) fr_12_4 (lr_69_4 hPy1) ?_
          refine Y_bipush (pc := 137) (v := (40 : Int32)) dX12_holds_137 rfl ?_
          refine Y_aload_n (pc := 139) (j := 2) dX12_holds_139 rfl rfl ?_
          refine Z_getr (pc := 140) dX12_holds_140 w8_115 (lk_69 hPy1) fr_12_49 (lr_69_49 hPy1) ?_
          refine Y_aload_n (pc := 143) (j := 2) dX12_holds_143 rfl rfl ?_
          refine Z_geti (pc := 144) dX12_holds_144 w8_114 (lk_69 hPy1) fi_12_48 ?_
          obtain ⟨hb3, h⟩ := okE h
          refine Y_iald (pc := 147) dX12_holds_147 (lk_109 hPy1) (ln_109 hPy1) hb3 ?_
          refine Y_imul (pc := 148) dX12_holds_148 ?_
          refine Y_aload_n (pc := 149) (j := 2) dX12_holds_149 rfl rfl ?_
          refine Z_getr (pc := 150) dX12_holds_150 w8_116 (lk_69 hPy1) fr_12_50 (lr_69_50 hPy1) ?_
          refine Y_aload_n (pc := 153) (j := 2) dX12_holds_153 rfl rfl ?_
          refine Z_geti (pc := 154) dX12_holds_154 w8_114 (lk_69 hPy1) fi_12_48 ?_
          obtain ⟨hb4, h⟩ := okE h
          refine Y_iald (pc := 157) dX12_holds_157 (lk_110 hPy1) (ln_110 hPy1) hb4 ?_
          refine Y_iadd (pc := 158) dX12_holds_158 ?_
          obtain ⟨hb5, h⟩ := okE h
          refine Y_cald (pc := 159) dX12_holds_159 (lk_72 hPy1) (ln_72 hPy1) hb5 ?_
          refine Y_aload_n (pc := 160) (j := 2) dX12_holds_160 rfl rfl ?_
          refine Y_iconst (pc := 161) (v := (1 : Int32)) dX12_holds_161 rfl ?_
          obtain ⟨y2, qy2, h⟩ := bindE h
          have cy2 := v_X12_top hPy1 qy2
          refine C_V1r (pc := 162) (k' := k_X12_top) dX12_holds_162 w9_200 i_X12_top (lk_69 hPy1) ⟨Nat.le_of_ble_eq_true rfl, Nat.le_of_ble_eq_true rfl⟩ rfl (Nat.le_of_ble_eq_true rfl) (Nat.le_of_ble_eq_true rfl) (Nat.le_of_ble_eq_true rfl) (cy2) ?_
          have hPy2 := cy2.1.1
          refine Y_aload_n (pc := 165) (j := 2) dX12_holds_165 rfl rfl ?_
          refine Y_iconst (pc := 166) (v := (0 : Int32)) dX12_holds_166 rfl ?_
          obtain ⟨y3, qy3, h⟩ := bindE h
          have cy3 := v_X12_top hPy2 qy3
          refine C_V1r (pc := 167) (k' := k_X12_top) dX12_holds_167 w9_200 i_X12_top (lk_69 hPy2) ⟨Nat.le_of_ble_eq_true rfl, Nat.le_of_ble_eq_true rfl⟩ rfl (Nat.le_of_ble_eq_true rfl) (Nat.le_of_ble_eq_true rfl) (Nat.le_of_ble_eq_true rfl) (cy3) ?_
          have hPy3 := cy3.1.1
          obtain ⟨y4, qy4, h⟩ := bindE h
          have cy4 := v_X12_reckons hPy3 qy4
          refine C_V3o (pc := 170) (k' := k_X12_reckons) dX12_holds_170 w10_9 i_X12_reckons (lk_69 hPy3) ⟨Nat.le_of_ble_eq_true rfl, Nat.le_of_ble_eq_true rfl⟩ rfl (Nat.le_of_ble_eq_true rfl) (Nat.le_of_ble_eq_true rfl) (Nat.le_of_ble_eq_true rfl) (cy4) ?_
          have hPy4 := cy4.1.1
          refine Y_aload_n (pc := 173) (j := 2) dX12_holds_173 rfl rfl ?_
          refine Z_geti (pc := 174) dX12_holds_174 w8_154 (lk_69 hPy4) fi_12_88 ?_
          refine Y_bipush (pc := 177) (v := (105 : Int32)) dX12_holds_177 rfl ?_
          refine Y_icmp_ne (pc := 179) (tgt := 186) dX12_holds_179 (by decide) (fun hc5 => ?_) (fun hc5 => ?_)
          · replace h := ifF hc5 h
            refine Y_iconst (pc := 186) (v := (0 : Int32)) dX12_holds_186 rfl ?_
            refine VV.sub [2, 3] rfl ?_
            exact b_X12_holds_187  hPy4 h
          · replace h := ifT hc5 h
            refine Y_iconst (pc := 182) (v := (1 : Int32)) dX12_holds_182 rfl ?_
            refine Y_goto (pc := 183) (tgt := 187) dX12_holds_183 (by decide) ?_
            refine VV.sub [2, 3] rfl ?_
            exact b_X12_holds_187  hPy4 h
        · replace h := ifT hc4 h
          refine Y_aload_n (pc := 106) (j := 2) dX12_holds_106 rfl rfl ?_
          refine Z_getr (pc := 107) dX12_holds_107 w8_119 (lk_69 hPy1) fr_12_53 (lr_69_53 hPy1) ?_
          refine Y_aload_n (pc := 110) (j := 2) dX12_holds_110 rfl rfl ?_
          refine Z_getr (pc := 111) dX12_holds_111 w8_111 (lk_69 hPy1) fr_12_45 (lr_69_45 hPy1) ?_
          refine Y_iload_n (pc := 114) (j := 1) dX12_holds_114 rfl rfl ?_
          obtain ⟨hb6, h⟩ := okE h
          refine Y_iald (pc := 115) dX12_holds_115 (lk_106 hPy1) (ln_106 hPy1) hb6 ?_
          obtain ⟨hb7, h⟩ := okE h
          refine Y_iald (pc := 116) dX12_holds_116 (lk_112 hPy1) (ln_112 hPy1) hb7 ?_
          refine Y_aload_n (pc := 117) (j := 2) dX12_holds_117 rfl rfl ?_
          refine Z_getr (pc := 118) dX12_holds_118 w8_105 (lk_69 hPy1) fr_12_39 (lr_69_39 hPy1) ?_
          refine Y_iload_n (pc := 121) (j := 3) dX12_holds_121 rfl rfl ?_
          obtain ⟨hb8, h⟩ := okE h
          refine Y_iald (pc := 122) dX12_holds_122 (lk_100 hPy1) (ln_100 hPy1) hb8 ?_
          refine Y_icmp_ne (pc := 123) (tgt := 130) dX12_holds_123 (by decide) (fun hc6 => ?_) (fun hc6 => ?_)
          · replace h := ifF hc6 h
            refine Y_iconst (pc := 130) (v := (0 : Int32)) dX12_holds_130 rfl ?_
            cases h
            exact Y_iret (pc := 131) rfl (nar_bo (by decide)) dX12_holds_131 hPy1 ⟨rfl, rfl⟩
          · replace h := ifT hc6 h
            refine Y_iconst (pc := 126) (v := (1 : Int32)) dX12_holds_126 rfl ?_
            refine Y_goto (pc := 127) (tgt := 131) dX12_holds_127 (by decide) ?_
            cases h
            exact Y_iret (pc := 131) rfl (nar_bo (by decide)) dX12_holds_131 hPy1 ⟨rfl, rfl⟩
      · replace h := ifT hc3 h
        refine Y_aload_n (pc := 72) (j := 2) dX12_holds_72 rfl rfl ?_
        refine Y_iload_n (pc := 73) (j := 1) dX12_holds_73 rfl rfl ?_
        obtain ⟨y5, qy5, h⟩ := bindE h
        have cy5 := v_X12_isNull hPy1 qy5
        refine C_V1r (pc := 74) (k' := k_X12_isNull) dX12_holds_74 w10_5 i_X12_isNull (lk_69 hPy1) ⟨Nat.le_of_ble_eq_true rfl, Nat.le_of_ble_eq_true rfl⟩ rfl (Nat.le_of_ble_eq_true rfl) (Nat.le_of_ble_eq_true rfl) (Nat.le_of_ble_eq_true rfl) (cy5) ?_
        have hPy5 := cy5.1.1
        refine Y_if_eq (pc := 77) (tgt := 84) dX12_holds_77 (by decide) (fun hc7 => ?_) (fun hc7 => ?_)
        · replace h := ifT hc7 h
          refine Y_iconst (pc := 84) (v := (0 : Int32)) dX12_holds_84 rfl ?_
          refine VV.sub [2, 3] rfl ?_
          exact b_X12_holds_85  hPy5 h
        · replace h := ifF hc7 h
          refine Y_iconst (pc := 80) (v := (1 : Int32)) dX12_holds_80 rfl ?_
          refine Y_goto (pc := 81) (tgt := 85) dX12_holds_81 (by decide) ?_
          refine VV.sub [2, 3] rfl ?_
          exact b_X12_holds_85  hPy5 h
    · replace h := ifT hc2 h
      refine Y_aload_n (pc := 51) (j := 2) dX12_holds_51 rfl rfl ?_
      refine Z_getr (pc := 52) dX12_holds_52 w8_111 (lk_69 hPy1) fr_12_45 (lr_69_45 hPy1) ?_
      refine Y_iload_n (pc := 55) (j := 1) dX12_holds_55 rfl rfl ?_
      obtain ⟨hb9, h⟩ := okE h
      refine Y_iald (pc := 56) dX12_holds_56 (lk_106 hPy1) (ln_106 hPy1) hb9 ?_
      refine Y_if_eq (pc := 57) (tgt := 64) dX12_holds_57 (by decide) (fun hc8 => ?_) (fun hc8 => ?_)
      · replace h := ifT hc8 h
        refine Y_iconst (pc := 64) (v := (0 : Int32)) dX12_holds_64 rfl ?_
        cases h
        exact Y_iret (pc := 65) rfl (nar_bo (by decide)) dX12_holds_65 hPy1 ⟨rfl, rfl⟩
      · replace h := ifF hc8 h
        refine Y_iconst (pc := 60) (v := (1 : Int32)) dX12_holds_60 rfl ?_
        refine Y_goto (pc := 61) (tgt := 65) dX12_holds_61 (by decide) ?_
        cases h
        exact Y_iret (pc := 65) rfl (nar_bo (by decide)) dX12_holds_65 hPy1 ⟨rfl, rfl⟩
  · replace h := ifT hc1 h
    refine Y_aload_n (pc := 24) (j := 2) dX12_holds_24 rfl rfl ?_
    refine Z_getr (pc := 25) dX12_holds_25 w8_110 (lk_69 hPy1) fr_12_44 (lr_69_44 hPy1) ?_
    refine Y_iload_n (pc := 28) (j := 1) dX12_holds_28 rfl rfl ?_
    obtain ⟨hb10, h⟩ := okE h
    refine Y_cald (pc := 29) dX12_holds_29 (lk_105 hPy1) (ln_105 hPy1) hb10 ?_
    refine Y_aload_n (pc := 30) (j := 2) dX12_holds_30 rfl rfl ?_
    refine Z_getr (pc := 31) dX12_holds_31 w8_105 (lk_69 hPy1) fr_12_39 (lr_69_39 hPy1) ?_
    refine Y_iload_n (pc := 34) (j := 3) dX12_holds_34 rfl rfl ?_
    obtain ⟨hb11, h⟩ := okE h
    refine Y_iald (pc := 35) dX12_holds_35 (lk_100 hPy1) (ln_100 hPy1) hb11 ?_
    refine Y_icmp_ne (pc := 36) (tgt := 43) dX12_holds_36 (by decide) (fun hc9 => ?_) (fun hc9 => ?_)
    · replace h := ifF hc9 h
      refine Y_iconst (pc := 43) (v := (0 : Int32)) dX12_holds_43 rfl ?_
      cases h
      exact Y_iret (pc := 44) rfl (nar_bo (by decide)) dX12_holds_44 hPy1 ⟨rfl, rfl⟩
    · replace h := ifT hc9 h
      refine Y_iconst (pc := 39) (v := (1 : Int32)) dX12_holds_39 rfl ?_
      refine Y_goto (pc := 40) (tgt := 44) dX12_holds_40 (by decide) ?_
      cases h
      exact Y_iret (pc := 44) rfl (nar_bo (by decide)) dX12_holds_44 hPy1 ⟨rfl, rfl⟩
theorem v_X12_holds {x1 : Int32} {M z} (hP : Lay M) (h : d_X12_holds x1 M = some z) : CC Lay k_X12_holds [.ref 69, .int x1] M z.2 (Qv (some (.int z.1)) z.2) xF :=
  CC.ofVV (by decide) rfl (Nat.le_of_ble_eq_true rfl) (b_X12_holds hP h)
noncomputable def d_X12_records_57b (k45 : (Int32) → Mem → Option (Unit × Mem)) (k57 : (Int32) → Mem → Option (Unit × Mem)) (x5 : Int32) (x6 : Int32) (M : Mem) : Option (Unit × Mem) :=
  okk (vp_in x5 12) <|
  if ((6 : Int32) + (mI M 111 x5.toNatClampNeg)) ≤ x6 then (
    bnd ((x5 + (1 : Int32))) fun b1 =>
    k45 (b1) M)
  else (
    (d_X12_newValue M).bind fun y1 =>
    okk (vp_in (((14 : Int32) * x5) + x6) 168) <|
    bnd (sI y1.2 108 (((14 : Int32) * x5) + x6).toNatClampNeg y1.1) fun M1 =>
    bnd ((x6 + (1 : Int32))) fun b2 =>
    k57 (b2) M1)
theorem b_X12_records_57b {k45 : (Int32) → Mem → Option (Unit × Mem)} {k57 : (Int32) → Mem → Option (Unit × Mem)} {x5 : Int32} {x6 : Int32} {M z} (hk45 : ∀ (a : (Int32)) (M : Mem) (z : Unit × Mem), Lay M → k45 a M = some z → VV Lay k_X12_records 45 [(0, .ref 69), (5, .int a)] [] M z.2 (Qv (none) z.2) xF) (hk57 : ∀ (a : (Int32)) (M : Mem) (z : Unit × Mem), Lay M → k57 a M = some z → VV Lay k_X12_records 57 [(0, .ref 69), (5, .int x5), (6, .int a)] [] M z.2 (Qv (none) z.2) xF) (hP : Lay M) (h : d_X12_records_57b k45 k57 x5 x6 M = some z) : VV Lay k_X12_records 57 [(0, .ref 69), (5, .int x5), (6, .int x6)] [] M z.2 (Qv (none) z.2) xF := by
  unfold d_X12_records_57b at h
  refine Y_iload (pc := 57) (j := 2) dX12_records_57 rfl ?_
  refine Y_bipush (pc := 59) (v := (6 : Int32)) dX12_records_59 rfl ?_
  refine Y_aload_n (pc := 61) (j := 0) dX12_records_61 rfl rfl ?_
  refine Z_getr (pc := 62) dX12_records_62 w8_117 (lk_69 hP) fr_12_51 (lr_69_51 hP) ?_
  refine Y_iload (pc := 65) (j := 1) dX12_records_65 rfl ?_
  obtain ⟨hb1, h⟩ := okE h
  refine Y_iald (pc := 67) dX12_records_67 (lk_111 hP) (ln_111 hP) hb1 ?_
  refine Y_iadd (pc := 68) dX12_records_68 ?_
  refine Y_icmp_ge (pc := 69) (tgt := 95) dX12_records_69 (by decide) (fun hc1 => ?_) (fun hc1 => ?_)
  · replace h := ifT hc1 h
    obtain ⟨b1, eb1, h⟩ := bndE h
    refine Y_iinc (pc := 95) (j := 1) (v := b1) (lv1 := [(5, .int b1), (0, .ref 69), (6, .int x6)]) dX12_records_95 rfl eb1.symm (by decide) rfl ?_
    refine Y_goto (pc := 98) (tgt := 45) dX12_records_98 (by decide) ?_
    refine VV.sub [1, 0] rfl ?_
    exact hk45 _ _ _ hP h
  · replace h := ifF hc1 h
    refine Y_aload_n (pc := 72) (j := 0) dX12_records_72 rfl rfl ?_
    refine Z_getr (pc := 73) dX12_records_73 w8_113 (lk_69 hP) fr_12_47 (lr_69_47 hP) ?_
    refine Y_bipush (pc := 76) (v := (14 : Int32)) dX12_records_76 rfl ?_
    refine Y_iload (pc := 78) (j := 1) dX12_records_78 rfl ?_
    refine Y_imul (pc := 80) dX12_records_80 ?_
    refine Y_iload (pc := 81) (j := 2) dX12_records_81 rfl ?_
    refine Y_iadd (pc := 83) dX12_records_83 ?_
    refine Y_aload_n (pc := 84) (j := 0) dX12_records_84 rfl rfl ?_
    obtain ⟨y1, qy1, h⟩ := bindE h
    have cy1 := v_X12_newValue hP qy1
    refine C_V0r (pc := 85) (k' := k_X12_newValue) dX12_records_85 w10_35 i_X12_newValue (lk_69 hP) ⟨Nat.le_of_ble_eq_true rfl, Nat.le_of_ble_eq_true rfl⟩ rfl (Nat.le_of_ble_eq_true rfl) (Nat.le_of_ble_eq_true rfl) (Nat.le_of_ble_eq_true rfl) (cy1) ?_
    have hPy1 := cy1.1.1
    obtain ⟨hb2, h⟩ := okE h
    refine Y_iast (pc := 88) dX12_records_88 (lk_108 hPy1) (ln_108 hPy1) hb2 ?_
    obtain ⟨M1, eM1, h⟩ := bndE h
    refine VV.mem eM1 ?_
    have hP1 := hPy1.wI eM1
    obtain ⟨b2, eb2, h⟩ := bndE h
    refine Y_iinc (pc := 89) (j := 2) (v := b2) (lv1 := [(6, .int b2), (0, .ref 69), (5, .int x5)]) dX12_records_89 rfl eb2.symm (by decide) rfl ?_
    refine Y_goto (pc := 92) (tgt := 57) dX12_records_92 (by decide) ?_
    refine VV.sub [1, 2, 0] rfl ?_
    exact hk57 _ _ _ hP1 h
noncomputable def d_X12_records_57 (k45 : (Int32) → Mem → Option (Unit × Mem)) (x5 : Int32) : Nat → (Int32) → Mem → Option (Unit × Mem) := lp fun k a M => d_X12_records_57b k45 k x5 a M
theorem b_X12_records_57 {k45 : (Int32) → Mem → Option (Unit × Mem)} {x5 : Int32} (hk45 : ∀ (a : (Int32)) (M : Mem) (z : Unit × Mem), Lay M → k45 a M = some z → VV Lay k_X12_records 45 [(0, .ref 69), (5, .int a)] [] M z.2 (Qv (none) z.2) xF) (n : Nat) : ∀ (a : (Int32)) (M : Mem) (z : Unit × Mem), d_X12_records_57 k45 x5 n a M = some z → Lay M → VV Lay k_X12_records 57 [(0, .ref 69), (5, .int x5), (6, .int a)] [] M z.2 (Qv (none) z.2) xF :=
  lp_ind (G := fun (a : (Int32)) (M : Mem) (z : Unit × Mem) => Lay M → VV Lay k_X12_records 57 [(0, .ref 69), (5, .int x5), (6, .int a)] [] M z.2 (Qv (none) z.2) xF) (fun k hk a M z h hP => b_X12_records_57b  hk45 (fun a M z hP h => hk a M z h hP) hP h) n
noncomputable def d_X12_records_45b (k45 : (Int32) → Mem → Option (Unit × Mem)) (x5 : Int32) (M : Mem) : Option (Unit × Mem) :=
  if (mI M 69 48) < x5 then (
    some ((), M))
  else (
    d_X12_records_57 k45 x5 fuel ((0 : Int32)) M)
theorem b_X12_records_45b {k45 : (Int32) → Mem → Option (Unit × Mem)} {x5 : Int32} {M z} (hk45 : ∀ (a : (Int32)) (M : Mem) (z : Unit × Mem), Lay M → k45 a M = some z → VV Lay k_X12_records 45 [(0, .ref 69), (5, .int a)] [] M z.2 (Qv (none) z.2) xF) (hP : Lay M) (h : d_X12_records_45b k45 x5 M = some z) : VV Lay k_X12_records 45 [(0, .ref 69), (5, .int x5)] [] M z.2 (Qv (none) z.2) xF := by
  unfold d_X12_records_45b at h
  refine Y_iload (pc := 45) (j := 1) dX12_records_45 rfl ?_
  refine Y_aload_n (pc := 47) (j := 0) dX12_records_47 rfl rfl ?_
  refine Z_geti (pc := 48) dX12_records_48 w8_114 (lk_69 hP) fi_12_48 ?_
  refine Y_icmp_gt (pc := 51) (tgt := 101) dX12_records_51 (by decide) (fun hc1 => ?_) (fun hc1 => ?_)
  · replace h := ifT hc1 h
    cases h
    exact Y_vret (pc := 101) rfl dX12_records_101 hP ⟨rfl, rfl⟩
  · replace h := ifF hc1 h
    refine Y_iconst (pc := 54) (v := (0 : Int32)) dX12_records_54 rfl ?_
    refine Y_istore (pc := 55) (lv1 := [(6, .int (0 : Int32)), (0, .ref 69), (5, .int x5)]) dX12_records_55 (by decide) rfl ?_
    refine VV.sub [1, 2, 0] rfl ?_
    exact b_X12_records_57 hk45 fuel _ _ _ h hP
noncomputable def d_X12_records_45 : Nat → (Int32) → Mem → Option (Unit × Mem) := lp fun k a M => d_X12_records_45b k a M
theorem b_X12_records_45 (n : Nat) : ∀ (a : (Int32)) (M : Mem) (z : Unit × Mem), d_X12_records_45 n a M = some z → Lay M → VV Lay k_X12_records 45 [(0, .ref 69), (5, .int a)] [] M z.2 (Qv (none) z.2) xF :=
  lp_ind (G := fun (a : (Int32)) (M : Mem) (z : Unit × Mem) => Lay M → VV Lay k_X12_records 45 [(0, .ref 69), (5, .int a)] [] M z.2 (Qv (none) z.2) xF) (fun k hk a M z h hP => b_X12_records_45b  (fun a M z hP h => hk a M z h hP) hP h) n
noncomputable def d_X12_records (x1 : Int32) (x2 : Int32) (x3 : Int32) (x4 : Int32) (M : Mem) : Option (Unit × Mem) :=
  bnd (sI M 69 71 (1 : Int32)) fun M1 =>
  bnd (sI M1 69 72 x1) fun M2 =>
  bnd (sI M2 69 73 x2) fun M3 =>
  bnd (sI M3 69 74 x3) fun M4 =>
  bnd (sI M4 69 75 x4) fun M5 =>
  bnd (sI M5 69 76 (0 : Int32)) fun M6 =>
  bnd (sI M6 69 78 (0 : Int32)) fun M7 =>
  bnd (sI M7 69 83 (0 : Int32)) fun M8 =>
  d_X12_records_45 fuel (x4) M8
theorem b_X12_records {x1 : Int32} {x2 : Int32} {x3 : Int32} {x4 : Int32} {M z} (hP : Lay M) (h : d_X12_records x1 x2 x3 x4 M = some z) : VV Lay k_X12_records 0 [(0, .ref 69), (1, .int x1), (2, .int x2), (3, .int x3), (4, .int x4)] [] M z.2 (Qv (none) z.2) xF := by
  unfold d_X12_records at h
  refine Y_aload_n (pc := 0) (j := 0) dX12_records_0 rfl rfl ?_
  refine Y_iconst (pc := 1) (v := (1 : Int32)) dX12_records_1 rfl ?_
  refine Z_putz (pc := 2) dX12_records_2 w8_137 (lk_69 hP) fi_12_71 (Or.inl rfl) rfl (by decide) ?_
  obtain ⟨M1, eM1, h⟩ := bndE h
  refine VV.mem eM1 ?_
  have hP1 := hP.wI eM1
  refine Y_aload_n (pc := 5) (j := 0) dX12_records_5 rfl rfl ?_
  refine Y_iload_n (pc := 6) (j := 1) dX12_records_6 rfl rfl ?_
  refine Z_puti (pc := 7) dX12_records_7 w8_138 (lk_69 hP1) fi_12_72 (Or.inl rfl) rfl ?_
  obtain ⟨M2, eM2, h⟩ := bndE h
  refine VV.mem eM2 ?_
  have hP2 := hP1.wI eM2
  refine Y_aload_n (pc := 10) (j := 0) dX12_records_10 rfl rfl ?_
  refine Y_iload_n (pc := 11) (j := 2) dX12_records_11 rfl rfl ?_
  refine Z_puti (pc := 12) dX12_records_12 w8_139 (lk_69 hP2) fi_12_73 (Or.inl rfl) rfl ?_
  obtain ⟨M3, eM3, h⟩ := bndE h
  refine VV.mem eM3 ?_
  have hP3 := hP2.wI eM3
  refine Y_aload_n (pc := 15) (j := 0) dX12_records_15 rfl rfl ?_
  refine Y_iload_n (pc := 16) (j := 3) dX12_records_16 rfl rfl ?_
  refine Z_puti (pc := 17) dX12_records_17 w8_140 (lk_69 hP3) fi_12_74 (Or.inl rfl) rfl ?_
  obtain ⟨M4, eM4, h⟩ := bndE h
  refine VV.mem eM4 ?_
  have hP4 := hP3.wI eM4
  refine Y_aload_n (pc := 20) (j := 0) dX12_records_20 rfl rfl ?_
  refine Y_iload (pc := 21) (j := 4) dX12_records_21 rfl ?_
  refine Z_puti (pc := 23) dX12_records_23 w8_141 (lk_69 hP4) fi_12_75 (Or.inl rfl) rfl ?_
  obtain ⟨M5, eM5, h⟩ := bndE h
  refine VV.mem eM5 ?_
  have hP5 := hP4.wI eM5
  refine Y_aload_n (pc := 26) (j := 0) dX12_records_26 rfl rfl ?_
  refine Y_iconst (pc := 27) (v := (0 : Int32)) dX12_records_27 rfl ?_
  refine Z_puti (pc := 28) dX12_records_28 w8_142 (lk_69 hP5) fi_12_76 (Or.inl rfl) rfl ?_
  obtain ⟨M6, eM6, h⟩ := bndE h
  refine VV.mem eM6 ?_
  have hP6 := hP5.wI eM6
  refine Y_aload_n (pc := 31) (j := 0) dX12_records_31 rfl rfl ?_
  refine Y_iconst (pc := 32) (v := (0 : Int32)) dX12_records_32 rfl ?_
  refine Z_puti (pc := 33) dX12_records_33 w8_144 (lk_69 hP6) fi_12_78 (Or.inl rfl) rfl ?_
  obtain ⟨M7, eM7, h⟩ := bndE h
  refine VV.mem eM7 ?_
  have hP7 := hP6.wI eM7
  refine Y_aload_n (pc := 36) (j := 0) dX12_records_36 rfl rfl ?_
  refine Y_iconst (pc := 37) (v := (0 : Int32)) dX12_records_37 rfl ?_
  refine Z_puti (pc := 38) dX12_records_38 w8_149 (lk_69 hP7) fi_12_83 (Or.inl rfl) rfl ?_
  obtain ⟨M8, eM8, h⟩ := bndE h
  refine VV.mem eM8 ?_
  have hP8 := hP7.wI eM8
  refine Y_iload (pc := 41) (j := 4) dX12_records_41 rfl ?_
  refine Y_istore (pc := 43) (lv1 := [(5, .int x4), (0, .ref 69), (1, .int x1), (2, .int x2), (3, .int x3), (4, .int x4)]) dX12_records_43 (by decide) rfl ?_
  refine VV.sub [1, 0] rfl ?_
  exact b_X12_records_45  fuel _ _ _ h hP8
theorem v_X12_records {x1 : Int32} {x2 : Int32} {x3 : Int32} {x4 : Int32} {M z} (hP : Lay M) (h : d_X12_records x1 x2 x3 x4 M = some z) : CC Lay k_X12_records [.ref 69, .int x1, .int x2, .int x3, .int x4] M z.2 (Qv (none) z.2) xF :=
  CC.ofVV (by decide) rfl (Nat.le_of_ble_eq_true rfl) (b_X12_records hP h)
noncomputable def d_X12_breaksOff (M : Mem) : Option (Unit × Mem) :=
  if (mI M 69 71) = 0 then (
    some ((), M))
  else (
    bnd (sI M 69 71 (0 : Int32)) fun M1 =>
    if (mI M1 69 73) = (-1 : Int32) then (
      okk (vp_in (mI M1 69 74) 320) <|
      bnd (sI M1 87 (mI M1 69 74).toNatClampNeg (0 : Int32)) fun M4 =>
      okk (vp_in (mI M4 69 74) 320) <|
      okk (vp_in (mI M4 69 74) 320) <|
      bnd (sI M4 88 (mI M4 69 74).toNatClampNeg ((mI M4 88 (mI M4 69 74).toNatClampNeg) + (1 : Int32))) fun M5 =>
      some ((), M5))
    else (
      okk (vp_in (mI M1 69 73) 2400) <|
      bnd (sI M1 102 (mI M1 69 73).toNatClampNeg (0 : Int32)) fun M2 =>
      okk (vp_in (mI M2 69 73) 2400) <|
      okk (vp_in (mI M2 69 73) 2400) <|
      bnd (sI M2 103 (mI M2 69 73).toNatClampNeg ((mI M2 103 (mI M2 69 73).toNatClampNeg) + (1 : Int32))) fun M3 =>
      some ((), M3)))
theorem b_X12_breaksOff {M z} (hP : Lay M) (h : d_X12_breaksOff M = some z) : VV Lay k_X12_breaksOff 0 [(0, .ref 69)] [] M z.2 (Qv (none) z.2) xF := by
  unfold d_X12_breaksOff at h
  refine Y_aload_n (pc := 0) (j := 0) dX12_breaksOff_0 rfl rfl ?_
  refine Z_geti (pc := 1) dX12_breaksOff_1 w8_137 (lk_69 hP) fi_12_71 ?_
  refine Y_if_ne (pc := 4) (tgt := 8) dX12_breaksOff_4 (by decide) (fun hc1 => ?_) (fun hc1 => ?_)
  · replace h := ifF hc1 h
    refine Y_aload_n (pc := 8) (j := 0) dX12_breaksOff_8 rfl rfl ?_
    refine Y_iconst (pc := 9) (v := (0 : Int32)) dX12_breaksOff_9 rfl ?_
    refine Z_putz (pc := 10) dX12_breaksOff_10 w8_137 (lk_69 hP) fi_12_71 (Or.inl rfl) rfl (by decide) ?_
    obtain ⟨M1, eM1, h⟩ := bndE h
    refine VV.mem eM1 ?_
    have hP1 := hP.wI eM1
    refine Y_aload_n (pc := 13) (j := 0) dX12_breaksOff_13 rfl rfl ?_
    refine Z_geti (pc := 14) dX12_breaksOff_14 w8_139 (lk_69 hP1) fi_12_73 ?_
    refine Y_iconst (pc := 17) (v := (-1 : Int32)) dX12_breaksOff_17 rfl ?_
    refine Y_icmp_ne (pc := 18) (tgt := 47) dX12_breaksOff_18 (by decide) (fun hc2 => ?_) (fun hc2 => ?_)
    · replace h := ifF hc2 h
      refine Y_aload_n (pc := 47) (j := 0) dX12_breaksOff_47 rfl rfl ?_
      refine Z_getr (pc := 48) dX12_breaksOff_48 w8_107 (lk_69 hP1) fr_12_41 (lr_69_41 hP1) ?_
      refine Y_aload_n (pc := 51) (j := 0) dX12_breaksOff_51 rfl rfl ?_
      refine Z_geti (pc := 52) dX12_breaksOff_52 w8_139 (lk_69 hP1) fi_12_73 ?_
      refine Y_iconst (pc := 55) (v := (0 : Int32)) dX12_breaksOff_55 rfl ?_
      obtain ⟨hb1, h⟩ := okE h
      refine Y_iast (pc := 56) dX12_breaksOff_56 (lk_102 hP1) (ln_102 hP1) hb1 ?_
      obtain ⟨M2, eM2, h⟩ := bndE h
      refine VV.mem eM2 ?_
      have hP2 := hP1.wI eM2
      refine Y_aload_n (pc := 57) (j := 0) dX12_breaksOff_57 rfl rfl ?_
      refine Z_getr (pc := 58) dX12_breaksOff_58 w8_108 (lk_69 hP2) fr_12_42 (lr_69_42 hP2) ?_
      refine Y_aload_n (pc := 61) (j := 0) dX12_breaksOff_61 rfl rfl ?_
      refine Z_geti (pc := 62) dX12_breaksOff_62 w8_139 (lk_69 hP2) fi_12_73 ?_
      refine Y_dup2 (pc := 65) dX12_breaksOff_65 rfl rfl ?_
      obtain ⟨hb2, h⟩ := okE h
      refine Y_iald (pc := 66) dX12_breaksOff_66 (lk_103 hP2) (ln_103 hP2) hb2 ?_
      refine Y_iconst (pc := 67) (v := (1 : Int32)) dX12_breaksOff_67 rfl ?_
      refine Y_iadd (pc := 68) dX12_breaksOff_68 ?_
      obtain ⟨hb3, h⟩ := okE h
      refine Y_iast (pc := 69) dX12_breaksOff_69 (lk_103 hP2) (ln_103 hP2) hb3 ?_
      obtain ⟨M3, eM3, h⟩ := bndE h
      refine VV.mem eM3 ?_
      have hP3 := hP2.wI eM3
      cases h
      exact Y_vret (pc := 70) rfl dX12_breaksOff_70 hP3 ⟨rfl, rfl⟩
    · replace h := ifT hc2 h
      refine Y_aload_n (pc := 21) (j := 0) dX12_breaksOff_21 rfl rfl ?_
      refine Z_getr (pc := 22) dX12_breaksOff_22 w8_87 (lk_69 hP1) fr_12_21 (lr_69_21 hP1) ?_
      refine Y_aload_n (pc := 25) (j := 0) dX12_breaksOff_25 rfl rfl ?_
      refine Z_geti (pc := 26) dX12_breaksOff_26 w8_140 (lk_69 hP1) fi_12_74 ?_
      refine Y_iconst (pc := 29) (v := (0 : Int32)) dX12_breaksOff_29 rfl ?_
      obtain ⟨hb4, h⟩ := okE h
      refine Y_iast (pc := 30) dX12_breaksOff_30 (lk_87 hP1) (ln_87 hP1) hb4 ?_
      obtain ⟨M4, eM4, h⟩ := bndE h
      refine VV.mem eM4 ?_
      have hP4 := hP1.wI eM4
      refine Y_aload_n (pc := 31) (j := 0) dX12_breaksOff_31 rfl rfl ?_
      refine Z_getr (pc := 32) dX12_breaksOff_32 w8_88 (lk_69 hP4) fr_12_22 (lr_69_22 hP4) ?_
      refine Y_aload_n (pc := 35) (j := 0) dX12_breaksOff_35 rfl rfl ?_
      refine Z_geti (pc := 36) dX12_breaksOff_36 w8_140 (lk_69 hP4) fi_12_74 ?_
      refine Y_dup2 (pc := 39) dX12_breaksOff_39 rfl rfl ?_
      obtain ⟨hb5, h⟩ := okE h
      refine Y_iald (pc := 40) dX12_breaksOff_40 (lk_88 hP4) (ln_88 hP4) hb5 ?_
      refine Y_iconst (pc := 41) (v := (1 : Int32)) dX12_breaksOff_41 rfl ?_
      refine Y_iadd (pc := 42) dX12_breaksOff_42 ?_
      obtain ⟨hb6, h⟩ := okE h
      refine Y_iast (pc := 43) dX12_breaksOff_43 (lk_88 hP4) (ln_88 hP4) hb6 ?_
      obtain ⟨M5, eM5, h⟩ := bndE h
      refine VV.mem eM5 ?_
      have hP5 := hP4.wI eM5
      refine Y_goto (pc := 44) (tgt := 70) dX12_breaksOff_44 (by decide) ?_
      cases h
      exact Y_vret (pc := 70) rfl dX12_breaksOff_70 hP5 ⟨rfl, rfl⟩
  · replace h := ifT hc1 h
    cases h
    exact Y_vret (pc := 7) rfl dX12_breaksOff_7 hP ⟨rfl, rfl⟩
theorem v_X12_breaksOff {M z} (hP : Lay M) (h : d_X12_breaksOff M = some z) : CC Lay k_X12_breaksOff [.ref 69] M z.2 (Qv (none) z.2) xF :=
  CC.ofVV (by decide) rfl (Nat.le_of_ble_eq_true rfl) (b_X12_breaksOff hP h)
noncomputable def d_X12_ends_290 (x2 : Int32) (M : Mem) : Option (Unit × Mem) :=
  okk (vp_in x2 20) <|
  (d_X12_enters (mI M 93 x2.toNatClampNeg) M).bind fun y1 =>
  some ((), y1.2)
theorem b_X12_ends_290 {x2 : Int32} {M z} (hP : Lay M) (h : d_X12_ends_290 x2 M = some z) : VV Lay k_X12_ends 290 [(0, .ref 69), (2, .int x2)] [] M z.2 (Qv (none) z.2) xF := by
  unfold d_X12_ends_290 at h
  refine Y_aload_n (pc := 290) (j := 0) dX12_ends_290 rfl rfl ?_
  refine Y_aload_n (pc := 291) (j := 0) dX12_ends_291 rfl rfl ?_
  refine Z_getr (pc := 292) dX12_ends_292 w8_97 (lk_69 hP) fr_12_31 (lr_69_31 hP) ?_
  refine Y_iload_n (pc := 295) (j := 1) dX12_ends_295 rfl rfl ?_
  obtain ⟨hb1, h⟩ := okE h
  refine Y_iald (pc := 296) dX12_ends_296 (lk_93 hP) (ln_93 hP) hb1 ?_
  obtain ⟨y1, qy1, h⟩ := bindE h
  have cy1 := v_X12_enters hP qy1
  refine C_V1o (pc := 297) (k' := k_X12_enters) dX12_ends_297 w10_103 i_X12_enters (lk_69 hP) ⟨Nat.le_of_ble_eq_true rfl, Nat.le_of_ble_eq_true rfl⟩ rfl (Nat.le_of_ble_eq_true rfl) (Nat.le_of_ble_eq_true rfl) (Nat.le_of_ble_eq_true rfl) (cy1) ?_
  have hPy1 := cy1.1.1
  cases h
  exact Y_vret (pc := 300) rfl dX12_ends_300 hPy1 ⟨rfl, rfl⟩
noncomputable def d_X12_ends_190b (k190 : (Int32) → Mem → Option (Unit × Mem)) (x2 : Int32) (x3 : Int32) (M : Mem) : Option (Unit × Mem) :=
  if (mI M 69 78) ≤ x3 then (
    if (mI M 69 73) = (-1 : Int32) then (
      d_X12_ends_290 x2 M)
    else (
      okk (vp_in (mI M 69 73) 2400) <|
      bnd (sI M 104 (mI M 69 73).toNatClampNeg x2) fun M1 =>
      d_X12_ends_290 x2 M1))
  else (
    bnd ((((120 : Int32) * x2) + x3)) fun b1 =>
    okk (vp_in x3 120) <|
    okk (vp_in b1 2400) <|
    okk (isCh (mI M 119 x3.toNatClampNeg)) <|
    bnd (sI M 97 b1.toNatClampNeg (mI M 119 x3.toNatClampNeg)) fun M2 =>
    okk (vp_in x3 120) <|
    okk (vp_in b1 2400) <|
    bnd (sI M2 98 b1.toNatClampNeg (mI M2 120 x3.toNatClampNeg)) fun M3 =>
    okk (vp_in x3 120) <|
    okk (vp_in b1 2400) <|
    bnd (sI M3 99 b1.toNatClampNeg (mI M3 121 x3.toNatClampNeg)) fun M4 =>
    okk (vp_in x3 120) <|
    okk (vp_in b1 2400) <|
    bnd (sI M4 100 b1.toNatClampNeg (mI M4 122 x3.toNatClampNeg)) fun M5 =>
    okk (vp_in b1 2400) <|
    bnd (sI M5 104 b1.toNatClampNeg (-1 : Int32)) fun M6 =>
    bnd ((x3 + (1 : Int32))) fun b2 =>
    k190 (b2) M6)
theorem b_X12_ends_190b {k190 : (Int32) → Mem → Option (Unit × Mem)} {x2 : Int32} {x3 : Int32} {M z} (hk190 : ∀ (a : (Int32)) (M : Mem) (z : Unit × Mem), Lay M → k190 a M = some z → VV Lay k_X12_ends 190 [(0, .ref 69), (2, .int x2), (3, .int a)] [] M z.2 (Qv (none) z.2) xF) (hP : Lay M) (h : d_X12_ends_190b k190 x2 x3 M = some z) : VV Lay k_X12_ends 190 [(0, .ref 69), (2, .int x2), (3, .int x3)] [] M z.2 (Qv (none) z.2) xF := by
  unfold d_X12_ends_190b at h
  refine Y_iload_n (pc := 190) (j := 2) dX12_ends_190 rfl rfl ?_
  refine Y_aload_n (pc := 191) (j := 0) dX12_ends_191 rfl rfl ?_
  refine Z_geti (pc := 192) dX12_ends_192 w8_144 (lk_69 hP) fi_12_78 ?_
  refine Y_icmp_ge (pc := 195) (tgt := 272) dX12_ends_195 (by decide) (fun hc1 => ?_) (fun hc1 => ?_)
  · replace h := ifT hc1 h
    refine Y_aload_n (pc := 272) (j := 0) dX12_ends_272 rfl rfl ?_
    refine Z_geti (pc := 273) dX12_ends_273 w8_139 (lk_69 hP) fi_12_73 ?_
    refine Y_iconst (pc := 276) (v := (-1 : Int32)) dX12_ends_276 rfl ?_
    refine Y_icmp_eq (pc := 277) (tgt := 290) dX12_ends_277 (by decide) (fun hc2 => ?_) (fun hc2 => ?_)
    · replace h := ifT hc2 h
      refine VV.sub [0, 1] rfl ?_
      exact b_X12_ends_290  hP h
    · replace h := ifF hc2 h
      refine Y_aload_n (pc := 280) (j := 0) dX12_ends_280 rfl rfl ?_
      refine Z_getr (pc := 281) dX12_ends_281 w8_109 (lk_69 hP) fr_12_43 (lr_69_43 hP) ?_
      refine Y_aload_n (pc := 284) (j := 0) dX12_ends_284 rfl rfl ?_
      refine Z_geti (pc := 285) dX12_ends_285 w8_139 (lk_69 hP) fi_12_73 ?_
      refine Y_iload_n (pc := 288) (j := 1) dX12_ends_288 rfl rfl ?_
      obtain ⟨hb1, h⟩ := okE h
      refine Y_iast (pc := 289) dX12_ends_289 (lk_104 hP) (ln_104 hP) hb1 ?_
      obtain ⟨M1, eM1, h⟩ := bndE h
      refine VV.mem eM1 ?_
      have hP1 := hP.wI eM1
      refine VV.sub [0, 1] rfl ?_
      exact b_X12_ends_290  hP1 h
  · replace h := ifF hc1 h
    refine Y_bipush (pc := 198) (v := (120 : Int32)) dX12_ends_198 rfl ?_
    refine Y_iload_n (pc := 200) (j := 1) dX12_ends_200 rfl rfl ?_
    refine Y_imul (pc := 201) dX12_ends_201 ?_
    refine Y_iload_n (pc := 202) (j := 2) dX12_ends_202 rfl rfl ?_
    refine Y_iadd (pc := 203) dX12_ends_203 ?_
    obtain ⟨b1, eb1, h⟩ := bndE h
    refine VV.topI eb1 ?_
    refine Y_istore (pc := 204) (lv1 := [(4, .int b1), (0, .ref 69), (2, .int x2), (3, .int x3)]) dX12_ends_204 (by decide) rfl ?_
    refine Y_aload_n (pc := 206) (j := 1) dX12_ends_206 rfl rfl ?_
    refine Z_getr (pc := 207) dX12_ends_207 w8_102 (lk_69 hP) fr_12_36 (lr_69_36 hP) ?_
    refine Y_iload (pc := 210) (j := 0) dX12_ends_210 rfl ?_
    refine Y_aload_n (pc := 212) (j := 1) dX12_ends_212 rfl rfl ?_
    refine Z_getr (pc := 213) dX12_ends_213 w8_145 (lk_69 hP) fr_12_79 (lr_69_79 hP) ?_
    refine Y_iload_n (pc := 216) (j := 3) dX12_ends_216 rfl rfl ?_
    obtain ⟨hb2, h⟩ := okE h
    refine Y_cald (pc := 217) dX12_ends_217 (lk_119 hP) (ln_119 hP) hb2 ?_
    obtain ⟨hb3, h⟩ := okE h
    obtain ⟨hb4, h⟩ := okE h
    refine Y_cast (pc := 218) dX12_ends_218 (lk_97 hP) (ln_97 hP) hb3 (nar_ch hb4) ?_
    obtain ⟨M2, eM2, h⟩ := bndE h
    refine VV.mem eM2 ?_
    have hP2 := hP.wI eM2
    refine Y_aload_n (pc := 219) (j := 1) dX12_ends_219 rfl rfl ?_
    refine Z_getr (pc := 220) dX12_ends_220 w8_103 (lk_69 hP2) fr_12_37 (lr_69_37 hP2) ?_
    refine Y_iload (pc := 223) (j := 0) dX12_ends_223 rfl ?_
    refine Y_aload_n (pc := 225) (j := 1) dX12_ends_225 rfl rfl ?_
    refine Z_getr (pc := 226) dX12_ends_226 w8_146 (lk_69 hP2) fr_12_80 (lr_69_80 hP2) ?_
    refine Y_iload_n (pc := 229) (j := 3) dX12_ends_229 rfl rfl ?_
    obtain ⟨hb5, h⟩ := okE h
    refine Y_iald (pc := 230) dX12_ends_230 (lk_120 hP2) (ln_120 hP2) hb5 ?_
    obtain ⟨hb6, h⟩ := okE h
    refine Y_iast (pc := 231) dX12_ends_231 (lk_98 hP2) (ln_98 hP2) hb6 ?_
    obtain ⟨M3, eM3, h⟩ := bndE h
    refine VV.mem eM3 ?_
    have hP3 := hP2.wI eM3
    refine Y_aload_n (pc := 232) (j := 1) dX12_ends_232 rfl rfl ?_
    refine Z_getr (pc := 233) dX12_ends_233 w8_104 (lk_69 hP3) fr_12_38 (lr_69_38 hP3) ?_
    refine Y_iload (pc := 236) (j := 0) dX12_ends_236 rfl ?_
    refine Y_aload_n (pc := 238) (j := 1) dX12_ends_238 rfl rfl ?_
    refine Z_getr (pc := 239) dX12_ends_239 w8_147 (lk_69 hP3) fr_12_81 (lr_69_81 hP3) ?_
    refine Y_iload_n (pc := 242) (j := 3) dX12_ends_242 rfl rfl ?_
    obtain ⟨hb7, h⟩ := okE h
    refine Y_iald (pc := 243) dX12_ends_243 (lk_121 hP3) (ln_121 hP3) hb7 ?_
    obtain ⟨hb8, h⟩ := okE h
    refine Y_iast (pc := 244) dX12_ends_244 (lk_99 hP3) (ln_99 hP3) hb8 ?_
    obtain ⟨M4, eM4, h⟩ := bndE h
    refine VV.mem eM4 ?_
    have hP4 := hP3.wI eM4
    refine Y_aload_n (pc := 245) (j := 1) dX12_ends_245 rfl rfl ?_
    refine Z_getr (pc := 246) dX12_ends_246 w8_105 (lk_69 hP4) fr_12_39 (lr_69_39 hP4) ?_
    refine Y_iload (pc := 249) (j := 0) dX12_ends_249 rfl ?_
    refine Y_aload_n (pc := 251) (j := 1) dX12_ends_251 rfl rfl ?_
    refine Z_getr (pc := 252) dX12_ends_252 w8_148 (lk_69 hP4) fr_12_82 (lr_69_82 hP4) ?_
    refine Y_iload_n (pc := 255) (j := 3) dX12_ends_255 rfl rfl ?_
    obtain ⟨hb9, h⟩ := okE h
    refine Y_iald (pc := 256) dX12_ends_256 (lk_122 hP4) (ln_122 hP4) hb9 ?_
    obtain ⟨hb10, h⟩ := okE h
    refine Y_iast (pc := 257) dX12_ends_257 (lk_100 hP4) (ln_100 hP4) hb10 ?_
    obtain ⟨M5, eM5, h⟩ := bndE h
    refine VV.mem eM5 ?_
    have hP5 := hP4.wI eM5
    refine Y_aload_n (pc := 258) (j := 1) dX12_ends_258 rfl rfl ?_
    refine Z_getr (pc := 259) dX12_ends_259 w8_109 (lk_69 hP5) fr_12_43 (lr_69_43 hP5) ?_
    refine Y_iload (pc := 262) (j := 0) dX12_ends_262 rfl ?_
    refine Y_iconst (pc := 264) (v := (-1 : Int32)) dX12_ends_264 rfl ?_
    obtain ⟨hb11, h⟩ := okE h
    refine Y_iast (pc := 265) dX12_ends_265 (lk_104 hP5) (ln_104 hP5) hb11 ?_
    obtain ⟨M6, eM6, h⟩ := bndE h
    refine VV.mem eM6 ?_
    have hP6 := hP5.wI eM6
    obtain ⟨b2, eb2, h⟩ := bndE h
    refine Y_iinc (pc := 266) (j := 3) (v := b2) (lv1 := [(3, .int b2), (4, .int b1), (0, .ref 69), (2, .int x2)]) dX12_ends_266 rfl eb2.symm (by decide) rfl ?_
    refine Y_goto (pc := 269) (tgt := 190) dX12_ends_269 (by decide) ?_
    refine VV.sub [2, 3, 0] rfl ?_
    exact hk190 _ _ _ hP6 h
noncomputable def d_X12_ends_190 (x2 : Int32) : Nat → (Int32) → Mem → Option (Unit × Mem) := lp fun k a M => d_X12_ends_190b k x2 a M
theorem b_X12_ends_190 {x2 : Int32} (n : Nat) : ∀ (a : (Int32)) (M : Mem) (z : Unit × Mem), d_X12_ends_190 x2 n a M = some z → Lay M → VV Lay k_X12_ends 190 [(0, .ref 69), (2, .int x2), (3, .int a)] [] M z.2 (Qv (none) z.2) xF :=
  lp_ind (G := fun (a : (Int32)) (M : Mem) (z : Unit × Mem) => Lay M → VV Lay k_X12_ends 190 [(0, .ref 69), (2, .int x2), (3, .int a)] [] M z.2 (Qv (none) z.2) xF) (fun k hk a M z h hP => b_X12_ends_190b  (fun a M z hP h => hk a M z h hP) hP h) n
noncomputable def d_X12_ends_157b (k157 : (Int32) → Mem → Option (Unit × Mem)) (x2 : Int32) (x3 : Int32) (M : Mem) : Option (Unit × Mem) :=
  if (mI M 69 76) ≤ x3 then (
    d_X12_ends_190 x2 fuel ((0 : Int32)) M)
  else (
    okk (vp_in x3 30) <|
    okk (vp_in (((30 : Int32) * x2) + x3) 600) <|
    bnd (sI M 91 (((30 : Int32) * x2) + x3).toNatClampNeg (mI M 118 x3.toNatClampNeg)) fun M1 =>
    bnd ((x3 + (1 : Int32))) fun b1 =>
    k157 (b1) M1)
theorem b_X12_ends_157b {k157 : (Int32) → Mem → Option (Unit × Mem)} {x2 : Int32} {x3 : Int32} {M z} (hk157 : ∀ (a : (Int32)) (M : Mem) (z : Unit × Mem), Lay M → k157 a M = some z → VV Lay k_X12_ends 157 [(0, .ref 69), (2, .int x2), (3, .int a)] [] M z.2 (Qv (none) z.2) xF) (hP : Lay M) (h : d_X12_ends_157b k157 x2 x3 M = some z) : VV Lay k_X12_ends 157 [(0, .ref 69), (2, .int x2), (3, .int x3)] [] M z.2 (Qv (none) z.2) xF := by
  unfold d_X12_ends_157b at h
  refine Y_iload_n (pc := 157) (j := 2) dX12_ends_157 rfl rfl ?_
  refine Y_aload_n (pc := 158) (j := 0) dX12_ends_158 rfl rfl ?_
  refine Z_geti (pc := 159) dX12_ends_159 w8_142 (lk_69 hP) fi_12_76 ?_
  refine Y_icmp_ge (pc := 162) (tgt := 188) dX12_ends_162 (by decide) (fun hc1 => ?_) (fun hc1 => ?_)
  · replace h := ifT hc1 h
    refine Y_iconst (pc := 188) (v := (0 : Int32)) dX12_ends_188 rfl ?_
    refine Y_istore_n (pc := 189) (lv1 := [(3, .int (0 : Int32)), (0, .ref 69), (2, .int x2)]) dX12_ends_189 rfl (by decide) rfl ?_
    refine VV.sub [1, 2, 0] rfl ?_
    exact b_X12_ends_190  fuel _ _ _ h hP
  · replace h := ifF hc1 h
    refine Y_aload_n (pc := 165) (j := 0) dX12_ends_165 rfl rfl ?_
    refine Z_getr (pc := 166) dX12_ends_166 w8_95 (lk_69 hP) fr_12_29 (lr_69_29 hP) ?_
    refine Y_bipush (pc := 169) (v := (30 : Int32)) dX12_ends_169 rfl ?_
    refine Y_iload_n (pc := 171) (j := 1) dX12_ends_171 rfl rfl ?_
    refine Y_imul (pc := 172) dX12_ends_172 ?_
    refine Y_iload_n (pc := 173) (j := 2) dX12_ends_173 rfl rfl ?_
    refine Y_iadd (pc := 174) dX12_ends_174 ?_
    refine Y_aload_n (pc := 175) (j := 0) dX12_ends_175 rfl rfl ?_
    refine Z_getr (pc := 176) dX12_ends_176 w8_143 (lk_69 hP) fr_12_77 (lr_69_77 hP) ?_
    refine Y_iload_n (pc := 179) (j := 2) dX12_ends_179 rfl rfl ?_
    obtain ⟨hb1, h⟩ := okE h
    refine Y_iald (pc := 180) dX12_ends_180 (lk_118 hP) (ln_118 hP) hb1 ?_
    obtain ⟨hb2, h⟩ := okE h
    refine Y_iast (pc := 181) dX12_ends_181 (lk_91 hP) (ln_91 hP) hb2 ?_
    obtain ⟨M1, eM1, h⟩ := bndE h
    refine VV.mem eM1 ?_
    have hP1 := hP.wI eM1
    obtain ⟨b1, eb1, h⟩ := bndE h
    refine Y_iinc (pc := 182) (j := 2) (v := b1) (lv1 := [(3, .int b1), (0, .ref 69), (2, .int x2)]) dX12_ends_182 rfl eb1.symm (by decide) rfl ?_
    refine Y_goto (pc := 185) (tgt := 157) dX12_ends_185 (by decide) ?_
    refine VV.sub [1, 2, 0] rfl ?_
    exact hk157 _ _ _ hP1 h
noncomputable def d_X12_ends_157 (x2 : Int32) : Nat → (Int32) → Mem → Option (Unit × Mem) := lp fun k a M => d_X12_ends_157b k x2 a M
theorem b_X12_ends_157 {x2 : Int32} (n : Nat) : ∀ (a : (Int32)) (M : Mem) (z : Unit × Mem), d_X12_ends_157 x2 n a M = some z → Lay M → VV Lay k_X12_ends 157 [(0, .ref 69), (2, .int x2), (3, .int a)] [] M z.2 (Qv (none) z.2) xF :=
  lp_ind (G := fun (a : (Int32)) (M : Mem) (z : Unit × Mem) => Lay M → VV Lay k_X12_ends 157 [(0, .ref 69), (2, .int x2), (3, .int a)] [] M z.2 (Qv (none) z.2) xF) (fun k hk a M z h hP => b_X12_ends_157b  (fun a M z hP h => hk a M z h hP) hP h) n
noncomputable def d_X12_ends_144 (x2 : Int32) (s1 : Int32) (s2 : Int32) (M : Mem) : Option (Unit × Mem) :=
  okk (vp_in s1 20) <|
  bnd (sI M 93 s1.toNatClampNeg s2) fun M1 =>
  okk (vp_in x2 20) <|
  bnd (sI M1 94 x2.toNatClampNeg (mI M1 69 74)) fun M2 =>
  d_X12_ends_157 x2 fuel ((0 : Int32)) M2
theorem b_X12_ends_144 {x2 : Int32} {s1 : Int32} {s2 : Int32} {M z} (hP : Lay M) (h : d_X12_ends_144 x2 s1 s2 M = some z) : VV Lay k_X12_ends 144 [(0, .ref 69), (2, .int x2)] [.int s2, .int s1, .ref 93] M z.2 (Qv (none) z.2) xF := by
  unfold d_X12_ends_144 at h
  obtain ⟨hb1, h⟩ := okE h
  refine Y_iast (pc := 144) dX12_ends_144 (lk_93 hP) (ln_93 hP) hb1 ?_
  obtain ⟨M1, eM1, h⟩ := bndE h
  refine VV.mem eM1 ?_
  have hP1 := hP.wI eM1
  refine Y_aload_n (pc := 145) (j := 0) dX12_ends_145 rfl rfl ?_
  refine Z_getr (pc := 146) dX12_ends_146 w8_98 (lk_69 hP1) fr_12_32 (lr_69_32 hP1) ?_
  refine Y_iload_n (pc := 149) (j := 1) dX12_ends_149 rfl rfl ?_
  refine Y_aload_n (pc := 150) (j := 0) dX12_ends_150 rfl rfl ?_
  refine Z_geti (pc := 151) dX12_ends_151 w8_140 (lk_69 hP1) fi_12_74 ?_
  obtain ⟨hb2, h⟩ := okE h
  refine Y_iast (pc := 154) dX12_ends_154 (lk_94 hP1) (ln_94 hP1) hb2 ?_
  obtain ⟨M2, eM2, h⟩ := bndE h
  refine VV.mem eM2 ?_
  have hP2 := hP1.wI eM2
  refine Y_iconst (pc := 155) (v := (0 : Int32)) dX12_ends_155 rfl ?_
  refine Y_istore_n (pc := 156) (lv1 := [(3, .int (0 : Int32)), (0, .ref 69), (2, .int x2)]) dX12_ends_156 rfl (by decide) rfl ?_
  refine VV.sub [1, 2, 0] rfl ?_
  exact b_X12_ends_157  fuel _ _ _ h hP2
noncomputable def d_X12_ends_67 (x1 : Int32) (M : Mem) : Option (Unit × Mem) :=
  if x1 = 0 then (
    (d_X12_breaksOff M).bind fun y1 =>
    some ((), y1.2))
  else (
    bnd ((mI M 69 26)) fun b1 =>
    bnd (sI M 69 71 (0 : Int32)) fun M1 =>
    bnd (sI M1 69 26 ((mI M1 69 26) + (1 : Int32))) fun M2 =>
    okk (vp_in b1 20) <|
    bnd (sI M2 89 b1.toNatClampNeg (1 : Int32)) fun M3 =>
    okk (vp_in b1 20) <|
    bnd (sI M3 90 b1.toNatClampNeg (mI M3 69 76)) fun M4 =>
    okk (vp_in b1 20) <|
    bnd (sI M4 92 b1.toNatClampNeg (mI M4 69 78)) fun M5 =>
    if (mI M5 69 72) = (-1 : Int32) then (
      d_X12_ends_144 b1 b1 b1 M5)
    else (
      d_X12_ends_144 b1 b1 (mI M5 69 72) M5))
theorem b_X12_ends_67 {x1 : Int32} {M z} (hP : Lay M) (h : d_X12_ends_67 x1 M = some z) : VV Lay k_X12_ends 67 [(0, .ref 69), (1, .int x1)] [] M z.2 (Qv (none) z.2) xF := by
  unfold d_X12_ends_67 at h
  refine Y_iload_n (pc := 67) (j := 1) dX12_ends_67 rfl rfl ?_
  refine Y_if_ne (pc := 68) (tgt := 76) dX12_ends_68 (by decide) (fun hc1 => ?_) (fun hc1 => ?_)
  · replace h := ifF hc1 h
    refine Y_aload_n (pc := 76) (j := 0) dX12_ends_76 rfl rfl ?_
    refine Z_geti (pc := 77) dX12_ends_77 w8_92 (lk_69 hP) fi_12_26 ?_
    obtain ⟨b1, eb1, h⟩ := bndE h
    refine VV.topI eb1 ?_
    refine Y_istore_n (pc := 80) (lv1 := [(2, .int b1), (0, .ref 69), (1, .int x1)]) dX12_ends_80 rfl (by decide) rfl ?_
    refine Y_aload_n (pc := 81) (j := 1) dX12_ends_81 rfl rfl ?_
    refine Y_iconst (pc := 82) (v := (0 : Int32)) dX12_ends_82 rfl ?_
    refine Z_putz (pc := 83) dX12_ends_83 w8_137 (lk_69 hP) fi_12_71 (Or.inl rfl) rfl (by decide) ?_
    obtain ⟨M1, eM1, h⟩ := bndE h
    refine VV.mem eM1 ?_
    have hP1 := hP.wI eM1
    refine Y_aload_n (pc := 86) (j := 1) dX12_ends_86 rfl rfl ?_
    refine Y_dup (pc := 87) dX12_ends_87 rfl ?_
    refine Z_geti (pc := 88) dX12_ends_88 w8_92 (lk_69 hP1) fi_12_26 ?_
    refine Y_iconst (pc := 91) (v := (1 : Int32)) dX12_ends_91 rfl ?_
    refine Y_iadd (pc := 92) dX12_ends_92 ?_
    refine Z_puti (pc := 93) dX12_ends_93 w8_92 (lk_69 hP1) fi_12_26 (Or.inl rfl) rfl ?_
    obtain ⟨M2, eM2, h⟩ := bndE h
    refine VV.mem eM2 ?_
    have hP2 := hP1.wI eM2
    refine Y_aload_n (pc := 96) (j := 1) dX12_ends_96 rfl rfl ?_
    refine Z_getr (pc := 97) dX12_ends_97 w8_93 (lk_69 hP2) fr_12_27 (lr_69_27 hP2) ?_
    refine Y_iload_n (pc := 100) (j := 0) dX12_ends_100 rfl rfl ?_
    refine Y_iconst (pc := 101) (v := (1 : Int32)) dX12_ends_101 rfl ?_
    obtain ⟨hb1, h⟩ := okE h
    refine Y_zast (pc := 102) dX12_ends_102 (lk_89 hP2) (ln_89 hP2) hb1 (nar_bo (by decide)) ?_
    obtain ⟨M3, eM3, h⟩ := bndE h
    refine VV.mem eM3 ?_
    have hP3 := hP2.wI eM3
    refine Y_aload_n (pc := 103) (j := 1) dX12_ends_103 rfl rfl ?_
    refine Z_getr (pc := 104) dX12_ends_104 w8_94 (lk_69 hP3) fr_12_28 (lr_69_28 hP3) ?_
    refine Y_iload_n (pc := 107) (j := 0) dX12_ends_107 rfl rfl ?_
    refine Y_aload_n (pc := 108) (j := 1) dX12_ends_108 rfl rfl ?_
    refine Z_geti (pc := 109) dX12_ends_109 w8_142 (lk_69 hP3) fi_12_76 ?_
    obtain ⟨hb2, h⟩ := okE h
    refine Y_iast (pc := 112) dX12_ends_112 (lk_90 hP3) (ln_90 hP3) hb2 ?_
    obtain ⟨M4, eM4, h⟩ := bndE h
    refine VV.mem eM4 ?_
    have hP4 := hP3.wI eM4
    refine Y_aload_n (pc := 113) (j := 1) dX12_ends_113 rfl rfl ?_
    refine Z_getr (pc := 114) dX12_ends_114 w8_96 (lk_69 hP4) fr_12_30 (lr_69_30 hP4) ?_
    refine Y_iload_n (pc := 117) (j := 0) dX12_ends_117 rfl rfl ?_
    refine Y_aload_n (pc := 118) (j := 1) dX12_ends_118 rfl rfl ?_
    refine Z_geti (pc := 119) dX12_ends_119 w8_144 (lk_69 hP4) fi_12_78 ?_
    obtain ⟨hb3, h⟩ := okE h
    refine Y_iast (pc := 122) dX12_ends_122 (lk_92 hP4) (ln_92 hP4) hb3 ?_
    obtain ⟨M5, eM5, h⟩ := bndE h
    refine VV.mem eM5 ?_
    have hP5 := hP4.wI eM5
    refine Y_aload_n (pc := 123) (j := 1) dX12_ends_123 rfl rfl ?_
    refine Z_getr (pc := 124) dX12_ends_124 w8_97 (lk_69 hP5) fr_12_31 (lr_69_31 hP5) ?_
    refine Y_iload_n (pc := 127) (j := 0) dX12_ends_127 rfl rfl ?_
    refine Y_aload_n (pc := 128) (j := 1) dX12_ends_128 rfl rfl ?_
    refine Z_geti (pc := 129) dX12_ends_129 w8_138 (lk_69 hP5) fi_12_72 ?_
    refine Y_iconst (pc := 132) (v := (-1 : Int32)) dX12_ends_132 rfl ?_
    refine Y_icmp_ne (pc := 133) (tgt := 140) dX12_ends_133 (by decide) (fun hc2 => ?_) (fun hc2 => ?_)
    · replace h := ifF hc2 h
      refine Y_aload_n (pc := 140) (j := 1) dX12_ends_140 rfl rfl ?_
      refine Z_geti (pc := 141) dX12_ends_141 w8_138 (lk_69 hP5) fi_12_72 ?_
      refine VV.sub [1, 0] rfl ?_
      exact b_X12_ends_144  hP5 h
    · replace h := ifT hc2 h
      refine Y_iload_n (pc := 136) (j := 0) dX12_ends_136 rfl rfl ?_
      refine Y_goto (pc := 137) (tgt := 144) dX12_ends_137 (by decide) ?_
      refine VV.sub [1, 0] rfl ?_
      exact b_X12_ends_144  hP5 h
  · replace h := ifT hc1 h
    refine Y_aload_n (pc := 71) (j := 0) dX12_ends_71 rfl rfl ?_
    obtain ⟨y1, qy1, h⟩ := bindE h
    have cy1 := v_X12_breaksOff hP qy1
    refine C_V0o (pc := 72) (k' := k_X12_breaksOff) dX12_ends_72 w9_180 i_X12_breaksOff (lk_69 hP) ⟨Nat.le_of_ble_eq_true rfl, Nat.le_of_ble_eq_true rfl⟩ rfl (Nat.le_of_ble_eq_true rfl) (Nat.le_of_ble_eq_true rfl) (Nat.le_of_ble_eq_true rfl) (cy1) ?_
    have hPy1 := cy1.1.1
    cases h
    exact Y_vret (pc := 75) rfl dX12_ends_75 hPy1 ⟨rfl, rfl⟩
noncomputable def d_X12_ends_64 (k15 : (Int32) → Mem → Option (Unit × Mem)) (x1 : Int32) (M : Mem) : Option (Unit × Mem) :=
  k15 (x1) M
theorem b_X12_ends_64 {k15 : (Int32) → Mem → Option (Unit × Mem)} {x1 : Int32} {M z} (hk15 : ∀ (a : (Int32)) (M : Mem) (z : Unit × Mem), Lay M → k15 a M = some z → VV Lay k_X12_ends 15 [(0, .ref 69), (1, .int a)] [] M z.2 (Qv (none) z.2) xF) (hP : Lay M) (h : d_X12_ends_64 k15 x1 M = some z) : VV Lay k_X12_ends 64 [(0, .ref 69), (1, .int x1)] [] M z.2 (Qv (none) z.2) xF := by
  unfold d_X12_ends_64 at h
  refine Y_goto (pc := 64) (tgt := 15) dX12_ends_64 (by decide) ?_
  refine VV.sub [0, 1] rfl ?_
  exact hk15 _ _ _ hP h
noncomputable def d_X12_ends_54 (k15 : (Int32) → Mem → Option (Unit × Mem)) (x2 : Int32) (s0 : Int32) (M : Mem) : Option (Unit × Mem) :=
  if s0 = 0 then (
    d_X12_ends_64 k15 s0 M)
  else (
    (d_X12_throwAway x2 M).bind fun y1 =>
    d_X12_ends_64 k15 s0 y1.2)
theorem b_X12_ends_54 {k15 : (Int32) → Mem → Option (Unit × Mem)} {x2 : Int32} {s0 : Int32} {M z} (hk15 : ∀ (a : (Int32)) (M : Mem) (z : Unit × Mem), Lay M → k15 a M = some z → VV Lay k_X12_ends 15 [(0, .ref 69), (1, .int a)] [] M z.2 (Qv (none) z.2) xF) (hP : Lay M) (h : d_X12_ends_54 k15 x2 s0 M = some z) : VV Lay k_X12_ends 54 [(0, .ref 69), (2, .int x2)] [.int s0] M z.2 (Qv (none) z.2) xF := by
  unfold d_X12_ends_54 at h
  refine Y_istore_n (pc := 54) (lv1 := [(1, .int s0), (0, .ref 69), (2, .int x2)]) dX12_ends_54 rfl (by decide) rfl ?_
  refine Y_iload_n (pc := 55) (j := 0) dX12_ends_55 rfl rfl ?_
  refine Y_if_eq (pc := 56) (tgt := 64) dX12_ends_56 (by decide) (fun hc1 => ?_) (fun hc1 => ?_)
  · replace h := ifT hc1 h
    refine VV.sub [1, 0] rfl ?_
    exact b_X12_ends_64 hk15 hP h
  · replace h := ifF hc1 h
    refine Y_aload_n (pc := 59) (j := 1) dX12_ends_59 rfl rfl ?_
    refine Y_iload_n (pc := 60) (j := 2) dX12_ends_60 rfl rfl ?_
    obtain ⟨y1, qy1, h⟩ := bindE h
    have cy1 := v_X12_throwAway hP qy1
    refine C_V1o (pc := 61) (k' := k_X12_throwAway) dX12_ends_61 w9_152 i_X12_throwAway (lk_69 hP) ⟨Nat.le_of_ble_eq_true rfl, Nat.le_of_ble_eq_true rfl⟩ rfl (Nat.le_of_ble_eq_true rfl) (Nat.le_of_ble_eq_true rfl) (Nat.le_of_ble_eq_true rfl) (cy1) ?_
    have hPy1 := cy1.1.1
    refine VV.sub [1, 0] rfl ?_
    exact b_X12_ends_64 hk15 hPy1 h
noncomputable def d_X12_ends_15b (k15 : (Int32) → Mem → Option (Unit × Mem)) (x1 : Int32) (M : Mem) : Option (Unit × Mem) :=
  if x1 = 0 then (
    d_X12_ends_67 x1 M)
  else (
    (d_X12_size M).bind fun y1 =>
    if (y1.1 + (mI y1.2 69 76)) ≤ (mI y1.2 69 25) then (
      d_X12_ends_67 x1 y1.2)
    else (
      (d_X12_oldest (mI y1.2 69 72) y1.2).bind fun y2 =>
      if y2.1 = (-1 : Int32) then (
        d_X12_ends_54 k15 y2.1 (0 : Int32) y2.2)
      else (
        d_X12_ends_54 k15 y2.1 (1 : Int32) y2.2)))
theorem b_X12_ends_15b {k15 : (Int32) → Mem → Option (Unit × Mem)} {x1 : Int32} {M z} (hk15 : ∀ (a : (Int32)) (M : Mem) (z : Unit × Mem), Lay M → k15 a M = some z → VV Lay k_X12_ends 15 [(0, .ref 69), (1, .int a)] [] M z.2 (Qv (none) z.2) xF) (hP : Lay M) (h : d_X12_ends_15b k15 x1 M = some z) : VV Lay k_X12_ends 15 [(0, .ref 69), (1, .int x1)] [] M z.2 (Qv (none) z.2) xF := by
  unfold d_X12_ends_15b at h
  refine Y_iload_n (pc := 15) (j := 1) dX12_ends_15 rfl rfl ?_
  refine Y_if_eq (pc := 16) (tgt := 67) dX12_ends_16 (by decide) (fun hc1 => ?_) (fun hc1 => ?_)
  · replace h := ifT hc1 h
    refine VV.sub [0, 1] rfl ?_
    exact b_X12_ends_67  hP h
  · replace h := ifF hc1 h
    refine Y_aload_n (pc := 19) (j := 0) dX12_ends_19 rfl rfl ?_
    obtain ⟨y1, qy1, h⟩ := bindE h
    have cy1 := v_X12_size hP qy1
    refine C_V0r (pc := 20) (k' := k_X12_size) dX12_ends_20 w9_164 i_X12_size (lk_69 hP) ⟨Nat.le_of_ble_eq_true rfl, Nat.le_of_ble_eq_true rfl⟩ rfl (Nat.le_of_ble_eq_true rfl) (Nat.le_of_ble_eq_true rfl) (Nat.le_of_ble_eq_true rfl) (cy1) ?_
    have hPy1 := cy1.1.1
    refine Y_aload_n (pc := 23) (j := 0) dX12_ends_23 rfl rfl ?_
    refine Z_geti (pc := 24) dX12_ends_24 w8_142 (lk_69 hPy1) fi_12_76 ?_
    refine Y_iadd (pc := 27) dX12_ends_27 ?_
    refine Y_aload_n (pc := 28) (j := 0) dX12_ends_28 rfl rfl ?_
    refine Z_geti (pc := 29) dX12_ends_29 w8_91 (lk_69 hPy1) fi_12_25 ?_
    refine Y_icmp_le (pc := 32) (tgt := 67) dX12_ends_32 (by decide) (fun hc2 => ?_) (fun hc2 => ?_)
    · replace h := ifT hc2 h
      refine VV.sub [0, 1] rfl ?_
      exact b_X12_ends_67  hPy1 h
    · replace h := ifF hc2 h
      refine Y_aload_n (pc := 35) (j := 0) dX12_ends_35 rfl rfl ?_
      refine Y_aload_n (pc := 36) (j := 0) dX12_ends_36 rfl rfl ?_
      refine Z_geti (pc := 37) dX12_ends_37 w8_138 (lk_69 hPy1) fi_12_72 ?_
      obtain ⟨y2, qy2, h⟩ := bindE h
      have cy2 := v_X12_oldest hPy1 qy2
      refine C_V1r (pc := 40) (k' := k_X12_oldest) dX12_ends_40 w9_168 i_X12_oldest (lk_69 hPy1) ⟨Nat.le_of_ble_eq_true rfl, Nat.le_of_ble_eq_true rfl⟩ rfl (Nat.le_of_ble_eq_true rfl) (Nat.le_of_ble_eq_true rfl) (Nat.le_of_ble_eq_true rfl) (cy2) ?_
      have hPy2 := cy2.1.1
      refine Y_istore_n (pc := 43) (lv1 := [(2, .int y2.1), (0, .ref 69), (1, .int x1)]) dX12_ends_43 rfl (by decide) rfl ?_
      refine Y_iload_n (pc := 44) (j := 0) dX12_ends_44 rfl rfl ?_
      refine Y_iconst (pc := 45) (v := (-1 : Int32)) dX12_ends_45 rfl ?_
      refine Y_icmp_eq (pc := 46) (tgt := 53) dX12_ends_46 (by decide) (fun hc3 => ?_) (fun hc3 => ?_)
      · replace h := ifT hc3 h
        refine Y_iconst (pc := 53) (v := (0 : Int32)) dX12_ends_53 rfl ?_
        refine VV.sub [1, 0] rfl ?_
        exact b_X12_ends_54 hk15 hPy2 h
      · replace h := ifF hc3 h
        refine Y_iconst (pc := 49) (v := (1 : Int32)) dX12_ends_49 rfl ?_
        refine Y_goto (pc := 50) (tgt := 54) dX12_ends_50 (by decide) ?_
        refine VV.sub [1, 0] rfl ?_
        exact b_X12_ends_54 hk15 hPy2 h
noncomputable def d_X12_ends_15 : Nat → (Int32) → Mem → Option (Unit × Mem) := lp fun k a M => d_X12_ends_15b k a M
theorem b_X12_ends_15 (n : Nat) : ∀ (a : (Int32)) (M : Mem) (z : Unit × Mem), d_X12_ends_15 n a M = some z → Lay M → VV Lay k_X12_ends 15 [(0, .ref 69), (1, .int a)] [] M z.2 (Qv (none) z.2) xF :=
  lp_ind (G := fun (a : (Int32)) (M : Mem) (z : Unit × Mem) => Lay M → VV Lay k_X12_ends 15 [(0, .ref 69), (1, .int a)] [] M z.2 (Qv (none) z.2) xF) (fun k hk a M z h hP => b_X12_ends_15b  (fun a M z hP h => hk a M z h hP) hP h) n
noncomputable def d_X12_ends_14 (s0 : Int32) (M : Mem) : Option (Unit × Mem) :=
  d_X12_ends_15 fuel (s0) M
theorem b_X12_ends_14 {s0 : Int32} {M z} (hP : Lay M) (h : d_X12_ends_14 s0 M = some z) : VV Lay k_X12_ends 14 [(0, .ref 69)] [.int s0] M z.2 (Qv (none) z.2) xF := by
  unfold d_X12_ends_14 at h
  refine Y_istore_n (pc := 14) (lv1 := [(1, .int s0), (0, .ref 69)]) dX12_ends_14 rfl (by decide) rfl ?_
  refine VV.sub [1, 0] rfl ?_
  exact b_X12_ends_15  fuel _ _ _ h hP
noncomputable def d_X12_ends (M : Mem) : Option (Unit × Mem) :=
  if (20 : Int32) ≤ (mI M 69 26) then (
    d_X12_ends_14 (0 : Int32) M)
  else (
    d_X12_ends_14 (1 : Int32) M)
theorem b_X12_ends {M z} (hP : Lay M) (h : d_X12_ends M = some z) : VV Lay k_X12_ends 0 [(0, .ref 69)] [] M z.2 (Qv (none) z.2) xF := by
  unfold d_X12_ends at h
  refine Y_aload_n (pc := 0) (j := 0) dX12_ends_0 rfl rfl ?_
  refine Z_geti (pc := 1) dX12_ends_1 w8_92 (lk_69 hP) fi_12_26 ?_
  refine Y_bipush (pc := 4) (v := (20 : Int32)) dX12_ends_4 rfl ?_
  refine Y_icmp_ge (pc := 6) (tgt := 13) dX12_ends_6 (by decide) (fun hc1 => ?_) (fun hc1 => ?_)
  · replace h := ifT hc1 h
    refine Y_iconst (pc := 13) (v := (0 : Int32)) dX12_ends_13 rfl ?_
    refine VV.sub [0] rfl ?_
    exact b_X12_ends_14  hP h
  · replace h := ifF hc1 h
    refine Y_iconst (pc := 9) (v := (1 : Int32)) dX12_ends_9 rfl ?_
    refine Y_goto (pc := 10) (tgt := 14) dX12_ends_10 (by decide) ?_
    refine VV.sub [0] rfl ?_
    exact b_X12_ends_14  hP h
theorem v_X12_ends {M z} (hP : Lay M) (h : d_X12_ends M = some z) : CC Lay k_X12_ends [.ref 69] M z.2 (Qv (none) z.2) xF :=
  CC.ofVV (by decide) rfl (Nat.le_of_ble_eq_true rfl) (b_X12_ends hP h)
noncomputable def d_X12_takes_87 (s0 : Int32) (M : Mem) : Option (Int32 × Mem) :=
  if s0 = 0 then (
    some ((0 : Int32), M))
  else (
    some ((1 : Int32), M))
theorem b_X12_takes_87 {s0 : Int32} {M z} (hP : Lay M) (h : d_X12_takes_87 s0 M = some z) : VV Lay k_X12_takes 87 [] [.int s0] M z.2 (Qv (some (.int z.1)) z.2) xF := by
  unfold d_X12_takes_87 at h
  refine Y_istore_n (pc := 87) (lv1 := [(3, .int s0)]) dX12_takes_87 rfl (by decide) rfl ?_
  refine Y_iload_n (pc := 88) (j := 0) dX12_takes_88 rfl rfl ?_
  refine Y_if_eq (pc := 89) (tgt := 96) dX12_takes_89 (by decide) (fun hc1 => ?_) (fun hc1 => ?_)
  · replace h := ifT hc1 h
    refine Y_iconst (pc := 96) (v := (0 : Int32)) dX12_takes_96 rfl ?_
    cases h
    exact Y_iret (pc := 97) rfl rfl dX12_takes_97 hP ⟨rfl, rfl⟩
  · replace h := ifF hc1 h
    refine Y_iconst (pc := 92) (v := (1 : Int32)) dX12_takes_92 rfl ?_
    refine Y_goto (pc := 93) (tgt := 97) dX12_takes_93 (by decide) ?_
    cases h
    exact Y_iret (pc := 97) rfl rfl dX12_takes_97 hP ⟨rfl, rfl⟩
noncomputable def d_X12_takes_82 (M : Mem) : Option (Int32 × Mem) :=
  d_X12_takes_87 (1 : Int32) M
theorem b_X12_takes_82 {M z} (hP : Lay M) (h : d_X12_takes_82 M = some z) : VV Lay k_X12_takes 82 [] [] M z.2 (Qv (some (.int z.1)) z.2) xF := by
  unfold d_X12_takes_82 at h
  refine Y_iconst (pc := 82) (v := (1 : Int32)) dX12_takes_82 rfl ?_
  refine Y_goto (pc := 83) (tgt := 87) dX12_takes_83 (by decide) ?_
  refine VV.sub [] rfl ?_
  exact b_X12_takes_87  hP h
noncomputable def d_X12_takes (x1 : Int32) (x2 : Int32) (M : Mem) : Option (Int32 × Mem) :=
  (d_X12_isPair x1 M).bind fun y1 =>
  if y1.1 = 0 then (
    if x1 = (112 : Int32) then (
      some ((2 : Int32), y1.2))
    else (
      if x1 = (99 : Int32) then (
        okk (vp_in x2 8) <|
        some ((mI y1.2 70 x2.toNatClampNeg), y1.2))
      else (
        if x1 = (115 : Int32) then (
          d_X12_takes_82 y1.2)
        else (
          if x1 = (117 : Int32) then (
            d_X12_takes_82 y1.2)
          else (
            if x1 = (100 : Int32) then (
              d_X12_takes_82 y1.2)
            else (
              if x1 = (119 : Int32) then (
                d_X12_takes_82 y1.2)
              else (
                if x1 = (122 : Int32) then (
                  d_X12_takes_82 y1.2)
                else (
                  if x1 = (103 : Int32) then (
                    d_X12_takes_82 y1.2)
                  else (
                    if x1 = (109 : Int32) then (
                      d_X12_takes_82 y1.2)
                    else (
                      if x1 = (114 : Int32) then (
                        d_X12_takes_82 y1.2)
                      else (
                        if x1 = (116 : Int32) then (
                          d_X12_takes_82 y1.2)
                        else (
                          d_X12_takes_87 (0 : Int32) y1.2))))))))))))
  else (
    some ((2 : Int32), y1.2))
theorem b_X12_takes {x1 : Int32} {x2 : Int32} {M z} (hP : Lay M) (h : d_X12_takes x1 x2 M = some z) : VV Lay k_X12_takes 0 [(0, .ref 69), (1, .int x1), (2, .int x2)] [] M z.2 (Qv (some (.int z.1)) z.2) xF := by
  unfold d_X12_takes at h
  refine Y_iload_n (pc := 0) (j := 1) dX12_takes_0 rfl rfl ?_
  obtain ⟨y1, qy1, h⟩ := bindE h
  have cy1 := v_X12_isPair hP qy1
  refine C_S1r (pc := 1) (k' := k_X12_isPair) dX12_takes_1 w9_129 i_X12_isPair (Nat.le_of_ble_eq_true rfl) (Nat.le_of_ble_eq_true rfl) (Nat.le_of_ble_eq_true rfl) (cy1) ?_
  have hPy1 := cy1.1.1
  refine Y_if_ne (pc := 4) (tgt := 13) dX12_takes_4 (by decide) (fun hc1 => ?_) (fun hc1 => ?_)
  · replace h := ifF hc1 h
    refine Y_iconst (pc := 13) (v := (2 : Int32)) dX12_takes_13 rfl ?_
    cases h
    exact Y_iret (pc := 14) rfl rfl dX12_takes_14 hPy1 ⟨rfl, rfl⟩
  · replace h := ifT hc1 h
    refine Y_iload_n (pc := 7) (j := 1) dX12_takes_7 rfl rfl ?_
    refine Y_bipush (pc := 8) (v := (112 : Int32)) dX12_takes_8 rfl ?_
    refine Y_icmp_ne (pc := 10) (tgt := 15) dX12_takes_10 (by decide) (fun hc2 => ?_) (fun hc2 => ?_)
    · replace h := ifF hc2 h
      refine Y_iload_n (pc := 15) (j := 1) dX12_takes_15 rfl rfl ?_
      refine Y_bipush (pc := 16) (v := (99 : Int32)) dX12_takes_16 rfl ?_
      refine Y_icmp_ne (pc := 18) (tgt := 28) dX12_takes_18 (by decide) (fun hc3 => ?_) (fun hc3 => ?_)
      · replace h := ifF hc3 h
        refine Y_iload_n (pc := 28) (j := 1) dX12_takes_28 rfl rfl ?_
        refine Y_bipush (pc := 29) (v := (115 : Int32)) dX12_takes_29 rfl ?_
        refine Y_icmp_eq (pc := 31) (tgt := 82) dX12_takes_31 (by decide) (fun hc4 => ?_) (fun hc4 => ?_)
        · replace h := ifT hc4 h
          refine VV.sub [] rfl ?_
          exact b_X12_takes_82  hPy1 h
        · replace h := ifF hc4 h
          refine Y_iload_n (pc := 34) (j := 1) dX12_takes_34 rfl rfl ?_
          refine Y_bipush (pc := 35) (v := (117 : Int32)) dX12_takes_35 rfl ?_
          refine Y_icmp_eq (pc := 37) (tgt := 82) dX12_takes_37 (by decide) (fun hc5 => ?_) (fun hc5 => ?_)
          · replace h := ifT hc5 h
            refine VV.sub [] rfl ?_
            exact b_X12_takes_82  hPy1 h
          · replace h := ifF hc5 h
            refine Y_iload_n (pc := 40) (j := 1) dX12_takes_40 rfl rfl ?_
            refine Y_bipush (pc := 41) (v := (100 : Int32)) dX12_takes_41 rfl ?_
            refine Y_icmp_eq (pc := 43) (tgt := 82) dX12_takes_43 (by decide) (fun hc6 => ?_) (fun hc6 => ?_)
            · replace h := ifT hc6 h
              refine VV.sub [] rfl ?_
              exact b_X12_takes_82  hPy1 h
            · replace h := ifF hc6 h
              refine Y_iload_n (pc := 46) (j := 1) dX12_takes_46 rfl rfl ?_
              refine Y_bipush (pc := 47) (v := (119 : Int32)) dX12_takes_47 rfl ?_
              refine Y_icmp_eq (pc := 49) (tgt := 82) dX12_takes_49 (by decide) (fun hc7 => ?_) (fun hc7 => ?_)
              · replace h := ifT hc7 h
                refine VV.sub [] rfl ?_
                exact b_X12_takes_82  hPy1 h
              · replace h := ifF hc7 h
                refine Y_iload_n (pc := 52) (j := 1) dX12_takes_52 rfl rfl ?_
                refine Y_bipush (pc := 53) (v := (122 : Int32)) dX12_takes_53 rfl ?_
                refine Y_icmp_eq (pc := 55) (tgt := 82) dX12_takes_55 (by decide) (fun hc8 => ?_) (fun hc8 => ?_)
                · replace h := ifT hc8 h
                  refine VV.sub [] rfl ?_
                  exact b_X12_takes_82  hPy1 h
                · replace h := ifF hc8 h
                  refine Y_iload_n (pc := 58) (j := 1) dX12_takes_58 rfl rfl ?_
                  refine Y_bipush (pc := 59) (v := (103 : Int32)) dX12_takes_59 rfl ?_
                  refine Y_icmp_eq (pc := 61) (tgt := 82) dX12_takes_61 (by decide) (fun hc9 => ?_) (fun hc9 => ?_)
                  · replace h := ifT hc9 h
                    refine VV.sub [] rfl ?_
                    exact b_X12_takes_82  hPy1 h
                  · replace h := ifF hc9 h
                    refine Y_iload_n (pc := 64) (j := 1) dX12_takes_64 rfl rfl ?_
                    refine Y_bipush (pc := 65) (v := (109 : Int32)) dX12_takes_65 rfl ?_
                    refine Y_icmp_eq (pc := 67) (tgt := 82) dX12_takes_67 (by decide) (fun hc10 => ?_) (fun hc10 => ?_)
                    · replace h := ifT hc10 h
                      refine VV.sub [] rfl ?_
                      exact b_X12_takes_82  hPy1 h
                    · replace h := ifF hc10 h
                      refine Y_iload_n (pc := 70) (j := 1) dX12_takes_70 rfl rfl ?_
                      refine Y_bipush (pc := 71) (v := (114 : Int32)) dX12_takes_71 rfl ?_
                      refine Y_icmp_eq (pc := 73) (tgt := 82) dX12_takes_73 (by decide) (fun hc11 => ?_) (fun hc11 => ?_)
                      · replace h := ifT hc11 h
                        refine VV.sub [] rfl ?_
                        exact b_X12_takes_82  hPy1 h
                      · replace h := ifF hc11 h
                        refine Y_iload_n (pc := 76) (j := 1) dX12_takes_76 rfl rfl ?_
                        refine Y_bipush (pc := 77) (v := (116 : Int32)) dX12_takes_77 rfl ?_
                        refine Y_icmp_ne (pc := 79) (tgt := 86) dX12_takes_79 (by decide) (fun hc12 => ?_) (fun hc12 => ?_)
                        · replace h := ifF hc12 h
                          refine Y_iconst (pc := 86) (v := (0 : Int32)) dX12_takes_86 rfl ?_
                          refine VV.sub [] rfl ?_
                          exact b_X12_takes_87  hPy1 h
                        · replace h := ifT hc12 h
                          refine VV.sub [] rfl ?_
                          exact b_X12_takes_82  hPy1 h
      · replace h := ifT hc3 h
        refine Y_aload_n (pc := 21) (j := 0) dX12_takes_21 rfl rfl ?_
        refine Z_getr (pc := 22) dX12_takes_22 w8_68 (lk_69 hPy1) fr_12_2 (lr_69_2 hPy1) ?_
        refine Y_iload_n (pc := 25) (j := 2) dX12_takes_25 rfl rfl ?_
        obtain ⟨hb1, h⟩ := okE h
        refine Y_iald (pc := 26) dX12_takes_26 (lk_70 hPy1) (ln_70 hPy1) hb1 ?_
        cases h
        exact Y_iret (pc := 27) rfl rfl dX12_takes_27 hPy1 ⟨rfl, rfl⟩
    · replace h := ifT hc2 h
      refine Y_iconst (pc := 13) (v := (2 : Int32)) dX12_takes_13 rfl ?_
      cases h
      exact Y_iret (pc := 14) rfl rfl dX12_takes_14 hPy1 ⟨rfl, rfl⟩
theorem v_X12_takes {x1 : Int32} {x2 : Int32} {M z} (hP : Lay M) (h : d_X12_takes x1 x2 M = some z) : CC Lay k_X12_takes [.ref 69, .int x1, .int x2] M z.2 (Qv (some (.int z.1)) z.2) xF :=
  CC.ofVV (by decide) rfl (Nat.le_of_ble_eq_true rfl) (b_X12_takes hP h)
noncomputable def d_X12_hasNoRoom_70 (s0 : Int32) (M : Mem) : Option (Int32 × Mem) :=
  if s0 = 0 then (
    some ((0 : Int32), M))
  else (
    okk (vp_in (mI M 69 48) 12) <|
    if (mI M 111 (mI M 69 48).toNatClampNeg) = (8 : Int32) then (
      some ((1 : Int32), M))
    else (
      some ((0 : Int32), M)))
theorem b_X12_hasNoRoom_70 {s0 : Int32} {M z} (hP : Lay M) (h : d_X12_hasNoRoom_70 s0 M = some z) : VV Lay k_X12_hasNoRoom 70 [(0, .ref 69)] [.int s0] M z.2 (Qv (some (.int z.1)) z.2) xF := by
  unfold d_X12_hasNoRoom_70 at h
  refine Y_istore_n (pc := 70) (lv1 := [(2, .int s0), (0, .ref 69)]) dX12_hasNoRoom_70 rfl (by decide) rfl ?_
  refine Y_iload_n (pc := 71) (j := 0) dX12_hasNoRoom_71 rfl rfl ?_
  refine Y_if_eq (pc := 72) (tgt := 93) dX12_hasNoRoom_72 (by decide) (fun hc1 => ?_) (fun hc1 => ?_)
  · replace h := ifT hc1 h
    refine Y_iconst (pc := 93) (v := (0 : Int32)) dX12_hasNoRoom_93 rfl ?_
    cases h
    exact Y_iret (pc := 94) rfl (nar_bo (by decide)) dX12_hasNoRoom_94 hP ⟨rfl, rfl⟩
  · replace h := ifF hc1 h
    refine Y_aload_n (pc := 75) (j := 1) dX12_hasNoRoom_75 rfl rfl ?_
    refine Z_getr (pc := 76) dX12_hasNoRoom_76 w8_117 (lk_69 hP) fr_12_51 (lr_69_51 hP) ?_
    refine Y_aload_n (pc := 79) (j := 1) dX12_hasNoRoom_79 rfl rfl ?_
    refine Z_geti (pc := 80) dX12_hasNoRoom_80 w8_114 (lk_69 hP) fi_12_48 ?_
    obtain ⟨hb1, h⟩ := okE h
    refine Y_iald (pc := 83) dX12_hasNoRoom_83 (lk_111 hP) (ln_111 hP) hb1 ?_
    refine Y_bipush (pc := 84) (v := (8 : Int32)) dX12_hasNoRoom_84 rfl ?_
    refine Y_icmp_ne (pc := 86) (tgt := 93) dX12_hasNoRoom_86 (by decide) (fun hc2 => ?_) (fun hc2 => ?_)
    · replace h := ifF hc2 h
      refine Y_iconst (pc := 93) (v := (0 : Int32)) dX12_hasNoRoom_93 rfl ?_
      cases h
      exact Y_iret (pc := 94) rfl (nar_bo (by decide)) dX12_hasNoRoom_94 hP ⟨rfl, rfl⟩
    · replace h := ifT hc2 h
      refine Y_iconst (pc := 89) (v := (1 : Int32)) dX12_hasNoRoom_89 rfl ?_
      refine Y_goto (pc := 90) (tgt := 94) dX12_hasNoRoom_90 (by decide) ?_
      cases h
      exact Y_iret (pc := 94) rfl (nar_bo (by decide)) dX12_hasNoRoom_94 hP ⟨rfl, rfl⟩
noncomputable def d_X12_hasNoRoom_65 (M : Mem) : Option (Int32 × Mem) :=
  d_X12_hasNoRoom_70 (1 : Int32) M
theorem b_X12_hasNoRoom_65 {M z} (hP : Lay M) (h : d_X12_hasNoRoom_65 M = some z) : VV Lay k_X12_hasNoRoom 65 [(0, .ref 69)] [] M z.2 (Qv (some (.int z.1)) z.2) xF := by
  unfold d_X12_hasNoRoom_65 at h
  refine Y_iconst (pc := 65) (v := (1 : Int32)) dX12_hasNoRoom_65 rfl ?_
  refine Y_goto (pc := 66) (tgt := 70) dX12_hasNoRoom_66 (by decide) ?_
  refine VV.sub [0] rfl ?_
  exact b_X12_hasNoRoom_70  hP h
noncomputable def d_X12_hasNoRoom (x1 : Int32) (M : Mem) : Option (Int32 × Mem) :=
  if x1 = (114 : Int32) then (
    if (mI M 69 48) ≤ 0 then (
      some ((0 : Int32), M))
    else (
      okk (vp_in ((mI M 69 48) - (1 : Int32)) 12) <|
      if (mI M 111 ((mI M 69 48) - (1 : Int32)).toNatClampNeg) = (8 : Int32) then (
        some ((1 : Int32), M))
      else (
        some ((0 : Int32), M))))
  else (
    if x1 = (105 : Int32) then (
      d_X12_hasNoRoom_65 M)
    else (
      if x1 = (107 : Int32) then (
        d_X12_hasNoRoom_65 M)
      else (
        if x1 = (108 : Int32) then (
          d_X12_hasNoRoom_65 M)
        else (
          if x1 = (117 : Int32) then (
            d_X12_hasNoRoom_65 M)
          else (
            if x1 = (110 : Int32) then (
              d_X12_hasNoRoom_65 M)
            else (
              d_X12_hasNoRoom_70 (0 : Int32) M))))))
theorem b_X12_hasNoRoom {x1 : Int32} {M z} (hP : Lay M) (h : d_X12_hasNoRoom x1 M = some z) : VV Lay k_X12_hasNoRoom 0 [(0, .ref 69), (1, .int x1)] [] M z.2 (Qv (some (.int z.1)) z.2) xF := by
  unfold d_X12_hasNoRoom at h
  refine Y_iload_n (pc := 0) (j := 1) dX12_hasNoRoom_0 rfl rfl ?_
  refine Y_bipush (pc := 1) (v := (114 : Int32)) dX12_hasNoRoom_1 rfl ?_
  refine Y_icmp_ne (pc := 3) (tgt := 35) dX12_hasNoRoom_3 (by decide) (fun hc1 => ?_) (fun hc1 => ?_)
  · replace h := ifF hc1 h
    refine Y_iload_n (pc := 35) (j := 1) dX12_hasNoRoom_35 rfl rfl ?_
    refine Y_bipush (pc := 36) (v := (105 : Int32)) dX12_hasNoRoom_36 rfl ?_
    refine Y_icmp_eq (pc := 38) (tgt := 65) dX12_hasNoRoom_38 (by decide) (fun hc2 => ?_) (fun hc2 => ?_)
    · replace h := ifT hc2 h
      refine VV.sub [0] rfl ?_
      exact b_X12_hasNoRoom_65  hP h
    · replace h := ifF hc2 h
      refine Y_iload_n (pc := 41) (j := 1) dX12_hasNoRoom_41 rfl rfl ?_
      refine Y_bipush (pc := 42) (v := (107 : Int32)) dX12_hasNoRoom_42 rfl ?_
      refine Y_icmp_eq (pc := 44) (tgt := 65) dX12_hasNoRoom_44 (by decide) (fun hc3 => ?_) (fun hc3 => ?_)
      · replace h := ifT hc3 h
        refine VV.sub [0] rfl ?_
        exact b_X12_hasNoRoom_65  hP h
      · replace h := ifF hc3 h
        refine Y_iload_n (pc := 47) (j := 1) dX12_hasNoRoom_47 rfl rfl ?_
        refine Y_bipush (pc := 48) (v := (108 : Int32)) dX12_hasNoRoom_48 rfl ?_
        refine Y_icmp_eq (pc := 50) (tgt := 65) dX12_hasNoRoom_50 (by decide) (fun hc4 => ?_) (fun hc4 => ?_)
        · replace h := ifT hc4 h
          refine VV.sub [0] rfl ?_
          exact b_X12_hasNoRoom_65  hP h
        · replace h := ifF hc4 h
          refine Y_iload_n (pc := 53) (j := 1) dX12_hasNoRoom_53 rfl rfl ?_
          refine Y_bipush (pc := 54) (v := (117 : Int32)) dX12_hasNoRoom_54 rfl ?_
          refine Y_icmp_eq (pc := 56) (tgt := 65) dX12_hasNoRoom_56 (by decide) (fun hc5 => ?_) (fun hc5 => ?_)
          · replace h := ifT hc5 h
            refine VV.sub [0] rfl ?_
            exact b_X12_hasNoRoom_65  hP h
          · replace h := ifF hc5 h
            refine Y_iload_n (pc := 59) (j := 1) dX12_hasNoRoom_59 rfl rfl ?_
            refine Y_bipush (pc := 60) (v := (110 : Int32)) dX12_hasNoRoom_60 rfl ?_
            refine Y_icmp_ne (pc := 62) (tgt := 69) dX12_hasNoRoom_62 (by decide) (fun hc6 => ?_) (fun hc6 => ?_)
            · replace h := ifF hc6 h
              refine Y_iconst (pc := 69) (v := (0 : Int32)) dX12_hasNoRoom_69 rfl ?_
              refine VV.sub [0] rfl ?_
              exact b_X12_hasNoRoom_70  hP h
            · replace h := ifT hc6 h
              refine VV.sub [0] rfl ?_
              exact b_X12_hasNoRoom_65  hP h
  · replace h := ifT hc1 h
    refine Y_aload_n (pc := 6) (j := 0) dX12_hasNoRoom_6 rfl rfl ?_
    refine Z_geti (pc := 7) dX12_hasNoRoom_7 w8_114 (lk_69 hP) fi_12_48 ?_
    refine Y_if_le (pc := 10) (tgt := 33) dX12_hasNoRoom_10 (by decide) (fun hc7 => ?_) (fun hc7 => ?_)
    · replace h := ifT hc7 h
      refine Y_iconst (pc := 33) (v := (0 : Int32)) dX12_hasNoRoom_33 rfl ?_
      cases h
      exact Y_iret (pc := 34) rfl (nar_bo (by decide)) dX12_hasNoRoom_34 hP ⟨rfl, rfl⟩
    · replace h := ifF hc7 h
      refine Y_aload_n (pc := 13) (j := 0) dX12_hasNoRoom_13 rfl rfl ?_
      refine Z_getr (pc := 14) dX12_hasNoRoom_14 w8_117 (lk_69 hP) fr_12_51 (lr_69_51 hP) ?_
      refine Y_aload_n (pc := 17) (j := 0) dX12_hasNoRoom_17 rfl rfl ?_
      refine Z_geti (pc := 18) dX12_hasNoRoom_18 w8_114 (lk_69 hP) fi_12_48 ?_
      refine Y_iconst (pc := 21) (v := (1 : Int32)) dX12_hasNoRoom_21 rfl ?_
      refine Y_isub (pc := 22) dX12_hasNoRoom_22 ?_
      obtain ⟨hb1, h⟩ := okE h
      refine Y_iald (pc := 23) dX12_hasNoRoom_23 (lk_111 hP) (ln_111 hP) hb1 ?_
      refine Y_bipush (pc := 24) (v := (8 : Int32)) dX12_hasNoRoom_24 rfl ?_
      refine Y_icmp_ne (pc := 26) (tgt := 33) dX12_hasNoRoom_26 (by decide) (fun hc8 => ?_) (fun hc8 => ?_)
      · replace h := ifF hc8 h
        refine Y_iconst (pc := 33) (v := (0 : Int32)) dX12_hasNoRoom_33 rfl ?_
        cases h
        exact Y_iret (pc := 34) rfl (nar_bo (by decide)) dX12_hasNoRoom_34 hP ⟨rfl, rfl⟩
      · replace h := ifT hc8 h
        refine Y_iconst (pc := 29) (v := (1 : Int32)) dX12_hasNoRoom_29 rfl ?_
        refine Y_goto (pc := 30) (tgt := 34) dX12_hasNoRoom_30 (by decide) ?_
        cases h
        exact Y_iret (pc := 34) rfl (nar_bo (by decide)) dX12_hasNoRoom_34 hP ⟨rfl, rfl⟩
theorem v_X12_hasNoRoom {x1 : Int32} {M z} (hP : Lay M) (h : d_X12_hasNoRoom x1 M = some z) : CC Lay k_X12_hasNoRoom [.ref 69, .int x1] M z.2 (Qv (some (.int z.1)) z.2) xF :=
  CC.ofVV (by decide) rfl (Nat.le_of_ble_eq_true rfl) (b_X12_hasNoRoom hP h)
noncomputable def d_X12_rounded (x0 : UInt64) (M : Mem) : Option (UInt64 × Mem) :=
  some ((xrint x0), M)
theorem b_X12_rounded {x0 : UInt64} {M z} (hP : Lay M) (h : d_X12_rounded x0 M = some z) : VV Lay k_X12_rounded 0 [(0, .double x0)] [] M z.2 (Qv (some (.double z.1)) z.2) xF := by
  unfold d_X12_rounded at h
  refine Y_dload_n (pc := 0) (j := 0) dX12_rounded_0 rfl rfl ?_
  refine Y_rint (pc := 1) dX12_rounded_1 w9_210 (Nat.le_of_ble_eq_true rfl) (Nat.le_of_ble_eq_true rfl) (Nat.le_of_ble_eq_true rfl) ?_
  cases h
  exact Y_dret (pc := 4) rfl dX12_rounded_4 hP ⟨rfl, rfl⟩
theorem v_X12_rounded {x0 : UInt64} {M z} (hP : Lay M) (h : d_X12_rounded x0 M = some z) : CC Lay k_X12_rounded [.double x0] M z.2 (Qv (some (.double z.1)) z.2) xF :=
  CC.ofVV (by decide) rfl (Nat.le_of_ble_eq_true rfl) (b_X12_rounded hP h)
noncomputable def d_X12_why_459 (x3 : Int32) (M : Mem) : Option (Int32 × Mem) :=
  if x3 = (110 : Int32) then (
    if (mI M 69 52) = (60 : Int32) then (
      some ((111 : Int32), M))
    else (
      some ((0 : Int32), M)))
  else (
    some ((0 : Int32), M))
theorem b_X12_why_459 {x3 : Int32} {M z} (hP : Lay M) (h : d_X12_why_459 x3 M = some z) : VV Lay k_X12_why 459 [(0, .ref 69), (3, .int x3)] [] M z.2 (Qv (some (.int z.1)) z.2) xF := by
  unfold d_X12_why_459 at h
  refine Y_iload_n (pc := 459) (j := 1) dX12_why_459 rfl rfl ?_
  refine Y_bipush (pc := 460) (v := (110 : Int32)) dX12_why_460 rfl ?_
  refine Y_icmp_ne (pc := 462) (tgt := 479) dX12_why_462 (by decide) (fun hc1 => ?_) (fun hc1 => ?_)
  · replace h := ifF hc1 h
    refine Y_iconst (pc := 479) (v := (0 : Int32)) dX12_why_479 rfl ?_
    cases h
    exact Y_iret (pc := 480) rfl (nar_ch (by decide)) dX12_why_480 hP ⟨rfl, rfl⟩
  · replace h := ifT hc1 h
    refine Y_aload_n (pc := 465) (j := 0) dX12_why_465 rfl rfl ?_
    refine Z_geti (pc := 466) dX12_why_466 w8_118 (lk_69 hP) fi_12_52 ?_
    refine Y_bipush (pc := 469) (v := (60 : Int32)) dX12_why_469 rfl ?_
    refine Y_icmp_ne (pc := 471) (tgt := 479) dX12_why_471 (by decide) (fun hc2 => ?_) (fun hc2 => ?_)
    · replace h := ifF hc2 h
      refine Y_iconst (pc := 479) (v := (0 : Int32)) dX12_why_479 rfl ?_
      cases h
      exact Y_iret (pc := 480) rfl (nar_ch (by decide)) dX12_why_480 hP ⟨rfl, rfl⟩
    · replace h := ifT hc2 h
      refine Y_bipush (pc := 474) (v := (111 : Int32)) dX12_why_474 rfl ?_
      refine Y_goto (pc := 476) (tgt := 480) dX12_why_476 (by decide) ?_
      cases h
      exact Y_iret (pc := 480) rfl (nar_ch (by decide)) dX12_why_480 hP ⟨rfl, rfl⟩
noncomputable def d_X12_why_447 (x3 : Int32) (M : Mem) : Option (Int32 × Mem) :=
  if (mI M 69 48) = (11 : Int32) then (
    some ((100 : Int32), M))
  else (
    d_X12_why_459 x3 M)
theorem b_X12_why_447 {x3 : Int32} {M z} (hP : Lay M) (h : d_X12_why_447 x3 M = some z) : VV Lay k_X12_why 447 [(0, .ref 69), (3, .int x3)] [] M z.2 (Qv (some (.int z.1)) z.2) xF := by
  unfold d_X12_why_447 at h
  refine Y_aload_n (pc := 447) (j := 0) dX12_why_447 rfl rfl ?_
  refine Z_geti (pc := 448) dX12_why_448 w8_114 (lk_69 hP) fi_12_48 ?_
  refine Y_bipush (pc := 451) (v := (11 : Int32)) dX12_why_451 rfl ?_
  refine Y_icmp_ne (pc := 453) (tgt := 459) dX12_why_453 (by decide) (fun hc1 => ?_) (fun hc1 => ?_)
  · replace h := ifF hc1 h
    refine VV.sub [0, 1] rfl ?_
    exact b_X12_why_459  hP h
  · replace h := ifT hc1 h
    refine Y_bipush (pc := 456) (v := (100 : Int32)) dX12_why_456 rfl ?_
    cases h
    exact Y_iret (pc := 458) rfl (nar_ch (by decide)) dX12_why_458 hP ⟨rfl, rfl⟩
noncomputable def d_X12_why_435 (x3 : Int32) (M : Mem) : Option (Int32 × Mem) :=
  if x3 = (99 : Int32) then (
    d_X12_why_447 x3 M)
  else (
    if x3 = (109 : Int32) then (
      d_X12_why_447 x3 M)
    else (
      d_X12_why_459 x3 M))
theorem b_X12_why_435 {x3 : Int32} {M z} (hP : Lay M) (h : d_X12_why_435 x3 M = some z) : VV Lay k_X12_why 435 [(0, .ref 69), (3, .int x3)] [] M z.2 (Qv (some (.int z.1)) z.2) xF := by
  unfold d_X12_why_435 at h
  refine Y_iload_n (pc := 435) (j := 1) dX12_why_435 rfl rfl ?_
  refine Y_bipush (pc := 436) (v := (99 : Int32)) dX12_why_436 rfl ?_
  refine Y_icmp_eq (pc := 438) (tgt := 447) dX12_why_438 (by decide) (fun hc1 => ?_) (fun hc1 => ?_)
  · replace h := ifT hc1 h
    refine VV.sub [0, 1] rfl ?_
    exact b_X12_why_447  hP h
  · replace h := ifF hc1 h
    refine Y_iload_n (pc := 441) (j := 1) dX12_why_441 rfl rfl ?_
    refine Y_bipush (pc := 442) (v := (109 : Int32)) dX12_why_442 rfl ?_
    refine Y_icmp_ne (pc := 444) (tgt := 459) dX12_why_444 (by decide) (fun hc2 => ?_) (fun hc2 => ?_)
    · replace h := ifF hc2 h
      refine VV.sub [0, 1] rfl ?_
      exact b_X12_why_459  hP h
    · replace h := ifT hc2 h
      refine VV.sub [0, 1] rfl ?_
      exact b_X12_why_447  hP h
noncomputable def d_X12_why_399 (x3 : Int32) (x4 : Int32) (x5 : Int32) (M : Mem) : Option (Int32 × Mem) :=
  if x3 = (109 : Int32) then (
    okk (vp_in x5 168) <|
    okk (vp_in (mI M 106 x5.toNatClampNeg) 60) <|
    okk (vp_in (mI M 112 (mI M 106 x5.toNatClampNeg).toNatClampNeg) 60) <|
    (d_X12_methodOf (mI M 79 (mI M 112 (mI M 106 x5.toNatClampNeg).toNatClampNeg).toNatClampNeg) x4 M).bind fun y1 =>
    if y1.1 = (-1 : Int32) then (
      some ((109 : Int32), y1.2))
    else (
      d_X12_why_435 x3 y1.2))
  else (
    d_X12_why_435 x3 M)
theorem b_X12_why_399 {x3 : Int32} {x4 : Int32} {x5 : Int32} {M z} (hP : Lay M) (h : d_X12_why_399 x3 x4 x5 M = some z) : VV Lay k_X12_why 399 [(0, .ref 69), (3, .int x3), (4, .int x4), (5, .int x5)] [] M z.2 (Qv (some (.int z.1)) z.2) xF := by
  unfold d_X12_why_399 at h
  refine Y_iload_n (pc := 399) (j := 1) dX12_why_399 rfl rfl ?_
  refine Y_bipush (pc := 400) (v := (109 : Int32)) dX12_why_400 rfl ?_
  refine Y_icmp_ne (pc := 402) (tgt := 435) dX12_why_402 (by decide) (fun hc1 => ?_) (fun hc1 => ?_)
  · replace h := ifF hc1 h
    refine VV.sub [0, 1] rfl ?_
    exact b_X12_why_435  hP h
  · replace h := ifT hc1 h
    refine Y_aload_n (pc := 405) (j := 0) dX12_why_405 rfl rfl ?_
    refine Y_aload_n (pc := 406) (j := 0) dX12_why_406 rfl rfl ?_
    refine Z_getr (pc := 407) dX12_why_407 w8_79 (lk_69 hP) fr_12_13 (lr_69_13 hP) ?_
    refine Y_aload_n (pc := 410) (j := 0) dX12_why_410 rfl rfl ?_
    refine Z_getr (pc := 411) dX12_why_411 w8_119 (lk_69 hP) fr_12_53 (lr_69_53 hP) ?_
    refine Y_aload_n (pc := 414) (j := 0) dX12_why_414 rfl rfl ?_
    refine Z_getr (pc := 415) dX12_why_415 w8_111 (lk_69 hP) fr_12_45 (lr_69_45 hP) ?_
    refine Y_iload (pc := 418) (j := 3) dX12_why_418 rfl ?_
    obtain ⟨hb1, h⟩ := okE h
    refine Y_iald (pc := 420) dX12_why_420 (lk_106 hP) (ln_106 hP) hb1 ?_
    obtain ⟨hb2, h⟩ := okE h
    refine Y_iald (pc := 421) dX12_why_421 (lk_112 hP) (ln_112 hP) hb2 ?_
    obtain ⟨hb3, h⟩ := okE h
    refine Y_iald (pc := 422) dX12_why_422 (lk_79 hP) (ln_79 hP) hb3 ?_
    refine Y_iload (pc := 423) (j := 2) dX12_why_423 rfl ?_
    obtain ⟨y1, qy1, h⟩ := bindE h
    have cy1 := v_X12_methodOf hP qy1
    refine C_V2r (pc := 425) (k' := k_X12_methodOf) dX12_why_425 w9_237 i_X12_methodOf (lk_69 hP) ⟨Nat.le_of_ble_eq_true rfl, Nat.le_of_ble_eq_true rfl⟩ rfl (Nat.le_of_ble_eq_true rfl) (Nat.le_of_ble_eq_true rfl) (Nat.le_of_ble_eq_true rfl) (cy1) ?_
    have hPy1 := cy1.1.1
    refine Y_iconst (pc := 428) (v := (-1 : Int32)) dX12_why_428 rfl ?_
    refine Y_icmp_ne (pc := 429) (tgt := 435) dX12_why_429 (by decide) (fun hc2 => ?_) (fun hc2 => ?_)
    · replace h := ifF hc2 h
      refine VV.sub [0, 1] rfl ?_
      exact b_X12_why_435  hPy1 h
    · replace h := ifT hc2 h
      refine Y_bipush (pc := 432) (v := (109 : Int32)) dX12_why_432 rfl ?_
      cases h
      exact Y_iret (pc := 434) rfl (nar_ch (by decide)) dX12_why_434 hPy1 ⟨rfl, rfl⟩
noncomputable def d_X12_why_337 (x3 : Int32) (x4 : Int32) (x5 : Int32) (M : Mem) : Option (Int32 × Mem) :=
  if x3 = (112 : Int32) then (
    okk (vp_in (x5 - (1 : Int32)) 168) <|
    okk (vp_in (mI M 106 (x5 - (1 : Int32)).toNatClampNeg) 60) <|
    bnd ((mI M 112 (mI M 106 (x5 - (1 : Int32)).toNatClampNeg).toNatClampNeg)) fun b1 =>
    (d_X12_hasField b1 x4 M).bind fun y1 =>
    if y1.1 = 0 then (
      okk (vp_in (((6 : Int32) * b1) + x4) 360) <|
      if (mI y1.2 82 (((6 : Int32) * b1) + x4).toNatClampNeg) = (-1 : Int32) then (
        if (mI y1.2 69 12) = (60 : Int32) then (
          some ((102 : Int32), y1.2))
        else (
          d_X12_why_399 x3 x4 x5 y1.2))
      else (
        d_X12_why_399 x3 x4 x5 y1.2))
    else (
      d_X12_why_399 x3 x4 x5 y1.2))
  else (
    d_X12_why_399 x3 x4 x5 M)
theorem b_X12_why_337 {x3 : Int32} {x4 : Int32} {x5 : Int32} {M z} (hP : Lay M) (h : d_X12_why_337 x3 x4 x5 M = some z) : VV Lay k_X12_why 337 [(0, .ref 69), (3, .int x3), (4, .int x4), (5, .int x5)] [] M z.2 (Qv (some (.int z.1)) z.2) xF := by
  unfold d_X12_why_337 at h
  refine Y_iload_n (pc := 337) (j := 1) dX12_why_337 rfl rfl ?_
  refine Y_bipush (pc := 338) (v := (112 : Int32)) dX12_why_338 rfl ?_
  refine Y_icmp_ne (pc := 340) (tgt := 399) dX12_why_340 (by decide) (fun hc1 => ?_) (fun hc1 => ?_)
  · replace h := ifF hc1 h
    refine VV.sub [0, 1, 2, 3] rfl ?_
    exact b_X12_why_399  hP h
  · replace h := ifT hc1 h
    refine Y_aload_n (pc := 343) (j := 0) dX12_why_343 rfl rfl ?_
    refine Z_getr (pc := 344) dX12_why_344 w8_119 (lk_69 hP) fr_12_53 (lr_69_53 hP) ?_
    refine Y_aload_n (pc := 347) (j := 0) dX12_why_347 rfl rfl ?_
    refine Z_getr (pc := 348) dX12_why_348 w8_111 (lk_69 hP) fr_12_45 (lr_69_45 hP) ?_
    refine Y_iload (pc := 351) (j := 3) dX12_why_351 rfl ?_
    refine Y_iconst (pc := 353) (v := (1 : Int32)) dX12_why_353 rfl ?_
    refine Y_isub (pc := 354) dX12_why_354 ?_
    obtain ⟨hb1, h⟩ := okE h
    refine Y_iald (pc := 355) dX12_why_355 (lk_106 hP) (ln_106 hP) hb1 ?_
    obtain ⟨hb2, h⟩ := okE h
    refine Y_iald (pc := 356) dX12_why_356 (lk_112 hP) (ln_112 hP) hb2 ?_
    obtain ⟨b1, eb1, h⟩ := bndE h
    refine VV.topI eb1 ?_
    refine Y_istore (pc := 357) (lv1 := [(6, .int b1), (0, .ref 69), (3, .int x3), (4, .int x4), (5, .int x5)]) dX12_why_357 (by decide) rfl ?_
    refine Y_aload_n (pc := 359) (j := 1) dX12_why_359 rfl rfl ?_
    refine Y_iload (pc := 360) (j := 0) dX12_why_360 rfl ?_
    refine Y_iload (pc := 362) (j := 3) dX12_why_362 rfl ?_
    obtain ⟨y1, qy1, h⟩ := bindE h
    have cy1 := v_X12_hasField hP qy1
    refine C_V2r (pc := 364) (k' := k_X12_hasField) dX12_why_364 w9_233 i_X12_hasField (lk_69 hP) ⟨Nat.le_of_ble_eq_true rfl, Nat.le_of_ble_eq_true rfl⟩ rfl (Nat.le_of_ble_eq_true rfl) (Nat.le_of_ble_eq_true rfl) (Nat.le_of_ble_eq_true rfl) (cy1) ?_
    have hPy1 := cy1.1.1
    refine Y_if_ne (pc := 367) (tgt := 399) dX12_why_367 (by decide) (fun hc2 => ?_) (fun hc2 => ?_)
    · replace h := ifF hc2 h
      refine VV.sub [1, 2, 3, 4] rfl ?_
      exact b_X12_why_399  hPy1 h
    · replace h := ifT hc2 h
      refine Y_aload_n (pc := 370) (j := 1) dX12_why_370 rfl rfl ?_
      refine Z_getr (pc := 371) dX12_why_371 w8_82 (lk_69 hPy1) fr_12_16 (lr_69_16 hPy1) ?_
      refine Y_bipush (pc := 374) (v := (6 : Int32)) dX12_why_374 rfl ?_
      refine Y_iload (pc := 376) (j := 0) dX12_why_376 rfl ?_
      refine Y_imul (pc := 378) dX12_why_378 ?_
      refine Y_iload (pc := 379) (j := 3) dX12_why_379 rfl ?_
      refine Y_iadd (pc := 381) dX12_why_381 ?_
      obtain ⟨hb3, h⟩ := okE h
      refine Y_iald (pc := 382) dX12_why_382 (lk_82 hPy1) (ln_82 hPy1) hb3 ?_
      refine Y_iconst (pc := 383) (v := (-1 : Int32)) dX12_why_383 rfl ?_
      refine Y_icmp_ne (pc := 384) (tgt := 399) dX12_why_384 (by decide) (fun hc3 => ?_) (fun hc3 => ?_)
      · replace h := ifF hc3 h
        refine VV.sub [1, 2, 3, 4] rfl ?_
        exact b_X12_why_399  hPy1 h
      · replace h := ifT hc3 h
        refine Y_aload_n (pc := 387) (j := 1) dX12_why_387 rfl rfl ?_
        refine Z_geti (pc := 388) dX12_why_388 w8_78 (lk_69 hPy1) fi_12_12 ?_
        refine Y_bipush (pc := 391) (v := (60 : Int32)) dX12_why_391 rfl ?_
        refine Y_icmp_ne (pc := 393) (tgt := 399) dX12_why_393 (by decide) (fun hc4 => ?_) (fun hc4 => ?_)
        · replace h := ifF hc4 h
          refine VV.sub [1, 2, 3, 4] rfl ?_
          exact b_X12_why_399  hPy1 h
        · replace h := ifT hc4 h
          refine Y_bipush (pc := 396) (v := (102 : Int32)) dX12_why_396 rfl ?_
          cases h
          exact Y_iret (pc := 398) rfl (nar_ch (by decide)) dX12_why_398 hPy1 ⟨rfl, rfl⟩
noncomputable def d_X12_why_307 (x3 : Int32) (x4 : Int32) (x5 : Int32) (M : Mem) : Option (Int32 × Mem) :=
  if x3 = (103 : Int32) then (
    okk (vp_in x5 168) <|
    okk (vp_in (mI M 106 x5.toNatClampNeg) 60) <|
    (d_X12_hasField (mI M 112 (mI M 106 x5.toNatClampNeg).toNatClampNeg) x4 M).bind fun y1 =>
    if y1.1 = 0 then (
      some ((102 : Int32), y1.2))
    else (
      d_X12_why_337 x3 x4 x5 y1.2))
  else (
    d_X12_why_337 x3 x4 x5 M)
theorem b_X12_why_307 {x3 : Int32} {x4 : Int32} {x5 : Int32} {M z} (hP : Lay M) (h : d_X12_why_307 x3 x4 x5 M = some z) : VV Lay k_X12_why 307 [(0, .ref 69), (3, .int x3), (4, .int x4), (5, .int x5)] [] M z.2 (Qv (some (.int z.1)) z.2) xF := by
  unfold d_X12_why_307 at h
  refine Y_iload_n (pc := 307) (j := 1) dX12_why_307 rfl rfl ?_
  refine Y_bipush (pc := 308) (v := (103 : Int32)) dX12_why_308 rfl ?_
  refine Y_icmp_ne (pc := 310) (tgt := 337) dX12_why_310 (by decide) (fun hc1 => ?_) (fun hc1 => ?_)
  · replace h := ifF hc1 h
    refine VV.sub [0, 1, 2, 3] rfl ?_
    exact b_X12_why_337  hP h
  · replace h := ifT hc1 h
    refine Y_aload_n (pc := 313) (j := 0) dX12_why_313 rfl rfl ?_
    refine Y_aload_n (pc := 314) (j := 0) dX12_why_314 rfl rfl ?_
    refine Z_getr (pc := 315) dX12_why_315 w8_119 (lk_69 hP) fr_12_53 (lr_69_53 hP) ?_
    refine Y_aload_n (pc := 318) (j := 0) dX12_why_318 rfl rfl ?_
    refine Z_getr (pc := 319) dX12_why_319 w8_111 (lk_69 hP) fr_12_45 (lr_69_45 hP) ?_
    refine Y_iload (pc := 322) (j := 3) dX12_why_322 rfl ?_
    obtain ⟨hb1, h⟩ := okE h
    refine Y_iald (pc := 324) dX12_why_324 (lk_106 hP) (ln_106 hP) hb1 ?_
    obtain ⟨hb2, h⟩ := okE h
    refine Y_iald (pc := 325) dX12_why_325 (lk_112 hP) (ln_112 hP) hb2 ?_
    refine Y_iload (pc := 326) (j := 2) dX12_why_326 rfl ?_
    obtain ⟨y1, qy1, h⟩ := bindE h
    have cy1 := v_X12_hasField hP qy1
    refine C_V2r (pc := 328) (k' := k_X12_hasField) dX12_why_328 w9_233 i_X12_hasField (lk_69 hP) ⟨Nat.le_of_ble_eq_true rfl, Nat.le_of_ble_eq_true rfl⟩ rfl (Nat.le_of_ble_eq_true rfl) (Nat.le_of_ble_eq_true rfl) (Nat.le_of_ble_eq_true rfl) (cy1) ?_
    have hPy1 := cy1.1.1
    refine Y_if_ne (pc := 331) (tgt := 337) dX12_why_331 (by decide) (fun hc2 => ?_) (fun hc2 => ?_)
    · replace h := ifF hc2 h
      refine VV.sub [0, 1, 2, 3] rfl ?_
      exact b_X12_why_337  hPy1 h
    · replace h := ifT hc2 h
      refine Y_bipush (pc := 334) (v := (102 : Int32)) dX12_why_334 rfl ?_
      cases h
      exact Y_iret (pc := 336) rfl (nar_ch (by decide)) dX12_why_336 hPy1 ⟨rfl, rfl⟩
noncomputable def d_X12_why_256 (x3 : Int32) (x4 : Int32) (x5 : Int32) (M : Mem) : Option (Int32 × Mem) :=
  if x3 = (119 : Int32) then (
    okk (vp_in x5 168) <|
    if (mI M 105 x5.toNatClampNeg) = (102 : Int32) then (
      okk (vp_in x5 168) <|
      (d_X12_rounded (mD M 107 x5.toNatClampNeg) M).bind fun y1 =>
      if (Op.cmpValue (FP.dcmp y1.1 (13970166044103278592 : UInt64)) .l) < 0 then (
        some ((119 : Int32), y1.2))
      else (
        if (Op.cmpValue (FP.dcmp y1.1 (4746794007244308480 : UInt64)) .g) ≤ 0 then (
          d_X12_why_307 x3 x4 x5 y1.2)
        else (
          some ((119 : Int32), y1.2))))
    else (
      d_X12_why_307 x3 x4 x5 M))
  else (
    d_X12_why_307 x3 x4 x5 M)
theorem b_X12_why_256 {x3 : Int32} {x4 : Int32} {x5 : Int32} {M z} (hP : Lay M) (h : d_X12_why_256 x3 x4 x5 M = some z) : VV Lay k_X12_why 256 [(0, .ref 69), (3, .int x3), (4, .int x4), (5, .int x5)] [] M z.2 (Qv (some (.int z.1)) z.2) xF := by
  unfold d_X12_why_256 at h
  refine Y_iload_n (pc := 256) (j := 1) dX12_why_256 rfl rfl ?_
  refine Y_bipush (pc := 257) (v := (119 : Int32)) dX12_why_257 rfl ?_
  refine Y_icmp_ne (pc := 259) (tgt := 307) dX12_why_259 (by decide) (fun hc1 => ?_) (fun hc1 => ?_)
  · replace h := ifF hc1 h
    refine VV.sub [0, 1, 2, 3] rfl ?_
    exact b_X12_why_307  hP h
  · replace h := ifT hc1 h
    refine Y_aload_n (pc := 262) (j := 0) dX12_why_262 rfl rfl ?_
    refine Z_getr (pc := 263) dX12_why_263 w8_110 (lk_69 hP) fr_12_44 (lr_69_44 hP) ?_
    refine Y_iload (pc := 266) (j := 3) dX12_why_266 rfl ?_
    obtain ⟨hb1, h⟩ := okE h
    refine Y_cald (pc := 268) dX12_why_268 (lk_105 hP) (ln_105 hP) hb1 ?_
    refine Y_bipush (pc := 269) (v := (102 : Int32)) dX12_why_269 rfl ?_
    refine Y_icmp_ne (pc := 271) (tgt := 307) dX12_why_271 (by decide) (fun hc2 => ?_) (fun hc2 => ?_)
    · replace h := ifF hc2 h
      refine VV.sub [0, 1, 2, 3] rfl ?_
      exact b_X12_why_307  hP h
    · replace h := ifT hc2 h
      refine Y_aload_n (pc := 274) (j := 0) dX12_why_274 rfl rfl ?_
      refine Z_getr (pc := 275) dX12_why_275 w8_112 (lk_69 hP) fr_12_46 (lr_69_46 hP) ?_
      refine Y_iload (pc := 278) (j := 3) dX12_why_278 rfl ?_
      obtain ⟨hb2, h⟩ := okE h
      refine Y_dald (pc := 280) dX12_why_280 (lk_107 hP) (ln_107 hP) hb2 ?_
      obtain ⟨y1, qy1, h⟩ := bindE h
      have cy1 := v_X12_rounded hP qy1
      refine C_S1r (pc := 281) (k' := k_X12_rounded) dX12_why_281 w9_207 i_X12_rounded (Nat.le_of_ble_eq_true rfl) (Nat.le_of_ble_eq_true rfl) (Nat.le_of_ble_eq_true rfl) (cy1) ?_
      have hPy1 := cy1.1.1
      refine Y_dstore (pc := 284) (lv1 := [(6, .double y1.1), (0, .ref 69), (3, .int x3), (4, .int x4), (5, .int x5)]) dX12_why_284 (by decide) rfl ?_
      refine Y_dload (pc := 286) (j := 0) dX12_why_286 rfl ?_
      refine Y_ldc2d (pc := 288) (by decide) dX12_why_288 w9_231 ?_
      refine Y_dcmp (pc := 291) dX12_why_291 ?_
      refine Y_if_lt (pc := 292) (tgt := 304) dX12_why_292 (by decide) (fun hc3 => ?_) (fun hc3 => ?_)
      · replace h := ifT hc3 h
        refine Y_bipush (pc := 304) (v := (119 : Int32)) dX12_why_304 rfl ?_
        cases h
        exact Y_iret (pc := 306) rfl (nar_ch (by decide)) dX12_why_306 hPy1 ⟨rfl, rfl⟩
      · replace h := ifF hc3 h
        refine Y_dload (pc := 295) (j := 0) dX12_why_295 rfl ?_
        refine Y_ldc2d (pc := 297) (by decide) dX12_why_297 w9_232 ?_
        refine Y_dcmp (pc := 300) dX12_why_300 ?_
        refine Y_if_le (pc := 301) (tgt := 307) dX12_why_301 (by decide) (fun hc4 => ?_) (fun hc4 => ?_)
        · replace h := ifT hc4 h
          refine VV.sub [1, 2, 3, 4] rfl ?_
          exact b_X12_why_307  hPy1 h
        · replace h := ifF hc4 h
          refine Y_bipush (pc := 304) (v := (119 : Int32)) dX12_why_304 rfl ?_
          cases h
          exact Y_iret (pc := 306) rfl (nar_ch (by decide)) dX12_why_306 hPy1 ⟨rfl, rfl⟩
noncomputable def d_X12_why_217 (x3 : Int32) (x4 : Int32) (x5 : Int32) (M : Mem) : Option (Int32 × Mem) :=
  okk (vp_in x5 168) <|
  if (mI M 105 x5.toNatClampNeg) = (105 : Int32) then (
    okk (vp_in (x5 - (1 : Int32)) 168) <|
    if (mI M 105 (x5 - (1 : Int32)).toNatClampNeg) = (105 : Int32) then (
      okk (vp_in x5 168) <|
      if (mI M 106 x5.toNatClampNeg) = 0 then (
        some ((48 : Int32), M))
      else (
        d_X12_why_256 x3 x4 x5 M))
    else (
      d_X12_why_256 x3 x4 x5 M))
  else (
    d_X12_why_256 x3 x4 x5 M)
theorem b_X12_why_217 {x3 : Int32} {x4 : Int32} {x5 : Int32} {M z} (hP : Lay M) (h : d_X12_why_217 x3 x4 x5 M = some z) : VV Lay k_X12_why 217 [(0, .ref 69), (3, .int x3), (4, .int x4), (5, .int x5)] [] M z.2 (Qv (some (.int z.1)) z.2) xF := by
  unfold d_X12_why_217 at h
  refine Y_aload_n (pc := 217) (j := 0) dX12_why_217 rfl rfl ?_
  refine Z_getr (pc := 218) dX12_why_218 w8_110 (lk_69 hP) fr_12_44 (lr_69_44 hP) ?_
  refine Y_iload (pc := 221) (j := 3) dX12_why_221 rfl ?_
  obtain ⟨hb1, h⟩ := okE h
  refine Y_cald (pc := 223) dX12_why_223 (lk_105 hP) (ln_105 hP) hb1 ?_
  refine Y_bipush (pc := 224) (v := (105 : Int32)) dX12_why_224 rfl ?_
  refine Y_icmp_ne (pc := 226) (tgt := 256) dX12_why_226 (by decide) (fun hc1 => ?_) (fun hc1 => ?_)
  · replace h := ifF hc1 h
    refine VV.sub [0, 1, 2, 3] rfl ?_
    exact b_X12_why_256  hP h
  · replace h := ifT hc1 h
    refine Y_aload_n (pc := 229) (j := 0) dX12_why_229 rfl rfl ?_
    refine Z_getr (pc := 230) dX12_why_230 w8_110 (lk_69 hP) fr_12_44 (lr_69_44 hP) ?_
    refine Y_iload (pc := 233) (j := 3) dX12_why_233 rfl ?_
    refine Y_iconst (pc := 235) (v := (1 : Int32)) dX12_why_235 rfl ?_
    refine Y_isub (pc := 236) dX12_why_236 ?_
    obtain ⟨hb2, h⟩ := okE h
    refine Y_cald (pc := 237) dX12_why_237 (lk_105 hP) (ln_105 hP) hb2 ?_
    refine Y_bipush (pc := 238) (v := (105 : Int32)) dX12_why_238 rfl ?_
    refine Y_icmp_ne (pc := 240) (tgt := 256) dX12_why_240 (by decide) (fun hc2 => ?_) (fun hc2 => ?_)
    · replace h := ifF hc2 h
      refine VV.sub [0, 1, 2, 3] rfl ?_
      exact b_X12_why_256  hP h
    · replace h := ifT hc2 h
      refine Y_aload_n (pc := 243) (j := 0) dX12_why_243 rfl rfl ?_
      refine Z_getr (pc := 244) dX12_why_244 w8_111 (lk_69 hP) fr_12_45 (lr_69_45 hP) ?_
      refine Y_iload (pc := 247) (j := 3) dX12_why_247 rfl ?_
      obtain ⟨hb3, h⟩ := okE h
      refine Y_iald (pc := 249) dX12_why_249 (lk_106 hP) (ln_106 hP) hb3 ?_
      refine Y_if_ne (pc := 250) (tgt := 256) dX12_why_250 (by decide) (fun hc3 => ?_) (fun hc3 => ?_)
      · replace h := ifF hc3 h
        refine VV.sub [0, 1, 2, 3] rfl ?_
        exact b_X12_why_256  hP h
      · replace h := ifT hc3 h
        refine Y_bipush (pc := 253) (v := (48 : Int32)) dX12_why_253 rfl ?_
        cases h
        exact Y_iret (pc := 255) rfl (nar_ch (by decide)) dX12_why_255 hP ⟨rfl, rfl⟩
noncomputable def d_X12_why_205 (x3 : Int32) (x4 : Int32) (x5 : Int32) (M : Mem) : Option (Int32 × Mem) :=
  if x3 = (47 : Int32) then (
    d_X12_why_217 x3 x4 x5 M)
  else (
    if x3 = (37 : Int32) then (
      d_X12_why_217 x3 x4 x5 M)
    else (
      d_X12_why_256 x3 x4 x5 M))
theorem b_X12_why_205 {x3 : Int32} {x4 : Int32} {x5 : Int32} {M z} (hP : Lay M) (h : d_X12_why_205 x3 x4 x5 M = some z) : VV Lay k_X12_why 205 [(0, .ref 69), (3, .int x3), (4, .int x4), (5, .int x5)] [] M z.2 (Qv (some (.int z.1)) z.2) xF := by
  unfold d_X12_why_205 at h
  refine Y_iload_n (pc := 205) (j := 1) dX12_why_205 rfl rfl ?_
  refine Y_bipush (pc := 206) (v := (47 : Int32)) dX12_why_206 rfl ?_
  refine Y_icmp_eq (pc := 208) (tgt := 217) dX12_why_208 (by decide) (fun hc1 => ?_) (fun hc1 => ?_)
  · replace h := ifT hc1 h
    refine VV.sub [0, 1, 2, 3] rfl ?_
    exact b_X12_why_217  hP h
  · replace h := ifF hc1 h
    refine Y_iload_n (pc := 211) (j := 1) dX12_why_211 rfl rfl ?_
    refine Y_bipush (pc := 212) (v := (37 : Int32)) dX12_why_212 rfl ?_
    refine Y_icmp_ne (pc := 214) (tgt := 256) dX12_why_214 (by decide) (fun hc2 => ?_) (fun hc2 => ?_)
    · replace h := ifF hc2 h
      refine VV.sub [0, 1, 2, 3] rfl ?_
      exact b_X12_why_256  hP h
    · replace h := ifT hc2 h
      refine VV.sub [0, 1, 2, 3] rfl ?_
      exact b_X12_why_217  hP h
noncomputable def d_X12_why_182 (x3 : Int32) (x4 : Int32) (x5 : Int32) (M : Mem) : Option (Int32 × Mem) :=
  if x3 = (112 : Int32) then (
    okk (vp_in (x5 - (1 : Int32)) 168) <|
    if (mI M 105 (x5 - (1 : Int32)).toNatClampNeg) = (111 : Int32) then (
      d_X12_why_205 x3 x4 x5 M)
    else (
      some ((107 : Int32), M)))
  else (
    d_X12_why_205 x3 x4 x5 M)
theorem b_X12_why_182 {x3 : Int32} {x4 : Int32} {x5 : Int32} {M z} (hP : Lay M) (h : d_X12_why_182 x3 x4 x5 M = some z) : VV Lay k_X12_why 182 [(0, .ref 69), (3, .int x3), (4, .int x4), (5, .int x5)] [] M z.2 (Qv (some (.int z.1)) z.2) xF := by
  unfold d_X12_why_182 at h
  refine Y_iload_n (pc := 182) (j := 1) dX12_why_182 rfl rfl ?_
  refine Y_bipush (pc := 183) (v := (112 : Int32)) dX12_why_183 rfl ?_
  refine Y_icmp_ne (pc := 185) (tgt := 205) dX12_why_185 (by decide) (fun hc1 => ?_) (fun hc1 => ?_)
  · replace h := ifF hc1 h
    refine VV.sub [0, 1, 2, 3] rfl ?_
    exact b_X12_why_205  hP h
  · replace h := ifT hc1 h
    refine Y_aload_n (pc := 188) (j := 0) dX12_why_188 rfl rfl ?_
    refine Z_getr (pc := 189) dX12_why_189 w8_110 (lk_69 hP) fr_12_44 (lr_69_44 hP) ?_
    refine Y_iload (pc := 192) (j := 3) dX12_why_192 rfl ?_
    refine Y_iconst (pc := 194) (v := (1 : Int32)) dX12_why_194 rfl ?_
    refine Y_isub (pc := 195) dX12_why_195 ?_
    obtain ⟨hb1, h⟩ := okE h
    refine Y_cald (pc := 196) dX12_why_196 (lk_105 hP) (ln_105 hP) hb1 ?_
    refine Y_bipush (pc := 197) (v := (111 : Int32)) dX12_why_197 rfl ?_
    refine Y_icmp_eq (pc := 199) (tgt := 205) dX12_why_199 (by decide) (fun hc2 => ?_) (fun hc2 => ?_)
    · replace h := ifT hc2 h
      refine VV.sub [0, 1, 2, 3] rfl ?_
      exact b_X12_why_205  hP h
    · replace h := ifF hc2 h
      refine Y_bipush (pc := 202) (v := (107 : Int32)) dX12_why_202 rfl ?_
      cases h
      exact Y_iret (pc := 204) rfl (nar_ch (by decide)) dX12_why_204 hP ⟨rfl, rfl⟩
noncomputable def d_X12_why_170 (x3 : Int32) (x4 : Int32) (x5 : Int32) (M : Mem) : Option (Int32 × Mem) :=
  okk (vp_in x5 168) <|
  if (mI M 105 x5.toNatClampNeg) = (111 : Int32) then (
    d_X12_why_182 x3 x4 x5 M)
  else (
    some ((107 : Int32), M))
theorem b_X12_why_170 {x3 : Int32} {x4 : Int32} {x5 : Int32} {M z} (hP : Lay M) (h : d_X12_why_170 x3 x4 x5 M = some z) : VV Lay k_X12_why 170 [(0, .ref 69), (3, .int x3), (4, .int x4), (5, .int x5)] [] M z.2 (Qv (some (.int z.1)) z.2) xF := by
  unfold d_X12_why_170 at h
  refine Y_aload_n (pc := 170) (j := 0) dX12_why_170 rfl rfl ?_
  refine Z_getr (pc := 171) dX12_why_171 w8_110 (lk_69 hP) fr_12_44 (lr_69_44 hP) ?_
  refine Y_iload (pc := 174) (j := 3) dX12_why_174 rfl ?_
  obtain ⟨hb1, h⟩ := okE h
  refine Y_cald (pc := 176) dX12_why_176 (lk_105 hP) (ln_105 hP) hb1 ?_
  refine Y_bipush (pc := 177) (v := (111 : Int32)) dX12_why_177 rfl ?_
  refine Y_icmp_ne (pc := 179) (tgt := 202) dX12_why_179 (by decide) (fun hc1 => ?_) (fun hc1 => ?_)
  · replace h := ifF hc1 h
    refine Y_bipush (pc := 202) (v := (107 : Int32)) dX12_why_202 rfl ?_
    cases h
    exact Y_iret (pc := 204) rfl (nar_ch (by decide)) dX12_why_204 hP ⟨rfl, rfl⟩
  · replace h := ifT hc1 h
    refine VV.sub [0, 1, 2, 3] rfl ?_
    exact b_X12_why_182  hP h
noncomputable def d_X12_why_158 (x3 : Int32) (x4 : Int32) (x5 : Int32) (M : Mem) : Option (Int32 × Mem) :=
  if x3 = (103 : Int32) then (
    d_X12_why_170 x3 x4 x5 M)
  else (
    if x3 = (109 : Int32) then (
      d_X12_why_170 x3 x4 x5 M)
    else (
      d_X12_why_182 x3 x4 x5 M))
theorem b_X12_why_158 {x3 : Int32} {x4 : Int32} {x5 : Int32} {M z} (hP : Lay M) (h : d_X12_why_158 x3 x4 x5 M = some z) : VV Lay k_X12_why 158 [(0, .ref 69), (3, .int x3), (4, .int x4), (5, .int x5)] [] M z.2 (Qv (some (.int z.1)) z.2) xF := by
  unfold d_X12_why_158 at h
  refine Y_iload_n (pc := 158) (j := 1) dX12_why_158 rfl rfl ?_
  refine Y_bipush (pc := 159) (v := (103 : Int32)) dX12_why_159 rfl ?_
  refine Y_icmp_eq (pc := 161) (tgt := 170) dX12_why_161 (by decide) (fun hc1 => ?_) (fun hc1 => ?_)
  · replace h := ifT hc1 h
    refine VV.sub [0, 1, 2, 3] rfl ?_
    exact b_X12_why_170  hP h
  · replace h := ifF hc1 h
    refine Y_iload_n (pc := 164) (j := 1) dX12_why_164 rfl rfl ?_
    refine Y_bipush (pc := 165) (v := (109 : Int32)) dX12_why_165 rfl ?_
    refine Y_icmp_ne (pc := 167) (tgt := 182) dX12_why_167 (by decide) (fun hc2 => ?_) (fun hc2 => ?_)
    · replace h := ifF hc2 h
      refine VV.sub [0, 1, 2, 3] rfl ?_
      exact b_X12_why_182  hP h
    · replace h := ifT hc2 h
      refine VV.sub [0, 1, 2, 3] rfl ?_
      exact b_X12_why_170  hP h
noncomputable def d_X12_why_139 (x3 : Int32) (x4 : Int32) (x5 : Int32) (M : Mem) : Option (Int32 × Mem) :=
  if x3 = (119 : Int32) then (
    okk (vp_in x5 168) <|
    (d_X12_isNumber (mI M 105 x5.toNatClampNeg) M).bind fun y1 =>
    if y1.1 = 0 then (
      some ((107 : Int32), y1.2))
    else (
      d_X12_why_158 x3 x4 x5 y1.2))
  else (
    d_X12_why_158 x3 x4 x5 M)
theorem b_X12_why_139 {x3 : Int32} {x4 : Int32} {x5 : Int32} {M z} (hP : Lay M) (h : d_X12_why_139 x3 x4 x5 M = some z) : VV Lay k_X12_why 139 [(0, .ref 69), (3, .int x3), (4, .int x4), (5, .int x5)] [] M z.2 (Qv (some (.int z.1)) z.2) xF := by
  unfold d_X12_why_139 at h
  refine Y_iload_n (pc := 139) (j := 1) dX12_why_139 rfl rfl ?_
  refine Y_bipush (pc := 140) (v := (119 : Int32)) dX12_why_140 rfl ?_
  refine Y_icmp_ne (pc := 142) (tgt := 158) dX12_why_142 (by decide) (fun hc1 => ?_) (fun hc1 => ?_)
  · replace h := ifF hc1 h
    refine VV.sub [0, 1, 2, 3] rfl ?_
    exact b_X12_why_158  hP h
  · replace h := ifT hc1 h
    refine Y_aload_n (pc := 145) (j := 0) dX12_why_145 rfl rfl ?_
    refine Z_getr (pc := 146) dX12_why_146 w8_110 (lk_69 hP) fr_12_44 (lr_69_44 hP) ?_
    refine Y_iload (pc := 149) (j := 3) dX12_why_149 rfl ?_
    obtain ⟨hb1, h⟩ := okE h
    refine Y_cald (pc := 151) dX12_why_151 (lk_105 hP) (ln_105 hP) hb1 ?_
    obtain ⟨y1, qy1, h⟩ := bindE h
    have cy1 := v_X12_isNumber hP qy1
    refine C_S1r (pc := 152) (k' := k_X12_isNumber) dX12_why_152 w9_204 i_X12_isNumber (Nat.le_of_ble_eq_true rfl) (Nat.le_of_ble_eq_true rfl) (Nat.le_of_ble_eq_true rfl) (cy1) ?_
    have hPy1 := cy1.1.1
    refine Y_if_eq (pc := 155) (tgt := 202) dX12_why_155 (by decide) (fun hc2 => ?_) (fun hc2 => ?_)
    · replace h := ifT hc2 h
      refine Y_bipush (pc := 202) (v := (107 : Int32)) dX12_why_202 rfl ?_
      cases h
      exact Y_iret (pc := 204) rfl (nar_ch (by decide)) dX12_why_204 hPy1 ⟨rfl, rfl⟩
    · replace h := ifF hc2 h
      refine VV.sub [0, 1, 2, 3] rfl ?_
      exact b_X12_why_158  hPy1 h
noncomputable def d_X12_why (M : Mem) : Option (Int32 × Mem) :=
  okk (vp_in (mI M 69 48) 12) <|
  bnd ((mI M 109 (mI M 69 48).toNatClampNeg)) fun b1 =>
  okk (vp_in (mI M 69 48) 12) <|
  bnd ((mI M 110 (mI M 69 48).toNatClampNeg)) fun b2 =>
  okk (vp_in b1 8) <|
  if b2 < (mI M 71 b1.toNatClampNeg) then (
    okk (vp_in (((40 : Int32) * b1) + b2) 320) <|
    bnd ((mI M 72 (((40 : Int32) * b1) + b2).toNatClampNeg)) fun b3 =>
    okk (vp_in (((40 : Int32) * b1) + b2) 320) <|
    bnd ((mI M 73 (((40 : Int32) * b1) + b2).toNatClampNeg)) fun b4 =>
    okk (vp_in (mI M 69 48) 12) <|
    (d_X12_takes b3 b4 M).bind fun y1 =>
    if (mI M 111 (mI M 69 48).toNatClampNeg) < y1.1 then (
      some ((115 : Int32), y1.2))
    else (
      (d_X12_hasNoRoom b3 y1.2).bind fun y2 =>
      if y2.1 = 0 then (
        (d_X12_top (0 : Int32) y2.2).bind fun y3 =>
        (d_X12_isPair b3 y3.2).bind fun y4 =>
        if y4.1 = 0 then (
          d_X12_why_139 b3 b4 y3.1 y4.2)
        else (
          if b3 = (61 : Int32) then (
            d_X12_why_139 b3 b4 y3.1 y4.2)
          else (
            okk (vp_in y3.1 168) <|
            (d_X12_isNumber (mI y4.2 105 y3.1.toNatClampNeg) y4.2).bind fun y5 =>
            if y5.1 = 0 then (
              some ((107 : Int32), y5.2))
            else (
              okk (vp_in (y3.1 - (1 : Int32)) 168) <|
              (d_X12_isNumber (mI y5.2 105 (y3.1 - (1 : Int32)).toNatClampNeg) y5.2).bind fun y6 =>
              if y6.1 = 0 then (
                some ((107 : Int32), y6.2))
              else (
                d_X12_why_139 b3 b4 y3.1 y6.2)))))
      else (
        some ((115 : Int32), y2.2))))
  else (
    some ((101 : Int32), M))
theorem b_X12_why {M z} (hP : Lay M) (h : d_X12_why M = some z) : VV Lay k_X12_why 0 [(0, .ref 69)] [] M z.2 (Qv (some (.int z.1)) z.2) xF := by
  unfold d_X12_why at h
  refine Y_aload_n (pc := 0) (j := 0) dX12_why_0 rfl rfl ?_
  refine Z_getr (pc := 1) dX12_why_1 w8_115 (lk_69 hP) fr_12_49 (lr_69_49 hP) ?_
  refine Y_aload_n (pc := 4) (j := 0) dX12_why_4 rfl rfl ?_
  refine Z_geti (pc := 5) dX12_why_5 w8_114 (lk_69 hP) fi_12_48 ?_
  obtain ⟨hb1, h⟩ := okE h
  refine Y_iald (pc := 8) dX12_why_8 (lk_109 hP) (ln_109 hP) hb1 ?_
  obtain ⟨b1, eb1, h⟩ := bndE h
  refine VV.topI eb1 ?_
  refine Y_istore_n (pc := 9) (lv1 := [(1, .int b1), (0, .ref 69)]) dX12_why_9 rfl (by decide) rfl ?_
  refine Y_aload_n (pc := 10) (j := 1) dX12_why_10 rfl rfl ?_
  refine Z_getr (pc := 11) dX12_why_11 w8_116 (lk_69 hP) fr_12_50 (lr_69_50 hP) ?_
  refine Y_aload_n (pc := 14) (j := 1) dX12_why_14 rfl rfl ?_
  refine Z_geti (pc := 15) dX12_why_15 w8_114 (lk_69 hP) fi_12_48 ?_
  obtain ⟨hb2, h⟩ := okE h
  refine Y_iald (pc := 18) dX12_why_18 (lk_110 hP) (ln_110 hP) hb2 ?_
  obtain ⟨b2, eb2, h⟩ := bndE h
  refine VV.topI eb2 ?_
  refine Y_istore_n (pc := 19) (lv1 := [(2, .int b2), (1, .int b1), (0, .ref 69)]) dX12_why_19 rfl (by decide) rfl ?_
  refine Y_iload_n (pc := 20) (j := 0) dX12_why_20 rfl rfl ?_
  refine Y_aload_n (pc := 21) (j := 2) dX12_why_21 rfl rfl ?_
  refine Z_getr (pc := 22) dX12_why_22 w8_69 (lk_69 hP) fr_12_3 (lr_69_3 hP) ?_
  refine Y_iload_n (pc := 25) (j := 1) dX12_why_25 rfl rfl ?_
  obtain ⟨hb3, h⟩ := okE h
  refine Y_iald (pc := 26) dX12_why_26 (lk_71 hP) (ln_71 hP) hb3 ?_
  refine Y_icmp_lt (pc := 27) (tgt := 33) dX12_why_27 (by decide) (fun hc1 => ?_) (fun hc1 => ?_)
  · replace h := ifT hc1 h
    refine Y_aload_n (pc := 33) (j := 2) dX12_why_33 rfl rfl ?_
    refine Z_getr (pc := 34) dX12_why_34 w8_70 (lk_69 hP) fr_12_4 (lr_69_4 hP) ?_
    refine Y_bipush (pc := 37) (v := (40 : Int32)) dX12_why_37 rfl ?_
    refine Y_iload_n (pc := 39) (j := 1) dX12_why_39 rfl rfl ?_
    refine Y_imul (pc := 40) dX12_why_40 ?_
    refine Y_iload_n (pc := 41) (j := 0) dX12_why_41 rfl rfl ?_
    refine Y_iadd (pc := 42) dX12_why_42 ?_
    obtain ⟨hb4, h⟩ := okE h
    refine Y_cald (pc := 43) dX12_why_43 (lk_72 hP) (ln_72 hP) hb4 ?_
    obtain ⟨b3, eb3, h⟩ := bndE h
    refine VV.topI eb3 ?_
    refine Y_istore_n (pc := 44) (lv1 := [(3, .int b3), (2, .int b2), (1, .int b1), (0, .ref 69)]) dX12_why_44 rfl (by decide) rfl ?_
    refine Y_aload_n (pc := 45) (j := 3) dX12_why_45 rfl rfl ?_
    refine Z_getr (pc := 46) dX12_why_46 w8_71 (lk_69 hP) fr_12_5 (lr_69_5 hP) ?_
    refine Y_bipush (pc := 49) (v := (40 : Int32)) dX12_why_49 rfl ?_
    refine Y_iload_n (pc := 51) (j := 2) dX12_why_51 rfl rfl ?_
    refine Y_imul (pc := 52) dX12_why_52 ?_
    refine Y_iload_n (pc := 53) (j := 1) dX12_why_53 rfl rfl ?_
    refine Y_iadd (pc := 54) dX12_why_54 ?_
    obtain ⟨hb5, h⟩ := okE h
    refine Y_iald (pc := 55) dX12_why_55 (lk_73 hP) (ln_73 hP) hb5 ?_
    obtain ⟨b4, eb4, h⟩ := bndE h
    refine VV.topI eb4 ?_
    refine Y_istore (pc := 56) (lv1 := [(4, .int b4), (3, .int b3), (2, .int b2), (1, .int b1), (0, .ref 69)]) dX12_why_56 (by decide) rfl ?_
    refine Y_aload_n (pc := 58) (j := 4) dX12_why_58 rfl rfl ?_
    refine Z_getr (pc := 59) dX12_why_59 w8_117 (lk_69 hP) fr_12_51 (lr_69_51 hP) ?_
    refine Y_aload_n (pc := 62) (j := 4) dX12_why_62 rfl rfl ?_
    refine Z_geti (pc := 63) dX12_why_63 w8_114 (lk_69 hP) fi_12_48 ?_
    obtain ⟨hb6, h⟩ := okE h
    refine Y_iald (pc := 66) dX12_why_66 (lk_111 hP) (ln_111 hP) hb6 ?_
    refine Y_aload_n (pc := 67) (j := 4) dX12_why_67 rfl rfl ?_
    refine Y_iload_n (pc := 68) (j := 1) dX12_why_68 rfl rfl ?_
    refine Y_iload (pc := 69) (j := 0) dX12_why_69 rfl ?_
    obtain ⟨y1, qy1, h⟩ := bindE h
    have cy1 := v_X12_takes hP qy1
    refine C_V2r (pc := 71) (k' := k_X12_takes) dX12_why_71 w9_192 i_X12_takes (lk_69 hP) ⟨Nat.le_of_ble_eq_true rfl, Nat.le_of_ble_eq_true rfl⟩ rfl (Nat.le_of_ble_eq_true rfl) (Nat.le_of_ble_eq_true rfl) (Nat.le_of_ble_eq_true rfl) (cy1) ?_
    have hPy1 := cy1.1.1
    refine Y_icmp_lt (pc := 74) (tgt := 85) dX12_why_74 (by decide) (fun hc2 => ?_) (fun hc2 => ?_)
    · replace h := ifT hc2 h
      refine Y_bipush (pc := 85) (v := (115 : Int32)) dX12_why_85 rfl ?_
      cases h
      exact Y_iret (pc := 87) rfl (nar_ch (by decide)) dX12_why_87 hPy1 ⟨rfl, rfl⟩
    · replace h := ifF hc2 h
      refine Y_aload_n (pc := 77) (j := 4) dX12_why_77 rfl rfl ?_
      refine Y_iload_n (pc := 78) (j := 1) dX12_why_78 rfl rfl ?_
      obtain ⟨y2, qy2, h⟩ := bindE h
      have cy2 := v_X12_hasNoRoom hPy1 qy2
      refine C_V1r (pc := 79) (k' := k_X12_hasNoRoom) dX12_why_79 w9_196 i_X12_hasNoRoom (lk_69 hPy1) ⟨Nat.le_of_ble_eq_true rfl, Nat.le_of_ble_eq_true rfl⟩ rfl (Nat.le_of_ble_eq_true rfl) (Nat.le_of_ble_eq_true rfl) (Nat.le_of_ble_eq_true rfl) (cy2) ?_
      have hPy2 := cy2.1.1
      refine Y_if_eq (pc := 82) (tgt := 88) dX12_why_82 (by decide) (fun hc3 => ?_) (fun hc3 => ?_)
      · replace h := ifT hc3 h
        refine Y_aload_n (pc := 88) (j := 4) dX12_why_88 rfl rfl ?_
        refine Y_iconst (pc := 89) (v := (0 : Int32)) dX12_why_89 rfl ?_
        obtain ⟨y3, qy3, h⟩ := bindE h
        have cy3 := v_X12_top hPy2 qy3
        refine C_V1r (pc := 90) (k' := k_X12_top) dX12_why_90 w9_200 i_X12_top (lk_69 hPy2) ⟨Nat.le_of_ble_eq_true rfl, Nat.le_of_ble_eq_true rfl⟩ rfl (Nat.le_of_ble_eq_true rfl) (Nat.le_of_ble_eq_true rfl) (Nat.le_of_ble_eq_true rfl) (cy3) ?_
        have hPy3 := cy3.1.1
        refine Y_istore (pc := 93) (lv1 := [(5, .int y3.1), (4, .int b4), (3, .int b3), (2, .int b2), (1, .int b1), (0, .ref 69)]) dX12_why_93 (by decide) rfl ?_
        refine Y_iload_n (pc := 95) (j := 2) dX12_why_95 rfl rfl ?_
        obtain ⟨y4, qy4, h⟩ := bindE h
        have cy4 := v_X12_isPair hPy3 qy4
        refine C_S1r (pc := 96) (k' := k_X12_isPair) dX12_why_96 w9_129 i_X12_isPair (Nat.le_of_ble_eq_true rfl) (Nat.le_of_ble_eq_true rfl) (Nat.le_of_ble_eq_true rfl) (cy4) ?_
        have hPy4 := cy4.1.1
        refine Y_if_eq (pc := 99) (tgt := 139) dX12_why_99 (by decide) (fun hc4 => ?_) (fun hc4 => ?_)
        · replace h := ifT hc4 h
          refine VV.sub [5, 2, 1, 0] rfl ?_
          exact b_X12_why_139  hPy4 h
        · replace h := ifF hc4 h
          refine Y_iload_n (pc := 102) (j := 2) dX12_why_102 rfl rfl ?_
          refine Y_bipush (pc := 103) (v := (61 : Int32)) dX12_why_103 rfl ?_
          refine Y_icmp_eq (pc := 105) (tgt := 139) dX12_why_105 (by decide) (fun hc5 => ?_) (fun hc5 => ?_)
          · replace h := ifT hc5 h
            refine VV.sub [5, 2, 1, 0] rfl ?_
            exact b_X12_why_139  hPy4 h
          · replace h := ifF hc5 h
            refine Y_aload_n (pc := 108) (j := 5) dX12_why_108 rfl rfl ?_
            refine Z_getr (pc := 109) dX12_why_109 w8_110 (lk_69 hPy4) fr_12_44 (lr_69_44 hPy4) ?_
            refine Y_iload (pc := 112) (j := 0) dX12_why_112 rfl ?_
            obtain ⟨hb7, h⟩ := okE h
            refine Y_cald (pc := 114) dX12_why_114 (lk_105 hPy4) (ln_105 hPy4) hb7 ?_
            obtain ⟨y5, qy5, h⟩ := bindE h
            have cy5 := v_X12_isNumber hPy4 qy5
            refine C_S1r (pc := 115) (k' := k_X12_isNumber) dX12_why_115 w9_204 i_X12_isNumber (Nat.le_of_ble_eq_true rfl) (Nat.le_of_ble_eq_true rfl) (Nat.le_of_ble_eq_true rfl) (cy5) ?_
            have hPy5 := cy5.1.1
            refine Y_if_eq (pc := 118) (tgt := 136) dX12_why_118 (by decide) (fun hc6 => ?_) (fun hc6 => ?_)
            · replace h := ifT hc6 h
              refine Y_bipush (pc := 136) (v := (107 : Int32)) dX12_why_136 rfl ?_
              cases h
              exact Y_iret (pc := 138) rfl (nar_ch (by decide)) dX12_why_138 hPy5 ⟨rfl, rfl⟩
            · replace h := ifF hc6 h
              refine Y_aload_n (pc := 121) (j := 5) dX12_why_121 rfl rfl ?_
              refine Z_getr (pc := 122) dX12_why_122 w8_110 (lk_69 hPy5) fr_12_44 (lr_69_44 hPy5) ?_
              refine Y_iload (pc := 125) (j := 0) dX12_why_125 rfl ?_
              refine Y_iconst (pc := 127) (v := (1 : Int32)) dX12_why_127 rfl ?_
              refine Y_isub (pc := 128) dX12_why_128 ?_
              obtain ⟨hb8, h⟩ := okE h
              refine Y_cald (pc := 129) dX12_why_129 (lk_105 hPy5) (ln_105 hPy5) hb8 ?_
              obtain ⟨y6, qy6, h⟩ := bindE h
              have cy6 := v_X12_isNumber hPy5 qy6
              refine C_S1r (pc := 130) (k' := k_X12_isNumber) dX12_why_130 w9_204 i_X12_isNumber (Nat.le_of_ble_eq_true rfl) (Nat.le_of_ble_eq_true rfl) (Nat.le_of_ble_eq_true rfl) (cy6) ?_
              have hPy6 := cy6.1.1
              refine Y_if_ne (pc := 133) (tgt := 139) dX12_why_133 (by decide) (fun hc7 => ?_) (fun hc7 => ?_)
              · replace h := ifF hc7 h
                refine VV.sub [5, 2, 1, 0] rfl ?_
                exact b_X12_why_139  hPy6 h
              · replace h := ifT hc7 h
                refine Y_bipush (pc := 136) (v := (107 : Int32)) dX12_why_136 rfl ?_
                cases h
                exact Y_iret (pc := 138) rfl (nar_ch (by decide)) dX12_why_138 hPy6 ⟨rfl, rfl⟩
      · replace h := ifF hc3 h
        refine Y_bipush (pc := 85) (v := (115 : Int32)) dX12_why_85 rfl ?_
        cases h
        exact Y_iret (pc := 87) rfl (nar_ch (by decide)) dX12_why_87 hPy2 ⟨rfl, rfl⟩
  · replace h := ifF hc1 h
    refine Y_bipush (pc := 30) (v := (101 : Int32)) dX12_why_30 rfl ?_
    cases h
    exact Y_iret (pc := 32) rfl (nar_ch (by decide)) dX12_why_32 hP ⟨rfl, rfl⟩
theorem v_X12_why {M z} (hP : Lay M) (h : d_X12_why M = some z) : CC Lay k_X12_why [.ref 69] M z.2 (Qv (some (.int z.1)) z.2) xF :=
  CC.ofVV (by decide) rfl (Nat.le_of_ble_eq_true rfl) (b_X12_why hP h)
end VCR
