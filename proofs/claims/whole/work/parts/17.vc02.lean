/-! ===== what the methods reckon (printed by a program) ===== -/
section VCR
noncomputable def d_X3_pushPut (o : Nat) (x1 : Int32) (x2 : Int32) (M : Mem) : Option (Unit × Mem) :=
  okk (vp_in ((mI M o 9) - (1 : Int32)) 12) <|
  okk (vp_in ((mI M o 9) - (1 : Int32)) 12) <|
  bnd (sI M (o + 8) ((mI M o 9) - (1 : Int32)).toNatClampNeg ((mI M (o + 8) ((mI M o 9) - (1 : Int32)).toNatClampNeg) + (1 : Int32))) fun M1 =>
  (d_X3_fromTop o (1 : Int32) M1).bind fun y1 =>
  (d_X8_put o y1.1 x1 x2 y1.2).bind fun y2 =>
  some ((), y2.2)
theorem b_X3_pushPut {o : Nat} {x1 : Int32} {x2 : Int32} {M z} (ho : o = 18 ∨ o = 28) (hP : Lay M) (h : d_X3_pushPut o x1 x2 M = some z) : VV Lay k_X3_pushPut 0 [(0, .ref o), (1, .int x1), (2, .int x2)] [] M z.2 (Qv (none) z.2) xF := by
  unfold d_X3_pushPut at h
  refine Y_aload_n (j := 0) dX3_pushPut_0 rfl rfl ?_
  refine Z_getr dX3_pushPut_1 w1_176 (lo_0 hP ho) fr_4_5 (lor_0_5 hP ho) ?_
  refine Y_aload_n (j := 0) dX3_pushPut_4 rfl rfl ?_
  refine Z_geti dX3_pushPut_5 w1_184 (lo_0 hP ho) fi_4_9 ?_
  refine Y_iconst (v := (1 : Int32)) dX3_pushPut_8 rfl ?_
  refine Y_isub dX3_pushPut_9 ?_
  refine Y_dup2 dX3_pushPut_10 rfl rfl ?_
  obtain ⟨hb1, h⟩ := okE h
  refine Y_iald dX3_pushPut_11 (lo_8 hP ho) (lon_8 hP ho) hb1 ?_
  refine Y_iconst (v := (1 : Int32)) dX3_pushPut_12 rfl ?_
  refine Y_iadd dX3_pushPut_13 ?_
  obtain ⟨hb2, h⟩ := okE h
  refine Y_iast dX3_pushPut_14 (lo_8 hP ho) (lon_8 hP ho) hb2 ?_
  obtain ⟨M1, eM1, h⟩ := bndE h
  refine VV.mem eM1 ?_
  have hP1 := hP.wI eM1
  refine Y_aload_n (j := 0) dX3_pushPut_15 rfl rfl ?_
  refine Z_getr dX3_pushPut_16 w1_171 (lo_0 hP1 ho) fr_4_2 (lor_0_2 hP1 ho) ?_
  refine Y_aload_n (j := 0) dX3_pushPut_19 rfl rfl ?_
  refine Y_iconst (v := (1 : Int32)) dX3_pushPut_20 rfl ?_
  obtain ⟨y1, qy1, h⟩ := bindE h
  have cy1 := v_X3_fromTop ho hP1 qy1
  refine C_V1r dX3_pushPut_21 w5_106 i_X3_fromTop (lo_0 hP1 ho) ⟨Nat.le_of_ble_eq_true rfl, Nat.le_of_ble_eq_true rfl⟩ rfl (Nat.le_of_ble_eq_true rfl) (Nat.le_of_ble_eq_true rfl) (Nat.le_of_ble_eq_true rfl) (cy1) ?_
  have hPy1 := cy1.1.1
  refine Y_iload_n (j := 1) dX3_pushPut_24 rfl rfl ?_
  refine Y_iload_n (j := 2) dX3_pushPut_25 rfl rfl ?_
  obtain ⟨y2, qy2, h⟩ := bindE h
  have cy2 := v_X8_put ho hPy1 qy2
  refine C_V3o dX3_pushPut_26 w5_38 i_X8_put (lo_1 hPy1 ho) ⟨Nat.le_of_ble_eq_true rfl, Nat.le_of_ble_eq_true rfl⟩ rfl (Nat.le_of_ble_eq_true rfl) (Nat.le_of_ble_eq_true rfl) (Nat.le_of_ble_eq_true rfl) (cy2) ?_
  have hPy2 := cy2.1.1
  cases h
  exact Y_vret rfl dX3_pushPut_29 hPy2 ⟨rfl, rfl⟩
theorem v_X3_pushPut {o : Nat} {x1 : Int32} {x2 : Int32} {M z} (ho : o = 18 ∨ o = 28) (hP : Lay M) (h : d_X3_pushPut o x1 x2 M = some z) : CC Lay k_X3_pushPut [.ref o, .int x1, .int x2] M z.2 (Qv (none) z.2) xF :=
  CC.ofVV (by decide) rfl (Nat.le_of_ble_eq_true rfl) (b_X3_pushPut ho hP h)
noncomputable def d_X3_failWith_45 (o : Nat) (x1 : Int32) (x2 : Int32) (M : Mem) : Option (Unit × Mem) :=
  if 0 ≤ x2 then (
    bnd (sI M o 9 (x2 + (1 : Int32))) fun M1 =>
    okk (vp_in x2 12) <|
    okk (vp_in (mI M1 (o + 6) x2.toNatClampNeg) 8) <|
    okk (vp_in x2 12) <|
    bnd (sI M1 (o + 7) x2.toNatClampNeg (mI M1 5 (mI M1 (o + 6) x2.toNatClampNeg).toNatClampNeg)) fun M2 =>
    okk (vp_in x2 12) <|
    bnd (sI M2 (o + 8) x2.toNatClampNeg (0 : Int32)) fun M3 =>
    (d_X3_pushPut o (105 : Int32) x1 M3).bind fun y1 =>
    some ((), y1.2))
  else (
    (d_X3_lineAhead o M).bind fun y2 =>
    (d_X3_endWith o x1 y2.1 y2.2).bind fun y3 =>
    some ((), y3.2))
theorem b_X3_failWith_45 {o : Nat} {x1 : Int32} {x2 : Int32} {M z} (ho : o = 18 ∨ o = 28) (hP : Lay M) (h : d_X3_failWith_45 o x1 x2 M = some z) : VV Lay k_X3_failWith 45 [(0, .ref o), (1, .int x1), (2, .int x2)] [] M z.2 (Qv (none) z.2) xF := by
  unfold d_X3_failWith_45 at h
  refine Y_iload_n (j := 2) dX3_failWith_45 rfl rfl ?_
  refine Y_if_ge (tgt := 59) dX3_failWith_46 (by decide) (fun hc1 => ?_) (fun hc1 => ?_)
  · replace h := ifT hc1 h
    refine Y_aload_n (j := 0) dX3_failWith_59 rfl rfl ?_
    refine Y_iload_n (j := 2) dX3_failWith_60 rfl rfl ?_
    refine Y_iconst (v := (1 : Int32)) dX3_failWith_61 rfl ?_
    refine Y_iadd dX3_failWith_62 ?_
    refine Z_puti dX3_failWith_63 w1_184 (lo_0 hP ho) fi_4_9 (Or.inl rfl) rfl ?_
    obtain ⟨M1, eM1, h⟩ := bndE h
    refine VV.mem eM1 ?_
    have hP1 := hP.wI eM1
    refine Y_aload_n (j := 0) dX3_failWith_66 rfl rfl ?_
    refine Z_getr dX3_failWith_67 w1_175 (lo_0 hP1 ho) fr_4_4 (lor_0_4 hP1 ho) ?_
    refine Y_iload_n (j := 2) dX3_failWith_70 rfl rfl ?_
    refine Y_aload_n (j := 0) dX3_failWith_71 rfl rfl ?_
    refine Z_getr dX3_failWith_72 w1_167 (lo_0 hP1 ho) fr_4_0 (lor_0_0 hP1 ho) ?_
    refine Z_getr dX3_failWith_75 w1_60 (lk_2 hP1) fr_5_2 (lr_2_2 hP1) ?_
    refine Y_aload_n (j := 0) dX3_failWith_78 rfl rfl ?_
    refine Z_getr dX3_failWith_79 w1_174 (lo_0 hP1 ho) fr_4_3 (lor_0_3 hP1 ho) ?_
    refine Y_iload_n (j := 2) dX3_failWith_82 rfl rfl ?_
    obtain ⟨hb1, h⟩ := okE h
    refine Y_iald dX3_failWith_83 (lo_6 hP1 ho) (lon_6 hP1 ho) hb1 ?_
    obtain ⟨hb2, h⟩ := okE h
    refine Y_iald dX3_failWith_84 (lk_5 hP1) (ln_5 hP1) hb2 ?_
    obtain ⟨hb3, h⟩ := okE h
    refine Y_iast dX3_failWith_85 (lo_7 hP1 ho) (lon_7 hP1 ho) hb3 ?_
    obtain ⟨M2, eM2, h⟩ := bndE h
    refine VV.mem eM2 ?_
    have hP2 := hP1.wI eM2
    refine Y_aload_n (j := 0) dX3_failWith_86 rfl rfl ?_
    refine Z_getr dX3_failWith_87 w1_176 (lo_0 hP2 ho) fr_4_5 (lor_0_5 hP2 ho) ?_
    refine Y_iload_n (j := 2) dX3_failWith_90 rfl rfl ?_
    refine Y_iconst (v := (0 : Int32)) dX3_failWith_91 rfl ?_
    obtain ⟨hb4, h⟩ := okE h
    refine Y_iast dX3_failWith_92 (lo_8 hP2 ho) (lon_8 hP2 ho) hb4 ?_
    obtain ⟨M3, eM3, h⟩ := bndE h
    refine VV.mem eM3 ?_
    have hP3 := hP2.wI eM3
    refine Y_aload_n (j := 0) dX3_failWith_93 rfl rfl ?_
    refine Y_bipush (v := (105 : Int32)) dX3_failWith_94 rfl ?_
    refine Y_iload_n (j := 1) dX3_failWith_96 rfl rfl ?_
    obtain ⟨y1, qy1, h⟩ := bindE h
    have cy1 := v_X3_pushPut ho hP3 qy1
    refine C_V2o dX3_failWith_97 w5_169 i_X3_pushPut (lo_0 hP3 ho) ⟨Nat.le_of_ble_eq_true rfl, Nat.le_of_ble_eq_true rfl⟩ rfl (Nat.le_of_ble_eq_true rfl) (Nat.le_of_ble_eq_true rfl) (Nat.le_of_ble_eq_true rfl) (cy1) ?_
    have hPy1 := cy1.1.1
    cases h
    exact Y_vret rfl dX3_failWith_100 hPy1 ⟨rfl, rfl⟩
  · replace h := ifF hc1 h
    refine Y_aload_n (j := 0) dX3_failWith_49 rfl rfl ?_
    refine Y_iload_n (j := 1) dX3_failWith_50 rfl rfl ?_
    refine Y_aload_n (j := 0) dX3_failWith_51 rfl rfl ?_
    obtain ⟨y2, qy2, h⟩ := bindE h
    have cy2 := v_X3_lineAhead ho hP qy2
    refine C_V0r dX3_failWith_52 w5_59 i_X3_lineAhead (lo_0 hP ho) ⟨Nat.le_of_ble_eq_true rfl, Nat.le_of_ble_eq_true rfl⟩ rfl (Nat.le_of_ble_eq_true rfl) (Nat.le_of_ble_eq_true rfl) (Nat.le_of_ble_eq_true rfl) (cy2) ?_
    have hPy2 := cy2.1.1
    obtain ⟨y3, qy3, h⟩ := bindE h
    have cy3 := v_X3_endWith ho hPy2 qy3
    refine C_V2o dX3_failWith_55 w5_71 i_X3_endWith (lo_0 hPy2 ho) ⟨Nat.le_of_ble_eq_true rfl, Nat.le_of_ble_eq_true rfl⟩ rfl (Nat.le_of_ble_eq_true rfl) (Nat.le_of_ble_eq_true rfl) (Nat.le_of_ble_eq_true rfl) (cy3) ?_
    have hPy3 := cy3.1.1
    cases h
    exact Y_vret rfl dX3_failWith_58 hPy3 ⟨rfl, rfl⟩
noncomputable def d_X3_failWith_17b (k17 : (Int32) → Mem → Option (Unit × Mem)) (o : Nat) (x1 : Int32) (x2 : Int32) (M : Mem) : Option (Unit × Mem) :=
  if x2 < 0 then (
    d_X3_failWith_45 o x1 x2 M)
  else (
    okk (vp_in x2 12) <|
    okk (vp_in (mI M (o + 6) x2.toNatClampNeg) 8) <|
    if (mI M 5 (mI M (o + 6) x2.toNatClampNeg).toNatClampNeg) = (-1 : Int32) then (
      bnd ((x2 + (-1 : Int32))) fun b1 =>
      k17 (b1) M)
    else (
      d_X3_failWith_45 o x1 x2 M))
theorem b_X3_failWith_17b {k17 : (Int32) → Mem → Option (Unit × Mem)} {o : Nat} {x1 : Int32} {x2 : Int32} {M z} (ho : o = 18 ∨ o = 28) (hk17 : ∀ (a : (Int32)) (M : Mem) (z : Unit × Mem), Lay M → k17 a M = some z → VV Lay k_X3_failWith 17 [(0, .ref o), (1, .int x1), (2, .int a)] [] M z.2 (Qv (none) z.2) xF) (hP : Lay M) (h : d_X3_failWith_17b k17 o x1 x2 M = some z) : VV Lay k_X3_failWith 17 [(0, .ref o), (1, .int x1), (2, .int x2)] [] M z.2 (Qv (none) z.2) xF := by
  unfold d_X3_failWith_17b at h
  refine Y_iload_n (j := 2) dX3_failWith_17 rfl rfl ?_
  refine Y_if_lt (tgt := 45) dX3_failWith_18 (by decide) (fun hc1 => ?_) (fun hc1 => ?_)
  · replace h := ifT hc1 h
    refine VV.sub [0, 1, 2] rfl ?_
    exact b_X3_failWith_45 ho hP h
  · replace h := ifF hc1 h
    refine Y_aload_n (j := 0) dX3_failWith_21 rfl rfl ?_
    refine Z_getr dX3_failWith_22 w1_167 (lo_0 hP ho) fr_4_0 (lor_0_0 hP ho) ?_
    refine Z_getr dX3_failWith_25 w1_60 (lk_2 hP) fr_5_2 (lr_2_2 hP) ?_
    refine Y_aload_n (j := 0) dX3_failWith_28 rfl rfl ?_
    refine Z_getr dX3_failWith_29 w1_174 (lo_0 hP ho) fr_4_3 (lor_0_3 hP ho) ?_
    refine Y_iload_n (j := 2) dX3_failWith_32 rfl rfl ?_
    obtain ⟨hb1, h⟩ := okE h
    refine Y_iald dX3_failWith_33 (lo_6 hP ho) (lon_6 hP ho) hb1 ?_
    obtain ⟨hb2, h⟩ := okE h
    refine Y_iald dX3_failWith_34 (lk_5 hP) (ln_5 hP) hb2 ?_
    refine Y_iconst (v := (-1 : Int32)) dX3_failWith_35 rfl ?_
    refine Y_icmp_ne (tgt := 45) dX3_failWith_36 (by decide) (fun hc2 => ?_) (fun hc2 => ?_)
    · replace h := ifF hc2 h
      refine VV.sub [0, 1, 2] rfl ?_
      exact b_X3_failWith_45 ho hP h
    · replace h := ifT hc2 h
      obtain ⟨b1, eb1, h⟩ := bndE h
      refine Y_iinc (j := 2) (v := b1) (lv1 := [(2, .int b1), (0, .ref o), (1, .int x1)]) dX3_failWith_39 rfl eb1.symm (by decide) rfl ?_
      refine Y_goto (tgt := 17) dX3_failWith_42 (by decide) ?_
      refine VV.sub [1, 2, 0] rfl ?_
      exact hk17 _ _ _ hP h
noncomputable def d_X3_failWith_17 (o : Nat) (x1 : Int32) : Nat → (Int32) → Mem → Option (Unit × Mem) := lp fun k a M => d_X3_failWith_17b k o x1 a M
theorem b_X3_failWith_17 {o : Nat} {x1 : Int32} (ho : o = 18 ∨ o = 28) (n : Nat) : ∀ (a : (Int32)) (M : Mem) (z : Unit × Mem), d_X3_failWith_17 o x1 n a M = some z → Lay M → VV Lay k_X3_failWith 17 [(0, .ref o), (1, .int x1), (2, .int a)] [] M z.2 (Qv (none) z.2) xF :=
  lp_ind (fun k hk a M z h hP => b_X3_failWith_17b ho (fun a M z hP h => hk a M z h hP) hP h) n
noncomputable def d_X3_failWith (o : Nat) (x1 : Int32) (M : Mem) : Option (Unit × Mem) :=
  bnd (sI M o 12 ((mI M o 12) + (1 : Int32))) fun M1 =>
  bnd (((mI M1 o 9) - (1 : Int32))) fun b1 =>
  d_X3_failWith_17 o x1 fuel (b1) M1
theorem b_X3_failWith {o : Nat} {x1 : Int32} {M z} (ho : o = 18 ∨ o = 28) (hP : Lay M) (h : d_X3_failWith o x1 M = some z) : VV Lay k_X3_failWith 0 [(0, .ref o), (1, .int x1)] [] M z.2 (Qv (none) z.2) xF := by
  unfold d_X3_failWith at h
  refine Y_aload_n (j := 0) dX3_failWith_0 rfl rfl ?_
  refine Y_dup dX3_failWith_1 rfl ?_
  refine Z_geti dX3_failWith_2 w1_191 (lo_0 hP ho) fi_4_12 ?_
  refine Y_iconst (v := (1 : Int32)) dX3_failWith_5 rfl ?_
  refine Y_iadd dX3_failWith_6 ?_
  refine Z_puti dX3_failWith_7 w1_191 (lo_0 hP ho) fi_4_12 (Or.inl rfl) rfl ?_
  obtain ⟨M1, eM1, h⟩ := bndE h
  refine VV.mem eM1 ?_
  have hP1 := hP.wI eM1
  refine Y_aload_n (j := 0) dX3_failWith_10 rfl rfl ?_
  refine Z_geti dX3_failWith_11 w1_184 (lo_0 hP1 ho) fi_4_9 ?_
  refine Y_iconst (v := (1 : Int32)) dX3_failWith_14 rfl ?_
  refine Y_isub dX3_failWith_15 ?_
  obtain ⟨b1, eb1, h⟩ := bndE h
  refine VV.topI eb1 ?_
  refine Y_istore_n (lv1 := [(2, .int b1), (0, .ref o), (1, .int x1)]) dX3_failWith_16 rfl (by decide) rfl ?_
  refine VV.sub [1, 2, 0] rfl ?_
  exact b_X3_failWith_17 ho fuel _ _ _ h hP1
theorem v_X3_failWith {o : Nat} {x1 : Int32} {M z} (ho : o = 18 ∨ o = 28) (hP : Lay M) (h : d_X3_failWith o x1 M = some z) : CC Lay k_X3_failWith [.ref o, .int x1] M z.2 (Qv (none) z.2) xF :=
  CC.ofVV (by decide) rfl (Nat.le_of_ble_eq_true rfl) (b_X3_failWith ho hP h)
noncomputable def d_X3_take (o : Nat) (M : Mem) : Option (Int32 × Mem) :=
  okk (vp_in ((mI M o 9) - (1 : Int32)) 12) <|
  okk (vp_in ((mI M o 9) - (1 : Int32)) 12) <|
  bnd (sI M (o + 8) ((mI M o 9) - (1 : Int32)).toNatClampNeg ((mI M (o + 8) ((mI M o 9) - (1 : Int32)).toNatClampNeg) - (1 : Int32))) fun M1 =>
  (d_X3_fromTop o (0 : Int32) M1).bind fun y1 =>
  some (y1.1, y1.2)
theorem b_X3_take {o : Nat} {M z} (ho : o = 18 ∨ o = 28) (hP : Lay M) (h : d_X3_take o M = some z) : VV Lay k_X3_take 0 [(0, .ref o)] [] M z.2 (Qv (some (.int z.1)) z.2) xF := by
  unfold d_X3_take at h
  refine Y_aload_n (j := 0) dX3_take_0 rfl rfl ?_
  refine Z_getr dX3_take_1 w1_176 (lo_0 hP ho) fr_4_5 (lor_0_5 hP ho) ?_
  refine Y_aload_n (j := 0) dX3_take_4 rfl rfl ?_
  refine Z_geti dX3_take_5 w1_184 (lo_0 hP ho) fi_4_9 ?_
  refine Y_iconst (v := (1 : Int32)) dX3_take_8 rfl ?_
  refine Y_isub dX3_take_9 ?_
  refine Y_dup2 dX3_take_10 rfl rfl ?_
  obtain ⟨hb1, h⟩ := okE h
  refine Y_iald dX3_take_11 (lo_8 hP ho) (lon_8 hP ho) hb1 ?_
  refine Y_iconst (v := (1 : Int32)) dX3_take_12 rfl ?_
  refine Y_isub dX3_take_13 ?_
  obtain ⟨hb2, h⟩ := okE h
  refine Y_iast dX3_take_14 (lo_8 hP ho) (lon_8 hP ho) hb2 ?_
  obtain ⟨M1, eM1, h⟩ := bndE h
  refine VV.mem eM1 ?_
  have hP1 := hP.wI eM1
  refine Y_aload_n (j := 0) dX3_take_15 rfl rfl ?_
  refine Y_iconst (v := (0 : Int32)) dX3_take_16 rfl ?_
  obtain ⟨y1, qy1, h⟩ := bindE h
  have cy1 := v_X3_fromTop ho hP1 qy1
  refine C_V1r dX3_take_17 w5_106 i_X3_fromTop (lo_0 hP1 ho) ⟨Nat.le_of_ble_eq_true rfl, Nat.le_of_ble_eq_true rfl⟩ rfl (Nat.le_of_ble_eq_true rfl) (Nat.le_of_ble_eq_true rfl) (Nat.le_of_ble_eq_true rfl) (cy1) ?_
  have hPy1 := cy1.1.1
  cases h
  exact Y_iret rfl rfl dX3_take_20 hPy1 ⟨rfl, rfl⟩
theorem v_X3_take {o : Nat} {M z} (ho : o = 18 ∨ o = 28) (hP : Lay M) (h : d_X3_take o M = some z) : CC Lay k_X3_take [.ref o] M z.2 (Qv (some (.int z.1)) z.2) xF :=
  CC.ofVV (by decide) rfl (Nat.le_of_ble_eq_true rfl) (b_X3_take ho hP h)
noncomputable def d_X8_isNull (o : Nat) (x1 : Int32) (M : Mem) : Option (Int32 × Mem) :=
  okk (vp_in x1 549) <|
  bnd ((mI M (o + 2) x1.toNatClampNeg)) fun b1 =>
  if b1 = (102 : Int32) then (
    (d_X8_isUndefined o x1 M).bind fun y1 =>
    if y1.1 = 0 then (
      okk (vp_in x1 549) <|
      if (Op.cmpValue (FP.dcmp (mD y1.2 (o + 4) x1.toNatClampNeg) FP.dconst0) .l) = 0 then (
        some ((1 : Int32), y1.2))
      else (
        some ((0 : Int32), y1.2)))
    else (
      some ((0 : Int32), y1.2)))
  else if b1 = (105 : Int32) then (
    okk (vp_in x1 549) <|
    if (mI M (o + 3) x1.toNatClampNeg) = 0 then (
      some ((1 : Int32), M))
    else (
      some ((0 : Int32), M)))
  else (
    okk (vp_in x1 549) <|
    if (mI M (o + 2) x1.toNatClampNeg) = (110 : Int32) then (
      some ((1 : Int32), M))
    else (
      some ((0 : Int32), M)))
theorem b_X8_isNull {o : Nat} {x1 : Int32} {M z} (ho : o = 18 ∨ o = 28) (hP : Lay M) (h : d_X8_isNull o x1 M = some z) : VV Lay k_X8_isNull 0 [(0, .ref (o + 1)), (1, .int x1)] [] M z.2 (Qv (some (.int z.1)) z.2) xF := by
  unfold d_X8_isNull at h
  refine Y_aload_n (j := 0) dX8_isNull_0 rfl rfl ?_
  refine Z_getr dX8_isNull_1 w1_149 (lo_1 hP ho) fr_8_0 (lor_1_0 hP ho) ?_
  refine Y_iload_n (j := 1) dX8_isNull_4 rfl rfl ?_
  obtain ⟨hb1, h⟩ := okE h
  refine Y_cald dX8_isNull_5 (lo_2 hP ho) (lon_2 hP ho) hb1 ?_
  obtain ⟨b1, eb1, h⟩ := bndE h
  refine VV.topI eb1 ?_
  refine Y_lookup dX8_isNull_6 (by decide) [(102, 47), (105, 32)] 72 (by decide) (by decide) ?_ ?_
  · refine xs_cons ?_ <| xs_cons ?_ <| xs_nil
    · intro e9
      replace h := ifT (by rw [e9]; decide) h
      refine Y_aload_n (j := 0) dX8_isNull_47 rfl rfl ?_
      refine Y_iload_n (j := 1) dX8_isNull_48 rfl rfl ?_
      obtain ⟨y1, qy1, h⟩ := bindE h
      have cy1 := v_X8_isUndefined ho hP qy1
      refine C_V1r dX8_isNull_49 w5_131 i_X8_isUndefined (lo_1 hP ho) ⟨Nat.le_of_ble_eq_true rfl, Nat.le_of_ble_eq_true rfl⟩ rfl (Nat.le_of_ble_eq_true rfl) (Nat.le_of_ble_eq_true rfl) (Nat.le_of_ble_eq_true rfl) (cy1) ?_
      have hPy1 := cy1.1.1
      refine Y_if_ne (tgt := 70) dX8_isNull_52 (by decide) (fun hc1 => ?_) (fun hc1 => ?_)
      · replace h := ifF hc1 h
        refine Y_iconst (v := (0 : Int32)) dX8_isNull_70 rfl ?_
        cases h
        exact Y_iret rfl (nar_bo (by decide)) dX8_isNull_71 hPy1 ⟨rfl, rfl⟩
      · replace h := ifT hc1 h
        refine Y_aload_n (j := 0) dX8_isNull_55 rfl rfl ?_
        refine Z_getr dX8_isNull_56 w1_154 (lo_1 hPy1 ho) fr_8_2 (lor_1_2 hPy1 ho) ?_
        refine Y_iload_n (j := 1) dX8_isNull_59 rfl rfl ?_
        obtain ⟨hb2, h⟩ := okE h
        refine Y_dald dX8_isNull_60 (lo_4 hPy1 ho) (lon_4 hPy1 ho) hb2 ?_
        refine Y_dconst0 dX8_isNull_61 ?_
        refine Y_dcmp dX8_isNull_62 ?_
        refine Y_if_ne (tgt := 70) dX8_isNull_63 (by decide) (fun hc2 => ?_) (fun hc2 => ?_)
        · replace h := ifF hc2 h
          refine Y_iconst (v := (0 : Int32)) dX8_isNull_70 rfl ?_
          cases h
          exact Y_iret rfl (nar_bo (by decide)) dX8_isNull_71 hPy1 ⟨rfl, rfl⟩
        · replace h := ifT hc2 h
          refine Y_iconst (v := (1 : Int32)) dX8_isNull_66 rfl ?_
          refine Y_goto (tgt := 71) dX8_isNull_67 (by decide) ?_
          cases h
          exact Y_iret rfl (nar_bo (by decide)) dX8_isNull_71 hPy1 ⟨rfl, rfl⟩
    · intro e9
      replace h := ifF (by rw [e9]; decide) h
      replace h := ifT (by rw [e9]; decide) h
      refine Y_aload_n (j := 0) dX8_isNull_32 rfl rfl ?_
      refine Z_getr dX8_isNull_33 w1_152 (lo_1 hP ho) fr_8_1 (lor_1_1 hP ho) ?_
      refine Y_iload_n (j := 1) dX8_isNull_36 rfl rfl ?_
      obtain ⟨hb3, h⟩ := okE h
      refine Y_iald dX8_isNull_37 (lo_3 hP ho) (lon_3 hP ho) hb3 ?_
      refine Y_if_ne (tgt := 45) dX8_isNull_38 (by decide) (fun hc3 => ?_) (fun hc3 => ?_)
      · replace h := ifF hc3 h
        refine Y_iconst (v := (0 : Int32)) dX8_isNull_45 rfl ?_
        cases h
        exact Y_iret rfl (nar_bo (by decide)) dX8_isNull_46 hP ⟨rfl, rfl⟩
      · replace h := ifT hc3 h
        refine Y_iconst (v := (1 : Int32)) dX8_isNull_41 rfl ?_
        refine Y_goto (tgt := 46) dX8_isNull_42 (by decide) ?_
        cases h
        exact Y_iret rfl (nar_bo (by decide)) dX8_isNull_46 hP ⟨rfl, rfl⟩
  · intro n9
    replace h := ifF (xs_no n9 (by decide : ((102 : Int32), 47) ∈ _)) h
    replace h := ifF (xs_no n9 (by decide : ((105 : Int32), 32) ∈ _)) h
    refine Y_aload_n (j := 0) dX8_isNull_72 rfl rfl ?_
    refine Z_getr dX8_isNull_73 w1_149 (lo_1 hP ho) fr_8_0 (lor_1_0 hP ho) ?_
    refine Y_iload_n (j := 1) dX8_isNull_76 rfl rfl ?_
    obtain ⟨hb4, h⟩ := okE h
    refine Y_cald dX8_isNull_77 (lo_2 hP ho) (lon_2 hP ho) hb4 ?_
    refine Y_bipush (v := (110 : Int32)) dX8_isNull_78 rfl ?_
    refine Y_icmp_ne (tgt := 87) dX8_isNull_80 (by decide) (fun hc4 => ?_) (fun hc4 => ?_)
    · replace h := ifF hc4 h
      refine Y_iconst (v := (0 : Int32)) dX8_isNull_87 rfl ?_
      cases h
      exact Y_iret rfl (nar_bo (by decide)) dX8_isNull_88 hP ⟨rfl, rfl⟩
    · replace h := ifT hc4 h
      refine Y_iconst (v := (1 : Int32)) dX8_isNull_83 rfl ?_
      refine Y_goto (tgt := 88) dX8_isNull_84 (by decide) ?_
      cases h
      exact Y_iret rfl (nar_bo (by decide)) dX8_isNull_88 hP ⟨rfl, rfl⟩
theorem v_X8_isNull {o : Nat} {x1 : Int32} {M z} (ho : o = 18 ∨ o = 28) (hP : Lay M) (h : d_X8_isNull o x1 M = some z) : CC Lay k_X8_isNull [.ref (o + 1), .int x1] M z.2 (Qv (some (.int z.1)) z.2) xF :=
  CC.ofVV (by decide) rfl (Nat.le_of_ble_eq_true rfl) (b_X8_isNull ho hP h)
noncomputable def d_X3_jumpsAtNull (o : Nat) (x1 : Int32) (x2 : Int32) (M : Mem) : Option (Int32 × Mem) :=
  (d_X3_take o M).bind fun y1 =>
  (d_X8_isNull o y1.1 y1.2).bind fun y2 =>
  if y2.1 = 0 then (
    some ((0 : Int32), y2.2))
  else (
    okk (vp_in ((mI y2.2 o 9) - (1 : Int32)) 12) <|
    bnd (sI y2.2 (o + 7) ((mI y2.2 o 9) - (1 : Int32)).toNatClampNeg x1) fun M1 =>
    if x2 < x1 then (
      some ((0 : Int32), M1))
    else (
      some ((1 : Int32), M1)))
theorem b_X3_jumpsAtNull {o : Nat} {x1 : Int32} {x2 : Int32} {M z} (ho : o = 18 ∨ o = 28) (hP : Lay M) (h : d_X3_jumpsAtNull o x1 x2 M = some z) : VV Lay k_X3_jumpsAtNull 0 [(0, .ref o), (1, .int x1), (2, .int x2)] [] M z.2 (Qv (some (.int z.1)) z.2) xF := by
  unfold d_X3_jumpsAtNull at h
  refine Y_aload_n (j := 0) dX3_jumpsAtNull_0 rfl rfl ?_
  refine Z_getr dX3_jumpsAtNull_1 w1_171 (lo_0 hP ho) fr_4_2 (lor_0_2 hP ho) ?_
  refine Y_aload_n (j := 0) dX3_jumpsAtNull_4 rfl rfl ?_
  obtain ⟨y1, qy1, h⟩ := bindE h
  have cy1 := v_X3_take ho hP qy1
  refine C_V0r dX3_jumpsAtNull_5 w5_181 i_X3_take (lo_0 hP ho) ⟨Nat.le_of_ble_eq_true rfl, Nat.le_of_ble_eq_true rfl⟩ rfl (Nat.le_of_ble_eq_true rfl) (Nat.le_of_ble_eq_true rfl) (Nat.le_of_ble_eq_true rfl) (cy1) ?_
  have hPy1 := cy1.1.1
  obtain ⟨y2, qy2, h⟩ := bindE h
  have cy2 := v_X8_isNull ho hPy1 qy2
  refine C_V1r dX3_jumpsAtNull_8 w5_185 i_X8_isNull (lo_1 hPy1 ho) ⟨Nat.le_of_ble_eq_true rfl, Nat.le_of_ble_eq_true rfl⟩ rfl (Nat.le_of_ble_eq_true rfl) (Nat.le_of_ble_eq_true rfl) (Nat.le_of_ble_eq_true rfl) (cy2) ?_
  have hPy2 := cy2.1.1
  refine Y_if_ne (tgt := 16) dX3_jumpsAtNull_11 (by decide) (fun hc1 => ?_) (fun hc1 => ?_)
  · replace h := ifF hc1 h
    refine Y_aload_n (j := 0) dX3_jumpsAtNull_16 rfl rfl ?_
    refine Z_getr dX3_jumpsAtNull_17 w1_175 (lo_0 hPy2 ho) fr_4_4 (lor_0_4 hPy2 ho) ?_
    refine Y_aload_n (j := 0) dX3_jumpsAtNull_20 rfl rfl ?_
    refine Z_geti dX3_jumpsAtNull_21 w1_184 (lo_0 hPy2 ho) fi_4_9 ?_
    refine Y_iconst (v := (1 : Int32)) dX3_jumpsAtNull_24 rfl ?_
    refine Y_isub dX3_jumpsAtNull_25 ?_
    refine Y_iload_n (j := 1) dX3_jumpsAtNull_26 rfl rfl ?_
    obtain ⟨hb1, h⟩ := okE h
    refine Y_iast dX3_jumpsAtNull_27 (lo_7 hPy2 ho) (lon_7 hPy2 ho) hb1 ?_
    obtain ⟨M1, eM1, h⟩ := bndE h
    refine VV.mem eM1 ?_
    have hP1 := hPy2.wI eM1
    refine Y_iload_n (j := 1) dX3_jumpsAtNull_28 rfl rfl ?_
    refine Y_iload_n (j := 2) dX3_jumpsAtNull_29 rfl rfl ?_
    refine Y_icmp_gt (tgt := 37) dX3_jumpsAtNull_30 (by decide) (fun hc2 => ?_) (fun hc2 => ?_)
    · replace h := ifT hc2 h
      refine Y_iconst (v := (0 : Int32)) dX3_jumpsAtNull_37 rfl ?_
      cases h
      exact Y_iret rfl (nar_bo (by decide)) dX3_jumpsAtNull_38 hP1 ⟨rfl, rfl⟩
    · replace h := ifF hc2 h
      refine Y_iconst (v := (1 : Int32)) dX3_jumpsAtNull_33 rfl ?_
      refine Y_goto (tgt := 38) dX3_jumpsAtNull_34 (by decide) ?_
      cases h
      exact Y_iret rfl (nar_bo (by decide)) dX3_jumpsAtNull_38 hP1 ⟨rfl, rfl⟩
  · replace h := ifT hc1 h
    refine Y_iconst (v := (0 : Int32)) dX3_jumpsAtNull_14 rfl ?_
    cases h
    exact Y_iret rfl (nar_bo (by decide)) dX3_jumpsAtNull_15 hPy2 ⟨rfl, rfl⟩
theorem v_X3_jumpsAtNull {o : Nat} {x1 : Int32} {x2 : Int32} {M z} (ho : o = 18 ∨ o = 28) (hP : Lay M) (h : d_X3_jumpsAtNull o x1 x2 M = some z) : CC Lay k_X3_jumpsAtNull [.ref o, .int x1, .int x2] M z.2 (Qv (some (.int z.1)) z.2) xF :=
  CC.ofVV (by decide) rfl (Nat.le_of_ble_eq_true rfl) (b_X3_jumpsAtNull ho hP h)
noncomputable def d_X8_move (o : Nat) (x1 : Int32) (x2 : Int32) (M : Mem) : Option (Unit × Mem) :=
  okk (vp_in x1 549) <|
  okk (vp_in x2 549) <|
  okk (isCh (mI M (o + 2) x1.toNatClampNeg)) <|
  bnd (sI M (o + 2) x2.toNatClampNeg (mI M (o + 2) x1.toNatClampNeg)) fun M1 =>
  okk (vp_in x1 549) <|
  okk (vp_in x2 549) <|
  bnd (sI M1 (o + 3) x2.toNatClampNeg (mI M1 (o + 3) x1.toNatClampNeg)) fun M2 =>
  okk (vp_in x1 549) <|
  okk (vp_in x2 549) <|
  bnd (sD M2 (o + 4) x2.toNatClampNeg (mD M2 (o + 4) x1.toNatClampNeg)) fun M3 =>
  okk (vp_in x1 549) <|
  okk (vp_in x2 549) <|
  bnd (sI M3 (o + 5) x2.toNatClampNeg (mI M3 (o + 5) x1.toNatClampNeg)) fun M4 =>
  some ((), M4)
theorem b_X8_move {o : Nat} {x1 : Int32} {x2 : Int32} {M z} (ho : o = 18 ∨ o = 28) (hP : Lay M) (h : d_X8_move o x1 x2 M = some z) : VV Lay k_X8_move 0 [(0, .ref (o + 1)), (1, .int x1), (2, .int x2)] [] M z.2 (Qv (none) z.2) xF := by
  unfold d_X8_move at h
  refine Y_aload_n (j := 0) dX8_move_0 rfl rfl ?_
  refine Z_getr dX8_move_1 w1_149 (lo_1 hP ho) fr_8_0 (lor_1_0 hP ho) ?_
  refine Y_iload_n (j := 2) dX8_move_4 rfl rfl ?_
  refine Y_aload_n (j := 0) dX8_move_5 rfl rfl ?_
  refine Z_getr dX8_move_6 w1_149 (lo_1 hP ho) fr_8_0 (lor_1_0 hP ho) ?_
  refine Y_iload_n (j := 1) dX8_move_9 rfl rfl ?_
  obtain ⟨hb1, h⟩ := okE h
  refine Y_cald dX8_move_10 (lo_2 hP ho) (lon_2 hP ho) hb1 ?_
  obtain ⟨hb2, h⟩ := okE h
  obtain ⟨hb3, h⟩ := okE h
  refine Y_cast dX8_move_11 (lo_2 hP ho) (lon_2 hP ho) hb2 (nar_ch hb3) ?_
  obtain ⟨M1, eM1, h⟩ := bndE h
  refine VV.mem eM1 ?_
  have hP1 := hP.wI eM1
  refine Y_aload_n (j := 0) dX8_move_12 rfl rfl ?_
  refine Z_getr dX8_move_13 w1_152 (lo_1 hP1 ho) fr_8_1 (lor_1_1 hP1 ho) ?_
  refine Y_iload_n (j := 2) dX8_move_16 rfl rfl ?_
  refine Y_aload_n (j := 0) dX8_move_17 rfl rfl ?_
  refine Z_getr dX8_move_18 w1_152 (lo_1 hP1 ho) fr_8_1 (lor_1_1 hP1 ho) ?_
  refine Y_iload_n (j := 1) dX8_move_21 rfl rfl ?_
  obtain ⟨hb4, h⟩ := okE h
  refine Y_iald dX8_move_22 (lo_3 hP1 ho) (lon_3 hP1 ho) hb4 ?_
  obtain ⟨hb5, h⟩ := okE h
  refine Y_iast dX8_move_23 (lo_3 hP1 ho) (lon_3 hP1 ho) hb5 ?_
  obtain ⟨M2, eM2, h⟩ := bndE h
  refine VV.mem eM2 ?_
  have hP2 := hP1.wI eM2
  refine Y_aload_n (j := 0) dX8_move_24 rfl rfl ?_
  refine Z_getr dX8_move_25 w1_154 (lo_1 hP2 ho) fr_8_2 (lor_1_2 hP2 ho) ?_
  refine Y_iload_n (j := 2) dX8_move_28 rfl rfl ?_
  refine Y_aload_n (j := 0) dX8_move_29 rfl rfl ?_
  refine Z_getr dX8_move_30 w1_154 (lo_1 hP2 ho) fr_8_2 (lor_1_2 hP2 ho) ?_
  refine Y_iload_n (j := 1) dX8_move_33 rfl rfl ?_
  obtain ⟨hb6, h⟩ := okE h
  refine Y_dald dX8_move_34 (lo_4 hP2 ho) (lon_4 hP2 ho) hb6 ?_
  obtain ⟨hb7, h⟩ := okE h
  refine Y_dast dX8_move_35 (lo_4 hP2 ho) (lon_4 hP2 ho) hb7 ?_
  obtain ⟨M3, eM3, h⟩ := bndE h
  refine VV.mem eM3 ?_
  have hP3 := hP2.wD eM3
  refine Y_aload_n (j := 0) dX8_move_36 rfl rfl ?_
  refine Z_getr dX8_move_37 w1_155 (lo_1 hP3 ho) fr_8_3 (lor_1_3 hP3 ho) ?_
  refine Y_iload_n (j := 2) dX8_move_40 rfl rfl ?_
  refine Y_aload_n (j := 0) dX8_move_41 rfl rfl ?_
  refine Z_getr dX8_move_42 w1_155 (lo_1 hP3 ho) fr_8_3 (lor_1_3 hP3 ho) ?_
  refine Y_iload_n (j := 1) dX8_move_45 rfl rfl ?_
  obtain ⟨hb8, h⟩ := okE h
  refine Y_iald dX8_move_46 (lo_5 hP3 ho) (lon_5 hP3 ho) hb8 ?_
  obtain ⟨hb9, h⟩ := okE h
  refine Y_iast dX8_move_47 (lo_5 hP3 ho) (lon_5 hP3 ho) hb9 ?_
  obtain ⟨M4, eM4, h⟩ := bndE h
  refine VV.mem eM4 ?_
  have hP4 := hP3.wI eM4
  cases h
  exact Y_vret rfl dX8_move_48 hP4 ⟨rfl, rfl⟩
theorem v_X8_move {o : Nat} {x1 : Int32} {x2 : Int32} {M z} (ho : o = 18 ∨ o = 28) (hP : Lay M) (h : d_X8_move o x1 x2 M = some z) : CC Lay k_X8_move [.ref (o + 1), .int x1, .int x2] M z.2 (Qv (none) z.2) xF :=
  CC.ofVV (by decide) rfl (Nat.le_of_ble_eq_true rfl) (b_X8_move ho hP h)
noncomputable def d_X3_pushMoved (o : Nat) (x1 : Int32) (M : Mem) : Option (Unit × Mem) :=
  okk (vp_in ((mI M o 9) - (1 : Int32)) 12) <|
  okk (vp_in ((mI M o 9) - (1 : Int32)) 12) <|
  bnd (sI M (o + 8) ((mI M o 9) - (1 : Int32)).toNatClampNeg ((mI M (o + 8) ((mI M o 9) - (1 : Int32)).toNatClampNeg) + (1 : Int32))) fun M1 =>
  (d_X3_fromTop o (1 : Int32) M1).bind fun y1 =>
  (d_X8_move o x1 y1.1 y1.2).bind fun y2 =>
  some ((), y2.2)
theorem b_X3_pushMoved {o : Nat} {x1 : Int32} {M z} (ho : o = 18 ∨ o = 28) (hP : Lay M) (h : d_X3_pushMoved o x1 M = some z) : VV Lay k_X3_pushMoved 0 [(0, .ref o), (1, .int x1)] [] M z.2 (Qv (none) z.2) xF := by
  unfold d_X3_pushMoved at h
  refine Y_aload_n (j := 0) dX3_pushMoved_0 rfl rfl ?_
  refine Z_getr dX3_pushMoved_1 w1_176 (lo_0 hP ho) fr_4_5 (lor_0_5 hP ho) ?_
  refine Y_aload_n (j := 0) dX3_pushMoved_4 rfl rfl ?_
  refine Z_geti dX3_pushMoved_5 w1_184 (lo_0 hP ho) fi_4_9 ?_
  refine Y_iconst (v := (1 : Int32)) dX3_pushMoved_8 rfl ?_
  refine Y_isub dX3_pushMoved_9 ?_
  refine Y_dup2 dX3_pushMoved_10 rfl rfl ?_
  obtain ⟨hb1, h⟩ := okE h
  refine Y_iald dX3_pushMoved_11 (lo_8 hP ho) (lon_8 hP ho) hb1 ?_
  refine Y_iconst (v := (1 : Int32)) dX3_pushMoved_12 rfl ?_
  refine Y_iadd dX3_pushMoved_13 ?_
  obtain ⟨hb2, h⟩ := okE h
  refine Y_iast dX3_pushMoved_14 (lo_8 hP ho) (lon_8 hP ho) hb2 ?_
  obtain ⟨M1, eM1, h⟩ := bndE h
  refine VV.mem eM1 ?_
  have hP1 := hP.wI eM1
  refine Y_aload_n (j := 0) dX3_pushMoved_15 rfl rfl ?_
  refine Z_getr dX3_pushMoved_16 w1_171 (lo_0 hP1 ho) fr_4_2 (lor_0_2 hP1 ho) ?_
  refine Y_iload_n (j := 1) dX3_pushMoved_19 rfl rfl ?_
  refine Y_aload_n (j := 0) dX3_pushMoved_20 rfl rfl ?_
  refine Y_iconst (v := (1 : Int32)) dX3_pushMoved_21 rfl ?_
  obtain ⟨y1, qy1, h⟩ := bindE h
  have cy1 := v_X3_fromTop ho hP1 qy1
  refine C_V1r dX3_pushMoved_22 w5_106 i_X3_fromTop (lo_0 hP1 ho) ⟨Nat.le_of_ble_eq_true rfl, Nat.le_of_ble_eq_true rfl⟩ rfl (Nat.le_of_ble_eq_true rfl) (Nat.le_of_ble_eq_true rfl) (Nat.le_of_ble_eq_true rfl) (cy1) ?_
  have hPy1 := cy1.1.1
  obtain ⟨y2, qy2, h⟩ := bindE h
  have cy2 := v_X8_move ho hPy1 qy2
  refine C_V2o dX3_pushMoved_25 w5_193 i_X8_move (lo_1 hPy1 ho) ⟨Nat.le_of_ble_eq_true rfl, Nat.le_of_ble_eq_true rfl⟩ rfl (Nat.le_of_ble_eq_true rfl) (Nat.le_of_ble_eq_true rfl) (Nat.le_of_ble_eq_true rfl) (cy2) ?_
  have hPy2 := cy2.1.1
  cases h
  exact Y_vret rfl dX3_pushMoved_28 hPy2 ⟨rfl, rfl⟩
theorem v_X3_pushMoved {o : Nat} {x1 : Int32} {M z} (ho : o = 18 ∨ o = 28) (hP : Lay M) (h : d_X3_pushMoved o x1 M = some z) : CC Lay k_X3_pushMoved [.ref o, .int x1] M z.2 (Qv (none) z.2) xF :=
  CC.ofVV (by decide) rfl (Nat.le_of_ble_eq_true rfl) (b_X3_pushMoved ho hP h)
noncomputable def d_X3_giveBack (o : Nat) (M : Mem) : Option (Unit × Mem) :=
  (d_X3_take o M).bind fun y1 =>
  bnd (sI y1.2 o 9 ((mI y1.2 o 9) - (1 : Int32))) fun M1 =>
  if (mI M1 o 9) = 0 then (
    (d_X8_move o y1.1 (548 : Int32) M1).bind fun y3 =>
    bnd (sI y3.2 o 13 (118 : Int32)) fun M2 =>
    some ((), M2))
  else (
    (d_X3_pushMoved o y1.1 M1).bind fun y2 =>
    some ((), y2.2))
theorem b_X3_giveBack {o : Nat} {M z} (ho : o = 18 ∨ o = 28) (hP : Lay M) (h : d_X3_giveBack o M = some z) : VV Lay k_X3_giveBack 0 [(0, .ref o)] [] M z.2 (Qv (none) z.2) xF := by
  unfold d_X3_giveBack at h
  refine Y_aload_n (j := 0) dX3_giveBack_0 rfl rfl ?_
  obtain ⟨y1, qy1, h⟩ := bindE h
  have cy1 := v_X3_take ho hP qy1
  refine C_V0r dX3_giveBack_1 w5_181 i_X3_take (lo_0 hP ho) ⟨Nat.le_of_ble_eq_true rfl, Nat.le_of_ble_eq_true rfl⟩ rfl (Nat.le_of_ble_eq_true rfl) (Nat.le_of_ble_eq_true rfl) (Nat.le_of_ble_eq_true rfl) (cy1) ?_
  have hPy1 := cy1.1.1
  refine Y_istore_n (lv1 := [(1, .int y1.1), (0, .ref o)]) dX3_giveBack_4 rfl (by decide) rfl ?_
  refine Y_aload_n (j := 1) dX3_giveBack_5 rfl rfl ?_
  refine Y_dup dX3_giveBack_6 rfl ?_
  refine Z_geti dX3_giveBack_7 w1_184 (lo_0 hPy1 ho) fi_4_9 ?_
  refine Y_iconst (v := (1 : Int32)) dX3_giveBack_10 rfl ?_
  refine Y_isub dX3_giveBack_11 ?_
  refine Z_puti dX3_giveBack_12 w1_184 (lo_0 hPy1 ho) fi_4_9 (Or.inl rfl) rfl ?_
  obtain ⟨M1, eM1, h⟩ := bndE h
  refine VV.mem eM1 ?_
  have hP1 := hPy1.wI eM1
  refine Y_aload_n (j := 1) dX3_giveBack_15 rfl rfl ?_
  refine Z_geti dX3_giveBack_16 w1_184 (lo_0 hP1 ho) fi_4_9 ?_
  refine Y_if_ne (tgt := 42) dX3_giveBack_19 (by decide) (fun hc1 => ?_) (fun hc1 => ?_)
  · replace h := ifF hc1 h
    refine Y_aload_n (j := 1) dX3_giveBack_42 rfl rfl ?_
    refine Y_iload_n (j := 0) dX3_giveBack_43 rfl rfl ?_
    obtain ⟨y2, qy2, h⟩ := bindE h
    have cy2 := v_X3_pushMoved ho hP1 qy2
    refine C_V1o dX3_giveBack_44 w5_201 i_X3_pushMoved (lo_0 hP1 ho) ⟨Nat.le_of_ble_eq_true rfl, Nat.le_of_ble_eq_true rfl⟩ rfl (Nat.le_of_ble_eq_true rfl) (Nat.le_of_ble_eq_true rfl) (Nat.le_of_ble_eq_true rfl) (cy2) ?_
    have hPy2 := cy2.1.1
    cases h
    exact Y_vret rfl dX3_giveBack_47 hPy2 ⟨rfl, rfl⟩
  · replace h := ifT hc1 h
    refine Y_aload_n (j := 1) dX3_giveBack_22 rfl rfl ?_
    refine Z_getr dX3_giveBack_23 w1_171 (lo_0 hP1 ho) fr_4_2 (lor_0_2 hP1 ho) ?_
    refine Y_iload_n (j := 0) dX3_giveBack_26 rfl rfl ?_
    refine Y_sipush (v := (548 : Int32)) dX3_giveBack_27 rfl ?_
    obtain ⟨y3, qy3, h⟩ := bindE h
    have cy3 := v_X8_move ho hP1 qy3
    refine C_V2o dX3_giveBack_30 w5_193 i_X8_move (lo_1 hP1 ho) ⟨Nat.le_of_ble_eq_true rfl, Nat.le_of_ble_eq_true rfl⟩ rfl (Nat.le_of_ble_eq_true rfl) (Nat.le_of_ble_eq_true rfl) (Nat.le_of_ble_eq_true rfl) (cy3) ?_
    have hPy3 := cy3.1.1
    refine Y_aload_n (j := 1) dX3_giveBack_33 rfl rfl ?_
    refine Y_bipush (v := (118 : Int32)) dX3_giveBack_34 rfl ?_
    refine Z_putc dX3_giveBack_36 w1_193 (lo_0 hPy3 ho) fi_4_13 (Or.inl rfl) rfl (by decide) ?_
    obtain ⟨M2, eM2, h⟩ := bndE h
    refine VV.mem eM2 ?_
    have hP2 := hPy3.wI eM2
    refine Y_goto (tgt := 47) dX3_giveBack_39 (by decide) ?_
    cases h
    exact Y_vret rfl dX3_giveBack_47 hP2 ⟨rfl, rfl⟩
theorem v_X3_giveBack {o : Nat} {M z} (ho : o = 18 ∨ o = 28) (hP : Lay M) (h : d_X3_giveBack o M = some z) : CC Lay k_X3_giveBack [.ref o] M z.2 (Qv (none) z.2) xF :=
  CC.ofVV (by decide) rfl (Nat.le_of_ble_eq_true rfl) (b_X3_giveBack ho hP h)
noncomputable def d_X11_fieldPlace (x0 : Int32) (x1 : Int32) (M : Mem) : Option (Int32 × Mem) :=
  some ((((168 : Int32) + (x0 * (6 : Int32))) + x1), M)
theorem b_X11_fieldPlace {x0 : Int32} {x1 : Int32} {M z} (hP : Lay M) (h : d_X11_fieldPlace x0 x1 M = some z) : VV Lay k_X11_fieldPlace 0 [(0, .int x0), (1, .int x1)] [] M z.2 (Qv (some (.int z.1)) z.2) xF := by
  unfold d_X11_fieldPlace at h
  refine Y_sipush (v := (168 : Int32)) dX11_fieldPlace_0 rfl ?_
  refine Y_iload_n (j := 0) dX11_fieldPlace_3 rfl rfl ?_
  refine Y_bipush (v := (6 : Int32)) dX11_fieldPlace_4 rfl ?_
  refine Y_imul dX11_fieldPlace_6 ?_
  refine Y_iadd dX11_fieldPlace_7 ?_
  refine Y_iload_n (j := 1) dX11_fieldPlace_8 rfl rfl ?_
  refine Y_iadd dX11_fieldPlace_9 ?_
  cases h
  exact Y_iret rfl rfl dX11_fieldPlace_10 hP ⟨rfl, rfl⟩
theorem v_X11_fieldPlace {x0 : Int32} {x1 : Int32} {M z} (hP : Lay M) (h : d_X11_fieldPlace x0 x1 M = some z) : CC Lay k_X11_fieldPlace [.int x0, .int x1] M z.2 (Qv (some (.int z.1)) z.2) xF :=
  CC.ofVV (by decide) rfl (Nat.le_of_ble_eq_true rfl) (b_X11_fieldPlace hP h)
noncomputable def d_X7_addEmpty_28b (k28 : (Int32) → Mem → Option (Int32 × Mem)) (x2 : Int32) (x3 : Int32) (M : Mem) : Option (Int32 × Mem) :=
  if (6 : Int32) ≤ x3 then (
    bnd (sI M 11 6 ((mI M 11 6) + (1 : Int32))) fun M1 =>
    some (x2, M1))
  else (
    okk (vp_in ((x2 * (6 : Int32)) + x3) 360) <|
    bnd (sI M 16 ((x2 * (6 : Int32)) + x3).toNatClampNeg (-1 : Int32)) fun M2 =>
    bnd ((x3 + (1 : Int32))) fun b1 =>
    k28 (b1) M2)
theorem b_X7_addEmpty_28b {k28 : (Int32) → Mem → Option (Int32 × Mem)} {x2 : Int32} {x3 : Int32} {M z} (hk28 : ∀ (a : (Int32)) (M : Mem) (z : Int32 × Mem), Lay M → k28 a M = some z → VV Lay k_X7_addEmpty 28 [(0, .ref 11), (2, .int x2), (3, .int a)] [] M z.2 (Qv (some (.int z.1)) z.2) xF) (hP : Lay M) (h : d_X7_addEmpty_28b k28 x2 x3 M = some z) : VV Lay k_X7_addEmpty 28 [(0, .ref 11), (2, .int x2), (3, .int x3)] [] M z.2 (Qv (some (.int z.1)) z.2) xF := by
  unfold d_X7_addEmpty_28b at h
  refine Y_iload_n (j := 2) dX7_addEmpty_28 rfl rfl ?_
  refine Y_bipush (v := (6 : Int32)) dX7_addEmpty_29 rfl ?_
  refine Y_icmp_ge (tgt := 52) dX7_addEmpty_31 (by decide) (fun hc1 => ?_) (fun hc1 => ?_)
  · replace h := ifT hc1 h
    refine Y_aload_n (j := 0) dX7_addEmpty_52 rfl rfl ?_
    refine Y_dup dX7_addEmpty_53 rfl ?_
    refine Z_geti dX7_addEmpty_54 w1_120 (lk_11 hP) fi_7_6 ?_
    refine Y_iconst (v := (1 : Int32)) dX7_addEmpty_57 rfl ?_
    refine Y_iadd dX7_addEmpty_58 ?_
    refine Z_puti dX7_addEmpty_59 w1_120 (lk_11 hP) fi_7_6 (Or.inl rfl) rfl ?_
    obtain ⟨M1, eM1, h⟩ := bndE h
    refine VV.mem eM1 ?_
    have hP1 := hP.wI eM1
    refine Y_iload_n (j := 1) dX7_addEmpty_62 rfl rfl ?_
    cases h
    exact Y_iret rfl rfl dX7_addEmpty_63 hP1 ⟨rfl, rfl⟩
  · replace h := ifF hc1 h
    refine Y_aload_n (j := 0) dX7_addEmpty_34 rfl rfl ?_
    refine Z_getr dX7_addEmpty_35 w1_115 (lk_11 hP) fr_7_4 (lr_11_4 hP) ?_
    refine Y_iload_n (j := 1) dX7_addEmpty_38 rfl rfl ?_
    refine Y_bipush (v := (6 : Int32)) dX7_addEmpty_39 rfl ?_
    refine Y_imul dX7_addEmpty_41 ?_
    refine Y_iload_n (j := 2) dX7_addEmpty_42 rfl rfl ?_
    refine Y_iadd dX7_addEmpty_43 ?_
    refine Y_iconst (v := (-1 : Int32)) dX7_addEmpty_44 rfl ?_
    obtain ⟨hb1, h⟩ := okE h
    refine Y_iast dX7_addEmpty_45 (lk_16 hP) (ln_16 hP) hb1 ?_
    obtain ⟨M2, eM2, h⟩ := bndE h
    refine VV.mem eM2 ?_
    have hP2 := hP.wI eM2
    obtain ⟨b1, eb1, h⟩ := bndE h
    refine Y_iinc (j := 2) (v := b1) (lv1 := [(3, .int b1), (0, .ref 11), (2, .int x2)]) dX7_addEmpty_46 rfl eb1.symm (by decide) rfl ?_
    refine Y_goto (tgt := 28) dX7_addEmpty_49 (by decide) ?_
    refine VV.sub [1, 2, 0] rfl ?_
    exact hk28 _ _ _ hP2 h
noncomputable def d_X7_addEmpty_28 (x2 : Int32) : Nat → (Int32) → Mem → Option (Int32 × Mem) := lp fun k a M => d_X7_addEmpty_28b k x2 a M
theorem b_X7_addEmpty_28 {x2 : Int32} (n : Nat) : ∀ (a : (Int32)) (M : Mem) (z : Int32 × Mem), d_X7_addEmpty_28 x2 n a M = some z → Lay M → VV Lay k_X7_addEmpty 28 [(0, .ref 11), (2, .int x2), (3, .int a)] [] M z.2 (Qv (some (.int z.1)) z.2) xF :=
  lp_ind (fun k hk a M z h hP => b_X7_addEmpty_28b  (fun a M z hP h => hk a M z h hP) hP h) n
noncomputable def d_X7_addEmpty (x1 : Int32) (M : Mem) : Option (Int32 × Mem) :=
  bnd ((mI M 11 6)) fun b1 =>
  okk (vp_in b1 60) <|
  bnd (sI M 12 b1.toNatClampNeg x1) fun M1 =>
  okk (vp_in b1 60) <|
  bnd (sI M1 13 b1.toNatClampNeg (0 : Int32)) fun M2 =>
  okk (vp_in b1 60) <|
  bnd (sI M2 14 b1.toNatClampNeg (0 : Int32)) fun M3 =>
  d_X7_addEmpty_28 b1 fuel ((0 : Int32)) M3
theorem b_X7_addEmpty {x1 : Int32} {M z} (hP : Lay M) (h : d_X7_addEmpty x1 M = some z) : VV Lay k_X7_addEmpty 0 [(0, .ref 11), (1, .int x1)] [] M z.2 (Qv (some (.int z.1)) z.2) xF := by
  unfold d_X7_addEmpty at h
  refine Y_aload_n (j := 0) dX7_addEmpty_0 rfl rfl ?_
  refine Z_geti dX7_addEmpty_1 w1_120 (lk_11 hP) fi_7_6 ?_
  obtain ⟨b1, eb1, h⟩ := bndE h
  refine VV.topI eb1 ?_
  refine Y_istore_n (lv1 := [(2, .int b1), (0, .ref 11), (1, .int x1)]) dX7_addEmpty_4 rfl (by decide) rfl ?_
  refine Y_aload_n (j := 1) dX7_addEmpty_5 rfl rfl ?_
  refine Z_getr dX7_addEmpty_6 w1_108 (lk_11 hP) fr_7_0 (lr_11_0 hP) ?_
  refine Y_iload_n (j := 0) dX7_addEmpty_9 rfl rfl ?_
  refine Y_iload_n (j := 2) dX7_addEmpty_10 rfl rfl ?_
  obtain ⟨hb1, h⟩ := okE h
  refine Y_iast dX7_addEmpty_11 (lk_12 hP) (ln_12 hP) hb1 ?_
  obtain ⟨M1, eM1, h⟩ := bndE h
  refine VV.mem eM1 ?_
  have hP1 := hP.wI eM1
  refine Y_aload_n (j := 1) dX7_addEmpty_12 rfl rfl ?_
  refine Z_getr dX7_addEmpty_13 w1_110 (lk_11 hP1) fr_7_1 (lr_11_1 hP1) ?_
  refine Y_iload_n (j := 0) dX7_addEmpty_16 rfl rfl ?_
  refine Y_iconst (v := (0 : Int32)) dX7_addEmpty_17 rfl ?_
  obtain ⟨hb2, h⟩ := okE h
  refine Y_iast dX7_addEmpty_18 (lk_13 hP1) (ln_13 hP1) hb2 ?_
  obtain ⟨M2, eM2, h⟩ := bndE h
  refine VV.mem eM2 ?_
  have hP2 := hP1.wI eM2
  refine Y_aload_n (j := 1) dX7_addEmpty_19 rfl rfl ?_
  refine Z_getr dX7_addEmpty_20 w1_112 (lk_11 hP2) fr_7_2 (lr_11_2 hP2) ?_
  refine Y_iload_n (j := 0) dX7_addEmpty_23 rfl rfl ?_
  refine Y_iconst (v := (0 : Int32)) dX7_addEmpty_24 rfl ?_
  obtain ⟨hb3, h⟩ := okE h
  refine Y_iast dX7_addEmpty_25 (lk_14 hP2) (ln_14 hP2) hb3 ?_
  obtain ⟨M3, eM3, h⟩ := bndE h
  refine VV.mem eM3 ?_
  have hP3 := hP2.wI eM3
  refine Y_iconst (v := (0 : Int32)) dX7_addEmpty_26 rfl ?_
  refine Y_istore_n (lv1 := [(3, .int (0 : Int32)), (2, .int b1), (0, .ref 11), (1, .int x1)]) dX7_addEmpty_27 rfl (by decide) rfl ?_
  refine VV.sub [2, 1, 0] rfl ?_
  exact b_X7_addEmpty_28  fuel _ _ _ h hP3
theorem v_X7_addEmpty {x1 : Int32} {M z} (hP : Lay M) (h : d_X7_addEmpty x1 M = some z) : CC Lay k_X7_addEmpty [.ref 11, .int x1] M z.2 (Qv (some (.int z.1)) z.2) xF :=
  CC.ofVV (by decide) rfl (Nat.le_of_ble_eq_true rfl) (b_X7_addEmpty hP h)
noncomputable def d_X7_addLonger_14b (k14 : (Int32) → Mem → Option (Int32 × Mem)) (x1 : Int32) (x2 : Int32) (x3 : Int32) (x4 : Int32) (M : Mem) : Option (Int32 × Mem) :=
  okk (vp_in x1 60) <|
  if (mI M 13 x1.toNatClampNeg) ≤ x4 then (
    okk (vp_in x1 60) <|
    okk (vp_in ((x3 * (6 : Int32)) + (mI M 13 x1.toNatClampNeg)) 360) <|
    bnd (sI M 15 ((x3 * (6 : Int32)) + (mI M 13 x1.toNatClampNeg)).toNatClampNeg x2) fun M1 =>
    okk (vp_in x1 60) <|
    okk (vp_in x3 60) <|
    bnd (sI M1 13 x3.toNatClampNeg ((mI M1 13 x1.toNatClampNeg) + (1 : Int32))) fun M2 =>
    okk (vp_in x1 60) <|
    okk (vp_in x3 60) <|
    bnd (sI M2 14 x3.toNatClampNeg ((mI M2 14 x1.toNatClampNeg) ||| ((1 : Int32) <<< (x2 &&& 31)))) fun M3 =>
    some (x3, M3))
  else (
    okk (vp_in ((x1 * (6 : Int32)) + x4) 360) <|
    okk (vp_in ((x3 * (6 : Int32)) + x4) 360) <|
    bnd (sI M 15 ((x3 * (6 : Int32)) + x4).toNatClampNeg (mI M 15 ((x1 * (6 : Int32)) + x4).toNatClampNeg)) fun M4 =>
    bnd ((x4 + (1 : Int32))) fun b1 =>
    k14 (b1) M4)
theorem b_X7_addLonger_14b {k14 : (Int32) → Mem → Option (Int32 × Mem)} {x1 : Int32} {x2 : Int32} {x3 : Int32} {x4 : Int32} {M z} (hk14 : ∀ (a : (Int32)) (M : Mem) (z : Int32 × Mem), Lay M → k14 a M = some z → VV Lay k_X7_addLonger 14 [(0, .ref 11), (1, .int x1), (2, .int x2), (3, .int x3), (4, .int a)] [] M z.2 (Qv (some (.int z.1)) z.2) xF) (hP : Lay M) (h : d_X7_addLonger_14b k14 x1 x2 x3 x4 M = some z) : VV Lay k_X7_addLonger 14 [(0, .ref 11), (1, .int x1), (2, .int x2), (3, .int x3), (4, .int x4)] [] M z.2 (Qv (some (.int z.1)) z.2) xF := by
  unfold d_X7_addLonger_14b at h
  refine Y_iload (j := 4) dX7_addLonger_14 rfl ?_
  refine Y_aload_n (j := 0) dX7_addLonger_16 rfl rfl ?_
  refine Z_getr dX7_addLonger_17 w1_110 (lk_11 hP) fr_7_1 (lr_11_1 hP) ?_
  refine Y_iload_n (j := 1) dX7_addLonger_20 rfl rfl ?_
  obtain ⟨hb1, h⟩ := okE h
  refine Y_iald dX7_addLonger_21 (lk_13 hP) (ln_13 hP) hb1 ?_
  refine Y_icmp_ge (tgt := 55) dX7_addLonger_22 (by decide) (fun hc1 => ?_) (fun hc1 => ?_)
  · replace h := ifT hc1 h
    refine Y_aload_n (j := 0) dX7_addLonger_55 rfl rfl ?_
    refine Z_getr dX7_addLonger_56 w1_113 (lk_11 hP) fr_7_3 (lr_11_3 hP) ?_
    refine Y_iload_n (j := 3) dX7_addLonger_59 rfl rfl ?_
    refine Y_bipush (v := (6 : Int32)) dX7_addLonger_60 rfl ?_
    refine Y_imul dX7_addLonger_62 ?_
    refine Y_aload_n (j := 0) dX7_addLonger_63 rfl rfl ?_
    refine Z_getr dX7_addLonger_64 w1_110 (lk_11 hP) fr_7_1 (lr_11_1 hP) ?_
    refine Y_iload_n (j := 1) dX7_addLonger_67 rfl rfl ?_
    obtain ⟨hb2, h⟩ := okE h
    refine Y_iald dX7_addLonger_68 (lk_13 hP) (ln_13 hP) hb2 ?_
    refine Y_iadd dX7_addLonger_69 ?_
    refine Y_iload_n (j := 2) dX7_addLonger_70 rfl rfl ?_
    obtain ⟨hb3, h⟩ := okE h
    refine Y_iast dX7_addLonger_71 (lk_15 hP) (ln_15 hP) hb3 ?_
    obtain ⟨M1, eM1, h⟩ := bndE h
    refine VV.mem eM1 ?_
    have hP1 := hP.wI eM1
    refine Y_aload_n (j := 0) dX7_addLonger_72 rfl rfl ?_
    refine Z_getr dX7_addLonger_73 w1_110 (lk_11 hP1) fr_7_1 (lr_11_1 hP1) ?_
    refine Y_iload_n (j := 3) dX7_addLonger_76 rfl rfl ?_
    refine Y_aload_n (j := 0) dX7_addLonger_77 rfl rfl ?_
    refine Z_getr dX7_addLonger_78 w1_110 (lk_11 hP1) fr_7_1 (lr_11_1 hP1) ?_
    refine Y_iload_n (j := 1) dX7_addLonger_81 rfl rfl ?_
    obtain ⟨hb4, h⟩ := okE h
    refine Y_iald dX7_addLonger_82 (lk_13 hP1) (ln_13 hP1) hb4 ?_
    refine Y_iconst (v := (1 : Int32)) dX7_addLonger_83 rfl ?_
    refine Y_iadd dX7_addLonger_84 ?_
    obtain ⟨hb5, h⟩ := okE h
    refine Y_iast dX7_addLonger_85 (lk_13 hP1) (ln_13 hP1) hb5 ?_
    obtain ⟨M2, eM2, h⟩ := bndE h
    refine VV.mem eM2 ?_
    have hP2 := hP1.wI eM2
    refine Y_aload_n (j := 0) dX7_addLonger_86 rfl rfl ?_
    refine Z_getr dX7_addLonger_87 w1_112 (lk_11 hP2) fr_7_2 (lr_11_2 hP2) ?_
    refine Y_iload_n (j := 3) dX7_addLonger_90 rfl rfl ?_
    refine Y_aload_n (j := 0) dX7_addLonger_91 rfl rfl ?_
    refine Z_getr dX7_addLonger_92 w1_112 (lk_11 hP2) fr_7_2 (lr_11_2 hP2) ?_
    refine Y_iload_n (j := 1) dX7_addLonger_95 rfl rfl ?_
    obtain ⟨hb6, h⟩ := okE h
    refine Y_iald dX7_addLonger_96 (lk_14 hP2) (ln_14 hP2) hb6 ?_
    refine Y_iconst (v := (1 : Int32)) dX7_addLonger_97 rfl ?_
    refine Y_iload_n (j := 2) dX7_addLonger_98 rfl rfl ?_
    refine Y_ishl dX7_addLonger_99 ?_
    refine Y_ior dX7_addLonger_100 ?_
    obtain ⟨hb7, h⟩ := okE h
    refine Y_iast dX7_addLonger_101 (lk_14 hP2) (ln_14 hP2) hb7 ?_
    obtain ⟨M3, eM3, h⟩ := bndE h
    refine VV.mem eM3 ?_
    have hP3 := hP2.wI eM3
    refine Y_iload_n (j := 3) dX7_addLonger_102 rfl rfl ?_
    cases h
    exact Y_iret rfl rfl dX7_addLonger_103 hP3 ⟨rfl, rfl⟩
  · replace h := ifF hc1 h
    refine Y_aload_n (j := 0) dX7_addLonger_25 rfl rfl ?_
    refine Z_getr dX7_addLonger_26 w1_113 (lk_11 hP) fr_7_3 (lr_11_3 hP) ?_
    refine Y_iload_n (j := 3) dX7_addLonger_29 rfl rfl ?_
    refine Y_bipush (v := (6 : Int32)) dX7_addLonger_30 rfl ?_
    refine Y_imul dX7_addLonger_32 ?_
    refine Y_iload (j := 4) dX7_addLonger_33 rfl ?_
    refine Y_iadd dX7_addLonger_35 ?_
    refine Y_aload_n (j := 0) dX7_addLonger_36 rfl rfl ?_
    refine Z_getr dX7_addLonger_37 w1_113 (lk_11 hP) fr_7_3 (lr_11_3 hP) ?_
    refine Y_iload_n (j := 1) dX7_addLonger_40 rfl rfl ?_
    refine Y_bipush (v := (6 : Int32)) dX7_addLonger_41 rfl ?_
    refine Y_imul dX7_addLonger_43 ?_
    refine Y_iload (j := 4) dX7_addLonger_44 rfl ?_
    refine Y_iadd dX7_addLonger_46 ?_
    obtain ⟨hb8, h⟩ := okE h
    refine Y_iald dX7_addLonger_47 (lk_15 hP) (ln_15 hP) hb8 ?_
    obtain ⟨hb9, h⟩ := okE h
    refine Y_iast dX7_addLonger_48 (lk_15 hP) (ln_15 hP) hb9 ?_
    obtain ⟨M4, eM4, h⟩ := bndE h
    refine VV.mem eM4 ?_
    have hP4 := hP.wI eM4
    obtain ⟨b1, eb1, h⟩ := bndE h
    refine Y_iinc (j := 4) (v := b1) (lv1 := [(4, .int b1), (0, .ref 11), (1, .int x1), (2, .int x2), (3, .int x3)]) dX7_addLonger_49 rfl eb1.symm (by decide) rfl ?_
    refine Y_goto (tgt := 14) dX7_addLonger_52 (by decide) ?_
    refine VV.sub [1, 2, 3, 4, 0] rfl ?_
    exact hk14 _ _ _ hP4 h
noncomputable def d_X7_addLonger_14 (x1 : Int32) (x2 : Int32) (x3 : Int32) : Nat → (Int32) → Mem → Option (Int32 × Mem) := lp fun k a M => d_X7_addLonger_14b k x1 x2 x3 a M
theorem b_X7_addLonger_14 {x1 : Int32} {x2 : Int32} {x3 : Int32} (n : Nat) : ∀ (a : (Int32)) (M : Mem) (z : Int32 × Mem), d_X7_addLonger_14 x1 x2 x3 n a M = some z → Lay M → VV Lay k_X7_addLonger 14 [(0, .ref 11), (1, .int x1), (2, .int x2), (3, .int x3), (4, .int a)] [] M z.2 (Qv (some (.int z.1)) z.2) xF :=
  lp_ind (fun k hk a M z h hP => b_X7_addLonger_14b  (fun a M z hP h => hk a M z h hP) hP h) n
noncomputable def d_X7_addLonger (x1 : Int32) (x2 : Int32) (M : Mem) : Option (Int32 × Mem) :=
  okk (vp_in x1 60) <|
  (d_X7_addEmpty (mI M 12 x1.toNatClampNeg) M).bind fun y1 =>
  d_X7_addLonger_14 x1 x2 y1.1 fuel ((0 : Int32)) y1.2
theorem b_X7_addLonger {x1 : Int32} {x2 : Int32} {M z} (hP : Lay M) (h : d_X7_addLonger x1 x2 M = some z) : VV Lay k_X7_addLonger 0 [(0, .ref 11), (1, .int x1), (2, .int x2)] [] M z.2 (Qv (some (.int z.1)) z.2) xF := by
  unfold d_X7_addLonger at h
  refine Y_aload_n (j := 0) dX7_addLonger_0 rfl rfl ?_
  refine Y_aload_n (j := 0) dX7_addLonger_1 rfl rfl ?_
  refine Z_getr dX7_addLonger_2 w1_108 (lk_11 hP) fr_7_0 (lr_11_0 hP) ?_
  refine Y_iload_n (j := 1) dX7_addLonger_5 rfl rfl ?_
  obtain ⟨hb1, h⟩ := okE h
  refine Y_iald dX7_addLonger_6 (lk_12 hP) (ln_12 hP) hb1 ?_
  obtain ⟨y1, qy1, h⟩ := bindE h
  have cy1 := v_X7_addEmpty hP qy1
  refine C_V1r dX7_addLonger_7 w5_220 i_X7_addEmpty (lk_11 hP) ⟨Nat.le_of_ble_eq_true rfl, Nat.le_of_ble_eq_true rfl⟩ rfl (Nat.le_of_ble_eq_true rfl) (Nat.le_of_ble_eq_true rfl) (Nat.le_of_ble_eq_true rfl) (cy1) ?_
  have hPy1 := cy1.1.1
  refine Y_istore_n (lv1 := [(3, .int y1.1), (0, .ref 11), (1, .int x1), (2, .int x2)]) dX7_addLonger_10 rfl (by decide) rfl ?_
  refine Y_iconst (v := (0 : Int32)) dX7_addLonger_11 rfl ?_
  refine Y_istore (lv1 := [(4, .int (0 : Int32)), (3, .int y1.1), (0, .ref 11), (1, .int x1), (2, .int x2)]) dX7_addLonger_12 (by decide) rfl ?_
  refine VV.sub [2, 3, 4, 1, 0] rfl ?_
  exact b_X7_addLonger_14  fuel _ _ _ h hPy1
theorem v_X7_addLonger {x1 : Int32} {x2 : Int32} {M z} (hP : Lay M) (h : d_X7_addLonger x1 x2 M = some z) : CC Lay k_X7_addLonger [.ref 11, .int x1, .int x2] M z.2 (Qv (some (.int z.1)) z.2) xF :=
  CC.ofVV (by decide) rfl (Nat.le_of_ble_eq_true rfl) (b_X7_addLonger hP h)
noncomputable def d_X7_behindPut_43 (x1 : Int32) (x2 : Int32) (M : Mem) : Option (Int32 × Mem) :=
  okk (vp_in ((x1 * (6 : Int32)) + x2) 360) <|
  some ((mI M 16 ((x1 * (6 : Int32)) + x2).toNatClampNeg), M)
theorem b_X7_behindPut_43 {x1 : Int32} {x2 : Int32} {M z} (hP : Lay M) (h : d_X7_behindPut_43 x1 x2 M = some z) : VV Lay k_X7_behindPut 43 [(0, .ref 11), (1, .int x1), (2, .int x2)] [] M z.2 (Qv (some (.int z.1)) z.2) xF := by
  unfold d_X7_behindPut_43 at h
  refine Y_aload_n (j := 0) dX7_behindPut_43 rfl rfl ?_
  refine Z_getr dX7_behindPut_44 w1_115 (lk_11 hP) fr_7_4 (lr_11_4 hP) ?_
  refine Y_iload_n (j := 1) dX7_behindPut_47 rfl rfl ?_
  refine Y_bipush (v := (6 : Int32)) dX7_behindPut_48 rfl ?_
  refine Y_imul dX7_behindPut_50 ?_
  refine Y_iload_n (j := 2) dX7_behindPut_51 rfl rfl ?_
  refine Y_iadd dX7_behindPut_52 ?_
  obtain ⟨hb1, h⟩ := okE h
  refine Y_iald dX7_behindPut_53 (lk_16 hP) (ln_16 hP) hb1 ?_
  cases h
  exact Y_iret rfl rfl dX7_behindPut_54 hP ⟨rfl, rfl⟩
noncomputable def d_X7_behindPut (x1 : Int32) (x2 : Int32) (M : Mem) : Option (Int32 × Mem) :=
  (d_X7_has x1 x2 M).bind fun y1 =>
  if y1.1 = 0 then (
    okk (vp_in ((x1 * (6 : Int32)) + x2) 360) <|
    if (mI y1.2 16 ((x1 * (6 : Int32)) + x2).toNatClampNeg) = (-1 : Int32) then (
      (d_X7_addLonger x1 x2 y1.2).bind fun y2 =>
      okk (vp_in ((x1 * (6 : Int32)) + x2) 360) <|
      bnd (sI y2.2 16 ((x1 * (6 : Int32)) + x2).toNatClampNeg y2.1) fun M1 =>
      d_X7_behindPut_43 x1 x2 M1)
    else (
      d_X7_behindPut_43 x1 x2 y1.2))
  else (
    some (x1, y1.2))
theorem b_X7_behindPut {x1 : Int32} {x2 : Int32} {M z} (hP : Lay M) (h : d_X7_behindPut x1 x2 M = some z) : VV Lay k_X7_behindPut 0 [(0, .ref 11), (1, .int x1), (2, .int x2)] [] M z.2 (Qv (some (.int z.1)) z.2) xF := by
  unfold d_X7_behindPut at h
  refine Y_aload_n (j := 0) dX7_behindPut_0 rfl rfl ?_
  refine Y_iload_n (j := 1) dX7_behindPut_1 rfl rfl ?_
  refine Y_iload_n (j := 2) dX7_behindPut_2 rfl rfl ?_
  obtain ⟨y1, qy1, h⟩ := bindE h
  have cy1 := v_X7_has hP qy1
  refine C_V2r dX7_behindPut_3 w5_152 i_X7_has (lk_11 hP) ⟨Nat.le_of_ble_eq_true rfl, Nat.le_of_ble_eq_true rfl⟩ rfl (Nat.le_of_ble_eq_true rfl) (Nat.le_of_ble_eq_true rfl) (Nat.le_of_ble_eq_true rfl) (cy1) ?_
  have hPy1 := cy1.1.1
  refine Y_if_eq (tgt := 11) dX7_behindPut_6 (by decide) (fun hc1 => ?_) (fun hc1 => ?_)
  · replace h := ifT hc1 h
    refine Y_aload_n (j := 0) dX7_behindPut_11 rfl rfl ?_
    refine Z_getr dX7_behindPut_12 w1_115 (lk_11 hPy1) fr_7_4 (lr_11_4 hPy1) ?_
    refine Y_iload_n (j := 1) dX7_behindPut_15 rfl rfl ?_
    refine Y_bipush (v := (6 : Int32)) dX7_behindPut_16 rfl ?_
    refine Y_imul dX7_behindPut_18 ?_
    refine Y_iload_n (j := 2) dX7_behindPut_19 rfl rfl ?_
    refine Y_iadd dX7_behindPut_20 ?_
    obtain ⟨hb1, h⟩ := okE h
    refine Y_iald dX7_behindPut_21 (lk_16 hPy1) (ln_16 hPy1) hb1 ?_
    refine Y_iconst (v := (-1 : Int32)) dX7_behindPut_22 rfl ?_
    refine Y_icmp_ne (tgt := 43) dX7_behindPut_23 (by decide) (fun hc2 => ?_) (fun hc2 => ?_)
    · replace h := ifF hc2 h
      refine VV.sub [0, 1, 2] rfl ?_
      exact b_X7_behindPut_43  hPy1 h
    · replace h := ifT hc2 h
      refine Y_aload_n (j := 0) dX7_behindPut_26 rfl rfl ?_
      refine Z_getr dX7_behindPut_27 w1_115 (lk_11 hPy1) fr_7_4 (lr_11_4 hPy1) ?_
      refine Y_iload_n (j := 1) dX7_behindPut_30 rfl rfl ?_
      refine Y_bipush (v := (6 : Int32)) dX7_behindPut_31 rfl ?_
      refine Y_imul dX7_behindPut_33 ?_
      refine Y_iload_n (j := 2) dX7_behindPut_34 rfl rfl ?_
      refine Y_iadd dX7_behindPut_35 ?_
      refine Y_aload_n (j := 0) dX7_behindPut_36 rfl rfl ?_
      refine Y_iload_n (j := 1) dX7_behindPut_37 rfl rfl ?_
      refine Y_iload_n (j := 2) dX7_behindPut_38 rfl rfl ?_
      obtain ⟨y2, qy2, h⟩ := bindE h
      have cy2 := v_X7_addLonger hPy1 qy2
      refine C_V2r dX7_behindPut_39 w5_216 i_X7_addLonger (lk_11 hPy1) ⟨Nat.le_of_ble_eq_true rfl, Nat.le_of_ble_eq_true rfl⟩ rfl (Nat.le_of_ble_eq_true rfl) (Nat.le_of_ble_eq_true rfl) (Nat.le_of_ble_eq_true rfl) (cy2) ?_
      have hPy2 := cy2.1.1
      obtain ⟨hb2, h⟩ := okE h
      refine Y_iast dX7_behindPut_42 (lk_16 hPy2) (ln_16 hPy2) hb2 ?_
      obtain ⟨M1, eM1, h⟩ := bndE h
      refine VV.mem eM1 ?_
      have hP1 := hPy2.wI eM1
      refine VV.sub [0, 1, 2] rfl ?_
      exact b_X7_behindPut_43  hP1 h
  · replace h := ifF hc1 h
    refine Y_iload_n (j := 1) dX7_behindPut_9 rfl rfl ?_
    cases h
    exact Y_iret rfl rfl dX7_behindPut_10 hPy1 ⟨rfl, rfl⟩
theorem v_X7_behindPut {x1 : Int32} {x2 : Int32} {M z} (hP : Lay M) (h : d_X7_behindPut x1 x2 M = some z) : CC Lay k_X7_behindPut [.ref 11, .int x1, .int x2] M z.2 (Qv (some (.int z.1)) z.2) xF :=
  CC.ofVV (by decide) rfl (Nat.le_of_ble_eq_true rfl) (b_X7_behindPut hP h)
noncomputable def d_X3_tell (o : Nat) (x1 : Int32) (M : Mem) : Option (Unit × Mem) :=
  if (20 : Int32) ≤ (mI M o 11) then (
    some ((), M))
  else (
    (d_X8_move o x1 ((528 : Int32) + (mI M o 11)) M).bind fun y1 =>
    bnd (sI y1.2 o 11 ((mI y1.2 o 11) + (1 : Int32))) fun M1 =>
    some ((), M1))
theorem b_X3_tell {o : Nat} {x1 : Int32} {M z} (ho : o = 18 ∨ o = 28) (hP : Lay M) (h : d_X3_tell o x1 M = some z) : VV Lay k_X3_tell 0 [(0, .ref o), (1, .int x1)] [] M z.2 (Qv (none) z.2) xF := by
  unfold d_X3_tell at h
  refine Y_aload_n (j := 0) dX3_tell_0 rfl rfl ?_
  refine Z_geti dX3_tell_1 w1_189 (lo_0 hP ho) fi_4_11 ?_
  refine Y_bipush (v := (20 : Int32)) dX3_tell_4 rfl ?_
  refine Y_icmp_ge (tgt := 35) dX3_tell_6 (by decide) (fun hc1 => ?_) (fun hc1 => ?_)
  · replace h := ifT hc1 h
    cases h
    exact Y_vret rfl dX3_tell_35 hP ⟨rfl, rfl⟩
  · replace h := ifF hc1 h
    refine Y_aload_n (j := 0) dX3_tell_9 rfl rfl ?_
    refine Z_getr dX3_tell_10 w1_171 (lo_0 hP ho) fr_4_2 (lor_0_2 hP ho) ?_
    refine Y_iload_n (j := 1) dX3_tell_13 rfl rfl ?_
    refine Y_sipush (v := (528 : Int32)) dX3_tell_14 rfl ?_
    refine Y_aload_n (j := 0) dX3_tell_17 rfl rfl ?_
    refine Z_geti dX3_tell_18 w1_189 (lo_0 hP ho) fi_4_11 ?_
    refine Y_iadd dX3_tell_21 ?_
    obtain ⟨y1, qy1, h⟩ := bindE h
    have cy1 := v_X8_move ho hP qy1
    refine C_V2o dX3_tell_22 w5_193 i_X8_move (lo_1 hP ho) ⟨Nat.le_of_ble_eq_true rfl, Nat.le_of_ble_eq_true rfl⟩ rfl (Nat.le_of_ble_eq_true rfl) (Nat.le_of_ble_eq_true rfl) (Nat.le_of_ble_eq_true rfl) (cy1) ?_
    have hPy1 := cy1.1.1
    refine Y_aload_n (j := 0) dX3_tell_25 rfl rfl ?_
    refine Y_dup dX3_tell_26 rfl ?_
    refine Z_geti dX3_tell_27 w1_189 (lo_0 hPy1 ho) fi_4_11 ?_
    refine Y_iconst (v := (1 : Int32)) dX3_tell_30 rfl ?_
    refine Y_iadd dX3_tell_31 ?_
    refine Z_puti dX3_tell_32 w1_189 (lo_0 hPy1 ho) fi_4_11 (Or.inl rfl) rfl ?_
    obtain ⟨M1, eM1, h⟩ := bndE h
    refine VV.mem eM1 ?_
    have hP1 := hPy1.wI eM1
    cases h
    exact Y_vret rfl dX3_tell_35 hP1 ⟨rfl, rfl⟩
theorem v_X3_tell {o : Nat} {x1 : Int32} {M z} (ho : o = 18 ∨ o = 28) (hP : Lay M) (h : d_X3_tell o x1 M = some z) : CC Lay k_X3_tell [.ref o, .int x1] M z.2 (Qv (none) z.2) xF :=
  CC.ofVV (by decide) rfl (Nat.le_of_ble_eq_true rfl) (b_X3_tell ho hP h)
noncomputable def d_X4_nearest_47 (x2 : Int64) (M : Mem) : Option (Int32 × Mem) :=
  bnd ((x2 + (1 : Int64))) fun b1 =>
  some ((b1.toInt32), M)
theorem b_X4_nearest_47 {x2 : Int64} {M z} (hP : Lay M) (h : d_X4_nearest_47 x2 M = some z) : VV Lay k_X4_nearest 47 [(2, .long x2)] [] M z.2 (Qv (some (.int z.1)) z.2) xF := by
  unfold d_X4_nearest_47 at h
  refine Y_lload_n (j := 0) dX4_nearest_47 rfl rfl ?_
  refine Y_lconst (v := (1 : Int64)) dX4_nearest_48 rfl ?_
  refine Y_ladd dX4_nearest_49 ?_
  obtain ⟨b1, eb1, h⟩ := bndE h
  refine VV.topJ eb1 ?_
  refine Y_lstore_n (lv1 := [(2, .long b1)]) dX4_nearest_50 rfl (by decide) rfl ?_
  refine Y_goto (tgt := 81) dX4_nearest_51 (by decide) ?_
  refine Y_lload_n (j := 0) dX4_nearest_81 rfl rfl ?_
  refine Y_l2i dX4_nearest_82 ?_
  cases h
  exact Y_iret rfl rfl dX4_nearest_83 hP ⟨rfl, rfl⟩
noncomputable def d_X4_nearest_77 (x2 : Int64) (M : Mem) : Option (Int32 × Mem) :=
  bnd ((x2 - (1 : Int64))) fun b1 =>
  some ((b1.toInt32), M)
theorem b_X4_nearest_77 {x2 : Int64} {M z} (hP : Lay M) (h : d_X4_nearest_77 x2 M = some z) : VV Lay k_X4_nearest 77 [(2, .long x2)] [] M z.2 (Qv (some (.int z.1)) z.2) xF := by
  unfold d_X4_nearest_77 at h
  refine Y_lload_n (j := 0) dX4_nearest_77 rfl rfl ?_
  refine Y_lconst (v := (1 : Int64)) dX4_nearest_78 rfl ?_
  refine Y_lsub dX4_nearest_79 ?_
  obtain ⟨b1, eb1, h⟩ := bndE h
  refine VV.topJ eb1 ?_
  refine Y_lstore_n (lv1 := [(2, .long b1)]) dX4_nearest_80 rfl (by decide) rfl ?_
  refine Y_lload_n (j := 0) dX4_nearest_81 rfl rfl ?_
  refine Y_l2i dX4_nearest_82 ?_
  cases h
  exact Y_iret rfl rfl dX4_nearest_83 hP ⟨rfl, rfl⟩
noncomputable def d_X4_nearest_54 (x2 : Int64) (x4 : UInt64) (x6 : Int32) (M : Mem) : Option (Int32 × Mem) :=
  if (Op.cmpValue (FP.dcmp x4 (13826050856027422720 : UInt64)) .g) < 0 then (
    d_X4_nearest_77 x2 M)
  else (
    if (Op.cmpValue (FP.dcmp x4 (13826050856027422720 : UInt64)) .l) = 0 then (
      if x6 = 0 then (
        some ((x2.toInt32), M))
      else (
        d_X4_nearest_77 x2 M))
    else (
      some ((x2.toInt32), M)))
theorem b_X4_nearest_54 {x2 : Int64} {x4 : UInt64} {x6 : Int32} {M z} (hP : Lay M) (h : d_X4_nearest_54 x2 x4 x6 M = some z) : VV Lay k_X4_nearest 54 [(2, .long x2), (4, .double x4), (6, .int x6)] [] M z.2 (Qv (some (.int z.1)) z.2) xF := by
  unfold d_X4_nearest_54 at h
  refine Y_dload (j := 1) dX4_nearest_54 rfl ?_
  refine Y_ldc2d (by decide) dX4_nearest_56 w5_237 ?_
  refine Y_dcmp dX4_nearest_59 ?_
  refine Y_if_lt (tgt := 77) dX4_nearest_60 (by decide) (fun hc1 => ?_) (fun hc1 => ?_)
  · replace h := ifT hc1 h
    refine VV.sub [0] rfl ?_
    exact b_X4_nearest_77  hP h
  · replace h := ifF hc1 h
    refine Y_dload (j := 1) dX4_nearest_63 rfl ?_
    refine Y_ldc2d (by decide) dX4_nearest_65 w5_237 ?_
    refine Y_dcmp dX4_nearest_68 ?_
    refine Y_if_ne (tgt := 81) dX4_nearest_69 (by decide) (fun hc2 => ?_) (fun hc2 => ?_)
    · replace h := ifF hc2 h
      refine Y_lload_n (j := 0) dX4_nearest_81 rfl rfl ?_
      refine Y_l2i dX4_nearest_82 ?_
      cases h
      exact Y_iret rfl rfl dX4_nearest_83 hP ⟨rfl, rfl⟩
    · replace h := ifT hc2 h
      refine Y_iload (j := 2) dX4_nearest_72 rfl ?_
      refine Y_if_eq (tgt := 81) dX4_nearest_74 (by decide) (fun hc3 => ?_) (fun hc3 => ?_)
      · replace h := ifT hc3 h
        refine Y_lload_n (j := 0) dX4_nearest_81 rfl rfl ?_
        refine Y_l2i dX4_nearest_82 ?_
        cases h
        exact Y_iret rfl rfl dX4_nearest_83 hP ⟨rfl, rfl⟩
      · replace h := ifF hc3 h
        refine VV.sub [0] rfl ?_
        exact b_X4_nearest_77  hP h
noncomputable def d_X4_nearest_22 (x2 : Int64) (x4 : UInt64) (s0 : Int32) (M : Mem) : Option (Int32 × Mem) :=
  if 0 < (Op.cmpValue (FP.dcmp x4 (4602678819172646912 : UInt64)) .l) then (
    d_X4_nearest_47 x2 M)
  else (
    if (Op.cmpValue (FP.dcmp x4 (4602678819172646912 : UInt64)) .l) = 0 then (
      if s0 = 0 then (
        d_X4_nearest_54 x2 x4 s0 M)
      else (
        d_X4_nearest_47 x2 M))
    else (
      d_X4_nearest_54 x2 x4 s0 M))
theorem b_X4_nearest_22 {x2 : Int64} {x4 : UInt64} {s0 : Int32} {M z} (hP : Lay M) (h : d_X4_nearest_22 x2 x4 s0 M = some z) : VV Lay k_X4_nearest 22 [(2, .long x2), (4, .double x4)] [.int s0] M z.2 (Qv (some (.int z.1)) z.2) xF := by
  unfold d_X4_nearest_22 at h
  refine Y_istore (lv1 := [(6, .int s0), (2, .long x2), (4, .double x4)]) dX4_nearest_22 (by decide) rfl ?_
  refine Y_dload (j := 2) dX4_nearest_24 rfl ?_
  refine Y_ldc2d (by decide) dX4_nearest_26 w5_236 ?_
  refine Y_dcmp dX4_nearest_29 ?_
  refine Y_if_gt (tgt := 47) dX4_nearest_30 (by decide) (fun hc1 => ?_) (fun hc1 => ?_)
  · replace h := ifT hc1 h
    refine VV.sub [1] rfl ?_
    exact b_X4_nearest_47  hP h
  · replace h := ifF hc1 h
    refine Y_dload (j := 2) dX4_nearest_33 rfl ?_
    refine Y_ldc2d (by decide) dX4_nearest_35 w5_236 ?_
    refine Y_dcmp dX4_nearest_38 ?_
    refine Y_if_ne (tgt := 54) dX4_nearest_39 (by decide) (fun hc2 => ?_) (fun hc2 => ?_)
    · replace h := ifF hc2 h
      refine VV.sub [1, 2, 0] rfl ?_
      exact b_X4_nearest_54  hP h
    · replace h := ifT hc2 h
      refine Y_iload (j := 0) dX4_nearest_42 rfl ?_
      refine Y_if_eq (tgt := 54) dX4_nearest_44 (by decide) (fun hc3 => ?_) (fun hc3 => ?_)
      · replace h := ifT hc3 h
        refine VV.sub [1, 2, 0] rfl ?_
        exact b_X4_nearest_54  hP h
      · replace h := ifF hc3 h
        refine VV.sub [1] rfl ?_
        exact b_X4_nearest_47  hP h
noncomputable def d_X4_nearest (x0 : UInt64) (M : Mem) : Option (Int32 × Mem) :=
  bnd ((FP.d2l x0)) fun b1 =>
  bnd ((FP.dsub x0 (FP.l2d b1))) fun b2 =>
  if (lg_cmp (b1 &&& (1 : Int64)) (0 : Int64)) = 0 then (
    d_X4_nearest_22 b1 b2 (0 : Int32) M)
  else (
    d_X4_nearest_22 b1 b2 (1 : Int32) M)
theorem b_X4_nearest {x0 : UInt64} {M z} (hP : Lay M) (h : d_X4_nearest x0 M = some z) : VV Lay k_X4_nearest 0 [(0, .double x0)] [] M z.2 (Qv (some (.int z.1)) z.2) xF := by
  unfold d_X4_nearest at h
  refine Y_dload_n (j := 0) dX4_nearest_0 rfl rfl ?_
  refine Y_d2l dX4_nearest_1 ?_
  obtain ⟨b1, eb1, h⟩ := bndE h
  refine VV.topJ eb1 ?_
  refine Y_lstore_n (lv1 := [(2, .long b1), (0, .double x0)]) dX4_nearest_2 rfl (by decide) rfl ?_
  refine Y_dload_n (j := 1) dX4_nearest_3 rfl rfl ?_
  refine Y_lload_n (j := 0) dX4_nearest_4 rfl rfl ?_
  refine Y_l2d dX4_nearest_5 ?_
  refine Y_dsub dX4_nearest_6 ?_
  obtain ⟨b2, eb2, h⟩ := bndE h
  refine VV.topD eb2 ?_
  refine Y_dstore (lv1 := [(4, .double b2), (2, .long b1), (0, .double x0)]) dX4_nearest_7 (by decide) rfl ?_
  refine Y_lload_n (j := 1) dX4_nearest_9 rfl rfl ?_
  refine Y_lconst (v := (1 : Int64)) dX4_nearest_10 rfl ?_
  refine Y_land dX4_nearest_11 ?_
  refine Y_lconst (v := (0 : Int64)) dX4_nearest_12 rfl ?_
  refine Y_lcmp dX4_nearest_13 ?_
  refine Y_if_eq (tgt := 21) dX4_nearest_14 (by decide) (fun hc1 => ?_) (fun hc1 => ?_)
  · replace h := ifT hc1 h
    refine Y_iconst (v := (0 : Int32)) dX4_nearest_21 rfl ?_
    refine VV.sub [1, 0] rfl ?_
    exact b_X4_nearest_22  hP h
  · replace h := ifF hc1 h
    refine Y_iconst (v := (1 : Int32)) dX4_nearest_17 rfl ?_
    refine Y_goto (tgt := 22) dX4_nearest_18 (by decide) ?_
    refine VV.sub [1, 0] rfl ?_
    exact b_X4_nearest_22  hP h
theorem v_X4_nearest {x0 : UInt64} {M z} (hP : Lay M) (h : d_X4_nearest x0 M = some z) : CC Lay k_X4_nearest [.double x0] M z.2 (Qv (some (.int z.1)) z.2) xF :=
  CC.ofVV (by decide) rfl (Nat.le_of_ble_eq_true rfl) (b_X4_nearest hP h)
noncomputable def d_X8_round (o : Nat) (x1 : Int32) (M : Mem) : Option (Unit × Mem) :=
  okk (vp_in x1 549) <|
  if (mI M (o + 2) x1.toNatClampNeg) = (102 : Int32) then (
    okk (vp_in x1 549) <|
    (d_X4_nearest (mD M (o + 4) x1.toNatClampNeg) M).bind fun y1 =>
    (d_X8_put o x1 (105 : Int32) y1.1 y1.2).bind fun y2 =>
    some ((), y2.2))
  else (
    some ((), M))
theorem b_X8_round {o : Nat} {x1 : Int32} {M z} (ho : o = 18 ∨ o = 28) (hP : Lay M) (h : d_X8_round o x1 M = some z) : VV Lay k_X8_round 0 [(0, .ref (o + 1)), (1, .int x1)] [] M z.2 (Qv (none) z.2) xF := by
  unfold d_X8_round at h
  refine Y_aload_n (j := 0) dX8_round_0 rfl rfl ?_
  refine Z_getr dX8_round_1 w1_149 (lo_1 hP ho) fr_8_0 (lor_1_0 hP ho) ?_
  refine Y_iload_n (j := 1) dX8_round_4 rfl rfl ?_
  obtain ⟨hb1, h⟩ := okE h
  refine Y_cald dX8_round_5 (lo_2 hP ho) (lon_2 hP ho) hb1 ?_
  refine Y_bipush (v := (102 : Int32)) dX8_round_6 rfl ?_
  refine Y_icmp_ne (tgt := 27) dX8_round_8 (by decide) (fun hc1 => ?_) (fun hc1 => ?_)
  · replace h := ifF hc1 h
    cases h
    exact Y_vret rfl dX8_round_27 hP ⟨rfl, rfl⟩
  · replace h := ifT hc1 h
    refine Y_aload_n (j := 0) dX8_round_11 rfl rfl ?_
    refine Y_iload_n (j := 1) dX8_round_12 rfl rfl ?_
    refine Y_bipush (v := (105 : Int32)) dX8_round_13 rfl ?_
    refine Y_aload_n (j := 0) dX8_round_15 rfl rfl ?_
    refine Z_getr dX8_round_16 w1_154 (lo_1 hP ho) fr_8_2 (lor_1_2 hP ho) ?_
    refine Y_iload_n (j := 1) dX8_round_19 rfl rfl ?_
    obtain ⟨hb2, h⟩ := okE h
    refine Y_dald dX8_round_20 (lo_4 hP ho) (lon_4 hP ho) hb2 ?_
    obtain ⟨y1, qy1, h⟩ := bindE h
    have cy1 := v_X4_nearest hP qy1
    refine C_S1r dX8_round_21 w5_233 i_X4_nearest (Nat.le_of_ble_eq_true rfl) (Nat.le_of_ble_eq_true rfl) (Nat.le_of_ble_eq_true rfl) (cy1) ?_
    have hPy1 := cy1.1.1
    obtain ⟨y2, qy2, h⟩ := bindE h
    have cy2 := v_X8_put ho hPy1 qy2
    refine C_V3o dX8_round_24 w5_238 i_X8_put (lo_1 hPy1 ho) ⟨Nat.le_of_ble_eq_true rfl, Nat.le_of_ble_eq_true rfl⟩ rfl (Nat.le_of_ble_eq_true rfl) (Nat.le_of_ble_eq_true rfl) (Nat.le_of_ble_eq_true rfl) (cy2) ?_
    have hPy2 := cy2.1.1
    cases h
    exact Y_vret rfl dX8_round_27 hPy2 ⟨rfl, rfl⟩
theorem v_X8_round {o : Nat} {x1 : Int32} {M z} (ho : o = 18 ∨ o = 28) (hP : Lay M) (h : d_X8_round o x1 M = some z) : CC Lay k_X8_round [.ref (o + 1), .int x1] M z.2 (Qv (none) z.2) xF :=
  CC.ofVV (by decide) rfl (Nat.le_of_ble_eq_true rfl) (b_X8_round ho hP h)
noncomputable def d_X8_realAt (o : Nat) (x1 : Int32) (M : Mem) : Option (UInt64 × Mem) :=
  okk (vp_in x1 549) <|
  if (mI M (o + 2) x1.toNatClampNeg) = (105 : Int32) then (
    okk (vp_in x1 549) <|
    some ((FP.i2d (mI M (o + 3) x1.toNatClampNeg)), M))
  else (
    okk (vp_in x1 549) <|
    some ((mD M (o + 4) x1.toNatClampNeg), M))
theorem b_X8_realAt {o : Nat} {x1 : Int32} {M z} (ho : o = 18 ∨ o = 28) (hP : Lay M) (h : d_X8_realAt o x1 M = some z) : VV Lay k_X8_realAt 0 [(0, .ref (o + 1)), (1, .int x1)] [] M z.2 (Qv (some (.double z.1)) z.2) xF := by
  unfold d_X8_realAt at h
  refine Y_aload_n (j := 0) dX8_realAt_0 rfl rfl ?_
  refine Z_getr dX8_realAt_1 w1_149 (lo_1 hP ho) fr_8_0 (lor_1_0 hP ho) ?_
  refine Y_iload_n (j := 1) dX8_realAt_4 rfl rfl ?_
  obtain ⟨hb1, h⟩ := okE h
  refine Y_cald dX8_realAt_5 (lo_2 hP ho) (lon_2 hP ho) hb1 ?_
  refine Y_bipush (v := (105 : Int32)) dX8_realAt_6 rfl ?_
  refine Y_icmp_ne (tgt := 21) dX8_realAt_8 (by decide) (fun hc1 => ?_) (fun hc1 => ?_)
  · replace h := ifF hc1 h
    refine Y_aload_n (j := 0) dX8_realAt_21 rfl rfl ?_
    refine Z_getr dX8_realAt_22 w1_154 (lo_1 hP ho) fr_8_2 (lor_1_2 hP ho) ?_
    refine Y_iload_n (j := 1) dX8_realAt_25 rfl rfl ?_
    obtain ⟨hb2, h⟩ := okE h
    refine Y_dald dX8_realAt_26 (lo_4 hP ho) (lon_4 hP ho) hb2 ?_
    cases h
    exact Y_dret rfl dX8_realAt_27 hP ⟨rfl, rfl⟩
  · replace h := ifT hc1 h
    refine Y_aload_n (j := 0) dX8_realAt_11 rfl rfl ?_
    refine Z_getr dX8_realAt_12 w1_152 (lo_1 hP ho) fr_8_1 (lor_1_1 hP ho) ?_
    refine Y_iload_n (j := 1) dX8_realAt_15 rfl rfl ?_
    obtain ⟨hb3, h⟩ := okE h
    refine Y_iald dX8_realAt_16 (lo_3 hP ho) (lon_3 hP ho) hb3 ?_
    refine Y_i2d dX8_realAt_17 ?_
    refine Y_goto (tgt := 27) dX8_realAt_18 (by decide) ?_
    cases h
    exact Y_dret rfl dX8_realAt_27 hP ⟨rfl, rfl⟩
theorem v_X8_realAt {o : Nat} {x1 : Int32} {M z} (ho : o = 18 ∨ o = 28) (hP : Lay M) (h : d_X8_realAt o x1 M = some z) : CC Lay k_X8_realAt [.ref (o + 1), .int x1] M z.2 (Qv (some (.double z.1)) z.2) xF :=
  CC.ofVV (by decide) rfl (Nat.le_of_ble_eq_true rfl) (b_X8_realAt ho hP h)
noncomputable def d_X8_areEqual_52 (o : Nat) (x1 : Int32) (x2 : Int32) (M : Mem) : Option (Int32 × Mem) :=
  okk (vp_in x1 549) <|
  okk (vp_in x2 549) <|
  if (mI M (o + 2) x1.toNatClampNeg) = (mI M (o + 2) x2.toNatClampNeg) then (
    okk (vp_in x1 549) <|
    okk (vp_in x2 549) <|
    if (mI M (o + 3) x1.toNatClampNeg) = (mI M (o + 3) x2.toNatClampNeg) then (
      some ((1 : Int32), M))
    else (
      some ((0 : Int32), M)))
  else (
    some ((0 : Int32), M))
theorem b_X8_areEqual_52 {o : Nat} {x1 : Int32} {x2 : Int32} {M z} (ho : o = 18 ∨ o = 28) (hP : Lay M) (h : d_X8_areEqual_52 o x1 x2 M = some z) : VV Lay k_X8_areEqual 52 [(0, .ref (o + 1)), (1, .int x1), (2, .int x2)] [] M z.2 (Qv (some (.int z.1)) z.2) xF := by
  unfold d_X8_areEqual_52 at h
  refine Y_aload_n (j := 0) dX8_areEqual_52 rfl rfl ?_
  refine Z_getr dX8_areEqual_53 w1_149 (lo_1 hP ho) fr_8_0 (lor_1_0 hP ho) ?_
  refine Y_iload_n (j := 1) dX8_areEqual_56 rfl rfl ?_
  obtain ⟨hb1, h⟩ := okE h
  refine Y_cald dX8_areEqual_57 (lo_2 hP ho) (lon_2 hP ho) hb1 ?_
  refine Y_aload_n (j := 0) dX8_areEqual_58 rfl rfl ?_
  refine Z_getr dX8_areEqual_59 w1_149 (lo_1 hP ho) fr_8_0 (lor_1_0 hP ho) ?_
  refine Y_iload_n (j := 2) dX8_areEqual_62 rfl rfl ?_
  obtain ⟨hb2, h⟩ := okE h
  refine Y_cald dX8_areEqual_63 (lo_2 hP ho) (lon_2 hP ho) hb2 ?_
  refine Y_icmp_ne (tgt := 86) dX8_areEqual_64 (by decide) (fun hc1 => ?_) (fun hc1 => ?_)
  · replace h := ifF hc1 h
    refine Y_iconst (v := (0 : Int32)) dX8_areEqual_86 rfl ?_
    cases h
    exact Y_iret rfl (nar_bo (by decide)) dX8_areEqual_87 hP ⟨rfl, rfl⟩
  · replace h := ifT hc1 h
    refine Y_aload_n (j := 0) dX8_areEqual_67 rfl rfl ?_
    refine Z_getr dX8_areEqual_68 w1_152 (lo_1 hP ho) fr_8_1 (lor_1_1 hP ho) ?_
    refine Y_iload_n (j := 1) dX8_areEqual_71 rfl rfl ?_
    obtain ⟨hb3, h⟩ := okE h
    refine Y_iald dX8_areEqual_72 (lo_3 hP ho) (lon_3 hP ho) hb3 ?_
    refine Y_aload_n (j := 0) dX8_areEqual_73 rfl rfl ?_
    refine Z_getr dX8_areEqual_74 w1_152 (lo_1 hP ho) fr_8_1 (lor_1_1 hP ho) ?_
    refine Y_iload_n (j := 2) dX8_areEqual_77 rfl rfl ?_
    obtain ⟨hb4, h⟩ := okE h
    refine Y_iald dX8_areEqual_78 (lo_3 hP ho) (lon_3 hP ho) hb4 ?_
    refine Y_icmp_ne (tgt := 86) dX8_areEqual_79 (by decide) (fun hc2 => ?_) (fun hc2 => ?_)
    · replace h := ifF hc2 h
      refine Y_iconst (v := (0 : Int32)) dX8_areEqual_86 rfl ?_
      cases h
      exact Y_iret rfl (nar_bo (by decide)) dX8_areEqual_87 hP ⟨rfl, rfl⟩
    · replace h := ifT hc2 h
      refine Y_iconst (v := (1 : Int32)) dX8_areEqual_82 rfl ?_
      refine Y_goto (tgt := 87) dX8_areEqual_83 (by decide) ?_
      cases h
      exact Y_iret rfl (nar_bo (by decide)) dX8_areEqual_87 hP ⟨rfl, rfl⟩
noncomputable def d_X8_areEqual (o : Nat) (x1 : Int32) (x2 : Int32) (M : Mem) : Option (Int32 × Mem) :=
  (d_X8_isNumber o x1 M).bind fun y1 =>
  if y1.1 = 0 then (
    d_X8_areEqual_52 o x1 x2 y1.2)
  else (
    (d_X8_isNumber o x2 y1.2).bind fun y2 =>
    if y2.1 = 0 then (
      d_X8_areEqual_52 o x1 x2 y2.2)
    else (
      (d_X8_isUndefined o x1 y2.2).bind fun y3 =>
      if y3.1 = 0 then (
        (d_X8_isUndefined o x2 y3.2).bind fun y4 =>
        if y4.1 = 0 then (
          (d_X8_realAt o x1 y4.2).bind fun y5 =>
          (d_X8_realAt o x2 y5.2).bind fun y6 =>
          if (Op.cmpValue (FP.dcmp y5.1 y6.1) .l) = 0 then (
            some ((1 : Int32), y6.2))
          else (
            some ((0 : Int32), y6.2)))
        else (
          some ((0 : Int32), y4.2)))
      else (
        some ((0 : Int32), y3.2))))
theorem b_X8_areEqual {o : Nat} {x1 : Int32} {x2 : Int32} {M z} (ho : o = 18 ∨ o = 28) (hP : Lay M) (h : d_X8_areEqual o x1 x2 M = some z) : VV Lay k_X8_areEqual 0 [(0, .ref (o + 1)), (1, .int x1), (2, .int x2)] [] M z.2 (Qv (some (.int z.1)) z.2) xF := by
  unfold d_X8_areEqual at h
  refine Y_aload_n (j := 0) dX8_areEqual_0 rfl rfl ?_
  refine Y_iload_n (j := 1) dX8_areEqual_1 rfl rfl ?_
  obtain ⟨y1, qy1, h⟩ := bindE h
  have cy1 := v_X8_isNumber ho hP qy1
  refine C_V1r dX8_areEqual_2 w6_7 i_X8_isNumber (lo_1 hP ho) ⟨Nat.le_of_ble_eq_true rfl, Nat.le_of_ble_eq_true rfl⟩ rfl (Nat.le_of_ble_eq_true rfl) (Nat.le_of_ble_eq_true rfl) (Nat.le_of_ble_eq_true rfl) (cy1) ?_
  have hPy1 := cy1.1.1
  refine Y_if_eq (tgt := 52) dX8_areEqual_5 (by decide) (fun hc1 => ?_) (fun hc1 => ?_)
  · replace h := ifT hc1 h
    refine VV.sub [0, 1, 2] rfl ?_
    exact b_X8_areEqual_52 ho hPy1 h
  · replace h := ifF hc1 h
    refine Y_aload_n (j := 0) dX8_areEqual_8 rfl rfl ?_
    refine Y_iload_n (j := 2) dX8_areEqual_9 rfl rfl ?_
    obtain ⟨y2, qy2, h⟩ := bindE h
    have cy2 := v_X8_isNumber ho hPy1 qy2
    refine C_V1r dX8_areEqual_10 w6_7 i_X8_isNumber (lo_1 hPy1 ho) ⟨Nat.le_of_ble_eq_true rfl, Nat.le_of_ble_eq_true rfl⟩ rfl (Nat.le_of_ble_eq_true rfl) (Nat.le_of_ble_eq_true rfl) (Nat.le_of_ble_eq_true rfl) (cy2) ?_
    have hPy2 := cy2.1.1
    refine Y_if_eq (tgt := 52) dX8_areEqual_13 (by decide) (fun hc2 => ?_) (fun hc2 => ?_)
    · replace h := ifT hc2 h
      refine VV.sub [0, 1, 2] rfl ?_
      exact b_X8_areEqual_52 ho hPy2 h
    · replace h := ifF hc2 h
      refine Y_aload_n (j := 0) dX8_areEqual_16 rfl rfl ?_
      refine Y_iload_n (j := 1) dX8_areEqual_17 rfl rfl ?_
      obtain ⟨y3, qy3, h⟩ := bindE h
      have cy3 := v_X8_isUndefined ho hPy2 qy3
      refine C_V1r dX8_areEqual_18 w5_131 i_X8_isUndefined (lo_1 hPy2 ho) ⟨Nat.le_of_ble_eq_true rfl, Nat.le_of_ble_eq_true rfl⟩ rfl (Nat.le_of_ble_eq_true rfl) (Nat.le_of_ble_eq_true rfl) (Nat.le_of_ble_eq_true rfl) (cy3) ?_
      have hPy3 := cy3.1.1
      refine Y_if_ne (tgt := 50) dX8_areEqual_21 (by decide) (fun hc3 => ?_) (fun hc3 => ?_)
      · replace h := ifF hc3 h
        refine Y_iconst (v := (0 : Int32)) dX8_areEqual_50 rfl ?_
        cases h
        exact Y_iret rfl (nar_bo (by decide)) dX8_areEqual_51 hPy3 ⟨rfl, rfl⟩
      · replace h := ifT hc3 h
        refine Y_aload_n (j := 0) dX8_areEqual_24 rfl rfl ?_
        refine Y_iload_n (j := 2) dX8_areEqual_25 rfl rfl ?_
        obtain ⟨y4, qy4, h⟩ := bindE h
        have cy4 := v_X8_isUndefined ho hPy3 qy4
        refine C_V1r dX8_areEqual_26 w5_131 i_X8_isUndefined (lo_1 hPy3 ho) ⟨Nat.le_of_ble_eq_true rfl, Nat.le_of_ble_eq_true rfl⟩ rfl (Nat.le_of_ble_eq_true rfl) (Nat.le_of_ble_eq_true rfl) (Nat.le_of_ble_eq_true rfl) (cy4) ?_
        have hPy4 := cy4.1.1
        refine Y_if_ne (tgt := 50) dX8_areEqual_29 (by decide) (fun hc4 => ?_) (fun hc4 => ?_)
        · replace h := ifF hc4 h
          refine Y_iconst (v := (0 : Int32)) dX8_areEqual_50 rfl ?_
          cases h
          exact Y_iret rfl (nar_bo (by decide)) dX8_areEqual_51 hPy4 ⟨rfl, rfl⟩
        · replace h := ifT hc4 h
          refine Y_aload_n (j := 0) dX8_areEqual_32 rfl rfl ?_
          refine Y_iload_n (j := 1) dX8_areEqual_33 rfl rfl ?_
          obtain ⟨y5, qy5, h⟩ := bindE h
          have cy5 := v_X8_realAt ho hPy4 qy5
          refine C_V1r dX8_areEqual_34 w6_8 i_X8_realAt (lo_1 hPy4 ho) ⟨Nat.le_of_ble_eq_true rfl, Nat.le_of_ble_eq_true rfl⟩ rfl (Nat.le_of_ble_eq_true rfl) (Nat.le_of_ble_eq_true rfl) (Nat.le_of_ble_eq_true rfl) (cy5) ?_
          have hPy5 := cy5.1.1
          refine Y_aload_n (j := 0) dX8_areEqual_37 rfl rfl ?_
          refine Y_iload_n (j := 2) dX8_areEqual_38 rfl rfl ?_
          obtain ⟨y6, qy6, h⟩ := bindE h
          have cy6 := v_X8_realAt ho hPy5 qy6
          refine C_V1r dX8_areEqual_39 w6_8 i_X8_realAt (lo_1 hPy5 ho) ⟨Nat.le_of_ble_eq_true rfl, Nat.le_of_ble_eq_true rfl⟩ rfl (Nat.le_of_ble_eq_true rfl) (Nat.le_of_ble_eq_true rfl) (Nat.le_of_ble_eq_true rfl) (cy6) ?_
          have hPy6 := cy6.1.1
          refine Y_dcmp dX8_areEqual_42 ?_
          refine Y_if_ne (tgt := 50) dX8_areEqual_43 (by decide) (fun hc5 => ?_) (fun hc5 => ?_)
          · replace h := ifF hc5 h
            refine Y_iconst (v := (0 : Int32)) dX8_areEqual_50 rfl ?_
            cases h
            exact Y_iret rfl (nar_bo (by decide)) dX8_areEqual_51 hPy6 ⟨rfl, rfl⟩
          · replace h := ifT hc5 h
            refine Y_iconst (v := (1 : Int32)) dX8_areEqual_46 rfl ?_
            refine Y_goto (tgt := 51) dX8_areEqual_47 (by decide) ?_
            cases h
            exact Y_iret rfl (nar_bo (by decide)) dX8_areEqual_51 hPy6 ⟨rfl, rfl⟩
theorem v_X8_areEqual {o : Nat} {x1 : Int32} {x2 : Int32} {M z} (ho : o = 18 ∨ o = 28) (hP : Lay M) (h : d_X8_areEqual o x1 x2 M = some z) : CC Lay k_X8_areEqual [.ref (o + 1), .int x1, .int x2] M z.2 (Qv (some (.int z.1)) z.2) xF :=
  CC.ofVV (by decide) rfl (Nat.le_of_ble_eq_true rfl) (b_X8_areEqual ho hP h)
noncomputable def d_X4_ofIntegers (x0 : Int32) (x1 : Int64) (x2 : Int64) (M : Mem) : Option (Int64 × Mem) :=
  if x0 = (37 : Int32) then (
    if (lg_cmp x2 (0 : Int64)) = 0 then (
      some ((0 : Int64), M))
    else (
      okk (¬ x2 = 0) <|
      some ((x1 - x1 / x2 * x2), M)))
  else if x0 = (42 : Int32) then (
    some ((x1 * x2), M))
  else if x0 = (43 : Int32) then (
    some ((x1 + x2), M))
  else if x0 = (45 : Int32) then (
    some ((x1 - x2), M))
  else if x0 = (47 : Int32) then (
    if (lg_cmp x2 (0 : Int64)) = 0 then (
      some ((0 : Int64), M))
    else (
      okk (¬ x2 = 0) <|
      some ((x1 / x2), M)))
  else (
    if 0 ≤ (lg_cmp x1 x2) then (
      some ((0 : Int64), M))
    else (
      some ((1 : Int64), M)))
theorem b_X4_ofIntegers {x0 : Int32} {x1 : Int64} {x2 : Int64} {M z} (hP : Lay M) (h : d_X4_ofIntegers x0 x1 x2 M = some z) : VV Lay k_X4_ofIntegers 0 [(0, .int x0), (1, .long x1), (3, .long x2)] [] M z.2 (Qv (some (.long z.1)) z.2) xF := by
  unfold d_X4_ofIntegers at h
  refine Y_iload_n (j := 0) dX4_ofIntegers_0 rfl rfl ?_
  refine Y_table dX4_ofIntegers_1 [(37, 86), (38, 100), (39, 100), (40, 100), (41, 100), (42, 68), (43, 60), (44, 100), (45, 64), (46, 100), (47, 72)] 100 (by decide) (tab_ok (by decide +kernel)) (by decide) ?_ ?_
  · refine xs_cons ?_ <| xs_cons ?_ <| xs_cons ?_ <| xs_cons ?_ <| xs_cons ?_ <| xs_cons ?_ <| xs_cons ?_ <| xs_cons ?_ <| xs_cons ?_ <| xs_cons ?_ <| xs_cons ?_ <| xs_nil
    · intro e9
      replace h := ifT (by rw [e9]; decide) h
      refine Y_lload_n (j := 2) dX4_ofIntegers_86 rfl rfl ?_
      refine Y_lconst (v := (0 : Int64)) dX4_ofIntegers_87 rfl ?_
      refine Y_lcmp dX4_ofIntegers_88 ?_
      refine Y_if_ne (tgt := 96) dX4_ofIntegers_89 (by decide) (fun hc1 => ?_) (fun hc1 => ?_)
      · replace h := ifF hc1 h
        refine Y_lload_n (j := 1) dX4_ofIntegers_96 rfl rfl ?_
        refine Y_lload_n (j := 2) dX4_ofIntegers_97 rfl rfl ?_
        obtain ⟨hb1, h⟩ := okE h
        refine Y_lrem dX4_ofIntegers_98 hb1 ?_
        cases h
        exact Y_lret rfl dX4_ofIntegers_99 hP ⟨rfl, rfl⟩
      · replace h := ifT hc1 h
        refine Y_lconst (v := (0 : Int64)) dX4_ofIntegers_92 rfl ?_
        refine Y_goto (tgt := 99) dX4_ofIntegers_93 (by decide) ?_
        cases h
        exact Y_lret rfl dX4_ofIntegers_99 hP ⟨rfl, rfl⟩
    · intro e9
      replace h := ifF (by rw [e9]; decide) h
      replace h := ifF (by rw [e9]; decide) h
      replace h := ifF (by rw [e9]; decide) h
      replace h := ifF (by rw [e9]; decide) h
      replace h := ifF (by rw [e9]; decide) h
      refine Y_lload_n (j := 1) dX4_ofIntegers_100 rfl rfl ?_
      refine Y_lload_n (j := 2) dX4_ofIntegers_101 rfl rfl ?_
      refine Y_lcmp dX4_ofIntegers_102 ?_
      refine Y_if_ge (tgt := 110) dX4_ofIntegers_103 (by decide) (fun hc3 => ?_) (fun hc3 => ?_)
      · replace h := ifT hc3 h
        refine Y_lconst (v := (0 : Int64)) dX4_ofIntegers_110 rfl ?_
        cases h
        exact Y_lret rfl dX4_ofIntegers_111 hP ⟨rfl, rfl⟩
      · replace h := ifF hc3 h
        refine Y_lconst (v := (1 : Int64)) dX4_ofIntegers_106 rfl ?_
        refine Y_goto (tgt := 111) dX4_ofIntegers_107 (by decide) ?_
        cases h
        exact Y_lret rfl dX4_ofIntegers_111 hP ⟨rfl, rfl⟩
    · intro e9
      replace h := ifF (by rw [e9]; decide) h
      replace h := ifF (by rw [e9]; decide) h
      replace h := ifF (by rw [e9]; decide) h
      replace h := ifF (by rw [e9]; decide) h
      replace h := ifF (by rw [e9]; decide) h
      refine Y_lload_n (j := 1) dX4_ofIntegers_100 rfl rfl ?_
      refine Y_lload_n (j := 2) dX4_ofIntegers_101 rfl rfl ?_
      refine Y_lcmp dX4_ofIntegers_102 ?_
      refine Y_if_ge (tgt := 110) dX4_ofIntegers_103 (by decide) (fun hc3 => ?_) (fun hc3 => ?_)
      · replace h := ifT hc3 h
        refine Y_lconst (v := (0 : Int64)) dX4_ofIntegers_110 rfl ?_
        cases h
        exact Y_lret rfl dX4_ofIntegers_111 hP ⟨rfl, rfl⟩
      · replace h := ifF hc3 h
        refine Y_lconst (v := (1 : Int64)) dX4_ofIntegers_106 rfl ?_
        refine Y_goto (tgt := 111) dX4_ofIntegers_107 (by decide) ?_
        cases h
        exact Y_lret rfl dX4_ofIntegers_111 hP ⟨rfl, rfl⟩
    · intro e9
      replace h := ifF (by rw [e9]; decide) h
      replace h := ifF (by rw [e9]; decide) h
      replace h := ifF (by rw [e9]; decide) h
      replace h := ifF (by rw [e9]; decide) h
      replace h := ifF (by rw [e9]; decide) h
      refine Y_lload_n (j := 1) dX4_ofIntegers_100 rfl rfl ?_
      refine Y_lload_n (j := 2) dX4_ofIntegers_101 rfl rfl ?_
      refine Y_lcmp dX4_ofIntegers_102 ?_
      refine Y_if_ge (tgt := 110) dX4_ofIntegers_103 (by decide) (fun hc3 => ?_) (fun hc3 => ?_)
      · replace h := ifT hc3 h
        refine Y_lconst (v := (0 : Int64)) dX4_ofIntegers_110 rfl ?_
        cases h
        exact Y_lret rfl dX4_ofIntegers_111 hP ⟨rfl, rfl⟩
      · replace h := ifF hc3 h
        refine Y_lconst (v := (1 : Int64)) dX4_ofIntegers_106 rfl ?_
        refine Y_goto (tgt := 111) dX4_ofIntegers_107 (by decide) ?_
        cases h
        exact Y_lret rfl dX4_ofIntegers_111 hP ⟨rfl, rfl⟩
    · intro e9
      replace h := ifF (by rw [e9]; decide) h
      replace h := ifF (by rw [e9]; decide) h
      replace h := ifF (by rw [e9]; decide) h
      replace h := ifF (by rw [e9]; decide) h
      replace h := ifF (by rw [e9]; decide) h
      refine Y_lload_n (j := 1) dX4_ofIntegers_100 rfl rfl ?_
      refine Y_lload_n (j := 2) dX4_ofIntegers_101 rfl rfl ?_
      refine Y_lcmp dX4_ofIntegers_102 ?_
      refine Y_if_ge (tgt := 110) dX4_ofIntegers_103 (by decide) (fun hc3 => ?_) (fun hc3 => ?_)
      · replace h := ifT hc3 h
        refine Y_lconst (v := (0 : Int64)) dX4_ofIntegers_110 rfl ?_
        cases h
        exact Y_lret rfl dX4_ofIntegers_111 hP ⟨rfl, rfl⟩
      · replace h := ifF hc3 h
        refine Y_lconst (v := (1 : Int64)) dX4_ofIntegers_106 rfl ?_
        refine Y_goto (tgt := 111) dX4_ofIntegers_107 (by decide) ?_
        cases h
        exact Y_lret rfl dX4_ofIntegers_111 hP ⟨rfl, rfl⟩
    · intro e9
      replace h := ifF (by rw [e9]; decide) h
      replace h := ifT (by rw [e9]; decide) h
      refine Y_lload_n (j := 1) dX4_ofIntegers_68 rfl rfl ?_
      refine Y_lload_n (j := 2) dX4_ofIntegers_69 rfl rfl ?_
      refine Y_lmul dX4_ofIntegers_70 ?_
      cases h
      exact Y_lret rfl dX4_ofIntegers_71 hP ⟨rfl, rfl⟩
    · intro e9
      replace h := ifF (by rw [e9]; decide) h
      replace h := ifF (by rw [e9]; decide) h
      replace h := ifT (by rw [e9]; decide) h
      refine Y_lload_n (j := 1) dX4_ofIntegers_60 rfl rfl ?_
      refine Y_lload_n (j := 2) dX4_ofIntegers_61 rfl rfl ?_
      refine Y_ladd dX4_ofIntegers_62 ?_
      cases h
      exact Y_lret rfl dX4_ofIntegers_63 hP ⟨rfl, rfl⟩
    · intro e9
      replace h := ifF (by rw [e9]; decide) h
      replace h := ifF (by rw [e9]; decide) h
      replace h := ifF (by rw [e9]; decide) h
      replace h := ifF (by rw [e9]; decide) h
      replace h := ifF (by rw [e9]; decide) h
      refine Y_lload_n (j := 1) dX4_ofIntegers_100 rfl rfl ?_
      refine Y_lload_n (j := 2) dX4_ofIntegers_101 rfl rfl ?_
      refine Y_lcmp dX4_ofIntegers_102 ?_
      refine Y_if_ge (tgt := 110) dX4_ofIntegers_103 (by decide) (fun hc3 => ?_) (fun hc3 => ?_)
      · replace h := ifT hc3 h
        refine Y_lconst (v := (0 : Int64)) dX4_ofIntegers_110 rfl ?_
        cases h
        exact Y_lret rfl dX4_ofIntegers_111 hP ⟨rfl, rfl⟩
      · replace h := ifF hc3 h
        refine Y_lconst (v := (1 : Int64)) dX4_ofIntegers_106 rfl ?_
        refine Y_goto (tgt := 111) dX4_ofIntegers_107 (by decide) ?_
        cases h
        exact Y_lret rfl dX4_ofIntegers_111 hP ⟨rfl, rfl⟩
    · intro e9
      replace h := ifF (by rw [e9]; decide) h
      replace h := ifF (by rw [e9]; decide) h
      replace h := ifF (by rw [e9]; decide) h
      replace h := ifT (by rw [e9]; decide) h
      refine Y_lload_n (j := 1) dX4_ofIntegers_64 rfl rfl ?_
      refine Y_lload_n (j := 2) dX4_ofIntegers_65 rfl rfl ?_
      refine Y_lsub dX4_ofIntegers_66 ?_
      cases h
      exact Y_lret rfl dX4_ofIntegers_67 hP ⟨rfl, rfl⟩
    · intro e9
      replace h := ifF (by rw [e9]; decide) h
      replace h := ifF (by rw [e9]; decide) h
      replace h := ifF (by rw [e9]; decide) h
      replace h := ifF (by rw [e9]; decide) h
      replace h := ifF (by rw [e9]; decide) h
      refine Y_lload_n (j := 1) dX4_ofIntegers_100 rfl rfl ?_
      refine Y_lload_n (j := 2) dX4_ofIntegers_101 rfl rfl ?_
      refine Y_lcmp dX4_ofIntegers_102 ?_
      refine Y_if_ge (tgt := 110) dX4_ofIntegers_103 (by decide) (fun hc3 => ?_) (fun hc3 => ?_)
      · replace h := ifT hc3 h
        refine Y_lconst (v := (0 : Int64)) dX4_ofIntegers_110 rfl ?_
        cases h
        exact Y_lret rfl dX4_ofIntegers_111 hP ⟨rfl, rfl⟩
      · replace h := ifF hc3 h
        refine Y_lconst (v := (1 : Int64)) dX4_ofIntegers_106 rfl ?_
        refine Y_goto (tgt := 111) dX4_ofIntegers_107 (by decide) ?_
        cases h
        exact Y_lret rfl dX4_ofIntegers_111 hP ⟨rfl, rfl⟩
    · intro e9
      replace h := ifF (by rw [e9]; decide) h
      replace h := ifF (by rw [e9]; decide) h
      replace h := ifF (by rw [e9]; decide) h
      replace h := ifF (by rw [e9]; decide) h
      replace h := ifT (by rw [e9]; decide) h
      refine Y_lload_n (j := 2) dX4_ofIntegers_72 rfl rfl ?_
      refine Y_lconst (v := (0 : Int64)) dX4_ofIntegers_73 rfl ?_
      refine Y_lcmp dX4_ofIntegers_74 ?_
      refine Y_if_ne (tgt := 82) dX4_ofIntegers_75 (by decide) (fun hc2 => ?_) (fun hc2 => ?_)
      · replace h := ifF hc2 h
        refine Y_lload_n (j := 1) dX4_ofIntegers_82 rfl rfl ?_
        refine Y_lload_n (j := 2) dX4_ofIntegers_83 rfl rfl ?_
        obtain ⟨hb2, h⟩ := okE h
        refine Y_ldiv dX4_ofIntegers_84 hb2 ?_
        cases h
        exact Y_lret rfl dX4_ofIntegers_85 hP ⟨rfl, rfl⟩
      · replace h := ifT hc2 h
        refine Y_lconst (v := (0 : Int64)) dX4_ofIntegers_78 rfl ?_
        refine Y_goto (tgt := 85) dX4_ofIntegers_79 (by decide) ?_
        cases h
        exact Y_lret rfl dX4_ofIntegers_85 hP ⟨rfl, rfl⟩
  · intro n9
    replace h := ifF (xs_no n9 (by decide : ((37 : Int32), 86) ∈ _)) h
    replace h := ifF (xs_no n9 (by decide : ((42 : Int32), 68) ∈ _)) h
    replace h := ifF (xs_no n9 (by decide : ((43 : Int32), 60) ∈ _)) h
    replace h := ifF (xs_no n9 (by decide : ((45 : Int32), 64) ∈ _)) h
    replace h := ifF (xs_no n9 (by decide : ((47 : Int32), 72) ∈ _)) h
    refine Y_lload_n (j := 1) dX4_ofIntegers_100 rfl rfl ?_
    refine Y_lload_n (j := 2) dX4_ofIntegers_101 rfl rfl ?_
    refine Y_lcmp dX4_ofIntegers_102 ?_
    refine Y_if_ge (tgt := 110) dX4_ofIntegers_103 (by decide) (fun hc3 => ?_) (fun hc3 => ?_)
    · replace h := ifT hc3 h
      refine Y_lconst (v := (0 : Int64)) dX4_ofIntegers_110 rfl ?_
      cases h
      exact Y_lret rfl dX4_ofIntegers_111 hP ⟨rfl, rfl⟩
    · replace h := ifF hc3 h
      refine Y_lconst (v := (1 : Int64)) dX4_ofIntegers_106 rfl ?_
      refine Y_goto (tgt := 111) dX4_ofIntegers_107 (by decide) ?_
      cases h
      exact Y_lret rfl dX4_ofIntegers_111 hP ⟨rfl, rfl⟩
theorem v_X4_ofIntegers {x0 : Int32} {x1 : Int64} {x2 : Int64} {M z} (hP : Lay M) (h : d_X4_ofIntegers x0 x1 x2 M = some z) : CC Lay k_X4_ofIntegers [.int x0, .long x1, .long x2] M z.2 (Qv (some (.long z.1)) z.2) xF :=
  CC.ofVV (by decide) rfl (Nat.le_of_ble_eq_true rfl) (b_X4_ofIntegers hP h)
noncomputable def d_X4_isInteger (x0 : Int64) (M : Mem) : Option (Int32 × Mem) :=
  if (lg_cmp x0 (-2147483648 : Int64)) < 0 then (
    some ((0 : Int32), M))
  else (
    if 0 < (lg_cmp x0 (2147483647 : Int64)) then (
      some ((0 : Int32), M))
    else (
      some ((1 : Int32), M)))
theorem b_X4_isInteger {x0 : Int64} {M z} (hP : Lay M) (h : d_X4_isInteger x0 M = some z) : VV Lay k_X4_isInteger 0 [(0, .long x0)] [] M z.2 (Qv (some (.int z.1)) z.2) xF := by
  unfold d_X4_isInteger at h
  refine Y_lload_n (j := 0) dX4_isInteger_0 rfl rfl ?_
  refine Y_ldc2 dX4_isInteger_1 w6_23 ?_
  refine Y_lcmp dX4_isInteger_4 ?_
  refine Y_if_lt (tgt := 20) dX4_isInteger_5 (by decide) (fun hc1 => ?_) (fun hc1 => ?_)
  · replace h := ifT hc1 h
    refine Y_iconst (v := (0 : Int32)) dX4_isInteger_20 rfl ?_
    cases h
    exact Y_iret rfl (nar_bo (by decide)) dX4_isInteger_21 hP ⟨rfl, rfl⟩
  · replace h := ifF hc1 h
    refine Y_lload_n (j := 0) dX4_isInteger_8 rfl rfl ?_
    refine Y_ldc2 dX4_isInteger_9 w6_24 ?_
    refine Y_lcmp dX4_isInteger_12 ?_
    refine Y_if_gt (tgt := 20) dX4_isInteger_13 (by decide) (fun hc2 => ?_) (fun hc2 => ?_)
    · replace h := ifT hc2 h
      refine Y_iconst (v := (0 : Int32)) dX4_isInteger_20 rfl ?_
      cases h
      exact Y_iret rfl (nar_bo (by decide)) dX4_isInteger_21 hP ⟨rfl, rfl⟩
    · replace h := ifF hc2 h
      refine Y_iconst (v := (1 : Int32)) dX4_isInteger_16 rfl ?_
      refine Y_goto (tgt := 21) dX4_isInteger_17 (by decide) ?_
      cases h
      exact Y_iret rfl (nar_bo (by decide)) dX4_isInteger_21 hP ⟨rfl, rfl⟩
theorem v_X4_isInteger {x0 : Int64} {M z} (hP : Lay M) (h : d_X4_isInteger x0 M = some z) : CC Lay k_X4_isInteger [.long x0] M z.2 (Qv (some (.int z.1)) z.2) xF :=
  CC.ofVV (by decide) rfl (Nat.le_of_ble_eq_true rfl) (b_X4_isInteger hP h)
noncomputable def d_X8_givesInteger (o : Nat) (x1 : Int32) (x2 : Int32) (x3 : Int32) (M : Mem) : Option (Int32 × Mem) :=
  (d_X8_areIntegers o x2 x3 M).bind fun y1 =>
  if y1.1 = 0 then (
    some ((0 : Int32), y1.2))
  else (
    okk (vp_in x2 549) <|
    okk (vp_in x3 549) <|
    (d_X4_ofIntegers x1 ((mI y1.2 (o + 3) x2.toNatClampNeg).toInt64) ((mI y1.2 (o + 3) x3.toNatClampNeg).toInt64) y1.2).bind fun y2 =>
    (d_X4_isInteger y2.1 y2.2).bind fun y3 =>
    if y3.1 = 0 then (
      some ((0 : Int32), y3.2))
    else (
      some ((1 : Int32), y3.2)))
theorem b_X8_givesInteger {o : Nat} {x1 : Int32} {x2 : Int32} {x3 : Int32} {M z} (ho : o = 18 ∨ o = 28) (hP : Lay M) (h : d_X8_givesInteger o x1 x2 x3 M = some z) : VV Lay k_X8_givesInteger 0 [(0, .ref (o + 1)), (1, .int x1), (2, .int x2), (3, .int x3)] [] M z.2 (Qv (some (.int z.1)) z.2) xF := by
  unfold d_X8_givesInteger at h
  refine Y_aload_n (j := 0) dX8_givesInteger_0 rfl rfl ?_
  refine Y_iload_n (j := 2) dX8_givesInteger_1 rfl rfl ?_
  refine Y_iload_n (j := 3) dX8_givesInteger_2 rfl rfl ?_
  obtain ⟨y1, qy1, h⟩ := bindE h
  have cy1 := v_X8_areIntegers ho hP qy1
  refine C_V2r dX8_givesInteger_3 w6_16 i_X8_areIntegers (lo_1 hP ho) ⟨Nat.le_of_ble_eq_true rfl, Nat.le_of_ble_eq_true rfl⟩ rfl (Nat.le_of_ble_eq_true rfl) (Nat.le_of_ble_eq_true rfl) (Nat.le_of_ble_eq_true rfl) (cy1) ?_
  have hPy1 := cy1.1.1
  refine Y_if_eq (tgt := 37) dX8_givesInteger_6 (by decide) (fun hc1 => ?_) (fun hc1 => ?_)
  · replace h := ifT hc1 h
    refine Y_iconst (v := (0 : Int32)) dX8_givesInteger_37 rfl ?_
    cases h
    exact Y_iret rfl (nar_bo (by decide)) dX8_givesInteger_38 hPy1 ⟨rfl, rfl⟩
  · replace h := ifF hc1 h
    refine Y_iload_n (j := 1) dX8_givesInteger_9 rfl rfl ?_
    refine Y_aload_n (j := 0) dX8_givesInteger_10 rfl rfl ?_
    refine Z_getr dX8_givesInteger_11 w1_152 (lo_1 hPy1 ho) fr_8_1 (lor_1_1 hPy1 ho) ?_
    refine Y_iload_n (j := 2) dX8_givesInteger_14 rfl rfl ?_
    obtain ⟨hb1, h⟩ := okE h
    refine Y_iald dX8_givesInteger_15 (lo_3 hPy1 ho) (lon_3 hPy1 ho) hb1 ?_
    refine Y_i2l dX8_givesInteger_16 ?_
    refine Y_aload_n (j := 0) dX8_givesInteger_17 rfl rfl ?_
    refine Z_getr dX8_givesInteger_18 w1_152 (lo_1 hPy1 ho) fr_8_1 (lor_1_1 hPy1 ho) ?_
    refine Y_iload_n (j := 3) dX8_givesInteger_21 rfl rfl ?_
    obtain ⟨hb2, h⟩ := okE h
    refine Y_iald dX8_givesInteger_22 (lo_3 hPy1 ho) (lon_3 hPy1 ho) hb2 ?_
    refine Y_i2l dX8_givesInteger_23 ?_
    obtain ⟨y2, qy2, h⟩ := bindE h
    have cy2 := v_X4_ofIntegers hPy1 qy2
    refine C_S3r dX8_givesInteger_24 w6_17 i_X4_ofIntegers (Nat.le_of_ble_eq_true rfl) (Nat.le_of_ble_eq_true rfl) (Nat.le_of_ble_eq_true rfl) (cy2) ?_
    have hPy2 := cy2.1.1
    obtain ⟨y3, qy3, h⟩ := bindE h
    have cy3 := v_X4_isInteger hPy2 qy3
    refine C_S1r dX8_givesInteger_27 w6_20 i_X4_isInteger (Nat.le_of_ble_eq_true rfl) (Nat.le_of_ble_eq_true rfl) (Nat.le_of_ble_eq_true rfl) (cy3) ?_
    have hPy3 := cy3.1.1
    refine Y_if_eq (tgt := 37) dX8_givesInteger_30 (by decide) (fun hc2 => ?_) (fun hc2 => ?_)
    · replace h := ifT hc2 h
      refine Y_iconst (v := (0 : Int32)) dX8_givesInteger_37 rfl ?_
      cases h
      exact Y_iret rfl (nar_bo (by decide)) dX8_givesInteger_38 hPy3 ⟨rfl, rfl⟩
    · replace h := ifF hc2 h
      refine Y_iconst (v := (1 : Int32)) dX8_givesInteger_33 rfl ?_
      refine Y_goto (tgt := 38) dX8_givesInteger_34 (by decide) ?_
      cases h
      exact Y_iret rfl (nar_bo (by decide)) dX8_givesInteger_38 hPy3 ⟨rfl, rfl⟩
theorem v_X8_givesInteger {o : Nat} {x1 : Int32} {x2 : Int32} {x3 : Int32} {M z} (ho : o = 18 ∨ o = 28) (hP : Lay M) (h : d_X8_givesInteger o x1 x2 x3 M = some z) : CC Lay k_X8_givesInteger [.ref (o + 1), .int x1, .int x2, .int x3] M z.2 (Qv (some (.int z.1)) z.2) xF :=
  CC.ofVV (by decide) rfl (Nat.le_of_ble_eq_true rfl) (b_X8_givesInteger ho hP h)
noncomputable def d_X8_isLess (o : Nat) (x1 : Int32) (x2 : Int32) (M : Mem) : Option (Int32 × Mem) :=
  (d_X8_isUndefined o x1 M).bind fun y1 =>
  if y1.1 = 0 then (
    (d_X8_isUndefined o x2 y1.2).bind fun y2 =>
    if y2.1 = 0 then (
      (d_X8_realAt o x1 y2.2).bind fun y3 =>
      (d_X8_realAt o x2 y3.2).bind fun y4 =>
      if 0 ≤ (Op.cmpValue (FP.dcmp y3.1 y4.1) .g) then (
        some ((0 : Int32), y4.2))
      else (
        some ((1 : Int32), y4.2)))
    else (
      some ((0 : Int32), y2.2)))
  else (
    some ((0 : Int32), y1.2))
theorem b_X8_isLess {o : Nat} {x1 : Int32} {x2 : Int32} {M z} (ho : o = 18 ∨ o = 28) (hP : Lay M) (h : d_X8_isLess o x1 x2 M = some z) : VV Lay k_X8_isLess 0 [(0, .ref (o + 1)), (1, .int x1), (2, .int x2)] [] M z.2 (Qv (some (.int z.1)) z.2) xF := by
  unfold d_X8_isLess at h
  refine Y_aload_n (j := 0) dX8_isLess_0 rfl rfl ?_
  refine Y_iload_n (j := 1) dX8_isLess_1 rfl rfl ?_
  obtain ⟨y1, qy1, h⟩ := bindE h
  have cy1 := v_X8_isUndefined ho hP qy1
  refine C_V1r dX8_isLess_2 w5_131 i_X8_isUndefined (lo_1 hP ho) ⟨Nat.le_of_ble_eq_true rfl, Nat.le_of_ble_eq_true rfl⟩ rfl (Nat.le_of_ble_eq_true rfl) (Nat.le_of_ble_eq_true rfl) (Nat.le_of_ble_eq_true rfl) (cy1) ?_
  have hPy1 := cy1.1.1
  refine Y_if_ne (tgt := 34) dX8_isLess_5 (by decide) (fun hc1 => ?_) (fun hc1 => ?_)
  · replace h := ifF hc1 h
    refine Y_iconst (v := (0 : Int32)) dX8_isLess_34 rfl ?_
    cases h
    exact Y_iret rfl (nar_bo (by decide)) dX8_isLess_35 hPy1 ⟨rfl, rfl⟩
  · replace h := ifT hc1 h
    refine Y_aload_n (j := 0) dX8_isLess_8 rfl rfl ?_
    refine Y_iload_n (j := 2) dX8_isLess_9 rfl rfl ?_
    obtain ⟨y2, qy2, h⟩ := bindE h
    have cy2 := v_X8_isUndefined ho hPy1 qy2
    refine C_V1r dX8_isLess_10 w5_131 i_X8_isUndefined (lo_1 hPy1 ho) ⟨Nat.le_of_ble_eq_true rfl, Nat.le_of_ble_eq_true rfl⟩ rfl (Nat.le_of_ble_eq_true rfl) (Nat.le_of_ble_eq_true rfl) (Nat.le_of_ble_eq_true rfl) (cy2) ?_
    have hPy2 := cy2.1.1
    refine Y_if_ne (tgt := 34) dX8_isLess_13 (by decide) (fun hc2 => ?_) (fun hc2 => ?_)
    · replace h := ifF hc2 h
      refine Y_iconst (v := (0 : Int32)) dX8_isLess_34 rfl ?_
      cases h
      exact Y_iret rfl (nar_bo (by decide)) dX8_isLess_35 hPy2 ⟨rfl, rfl⟩
    · replace h := ifT hc2 h
      refine Y_aload_n (j := 0) dX8_isLess_16 rfl rfl ?_
      refine Y_iload_n (j := 1) dX8_isLess_17 rfl rfl ?_
      obtain ⟨y3, qy3, h⟩ := bindE h
      have cy3 := v_X8_realAt ho hPy2 qy3
      refine C_V1r dX8_isLess_18 w6_8 i_X8_realAt (lo_1 hPy2 ho) ⟨Nat.le_of_ble_eq_true rfl, Nat.le_of_ble_eq_true rfl⟩ rfl (Nat.le_of_ble_eq_true rfl) (Nat.le_of_ble_eq_true rfl) (Nat.le_of_ble_eq_true rfl) (cy3) ?_
      have hPy3 := cy3.1.1
      refine Y_aload_n (j := 0) dX8_isLess_21 rfl rfl ?_
      refine Y_iload_n (j := 2) dX8_isLess_22 rfl rfl ?_
      obtain ⟨y4, qy4, h⟩ := bindE h
      have cy4 := v_X8_realAt ho hPy3 qy4
      refine C_V1r dX8_isLess_23 w6_8 i_X8_realAt (lo_1 hPy3 ho) ⟨Nat.le_of_ble_eq_true rfl, Nat.le_of_ble_eq_true rfl⟩ rfl (Nat.le_of_ble_eq_true rfl) (Nat.le_of_ble_eq_true rfl) (Nat.le_of_ble_eq_true rfl) (cy4) ?_
      have hPy4 := cy4.1.1
      refine Y_dcmp dX8_isLess_26 ?_
      refine Y_if_ge (tgt := 34) dX8_isLess_27 (by decide) (fun hc3 => ?_) (fun hc3 => ?_)
      · replace h := ifT hc3 h
        refine Y_iconst (v := (0 : Int32)) dX8_isLess_34 rfl ?_
        cases h
        exact Y_iret rfl (nar_bo (by decide)) dX8_isLess_35 hPy4 ⟨rfl, rfl⟩
      · replace h := ifF hc3 h
        refine Y_iconst (v := (1 : Int32)) dX8_isLess_30 rfl ?_
        refine Y_goto (tgt := 35) dX8_isLess_31 (by decide) ?_
        cases h
        exact Y_iret rfl (nar_bo (by decide)) dX8_isLess_35 hPy4 ⟨rfl, rfl⟩
theorem v_X8_isLess {o : Nat} {x1 : Int32} {x2 : Int32} {M z} (ho : o = 18 ∨ o = 28) (hP : Lay M) (h : d_X8_isLess o x1 x2 M = some z) : CC Lay k_X8_isLess [.ref (o + 1), .int x1, .int x2] M z.2 (Qv (some (.int z.1)) z.2) xF :=
  CC.ofVV (by decide) rfl (Nat.le_of_ble_eq_true rfl) (b_X8_isLess ho hP h)
noncomputable def d_X4_isEndless (x0 : UInt64) (M : Mem) : Option (Int32 × Mem) :=
  if 0 < (Op.cmpValue (FP.dcmp x0 (9218868437227405311 : UInt64)) .l) then (
    some ((1 : Int32), M))
  else (
    if 0 ≤ (Op.cmpValue (FP.dcmp x0 (18442240474082181119 : UInt64)) .g) then (
      some ((0 : Int32), M))
    else (
      some ((1 : Int32), M)))
theorem b_X4_isEndless {x0 : UInt64} {M z} (hP : Lay M) (h : d_X4_isEndless x0 M = some z) : VV Lay k_X4_isEndless 0 [(0, .double x0)] [] M z.2 (Qv (some (.int z.1)) z.2) xF := by
  unfold d_X4_isEndless at h
  refine Y_dload_n (j := 0) dX4_isEndless_0 rfl rfl ?_
  refine Y_ldc2d (by decide) dX4_isEndless_1 w6_39 ?_
  refine Y_dcmp dX4_isEndless_4 ?_
  refine Y_if_gt (tgt := 16) dX4_isEndless_5 (by decide) (fun hc1 => ?_) (fun hc1 => ?_)
  · replace h := ifT hc1 h
    refine Y_iconst (v := (1 : Int32)) dX4_isEndless_16 rfl ?_
    refine Y_goto (tgt := 21) dX4_isEndless_17 (by decide) ?_
    cases h
    exact Y_iret rfl (nar_bo (by decide)) dX4_isEndless_21 hP ⟨rfl, rfl⟩
  · replace h := ifF hc1 h
    refine Y_dload_n (j := 0) dX4_isEndless_8 rfl rfl ?_
    refine Y_ldc2d (by decide) dX4_isEndless_9 w6_40 ?_
    refine Y_dcmp dX4_isEndless_12 ?_
    refine Y_if_ge (tgt := 20) dX4_isEndless_13 (by decide) (fun hc2 => ?_) (fun hc2 => ?_)
    · replace h := ifT hc2 h
      refine Y_iconst (v := (0 : Int32)) dX4_isEndless_20 rfl ?_
      cases h
      exact Y_iret rfl (nar_bo (by decide)) dX4_isEndless_21 hP ⟨rfl, rfl⟩
    · replace h := ifF hc2 h
      refine Y_iconst (v := (1 : Int32)) dX4_isEndless_16 rfl ?_
      refine Y_goto (tgt := 21) dX4_isEndless_17 (by decide) ?_
      cases h
      exact Y_iret rfl (nar_bo (by decide)) dX4_isEndless_21 hP ⟨rfl, rfl⟩
theorem v_X4_isEndless {x0 : UInt64} {M z} (hP : Lay M) (h : d_X4_isEndless x0 M = some z) : CC Lay k_X4_isEndless [.double x0] M z.2 (Qv (some (.int z.1)) z.2) xF :=
  CC.ofVV (by decide) rfl (Nat.le_of_ble_eq_true rfl) (b_X4_isEndless hP h)
noncomputable def d_X4_isUndefined_145 (x1 : UInt64) (x3 : UInt64) (M : Mem) : Option (Int32 × Mem) :=
  if (Op.cmpValue (FP.dcmp x1 FP.dconst0) .l) = 0 then (
    (d_X4_isEndless x3 M).bind fun y1 =>
    if y1.1 = 0 then (
      some ((0 : Int32), y1.2))
    else (
      some ((1 : Int32), y1.2)))
  else (
    some ((0 : Int32), M))
theorem b_X4_isUndefined_145 {x1 : UInt64} {x3 : UInt64} {M z} (hP : Lay M) (h : d_X4_isUndefined_145 x1 x3 M = some z) : VV Lay k_X4_isUndefined 145 [(1, .double x1), (3, .double x3)] [] M z.2 (Qv (some (.int z.1)) z.2) xF := by
  unfold d_X4_isUndefined_145 at h
  refine Y_dload_n (j := 0) dX4_isUndefined_145 rfl rfl ?_
  refine Y_dconst0 dX4_isUndefined_146 ?_
  refine Y_dcmp dX4_isUndefined_147 ?_
  refine Y_if_ne (tgt := 162) dX4_isUndefined_148 (by decide) (fun hc1 => ?_) (fun hc1 => ?_)
  · replace h := ifF hc1 h
    refine Y_iconst (v := (0 : Int32)) dX4_isUndefined_162 rfl ?_
    cases h
    exact Y_iret rfl (nar_bo (by decide)) dX4_isUndefined_163 hP ⟨rfl, rfl⟩
  · replace h := ifT hc1 h
    refine Y_dload_n (j := 1) dX4_isUndefined_151 rfl rfl ?_
    obtain ⟨y1, qy1, h⟩ := bindE h
    have cy1 := v_X4_isEndless hP qy1
    refine C_S1r dX4_isUndefined_152 w6_36 i_X4_isEndless (Nat.le_of_ble_eq_true rfl) (Nat.le_of_ble_eq_true rfl) (Nat.le_of_ble_eq_true rfl) (cy1) ?_
    have hPy1 := cy1.1.1
    refine Y_if_eq (tgt := 162) dX4_isUndefined_155 (by decide) (fun hc2 => ?_) (fun hc2 => ?_)
    · replace h := ifT hc2 h
      refine Y_iconst (v := (0 : Int32)) dX4_isUndefined_162 rfl ?_
      cases h
      exact Y_iret rfl (nar_bo (by decide)) dX4_isUndefined_163 hPy1 ⟨rfl, rfl⟩
    · replace h := ifF hc2 h
      refine Y_iconst (v := (1 : Int32)) dX4_isUndefined_158 rfl ?_
      refine Y_goto (tgt := 163) dX4_isUndefined_159 (by decide) ?_
      cases h
      exact Y_iret rfl (nar_bo (by decide)) dX4_isUndefined_163 hPy1 ⟨rfl, rfl⟩
noncomputable def d_X4_isUndefined_87 (s0 : Int32) (s1 : Int32) (M : Mem) : Option (Int32 × Mem) :=
  if s0 = s1 then (
    some ((0 : Int32), M))
  else (
    some ((1 : Int32), M))
theorem b_X4_isUndefined_87 {s0 : Int32} {s1 : Int32} {M z} (hP : Lay M) (h : d_X4_isUndefined_87 s0 s1 M = some z) : VV Lay k_X4_isUndefined 87 [] [.int s1, .int s0] M z.2 (Qv (some (.int z.1)) z.2) xF := by
  unfold d_X4_isUndefined_87 at h
  refine Y_icmp_eq (tgt := 94) dX4_isUndefined_87 (by decide) (fun hc1 => ?_) (fun hc1 => ?_)
  · replace h := ifT hc1 h
    refine Y_iconst (v := (0 : Int32)) dX4_isUndefined_94 rfl ?_
    cases h
    exact Y_iret rfl (nar_bo (by decide)) dX4_isUndefined_95 hP ⟨rfl, rfl⟩
  · replace h := ifF hc1 h
    refine Y_iconst (v := (1 : Int32)) dX4_isUndefined_90 rfl ?_
    refine Y_goto (tgt := 95) dX4_isUndefined_91 (by decide) ?_
    cases h
    exact Y_iret rfl (nar_bo (by decide)) dX4_isUndefined_95 hP ⟨rfl, rfl⟩
noncomputable def d_X4_isUndefined_76 (x3 : UInt64) (s0 : Int32) (M : Mem) : Option (Int32 × Mem) :=
  if (Op.cmpValue (FP.dcmp x3 FP.dconst0) .l) ≤ 0 then (
    d_X4_isUndefined_87 s0 (0 : Int32) M)
  else (
    d_X4_isUndefined_87 s0 (1 : Int32) M)
theorem b_X4_isUndefined_76 {x3 : UInt64} {s0 : Int32} {M z} (hP : Lay M) (h : d_X4_isUndefined_76 x3 s0 M = some z) : VV Lay k_X4_isUndefined 76 [(3, .double x3)] [.int s0] M z.2 (Qv (some (.int z.1)) z.2) xF := by
  unfold d_X4_isUndefined_76 at h
  refine Y_dload_n (j := 0) dX4_isUndefined_76 rfl rfl ?_
  refine Y_dconst0 dX4_isUndefined_77 ?_
  refine Y_dcmp dX4_isUndefined_78 ?_
  refine Y_if_le (tgt := 86) dX4_isUndefined_79 (by decide) (fun hc1 => ?_) (fun hc1 => ?_)
  · replace h := ifT hc1 h
    refine Y_iconst (v := (0 : Int32)) dX4_isUndefined_86 rfl ?_
    refine VV.sub [] rfl ?_
    exact b_X4_isUndefined_87  hP h
  · replace h := ifF hc1 h
    refine Y_iconst (v := (1 : Int32)) dX4_isUndefined_82 rfl ?_
    refine Y_goto (tgt := 87) dX4_isUndefined_83 (by decide) ?_
    refine VV.sub [] rfl ?_
    exact b_X4_isUndefined_87  hP h
noncomputable def d_X4_isUndefined_123 (s0 : Int32) (s1 : Int32) (M : Mem) : Option (Int32 × Mem) :=
  if s0 = s1 then (
    some ((1 : Int32), M))
  else (
    some ((0 : Int32), M))
theorem b_X4_isUndefined_123 {s0 : Int32} {s1 : Int32} {M z} (hP : Lay M) (h : d_X4_isUndefined_123 s0 s1 M = some z) : VV Lay k_X4_isUndefined 123 [] [.int s1, .int s0] M z.2 (Qv (some (.int z.1)) z.2) xF := by
  unfold d_X4_isUndefined_123 at h
  refine Y_icmp_ne (tgt := 130) dX4_isUndefined_123 (by decide) (fun hc1 => ?_) (fun hc1 => ?_)
  · replace h := ifF hc1 h
    refine Y_iconst (v := (0 : Int32)) dX4_isUndefined_130 rfl ?_
    cases h
    exact Y_iret rfl (nar_bo (by decide)) dX4_isUndefined_131 hP ⟨rfl, rfl⟩
  · replace h := ifT hc1 h
    refine Y_iconst (v := (1 : Int32)) dX4_isUndefined_126 rfl ?_
    refine Y_goto (tgt := 131) dX4_isUndefined_127 (by decide) ?_
    cases h
    exact Y_iret rfl (nar_bo (by decide)) dX4_isUndefined_131 hP ⟨rfl, rfl⟩
noncomputable def d_X4_isUndefined_112 (x3 : UInt64) (s0 : Int32) (M : Mem) : Option (Int32 × Mem) :=
  if (Op.cmpValue (FP.dcmp x3 FP.dconst0) .l) ≤ 0 then (
    d_X4_isUndefined_123 s0 (0 : Int32) M)
  else (
    d_X4_isUndefined_123 s0 (1 : Int32) M)
theorem b_X4_isUndefined_112 {x3 : UInt64} {s0 : Int32} {M z} (hP : Lay M) (h : d_X4_isUndefined_112 x3 s0 M = some z) : VV Lay k_X4_isUndefined 112 [(3, .double x3)] [.int s0] M z.2 (Qv (some (.int z.1)) z.2) xF := by
  unfold d_X4_isUndefined_112 at h
  refine Y_dload_n (j := 0) dX4_isUndefined_112 rfl rfl ?_
  refine Y_dconst0 dX4_isUndefined_113 ?_
  refine Y_dcmp dX4_isUndefined_114 ?_
  refine Y_if_le (tgt := 122) dX4_isUndefined_115 (by decide) (fun hc1 => ?_) (fun hc1 => ?_)
  · replace h := ifT hc1 h
    refine Y_iconst (v := (0 : Int32)) dX4_isUndefined_122 rfl ?_
    refine VV.sub [] rfl ?_
    exact b_X4_isUndefined_123  hP h
  · replace h := ifF hc1 h
    refine Y_iconst (v := (1 : Int32)) dX4_isUndefined_118 rfl ?_
    refine Y_goto (tgt := 123) dX4_isUndefined_119 (by decide) ?_
    refine VV.sub [] rfl ?_
    exact b_X4_isUndefined_123  hP h
noncomputable def d_X4_isUndefined_19 (x0 : Int32) (x1 : UInt64) (x3 : UInt64) (s0 : Int32) (M : Mem) : Option (Int32 × Mem) :=
  if x0 = (42 : Int32) then (
    (d_X4_isEndless x1 M).bind fun y1 =>
    if y1.1 = 0 then (
      d_X4_isUndefined_145 x1 x3 y1.2)
    else (
      if (Op.cmpValue (FP.dcmp x3 FP.dconst0) .l) = 0 then (
        some ((1 : Int32), y1.2))
      else (
        d_X4_isUndefined_145 x1 x3 y1.2)))
  else if x0 = (43 : Int32) then (
    if s0 = 0 then (
      some ((0 : Int32), M))
    else (
      if (Op.cmpValue (FP.dcmp x1 FP.dconst0) .l) ≤ 0 then (
        d_X4_isUndefined_76 x3 (0 : Int32) M)
      else (
        d_X4_isUndefined_76 x3 (1 : Int32) M)))
  else if x0 = (45 : Int32) then (
    if s0 = 0 then (
      some ((0 : Int32), M))
    else (
      if (Op.cmpValue (FP.dcmp x1 FP.dconst0) .l) ≤ 0 then (
        d_X4_isUndefined_112 x3 (0 : Int32) M)
      else (
        d_X4_isUndefined_112 x3 (1 : Int32) M)))
  else if x0 = (47 : Int32) then (
    if s0 = 0 then (
      if (Op.cmpValue (FP.dcmp x1 FP.dconst0) .l) = 0 then (
        if (Op.cmpValue (FP.dcmp x3 FP.dconst0) .l) = 0 then (
          some ((1 : Int32), M))
        else (
          some ((0 : Int32), M)))
      else (
        some ((0 : Int32), M)))
    else (
      some ((1 : Int32), M)))
  else (
    (d_X4_isEndless x1 M).bind fun y2 =>
    if y2.1 = 0 then (
      if (Op.cmpValue (FP.dcmp x3 FP.dconst0) .l) = 0 then (
        some ((1 : Int32), y2.2))
      else (
        some ((0 : Int32), y2.2)))
    else (
      some ((1 : Int32), y2.2)))
theorem b_X4_isUndefined_19 {x0 : Int32} {x1 : UInt64} {x3 : UInt64} {s0 : Int32} {M z} (hP : Lay M) (h : d_X4_isUndefined_19 x0 x1 x3 s0 M = some z) : VV Lay k_X4_isUndefined 19 [(0, .int x0), (1, .double x1), (3, .double x3)] [.int s0] M z.2 (Qv (some (.int z.1)) z.2) xF := by
  unfold d_X4_isUndefined_19 at h
  refine Y_istore (lv1 := [(5, .int s0), (0, .int x0), (1, .double x1), (3, .double x3)]) dX4_isUndefined_19 (by decide) rfl ?_
  refine Y_iload_n (j := 1) dX4_isUndefined_21 rfl rfl ?_
  refine Y_table dX4_isUndefined_22 [(42, 132), (43, 60), (44, 187), (45, 96), (46, 187), (47, 164)] 187 (by decide) (tab_ok (by decide +kernel)) (by decide) ?_ ?_
  · refine xs_cons ?_ <| xs_cons ?_ <| xs_cons ?_ <| xs_cons ?_ <| xs_cons ?_ <| xs_cons ?_ <| xs_nil
    · intro e9
      replace h := ifT (by rw [e9]; decide) h
      refine Y_dload_n (j := 2) dX4_isUndefined_132 rfl rfl ?_
      obtain ⟨y1, qy1, h⟩ := bindE h
      have cy1 := v_X4_isEndless hP qy1
      refine C_S1r dX4_isUndefined_133 w6_36 i_X4_isEndless (Nat.le_of_ble_eq_true rfl) (Nat.le_of_ble_eq_true rfl) (Nat.le_of_ble_eq_true rfl) (cy1) ?_
      have hPy1 := cy1.1.1
      refine Y_if_eq (tgt := 145) dX4_isUndefined_136 (by decide) (fun hc1 => ?_) (fun hc1 => ?_)
      · replace h := ifT hc1 h
        refine VV.sub [2, 3] rfl ?_
        exact b_X4_isUndefined_145  hPy1 h
      · replace h := ifF hc1 h
        refine Y_dload_n (j := 3) dX4_isUndefined_139 rfl rfl ?_
        refine Y_dconst0 dX4_isUndefined_140 ?_
        refine Y_dcmp dX4_isUndefined_141 ?_
        refine Y_if_eq (tgt := 158) dX4_isUndefined_142 (by decide) (fun hc2 => ?_) (fun hc2 => ?_)
        · replace h := ifT hc2 h
          refine Y_iconst (v := (1 : Int32)) dX4_isUndefined_158 rfl ?_
          refine Y_goto (tgt := 163) dX4_isUndefined_159 (by decide) ?_
          cases h
          exact Y_iret rfl (nar_bo (by decide)) dX4_isUndefined_163 hPy1 ⟨rfl, rfl⟩
        · replace h := ifF hc2 h
          refine VV.sub [2, 3] rfl ?_
          exact b_X4_isUndefined_145  hPy1 h
    · intro e9
      replace h := ifF (by rw [e9]; decide) h
      replace h := ifT (by rw [e9]; decide) h
      refine Y_iload (j := 0) dX4_isUndefined_60 rfl ?_
      refine Y_if_eq (tgt := 94) dX4_isUndefined_62 (by decide) (fun hc3 => ?_) (fun hc3 => ?_)
      · replace h := ifT hc3 h
        refine Y_iconst (v := (0 : Int32)) dX4_isUndefined_94 rfl ?_
        cases h
        exact Y_iret rfl (nar_bo (by decide)) dX4_isUndefined_95 hP ⟨rfl, rfl⟩
      · replace h := ifF hc3 h
        refine Y_dload_n (j := 2) dX4_isUndefined_65 rfl rfl ?_
        refine Y_dconst0 dX4_isUndefined_66 ?_
        refine Y_dcmp dX4_isUndefined_67 ?_
        refine Y_if_le (tgt := 75) dX4_isUndefined_68 (by decide) (fun hc4 => ?_) (fun hc4 => ?_)
        · replace h := ifT hc4 h
          refine Y_iconst (v := (0 : Int32)) dX4_isUndefined_75 rfl ?_
          refine VV.sub [3] rfl ?_
          exact b_X4_isUndefined_76  hP h
        · replace h := ifF hc4 h
          refine Y_iconst (v := (1 : Int32)) dX4_isUndefined_71 rfl ?_
          refine Y_goto (tgt := 76) dX4_isUndefined_72 (by decide) ?_
          refine VV.sub [3] rfl ?_
          exact b_X4_isUndefined_76  hP h
    · intro e9
      replace h := ifF (by rw [e9]; decide) h
      replace h := ifF (by rw [e9]; decide) h
      replace h := ifF (by rw [e9]; decide) h
      replace h := ifF (by rw [e9]; decide) h
      refine Y_dload_n (j := 2) dX4_isUndefined_187 rfl rfl ?_
      obtain ⟨y2, qy2, h⟩ := bindE h
      have cy2 := v_X4_isEndless hP qy2
      refine C_S1r dX4_isUndefined_188 w6_36 i_X4_isEndless (Nat.le_of_ble_eq_true rfl) (Nat.le_of_ble_eq_true rfl) (Nat.le_of_ble_eq_true rfl) (cy2) ?_
      have hPy2 := cy2.1.1
      refine Y_if_ne (tgt := 200) dX4_isUndefined_191 (by decide) (fun hc10 => ?_) (fun hc10 => ?_)
      · replace h := ifF hc10 h
        refine Y_iconst (v := (1 : Int32)) dX4_isUndefined_200 rfl ?_
        refine Y_goto (tgt := 205) dX4_isUndefined_201 (by decide) ?_
        cases h
        exact Y_iret rfl (nar_bo (by decide)) dX4_isUndefined_205 hPy2 ⟨rfl, rfl⟩
      · replace h := ifT hc10 h
        refine Y_dload_n (j := 3) dX4_isUndefined_194 rfl rfl ?_
        refine Y_dconst0 dX4_isUndefined_195 ?_
        refine Y_dcmp dX4_isUndefined_196 ?_
        refine Y_if_ne (tgt := 204) dX4_isUndefined_197 (by decide) (fun hc11 => ?_) (fun hc11 => ?_)
        · replace h := ifF hc11 h
          refine Y_iconst (v := (0 : Int32)) dX4_isUndefined_204 rfl ?_
          cases h
          exact Y_iret rfl (nar_bo (by decide)) dX4_isUndefined_205 hPy2 ⟨rfl, rfl⟩
        · replace h := ifT hc11 h
          refine Y_iconst (v := (1 : Int32)) dX4_isUndefined_200 rfl ?_
          refine Y_goto (tgt := 205) dX4_isUndefined_201 (by decide) ?_
          cases h
          exact Y_iret rfl (nar_bo (by decide)) dX4_isUndefined_205 hPy2 ⟨rfl, rfl⟩
    · intro e9
      replace h := ifF (by rw [e9]; decide) h
      replace h := ifF (by rw [e9]; decide) h
      replace h := ifT (by rw [e9]; decide) h
      refine Y_iload (j := 0) dX4_isUndefined_96 rfl ?_
      refine Y_if_eq (tgt := 130) dX4_isUndefined_98 (by decide) (fun hc5 => ?_) (fun hc5 => ?_)
      · replace h := ifT hc5 h
        refine Y_iconst (v := (0 : Int32)) dX4_isUndefined_130 rfl ?_
        cases h
        exact Y_iret rfl (nar_bo (by decide)) dX4_isUndefined_131 hP ⟨rfl, rfl⟩
      · replace h := ifF hc5 h
        refine Y_dload_n (j := 2) dX4_isUndefined_101 rfl rfl ?_
        refine Y_dconst0 dX4_isUndefined_102 ?_
        refine Y_dcmp dX4_isUndefined_103 ?_
        refine Y_if_le (tgt := 111) dX4_isUndefined_104 (by decide) (fun hc6 => ?_) (fun hc6 => ?_)
        · replace h := ifT hc6 h
          refine Y_iconst (v := (0 : Int32)) dX4_isUndefined_111 rfl ?_
          refine VV.sub [3] rfl ?_
          exact b_X4_isUndefined_112  hP h
        · replace h := ifF hc6 h
          refine Y_iconst (v := (1 : Int32)) dX4_isUndefined_107 rfl ?_
          refine Y_goto (tgt := 112) dX4_isUndefined_108 (by decide) ?_
          refine VV.sub [3] rfl ?_
          exact b_X4_isUndefined_112  hP h
    · intro e9
      replace h := ifF (by rw [e9]; decide) h
      replace h := ifF (by rw [e9]; decide) h
      replace h := ifF (by rw [e9]; decide) h
      replace h := ifF (by rw [e9]; decide) h
      refine Y_dload_n (j := 2) dX4_isUndefined_187 rfl rfl ?_
      obtain ⟨y2, qy2, h⟩ := bindE h
      have cy2 := v_X4_isEndless hP qy2
      refine C_S1r dX4_isUndefined_188 w6_36 i_X4_isEndless (Nat.le_of_ble_eq_true rfl) (Nat.le_of_ble_eq_true rfl) (Nat.le_of_ble_eq_true rfl) (cy2) ?_
      have hPy2 := cy2.1.1
      refine Y_if_ne (tgt := 200) dX4_isUndefined_191 (by decide) (fun hc10 => ?_) (fun hc10 => ?_)
      · replace h := ifF hc10 h
        refine Y_iconst (v := (1 : Int32)) dX4_isUndefined_200 rfl ?_
        refine Y_goto (tgt := 205) dX4_isUndefined_201 (by decide) ?_
        cases h
        exact Y_iret rfl (nar_bo (by decide)) dX4_isUndefined_205 hPy2 ⟨rfl, rfl⟩
      · replace h := ifT hc10 h
        refine Y_dload_n (j := 3) dX4_isUndefined_194 rfl rfl ?_
        refine Y_dconst0 dX4_isUndefined_195 ?_
        refine Y_dcmp dX4_isUndefined_196 ?_
        refine Y_if_ne (tgt := 204) dX4_isUndefined_197 (by decide) (fun hc11 => ?_) (fun hc11 => ?_)
        · replace h := ifF hc11 h
          refine Y_iconst (v := (0 : Int32)) dX4_isUndefined_204 rfl ?_
          cases h
          exact Y_iret rfl (nar_bo (by decide)) dX4_isUndefined_205 hPy2 ⟨rfl, rfl⟩
        · replace h := ifT hc11 h
          refine Y_iconst (v := (1 : Int32)) dX4_isUndefined_200 rfl ?_
          refine Y_goto (tgt := 205) dX4_isUndefined_201 (by decide) ?_
          cases h
          exact Y_iret rfl (nar_bo (by decide)) dX4_isUndefined_205 hPy2 ⟨rfl, rfl⟩
    · intro e9
      replace h := ifF (by rw [e9]; decide) h
      replace h := ifF (by rw [e9]; decide) h
      replace h := ifF (by rw [e9]; decide) h
      replace h := ifT (by rw [e9]; decide) h
      refine Y_iload (j := 0) dX4_isUndefined_164 rfl ?_
      refine Y_if_ne (tgt := 181) dX4_isUndefined_166 (by decide) (fun hc7 => ?_) (fun hc7 => ?_)
      · replace h := ifF hc7 h
        refine Y_iconst (v := (1 : Int32)) dX4_isUndefined_181 rfl ?_
        refine Y_goto (tgt := 186) dX4_isUndefined_182 (by decide) ?_
        cases h
        exact Y_iret rfl (nar_bo (by decide)) dX4_isUndefined_186 hP ⟨rfl, rfl⟩
      · replace h := ifT hc7 h
        refine Y_dload_n (j := 2) dX4_isUndefined_169 rfl rfl ?_
        refine Y_dconst0 dX4_isUndefined_170 ?_
        refine Y_dcmp dX4_isUndefined_171 ?_
        refine Y_if_ne (tgt := 185) dX4_isUndefined_172 (by decide) (fun hc8 => ?_) (fun hc8 => ?_)
        · replace h := ifF hc8 h
          refine Y_iconst (v := (0 : Int32)) dX4_isUndefined_185 rfl ?_
          cases h
          exact Y_iret rfl (nar_bo (by decide)) dX4_isUndefined_186 hP ⟨rfl, rfl⟩
        · replace h := ifT hc8 h
          refine Y_dload_n (j := 3) dX4_isUndefined_175 rfl rfl ?_
          refine Y_dconst0 dX4_isUndefined_176 ?_
          refine Y_dcmp dX4_isUndefined_177 ?_
          refine Y_if_ne (tgt := 185) dX4_isUndefined_178 (by decide) (fun hc9 => ?_) (fun hc9 => ?_)
          · replace h := ifF hc9 h
            refine Y_iconst (v := (0 : Int32)) dX4_isUndefined_185 rfl ?_
            cases h
            exact Y_iret rfl (nar_bo (by decide)) dX4_isUndefined_186 hP ⟨rfl, rfl⟩
          · replace h := ifT hc9 h
            refine Y_iconst (v := (1 : Int32)) dX4_isUndefined_181 rfl ?_
            refine Y_goto (tgt := 186) dX4_isUndefined_182 (by decide) ?_
            cases h
            exact Y_iret rfl (nar_bo (by decide)) dX4_isUndefined_186 hP ⟨rfl, rfl⟩
  · intro n9
    replace h := ifF (xs_no n9 (by decide : ((42 : Int32), 132) ∈ _)) h
    replace h := ifF (xs_no n9 (by decide : ((43 : Int32), 60) ∈ _)) h
    replace h := ifF (xs_no n9 (by decide : ((45 : Int32), 96) ∈ _)) h
    replace h := ifF (xs_no n9 (by decide : ((47 : Int32), 164) ∈ _)) h
    refine Y_dload_n (j := 2) dX4_isUndefined_187 rfl rfl ?_
    obtain ⟨y2, qy2, h⟩ := bindE h
    have cy2 := v_X4_isEndless hP qy2
    refine C_S1r dX4_isUndefined_188 w6_36 i_X4_isEndless (Nat.le_of_ble_eq_true rfl) (Nat.le_of_ble_eq_true rfl) (Nat.le_of_ble_eq_true rfl) (cy2) ?_
    have hPy2 := cy2.1.1
    refine Y_if_ne (tgt := 200) dX4_isUndefined_191 (by decide) (fun hc10 => ?_) (fun hc10 => ?_)
    · replace h := ifF hc10 h
      refine Y_iconst (v := (1 : Int32)) dX4_isUndefined_200 rfl ?_
      refine Y_goto (tgt := 205) dX4_isUndefined_201 (by decide) ?_
      cases h
      exact Y_iret rfl (nar_bo (by decide)) dX4_isUndefined_205 hPy2 ⟨rfl, rfl⟩
    · replace h := ifT hc10 h
      refine Y_dload_n (j := 3) dX4_isUndefined_194 rfl rfl ?_
      refine Y_dconst0 dX4_isUndefined_195 ?_
      refine Y_dcmp dX4_isUndefined_196 ?_
      refine Y_if_ne (tgt := 204) dX4_isUndefined_197 (by decide) (fun hc11 => ?_) (fun hc11 => ?_)
      · replace h := ifF hc11 h
        refine Y_iconst (v := (0 : Int32)) dX4_isUndefined_204 rfl ?_
        cases h
        exact Y_iret rfl (nar_bo (by decide)) dX4_isUndefined_205 hPy2 ⟨rfl, rfl⟩
      · replace h := ifT hc11 h
        refine Y_iconst (v := (1 : Int32)) dX4_isUndefined_200 rfl ?_
        refine Y_goto (tgt := 205) dX4_isUndefined_201 (by decide) ?_
        cases h
        exact Y_iret rfl (nar_bo (by decide)) dX4_isUndefined_205 hPy2 ⟨rfl, rfl⟩
noncomputable def d_X4_isUndefined_18 (x0 : Int32) (x1 : UInt64) (x3 : UInt64) (M : Mem) : Option (Int32 × Mem) :=
  d_X4_isUndefined_19 x0 x1 x3 (0 : Int32) M
theorem b_X4_isUndefined_18 {x0 : Int32} {x1 : UInt64} {x3 : UInt64} {M z} (hP : Lay M) (h : d_X4_isUndefined_18 x0 x1 x3 M = some z) : VV Lay k_X4_isUndefined 18 [(0, .int x0), (1, .double x1), (3, .double x3)] [] M z.2 (Qv (some (.int z.1)) z.2) xF := by
  unfold d_X4_isUndefined_18 at h
  refine Y_iconst (v := (0 : Int32)) dX4_isUndefined_18 rfl ?_
  refine VV.sub [0, 1, 2] rfl ?_
  exact b_X4_isUndefined_19  hP h
noncomputable def d_X4_isUndefined (x0 : Int32) (x1 : UInt64) (x2 : UInt64) (M : Mem) : Option (Int32 × Mem) :=
  (d_X4_isEndless x1 M).bind fun y1 =>
  if y1.1 = 0 then (
    d_X4_isUndefined_18 x0 x1 x2 y1.2)
  else (
    (d_X4_isEndless x2 y1.2).bind fun y2 =>
    if y2.1 = 0 then (
      d_X4_isUndefined_18 x0 x1 x2 y2.2)
    else (
      d_X4_isUndefined_19 x0 x1 x2 (1 : Int32) y2.2))
theorem b_X4_isUndefined {x0 : Int32} {x1 : UInt64} {x2 : UInt64} {M z} (hP : Lay M) (h : d_X4_isUndefined x0 x1 x2 M = some z) : VV Lay k_X4_isUndefined 0 [(0, .int x0), (1, .double x1), (3, .double x2)] [] M z.2 (Qv (some (.int z.1)) z.2) xF := by
  unfold d_X4_isUndefined at h
  refine Y_dload_n (j := 1) dX4_isUndefined_0 rfl rfl ?_
  obtain ⟨y1, qy1, h⟩ := bindE h
  have cy1 := v_X4_isEndless hP qy1
  refine C_S1r dX4_isUndefined_1 w6_36 i_X4_isEndless (Nat.le_of_ble_eq_true rfl) (Nat.le_of_ble_eq_true rfl) (Nat.le_of_ble_eq_true rfl) (cy1) ?_
  have hPy1 := cy1.1.1
  refine Y_if_eq (tgt := 18) dX4_isUndefined_4 (by decide) (fun hc1 => ?_) (fun hc1 => ?_)
  · replace h := ifT hc1 h
    refine VV.sub [0, 1, 2] rfl ?_
    exact b_X4_isUndefined_18  hPy1 h
  · replace h := ifF hc1 h
    refine Y_dload_n (j := 2) dX4_isUndefined_7 rfl rfl ?_
    obtain ⟨y2, qy2, h⟩ := bindE h
    have cy2 := v_X4_isEndless hPy1 qy2
    refine C_S1r dX4_isUndefined_8 w6_36 i_X4_isEndless (Nat.le_of_ble_eq_true rfl) (Nat.le_of_ble_eq_true rfl) (Nat.le_of_ble_eq_true rfl) (cy2) ?_
    have hPy2 := cy2.1.1
    refine Y_if_eq (tgt := 18) dX4_isUndefined_11 (by decide) (fun hc2 => ?_) (fun hc2 => ?_)
    · replace h := ifT hc2 h
      refine VV.sub [0, 1, 2] rfl ?_
      exact b_X4_isUndefined_18  hPy2 h
    · replace h := ifF hc2 h
      refine Y_iconst (v := (1 : Int32)) dX4_isUndefined_14 rfl ?_
      refine Y_goto (tgt := 19) dX4_isUndefined_15 (by decide) ?_
      refine VV.sub [0, 1, 2] rfl ?_
      exact b_X4_isUndefined_19  hPy2 h
theorem v_X4_isUndefined {x0 : Int32} {x1 : UInt64} {x2 : UInt64} {M z} (hP : Lay M) (h : d_X4_isUndefined x0 x1 x2 M = some z) : CC Lay k_X4_isUndefined [.int x0, .double x1, .double x2] M z.2 (Qv (some (.int z.1)) z.2) xF :=
  CC.ofVV (by decide) rfl (Nat.le_of_ble_eq_true rfl) (b_X4_isUndefined hP h)
noncomputable def d_X4_rest_131 (x0 : UInt64) (x4 : UInt64) (M : Mem) : Option (UInt64 × Mem) :=
  if 0 ≤ (Op.cmpValue (FP.dcmp x0 FP.dconst0) .g) then (
    some (x4, M))
  else (
    some ((FP.dneg x4), M))
theorem b_X4_rest_131 {x0 : UInt64} {x4 : UInt64} {M z} (hP : Lay M) (h : d_X4_rest_131 x0 x4 M = some z) : VV Lay k_X4_rest 131 [(0, .double x0), (4, .double x4)] [] M z.2 (Qv (some (.double z.1)) z.2) xF := by
  unfold d_X4_rest_131 at h
  refine Y_dload_n (j := 0) dX4_rest_131 rfl rfl ?_
  refine Y_dconst0 dX4_rest_132 ?_
  refine Y_dcmp dX4_rest_133 ?_
  refine Y_if_ge (tgt := 143) dX4_rest_134 (by decide) (fun hc1 => ?_) (fun hc1 => ?_)
  · replace h := ifT hc1 h
    refine Y_dload (j := 1) dX4_rest_143 rfl ?_
    cases h
    exact Y_dret rfl dX4_rest_145 hP ⟨rfl, rfl⟩
  · replace h := ifF hc1 h
    refine Y_dload (j := 1) dX4_rest_137 rfl ?_
    refine Y_dneg dX4_rest_139 ?_
    refine Y_goto (tgt := 145) dX4_rest_140 (by decide) ?_
    cases h
    exact Y_dret rfl dX4_rest_145 hP ⟨rfl, rfl⟩
noncomputable def d_X4_rest_115 (k81 : (UInt64 × UInt64 × Int32) → Mem → Option (UInt64 × Mem)) (x0 : UInt64) (x6 : UInt64) (x8 : UInt64) (x10 : Int32) (s0 : UInt64) (M : Mem) : Option (UInt64 × Mem) :=
  bnd ((FP.ddiv x8 (4611686018427387904 : UInt64))) fun b1 =>
  bnd ((x10 + (1 : Int32))) fun b2 =>
  k81 (s0, b1, b2) M
theorem b_X4_rest_115 {k81 : (UInt64 × UInt64 × Int32) → Mem → Option (UInt64 × Mem)} {x0 : UInt64} {x6 : UInt64} {x8 : UInt64} {x10 : Int32} {s0 : UInt64} {M z} (hk81 : ∀ (a : (UInt64 × UInt64 × Int32)) (M : Mem) (z : UInt64 × Mem), Lay M → k81 a M = some z → VV Lay k_X4_rest 81 [(0, .double x0), (4, .double a.1), (6, .double x6), (8, .double a.2.1), (10, .int a.2.2)] [] M z.2 (Qv (some (.double z.1)) z.2) xF) (hP : Lay M) (h : d_X4_rest_115 k81 x0 x6 x8 x10 s0 M = some z) : VV Lay k_X4_rest 115 [(0, .double x0), (6, .double x6), (8, .double x8), (10, .int x10)] [.double s0] M z.2 (Qv (some (.double z.1)) z.2) xF := by
  unfold d_X4_rest_115 at h
  refine Y_dstore (lv1 := [(4, .double s0), (0, .double x0), (6, .double x6), (8, .double x8), (10, .int x10)]) dX4_rest_115 (by decide) rfl ?_
  refine Y_dload (j := 3) dX4_rest_117 rfl ?_
  refine Y_ldc2d (by decide) dX4_rest_119 w6_47 ?_
  refine Y_ddiv dX4_rest_122 ?_
  obtain ⟨b1, eb1, h⟩ := bndE h
  refine VV.topD eb1 ?_
  refine Y_dstore (lv1 := [(8, .double b1), (4, .double s0), (0, .double x0), (6, .double x6), (10, .int x10)]) dX4_rest_123 (by decide) rfl ?_
  obtain ⟨b2, eb2, h⟩ := bndE h
  refine Y_iinc (j := 4) (v := b2) (lv1 := [(10, .int b2), (8, .double b1), (4, .double s0), (0, .double x0), (6, .double x6)]) dX4_rest_125 rfl eb2.symm (by decide) rfl ?_
  refine Y_goto (tgt := 81) dX4_rest_128 (by decide) ?_
  refine VV.sub [3, 2, 4, 1, 0] rfl ?_
  exact hk81 _ _ _ hP h
noncomputable def d_X4_rest_81b (k81 : (UInt64 × UInt64 × Int32) → Mem → Option (UInt64 × Mem)) (x0 : UInt64) (x4 : UInt64) (x6 : UInt64) (x8 : UInt64) (x10 : Int32) (M : Mem) : Option (UInt64 × Mem) :=
  if (3000 : Int32) ≤ x10 then (
    d_X4_rest_131 x0 x4 M)
  else (
    if (Op.cmpValue (FP.dcmp x8 x6) .l) < 0 then (
      d_X4_rest_131 x0 x4 M)
    else (
      if (Op.cmpValue (FP.dcmp x4 x8) .l) < 0 then (
        d_X4_rest_115 k81 x0 x6 x8 x10 x4 M)
      else (
        d_X4_rest_115 k81 x0 x6 x8 x10 (FP.dsub x4 x8) M)))
theorem b_X4_rest_81b {k81 : (UInt64 × UInt64 × Int32) → Mem → Option (UInt64 × Mem)} {x0 : UInt64} {x4 : UInt64} {x6 : UInt64} {x8 : UInt64} {x10 : Int32} {M z} (hk81 : ∀ (a : (UInt64 × UInt64 × Int32)) (M : Mem) (z : UInt64 × Mem), Lay M → k81 a M = some z → VV Lay k_X4_rest 81 [(0, .double x0), (4, .double a.1), (6, .double x6), (8, .double a.2.1), (10, .int a.2.2)] [] M z.2 (Qv (some (.double z.1)) z.2) xF) (hP : Lay M) (h : d_X4_rest_81b k81 x0 x4 x6 x8 x10 M = some z) : VV Lay k_X4_rest 81 [(0, .double x0), (4, .double x4), (6, .double x6), (8, .double x8), (10, .int x10)] [] M z.2 (Qv (some (.double z.1)) z.2) xF := by
  unfold d_X4_rest_81b at h
  refine Y_iload (j := 4) dX4_rest_81 rfl ?_
  refine Y_sipush (v := (3000 : Int32)) dX4_rest_83 rfl ?_
  refine Y_icmp_ge (tgt := 131) dX4_rest_86 (by decide) (fun hc1 => ?_) (fun hc1 => ?_)
  · replace h := ifT hc1 h
    refine VV.sub [0, 1] rfl ?_
    exact b_X4_rest_131  hP h
  · replace h := ifF hc1 h
    refine Y_dload (j := 3) dX4_rest_89 rfl ?_
    refine Y_dload (j := 2) dX4_rest_91 rfl ?_
    refine Y_dcmp dX4_rest_93 ?_
    refine Y_if_lt (tgt := 131) dX4_rest_94 (by decide) (fun hc2 => ?_) (fun hc2 => ?_)
    · replace h := ifT hc2 h
      refine VV.sub [0, 1] rfl ?_
      exact b_X4_rest_131  hP h
    · replace h := ifF hc2 h
      refine Y_dload (j := 1) dX4_rest_97 rfl ?_
      refine Y_dload (j := 3) dX4_rest_99 rfl ?_
      refine Y_dcmp dX4_rest_101 ?_
      refine Y_if_lt (tgt := 113) dX4_rest_102 (by decide) (fun hc3 => ?_) (fun hc3 => ?_)
      · replace h := ifT hc3 h
        refine Y_dload (j := 1) dX4_rest_113 rfl ?_
        refine VV.sub [0, 2, 3, 4] rfl ?_
        exact b_X4_rest_115 hk81 hP h
      · replace h := ifF hc3 h
        refine Y_dload (j := 1) dX4_rest_105 rfl ?_
        refine Y_dload (j := 3) dX4_rest_107 rfl ?_
        refine Y_dsub dX4_rest_109 ?_
        refine Y_goto (tgt := 115) dX4_rest_110 (by decide) ?_
        refine VV.sub [0, 2, 3, 4] rfl ?_
        exact b_X4_rest_115 hk81 hP h
noncomputable def d_X4_rest_81 (x0 : UInt64) (x6 : UInt64) : Nat → (UInt64 × UInt64 × Int32) → Mem → Option (UInt64 × Mem) := lp fun k a M => d_X4_rest_81b k x0 a.1 x6 a.2.1 a.2.2 M
theorem b_X4_rest_81 {x0 : UInt64} {x6 : UInt64} (n : Nat) : ∀ (a : (UInt64 × UInt64 × Int32)) (M : Mem) (z : UInt64 × Mem), d_X4_rest_81 x0 x6 n a M = some z → Lay M → VV Lay k_X4_rest 81 [(0, .double x0), (4, .double a.1), (6, .double x6), (8, .double a.2.1), (10, .int a.2.2)] [] M z.2 (Qv (some (.double z.1)) z.2) xF :=
  lp_ind (fun k hk a M z h hP => b_X4_rest_81b  (fun a M z hP h => hk a M z h hP) hP h) n
noncomputable def d_X4_rest_78 (x0 : UInt64) (x4 : UInt64) (x6 : UInt64) (x8 : UInt64) (M : Mem) : Option (UInt64 × Mem) :=
  d_X4_rest_81 x0 x6 fuel (x4, x8, (0 : Int32)) M
theorem b_X4_rest_78 {x0 : UInt64} {x4 : UInt64} {x6 : UInt64} {x8 : UInt64} {M z} (hP : Lay M) (h : d_X4_rest_78 x0 x4 x6 x8 M = some z) : VV Lay k_X4_rest 78 [(0, .double x0), (4, .double x4), (6, .double x6), (8, .double x8)] [] M z.2 (Qv (some (.double z.1)) z.2) xF := by
  unfold d_X4_rest_78 at h
  refine Y_iconst (v := (0 : Int32)) dX4_rest_78 rfl ?_
  refine Y_istore (lv1 := [(10, .int (0 : Int32)), (0, .double x0), (4, .double x4), (6, .double x6), (8, .double x8)]) dX4_rest_79 (by decide) rfl ?_
  refine VV.sub [1, 2, 3, 4, 0] rfl ?_
  exact b_X4_rest_81  fuel _ _ _ h hP
noncomputable def d_X4_rest_45b (k45 : (UInt64 × Int32) → Mem → Option (UInt64 × Mem)) (x0 : UInt64) (x4 : UInt64) (x6 : UInt64) (x8 : UInt64) (x10 : Int32) (M : Mem) : Option (UInt64 × Mem) :=
  if (3000 : Int32) ≤ x10 then (
    d_X4_rest_78 x0 x4 x6 x8 M)
  else (
    if 0 < (Op.cmpValue (FP.dcmp x8 (FP.dsub x4 x8)) .g) then (
      d_X4_rest_78 x0 x4 x6 x8 M)
    else (
      bnd ((FP.dmul x8 (4611686018427387904 : UInt64))) fun b1 =>
      bnd ((x10 + (1 : Int32))) fun b2 =>
      k45 (b1, b2) M))
theorem b_X4_rest_45b {k45 : (UInt64 × Int32) → Mem → Option (UInt64 × Mem)} {x0 : UInt64} {x4 : UInt64} {x6 : UInt64} {x8 : UInt64} {x10 : Int32} {M z} (hk45 : ∀ (a : (UInt64 × Int32)) (M : Mem) (z : UInt64 × Mem), Lay M → k45 a M = some z → VV Lay k_X4_rest 45 [(0, .double x0), (4, .double x4), (6, .double x6), (8, .double a.1), (10, .int a.2)] [] M z.2 (Qv (some (.double z.1)) z.2) xF) (hP : Lay M) (h : d_X4_rest_45b k45 x0 x4 x6 x8 x10 M = some z) : VV Lay k_X4_rest 45 [(0, .double x0), (4, .double x4), (6, .double x6), (8, .double x8), (10, .int x10)] [] M z.2 (Qv (some (.double z.1)) z.2) xF := by
  unfold d_X4_rest_45b at h
  refine Y_iload (j := 4) dX4_rest_45 rfl ?_
  refine Y_sipush (v := (3000 : Int32)) dX4_rest_47 rfl ?_
  refine Y_icmp_ge (tgt := 78) dX4_rest_50 (by decide) (fun hc1 => ?_) (fun hc1 => ?_)
  · replace h := ifT hc1 h
    refine VV.sub [0, 1, 2, 3] rfl ?_
    exact b_X4_rest_78  hP h
  · replace h := ifF hc1 h
    refine Y_dload (j := 3) dX4_rest_53 rfl ?_
    refine Y_dload (j := 1) dX4_rest_55 rfl ?_
    refine Y_dload (j := 3) dX4_rest_57 rfl ?_
    refine Y_dsub dX4_rest_59 ?_
    refine Y_dcmp dX4_rest_60 ?_
    refine Y_if_gt (tgt := 78) dX4_rest_61 (by decide) (fun hc2 => ?_) (fun hc2 => ?_)
    · replace h := ifT hc2 h
      refine VV.sub [0, 1, 2, 3] rfl ?_
      exact b_X4_rest_78  hP h
    · replace h := ifF hc2 h
      refine Y_dload (j := 3) dX4_rest_64 rfl ?_
      refine Y_ldc2d (by decide) dX4_rest_66 w6_47 ?_
      refine Y_dmul dX4_rest_69 ?_
      obtain ⟨b1, eb1, h⟩ := bndE h
      refine VV.topD eb1 ?_
      refine Y_dstore (lv1 := [(8, .double b1), (0, .double x0), (4, .double x4), (6, .double x6), (10, .int x10)]) dX4_rest_70 (by decide) rfl ?_
      obtain ⟨b2, eb2, h⟩ := bndE h
      refine Y_iinc (j := 4) (v := b2) (lv1 := [(10, .int b2), (8, .double b1), (0, .double x0), (4, .double x4), (6, .double x6)]) dX4_rest_72 rfl eb2.symm (by decide) rfl ?_
      refine Y_goto (tgt := 45) dX4_rest_75 (by decide) ?_
      refine VV.sub [2, 3, 4, 1, 0] rfl ?_
      exact hk45 _ _ _ hP h
noncomputable def d_X4_rest_45 (x0 : UInt64) (x4 : UInt64) (x6 : UInt64) : Nat → (UInt64 × Int32) → Mem → Option (UInt64 × Mem) := lp fun k a M => d_X4_rest_45b k x0 x4 x6 a.1 a.2 M
theorem b_X4_rest_45 {x0 : UInt64} {x4 : UInt64} {x6 : UInt64} (n : Nat) : ∀ (a : (UInt64 × Int32)) (M : Mem) (z : UInt64 × Mem), d_X4_rest_45 x0 x4 x6 n a M = some z → Lay M → VV Lay k_X4_rest 45 [(0, .double x0), (4, .double x4), (6, .double x6), (8, .double a.1), (10, .int a.2)] [] M z.2 (Qv (some (.double z.1)) z.2) xF :=
  lp_ind (fun k hk a M z h hP => b_X4_rest_45b  (fun a M z hP h => hk a M z h hP) hP h) n
noncomputable def d_X4_rest_26 (x0 : UInt64) (x4 : UInt64) (s0 : UInt64) (M : Mem) : Option (UInt64 × Mem) :=
  if 0 ≤ (Op.cmpValue (FP.dcmp x4 s0) .g) then (
    d_X4_rest_45 x0 x4 s0 fuel (s0, (0 : Int32)) M)
  else (
    some (x0, M))
theorem b_X4_rest_26 {x0 : UInt64} {x4 : UInt64} {s0 : UInt64} {M z} (hP : Lay M) (h : d_X4_rest_26 x0 x4 s0 M = some z) : VV Lay k_X4_rest 26 [(0, .double x0), (4, .double x4)] [.double s0] M z.2 (Qv (some (.double z.1)) z.2) xF := by
  unfold d_X4_rest_26 at h
  refine Y_dstore (lv1 := [(6, .double s0), (0, .double x0), (4, .double x4)]) dX4_rest_26 (by decide) rfl ?_
  refine Y_dload (j := 2) dX4_rest_28 rfl ?_
  refine Y_dload (j := 0) dX4_rest_30 rfl ?_
  refine Y_dcmp dX4_rest_32 ?_
  refine Y_if_ge (tgt := 38) dX4_rest_33 (by decide) (fun hc1 => ?_) (fun hc1 => ?_)
  · replace h := ifT hc1 h
    refine Y_dload (j := 0) dX4_rest_38 rfl ?_
    refine Y_dstore (lv1 := [(8, .double s0), (6, .double s0), (0, .double x0), (4, .double x4)]) dX4_rest_40 (by decide) rfl ?_
    refine Y_iconst (v := (0 : Int32)) dX4_rest_42 rfl ?_
    refine Y_istore (lv1 := [(10, .int (0 : Int32)), (8, .double s0), (6, .double s0), (0, .double x0), (4, .double x4)]) dX4_rest_43 (by decide) rfl ?_
    refine VV.sub [3, 4, 2, 1, 0] rfl ?_
    exact b_X4_rest_45  fuel _ _ _ h hP
  · replace h := ifF hc1 h
    refine Y_dload_n (j := 1) dX4_rest_36 rfl rfl ?_
    cases h
    exact Y_dret rfl dX4_rest_37 hP ⟨rfl, rfl⟩
noncomputable def d_X4_rest_12 (x0 : UInt64) (x2 : UInt64) (s0 : UInt64) (M : Mem) : Option (UInt64 × Mem) :=
  if 0 ≤ (Op.cmpValue (FP.dcmp x2 FP.dconst0) .g) then (
    d_X4_rest_26 x0 s0 x2 M)
  else (
    d_X4_rest_26 x0 s0 (FP.dneg x2) M)
theorem b_X4_rest_12 {x0 : UInt64} {x2 : UInt64} {s0 : UInt64} {M z} (hP : Lay M) (h : d_X4_rest_12 x0 x2 s0 M = some z) : VV Lay k_X4_rest 12 [(0, .double x0), (2, .double x2)] [.double s0] M z.2 (Qv (some (.double z.1)) z.2) xF := by
  unfold d_X4_rest_12 at h
  refine Y_dstore (lv1 := [(4, .double s0), (0, .double x0), (2, .double x2)]) dX4_rest_12 (by decide) rfl ?_
  refine Y_dload_n (j := 2) dX4_rest_14 rfl rfl ?_
  refine Y_dconst0 dX4_rest_15 ?_
  refine Y_dcmp dX4_rest_16 ?_
  refine Y_if_ge (tgt := 25) dX4_rest_17 (by decide) (fun hc1 => ?_) (fun hc1 => ?_)
  · replace h := ifT hc1 h
    refine Y_dload_n (j := 2) dX4_rest_25 rfl rfl ?_
    refine VV.sub [1, 0] rfl ?_
    exact b_X4_rest_26  hP h
  · replace h := ifF hc1 h
    refine Y_dload_n (j := 2) dX4_rest_20 rfl rfl ?_
    refine Y_dneg dX4_rest_21 ?_
    refine Y_goto (tgt := 26) dX4_rest_22 (by decide) ?_
    refine VV.sub [1, 0] rfl ?_
    exact b_X4_rest_26  hP h
noncomputable def d_X4_rest (x0 : UInt64) (x1 : UInt64) (M : Mem) : Option (UInt64 × Mem) :=
  if 0 ≤ (Op.cmpValue (FP.dcmp x0 FP.dconst0) .g) then (
    d_X4_rest_12 x0 x1 x0 M)
  else (
    d_X4_rest_12 x0 x1 (FP.dneg x0) M)
theorem b_X4_rest {x0 : UInt64} {x1 : UInt64} {M z} (hP : Lay M) (h : d_X4_rest x0 x1 M = some z) : VV Lay k_X4_rest 0 [(0, .double x0), (2, .double x1)] [] M z.2 (Qv (some (.double z.1)) z.2) xF := by
  unfold d_X4_rest at h
  refine Y_dload_n (j := 0) dX4_rest_0 rfl rfl ?_
  refine Y_dconst0 dX4_rest_1 ?_
  refine Y_dcmp dX4_rest_2 ?_
  refine Y_if_ge (tgt := 11) dX4_rest_3 (by decide) (fun hc1 => ?_) (fun hc1 => ?_)
  · replace h := ifT hc1 h
    refine Y_dload_n (j := 0) dX4_rest_11 rfl rfl ?_
    refine VV.sub [0, 1] rfl ?_
    exact b_X4_rest_12  hP h
  · replace h := ifF hc1 h
    refine Y_dload_n (j := 0) dX4_rest_6 rfl rfl ?_
    refine Y_dneg dX4_rest_7 ?_
    refine Y_goto (tgt := 12) dX4_rest_8 (by decide) ?_
    refine VV.sub [0, 1] rfl ?_
    exact b_X4_rest_12  hP h
theorem v_X4_rest {x0 : UInt64} {x1 : UInt64} {M z} (hP : Lay M) (h : d_X4_rest x0 x1 M = some z) : CC Lay k_X4_rest [.double x0, .double x1] M z.2 (Qv (some (.double z.1)) z.2) xF :=
  CC.ofVV (by decide) rfl (Nat.le_of_ble_eq_true rfl) (b_X4_rest hP h)
noncomputable def d_X4_ofFloats (x0 : Int32) (x1 : UInt64) (x2 : UInt64) (M : Mem) : Option (UInt64 × Mem) :=
  if x0 = (42 : Int32) then (
    some ((FP.dmul x1 x2), M))
  else if x0 = (43 : Int32) then (
    some ((FP.dadd x1 x2), M))
  else if x0 = (45 : Int32) then (
    some ((FP.dsub x1 x2), M))
  else if x0 = (47 : Int32) then (
    some ((FP.ddiv x1 x2), M))
  else (
    (d_X4_rest x1 x2 M).bind fun y1 =>
    some (y1.1, y1.2))
theorem b_X4_ofFloats {x0 : Int32} {x1 : UInt64} {x2 : UInt64} {M z} (hP : Lay M) (h : d_X4_ofFloats x0 x1 x2 M = some z) : VV Lay k_X4_ofFloats 0 [(0, .int x0), (1, .double x1), (3, .double x2)] [] M z.2 (Qv (some (.double z.1)) z.2) xF := by
  unfold d_X4_ofFloats at h
  refine Y_iload_n (j := 0) dX4_ofFloats_0 rfl rfl ?_
  refine Y_table dX4_ofFloats_1 [(42, 48), (43, 40), (44, 56), (45, 44), (46, 56), (47, 52)] 56 (by decide) (tab_ok (by decide +kernel)) (by decide) ?_ ?_
  · refine xs_cons ?_ <| xs_cons ?_ <| xs_cons ?_ <| xs_cons ?_ <| xs_cons ?_ <| xs_cons ?_ <| xs_nil
    · intro e9
      replace h := ifT (by rw [e9]; decide) h
      refine Y_dload_n (j := 1) dX4_ofFloats_48 rfl rfl ?_
      refine Y_dload_n (j := 2) dX4_ofFloats_49 rfl rfl ?_
      refine Y_dmul dX4_ofFloats_50 ?_
      cases h
      exact Y_dret rfl dX4_ofFloats_51 hP ⟨rfl, rfl⟩
    · intro e9
      replace h := ifF (by rw [e9]; decide) h
      replace h := ifT (by rw [e9]; decide) h
      refine Y_dload_n (j := 1) dX4_ofFloats_40 rfl rfl ?_
      refine Y_dload_n (j := 2) dX4_ofFloats_41 rfl rfl ?_
      refine Y_dadd dX4_ofFloats_42 ?_
      cases h
      exact Y_dret rfl dX4_ofFloats_43 hP ⟨rfl, rfl⟩
    · intro e9
      replace h := ifF (by rw [e9]; decide) h
      replace h := ifF (by rw [e9]; decide) h
      replace h := ifF (by rw [e9]; decide) h
      replace h := ifF (by rw [e9]; decide) h
      refine Y_dload_n (j := 1) dX4_ofFloats_56 rfl rfl ?_
      refine Y_dload_n (j := 2) dX4_ofFloats_57 rfl rfl ?_
      obtain ⟨y1, qy1, h⟩ := bindE h
      have cy1 := v_X4_rest hP qy1
      refine C_S2r dX4_ofFloats_58 w6_44 i_X4_rest (Nat.le_of_ble_eq_true rfl) (Nat.le_of_ble_eq_true rfl) (Nat.le_of_ble_eq_true rfl) (cy1) ?_
      have hPy1 := cy1.1.1
      cases h
      exact Y_dret rfl dX4_ofFloats_61 hPy1 ⟨rfl, rfl⟩
    · intro e9
      replace h := ifF (by rw [e9]; decide) h
      replace h := ifF (by rw [e9]; decide) h
      replace h := ifT (by rw [e9]; decide) h
      refine Y_dload_n (j := 1) dX4_ofFloats_44 rfl rfl ?_
      refine Y_dload_n (j := 2) dX4_ofFloats_45 rfl rfl ?_
      refine Y_dsub dX4_ofFloats_46 ?_
      cases h
      exact Y_dret rfl dX4_ofFloats_47 hP ⟨rfl, rfl⟩
    · intro e9
      replace h := ifF (by rw [e9]; decide) h
      replace h := ifF (by rw [e9]; decide) h
      replace h := ifF (by rw [e9]; decide) h
      replace h := ifF (by rw [e9]; decide) h
      refine Y_dload_n (j := 1) dX4_ofFloats_56 rfl rfl ?_
      refine Y_dload_n (j := 2) dX4_ofFloats_57 rfl rfl ?_
      obtain ⟨y1, qy1, h⟩ := bindE h
      have cy1 := v_X4_rest hP qy1
      refine C_S2r dX4_ofFloats_58 w6_44 i_X4_rest (Nat.le_of_ble_eq_true rfl) (Nat.le_of_ble_eq_true rfl) (Nat.le_of_ble_eq_true rfl) (cy1) ?_
      have hPy1 := cy1.1.1
      cases h
      exact Y_dret rfl dX4_ofFloats_61 hPy1 ⟨rfl, rfl⟩
    · intro e9
      replace h := ifF (by rw [e9]; decide) h
      replace h := ifF (by rw [e9]; decide) h
      replace h := ifF (by rw [e9]; decide) h
      replace h := ifT (by rw [e9]; decide) h
      refine Y_dload_n (j := 1) dX4_ofFloats_52 rfl rfl ?_
      refine Y_dload_n (j := 2) dX4_ofFloats_53 rfl rfl ?_
      refine Y_ddiv dX4_ofFloats_54 ?_
      cases h
      exact Y_dret rfl dX4_ofFloats_55 hP ⟨rfl, rfl⟩
  · intro n9
    replace h := ifF (xs_no n9 (by decide : ((42 : Int32), 48) ∈ _)) h
    replace h := ifF (xs_no n9 (by decide : ((43 : Int32), 40) ∈ _)) h
    replace h := ifF (xs_no n9 (by decide : ((45 : Int32), 44) ∈ _)) h
    replace h := ifF (xs_no n9 (by decide : ((47 : Int32), 52) ∈ _)) h
    refine Y_dload_n (j := 1) dX4_ofFloats_56 rfl rfl ?_
    refine Y_dload_n (j := 2) dX4_ofFloats_57 rfl rfl ?_
    obtain ⟨y1, qy1, h⟩ := bindE h
    have cy1 := v_X4_rest hP qy1
    refine C_S2r dX4_ofFloats_58 w6_44 i_X4_rest (Nat.le_of_ble_eq_true rfl) (Nat.le_of_ble_eq_true rfl) (Nat.le_of_ble_eq_true rfl) (cy1) ?_
    have hPy1 := cy1.1.1
    cases h
    exact Y_dret rfl dX4_ofFloats_61 hPy1 ⟨rfl, rfl⟩
theorem v_X4_ofFloats {x0 : Int32} {x1 : UInt64} {x2 : UInt64} {M z} (hP : Lay M) (h : d_X4_ofFloats x0 x1 x2 M = some z) : CC Lay k_X4_ofFloats [.int x0, .double x1, .double x2] M z.2 (Qv (some (.double z.1)) z.2) xF :=
  CC.ofVV (by decide) rfl (Nat.le_of_ble_eq_true rfl) (b_X4_ofFloats hP h)
noncomputable def d_X8_putReal (o : Nat) (x1 : Int32) (x2 : UInt64) (M : Mem) : Option (Unit × Mem) :=
  (d_X8_put o x1 (102 : Int32) (0 : Int32) M).bind fun y1 =>
  okk (vp_in x1 549) <|
  bnd (sD y1.2 (o + 4) x1.toNatClampNeg x2) fun M1 =>
  some ((), M1)
theorem b_X8_putReal {o : Nat} {x1 : Int32} {x2 : UInt64} {M z} (ho : o = 18 ∨ o = 28) (hP : Lay M) (h : d_X8_putReal o x1 x2 M = some z) : VV Lay k_X8_putReal 0 [(0, .ref (o + 1)), (1, .int x1), (2, .double x2)] [] M z.2 (Qv (none) z.2) xF := by
  unfold d_X8_putReal at h
  refine Y_aload_n (j := 0) dX8_putReal_0 rfl rfl ?_
  refine Y_iload_n (j := 1) dX8_putReal_1 rfl rfl ?_
  refine Y_bipush (v := (102 : Int32)) dX8_putReal_2 rfl ?_
  refine Y_iconst (v := (0 : Int32)) dX8_putReal_4 rfl ?_
  obtain ⟨y1, qy1, h⟩ := bindE h
  have cy1 := v_X8_put ho hP qy1
  refine C_V3o dX8_putReal_5 w5_238 i_X8_put (lo_1 hP ho) ⟨Nat.le_of_ble_eq_true rfl, Nat.le_of_ble_eq_true rfl⟩ rfl (Nat.le_of_ble_eq_true rfl) (Nat.le_of_ble_eq_true rfl) (Nat.le_of_ble_eq_true rfl) (cy1) ?_
  have hPy1 := cy1.1.1
  refine Y_aload_n (j := 0) dX8_putReal_8 rfl rfl ?_
  refine Z_getr dX8_putReal_9 w1_154 (lo_1 hPy1 ho) fr_8_2 (lor_1_2 hPy1 ho) ?_
  refine Y_iload_n (j := 1) dX8_putReal_12 rfl rfl ?_
  refine Y_dload_n (j := 2) dX8_putReal_13 rfl rfl ?_
  obtain ⟨hb1, h⟩ := okE h
  refine Y_dast dX8_putReal_14 (lo_4 hPy1 ho) (lon_4 hPy1 ho) hb1 ?_
  obtain ⟨M1, eM1, h⟩ := bndE h
  refine VV.mem eM1 ?_
  have hP1 := hPy1.wD eM1
  cases h
  exact Y_vret rfl dX8_putReal_15 hP1 ⟨rfl, rfl⟩
theorem v_X8_putReal {o : Nat} {x1 : Int32} {x2 : UInt64} {M z} (ho : o = 18 ∨ o = 28) (hP : Lay M) (h : d_X8_putReal o x1 x2 M = some z) : CC Lay k_X8_putReal [.ref (o + 1), .int x1, .double x2] M z.2 (Qv (none) z.2) xF :=
  CC.ofVV (by decide) rfl (Nat.le_of_ble_eq_true rfl) (b_X8_putReal ho hP h)
noncomputable def d_X8_combineReals_41 (o : Nat) (x2 : Int32) (M : Mem) : Option (Unit × Mem) :=
  (d_X8_put o x2 (102 : Int32) (1 : Int32) M).bind fun y1 =>
  some ((), y1.2)
theorem b_X8_combineReals_41 {o : Nat} {x2 : Int32} {M z} (ho : o = 18 ∨ o = 28) (hP : Lay M) (h : d_X8_combineReals_41 o x2 M = some z) : VV Lay k_X8_combineReals 41 [(0, .ref (o + 1)), (2, .int x2)] [] M z.2 (Qv (none) z.2) xF := by
  unfold d_X8_combineReals_41 at h
  refine Y_aload_n (j := 0) dX8_combineReals_41 rfl rfl ?_
  refine Y_iload_n (j := 1) dX8_combineReals_42 rfl rfl ?_
  refine Y_bipush (v := (102 : Int32)) dX8_combineReals_43 rfl ?_
  refine Y_iconst (v := (1 : Int32)) dX8_combineReals_45 rfl ?_
  obtain ⟨y1, qy1, h⟩ := bindE h
  have cy1 := v_X8_put ho hP qy1
  refine C_V3o dX8_combineReals_46 w5_238 i_X8_put (lo_1 hP ho) ⟨Nat.le_of_ble_eq_true rfl, Nat.le_of_ble_eq_true rfl⟩ rfl (Nat.le_of_ble_eq_true rfl) (Nat.le_of_ble_eq_true rfl) (Nat.le_of_ble_eq_true rfl) (cy1) ?_
  have hPy1 := cy1.1.1
  refine Y_goto (tgt := 65) dX8_combineReals_49 (by decide) ?_
  cases h
  exact Y_vret rfl dX8_combineReals_65 hPy1 ⟨rfl, rfl⟩
noncomputable def d_X8_combineReals (o : Nat) (x1 : Int32) (x2 : Int32) (x3 : Int32) (M : Mem) : Option (Unit × Mem) :=
  (d_X8_realAt o x2 M).bind fun y1 =>
  (d_X8_realAt o x3 y1.2).bind fun y2 =>
  (d_X8_isUndefined o x2 y2.2).bind fun y3 =>
  if y3.1 = 0 then (
    (d_X8_isUndefined o x3 y3.2).bind fun y4 =>
    if y4.1 = 0 then (
      (d_X4_isUndefined x1 y1.1 y2.1 y4.2).bind fun y5 =>
      if y5.1 = 0 then (
        (d_X4_ofFloats x1 y1.1 y2.1 y5.2).bind fun y6 =>
        (d_X8_putReal o x2 y6.1 y6.2).bind fun y7 =>
        some ((), y7.2))
      else (
        d_X8_combineReals_41 o x2 y5.2))
    else (
      d_X8_combineReals_41 o x2 y4.2))
  else (
    d_X8_combineReals_41 o x2 y3.2)
theorem b_X8_combineReals {o : Nat} {x1 : Int32} {x2 : Int32} {x3 : Int32} {M z} (ho : o = 18 ∨ o = 28) (hP : Lay M) (h : d_X8_combineReals o x1 x2 x3 M = some z) : VV Lay k_X8_combineReals 0 [(0, .ref (o + 1)), (1, .int x1), (2, .int x2), (3, .int x3)] [] M z.2 (Qv (none) z.2) xF := by
  unfold d_X8_combineReals at h
  refine Y_aload_n (j := 0) dX8_combineReals_0 rfl rfl ?_
  refine Y_iload_n (j := 2) dX8_combineReals_1 rfl rfl ?_
  obtain ⟨y1, qy1, h⟩ := bindE h
  have cy1 := v_X8_realAt ho hP qy1
  refine C_V1r dX8_combineReals_2 w6_8 i_X8_realAt (lo_1 hP ho) ⟨Nat.le_of_ble_eq_true rfl, Nat.le_of_ble_eq_true rfl⟩ rfl (Nat.le_of_ble_eq_true rfl) (Nat.le_of_ble_eq_true rfl) (Nat.le_of_ble_eq_true rfl) (cy1) ?_
  have hPy1 := cy1.1.1
  refine Y_dstore (lv1 := [(4, .double y1.1), (0, .ref (o + 1)), (1, .int x1), (2, .int x2), (3, .int x3)]) dX8_combineReals_5 (by decide) rfl ?_
  refine Y_aload_n (j := 1) dX8_combineReals_7 rfl rfl ?_
  refine Y_iload_n (j := 4) dX8_combineReals_8 rfl rfl ?_
  obtain ⟨y2, qy2, h⟩ := bindE h
  have cy2 := v_X8_realAt ho hPy1 qy2
  refine C_V1r dX8_combineReals_9 w6_8 i_X8_realAt (lo_1 hPy1 ho) ⟨Nat.le_of_ble_eq_true rfl, Nat.le_of_ble_eq_true rfl⟩ rfl (Nat.le_of_ble_eq_true rfl) (Nat.le_of_ble_eq_true rfl) (Nat.le_of_ble_eq_true rfl) (cy2) ?_
  have hPy2 := cy2.1.1
  refine Y_dstore (lv1 := [(6, .double y2.1), (4, .double y1.1), (0, .ref (o + 1)), (1, .int x1), (2, .int x2), (3, .int x3)]) dX8_combineReals_12 (by decide) rfl ?_
  refine Y_aload_n (j := 2) dX8_combineReals_14 rfl rfl ?_
  refine Y_iload_n (j := 4) dX8_combineReals_15 rfl rfl ?_
  obtain ⟨y3, qy3, h⟩ := bindE h
  have cy3 := v_X8_isUndefined ho hPy2 qy3
  refine C_V1r dX8_combineReals_16 w5_131 i_X8_isUndefined (lo_1 hPy2 ho) ⟨Nat.le_of_ble_eq_true rfl, Nat.le_of_ble_eq_true rfl⟩ rfl (Nat.le_of_ble_eq_true rfl) (Nat.le_of_ble_eq_true rfl) (Nat.le_of_ble_eq_true rfl) (cy3) ?_
  have hPy3 := cy3.1.1
  refine Y_if_ne (tgt := 41) dX8_combineReals_19 (by decide) (fun hc1 => ?_) (fun hc1 => ?_)
  · replace h := ifF hc1 h
    refine VV.sub [2, 4] rfl ?_
    exact b_X8_combineReals_41 ho hPy3 h
  · replace h := ifT hc1 h
    refine Y_aload_n (j := 2) dX8_combineReals_22 rfl rfl ?_
    refine Y_iload_n (j := 5) dX8_combineReals_23 rfl rfl ?_
    obtain ⟨y4, qy4, h⟩ := bindE h
    have cy4 := v_X8_isUndefined ho hPy3 qy4
    refine C_V1r dX8_combineReals_24 w5_131 i_X8_isUndefined (lo_1 hPy3 ho) ⟨Nat.le_of_ble_eq_true rfl, Nat.le_of_ble_eq_true rfl⟩ rfl (Nat.le_of_ble_eq_true rfl) (Nat.le_of_ble_eq_true rfl) (Nat.le_of_ble_eq_true rfl) (cy4) ?_
    have hPy4 := cy4.1.1
    refine Y_if_ne (tgt := 41) dX8_combineReals_27 (by decide) (fun hc2 => ?_) (fun hc2 => ?_)
    · replace h := ifF hc2 h
      refine VV.sub [2, 4] rfl ?_
      exact b_X8_combineReals_41 ho hPy4 h
    · replace h := ifT hc2 h
      refine Y_iload_n (j := 3) dX8_combineReals_30 rfl rfl ?_
      refine Y_dload (j := 1) dX8_combineReals_31 rfl ?_
      refine Y_dload (j := 0) dX8_combineReals_33 rfl ?_
      obtain ⟨y5, qy5, h⟩ := bindE h
      have cy5 := v_X4_isUndefined hPy4 qy5
      refine C_S3r dX8_combineReals_35 w6_33 i_X4_isUndefined (Nat.le_of_ble_eq_true rfl) (Nat.le_of_ble_eq_true rfl) (Nat.le_of_ble_eq_true rfl) (cy5) ?_
      have hPy5 := cy5.1.1
      refine Y_if_eq (tgt := 52) dX8_combineReals_38 (by decide) (fun hc3 => ?_) (fun hc3 => ?_)
      · replace h := ifT hc3 h
        refine Y_aload_n (j := 2) dX8_combineReals_52 rfl rfl ?_
        refine Y_iload_n (j := 4) dX8_combineReals_53 rfl rfl ?_
        refine Y_iload_n (j := 3) dX8_combineReals_54 rfl rfl ?_
        refine Y_dload (j := 1) dX8_combineReals_55 rfl ?_
        refine Y_dload (j := 0) dX8_combineReals_57 rfl ?_
        obtain ⟨y6, qy6, h⟩ := bindE h
        have cy6 := v_X4_ofFloats hPy5 qy6
        refine C_S3r dX8_combineReals_59 w6_41 i_X4_ofFloats (Nat.le_of_ble_eq_true rfl) (Nat.le_of_ble_eq_true rfl) (Nat.le_of_ble_eq_true rfl) (cy6) ?_
        have hPy6 := cy6.1.1
        obtain ⟨y7, qy7, h⟩ := bindE h
        have cy7 := v_X8_putReal ho hPy6 qy7
        refine C_V2o dX8_combineReals_62 w6_48 i_X8_putReal (lo_1 hPy6 ho) ⟨Nat.le_of_ble_eq_true rfl, Nat.le_of_ble_eq_true rfl⟩ rfl (Nat.le_of_ble_eq_true rfl) (Nat.le_of_ble_eq_true rfl) (Nat.le_of_ble_eq_true rfl) (cy7) ?_
        have hPy7 := cy7.1.1
        cases h
        exact Y_vret rfl dX8_combineReals_65 hPy7 ⟨rfl, rfl⟩
      · replace h := ifF hc3 h
        refine VV.sub [2, 4] rfl ?_
        exact b_X8_combineReals_41 ho hPy5 h
theorem v_X8_combineReals {o : Nat} {x1 : Int32} {x2 : Int32} {x3 : Int32} {M z} (ho : o = 18 ∨ o = 28) (hP : Lay M) (h : d_X8_combineReals o x1 x2 x3 M = some z) : CC Lay k_X8_combineReals [.ref (o + 1), .int x1, .int x2, .int x3] M z.2 (Qv (none) z.2) xF :=
  CC.ofVV (by decide) rfl (Nat.le_of_ble_eq_true rfl) (b_X8_combineReals ho hP h)
noncomputable def d_X8_combine (o : Nat) (x1 : Int32) (x2 : Int32) (x3 : Int32) (M : Mem) : Option (Unit × Mem) :=
  if x1 = (61 : Int32) then (
    (d_X8_areEqual o x2 x3 M).bind fun y8 =>
    if y8.1 = 0 then (
      (d_X8_put o x2 (105 : Int32) (0 : Int32) y8.2).bind fun y9 =>
      some ((), y9.2))
    else (
      (d_X8_put o x2 (105 : Int32) (1 : Int32) y8.2).bind fun y10 =>
      some ((), y10.2)))
  else (
    (d_X8_givesInteger o x1 x2 x3 M).bind fun y1 =>
    if y1.1 = 0 then (
      if x1 = (60 : Int32) then (
        (d_X8_isLess o x2 x3 y1.2).bind fun y3 =>
        if y3.1 = 0 then (
          (d_X8_put o x2 (105 : Int32) (0 : Int32) y3.2).bind fun y4 =>
          some ((), y4.2))
        else (
          (d_X8_put o x2 (105 : Int32) (1 : Int32) y3.2).bind fun y5 =>
          some ((), y5.2)))
      else (
        (d_X8_combineReals o x1 x2 x3 y1.2).bind fun y2 =>
        some ((), y2.2)))
    else (
      okk (vp_in x2 549) <|
      okk (vp_in x3 549) <|
      (d_X4_ofIntegers x1 ((mI y1.2 (o + 3) x2.toNatClampNeg).toInt64) ((mI y1.2 (o + 3) x3.toNatClampNeg).toInt64) y1.2).bind fun y6 =>
      (d_X8_put o x2 (105 : Int32) (y6.1.toInt32) y6.2).bind fun y7 =>
      some ((), y7.2)))
theorem b_X8_combine {o : Nat} {x1 : Int32} {x2 : Int32} {x3 : Int32} {M z} (ho : o = 18 ∨ o = 28) (hP : Lay M) (h : d_X8_combine o x1 x2 x3 M = some z) : VV Lay k_X8_combine 0 [(0, .ref (o + 1)), (1, .int x1), (2, .int x2), (3, .int x3)] [] M z.2 (Qv (none) z.2) xF := by
  unfold d_X8_combine at h
  refine Y_iload_n (j := 1) dX8_combine_0 rfl rfl ?_
  refine Y_bipush (v := (61 : Int32)) dX8_combine_1 rfl ?_
  refine Y_icmp_ne (tgt := 30) dX8_combine_3 (by decide) (fun hc1 => ?_) (fun hc1 => ?_)
  · replace h := ifF hc1 h
    refine Y_aload_n (j := 0) dX8_combine_30 rfl rfl ?_
    refine Y_iload_n (j := 1) dX8_combine_31 rfl rfl ?_
    refine Y_iload_n (j := 2) dX8_combine_32 rfl rfl ?_
    refine Y_iload_n (j := 3) dX8_combine_33 rfl rfl ?_
    obtain ⟨y1, qy1, h⟩ := bindE h
    have cy1 := v_X8_givesInteger ho hP qy1
    refine C_V3r dX8_combine_34 w6_12 i_X8_givesInteger (lo_1 hP ho) ⟨Nat.le_of_ble_eq_true rfl, Nat.le_of_ble_eq_true rfl⟩ rfl (Nat.le_of_ble_eq_true rfl) (Nat.le_of_ble_eq_true rfl) (Nat.le_of_ble_eq_true rfl) (cy1) ?_
    have hPy1 := cy1.1.1
    refine Y_if_eq (tgt := 69) dX8_combine_37 (by decide) (fun hc2 => ?_) (fun hc2 => ?_)
    · replace h := ifT hc2 h
      refine Y_iload_n (j := 1) dX8_combine_69 rfl rfl ?_
      refine Y_bipush (v := (60 : Int32)) dX8_combine_70 rfl ?_
      refine Y_icmp_ne (tgt := 99) dX8_combine_72 (by decide) (fun hc3 => ?_) (fun hc3 => ?_)
      · replace h := ifF hc3 h
        refine Y_aload_n (j := 0) dX8_combine_99 rfl rfl ?_
        refine Y_iload_n (j := 1) dX8_combine_100 rfl rfl ?_
        refine Y_iload_n (j := 2) dX8_combine_101 rfl rfl ?_
        refine Y_iload_n (j := 3) dX8_combine_102 rfl rfl ?_
        obtain ⟨y2, qy2, h⟩ := bindE h
        have cy2 := v_X8_combineReals ho hPy1 qy2
        refine C_V3o dX8_combine_103 w6_29 i_X8_combineReals (lo_1 hPy1 ho) ⟨Nat.le_of_ble_eq_true rfl, Nat.le_of_ble_eq_true rfl⟩ rfl (Nat.le_of_ble_eq_true rfl) (Nat.le_of_ble_eq_true rfl) (Nat.le_of_ble_eq_true rfl) (cy2) ?_
        have hPy2 := cy2.1.1
        cases h
        exact Y_vret rfl dX8_combine_106 hPy2 ⟨rfl, rfl⟩
      · replace h := ifT hc3 h
        refine Y_aload_n (j := 0) dX8_combine_75 rfl rfl ?_
        refine Y_iload_n (j := 2) dX8_combine_76 rfl rfl ?_
        refine Y_bipush (v := (105 : Int32)) dX8_combine_77 rfl ?_
        refine Y_aload_n (j := 0) dX8_combine_79 rfl rfl ?_
        refine Y_iload_n (j := 2) dX8_combine_80 rfl rfl ?_
        refine Y_iload_n (j := 3) dX8_combine_81 rfl rfl ?_
        obtain ⟨y3, qy3, h⟩ := bindE h
        have cy3 := v_X8_isLess ho hPy1 qy3
        refine C_V2r dX8_combine_82 w6_25 i_X8_isLess (lo_1 hPy1 ho) ⟨Nat.le_of_ble_eq_true rfl, Nat.le_of_ble_eq_true rfl⟩ rfl (Nat.le_of_ble_eq_true rfl) (Nat.le_of_ble_eq_true rfl) (Nat.le_of_ble_eq_true rfl) (cy3) ?_
        have hPy3 := cy3.1.1
        refine Y_if_eq (tgt := 92) dX8_combine_85 (by decide) (fun hc4 => ?_) (fun hc4 => ?_)
        · replace h := ifT hc4 h
          refine Y_iconst (v := (0 : Int32)) dX8_combine_92 rfl ?_
          obtain ⟨y4, qy4, h⟩ := bindE h
          have cy4 := v_X8_put ho hPy3 qy4
          refine C_V3o dX8_combine_93 w5_238 i_X8_put (lo_1 hPy3 ho) ⟨Nat.le_of_ble_eq_true rfl, Nat.le_of_ble_eq_true rfl⟩ rfl (Nat.le_of_ble_eq_true rfl) (Nat.le_of_ble_eq_true rfl) (Nat.le_of_ble_eq_true rfl) (cy4) ?_
          have hPy4 := cy4.1.1
          refine Y_goto (tgt := 106) dX8_combine_96 (by decide) ?_
          cases h
          exact Y_vret rfl dX8_combine_106 hPy4 ⟨rfl, rfl⟩
        · replace h := ifF hc4 h
          refine Y_iconst (v := (1 : Int32)) dX8_combine_88 rfl ?_
          refine Y_goto (tgt := 93) dX8_combine_89 (by decide) ?_
          obtain ⟨y5, qy5, h⟩ := bindE h
          have cy5 := v_X8_put ho hPy3 qy5
          refine C_V3o dX8_combine_93 w5_238 i_X8_put (lo_1 hPy3 ho) ⟨Nat.le_of_ble_eq_true rfl, Nat.le_of_ble_eq_true rfl⟩ rfl (Nat.le_of_ble_eq_true rfl) (Nat.le_of_ble_eq_true rfl) (Nat.le_of_ble_eq_true rfl) (cy5) ?_
          have hPy5 := cy5.1.1
          refine Y_goto (tgt := 106) dX8_combine_96 (by decide) ?_
          cases h
          exact Y_vret rfl dX8_combine_106 hPy5 ⟨rfl, rfl⟩
    · replace h := ifF hc2 h
      refine Y_aload_n (j := 0) dX8_combine_40 rfl rfl ?_
      refine Y_iload_n (j := 2) dX8_combine_41 rfl rfl ?_
      refine Y_bipush (v := (105 : Int32)) dX8_combine_42 rfl ?_
      refine Y_iload_n (j := 1) dX8_combine_44 rfl rfl ?_
      refine Y_aload_n (j := 0) dX8_combine_45 rfl rfl ?_
      refine Z_getr dX8_combine_46 w1_152 (lo_1 hPy1 ho) fr_8_1 (lor_1_1 hPy1 ho) ?_
      refine Y_iload_n (j := 2) dX8_combine_49 rfl rfl ?_
      obtain ⟨hb1, h⟩ := okE h
      refine Y_iald dX8_combine_50 (lo_3 hPy1 ho) (lon_3 hPy1 ho) hb1 ?_
      refine Y_i2l dX8_combine_51 ?_
      refine Y_aload_n (j := 0) dX8_combine_52 rfl rfl ?_
      refine Z_getr dX8_combine_53 w1_152 (lo_1 hPy1 ho) fr_8_1 (lor_1_1 hPy1 ho) ?_
      refine Y_iload_n (j := 3) dX8_combine_56 rfl rfl ?_
      obtain ⟨hb2, h⟩ := okE h
      refine Y_iald dX8_combine_57 (lo_3 hPy1 ho) (lon_3 hPy1 ho) hb2 ?_
      refine Y_i2l dX8_combine_58 ?_
      obtain ⟨y6, qy6, h⟩ := bindE h
      have cy6 := v_X4_ofIntegers hPy1 qy6
      refine C_S3r dX8_combine_59 w6_17 i_X4_ofIntegers (Nat.le_of_ble_eq_true rfl) (Nat.le_of_ble_eq_true rfl) (Nat.le_of_ble_eq_true rfl) (cy6) ?_
      have hPy6 := cy6.1.1
      refine Y_l2i dX8_combine_62 ?_
      obtain ⟨y7, qy7, h⟩ := bindE h
      have cy7 := v_X8_put ho hPy6 qy7
      refine C_V3o dX8_combine_63 w5_238 i_X8_put (lo_1 hPy6 ho) ⟨Nat.le_of_ble_eq_true rfl, Nat.le_of_ble_eq_true rfl⟩ rfl (Nat.le_of_ble_eq_true rfl) (Nat.le_of_ble_eq_true rfl) (Nat.le_of_ble_eq_true rfl) (cy7) ?_
      have hPy7 := cy7.1.1
      refine Y_goto (tgt := 106) dX8_combine_66 (by decide) ?_
      cases h
      exact Y_vret rfl dX8_combine_106 hPy7 ⟨rfl, rfl⟩
  · replace h := ifT hc1 h
    refine Y_aload_n (j := 0) dX8_combine_6 rfl rfl ?_
    refine Y_iload_n (j := 2) dX8_combine_7 rfl rfl ?_
    refine Y_bipush (v := (105 : Int32)) dX8_combine_8 rfl ?_
    refine Y_aload_n (j := 0) dX8_combine_10 rfl rfl ?_
    refine Y_iload_n (j := 2) dX8_combine_11 rfl rfl ?_
    refine Y_iload_n (j := 3) dX8_combine_12 rfl rfl ?_
    obtain ⟨y8, qy8, h⟩ := bindE h
    have cy8 := v_X8_areEqual ho hP qy8
    refine C_V2r dX8_combine_13 w6_3 i_X8_areEqual (lo_1 hP ho) ⟨Nat.le_of_ble_eq_true rfl, Nat.le_of_ble_eq_true rfl⟩ rfl (Nat.le_of_ble_eq_true rfl) (Nat.le_of_ble_eq_true rfl) (Nat.le_of_ble_eq_true rfl) (cy8) ?_
    have hPy8 := cy8.1.1
    refine Y_if_eq (tgt := 23) dX8_combine_16 (by decide) (fun hc5 => ?_) (fun hc5 => ?_)
    · replace h := ifT hc5 h
      refine Y_iconst (v := (0 : Int32)) dX8_combine_23 rfl ?_
      obtain ⟨y9, qy9, h⟩ := bindE h
      have cy9 := v_X8_put ho hPy8 qy9
      refine C_V3o dX8_combine_24 w5_238 i_X8_put (lo_1 hPy8 ho) ⟨Nat.le_of_ble_eq_true rfl, Nat.le_of_ble_eq_true rfl⟩ rfl (Nat.le_of_ble_eq_true rfl) (Nat.le_of_ble_eq_true rfl) (Nat.le_of_ble_eq_true rfl) (cy9) ?_
      have hPy9 := cy9.1.1
      refine Y_goto (tgt := 106) dX8_combine_27 (by decide) ?_
      cases h
      exact Y_vret rfl dX8_combine_106 hPy9 ⟨rfl, rfl⟩
    · replace h := ifF hc5 h
      refine Y_iconst (v := (1 : Int32)) dX8_combine_19 rfl ?_
      refine Y_goto (tgt := 24) dX8_combine_20 (by decide) ?_
      obtain ⟨y10, qy10, h⟩ := bindE h
      have cy10 := v_X8_put ho hPy8 qy10
      refine C_V3o dX8_combine_24 w5_238 i_X8_put (lo_1 hPy8 ho) ⟨Nat.le_of_ble_eq_true rfl, Nat.le_of_ble_eq_true rfl⟩ rfl (Nat.le_of_ble_eq_true rfl) (Nat.le_of_ble_eq_true rfl) (Nat.le_of_ble_eq_true rfl) (cy10) ?_
      have hPy10 := cy10.1.1
      refine Y_goto (tgt := 106) dX8_combine_27 (by decide) ?_
      cases h
      exact Y_vret rfl dX8_combine_106 hPy10 ⟨rfl, rfl⟩
theorem v_X8_combine {o : Nat} {x1 : Int32} {x2 : Int32} {x3 : Int32} {M z} (ho : o = 18 ∨ o = 28) (hP : Lay M) (h : d_X8_combine o x1 x2 x3 M = some z) : CC Lay k_X8_combine [.ref (o + 1), .int x1, .int x2, .int x3] M z.2 (Qv (none) z.2) xF :=
  CC.ofVV (by decide) rfl (Nat.le_of_ble_eq_true rfl) (b_X8_combine ho hP h)
noncomputable def d_X3_execute (o : Nat) (M : Mem) : Option (Int32 × Mem) :=
  bnd (((mI M o 9) - (1 : Int32))) fun b1 =>
  okk (vp_in b1 12) <|
  bnd ((mI M (o + 7) b1.toNatClampNeg)) fun b2 =>
  bnd ((mI M o 8)) fun b3 =>
  bnd (sI M o 12 ((mI M o 12) + (1 : Int32))) fun M1 =>
  okk (vp_in b1 12) <|
  bnd (sI M1 (o + 7) b1.toNatClampNeg (b2 + (1 : Int32))) fun M2 =>
  bnd ((mI M2 o 7)) fun b4 =>
  if b4 = (99 : Int32) then (
    okk (vp_in b3 8) <|
    (d_X3_call o b3 (mI M2 3 b3.toNatClampNeg) M2).bind fun y1 =>
    some ((0 : Int32), y1.2))
  else if b4 = (103 : Int32) ∨ b4 = (110 : Int32) ∨ b4 = (112 : Int32) then (
    (d_X3_useObject o (mI M2 o 7) b3 M2).bind fun y2 =>
    some ((0 : Int32), y2.2))
  else if b4 = (106 : Int32) then (
    okk (vp_in b1 12) <|
    bnd (sI M2 (o + 7) b1.toNatClampNeg b3) fun M3 =>
    if b2 < b3 then (
      some ((0 : Int32), M3))
    else (
      some ((1 : Int32), M3)))
  else if b4 = (109 : Int32) then (
    (d_X3_classFromTop o M2).bind fun y3 =>
    (d_X5_methodOf y3.1 b3 y3.2).bind fun y4 =>
    (d_X3_call o y4.1 (1 : Int32) y4.2).bind fun y5 =>
    some ((0 : Int32), y5.2))
  else if b4 = (114 : Int32) then (
    (d_X3_giveBack o M2).bind fun y6 =>
    some ((0 : Int32), y6.2))
  else if b4 = (122 : Int32) then (
    (d_X3_jumpsAtNull o b3 b2 M2).bind fun y7 =>
    okk (isBo y7.1) <|
    some (y7.1, y7.2))
  else (
    (d_X3_useStack o (mI M2 o 7) b3 M2).bind fun y8 =>
    some ((0 : Int32), y8.2))
theorem b_X3_execute {o : Nat} {M z} (ho : o = 18 ∨ o = 28) (hP : Lay M) (h : d_X3_execute o M = some z) : VV Lay k_X3_execute 0 [(0, .ref o)] [] M z.2 (Qv (some (.int z.1)) z.2) xF := by
  unfold d_X3_execute at h
  refine Y_aload_n (j := 0) dX3_execute_0 rfl rfl ?_
  refine Z_geti dX3_execute_1 w1_184 (lo_0 hP ho) fi_4_9 ?_
  refine Y_iconst (v := (1 : Int32)) dX3_execute_4 rfl ?_
  refine Y_isub dX3_execute_5 ?_
  obtain ⟨b1, eb1, h⟩ := bndE h
  refine VV.topI eb1 ?_
  refine Y_istore_n (lv1 := [(1, .int b1), (0, .ref o)]) dX3_execute_6 rfl (by decide) rfl ?_
  refine Y_aload_n (j := 1) dX3_execute_7 rfl rfl ?_
  refine Z_getr dX3_execute_8 w1_175 (lo_0 hP ho) fr_4_4 (lor_0_4 hP ho) ?_
  refine Y_iload_n (j := 0) dX3_execute_11 rfl rfl ?_
  obtain ⟨hb1, h⟩ := okE h
  refine Y_iald dX3_execute_12 (lo_7 hP ho) (lon_7 hP ho) hb1 ?_
  obtain ⟨b2, eb2, h⟩ := bndE h
  refine VV.topI eb2 ?_
  refine Y_istore_n (lv1 := [(2, .int b2), (1, .int b1), (0, .ref o)]) dX3_execute_13 rfl (by decide) rfl ?_
  refine Y_aload_n (j := 2) dX3_execute_14 rfl rfl ?_
  refine Z_geti dX3_execute_15 w1_183 (lo_0 hP ho) fi_4_8 ?_
  obtain ⟨b3, eb3, h⟩ := bndE h
  refine VV.topI eb3 ?_
  refine Y_istore_n (lv1 := [(3, .int b3), (2, .int b2), (1, .int b1), (0, .ref o)]) dX3_execute_18 rfl (by decide) rfl ?_
  refine Y_aload_n (j := 3) dX3_execute_19 rfl rfl ?_
  refine Y_dup dX3_execute_20 rfl ?_
  refine Z_geti dX3_execute_21 w1_191 (lo_0 hP ho) fi_4_12 ?_
  refine Y_iconst (v := (1 : Int32)) dX3_execute_24 rfl ?_
  refine Y_iadd dX3_execute_25 ?_
  refine Z_puti dX3_execute_26 w1_191 (lo_0 hP ho) fi_4_12 (Or.inl rfl) rfl ?_
  obtain ⟨M1, eM1, h⟩ := bndE h
  refine VV.mem eM1 ?_
  have hP1 := hP.wI eM1
  refine Y_aload_n (j := 3) dX3_execute_29 rfl rfl ?_
  refine Z_getr dX3_execute_30 w1_175 (lo_0 hP1 ho) fr_4_4 (lor_0_4 hP1 ho) ?_
  refine Y_iload_n (j := 2) dX3_execute_33 rfl rfl ?_
  refine Y_iload_n (j := 1) dX3_execute_34 rfl rfl ?_
  refine Y_iconst (v := (1 : Int32)) dX3_execute_35 rfl ?_
  refine Y_iadd dX3_execute_36 ?_
  obtain ⟨hb2, h⟩ := okE h
  refine Y_iast dX3_execute_37 (lo_7 hP1 ho) (lon_7 hP1 ho) hb2 ?_
  obtain ⟨M2, eM2, h⟩ := bndE h
  refine VV.mem eM2 ?_
  have hP2 := hP1.wI eM2
  refine Y_aload_n (j := 3) dX3_execute_38 rfl rfl ?_
  refine Z_geti dX3_execute_39 w1_181 (lo_0 hP2 ho) fi_4_7 ?_
  obtain ⟨b4, eb4, h⟩ := bndE h
  refine VV.topI eb4 ?_
  refine Y_table dX3_execute_42 [(99, 177), (100, 229), (101, 229), (102, 229), (103, 218), (104, 229), (105, 229), (106, 152), (107, 229), (108, 229), (109, 193), (110, 218), (111, 229), (112, 218), (113, 229), (114, 212), (115, 229), (116, 229), (117, 229), (118, 229), (119, 229), (120, 229), (121, 229), (122, 170)] 229 (by decide) (tab_ok (by decide +kernel)) (by decide) ?_ ?_
  · refine xs_cons ?_ <| xs_cons ?_ <| xs_cons ?_ <| xs_cons ?_ <| xs_cons ?_ <| xs_cons ?_ <| xs_cons ?_ <| xs_cons ?_ <| xs_cons ?_ <| xs_cons ?_ <| xs_cons ?_ <| xs_cons ?_ <| xs_cons ?_ <| xs_cons ?_ <| xs_cons ?_ <| xs_cons ?_ <| xs_cons ?_ <| xs_cons ?_ <| xs_cons ?_ <| xs_cons ?_ <| xs_cons ?_ <| xs_cons ?_ <| xs_cons ?_ <| xs_cons ?_ <| xs_nil
    · intro e9
      replace h := ifT (by rw [e9]; decide) h
      refine Y_aload_n (j := 3) dX3_execute_177 rfl rfl ?_
      refine Y_iload_n (j := 0) dX3_execute_178 rfl rfl ?_
      refine Y_aload_n (j := 3) dX3_execute_179 rfl rfl ?_
      refine Z_getr dX3_execute_180 w1_167 (lo_0 hP2 ho) fr_4_0 (lor_0_0 hP2 ho) ?_
      refine Z_getr dX3_execute_183 w1_55 (lk_2 hP2) fr_5_0 (lr_2_0 hP2) ?_
      refine Y_iload_n (j := 0) dX3_execute_186 rfl rfl ?_
      obtain ⟨hb3, h⟩ := okE h
      refine Y_iald dX3_execute_187 (lk_3 hP2) (ln_3 hP2) hb3 ?_
      obtain ⟨y1, qy1, h⟩ := bindE h
      have cy1 := v_X3_call ho hP2 qy1
      refine C_V2o dX3_execute_188 w5_189 i_X3_call (lo_0 hP2 ho) ⟨Nat.le_of_ble_eq_true rfl, Nat.le_of_ble_eq_true rfl⟩ rfl (Nat.le_of_ble_eq_true rfl) (Nat.le_of_ble_eq_true rfl) (Nat.le_of_ble_eq_true rfl) (cy1) ?_
      have hPy1 := cy1.1.1
      refine Y_iconst (v := (0 : Int32)) dX3_execute_191 rfl ?_
      cases h
      exact Y_iret rfl (nar_bo (by decide)) dX3_execute_192 hPy1 ⟨rfl, rfl⟩
    · intro e9
      replace h := ifF (by rw [e9]; decide) h
      replace h := ifF (by rw [e9]; decide) h
      replace h := ifF (by rw [e9]; decide) h
      replace h := ifF (by rw [e9]; decide) h
      replace h := ifF (by rw [e9]; decide) h
      replace h := ifF (by rw [e9]; decide) h
      refine Y_aload_n (j := 3) dX3_execute_229 rfl rfl ?_
      refine Y_aload_n (j := 3) dX3_execute_230 rfl rfl ?_
      refine Z_geti dX3_execute_231 w1_181 (lo_0 hP2 ho) fi_4_7 ?_
      refine Y_iload_n (j := 0) dX3_execute_234 rfl rfl ?_
      obtain ⟨y8, qy8, h⟩ := bindE h
      have cy8 := v_X3_useStack ho hP2 qy8
      refine C_V2o dX3_execute_235 w5_221 i_X3_useStack (lo_0 hP2 ho) ⟨Nat.le_of_ble_eq_true rfl, Nat.le_of_ble_eq_true rfl⟩ rfl (Nat.le_of_ble_eq_true rfl) (Nat.le_of_ble_eq_true rfl) (Nat.le_of_ble_eq_true rfl) (cy8) ?_
      have hPy8 := cy8.1.1
      refine Y_iconst (v := (0 : Int32)) dX3_execute_238 rfl ?_
      cases h
      exact Y_iret rfl (nar_bo (by decide)) dX3_execute_239 hPy8 ⟨rfl, rfl⟩
    · intro e9
      replace h := ifF (by rw [e9]; decide) h
      replace h := ifF (by rw [e9]; decide) h
      replace h := ifF (by rw [e9]; decide) h
      replace h := ifF (by rw [e9]; decide) h
      replace h := ifF (by rw [e9]; decide) h
      replace h := ifF (by rw [e9]; decide) h
      refine Y_aload_n (j := 3) dX3_execute_229 rfl rfl ?_
      refine Y_aload_n (j := 3) dX3_execute_230 rfl rfl ?_
      refine Z_geti dX3_execute_231 w1_181 (lo_0 hP2 ho) fi_4_7 ?_
      refine Y_iload_n (j := 0) dX3_execute_234 rfl rfl ?_
      obtain ⟨y8, qy8, h⟩ := bindE h
      have cy8 := v_X3_useStack ho hP2 qy8
      refine C_V2o dX3_execute_235 w5_221 i_X3_useStack (lo_0 hP2 ho) ⟨Nat.le_of_ble_eq_true rfl, Nat.le_of_ble_eq_true rfl⟩ rfl (Nat.le_of_ble_eq_true rfl) (Nat.le_of_ble_eq_true rfl) (Nat.le_of_ble_eq_true rfl) (cy8) ?_
      have hPy8 := cy8.1.1
      refine Y_iconst (v := (0 : Int32)) dX3_execute_238 rfl ?_
      cases h
      exact Y_iret rfl (nar_bo (by decide)) dX3_execute_239 hPy8 ⟨rfl, rfl⟩
    · intro e9
      replace h := ifF (by rw [e9]; decide) h
      replace h := ifF (by rw [e9]; decide) h
      replace h := ifF (by rw [e9]; decide) h
      replace h := ifF (by rw [e9]; decide) h
      replace h := ifF (by rw [e9]; decide) h
      replace h := ifF (by rw [e9]; decide) h
      refine Y_aload_n (j := 3) dX3_execute_229 rfl rfl ?_
      refine Y_aload_n (j := 3) dX3_execute_230 rfl rfl ?_
      refine Z_geti dX3_execute_231 w1_181 (lo_0 hP2 ho) fi_4_7 ?_
      refine Y_iload_n (j := 0) dX3_execute_234 rfl rfl ?_
      obtain ⟨y8, qy8, h⟩ := bindE h
      have cy8 := v_X3_useStack ho hP2 qy8
      refine C_V2o dX3_execute_235 w5_221 i_X3_useStack (lo_0 hP2 ho) ⟨Nat.le_of_ble_eq_true rfl, Nat.le_of_ble_eq_true rfl⟩ rfl (Nat.le_of_ble_eq_true rfl) (Nat.le_of_ble_eq_true rfl) (Nat.le_of_ble_eq_true rfl) (cy8) ?_
      have hPy8 := cy8.1.1
      refine Y_iconst (v := (0 : Int32)) dX3_execute_238 rfl ?_
      cases h
      exact Y_iret rfl (nar_bo (by decide)) dX3_execute_239 hPy8 ⟨rfl, rfl⟩
    · intro e9
      replace h := ifF (by rw [e9]; decide) h
      replace h := ifT (by rw [e9]; decide) h
      refine Y_aload_n (j := 3) dX3_execute_218 rfl rfl ?_
      refine Y_aload_n (j := 3) dX3_execute_219 rfl rfl ?_
      refine Z_geti dX3_execute_220 w1_181 (lo_0 hP2 ho) fi_4_7 ?_
      refine Y_iload_n (j := 0) dX3_execute_223 rfl rfl ?_
      obtain ⟨y2, qy2, h⟩ := bindE h
      have cy2 := v_X3_useObject ho hP2 qy2
      refine C_V2o dX3_execute_224 w5_205 i_X3_useObject (lo_0 hP2 ho) ⟨Nat.le_of_ble_eq_true rfl, Nat.le_of_ble_eq_true rfl⟩ rfl (Nat.le_of_ble_eq_true rfl) (Nat.le_of_ble_eq_true rfl) (Nat.le_of_ble_eq_true rfl) (cy2) ?_
      have hPy2 := cy2.1.1
      refine Y_iconst (v := (0 : Int32)) dX3_execute_227 rfl ?_
      cases h
      exact Y_iret rfl (nar_bo (by decide)) dX3_execute_228 hPy2 ⟨rfl, rfl⟩
    · intro e9
      replace h := ifF (by rw [e9]; decide) h
      replace h := ifF (by rw [e9]; decide) h
      replace h := ifF (by rw [e9]; decide) h
      replace h := ifF (by rw [e9]; decide) h
      replace h := ifF (by rw [e9]; decide) h
      replace h := ifF (by rw [e9]; decide) h
      refine Y_aload_n (j := 3) dX3_execute_229 rfl rfl ?_
      refine Y_aload_n (j := 3) dX3_execute_230 rfl rfl ?_
      refine Z_geti dX3_execute_231 w1_181 (lo_0 hP2 ho) fi_4_7 ?_
      refine Y_iload_n (j := 0) dX3_execute_234 rfl rfl ?_
      obtain ⟨y8, qy8, h⟩ := bindE h
      have cy8 := v_X3_useStack ho hP2 qy8
      refine C_V2o dX3_execute_235 w5_221 i_X3_useStack (lo_0 hP2 ho) ⟨Nat.le_of_ble_eq_true rfl, Nat.le_of_ble_eq_true rfl⟩ rfl (Nat.le_of_ble_eq_true rfl) (Nat.le_of_ble_eq_true rfl) (Nat.le_of_ble_eq_true rfl) (cy8) ?_
      have hPy8 := cy8.1.1
      refine Y_iconst (v := (0 : Int32)) dX3_execute_238 rfl ?_
      cases h
      exact Y_iret rfl (nar_bo (by decide)) dX3_execute_239 hPy8 ⟨rfl, rfl⟩
    · intro e9
      replace h := ifF (by rw [e9]; decide) h
      replace h := ifF (by rw [e9]; decide) h
      replace h := ifF (by rw [e9]; decide) h
      replace h := ifF (by rw [e9]; decide) h
      replace h := ifF (by rw [e9]; decide) h
      replace h := ifF (by rw [e9]; decide) h
      refine Y_aload_n (j := 3) dX3_execute_229 rfl rfl ?_
      refine Y_aload_n (j := 3) dX3_execute_230 rfl rfl ?_
      refine Z_geti dX3_execute_231 w1_181 (lo_0 hP2 ho) fi_4_7 ?_
      refine Y_iload_n (j := 0) dX3_execute_234 rfl rfl ?_
      obtain ⟨y8, qy8, h⟩ := bindE h
      have cy8 := v_X3_useStack ho hP2 qy8
      refine C_V2o dX3_execute_235 w5_221 i_X3_useStack (lo_0 hP2 ho) ⟨Nat.le_of_ble_eq_true rfl, Nat.le_of_ble_eq_true rfl⟩ rfl (Nat.le_of_ble_eq_true rfl) (Nat.le_of_ble_eq_true rfl) (Nat.le_of_ble_eq_true rfl) (cy8) ?_
      have hPy8 := cy8.1.1
      refine Y_iconst (v := (0 : Int32)) dX3_execute_238 rfl ?_
      cases h
      exact Y_iret rfl (nar_bo (by decide)) dX3_execute_239 hPy8 ⟨rfl, rfl⟩
    · intro e9
      replace h := ifF (by rw [e9]; decide) h
      replace h := ifF (by rw [e9]; decide) h
      replace h := ifT (by rw [e9]; decide) h
      refine Y_aload_n (j := 3) dX3_execute_152 rfl rfl ?_
      refine Z_getr dX3_execute_153 w1_175 (lo_0 hP2 ho) fr_4_4 (lor_0_4 hP2 ho) ?_
      refine Y_iload_n (j := 2) dX3_execute_156 rfl rfl ?_
      refine Y_iload_n (j := 0) dX3_execute_157 rfl rfl ?_
      obtain ⟨hb4, h⟩ := okE h
      refine Y_iast dX3_execute_158 (lo_7 hP2 ho) (lon_7 hP2 ho) hb4 ?_
      obtain ⟨M3, eM3, h⟩ := bndE h
      refine VV.mem eM3 ?_
      have hP3 := hP2.wI eM3
      refine Y_iload_n (j := 0) dX3_execute_159 rfl rfl ?_
      refine Y_iload_n (j := 1) dX3_execute_160 rfl rfl ?_
      refine Y_icmp_gt (tgt := 168) dX3_execute_161 (by decide) (fun hc1 => ?_) (fun hc1 => ?_)
      · replace h := ifT hc1 h
        refine Y_iconst (v := (0 : Int32)) dX3_execute_168 rfl ?_
        cases h
        exact Y_iret rfl (nar_bo (by decide)) dX3_execute_169 hP3 ⟨rfl, rfl⟩
      · replace h := ifF hc1 h
        refine Y_iconst (v := (1 : Int32)) dX3_execute_164 rfl ?_
        refine Y_goto (tgt := 169) dX3_execute_165 (by decide) ?_
        cases h
        exact Y_iret rfl (nar_bo (by decide)) dX3_execute_169 hP3 ⟨rfl, rfl⟩
    · intro e9
      replace h := ifF (by rw [e9]; decide) h
      replace h := ifF (by rw [e9]; decide) h
      replace h := ifF (by rw [e9]; decide) h
      replace h := ifF (by rw [e9]; decide) h
      replace h := ifF (by rw [e9]; decide) h
      replace h := ifF (by rw [e9]; decide) h
      refine Y_aload_n (j := 3) dX3_execute_229 rfl rfl ?_
      refine Y_aload_n (j := 3) dX3_execute_230 rfl rfl ?_
      refine Z_geti dX3_execute_231 w1_181 (lo_0 hP2 ho) fi_4_7 ?_
      refine Y_iload_n (j := 0) dX3_execute_234 rfl rfl ?_
      obtain ⟨y8, qy8, h⟩ := bindE h
      have cy8 := v_X3_useStack ho hP2 qy8
      refine C_V2o dX3_execute_235 w5_221 i_X3_useStack (lo_0 hP2 ho) ⟨Nat.le_of_ble_eq_true rfl, Nat.le_of_ble_eq_true rfl⟩ rfl (Nat.le_of_ble_eq_true rfl) (Nat.le_of_ble_eq_true rfl) (Nat.le_of_ble_eq_true rfl) (cy8) ?_
      have hPy8 := cy8.1.1
      refine Y_iconst (v := (0 : Int32)) dX3_execute_238 rfl ?_
      cases h
      exact Y_iret rfl (nar_bo (by decide)) dX3_execute_239 hPy8 ⟨rfl, rfl⟩
    · intro e9
      replace h := ifF (by rw [e9]; decide) h
      replace h := ifF (by rw [e9]; decide) h
      replace h := ifF (by rw [e9]; decide) h
      replace h := ifF (by rw [e9]; decide) h
      replace h := ifF (by rw [e9]; decide) h
      replace h := ifF (by rw [e9]; decide) h
      refine Y_aload_n (j := 3) dX3_execute_229 rfl rfl ?_
      refine Y_aload_n (j := 3) dX3_execute_230 rfl rfl ?_
      refine Z_geti dX3_execute_231 w1_181 (lo_0 hP2 ho) fi_4_7 ?_
      refine Y_iload_n (j := 0) dX3_execute_234 rfl rfl ?_
      obtain ⟨y8, qy8, h⟩ := bindE h
      have cy8 := v_X3_useStack ho hP2 qy8
      refine C_V2o dX3_execute_235 w5_221 i_X3_useStack (lo_0 hP2 ho) ⟨Nat.le_of_ble_eq_true rfl, Nat.le_of_ble_eq_true rfl⟩ rfl (Nat.le_of_ble_eq_true rfl) (Nat.le_of_ble_eq_true rfl) (Nat.le_of_ble_eq_true rfl) (cy8) ?_
      have hPy8 := cy8.1.1
      refine Y_iconst (v := (0 : Int32)) dX3_execute_238 rfl ?_
      cases h
      exact Y_iret rfl (nar_bo (by decide)) dX3_execute_239 hPy8 ⟨rfl, rfl⟩
    · intro e9
      replace h := ifF (by rw [e9]; decide) h
      replace h := ifF (by rw [e9]; decide) h
      replace h := ifF (by rw [e9]; decide) h
      replace h := ifT (by rw [e9]; decide) h
      refine Y_aload_n (j := 3) dX3_execute_193 rfl rfl ?_
      refine Y_aload_n (j := 3) dX3_execute_194 rfl rfl ?_
      refine Z_getr dX3_execute_195 w1_167 (lo_0 hP2 ho) fr_4_0 (lor_0_0 hP2 ho) ?_
      refine Y_aload_n (j := 3) dX3_execute_198 rfl rfl ?_
      obtain ⟨y3, qy3, h⟩ := bindE h
      have cy3 := v_X3_classFromTop ho hP2 qy3
      refine C_V0r dX3_execute_199 w5_153 i_X3_classFromTop (lo_0 hP2 ho) ⟨Nat.le_of_ble_eq_true rfl, Nat.le_of_ble_eq_true rfl⟩ rfl (Nat.le_of_ble_eq_true rfl) (Nat.le_of_ble_eq_true rfl) (Nat.le_of_ble_eq_true rfl) (cy3) ?_
      have hPy3 := cy3.1.1
      refine Y_iload_n (j := 0) dX3_execute_202 rfl rfl ?_
      obtain ⟨y4, qy4, h⟩ := bindE h
      have cy4 := v_X5_methodOf hPy3 qy4
      refine C_V2r dX3_execute_203 w5_157 i_X5_methodOf (lk_2 hPy3) ⟨Nat.le_of_ble_eq_true rfl, Nat.le_of_ble_eq_true rfl⟩ rfl (Nat.le_of_ble_eq_true rfl) (Nat.le_of_ble_eq_true rfl) (Nat.le_of_ble_eq_true rfl) (cy4) ?_
      have hPy4 := cy4.1.1
      refine Y_iconst (v := (1 : Int32)) dX3_execute_206 rfl ?_
      obtain ⟨y5, qy5, h⟩ := bindE h
      have cy5 := v_X3_call ho hPy4 qy5
      refine C_V2o dX3_execute_207 w5_189 i_X3_call (lo_0 hPy4 ho) ⟨Nat.le_of_ble_eq_true rfl, Nat.le_of_ble_eq_true rfl⟩ rfl (Nat.le_of_ble_eq_true rfl) (Nat.le_of_ble_eq_true rfl) (Nat.le_of_ble_eq_true rfl) (cy5) ?_
      have hPy5 := cy5.1.1
      refine Y_iconst (v := (0 : Int32)) dX3_execute_210 rfl ?_
      cases h
      exact Y_iret rfl (nar_bo (by decide)) dX3_execute_211 hPy5 ⟨rfl, rfl⟩
    · intro e9
      replace h := ifF (by rw [e9]; decide) h
      replace h := ifT (by rw [e9]; decide) h
      refine Y_aload_n (j := 3) dX3_execute_218 rfl rfl ?_
      refine Y_aload_n (j := 3) dX3_execute_219 rfl rfl ?_
      refine Z_geti dX3_execute_220 w1_181 (lo_0 hP2 ho) fi_4_7 ?_
      refine Y_iload_n (j := 0) dX3_execute_223 rfl rfl ?_
      obtain ⟨y2, qy2, h⟩ := bindE h
      have cy2 := v_X3_useObject ho hP2 qy2
      refine C_V2o dX3_execute_224 w5_205 i_X3_useObject (lo_0 hP2 ho) ⟨Nat.le_of_ble_eq_true rfl, Nat.le_of_ble_eq_true rfl⟩ rfl (Nat.le_of_ble_eq_true rfl) (Nat.le_of_ble_eq_true rfl) (Nat.le_of_ble_eq_true rfl) (cy2) ?_
      have hPy2 := cy2.1.1
      refine Y_iconst (v := (0 : Int32)) dX3_execute_227 rfl ?_
      cases h
      exact Y_iret rfl (nar_bo (by decide)) dX3_execute_228 hPy2 ⟨rfl, rfl⟩
    · intro e9
      replace h := ifF (by rw [e9]; decide) h
      replace h := ifF (by rw [e9]; decide) h
      replace h := ifF (by rw [e9]; decide) h
      replace h := ifF (by rw [e9]; decide) h
      replace h := ifF (by rw [e9]; decide) h
      replace h := ifF (by rw [e9]; decide) h
      refine Y_aload_n (j := 3) dX3_execute_229 rfl rfl ?_
      refine Y_aload_n (j := 3) dX3_execute_230 rfl rfl ?_
      refine Z_geti dX3_execute_231 w1_181 (lo_0 hP2 ho) fi_4_7 ?_
      refine Y_iload_n (j := 0) dX3_execute_234 rfl rfl ?_
      obtain ⟨y8, qy8, h⟩ := bindE h
      have cy8 := v_X3_useStack ho hP2 qy8
      refine C_V2o dX3_execute_235 w5_221 i_X3_useStack (lo_0 hP2 ho) ⟨Nat.le_of_ble_eq_true rfl, Nat.le_of_ble_eq_true rfl⟩ rfl (Nat.le_of_ble_eq_true rfl) (Nat.le_of_ble_eq_true rfl) (Nat.le_of_ble_eq_true rfl) (cy8) ?_
      have hPy8 := cy8.1.1
      refine Y_iconst (v := (0 : Int32)) dX3_execute_238 rfl ?_
      cases h
      exact Y_iret rfl (nar_bo (by decide)) dX3_execute_239 hPy8 ⟨rfl, rfl⟩
    · intro e9
      replace h := ifF (by rw [e9]; decide) h
      replace h := ifT (by rw [e9]; decide) h
      refine Y_aload_n (j := 3) dX3_execute_218 rfl rfl ?_
      refine Y_aload_n (j := 3) dX3_execute_219 rfl rfl ?_
      refine Z_geti dX3_execute_220 w1_181 (lo_0 hP2 ho) fi_4_7 ?_
      refine Y_iload_n (j := 0) dX3_execute_223 rfl rfl ?_
      obtain ⟨y2, qy2, h⟩ := bindE h
      have cy2 := v_X3_useObject ho hP2 qy2
      refine C_V2o dX3_execute_224 w5_205 i_X3_useObject (lo_0 hP2 ho) ⟨Nat.le_of_ble_eq_true rfl, Nat.le_of_ble_eq_true rfl⟩ rfl (Nat.le_of_ble_eq_true rfl) (Nat.le_of_ble_eq_true rfl) (Nat.le_of_ble_eq_true rfl) (cy2) ?_
      have hPy2 := cy2.1.1
      refine Y_iconst (v := (0 : Int32)) dX3_execute_227 rfl ?_
      cases h
      exact Y_iret rfl (nar_bo (by decide)) dX3_execute_228 hPy2 ⟨rfl, rfl⟩
    · intro e9
      replace h := ifF (by rw [e9]; decide) h
      replace h := ifF (by rw [e9]; decide) h
      replace h := ifF (by rw [e9]; decide) h
      replace h := ifF (by rw [e9]; decide) h
      replace h := ifF (by rw [e9]; decide) h
      replace h := ifF (by rw [e9]; decide) h
      refine Y_aload_n (j := 3) dX3_execute_229 rfl rfl ?_
      refine Y_aload_n (j := 3) dX3_execute_230 rfl rfl ?_
      refine Z_geti dX3_execute_231 w1_181 (lo_0 hP2 ho) fi_4_7 ?_
      refine Y_iload_n (j := 0) dX3_execute_234 rfl rfl ?_
      obtain ⟨y8, qy8, h⟩ := bindE h
      have cy8 := v_X3_useStack ho hP2 qy8
      refine C_V2o dX3_execute_235 w5_221 i_X3_useStack (lo_0 hP2 ho) ⟨Nat.le_of_ble_eq_true rfl, Nat.le_of_ble_eq_true rfl⟩ rfl (Nat.le_of_ble_eq_true rfl) (Nat.le_of_ble_eq_true rfl) (Nat.le_of_ble_eq_true rfl) (cy8) ?_
      have hPy8 := cy8.1.1
      refine Y_iconst (v := (0 : Int32)) dX3_execute_238 rfl ?_
      cases h
      exact Y_iret rfl (nar_bo (by decide)) dX3_execute_239 hPy8 ⟨rfl, rfl⟩
    · intro e9
      replace h := ifF (by rw [e9]; decide) h
      replace h := ifF (by rw [e9]; decide) h
      replace h := ifF (by rw [e9]; decide) h
      replace h := ifF (by rw [e9]; decide) h
      replace h := ifT (by rw [e9]; decide) h
      refine Y_aload_n (j := 3) dX3_execute_212 rfl rfl ?_
      obtain ⟨y6, qy6, h⟩ := bindE h
      have cy6 := v_X3_giveBack ho hP2 qy6
      refine C_V0o dX3_execute_213 w5_197 i_X3_giveBack (lo_0 hP2 ho) ⟨Nat.le_of_ble_eq_true rfl, Nat.le_of_ble_eq_true rfl⟩ rfl (Nat.le_of_ble_eq_true rfl) (Nat.le_of_ble_eq_true rfl) (Nat.le_of_ble_eq_true rfl) (cy6) ?_
      have hPy6 := cy6.1.1
      refine Y_iconst (v := (0 : Int32)) dX3_execute_216 rfl ?_
      cases h
      exact Y_iret rfl (nar_bo (by decide)) dX3_execute_217 hPy6 ⟨rfl, rfl⟩
    · intro e9
      replace h := ifF (by rw [e9]; decide) h
      replace h := ifF (by rw [e9]; decide) h
      replace h := ifF (by rw [e9]; decide) h
      replace h := ifF (by rw [e9]; decide) h
      replace h := ifF (by rw [e9]; decide) h
      replace h := ifF (by rw [e9]; decide) h
      refine Y_aload_n (j := 3) dX3_execute_229 rfl rfl ?_
      refine Y_aload_n (j := 3) dX3_execute_230 rfl rfl ?_
      refine Z_geti dX3_execute_231 w1_181 (lo_0 hP2 ho) fi_4_7 ?_
      refine Y_iload_n (j := 0) dX3_execute_234 rfl rfl ?_
      obtain ⟨y8, qy8, h⟩ := bindE h
      have cy8 := v_X3_useStack ho hP2 qy8
      refine C_V2o dX3_execute_235 w5_221 i_X3_useStack (lo_0 hP2 ho) ⟨Nat.le_of_ble_eq_true rfl, Nat.le_of_ble_eq_true rfl⟩ rfl (Nat.le_of_ble_eq_true rfl) (Nat.le_of_ble_eq_true rfl) (Nat.le_of_ble_eq_true rfl) (cy8) ?_
      have hPy8 := cy8.1.1
      refine Y_iconst (v := (0 : Int32)) dX3_execute_238 rfl ?_
      cases h
      exact Y_iret rfl (nar_bo (by decide)) dX3_execute_239 hPy8 ⟨rfl, rfl⟩
    · intro e9
      replace h := ifF (by rw [e9]; decide) h
      replace h := ifF (by rw [e9]; decide) h
      replace h := ifF (by rw [e9]; decide) h
      replace h := ifF (by rw [e9]; decide) h
      replace h := ifF (by rw [e9]; decide) h
      replace h := ifF (by rw [e9]; decide) h
      refine Y_aload_n (j := 3) dX3_execute_229 rfl rfl ?_
      refine Y_aload_n (j := 3) dX3_execute_230 rfl rfl ?_
      refine Z_geti dX3_execute_231 w1_181 (lo_0 hP2 ho) fi_4_7 ?_
      refine Y_iload_n (j := 0) dX3_execute_234 rfl rfl ?_
      obtain ⟨y8, qy8, h⟩ := bindE h
      have cy8 := v_X3_useStack ho hP2 qy8
      refine C_V2o dX3_execute_235 w5_221 i_X3_useStack (lo_0 hP2 ho) ⟨Nat.le_of_ble_eq_true rfl, Nat.le_of_ble_eq_true rfl⟩ rfl (Nat.le_of_ble_eq_true rfl) (Nat.le_of_ble_eq_true rfl) (Nat.le_of_ble_eq_true rfl) (cy8) ?_
      have hPy8 := cy8.1.1
      refine Y_iconst (v := (0 : Int32)) dX3_execute_238 rfl ?_
      cases h
      exact Y_iret rfl (nar_bo (by decide)) dX3_execute_239 hPy8 ⟨rfl, rfl⟩
    · intro e9
      replace h := ifF (by rw [e9]; decide) h
      replace h := ifF (by rw [e9]; decide) h
      replace h := ifF (by rw [e9]; decide) h
      replace h := ifF (by rw [e9]; decide) h
      replace h := ifF (by rw [e9]; decide) h
      replace h := ifF (by rw [e9]; decide) h
      refine Y_aload_n (j := 3) dX3_execute_229 rfl rfl ?_
      refine Y_aload_n (j := 3) dX3_execute_230 rfl rfl ?_
      refine Z_geti dX3_execute_231 w1_181 (lo_0 hP2 ho) fi_4_7 ?_
      refine Y_iload_n (j := 0) dX3_execute_234 rfl rfl ?_
      obtain ⟨y8, qy8, h⟩ := bindE h
      have cy8 := v_X3_useStack ho hP2 qy8
      refine C_V2o dX3_execute_235 w5_221 i_X3_useStack (lo_0 hP2 ho) ⟨Nat.le_of_ble_eq_true rfl, Nat.le_of_ble_eq_true rfl⟩ rfl (Nat.le_of_ble_eq_true rfl) (Nat.le_of_ble_eq_true rfl) (Nat.le_of_ble_eq_true rfl) (cy8) ?_
      have hPy8 := cy8.1.1
      refine Y_iconst (v := (0 : Int32)) dX3_execute_238 rfl ?_
      cases h
      exact Y_iret rfl (nar_bo (by decide)) dX3_execute_239 hPy8 ⟨rfl, rfl⟩
    · intro e9
      replace h := ifF (by rw [e9]; decide) h
      replace h := ifF (by rw [e9]; decide) h
      replace h := ifF (by rw [e9]; decide) h
      replace h := ifF (by rw [e9]; decide) h
      replace h := ifF (by rw [e9]; decide) h
      replace h := ifF (by rw [e9]; decide) h
      refine Y_aload_n (j := 3) dX3_execute_229 rfl rfl ?_
      refine Y_aload_n (j := 3) dX3_execute_230 rfl rfl ?_
      refine Z_geti dX3_execute_231 w1_181 (lo_0 hP2 ho) fi_4_7 ?_
      refine Y_iload_n (j := 0) dX3_execute_234 rfl rfl ?_
      obtain ⟨y8, qy8, h⟩ := bindE h
      have cy8 := v_X3_useStack ho hP2 qy8
      refine C_V2o dX3_execute_235 w5_221 i_X3_useStack (lo_0 hP2 ho) ⟨Nat.le_of_ble_eq_true rfl, Nat.le_of_ble_eq_true rfl⟩ rfl (Nat.le_of_ble_eq_true rfl) (Nat.le_of_ble_eq_true rfl) (Nat.le_of_ble_eq_true rfl) (cy8) ?_
      have hPy8 := cy8.1.1
      refine Y_iconst (v := (0 : Int32)) dX3_execute_238 rfl ?_
      cases h
      exact Y_iret rfl (nar_bo (by decide)) dX3_execute_239 hPy8 ⟨rfl, rfl⟩
    · intro e9
      replace h := ifF (by rw [e9]; decide) h
      replace h := ifF (by rw [e9]; decide) h
      replace h := ifF (by rw [e9]; decide) h
      replace h := ifF (by rw [e9]; decide) h
      replace h := ifF (by rw [e9]; decide) h
      replace h := ifF (by rw [e9]; decide) h
      refine Y_aload_n (j := 3) dX3_execute_229 rfl rfl ?_
      refine Y_aload_n (j := 3) dX3_execute_230 rfl rfl ?_
      refine Z_geti dX3_execute_231 w1_181 (lo_0 hP2 ho) fi_4_7 ?_
      refine Y_iload_n (j := 0) dX3_execute_234 rfl rfl ?_
      obtain ⟨y8, qy8, h⟩ := bindE h
      have cy8 := v_X3_useStack ho hP2 qy8
      refine C_V2o dX3_execute_235 w5_221 i_X3_useStack (lo_0 hP2 ho) ⟨Nat.le_of_ble_eq_true rfl, Nat.le_of_ble_eq_true rfl⟩ rfl (Nat.le_of_ble_eq_true rfl) (Nat.le_of_ble_eq_true rfl) (Nat.le_of_ble_eq_true rfl) (cy8) ?_
      have hPy8 := cy8.1.1
      refine Y_iconst (v := (0 : Int32)) dX3_execute_238 rfl ?_
      cases h
      exact Y_iret rfl (nar_bo (by decide)) dX3_execute_239 hPy8 ⟨rfl, rfl⟩
    · intro e9
      replace h := ifF (by rw [e9]; decide) h
      replace h := ifF (by rw [e9]; decide) h
      replace h := ifF (by rw [e9]; decide) h
      replace h := ifF (by rw [e9]; decide) h
      replace h := ifF (by rw [e9]; decide) h
      replace h := ifF (by rw [e9]; decide) h
      refine Y_aload_n (j := 3) dX3_execute_229 rfl rfl ?_
      refine Y_aload_n (j := 3) dX3_execute_230 rfl rfl ?_
      refine Z_geti dX3_execute_231 w1_181 (lo_0 hP2 ho) fi_4_7 ?_
      refine Y_iload_n (j := 0) dX3_execute_234 rfl rfl ?_
      obtain ⟨y8, qy8, h⟩ := bindE h
      have cy8 := v_X3_useStack ho hP2 qy8
      refine C_V2o dX3_execute_235 w5_221 i_X3_useStack (lo_0 hP2 ho) ⟨Nat.le_of_ble_eq_true rfl, Nat.le_of_ble_eq_true rfl⟩ rfl (Nat.le_of_ble_eq_true rfl) (Nat.le_of_ble_eq_true rfl) (Nat.le_of_ble_eq_true rfl) (cy8) ?_
      have hPy8 := cy8.1.1
      refine Y_iconst (v := (0 : Int32)) dX3_execute_238 rfl ?_
      cases h
      exact Y_iret rfl (nar_bo (by decide)) dX3_execute_239 hPy8 ⟨rfl, rfl⟩
    · intro e9
      replace h := ifF (by rw [e9]; decide) h
      replace h := ifF (by rw [e9]; decide) h
      replace h := ifF (by rw [e9]; decide) h
      replace h := ifF (by rw [e9]; decide) h
      replace h := ifF (by rw [e9]; decide) h
      replace h := ifF (by rw [e9]; decide) h
      refine Y_aload_n (j := 3) dX3_execute_229 rfl rfl ?_
      refine Y_aload_n (j := 3) dX3_execute_230 rfl rfl ?_
      refine Z_geti dX3_execute_231 w1_181 (lo_0 hP2 ho) fi_4_7 ?_
      refine Y_iload_n (j := 0) dX3_execute_234 rfl rfl ?_
      obtain ⟨y8, qy8, h⟩ := bindE h
      have cy8 := v_X3_useStack ho hP2 qy8
      refine C_V2o dX3_execute_235 w5_221 i_X3_useStack (lo_0 hP2 ho) ⟨Nat.le_of_ble_eq_true rfl, Nat.le_of_ble_eq_true rfl⟩ rfl (Nat.le_of_ble_eq_true rfl) (Nat.le_of_ble_eq_true rfl) (Nat.le_of_ble_eq_true rfl) (cy8) ?_
      have hPy8 := cy8.1.1
      refine Y_iconst (v := (0 : Int32)) dX3_execute_238 rfl ?_
      cases h
      exact Y_iret rfl (nar_bo (by decide)) dX3_execute_239 hPy8 ⟨rfl, rfl⟩
    · intro e9
      replace h := ifF (by rw [e9]; decide) h
      replace h := ifF (by rw [e9]; decide) h
      replace h := ifF (by rw [e9]; decide) h
      replace h := ifF (by rw [e9]; decide) h
      replace h := ifF (by rw [e9]; decide) h
      replace h := ifT (by rw [e9]; decide) h
      refine Y_aload_n (j := 3) dX3_execute_170 rfl rfl ?_
      refine Y_iload_n (j := 0) dX3_execute_171 rfl rfl ?_
      refine Y_iload_n (j := 1) dX3_execute_172 rfl rfl ?_
      obtain ⟨y7, qy7, h⟩ := bindE h
      have cy7 := v_X3_jumpsAtNull ho hP2 qy7
      refine C_V2r dX3_execute_173 w5_177 i_X3_jumpsAtNull (lo_0 hP2 ho) ⟨Nat.le_of_ble_eq_true rfl, Nat.le_of_ble_eq_true rfl⟩ rfl (Nat.le_of_ble_eq_true rfl) (Nat.le_of_ble_eq_true rfl) (Nat.le_of_ble_eq_true rfl) (cy7) ?_
      have hPy7 := cy7.1.1
      obtain ⟨hb5, h⟩ := okE h
      cases h
      exact Y_iret rfl (nar_bo hb5) dX3_execute_176 hPy7 ⟨rfl, rfl⟩
  · intro n9
    replace h := ifF (xs_no n9 (by decide : ((99 : Int32), 177) ∈ _)) h
    replace h := ifF (fun q => q.elim (xs_no n9 (by decide : ((103 : Int32), 218) ∈ _)) (fun q => q.elim (xs_no n9 (by decide : ((110 : Int32), 218) ∈ _)) (xs_no n9 (by decide : ((112 : Int32), 218) ∈ _)))) h
    replace h := ifF (xs_no n9 (by decide : ((106 : Int32), 152) ∈ _)) h
    replace h := ifF (xs_no n9 (by decide : ((109 : Int32), 193) ∈ _)) h
    replace h := ifF (xs_no n9 (by decide : ((114 : Int32), 212) ∈ _)) h
    replace h := ifF (xs_no n9 (by decide : ((122 : Int32), 170) ∈ _)) h
    refine Y_aload_n (j := 3) dX3_execute_229 rfl rfl ?_
    refine Y_aload_n (j := 3) dX3_execute_230 rfl rfl ?_
    refine Z_geti dX3_execute_231 w1_181 (lo_0 hP2 ho) fi_4_7 ?_
    refine Y_iload_n (j := 0) dX3_execute_234 rfl rfl ?_
    obtain ⟨y8, qy8, h⟩ := bindE h
    have cy8 := v_X3_useStack ho hP2 qy8
    refine C_V2o dX3_execute_235 w5_221 i_X3_useStack (lo_0 hP2 ho) ⟨Nat.le_of_ble_eq_true rfl, Nat.le_of_ble_eq_true rfl⟩ rfl (Nat.le_of_ble_eq_true rfl) (Nat.le_of_ble_eq_true rfl) (Nat.le_of_ble_eq_true rfl) (cy8) ?_
    have hPy8 := cy8.1.1
    refine Y_iconst (v := (0 : Int32)) dX3_execute_238 rfl ?_
    cases h
    exact Y_iret rfl (nar_bo (by decide)) dX3_execute_239 hPy8 ⟨rfl, rfl⟩
theorem v_X3_execute {o : Nat} {M z} (ho : o = 18 ∨ o = 28) (hP : Lay M) (h : d_X3_execute o M = some z) : CC Lay k_X3_execute [.ref o] M z.2 (Qv (some (.int z.1)) z.2) xF :=
  CC.ofVV (by decide) rfl (Nat.le_of_ble_eq_true rfl) (b_X3_execute ho hP h)
noncomputable def d_X3_runOut_53 (k2 : (Int32) → Mem → Option (Unit × Mem)) (o : Nat) (x1 : Int32) (M : Mem) : Option (Unit × Mem) :=
  bnd ((x1 + (1 : Int32))) fun b1 =>
  k2 (b1) M
theorem b_X3_runOut_53 {k2 : (Int32) → Mem → Option (Unit × Mem)} {o : Nat} {x1 : Int32} {M z} (ho : o = 18 ∨ o = 28) (hk2 : ∀ (a : (Int32)) (M : Mem) (z : Unit × Mem), Lay M → k2 a M = some z → VV Lay k_X3_runOut 2 [(0, .ref o), (1, .int a)] [] M z.2 (Qv (none) z.2) xF) (hP : Lay M) (h : d_X3_runOut_53 k2 o x1 M = some z) : VV Lay k_X3_runOut 53 [(0, .ref o), (1, .int x1)] [] M z.2 (Qv (none) z.2) xF := by
  unfold d_X3_runOut_53 at h
  obtain ⟨b1, eb1, h⟩ := bndE h
  refine Y_iinc (j := 1) (v := b1) (lv1 := [(1, .int b1), (0, .ref o)]) dX3_runOut_53 rfl eb1.symm (by decide) rfl ?_
  refine Y_goto (tgt := 2) dX3_runOut_56 (by decide) ?_
  refine VV.sub [1, 0] rfl ?_
  exact hk2 _ _ _ hP h
noncomputable def d_X3_runOut_2b (k2 : (Int32) → Mem → Option (Unit × Mem)) (o : Nat) (x1 : Int32) (M : Mem) : Option (Unit × Mem) :=
  if (1000000 : Int32) ≤ x1 then (
    some ((), M))
  else (
    (d_X3_isRunning o M).bind fun y1 =>
    if y1.1 = 0 then (
      some ((), y1.2))
    else (
      (d_X3_isAtLimit o y1.2).bind fun y2 =>
      if y2.1 = 0 then (
        (d_X3_failureAhead o y2.2).bind fun y3 =>
        if y3.1 = (45 : Int32) then (
          (d_X3_execute o y3.2).bind fun y4 =>
          d_X3_runOut_53 k2 o x1 y4.2)
        else (
          (d_X3_failWith o y3.1 y3.2).bind fun y5 =>
          d_X3_runOut_53 k2 o x1 y5.2))
      else (
        (d_X3_endAtLimit o y2.2).bind fun y6 =>
        d_X3_runOut_53 k2 o x1 y6.2)))
theorem b_X3_runOut_2b {k2 : (Int32) → Mem → Option (Unit × Mem)} {o : Nat} {x1 : Int32} {M z} (ho : o = 18 ∨ o = 28) (hk2 : ∀ (a : (Int32)) (M : Mem) (z : Unit × Mem), Lay M → k2 a M = some z → VV Lay k_X3_runOut 2 [(0, .ref o), (1, .int a)] [] M z.2 (Qv (none) z.2) xF) (hP : Lay M) (h : d_X3_runOut_2b k2 o x1 M = some z) : VV Lay k_X3_runOut 2 [(0, .ref o), (1, .int x1)] [] M z.2 (Qv (none) z.2) xF := by
  unfold d_X3_runOut_2b at h
  refine Y_iload_n (j := 1) dX3_runOut_2 rfl rfl ?_
  refine Y_ldc dX3_runOut_3 w5_46 ?_
  refine Y_icmp_ge (tgt := 59) dX3_runOut_5 (by decide) (fun hc1 => ?_) (fun hc1 => ?_)
  · replace h := ifT hc1 h
    cases h
    exact Y_vret rfl dX3_runOut_59 hP ⟨rfl, rfl⟩
  · replace h := ifF hc1 h
    refine Y_aload_n (j := 0) dX3_runOut_8 rfl rfl ?_
    obtain ⟨y1, qy1, h⟩ := bindE h
    have cy1 := v_X3_isRunning ho hP qy1
    refine C_V0r dX3_runOut_9 w5_47 i_X3_isRunning (lo_0 hP ho) ⟨Nat.le_of_ble_eq_true rfl, Nat.le_of_ble_eq_true rfl⟩ rfl (Nat.le_of_ble_eq_true rfl) (Nat.le_of_ble_eq_true rfl) (Nat.le_of_ble_eq_true rfl) (cy1) ?_
    have hPy1 := cy1.1.1
    refine Y_if_eq (tgt := 59) dX3_runOut_12 (by decide) (fun hc2 => ?_) (fun hc2 => ?_)
    · replace h := ifT hc2 h
      cases h
      exact Y_vret rfl dX3_runOut_59 hPy1 ⟨rfl, rfl⟩
    · replace h := ifF hc2 h
      refine Y_aload_n (j := 0) dX3_runOut_15 rfl rfl ?_
      obtain ⟨y2, qy2, h⟩ := bindE h
      have cy2 := v_X3_isAtLimit ho hPy1 qy2
      refine C_V0r dX3_runOut_16 w5_51 i_X3_isAtLimit (lo_0 hPy1 ho) ⟨Nat.le_of_ble_eq_true rfl, Nat.le_of_ble_eq_true rfl⟩ rfl (Nat.le_of_ble_eq_true rfl) (Nat.le_of_ble_eq_true rfl) (Nat.le_of_ble_eq_true rfl) (cy2) ?_
      have hPy2 := cy2.1.1
      refine Y_if_eq (tgt := 29) dX3_runOut_19 (by decide) (fun hc3 => ?_) (fun hc3 => ?_)
      · replace h := ifT hc3 h
        refine Y_aload_n (j := 0) dX3_runOut_29 rfl rfl ?_
        obtain ⟨y3, qy3, h⟩ := bindE h
        have cy3 := v_X3_failureAhead ho hPy2 qy3
        refine C_V0r dX3_runOut_30 w5_75 i_X3_failureAhead (lo_0 hPy2 ho) ⟨Nat.le_of_ble_eq_true rfl, Nat.le_of_ble_eq_true rfl⟩ rfl (Nat.le_of_ble_eq_true rfl) (Nat.le_of_ble_eq_true rfl) (Nat.le_of_ble_eq_true rfl) (cy3) ?_
        have hPy3 := cy3.1.1
        refine Y_istore_n (lv1 := [(2, .int y3.1), (0, .ref o), (1, .int x1)]) dX3_runOut_33 rfl (by decide) rfl ?_
        refine Y_iload_n (j := 0) dX3_runOut_34 rfl rfl ?_
        refine Y_bipush (v := (45 : Int32)) dX3_runOut_35 rfl ?_
        refine Y_icmp_eq (tgt := 48) dX3_runOut_37 (by decide) (fun hc4 => ?_) (fun hc4 => ?_)
        · replace h := ifT hc4 h
          refine Y_aload_n (j := 1) dX3_runOut_48 rfl rfl ?_
          obtain ⟨y4, qy4, h⟩ := bindE h
          have cy4 := v_X3_execute ho hPy3 qy4
          refine C_V0r dX3_runOut_49 w5_173 i_X3_execute (lo_0 hPy3 ho) ⟨Nat.le_of_ble_eq_true rfl, Nat.le_of_ble_eq_true rfl⟩ rfl (Nat.le_of_ble_eq_true rfl) (Nat.le_of_ble_eq_true rfl) (Nat.le_of_ble_eq_true rfl) (cy4) ?_
          have hPy4 := cy4.1.1
          refine Y_pop dX3_runOut_52 rfl ?_
          refine VV.sub [1, 2] rfl ?_
          exact b_X3_runOut_53 ho hk2 hPy4 h
        · replace h := ifF hc4 h
          refine Y_aload_n (j := 1) dX3_runOut_40 rfl rfl ?_
          refine Y_iload_n (j := 0) dX3_runOut_41 rfl rfl ?_
          obtain ⟨y5, qy5, h⟩ := bindE h
          have cy5 := v_X3_failWith ho hPy3 qy5
          refine C_V1o dX3_runOut_42 w5_165 i_X3_failWith (lo_0 hPy3 ho) ⟨Nat.le_of_ble_eq_true rfl, Nat.le_of_ble_eq_true rfl⟩ rfl (Nat.le_of_ble_eq_true rfl) (Nat.le_of_ble_eq_true rfl) (Nat.le_of_ble_eq_true rfl) (cy5) ?_
          have hPy5 := cy5.1.1
          refine Y_goto (tgt := 53) dX3_runOut_45 (by decide) ?_
          refine VV.sub [1, 2] rfl ?_
          exact b_X3_runOut_53 ho hk2 hPy5 h
      · replace h := ifF hc3 h
        refine Y_aload_n (j := 0) dX3_runOut_22 rfl rfl ?_
        obtain ⟨y6, qy6, h⟩ := bindE h
        have cy6 := v_X3_endAtLimit ho hPy2 qy6
        refine C_V0o dX3_runOut_23 w5_55 i_X3_endAtLimit (lo_0 hPy2 ho) ⟨Nat.le_of_ble_eq_true rfl, Nat.le_of_ble_eq_true rfl⟩ rfl (Nat.le_of_ble_eq_true rfl) (Nat.le_of_ble_eq_true rfl) (Nat.le_of_ble_eq_true rfl) (cy6) ?_
        have hPy6 := cy6.1.1
        refine Y_goto (tgt := 53) dX3_runOut_26 (by decide) ?_
        refine VV.sub [0, 1] rfl ?_
        exact b_X3_runOut_53 ho hk2 hPy6 h
noncomputable def d_X3_runOut_2 (o : Nat) : Nat → (Int32) → Mem → Option (Unit × Mem) := lp fun k a M => d_X3_runOut_2b k o a M
theorem b_X3_runOut_2 {o : Nat} (ho : o = 18 ∨ o = 28) (n : Nat) : ∀ (a : (Int32)) (M : Mem) (z : Unit × Mem), d_X3_runOut_2 o n a M = some z → Lay M → VV Lay k_X3_runOut 2 [(0, .ref o), (1, .int a)] [] M z.2 (Qv (none) z.2) xF :=
  lp_ind (fun k hk a M z h hP => b_X3_runOut_2b ho (fun a M z hP h => hk a M z h hP) hP h) n
noncomputable def d_X3_runOut (o : Nat) (M : Mem) : Option (Unit × Mem) :=
  d_X3_runOut_2 o fuel ((0 : Int32)) M
theorem b_X3_runOut {o : Nat} {M z} (ho : o = 18 ∨ o = 28) (hP : Lay M) (h : d_X3_runOut o M = some z) : VV Lay k_X3_runOut 0 [(0, .ref o)] [] M z.2 (Qv (none) z.2) xF := by
  unfold d_X3_runOut at h
  refine Y_iconst (v := (0 : Int32)) dX3_runOut_0 rfl ?_
  refine Y_istore_n (lv1 := [(1, .int (0 : Int32)), (0, .ref o)]) dX3_runOut_1 rfl (by decide) rfl ?_
  refine VV.sub [1, 0] rfl ?_
  exact b_X3_runOut_2 ho fuel _ _ _ h hP
theorem v_X3_runOut {o : Nat} {M z} (ho : o = 18 ∨ o = 28) (hP : Lay M) (h : d_X3_runOut o M = some z) : CC Lay k_X3_runOut [.ref o] M z.2 (Qv (none) z.2) xF :=
  CC.ofVV (by decide) rfl (Nat.le_of_ble_eq_true rfl) (b_X3_runOut ho hP h)
noncomputable def d_X3_answerTo (o : Nat) (x1 : Int32) (x2 : Int32) (M : Mem) : Option (Int32 × Mem) :=
  (d_X3_fromTop o x2 M).bind fun y1 =>
  if x1 = (107 : Int32) then (
    okk (vp_in y1.1 549) <|
    some ((mI y1.2 (o + 2) y1.1.toNatClampNeg), y1.2))
  else if x1 = (111 : Int32) then (
    (d_X3_fromTop o (1 : Int32) y1.2).bind fun y2 =>
    (d_X8_givesInteger o (mI y1.2 o 7) y1.1 y2.1 y2.2).bind fun y3 =>
    if y3.1 = 0 then (
      some ((0 : Int32), y3.2))
    else (
      some ((1 : Int32), y3.2)))
  else if x1 = (115 : Int32) then (
    (d_X3_shapeFromTop o x2 y1.2).bind fun y4 =>
    some (y4.1, y4.2))
  else (
    (d_X8_isNull o y1.1 y1.2).bind fun y5 =>
    if y5.1 = 0 then (
      some ((0 : Int32), y5.2))
    else (
      some ((1 : Int32), y5.2)))
theorem b_X3_answerTo {o : Nat} {x1 : Int32} {x2 : Int32} {M z} (ho : o = 18 ∨ o = 28) (hP : Lay M) (h : d_X3_answerTo o x1 x2 M = some z) : VV Lay k_X3_answerTo 0 [(0, .ref o), (1, .int x1), (2, .int x2)] [] M z.2 (Qv (some (.int z.1)) z.2) xF := by
  unfold d_X3_answerTo at h
  refine Y_aload_n (j := 0) dX3_answerTo_0 rfl rfl ?_
  refine Y_iload_n (j := 2) dX3_answerTo_1 rfl rfl ?_
  obtain ⟨y1, qy1, h⟩ := bindE h
  have cy1 := v_X3_fromTop ho hP qy1
  refine C_V1r dX3_answerTo_2 w5_106 i_X3_fromTop (lo_0 hP ho) ⟨Nat.le_of_ble_eq_true rfl, Nat.le_of_ble_eq_true rfl⟩ rfl (Nat.le_of_ble_eq_true rfl) (Nat.le_of_ble_eq_true rfl) (Nat.le_of_ble_eq_true rfl) (cy1) ?_
  have hPy1 := cy1.1.1
  refine Y_istore_n (lv1 := [(3, .int y1.1), (0, .ref o), (1, .int x1), (2, .int x2)]) dX3_answerTo_5 rfl (by decide) rfl ?_
  refine Y_iload_n (j := 2) dX3_answerTo_6 rfl rfl ?_
  refine Y_lookup dX3_answerTo_7 (by decide) [(107, 40), (111, 50), (115, 76)] 82 (by decide) (by decide) ?_ ?_
  · refine xs_cons ?_ <| xs_cons ?_ <| xs_cons ?_ <| xs_nil
    · intro e9
      replace h := ifT (by rw [e9]; decide) h
      refine Y_aload_n (j := 1) dX3_answerTo_40 rfl rfl ?_
      refine Z_getr dX3_answerTo_41 w1_171 (lo_0 hPy1 ho) fr_4_2 (lor_0_2 hPy1 ho) ?_
      refine Z_getr dX3_answerTo_44 w1_151 (lo_1 hPy1 ho) fr_8_0 (lor_1_0 hPy1 ho) ?_
      refine Y_iload_n (j := 0) dX3_answerTo_47 rfl rfl ?_
      obtain ⟨hb1, h⟩ := okE h
      refine Y_cald dX3_answerTo_48 (lo_2 hPy1 ho) (lon_2 hPy1 ho) hb1 ?_
      cases h
      exact Y_iret rfl rfl dX3_answerTo_49 hPy1 ⟨rfl, rfl⟩
    · intro e9
      replace h := ifF (by rw [e9]; decide) h
      replace h := ifT (by rw [e9]; decide) h
      refine Y_aload_n (j := 1) dX3_answerTo_50 rfl rfl ?_
      refine Z_getr dX3_answerTo_51 w1_171 (lo_0 hPy1 ho) fr_4_2 (lor_0_2 hPy1 ho) ?_
      refine Y_aload_n (j := 1) dX3_answerTo_54 rfl rfl ?_
      refine Z_geti dX3_answerTo_55 w1_181 (lo_0 hPy1 ho) fi_4_7 ?_
      refine Y_iload_n (j := 0) dX3_answerTo_58 rfl rfl ?_
      refine Y_aload_n (j := 1) dX3_answerTo_59 rfl rfl ?_
      refine Y_iconst (v := (1 : Int32)) dX3_answerTo_60 rfl ?_
      obtain ⟨y2, qy2, h⟩ := bindE h
      have cy2 := v_X3_fromTop ho hPy1 qy2
      refine C_V1r dX3_answerTo_61 w5_106 i_X3_fromTop (lo_0 hPy1 ho) ⟨Nat.le_of_ble_eq_true rfl, Nat.le_of_ble_eq_true rfl⟩ rfl (Nat.le_of_ble_eq_true rfl) (Nat.le_of_ble_eq_true rfl) (Nat.le_of_ble_eq_true rfl) (cy2) ?_
      have hPy2 := cy2.1.1
      obtain ⟨y3, qy3, h⟩ := bindE h
      have cy3 := v_X8_givesInteger ho hPy2 qy3
      refine C_V3r dX3_answerTo_64 w6_72 i_X8_givesInteger (lo_1 hPy2 ho) ⟨Nat.le_of_ble_eq_true rfl, Nat.le_of_ble_eq_true rfl⟩ rfl (Nat.le_of_ble_eq_true rfl) (Nat.le_of_ble_eq_true rfl) (Nat.le_of_ble_eq_true rfl) (cy3) ?_
      have hPy3 := cy3.1.1
      refine Y_if_eq (tgt := 74) dX3_answerTo_67 (by decide) (fun hc1 => ?_) (fun hc1 => ?_)
      · replace h := ifT hc1 h
        refine Y_iconst (v := (0 : Int32)) dX3_answerTo_74 rfl ?_
        cases h
        exact Y_iret rfl rfl dX3_answerTo_75 hPy3 ⟨rfl, rfl⟩
      · replace h := ifF hc1 h
        refine Y_iconst (v := (1 : Int32)) dX3_answerTo_70 rfl ?_
        refine Y_goto (tgt := 75) dX3_answerTo_71 (by decide) ?_
        cases h
        exact Y_iret rfl rfl dX3_answerTo_75 hPy3 ⟨rfl, rfl⟩
    · intro e9
      replace h := ifF (by rw [e9]; decide) h
      replace h := ifF (by rw [e9]; decide) h
      replace h := ifT (by rw [e9]; decide) h
      refine Y_aload_n (j := 1) dX3_answerTo_76 rfl rfl ?_
      refine Y_iload_n (j := 3) dX3_answerTo_77 rfl rfl ?_
      obtain ⟨y4, qy4, h⟩ := bindE h
      have cy4 := v_X3_shapeFromTop ho hPy1 qy4
      refine C_V1r dX3_answerTo_78 w5_140 i_X3_shapeFromTop (lo_0 hPy1 ho) ⟨Nat.le_of_ble_eq_true rfl, Nat.le_of_ble_eq_true rfl⟩ rfl (Nat.le_of_ble_eq_true rfl) (Nat.le_of_ble_eq_true rfl) (Nat.le_of_ble_eq_true rfl) (cy4) ?_
      have hPy4 := cy4.1.1
      cases h
      exact Y_iret rfl rfl dX3_answerTo_81 hPy4 ⟨rfl, rfl⟩
  · intro n9
    replace h := ifF (xs_no n9 (by decide : ((107 : Int32), 40) ∈ _)) h
    replace h := ifF (xs_no n9 (by decide : ((111 : Int32), 50) ∈ _)) h
    replace h := ifF (xs_no n9 (by decide : ((115 : Int32), 76) ∈ _)) h
    refine Y_aload_n (j := 1) dX3_answerTo_82 rfl rfl ?_
    refine Z_getr dX3_answerTo_83 w1_171 (lo_0 hPy1 ho) fr_4_2 (lor_0_2 hPy1 ho) ?_
    refine Y_iload_n (j := 0) dX3_answerTo_86 rfl rfl ?_
    obtain ⟨y5, qy5, h⟩ := bindE h
    have cy5 := v_X8_isNull ho hPy1 qy5
    refine C_V1r dX3_answerTo_87 w5_185 i_X8_isNull (lo_1 hPy1 ho) ⟨Nat.le_of_ble_eq_true rfl, Nat.le_of_ble_eq_true rfl⟩ rfl (Nat.le_of_ble_eq_true rfl) (Nat.le_of_ble_eq_true rfl) (Nat.le_of_ble_eq_true rfl) (cy5) ?_
    have hPy5 := cy5.1.1
    refine Y_if_eq (tgt := 97) dX3_answerTo_90 (by decide) (fun hc2 => ?_) (fun hc2 => ?_)
    · replace h := ifT hc2 h
      refine Y_iconst (v := (0 : Int32)) dX3_answerTo_97 rfl ?_
      cases h
      exact Y_iret rfl rfl dX3_answerTo_98 hPy5 ⟨rfl, rfl⟩
    · replace h := ifF hc2 h
      refine Y_iconst (v := (1 : Int32)) dX3_answerTo_93 rfl ?_
      refine Y_goto (tgt := 98) dX3_answerTo_94 (by decide) ?_
      cases h
      exact Y_iret rfl rfl dX3_answerTo_98 hPy5 ⟨rfl, rfl⟩
theorem v_X3_answerTo {o : Nat} {x1 : Int32} {x2 : Int32} {M z} (ho : o = 18 ∨ o = 28) (hP : Lay M) (h : d_X3_answerTo o x1 x2 M = some z) : CC Lay k_X3_answerTo [.ref o, .int x1, .int x2] M z.2 (Qv (some (.int z.1)) z.2) xF :=
  CC.ofVV (by decide) rfl (Nat.le_of_ble_eq_true rfl) (b_X3_answerTo ho hP h)
noncomputable def d_X4_isNegative (x0 : UInt64) (M : Mem) : Option (Int32 × Mem) :=
  if (Op.cmpValue (FP.dcmp x0 FP.dconst0) .g) < 0 then (
    some ((1 : Int32), M))
  else (
    if (Op.cmpValue (FP.dcmp x0 FP.dconst0) .l) = 0 then (
      if 0 ≤ (Op.cmpValue (FP.dcmp (FP.ddiv FP.dconst1 x0) FP.dconst0) .g) then (
        some ((0 : Int32), M))
      else (
        some ((1 : Int32), M)))
    else (
      some ((0 : Int32), M)))
theorem b_X4_isNegative {x0 : UInt64} {M z} (hP : Lay M) (h : d_X4_isNegative x0 M = some z) : VV Lay k_X4_isNegative 0 [(0, .double x0)] [] M z.2 (Qv (some (.int z.1)) z.2) xF := by
  unfold d_X4_isNegative at h
  refine Y_dload_n (j := 0) dX4_isNegative_0 rfl rfl ?_
  refine Y_dconst0 dX4_isNegative_1 ?_
  refine Y_dcmp dX4_isNegative_2 ?_
  refine Y_if_lt (tgt := 20) dX4_isNegative_3 (by decide) (fun hc1 => ?_) (fun hc1 => ?_)
  · replace h := ifT hc1 h
    refine Y_iconst (v := (1 : Int32)) dX4_isNegative_20 rfl ?_
    refine Y_goto (tgt := 25) dX4_isNegative_21 (by decide) ?_
    cases h
    exact Y_iret rfl (nar_bo (by decide)) dX4_isNegative_25 hP ⟨rfl, rfl⟩
  · replace h := ifF hc1 h
    refine Y_dload_n (j := 0) dX4_isNegative_6 rfl rfl ?_
    refine Y_dconst0 dX4_isNegative_7 ?_
    refine Y_dcmp dX4_isNegative_8 ?_
    refine Y_if_ne (tgt := 24) dX4_isNegative_9 (by decide) (fun hc2 => ?_) (fun hc2 => ?_)
    · replace h := ifF hc2 h
      refine Y_iconst (v := (0 : Int32)) dX4_isNegative_24 rfl ?_
      cases h
      exact Y_iret rfl (nar_bo (by decide)) dX4_isNegative_25 hP ⟨rfl, rfl⟩
    · replace h := ifT hc2 h
      refine Y_dconst1 dX4_isNegative_12 ?_
      refine Y_dload_n (j := 0) dX4_isNegative_13 rfl rfl ?_
      refine Y_ddiv dX4_isNegative_14 ?_
      refine Y_dconst0 dX4_isNegative_15 ?_
      refine Y_dcmp dX4_isNegative_16 ?_
      refine Y_if_ge (tgt := 24) dX4_isNegative_17 (by decide) (fun hc3 => ?_) (fun hc3 => ?_)
      · replace h := ifT hc3 h
        refine Y_iconst (v := (0 : Int32)) dX4_isNegative_24 rfl ?_
        cases h
        exact Y_iret rfl (nar_bo (by decide)) dX4_isNegative_25 hP ⟨rfl, rfl⟩
      · replace h := ifF hc3 h
        refine Y_iconst (v := (1 : Int32)) dX4_isNegative_20 rfl ?_
        refine Y_goto (tgt := 25) dX4_isNegative_21 (by decide) ?_
        cases h
        exact Y_iret rfl (nar_bo (by decide)) dX4_isNegative_25 hP ⟨rfl, rfl⟩
theorem v_X4_isNegative {x0 : UInt64} {M z} (hP : Lay M) (h : d_X4_isNegative x0 M = some z) : CC Lay k_X4_isNegative [.double x0] M z.2 (Qv (some (.int z.1)) z.2) xF :=
  CC.ofVV (by decide) rfl (Nat.le_of_ble_eq_true rfl) (b_X4_isNegative hP h)
noncomputable def d_X8_isSame (x1 : Int32) (M : Mem) : Option (Int32 × Mem) :=
  okk (vp_in x1 549) <|
  okk (vp_in x1 549) <|
  if (mI M 20 x1.toNatClampNeg) = (mI M 30 x1.toNatClampNeg) then (
    okk (vp_in x1 549) <|
    okk (vp_in x1 549) <|
    if (mI M 21 x1.toNatClampNeg) = (mI M 31 x1.toNatClampNeg) then (
      okk (vp_in x1 549) <|
      okk (vp_in x1 549) <|
      if (Op.cmpValue (FP.dcmp (mD M 22 x1.toNatClampNeg) (mD M 32 x1.toNatClampNeg)) .l) = 0 then (
        okk (vp_in x1 549) <|
        (d_X4_isNegative (mD M 22 x1.toNatClampNeg) M).bind fun y1 =>
        okk (vp_in x1 549) <|
        (d_X4_isNegative (mD y1.2 32 x1.toNatClampNeg) y1.2).bind fun y2 =>
        if y1.1 = y2.1 then (
          some ((1 : Int32), y2.2))
        else (
          some ((0 : Int32), y2.2)))
      else (
        some ((0 : Int32), M)))
    else (
      some ((0 : Int32), M)))
  else (
    some ((0 : Int32), M))
theorem b_X8_isSame {x1 : Int32} {M z} (hP : Lay M) (h : d_X8_isSame x1 M = some z) : VV Lay k_X8_isSame 0 [(0, .ref 19), (1, .int x1), (2, .ref 29)] [] M z.2 (Qv (some (.int z.1)) z.2) xF := by
  unfold d_X8_isSame at h
  refine Y_aload_n (j := 0) dX8_isSame_0 rfl rfl ?_
  refine Z_getr dX8_isSame_1 w1_149 (lk_19 hP) fr_8_0 (lr_19_0 hP) ?_
  refine Y_iload_n (j := 1) dX8_isSame_4 rfl rfl ?_
  obtain ⟨hb1, h⟩ := okE h
  refine Y_cald dX8_isSame_5 (lk_20 hP) (ln_20 hP) hb1 ?_
  refine Y_aload_n (j := 2) dX8_isSame_6 rfl rfl ?_
  refine Z_getr dX8_isSame_7 w1_149 (lk_29 hP) fr_8_0 (lr_29_0 hP) ?_
  refine Y_iload_n (j := 1) dX8_isSame_10 rfl rfl ?_
  obtain ⟨hb2, h⟩ := okE h
  refine Y_cald dX8_isSame_11 (lk_30 hP) (ln_30 hP) hb2 ?_
  refine Y_icmp_ne (tgt := 71) dX8_isSame_12 (by decide) (fun hc1 => ?_) (fun hc1 => ?_)
  · replace h := ifF hc1 h
    refine Y_iconst (v := (0 : Int32)) dX8_isSame_71 rfl ?_
    cases h
    exact Y_iret rfl (nar_bo (by decide)) dX8_isSame_72 hP ⟨rfl, rfl⟩
  · replace h := ifT hc1 h
    refine Y_aload_n (j := 0) dX8_isSame_15 rfl rfl ?_
    refine Z_getr dX8_isSame_16 w1_152 (lk_19 hP) fr_8_1 (lr_19_1 hP) ?_
    refine Y_iload_n (j := 1) dX8_isSame_19 rfl rfl ?_
    obtain ⟨hb3, h⟩ := okE h
    refine Y_iald dX8_isSame_20 (lk_21 hP) (ln_21 hP) hb3 ?_
    refine Y_aload_n (j := 2) dX8_isSame_21 rfl rfl ?_
    refine Z_getr dX8_isSame_22 w1_152 (lk_29 hP) fr_8_1 (lr_29_1 hP) ?_
    refine Y_iload_n (j := 1) dX8_isSame_25 rfl rfl ?_
    obtain ⟨hb4, h⟩ := okE h
    refine Y_iald dX8_isSame_26 (lk_31 hP) (ln_31 hP) hb4 ?_
    refine Y_icmp_ne (tgt := 71) dX8_isSame_27 (by decide) (fun hc2 => ?_) (fun hc2 => ?_)
    · replace h := ifF hc2 h
      refine Y_iconst (v := (0 : Int32)) dX8_isSame_71 rfl ?_
      cases h
      exact Y_iret rfl (nar_bo (by decide)) dX8_isSame_72 hP ⟨rfl, rfl⟩
    · replace h := ifT hc2 h
      refine Y_aload_n (j := 0) dX8_isSame_30 rfl rfl ?_
      refine Z_getr dX8_isSame_31 w1_154 (lk_19 hP) fr_8_2 (lr_19_2 hP) ?_
      refine Y_iload_n (j := 1) dX8_isSame_34 rfl rfl ?_
      obtain ⟨hb5, h⟩ := okE h
      refine Y_dald dX8_isSame_35 (lk_22 hP) (ln_22 hP) hb5 ?_
      refine Y_aload_n (j := 2) dX8_isSame_36 rfl rfl ?_
      refine Z_getr dX8_isSame_37 w1_154 (lk_29 hP) fr_8_2 (lr_29_2 hP) ?_
      refine Y_iload_n (j := 1) dX8_isSame_40 rfl rfl ?_
      obtain ⟨hb6, h⟩ := okE h
      refine Y_dald dX8_isSame_41 (lk_32 hP) (ln_32 hP) hb6 ?_
      refine Y_dcmp dX8_isSame_42 ?_
      refine Y_if_ne (tgt := 71) dX8_isSame_43 (by decide) (fun hc3 => ?_) (fun hc3 => ?_)
      · replace h := ifF hc3 h
        refine Y_iconst (v := (0 : Int32)) dX8_isSame_71 rfl ?_
        cases h
        exact Y_iret rfl (nar_bo (by decide)) dX8_isSame_72 hP ⟨rfl, rfl⟩
      · replace h := ifT hc3 h
        refine Y_aload_n (j := 0) dX8_isSame_46 rfl rfl ?_
        refine Z_getr dX8_isSame_47 w1_154 (lk_19 hP) fr_8_2 (lr_19_2 hP) ?_
        refine Y_iload_n (j := 1) dX8_isSame_50 rfl rfl ?_
        obtain ⟨hb7, h⟩ := okE h
        refine Y_dald dX8_isSame_51 (lk_22 hP) (ln_22 hP) hb7 ?_
        obtain ⟨y1, qy1, h⟩ := bindE h
        have cy1 := v_X4_isNegative hP qy1
        refine C_S1r dX8_isSame_52 w6_238 i_X4_isNegative (Nat.le_of_ble_eq_true rfl) (Nat.le_of_ble_eq_true rfl) (Nat.le_of_ble_eq_true rfl) (cy1) ?_
        have hPy1 := cy1.1.1
        refine Y_aload_n (j := 2) dX8_isSame_55 rfl rfl ?_
        refine Z_getr dX8_isSame_56 w1_154 (lk_29 hPy1) fr_8_2 (lr_29_2 hPy1) ?_
        refine Y_iload_n (j := 1) dX8_isSame_59 rfl rfl ?_
        obtain ⟨hb8, h⟩ := okE h
        refine Y_dald dX8_isSame_60 (lk_32 hPy1) (ln_32 hPy1) hb8 ?_
        obtain ⟨y2, qy2, h⟩ := bindE h
        have cy2 := v_X4_isNegative hPy1 qy2
        refine C_S1r dX8_isSame_61 w6_238 i_X4_isNegative (Nat.le_of_ble_eq_true rfl) (Nat.le_of_ble_eq_true rfl) (Nat.le_of_ble_eq_true rfl) (cy2) ?_
        have hPy2 := cy2.1.1
        refine Y_icmp_ne (tgt := 71) dX8_isSame_64 (by decide) (fun hc4 => ?_) (fun hc4 => ?_)
        · replace h := ifF hc4 h
          refine Y_iconst (v := (0 : Int32)) dX8_isSame_71 rfl ?_
          cases h
          exact Y_iret rfl (nar_bo (by decide)) dX8_isSame_72 hPy2 ⟨rfl, rfl⟩
        · replace h := ifT hc4 h
          refine Y_iconst (v := (1 : Int32)) dX8_isSame_67 rfl ?_
          refine Y_goto (tgt := 72) dX8_isSame_68 (by decide) ?_
          cases h
          exact Y_iret rfl (nar_bo (by decide)) dX8_isSame_72 hPy2 ⟨rfl, rfl⟩
theorem v_X8_isSame {x1 : Int32} {M z} (hP : Lay M) (h : d_X8_isSame x1 M = some z) : CC Lay k_X8_isSame [.ref 19, .int x1, .ref 29] M z.2 (Qv (some (.int z.1)) z.2) xF :=
  CC.ofVV (by decide) rfl (Nat.le_of_ble_eq_true rfl) (b_X8_isSame hP h)
noncomputable def d_X3_hasToldLike_55 (k19 : (Int32 × Int32) → Mem → Option (Int32 × Mem)) (x3 : Int32) (s0 : Int32) (M : Mem) : Option (Int32 × Mem) :=
  bnd ((x3 + (1 : Int32))) fun b1 =>
  k19 (s0, b1) M
theorem b_X3_hasToldLike_55 {k19 : (Int32 × Int32) → Mem → Option (Int32 × Mem)} {x3 : Int32} {s0 : Int32} {M z} (hk19 : ∀ (a : (Int32 × Int32)) (M : Mem) (z : Int32 × Mem), Lay M → k19 a M = some z → VV Lay k_X3_hasToldLike 19 [(0, .ref 18), (1, .ref 28), (2, .int a.1), (3, .int a.2)] [] M z.2 (Qv (some (.int z.1)) z.2) xF) (hP : Lay M) (h : d_X3_hasToldLike_55 k19 x3 s0 M = some z) : VV Lay k_X3_hasToldLike 55 [(0, .ref 18), (1, .ref 28), (3, .int x3)] [.int s0] M z.2 (Qv (some (.int z.1)) z.2) xF := by
  unfold d_X3_hasToldLike_55 at h
  refine Y_istore_n (lv1 := [(2, .int s0), (0, .ref 18), (1, .ref 28), (3, .int x3)]) dX3_hasToldLike_55 rfl (by decide) rfl ?_
  obtain ⟨b1, eb1, h⟩ := bndE h
  refine Y_iinc (j := 3) (v := b1) (lv1 := [(3, .int b1), (2, .int s0), (0, .ref 18), (1, .ref 28)]) dX3_hasToldLike_56 rfl eb1.symm (by decide) rfl ?_
  refine Y_goto (tgt := 19) dX3_hasToldLike_59 (by decide) ?_
  refine VV.sub [2, 3, 1, 0] rfl ?_
  exact hk19 _ _ _ hP h
noncomputable def d_X3_hasToldLike_54 (k19 : (Int32 × Int32) → Mem → Option (Int32 × Mem)) (x3 : Int32) (M : Mem) : Option (Int32 × Mem) :=
  d_X3_hasToldLike_55 k19 x3 (0 : Int32) M
theorem b_X3_hasToldLike_54 {k19 : (Int32 × Int32) → Mem → Option (Int32 × Mem)} {x3 : Int32} {M z} (hk19 : ∀ (a : (Int32 × Int32)) (M : Mem) (z : Int32 × Mem), Lay M → k19 a M = some z → VV Lay k_X3_hasToldLike 19 [(0, .ref 18), (1, .ref 28), (2, .int a.1), (3, .int a.2)] [] M z.2 (Qv (some (.int z.1)) z.2) xF) (hP : Lay M) (h : d_X3_hasToldLike_54 k19 x3 M = some z) : VV Lay k_X3_hasToldLike 54 [(0, .ref 18), (1, .ref 28), (3, .int x3)] [] M z.2 (Qv (some (.int z.1)) z.2) xF := by
  unfold d_X3_hasToldLike_54 at h
  refine Y_iconst (v := (0 : Int32)) dX3_hasToldLike_54 rfl ?_
  refine VV.sub [0, 1, 2] rfl ?_
  exact b_X3_hasToldLike_55 hk19 hP h
noncomputable def d_X3_hasToldLike_19b (k19 : (Int32 × Int32) → Mem → Option (Int32 × Mem)) (x2 : Int32) (x3 : Int32) (M : Mem) : Option (Int32 × Mem) :=
  if (mI M 18 11) ≤ x3 then (
    okk (isBo x2) <|
    some (x2, M))
  else (
    if x2 = 0 then (
      d_X3_hasToldLike_54 k19 x3 M)
    else (
      (d_X8_isSame ((528 : Int32) + x3) M).bind fun y1 =>
      if y1.1 = 0 then (
        d_X3_hasToldLike_54 k19 x3 y1.2)
      else (
        d_X3_hasToldLike_55 k19 x3 (1 : Int32) y1.2)))
theorem b_X3_hasToldLike_19b {k19 : (Int32 × Int32) → Mem → Option (Int32 × Mem)} {x2 : Int32} {x3 : Int32} {M z} (hk19 : ∀ (a : (Int32 × Int32)) (M : Mem) (z : Int32 × Mem), Lay M → k19 a M = some z → VV Lay k_X3_hasToldLike 19 [(0, .ref 18), (1, .ref 28), (2, .int a.1), (3, .int a.2)] [] M z.2 (Qv (some (.int z.1)) z.2) xF) (hP : Lay M) (h : d_X3_hasToldLike_19b k19 x2 x3 M = some z) : VV Lay k_X3_hasToldLike 19 [(0, .ref 18), (1, .ref 28), (2, .int x2), (3, .int x3)] [] M z.2 (Qv (some (.int z.1)) z.2) xF := by
  unfold d_X3_hasToldLike_19b at h
  refine Y_iload_n (j := 3) dX3_hasToldLike_19 rfl rfl ?_
  refine Y_aload_n (j := 0) dX3_hasToldLike_20 rfl rfl ?_
  refine Z_geti dX3_hasToldLike_21 w1_189 (lk_18 hP) fi_4_11 ?_
  refine Y_icmp_ge (tgt := 62) dX3_hasToldLike_24 (by decide) (fun hc1 => ?_) (fun hc1 => ?_)
  · replace h := ifT hc1 h
    refine Y_iload_n (j := 2) dX3_hasToldLike_62 rfl rfl ?_
    obtain ⟨hb1, h⟩ := okE h
    cases h
    exact Y_iret rfl (nar_bo hb1) dX3_hasToldLike_63 hP ⟨rfl, rfl⟩
  · replace h := ifF hc1 h
    refine Y_iload_n (j := 2) dX3_hasToldLike_27 rfl rfl ?_
    refine Y_if_eq (tgt := 54) dX3_hasToldLike_28 (by decide) (fun hc2 => ?_) (fun hc2 => ?_)
    · replace h := ifT hc2 h
      refine VV.sub [0, 1, 3] rfl ?_
      exact b_X3_hasToldLike_54 hk19 hP h
    · replace h := ifF hc2 h
      refine Y_aload_n (j := 0) dX3_hasToldLike_31 rfl rfl ?_
      refine Z_getr dX3_hasToldLike_32 w1_171 (lk_18 hP) fr_4_2 (lr_18_2 hP) ?_
      refine Y_sipush (v := (528 : Int32)) dX3_hasToldLike_35 rfl ?_
      refine Y_iload_n (j := 3) dX3_hasToldLike_38 rfl rfl ?_
      refine Y_iadd dX3_hasToldLike_39 ?_
      refine Y_aload_n (j := 1) dX3_hasToldLike_40 rfl rfl ?_
      refine Z_getr dX3_hasToldLike_41 w1_171 (lk_28 hP) fr_4_2 (lr_28_2 hP) ?_
      obtain ⟨y1, qy1, h⟩ := bindE h
      have cy1 := v_X8_isSame hP qy1
      refine C_V2r dX3_hasToldLike_44 w6_234 i_X8_isSame (lk_19 hP) ⟨Nat.le_of_ble_eq_true rfl, Nat.le_of_ble_eq_true rfl⟩ rfl (Nat.le_of_ble_eq_true rfl) (Nat.le_of_ble_eq_true rfl) (Nat.le_of_ble_eq_true rfl) (cy1) ?_
      have hPy1 := cy1.1.1
      refine Y_if_eq (tgt := 54) dX3_hasToldLike_47 (by decide) (fun hc3 => ?_) (fun hc3 => ?_)
      · replace h := ifT hc3 h
        refine VV.sub [0, 1, 3] rfl ?_
        exact b_X3_hasToldLike_54 hk19 hPy1 h
      · replace h := ifF hc3 h
        refine Y_iconst (v := (1 : Int32)) dX3_hasToldLike_50 rfl ?_
        refine Y_goto (tgt := 55) dX3_hasToldLike_51 (by decide) ?_
        refine VV.sub [0, 1, 3] rfl ?_
        exact b_X3_hasToldLike_55 hk19 hPy1 h
noncomputable def d_X3_hasToldLike_19 : Nat → (Int32 × Int32) → Mem → Option (Int32 × Mem) := lp fun k a M => d_X3_hasToldLike_19b k a.1 a.2 M
theorem b_X3_hasToldLike_19 (n : Nat) : ∀ (a : (Int32 × Int32)) (M : Mem) (z : Int32 × Mem), d_X3_hasToldLike_19 n a M = some z → Lay M → VV Lay k_X3_hasToldLike 19 [(0, .ref 18), (1, .ref 28), (2, .int a.1), (3, .int a.2)] [] M z.2 (Qv (some (.int z.1)) z.2) xF :=
  lp_ind (fun k hk a M z h hP => b_X3_hasToldLike_19b  (fun a M z hP h => hk a M z h hP) hP h) n
noncomputable def d_X3_hasToldLike_16 (s0 : Int32) (M : Mem) : Option (Int32 × Mem) :=
  d_X3_hasToldLike_19 fuel (s0, (0 : Int32)) M
theorem b_X3_hasToldLike_16 {s0 : Int32} {M z} (hP : Lay M) (h : d_X3_hasToldLike_16 s0 M = some z) : VV Lay k_X3_hasToldLike 16 [(0, .ref 18), (1, .ref 28)] [.int s0] M z.2 (Qv (some (.int z.1)) z.2) xF := by
  unfold d_X3_hasToldLike_16 at h
  refine Y_istore_n (lv1 := [(2, .int s0), (0, .ref 18), (1, .ref 28)]) dX3_hasToldLike_16 rfl (by decide) rfl ?_
  refine Y_iconst (v := (0 : Int32)) dX3_hasToldLike_17 rfl ?_
  refine Y_istore_n (lv1 := [(3, .int (0 : Int32)), (2, .int s0), (0, .ref 18), (1, .ref 28)]) dX3_hasToldLike_18 rfl (by decide) rfl ?_
  refine VV.sub [2, 3, 1, 0] rfl ?_
  exact b_X3_hasToldLike_19  fuel _ _ _ h hP
noncomputable def d_X3_hasToldLike (M : Mem) : Option (Int32 × Mem) :=
  if (mI M 18 11) = (mI M 28 11) then (
    d_X3_hasToldLike_16 (1 : Int32) M)
  else (
    d_X3_hasToldLike_16 (0 : Int32) M)
theorem b_X3_hasToldLike {M z} (hP : Lay M) (h : d_X3_hasToldLike M = some z) : VV Lay k_X3_hasToldLike 0 [(0, .ref 18), (1, .ref 28)] [] M z.2 (Qv (some (.int z.1)) z.2) xF := by
  unfold d_X3_hasToldLike at h
  refine Y_aload_n (j := 0) dX3_hasToldLike_0 rfl rfl ?_
  refine Z_geti dX3_hasToldLike_1 w1_189 (lk_18 hP) fi_4_11 ?_
  refine Y_aload_n (j := 1) dX3_hasToldLike_4 rfl rfl ?_
  refine Z_geti dX3_hasToldLike_5 w1_189 (lk_28 hP) fi_4_11 ?_
  refine Y_icmp_ne (tgt := 15) dX3_hasToldLike_8 (by decide) (fun hc1 => ?_) (fun hc1 => ?_)
  · replace h := ifF hc1 h
    refine Y_iconst (v := (0 : Int32)) dX3_hasToldLike_15 rfl ?_
    refine VV.sub [0, 1] rfl ?_
    exact b_X3_hasToldLike_16  hP h
  · replace h := ifT hc1 h
    refine Y_iconst (v := (1 : Int32)) dX3_hasToldLike_11 rfl ?_
    refine Y_goto (tgt := 16) dX3_hasToldLike_12 (by decide) ?_
    refine VV.sub [0, 1] rfl ?_
    exact b_X3_hasToldLike_16  hP h
theorem v_X3_hasToldLike {M z} (hP : Lay M) (h : d_X3_hasToldLike M = some z) : CC Lay k_X3_hasToldLike [.ref 18, .ref 28] M z.2 (Qv (some (.int z.1)) z.2) xF :=
  CC.ofVV (by decide) rfl (Nat.le_of_ble_eq_true rfl) (b_X3_hasToldLike hP h)
noncomputable def d_X3_hasObjectsLike_60 (k19 : (Int32 × Int32) → Mem → Option (Int32 × Mem)) (x3 : Int32) (s0 : Int32) (M : Mem) : Option (Int32 × Mem) :=
  bnd ((x3 + (1 : Int32))) fun b1 =>
  k19 (s0, b1) M
theorem b_X3_hasObjectsLike_60 {k19 : (Int32 × Int32) → Mem → Option (Int32 × Mem)} {x3 : Int32} {s0 : Int32} {M z} (hk19 : ∀ (a : (Int32 × Int32)) (M : Mem) (z : Int32 × Mem), Lay M → k19 a M = some z → VV Lay k_X3_hasObjectsLike 19 [(0, .ref 18), (1, .ref 28), (2, .int a.1), (3, .int a.2)] [] M z.2 (Qv (some (.int z.1)) z.2) xF) (hP : Lay M) (h : d_X3_hasObjectsLike_60 k19 x3 s0 M = some z) : VV Lay k_X3_hasObjectsLike 60 [(0, .ref 18), (1, .ref 28), (3, .int x3)] [.int s0] M z.2 (Qv (some (.int z.1)) z.2) xF := by
  unfold d_X3_hasObjectsLike_60 at h
  refine Y_istore_n (lv1 := [(2, .int s0), (0, .ref 18), (1, .ref 28), (3, .int x3)]) dX3_hasObjectsLike_60 rfl (by decide) rfl ?_
  obtain ⟨b1, eb1, h⟩ := bndE h
  refine Y_iinc (j := 3) (v := b1) (lv1 := [(3, .int b1), (2, .int s0), (0, .ref 18), (1, .ref 28)]) dX3_hasObjectsLike_61 rfl eb1.symm (by decide) rfl ?_
  refine Y_goto (tgt := 19) dX3_hasObjectsLike_64 (by decide) ?_
  refine VV.sub [2, 3, 1, 0] rfl ?_
  exact hk19 _ _ _ hP h
noncomputable def d_X3_hasObjectsLike_59 (k19 : (Int32 × Int32) → Mem → Option (Int32 × Mem)) (x3 : Int32) (M : Mem) : Option (Int32 × Mem) :=
  d_X3_hasObjectsLike_60 k19 x3 (0 : Int32) M
theorem b_X3_hasObjectsLike_59 {k19 : (Int32 × Int32) → Mem → Option (Int32 × Mem)} {x3 : Int32} {M z} (hk19 : ∀ (a : (Int32 × Int32)) (M : Mem) (z : Int32 × Mem), Lay M → k19 a M = some z → VV Lay k_X3_hasObjectsLike 19 [(0, .ref 18), (1, .ref 28), (2, .int a.1), (3, .int a.2)] [] M z.2 (Qv (some (.int z.1)) z.2) xF) (hP : Lay M) (h : d_X3_hasObjectsLike_59 k19 x3 M = some z) : VV Lay k_X3_hasObjectsLike 59 [(0, .ref 18), (1, .ref 28), (3, .int x3)] [] M z.2 (Qv (some (.int z.1)) z.2) xF := by
  unfold d_X3_hasObjectsLike_59 at h
  refine Y_iconst (v := (0 : Int32)) dX3_hasObjectsLike_59 rfl ?_
  refine VV.sub [0, 1, 2] rfl ?_
  exact b_X3_hasObjectsLike_60 hk19 hP h
noncomputable def d_X3_hasObjectsLike_19b (k19 : (Int32 × Int32) → Mem → Option (Int32 × Mem)) (x2 : Int32) (x3 : Int32) (M : Mem) : Option (Int32 × Mem) :=
  if (mI M 18 10) ≤ x3 then (
    okk (isBo x2) <|
    some (x2, M))
  else (
    if x2 = 0 then (
      d_X3_hasObjectsLike_59 k19 x3 M)
    else (
      okk (vp_in x3 60) <|
      okk (vp_in x3 60) <|
      if (mI M 27 x3.toNatClampNeg) = (mI M 37 x3.toNatClampNeg) then (
        (d_X3_hasFieldsLike x3 M).bind fun y1 =>
        if y1.1 = 0 then (
          d_X3_hasObjectsLike_59 k19 x3 y1.2)
        else (
          d_X3_hasObjectsLike_60 k19 x3 (1 : Int32) y1.2))
      else (
        d_X3_hasObjectsLike_59 k19 x3 M)))
theorem b_X3_hasObjectsLike_19b {k19 : (Int32 × Int32) → Mem → Option (Int32 × Mem)} {x2 : Int32} {x3 : Int32} {M z} (hk19 : ∀ (a : (Int32 × Int32)) (M : Mem) (z : Int32 × Mem), Lay M → k19 a M = some z → VV Lay k_X3_hasObjectsLike 19 [(0, .ref 18), (1, .ref 28), (2, .int a.1), (3, .int a.2)] [] M z.2 (Qv (some (.int z.1)) z.2) xF) (hP : Lay M) (h : d_X3_hasObjectsLike_19b k19 x2 x3 M = some z) : VV Lay k_X3_hasObjectsLike 19 [(0, .ref 18), (1, .ref 28), (2, .int x2), (3, .int x3)] [] M z.2 (Qv (some (.int z.1)) z.2) xF := by
  unfold d_X3_hasObjectsLike_19b at h
  refine Y_iload_n (j := 3) dX3_hasObjectsLike_19 rfl rfl ?_
  refine Y_aload_n (j := 0) dX3_hasObjectsLike_20 rfl rfl ?_
  refine Z_geti dX3_hasObjectsLike_21 w1_187 (lk_18 hP) fi_4_10 ?_
  refine Y_icmp_ge (tgt := 67) dX3_hasObjectsLike_24 (by decide) (fun hc1 => ?_) (fun hc1 => ?_)
  · replace h := ifT hc1 h
    refine Y_iload_n (j := 2) dX3_hasObjectsLike_67 rfl rfl ?_
    obtain ⟨hb1, h⟩ := okE h
    cases h
    exact Y_iret rfl (nar_bo hb1) dX3_hasObjectsLike_68 hP ⟨rfl, rfl⟩
  · replace h := ifF hc1 h
    refine Y_iload_n (j := 2) dX3_hasObjectsLike_27 rfl rfl ?_
    refine Y_if_eq (tgt := 59) dX3_hasObjectsLike_28 (by decide) (fun hc2 => ?_) (fun hc2 => ?_)
    · replace h := ifT hc2 h
      refine VV.sub [0, 1, 3] rfl ?_
      exact b_X3_hasObjectsLike_59 hk19 hP h
    · replace h := ifF hc2 h
      refine Y_aload_n (j := 0) dX3_hasObjectsLike_31 rfl rfl ?_
      refine Z_getr dX3_hasObjectsLike_32 w1_177 (lk_18 hP) fr_4_6 (lr_18_6 hP) ?_
      refine Y_iload_n (j := 3) dX3_hasObjectsLike_35 rfl rfl ?_
      obtain ⟨hb2, h⟩ := okE h
      refine Y_iald dX3_hasObjectsLike_36 (lk_27 hP) (ln_27 hP) hb2 ?_
      refine Y_aload_n (j := 1) dX3_hasObjectsLike_37 rfl rfl ?_
      refine Z_getr dX3_hasObjectsLike_38 w1_177 (lk_28 hP) fr_4_6 (lr_28_6 hP) ?_
      refine Y_iload_n (j := 3) dX3_hasObjectsLike_41 rfl rfl ?_
      obtain ⟨hb3, h⟩ := okE h
      refine Y_iald dX3_hasObjectsLike_42 (lk_37 hP) (ln_37 hP) hb3 ?_
      refine Y_icmp_ne (tgt := 59) dX3_hasObjectsLike_43 (by decide) (fun hc3 => ?_) (fun hc3 => ?_)
      · replace h := ifF hc3 h
        refine VV.sub [0, 1, 3] rfl ?_
        exact b_X3_hasObjectsLike_59 hk19 hP h
      · replace h := ifT hc3 h
        refine Y_aload_n (j := 0) dX3_hasObjectsLike_46 rfl rfl ?_
        refine Y_iload_n (j := 3) dX3_hasObjectsLike_47 rfl rfl ?_
        refine Y_aload_n (j := 1) dX3_hasObjectsLike_48 rfl rfl ?_
        obtain ⟨y1, qy1, h⟩ := bindE h
        have cy1 := v_X3_hasFieldsLike hP qy1
        refine C_V2r dX3_hasObjectsLike_49 w7_9 i_X3_hasFieldsLike (lk_18 hP) ⟨Nat.le_of_ble_eq_true rfl, Nat.le_of_ble_eq_true rfl⟩ rfl (Nat.le_of_ble_eq_true rfl) (Nat.le_of_ble_eq_true rfl) (Nat.le_of_ble_eq_true rfl) (cy1) ?_
        have hPy1 := cy1.1.1
        refine Y_if_eq (tgt := 59) dX3_hasObjectsLike_52 (by decide) (fun hc4 => ?_) (fun hc4 => ?_)
        · replace h := ifT hc4 h
          refine VV.sub [0, 1, 3] rfl ?_
          exact b_X3_hasObjectsLike_59 hk19 hPy1 h
        · replace h := ifF hc4 h
          refine Y_iconst (v := (1 : Int32)) dX3_hasObjectsLike_55 rfl ?_
          refine Y_goto (tgt := 60) dX3_hasObjectsLike_56 (by decide) ?_
          refine VV.sub [0, 1, 3] rfl ?_
          exact b_X3_hasObjectsLike_60 hk19 hPy1 h
noncomputable def d_X3_hasObjectsLike_19 : Nat → (Int32 × Int32) → Mem → Option (Int32 × Mem) := lp fun k a M => d_X3_hasObjectsLike_19b k a.1 a.2 M
theorem b_X3_hasObjectsLike_19 (n : Nat) : ∀ (a : (Int32 × Int32)) (M : Mem) (z : Int32 × Mem), d_X3_hasObjectsLike_19 n a M = some z → Lay M → VV Lay k_X3_hasObjectsLike 19 [(0, .ref 18), (1, .ref 28), (2, .int a.1), (3, .int a.2)] [] M z.2 (Qv (some (.int z.1)) z.2) xF :=
  lp_ind (fun k hk a M z h hP => b_X3_hasObjectsLike_19b  (fun a M z hP h => hk a M z h hP) hP h) n
noncomputable def d_X3_hasObjectsLike_16 (s0 : Int32) (M : Mem) : Option (Int32 × Mem) :=
  d_X3_hasObjectsLike_19 fuel (s0, (0 : Int32)) M
theorem b_X3_hasObjectsLike_16 {s0 : Int32} {M z} (hP : Lay M) (h : d_X3_hasObjectsLike_16 s0 M = some z) : VV Lay k_X3_hasObjectsLike 16 [(0, .ref 18), (1, .ref 28)] [.int s0] M z.2 (Qv (some (.int z.1)) z.2) xF := by
  unfold d_X3_hasObjectsLike_16 at h
  refine Y_istore_n (lv1 := [(2, .int s0), (0, .ref 18), (1, .ref 28)]) dX3_hasObjectsLike_16 rfl (by decide) rfl ?_
  refine Y_iconst (v := (0 : Int32)) dX3_hasObjectsLike_17 rfl ?_
  refine Y_istore_n (lv1 := [(3, .int (0 : Int32)), (2, .int s0), (0, .ref 18), (1, .ref 28)]) dX3_hasObjectsLike_18 rfl (by decide) rfl ?_
  refine VV.sub [2, 3, 1, 0] rfl ?_
  exact b_X3_hasObjectsLike_19  fuel _ _ _ h hP
noncomputable def d_X3_hasObjectsLike (M : Mem) : Option (Int32 × Mem) :=
  if (mI M 18 10) = (mI M 28 10) then (
    d_X3_hasObjectsLike_16 (1 : Int32) M)
  else (
    d_X3_hasObjectsLike_16 (0 : Int32) M)
theorem b_X3_hasObjectsLike {M z} (hP : Lay M) (h : d_X3_hasObjectsLike M = some z) : VV Lay k_X3_hasObjectsLike 0 [(0, .ref 18), (1, .ref 28)] [] M z.2 (Qv (some (.int z.1)) z.2) xF := by
  unfold d_X3_hasObjectsLike at h
  refine Y_aload_n (j := 0) dX3_hasObjectsLike_0 rfl rfl ?_
  refine Z_geti dX3_hasObjectsLike_1 w1_187 (lk_18 hP) fi_4_10 ?_
  refine Y_aload_n (j := 1) dX3_hasObjectsLike_4 rfl rfl ?_
  refine Z_geti dX3_hasObjectsLike_5 w1_187 (lk_28 hP) fi_4_10 ?_
  refine Y_icmp_ne (tgt := 15) dX3_hasObjectsLike_8 (by decide) (fun hc1 => ?_) (fun hc1 => ?_)
  · replace h := ifF hc1 h
    refine Y_iconst (v := (0 : Int32)) dX3_hasObjectsLike_15 rfl ?_
    refine VV.sub [0, 1] rfl ?_
    exact b_X3_hasObjectsLike_16  hP h
  · replace h := ifT hc1 h
    refine Y_iconst (v := (1 : Int32)) dX3_hasObjectsLike_11 rfl ?_
    refine Y_goto (tgt := 16) dX3_hasObjectsLike_12 (by decide) ?_
    refine VV.sub [0, 1] rfl ?_
    exact b_X3_hasObjectsLike_16  hP h
theorem v_X3_hasObjectsLike {M z} (hP : Lay M) (h : d_X3_hasObjectsLike M = some z) : CC Lay k_X3_hasObjectsLike [.ref 18, .ref 28] M z.2 (Qv (some (.int z.1)) z.2) xF :=
  CC.ofVV (by decide) rfl (Nat.le_of_ble_eq_true rfl) (b_X3_hasObjectsLike hP h)
end VCR
