/-! ===== what the methods reckon (printed by a program) ===== -/
section VCR
noncomputable def d_X8_combine (o : Nat) (x1 : Int32) (x2 : Int32) (x3 : Int32) (M : Mem) : Option (Unit × Mem) :=
  if x1 = (61 : Int32) then (
    (d_X8_areEqual o x2 x3 M).bind fun y8 =>
    if y8.1 = 0 then (
      (d_X8_put o x2 (105 : Int32) (0 : Int32) y8.2).bind fun y9 =>
      some ((), y9.2))
    else (
      (d_X8_put o x2 (105 : Int32) (1 : Int32) y8.2).bind fun y10 =>
      some ((), y10.2)))
  else (
    (d_X8_givesInteger o x1 x2 x3 M).bind fun y1 =>
    if y1.1 = 0 then (
      if x1 = (60 : Int32) then (
        (d_X8_isLess o x2 x3 y1.2).bind fun y3 =>
        if y3.1 = 0 then (
          (d_X8_put o x2 (105 : Int32) (0 : Int32) y3.2).bind fun y4 =>
          some ((), y4.2))
        else (
          (d_X8_put o x2 (105 : Int32) (1 : Int32) y3.2).bind fun y5 =>
          some ((), y5.2)))
      else (
        (d_X8_combineReals o x1 x2 x3 y1.2).bind fun y2 =>
        some ((), y2.2)))
    else (
      okk (vp_in x2 549) <|
      okk (vp_in x3 549) <|
      (d_X4_ofIntegers x1 ((mI y1.2 (o + 3) x2.toNatClampNeg).toInt64) ((mI y1.2 (o + 3) x3.toNatClampNeg).toInt64) y1.2).bind fun y6 =>
      (d_X8_put o x2 (105 : Int32) (y6.1.toInt32) y6.2).bind fun y7 =>
      some ((), y7.2)))
theorem b_X8_combine {o : Nat} {x1 : Int32} {x2 : Int32} {x3 : Int32} {M z} (ho : o = 18 ∨ o = 28) (hP : Lay M) (h : d_X8_combine o x1 x2 x3 M = some z) : VV Lay k_X8_combine 0 [(0, .ref (o + 1)), (1, .int x1), (2, .int x2), (3, .int x3)] [] M z.2 (Qv (none) z.2) xF := by
  unfold d_X8_combine at h
  refine Y_iload_n (pc := 0) (j := 1) dX8_combine_0 rfl rfl ?_
  refine Y_bipush (pc := 1) (v := (61 : Int32)) dX8_combine_1 rfl ?_
  refine Y_icmp_ne (pc := 3) (tgt := 30) dX8_combine_3 (by decide) (fun hc1 => ?_) (fun hc1 => ?_)
  · replace h := ifF hc1 h
    refine Y_aload_n (pc := 30) (j := 0) dX8_combine_30 rfl rfl ?_
    refine Y_iload_n (pc := 31) (j := 1) dX8_combine_31 rfl rfl ?_
    refine Y_iload_n (pc := 32) (j := 2) dX8_combine_32 rfl rfl ?_
    refine Y_iload_n (pc := 33) (j := 3) dX8_combine_33 rfl rfl ?_
    obtain ⟨y1, qy1, h⟩ := bindE h
    have cy1 := v_X8_givesInteger ho hP qy1
    refine C_V3r (pc := 34) (k' := k_X8_givesInteger) dX8_combine_34 w6_12 i_X8_givesInteger (lo_1 hP ho) ⟨Nat.le_of_ble_eq_true rfl, Nat.le_of_ble_eq_true rfl⟩ rfl (Nat.le_of_ble_eq_true rfl) (Nat.le_of_ble_eq_true rfl) (Nat.le_of_ble_eq_true rfl) (cy1) ?_
    have hPy1 := cy1.1.1
    refine Y_if_eq (pc := 37) (tgt := 69) dX8_combine_37 (by decide) (fun hc2 => ?_) (fun hc2 => ?_)
    · replace h := ifT hc2 h
      refine Y_iload_n (pc := 69) (j := 1) dX8_combine_69 rfl rfl ?_
      refine Y_bipush (pc := 70) (v := (60 : Int32)) dX8_combine_70 rfl ?_
      refine Y_icmp_ne (pc := 72) (tgt := 99) dX8_combine_72 (by decide) (fun hc3 => ?_) (fun hc3 => ?_)
      · replace h := ifF hc3 h
        refine Y_aload_n (pc := 99) (j := 0) dX8_combine_99 rfl rfl ?_
        refine Y_iload_n (pc := 100) (j := 1) dX8_combine_100 rfl rfl ?_
        refine Y_iload_n (pc := 101) (j := 2) dX8_combine_101 rfl rfl ?_
        refine Y_iload_n (pc := 102) (j := 3) dX8_combine_102 rfl rfl ?_
        obtain ⟨y2, qy2, h⟩ := bindE h
        have cy2 := v_X8_combineReals ho hPy1 qy2
        refine C_V3o (pc := 103) (k' := k_X8_combineReals) dX8_combine_103 w6_29 i_X8_combineReals (lo_1 hPy1 ho) ⟨Nat.le_of_ble_eq_true rfl, Nat.le_of_ble_eq_true rfl⟩ rfl (Nat.le_of_ble_eq_true rfl) (Nat.le_of_ble_eq_true rfl) (Nat.le_of_ble_eq_true rfl) (cy2) ?_
        have hPy2 := cy2.1.1
        cases h
        exact Y_vret (pc := 106) rfl dX8_combine_106 hPy2 ⟨rfl, rfl⟩
      · replace h := ifT hc3 h
        refine Y_aload_n (pc := 75) (j := 0) dX8_combine_75 rfl rfl ?_
        refine Y_iload_n (pc := 76) (j := 2) dX8_combine_76 rfl rfl ?_
        refine Y_bipush (pc := 77) (v := (105 : Int32)) dX8_combine_77 rfl ?_
        refine Y_aload_n (pc := 79) (j := 0) dX8_combine_79 rfl rfl ?_
        refine Y_iload_n (pc := 80) (j := 2) dX8_combine_80 rfl rfl ?_
        refine Y_iload_n (pc := 81) (j := 3) dX8_combine_81 rfl rfl ?_
        obtain ⟨y3, qy3, h⟩ := bindE h
        have cy3 := v_X8_isLess ho hPy1 qy3
        refine C_V2r (pc := 82) (k' := k_X8_isLess) dX8_combine_82 w6_25 i_X8_isLess (lo_1 hPy1 ho) ⟨Nat.le_of_ble_eq_true rfl, Nat.le_of_ble_eq_true rfl⟩ rfl (Nat.le_of_ble_eq_true rfl) (Nat.le_of_ble_eq_true rfl) (Nat.le_of_ble_eq_true rfl) (cy3) ?_
        have hPy3 := cy3.1.1
        refine Y_if_eq (pc := 85) (tgt := 92) dX8_combine_85 (by decide) (fun hc4 => ?_) (fun hc4 => ?_)
        · replace h := ifT hc4 h
          refine Y_iconst (pc := 92) (v := (0 : Int32)) dX8_combine_92 rfl ?_
          obtain ⟨y4, qy4, h⟩ := bindE h
          have cy4 := v_X8_put ho hPy3 qy4
          refine C_V3o (pc := 93) (k' := k_X8_put) dX8_combine_93 w5_238 i_X8_put (lo_1 hPy3 ho) ⟨Nat.le_of_ble_eq_true rfl, Nat.le_of_ble_eq_true rfl⟩ rfl (Nat.le_of_ble_eq_true rfl) (Nat.le_of_ble_eq_true rfl) (Nat.le_of_ble_eq_true rfl) (cy4) ?_
          have hPy4 := cy4.1.1
          refine Y_goto (pc := 96) (tgt := 106) dX8_combine_96 (by decide) ?_
          cases h
          exact Y_vret (pc := 106) rfl dX8_combine_106 hPy4 ⟨rfl, rfl⟩
        · replace h := ifF hc4 h
          refine Y_iconst (pc := 88) (v := (1 : Int32)) dX8_combine_88 rfl ?_
          refine Y_goto (pc := 89) (tgt := 93) dX8_combine_89 (by decide) ?_
          obtain ⟨y5, qy5, h⟩ := bindE h
          have cy5 := v_X8_put ho hPy3 qy5
          refine C_V3o (pc := 93) (k' := k_X8_put) dX8_combine_93 w5_238 i_X8_put (lo_1 hPy3 ho) ⟨Nat.le_of_ble_eq_true rfl, Nat.le_of_ble_eq_true rfl⟩ rfl (Nat.le_of_ble_eq_true rfl) (Nat.le_of_ble_eq_true rfl) (Nat.le_of_ble_eq_true rfl) (cy5) ?_
          have hPy5 := cy5.1.1
          refine Y_goto (pc := 96) (tgt := 106) dX8_combine_96 (by decide) ?_
          cases h
          exact Y_vret (pc := 106) rfl dX8_combine_106 hPy5 ⟨rfl, rfl⟩
    · replace h := ifF hc2 h
      refine Y_aload_n (pc := 40) (j := 0) dX8_combine_40 rfl rfl ?_
      refine Y_iload_n (pc := 41) (j := 2) dX8_combine_41 rfl rfl ?_
      refine Y_bipush (pc := 42) (v := (105 : Int32)) dX8_combine_42 rfl ?_
      refine Y_iload_n (pc := 44) (j := 1) dX8_combine_44 rfl rfl ?_
      refine Y_aload_n (pc := 45) (j := 0) dX8_combine_45 rfl rfl ?_
      refine Z_getr (pc := 46) dX8_combine_46 w1_152 (lo_1 hPy1 ho) fr_8_1 (lor_1_1 hPy1 ho) ?_
      refine Y_iload_n (pc := 49) (j := 2) dX8_combine_49 rfl rfl ?_
      obtain ⟨hb1, h⟩ := okE h
      refine Y_iald (pc := 50) dX8_combine_50 (lo_3 hPy1 ho) (lon_3 hPy1 ho) hb1 ?_
      refine Y_i2l (pc := 51) dX8_combine_51 ?_
      refine Y_aload_n (pc := 52) (j := 0) dX8_combine_52 rfl rfl ?_
      refine Z_getr (pc := 53) dX8_combine_53 w1_152 (lo_1 hPy1 ho) fr_8_1 (lor_1_1 hPy1 ho) ?_
      refine Y_iload_n (pc := 56) (j := 3) dX8_combine_56 rfl rfl ?_
      obtain ⟨hb2, h⟩ := okE h
      refine Y_iald (pc := 57) dX8_combine_57 (lo_3 hPy1 ho) (lon_3 hPy1 ho) hb2 ?_
      refine Y_i2l (pc := 58) dX8_combine_58 ?_
      obtain ⟨y6, qy6, h⟩ := bindE h
      have cy6 := v_X4_ofIntegers hPy1 qy6
      refine C_S3r (pc := 59) (k' := k_X4_ofIntegers) dX8_combine_59 w6_17 i_X4_ofIntegers (Nat.le_of_ble_eq_true rfl) (Nat.le_of_ble_eq_true rfl) (Nat.le_of_ble_eq_true rfl) (cy6) ?_
      have hPy6 := cy6.1.1
      refine Y_l2i (pc := 62) dX8_combine_62 ?_
      obtain ⟨y7, qy7, h⟩ := bindE h
      have cy7 := v_X8_put ho hPy6 qy7
      refine C_V3o (pc := 63) (k' := k_X8_put) dX8_combine_63 w5_238 i_X8_put (lo_1 hPy6 ho) ⟨Nat.le_of_ble_eq_true rfl, Nat.le_of_ble_eq_true rfl⟩ rfl (Nat.le_of_ble_eq_true rfl) (Nat.le_of_ble_eq_true rfl) (Nat.le_of_ble_eq_true rfl) (cy7) ?_
      have hPy7 := cy7.1.1
      refine Y_goto (pc := 66) (tgt := 106) dX8_combine_66 (by decide) ?_
      cases h
      exact Y_vret (pc := 106) rfl dX8_combine_106 hPy7 ⟨rfl, rfl⟩
  · replace h := ifT hc1 h
    refine Y_aload_n (pc := 6) (j := 0) dX8_combine_6 rfl rfl ?_
    refine Y_iload_n (pc := 7) (j := 2) dX8_combine_7 rfl rfl ?_
    refine Y_bipush (pc := 8) (v := (105 : Int32)) dX8_combine_8 rfl ?_
    refine Y_aload_n (pc := 10) (j := 0) dX8_combine_10 rfl rfl ?_
    refine Y_iload_n (pc := 11) (j := 2) dX8_combine_11 rfl rfl ?_
    refine Y_iload_n (pc := 12) (j := 3) dX8_combine_12 rfl rfl ?_
    obtain ⟨y8, qy8, h⟩ := bindE h
    have cy8 := v_X8_areEqual ho hP qy8
    refine C_V2r (pc := 13) (k' := k_X8_areEqual) dX8_combine_13 w6_3 i_X8_areEqual (lo_1 hP ho) ⟨Nat.le_of_ble_eq_true rfl, Nat.le_of_ble_eq_true rfl⟩ rfl (Nat.le_of_ble_eq_true rfl) (Nat.le_of_ble_eq_true rfl) (Nat.le_of_ble_eq_true rfl) (cy8) ?_
    have hPy8 := cy8.1.1
    refine Y_if_eq (pc := 16) (tgt := 23) dX8_combine_16 (by decide) (fun hc5 => ?_) (fun hc5 => ?_)
    · replace h := ifT hc5 h
      refine Y_iconst (pc := 23) (v := (0 : Int32)) dX8_combine_23 rfl ?_
      obtain ⟨y9, qy9, h⟩ := bindE h
      have cy9 := v_X8_put ho hPy8 qy9
      refine C_V3o (pc := 24) (k' := k_X8_put) dX8_combine_24 w5_238 i_X8_put (lo_1 hPy8 ho) ⟨Nat.le_of_ble_eq_true rfl, Nat.le_of_ble_eq_true rfl⟩ rfl (Nat.le_of_ble_eq_true rfl) (Nat.le_of_ble_eq_true rfl) (Nat.le_of_ble_eq_true rfl) (cy9) ?_
      have hPy9 := cy9.1.1
      refine Y_goto (pc := 27) (tgt := 106) dX8_combine_27 (by decide) ?_
      cases h
      exact Y_vret (pc := 106) rfl dX8_combine_106 hPy9 ⟨rfl, rfl⟩
    · replace h := ifF hc5 h
      refine Y_iconst (pc := 19) (v := (1 : Int32)) dX8_combine_19 rfl ?_
      refine Y_goto (pc := 20) (tgt := 24) dX8_combine_20 (by decide) ?_
      obtain ⟨y10, qy10, h⟩ := bindE h
      have cy10 := v_X8_put ho hPy8 qy10
      refine C_V3o (pc := 24) (k' := k_X8_put) dX8_combine_24 w5_238 i_X8_put (lo_1 hPy8 ho) ⟨Nat.le_of_ble_eq_true rfl, Nat.le_of_ble_eq_true rfl⟩ rfl (Nat.le_of_ble_eq_true rfl) (Nat.le_of_ble_eq_true rfl) (Nat.le_of_ble_eq_true rfl) (cy10) ?_
      have hPy10 := cy10.1.1
      refine Y_goto (pc := 27) (tgt := 106) dX8_combine_27 (by decide) ?_
      cases h
      exact Y_vret (pc := 106) rfl dX8_combine_106 hPy10 ⟨rfl, rfl⟩
theorem v_X8_combine {o : Nat} {x1 : Int32} {x2 : Int32} {x3 : Int32} {M z} (ho : o = 18 ∨ o = 28) (hP : Lay M) (h : d_X8_combine o x1 x2 x3 M = some z) : CC Lay k_X8_combine [.ref (o + 1), .int x1, .int x2, .int x3] M z.2 (Qv (none) z.2) xF :=
  CC.ofVV (by decide) rfl (Nat.le_of_ble_eq_true rfl) (b_X8_combine ho hP h)
noncomputable def d_X3_useStack (o : Nat) (x1 : Int32) (x2 : Int32) (M : Mem) : Option (Unit × Mem) :=
  if x1 = (100 : Int32) then (
    (d_X3_take o M).bind fun y1 =>
    some ((), y1.2))
  else if x1 = (105 : Int32) then (
    (d_X3_pushPut o (105 : Int32) x2 M).bind fun y2 =>
    some ((), y2.2))
  else if x1 = (107 : Int32) then (
    okk (vp_in x2 8) <|
    (d_X3_pushPut o (105 : Int32) (mI M 8 x2.toNatClampNeg) M).bind fun y3 =>
    some ((), y3.2))
  else if x1 = (108 : Int32) then (
    (d_X11_localPlace ((mI M o 9) - (1 : Int32)) x2 M).bind fun y4 =>
    (d_X3_pushMoved o y4.1 y4.2).bind fun y5 =>
    some ((), y5.2))
  else if x1 = (115 : Int32) then (
    (d_X3_take o M).bind fun y6 =>
    (d_X11_localPlace ((mI y6.2 o 9) - (1 : Int32)) x2 y6.2).bind fun y7 =>
    (d_X8_move o y6.1 y7.1 y7.2).bind fun y8 =>
    some ((), y8.2))
  else if x1 = (116 : Int32) then (
    (d_X3_take o M).bind fun y9 =>
    (d_X3_tell o y9.1 y9.2).bind fun y10 =>
    some ((), y10.2))
  else if x1 = (117 : Int32) then (
    (d_X3_fromTop o (1 : Int32) M).bind fun y11 =>
    (d_X3_pushMoved o y11.1 y11.2).bind fun y12 =>
    some ((), y12.2))
  else if x1 = (119 : Int32) then (
    (d_X3_fromTop o (1 : Int32) M).bind fun y13 =>
    (d_X8_round o y13.1 y13.2).bind fun y14 =>
    some ((), y14.2))
  else (
    (d_X3_fromTop o (2 : Int32) M).bind fun y15 =>
    (d_X3_fromTop o (1 : Int32) y15.2).bind fun y16 =>
    (d_X8_combine o x1 y15.1 y16.1 y16.2).bind fun y17 =>
    (d_X3_take o y17.2).bind fun y18 =>
    some ((), y18.2))
theorem b_X3_useStack {o : Nat} {x1 : Int32} {x2 : Int32} {M z} (ho : o = 18 ∨ o = 28) (hP : Lay M) (h : d_X3_useStack o x1 x2 M = some z) : VV Lay k_X3_useStack 0 [(0, .ref o), (1, .int x1), (2, .int x2)] [] M z.2 (Qv (none) z.2) xF := by
  unfold d_X3_useStack at h
  refine Y_iload_n (pc := 0) (j := 1) dX3_useStack_0 rfl rfl ?_
  refine Y_table (pc := 1) dX3_useStack_1 [(100, 167), (101, 195), (102, 195), (103, 195), (104, 195), (105, 96), (106, 195), (107, 104), (108, 120), (109, 195), (110, 195), (111, 195), (112, 195), (113, 195), (114, 195), (115, 145), (116, 173), (117, 135), (118, 195), (119, 182)] 195 (by decide) (tab_ok (by decide +kernel)) (by decide) ?_ ?_
  · refine xs_cons ?_ <| xs_cons ?_ <| xs_cons ?_ <| xs_cons ?_ <| xs_cons ?_ <| xs_cons ?_ <| xs_cons ?_ <| xs_cons ?_ <| xs_cons ?_ <| xs_cons ?_ <| xs_cons ?_ <| xs_cons ?_ <| xs_cons ?_ <| xs_cons ?_ <| xs_cons ?_ <| xs_cons ?_ <| xs_cons ?_ <| xs_cons ?_ <| xs_cons ?_ <| xs_cons ?_ <| xs_nil
    · intro e9
      replace h := ifT (by rw [e9] <;> decide) h
      refine Y_aload_n (pc := 167) (j := 0) dX3_useStack_167 rfl rfl ?_
      obtain ⟨y1, qy1, h⟩ := bindE h
      have cy1 := v_X3_take ho hP qy1
      refine C_V0r (pc := 168) (k' := k_X3_take) dX3_useStack_168 w5_181 i_X3_take (lo_0 hP ho) ⟨Nat.le_of_ble_eq_true rfl, Nat.le_of_ble_eq_true rfl⟩ rfl (Nat.le_of_ble_eq_true rfl) (Nat.le_of_ble_eq_true rfl) (Nat.le_of_ble_eq_true rfl) (cy1) ?_
      have hPy1 := cy1.1.1
      refine Y_pop (pc := 171) dX3_useStack_171 rfl ?_
      cases h
      exact Y_vret (pc := 172) rfl dX3_useStack_172 hPy1 ⟨rfl, rfl⟩
    · intro e9
      replace h := ifF (by rw [e9] <;> decide) h
      replace h := ifF (by rw [e9] <;> decide) h
      replace h := ifF (by rw [e9] <;> decide) h
      replace h := ifF (by rw [e9] <;> decide) h
      replace h := ifF (by rw [e9] <;> decide) h
      replace h := ifF (by rw [e9] <;> decide) h
      replace h := ifF (by rw [e9] <;> decide) h
      replace h := ifF (by rw [e9] <;> decide) h
      refine Y_aload_n (pc := 195) (j := 0) dX3_useStack_195 rfl rfl ?_
      refine Z_getr (pc := 196) dX3_useStack_196 w1_171 (lo_0 hP ho) fr_4_2 (lor_0_2 hP ho) ?_
      refine Y_iload_n (pc := 199) (j := 1) dX3_useStack_199 rfl rfl ?_
      refine Y_aload_n (pc := 200) (j := 0) dX3_useStack_200 rfl rfl ?_
      refine Y_iconst (pc := 201) (v := (2 : Int32)) dX3_useStack_201 rfl ?_
      obtain ⟨y15, qy15, h⟩ := bindE h
      have cy15 := v_X3_fromTop ho hP qy15
      refine C_V1r (pc := 202) (k' := k_X3_fromTop) dX3_useStack_202 w5_106 i_X3_fromTop (lo_0 hP ho) ⟨Nat.le_of_ble_eq_true rfl, Nat.le_of_ble_eq_true rfl⟩ rfl (Nat.le_of_ble_eq_true rfl) (Nat.le_of_ble_eq_true rfl) (Nat.le_of_ble_eq_true rfl) (cy15) ?_
      have hPy15 := cy15.1.1
      refine Y_aload_n (pc := 205) (j := 0) dX3_useStack_205 rfl rfl ?_
      refine Y_iconst (pc := 206) (v := (1 : Int32)) dX3_useStack_206 rfl ?_
      obtain ⟨y16, qy16, h⟩ := bindE h
      have cy16 := v_X3_fromTop ho hPy15 qy16
      refine C_V1r (pc := 207) (k' := k_X3_fromTop) dX3_useStack_207 w5_106 i_X3_fromTop (lo_0 hPy15 ho) ⟨Nat.le_of_ble_eq_true rfl, Nat.le_of_ble_eq_true rfl⟩ rfl (Nat.le_of_ble_eq_true rfl) (Nat.le_of_ble_eq_true rfl) (Nat.le_of_ble_eq_true rfl) (cy16) ?_
      have hPy16 := cy16.1.1
      obtain ⟨y17, qy17, h⟩ := bindE h
      have cy17 := v_X8_combine ho hPy16 qy17
      refine C_V3o (pc := 210) (k' := k_X8_combine) dX3_useStack_210 w5_239 i_X8_combine (lo_1 hPy16 ho) ⟨Nat.le_of_ble_eq_true rfl, Nat.le_of_ble_eq_true rfl⟩ rfl (Nat.le_of_ble_eq_true rfl) (Nat.le_of_ble_eq_true rfl) (Nat.le_of_ble_eq_true rfl) (cy17) ?_
      have hPy17 := cy17.1.1
      refine Y_aload_n (pc := 213) (j := 0) dX3_useStack_213 rfl rfl ?_
      obtain ⟨y18, qy18, h⟩ := bindE h
      have cy18 := v_X3_take ho hPy17 qy18
      refine C_V0r (pc := 214) (k' := k_X3_take) dX3_useStack_214 w5_181 i_X3_take (lo_0 hPy17 ho) ⟨Nat.le_of_ble_eq_true rfl, Nat.le_of_ble_eq_true rfl⟩ rfl (Nat.le_of_ble_eq_true rfl) (Nat.le_of_ble_eq_true rfl) (Nat.le_of_ble_eq_true rfl) (cy18) ?_
      have hPy18 := cy18.1.1
      refine Y_pop (pc := 217) dX3_useStack_217 rfl ?_
      cases h
      exact Y_vret (pc := 218) rfl dX3_useStack_218 hPy18 ⟨rfl, rfl⟩
    · intro e9
      replace h := ifF (by rw [e9] <;> decide) h
      replace h := ifF (by rw [e9] <;> decide) h
      replace h := ifF (by rw [e9] <;> decide) h
      replace h := ifF (by rw [e9] <;> decide) h
      replace h := ifF (by rw [e9] <;> decide) h
      replace h := ifF (by rw [e9] <;> decide) h
      replace h := ifF (by rw [e9] <;> decide) h
      replace h := ifF (by rw [e9] <;> decide) h
      refine Y_aload_n (pc := 195) (j := 0) dX3_useStack_195 rfl rfl ?_
      refine Z_getr (pc := 196) dX3_useStack_196 w1_171 (lo_0 hP ho) fr_4_2 (lor_0_2 hP ho) ?_
      refine Y_iload_n (pc := 199) (j := 1) dX3_useStack_199 rfl rfl ?_
      refine Y_aload_n (pc := 200) (j := 0) dX3_useStack_200 rfl rfl ?_
      refine Y_iconst (pc := 201) (v := (2 : Int32)) dX3_useStack_201 rfl ?_
      obtain ⟨y15, qy15, h⟩ := bindE h
      have cy15 := v_X3_fromTop ho hP qy15
      refine C_V1r (pc := 202) (k' := k_X3_fromTop) dX3_useStack_202 w5_106 i_X3_fromTop (lo_0 hP ho) ⟨Nat.le_of_ble_eq_true rfl, Nat.le_of_ble_eq_true rfl⟩ rfl (Nat.le_of_ble_eq_true rfl) (Nat.le_of_ble_eq_true rfl) (Nat.le_of_ble_eq_true rfl) (cy15) ?_
      have hPy15 := cy15.1.1
      refine Y_aload_n (pc := 205) (j := 0) dX3_useStack_205 rfl rfl ?_
      refine Y_iconst (pc := 206) (v := (1 : Int32)) dX3_useStack_206 rfl ?_
      obtain ⟨y16, qy16, h⟩ := bindE h
      have cy16 := v_X3_fromTop ho hPy15 qy16
      refine C_V1r (pc := 207) (k' := k_X3_fromTop) dX3_useStack_207 w5_106 i_X3_fromTop (lo_0 hPy15 ho) ⟨Nat.le_of_ble_eq_true rfl, Nat.le_of_ble_eq_true rfl⟩ rfl (Nat.le_of_ble_eq_true rfl) (Nat.le_of_ble_eq_true rfl) (Nat.le_of_ble_eq_true rfl) (cy16) ?_
      have hPy16 := cy16.1.1
      obtain ⟨y17, qy17, h⟩ := bindE h
      have cy17 := v_X8_combine ho hPy16 qy17
      refine C_V3o (pc := 210) (k' := k_X8_combine) dX3_useStack_210 w5_239 i_X8_combine (lo_1 hPy16 ho) ⟨Nat.le_of_ble_eq_true rfl, Nat.le_of_ble_eq_true rfl⟩ rfl (Nat.le_of_ble_eq_true rfl) (Nat.le_of_ble_eq_true rfl) (Nat.le_of_ble_eq_true rfl) (cy17) ?_
      have hPy17 := cy17.1.1
      refine Y_aload_n (pc := 213) (j := 0) dX3_useStack_213 rfl rfl ?_
      obtain ⟨y18, qy18, h⟩ := bindE h
      have cy18 := v_X3_take ho hPy17 qy18
      refine C_V0r (pc := 214) (k' := k_X3_take) dX3_useStack_214 w5_181 i_X3_take (lo_0 hPy17 ho) ⟨Nat.le_of_ble_eq_true rfl, Nat.le_of_ble_eq_true rfl⟩ rfl (Nat.le_of_ble_eq_true rfl) (Nat.le_of_ble_eq_true rfl) (Nat.le_of_ble_eq_true rfl) (cy18) ?_
      have hPy18 := cy18.1.1
      refine Y_pop (pc := 217) dX3_useStack_217 rfl ?_
      cases h
      exact Y_vret (pc := 218) rfl dX3_useStack_218 hPy18 ⟨rfl, rfl⟩
    · intro e9
      replace h := ifF (by rw [e9] <;> decide) h
      replace h := ifF (by rw [e9] <;> decide) h
      replace h := ifF (by rw [e9] <;> decide) h
      replace h := ifF (by rw [e9] <;> decide) h
      replace h := ifF (by rw [e9] <;> decide) h
      replace h := ifF (by rw [e9] <;> decide) h
      replace h := ifF (by rw [e9] <;> decide) h
      replace h := ifF (by rw [e9] <;> decide) h
      refine Y_aload_n (pc := 195) (j := 0) dX3_useStack_195 rfl rfl ?_
      refine Z_getr (pc := 196) dX3_useStack_196 w1_171 (lo_0 hP ho) fr_4_2 (lor_0_2 hP ho) ?_
      refine Y_iload_n (pc := 199) (j := 1) dX3_useStack_199 rfl rfl ?_
      refine Y_aload_n (pc := 200) (j := 0) dX3_useStack_200 rfl rfl ?_
      refine Y_iconst (pc := 201) (v := (2 : Int32)) dX3_useStack_201 rfl ?_
      obtain ⟨y15, qy15, h⟩ := bindE h
      have cy15 := v_X3_fromTop ho hP qy15
      refine C_V1r (pc := 202) (k' := k_X3_fromTop) dX3_useStack_202 w5_106 i_X3_fromTop (lo_0 hP ho) ⟨Nat.le_of_ble_eq_true rfl, Nat.le_of_ble_eq_true rfl⟩ rfl (Nat.le_of_ble_eq_true rfl) (Nat.le_of_ble_eq_true rfl) (Nat.le_of_ble_eq_true rfl) (cy15) ?_
      have hPy15 := cy15.1.1
      refine Y_aload_n (pc := 205) (j := 0) dX3_useStack_205 rfl rfl ?_
      refine Y_iconst (pc := 206) (v := (1 : Int32)) dX3_useStack_206 rfl ?_
      obtain ⟨y16, qy16, h⟩ := bindE h
      have cy16 := v_X3_fromTop ho hPy15 qy16
      refine C_V1r (pc := 207) (k' := k_X3_fromTop) dX3_useStack_207 w5_106 i_X3_fromTop (lo_0 hPy15 ho) ⟨Nat.le_of_ble_eq_true rfl, Nat.le_of_ble_eq_true rfl⟩ rfl (Nat.le_of_ble_eq_true rfl) (Nat.le_of_ble_eq_true rfl) (Nat.le_of_ble_eq_true rfl) (cy16) ?_
      have hPy16 := cy16.1.1
      obtain ⟨y17, qy17, h⟩ := bindE h
      have cy17 := v_X8_combine ho hPy16 qy17
      refine C_V3o (pc := 210) (k' := k_X8_combine) dX3_useStack_210 w5_239 i_X8_combine (lo_1 hPy16 ho) ⟨Nat.le_of_ble_eq_true rfl, Nat.le_of_ble_eq_true rfl⟩ rfl (Nat.le_of_ble_eq_true rfl) (Nat.le_of_ble_eq_true rfl) (Nat.le_of_ble_eq_true rfl) (cy17) ?_
      have hPy17 := cy17.1.1
      refine Y_aload_n (pc := 213) (j := 0) dX3_useStack_213 rfl rfl ?_
      obtain ⟨y18, qy18, h⟩ := bindE h
      have cy18 := v_X3_take ho hPy17 qy18
      refine C_V0r (pc := 214) (k' := k_X3_take) dX3_useStack_214 w5_181 i_X3_take (lo_0 hPy17 ho) ⟨Nat.le_of_ble_eq_true rfl, Nat.le_of_ble_eq_true rfl⟩ rfl (Nat.le_of_ble_eq_true rfl) (Nat.le_of_ble_eq_true rfl) (Nat.le_of_ble_eq_true rfl) (cy18) ?_
      have hPy18 := cy18.1.1
      refine Y_pop (pc := 217) dX3_useStack_217 rfl ?_
      cases h
      exact Y_vret (pc := 218) rfl dX3_useStack_218 hPy18 ⟨rfl, rfl⟩
    · intro e9
      replace h := ifF (by rw [e9] <;> decide) h
      replace h := ifF (by rw [e9] <;> decide) h
      replace h := ifF (by rw [e9] <;> decide) h
      replace h := ifF (by rw [e9] <;> decide) h
      replace h := ifF (by rw [e9] <;> decide) h
      replace h := ifF (by rw [e9] <;> decide) h
      replace h := ifF (by rw [e9] <;> decide) h
      replace h := ifF (by rw [e9] <;> decide) h
      refine Y_aload_n (pc := 195) (j := 0) dX3_useStack_195 rfl rfl ?_
      refine Z_getr (pc := 196) dX3_useStack_196 w1_171 (lo_0 hP ho) fr_4_2 (lor_0_2 hP ho) ?_
      refine Y_iload_n (pc := 199) (j := 1) dX3_useStack_199 rfl rfl ?_
      refine Y_aload_n (pc := 200) (j := 0) dX3_useStack_200 rfl rfl ?_
      refine Y_iconst (pc := 201) (v := (2 : Int32)) dX3_useStack_201 rfl ?_
      obtain ⟨y15, qy15, h⟩ := bindE h
      have cy15 := v_X3_fromTop ho hP qy15
      refine C_V1r (pc := 202) (k' := k_X3_fromTop) dX3_useStack_202 w5_106 i_X3_fromTop (lo_0 hP ho) ⟨Nat.le_of_ble_eq_true rfl, Nat.le_of_ble_eq_true rfl⟩ rfl (Nat.le_of_ble_eq_true rfl) (Nat.le_of_ble_eq_true rfl) (Nat.le_of_ble_eq_true rfl) (cy15) ?_
      have hPy15 := cy15.1.1
      refine Y_aload_n (pc := 205) (j := 0) dX3_useStack_205 rfl rfl ?_
      refine Y_iconst (pc := 206) (v := (1 : Int32)) dX3_useStack_206 rfl ?_
      obtain ⟨y16, qy16, h⟩ := bindE h
      have cy16 := v_X3_fromTop ho hPy15 qy16
      refine C_V1r (pc := 207) (k' := k_X3_fromTop) dX3_useStack_207 w5_106 i_X3_fromTop (lo_0 hPy15 ho) ⟨Nat.le_of_ble_eq_true rfl, Nat.le_of_ble_eq_true rfl⟩ rfl (Nat.le_of_ble_eq_true rfl) (Nat.le_of_ble_eq_true rfl) (Nat.le_of_ble_eq_true rfl) (cy16) ?_
      have hPy16 := cy16.1.1
      obtain ⟨y17, qy17, h⟩ := bindE h
      have cy17 := v_X8_combine ho hPy16 qy17
      refine C_V3o (pc := 210) (k' := k_X8_combine) dX3_useStack_210 w5_239 i_X8_combine (lo_1 hPy16 ho) ⟨Nat.le_of_ble_eq_true rfl, Nat.le_of_ble_eq_true rfl⟩ rfl (Nat.le_of_ble_eq_true rfl) (Nat.le_of_ble_eq_true rfl) (Nat.le_of_ble_eq_true rfl) (cy17) ?_
      have hPy17 := cy17.1.1
      refine Y_aload_n (pc := 213) (j := 0) dX3_useStack_213 rfl rfl ?_
      obtain ⟨y18, qy18, h⟩ := bindE h
      have cy18 := v_X3_take ho hPy17 qy18
      refine C_V0r (pc := 214) (k' := k_X3_take) dX3_useStack_214 w5_181 i_X3_take (lo_0 hPy17 ho) ⟨Nat.le_of_ble_eq_true rfl, Nat.le_of_ble_eq_true rfl⟩ rfl (Nat.le_of_ble_eq_true rfl) (Nat.le_of_ble_eq_true rfl) (Nat.le_of_ble_eq_true rfl) (cy18) ?_
      have hPy18 := cy18.1.1
      refine Y_pop (pc := 217) dX3_useStack_217 rfl ?_
      cases h
      exact Y_vret (pc := 218) rfl dX3_useStack_218 hPy18 ⟨rfl, rfl⟩
    · intro e9
      replace h := ifF (by rw [e9] <;> decide) h
      replace h := ifT (by rw [e9] <;> decide) h
      refine Y_aload_n (pc := 96) (j := 0) dX3_useStack_96 rfl rfl ?_
      refine Y_bipush (pc := 97) (v := (105 : Int32)) dX3_useStack_97 rfl ?_
      refine Y_iload_n (pc := 99) (j := 2) dX3_useStack_99 rfl rfl ?_
      obtain ⟨y2, qy2, h⟩ := bindE h
      have cy2 := v_X3_pushPut ho hP qy2
      refine C_V2o (pc := 100) (k' := k_X3_pushPut) dX3_useStack_100 w5_169 i_X3_pushPut (lo_0 hP ho) ⟨Nat.le_of_ble_eq_true rfl, Nat.le_of_ble_eq_true rfl⟩ rfl (Nat.le_of_ble_eq_true rfl) (Nat.le_of_ble_eq_true rfl) (Nat.le_of_ble_eq_true rfl) (cy2) ?_
      have hPy2 := cy2.1.1
      cases h
      exact Y_vret (pc := 103) rfl dX3_useStack_103 hPy2 ⟨rfl, rfl⟩
    · intro e9
      replace h := ifF (by rw [e9] <;> decide) h
      replace h := ifF (by rw [e9] <;> decide) h
      replace h := ifF (by rw [e9] <;> decide) h
      replace h := ifF (by rw [e9] <;> decide) h
      replace h := ifF (by rw [e9] <;> decide) h
      replace h := ifF (by rw [e9] <;> decide) h
      replace h := ifF (by rw [e9] <;> decide) h
      replace h := ifF (by rw [e9] <;> decide) h
      refine Y_aload_n (pc := 195) (j := 0) dX3_useStack_195 rfl rfl ?_
      refine Z_getr (pc := 196) dX3_useStack_196 w1_171 (lo_0 hP ho) fr_4_2 (lor_0_2 hP ho) ?_
      refine Y_iload_n (pc := 199) (j := 1) dX3_useStack_199 rfl rfl ?_
      refine Y_aload_n (pc := 200) (j := 0) dX3_useStack_200 rfl rfl ?_
      refine Y_iconst (pc := 201) (v := (2 : Int32)) dX3_useStack_201 rfl ?_
      obtain ⟨y15, qy15, h⟩ := bindE h
      have cy15 := v_X3_fromTop ho hP qy15
      refine C_V1r (pc := 202) (k' := k_X3_fromTop) dX3_useStack_202 w5_106 i_X3_fromTop (lo_0 hP ho) ⟨Nat.le_of_ble_eq_true rfl, Nat.le_of_ble_eq_true rfl⟩ rfl (Nat.le_of_ble_eq_true rfl) (Nat.le_of_ble_eq_true rfl) (Nat.le_of_ble_eq_true rfl) (cy15) ?_
      have hPy15 := cy15.1.1
      refine Y_aload_n (pc := 205) (j := 0) dX3_useStack_205 rfl rfl ?_
      refine Y_iconst (pc := 206) (v := (1 : Int32)) dX3_useStack_206 rfl ?_
      obtain ⟨y16, qy16, h⟩ := bindE h
      have cy16 := v_X3_fromTop ho hPy15 qy16
      refine C_V1r (pc := 207) (k' := k_X3_fromTop) dX3_useStack_207 w5_106 i_X3_fromTop (lo_0 hPy15 ho) ⟨Nat.le_of_ble_eq_true rfl, Nat.le_of_ble_eq_true rfl⟩ rfl (Nat.le_of_ble_eq_true rfl) (Nat.le_of_ble_eq_true rfl) (Nat.le_of_ble_eq_true rfl) (cy16) ?_
      have hPy16 := cy16.1.1
      obtain ⟨y17, qy17, h⟩ := bindE h
      have cy17 := v_X8_combine ho hPy16 qy17
      refine C_V3o (pc := 210) (k' := k_X8_combine) dX3_useStack_210 w5_239 i_X8_combine (lo_1 hPy16 ho) ⟨Nat.le_of_ble_eq_true rfl, Nat.le_of_ble_eq_true rfl⟩ rfl (Nat.le_of_ble_eq_true rfl) (Nat.le_of_ble_eq_true rfl) (Nat.le_of_ble_eq_true rfl) (cy17) ?_
      have hPy17 := cy17.1.1
      refine Y_aload_n (pc := 213) (j := 0) dX3_useStack_213 rfl rfl ?_
      obtain ⟨y18, qy18, h⟩ := bindE h
      have cy18 := v_X3_take ho hPy17 qy18
      refine C_V0r (pc := 214) (k' := k_X3_take) dX3_useStack_214 w5_181 i_X3_take (lo_0 hPy17 ho) ⟨Nat.le_of_ble_eq_true rfl, Nat.le_of_ble_eq_true rfl⟩ rfl (Nat.le_of_ble_eq_true rfl) (Nat.le_of_ble_eq_true rfl) (Nat.le_of_ble_eq_true rfl) (cy18) ?_
      have hPy18 := cy18.1.1
      refine Y_pop (pc := 217) dX3_useStack_217 rfl ?_
      cases h
      exact Y_vret (pc := 218) rfl dX3_useStack_218 hPy18 ⟨rfl, rfl⟩
    · intro e9
      replace h := ifF (by rw [e9] <;> decide) h
      replace h := ifF (by rw [e9] <;> decide) h
      replace h := ifT (by rw [e9] <;> decide) h
      refine Y_aload_n (pc := 104) (j := 0) dX3_useStack_104 rfl rfl ?_
      refine Y_bipush (pc := 105) (v := (105 : Int32)) dX3_useStack_105 rfl ?_
      refine Y_aload_n (pc := 107) (j := 0) dX3_useStack_107 rfl rfl ?_
      refine Z_getr (pc := 108) dX3_useStack_108 w1_167 (lo_0 hP ho) fr_4_0 (lor_0_0 hP ho) ?_
      refine Z_getr (pc := 111) dX3_useStack_111 w1_71 (lk_2 hP) fr_5_5 (lr_2_5 hP) ?_
      refine Y_iload_n (pc := 114) (j := 2) dX3_useStack_114 rfl rfl ?_
      obtain ⟨hb1, h⟩ := okE h
      refine Y_iald (pc := 115) dX3_useStack_115 (lk_8 hP) (ln_8 hP) hb1 ?_
      obtain ⟨y3, qy3, h⟩ := bindE h
      have cy3 := v_X3_pushPut ho hP qy3
      refine C_V2o (pc := 116) (k' := k_X3_pushPut) dX3_useStack_116 w5_169 i_X3_pushPut (lo_0 hP ho) ⟨Nat.le_of_ble_eq_true rfl, Nat.le_of_ble_eq_true rfl⟩ rfl (Nat.le_of_ble_eq_true rfl) (Nat.le_of_ble_eq_true rfl) (Nat.le_of_ble_eq_true rfl) (cy3) ?_
      have hPy3 := cy3.1.1
      cases h
      exact Y_vret (pc := 119) rfl dX3_useStack_119 hPy3 ⟨rfl, rfl⟩
    · intro e9
      replace h := ifF (by rw [e9] <;> decide) h
      replace h := ifF (by rw [e9] <;> decide) h
      replace h := ifF (by rw [e9] <;> decide) h
      replace h := ifT (by rw [e9] <;> decide) h
      refine Y_aload_n (pc := 120) (j := 0) dX3_useStack_120 rfl rfl ?_
      refine Y_aload_n (pc := 121) (j := 0) dX3_useStack_121 rfl rfl ?_
      refine Z_geti (pc := 122) dX3_useStack_122 w1_184 (lo_0 hP ho) fi_4_9 ?_
      refine Y_iconst (pc := 125) (v := (1 : Int32)) dX3_useStack_125 rfl ?_
      refine Y_isub (pc := 126) dX3_useStack_126 ?_
      refine Y_iload_n (pc := 127) (j := 2) dX3_useStack_127 rfl rfl ?_
      obtain ⟨y4, qy4, h⟩ := bindE h
      have cy4 := v_X11_localPlace hP qy4
      refine C_N2r (pc := 128) (k' := k_X11_localPlace) dX3_useStack_128 nl_Machine_66 i_X11_localPlace (Nat.le_of_ble_eq_true rfl) (Nat.le_of_ble_eq_true rfl) (Nat.le_of_ble_eq_true rfl) (cy4) ?_
      have hPy4 := cy4.1.1
      obtain ⟨y5, qy5, h⟩ := bindE h
      have cy5 := v_X3_pushMoved ho hPy4 qy5
      refine C_V1o (pc := 131) (k' := k_X3_pushMoved) dX3_useStack_131 w5_201 i_X3_pushMoved (lo_0 hPy4 ho) ⟨Nat.le_of_ble_eq_true rfl, Nat.le_of_ble_eq_true rfl⟩ rfl (Nat.le_of_ble_eq_true rfl) (Nat.le_of_ble_eq_true rfl) (Nat.le_of_ble_eq_true rfl) (cy5) ?_
      have hPy5 := cy5.1.1
      cases h
      exact Y_vret (pc := 134) rfl dX3_useStack_134 hPy5 ⟨rfl, rfl⟩
    · intro e9
      replace h := ifF (by rw [e9] <;> decide) h
      replace h := ifF (by rw [e9] <;> decide) h
      replace h := ifF (by rw [e9] <;> decide) h
      replace h := ifF (by rw [e9] <;> decide) h
      replace h := ifF (by rw [e9] <;> decide) h
      replace h := ifF (by rw [e9] <;> decide) h
      replace h := ifF (by rw [e9] <;> decide) h
      replace h := ifF (by rw [e9] <;> decide) h
      refine Y_aload_n (pc := 195) (j := 0) dX3_useStack_195 rfl rfl ?_
      refine Z_getr (pc := 196) dX3_useStack_196 w1_171 (lo_0 hP ho) fr_4_2 (lor_0_2 hP ho) ?_
      refine Y_iload_n (pc := 199) (j := 1) dX3_useStack_199 rfl rfl ?_
      refine Y_aload_n (pc := 200) (j := 0) dX3_useStack_200 rfl rfl ?_
      refine Y_iconst (pc := 201) (v := (2 : Int32)) dX3_useStack_201 rfl ?_
      obtain ⟨y15, qy15, h⟩ := bindE h
      have cy15 := v_X3_fromTop ho hP qy15
      refine C_V1r (pc := 202) (k' := k_X3_fromTop) dX3_useStack_202 w5_106 i_X3_fromTop (lo_0 hP ho) ⟨Nat.le_of_ble_eq_true rfl, Nat.le_of_ble_eq_true rfl⟩ rfl (Nat.le_of_ble_eq_true rfl) (Nat.le_of_ble_eq_true rfl) (Nat.le_of_ble_eq_true rfl) (cy15) ?_
      have hPy15 := cy15.1.1
      refine Y_aload_n (pc := 205) (j := 0) dX3_useStack_205 rfl rfl ?_
      refine Y_iconst (pc := 206) (v := (1 : Int32)) dX3_useStack_206 rfl ?_
      obtain ⟨y16, qy16, h⟩ := bindE h
      have cy16 := v_X3_fromTop ho hPy15 qy16
      refine C_V1r (pc := 207) (k' := k_X3_fromTop) dX3_useStack_207 w5_106 i_X3_fromTop (lo_0 hPy15 ho) ⟨Nat.le_of_ble_eq_true rfl, Nat.le_of_ble_eq_true rfl⟩ rfl (Nat.le_of_ble_eq_true rfl) (Nat.le_of_ble_eq_true rfl) (Nat.le_of_ble_eq_true rfl) (cy16) ?_
      have hPy16 := cy16.1.1
      obtain ⟨y17, qy17, h⟩ := bindE h
      have cy17 := v_X8_combine ho hPy16 qy17
      refine C_V3o (pc := 210) (k' := k_X8_combine) dX3_useStack_210 w5_239 i_X8_combine (lo_1 hPy16 ho) ⟨Nat.le_of_ble_eq_true rfl, Nat.le_of_ble_eq_true rfl⟩ rfl (Nat.le_of_ble_eq_true rfl) (Nat.le_of_ble_eq_true rfl) (Nat.le_of_ble_eq_true rfl) (cy17) ?_
      have hPy17 := cy17.1.1
      refine Y_aload_n (pc := 213) (j := 0) dX3_useStack_213 rfl rfl ?_
      obtain ⟨y18, qy18, h⟩ := bindE h
      have cy18 := v_X3_take ho hPy17 qy18
      refine C_V0r (pc := 214) (k' := k_X3_take) dX3_useStack_214 w5_181 i_X3_take (lo_0 hPy17 ho) ⟨Nat.le_of_ble_eq_true rfl, Nat.le_of_ble_eq_true rfl⟩ rfl (Nat.le_of_ble_eq_true rfl) (Nat.le_of_ble_eq_true rfl) (Nat.le_of_ble_eq_true rfl) (cy18) ?_
      have hPy18 := cy18.1.1
      refine Y_pop (pc := 217) dX3_useStack_217 rfl ?_
      cases h
      exact Y_vret (pc := 218) rfl dX3_useStack_218 hPy18 ⟨rfl, rfl⟩
    · intro e9
      replace h := ifF (by rw [e9] <;> decide) h
      replace h := ifF (by rw [e9] <;> decide) h
      replace h := ifF (by rw [e9] <;> decide) h
      replace h := ifF (by rw [e9] <;> decide) h
      replace h := ifF (by rw [e9] <;> decide) h
      replace h := ifF (by rw [e9] <;> decide) h
      replace h := ifF (by rw [e9] <;> decide) h
      replace h := ifF (by rw [e9] <;> decide) h
      refine Y_aload_n (pc := 195) (j := 0) dX3_useStack_195 rfl rfl ?_
      refine Z_getr (pc := 196) dX3_useStack_196 w1_171 (lo_0 hP ho) fr_4_2 (lor_0_2 hP ho) ?_
      refine Y_iload_n (pc := 199) (j := 1) dX3_useStack_199 rfl rfl ?_
      refine Y_aload_n (pc := 200) (j := 0) dX3_useStack_200 rfl rfl ?_
      refine Y_iconst (pc := 201) (v := (2 : Int32)) dX3_useStack_201 rfl ?_
      obtain ⟨y15, qy15, h⟩ := bindE h
      have cy15 := v_X3_fromTop ho hP qy15
      refine C_V1r (pc := 202) (k' := k_X3_fromTop) dX3_useStack_202 w5_106 i_X3_fromTop (lo_0 hP ho) ⟨Nat.le_of_ble_eq_true rfl, Nat.le_of_ble_eq_true rfl⟩ rfl (Nat.le_of_ble_eq_true rfl) (Nat.le_of_ble_eq_true rfl) (Nat.le_of_ble_eq_true rfl) (cy15) ?_
      have hPy15 := cy15.1.1
      refine Y_aload_n (pc := 205) (j := 0) dX3_useStack_205 rfl rfl ?_
      refine Y_iconst (pc := 206) (v := (1 : Int32)) dX3_useStack_206 rfl ?_
      obtain ⟨y16, qy16, h⟩ := bindE h
      have cy16 := v_X3_fromTop ho hPy15 qy16
      refine C_V1r (pc := 207) (k' := k_X3_fromTop) dX3_useStack_207 w5_106 i_X3_fromTop (lo_0 hPy15 ho) ⟨Nat.le_of_ble_eq_true rfl, Nat.le_of_ble_eq_true rfl⟩ rfl (Nat.le_of_ble_eq_true rfl) (Nat.le_of_ble_eq_true rfl) (Nat.le_of_ble_eq_true rfl) (cy16) ?_
      have hPy16 := cy16.1.1
      obtain ⟨y17, qy17, h⟩ := bindE h
      have cy17 := v_X8_combine ho hPy16 qy17
      refine C_V3o (pc := 210) (k' := k_X8_combine) dX3_useStack_210 w5_239 i_X8_combine (lo_1 hPy16 ho) ⟨Nat.le_of_ble_eq_true rfl, Nat.le_of_ble_eq_true rfl⟩ rfl (Nat.le_of_ble_eq_true rfl) (Nat.le_of_ble_eq_true rfl) (Nat.le_of_ble_eq_true rfl) (cy17) ?_
      have hPy17 := cy17.1.1
      refine Y_aload_n (pc := 213) (j := 0) dX3_useStack_213 rfl rfl ?_
      obtain ⟨y18, qy18, h⟩ := bindE h
      have cy18 := v_X3_take ho hPy17 qy18
      refine C_V0r (pc := 214) (k' := k_X3_take) dX3_useStack_214 w5_181 i_X3_take (lo_0 hPy17 ho) ⟨Nat.le_of_ble_eq_true rfl, Nat.le_of_ble_eq_true rfl⟩ rfl (Nat.le_of_ble_eq_true rfl) (Nat.le_of_ble_eq_true rfl) (Nat.le_of_ble_eq_true rfl) (cy18) ?_
      have hPy18 := cy18.1.1
      refine Y_pop (pc := 217) dX3_useStack_217 rfl ?_
      cases h
      exact Y_vret (pc := 218) rfl dX3_useStack_218 hPy18 ⟨rfl, rfl⟩
    · intro e9
      replace h := ifF (by rw [e9] <;> decide) h
      replace h := ifF (by rw [e9] <;> decide) h
      replace h := ifF (by rw [e9] <;> decide) h
      replace h := ifF (by rw [e9] <;> decide) h
      replace h := ifF (by rw [e9] <;> decide) h
      replace h := ifF (by rw [e9] <;> decide) h
      replace h := ifF (by rw [e9] <;> decide) h
      replace h := ifF (by rw [e9] <;> decide) h
      refine Y_aload_n (pc := 195) (j := 0) dX3_useStack_195 rfl rfl ?_
      refine Z_getr (pc := 196) dX3_useStack_196 w1_171 (lo_0 hP ho) fr_4_2 (lor_0_2 hP ho) ?_
      refine Y_iload_n (pc := 199) (j := 1) dX3_useStack_199 rfl rfl ?_
      refine Y_aload_n (pc := 200) (j := 0) dX3_useStack_200 rfl rfl ?_
      refine Y_iconst (pc := 201) (v := (2 : Int32)) dX3_useStack_201 rfl ?_
      obtain ⟨y15, qy15, h⟩ := bindE h
      have cy15 := v_X3_fromTop ho hP qy15
      refine C_V1r (pc := 202) (k' := k_X3_fromTop) dX3_useStack_202 w5_106 i_X3_fromTop (lo_0 hP ho) ⟨Nat.le_of_ble_eq_true rfl, Nat.le_of_ble_eq_true rfl⟩ rfl (Nat.le_of_ble_eq_true rfl) (Nat.le_of_ble_eq_true rfl) (Nat.le_of_ble_eq_true rfl) (cy15) ?_
      have hPy15 := cy15.1.1
      refine Y_aload_n (pc := 205) (j := 0) dX3_useStack_205 rfl rfl ?_
      refine Y_iconst (pc := 206) (v := (1 : Int32)) dX3_useStack_206 rfl ?_
      obtain ⟨y16, qy16, h⟩ := bindE h
      have cy16 := v_X3_fromTop ho hPy15 qy16
      refine C_V1r (pc := 207) (k' := k_X3_fromTop) dX3_useStack_207 w5_106 i_X3_fromTop (lo_0 hPy15 ho) ⟨Nat.le_of_ble_eq_true rfl, Nat.le_of_ble_eq_true rfl⟩ rfl (Nat.le_of_ble_eq_true rfl) (Nat.le_of_ble_eq_true rfl) (Nat.le_of_ble_eq_true rfl) (cy16) ?_
      have hPy16 := cy16.1.1
      obtain ⟨y17, qy17, h⟩ := bindE h
      have cy17 := v_X8_combine ho hPy16 qy17
      refine C_V3o (pc := 210) (k' := k_X8_combine) dX3_useStack_210 w5_239 i_X8_combine (lo_1 hPy16 ho) ⟨Nat.le_of_ble_eq_true rfl, Nat.le_of_ble_eq_true rfl⟩ rfl (Nat.le_of_ble_eq_true rfl) (Nat.le_of_ble_eq_true rfl) (Nat.le_of_ble_eq_true rfl) (cy17) ?_
      have hPy17 := cy17.1.1
      refine Y_aload_n (pc := 213) (j := 0) dX3_useStack_213 rfl rfl ?_
      obtain ⟨y18, qy18, h⟩ := bindE h
      have cy18 := v_X3_take ho hPy17 qy18
      refine C_V0r (pc := 214) (k' := k_X3_take) dX3_useStack_214 w5_181 i_X3_take (lo_0 hPy17 ho) ⟨Nat.le_of_ble_eq_true rfl, Nat.le_of_ble_eq_true rfl⟩ rfl (Nat.le_of_ble_eq_true rfl) (Nat.le_of_ble_eq_true rfl) (Nat.le_of_ble_eq_true rfl) (cy18) ?_
      have hPy18 := cy18.1.1
      refine Y_pop (pc := 217) dX3_useStack_217 rfl ?_
      cases h
      exact Y_vret (pc := 218) rfl dX3_useStack_218 hPy18 ⟨rfl, rfl⟩
    · intro e9
      replace h := ifF (by rw [e9] <;> decide) h
      replace h := ifF (by rw [e9] <;> decide) h
      replace h := ifF (by rw [e9] <;> decide) h
      replace h := ifF (by rw [e9] <;> decide) h
      replace h := ifF (by rw [e9] <;> decide) h
      replace h := ifF (by rw [e9] <;> decide) h
      replace h := ifF (by rw [e9] <;> decide) h
      replace h := ifF (by rw [e9] <;> decide) h
      refine Y_aload_n (pc := 195) (j := 0) dX3_useStack_195 rfl rfl ?_
      refine Z_getr (pc := 196) dX3_useStack_196 w1_171 (lo_0 hP ho) fr_4_2 (lor_0_2 hP ho) ?_
      refine Y_iload_n (pc := 199) (j := 1) dX3_useStack_199 rfl rfl ?_
      refine Y_aload_n (pc := 200) (j := 0) dX3_useStack_200 rfl rfl ?_
      refine Y_iconst (pc := 201) (v := (2 : Int32)) dX3_useStack_201 rfl ?_
      obtain ⟨y15, qy15, h⟩ := bindE h
      have cy15 := v_X3_fromTop ho hP qy15
      refine C_V1r (pc := 202) (k' := k_X3_fromTop) dX3_useStack_202 w5_106 i_X3_fromTop (lo_0 hP ho) ⟨Nat.le_of_ble_eq_true rfl, Nat.le_of_ble_eq_true rfl⟩ rfl (Nat.le_of_ble_eq_true rfl) (Nat.le_of_ble_eq_true rfl) (Nat.le_of_ble_eq_true rfl) (cy15) ?_
      have hPy15 := cy15.1.1
      refine Y_aload_n (pc := 205) (j := 0) dX3_useStack_205 rfl rfl ?_
      refine Y_iconst (pc := 206) (v := (1 : Int32)) dX3_useStack_206 rfl ?_
      obtain ⟨y16, qy16, h⟩ := bindE h
      have cy16 := v_X3_fromTop ho hPy15 qy16
      refine C_V1r (pc := 207) (k' := k_X3_fromTop) dX3_useStack_207 w5_106 i_X3_fromTop (lo_0 hPy15 ho) ⟨Nat.le_of_ble_eq_true rfl, Nat.le_of_ble_eq_true rfl⟩ rfl (Nat.le_of_ble_eq_true rfl) (Nat.le_of_ble_eq_true rfl) (Nat.le_of_ble_eq_true rfl) (cy16) ?_
      have hPy16 := cy16.1.1
      obtain ⟨y17, qy17, h⟩ := bindE h
      have cy17 := v_X8_combine ho hPy16 qy17
      refine C_V3o (pc := 210) (k' := k_X8_combine) dX3_useStack_210 w5_239 i_X8_combine (lo_1 hPy16 ho) ⟨Nat.le_of_ble_eq_true rfl, Nat.le_of_ble_eq_true rfl⟩ rfl (Nat.le_of_ble_eq_true rfl) (Nat.le_of_ble_eq_true rfl) (Nat.le_of_ble_eq_true rfl) (cy17) ?_
      have hPy17 := cy17.1.1
      refine Y_aload_n (pc := 213) (j := 0) dX3_useStack_213 rfl rfl ?_
      obtain ⟨y18, qy18, h⟩ := bindE h
      have cy18 := v_X3_take ho hPy17 qy18
      refine C_V0r (pc := 214) (k' := k_X3_take) dX3_useStack_214 w5_181 i_X3_take (lo_0 hPy17 ho) ⟨Nat.le_of_ble_eq_true rfl, Nat.le_of_ble_eq_true rfl⟩ rfl (Nat.le_of_ble_eq_true rfl) (Nat.le_of_ble_eq_true rfl) (Nat.le_of_ble_eq_true rfl) (cy18) ?_
      have hPy18 := cy18.1.1
      refine Y_pop (pc := 217) dX3_useStack_217 rfl ?_
      cases h
      exact Y_vret (pc := 218) rfl dX3_useStack_218 hPy18 ⟨rfl, rfl⟩
    · intro e9
      replace h := ifF (by rw [e9] <;> decide) h
      replace h := ifF (by rw [e9] <;> decide) h
      replace h := ifF (by rw [e9] <;> decide) h
      replace h := ifF (by rw [e9] <;> decide) h
      replace h := ifF (by rw [e9] <;> decide) h
      replace h := ifF (by rw [e9] <;> decide) h
      replace h := ifF (by rw [e9] <;> decide) h
      replace h := ifF (by rw [e9] <;> decide) h
      refine Y_aload_n (pc := 195) (j := 0) dX3_useStack_195 rfl rfl ?_
      refine Z_getr (pc := 196) dX3_useStack_196 w1_171 (lo_0 hP ho) fr_4_2 (lor_0_2 hP ho) ?_
      refine Y_iload_n (pc := 199) (j := 1) dX3_useStack_199 rfl rfl ?_
      refine Y_aload_n (pc := 200) (j := 0) dX3_useStack_200 rfl rfl ?_
      refine Y_iconst (pc := 201) (v := (2 : Int32)) dX3_useStack_201 rfl ?_
      obtain ⟨y15, qy15, h⟩ := bindE h
      have cy15 := v_X3_fromTop ho hP qy15
      refine C_V1r (pc := 202) (k' := k_X3_fromTop) dX3_useStack_202 w5_106 i_X3_fromTop (lo_0 hP ho) ⟨Nat.le_of_ble_eq_true rfl, Nat.le_of_ble_eq_true rfl⟩ rfl (Nat.le_of_ble_eq_true rfl) (Nat.le_of_ble_eq_true rfl) (Nat.le_of_ble_eq_true rfl) (cy15) ?_
      have hPy15 := cy15.1.1
      refine Y_aload_n (pc := 205) (j := 0) dX3_useStack_205 rfl rfl ?_
      refine Y_iconst (pc := 206) (v := (1 : Int32)) dX3_useStack_206 rfl ?_
      obtain ⟨y16, qy16, h⟩ := bindE h
      have cy16 := v_X3_fromTop ho hPy15 qy16
      refine C_V1r (pc := 207) (k' := k_X3_fromTop) dX3_useStack_207 w5_106 i_X3_fromTop (lo_0 hPy15 ho) ⟨Nat.le_of_ble_eq_true rfl, Nat.le_of_ble_eq_true rfl⟩ rfl (Nat.le_of_ble_eq_true rfl) (Nat.le_of_ble_eq_true rfl) (Nat.le_of_ble_eq_true rfl) (cy16) ?_
      have hPy16 := cy16.1.1
      obtain ⟨y17, qy17, h⟩ := bindE h
      have cy17 := v_X8_combine ho hPy16 qy17
      refine C_V3o (pc := 210) (k' := k_X8_combine) dX3_useStack_210 w5_239 i_X8_combine (lo_1 hPy16 ho) ⟨Nat.le_of_ble_eq_true rfl, Nat.le_of_ble_eq_true rfl⟩ rfl (Nat.le_of_ble_eq_true rfl) (Nat.le_of_ble_eq_true rfl) (Nat.le_of_ble_eq_true rfl) (cy17) ?_
      have hPy17 := cy17.1.1
      refine Y_aload_n (pc := 213) (j := 0) dX3_useStack_213 rfl rfl ?_
      obtain ⟨y18, qy18, h⟩ := bindE h
      have cy18 := v_X3_take ho hPy17 qy18
      refine C_V0r (pc := 214) (k' := k_X3_take) dX3_useStack_214 w5_181 i_X3_take (lo_0 hPy17 ho) ⟨Nat.le_of_ble_eq_true rfl, Nat.le_of_ble_eq_true rfl⟩ rfl (Nat.le_of_ble_eq_true rfl) (Nat.le_of_ble_eq_true rfl) (Nat.le_of_ble_eq_true rfl) (cy18) ?_
      have hPy18 := cy18.1.1
      refine Y_pop (pc := 217) dX3_useStack_217 rfl ?_
      cases h
      exact Y_vret (pc := 218) rfl dX3_useStack_218 hPy18 ⟨rfl, rfl⟩
    · intro e9
      replace h := ifF (by rw [e9] <;> decide) h
      replace h := ifF (by rw [e9] <;> decide) h
      replace h := ifF (by rw [e9] <;> decide) h
      replace h := ifF (by rw [e9] <;> decide) h
      replace h := ifF (by rw [e9] <;> decide) h
      replace h := ifF (by rw [e9] <;> decide) h
      replace h := ifF (by rw [e9] <;> decide) h
      replace h := ifF (by rw [e9] <;> decide) h
      refine Y_aload_n (pc := 195) (j := 0) dX3_useStack_195 rfl rfl ?_
      refine Z_getr (pc := 196) dX3_useStack_196 w1_171 (lo_0 hP ho) fr_4_2 (lor_0_2 hP ho) ?_
      refine Y_iload_n (pc := 199) (j := 1) dX3_useStack_199 rfl rfl ?_
      refine Y_aload_n (pc := 200) (j := 0) dX3_useStack_200 rfl rfl ?_
      refine Y_iconst (pc := 201) (v := (2 : Int32)) dX3_useStack_201 rfl ?_
      obtain ⟨y15, qy15, h⟩ := bindE h
      have cy15 := v_X3_fromTop ho hP qy15
      refine C_V1r (pc := 202) (k' := k_X3_fromTop) dX3_useStack_202 w5_106 i_X3_fromTop (lo_0 hP ho) ⟨Nat.le_of_ble_eq_true rfl, Nat.le_of_ble_eq_true rfl⟩ rfl (Nat.le_of_ble_eq_true rfl) (Nat.le_of_ble_eq_true rfl) (Nat.le_of_ble_eq_true rfl) (cy15) ?_
      have hPy15 := cy15.1.1
      refine Y_aload_n (pc := 205) (j := 0) dX3_useStack_205 rfl rfl ?_
      refine Y_iconst (pc := 206) (v := (1 : Int32)) dX3_useStack_206 rfl ?_
      obtain ⟨y16, qy16, h⟩ := bindE h
      have cy16 := v_X3_fromTop ho hPy15 qy16
      refine C_V1r (pc := 207) (k' := k_X3_fromTop) dX3_useStack_207 w5_106 i_X3_fromTop (lo_0 hPy15 ho) ⟨Nat.le_of_ble_eq_true rfl, Nat.le_of_ble_eq_true rfl⟩ rfl (Nat.le_of_ble_eq_true rfl) (Nat.le_of_ble_eq_true rfl) (Nat.le_of_ble_eq_true rfl) (cy16) ?_
      have hPy16 := cy16.1.1
      obtain ⟨y17, qy17, h⟩ := bindE h
      have cy17 := v_X8_combine ho hPy16 qy17
      refine C_V3o (pc := 210) (k' := k_X8_combine) dX3_useStack_210 w5_239 i_X8_combine (lo_1 hPy16 ho) ⟨Nat.le_of_ble_eq_true rfl, Nat.le_of_ble_eq_true rfl⟩ rfl (Nat.le_of_ble_eq_true rfl) (Nat.le_of_ble_eq_true rfl) (Nat.le_of_ble_eq_true rfl) (cy17) ?_
      have hPy17 := cy17.1.1
      refine Y_aload_n (pc := 213) (j := 0) dX3_useStack_213 rfl rfl ?_
      obtain ⟨y18, qy18, h⟩ := bindE h
      have cy18 := v_X3_take ho hPy17 qy18
      refine C_V0r (pc := 214) (k' := k_X3_take) dX3_useStack_214 w5_181 i_X3_take (lo_0 hPy17 ho) ⟨Nat.le_of_ble_eq_true rfl, Nat.le_of_ble_eq_true rfl⟩ rfl (Nat.le_of_ble_eq_true rfl) (Nat.le_of_ble_eq_true rfl) (Nat.le_of_ble_eq_true rfl) (cy18) ?_
      have hPy18 := cy18.1.1
      refine Y_pop (pc := 217) dX3_useStack_217 rfl ?_
      cases h
      exact Y_vret (pc := 218) rfl dX3_useStack_218 hPy18 ⟨rfl, rfl⟩
    · intro e9
      replace h := ifF (by rw [e9] <;> decide) h
      replace h := ifF (by rw [e9] <;> decide) h
      replace h := ifF (by rw [e9] <;> decide) h
      replace h := ifF (by rw [e9] <;> decide) h
      replace h := ifT (by rw [e9] <;> decide) h
      refine Y_aload_n (pc := 145) (j := 0) dX3_useStack_145 rfl rfl ?_
      refine Z_getr (pc := 146) dX3_useStack_146 w1_171 (lo_0 hP ho) fr_4_2 (lor_0_2 hP ho) ?_
      refine Y_aload_n (pc := 149) (j := 0) dX3_useStack_149 rfl rfl ?_
      obtain ⟨y6, qy6, h⟩ := bindE h
      have cy6 := v_X3_take ho hP qy6
      refine C_V0r (pc := 150) (k' := k_X3_take) dX3_useStack_150 w5_181 i_X3_take (lo_0 hP ho) ⟨Nat.le_of_ble_eq_true rfl, Nat.le_of_ble_eq_true rfl⟩ rfl (Nat.le_of_ble_eq_true rfl) (Nat.le_of_ble_eq_true rfl) (Nat.le_of_ble_eq_true rfl) (cy6) ?_
      have hPy6 := cy6.1.1
      refine Y_aload_n (pc := 153) (j := 0) dX3_useStack_153 rfl rfl ?_
      refine Z_geti (pc := 154) dX3_useStack_154 w1_184 (lo_0 hPy6 ho) fi_4_9 ?_
      refine Y_iconst (pc := 157) (v := (1 : Int32)) dX3_useStack_157 rfl ?_
      refine Y_isub (pc := 158) dX3_useStack_158 ?_
      refine Y_iload_n (pc := 159) (j := 2) dX3_useStack_159 rfl rfl ?_
      obtain ⟨y7, qy7, h⟩ := bindE h
      have cy7 := v_X11_localPlace hPy6 qy7
      refine C_N2r (pc := 160) (k' := k_X11_localPlace) dX3_useStack_160 nl_Machine_66 i_X11_localPlace (Nat.le_of_ble_eq_true rfl) (Nat.le_of_ble_eq_true rfl) (Nat.le_of_ble_eq_true rfl) (cy7) ?_
      have hPy7 := cy7.1.1
      obtain ⟨y8, qy8, h⟩ := bindE h
      have cy8 := v_X8_move ho hPy7 qy8
      refine C_V2o (pc := 163) (k' := k_X8_move) dX3_useStack_163 w5_193 i_X8_move (lo_1 hPy7 ho) ⟨Nat.le_of_ble_eq_true rfl, Nat.le_of_ble_eq_true rfl⟩ rfl (Nat.le_of_ble_eq_true rfl) (Nat.le_of_ble_eq_true rfl) (Nat.le_of_ble_eq_true rfl) (cy8) ?_
      have hPy8 := cy8.1.1
      cases h
      exact Y_vret (pc := 166) rfl dX3_useStack_166 hPy8 ⟨rfl, rfl⟩
    · intro e9
      replace h := ifF (by rw [e9] <;> decide) h
      replace h := ifF (by rw [e9] <;> decide) h
      replace h := ifF (by rw [e9] <;> decide) h
      replace h := ifF (by rw [e9] <;> decide) h
      replace h := ifF (by rw [e9] <;> decide) h
      replace h := ifT (by rw [e9] <;> decide) h
      refine Y_aload_n (pc := 173) (j := 0) dX3_useStack_173 rfl rfl ?_
      refine Y_aload_n (pc := 174) (j := 0) dX3_useStack_174 rfl rfl ?_
      obtain ⟨y9, qy9, h⟩ := bindE h
      have cy9 := v_X3_take ho hP qy9
      refine C_V0r (pc := 175) (k' := k_X3_take) dX3_useStack_175 w5_181 i_X3_take (lo_0 hP ho) ⟨Nat.le_of_ble_eq_true rfl, Nat.le_of_ble_eq_true rfl⟩ rfl (Nat.le_of_ble_eq_true rfl) (Nat.le_of_ble_eq_true rfl) (Nat.le_of_ble_eq_true rfl) (cy9) ?_
      have hPy9 := cy9.1.1
      obtain ⟨y10, qy10, h⟩ := bindE h
      have cy10 := v_X3_tell ho hPy9 qy10
      refine C_V1o (pc := 178) (k' := k_X3_tell) dX3_useStack_178 w5_225 i_X3_tell (lo_0 hPy9 ho) ⟨Nat.le_of_ble_eq_true rfl, Nat.le_of_ble_eq_true rfl⟩ rfl (Nat.le_of_ble_eq_true rfl) (Nat.le_of_ble_eq_true rfl) (Nat.le_of_ble_eq_true rfl) (cy10) ?_
      have hPy10 := cy10.1.1
      cases h
      exact Y_vret (pc := 181) rfl dX3_useStack_181 hPy10 ⟨rfl, rfl⟩
    · intro e9
      replace h := ifF (by rw [e9] <;> decide) h
      replace h := ifF (by rw [e9] <;> decide) h
      replace h := ifF (by rw [e9] <;> decide) h
      replace h := ifF (by rw [e9] <;> decide) h
      replace h := ifF (by rw [e9] <;> decide) h
      replace h := ifF (by rw [e9] <;> decide) h
      replace h := ifT (by rw [e9] <;> decide) h
      refine Y_aload_n (pc := 135) (j := 0) dX3_useStack_135 rfl rfl ?_
      refine Y_aload_n (pc := 136) (j := 0) dX3_useStack_136 rfl rfl ?_
      refine Y_iconst (pc := 137) (v := (1 : Int32)) dX3_useStack_137 rfl ?_
      obtain ⟨y11, qy11, h⟩ := bindE h
      have cy11 := v_X3_fromTop ho hP qy11
      refine C_V1r (pc := 138) (k' := k_X3_fromTop) dX3_useStack_138 w5_106 i_X3_fromTop (lo_0 hP ho) ⟨Nat.le_of_ble_eq_true rfl, Nat.le_of_ble_eq_true rfl⟩ rfl (Nat.le_of_ble_eq_true rfl) (Nat.le_of_ble_eq_true rfl) (Nat.le_of_ble_eq_true rfl) (cy11) ?_
      have hPy11 := cy11.1.1
      obtain ⟨y12, qy12, h⟩ := bindE h
      have cy12 := v_X3_pushMoved ho hPy11 qy12
      refine C_V1o (pc := 141) (k' := k_X3_pushMoved) dX3_useStack_141 w5_201 i_X3_pushMoved (lo_0 hPy11 ho) ⟨Nat.le_of_ble_eq_true rfl, Nat.le_of_ble_eq_true rfl⟩ rfl (Nat.le_of_ble_eq_true rfl) (Nat.le_of_ble_eq_true rfl) (Nat.le_of_ble_eq_true rfl) (cy12) ?_
      have hPy12 := cy12.1.1
      cases h
      exact Y_vret (pc := 144) rfl dX3_useStack_144 hPy12 ⟨rfl, rfl⟩
    · intro e9
      replace h := ifF (by rw [e9] <;> decide) h
      replace h := ifF (by rw [e9] <;> decide) h
      replace h := ifF (by rw [e9] <;> decide) h
      replace h := ifF (by rw [e9] <;> decide) h
      replace h := ifF (by rw [e9] <;> decide) h
      replace h := ifF (by rw [e9] <;> decide) h
      replace h := ifF (by rw [e9] <;> decide) h
      replace h := ifF (by rw [e9] <;> decide) h
      refine Y_aload_n (pc := 195) (j := 0) dX3_useStack_195 rfl rfl ?_
      refine Z_getr (pc := 196) dX3_useStack_196 w1_171 (lo_0 hP ho) fr_4_2 (lor_0_2 hP ho) ?_
      refine Y_iload_n (pc := 199) (j := 1) dX3_useStack_199 rfl rfl ?_
      refine Y_aload_n (pc := 200) (j := 0) dX3_useStack_200 rfl rfl ?_
      refine Y_iconst (pc := 201) (v := (2 : Int32)) dX3_useStack_201 rfl ?_
      obtain ⟨y15, qy15, h⟩ := bindE h
      have cy15 := v_X3_fromTop ho hP qy15
      refine C_V1r (pc := 202) (k' := k_X3_fromTop) dX3_useStack_202 w5_106 i_X3_fromTop (lo_0 hP ho) ⟨Nat.le_of_ble_eq_true rfl, Nat.le_of_ble_eq_true rfl⟩ rfl (Nat.le_of_ble_eq_true rfl) (Nat.le_of_ble_eq_true rfl) (Nat.le_of_ble_eq_true rfl) (cy15) ?_
      have hPy15 := cy15.1.1
      refine Y_aload_n (pc := 205) (j := 0) dX3_useStack_205 rfl rfl ?_
      refine Y_iconst (pc := 206) (v := (1 : Int32)) dX3_useStack_206 rfl ?_
      obtain ⟨y16, qy16, h⟩ := bindE h
      have cy16 := v_X3_fromTop ho hPy15 qy16
      refine C_V1r (pc := 207) (k' := k_X3_fromTop) dX3_useStack_207 w5_106 i_X3_fromTop (lo_0 hPy15 ho) ⟨Nat.le_of_ble_eq_true rfl, Nat.le_of_ble_eq_true rfl⟩ rfl (Nat.le_of_ble_eq_true rfl) (Nat.le_of_ble_eq_true rfl) (Nat.le_of_ble_eq_true rfl) (cy16) ?_
      have hPy16 := cy16.1.1
      obtain ⟨y17, qy17, h⟩ := bindE h
      have cy17 := v_X8_combine ho hPy16 qy17
      refine C_V3o (pc := 210) (k' := k_X8_combine) dX3_useStack_210 w5_239 i_X8_combine (lo_1 hPy16 ho) ⟨Nat.le_of_ble_eq_true rfl, Nat.le_of_ble_eq_true rfl⟩ rfl (Nat.le_of_ble_eq_true rfl) (Nat.le_of_ble_eq_true rfl) (Nat.le_of_ble_eq_true rfl) (cy17) ?_
      have hPy17 := cy17.1.1
      refine Y_aload_n (pc := 213) (j := 0) dX3_useStack_213 rfl rfl ?_
      obtain ⟨y18, qy18, h⟩ := bindE h
      have cy18 := v_X3_take ho hPy17 qy18
      refine C_V0r (pc := 214) (k' := k_X3_take) dX3_useStack_214 w5_181 i_X3_take (lo_0 hPy17 ho) ⟨Nat.le_of_ble_eq_true rfl, Nat.le_of_ble_eq_true rfl⟩ rfl (Nat.le_of_ble_eq_true rfl) (Nat.le_of_ble_eq_true rfl) (Nat.le_of_ble_eq_true rfl) (cy18) ?_
      have hPy18 := cy18.1.1
      refine Y_pop (pc := 217) dX3_useStack_217 rfl ?_
      cases h
      exact Y_vret (pc := 218) rfl dX3_useStack_218 hPy18 ⟨rfl, rfl⟩
    · intro e9
      replace h := ifF (by rw [e9] <;> decide) h
      replace h := ifF (by rw [e9] <;> decide) h
      replace h := ifF (by rw [e9] <;> decide) h
      replace h := ifF (by rw [e9] <;> decide) h
      replace h := ifF (by rw [e9] <;> decide) h
      replace h := ifF (by rw [e9] <;> decide) h
      replace h := ifF (by rw [e9] <;> decide) h
      replace h := ifT (by rw [e9] <;> decide) h
      refine Y_aload_n (pc := 182) (j := 0) dX3_useStack_182 rfl rfl ?_
      refine Z_getr (pc := 183) dX3_useStack_183 w1_171 (lo_0 hP ho) fr_4_2 (lor_0_2 hP ho) ?_
      refine Y_aload_n (pc := 186) (j := 0) dX3_useStack_186 rfl rfl ?_
      refine Y_iconst (pc := 187) (v := (1 : Int32)) dX3_useStack_187 rfl ?_
      obtain ⟨y13, qy13, h⟩ := bindE h
      have cy13 := v_X3_fromTop ho hP qy13
      refine C_V1r (pc := 188) (k' := k_X3_fromTop) dX3_useStack_188 w5_106 i_X3_fromTop (lo_0 hP ho) ⟨Nat.le_of_ble_eq_true rfl, Nat.le_of_ble_eq_true rfl⟩ rfl (Nat.le_of_ble_eq_true rfl) (Nat.le_of_ble_eq_true rfl) (Nat.le_of_ble_eq_true rfl) (cy13) ?_
      have hPy13 := cy13.1.1
      obtain ⟨y14, qy14, h⟩ := bindE h
      have cy14 := v_X8_round ho hPy13 qy14
      refine C_V1o (pc := 191) (k' := k_X8_round) dX3_useStack_191 w5_229 i_X8_round (lo_1 hPy13 ho) ⟨Nat.le_of_ble_eq_true rfl, Nat.le_of_ble_eq_true rfl⟩ rfl (Nat.le_of_ble_eq_true rfl) (Nat.le_of_ble_eq_true rfl) (Nat.le_of_ble_eq_true rfl) (cy14) ?_
      have hPy14 := cy14.1.1
      cases h
      exact Y_vret (pc := 194) rfl dX3_useStack_194 hPy14 ⟨rfl, rfl⟩
  · intro n9
    replace h := ifF (xs_no n9 (by decide : ((100 : Int32), 167) ∈ _)) h
    replace h := ifF (xs_no n9 (by decide : ((105 : Int32), 96) ∈ _)) h
    replace h := ifF (xs_no n9 (by decide : ((107 : Int32), 104) ∈ _)) h
    replace h := ifF (xs_no n9 (by decide : ((108 : Int32), 120) ∈ _)) h
    replace h := ifF (xs_no n9 (by decide : ((115 : Int32), 145) ∈ _)) h
    replace h := ifF (xs_no n9 (by decide : ((116 : Int32), 173) ∈ _)) h
    replace h := ifF (xs_no n9 (by decide : ((117 : Int32), 135) ∈ _)) h
    replace h := ifF (xs_no n9 (by decide : ((119 : Int32), 182) ∈ _)) h
    refine Y_aload_n (pc := 195) (j := 0) dX3_useStack_195 rfl rfl ?_
    refine Z_getr (pc := 196) dX3_useStack_196 w1_171 (lo_0 hP ho) fr_4_2 (lor_0_2 hP ho) ?_
    refine Y_iload_n (pc := 199) (j := 1) dX3_useStack_199 rfl rfl ?_
    refine Y_aload_n (pc := 200) (j := 0) dX3_useStack_200 rfl rfl ?_
    refine Y_iconst (pc := 201) (v := (2 : Int32)) dX3_useStack_201 rfl ?_
    obtain ⟨y15, qy15, h⟩ := bindE h
    have cy15 := v_X3_fromTop ho hP qy15
    refine C_V1r (pc := 202) (k' := k_X3_fromTop) dX3_useStack_202 w5_106 i_X3_fromTop (lo_0 hP ho) ⟨Nat.le_of_ble_eq_true rfl, Nat.le_of_ble_eq_true rfl⟩ rfl (Nat.le_of_ble_eq_true rfl) (Nat.le_of_ble_eq_true rfl) (Nat.le_of_ble_eq_true rfl) (cy15) ?_
    have hPy15 := cy15.1.1
    refine Y_aload_n (pc := 205) (j := 0) dX3_useStack_205 rfl rfl ?_
    refine Y_iconst (pc := 206) (v := (1 : Int32)) dX3_useStack_206 rfl ?_
    obtain ⟨y16, qy16, h⟩ := bindE h
    have cy16 := v_X3_fromTop ho hPy15 qy16
    refine C_V1r (pc := 207) (k' := k_X3_fromTop) dX3_useStack_207 w5_106 i_X3_fromTop (lo_0 hPy15 ho) ⟨Nat.le_of_ble_eq_true rfl, Nat.le_of_ble_eq_true rfl⟩ rfl (Nat.le_of_ble_eq_true rfl) (Nat.le_of_ble_eq_true rfl) (Nat.le_of_ble_eq_true rfl) (cy16) ?_
    have hPy16 := cy16.1.1
    obtain ⟨y17, qy17, h⟩ := bindE h
    have cy17 := v_X8_combine ho hPy16 qy17
    refine C_V3o (pc := 210) (k' := k_X8_combine) dX3_useStack_210 w5_239 i_X8_combine (lo_1 hPy16 ho) ⟨Nat.le_of_ble_eq_true rfl, Nat.le_of_ble_eq_true rfl⟩ rfl (Nat.le_of_ble_eq_true rfl) (Nat.le_of_ble_eq_true rfl) (Nat.le_of_ble_eq_true rfl) (cy17) ?_
    have hPy17 := cy17.1.1
    refine Y_aload_n (pc := 213) (j := 0) dX3_useStack_213 rfl rfl ?_
    obtain ⟨y18, qy18, h⟩ := bindE h
    have cy18 := v_X3_take ho hPy17 qy18
    refine C_V0r (pc := 214) (k' := k_X3_take) dX3_useStack_214 w5_181 i_X3_take (lo_0 hPy17 ho) ⟨Nat.le_of_ble_eq_true rfl, Nat.le_of_ble_eq_true rfl⟩ rfl (Nat.le_of_ble_eq_true rfl) (Nat.le_of_ble_eq_true rfl) (Nat.le_of_ble_eq_true rfl) (cy18) ?_
    have hPy18 := cy18.1.1
    refine Y_pop (pc := 217) dX3_useStack_217 rfl ?_
    cases h
    exact Y_vret (pc := 218) rfl dX3_useStack_218 hPy18 ⟨rfl, rfl⟩
theorem v_X3_useStack {o : Nat} {x1 : Int32} {x2 : Int32} {M z} (ho : o = 18 ∨ o = 28) (hP : Lay M) (h : d_X3_useStack o x1 x2 M = some z) : CC Lay k_X3_useStack [.ref o, .int x1, .int x2] M z.2 (Qv (none) z.2) xF :=
  CC.ofVV (by decide) rfl (Nat.le_of_ble_eq_true rfl) (b_X3_useStack ho hP h)
noncomputable def d_X3_execute (o : Nat) (M : Mem) : Option (Int32 × Mem) :=
  bnd (((mI M o 9) - (1 : Int32))) fun b1 =>
  okk (vp_in b1 12) <|
  bnd ((mI M (o + 7) b1.toNatClampNeg)) fun b2 =>
  bnd ((mI M o 8)) fun b3 =>
  bnd (sI M o 12 ((mI M o 12) + (1 : Int32))) fun M1 =>
  okk (vp_in b1 12) <|
  bnd (sI M1 (o + 7) b1.toNatClampNeg (b2 + (1 : Int32))) fun M2 =>
  bnd ((mI M2 o 7)) fun b4 =>
  if b4 = (99 : Int32) then (
    okk (vp_in b3 8) <|
    (d_X3_call o b3 (mI M2 3 b3.toNatClampNeg) M2).bind fun y1 =>
    some ((0 : Int32), y1.2))
  else if b4 = (103 : Int32) ∨ b4 = (110 : Int32) ∨ b4 = (112 : Int32) then (
    (d_X3_useObject o (mI M2 o 7) b3 M2).bind fun y2 =>
    some ((0 : Int32), y2.2))
  else if b4 = (106 : Int32) then (
    okk (vp_in b1 12) <|
    bnd (sI M2 (o + 7) b1.toNatClampNeg b3) fun M3 =>
    if b2 < b3 then (
      some ((0 : Int32), M3))
    else (
      some ((1 : Int32), M3)))
  else if b4 = (109 : Int32) then (
    (d_X3_classFromTop o M2).bind fun y3 =>
    (d_X5_methodOf y3.1 b3 y3.2).bind fun y4 =>
    (d_X3_call o y4.1 (1 : Int32) y4.2).bind fun y5 =>
    some ((0 : Int32), y5.2))
  else if b4 = (114 : Int32) then (
    (d_X3_giveBack o M2).bind fun y6 =>
    some ((0 : Int32), y6.2))
  else if b4 = (122 : Int32) then (
    (d_X3_jumpsAtNull o b3 b2 M2).bind fun y7 =>
    okk (isBo y7.1) <|
    some (y7.1, y7.2))
  else (
    (d_X3_useStack o (mI M2 o 7) b3 M2).bind fun y8 =>
    some ((0 : Int32), y8.2))
theorem b_X3_execute {o : Nat} {M z} (ho : o = 18 ∨ o = 28) (hP : Lay M) (h : d_X3_execute o M = some z) : VV Lay k_X3_execute 0 [(0, .ref o)] [] M z.2 (Qv (some (.int z.1)) z.2) xF := by
  unfold d_X3_execute at h
  refine Y_aload_n (pc := 0) (j := 0) dX3_execute_0 rfl rfl ?_
  refine Z_geti (pc := 1) dX3_execute_1 w1_184 (lo_0 hP ho) fi_4_9 ?_
  refine Y_iconst (pc := 4) (v := (1 : Int32)) dX3_execute_4 rfl ?_
  refine Y_isub (pc := 5) dX3_execute_5 ?_
  obtain ⟨b1, eb1, h⟩ := bndE h
  refine VV.topI eb1 ?_
  refine Y_istore_n (pc := 6) (lv1 := [(1, .int b1), (0, .ref o)]) dX3_execute_6 rfl (by decide) rfl ?_
  refine Y_aload_n (pc := 7) (j := 1) dX3_execute_7 rfl rfl ?_
  refine Z_getr (pc := 8) dX3_execute_8 w1_175 (lo_0 hP ho) fr_4_4 (lor_0_4 hP ho) ?_
  refine Y_iload_n (pc := 11) (j := 0) dX3_execute_11 rfl rfl ?_
  obtain ⟨hb1, h⟩ := okE h
  refine Y_iald (pc := 12) dX3_execute_12 (lo_7 hP ho) (lon_7 hP ho) hb1 ?_
  obtain ⟨b2, eb2, h⟩ := bndE h
  refine VV.topI eb2 ?_
  refine Y_istore_n (pc := 13) (lv1 := [(2, .int b2), (1, .int b1), (0, .ref o)]) dX3_execute_13 rfl (by decide) rfl ?_
  refine Y_aload_n (pc := 14) (j := 2) dX3_execute_14 rfl rfl ?_
  refine Z_geti (pc := 15) dX3_execute_15 w1_183 (lo_0 hP ho) fi_4_8 ?_
  obtain ⟨b3, eb3, h⟩ := bndE h
  refine VV.topI eb3 ?_
  refine Y_istore_n (pc := 18) (lv1 := [(3, .int b3), (2, .int b2), (1, .int b1), (0, .ref o)]) dX3_execute_18 rfl (by decide) rfl ?_
  refine Y_aload_n (pc := 19) (j := 3) dX3_execute_19 rfl rfl ?_
  refine Y_dup (pc := 20) dX3_execute_20 rfl ?_
  refine Z_geti (pc := 21) dX3_execute_21 w1_191 (lo_0 hP ho) fi_4_12 ?_
  refine Y_iconst (pc := 24) (v := (1 : Int32)) dX3_execute_24 rfl ?_
  refine Y_iadd (pc := 25) dX3_execute_25 ?_
  refine Z_puti (pc := 26) dX3_execute_26 w1_191 (lo_0 hP ho) fi_4_12 (Or.inl rfl) rfl ?_
  obtain ⟨M1, eM1, h⟩ := bndE h
  refine VV.mem eM1 ?_
  have hP1 := hP.wI eM1
  refine Y_aload_n (pc := 29) (j := 3) dX3_execute_29 rfl rfl ?_
  refine Z_getr (pc := 30) dX3_execute_30 w1_175 (lo_0 hP1 ho) fr_4_4 (lor_0_4 hP1 ho) ?_
  refine Y_iload_n (pc := 33) (j := 2) dX3_execute_33 rfl rfl ?_
  refine Y_iload_n (pc := 34) (j := 1) dX3_execute_34 rfl rfl ?_
  refine Y_iconst (pc := 35) (v := (1 : Int32)) dX3_execute_35 rfl ?_
  refine Y_iadd (pc := 36) dX3_execute_36 ?_
  obtain ⟨hb2, h⟩ := okE h
  refine Y_iast (pc := 37) dX3_execute_37 (lo_7 hP1 ho) (lon_7 hP1 ho) hb2 ?_
  obtain ⟨M2, eM2, h⟩ := bndE h
  refine VV.mem eM2 ?_
  have hP2 := hP1.wI eM2
  refine Y_aload_n (pc := 38) (j := 3) dX3_execute_38 rfl rfl ?_
  refine Z_geti (pc := 39) dX3_execute_39 w1_181 (lo_0 hP2 ho) fi_4_7 ?_
  obtain ⟨b4, eb4, h⟩ := bndE h
  refine VV.topI eb4 ?_
  refine Y_table (pc := 42) dX3_execute_42 [(99, 177), (100, 229), (101, 229), (102, 229), (103, 218), (104, 229), (105, 229), (106, 152), (107, 229), (108, 229), (109, 193), (110, 218), (111, 229), (112, 218), (113, 229), (114, 212), (115, 229), (116, 229), (117, 229), (118, 229), (119, 229), (120, 229), (121, 229), (122, 170)] 229 (by decide) (tab_ok (by decide +kernel)) (by decide) ?_ ?_
  · refine xs_cons ?_ <| xs_cons ?_ <| xs_cons ?_ <| xs_cons ?_ <| xs_cons ?_ <| xs_cons ?_ <| xs_cons ?_ <| xs_cons ?_ <| xs_cons ?_ <| xs_cons ?_ <| xs_cons ?_ <| xs_cons ?_ <| xs_cons ?_ <| xs_cons ?_ <| xs_cons ?_ <| xs_cons ?_ <| xs_cons ?_ <| xs_cons ?_ <| xs_cons ?_ <| xs_cons ?_ <| xs_cons ?_ <| xs_cons ?_ <| xs_cons ?_ <| xs_cons ?_ <| xs_nil
    · intro e9
      replace h := ifT (by rw [e9] <;> decide) h
      refine Y_aload_n (pc := 177) (j := 3) dX3_execute_177 rfl rfl ?_
      refine Y_iload_n (pc := 178) (j := 0) dX3_execute_178 rfl rfl ?_
      refine Y_aload_n (pc := 179) (j := 3) dX3_execute_179 rfl rfl ?_
      refine Z_getr (pc := 180) dX3_execute_180 w1_167 (lo_0 hP2 ho) fr_4_0 (lor_0_0 hP2 ho) ?_
      refine Z_getr (pc := 183) dX3_execute_183 w1_55 (lk_2 hP2) fr_5_0 (lr_2_0 hP2) ?_
      refine Y_iload_n (pc := 186) (j := 0) dX3_execute_186 rfl rfl ?_
      obtain ⟨hb3, h⟩ := okE h
      refine Y_iald (pc := 187) dX3_execute_187 (lk_3 hP2) (ln_3 hP2) hb3 ?_
      obtain ⟨y1, qy1, h⟩ := bindE h
      have cy1 := v_X3_call ho hP2 qy1
      refine C_V2o (pc := 188) (k' := k_X3_call) dX3_execute_188 w5_189 i_X3_call (lo_0 hP2 ho) ⟨Nat.le_of_ble_eq_true rfl, Nat.le_of_ble_eq_true rfl⟩ rfl (Nat.le_of_ble_eq_true rfl) (Nat.le_of_ble_eq_true rfl) (Nat.le_of_ble_eq_true rfl) (cy1) ?_
      have hPy1 := cy1.1.1
      refine Y_iconst (pc := 191) (v := (0 : Int32)) dX3_execute_191 rfl ?_
      cases h
      exact Y_iret (pc := 192) rfl (nar_bo (by decide)) dX3_execute_192 hPy1 ⟨rfl, rfl⟩
    · intro e9
      replace h := ifF (by rw [e9] <;> decide) h
      replace h := ifF (by rw [e9] <;> decide) h
      replace h := ifF (by rw [e9] <;> decide) h
      replace h := ifF (by rw [e9] <;> decide) h
      replace h := ifF (by rw [e9] <;> decide) h
      replace h := ifF (by rw [e9] <;> decide) h
      refine Y_aload_n (pc := 229) (j := 3) dX3_execute_229 rfl rfl ?_
      refine Y_aload_n (pc := 230) (j := 3) dX3_execute_230 rfl rfl ?_
      refine Z_geti (pc := 231) dX3_execute_231 w1_181 (lo_0 hP2 ho) fi_4_7 ?_
      refine Y_iload_n (pc := 234) (j := 0) dX3_execute_234 rfl rfl ?_
      obtain ⟨y8, qy8, h⟩ := bindE h
      have cy8 := v_X3_useStack ho hP2 qy8
      refine C_V2o (pc := 235) (k' := k_X3_useStack) dX3_execute_235 w5_221 i_X3_useStack (lo_0 hP2 ho) ⟨Nat.le_of_ble_eq_true rfl, Nat.le_of_ble_eq_true rfl⟩ rfl (Nat.le_of_ble_eq_true rfl) (Nat.le_of_ble_eq_true rfl) (Nat.le_of_ble_eq_true rfl) (cy8) ?_
      have hPy8 := cy8.1.1
      refine Y_iconst (pc := 238) (v := (0 : Int32)) dX3_execute_238 rfl ?_
      cases h
      exact Y_iret (pc := 239) rfl (nar_bo (by decide)) dX3_execute_239 hPy8 ⟨rfl, rfl⟩
    · intro e9
      replace h := ifF (by rw [e9] <;> decide) h
      replace h := ifF (by rw [e9] <;> decide) h
      replace h := ifF (by rw [e9] <;> decide) h
      replace h := ifF (by rw [e9] <;> decide) h
      replace h := ifF (by rw [e9] <;> decide) h
      replace h := ifF (by rw [e9] <;> decide) h
      refine Y_aload_n (pc := 229) (j := 3) dX3_execute_229 rfl rfl ?_
      refine Y_aload_n (pc := 230) (j := 3) dX3_execute_230 rfl rfl ?_
      refine Z_geti (pc := 231) dX3_execute_231 w1_181 (lo_0 hP2 ho) fi_4_7 ?_
      refine Y_iload_n (pc := 234) (j := 0) dX3_execute_234 rfl rfl ?_
      obtain ⟨y8, qy8, h⟩ := bindE h
      have cy8 := v_X3_useStack ho hP2 qy8
      refine C_V2o (pc := 235) (k' := k_X3_useStack) dX3_execute_235 w5_221 i_X3_useStack (lo_0 hP2 ho) ⟨Nat.le_of_ble_eq_true rfl, Nat.le_of_ble_eq_true rfl⟩ rfl (Nat.le_of_ble_eq_true rfl) (Nat.le_of_ble_eq_true rfl) (Nat.le_of_ble_eq_true rfl) (cy8) ?_
      have hPy8 := cy8.1.1
      refine Y_iconst (pc := 238) (v := (0 : Int32)) dX3_execute_238 rfl ?_
      cases h
      exact Y_iret (pc := 239) rfl (nar_bo (by decide)) dX3_execute_239 hPy8 ⟨rfl, rfl⟩
    · intro e9
      replace h := ifF (by rw [e9] <;> decide) h
      replace h := ifF (by rw [e9] <;> decide) h
      replace h := ifF (by rw [e9] <;> decide) h
      replace h := ifF (by rw [e9] <;> decide) h
      replace h := ifF (by rw [e9] <;> decide) h
      replace h := ifF (by rw [e9] <;> decide) h
      refine Y_aload_n (pc := 229) (j := 3) dX3_execute_229 rfl rfl ?_
      refine Y_aload_n (pc := 230) (j := 3) dX3_execute_230 rfl rfl ?_
      refine Z_geti (pc := 231) dX3_execute_231 w1_181 (lo_0 hP2 ho) fi_4_7 ?_
      refine Y_iload_n (pc := 234) (j := 0) dX3_execute_234 rfl rfl ?_
      obtain ⟨y8, qy8, h⟩ := bindE h
      have cy8 := v_X3_useStack ho hP2 qy8
      refine C_V2o (pc := 235) (k' := k_X3_useStack) dX3_execute_235 w5_221 i_X3_useStack (lo_0 hP2 ho) ⟨Nat.le_of_ble_eq_true rfl, Nat.le_of_ble_eq_true rfl⟩ rfl (Nat.le_of_ble_eq_true rfl) (Nat.le_of_ble_eq_true rfl) (Nat.le_of_ble_eq_true rfl) (cy8) ?_
      have hPy8 := cy8.1.1
      refine Y_iconst (pc := 238) (v := (0 : Int32)) dX3_execute_238 rfl ?_
      cases h
      exact Y_iret (pc := 239) rfl (nar_bo (by decide)) dX3_execute_239 hPy8 ⟨rfl, rfl⟩
    · intro e9
      replace h := ifF (by rw [e9] <;> decide) h
      replace h := ifT (by rw [e9] <;> decide) h
      refine Y_aload_n (pc := 218) (j := 3) dX3_execute_218 rfl rfl ?_
      refine Y_aload_n (pc := 219) (j := 3) dX3_execute_219 rfl rfl ?_
      refine Z_geti (pc := 220) dX3_execute_220 w1_181 (lo_0 hP2 ho) fi_4_7 ?_
      refine Y_iload_n (pc := 223) (j := 0) dX3_execute_223 rfl rfl ?_
      obtain ⟨y2, qy2, h⟩ := bindE h
      have cy2 := v_X3_useObject ho hP2 qy2
      refine C_V2o (pc := 224) (k' := k_X3_useObject) dX3_execute_224 w5_205 i_X3_useObject (lo_0 hP2 ho) ⟨Nat.le_of_ble_eq_true rfl, Nat.le_of_ble_eq_true rfl⟩ rfl (Nat.le_of_ble_eq_true rfl) (Nat.le_of_ble_eq_true rfl) (Nat.le_of_ble_eq_true rfl) (cy2) ?_
      have hPy2 := cy2.1.1
      refine Y_iconst (pc := 227) (v := (0 : Int32)) dX3_execute_227 rfl ?_
      cases h
      exact Y_iret (pc := 228) rfl (nar_bo (by decide)) dX3_execute_228 hPy2 ⟨rfl, rfl⟩
    · intro e9
      replace h := ifF (by rw [e9] <;> decide) h
      replace h := ifF (by rw [e9] <;> decide) h
      replace h := ifF (by rw [e9] <;> decide) h
      replace h := ifF (by rw [e9] <;> decide) h
      replace h := ifF (by rw [e9] <;> decide) h
      replace h := ifF (by rw [e9] <;> decide) h
      refine Y_aload_n (pc := 229) (j := 3) dX3_execute_229 rfl rfl ?_
      refine Y_aload_n (pc := 230) (j := 3) dX3_execute_230 rfl rfl ?_
      refine Z_geti (pc := 231) dX3_execute_231 w1_181 (lo_0 hP2 ho) fi_4_7 ?_
      refine Y_iload_n (pc := 234) (j := 0) dX3_execute_234 rfl rfl ?_
      obtain ⟨y8, qy8, h⟩ := bindE h
      have cy8 := v_X3_useStack ho hP2 qy8
      refine C_V2o (pc := 235) (k' := k_X3_useStack) dX3_execute_235 w5_221 i_X3_useStack (lo_0 hP2 ho) ⟨Nat.le_of_ble_eq_true rfl, Nat.le_of_ble_eq_true rfl⟩ rfl (Nat.le_of_ble_eq_true rfl) (Nat.le_of_ble_eq_true rfl) (Nat.le_of_ble_eq_true rfl) (cy8) ?_
      have hPy8 := cy8.1.1
      refine Y_iconst (pc := 238) (v := (0 : Int32)) dX3_execute_238 rfl ?_
      cases h
      exact Y_iret (pc := 239) rfl (nar_bo (by decide)) dX3_execute_239 hPy8 ⟨rfl, rfl⟩
    · intro e9
      replace h := ifF (by rw [e9] <;> decide) h
      replace h := ifF (by rw [e9] <;> decide) h
      replace h := ifF (by rw [e9] <;> decide) h
      replace h := ifF (by rw [e9] <;> decide) h
      replace h := ifF (by rw [e9] <;> decide) h
      replace h := ifF (by rw [e9] <;> decide) h
      refine Y_aload_n (pc := 229) (j := 3) dX3_execute_229 rfl rfl ?_
      refine Y_aload_n (pc := 230) (j := 3) dX3_execute_230 rfl rfl ?_
      refine Z_geti (pc := 231) dX3_execute_231 w1_181 (lo_0 hP2 ho) fi_4_7 ?_
      refine Y_iload_n (pc := 234) (j := 0) dX3_execute_234 rfl rfl ?_
      obtain ⟨y8, qy8, h⟩ := bindE h
      have cy8 := v_X3_useStack ho hP2 qy8
      refine C_V2o (pc := 235) (k' := k_X3_useStack) dX3_execute_235 w5_221 i_X3_useStack (lo_0 hP2 ho) ⟨Nat.le_of_ble_eq_true rfl, Nat.le_of_ble_eq_true rfl⟩ rfl (Nat.le_of_ble_eq_true rfl) (Nat.le_of_ble_eq_true rfl) (Nat.le_of_ble_eq_true rfl) (cy8) ?_
      have hPy8 := cy8.1.1
      refine Y_iconst (pc := 238) (v := (0 : Int32)) dX3_execute_238 rfl ?_
      cases h
      exact Y_iret (pc := 239) rfl (nar_bo (by decide)) dX3_execute_239 hPy8 ⟨rfl, rfl⟩
    · intro e9
      replace h := ifF (by rw [e9] <;> decide) h
      replace h := ifF (by rw [e9] <;> decide) h
      replace h := ifT (by rw [e9] <;> decide) h
      refine Y_aload_n (pc := 152) (j := 3) dX3_execute_152 rfl rfl ?_
      refine Z_getr (pc := 153) dX3_execute_153 w1_175 (lo_0 hP2 ho) fr_4_4 (lor_0_4 hP2 ho) ?_
      refine Y_iload_n (pc := 156) (j := 2) dX3_execute_156 rfl rfl ?_
      refine Y_iload_n (pc := 157) (j := 0) dX3_execute_157 rfl rfl ?_
      obtain ⟨hb4, h⟩ := okE h
      refine Y_iast (pc := 158) dX3_execute_158 (lo_7 hP2 ho) (lon_7 hP2 ho) hb4 ?_
      obtain ⟨M3, eM3, h⟩ := bndE h
      refine VV.mem eM3 ?_
      have hP3 := hP2.wI eM3
      refine Y_iload_n (pc := 159) (j := 0) dX3_execute_159 rfl rfl ?_
      refine Y_iload_n (pc := 160) (j := 1) dX3_execute_160 rfl rfl ?_
      refine Y_icmp_gt (pc := 161) (tgt := 168) dX3_execute_161 (by decide) (fun hc1 => ?_) (fun hc1 => ?_)
      · replace h := ifT hc1 h
        refine Y_iconst (pc := 168) (v := (0 : Int32)) dX3_execute_168 rfl ?_
        cases h
        exact Y_iret (pc := 169) rfl (nar_bo (by decide)) dX3_execute_169 hP3 ⟨rfl, rfl⟩
      · replace h := ifF hc1 h
        refine Y_iconst (pc := 164) (v := (1 : Int32)) dX3_execute_164 rfl ?_
        refine Y_goto (pc := 165) (tgt := 169) dX3_execute_165 (by decide) ?_
        cases h
        exact Y_iret (pc := 169) rfl (nar_bo (by decide)) dX3_execute_169 hP3 ⟨rfl, rfl⟩
    · intro e9
      replace h := ifF (by rw [e9] <;> decide) h
      replace h := ifF (by rw [e9] <;> decide) h
      replace h := ifF (by rw [e9] <;> decide) h
      replace h := ifF (by rw [e9] <;> decide) h
      replace h := ifF (by rw [e9] <;> decide) h
      replace h := ifF (by rw [e9] <;> decide) h
      refine Y_aload_n (pc := 229) (j := 3) dX3_execute_229 rfl rfl ?_
      refine Y_aload_n (pc := 230) (j := 3) dX3_execute_230 rfl rfl ?_
      refine Z_geti (pc := 231) dX3_execute_231 w1_181 (lo_0 hP2 ho) fi_4_7 ?_
      refine Y_iload_n (pc := 234) (j := 0) dX3_execute_234 rfl rfl ?_
      obtain ⟨y8, qy8, h⟩ := bindE h
      have cy8 := v_X3_useStack ho hP2 qy8
      refine C_V2o (pc := 235) (k' := k_X3_useStack) dX3_execute_235 w5_221 i_X3_useStack (lo_0 hP2 ho) ⟨Nat.le_of_ble_eq_true rfl, Nat.le_of_ble_eq_true rfl⟩ rfl (Nat.le_of_ble_eq_true rfl) (Nat.le_of_ble_eq_true rfl) (Nat.le_of_ble_eq_true rfl) (cy8) ?_
      have hPy8 := cy8.1.1
      refine Y_iconst (pc := 238) (v := (0 : Int32)) dX3_execute_238 rfl ?_
      cases h
      exact Y_iret (pc := 239) rfl (nar_bo (by decide)) dX3_execute_239 hPy8 ⟨rfl, rfl⟩
    · intro e9
      replace h := ifF (by rw [e9] <;> decide) h
      replace h := ifF (by rw [e9] <;> decide) h
      replace h := ifF (by rw [e9] <;> decide) h
      replace h := ifF (by rw [e9] <;> decide) h
      replace h := ifF (by rw [e9] <;> decide) h
      replace h := ifF (by rw [e9] <;> decide) h
      refine Y_aload_n (pc := 229) (j := 3) dX3_execute_229 rfl rfl ?_
      refine Y_aload_n (pc := 230) (j := 3) dX3_execute_230 rfl rfl ?_
      refine Z_geti (pc := 231) dX3_execute_231 w1_181 (lo_0 hP2 ho) fi_4_7 ?_
      refine Y_iload_n (pc := 234) (j := 0) dX3_execute_234 rfl rfl ?_
      obtain ⟨y8, qy8, h⟩ := bindE h
      have cy8 := v_X3_useStack ho hP2 qy8
      refine C_V2o (pc := 235) (k' := k_X3_useStack) dX3_execute_235 w5_221 i_X3_useStack (lo_0 hP2 ho) ⟨Nat.le_of_ble_eq_true rfl, Nat.le_of_ble_eq_true rfl⟩ rfl (Nat.le_of_ble_eq_true rfl) (Nat.le_of_ble_eq_true rfl) (Nat.le_of_ble_eq_true rfl) (cy8) ?_
      have hPy8 := cy8.1.1
      refine Y_iconst (pc := 238) (v := (0 : Int32)) dX3_execute_238 rfl ?_
      cases h
      exact Y_iret (pc := 239) rfl (nar_bo (by decide)) dX3_execute_239 hPy8 ⟨rfl, rfl⟩
    · intro e9
      replace h := ifF (by rw [e9] <;> decide) h
      replace h := ifF (by rw [e9] <;> decide) h
      replace h := ifF (by rw [e9] <;> decide) h
      replace h := ifT (by rw [e9] <;> decide) h
      refine Y_aload_n (pc := 193) (j := 3) dX3_execute_193 rfl rfl ?_
      refine Y_aload_n (pc := 194) (j := 3) dX3_execute_194 rfl rfl ?_
      refine Z_getr (pc := 195) dX3_execute_195 w1_167 (lo_0 hP2 ho) fr_4_0 (lor_0_0 hP2 ho) ?_
      refine Y_aload_n (pc := 198) (j := 3) dX3_execute_198 rfl rfl ?_
      obtain ⟨y3, qy3, h⟩ := bindE h
      have cy3 := v_X3_classFromTop ho hP2 qy3
      refine C_V0r (pc := 199) (k' := k_X3_classFromTop) dX3_execute_199 w5_153 i_X3_classFromTop (lo_0 hP2 ho) ⟨Nat.le_of_ble_eq_true rfl, Nat.le_of_ble_eq_true rfl⟩ rfl (Nat.le_of_ble_eq_true rfl) (Nat.le_of_ble_eq_true rfl) (Nat.le_of_ble_eq_true rfl) (cy3) ?_
      have hPy3 := cy3.1.1
      refine Y_iload_n (pc := 202) (j := 0) dX3_execute_202 rfl rfl ?_
      obtain ⟨y4, qy4, h⟩ := bindE h
      have cy4 := v_X5_methodOf hPy3 qy4
      refine C_V2r (pc := 203) (k' := k_X5_methodOf) dX3_execute_203 w5_157 i_X5_methodOf (lk_2 hPy3) ⟨Nat.le_of_ble_eq_true rfl, Nat.le_of_ble_eq_true rfl⟩ rfl (Nat.le_of_ble_eq_true rfl) (Nat.le_of_ble_eq_true rfl) (Nat.le_of_ble_eq_true rfl) (cy4) ?_
      have hPy4 := cy4.1.1
      refine Y_iconst (pc := 206) (v := (1 : Int32)) dX3_execute_206 rfl ?_
      obtain ⟨y5, qy5, h⟩ := bindE h
      have cy5 := v_X3_call ho hPy4 qy5
      refine C_V2o (pc := 207) (k' := k_X3_call) dX3_execute_207 w5_189 i_X3_call (lo_0 hPy4 ho) ⟨Nat.le_of_ble_eq_true rfl, Nat.le_of_ble_eq_true rfl⟩ rfl (Nat.le_of_ble_eq_true rfl) (Nat.le_of_ble_eq_true rfl) (Nat.le_of_ble_eq_true rfl) (cy5) ?_
      have hPy5 := cy5.1.1
      refine Y_iconst (pc := 210) (v := (0 : Int32)) dX3_execute_210 rfl ?_
      cases h
      exact Y_iret (pc := 211) rfl (nar_bo (by decide)) dX3_execute_211 hPy5 ⟨rfl, rfl⟩
    · intro e9
      replace h := ifF (by rw [e9] <;> decide) h
      replace h := ifT (by rw [e9] <;> decide) h
      refine Y_aload_n (pc := 218) (j := 3) dX3_execute_218 rfl rfl ?_
      refine Y_aload_n (pc := 219) (j := 3) dX3_execute_219 rfl rfl ?_
      refine Z_geti (pc := 220) dX3_execute_220 w1_181 (lo_0 hP2 ho) fi_4_7 ?_
      refine Y_iload_n (pc := 223) (j := 0) dX3_execute_223 rfl rfl ?_
      obtain ⟨y2, qy2, h⟩ := bindE h
      have cy2 := v_X3_useObject ho hP2 qy2
      refine C_V2o (pc := 224) (k' := k_X3_useObject) dX3_execute_224 w5_205 i_X3_useObject (lo_0 hP2 ho) ⟨Nat.le_of_ble_eq_true rfl, Nat.le_of_ble_eq_true rfl⟩ rfl (Nat.le_of_ble_eq_true rfl) (Nat.le_of_ble_eq_true rfl) (Nat.le_of_ble_eq_true rfl) (cy2) ?_
      have hPy2 := cy2.1.1
      refine Y_iconst (pc := 227) (v := (0 : Int32)) dX3_execute_227 rfl ?_
      cases h
      exact Y_iret (pc := 228) rfl (nar_bo (by decide)) dX3_execute_228 hPy2 ⟨rfl, rfl⟩
    · intro e9
      replace h := ifF (by rw [e9] <;> decide) h
      replace h := ifF (by rw [e9] <;> decide) h
      replace h := ifF (by rw [e9] <;> decide) h
      replace h := ifF (by rw [e9] <;> decide) h
      replace h := ifF (by rw [e9] <;> decide) h
      replace h := ifF (by rw [e9] <;> decide) h
      refine Y_aload_n (pc := 229) (j := 3) dX3_execute_229 rfl rfl ?_
      refine Y_aload_n (pc := 230) (j := 3) dX3_execute_230 rfl rfl ?_
      refine Z_geti (pc := 231) dX3_execute_231 w1_181 (lo_0 hP2 ho) fi_4_7 ?_
      refine Y_iload_n (pc := 234) (j := 0) dX3_execute_234 rfl rfl ?_
      obtain ⟨y8, qy8, h⟩ := bindE h
      have cy8 := v_X3_useStack ho hP2 qy8
      refine C_V2o (pc := 235) (k' := k_X3_useStack) dX3_execute_235 w5_221 i_X3_useStack (lo_0 hP2 ho) ⟨Nat.le_of_ble_eq_true rfl, Nat.le_of_ble_eq_true rfl⟩ rfl (Nat.le_of_ble_eq_true rfl) (Nat.le_of_ble_eq_true rfl) (Nat.le_of_ble_eq_true rfl) (cy8) ?_
      have hPy8 := cy8.1.1
      refine Y_iconst (pc := 238) (v := (0 : Int32)) dX3_execute_238 rfl ?_
      cases h
      exact Y_iret (pc := 239) rfl (nar_bo (by decide)) dX3_execute_239 hPy8 ⟨rfl, rfl⟩
    · intro e9
      replace h := ifF (by rw [e9] <;> decide) h
      replace h := ifT (by rw [e9] <;> decide) h
      refine Y_aload_n (pc := 218) (j := 3) dX3_execute_218 rfl rfl ?_
      refine Y_aload_n (pc := 219) (j := 3) dX3_execute_219 rfl rfl ?_
      refine Z_geti (pc := 220) dX3_execute_220 w1_181 (lo_0 hP2 ho) fi_4_7 ?_
      refine Y_iload_n (pc := 223) (j := 0) dX3_execute_223 rfl rfl ?_
      obtain ⟨y2, qy2, h⟩ := bindE h
      have cy2 := v_X3_useObject ho hP2 qy2
      refine C_V2o (pc := 224) (k' := k_X3_useObject) dX3_execute_224 w5_205 i_X3_useObject (lo_0 hP2 ho) ⟨Nat.le_of_ble_eq_true rfl, Nat.le_of_ble_eq_true rfl⟩ rfl (Nat.le_of_ble_eq_true rfl) (Nat.le_of_ble_eq_true rfl) (Nat.le_of_ble_eq_true rfl) (cy2) ?_
      have hPy2 := cy2.1.1
      refine Y_iconst (pc := 227) (v := (0 : Int32)) dX3_execute_227 rfl ?_
      cases h
      exact Y_iret (pc := 228) rfl (nar_bo (by decide)) dX3_execute_228 hPy2 ⟨rfl, rfl⟩
    · intro e9
      replace h := ifF (by rw [e9] <;> decide) h
      replace h := ifF (by rw [e9] <;> decide) h
      replace h := ifF (by rw [e9] <;> decide) h
      replace h := ifF (by rw [e9] <;> decide) h
      replace h := ifF (by rw [e9] <;> decide) h
      replace h := ifF (by rw [e9] <;> decide) h
      refine Y_aload_n (pc := 229) (j := 3) dX3_execute_229 rfl rfl ?_
      refine Y_aload_n (pc := 230) (j := 3) dX3_execute_230 rfl rfl ?_
      refine Z_geti (pc := 231) dX3_execute_231 w1_181 (lo_0 hP2 ho) fi_4_7 ?_
      refine Y_iload_n (pc := 234) (j := 0) dX3_execute_234 rfl rfl ?_
      obtain ⟨y8, qy8, h⟩ := bindE h
      have cy8 := v_X3_useStack ho hP2 qy8
      refine C_V2o (pc := 235) (k' := k_X3_useStack) dX3_execute_235 w5_221 i_X3_useStack (lo_0 hP2 ho) ⟨Nat.le_of_ble_eq_true rfl, Nat.le_of_ble_eq_true rfl⟩ rfl (Nat.le_of_ble_eq_true rfl) (Nat.le_of_ble_eq_true rfl) (Nat.le_of_ble_eq_true rfl) (cy8) ?_
      have hPy8 := cy8.1.1
      refine Y_iconst (pc := 238) (v := (0 : Int32)) dX3_execute_238 rfl ?_
      cases h
      exact Y_iret (pc := 239) rfl (nar_bo (by decide)) dX3_execute_239 hPy8 ⟨rfl, rfl⟩
    · intro e9
      replace h := ifF (by rw [e9] <;> decide) h
      replace h := ifF (by rw [e9] <;> decide) h
      replace h := ifF (by rw [e9] <;> decide) h
      replace h := ifF (by rw [e9] <;> decide) h
      replace h := ifT (by rw [e9] <;> decide) h
      refine Y_aload_n (pc := 212) (j := 3) dX3_execute_212 rfl rfl ?_
      obtain ⟨y6, qy6, h⟩ := bindE h
      have cy6 := v_X3_giveBack ho hP2 qy6
      refine C_V0o (pc := 213) (k' := k_X3_giveBack) dX3_execute_213 w5_197 i_X3_giveBack (lo_0 hP2 ho) ⟨Nat.le_of_ble_eq_true rfl, Nat.le_of_ble_eq_true rfl⟩ rfl (Nat.le_of_ble_eq_true rfl) (Nat.le_of_ble_eq_true rfl) (Nat.le_of_ble_eq_true rfl) (cy6) ?_
      have hPy6 := cy6.1.1
      refine Y_iconst (pc := 216) (v := (0 : Int32)) dX3_execute_216 rfl ?_
      cases h
      exact Y_iret (pc := 217) rfl (nar_bo (by decide)) dX3_execute_217 hPy6 ⟨rfl, rfl⟩
    · intro e9
      replace h := ifF (by rw [e9] <;> decide) h
      replace h := ifF (by rw [e9] <;> decide) h
      replace h := ifF (by rw [e9] <;> decide) h
      replace h := ifF (by rw [e9] <;> decide) h
      replace h := ifF (by rw [e9] <;> decide) h
      replace h := ifF (by rw [e9] <;> decide) h
      refine Y_aload_n (pc := 229) (j := 3) dX3_execute_229 rfl rfl ?_
      refine Y_aload_n (pc := 230) (j := 3) dX3_execute_230 rfl rfl ?_
      refine Z_geti (pc := 231) dX3_execute_231 w1_181 (lo_0 hP2 ho) fi_4_7 ?_
      refine Y_iload_n (pc := 234) (j := 0) dX3_execute_234 rfl rfl ?_
      obtain ⟨y8, qy8, h⟩ := bindE h
      have cy8 := v_X3_useStack ho hP2 qy8
      refine C_V2o (pc := 235) (k' := k_X3_useStack) dX3_execute_235 w5_221 i_X3_useStack (lo_0 hP2 ho) ⟨Nat.le_of_ble_eq_true rfl, Nat.le_of_ble_eq_true rfl⟩ rfl (Nat.le_of_ble_eq_true rfl) (Nat.le_of_ble_eq_true rfl) (Nat.le_of_ble_eq_true rfl) (cy8) ?_
      have hPy8 := cy8.1.1
      refine Y_iconst (pc := 238) (v := (0 : Int32)) dX3_execute_238 rfl ?_
      cases h
      exact Y_iret (pc := 239) rfl (nar_bo (by decide)) dX3_execute_239 hPy8 ⟨rfl, rfl⟩
    · intro e9
      replace h := ifF (by rw [e9] <;> decide) h
      replace h := ifF (by rw [e9] <;> decide) h
      replace h := ifF (by rw [e9] <;> decide) h
      replace h := ifF (by rw [e9] <;> decide) h
      replace h := ifF (by rw [e9] <;> decide) h
      replace h := ifF (by rw [e9] <;> decide) h
      refine Y_aload_n (pc := 229) (j := 3) dX3_execute_229 rfl rfl ?_
      refine Y_aload_n (pc := 230) (j := 3) dX3_execute_230 rfl rfl ?_
      refine Z_geti (pc := 231) dX3_execute_231 w1_181 (lo_0 hP2 ho) fi_4_7 ?_
      refine Y_iload_n (pc := 234) (j := 0) dX3_execute_234 rfl rfl ?_
      obtain ⟨y8, qy8, h⟩ := bindE h
      have cy8 := v_X3_useStack ho hP2 qy8
      refine C_V2o (pc := 235) (k' := k_X3_useStack) dX3_execute_235 w5_221 i_X3_useStack (lo_0 hP2 ho) ⟨Nat.le_of_ble_eq_true rfl, Nat.le_of_ble_eq_true rfl⟩ rfl (Nat.le_of_ble_eq_true rfl) (Nat.le_of_ble_eq_true rfl) (Nat.le_of_ble_eq_true rfl) (cy8) ?_
      have hPy8 := cy8.1.1
      refine Y_iconst (pc := 238) (v := (0 : Int32)) dX3_execute_238 rfl ?_
      cases h
      exact Y_iret (pc := 239) rfl (nar_bo (by decide)) dX3_execute_239 hPy8 ⟨rfl, rfl⟩
    · intro e9
      replace h := ifF (by rw [e9] <;> decide) h
      replace h := ifF (by rw [e9] <;> decide) h
      replace h := ifF (by rw [e9] <;> decide) h
      replace h := ifF (by rw [e9] <;> decide) h
      replace h := ifF (by rw [e9] <;> decide) h
      replace h := ifF (by rw [e9] <;> decide) h
      refine Y_aload_n (pc := 229) (j := 3) dX3_execute_229 rfl rfl ?_
      refine Y_aload_n (pc := 230) (j := 3) dX3_execute_230 rfl rfl ?_
      refine Z_geti (pc := 231) dX3_execute_231 w1_181 (lo_0 hP2 ho) fi_4_7 ?_
      refine Y_iload_n (pc := 234) (j := 0) dX3_execute_234 rfl rfl ?_
      obtain ⟨y8, qy8, h⟩ := bindE h
      have cy8 := v_X3_useStack ho hP2 qy8
      refine C_V2o (pc := 235) (k' := k_X3_useStack) dX3_execute_235 w5_221 i_X3_useStack (lo_0 hP2 ho) ⟨Nat.le_of_ble_eq_true rfl, Nat.le_of_ble_eq_true rfl⟩ rfl (Nat.le_of_ble_eq_true rfl) (Nat.le_of_ble_eq_true rfl) (Nat.le_of_ble_eq_true rfl) (cy8) ?_
      have hPy8 := cy8.1.1
      refine Y_iconst (pc := 238) (v := (0 : Int32)) dX3_execute_238 rfl ?_
      cases h
      exact Y_iret (pc := 239) rfl (nar_bo (by decide)) dX3_execute_239 hPy8 ⟨rfl, rfl⟩
    · intro e9
      replace h := ifF (by rw [e9] <;> decide) h
      replace h := ifF (by rw [e9] <;> decide) h
      replace h := ifF (by rw [e9] <;> decide) h
      replace h := ifF (by rw [e9] <;> decide) h
      replace h := ifF (by rw [e9] <;> decide) h
      replace h := ifF (by rw [e9] <;> decide) h
      refine Y_aload_n (pc := 229) (j := 3) dX3_execute_229 rfl rfl ?_
      refine Y_aload_n (pc := 230) (j := 3) dX3_execute_230 rfl rfl ?_
      refine Z_geti (pc := 231) dX3_execute_231 w1_181 (lo_0 hP2 ho) fi_4_7 ?_
      refine Y_iload_n (pc := 234) (j := 0) dX3_execute_234 rfl rfl ?_
      obtain ⟨y8, qy8, h⟩ := bindE h
      have cy8 := v_X3_useStack ho hP2 qy8
      refine C_V2o (pc := 235) (k' := k_X3_useStack) dX3_execute_235 w5_221 i_X3_useStack (lo_0 hP2 ho) ⟨Nat.le_of_ble_eq_true rfl, Nat.le_of_ble_eq_true rfl⟩ rfl (Nat.le_of_ble_eq_true rfl) (Nat.le_of_ble_eq_true rfl) (Nat.le_of_ble_eq_true rfl) (cy8) ?_
      have hPy8 := cy8.1.1
      refine Y_iconst (pc := 238) (v := (0 : Int32)) dX3_execute_238 rfl ?_
      cases h
      exact Y_iret (pc := 239) rfl (nar_bo (by decide)) dX3_execute_239 hPy8 ⟨rfl, rfl⟩
    · intro e9
      replace h := ifF (by rw [e9] <;> decide) h
      replace h := ifF (by rw [e9] <;> decide) h
      replace h := ifF (by rw [e9] <;> decide) h
      replace h := ifF (by rw [e9] <;> decide) h
      replace h := ifF (by rw [e9] <;> decide) h
      replace h := ifF (by rw [e9] <;> decide) h
      refine Y_aload_n (pc := 229) (j := 3) dX3_execute_229 rfl rfl ?_
      refine Y_aload_n (pc := 230) (j := 3) dX3_execute_230 rfl rfl ?_
      refine Z_geti (pc := 231) dX3_execute_231 w1_181 (lo_0 hP2 ho) fi_4_7 ?_
      refine Y_iload_n (pc := 234) (j := 0) dX3_execute_234 rfl rfl ?_
      obtain ⟨y8, qy8, h⟩ := bindE h
      have cy8 := v_X3_useStack ho hP2 qy8
      refine C_V2o (pc := 235) (k' := k_X3_useStack) dX3_execute_235 w5_221 i_X3_useStack (lo_0 hP2 ho) ⟨Nat.le_of_ble_eq_true rfl, Nat.le_of_ble_eq_true rfl⟩ rfl (Nat.le_of_ble_eq_true rfl) (Nat.le_of_ble_eq_true rfl) (Nat.le_of_ble_eq_true rfl) (cy8) ?_
      have hPy8 := cy8.1.1
      refine Y_iconst (pc := 238) (v := (0 : Int32)) dX3_execute_238 rfl ?_
      cases h
      exact Y_iret (pc := 239) rfl (nar_bo (by decide)) dX3_execute_239 hPy8 ⟨rfl, rfl⟩
    · intro e9
      replace h := ifF (by rw [e9] <;> decide) h
      replace h := ifF (by rw [e9] <;> decide) h
      replace h := ifF (by rw [e9] <;> decide) h
      replace h := ifF (by rw [e9] <;> decide) h
      replace h := ifF (by rw [e9] <;> decide) h
      replace h := ifF (by rw [e9] <;> decide) h
      refine Y_aload_n (pc := 229) (j := 3) dX3_execute_229 rfl rfl ?_
      refine Y_aload_n (pc := 230) (j := 3) dX3_execute_230 rfl rfl ?_
      refine Z_geti (pc := 231) dX3_execute_231 w1_181 (lo_0 hP2 ho) fi_4_7 ?_
      refine Y_iload_n (pc := 234) (j := 0) dX3_execute_234 rfl rfl ?_
      obtain ⟨y8, qy8, h⟩ := bindE h
      have cy8 := v_X3_useStack ho hP2 qy8
      refine C_V2o (pc := 235) (k' := k_X3_useStack) dX3_execute_235 w5_221 i_X3_useStack (lo_0 hP2 ho) ⟨Nat.le_of_ble_eq_true rfl, Nat.le_of_ble_eq_true rfl⟩ rfl (Nat.le_of_ble_eq_true rfl) (Nat.le_of_ble_eq_true rfl) (Nat.le_of_ble_eq_true rfl) (cy8) ?_
      have hPy8 := cy8.1.1
      refine Y_iconst (pc := 238) (v := (0 : Int32)) dX3_execute_238 rfl ?_
      cases h
      exact Y_iret (pc := 239) rfl (nar_bo (by decide)) dX3_execute_239 hPy8 ⟨rfl, rfl⟩
    · intro e9
      replace h := ifF (by rw [e9] <;> decide) h
      replace h := ifF (by rw [e9] <;> decide) h
      replace h := ifF (by rw [e9] <;> decide) h
      replace h := ifF (by rw [e9] <;> decide) h
      replace h := ifF (by rw [e9] <;> decide) h
      replace h := ifF (by rw [e9] <;> decide) h
      refine Y_aload_n (pc := 229) (j := 3) dX3_execute_229 rfl rfl ?_
      refine Y_aload_n (pc := 230) (j := 3) dX3_execute_230 rfl rfl ?_
      refine Z_geti (pc := 231) dX3_execute_231 w1_181 (lo_0 hP2 ho) fi_4_7 ?_
      refine Y_iload_n (pc := 234) (j := 0) dX3_execute_234 rfl rfl ?_
      obtain ⟨y8, qy8, h⟩ := bindE h
      have cy8 := v_X3_useStack ho hP2 qy8
      refine C_V2o (pc := 235) (k' := k_X3_useStack) dX3_execute_235 w5_221 i_X3_useStack (lo_0 hP2 ho) ⟨Nat.le_of_ble_eq_true rfl, Nat.le_of_ble_eq_true rfl⟩ rfl (Nat.le_of_ble_eq_true rfl) (Nat.le_of_ble_eq_true rfl) (Nat.le_of_ble_eq_true rfl) (cy8) ?_
      have hPy8 := cy8.1.1
      refine Y_iconst (pc := 238) (v := (0 : Int32)) dX3_execute_238 rfl ?_
      cases h
      exact Y_iret (pc := 239) rfl (nar_bo (by decide)) dX3_execute_239 hPy8 ⟨rfl, rfl⟩
    · intro e9
      replace h := ifF (by rw [e9] <;> decide) h
      replace h := ifF (by rw [e9] <;> decide) h
      replace h := ifF (by rw [e9] <;> decide) h
      replace h := ifF (by rw [e9] <;> decide) h
      replace h := ifF (by rw [e9] <;> decide) h
      replace h := ifT (by rw [e9] <;> decide) h
      refine Y_aload_n (pc := 170) (j := 3) dX3_execute_170 rfl rfl ?_
      refine Y_iload_n (pc := 171) (j := 0) dX3_execute_171 rfl rfl ?_
      refine Y_iload_n (pc := 172) (j := 1) dX3_execute_172 rfl rfl ?_
      obtain ⟨y7, qy7, h⟩ := bindE h
      have cy7 := v_X3_jumpsAtNull ho hP2 qy7
      refine C_V2r (pc := 173) (k' := k_X3_jumpsAtNull) dX3_execute_173 w5_177 i_X3_jumpsAtNull (lo_0 hP2 ho) ⟨Nat.le_of_ble_eq_true rfl, Nat.le_of_ble_eq_true rfl⟩ rfl (Nat.le_of_ble_eq_true rfl) (Nat.le_of_ble_eq_true rfl) (Nat.le_of_ble_eq_true rfl) (cy7) ?_
      have hPy7 := cy7.1.1
      obtain ⟨hb5, h⟩ := okE h
      cases h
      exact Y_iret (pc := 176) rfl (nar_bo hb5) dX3_execute_176 hPy7 ⟨rfl, rfl⟩
  · intro n9
    replace h := ifF (xs_no n9 (by decide : ((99 : Int32), 177) ∈ _)) h
    replace h := ifF (fun q => q.elim (xs_no n9 (by decide : ((103 : Int32), 218) ∈ _)) (fun q => q.elim (xs_no n9 (by decide : ((110 : Int32), 218) ∈ _)) (xs_no n9 (by decide : ((112 : Int32), 218) ∈ _)))) h
    replace h := ifF (xs_no n9 (by decide : ((106 : Int32), 152) ∈ _)) h
    replace h := ifF (xs_no n9 (by decide : ((109 : Int32), 193) ∈ _)) h
    replace h := ifF (xs_no n9 (by decide : ((114 : Int32), 212) ∈ _)) h
    replace h := ifF (xs_no n9 (by decide : ((122 : Int32), 170) ∈ _)) h
    refine Y_aload_n (pc := 229) (j := 3) dX3_execute_229 rfl rfl ?_
    refine Y_aload_n (pc := 230) (j := 3) dX3_execute_230 rfl rfl ?_
    refine Z_geti (pc := 231) dX3_execute_231 w1_181 (lo_0 hP2 ho) fi_4_7 ?_
    refine Y_iload_n (pc := 234) (j := 0) dX3_execute_234 rfl rfl ?_
    obtain ⟨y8, qy8, h⟩ := bindE h
    have cy8 := v_X3_useStack ho hP2 qy8
    refine C_V2o (pc := 235) (k' := k_X3_useStack) dX3_execute_235 w5_221 i_X3_useStack (lo_0 hP2 ho) ⟨Nat.le_of_ble_eq_true rfl, Nat.le_of_ble_eq_true rfl⟩ rfl (Nat.le_of_ble_eq_true rfl) (Nat.le_of_ble_eq_true rfl) (Nat.le_of_ble_eq_true rfl) (cy8) ?_
    have hPy8 := cy8.1.1
    refine Y_iconst (pc := 238) (v := (0 : Int32)) dX3_execute_238 rfl ?_
    cases h
    exact Y_iret (pc := 239) rfl (nar_bo (by decide)) dX3_execute_239 hPy8 ⟨rfl, rfl⟩
theorem v_X3_execute {o : Nat} {M z} (ho : o = 18 ∨ o = 28) (hP : Lay M) (h : d_X3_execute o M = some z) : CC Lay k_X3_execute [.ref o] M z.2 (Qv (some (.int z.1)) z.2) xF :=
  CC.ofVV (by decide) rfl (Nat.le_of_ble_eq_true rfl) (b_X3_execute ho hP h)
noncomputable def d_X3_runOut_53 (k2 : (Int32) → Mem → Option (Unit × Mem)) (o : Nat) (x1 : Int32) (M : Mem) : Option (Unit × Mem) :=
  bnd ((x1 + (1 : Int32))) fun b1 =>
  k2 (b1) M
theorem b_X3_runOut_53 {k2 : (Int32) → Mem → Option (Unit × Mem)} {o : Nat} {x1 : Int32} {M z} (ho : o = 18 ∨ o = 28) (hk2 : ∀ (a : (Int32)) (M : Mem) (z : Unit × Mem), Lay M → k2 a M = some z → VV Lay k_X3_runOut 2 [(0, .ref o), (1, .int a)] [] M z.2 (Qv (none) z.2) xF) (hP : Lay M) (h : d_X3_runOut_53 k2 o x1 M = some z) : VV Lay k_X3_runOut 53 [(0, .ref o), (1, .int x1)] [] M z.2 (Qv (none) z.2) xF := by
  unfold d_X3_runOut_53 at h
  obtain ⟨b1, eb1, h⟩ := bndE h
  refine Y_iinc (pc := 53) (j := 1) (v := b1) (lv1 := [(1, .int b1), (0, .ref o)]) dX3_runOut_53 rfl eb1.symm (by decide) rfl ?_
  refine Y_goto (pc := 56) (tgt := 2) dX3_runOut_56 (by decide) ?_
  refine VV.sub [1, 0] rfl ?_
  exact hk2 _ _ _ hP h
noncomputable def d_X3_runOut_2b (k2 : (Int32) → Mem → Option (Unit × Mem)) (o : Nat) (x1 : Int32) (M : Mem) : Option (Unit × Mem) :=
  if (1000000 : Int32) ≤ x1 then (
    some ((), M))
  else (
    (d_X3_isRunning o M).bind fun y1 =>
    if y1.1 = 0 then (
      some ((), y1.2))
    else (
      (d_X3_isAtLimit o y1.2).bind fun y2 =>
      if y2.1 = 0 then (
        (d_X3_failureAhead o y2.2).bind fun y3 =>
        if y3.1 = (45 : Int32) then (
          (d_X3_execute o y3.2).bind fun y4 =>
          d_X3_runOut_53 k2 o x1 y4.2)
        else (
          (d_X3_failWith o y3.1 y3.2).bind fun y5 =>
          d_X3_runOut_53 k2 o x1 y5.2))
      else (
        (d_X3_endAtLimit o y2.2).bind fun y6 =>
        d_X3_runOut_53 k2 o x1 y6.2)))
theorem b_X3_runOut_2b {k2 : (Int32) → Mem → Option (Unit × Mem)} {o : Nat} {x1 : Int32} {M z} (ho : o = 18 ∨ o = 28) (hk2 : ∀ (a : (Int32)) (M : Mem) (z : Unit × Mem), Lay M → k2 a M = some z → VV Lay k_X3_runOut 2 [(0, .ref o), (1, .int a)] [] M z.2 (Qv (none) z.2) xF) (hP : Lay M) (h : d_X3_runOut_2b k2 o x1 M = some z) : VV Lay k_X3_runOut 2 [(0, .ref o), (1, .int x1)] [] M z.2 (Qv (none) z.2) xF := by
  unfold d_X3_runOut_2b at h
  refine Y_iload_n (pc := 2) (j := 1) dX3_runOut_2 rfl rfl ?_
  refine Y_ldc (pc := 3) dX3_runOut_3 w5_46 ?_
  refine Y_icmp_ge (pc := 5) (tgt := 59) dX3_runOut_5 (by decide) (fun hc1 => ?_) (fun hc1 => ?_)
  · replace h := ifT hc1 h
    cases h
    exact Y_vret (pc := 59) rfl dX3_runOut_59 hP ⟨rfl, rfl⟩
  · replace h := ifF hc1 h
    refine Y_aload_n (pc := 8) (j := 0) dX3_runOut_8 rfl rfl ?_
    obtain ⟨y1, qy1, h⟩ := bindE h
    have cy1 := v_X3_isRunning ho hP qy1
    refine C_V0r (pc := 9) (k' := k_X3_isRunning) dX3_runOut_9 w5_47 i_X3_isRunning (lo_0 hP ho) ⟨Nat.le_of_ble_eq_true rfl, Nat.le_of_ble_eq_true rfl⟩ rfl (Nat.le_of_ble_eq_true rfl) (Nat.le_of_ble_eq_true rfl) (Nat.le_of_ble_eq_true rfl) (cy1) ?_
    have hPy1 := cy1.1.1
    refine Y_if_eq (pc := 12) (tgt := 59) dX3_runOut_12 (by decide) (fun hc2 => ?_) (fun hc2 => ?_)
    · replace h := ifT hc2 h
      cases h
      exact Y_vret (pc := 59) rfl dX3_runOut_59 hPy1 ⟨rfl, rfl⟩
    · replace h := ifF hc2 h
      refine Y_aload_n (pc := 15) (j := 0) dX3_runOut_15 rfl rfl ?_
      obtain ⟨y2, qy2, h⟩ := bindE h
      have cy2 := v_X3_isAtLimit ho hPy1 qy2
      refine C_V0r (pc := 16) (k' := k_X3_isAtLimit) dX3_runOut_16 w5_51 i_X3_isAtLimit (lo_0 hPy1 ho) ⟨Nat.le_of_ble_eq_true rfl, Nat.le_of_ble_eq_true rfl⟩ rfl (Nat.le_of_ble_eq_true rfl) (Nat.le_of_ble_eq_true rfl) (Nat.le_of_ble_eq_true rfl) (cy2) ?_
      have hPy2 := cy2.1.1
      refine Y_if_eq (pc := 19) (tgt := 29) dX3_runOut_19 (by decide) (fun hc3 => ?_) (fun hc3 => ?_)
      · replace h := ifT hc3 h
        refine Y_aload_n (pc := 29) (j := 0) dX3_runOut_29 rfl rfl ?_
        obtain ⟨y3, qy3, h⟩ := bindE h
        have cy3 := v_X3_failureAhead ho hPy2 qy3
        refine C_V0r (pc := 30) (k' := k_X3_failureAhead) dX3_runOut_30 w5_75 i_X3_failureAhead (lo_0 hPy2 ho) ⟨Nat.le_of_ble_eq_true rfl, Nat.le_of_ble_eq_true rfl⟩ rfl (Nat.le_of_ble_eq_true rfl) (Nat.le_of_ble_eq_true rfl) (Nat.le_of_ble_eq_true rfl) (cy3) ?_
        have hPy3 := cy3.1.1
        refine Y_istore_n (pc := 33) (lv1 := [(2, .int y3.1), (0, .ref o), (1, .int x1)]) dX3_runOut_33 rfl (by decide) rfl ?_
        refine Y_iload_n (pc := 34) (j := 0) dX3_runOut_34 rfl rfl ?_
        refine Y_bipush (pc := 35) (v := (45 : Int32)) dX3_runOut_35 rfl ?_
        refine Y_icmp_eq (pc := 37) (tgt := 48) dX3_runOut_37 (by decide) (fun hc4 => ?_) (fun hc4 => ?_)
        · replace h := ifT hc4 h
          refine Y_aload_n (pc := 48) (j := 1) dX3_runOut_48 rfl rfl ?_
          obtain ⟨y4, qy4, h⟩ := bindE h
          have cy4 := v_X3_execute ho hPy3 qy4
          refine C_V0r (pc := 49) (k' := k_X3_execute) dX3_runOut_49 w5_173 i_X3_execute (lo_0 hPy3 ho) ⟨Nat.le_of_ble_eq_true rfl, Nat.le_of_ble_eq_true rfl⟩ rfl (Nat.le_of_ble_eq_true rfl) (Nat.le_of_ble_eq_true rfl) (Nat.le_of_ble_eq_true rfl) (cy4) ?_
          have hPy4 := cy4.1.1
          refine Y_pop (pc := 52) dX3_runOut_52 rfl ?_
          refine VV.sub [1, 2] rfl ?_
          exact b_X3_runOut_53 ho hk2 hPy4 h
        · replace h := ifF hc4 h
          refine Y_aload_n (pc := 40) (j := 1) dX3_runOut_40 rfl rfl ?_
          refine Y_iload_n (pc := 41) (j := 0) dX3_runOut_41 rfl rfl ?_
          obtain ⟨y5, qy5, h⟩ := bindE h
          have cy5 := v_X3_failWith ho hPy3 qy5
          refine C_V1o (pc := 42) (k' := k_X3_failWith) dX3_runOut_42 w5_165 i_X3_failWith (lo_0 hPy3 ho) ⟨Nat.le_of_ble_eq_true rfl, Nat.le_of_ble_eq_true rfl⟩ rfl (Nat.le_of_ble_eq_true rfl) (Nat.le_of_ble_eq_true rfl) (Nat.le_of_ble_eq_true rfl) (cy5) ?_
          have hPy5 := cy5.1.1
          refine Y_goto (pc := 45) (tgt := 53) dX3_runOut_45 (by decide) ?_
          refine VV.sub [1, 2] rfl ?_
          exact b_X3_runOut_53 ho hk2 hPy5 h
      · replace h := ifF hc3 h
        refine Y_aload_n (pc := 22) (j := 0) dX3_runOut_22 rfl rfl ?_
        obtain ⟨y6, qy6, h⟩ := bindE h
        have cy6 := v_X3_endAtLimit ho hPy2 qy6
        refine C_V0o (pc := 23) (k' := k_X3_endAtLimit) dX3_runOut_23 w5_55 i_X3_endAtLimit (lo_0 hPy2 ho) ⟨Nat.le_of_ble_eq_true rfl, Nat.le_of_ble_eq_true rfl⟩ rfl (Nat.le_of_ble_eq_true rfl) (Nat.le_of_ble_eq_true rfl) (Nat.le_of_ble_eq_true rfl) (cy6) ?_
        have hPy6 := cy6.1.1
        refine Y_goto (pc := 26) (tgt := 53) dX3_runOut_26 (by decide) ?_
        refine VV.sub [0, 1] rfl ?_
        exact b_X3_runOut_53 ho hk2 hPy6 h
noncomputable def d_X3_runOut_2 (o : Nat) : Nat → (Int32) → Mem → Option (Unit × Mem) := lp fun k a M => d_X3_runOut_2b k o a M
theorem b_X3_runOut_2 {o : Nat} (ho : o = 18 ∨ o = 28) (n : Nat) : ∀ (a : (Int32)) (M : Mem) (z : Unit × Mem), d_X3_runOut_2 o n a M = some z → Lay M → VV Lay k_X3_runOut 2 [(0, .ref o), (1, .int a)] [] M z.2 (Qv (none) z.2) xF :=
  lp_ind (G := fun (a : (Int32)) (M : Mem) (z : Unit × Mem) => Lay M → VV Lay k_X3_runOut 2 [(0, .ref o), (1, .int a)] [] M z.2 (Qv (none) z.2) xF) (fun k hk a M z h hP => b_X3_runOut_2b ho (fun a M z hP h => hk a M z h hP) hP h) n
noncomputable def d_X3_runOut (o : Nat) (M : Mem) : Option (Unit × Mem) :=
  d_X3_runOut_2 o fuel ((0 : Int32)) M
theorem b_X3_runOut {o : Nat} {M z} (ho : o = 18 ∨ o = 28) (hP : Lay M) (h : d_X3_runOut o M = some z) : VV Lay k_X3_runOut 0 [(0, .ref o)] [] M z.2 (Qv (none) z.2) xF := by
  unfold d_X3_runOut at h
  refine Y_iconst (pc := 0) (v := (0 : Int32)) dX3_runOut_0 rfl ?_
  refine Y_istore_n (pc := 1) (lv1 := [(1, .int (0 : Int32)), (0, .ref o)]) dX3_runOut_1 rfl (by decide) rfl ?_
  refine VV.sub [1, 0] rfl ?_
  exact b_X3_runOut_2 ho fuel _ _ _ h hP
theorem v_X3_runOut {o : Nat} {M z} (ho : o = 18 ∨ o = 28) (hP : Lay M) (h : d_X3_runOut o M = some z) : CC Lay k_X3_runOut [.ref o] M z.2 (Qv (none) z.2) xF :=
  CC.ofVV (by decide) rfl (Nat.le_of_ble_eq_true rfl) (b_X3_runOut ho hP h)
noncomputable def d_X3_answerTo (o : Nat) (x1 : Int32) (x2 : Int32) (M : Mem) : Option (Int32 × Mem) :=
  (d_X3_fromTop o x2 M).bind fun y1 =>
  if x1 = (107 : Int32) then (
    okk (vp_in y1.1 549) <|
    some ((mI y1.2 (o + 2) y1.1.toNatClampNeg), y1.2))
  else if x1 = (111 : Int32) then (
    (d_X3_fromTop o (1 : Int32) y1.2).bind fun y2 =>
    (d_X8_givesInteger o (mI y1.2 o 7) y1.1 y2.1 y2.2).bind fun y3 =>
    if y3.1 = 0 then (
      some ((0 : Int32), y3.2))
    else (
      some ((1 : Int32), y3.2)))
  else if x1 = (115 : Int32) then (
    (d_X3_shapeFromTop o x2 y1.2).bind fun y4 =>
    some (y4.1, y4.2))
  else (
    (d_X8_isNull o y1.1 y1.2).bind fun y5 =>
    if y5.1 = 0 then (
      some ((0 : Int32), y5.2))
    else (
      some ((1 : Int32), y5.2)))
theorem b_X3_answerTo {o : Nat} {x1 : Int32} {x2 : Int32} {M z} (ho : o = 18 ∨ o = 28) (hP : Lay M) (h : d_X3_answerTo o x1 x2 M = some z) : VV Lay k_X3_answerTo 0 [(0, .ref o), (1, .int x1), (2, .int x2)] [] M z.2 (Qv (some (.int z.1)) z.2) xF := by
  unfold d_X3_answerTo at h
  refine Y_aload_n (pc := 0) (j := 0) dX3_answerTo_0 rfl rfl ?_
  refine Y_iload_n (pc := 1) (j := 2) dX3_answerTo_1 rfl rfl ?_
  obtain ⟨y1, qy1, h⟩ := bindE h
  have cy1 := v_X3_fromTop ho hP qy1
  refine C_V1r (pc := 2) (k' := k_X3_fromTop) dX3_answerTo_2 w5_106 i_X3_fromTop (lo_0 hP ho) ⟨Nat.le_of_ble_eq_true rfl, Nat.le_of_ble_eq_true rfl⟩ rfl (Nat.le_of_ble_eq_true rfl) (Nat.le_of_ble_eq_true rfl) (Nat.le_of_ble_eq_true rfl) (cy1) ?_
  have hPy1 := cy1.1.1
  refine Y_istore_n (pc := 5) (lv1 := [(3, .int y1.1), (0, .ref o), (1, .int x1), (2, .int x2)]) dX3_answerTo_5 rfl (by decide) rfl ?_
  refine Y_iload_n (pc := 6) (j := 2) dX3_answerTo_6 rfl rfl ?_
  refine Y_lookup (pc := 7) dX3_answerTo_7 (by decide) [(107, 40), (111, 50), (115, 76)] 82 (by decide) (by decide) ?_ ?_
  · refine xs_cons ?_ <| xs_cons ?_ <| xs_cons ?_ <| xs_nil
    · intro e9
      replace h := ifT (by rw [e9] <;> decide) h
      refine Y_aload_n (pc := 40) (j := 1) dX3_answerTo_40 rfl rfl ?_
      refine Z_getr (pc := 41) dX3_answerTo_41 w1_171 (lo_0 hPy1 ho) fr_4_2 (lor_0_2 hPy1 ho) ?_
      refine Z_getr (pc := 44) dX3_answerTo_44 w1_151 (lo_1 hPy1 ho) fr_8_0 (lor_1_0 hPy1 ho) ?_
      refine Y_iload_n (pc := 47) (j := 0) dX3_answerTo_47 rfl rfl ?_
      obtain ⟨hb1, h⟩ := okE h
      refine Y_cald (pc := 48) dX3_answerTo_48 (lo_2 hPy1 ho) (lon_2 hPy1 ho) hb1 ?_
      cases h
      exact Y_iret (pc := 49) rfl rfl dX3_answerTo_49 hPy1 ⟨rfl, rfl⟩
    · intro e9
      replace h := ifF (by rw [e9] <;> decide) h
      replace h := ifT (by rw [e9] <;> decide) h
      refine Y_aload_n (pc := 50) (j := 1) dX3_answerTo_50 rfl rfl ?_
      refine Z_getr (pc := 51) dX3_answerTo_51 w1_171 (lo_0 hPy1 ho) fr_4_2 (lor_0_2 hPy1 ho) ?_
      refine Y_aload_n (pc := 54) (j := 1) dX3_answerTo_54 rfl rfl ?_
      refine Z_geti (pc := 55) dX3_answerTo_55 w1_181 (lo_0 hPy1 ho) fi_4_7 ?_
      refine Y_iload_n (pc := 58) (j := 0) dX3_answerTo_58 rfl rfl ?_
      refine Y_aload_n (pc := 59) (j := 1) dX3_answerTo_59 rfl rfl ?_
      refine Y_iconst (pc := 60) (v := (1 : Int32)) dX3_answerTo_60 rfl ?_
      obtain ⟨y2, qy2, h⟩ := bindE h
      have cy2 := v_X3_fromTop ho hPy1 qy2
      refine C_V1r (pc := 61) (k' := k_X3_fromTop) dX3_answerTo_61 w5_106 i_X3_fromTop (lo_0 hPy1 ho) ⟨Nat.le_of_ble_eq_true rfl, Nat.le_of_ble_eq_true rfl⟩ rfl (Nat.le_of_ble_eq_true rfl) (Nat.le_of_ble_eq_true rfl) (Nat.le_of_ble_eq_true rfl) (cy2) ?_
      have hPy2 := cy2.1.1
      obtain ⟨y3, qy3, h⟩ := bindE h
      have cy3 := v_X8_givesInteger ho hPy2 qy3
      refine C_V3r (pc := 64) (k' := k_X8_givesInteger) dX3_answerTo_64 w6_72 i_X8_givesInteger (lo_1 hPy2 ho) ⟨Nat.le_of_ble_eq_true rfl, Nat.le_of_ble_eq_true rfl⟩ rfl (Nat.le_of_ble_eq_true rfl) (Nat.le_of_ble_eq_true rfl) (Nat.le_of_ble_eq_true rfl) (cy3) ?_
      have hPy3 := cy3.1.1
      refine Y_if_eq (pc := 67) (tgt := 74) dX3_answerTo_67 (by decide) (fun hc1 => ?_) (fun hc1 => ?_)
      · replace h := ifT hc1 h
        refine Y_iconst (pc := 74) (v := (0 : Int32)) dX3_answerTo_74 rfl ?_
        cases h
        exact Y_iret (pc := 75) rfl rfl dX3_answerTo_75 hPy3 ⟨rfl, rfl⟩
      · replace h := ifF hc1 h
        refine Y_iconst (pc := 70) (v := (1 : Int32)) dX3_answerTo_70 rfl ?_
        refine Y_goto (pc := 71) (tgt := 75) dX3_answerTo_71 (by decide) ?_
        cases h
        exact Y_iret (pc := 75) rfl rfl dX3_answerTo_75 hPy3 ⟨rfl, rfl⟩
    · intro e9
      replace h := ifF (by rw [e9] <;> decide) h
      replace h := ifF (by rw [e9] <;> decide) h
      replace h := ifT (by rw [e9] <;> decide) h
      refine Y_aload_n (pc := 76) (j := 1) dX3_answerTo_76 rfl rfl ?_
      refine Y_iload_n (pc := 77) (j := 3) dX3_answerTo_77 rfl rfl ?_
      obtain ⟨y4, qy4, h⟩ := bindE h
      have cy4 := v_X3_shapeFromTop ho hPy1 qy4
      refine C_V1r (pc := 78) (k' := k_X3_shapeFromTop) dX3_answerTo_78 w5_140 i_X3_shapeFromTop (lo_0 hPy1 ho) ⟨Nat.le_of_ble_eq_true rfl, Nat.le_of_ble_eq_true rfl⟩ rfl (Nat.le_of_ble_eq_true rfl) (Nat.le_of_ble_eq_true rfl) (Nat.le_of_ble_eq_true rfl) (cy4) ?_
      have hPy4 := cy4.1.1
      cases h
      exact Y_iret (pc := 81) rfl rfl dX3_answerTo_81 hPy4 ⟨rfl, rfl⟩
  · intro n9
    replace h := ifF (xs_no n9 (by decide : ((107 : Int32), 40) ∈ _)) h
    replace h := ifF (xs_no n9 (by decide : ((111 : Int32), 50) ∈ _)) h
    replace h := ifF (xs_no n9 (by decide : ((115 : Int32), 76) ∈ _)) h
    refine Y_aload_n (pc := 82) (j := 1) dX3_answerTo_82 rfl rfl ?_
    refine Z_getr (pc := 83) dX3_answerTo_83 w1_171 (lo_0 hPy1 ho) fr_4_2 (lor_0_2 hPy1 ho) ?_
    refine Y_iload_n (pc := 86) (j := 0) dX3_answerTo_86 rfl rfl ?_
    obtain ⟨y5, qy5, h⟩ := bindE h
    have cy5 := v_X8_isNull ho hPy1 qy5
    refine C_V1r (pc := 87) (k' := k_X8_isNull) dX3_answerTo_87 w5_185 i_X8_isNull (lo_1 hPy1 ho) ⟨Nat.le_of_ble_eq_true rfl, Nat.le_of_ble_eq_true rfl⟩ rfl (Nat.le_of_ble_eq_true rfl) (Nat.le_of_ble_eq_true rfl) (Nat.le_of_ble_eq_true rfl) (cy5) ?_
    have hPy5 := cy5.1.1
    refine Y_if_eq (pc := 90) (tgt := 97) dX3_answerTo_90 (by decide) (fun hc2 => ?_) (fun hc2 => ?_)
    · replace h := ifT hc2 h
      refine Y_iconst (pc := 97) (v := (0 : Int32)) dX3_answerTo_97 rfl ?_
      cases h
      exact Y_iret (pc := 98) rfl rfl dX3_answerTo_98 hPy5 ⟨rfl, rfl⟩
    · replace h := ifF hc2 h
      refine Y_iconst (pc := 93) (v := (1 : Int32)) dX3_answerTo_93 rfl ?_
      refine Y_goto (pc := 94) (tgt := 98) dX3_answerTo_94 (by decide) ?_
      cases h
      exact Y_iret (pc := 98) rfl rfl dX3_answerTo_98 hPy5 ⟨rfl, rfl⟩
theorem v_X3_answerTo {o : Nat} {x1 : Int32} {x2 : Int32} {M z} (ho : o = 18 ∨ o = 28) (hP : Lay M) (h : d_X3_answerTo o x1 x2 M = some z) : CC Lay k_X3_answerTo [.ref o, .int x1, .int x2] M z.2 (Qv (some (.int z.1)) z.2) xF :=
  CC.ofVV (by decide) rfl (Nat.le_of_ble_eq_true rfl) (b_X3_answerTo ho hP h)
noncomputable def d_X4_isNegative (x0 : UInt64) (M : Mem) : Option (Int32 × Mem) :=
  if (Op.cmpValue (FP.dcmp x0 FP.dconst0) .g) < 0 then (
    some ((1 : Int32), M))
  else (
    if (Op.cmpValue (FP.dcmp x0 FP.dconst0) .l) = 0 then (
      if 0 ≤ (Op.cmpValue (FP.dcmp (FP.ddiv FP.dconst1 x0) FP.dconst0) .g) then (
        some ((0 : Int32), M))
      else (
        some ((1 : Int32), M)))
    else (
      some ((0 : Int32), M)))
theorem b_X4_isNegative {x0 : UInt64} {M z} (hP : Lay M) (h : d_X4_isNegative x0 M = some z) : VV Lay k_X4_isNegative 0 [(0, .double x0)] [] M z.2 (Qv (some (.int z.1)) z.2) xF := by
  unfold d_X4_isNegative at h
  refine Y_dload_n (pc := 0) (j := 0) dX4_isNegative_0 rfl rfl ?_
  refine Y_dconst0 (pc := 1) dX4_isNegative_1 ?_
  refine Y_dcmp (pc := 2) dX4_isNegative_2 ?_
  refine Y_if_lt (pc := 3) (tgt := 20) dX4_isNegative_3 (by decide) (fun hc1 => ?_) (fun hc1 => ?_)
  · replace h := ifT hc1 h
    refine Y_iconst (pc := 20) (v := (1 : Int32)) dX4_isNegative_20 rfl ?_
    refine Y_goto (pc := 21) (tgt := 25) dX4_isNegative_21 (by decide) ?_
    cases h
    exact Y_iret (pc := 25) rfl (nar_bo (by decide)) dX4_isNegative_25 hP ⟨rfl, rfl⟩
  · replace h := ifF hc1 h
    refine Y_dload_n (pc := 6) (j := 0) dX4_isNegative_6 rfl rfl ?_
    refine Y_dconst0 (pc := 7) dX4_isNegative_7 ?_
    refine Y_dcmp (pc := 8) dX4_isNegative_8 ?_
    refine Y_if_ne (pc := 9) (tgt := 24) dX4_isNegative_9 (by decide) (fun hc2 => ?_) (fun hc2 => ?_)
    · replace h := ifF hc2 h
      refine Y_iconst (pc := 24) (v := (0 : Int32)) dX4_isNegative_24 rfl ?_
      cases h
      exact Y_iret (pc := 25) rfl (nar_bo (by decide)) dX4_isNegative_25 hP ⟨rfl, rfl⟩
    · replace h := ifT hc2 h
      refine Y_dconst1 (pc := 12) dX4_isNegative_12 ?_
      refine Y_dload_n (pc := 13) (j := 0) dX4_isNegative_13 rfl rfl ?_
      refine Y_ddiv (pc := 14) dX4_isNegative_14 ?_
      refine Y_dconst0 (pc := 15) dX4_isNegative_15 ?_
      refine Y_dcmp (pc := 16) dX4_isNegative_16 ?_
      refine Y_if_ge (pc := 17) (tgt := 24) dX4_isNegative_17 (by decide) (fun hc3 => ?_) (fun hc3 => ?_)
      · replace h := ifT hc3 h
        refine Y_iconst (pc := 24) (v := (0 : Int32)) dX4_isNegative_24 rfl ?_
        cases h
        exact Y_iret (pc := 25) rfl (nar_bo (by decide)) dX4_isNegative_25 hP ⟨rfl, rfl⟩
      · replace h := ifF hc3 h
        refine Y_iconst (pc := 20) (v := (1 : Int32)) dX4_isNegative_20 rfl ?_
        refine Y_goto (pc := 21) (tgt := 25) dX4_isNegative_21 (by decide) ?_
        cases h
        exact Y_iret (pc := 25) rfl (nar_bo (by decide)) dX4_isNegative_25 hP ⟨rfl, rfl⟩
theorem v_X4_isNegative {x0 : UInt64} {M z} (hP : Lay M) (h : d_X4_isNegative x0 M = some z) : CC Lay k_X4_isNegative [.double x0] M z.2 (Qv (some (.int z.1)) z.2) xF :=
  CC.ofVV (by decide) rfl (Nat.le_of_ble_eq_true rfl) (b_X4_isNegative hP h)
noncomputable def d_X8_isSame (x1 : Int32) (M : Mem) : Option (Int32 × Mem) :=
  okk (vp_in x1 549) <|
  okk (vp_in x1 549) <|
  if (mI M 20 x1.toNatClampNeg) = (mI M 30 x1.toNatClampNeg) then (
    okk (vp_in x1 549) <|
    okk (vp_in x1 549) <|
    if (mI M 21 x1.toNatClampNeg) = (mI M 31 x1.toNatClampNeg) then (
      okk (vp_in x1 549) <|
      okk (vp_in x1 549) <|
      if (Op.cmpValue (FP.dcmp (mD M 22 x1.toNatClampNeg) (mD M 32 x1.toNatClampNeg)) .l) = 0 then (
        okk (vp_in x1 549) <|
        (d_X4_isNegative (mD M 22 x1.toNatClampNeg) M).bind fun y1 =>
        okk (vp_in x1 549) <|
        (d_X4_isNegative (mD y1.2 32 x1.toNatClampNeg) y1.2).bind fun y2 =>
        if y1.1 = y2.1 then (
          some ((1 : Int32), y2.2))
        else (
          some ((0 : Int32), y2.2)))
      else (
        some ((0 : Int32), M)))
    else (
      some ((0 : Int32), M)))
  else (
    some ((0 : Int32), M))
theorem b_X8_isSame {x1 : Int32} {M z} (hP : Lay M) (h : d_X8_isSame x1 M = some z) : VV Lay k_X8_isSame 0 [(0, .ref 19), (1, .int x1), (2, .ref 29)] [] M z.2 (Qv (some (.int z.1)) z.2) xF := by
  unfold d_X8_isSame at h
  refine Y_aload_n (pc := 0) (j := 0) dX8_isSame_0 rfl rfl ?_
  refine Z_getr (pc := 1) dX8_isSame_1 w1_149 (lk_19 hP) fr_8_0 (lr_19_0 hP) ?_
  refine Y_iload_n (pc := 4) (j := 1) dX8_isSame_4 rfl rfl ?_
  obtain ⟨hb1, h⟩ := okE h
  refine Y_cald (pc := 5) dX8_isSame_5 (lk_20 hP) (ln_20 hP) hb1 ?_
  refine Y_aload_n (pc := 6) (j := 2) dX8_isSame_6 rfl rfl ?_
  refine Z_getr (pc := 7) dX8_isSame_7 w1_149 (lk_29 hP) fr_8_0 (lr_29_0 hP) ?_
  refine Y_iload_n (pc := 10) (j := 1) dX8_isSame_10 rfl rfl ?_
  obtain ⟨hb2, h⟩ := okE h
  refine Y_cald (pc := 11) dX8_isSame_11 (lk_30 hP) (ln_30 hP) hb2 ?_
  refine Y_icmp_ne (pc := 12) (tgt := 71) dX8_isSame_12 (by decide) (fun hc1 => ?_) (fun hc1 => ?_)
  · replace h := ifF hc1 h
    refine Y_iconst (pc := 71) (v := (0 : Int32)) dX8_isSame_71 rfl ?_
    cases h
    exact Y_iret (pc := 72) rfl (nar_bo (by decide)) dX8_isSame_72 hP ⟨rfl, rfl⟩
  · replace h := ifT hc1 h
    refine Y_aload_n (pc := 15) (j := 0) dX8_isSame_15 rfl rfl ?_
    refine Z_getr (pc := 16) dX8_isSame_16 w1_152 (lk_19 hP) fr_8_1 (lr_19_1 hP) ?_
    refine Y_iload_n (pc := 19) (j := 1) dX8_isSame_19 rfl rfl ?_
    obtain ⟨hb3, h⟩ := okE h
    refine Y_iald (pc := 20) dX8_isSame_20 (lk_21 hP) (ln_21 hP) hb3 ?_
    refine Y_aload_n (pc := 21) (j := 2) dX8_isSame_21 rfl rfl ?_
    refine Z_getr (pc := 22) dX8_isSame_22 w1_152 (lk_29 hP) fr_8_1 (lr_29_1 hP) ?_
    refine Y_iload_n (pc := 25) (j := 1) dX8_isSame_25 rfl rfl ?_
    obtain ⟨hb4, h⟩ := okE h
    refine Y_iald (pc := 26) dX8_isSame_26 (lk_31 hP) (ln_31 hP) hb4 ?_
    refine Y_icmp_ne (pc := 27) (tgt := 71) dX8_isSame_27 (by decide) (fun hc2 => ?_) (fun hc2 => ?_)
    · replace h := ifF hc2 h
      refine Y_iconst (pc := 71) (v := (0 : Int32)) dX8_isSame_71 rfl ?_
      cases h
      exact Y_iret (pc := 72) rfl (nar_bo (by decide)) dX8_isSame_72 hP ⟨rfl, rfl⟩
    · replace h := ifT hc2 h
      refine Y_aload_n (pc := 30) (j := 0) dX8_isSame_30 rfl rfl ?_
      refine Z_getr (pc := 31) dX8_isSame_31 w1_154 (lk_19 hP) fr_8_2 (lr_19_2 hP) ?_
      refine Y_iload_n (pc := 34) (j := 1) dX8_isSame_34 rfl rfl ?_
      obtain ⟨hb5, h⟩ := okE h
      refine Y_dald (pc := 35) dX8_isSame_35 (lk_22 hP) (ln_22 hP) hb5 ?_
      refine Y_aload_n (pc := 36) (j := 2) dX8_isSame_36 rfl rfl ?_
      refine Z_getr (pc := 37) dX8_isSame_37 w1_154 (lk_29 hP) fr_8_2 (lr_29_2 hP) ?_
      refine Y_iload_n (pc := 40) (j := 1) dX8_isSame_40 rfl rfl ?_
      obtain ⟨hb6, h⟩ := okE h
      refine Y_dald (pc := 41) dX8_isSame_41 (lk_32 hP) (ln_32 hP) hb6 ?_
      refine Y_dcmp (pc := 42) dX8_isSame_42 ?_
      refine Y_if_ne (pc := 43) (tgt := 71) dX8_isSame_43 (by decide) (fun hc3 => ?_) (fun hc3 => ?_)
      · replace h := ifF hc3 h
        refine Y_iconst (pc := 71) (v := (0 : Int32)) dX8_isSame_71 rfl ?_
        cases h
        exact Y_iret (pc := 72) rfl (nar_bo (by decide)) dX8_isSame_72 hP ⟨rfl, rfl⟩
      · replace h := ifT hc3 h
        refine Y_aload_n (pc := 46) (j := 0) dX8_isSame_46 rfl rfl ?_
        refine Z_getr (pc := 47) dX8_isSame_47 w1_154 (lk_19 hP) fr_8_2 (lr_19_2 hP) ?_
        refine Y_iload_n (pc := 50) (j := 1) dX8_isSame_50 rfl rfl ?_
        obtain ⟨hb7, h⟩ := okE h
        refine Y_dald (pc := 51) dX8_isSame_51 (lk_22 hP) (ln_22 hP) hb7 ?_
        obtain ⟨y1, qy1, h⟩ := bindE h
        have cy1 := v_X4_isNegative hP qy1
        refine C_S1r (pc := 52) (k' := k_X4_isNegative) dX8_isSame_52 w6_238 i_X4_isNegative (Nat.le_of_ble_eq_true rfl) (Nat.le_of_ble_eq_true rfl) (Nat.le_of_ble_eq_true rfl) (cy1) ?_
        have hPy1 := cy1.1.1
        refine Y_aload_n (pc := 55) (j := 2) dX8_isSame_55 rfl rfl ?_
        refine Z_getr (pc := 56) dX8_isSame_56 w1_154 (lk_29 hPy1) fr_8_2 (lr_29_2 hPy1) ?_
        refine Y_iload_n (pc := 59) (j := 1) dX8_isSame_59 rfl rfl ?_
        obtain ⟨hb8, h⟩ := okE h
        refine Y_dald (pc := 60) dX8_isSame_60 (lk_32 hPy1) (ln_32 hPy1) hb8 ?_
        obtain ⟨y2, qy2, h⟩ := bindE h
        have cy2 := v_X4_isNegative hPy1 qy2
        refine C_S1r (pc := 61) (k' := k_X4_isNegative) dX8_isSame_61 w6_238 i_X4_isNegative (Nat.le_of_ble_eq_true rfl) (Nat.le_of_ble_eq_true rfl) (Nat.le_of_ble_eq_true rfl) (cy2) ?_
        have hPy2 := cy2.1.1
        refine Y_icmp_ne (pc := 64) (tgt := 71) dX8_isSame_64 (by decide) (fun hc4 => ?_) (fun hc4 => ?_)
        · replace h := ifF hc4 h
          refine Y_iconst (pc := 71) (v := (0 : Int32)) dX8_isSame_71 rfl ?_
          cases h
          exact Y_iret (pc := 72) rfl (nar_bo (by decide)) dX8_isSame_72 hPy2 ⟨rfl, rfl⟩
        · replace h := ifT hc4 h
          refine Y_iconst (pc := 67) (v := (1 : Int32)) dX8_isSame_67 rfl ?_
          refine Y_goto (pc := 68) (tgt := 72) dX8_isSame_68 (by decide) ?_
          cases h
          exact Y_iret (pc := 72) rfl (nar_bo (by decide)) dX8_isSame_72 hPy2 ⟨rfl, rfl⟩
theorem v_X8_isSame {x1 : Int32} {M z} (hP : Lay M) (h : d_X8_isSame x1 M = some z) : CC Lay k_X8_isSame [.ref 19, .int x1, .ref 29] M z.2 (Qv (some (.int z.1)) z.2) xF :=
  CC.ofVV (by decide) rfl (Nat.le_of_ble_eq_true rfl) (b_X8_isSame hP h)
noncomputable def d_X3_hasToldLike_55 (k19 : (Int32 × Int32) → Mem → Option (Int32 × Mem)) (x3 : Int32) (s0 : Int32) (M : Mem) : Option (Int32 × Mem) :=
  bnd ((x3 + (1 : Int32))) fun b1 =>
  k19 (s0, b1) M
theorem b_X3_hasToldLike_55 {k19 : (Int32 × Int32) → Mem → Option (Int32 × Mem)} {x3 : Int32} {s0 : Int32} {M z} (hk19 : ∀ (a : (Int32 × Int32)) (M : Mem) (z : Int32 × Mem), Lay M → k19 a M = some z → VV Lay k_X3_hasToldLike 19 [(0, .ref 18), (1, .ref 28), (2, .int a.1), (3, .int a.2)] [] M z.2 (Qv (some (.int z.1)) z.2) xF) (hP : Lay M) (h : d_X3_hasToldLike_55 k19 x3 s0 M = some z) : VV Lay k_X3_hasToldLike 55 [(0, .ref 18), (1, .ref 28), (3, .int x3)] [.int s0] M z.2 (Qv (some (.int z.1)) z.2) xF := by
  unfold d_X3_hasToldLike_55 at h
  refine Y_istore_n (pc := 55) (lv1 := [(2, .int s0), (0, .ref 18), (1, .ref 28), (3, .int x3)]) dX3_hasToldLike_55 rfl (by decide) rfl ?_
  obtain ⟨b1, eb1, h⟩ := bndE h
  refine Y_iinc (pc := 56) (j := 3) (v := b1) (lv1 := [(3, .int b1), (2, .int s0), (0, .ref 18), (1, .ref 28)]) dX3_hasToldLike_56 rfl eb1.symm (by decide) rfl ?_
  refine Y_goto (pc := 59) (tgt := 19) dX3_hasToldLike_59 (by decide) ?_
  refine VV.sub [2, 3, 1, 0] rfl ?_
  exact hk19 _ _ _ hP h
noncomputable def d_X3_hasToldLike_54 (k19 : (Int32 × Int32) → Mem → Option (Int32 × Mem)) (x3 : Int32) (M : Mem) : Option (Int32 × Mem) :=
  d_X3_hasToldLike_55 k19 x3 (0 : Int32) M
theorem b_X3_hasToldLike_54 {k19 : (Int32 × Int32) → Mem → Option (Int32 × Mem)} {x3 : Int32} {M z} (hk19 : ∀ (a : (Int32 × Int32)) (M : Mem) (z : Int32 × Mem), Lay M → k19 a M = some z → VV Lay k_X3_hasToldLike 19 [(0, .ref 18), (1, .ref 28), (2, .int a.1), (3, .int a.2)] [] M z.2 (Qv (some (.int z.1)) z.2) xF) (hP : Lay M) (h : d_X3_hasToldLike_54 k19 x3 M = some z) : VV Lay k_X3_hasToldLike 54 [(0, .ref 18), (1, .ref 28), (3, .int x3)] [] M z.2 (Qv (some (.int z.1)) z.2) xF := by
  unfold d_X3_hasToldLike_54 at h
  refine Y_iconst (pc := 54) (v := (0 : Int32)) dX3_hasToldLike_54 rfl ?_
  refine VV.sub [0, 1, 2] rfl ?_
  exact b_X3_hasToldLike_55 hk19 hP h
noncomputable def d_X3_hasToldLike_19b (k19 : (Int32 × Int32) → Mem → Option (Int32 × Mem)) (x2 : Int32) (x3 : Int32) (M : Mem) : Option (Int32 × Mem) :=
  if (mI M 18 11) ≤ x3 then (
    okk (isBo x2) <|
    some (x2, M))
  else (
    if x2 = 0 then (
      d_X3_hasToldLike_54 k19 x3 M)
    else (
      (d_X8_isSame ((528 : Int32) + x3) M).bind fun y1 =>
      if y1.1 = 0 then (
        d_X3_hasToldLike_54 k19 x3 y1.2)
      else (
        d_X3_hasToldLike_55 k19 x3 (1 : Int32) y1.2)))
theorem b_X3_hasToldLike_19b {k19 : (Int32 × Int32) → Mem → Option (Int32 × Mem)} {x2 : Int32} {x3 : Int32} {M z} (hk19 : ∀ (a : (Int32 × Int32)) (M : Mem) (z : Int32 × Mem), Lay M → k19 a M = some z → VV Lay k_X3_hasToldLike 19 [(0, .ref 18), (1, .ref 28), (2, .int a.1), (3, .int a.2)] [] M z.2 (Qv (some (.int z.1)) z.2) xF) (hP : Lay M) (h : d_X3_hasToldLike_19b k19 x2 x3 M = some z) : VV Lay k_X3_hasToldLike 19 [(0, .ref 18), (1, .ref 28), (2, .int x2), (3, .int x3)] [] M z.2 (Qv (some (.int z.1)) z.2) xF := by
  unfold d_X3_hasToldLike_19b at h
  refine Y_iload_n (pc := 19) (j := 3) dX3_hasToldLike_19 rfl rfl ?_
  refine Y_aload_n (pc := 20) (j := 0) dX3_hasToldLike_20 rfl rfl ?_
  refine Z_geti (pc := 21) dX3_hasToldLike_21 w1_189 (lk_18 hP) fi_4_11 ?_
  refine Y_icmp_ge (pc := 24) (tgt := 62) dX3_hasToldLike_24 (by decide) (fun hc1 => ?_) (fun hc1 => ?_)
  · replace h := ifT hc1 h
    refine Y_iload_n (pc := 62) (j := 2) dX3_hasToldLike_62 rfl rfl ?_
    obtain ⟨hb1, h⟩ := okE h
    cases h
    exact Y_iret (pc := 63) rfl (nar_bo hb1) dX3_hasToldLike_63 hP ⟨rfl, rfl⟩
  · replace h := ifF hc1 h
    refine Y_iload_n (pc := 27) (j := 2) dX3_hasToldLike_27 rfl rfl ?_
    refine Y_if_eq (pc := 28) (tgt := 54) dX3_hasToldLike_28 (by decide) (fun hc2 => ?_) (fun hc2 => ?_)
    · replace h := ifT hc2 h
      refine VV.sub [0, 1, 3] rfl ?_
      exact b_X3_hasToldLike_54 hk19 hP h
    · replace h := ifF hc2 h
      refine Y_aload_n (pc := 31) (j := 0) dX3_hasToldLike_31 rfl rfl ?_
      refine Z_getr (pc := 32) dX3_hasToldLike_32 w1_171 (lk_18 hP) fr_4_2 (lr_18_2 hP) ?_
      refine Y_sipush (pc := 35) (v := (528 : Int32)) dX3_hasToldLike_35 rfl ?_
      refine Y_iload_n (pc := 38) (j := 3) dX3_hasToldLike_38 rfl rfl ?_
      refine Y_iadd (pc := 39) dX3_hasToldLike_39 ?_
      refine Y_aload_n (pc := 40) (j := 1) dX3_hasToldLike_40 rfl rfl ?_
      refine Z_getr (pc := 41) dX3_hasToldLike_41 w1_171 (lk_28 hP) fr_4_2 (lr_28_2 hP) ?_
      obtain ⟨y1, qy1, h⟩ := bindE h
      have cy1 := v_X8_isSame hP qy1
      refine C_V2r (pc := 44) (k' := k_X8_isSame) dX3_hasToldLike_44 w6_234 i_X8_isSame (lk_19 hP) ⟨Nat.le_of_ble_eq_true rfl, Nat.le_of_ble_eq_true rfl⟩ rfl (Nat.le_of_ble_eq_true rfl) (Nat.le_of_ble_eq_true rfl) (Nat.le_of_ble_eq_true rfl) (cy1) ?_
      have hPy1 := cy1.1.1
      refine Y_if_eq (pc := 47) (tgt := 54) dX3_hasToldLike_47 (by decide) (fun hc3 => ?_) (fun hc3 => ?_)
      · replace h := ifT hc3 h
        refine VV.sub [0, 1, 3] rfl ?_
        exact b_X3_hasToldLike_54 hk19 hPy1 h
      · replace h := ifF hc3 h
        refine Y_iconst (pc := 50) (v := (1 : Int32)) dX3_hasToldLike_50 rfl ?_
        refine Y_goto (pc := 51) (tgt := 55) dX3_hasToldLike_51 (by decide) ?_
        refine VV.sub [0, 1, 3] rfl ?_
        exact b_X3_hasToldLike_55 hk19 hPy1 h
noncomputable def d_X3_hasToldLike_19 : Nat → (Int32 × Int32) → Mem → Option (Int32 × Mem) := lp fun k a M => d_X3_hasToldLike_19b k a.1 a.2 M
theorem b_X3_hasToldLike_19 (n : Nat) : ∀ (a : (Int32 × Int32)) (M : Mem) (z : Int32 × Mem), d_X3_hasToldLike_19 n a M = some z → Lay M → VV Lay k_X3_hasToldLike 19 [(0, .ref 18), (1, .ref 28), (2, .int a.1), (3, .int a.2)] [] M z.2 (Qv (some (.int z.1)) z.2) xF :=
  lp_ind (G := fun (a : (Int32 × Int32)) (M : Mem) (z : Int32 × Mem) => Lay M → VV Lay k_X3_hasToldLike 19 [(0, .ref 18), (1, .ref 28), (2, .int a.1), (3, .int a.2)] [] M z.2 (Qv (some (.int z.1)) z.2) xF) (fun k hk a M z h hP => b_X3_hasToldLike_19b  (fun a M z hP h => hk a M z h hP) hP h) n
noncomputable def d_X3_hasToldLike_16 (s0 : Int32) (M : Mem) : Option (Int32 × Mem) :=
  d_X3_hasToldLike_19 fuel (s0, (0 : Int32)) M
theorem b_X3_hasToldLike_16 {s0 : Int32} {M z} (hP : Lay M) (h : d_X3_hasToldLike_16 s0 M = some z) : VV Lay k_X3_hasToldLike 16 [(0, .ref 18), (1, .ref 28)] [.int s0] M z.2 (Qv (some (.int z.1)) z.2) xF := by
  unfold d_X3_hasToldLike_16 at h
  refine Y_istore_n (pc := 16) (lv1 := [(2, .int s0), (0, .ref 18), (1, .ref 28)]) dX3_hasToldLike_16 rfl (by decide) rfl ?_
  refine Y_iconst (pc := 17) (v := (0 : Int32)) dX3_hasToldLike_17 rfl ?_
  refine Y_istore_n (pc := 18) (lv1 := [(3, .int (0 : Int32)), (2, .int s0), (0, .ref 18), (1, .ref 28)]) dX3_hasToldLike_18 rfl (by decide) rfl ?_
  refine VV.sub [2, 3, 1, 0] rfl ?_
  exact b_X3_hasToldLike_19  fuel _ _ _ h hP
noncomputable def d_X3_hasToldLike (M : Mem) : Option (Int32 × Mem) :=
  if (mI M 18 11) = (mI M 28 11) then (
    d_X3_hasToldLike_16 (1 : Int32) M)
  else (
    d_X3_hasToldLike_16 (0 : Int32) M)
theorem b_X3_hasToldLike {M z} (hP : Lay M) (h : d_X3_hasToldLike M = some z) : VV Lay k_X3_hasToldLike 0 [(0, .ref 18), (1, .ref 28)] [] M z.2 (Qv (some (.int z.1)) z.2) xF := by
  unfold d_X3_hasToldLike at h
  refine Y_aload_n (pc := 0) (j := 0) dX3_hasToldLike_0 rfl rfl ?_
  refine Z_geti (pc := 1) dX3_hasToldLike_1 w1_189 (lk_18 hP) fi_4_11 ?_
  refine Y_aload_n (pc := 4) (j := 1) dX3_hasToldLike_4 rfl rfl ?_
  refine Z_geti (pc := 5) dX3_hasToldLike_5 w1_189 (lk_28 hP) fi_4_11 ?_
  refine Y_icmp_ne (pc := 8) (tgt := 15) dX3_hasToldLike_8 (by decide) (fun hc1 => ?_) (fun hc1 => ?_)
  · replace h := ifF hc1 h
    refine Y_iconst (pc := 15) (v := (0 : Int32)) dX3_hasToldLike_15 rfl ?_
    refine VV.sub [0, 1] rfl ?_
    exact b_X3_hasToldLike_16  hP h
  · replace h := ifT hc1 h
    refine Y_iconst (pc := 11) (v := (1 : Int32)) dX3_hasToldLike_11 rfl ?_
    refine Y_goto (pc := 12) (tgt := 16) dX3_hasToldLike_12 (by decide) ?_
    refine VV.sub [0, 1] rfl ?_
    exact b_X3_hasToldLike_16  hP h
theorem v_X3_hasToldLike {M z} (hP : Lay M) (h : d_X3_hasToldLike M = some z) : CC Lay k_X3_hasToldLike [.ref 18, .ref 28] M z.2 (Qv (some (.int z.1)) z.2) xF :=
  CC.ofVV (by decide) rfl (Nat.le_of_ble_eq_true rfl) (b_X3_hasToldLike hP h)
noncomputable def d_X3_hasFieldsLike_60 (k5 : (Int32 × Int32) → Mem → Option (Int32 × Mem)) (x1 : Int32) (x3 : Int32) (x4 : Int32) (M : Mem) : Option (Int32 × Mem) :=
  bnd ((x4 + (1 : Int32))) fun b1 =>
  k5 (x3, b1) M
theorem b_X3_hasFieldsLike_60 {k5 : (Int32 × Int32) → Mem → Option (Int32 × Mem)} {x1 : Int32} {x3 : Int32} {x4 : Int32} {M z} (hk5 : ∀ (a : (Int32 × Int32)) (M : Mem) (z : Int32 × Mem), Lay M → k5 a M = some z → VV Lay k_X3_hasFieldsLike 5 [(0, .ref 18), (1, .int x1), (2, .ref 28), (3, .int a.1), (4, .int a.2)] [] M z.2 (Qv (some (.int z.1)) z.2) xF) (hP : Lay M) (h : d_X3_hasFieldsLike_60 k5 x1 x3 x4 M = some z) : VV Lay k_X3_hasFieldsLike 60 [(0, .ref 18), (1, .int x1), (2, .ref 28), (3, .int x3), (4, .int x4)] [] M z.2 (Qv (some (.int z.1)) z.2) xF := by
  unfold d_X3_hasFieldsLike_60 at h
  obtain ⟨b1, eb1, h⟩ := bndE h
  refine Y_iinc (pc := 60) (j := 4) (v := b1) (lv1 := [(4, .int b1), (0, .ref 18), (1, .int x1), (2, .ref 28), (3, .int x3)]) dX3_hasFieldsLike_60 rfl eb1.symm (by decide) rfl ?_
  refine Y_goto (pc := 63) (tgt := 5) dX3_hasFieldsLike_63 (by decide) ?_
  refine VV.sub [1, 2, 3, 4, 0] rfl ?_
  exact hk5 _ _ _ hP h
noncomputable def d_X3_hasFieldsLike_59 (k5 : (Int32 × Int32) → Mem → Option (Int32 × Mem)) (x1 : Int32) (x4 : Int32) (s0 : Int32) (M : Mem) : Option (Int32 × Mem) :=
  d_X3_hasFieldsLike_60 k5 x1 s0 x4 M
theorem b_X3_hasFieldsLike_59 {k5 : (Int32 × Int32) → Mem → Option (Int32 × Mem)} {x1 : Int32} {x4 : Int32} {s0 : Int32} {M z} (hk5 : ∀ (a : (Int32 × Int32)) (M : Mem) (z : Int32 × Mem), Lay M → k5 a M = some z → VV Lay k_X3_hasFieldsLike 5 [(0, .ref 18), (1, .int x1), (2, .ref 28), (3, .int a.1), (4, .int a.2)] [] M z.2 (Qv (some (.int z.1)) z.2) xF) (hP : Lay M) (h : d_X3_hasFieldsLike_59 k5 x1 x4 s0 M = some z) : VV Lay k_X3_hasFieldsLike 59 [(0, .ref 18), (1, .int x1), (2, .ref 28), (4, .int x4)] [.int s0] M z.2 (Qv (some (.int z.1)) z.2) xF := by
  unfold d_X3_hasFieldsLike_59 at h
  refine Y_istore_n (pc := 59) (lv1 := [(3, .int s0), (0, .ref 18), (1, .int x1), (2, .ref 28), (4, .int x4)]) dX3_hasFieldsLike_59 rfl (by decide) rfl ?_
  refine VV.sub [1, 2, 3, 0, 4] rfl ?_
  exact b_X3_hasFieldsLike_60 hk5 hP h
noncomputable def d_X3_hasFieldsLike_58 (k5 : (Int32 × Int32) → Mem → Option (Int32 × Mem)) (x1 : Int32) (x4 : Int32) (M : Mem) : Option (Int32 × Mem) :=
  d_X3_hasFieldsLike_59 k5 x1 x4 (0 : Int32) M
theorem b_X3_hasFieldsLike_58 {k5 : (Int32 × Int32) → Mem → Option (Int32 × Mem)} {x1 : Int32} {x4 : Int32} {M z} (hk5 : ∀ (a : (Int32 × Int32)) (M : Mem) (z : Int32 × Mem), Lay M → k5 a M = some z → VV Lay k_X3_hasFieldsLike 5 [(0, .ref 18), (1, .int x1), (2, .ref 28), (3, .int a.1), (4, .int a.2)] [] M z.2 (Qv (some (.int z.1)) z.2) xF) (hP : Lay M) (h : d_X3_hasFieldsLike_58 k5 x1 x4 M = some z) : VV Lay k_X3_hasFieldsLike 58 [(0, .ref 18), (1, .int x1), (2, .ref 28), (4, .int x4)] [] M z.2 (Qv (some (.int z.1)) z.2) xF := by
  unfold d_X3_hasFieldsLike_58 at h
  refine Y_iconst (pc := 58) (v := (0 : Int32)) dX3_hasFieldsLike_58 rfl ?_
  refine VV.sub [0, 1, 2, 3] rfl ?_
  exact b_X3_hasFieldsLike_59 hk5 hP h
noncomputable def d_X3_hasFieldsLike_5b (k5 : (Int32 × Int32) → Mem → Option (Int32 × Mem)) (x1 : Int32) (x3 : Int32) (x4 : Int32) (M : Mem) : Option (Int32 × Mem) :=
  if (6 : Int32) ≤ x4 then (
    okk (isBo x3) <|
    some (x3, M))
  else (
    okk (vp_in x1 60) <|
    (d_X7_has (mI M 27 x1.toNatClampNeg) x4 M).bind fun y1 =>
    if y1.1 = 0 then (
      d_X3_hasFieldsLike_60 k5 x1 x3 x4 y1.2)
    else (
      if x3 = 0 then (
        d_X3_hasFieldsLike_58 k5 x1 x4 y1.2)
      else (
        (d_X11_fieldPlace x1 x4 y1.2).bind fun y2 =>
        (d_X8_isSame y2.1 y2.2).bind fun y3 =>
        if y3.1 = 0 then (
          d_X3_hasFieldsLike_58 k5 x1 x4 y3.2)
        else (
          d_X3_hasFieldsLike_59 k5 x1 x4 (1 : Int32) y3.2))))
theorem b_X3_hasFieldsLike_5b {k5 : (Int32 × Int32) → Mem → Option (Int32 × Mem)} {x1 : Int32} {x3 : Int32} {x4 : Int32} {M z} (hk5 : ∀ (a : (Int32 × Int32)) (M : Mem) (z : Int32 × Mem), Lay M → k5 a M = some z → VV Lay k_X3_hasFieldsLike 5 [(0, .ref 18), (1, .int x1), (2, .ref 28), (3, .int a.1), (4, .int a.2)] [] M z.2 (Qv (some (.int z.1)) z.2) xF) (hP : Lay M) (h : d_X3_hasFieldsLike_5b k5 x1 x3 x4 M = some z) : VV Lay k_X3_hasFieldsLike 5 [(0, .ref 18), (1, .int x1), (2, .ref 28), (3, .int x3), (4, .int x4)] [] M z.2 (Qv (some (.int z.1)) z.2) xF := by
  unfold d_X3_hasFieldsLike_5b at h
  refine Y_iload (pc := 5) (j := 4) dX3_hasFieldsLike_5 rfl ?_
  refine Y_bipush (pc := 7) (v := (6 : Int32)) dX3_hasFieldsLike_7 rfl ?_
  refine Y_icmp_ge (pc := 9) (tgt := 66) dX3_hasFieldsLike_9 (by decide) (fun hc1 => ?_) (fun hc1 => ?_)
  · replace h := ifT hc1 h
    refine Y_iload_n (pc := 66) (j := 3) dX3_hasFieldsLike_66 rfl rfl ?_
    obtain ⟨hb1, h⟩ := okE h
    cases h
    exact Y_iret (pc := 67) rfl (nar_bo hb1) dX3_hasFieldsLike_67 hP ⟨rfl, rfl⟩
  · replace h := ifF hc1 h
    refine Y_aload_n (pc := 12) (j := 0) dX3_hasFieldsLike_12 rfl rfl ?_
    refine Z_getr (pc := 13) dX3_hasFieldsLike_13 w1_169 (lk_18 hP) fr_4_1 (lr_18_1 hP) ?_
    refine Y_aload_n (pc := 16) (j := 0) dX3_hasFieldsLike_16 rfl rfl ?_
    refine Z_getr (pc := 17) dX3_hasFieldsLike_17 w1_177 (lk_18 hP) fr_4_6 (lr_18_6 hP) ?_
    refine Y_iload_n (pc := 20) (j := 1) dX3_hasFieldsLike_20 rfl rfl ?_
    obtain ⟨hb2, h⟩ := okE h
    refine Y_iald (pc := 21) dX3_hasFieldsLike_21 (lk_27 hP) (ln_27 hP) hb2 ?_
    refine Y_iload (pc := 22) (j := 4) dX3_hasFieldsLike_22 rfl ?_
    obtain ⟨y1, qy1, h⟩ := bindE h
    have cy1 := v_X7_has hP qy1
    refine C_V2r (pc := 24) (k' := k_X7_has) dX3_hasFieldsLike_24 w5_144 i_X7_has (lk_11 hP) ⟨Nat.le_of_ble_eq_true rfl, Nat.le_of_ble_eq_true rfl⟩ rfl (Nat.le_of_ble_eq_true rfl) (Nat.le_of_ble_eq_true rfl) (Nat.le_of_ble_eq_true rfl) (cy1) ?_
    have hPy1 := cy1.1.1
    refine Y_if_eq (pc := 27) (tgt := 60) dX3_hasFieldsLike_27 (by decide) (fun hc2 => ?_) (fun hc2 => ?_)
    · replace h := ifT hc2 h
      refine VV.sub [0, 1, 2, 3, 4] rfl ?_
      exact b_X3_hasFieldsLike_60 hk5 hPy1 h
    · replace h := ifF hc2 h
      refine Y_iload_n (pc := 30) (j := 3) dX3_hasFieldsLike_30 rfl rfl ?_
      refine Y_if_eq (pc := 31) (tgt := 58) dX3_hasFieldsLike_31 (by decide) (fun hc3 => ?_) (fun hc3 => ?_)
      · replace h := ifT hc3 h
        refine VV.sub [0, 1, 2, 4] rfl ?_
        exact b_X3_hasFieldsLike_58 hk5 hPy1 h
      · replace h := ifF hc3 h
        refine Y_aload_n (pc := 34) (j := 0) dX3_hasFieldsLike_34 rfl rfl ?_
        refine Z_getr (pc := 35) dX3_hasFieldsLike_35 w1_171 (lk_18 hPy1) fr_4_2 (lr_18_2 hPy1) ?_
        refine Y_iload_n (pc := 38) (j := 1) dX3_hasFieldsLike_38 rfl rfl ?_
        refine Y_iload (pc := 39) (j := 4) dX3_hasFieldsLike_39 rfl ?_
        obtain ⟨y2, qy2, h⟩ := bindE h
        have cy2 := v_X11_fieldPlace hPy1 qy2
        refine C_N2r (pc := 41) (k' := k_X11_fieldPlace) dX3_hasFieldsLike_41 nl_Machine_260 i_X11_fieldPlace (Nat.le_of_ble_eq_true rfl) (Nat.le_of_ble_eq_true rfl) (Nat.le_of_ble_eq_true rfl) (cy2) ?_
        have hPy2 := cy2.1.1
        refine Y_aload_n (pc := 44) (j := 2) dX3_hasFieldsLike_44 rfl rfl ?_
        refine Z_getr (pc := 45) dX3_hasFieldsLike_45 w1_171 (lk_28 hPy2) fr_4_2 (lr_28_2 hPy2) ?_
        obtain ⟨y3, qy3, h⟩ := bindE h
        have cy3 := v_X8_isSame hPy2 qy3
        refine C_V2r (pc := 48) (k' := k_X8_isSame) dX3_hasFieldsLike_48 w6_234 i_X8_isSame (lk_19 hPy2) ⟨Nat.le_of_ble_eq_true rfl, Nat.le_of_ble_eq_true rfl⟩ rfl (Nat.le_of_ble_eq_true rfl) (Nat.le_of_ble_eq_true rfl) (Nat.le_of_ble_eq_true rfl) (cy3) ?_
        have hPy3 := cy3.1.1
        refine Y_if_eq (pc := 51) (tgt := 58) dX3_hasFieldsLike_51 (by decide) (fun hc4 => ?_) (fun hc4 => ?_)
        · replace h := ifT hc4 h
          refine VV.sub [0, 1, 2, 4] rfl ?_
          exact b_X3_hasFieldsLike_58 hk5 hPy3 h
        · replace h := ifF hc4 h
          refine Y_iconst (pc := 54) (v := (1 : Int32)) dX3_hasFieldsLike_54 rfl ?_
          refine Y_goto (pc := 55) (tgt := 59) dX3_hasFieldsLike_55 (by decide) ?_
          refine VV.sub [0, 1, 2, 4] rfl ?_
          exact b_X3_hasFieldsLike_59 hk5 hPy3 h
noncomputable def d_X3_hasFieldsLike_5 (x1 : Int32) : Nat → (Int32 × Int32) → Mem → Option (Int32 × Mem) := lp fun k a M => d_X3_hasFieldsLike_5b k x1 a.1 a.2 M
theorem b_X3_hasFieldsLike_5 {x1 : Int32} (n : Nat) : ∀ (a : (Int32 × Int32)) (M : Mem) (z : Int32 × Mem), d_X3_hasFieldsLike_5 x1 n a M = some z → Lay M → VV Lay k_X3_hasFieldsLike 5 [(0, .ref 18), (1, .int x1), (2, .ref 28), (3, .int a.1), (4, .int a.2)] [] M z.2 (Qv (some (.int z.1)) z.2) xF :=
  lp_ind (G := fun (a : (Int32 × Int32)) (M : Mem) (z : Int32 × Mem) => Lay M → VV Lay k_X3_hasFieldsLike 5 [(0, .ref 18), (1, .int x1), (2, .ref 28), (3, .int a.1), (4, .int a.2)] [] M z.2 (Qv (some (.int z.1)) z.2) xF) (fun k hk a M z h hP => b_X3_hasFieldsLike_5b  (fun a M z hP h => hk a M z h hP) hP h) n
noncomputable def d_X3_hasFieldsLike (x1 : Int32) (M : Mem) : Option (Int32 × Mem) :=
  d_X3_hasFieldsLike_5 x1 fuel ((1 : Int32), (0 : Int32)) M
theorem b_X3_hasFieldsLike {x1 : Int32} {M z} (hP : Lay M) (h : d_X3_hasFieldsLike x1 M = some z) : VV Lay k_X3_hasFieldsLike 0 [(0, .ref 18), (1, .int x1), (2, .ref 28)] [] M z.2 (Qv (some (.int z.1)) z.2) xF := by
  unfold d_X3_hasFieldsLike at h
  refine Y_iconst (pc := 0) (v := (1 : Int32)) dX3_hasFieldsLike_0 rfl ?_
  refine Y_istore_n (pc := 1) (lv1 := [(3, .int (1 : Int32)), (0, .ref 18), (1, .int x1), (2, .ref 28)]) dX3_hasFieldsLike_1 rfl (by decide) rfl ?_
  refine Y_iconst (pc := 2) (v := (0 : Int32)) dX3_hasFieldsLike_2 rfl ?_
  refine Y_istore (pc := 3) (lv1 := [(4, .int (0 : Int32)), (3, .int (1 : Int32)), (0, .ref 18), (1, .int x1), (2, .ref 28)]) dX3_hasFieldsLike_3 (by decide) rfl ?_
  refine VV.sub [2, 3, 4, 1, 0] rfl ?_
  exact b_X3_hasFieldsLike_5  fuel _ _ _ h hP
theorem v_X3_hasFieldsLike {x1 : Int32} {M z} (hP : Lay M) (h : d_X3_hasFieldsLike x1 M = some z) : CC Lay k_X3_hasFieldsLike [.ref 18, .int x1, .ref 28] M z.2 (Qv (some (.int z.1)) z.2) xF :=
  CC.ofVV (by decide) rfl (Nat.le_of_ble_eq_true rfl) (b_X3_hasFieldsLike hP h)
noncomputable def d_X3_hasObjectsLike_60 (k19 : (Int32 × Int32) → Mem → Option (Int32 × Mem)) (x3 : Int32) (s0 : Int32) (M : Mem) : Option (Int32 × Mem) :=
  bnd ((x3 + (1 : Int32))) fun b1 =>
  k19 (s0, b1) M
theorem b_X3_hasObjectsLike_60 {k19 : (Int32 × Int32) → Mem → Option (Int32 × Mem)} {x3 : Int32} {s0 : Int32} {M z} (hk19 : ∀ (a : (Int32 × Int32)) (M : Mem) (z : Int32 × Mem), Lay M → k19 a M = some z → VV Lay k_X3_hasObjectsLike 19 [(0, .ref 18), (1, .ref 28), (2, .int a.1), (3, .int a.2)] [] M z.2 (Qv (some (.int z.1)) z.2) xF) (hP : Lay M) (h : d_X3_hasObjectsLike_60 k19 x3 s0 M = some z) : VV Lay k_X3_hasObjectsLike 60 [(0, .ref 18), (1, .ref 28), (3, .int x3)] [.int s0] M z.2 (Qv (some (.int z.1)) z.2) xF := by
  unfold d_X3_hasObjectsLike_60 at h
  refine Y_istore_n (pc := 60) (lv1 := [(2, .int s0), (0, .ref 18), (1, .ref 28), (3, .int x3)]) dX3_hasObjectsLike_60 rfl (by decide) rfl ?_
  obtain ⟨b1, eb1, h⟩ := bndE h
  refine Y_iinc (pc := 61) (j := 3) (v := b1) (lv1 := [(3, .int b1), (2, .int s0), (0, .ref 18), (1, .ref 28)]) dX3_hasObjectsLike_61 rfl eb1.symm (by decide) rfl ?_
  refine Y_goto (pc := 64) (tgt := 19) dX3_hasObjectsLike_64 (by decide) ?_
  refine VV.sub [2, 3, 1, 0] rfl ?_
  exact hk19 _ _ _ hP h
noncomputable def d_X3_hasObjectsLike_59 (k19 : (Int32 × Int32) → Mem → Option (Int32 × Mem)) (x3 : Int32) (M : Mem) : Option (Int32 × Mem) :=
  d_X3_hasObjectsLike_60 k19 x3 (0 : Int32) M
theorem b_X3_hasObjectsLike_59 {k19 : (Int32 × Int32) → Mem → Option (Int32 × Mem)} {x3 : Int32} {M z} (hk19 : ∀ (a : (Int32 × Int32)) (M : Mem) (z : Int32 × Mem), Lay M → k19 a M = some z → VV Lay k_X3_hasObjectsLike 19 [(0, .ref 18), (1, .ref 28), (2, .int a.1), (3, .int a.2)] [] M z.2 (Qv (some (.int z.1)) z.2) xF) (hP : Lay M) (h : d_X3_hasObjectsLike_59 k19 x3 M = some z) : VV Lay k_X3_hasObjectsLike 59 [(0, .ref 18), (1, .ref 28), (3, .int x3)] [] M z.2 (Qv (some (.int z.1)) z.2) xF := by
  unfold d_X3_hasObjectsLike_59 at h
  refine Y_iconst (pc := 59) (v := (0 : Int32)) dX3_hasObjectsLike_59 rfl ?_
  refine VV.sub [0, 1, 2] rfl ?_
  exact b_X3_hasObjectsLike_60 hk19 hP h
noncomputable def d_X3_hasObjectsLike_19b (k19 : (Int32 × Int32) → Mem → Option (Int32 × Mem)) (x2 : Int32) (x3 : Int32) (M : Mem) : Option (Int32 × Mem) :=
  if (mI M 18 10) ≤ x3 then (
    okk (isBo x2) <|
    some (x2, M))
  else (
    if x2 = 0 then (
      d_X3_hasObjectsLike_59 k19 x3 M)
    else (
      okk (vp_in x3 60) <|
      okk (vp_in x3 60) <|
      if (mI M 27 x3.toNatClampNeg) = (mI M 37 x3.toNatClampNeg) then (
        (d_X3_hasFieldsLike x3 M).bind fun y1 =>
        if y1.1 = 0 then (
          d_X3_hasObjectsLike_59 k19 x3 y1.2)
        else (
          d_X3_hasObjectsLike_60 k19 x3 (1 : Int32) y1.2))
      else (
        d_X3_hasObjectsLike_59 k19 x3 M)))
theorem b_X3_hasObjectsLike_19b {k19 : (Int32 × Int32) → Mem → Option (Int32 × Mem)} {x2 : Int32} {x3 : Int32} {M z} (hk19 : ∀ (a : (Int32 × Int32)) (M : Mem) (z : Int32 × Mem), Lay M → k19 a M = some z → VV Lay k_X3_hasObjectsLike 19 [(0, .ref 18), (1, .ref 28), (2, .int a.1), (3, .int a.2)] [] M z.2 (Qv (some (.int z.1)) z.2) xF) (hP : Lay M) (h : d_X3_hasObjectsLike_19b k19 x2 x3 M = some z) : VV Lay k_X3_hasObjectsLike 19 [(0, .ref 18), (1, .ref 28), (2, .int x2), (3, .int x3)] [] M z.2 (Qv (some (.int z.1)) z.2) xF := by
  unfold d_X3_hasObjectsLike_19b at h
  refine Y_iload_n (pc := 19) (j := 3) dX3_hasObjectsLike_19 rfl rfl ?_
  refine Y_aload_n (pc := 20) (j := 0) dX3_hasObjectsLike_20 rfl rfl ?_
  refine Z_geti (pc := 21) dX3_hasObjectsLike_21 w1_187 (lk_18 hP) fi_4_10 ?_
  refine Y_icmp_ge (pc := 24) (tgt := 67) dX3_hasObjectsLike_24 (by decide) (fun hc1 => ?_) (fun hc1 => ?_)
  · replace h := ifT hc1 h
    refine Y_iload_n (pc := 67) (j := 2) dX3_hasObjectsLike_67 rfl rfl ?_
    obtain ⟨hb1, h⟩ := okE h
    cases h
    exact Y_iret (pc := 68) rfl (nar_bo hb1) dX3_hasObjectsLike_68 hP ⟨rfl, rfl⟩
  · replace h := ifF hc1 h
    refine Y_iload_n (pc := 27) (j := 2) dX3_hasObjectsLike_27 rfl rfl ?_
    refine Y_if_eq (pc := 28) (tgt := 59) dX3_hasObjectsLike_28 (by decide) (fun hc2 => ?_) (fun hc2 => ?_)
    · replace h := ifT hc2 h
      refine VV.sub [0, 1, 3] rfl ?_
      exact b_X3_hasObjectsLike_59 hk19 hP h
    · replace h := ifF hc2 h
      refine Y_aload_n (pc := 31) (j := 0) dX3_hasObjectsLike_31 rfl rfl ?_
      refine Z_getr (pc := 32) dX3_hasObjectsLike_32 w1_177 (lk_18 hP) fr_4_6 (lr_18_6 hP) ?_
      refine Y_iload_n (pc := 35) (j := 3) dX3_hasObjectsLike_35 rfl rfl ?_
      obtain ⟨hb2, h⟩ := okE h
      refine Y_iald (pc := 36) dX3_hasObjectsLike_36 (lk_27 hP) (ln_27 hP) hb2 ?_
      refine Y_aload_n (pc := 37) (j := 1) dX3_hasObjectsLike_37 rfl rfl ?_
      refine Z_getr (pc := 38) dX3_hasObjectsLike_38 w1_177 (lk_28 hP) fr_4_6 (lr_28_6 hP) ?_
      refine Y_iload_n (pc := 41) (j := 3) dX3_hasObjectsLike_41 rfl rfl ?_
      obtain ⟨hb3, h⟩ := okE h
      refine Y_iald (pc := 42) dX3_hasObjectsLike_42 (lk_37 hP) (ln_37 hP) hb3 ?_
      refine Y_icmp_ne (pc := 43) (tgt := 59) dX3_hasObjectsLike_43 (by decide) (fun hc3 => ?_) (fun hc3 => ?_)
      · replace h := ifF hc3 h
        refine VV.sub [0, 1, 3] rfl ?_
        exact b_X3_hasObjectsLike_59 hk19 hP h
      · replace h := ifT hc3 h
        refine Y_aload_n (pc := 46) (j := 0) dX3_hasObjectsLike_46 rfl rfl ?_
        refine Y_iload_n (pc := 47) (j := 3) dX3_hasObjectsLike_47 rfl rfl ?_
        refine Y_aload_n (pc := 48) (j := 1) dX3_hasObjectsLike_48 rfl rfl ?_
        obtain ⟨y1, qy1, h⟩ := bindE h
        have cy1 := v_X3_hasFieldsLike hP qy1
        refine C_V2r (pc := 49) (k' := k_X3_hasFieldsLike) dX3_hasObjectsLike_49 w7_9 i_X3_hasFieldsLike (lk_18 hP) ⟨Nat.le_of_ble_eq_true rfl, Nat.le_of_ble_eq_true rfl⟩ rfl (Nat.le_of_ble_eq_true rfl) (Nat.le_of_ble_eq_true rfl) (Nat.le_of_ble_eq_true rfl) (cy1) ?_
        have hPy1 := cy1.1.1
        refine Y_if_eq (pc := 52) (tgt := 59) dX3_hasObjectsLike_52 (by decide) (fun hc4 => ?_) (fun hc4 => ?_)
        · replace h := ifT hc4 h
          refine VV.sub [0, 1, 3] rfl ?_
          exact b_X3_hasObjectsLike_59 hk19 hPy1 h
        · replace h := ifF hc4 h
          refine Y_iconst (pc := 55) (v := (1 : Int32)) dX3_hasObjectsLike_55 rfl ?_
          refine Y_goto (pc := 56) (tgt := 60) dX3_hasObjectsLike_56 (by decide) ?_
          refine VV.sub [0, 1, 3] rfl ?_
          exact b_X3_hasObjectsLike_60 hk19 hPy1 h
noncomputable def d_X3_hasObjectsLike_19 : Nat → (Int32 × Int32) → Mem → Option (Int32 × Mem) := lp fun k a M => d_X3_hasObjectsLike_19b k a.1 a.2 M
theorem b_X3_hasObjectsLike_19 (n : Nat) : ∀ (a : (Int32 × Int32)) (M : Mem) (z : Int32 × Mem), d_X3_hasObjectsLike_19 n a M = some z → Lay M → VV Lay k_X3_hasObjectsLike 19 [(0, .ref 18), (1, .ref 28), (2, .int a.1), (3, .int a.2)] [] M z.2 (Qv (some (.int z.1)) z.2) xF :=
  lp_ind (G := fun (a : (Int32 × Int32)) (M : Mem) (z : Int32 × Mem) => Lay M → VV Lay k_X3_hasObjectsLike 19 [(0, .ref 18), (1, .ref 28), (2, .int a.1), (3, .int a.2)] [] M z.2 (Qv (some (.int z.1)) z.2) xF) (fun k hk a M z h hP => b_X3_hasObjectsLike_19b  (fun a M z hP h => hk a M z h hP) hP h) n
noncomputable def d_X3_hasObjectsLike_16 (s0 : Int32) (M : Mem) : Option (Int32 × Mem) :=
  d_X3_hasObjectsLike_19 fuel (s0, (0 : Int32)) M
theorem b_X3_hasObjectsLike_16 {s0 : Int32} {M z} (hP : Lay M) (h : d_X3_hasObjectsLike_16 s0 M = some z) : VV Lay k_X3_hasObjectsLike 16 [(0, .ref 18), (1, .ref 28)] [.int s0] M z.2 (Qv (some (.int z.1)) z.2) xF := by
  unfold d_X3_hasObjectsLike_16 at h
  refine Y_istore_n (pc := 16) (lv1 := [(2, .int s0), (0, .ref 18), (1, .ref 28)]) dX3_hasObjectsLike_16 rfl (by decide) rfl ?_
  refine Y_iconst (pc := 17) (v := (0 : Int32)) dX3_hasObjectsLike_17 rfl ?_
  refine Y_istore_n (pc := 18) (lv1 := [(3, .int (0 : Int32)), (2, .int s0), (0, .ref 18), (1, .ref 28)]) dX3_hasObjectsLike_18 rfl (by decide) rfl ?_
  refine VV.sub [2, 3, 1, 0] rfl ?_
  exact b_X3_hasObjectsLike_19  fuel _ _ _ h hP
noncomputable def d_X3_hasObjectsLike (M : Mem) : Option (Int32 × Mem) :=
  if (mI M 18 10) = (mI M 28 10) then (
    d_X3_hasObjectsLike_16 (1 : Int32) M)
  else (
    d_X3_hasObjectsLike_16 (0 : Int32) M)
theorem b_X3_hasObjectsLike {M z} (hP : Lay M) (h : d_X3_hasObjectsLike M = some z) : VV Lay k_X3_hasObjectsLike 0 [(0, .ref 18), (1, .ref 28)] [] M z.2 (Qv (some (.int z.1)) z.2) xF := by
  unfold d_X3_hasObjectsLike at h
  refine Y_aload_n (pc := 0) (j := 0) dX3_hasObjectsLike_0 rfl rfl ?_
  refine Z_geti (pc := 1) dX3_hasObjectsLike_1 w1_187 (lk_18 hP) fi_4_10 ?_
  refine Y_aload_n (pc := 4) (j := 1) dX3_hasObjectsLike_4 rfl rfl ?_
  refine Z_geti (pc := 5) dX3_hasObjectsLike_5 w1_187 (lk_28 hP) fi_4_10 ?_
  refine Y_icmp_ne (pc := 8) (tgt := 15) dX3_hasObjectsLike_8 (by decide) (fun hc1 => ?_) (fun hc1 => ?_)
  · replace h := ifF hc1 h
    refine Y_iconst (pc := 15) (v := (0 : Int32)) dX3_hasObjectsLike_15 rfl ?_
    refine VV.sub [0, 1] rfl ?_
    exact b_X3_hasObjectsLike_16  hP h
  · replace h := ifT hc1 h
    refine Y_iconst (pc := 11) (v := (1 : Int32)) dX3_hasObjectsLike_11 rfl ?_
    refine Y_goto (pc := 12) (tgt := 16) dX3_hasObjectsLike_12 (by decide) ?_
    refine VV.sub [0, 1] rfl ?_
    exact b_X3_hasObjectsLike_16  hP h
theorem v_X3_hasObjectsLike {M z} (hP : Lay M) (h : d_X3_hasObjectsLike M = some z) : CC Lay k_X3_hasObjectsLike [.ref 18, .ref 28] M z.2 (Qv (some (.int z.1)) z.2) xF :=
  CC.ofVV (by decide) rfl (Nat.le_of_ble_eq_true rfl) (b_X3_hasObjectsLike hP h)
noncomputable def d_X3_endedLike_70 (M : Mem) : Option (Int32 × Mem) :=
  (d_X3_hasToldLike M).bind fun y1 =>
  if y1.1 = 0 then (
    some ((0 : Int32), y1.2))
  else (
    (d_X3_hasObjectsLike y1.2).bind fun y2 =>
    if y2.1 = 0 then (
      some ((0 : Int32), y2.2))
    else (
      some ((1 : Int32), y2.2)))
theorem b_X3_endedLike_70 {M z} (hP : Lay M) (h : d_X3_endedLike_70 M = some z) : VV Lay k_X3_endedLike 70 [(0, .ref 18), (1, .ref 28)] [] M z.2 (Qv (some (.int z.1)) z.2) xF := by
  unfold d_X3_endedLike_70 at h
  refine Y_aload_n (pc := 70) (j := 0) dX3_endedLike_70 rfl rfl ?_
  refine Y_aload_n (pc := 71) (j := 1) dX3_endedLike_71 rfl rfl ?_
  obtain ⟨y1, qy1, h⟩ := bindE h
  have cy1 := v_X3_hasToldLike hP qy1
  refine C_V1r (pc := 72) (k' := k_X3_hasToldLike) dX3_endedLike_72 w7_1 i_X3_hasToldLike (lk_18 hP) ⟨Nat.le_of_ble_eq_true rfl, Nat.le_of_ble_eq_true rfl⟩ rfl (Nat.le_of_ble_eq_true rfl) (Nat.le_of_ble_eq_true rfl) (Nat.le_of_ble_eq_true rfl) (cy1) ?_
  have hPy1 := cy1.1.1
  refine Y_if_eq (pc := 75) (tgt := 90) dX3_endedLike_75 (by decide) (fun hc1 => ?_) (fun hc1 => ?_)
  · replace h := ifT hc1 h
    refine Y_iconst (pc := 90) (v := (0 : Int32)) dX3_endedLike_90 rfl ?_
    cases h
    exact Y_iret (pc := 91) rfl (nar_bo (by decide)) dX3_endedLike_91 hPy1 ⟨rfl, rfl⟩
  · replace h := ifF hc1 h
    refine Y_aload_n (pc := 78) (j := 0) dX3_endedLike_78 rfl rfl ?_
    refine Y_aload_n (pc := 79) (j := 1) dX3_endedLike_79 rfl rfl ?_
    obtain ⟨y2, qy2, h⟩ := bindE h
    have cy2 := v_X3_hasObjectsLike hPy1 qy2
    refine C_V1r (pc := 80) (k' := k_X3_hasObjectsLike) dX3_endedLike_80 w7_5 i_X3_hasObjectsLike (lk_18 hPy1) ⟨Nat.le_of_ble_eq_true rfl, Nat.le_of_ble_eq_true rfl⟩ rfl (Nat.le_of_ble_eq_true rfl) (Nat.le_of_ble_eq_true rfl) (Nat.le_of_ble_eq_true rfl) (cy2) ?_
    have hPy2 := cy2.1.1
    refine Y_if_eq (pc := 83) (tgt := 90) dX3_endedLike_83 (by decide) (fun hc2 => ?_) (fun hc2 => ?_)
    · replace h := ifT hc2 h
      refine Y_iconst (pc := 90) (v := (0 : Int32)) dX3_endedLike_90 rfl ?_
      cases h
      exact Y_iret (pc := 91) rfl (nar_bo (by decide)) dX3_endedLike_91 hPy2 ⟨rfl, rfl⟩
    · replace h := ifF hc2 h
      refine Y_iconst (pc := 86) (v := (1 : Int32)) dX3_endedLike_86 rfl ?_
      refine Y_goto (pc := 87) (tgt := 91) dX3_endedLike_87 (by decide) ?_
      cases h
      exact Y_iret (pc := 91) rfl (nar_bo (by decide)) dX3_endedLike_91 hPy2 ⟨rfl, rfl⟩
noncomputable def d_X3_endedLike (M : Mem) : Option (Int32 × Mem) :=
  if (mI M 18 13) = (mI M 28 13) then (
    if (mI M 18 14) = (mI M 28 14) then (
      if (mI M 18 15) = (mI M 28 15) then (
        if (mI M 18 12) = (mI M 28 12) then (
          if (mI M 18 13) = (118 : Int32) then (
            (d_X8_isSame (548 : Int32) M).bind fun y1 =>
            if y1.1 = 0 then (
              some ((0 : Int32), y1.2))
            else (
              d_X3_endedLike_70 y1.2))
          else (
            d_X3_endedLike_70 M))
        else (
          some ((0 : Int32), M)))
      else (
        some ((0 : Int32), M)))
    else (
      some ((0 : Int32), M)))
  else (
    some ((0 : Int32), M))
theorem b_X3_endedLike {M z} (hP : Lay M) (h : d_X3_endedLike M = some z) : VV Lay k_X3_endedLike 0 [(0, .ref 18), (1, .ref 28)] [] M z.2 (Qv (some (.int z.1)) z.2) xF := by
  unfold d_X3_endedLike at h
  refine Y_aload_n (pc := 0) (j := 0) dX3_endedLike_0 rfl rfl ?_
  refine Z_geti (pc := 1) dX3_endedLike_1 w1_193 (lk_18 hP) fi_4_13 ?_
  refine Y_aload_n (pc := 4) (j := 1) dX3_endedLike_4 rfl rfl ?_
  refine Z_geti (pc := 5) dX3_endedLike_5 w1_193 (lk_28 hP) fi_4_13 ?_
  refine Y_icmp_ne (pc := 8) (tgt := 90) dX3_endedLike_8 (by decide) (fun hc1 => ?_) (fun hc1 => ?_)
  · replace h := ifF hc1 h
    refine Y_iconst (pc := 90) (v := (0 : Int32)) dX3_endedLike_90 rfl ?_
    cases h
    exact Y_iret (pc := 91) rfl (nar_bo (by decide)) dX3_endedLike_91 hP ⟨rfl, rfl⟩
  · replace h := ifT hc1 h
    refine Y_aload_n (pc := 11) (j := 0) dX3_endedLike_11 rfl rfl ?_
    refine Z_geti (pc := 12) dX3_endedLike_12 w1_195 (lk_18 hP) fi_4_14 ?_
    refine Y_aload_n (pc := 15) (j := 1) dX3_endedLike_15 rfl rfl ?_
    refine Z_geti (pc := 16) dX3_endedLike_16 w1_195 (lk_28 hP) fi_4_14 ?_
    refine Y_icmp_ne (pc := 19) (tgt := 90) dX3_endedLike_19 (by decide) (fun hc2 => ?_) (fun hc2 => ?_)
    · replace h := ifF hc2 h
      refine Y_iconst (pc := 90) (v := (0 : Int32)) dX3_endedLike_90 rfl ?_
      cases h
      exact Y_iret (pc := 91) rfl (nar_bo (by decide)) dX3_endedLike_91 hP ⟨rfl, rfl⟩
    · replace h := ifT hc2 h
      refine Y_aload_n (pc := 22) (j := 0) dX3_endedLike_22 rfl rfl ?_
      refine Z_geti (pc := 23) dX3_endedLike_23 w1_197 (lk_18 hP) fi_4_15 ?_
      refine Y_aload_n (pc := 26) (j := 1) dX3_endedLike_26 rfl rfl ?_
      refine Z_geti (pc := 27) dX3_endedLike_27 w1_197 (lk_28 hP) fi_4_15 ?_
      refine Y_icmp_ne (pc := 30) (tgt := 90) dX3_endedLike_30 (by decide) (fun hc3 => ?_) (fun hc3 => ?_)
      · replace h := ifF hc3 h
        refine Y_iconst (pc := 90) (v := (0 : Int32)) dX3_endedLike_90 rfl ?_
        cases h
        exact Y_iret (pc := 91) rfl (nar_bo (by decide)) dX3_endedLike_91 hP ⟨rfl, rfl⟩
      · replace h := ifT hc3 h
        refine Y_aload_n (pc := 33) (j := 0) dX3_endedLike_33 rfl rfl ?_
        refine Z_geti (pc := 34) dX3_endedLike_34 w1_191 (lk_18 hP) fi_4_12 ?_
        refine Y_aload_n (pc := 37) (j := 1) dX3_endedLike_37 rfl rfl ?_
        refine Z_geti (pc := 38) dX3_endedLike_38 w1_191 (lk_28 hP) fi_4_12 ?_
        refine Y_icmp_ne (pc := 41) (tgt := 90) dX3_endedLike_41 (by decide) (fun hc4 => ?_) (fun hc4 => ?_)
        · replace h := ifF hc4 h
          refine Y_iconst (pc := 90) (v := (0 : Int32)) dX3_endedLike_90 rfl ?_
          cases h
          exact Y_iret (pc := 91) rfl (nar_bo (by decide)) dX3_endedLike_91 hP ⟨rfl, rfl⟩
        · replace h := ifT hc4 h
          refine Y_aload_n (pc := 44) (j := 0) dX3_endedLike_44 rfl rfl ?_
          refine Z_geti (pc := 45) dX3_endedLike_45 w1_193 (lk_18 hP) fi_4_13 ?_
          refine Y_bipush (pc := 48) (v := (118 : Int32)) dX3_endedLike_48 rfl ?_
          refine Y_icmp_ne (pc := 50) (tgt := 70) dX3_endedLike_50 (by decide) (fun hc5 => ?_) (fun hc5 => ?_)
          · replace h := ifF hc5 h
            refine VV.sub [0, 1] rfl ?_
            exact b_X3_endedLike_70  hP h
          · replace h := ifT hc5 h
            refine Y_aload_n (pc := 53) (j := 0) dX3_endedLike_53 rfl rfl ?_
            refine Z_getr (pc := 54) dX3_endedLike_54 w1_171 (lk_18 hP) fr_4_2 (lr_18_2 hP) ?_
            refine Y_sipush (pc := 57) (v := (548 : Int32)) dX3_endedLike_57 rfl ?_
            refine Y_aload_n (pc := 60) (j := 1) dX3_endedLike_60 rfl rfl ?_
            refine Z_getr (pc := 61) dX3_endedLike_61 w1_171 (lk_28 hP) fr_4_2 (lr_28_2 hP) ?_
            obtain ⟨y1, qy1, h⟩ := bindE h
            have cy1 := v_X8_isSame hP qy1
            refine C_V2r (pc := 64) (k' := k_X8_isSame) dX3_endedLike_64 w6_234 i_X8_isSame (lk_19 hP) ⟨Nat.le_of_ble_eq_true rfl, Nat.le_of_ble_eq_true rfl⟩ rfl (Nat.le_of_ble_eq_true rfl) (Nat.le_of_ble_eq_true rfl) (Nat.le_of_ble_eq_true rfl) (cy1) ?_
            have hPy1 := cy1.1.1
            refine Y_if_eq (pc := 67) (tgt := 90) dX3_endedLike_67 (by decide) (fun hc6 => ?_) (fun hc6 => ?_)
            · replace h := ifT hc6 h
              refine Y_iconst (pc := 90) (v := (0 : Int32)) dX3_endedLike_90 rfl ?_
              cases h
              exact Y_iret (pc := 91) rfl (nar_bo (by decide)) dX3_endedLike_91 hPy1 ⟨rfl, rfl⟩
            · replace h := ifF hc6 h
              refine VV.sub [0, 1] rfl ?_
              exact b_X3_endedLike_70  hPy1 h
theorem v_X3_endedLike {M z} (hP : Lay M) (h : d_X3_endedLike M = some z) : CC Lay k_X3_endedLike [.ref 18, .ref 28] M z.2 (Qv (some (.int z.1)) z.2) xF :=
  CC.ofVV (by decide) rfl (Nat.le_of_ble_eq_true rfl) (b_X3_endedLike hP h)
end VCR
