/-! ===== what the methods reckon (printed by a program) ===== -/
section VCR
theorem b_X12_toldAt_20 {x1 : Int32} {s1 : Int32} {M z} (hP : Lay M) (h : d_X12_toldAt_20 x1 s1 M = some z) : VV Lay k_X12_toldAt 20 [(0, .ref 69), (1, .int x1)] [.int s1, .ref 69] M z.2 (Qv (some (.long z.1)) z.2) xF := by
  unfold d_X12_toldAt_20 at h
  refine Z_puti (pc := 20) dX12_toldAt_20 w8_66 (lk_69 hP) fi_12_0 (Or.inl rfl) rfl ?_
  obtain ⟨M1, eM1, h⟩ := bndE h
  refine VV.mem eM1 ?_
  have hP1 := hP.wI eM1
  refine Y_aload_n (pc := 23) (j := 0) dX12_toldAt_23 rfl rfl ?_
  refine Z_geti (pc := 24) dX12_toldAt_24 w8_66 (lk_69 hP1) fi_12_0 ?_
  refine Y_if_le (pc := 27) (tgt := 34) dX12_toldAt_27 (by decide) (fun hc1 => ?_) (fun hc1 => ?_)
  · replace h := ifT hc1 h
    refine Y_aload_n (pc := 34) (j := 0) dX12_toldAt_34 rfl rfl ?_
    refine Z_getr (pc := 35) dX12_toldAt_35 w8_127 (lk_69 hP1) fr_12_61 (lr_69_61 hP1) ?_
    refine Y_iload_n (pc := 38) (j := 1) dX12_toldAt_38 rfl rfl ?_
    obtain ⟨hb1, h⟩ := okE h
    refine Y_lald (pc := 39) dX12_toldAt_39 (lk_117 hP1) (ln_117 hP1) hb1 ?_
    cases h
    exact Y_lret (pc := 40) rfl dX12_toldAt_40 hP1 ⟨rfl, rfl⟩
  · replace h := ifF hc1 h
    refine Y_lconst (pc := 30) (v := (0 : Int64)) dX12_toldAt_30 rfl ?_
    refine Y_goto (pc := 31) (tgt := 40) dX12_toldAt_31 (by decide) ?_
    cases h
    exact Y_lret (pc := 40) rfl dX12_toldAt_40 hP1 ⟨rfl, rfl⟩
theorem b_X12_toldAt {x1 : Int32} {M z} (hP : Lay M) (h : d_X12_toldAt x1 M = some z) : VV Lay k_X12_toldAt 0 [(0, .ref 69), (1, .int x1)] [] M z.2 (Qv (some (.long z.1)) z.2) xF := by
  unfold d_X12_toldAt at h
  refine Y_aload_n (pc := 0) (j := 0) dX12_toldAt_0 rfl rfl ?_
  refine Y_iload_n (pc := 1) (j := 1) dX12_toldAt_1 rfl rfl ?_
  refine Y_iconst (pc := 2) (v := (0 : Int32)) dX12_toldAt_2 rfl ?_
  refine Y_aload_n (pc := 3) (j := 0) dX12_toldAt_3 rfl rfl ?_
  refine Z_geti (pc := 4) dX12_toldAt_4 w8_125 (lk_69 hP) fi_12_59 ?_
  refine Y_iconst (pc := 7) (v := (1 : Int32)) dX12_toldAt_7 rfl ?_
  refine Y_isub (pc := 8) dX12_toldAt_8 ?_
  obtain ⟨y1, qy1, h⟩ := bindE h
  have cy1 := v_X12_in hP qy1
  refine C_S3r (pc := 9) (k' := k_X12_in) dX12_toldAt_9 w9_110 i_X12_in (Nat.le_of_ble_eq_true rfl) (Nat.le_of_ble_eq_true rfl) (Nat.le_of_ble_eq_true rfl) (cy1) ?_
  have hPy1 := cy1.1.1
  refine Y_if_eq (pc := 12) (tgt := 19) dX12_toldAt_12 (by decide) (fun hc1 => ?_) (fun hc1 => ?_)
  · replace h := ifT hc1 h
    refine Y_iconst (pc := 19) (v := (1 : Int32)) dX12_toldAt_19 rfl ?_
    refine VV.sub [0, 1] rfl ?_
    exact b_X12_toldAt_20  hPy1 h
  · replace h := ifF hc1 h
    refine Y_iconst (pc := 15) (v := (0 : Int32)) dX12_toldAt_15 rfl ?_
    refine Y_goto (pc := 16) (tgt := 20) dX12_toldAt_16 (by decide) ?_
    refine VV.sub [0, 1] rfl ?_
    exact b_X12_toldAt_20  hPy1 h
theorem v_X12_toldAt {x1 : Int32} {M z} (hP : Lay M) (h : d_X12_toldAt x1 M = some z) : CC Lay k_X12_toldAt [.ref 69, .int x1] M z.2 (Qv (some (.long z.1)) z.2) xF :=
  CC.ofVV (by decide) rfl (Nat.le_of_ble_eq_true rfl) (b_X12_toldAt hP h)
theorem b_X12_objects {M z} (hP : Lay M) (h : d_X12_objects M = some z) : VV Lay k_X12_objects 0 [(0, .ref 69)] [] M z.2 (Qv (some (.int z.1)) z.2) xF := by
  unfold d_X12_objects at h
  refine Y_aload_n (pc := 0) (j := 0) dX12_objects_0 rfl rfl ?_
  refine Y_iconst (pc := 1) (v := (0 : Int32)) dX12_objects_1 rfl ?_
  refine Z_puti (pc := 2) dX12_objects_2 w8_66 (lk_69 hP) fi_12_0 (Or.inl rfl) rfl ?_
  obtain ⟨M1, eM1, h⟩ := bndE h
  refine VV.mem eM1 ?_
  have hP1 := hP.wI eM1
  refine Y_aload_n (pc := 5) (j := 0) dX12_objects_5 rfl rfl ?_
  refine Z_geti (pc := 6) dX12_objects_6 w8_118 (lk_69 hP1) fi_12_52 ?_
  cases h
  exact Y_iret (pc := 9) rfl rfl dX12_objects_9 hP1 ⟨rfl, rfl⟩
theorem v_X12_objects {M z} (hP : Lay M) (h : d_X12_objects M = some z) : CC Lay k_X12_objects [.ref 69] M z.2 (Qv (some (.int z.1)) z.2) xF :=
  CC.ofVV (by decide) rfl (Nat.le_of_ble_eq_true rfl) (b_X12_objects hP h)
theorem b_X12_shapeOf {x1 : Int32} {M z} (hP : Lay M) (h : d_X12_shapeOf x1 M = some z) : VV Lay k_X12_shapeOf 0 [(0, .ref 69), (1, .int x1)] [] M z.2 (Qv (some (.int z.1)) z.2) xF := by
  unfold d_X12_shapeOf at h
  refine Y_aload_n (pc := 0) (j := 0) dX12_shapeOf_0 rfl rfl ?_
  refine Y_iconst (pc := 1) (v := (0 : Int32)) dX12_shapeOf_1 rfl ?_
  refine Z_puti (pc := 2) dX12_shapeOf_2 w8_66 (lk_69 hP) fi_12_0 (Or.inl rfl) rfl ?_
  obtain ⟨M1, eM1, h⟩ := bndE h
  refine VV.mem eM1 ?_
  have hP1 := hP.wI eM1
  refine Y_iload_n (pc := 5) (j := 1) dX12_shapeOf_5 rfl rfl ?_
  refine Y_iconst (pc := 6) (v := (0 : Int32)) dX12_shapeOf_6 rfl ?_
  refine Y_aload_n (pc := 7) (j := 0) dX12_shapeOf_7 rfl rfl ?_
  refine Z_geti (pc := 8) dX12_shapeOf_8 w8_118 (lk_69 hP1) fi_12_52 ?_
  refine Y_iconst (pc := 11) (v := (1 : Int32)) dX12_shapeOf_11 rfl ?_
  refine Y_isub (pc := 12) dX12_shapeOf_12 ?_
  obtain ⟨y1, qy1, h⟩ := bindE h
  have cy1 := v_X12_in hP1 qy1
  refine C_S3r (pc := 13) (k' := k_X12_in) dX12_shapeOf_13 w9_110 i_X12_in (Nat.le_of_ble_eq_true rfl) (Nat.le_of_ble_eq_true rfl) (Nat.le_of_ble_eq_true rfl) (cy1) ?_
  have hPy1 := cy1.1.1
  refine Y_if_eq (pc := 16) (tgt := 28) dX12_shapeOf_16 (by decide) (fun hc1 => ?_) (fun hc1 => ?_)
  · replace h := ifT hc1 h
    refine Y_aload_n (pc := 28) (j := 0) dX12_shapeOf_28 rfl rfl ?_
    refine Y_iconst (pc := 29) (v := (1 : Int32)) dX12_shapeOf_29 rfl ?_
    obtain ⟨y2, qy2, h⟩ := bindE h
    have cy2 := v_X12_fails hPy1 qy2
    refine C_V1r (pc := 30) (k' := k_X12_fails) dX12_shapeOf_30 w9_113 i_X12_fails (lk_69 hPy1) ⟨Nat.le_of_ble_eq_true rfl, Nat.le_of_ble_eq_true rfl⟩ rfl (Nat.le_of_ble_eq_true rfl) (Nat.le_of_ble_eq_true rfl) (Nat.le_of_ble_eq_true rfl) (cy2) ?_
    have hPy2 := cy2.1.1
    cases h
    exact Y_iret (pc := 33) rfl rfl dX12_shapeOf_33 hPy2 ⟨rfl, rfl⟩
  · replace h := ifF hc1 h
    refine Y_aload_n (pc := 19) (j := 0) dX12_shapeOf_19 rfl rfl ?_
    refine Z_getr (pc := 20) dX12_shapeOf_20 w8_119 (lk_69 hPy1) fr_12_53 (lr_69_53 hPy1) ?_
    refine Y_iload_n (pc := 23) (j := 1) dX12_shapeOf_23 rfl rfl ?_
    obtain ⟨hb1, h⟩ := okE h
    refine Y_iald (pc := 24) dX12_shapeOf_24 (lk_112 hPy1) (ln_112 hPy1) hb1 ?_
    refine Y_goto (pc := 25) (tgt := 33) dX12_shapeOf_25 (by decide) ?_
    cases h
    exact Y_iret (pc := 33) rfl rfl dX12_shapeOf_33 hPy1 ⟨rfl, rfl⟩
theorem v_X12_shapeOf {x1 : Int32} {M z} (hP : Lay M) (h : d_X12_shapeOf x1 M = some z) : CC Lay k_X12_shapeOf [.ref 69, .int x1] M z.2 (Qv (some (.int z.1)) z.2) xF :=
  CC.ofVV (by decide) rfl (Nat.le_of_ble_eq_true rfl) (b_X12_shapeOf hP h)
theorem b_X12_field_47 {x1 : Int32} {x2 : Int32} {s1 : Int32} {M z} (hP : Lay M) (h : d_X12_field_47 x1 x2 s1 M = some z) : VV Lay k_X12_field 47 [(0, .ref 69), (1, .int x1), (2, .int x2)] [.int s1, .ref 69] M z.2 (Qv (some (.long z.1)) z.2) xF := by
  unfold d_X12_field_47 at h
  refine Z_puti (pc := 47) dX12_field_47 w8_66 (lk_69 hP) fi_12_0 (Or.inl rfl) rfl ?_
  obtain ⟨M1, eM1, h⟩ := bndE h
  refine VV.mem eM1 ?_
  have hP1 := hP.wI eM1
  refine Y_aload_n (pc := 50) (j := 0) dX12_field_50 rfl rfl ?_
  refine Z_geti (pc := 51) dX12_field_51 w8_66 (lk_69 hP1) fi_12_0 ?_
  refine Y_if_le (pc := 54) (tgt := 61) dX12_field_54 (by decide) (fun hc1 => ?_) (fun hc1 => ?_)
  · replace h := ifT hc1 h
    refine Y_aload_n (pc := 61) (j := 0) dX12_field_61 rfl rfl ?_
    refine Z_getr (pc := 62) dX12_field_62 w8_120 (lk_69 hP1) fr_12_54 (lr_69_54 hP1) ?_
    refine Y_bipush (pc := 65) (v := (6 : Int32)) dX12_field_65 rfl ?_
    refine Y_iload_n (pc := 67) (j := 1) dX12_field_67 rfl rfl ?_
    refine Y_imul (pc := 68) dX12_field_68 ?_
    refine Y_iload_n (pc := 69) (j := 2) dX12_field_69 rfl rfl ?_
    refine Y_iadd (pc := 70) dX12_field_70 ?_
    obtain ⟨hb1, h⟩ := okE h
    refine Y_cald (pc := 71) dX12_field_71 (lk_113 hP1) (ln_113 hP1) hb1 ?_
    refine Y_aload_n (pc := 72) (j := 0) dX12_field_72 rfl rfl ?_
    refine Z_getr (pc := 73) dX12_field_73 w8_121 (lk_69 hP1) fr_12_55 (lr_69_55 hP1) ?_
    refine Y_bipush (pc := 76) (v := (6 : Int32)) dX12_field_76 rfl ?_
    refine Y_iload_n (pc := 78) (j := 1) dX12_field_78 rfl rfl ?_
    refine Y_imul (pc := 79) dX12_field_79 ?_
    refine Y_iload_n (pc := 80) (j := 2) dX12_field_80 rfl rfl ?_
    refine Y_iadd (pc := 81) dX12_field_81 ?_
    obtain ⟨hb2, h⟩ := okE h
    refine Y_iald (pc := 82) dX12_field_82 (lk_114 hP1) (ln_114 hP1) hb2 ?_
    refine Y_aload_n (pc := 83) (j := 0) dX12_field_83 rfl rfl ?_
    refine Z_getr (pc := 84) dX12_field_84 w8_122 (lk_69 hP1) fr_12_56 (lr_69_56 hP1) ?_
    refine Y_bipush (pc := 87) (v := (6 : Int32)) dX12_field_87 rfl ?_
    refine Y_iload_n (pc := 89) (j := 1) dX12_field_89 rfl rfl ?_
    refine Y_imul (pc := 90) dX12_field_90 ?_
    refine Y_iload_n (pc := 91) (j := 2) dX12_field_91 rfl rfl ?_
    refine Y_iadd (pc := 92) dX12_field_92 ?_
    obtain ⟨hb3, h⟩ := okE h
    refine Y_dald (pc := 93) dX12_field_93 (lk_115 hP1) (ln_115 hP1) hb3 ?_
    obtain ⟨y1, qy1, h⟩ := bindE h
    have cy1 := v_X12_told hP1 qy1
    refine C_S3r (pc := 94) (k' := k_X12_told) dX12_field_94 w10_87 i_X12_told (Nat.le_of_ble_eq_true rfl) (Nat.le_of_ble_eq_true rfl) (Nat.le_of_ble_eq_true rfl) (cy1) ?_
    have hPy1 := cy1.1.1
    cases h
    exact Y_lret (pc := 97) rfl dX12_field_97 hPy1 ⟨rfl, rfl⟩
  · replace h := ifF hc1 h
    refine Y_lconst (pc := 57) (v := (0 : Int64)) dX12_field_57 rfl ?_
    refine Y_goto (pc := 58) (tgt := 97) dX12_field_58 (by decide) ?_
    cases h
    exact Y_lret (pc := 97) rfl dX12_field_97 hP1 ⟨rfl, rfl⟩
theorem b_X12_field_42 {x1 : Int32} {x2 : Int32} {M z} (hP : Lay M) (h : d_X12_field_42 x1 x2 M = some z) : VV Lay k_X12_field 42 [(0, .ref 69), (1, .int x1), (2, .int x2)] [.ref 69] M z.2 (Qv (some (.long z.1)) z.2) xF := by
  unfold d_X12_field_42 at h
  refine Y_iconst (pc := 42) (v := (2 : Int32)) dX12_field_42 rfl ?_
  refine Y_goto (pc := 43) (tgt := 47) dX12_field_43 (by decide) ?_
  refine VV.sub [0, 1, 2] rfl ?_
  exact b_X12_field_47  hP h
theorem b_X12_field {x1 : Int32} {x2 : Int32} {M z} (hP : Lay M) (h : d_X12_field x1 x2 M = some z) : VV Lay k_X12_field 0 [(0, .ref 69), (1, .int x1), (2, .int x2)] [] M z.2 (Qv (some (.long z.1)) z.2) xF := by
  unfold d_X12_field at h
  refine Y_aload_n (pc := 0) (j := 0) dX12_field_0 rfl rfl ?_
  refine Y_iload_n (pc := 1) (j := 1) dX12_field_1 rfl rfl ?_
  refine Y_iconst (pc := 2) (v := (0 : Int32)) dX12_field_2 rfl ?_
  refine Y_aload_n (pc := 3) (j := 0) dX12_field_3 rfl rfl ?_
  refine Z_geti (pc := 4) dX12_field_4 w8_118 (lk_69 hP) fi_12_52 ?_
  refine Y_iconst (pc := 7) (v := (1 : Int32)) dX12_field_7 rfl ?_
  refine Y_isub (pc := 8) dX12_field_8 ?_
  obtain ⟨y1, qy1, h⟩ := bindE h
  have cy1 := v_X12_in hP qy1
  refine C_S3r (pc := 9) (k' := k_X12_in) dX12_field_9 w9_110 i_X12_in (Nat.le_of_ble_eq_true rfl) (Nat.le_of_ble_eq_true rfl) (Nat.le_of_ble_eq_true rfl) (cy1) ?_
  have hPy1 := cy1.1.1
  refine Y_if_ne (pc := 12) (tgt := 19) dX12_field_12 (by decide) (fun hc1 => ?_) (fun hc1 => ?_)
  · replace h := ifF hc1 h
    refine Y_iload_n (pc := 19) (j := 2) dX12_field_19 rfl rfl ?_
    refine Y_iconst (pc := 20) (v := (0 : Int32)) dX12_field_20 rfl ?_
    refine Y_iconst (pc := 21) (v := (5 : Int32)) dX12_field_21 rfl ?_
    obtain ⟨y2, qy2, h⟩ := bindE h
    have cy2 := v_X12_in hPy1 qy2
    refine C_S3r (pc := 22) (k' := k_X12_in) dX12_field_22 w9_110 i_X12_in (Nat.le_of_ble_eq_true rfl) (Nat.le_of_ble_eq_true rfl) (Nat.le_of_ble_eq_true rfl) (cy2) ?_
    have hPy2 := cy2.1.1
    refine Y_if_eq (pc := 25) (tgt := 42) dX12_field_25 (by decide) (fun hc2 => ?_) (fun hc2 => ?_)
    · replace h := ifT hc2 h
      refine VV.sub [0, 1, 2] rfl ?_
      exact b_X12_field_42  hPy2 h
    · replace h := ifF hc2 h
      refine Y_aload_n (pc := 28) (j := 0) dX12_field_28 rfl rfl ?_
      refine Y_aload_n (pc := 29) (j := 0) dX12_field_29 rfl rfl ?_
      refine Z_getr (pc := 30) dX12_field_30 w8_119 (lk_69 hPy2) fr_12_53 (lr_69_53 hPy2) ?_
      refine Y_iload_n (pc := 33) (j := 1) dX12_field_33 rfl rfl ?_
      obtain ⟨hb1, h⟩ := okE h
      refine Y_iald (pc := 34) dX12_field_34 (lk_112 hPy2) (ln_112 hPy2) hb1 ?_
      refine Y_iload_n (pc := 35) (j := 2) dX12_field_35 rfl rfl ?_
      obtain ⟨y3, qy3, h⟩ := bindE h
      have cy3 := v_X12_hasField hPy2 qy3
      refine C_V2r (pc := 36) (k' := k_X12_hasField) dX12_field_36 w9_233 i_X12_hasField (lk_69 hPy2) ⟨Nat.le_of_ble_eq_true rfl, Nat.le_of_ble_eq_true rfl⟩ rfl (Nat.le_of_ble_eq_true rfl) (Nat.le_of_ble_eq_true rfl) (Nat.le_of_ble_eq_true rfl) (cy3) ?_
      have hPy3 := cy3.1.1
      refine Y_if_ne (pc := 39) (tgt := 46) dX12_field_39 (by decide) (fun hc3 => ?_) (fun hc3 => ?_)
      · replace h := ifF hc3 h
        refine Y_iconst (pc := 46) (v := (0 : Int32)) dX12_field_46 rfl ?_
        refine VV.sub [0, 1, 2] rfl ?_
        exact b_X12_field_47  hPy3 h
      · replace h := ifT hc3 h
        refine VV.sub [0, 1, 2] rfl ?_
        exact b_X12_field_42  hPy3 h
  · replace h := ifT hc1 h
    refine Y_iconst (pc := 15) (v := (1 : Int32)) dX12_field_15 rfl ?_
    refine Y_goto (pc := 16) (tgt := 47) dX12_field_16 (by decide) ?_
    refine VV.sub [0, 1, 2] rfl ?_
    exact b_X12_field_47  hPy1 h
theorem v_X12_field {x1 : Int32} {x2 : Int32} {M z} (hP : Lay M) (h : d_X12_field x1 x2 M = some z) : CC Lay k_X12_field [.ref 69, .int x1, .int x2] M z.2 (Qv (some (.long z.1)) z.2) xF :=
  CC.ofVV (by decide) rfl (Nat.le_of_ble_eq_true rfl) (b_X12_field hP h)
theorem b_X12_shapes {M z} (hP : Lay M) (h : d_X12_shapes M = some z) : VV Lay k_X12_shapes 0 [(0, .ref 69)] [] M z.2 (Qv (some (.int z.1)) z.2) xF := by
  unfold d_X12_shapes at h
  refine Y_aload_n (pc := 0) (j := 0) dX12_shapes_0 rfl rfl ?_
  refine Y_iconst (pc := 1) (v := (0 : Int32)) dX12_shapes_1 rfl ?_
  refine Z_puti (pc := 2) dX12_shapes_2 w8_66 (lk_69 hP) fi_12_0 (Or.inl rfl) rfl ?_
  obtain ⟨M1, eM1, h⟩ := bndE h
  refine VV.mem eM1 ?_
  have hP1 := hP.wI eM1
  refine Y_aload_n (pc := 5) (j := 0) dX12_shapes_5 rfl rfl ?_
  refine Z_geti (pc := 6) dX12_shapes_6 w8_78 (lk_69 hP1) fi_12_12 ?_
  cases h
  exact Y_iret (pc := 9) rfl rfl dX12_shapes_9 hP1 ⟨rfl, rfl⟩
theorem v_X12_shapes {M z} (hP : Lay M) (h : d_X12_shapes M = some z) : CC Lay k_X12_shapes [.ref 69] M z.2 (Qv (some (.int z.1)) z.2) xF :=
  CC.ofVV (by decide) rfl (Nat.le_of_ble_eq_true rfl) (b_X12_shapes hP h)
theorem b_X12_fields {x1 : Int32} {M z} (hP : Lay M) (h : d_X12_fields x1 M = some z) : VV Lay k_X12_fields 0 [(0, .ref 69), (1, .int x1)] [] M z.2 (Qv (some (.int z.1)) z.2) xF := by
  unfold d_X12_fields at h
  refine Y_aload_n (pc := 0) (j := 0) dX12_fields_0 rfl rfl ?_
  refine Y_iconst (pc := 1) (v := (0 : Int32)) dX12_fields_1 rfl ?_
  refine Z_puti (pc := 2) dX12_fields_2 w8_66 (lk_69 hP) fi_12_0 (Or.inl rfl) rfl ?_
  obtain ⟨M1, eM1, h⟩ := bndE h
  refine VV.mem eM1 ?_
  have hP1 := hP.wI eM1
  refine Y_iload_n (pc := 5) (j := 1) dX12_fields_5 rfl rfl ?_
  refine Y_iconst (pc := 6) (v := (0 : Int32)) dX12_fields_6 rfl ?_
  refine Y_aload_n (pc := 7) (j := 0) dX12_fields_7 rfl rfl ?_
  refine Z_geti (pc := 8) dX12_fields_8 w8_78 (lk_69 hP1) fi_12_12 ?_
  refine Y_iconst (pc := 11) (v := (1 : Int32)) dX12_fields_11 rfl ?_
  refine Y_isub (pc := 12) dX12_fields_12 ?_
  obtain ⟨y1, qy1, h⟩ := bindE h
  have cy1 := v_X12_in hP1 qy1
  refine C_S3r (pc := 13) (k' := k_X12_in) dX12_fields_13 w9_110 i_X12_in (Nat.le_of_ble_eq_true rfl) (Nat.le_of_ble_eq_true rfl) (Nat.le_of_ble_eq_true rfl) (cy1) ?_
  have hPy1 := cy1.1.1
  refine Y_if_eq (pc := 16) (tgt := 28) dX12_fields_16 (by decide) (fun hc1 => ?_) (fun hc1 => ?_)
  · replace h := ifT hc1 h
    refine Y_aload_n (pc := 28) (j := 0) dX12_fields_28 rfl rfl ?_
    refine Y_iconst (pc := 29) (v := (1 : Int32)) dX12_fields_29 rfl ?_
    obtain ⟨y2, qy2, h⟩ := bindE h
    have cy2 := v_X12_fails hPy1 qy2
    refine C_V1r (pc := 30) (k' := k_X12_fails) dX12_fields_30 w9_113 i_X12_fails (lk_69 hPy1) ⟨Nat.le_of_ble_eq_true rfl, Nat.le_of_ble_eq_true rfl⟩ rfl (Nat.le_of_ble_eq_true rfl) (Nat.le_of_ble_eq_true rfl) (Nat.le_of_ble_eq_true rfl) (cy2) ?_
    have hPy2 := cy2.1.1
    cases h
    exact Y_iret (pc := 33) rfl rfl dX12_fields_33 hPy2 ⟨rfl, rfl⟩
  · replace h := ifF hc1 h
    refine Y_aload_n (pc := 19) (j := 0) dX12_fields_19 rfl rfl ?_
    refine Z_getr (pc := 20) dX12_fields_20 w8_80 (lk_69 hPy1) fr_12_14 (lr_69_14 hPy1) ?_
    refine Y_iload_n (pc := 23) (j := 1) dX12_fields_23 rfl rfl ?_
    obtain ⟨hb1, h⟩ := okE h
    refine Y_iald (pc := 24) dX12_fields_24 (lk_80 hPy1) (ln_80 hPy1) hb1 ?_
    refine Y_goto (pc := 25) (tgt := 33) dX12_fields_25 (by decide) ?_
    cases h
    exact Y_iret (pc := 33) rfl rfl dX12_fields_33 hPy1 ⟨rfl, rfl⟩
theorem v_X12_fields {x1 : Int32} {M z} (hP : Lay M) (h : d_X12_fields x1 M = some z) : CC Lay k_X12_fields [.ref 69, .int x1] M z.2 (Qv (some (.int z.1)) z.2) xF :=
  CC.ofVV (by decide) rfl (Nat.le_of_ble_eq_true rfl) (b_X12_fields hP h)
theorem b_X12_fieldAt {x1 : Int32} {x2 : Int32} {M z} (hP : Lay M) (h : d_X12_fieldAt x1 x2 M = some z) : VV Lay k_X12_fieldAt 0 [(0, .ref 69), (1, .int x1), (2, .int x2)] [] M z.2 (Qv (some (.int z.1)) z.2) xF := by
  unfold d_X12_fieldAt at h
  refine Y_aload_n (pc := 0) (j := 0) dX12_fieldAt_0 rfl rfl ?_
  refine Y_iconst (pc := 1) (v := (0 : Int32)) dX12_fieldAt_1 rfl ?_
  refine Z_puti (pc := 2) dX12_fieldAt_2 w8_66 (lk_69 hP) fi_12_0 (Or.inl rfl) rfl ?_
  obtain ⟨M1, eM1, h⟩ := bndE h
  refine VV.mem eM1 ?_
  have hP1 := hP.wI eM1
  refine Y_iload_n (pc := 5) (j := 1) dX12_fieldAt_5 rfl rfl ?_
  refine Y_iconst (pc := 6) (v := (0 : Int32)) dX12_fieldAt_6 rfl ?_
  refine Y_aload_n (pc := 7) (j := 0) dX12_fieldAt_7 rfl rfl ?_
  refine Z_geti (pc := 8) dX12_fieldAt_8 w8_78 (lk_69 hP1) fi_12_12 ?_
  refine Y_iconst (pc := 11) (v := (1 : Int32)) dX12_fieldAt_11 rfl ?_
  refine Y_isub (pc := 12) dX12_fieldAt_12 ?_
  obtain ⟨y1, qy1, h⟩ := bindE h
  have cy1 := v_X12_in hP1 qy1
  refine C_S3r (pc := 13) (k' := k_X12_in) dX12_fieldAt_13 w9_110 i_X12_in (Nat.le_of_ble_eq_true rfl) (Nat.le_of_ble_eq_true rfl) (Nat.le_of_ble_eq_true rfl) (cy1) ?_
  have hPy1 := cy1.1.1
  refine Y_if_ne (pc := 16) (tgt := 25) dX12_fieldAt_16 (by decide) (fun hc1 => ?_) (fun hc1 => ?_)
  · replace h := ifF hc1 h
    refine Y_iload_n (pc := 25) (j := 2) dX12_fieldAt_25 rfl rfl ?_
    refine Y_iconst (pc := 26) (v := (0 : Int32)) dX12_fieldAt_26 rfl ?_
    refine Y_aload_n (pc := 27) (j := 0) dX12_fieldAt_27 rfl rfl ?_
    refine Z_getr (pc := 28) dX12_fieldAt_28 w8_80 (lk_69 hPy1) fr_12_14 (lr_69_14 hPy1) ?_
    refine Y_iload_n (pc := 31) (j := 1) dX12_fieldAt_31 rfl rfl ?_
    obtain ⟨hb1, h⟩ := okE h
    refine Y_iald (pc := 32) dX12_fieldAt_32 (lk_80 hPy1) (ln_80 hPy1) hb1 ?_
    refine Y_iconst (pc := 33) (v := (1 : Int32)) dX12_fieldAt_33 rfl ?_
    refine Y_isub (pc := 34) dX12_fieldAt_34 ?_
    obtain ⟨y2, qy2, h⟩ := bindE h
    have cy2 := v_X12_in hPy1 qy2
    refine C_S3r (pc := 35) (k' := k_X12_in) dX12_fieldAt_35 w9_110 i_X12_in (Nat.le_of_ble_eq_true rfl) (Nat.le_of_ble_eq_true rfl) (Nat.le_of_ble_eq_true rfl) (cy2) ?_
    have hPy2 := cy2.1.1
    refine Y_if_eq (pc := 38) (tgt := 55) dX12_fieldAt_38 (by decide) (fun hc2 => ?_) (fun hc2 => ?_)
    · replace h := ifT hc2 h
      refine Y_aload_n (pc := 55) (j := 0) dX12_fieldAt_55 rfl rfl ?_
      refine Y_iconst (pc := 56) (v := (2 : Int32)) dX12_fieldAt_56 rfl ?_
      obtain ⟨y3, qy3, h⟩ := bindE h
      have cy3 := v_X12_fails hPy2 qy3
      refine C_V1r (pc := 57) (k' := k_X12_fails) dX12_fieldAt_57 w9_113 i_X12_fails (lk_69 hPy2) ⟨Nat.le_of_ble_eq_true rfl, Nat.le_of_ble_eq_true rfl⟩ rfl (Nat.le_of_ble_eq_true rfl) (Nat.le_of_ble_eq_true rfl) (Nat.le_of_ble_eq_true rfl) (cy3) ?_
      have hPy3 := cy3.1.1
      cases h
      exact Y_iret (pc := 60) rfl rfl dX12_fieldAt_60 hPy3 ⟨rfl, rfl⟩
    · replace h := ifF hc2 h
      refine Y_aload_n (pc := 41) (j := 0) dX12_fieldAt_41 rfl rfl ?_
      refine Z_getr (pc := 42) dX12_fieldAt_42 w8_81 (lk_69 hPy2) fr_12_15 (lr_69_15 hPy2) ?_
      refine Y_bipush (pc := 45) (v := (6 : Int32)) dX12_fieldAt_45 rfl ?_
      refine Y_iload_n (pc := 47) (j := 1) dX12_fieldAt_47 rfl rfl ?_
      refine Y_imul (pc := 48) dX12_fieldAt_48 ?_
      refine Y_iload_n (pc := 49) (j := 2) dX12_fieldAt_49 rfl rfl ?_
      refine Y_iadd (pc := 50) dX12_fieldAt_50 ?_
      obtain ⟨hb2, h⟩ := okE h
      refine Y_iald (pc := 51) dX12_fieldAt_51 (lk_81 hPy2) (ln_81 hPy2) hb2 ?_
      refine Y_goto (pc := 52) (tgt := 60) dX12_fieldAt_52 (by decide) ?_
      cases h
      exact Y_iret (pc := 60) rfl rfl dX12_fieldAt_60 hPy2 ⟨rfl, rfl⟩
  · replace h := ifT hc1 h
    refine Y_aload_n (pc := 19) (j := 0) dX12_fieldAt_19 rfl rfl ?_
    refine Y_iconst (pc := 20) (v := (1 : Int32)) dX12_fieldAt_20 rfl ?_
    obtain ⟨y4, qy4, h⟩ := bindE h
    have cy4 := v_X12_fails hPy1 qy4
    refine C_V1r (pc := 21) (k' := k_X12_fails) dX12_fieldAt_21 w9_113 i_X12_fails (lk_69 hPy1) ⟨Nat.le_of_ble_eq_true rfl, Nat.le_of_ble_eq_true rfl⟩ rfl (Nat.le_of_ble_eq_true rfl) (Nat.le_of_ble_eq_true rfl) (Nat.le_of_ble_eq_true rfl) (cy4) ?_
    have hPy4 := cy4.1.1
    cases h
    exact Y_iret (pc := 24) rfl rfl dX12_fieldAt_24 hPy4 ⟨rfl, rfl⟩
theorem v_X12_fieldAt {x1 : Int32} {x2 : Int32} {M z} (hP : Lay M) (h : d_X12_fieldAt x1 x2 M = some z) : CC Lay k_X12_fieldAt [.ref 69, .int x1, .int x2] M z.2 (Qv (some (.int z.1)) z.2) xF :=
  CC.ofVV (by decide) rfl (Nat.le_of_ble_eq_true rfl) (b_X12_fieldAt hP h)
theorem b_X12_nextShape {x1 : Int32} {x2 : Int32} {M z} (hP : Lay M) (h : d_X12_nextShape x1 x2 M = some z) : VV Lay k_X12_nextShape 0 [(0, .ref 69), (1, .int x1), (2, .int x2)] [] M z.2 (Qv (some (.int z.1)) z.2) xF := by
  unfold d_X12_nextShape at h
  refine Y_aload_n (pc := 0) (j := 0) dX12_nextShape_0 rfl rfl ?_
  refine Y_iconst (pc := 1) (v := (0 : Int32)) dX12_nextShape_1 rfl ?_
  refine Z_puti (pc := 2) dX12_nextShape_2 w8_66 (lk_69 hP) fi_12_0 (Or.inl rfl) rfl ?_
  obtain ⟨M1, eM1, h⟩ := bndE h
  refine VV.mem eM1 ?_
  have hP1 := hP.wI eM1
  refine Y_iload_n (pc := 5) (j := 1) dX12_nextShape_5 rfl rfl ?_
  refine Y_iconst (pc := 6) (v := (0 : Int32)) dX12_nextShape_6 rfl ?_
  refine Y_aload_n (pc := 7) (j := 0) dX12_nextShape_7 rfl rfl ?_
  refine Z_geti (pc := 8) dX12_nextShape_8 w8_78 (lk_69 hP1) fi_12_12 ?_
  refine Y_iconst (pc := 11) (v := (1 : Int32)) dX12_nextShape_11 rfl ?_
  refine Y_isub (pc := 12) dX12_nextShape_12 ?_
  obtain ⟨y1, qy1, h⟩ := bindE h
  have cy1 := v_X12_in hP1 qy1
  refine C_S3r (pc := 13) (k' := k_X12_in) dX12_nextShape_13 w9_110 i_X12_in (Nat.le_of_ble_eq_true rfl) (Nat.le_of_ble_eq_true rfl) (Nat.le_of_ble_eq_true rfl) (cy1) ?_
  have hPy1 := cy1.1.1
  refine Y_if_ne (pc := 16) (tgt := 25) dX12_nextShape_16 (by decide) (fun hc1 => ?_) (fun hc1 => ?_)
  · replace h := ifF hc1 h
    refine Y_iload_n (pc := 25) (j := 2) dX12_nextShape_25 rfl rfl ?_
    refine Y_iconst (pc := 26) (v := (0 : Int32)) dX12_nextShape_26 rfl ?_
    refine Y_iconst (pc := 27) (v := (5 : Int32)) dX12_nextShape_27 rfl ?_
    obtain ⟨y2, qy2, h⟩ := bindE h
    have cy2 := v_X12_in hPy1 qy2
    refine C_S3r (pc := 28) (k' := k_X12_in) dX12_nextShape_28 w9_110 i_X12_in (Nat.le_of_ble_eq_true rfl) (Nat.le_of_ble_eq_true rfl) (Nat.le_of_ble_eq_true rfl) (cy2) ?_
    have hPy2 := cy2.1.1
    refine Y_if_eq (pc := 31) (tgt := 63) dX12_nextShape_31 (by decide) (fun hc2 => ?_) (fun hc2 => ?_)
    · replace h := ifT hc2 h
      refine Y_aload_n (pc := 63) (j := 0) dX12_nextShape_63 rfl rfl ?_
      refine Y_iconst (pc := 64) (v := (2 : Int32)) dX12_nextShape_64 rfl ?_
      obtain ⟨y3, qy3, h⟩ := bindE h
      have cy3 := v_X12_fails hPy2 qy3
      refine C_V1r (pc := 65) (k' := k_X12_fails) dX12_nextShape_65 w9_113 i_X12_fails (lk_69 hPy2) ⟨Nat.le_of_ble_eq_true rfl, Nat.le_of_ble_eq_true rfl⟩ rfl (Nat.le_of_ble_eq_true rfl) (Nat.le_of_ble_eq_true rfl) (Nat.le_of_ble_eq_true rfl) (cy3) ?_
      have hPy3 := cy3.1.1
      cases h
      exact Y_iret (pc := 68) rfl rfl dX12_nextShape_68 hPy3 ⟨rfl, rfl⟩
    · replace h := ifF hc2 h
      refine Y_aload_n (pc := 34) (j := 0) dX12_nextShape_34 rfl rfl ?_
      refine Z_getr (pc := 35) dX12_nextShape_35 w8_82 (lk_69 hPy2) fr_12_16 (lr_69_16 hPy2) ?_
      refine Y_bipush (pc := 38) (v := (6 : Int32)) dX12_nextShape_38 rfl ?_
      refine Y_iload_n (pc := 40) (j := 1) dX12_nextShape_40 rfl rfl ?_
      refine Y_imul (pc := 41) dX12_nextShape_41 ?_
      refine Y_iload_n (pc := 42) (j := 2) dX12_nextShape_42 rfl rfl ?_
      refine Y_iadd (pc := 43) dX12_nextShape_43 ?_
      obtain ⟨hb1, h⟩ := okE h
      refine Y_iald (pc := 44) dX12_nextShape_44 (lk_82 hPy2) (ln_82 hPy2) hb1 ?_
      refine Y_iconst (pc := 45) (v := (-1 : Int32)) dX12_nextShape_45 rfl ?_
      refine Y_icmp_eq (pc := 46) (tgt := 63) dX12_nextShape_46 (by decide) (fun hc3 => ?_) (fun hc3 => ?_)
      · replace h := ifT hc3 h
        refine Y_aload_n (pc := 63) (j := 0) dX12_nextShape_63 rfl rfl ?_
        refine Y_iconst (pc := 64) (v := (2 : Int32)) dX12_nextShape_64 rfl ?_
        obtain ⟨y4, qy4, h⟩ := bindE h
        have cy4 := v_X12_fails hPy2 qy4
        refine C_V1r (pc := 65) (k' := k_X12_fails) dX12_nextShape_65 w9_113 i_X12_fails (lk_69 hPy2) ⟨Nat.le_of_ble_eq_true rfl, Nat.le_of_ble_eq_true rfl⟩ rfl (Nat.le_of_ble_eq_true rfl) (Nat.le_of_ble_eq_true rfl) (Nat.le_of_ble_eq_true rfl) (cy4) ?_
        have hPy4 := cy4.1.1
        cases h
        exact Y_iret (pc := 68) rfl rfl dX12_nextShape_68 hPy4 ⟨rfl, rfl⟩
      · replace h := ifF hc3 h
        refine Y_aload_n (pc := 49) (j := 0) dX12_nextShape_49 rfl rfl ?_
        refine Z_getr (pc := 50) dX12_nextShape_50 w8_82 (lk_69 hPy2) fr_12_16 (lr_69_16 hPy2) ?_
        refine Y_bipush (pc := 53) (v := (6 : Int32)) dX12_nextShape_53 rfl ?_
        refine Y_iload_n (pc := 55) (j := 1) dX12_nextShape_55 rfl rfl ?_
        refine Y_imul (pc := 56) dX12_nextShape_56 ?_
        refine Y_iload_n (pc := 57) (j := 2) dX12_nextShape_57 rfl rfl ?_
        refine Y_iadd (pc := 58) dX12_nextShape_58 ?_
        obtain ⟨hb2, h⟩ := okE h
        refine Y_iald (pc := 59) dX12_nextShape_59 (lk_82 hPy2) (ln_82 hPy2) hb2 ?_
        refine Y_goto (pc := 60) (tgt := 68) dX12_nextShape_60 (by decide) ?_
        cases h
        exact Y_iret (pc := 68) rfl rfl dX12_nextShape_68 hPy2 ⟨rfl, rfl⟩
  · replace h := ifT hc1 h
    refine Y_aload_n (pc := 19) (j := 0) dX12_nextShape_19 rfl rfl ?_
    refine Y_iconst (pc := 20) (v := (1 : Int32)) dX12_nextShape_20 rfl ?_
    obtain ⟨y5, qy5, h⟩ := bindE h
    have cy5 := v_X12_fails hPy1 qy5
    refine C_V1r (pc := 21) (k' := k_X12_fails) dX12_nextShape_21 w9_113 i_X12_fails (lk_69 hPy1) ⟨Nat.le_of_ble_eq_true rfl, Nat.le_of_ble_eq_true rfl⟩ rfl (Nat.le_of_ble_eq_true rfl) (Nat.le_of_ble_eq_true rfl) (Nat.le_of_ble_eq_true rfl) (cy5) ?_
    have hPy5 := cy5.1.1
    cases h
    exact Y_iret (pc := 24) rfl rfl dX12_nextShape_24 hPy5 ⟨rfl, rfl⟩
theorem v_X12_nextShape {x1 : Int32} {x2 : Int32} {M z} (hP : Lay M) (h : d_X12_nextShape x1 x2 M = some z) : CC Lay k_X12_nextShape [.ref 69, .int x1, .int x2] M z.2 (Qv (some (.int z.1)) z.2) xF :=
  CC.ofVV (by decide) rfl (Nat.le_of_ble_eq_true rfl) (b_X12_nextShape hP h)
theorem b_X12_cache_77 {x1 : Int32} {x2 : Int32} {s1 : Int32} {M z} (hP : Lay M) (h : d_X12_cache_77 x1 x2 s1 M = some z) : VV Lay k_X12_cache 77 [(0, .ref 69), (1, .int x1), (2, .int x2)] [.int s1, .ref 69] M z.2 (Qv (some (.int z.1)) z.2) xF := by
  unfold d_X12_cache_77 at h
  refine Z_puti (pc := 77) dX12_cache_77 w8_66 (lk_69 hP) fi_12_0 (Or.inl rfl) rfl ?_
  obtain ⟨M1, eM1, h⟩ := bndE h
  refine VV.mem eM1 ?_
  have hP1 := hP.wI eM1
  refine Y_aload_n (pc := 80) (j := 0) dX12_cache_80 rfl rfl ?_
  refine Z_geti (pc := 81) dX12_cache_81 w8_66 (lk_69 hP1) fi_12_0 ?_
  refine Y_if_le (pc := 84) (tgt := 91) dX12_cache_84 (by decide) (fun hc1 => ?_) (fun hc1 => ?_)
  · replace h := ifT hc1 h
    refine Y_bipush (pc := 91) (v := (40 : Int32)) dX12_cache_91 rfl ?_
    refine Y_iload_n (pc := 93) (j := 1) dX12_cache_93 rfl rfl ?_
    refine Y_imul (pc := 94) dX12_cache_94 ?_
    refine Y_iload_n (pc := 95) (j := 2) dX12_cache_95 rfl rfl ?_
    refine Y_iadd (pc := 96) dX12_cache_96 ?_
    cases h
    exact Y_iret (pc := 97) rfl rfl dX12_cache_97 hP1 ⟨rfl, rfl⟩
  · replace h := ifF hc1 h
    refine Y_iconst (pc := 87) (v := (-1 : Int32)) dX12_cache_87 rfl ?_
    refine Y_goto (pc := 88) (tgt := 97) dX12_cache_88 (by decide) ?_
    cases h
    exact Y_iret (pc := 97) rfl rfl dX12_cache_97 hP1 ⟨rfl, rfl⟩
theorem b_X12_cache_72 {x1 : Int32} {x2 : Int32} {M z} (hP : Lay M) (h : d_X12_cache_72 x1 x2 M = some z) : VV Lay k_X12_cache 72 [(0, .ref 69), (1, .int x1), (2, .int x2)] [.ref 69] M z.2 (Qv (some (.int z.1)) z.2) xF := by
  unfold d_X12_cache_72 at h
  refine Y_iconst (pc := 72) (v := (0 : Int32)) dX12_cache_72 rfl ?_
  refine Y_goto (pc := 73) (tgt := 77) dX12_cache_73 (by decide) ?_
  refine VV.sub [0, 1, 2] rfl ?_
  exact b_X12_cache_77  hP h
theorem b_X12_cache_52 {x1 : Int32} {x2 : Int32} {s0 : Int32} {M z} (hP : Lay M) (h : d_X12_cache_52 x1 x2 s0 M = some z) : VV Lay k_X12_cache 52 [(0, .ref 69), (1, .int x1), (2, .int x2)] [.int s0] M z.2 (Qv (some (.int z.1)) z.2) xF := by
  unfold d_X12_cache_52 at h
  refine Y_istore_n (pc := 52) (lv1 := [(3, .int s0), (0, .ref 69), (1, .int x1), (2, .int x2)]) dX12_cache_52 rfl (by decide) rfl ?_
  refine Y_aload_n (pc := 53) (j := 1) dX12_cache_53 rfl rfl ?_
  refine Y_iload_n (pc := 54) (j := 0) dX12_cache_54 rfl rfl ?_
  refine Y_bipush (pc := 55) (v := (103 : Int32)) dX12_cache_55 rfl ?_
  refine Y_icmp_eq (pc := 57) (tgt := 72) dX12_cache_57 (by decide) (fun hc1 => ?_) (fun hc1 => ?_)
  · replace h := ifT hc1 h
    refine VV.sub [1, 2, 3] rfl ?_
    exact b_X12_cache_72  hP h
  · replace h := ifF hc1 h
    refine Y_iload_n (pc := 60) (j := 0) dX12_cache_60 rfl rfl ?_
    refine Y_bipush (pc := 61) (v := (112 : Int32)) dX12_cache_61 rfl ?_
    refine Y_icmp_eq (pc := 63) (tgt := 72) dX12_cache_63 (by decide) (fun hc2 => ?_) (fun hc2 => ?_)
    · replace h := ifT hc2 h
      refine VV.sub [1, 2, 3] rfl ?_
      exact b_X12_cache_72  hP h
    · replace h := ifF hc2 h
      refine Y_iload_n (pc := 66) (j := 0) dX12_cache_66 rfl rfl ?_
      refine Y_bipush (pc := 67) (v := (109 : Int32)) dX12_cache_67 rfl ?_
      refine Y_icmp_ne (pc := 69) (tgt := 76) dX12_cache_69 (by decide) (fun hc3 => ?_) (fun hc3 => ?_)
      · replace h := ifF hc3 h
        refine Y_iconst (pc := 76) (v := (2 : Int32)) dX12_cache_76 rfl ?_
        refine VV.sub [1, 2, 3] rfl ?_
        exact b_X12_cache_77  hP h
      · replace h := ifT hc3 h
        refine VV.sub [1, 2, 3] rfl ?_
        exact b_X12_cache_72  hP h
theorem b_X12_cache {x1 : Int32} {x2 : Int32} {M z} (hP : Lay M) (h : d_X12_cache x1 x2 M = some z) : VV Lay k_X12_cache 0 [(0, .ref 69), (1, .int x1), (2, .int x2)] [] M z.2 (Qv (some (.int z.1)) z.2) xF := by
  unfold d_X12_cache at h
  refine Y_aload_n (pc := 0) (j := 0) dX12_cache_0 rfl rfl ?_
  refine Y_iconst (pc := 1) (v := (0 : Int32)) dX12_cache_1 rfl ?_
  refine Z_puti (pc := 2) dX12_cache_2 w8_66 (lk_69 hP) fi_12_0 (Or.inl rfl) rfl ?_
  obtain ⟨M1, eM1, h⟩ := bndE h
  refine VV.mem eM1 ?_
  have hP1 := hP.wI eM1
  refine Y_aload_n (pc := 5) (j := 0) dX12_cache_5 rfl rfl ?_
  refine Y_iload_n (pc := 6) (j := 1) dX12_cache_6 rfl rfl ?_
  obtain ⟨y1, qy1, h⟩ := bindE h
  have cy1 := v_X12_isFunction hP1 qy1
  refine C_V1r (pc := 7) (k' := k_X12_isFunction) dX12_cache_7 w9_121 i_X12_isFunction (lk_69 hP1) ⟨Nat.le_of_ble_eq_true rfl, Nat.le_of_ble_eq_true rfl⟩ rfl (Nat.le_of_ble_eq_true rfl) (Nat.le_of_ble_eq_true rfl) (Nat.le_of_ble_eq_true rfl) (cy1) ?_
  have hPy1 := cy1.1.1
  refine Y_if_ne (pc := 10) (tgt := 20) dX12_cache_10 (by decide) (fun hc1 => ?_) (fun hc1 => ?_)
  · replace h := ifF hc1 h
    refine Y_iload_n (pc := 20) (j := 2) dX12_cache_20 rfl rfl ?_
    refine Y_iconst (pc := 21) (v := (0 : Int32)) dX12_cache_21 rfl ?_
    refine Y_aload_n (pc := 22) (j := 0) dX12_cache_22 rfl rfl ?_
    refine Z_getr (pc := 23) dX12_cache_23 w8_69 (lk_69 hPy1) fr_12_3 (lr_69_3 hPy1) ?_
    refine Y_iload_n (pc := 26) (j := 1) dX12_cache_26 rfl rfl ?_
    obtain ⟨hb1, h⟩ := okE h
    refine Y_iald (pc := 27) dX12_cache_27 (lk_71 hPy1) (ln_71 hPy1) hb1 ?_
    refine Y_iconst (pc := 28) (v := (1 : Int32)) dX12_cache_28 rfl ?_
    refine Y_isub (pc := 29) dX12_cache_29 ?_
    obtain ⟨y2, qy2, h⟩ := bindE h
    have cy2 := v_X12_in hPy1 qy2
    refine C_S3r (pc := 30) (k' := k_X12_in) dX12_cache_30 w9_110 i_X12_in (Nat.le_of_ble_eq_true rfl) (Nat.le_of_ble_eq_true rfl) (Nat.le_of_ble_eq_true rfl) (cy2) ?_
    have hPy2 := cy2.1.1
    refine Y_if_eq (pc := 33) (tgt := 50) dX12_cache_33 (by decide) (fun hc2 => ?_) (fun hc2 => ?_)
    · replace h := ifT hc2 h
      refine Y_bipush (pc := 50) (v := (32 : Int32)) dX12_cache_50 rfl ?_
      refine VV.sub [0, 1, 2] rfl ?_
      exact b_X12_cache_52  hPy2 h
    · replace h := ifF hc2 h
      refine Y_aload_n (pc := 36) (j := 0) dX12_cache_36 rfl rfl ?_
      refine Z_getr (pc := 37) dX12_cache_37 w8_70 (lk_69 hPy2) fr_12_4 (lr_69_4 hPy2) ?_
      refine Y_bipush (pc := 40) (v := (40 : Int32)) dX12_cache_40 rfl ?_
      refine Y_iload_n (pc := 42) (j := 1) dX12_cache_42 rfl rfl ?_
      refine Y_imul (pc := 43) dX12_cache_43 ?_
      refine Y_iload_n (pc := 44) (j := 2) dX12_cache_44 rfl rfl ?_
      refine Y_iadd (pc := 45) dX12_cache_45 ?_
      obtain ⟨hb2, h⟩ := okE h
      refine Y_cald (pc := 46) dX12_cache_46 (lk_72 hPy2) (ln_72 hPy2) hb2 ?_
      refine Y_goto (pc := 47) (tgt := 52) dX12_cache_47 (by decide) ?_
      refine VV.sub [0, 1, 2] rfl ?_
      exact b_X12_cache_52  hPy2 h
  · replace h := ifT hc1 h
    refine Y_aload_n (pc := 13) (j := 0) dX12_cache_13 rfl rfl ?_
    refine Y_iconst (pc := 14) (v := (1 : Int32)) dX12_cache_14 rfl ?_
    refine Z_puti (pc := 15) dX12_cache_15 w8_66 (lk_69 hPy1) fi_12_0 (Or.inl rfl) rfl ?_
    obtain ⟨M2, eM2, h⟩ := bndE h
    refine VV.mem eM2 ?_
    have hP2 := hPy1.wI eM2
    refine Y_iconst (pc := 18) (v := (-1 : Int32)) dX12_cache_18 rfl ?_
    cases h
    exact Y_iret (pc := 19) rfl rfl dX12_cache_19 hP2 ⟨rfl, rfl⟩
theorem v_X12_cache {x1 : Int32} {x2 : Int32} {M z} (hP : Lay M) (h : d_X12_cache x1 x2 M = some z) : CC Lay k_X12_cache [.ref 69, .int x1, .int x2] M z.2 (Qv (some (.int z.1)) z.2) xF :=
  CC.ofVV (by decide) rfl (Nat.le_of_ble_eq_true rfl) (b_X12_cache hP h)
theorem b_X12_cacheState {x1 : Int32} {x2 : Int32} {M z} (hP : Lay M) (h : d_X12_cacheState x1 x2 M = some z) : VV Lay k_X12_cacheState 0 [(0, .ref 69), (1, .int x1), (2, .int x2)] [] M z.2 (Qv (some (.int z.1)) z.2) xF := by
  unfold d_X12_cacheState at h
  refine Y_aload_n (pc := 0) (j := 0) dX12_cacheState_0 rfl rfl ?_
  refine Y_iload_n (pc := 1) (j := 1) dX12_cacheState_1 rfl rfl ?_
  refine Y_iload_n (pc := 2) (j := 2) dX12_cacheState_2 rfl rfl ?_
  obtain ⟨y1, qy1, h⟩ := bindE h
  have cy1 := v_X12_cache hP qy1
  refine C_V2r (pc := 3) (k' := k_X12_cache) dX12_cacheState_3 w10_219 i_X12_cache (lk_69 hP) ⟨Nat.le_of_ble_eq_true rfl, Nat.le_of_ble_eq_true rfl⟩ rfl (Nat.le_of_ble_eq_true rfl) (Nat.le_of_ble_eq_true rfl) (Nat.le_of_ble_eq_true rfl) (cy1) ?_
  have hPy1 := cy1.1.1
  refine Y_istore_n (pc := 6) (lv1 := [(3, .int y1.1), (0, .ref 69), (1, .int x1), (2, .int x2)]) dX12_cacheState_6 rfl (by decide) rfl ?_
  refine Y_iload_n (pc := 7) (j := 0) dX12_cacheState_7 rfl rfl ?_
  refine Y_iconst (pc := 8) (v := (-1 : Int32)) dX12_cacheState_8 rfl ?_
  refine Y_icmp_ne (pc := 9) (tgt := 14) dX12_cacheState_9 (by decide) (fun hc1 => ?_) (fun hc1 => ?_)
  · replace h := ifF hc1 h
    refine Y_aload_n (pc := 14) (j := 1) dX12_cacheState_14 rfl rfl ?_
    refine Z_getr (pc := 15) dX12_cacheState_15 w8_83 (lk_69 hPy1) fr_12_17 (lr_69_17 hPy1) ?_
    refine Y_iload_n (pc := 18) (j := 0) dX12_cacheState_18 rfl rfl ?_
    obtain ⟨hb1, h⟩ := okE h
    refine Y_iald (pc := 19) dX12_cacheState_19 (lk_83 hPy1) (ln_83 hPy1) hb1 ?_
    refine Y_iconst (pc := 20) (v := (-1 : Int32)) dX12_cacheState_20 rfl ?_
    refine Y_icmp_ne (pc := 21) (tgt := 29) dX12_cacheState_21 (by decide) (fun hc2 => ?_) (fun hc2 => ?_)
    · replace h := ifF hc2 h
      refine Y_aload_n (pc := 29) (j := 1) dX12_cacheState_29 rfl rfl ?_
      refine Z_getr (pc := 30) dX12_cacheState_30 w8_83 (lk_69 hPy1) fr_12_17 (lr_69_17 hPy1) ?_
      refine Y_iload_n (pc := 33) (j := 0) dX12_cacheState_33 rfl rfl ?_
      obtain ⟨hb2, h⟩ := okE h
      refine Y_iald (pc := 34) dX12_cacheState_34 (lk_83 hPy1) (ln_83 hPy1) hb2 ?_
      refine Y_if_ne (pc := 35) (tgt := 43) dX12_cacheState_35 (by decide) (fun hc3 => ?_) (fun hc3 => ?_)
      · replace h := ifF hc3 h
        refine Y_bipush (pc := 43) (v := (48 : Int32)) dX12_cacheState_43 rfl ?_
        refine Y_aload_n (pc := 45) (j := 1) dX12_cacheState_45 rfl rfl ?_
        refine Z_getr (pc := 46) dX12_cacheState_46 w8_83 (lk_69 hPy1) fr_12_17 (lr_69_17 hPy1) ?_
        refine Y_iload_n (pc := 49) (j := 0) dX12_cacheState_49 rfl rfl ?_
        obtain ⟨hb3, h⟩ := okE h
        refine Y_iald (pc := 50) dX12_cacheState_50 (lk_83 hPy1) (ln_83 hPy1) hb3 ?_
        refine Y_iadd (pc := 51) dX12_cacheState_51 ?_
        refine Y_i2c (pc := 52) dX12_cacheState_52 ?_
        obtain ⟨hb4, h⟩ := okE h
        cases h
        exact Y_iret (pc := 53) rfl (nar_ch hb4) dX12_cacheState_53 hPy1 ⟨rfl, rfl⟩
      · replace h := ifT hc3 h
        refine Y_bipush (pc := 38) (v := (101 : Int32)) dX12_cacheState_38 rfl ?_
        refine Y_goto (pc := 40) (tgt := 53) dX12_cacheState_40 (by decide) ?_
        cases h
        exact Y_iret (pc := 53) rfl (nar_ch (by decide)) dX12_cacheState_53 hPy1 ⟨rfl, rfl⟩
    · replace h := ifT hc2 h
      refine Y_bipush (pc := 24) (v := (120 : Int32)) dX12_cacheState_24 rfl ?_
      refine Y_goto (pc := 26) (tgt := 53) dX12_cacheState_26 (by decide) ?_
      cases h
      exact Y_iret (pc := 53) rfl (nar_ch (by decide)) dX12_cacheState_53 hPy1 ⟨rfl, rfl⟩
  · replace h := ifT hc1 h
    refine Y_iconst (pc := 12) (v := (0 : Int32)) dX12_cacheState_12 rfl ?_
    cases h
    exact Y_iret (pc := 13) rfl (nar_ch (by decide)) dX12_cacheState_13 hPy1 ⟨rfl, rfl⟩
theorem v_X12_cacheState {x1 : Int32} {x2 : Int32} {M z} (hP : Lay M) (h : d_X12_cacheState x1 x2 M = some z) : CC Lay k_X12_cacheState [.ref 69, .int x1, .int x2] M z.2 (Qv (some (.int z.1)) z.2) xF :=
  CC.ofVV (by decide) rfl (Nat.le_of_ble_eq_true rfl) (b_X12_cacheState hP h)
theorem b_X12_hits {x1 : Int32} {x2 : Int32} {M z} (hP : Lay M) (h : d_X12_hits x1 x2 M = some z) : VV Lay k_X12_hits 0 [(0, .ref 69), (1, .int x1), (2, .int x2)] [] M z.2 (Qv (some (.int z.1)) z.2) xF := by
  unfold d_X12_hits at h
  refine Y_aload_n (pc := 0) (j := 0) dX12_hits_0 rfl rfl ?_
  refine Y_iload_n (pc := 1) (j := 1) dX12_hits_1 rfl rfl ?_
  refine Y_iload_n (pc := 2) (j := 2) dX12_hits_2 rfl rfl ?_
  obtain ⟨y1, qy1, h⟩ := bindE h
  have cy1 := v_X12_cache hP qy1
  refine C_V2r (pc := 3) (k' := k_X12_cache) dX12_hits_3 w10_219 i_X12_cache (lk_69 hP) ⟨Nat.le_of_ble_eq_true rfl, Nat.le_of_ble_eq_true rfl⟩ rfl (Nat.le_of_ble_eq_true rfl) (Nat.le_of_ble_eq_true rfl) (Nat.le_of_ble_eq_true rfl) (cy1) ?_
  have hPy1 := cy1.1.1
  refine Y_istore_n (pc := 6) (lv1 := [(3, .int y1.1), (0, .ref 69), (1, .int x1), (2, .int x2)]) dX12_hits_6 rfl (by decide) rfl ?_
  refine Y_iload_n (pc := 7) (j := 0) dX12_hits_7 rfl rfl ?_
  refine Y_iconst (pc := 8) (v := (-1 : Int32)) dX12_hits_8 rfl ?_
  refine Y_icmp_ne (pc := 9) (tgt := 16) dX12_hits_9 (by decide) (fun hc1 => ?_) (fun hc1 => ?_)
  · replace h := ifF hc1 h
    refine Y_aload_n (pc := 16) (j := 1) dX12_hits_16 rfl rfl ?_
    refine Z_getr (pc := 17) dX12_hits_17 w8_85 (lk_69 hPy1) fr_12_19 (lr_69_19 hPy1) ?_
    refine Y_iload_n (pc := 20) (j := 0) dX12_hits_20 rfl rfl ?_
    obtain ⟨hb1, h⟩ := okE h
    refine Y_iald (pc := 21) dX12_hits_21 (lk_85 hPy1) (ln_85 hPy1) hb1 ?_
    cases h
    exact Y_iret (pc := 22) rfl rfl dX12_hits_22 hPy1 ⟨rfl, rfl⟩
  · replace h := ifT hc1 h
    refine Y_iconst (pc := 12) (v := (0 : Int32)) dX12_hits_12 rfl ?_
    refine Y_goto (pc := 13) (tgt := 22) dX12_hits_13 (by decide) ?_
    cases h
    exact Y_iret (pc := 22) rfl rfl dX12_hits_22 hPy1 ⟨rfl, rfl⟩
theorem v_X12_hits {x1 : Int32} {x2 : Int32} {M z} (hP : Lay M) (h : d_X12_hits x1 x2 M = some z) : CC Lay k_X12_hits [.ref 69, .int x1, .int x2] M z.2 (Qv (some (.int z.1)) z.2) xF :=
  CC.ofVV (by decide) rfl (Nat.le_of_ble_eq_true rfl) (b_X12_hits hP h)
theorem b_X12_misses {x1 : Int32} {x2 : Int32} {M z} (hP : Lay M) (h : d_X12_misses x1 x2 M = some z) : VV Lay k_X12_misses 0 [(0, .ref 69), (1, .int x1), (2, .int x2)] [] M z.2 (Qv (some (.int z.1)) z.2) xF := by
  unfold d_X12_misses at h
  refine Y_aload_n (pc := 0) (j := 0) dX12_misses_0 rfl rfl ?_
  refine Y_iload_n (pc := 1) (j := 1) dX12_misses_1 rfl rfl ?_
  refine Y_iload_n (pc := 2) (j := 2) dX12_misses_2 rfl rfl ?_
  obtain ⟨y1, qy1, h⟩ := bindE h
  have cy1 := v_X12_cache hP qy1
  refine C_V2r (pc := 3) (k' := k_X12_cache) dX12_misses_3 w10_219 i_X12_cache (lk_69 hP) ⟨Nat.le_of_ble_eq_true rfl, Nat.le_of_ble_eq_true rfl⟩ rfl (Nat.le_of_ble_eq_true rfl) (Nat.le_of_ble_eq_true rfl) (Nat.le_of_ble_eq_true rfl) (cy1) ?_
  have hPy1 := cy1.1.1
  refine Y_istore_n (pc := 6) (lv1 := [(3, .int y1.1), (0, .ref 69), (1, .int x1), (2, .int x2)]) dX12_misses_6 rfl (by decide) rfl ?_
  refine Y_iload_n (pc := 7) (j := 0) dX12_misses_7 rfl rfl ?_
  refine Y_iconst (pc := 8) (v := (-1 : Int32)) dX12_misses_8 rfl ?_
  refine Y_icmp_ne (pc := 9) (tgt := 16) dX12_misses_9 (by decide) (fun hc1 => ?_) (fun hc1 => ?_)
  · replace h := ifF hc1 h
    refine Y_aload_n (pc := 16) (j := 1) dX12_misses_16 rfl rfl ?_
    refine Z_getr (pc := 17) dX12_misses_17 w8_86 (lk_69 hPy1) fr_12_20 (lr_69_20 hPy1) ?_
    refine Y_iload_n (pc := 20) (j := 0) dX12_misses_20 rfl rfl ?_
    obtain ⟨hb1, h⟩ := okE h
    refine Y_iald (pc := 21) dX12_misses_21 (lk_86 hPy1) (ln_86 hPy1) hb1 ?_
    cases h
    exact Y_iret (pc := 22) rfl rfl dX12_misses_22 hPy1 ⟨rfl, rfl⟩
  · replace h := ifT hc1 h
    refine Y_iconst (pc := 12) (v := (0 : Int32)) dX12_misses_12 rfl ?_
    refine Y_goto (pc := 13) (tgt := 22) dX12_misses_13 (by decide) ?_
    cases h
    exact Y_iret (pc := 22) rfl rfl dX12_misses_22 hPy1 ⟨rfl, rfl⟩
theorem v_X12_misses {x1 : Int32} {x2 : Int32} {M z} (hP : Lay M) (h : d_X12_misses x1 x2 M = some z) : CC Lay k_X12_misses [.ref 69, .int x1, .int x2] M z.2 (Qv (some (.int z.1)) z.2) xF :=
  CC.ofVV (by decide) rfl (Nat.le_of_ble_eq_true rfl) (b_X12_misses hP h)
theorem b_X12_isHead_28 {s1 : Int32} {M z} (hP : Lay M) (h : d_X12_isHead_28 s1 M = some z) : VV Lay k_X12_isHead 28 [(0, .ref 69)] [.int s1, .ref 69] M z.2 (Qv (some (.int z.1)) z.2) xF := by
  unfold d_X12_isHead_28 at h
  refine Z_puti (pc := 28) dX12_isHead_28 w8_66 (lk_69 hP) fi_12_0 (Or.inl rfl) rfl ?_
  obtain ⟨M1, eM1, h⟩ := bndE h
  refine VV.mem eM1 ?_
  have hP1 := hP.wI eM1
  refine Y_aload_n (pc := 31) (j := 0) dX12_isHead_31 rfl rfl ?_
  refine Z_geti (pc := 32) dX12_isHead_32 w8_66 (lk_69 hP1) fi_12_0 ?_
  refine Y_if_ne (pc := 35) (tgt := 42) dX12_isHead_35 (by decide) (fun hc1 => ?_) (fun hc1 => ?_)
  · replace h := ifF hc1 h
    refine Y_iconst (pc := 42) (v := (0 : Int32)) dX12_isHead_42 rfl ?_
    cases h
    exact Y_iret (pc := 43) rfl (nar_bo (by decide)) dX12_isHead_43 hP1 ⟨rfl, rfl⟩
  · replace h := ifT hc1 h
    refine Y_iconst (pc := 38) (v := (1 : Int32)) dX12_isHead_38 rfl ?_
    refine Y_goto (pc := 39) (tgt := 43) dX12_isHead_39 (by decide) ?_
    cases h
    exact Y_iret (pc := 43) rfl (nar_bo (by decide)) dX12_isHead_43 hP1 ⟨rfl, rfl⟩
theorem b_X12_isHead {x1 : Int32} {x2 : Int32} {M z} (hP : Lay M) (h : d_X12_isHead x1 x2 M = some z) : VV Lay k_X12_isHead 0 [(0, .ref 69), (1, .int x1), (2, .int x2)] [] M z.2 (Qv (some (.int z.1)) z.2) xF := by
  unfold d_X12_isHead at h
  refine Y_aload_n (pc := 0) (j := 0) dX12_isHead_0 rfl rfl ?_
  refine Y_aload_n (pc := 1) (j := 0) dX12_isHead_1 rfl rfl ?_
  refine Y_iload_n (pc := 2) (j := 1) dX12_isHead_2 rfl rfl ?_
  obtain ⟨y1, qy1, h⟩ := bindE h
  have cy1 := v_X12_isFunction hP qy1
  refine C_V1r (pc := 3) (k' := k_X12_isFunction) dX12_isHead_3 w9_121 i_X12_isFunction (lk_69 hP) ⟨Nat.le_of_ble_eq_true rfl, Nat.le_of_ble_eq_true rfl⟩ rfl (Nat.le_of_ble_eq_true rfl) (Nat.le_of_ble_eq_true rfl) (Nat.le_of_ble_eq_true rfl) (cy1) ?_
  have hPy1 := cy1.1.1
  refine Y_if_ne (pc := 6) (tgt := 13) dX12_isHead_6 (by decide) (fun hc1 => ?_) (fun hc1 => ?_)
  · replace h := ifF hc1 h
    refine Y_iload_n (pc := 13) (j := 2) dX12_isHead_13 rfl rfl ?_
    refine Y_iconst (pc := 14) (v := (0 : Int32)) dX12_isHead_14 rfl ?_
    refine Y_bipush (pc := 15) (v := (39 : Int32)) dX12_isHead_15 rfl ?_
    obtain ⟨y2, qy2, h⟩ := bindE h
    have cy2 := v_X12_in hPy1 qy2
    refine C_S3r (pc := 17) (k' := k_X12_in) dX12_isHead_17 w9_110 i_X12_in (Nat.le_of_ble_eq_true rfl) (Nat.le_of_ble_eq_true rfl) (Nat.le_of_ble_eq_true rfl) (cy2) ?_
    have hPy2 := cy2.1.1
    refine Y_if_ne (pc := 20) (tgt := 27) dX12_isHead_20 (by decide) (fun hc2 => ?_) (fun hc2 => ?_)
    · replace h := ifF hc2 h
      refine Y_iconst (pc := 27) (v := (0 : Int32)) dX12_isHead_27 rfl ?_
      refine VV.sub [0] rfl ?_
      exact b_X12_isHead_28  hPy2 h
    · replace h := ifT hc2 h
      refine Y_iconst (pc := 23) (v := (2 : Int32)) dX12_isHead_23 rfl ?_
      refine Y_goto (pc := 24) (tgt := 28) dX12_isHead_24 (by decide) ?_
      refine VV.sub [0] rfl ?_
      exact b_X12_isHead_28  hPy2 h
  · replace h := ifT hc1 h
    refine Y_iconst (pc := 9) (v := (1 : Int32)) dX12_isHead_9 rfl ?_
    refine Y_goto (pc := 10) (tgt := 28) dX12_isHead_10 (by decide) ?_
    refine VV.sub [0] rfl ?_
    exact b_X12_isHead_28  hPy1 h
theorem v_X12_isHead {x1 : Int32} {x2 : Int32} {M z} (hP : Lay M) (h : d_X12_isHead x1 x2 M = some z) : CC Lay k_X12_isHead [.ref 69, .int x1, .int x2] M z.2 (Qv (some (.int z.1)) z.2) xF :=
  CC.ofVV (by decide) rfl (Nat.le_of_ble_eq_true rfl) (b_X12_isHead hP h)
theorem b_X12_counter {x1 : Int32} {x2 : Int32} {M z} (hP : Lay M) (h : d_X12_counter x1 x2 M = some z) : VV Lay k_X12_counter 0 [(0, .ref 69), (1, .int x1), (2, .int x2)] [] M z.2 (Qv (some (.int z.1)) z.2) xF := by
  unfold d_X12_counter at h
  refine Y_aload_n (pc := 0) (j := 0) dX12_counter_0 rfl rfl ?_
  refine Y_iload_n (pc := 1) (j := 1) dX12_counter_1 rfl rfl ?_
  refine Y_iload_n (pc := 2) (j := 2) dX12_counter_2 rfl rfl ?_
  obtain ⟨y1, qy1, h⟩ := bindE h
  have cy1 := v_X12_isHead hP qy1
  refine C_V2r (pc := 3) (k' := k_X12_isHead) dX12_counter_3 w10_235 i_X12_isHead (lk_69 hP) ⟨Nat.le_of_ble_eq_true rfl, Nat.le_of_ble_eq_true rfl⟩ rfl (Nat.le_of_ble_eq_true rfl) (Nat.le_of_ble_eq_true rfl) (Nat.le_of_ble_eq_true rfl) (cy1) ?_
  have hPy1 := cy1.1.1
  refine Y_if_eq (pc := 6) (tgt := 23) dX12_counter_6 (by decide) (fun hc1 => ?_) (fun hc1 => ?_)
  · replace h := ifT hc1 h
    refine Y_iconst (pc := 23) (v := (0 : Int32)) dX12_counter_23 rfl ?_
    cases h
    exact Y_iret (pc := 24) rfl rfl dX12_counter_24 hPy1 ⟨rfl, rfl⟩
  · replace h := ifF hc1 h
    refine Y_aload_n (pc := 9) (j := 0) dX12_counter_9 rfl rfl ?_
    refine Z_getr (pc := 10) dX12_counter_10 w8_87 (lk_69 hPy1) fr_12_21 (lr_69_21 hPy1) ?_
    refine Y_bipush (pc := 13) (v := (40 : Int32)) dX12_counter_13 rfl ?_
    refine Y_iload_n (pc := 15) (j := 1) dX12_counter_15 rfl rfl ?_
    refine Y_imul (pc := 16) dX12_counter_16 ?_
    refine Y_iload_n (pc := 17) (j := 2) dX12_counter_17 rfl rfl ?_
    refine Y_iadd (pc := 18) dX12_counter_18 ?_
    obtain ⟨hb1, h⟩ := okE h
    refine Y_iald (pc := 19) dX12_counter_19 (lk_87 hPy1) (ln_87 hPy1) hb1 ?_
    refine Y_goto (pc := 20) (tgt := 24) dX12_counter_20 (by decide) ?_
    cases h
    exact Y_iret (pc := 24) rfl rfl dX12_counter_24 hPy1 ⟨rfl, rfl⟩
theorem v_X12_counter {x1 : Int32} {x2 : Int32} {M z} (hP : Lay M) (h : d_X12_counter x1 x2 M = some z) : CC Lay k_X12_counter [.ref 69, .int x1, .int x2] M z.2 (Qv (some (.int z.1)) z.2) xF :=
  CC.ofVV (by decide) rfl (Nat.le_of_ble_eq_true rfl) (b_X12_counter hP h)
theorem b_X12_isBarred {x1 : Int32} {x2 : Int32} {M z} (hP : Lay M) (h : d_X12_isBarred x1 x2 M = some z) : VV Lay k_X12_isBarred 0 [(0, .ref 69), (1, .int x1), (2, .int x2)] [] M z.2 (Qv (some (.int z.1)) z.2) xF := by
  unfold d_X12_isBarred at h
  refine Y_aload_n (pc := 0) (j := 0) dX12_isBarred_0 rfl rfl ?_
  refine Y_iload_n (pc := 1) (j := 1) dX12_isBarred_1 rfl rfl ?_
  refine Y_iload_n (pc := 2) (j := 2) dX12_isBarred_2 rfl rfl ?_
  obtain ⟨y1, qy1, h⟩ := bindE h
  have cy1 := v_X12_isHead hP qy1
  refine C_V2r (pc := 3) (k' := k_X12_isHead) dX12_isBarred_3 w10_235 i_X12_isHead (lk_69 hP) ⟨Nat.le_of_ble_eq_true rfl, Nat.le_of_ble_eq_true rfl⟩ rfl (Nat.le_of_ble_eq_true rfl) (Nat.le_of_ble_eq_true rfl) (Nat.le_of_ble_eq_true rfl) (cy1) ?_
  have hPy1 := cy1.1.1
  refine Y_if_eq (pc := 6) (tgt := 28) dX12_isBarred_6 (by decide) (fun hc1 => ?_) (fun hc1 => ?_)
  · replace h := ifT hc1 h
    refine Y_iconst (pc := 28) (v := (0 : Int32)) dX12_isBarred_28 rfl ?_
    cases h
    exact Y_iret (pc := 29) rfl (nar_bo (by decide)) dX12_isBarred_29 hPy1 ⟨rfl, rfl⟩
  · replace h := ifF hc1 h
    refine Y_aload_n (pc := 9) (j := 0) dX12_isBarred_9 rfl rfl ?_
    refine Z_getr (pc := 10) dX12_isBarred_10 w8_88 (lk_69 hPy1) fr_12_22 (lr_69_22 hPy1) ?_
    refine Y_bipush (pc := 13) (v := (40 : Int32)) dX12_isBarred_13 rfl ?_
    refine Y_iload_n (pc := 15) (j := 1) dX12_isBarred_15 rfl rfl ?_
    refine Y_imul (pc := 16) dX12_isBarred_16 ?_
    refine Y_iload_n (pc := 17) (j := 2) dX12_isBarred_17 rfl rfl ?_
    refine Y_iadd (pc := 18) dX12_isBarred_18 ?_
    obtain ⟨hb1, h⟩ := okE h
    refine Y_iald (pc := 19) dX12_isBarred_19 (lk_88 hPy1) (ln_88 hPy1) hb1 ?_
    refine Y_iconst (pc := 20) (v := (2 : Int32)) dX12_isBarred_20 rfl ?_
    refine Y_icmp_lt (pc := 21) (tgt := 28) dX12_isBarred_21 (by decide) (fun hc2 => ?_) (fun hc2 => ?_)
    · replace h := ifT hc2 h
      refine Y_iconst (pc := 28) (v := (0 : Int32)) dX12_isBarred_28 rfl ?_
      cases h
      exact Y_iret (pc := 29) rfl (nar_bo (by decide)) dX12_isBarred_29 hPy1 ⟨rfl, rfl⟩
    · replace h := ifF hc2 h
      refine Y_iconst (pc := 24) (v := (1 : Int32)) dX12_isBarred_24 rfl ?_
      refine Y_goto (pc := 25) (tgt := 29) dX12_isBarred_25 (by decide) ?_
      cases h
      exact Y_iret (pc := 29) rfl (nar_bo (by decide)) dX12_isBarred_29 hPy1 ⟨rfl, rfl⟩
theorem v_X12_isBarred {x1 : Int32} {x2 : Int32} {M z} (hP : Lay M) (h : d_X12_isBarred x1 x2 M = some z) : CC Lay k_X12_isBarred [.ref 69, .int x1, .int x2] M z.2 (Qv (some (.int z.1)) z.2) xF :=
  CC.ofVV (by decide) rfl (Nat.le_of_ble_eq_true rfl) (b_X12_isBarred hP h)
theorem b_X12_traces {M z} (hP : Lay M) (h : d_X12_traces M = some z) : VV Lay k_X12_traces 0 [(0, .ref 69)] [] M z.2 (Qv (some (.int z.1)) z.2) xF := by
  unfold d_X12_traces at h
  refine Y_aload_n (pc := 0) (j := 0) dX12_traces_0 rfl rfl ?_
  refine Y_iconst (pc := 1) (v := (0 : Int32)) dX12_traces_1 rfl ?_
  refine Z_puti (pc := 2) dX12_traces_2 w8_66 (lk_69 hP) fi_12_0 (Or.inl rfl) rfl ?_
  obtain ⟨M1, eM1, h⟩ := bndE h
  refine VV.mem eM1 ?_
  have hP1 := hP.wI eM1
  refine Y_aload_n (pc := 5) (j := 0) dX12_traces_5 rfl rfl ?_
  refine Z_geti (pc := 6) dX12_traces_6 w8_92 (lk_69 hP1) fi_12_26 ?_
  cases h
  exact Y_iret (pc := 9) rfl rfl dX12_traces_9 hP1 ⟨rfl, rfl⟩
theorem v_X12_traces {M z} (hP : Lay M) (h : d_X12_traces M = some z) : CC Lay k_X12_traces [.ref 69] M z.2 (Qv (some (.int z.1)) z.2) xF :=
  CC.ofVV (by decide) rfl (Nat.le_of_ble_eq_true rfl) (b_X12_traces hP h)
theorem b_X12_isTrace_20 {s1 : Int32} {M z} (hP : Lay M) (h : d_X12_isTrace_20 s1 M = some z) : VV Lay k_X12_isTrace 20 [(0, .ref 69)] [.int s1, .ref 69] M z.2 (Qv (some (.int z.1)) z.2) xF := by
  unfold d_X12_isTrace_20 at h
  refine Z_puti (pc := 20) dX12_isTrace_20 w8_66 (lk_69 hP) fi_12_0 (Or.inl rfl) rfl ?_
  obtain ⟨M1, eM1, h⟩ := bndE h
  refine VV.mem eM1 ?_
  have hP1 := hP.wI eM1
  refine Y_aload_n (pc := 23) (j := 0) dX12_isTrace_23 rfl rfl ?_
  refine Z_geti (pc := 24) dX12_isTrace_24 w8_66 (lk_69 hP1) fi_12_0 ?_
  refine Y_if_ne (pc := 27) (tgt := 34) dX12_isTrace_27 (by decide) (fun hc1 => ?_) (fun hc1 => ?_)
  · replace h := ifF hc1 h
    refine Y_iconst (pc := 34) (v := (0 : Int32)) dX12_isTrace_34 rfl ?_
    cases h
    exact Y_iret (pc := 35) rfl (nar_bo (by decide)) dX12_isTrace_35 hP1 ⟨rfl, rfl⟩
  · replace h := ifT hc1 h
    refine Y_iconst (pc := 30) (v := (1 : Int32)) dX12_isTrace_30 rfl ?_
    refine Y_goto (pc := 31) (tgt := 35) dX12_isTrace_31 (by decide) ?_
    cases h
    exact Y_iret (pc := 35) rfl (nar_bo (by decide)) dX12_isTrace_35 hP1 ⟨rfl, rfl⟩
theorem b_X12_isTrace {x1 : Int32} {M z} (hP : Lay M) (h : d_X12_isTrace x1 M = some z) : VV Lay k_X12_isTrace 0 [(0, .ref 69), (1, .int x1)] [] M z.2 (Qv (some (.int z.1)) z.2) xF := by
  unfold d_X12_isTrace at h
  refine Y_aload_n (pc := 0) (j := 0) dX12_isTrace_0 rfl rfl ?_
  refine Y_iload_n (pc := 1) (j := 1) dX12_isTrace_1 rfl rfl ?_
  refine Y_iconst (pc := 2) (v := (0 : Int32)) dX12_isTrace_2 rfl ?_
  refine Y_aload_n (pc := 3) (j := 0) dX12_isTrace_3 rfl rfl ?_
  refine Z_geti (pc := 4) dX12_isTrace_4 w8_92 (lk_69 hP) fi_12_26 ?_
  refine Y_iconst (pc := 7) (v := (1 : Int32)) dX12_isTrace_7 rfl ?_
  refine Y_isub (pc := 8) dX12_isTrace_8 ?_
  obtain ⟨y1, qy1, h⟩ := bindE h
  have cy1 := v_X12_in hP qy1
  refine C_S3r (pc := 9) (k' := k_X12_in) dX12_isTrace_9 w9_110 i_X12_in (Nat.le_of_ble_eq_true rfl) (Nat.le_of_ble_eq_true rfl) (Nat.le_of_ble_eq_true rfl) (cy1) ?_
  have hPy1 := cy1.1.1
  refine Y_if_eq (pc := 12) (tgt := 19) dX12_isTrace_12 (by decide) (fun hc1 => ?_) (fun hc1 => ?_)
  · replace h := ifT hc1 h
    refine Y_iconst (pc := 19) (v := (1 : Int32)) dX12_isTrace_19 rfl ?_
    refine VV.sub [0] rfl ?_
    exact b_X12_isTrace_20  hPy1 h
  · replace h := ifF hc1 h
    refine Y_iconst (pc := 15) (v := (0 : Int32)) dX12_isTrace_15 rfl ?_
    refine Y_goto (pc := 16) (tgt := 20) dX12_isTrace_16 (by decide) ?_
    refine VV.sub [0] rfl ?_
    exact b_X12_isTrace_20  hPy1 h
theorem v_X12_isTrace {x1 : Int32} {M z} (hP : Lay M) (h : d_X12_isTrace x1 M = some z) : CC Lay k_X12_isTrace [.ref 69, .int x1] M z.2 (Qv (some (.int z.1)) z.2) xF :=
  CC.ofVV (by decide) rfl (Nat.le_of_ble_eq_true rfl) (b_X12_isTrace hP h)
theorem b_X12_isGuard_36 {s1 : Int32} {M z} (hP : Lay M) (h : d_X12_isGuard_36 s1 M = some z) : VV Lay k_X12_isGuard 36 [(0, .ref 69)] [.int s1, .ref 69] M z.2 (Qv (some (.int z.1)) z.2) xF := by
  unfold d_X12_isGuard_36 at h
  refine Z_puti (pc := 36) dX12_isGuard_36 w8_66 (lk_69 hP) fi_12_0 (Or.inl rfl) rfl ?_
  obtain ⟨M1, eM1, h⟩ := bndE h
  refine VV.mem eM1 ?_
  have hP1 := hP.wI eM1
  refine Y_aload_n (pc := 39) (j := 0) dX12_isGuard_39 rfl rfl ?_
  refine Z_geti (pc := 40) dX12_isGuard_40 w8_66 (lk_69 hP1) fi_12_0 ?_
  refine Y_if_ne (pc := 43) (tgt := 50) dX12_isGuard_43 (by decide) (fun hc1 => ?_) (fun hc1 => ?_)
  · replace h := ifF hc1 h
    refine Y_iconst (pc := 50) (v := (0 : Int32)) dX12_isGuard_50 rfl ?_
    cases h
    exact Y_iret (pc := 51) rfl (nar_bo (by decide)) dX12_isGuard_51 hP1 ⟨rfl, rfl⟩
  · replace h := ifT hc1 h
    refine Y_iconst (pc := 46) (v := (1 : Int32)) dX12_isGuard_46 rfl ?_
    refine Y_goto (pc := 47) (tgt := 51) dX12_isGuard_47 (by decide) ?_
    cases h
    exact Y_iret (pc := 51) rfl (nar_bo (by decide)) dX12_isGuard_51 hP1 ⟨rfl, rfl⟩
theorem b_X12_isGuard_35 {M z} (hP : Lay M) (h : d_X12_isGuard_35 M = some z) : VV Lay k_X12_isGuard 35 [(0, .ref 69)] [.ref 69] M z.2 (Qv (some (.int z.1)) z.2) xF := by
  unfold d_X12_isGuard_35 at h
  refine Y_iconst (pc := 35) (v := (1 : Int32)) dX12_isGuard_35 rfl ?_
  refine VV.sub [0] rfl ?_
  exact b_X12_isGuard_36  hP h
theorem b_X12_isGuard {x1 : Int32} {x2 : Int32} {M z} (hP : Lay M) (h : d_X12_isGuard x1 x2 M = some z) : VV Lay k_X12_isGuard 0 [(0, .ref 69), (1, .int x1), (2, .int x2)] [] M z.2 (Qv (some (.int z.1)) z.2) xF := by
  unfold d_X12_isGuard at h
  refine Y_aload_n (pc := 0) (j := 0) dX12_isGuard_0 rfl rfl ?_
  refine Y_iload_n (pc := 1) (j := 1) dX12_isGuard_1 rfl rfl ?_
  refine Y_iconst (pc := 2) (v := (0 : Int32)) dX12_isGuard_2 rfl ?_
  refine Y_aload_n (pc := 3) (j := 0) dX12_isGuard_3 rfl rfl ?_
  refine Z_geti (pc := 4) dX12_isGuard_4 w8_92 (lk_69 hP) fi_12_26 ?_
  refine Y_iconst (pc := 7) (v := (1 : Int32)) dX12_isGuard_7 rfl ?_
  refine Y_isub (pc := 8) dX12_isGuard_8 ?_
  obtain ⟨y1, qy1, h⟩ := bindE h
  have cy1 := v_X12_in hP qy1
  refine C_S3r (pc := 9) (k' := k_X12_in) dX12_isGuard_9 w9_110 i_X12_in (Nat.le_of_ble_eq_true rfl) (Nat.le_of_ble_eq_true rfl) (Nat.le_of_ble_eq_true rfl) (cy1) ?_
  have hPy1 := cy1.1.1
  refine Y_if_eq (pc := 12) (tgt := 35) dX12_isGuard_12 (by decide) (fun hc1 => ?_) (fun hc1 => ?_)
  · replace h := ifT hc1 h
    refine VV.sub [0] rfl ?_
    exact b_X12_isGuard_35  hPy1 h
  · replace h := ifF hc1 h
    refine Y_iload_n (pc := 15) (j := 2) dX12_isGuard_15 rfl rfl ?_
    refine Y_iconst (pc := 16) (v := (0 : Int32)) dX12_isGuard_16 rfl ?_
    refine Y_aload_n (pc := 17) (j := 0) dX12_isGuard_17 rfl rfl ?_
    refine Z_getr (pc := 18) dX12_isGuard_18 w8_96 (lk_69 hPy1) fr_12_30 (lr_69_30 hPy1) ?_
    refine Y_iload_n (pc := 21) (j := 1) dX12_isGuard_21 rfl rfl ?_
    obtain ⟨hb1, h⟩ := okE h
    refine Y_iald (pc := 22) dX12_isGuard_22 (lk_92 hPy1) (ln_92 hPy1) hb1 ?_
    refine Y_iconst (pc := 23) (v := (1 : Int32)) dX12_isGuard_23 rfl ?_
    refine Y_isub (pc := 24) dX12_isGuard_24 ?_
    obtain ⟨y2, qy2, h⟩ := bindE h
    have cy2 := v_X12_in hPy1 qy2
    refine C_S3r (pc := 25) (k' := k_X12_in) dX12_isGuard_25 w9_110 i_X12_in (Nat.le_of_ble_eq_true rfl) (Nat.le_of_ble_eq_true rfl) (Nat.le_of_ble_eq_true rfl) (cy2) ?_
    have hPy2 := cy2.1.1
    refine Y_if_eq (pc := 28) (tgt := 35) dX12_isGuard_28 (by decide) (fun hc2 => ?_) (fun hc2 => ?_)
    · replace h := ifT hc2 h
      refine VV.sub [0] rfl ?_
      exact b_X12_isGuard_35  hPy2 h
    · replace h := ifF hc2 h
      refine Y_iconst (pc := 31) (v := (0 : Int32)) dX12_isGuard_31 rfl ?_
      refine Y_goto (pc := 32) (tgt := 36) dX12_isGuard_32 (by decide) ?_
      refine VV.sub [0] rfl ?_
      exact b_X12_isGuard_36  hPy2 h
theorem v_X12_isGuard {x1 : Int32} {x2 : Int32} {M z} (hP : Lay M) (h : d_X12_isGuard x1 x2 M = some z) : CC Lay k_X12_isGuard [.ref 69, .int x1, .int x2] M z.2 (Qv (some (.int z.1)) z.2) xF :=
  CC.ofVV (by decide) rfl (Nat.le_of_ble_eq_true rfl) (b_X12_isGuard hP h)
theorem b_X12_isThere {x1 : Int32} {M z} (hP : Lay M) (h : d_X12_isThere x1 M = some z) : VV Lay k_X12_isThere 0 [(0, .ref 69), (1, .int x1)] [] M z.2 (Qv (some (.int z.1)) z.2) xF := by
  unfold d_X12_isThere at h
  refine Y_aload_n (pc := 0) (j := 0) dX12_isThere_0 rfl rfl ?_
  refine Y_iload_n (pc := 1) (j := 1) dX12_isThere_1 rfl rfl ?_
  obtain ⟨y1, qy1, h⟩ := bindE h
  have cy1 := v_X12_isTrace hP qy1
  refine C_V1r (pc := 2) (k' := k_X12_isTrace) dX12_isThere_2 w11_11 i_X12_isTrace (lk_69 hP) ⟨Nat.le_of_ble_eq_true rfl, Nat.le_of_ble_eq_true rfl⟩ rfl (Nat.le_of_ble_eq_true rfl) (Nat.le_of_ble_eq_true rfl) (Nat.le_of_ble_eq_true rfl) (cy1) ?_
  have hPy1 := cy1.1.1
  refine Y_if_eq (pc := 5) (tgt := 21) dX12_isThere_5 (by decide) (fun hc1 => ?_) (fun hc1 => ?_)
  · replace h := ifT hc1 h
    refine Y_iconst (pc := 21) (v := (0 : Int32)) dX12_isThere_21 rfl ?_
    cases h
    exact Y_iret (pc := 22) rfl (nar_bo (by decide)) dX12_isThere_22 hPy1 ⟨rfl, rfl⟩
  · replace h := ifF hc1 h
    refine Y_aload_n (pc := 8) (j := 0) dX12_isThere_8 rfl rfl ?_
    refine Z_getr (pc := 9) dX12_isThere_9 w8_93 (lk_69 hPy1) fr_12_27 (lr_69_27 hPy1) ?_
    refine Y_iload_n (pc := 12) (j := 1) dX12_isThere_12 rfl rfl ?_
    obtain ⟨hb1, h⟩ := okE h
    refine Y_zald (pc := 13) dX12_isThere_13 (lk_89 hPy1) (ln_89 hPy1) hb1 ?_
    refine Y_if_eq (pc := 14) (tgt := 21) dX12_isThere_14 (by decide) (fun hc2 => ?_) (fun hc2 => ?_)
    · replace h := ifT hc2 h
      refine Y_iconst (pc := 21) (v := (0 : Int32)) dX12_isThere_21 rfl ?_
      cases h
      exact Y_iret (pc := 22) rfl (nar_bo (by decide)) dX12_isThere_22 hPy1 ⟨rfl, rfl⟩
    · replace h := ifF hc2 h
      refine Y_iconst (pc := 17) (v := (1 : Int32)) dX12_isThere_17 rfl ?_
      refine Y_goto (pc := 18) (tgt := 22) dX12_isThere_18 (by decide) ?_
      cases h
      exact Y_iret (pc := 22) rfl (nar_bo (by decide)) dX12_isThere_22 hPy1 ⟨rfl, rfl⟩
theorem v_X12_isThere {x1 : Int32} {M z} (hP : Lay M) (h : d_X12_isThere x1 M = some z) : CC Lay k_X12_isThere [.ref 69, .int x1] M z.2 (Qv (some (.int z.1)) z.2) xF :=
  CC.ofVV (by decide) rfl (Nat.le_of_ble_eq_true rfl) (b_X12_isThere hP h)
theorem b_X12_steps {x1 : Int32} {M z} (hP : Lay M) (h : d_X12_steps x1 M = some z) : VV Lay k_X12_steps 0 [(0, .ref 69), (1, .int x1)] [] M z.2 (Qv (some (.int z.1)) z.2) xF := by
  unfold d_X12_steps at h
  refine Y_aload_n (pc := 0) (j := 0) dX12_steps_0 rfl rfl ?_
  refine Y_iload_n (pc := 1) (j := 1) dX12_steps_1 rfl rfl ?_
  obtain ⟨y1, qy1, h⟩ := bindE h
  have cy1 := v_X12_isTrace hP qy1
  refine C_V1r (pc := 2) (k' := k_X12_isTrace) dX12_steps_2 w11_11 i_X12_isTrace (lk_69 hP) ⟨Nat.le_of_ble_eq_true rfl, Nat.le_of_ble_eq_true rfl⟩ rfl (Nat.le_of_ble_eq_true rfl) (Nat.le_of_ble_eq_true rfl) (Nat.le_of_ble_eq_true rfl) (cy1) ?_
  have hPy1 := cy1.1.1
  refine Y_if_eq (pc := 5) (tgt := 17) dX12_steps_5 (by decide) (fun hc1 => ?_) (fun hc1 => ?_)
  · replace h := ifT hc1 h
    refine Y_iconst (pc := 17) (v := (0 : Int32)) dX12_steps_17 rfl ?_
    cases h
    exact Y_iret (pc := 18) rfl rfl dX12_steps_18 hPy1 ⟨rfl, rfl⟩
  · replace h := ifF hc1 h
    refine Y_aload_n (pc := 8) (j := 0) dX12_steps_8 rfl rfl ?_
    refine Z_getr (pc := 9) dX12_steps_9 w8_94 (lk_69 hPy1) fr_12_28 (lr_69_28 hPy1) ?_
    refine Y_iload_n (pc := 12) (j := 1) dX12_steps_12 rfl rfl ?_
    obtain ⟨hb1, h⟩ := okE h
    refine Y_iald (pc := 13) dX12_steps_13 (lk_90 hPy1) (ln_90 hPy1) hb1 ?_
    refine Y_goto (pc := 14) (tgt := 18) dX12_steps_14 (by decide) ?_
    cases h
    exact Y_iret (pc := 18) rfl rfl dX12_steps_18 hPy1 ⟨rfl, rfl⟩
theorem v_X12_steps {x1 : Int32} {M z} (hP : Lay M) (h : d_X12_steps x1 M = some z) : CC Lay k_X12_steps [.ref 69, .int x1] M z.2 (Qv (some (.int z.1)) z.2) xF :=
  CC.ofVV (by decide) rfl (Nat.le_of_ble_eq_true rfl) (b_X12_steps hP h)
theorem b_X12_lineAt {x1 : Int32} {x2 : Int32} {M z} (hP : Lay M) (h : d_X12_lineAt x1 x2 M = some z) : VV Lay k_X12_lineAt 0 [(0, .ref 69), (1, .int x1), (2, .int x2)] [] M z.2 (Qv (some (.int z.1)) z.2) xF := by
  unfold d_X12_lineAt at h
  refine Y_aload_n (pc := 0) (j := 0) dX12_lineAt_0 rfl rfl ?_
  refine Y_iload_n (pc := 1) (j := 1) dX12_lineAt_1 rfl rfl ?_
  obtain ⟨y1, qy1, h⟩ := bindE h
  have cy1 := v_X12_isTrace hP qy1
  refine C_V1r (pc := 2) (k' := k_X12_isTrace) dX12_lineAt_2 w11_11 i_X12_isTrace (lk_69 hP) ⟨Nat.le_of_ble_eq_true rfl, Nat.le_of_ble_eq_true rfl⟩ rfl (Nat.le_of_ble_eq_true rfl) (Nat.le_of_ble_eq_true rfl) (Nat.le_of_ble_eq_true rfl) (cy1) ?_
  have hPy1 := cy1.1.1
  refine Y_if_ne (pc := 5) (tgt := 10) dX12_lineAt_5 (by decide) (fun hc1 => ?_) (fun hc1 => ?_)
  · replace h := ifF hc1 h
    refine Y_iload_n (pc := 10) (j := 2) dX12_lineAt_10 rfl rfl ?_
    refine Y_iconst (pc := 11) (v := (0 : Int32)) dX12_lineAt_11 rfl ?_
    refine Y_aload_n (pc := 12) (j := 0) dX12_lineAt_12 rfl rfl ?_
    refine Z_getr (pc := 13) dX12_lineAt_13 w8_94 (lk_69 hPy1) fr_12_28 (lr_69_28 hPy1) ?_
    refine Y_iload_n (pc := 16) (j := 1) dX12_lineAt_16 rfl rfl ?_
    obtain ⟨hb1, h⟩ := okE h
    refine Y_iald (pc := 17) dX12_lineAt_17 (lk_90 hPy1) (ln_90 hPy1) hb1 ?_
    refine Y_iconst (pc := 18) (v := (1 : Int32)) dX12_lineAt_18 rfl ?_
    refine Y_isub (pc := 19) dX12_lineAt_19 ?_
    obtain ⟨y2, qy2, h⟩ := bindE h
    have cy2 := v_X12_in hPy1 qy2
    refine C_S3r (pc := 20) (k' := k_X12_in) dX12_lineAt_20 w9_110 i_X12_in (Nat.le_of_ble_eq_true rfl) (Nat.le_of_ble_eq_true rfl) (Nat.le_of_ble_eq_true rfl) (cy2) ?_
    have hPy2 := cy2.1.1
    refine Y_if_eq (pc := 23) (tgt := 40) dX12_lineAt_23 (by decide) (fun hc2 => ?_) (fun hc2 => ?_)
    · replace h := ifT hc2 h
      refine Y_aload_n (pc := 40) (j := 0) dX12_lineAt_40 rfl rfl ?_
      refine Y_iconst (pc := 41) (v := (2 : Int32)) dX12_lineAt_41 rfl ?_
      obtain ⟨y3, qy3, h⟩ := bindE h
      have cy3 := v_X12_fails hPy2 qy3
      refine C_V1r (pc := 42) (k' := k_X12_fails) dX12_lineAt_42 w9_113 i_X12_fails (lk_69 hPy2) ⟨Nat.le_of_ble_eq_true rfl, Nat.le_of_ble_eq_true rfl⟩ rfl (Nat.le_of_ble_eq_true rfl) (Nat.le_of_ble_eq_true rfl) (Nat.le_of_ble_eq_true rfl) (cy3) ?_
      have hPy3 := cy3.1.1
      cases h
      exact Y_iret (pc := 45) rfl rfl dX12_lineAt_45 hPy3 ⟨rfl, rfl⟩
    · replace h := ifF hc2 h
      refine Y_aload_n (pc := 26) (j := 0) dX12_lineAt_26 rfl rfl ?_
      refine Z_getr (pc := 27) dX12_lineAt_27 w8_95 (lk_69 hPy2) fr_12_29 (lr_69_29 hPy2) ?_
      refine Y_bipush (pc := 30) (v := (30 : Int32)) dX12_lineAt_30 rfl ?_
      refine Y_iload_n (pc := 32) (j := 1) dX12_lineAt_32 rfl rfl ?_
      refine Y_imul (pc := 33) dX12_lineAt_33 ?_
      refine Y_iload_n (pc := 34) (j := 2) dX12_lineAt_34 rfl rfl ?_
      refine Y_iadd (pc := 35) dX12_lineAt_35 ?_
      obtain ⟨hb2, h⟩ := okE h
      refine Y_iald (pc := 36) dX12_lineAt_36 (lk_91 hPy2) (ln_91 hPy2) hb2 ?_
      refine Y_goto (pc := 37) (tgt := 45) dX12_lineAt_37 (by decide) ?_
      cases h
      exact Y_iret (pc := 45) rfl rfl dX12_lineAt_45 hPy2 ⟨rfl, rfl⟩
  · replace h := ifT hc1 h
    refine Y_iconst (pc := 8) (v := (0 : Int32)) dX12_lineAt_8 rfl ?_
    cases h
    exact Y_iret (pc := 9) rfl rfl dX12_lineAt_9 hPy1 ⟨rfl, rfl⟩
theorem v_X12_lineAt {x1 : Int32} {x2 : Int32} {M z} (hP : Lay M) (h : d_X12_lineAt x1 x2 M = some z) : CC Lay k_X12_lineAt [.ref 69, .int x1, .int x2] M z.2 (Qv (some (.int z.1)) z.2) xF :=
  CC.ofVV (by decide) rfl (Nat.le_of_ble_eq_true rfl) (b_X12_lineAt hP h)
theorem b_X12_guards_ {x1 : Int32} {M z} (hP : Lay M) (h : d_X12_guards_ x1 M = some z) : VV Lay k_X12_guards_ 0 [(0, .ref 69), (1, .int x1)] [] M z.2 (Qv (some (.int z.1)) z.2) xF := by
  unfold d_X12_guards_ at h
  refine Y_aload_n (pc := 0) (j := 0) dX12_guards__0 rfl rfl ?_
  refine Y_iload_n (pc := 1) (j := 1) dX12_guards__1 rfl rfl ?_
  obtain ⟨y1, qy1, h⟩ := bindE h
  have cy1 := v_X12_isTrace hP qy1
  refine C_V1r (pc := 2) (k' := k_X12_isTrace) dX12_guards__2 w11_11 i_X12_isTrace (lk_69 hP) ⟨Nat.le_of_ble_eq_true rfl, Nat.le_of_ble_eq_true rfl⟩ rfl (Nat.le_of_ble_eq_true rfl) (Nat.le_of_ble_eq_true rfl) (Nat.le_of_ble_eq_true rfl) (cy1) ?_
  have hPy1 := cy1.1.1
  refine Y_if_eq (pc := 5) (tgt := 17) dX12_guards__5 (by decide) (fun hc1 => ?_) (fun hc1 => ?_)
  · replace h := ifT hc1 h
    refine Y_iconst (pc := 17) (v := (0 : Int32)) dX12_guards__17 rfl ?_
    cases h
    exact Y_iret (pc := 18) rfl rfl dX12_guards__18 hPy1 ⟨rfl, rfl⟩
  · replace h := ifF hc1 h
    refine Y_aload_n (pc := 8) (j := 0) dX12_guards__8 rfl rfl ?_
    refine Z_getr (pc := 9) dX12_guards__9 w8_96 (lk_69 hPy1) fr_12_30 (lr_69_30 hPy1) ?_
    refine Y_iload_n (pc := 12) (j := 1) dX12_guards__12 rfl rfl ?_
    obtain ⟨hb1, h⟩ := okE h
    refine Y_iald (pc := 13) dX12_guards__13 (lk_92 hPy1) (ln_92 hPy1) hb1 ?_
    refine Y_goto (pc := 14) (tgt := 18) dX12_guards__14 (by decide) ?_
    cases h
    exact Y_iret (pc := 18) rfl rfl dX12_guards__18 hPy1 ⟨rfl, rfl⟩
theorem v_X12_guards_ {x1 : Int32} {M z} (hP : Lay M) (h : d_X12_guards_ x1 M = some z) : CC Lay k_X12_guards_ [.ref 69, .int x1] M z.2 (Qv (some (.int z.1)) z.2) xF :=
  CC.ofVV (by decide) rfl (Nat.le_of_ble_eq_true rfl) (b_X12_guards_ hP h)
theorem b_X12_guardAt {x1 : Int32} {x2 : Int32} {M z} (hP : Lay M) (h : d_X12_guardAt x1 x2 M = some z) : VV Lay k_X12_guardAt 0 [(0, .ref 69), (1, .int x1), (2, .int x2)] [] M z.2 (Qv (some (.int z.1)) z.2) xF := by
  unfold d_X12_guardAt at h
  refine Y_aload_n (pc := 0) (j := 0) dX12_guardAt_0 rfl rfl ?_
  refine Y_iload_n (pc := 1) (j := 1) dX12_guardAt_1 rfl rfl ?_
  refine Y_iload_n (pc := 2) (j := 2) dX12_guardAt_2 rfl rfl ?_
  obtain ⟨y1, qy1, h⟩ := bindE h
  have cy1 := v_X12_isGuard hP qy1
  refine C_V2r (pc := 3) (k' := k_X12_isGuard) dX12_guardAt_3 w11_31 i_X12_isGuard (lk_69 hP) ⟨Nat.le_of_ble_eq_true rfl, Nat.le_of_ble_eq_true rfl⟩ rfl (Nat.le_of_ble_eq_true rfl) (Nat.le_of_ble_eq_true rfl) (Nat.le_of_ble_eq_true rfl) (cy1) ?_
  have hPy1 := cy1.1.1
  refine Y_if_eq (pc := 6) (tgt := 23) dX12_guardAt_6 (by decide) (fun hc1 => ?_) (fun hc1 => ?_)
  · replace h := ifT hc1 h
    refine Y_iconst (pc := 23) (v := (0 : Int32)) dX12_guardAt_23 rfl ?_
    cases h
    exact Y_iret (pc := 24) rfl (nar_ch (by decide)) dX12_guardAt_24 hPy1 ⟨rfl, rfl⟩
  · replace h := ifF hc1 h
    refine Y_aload_n (pc := 9) (j := 0) dX12_guardAt_9 rfl rfl ?_
    refine Z_getr (pc := 10) dX12_guardAt_10 w8_102 (lk_69 hPy1) fr_12_36 (lr_69_36 hPy1) ?_
    refine Y_bipush (pc := 13) (v := (120 : Int32)) dX12_guardAt_13 rfl ?_
    refine Y_iload_n (pc := 15) (j := 1) dX12_guardAt_15 rfl rfl ?_
    refine Y_imul (pc := 16) dX12_guardAt_16 ?_
    refine Y_iload_n (pc := 17) (j := 2) dX12_guardAt_17 rfl rfl ?_
    refine Y_iadd (pc := 18) dX12_guardAt_18 ?_
    obtain ⟨hb1, h⟩ := okE h
    refine Y_cald (pc := 19) dX12_guardAt_19 (lk_97 hPy1) (ln_97 hPy1) hb1 ?_
    refine Y_goto (pc := 20) (tgt := 24) dX12_guardAt_20 (by decide) ?_
    obtain ⟨hb2, h⟩ := okE h
    cases h
    exact Y_iret (pc := 24) rfl (nar_ch hb2) dX12_guardAt_24 hPy1 ⟨rfl, rfl⟩
theorem v_X12_guardAt {x1 : Int32} {x2 : Int32} {M z} (hP : Lay M) (h : d_X12_guardAt x1 x2 M = some z) : CC Lay k_X12_guardAt [.ref 69, .int x1, .int x2] M z.2 (Qv (some (.int z.1)) z.2) xF :=
  CC.ofVV (by decide) rfl (Nat.le_of_ble_eq_true rfl) (b_X12_guardAt hP h)
theorem b_X12_guardStep {x1 : Int32} {x2 : Int32} {M z} (hP : Lay M) (h : d_X12_guardStep x1 x2 M = some z) : VV Lay k_X12_guardStep 0 [(0, .ref 69), (1, .int x1), (2, .int x2)] [] M z.2 (Qv (some (.int z.1)) z.2) xF := by
  unfold d_X12_guardStep at h
  refine Y_aload_n (pc := 0) (j := 0) dX12_guardStep_0 rfl rfl ?_
  refine Y_iload_n (pc := 1) (j := 1) dX12_guardStep_1 rfl rfl ?_
  refine Y_iload_n (pc := 2) (j := 2) dX12_guardStep_2 rfl rfl ?_
  obtain ⟨y1, qy1, h⟩ := bindE h
  have cy1 := v_X12_isGuard hP qy1
  refine C_V2r (pc := 3) (k' := k_X12_isGuard) dX12_guardStep_3 w11_31 i_X12_isGuard (lk_69 hP) ⟨Nat.le_of_ble_eq_true rfl, Nat.le_of_ble_eq_true rfl⟩ rfl (Nat.le_of_ble_eq_true rfl) (Nat.le_of_ble_eq_true rfl) (Nat.le_of_ble_eq_true rfl) (cy1) ?_
  have hPy1 := cy1.1.1
  refine Y_if_eq (pc := 6) (tgt := 23) dX12_guardStep_6 (by decide) (fun hc1 => ?_) (fun hc1 => ?_)
  · replace h := ifT hc1 h
    refine Y_iconst (pc := 23) (v := (0 : Int32)) dX12_guardStep_23 rfl ?_
    cases h
    exact Y_iret (pc := 24) rfl rfl dX12_guardStep_24 hPy1 ⟨rfl, rfl⟩
  · replace h := ifF hc1 h
    refine Y_aload_n (pc := 9) (j := 0) dX12_guardStep_9 rfl rfl ?_
    refine Z_getr (pc := 10) dX12_guardStep_10 w8_103 (lk_69 hPy1) fr_12_37 (lr_69_37 hPy1) ?_
    refine Y_bipush (pc := 13) (v := (120 : Int32)) dX12_guardStep_13 rfl ?_
    refine Y_iload_n (pc := 15) (j := 1) dX12_guardStep_15 rfl rfl ?_
    refine Y_imul (pc := 16) dX12_guardStep_16 ?_
    refine Y_iload_n (pc := 17) (j := 2) dX12_guardStep_17 rfl rfl ?_
    refine Y_iadd (pc := 18) dX12_guardStep_18 ?_
    obtain ⟨hb1, h⟩ := okE h
    refine Y_iald (pc := 19) dX12_guardStep_19 (lk_98 hPy1) (ln_98 hPy1) hb1 ?_
    refine Y_goto (pc := 20) (tgt := 24) dX12_guardStep_20 (by decide) ?_
    cases h
    exact Y_iret (pc := 24) rfl rfl dX12_guardStep_24 hPy1 ⟨rfl, rfl⟩
theorem v_X12_guardStep {x1 : Int32} {x2 : Int32} {M z} (hP : Lay M) (h : d_X12_guardStep x1 x2 M = some z) : CC Lay k_X12_guardStep [.ref 69, .int x1, .int x2] M z.2 (Qv (some (.int z.1)) z.2) xF :=
  CC.ofVV (by decide) rfl (Nat.le_of_ble_eq_true rfl) (b_X12_guardStep hP h)
theorem b_X12_exits {x1 : Int32} {x2 : Int32} {M z} (hP : Lay M) (h : d_X12_exits x1 x2 M = some z) : VV Lay k_X12_exits 0 [(0, .ref 69), (1, .int x1), (2, .int x2)] [] M z.2 (Qv (some (.int z.1)) z.2) xF := by
  unfold d_X12_exits at h
  refine Y_aload_n (pc := 0) (j := 0) dX12_exits_0 rfl rfl ?_
  refine Y_iload_n (pc := 1) (j := 1) dX12_exits_1 rfl rfl ?_
  refine Y_iload_n (pc := 2) (j := 2) dX12_exits_2 rfl rfl ?_
  obtain ⟨y1, qy1, h⟩ := bindE h
  have cy1 := v_X12_isGuard hP qy1
  refine C_V2r (pc := 3) (k' := k_X12_isGuard) dX12_exits_3 w11_31 i_X12_isGuard (lk_69 hP) ⟨Nat.le_of_ble_eq_true rfl, Nat.le_of_ble_eq_true rfl⟩ rfl (Nat.le_of_ble_eq_true rfl) (Nat.le_of_ble_eq_true rfl) (Nat.le_of_ble_eq_true rfl) (cy1) ?_
  have hPy1 := cy1.1.1
  refine Y_if_eq (pc := 6) (tgt := 23) dX12_exits_6 (by decide) (fun hc1 => ?_) (fun hc1 => ?_)
  · replace h := ifT hc1 h
    refine Y_iconst (pc := 23) (v := (0 : Int32)) dX12_exits_23 rfl ?_
    cases h
    exact Y_iret (pc := 24) rfl rfl dX12_exits_24 hPy1 ⟨rfl, rfl⟩
  · replace h := ifF hc1 h
    refine Y_aload_n (pc := 9) (j := 0) dX12_exits_9 rfl rfl ?_
    refine Z_getr (pc := 10) dX12_exits_10 w8_106 (lk_69 hPy1) fr_12_40 (lr_69_40 hPy1) ?_
    refine Y_bipush (pc := 13) (v := (120 : Int32)) dX12_exits_13 rfl ?_
    refine Y_iload_n (pc := 15) (j := 1) dX12_exits_15 rfl rfl ?_
    refine Y_imul (pc := 16) dX12_exits_16 ?_
    refine Y_iload_n (pc := 17) (j := 2) dX12_exits_17 rfl rfl ?_
    refine Y_iadd (pc := 18) dX12_exits_18 ?_
    obtain ⟨hb1, h⟩ := okE h
    refine Y_iald (pc := 19) dX12_exits_19 (lk_101 hPy1) (ln_101 hPy1) hb1 ?_
    refine Y_goto (pc := 20) (tgt := 24) dX12_exits_20 (by decide) ?_
    cases h
    exact Y_iret (pc := 24) rfl rfl dX12_exits_24 hPy1 ⟨rfl, rfl⟩
theorem v_X12_exits {x1 : Int32} {x2 : Int32} {M z} (hP : Lay M) (h : d_X12_exits x1 x2 M = some z) : CC Lay k_X12_exits [.ref 69, .int x1, .int x2] M z.2 (Qv (some (.int z.1)) z.2) xF :=
  CC.ofVV (by decide) rfl (Nat.le_of_ble_eq_true rfl) (b_X12_exits hP h)
theorem b_X12_sideOf {x1 : Int32} {x2 : Int32} {M z} (hP : Lay M) (h : d_X12_sideOf x1 x2 M = some z) : VV Lay k_X12_sideOf 0 [(0, .ref 69), (1, .int x1), (2, .int x2)] [] M z.2 (Qv (some (.int z.1)) z.2) xF := by
  unfold d_X12_sideOf at h
  refine Y_aload_n (pc := 0) (j := 0) dX12_sideOf_0 rfl rfl ?_
  refine Y_iload_n (pc := 1) (j := 1) dX12_sideOf_1 rfl rfl ?_
  refine Y_iload_n (pc := 2) (j := 2) dX12_sideOf_2 rfl rfl ?_
  obtain ⟨y1, qy1, h⟩ := bindE h
  have cy1 := v_X12_isGuard hP qy1
  refine C_V2r (pc := 3) (k' := k_X12_isGuard) dX12_sideOf_3 w11_31 i_X12_isGuard (lk_69 hP) ⟨Nat.le_of_ble_eq_true rfl, Nat.le_of_ble_eq_true rfl⟩ rfl (Nat.le_of_ble_eq_true rfl) (Nat.le_of_ble_eq_true rfl) (Nat.le_of_ble_eq_true rfl) (cy1) ?_
  have hPy1 := cy1.1.1
  refine Y_if_ne (pc := 6) (tgt := 11) dX12_sideOf_6 (by decide) (fun hc1 => ?_) (fun hc1 => ?_)
  · replace h := ifF hc1 h
    refine Y_aload_n (pc := 11) (j := 0) dX12_sideOf_11 rfl rfl ?_
    refine Z_getr (pc := 12) dX12_sideOf_12 w8_109 (lk_69 hPy1) fr_12_43 (lr_69_43 hPy1) ?_
    refine Y_bipush (pc := 15) (v := (120 : Int32)) dX12_sideOf_15 rfl ?_
    refine Y_iload_n (pc := 17) (j := 1) dX12_sideOf_17 rfl rfl ?_
    refine Y_imul (pc := 18) dX12_sideOf_18 ?_
    refine Y_iload_n (pc := 19) (j := 2) dX12_sideOf_19 rfl rfl ?_
    refine Y_iadd (pc := 20) dX12_sideOf_20 ?_
    obtain ⟨hb1, h⟩ := okE h
    refine Y_iald (pc := 21) dX12_sideOf_21 (lk_104 hPy1) (ln_104 hPy1) hb1 ?_
    obtain ⟨b1, eb1, h⟩ := bndE h
    refine VV.topI eb1 ?_
    refine Y_istore_n (pc := 22) (lv1 := [(3, .int b1), (0, .ref 69), (1, .int x1), (2, .int x2)]) dX12_sideOf_22 rfl (by decide) rfl ?_
    refine Y_iload_n (pc := 23) (j := 0) dX12_sideOf_23 rfl rfl ?_
    refine Y_iconst (pc := 24) (v := (-1 : Int32)) dX12_sideOf_24 rfl ?_
    refine Y_icmp_ne (pc := 25) (tgt := 36) dX12_sideOf_25 (by decide) (fun hc2 => ?_) (fun hc2 => ?_)
    · replace h := ifF hc2 h
      refine Y_iload_n (pc := 36) (j := 0) dX12_sideOf_36 rfl rfl ?_
      cases h
      exact Y_iret (pc := 37) rfl rfl dX12_sideOf_37 hPy1 ⟨rfl, rfl⟩
    · replace h := ifT hc2 h
      refine Y_aload_n (pc := 28) (j := 1) dX12_sideOf_28 rfl rfl ?_
      refine Y_iconst (pc := 29) (v := (2 : Int32)) dX12_sideOf_29 rfl ?_
      obtain ⟨y2, qy2, h⟩ := bindE h
      have cy2 := v_X12_fails hPy1 qy2
      refine C_V1r (pc := 30) (k' := k_X12_fails) dX12_sideOf_30 w9_113 i_X12_fails (lk_69 hPy1) ⟨Nat.le_of_ble_eq_true rfl, Nat.le_of_ble_eq_true rfl⟩ rfl (Nat.le_of_ble_eq_true rfl) (Nat.le_of_ble_eq_true rfl) (Nat.le_of_ble_eq_true rfl) (cy2) ?_
      have hPy2 := cy2.1.1
      refine Y_goto (pc := 33) (tgt := 37) dX12_sideOf_33 (by decide) ?_
      cases h
      exact Y_iret (pc := 37) rfl rfl dX12_sideOf_37 hPy2 ⟨rfl, rfl⟩
  · replace h := ifT hc1 h
    refine Y_iconst (pc := 9) (v := (0 : Int32)) dX12_sideOf_9 rfl ?_
    cases h
    exact Y_iret (pc := 10) rfl rfl dX12_sideOf_10 hPy1 ⟨rfl, rfl⟩
theorem v_X12_sideOf {x1 : Int32} {x2 : Int32} {M z} (hP : Lay M) (h : d_X12_sideOf x1 x2 M = some z) : CC Lay k_X12_sideOf [.ref 69, .int x1, .int x2] M z.2 (Qv (some (.int z.1)) z.2) xF :=
  CC.ofVV (by decide) rfl (Nat.le_of_ble_eq_true rfl) (b_X12_sideOf hP h)
theorem b_X12_rootOf {x1 : Int32} {M z} (hP : Lay M) (h : d_X12_rootOf x1 M = some z) : VV Lay k_X12_rootOf 0 [(0, .ref 69), (1, .int x1)] [] M z.2 (Qv (some (.int z.1)) z.2) xF := by
  unfold d_X12_rootOf at h
  refine Y_aload_n (pc := 0) (j := 0) dX12_rootOf_0 rfl rfl ?_
  refine Y_iload_n (pc := 1) (j := 1) dX12_rootOf_1 rfl rfl ?_
  obtain ⟨y1, qy1, h⟩ := bindE h
  have cy1 := v_X12_isTrace hP qy1
  refine C_V1r (pc := 2) (k' := k_X12_isTrace) dX12_rootOf_2 w11_11 i_X12_isTrace (lk_69 hP) ⟨Nat.le_of_ble_eq_true rfl, Nat.le_of_ble_eq_true rfl⟩ rfl (Nat.le_of_ble_eq_true rfl) (Nat.le_of_ble_eq_true rfl) (Nat.le_of_ble_eq_true rfl) (cy1) ?_
  have hPy1 := cy1.1.1
  refine Y_if_eq (pc := 5) (tgt := 17) dX12_rootOf_5 (by decide) (fun hc1 => ?_) (fun hc1 => ?_)
  · replace h := ifT hc1 h
    refine Y_iconst (pc := 17) (v := (0 : Int32)) dX12_rootOf_17 rfl ?_
    cases h
    exact Y_iret (pc := 18) rfl rfl dX12_rootOf_18 hPy1 ⟨rfl, rfl⟩
  · replace h := ifF hc1 h
    refine Y_aload_n (pc := 8) (j := 0) dX12_rootOf_8 rfl rfl ?_
    refine Z_getr (pc := 9) dX12_rootOf_9 w8_97 (lk_69 hPy1) fr_12_31 (lr_69_31 hPy1) ?_
    refine Y_iload_n (pc := 12) (j := 1) dX12_rootOf_12 rfl rfl ?_
    obtain ⟨hb1, h⟩ := okE h
    refine Y_iald (pc := 13) dX12_rootOf_13 (lk_93 hPy1) (ln_93 hPy1) hb1 ?_
    refine Y_goto (pc := 14) (tgt := 18) dX12_rootOf_14 (by decide) ?_
    cases h
    exact Y_iret (pc := 18) rfl rfl dX12_rootOf_18 hPy1 ⟨rfl, rfl⟩
theorem v_X12_rootOf {x1 : Int32} {M z} (hP : Lay M) (h : d_X12_rootOf x1 M = some z) : CC Lay k_X12_rootOf [.ref 69, .int x1] M z.2 (Qv (some (.int z.1)) z.2) xF :=
  CC.ofVV (by decide) rfl (Nat.le_of_ble_eq_true rfl) (b_X12_rootOf hP h)
theorem b_X12_begun {x1 : Int32} {M z} (hP : Lay M) (h : d_X12_begun x1 M = some z) : VV Lay k_X12_begun 0 [(0, .ref 69), (1, .int x1)] [] M z.2 (Qv (some (.int z.1)) z.2) xF := by
  unfold d_X12_begun at h
  refine Y_aload_n (pc := 0) (j := 0) dX12_begun_0 rfl rfl ?_
  refine Y_iload_n (pc := 1) (j := 1) dX12_begun_1 rfl rfl ?_
  obtain ⟨y1, qy1, h⟩ := bindE h
  have cy1 := v_X12_isTrace hP qy1
  refine C_V1r (pc := 2) (k' := k_X12_isTrace) dX12_begun_2 w11_11 i_X12_isTrace (lk_69 hP) ⟨Nat.le_of_ble_eq_true rfl, Nat.le_of_ble_eq_true rfl⟩ rfl (Nat.le_of_ble_eq_true rfl) (Nat.le_of_ble_eq_true rfl) (Nat.le_of_ble_eq_true rfl) (cy1) ?_
  have hPy1 := cy1.1.1
  refine Y_if_eq (pc := 5) (tgt := 17) dX12_begun_5 (by decide) (fun hc1 => ?_) (fun hc1 => ?_)
  · replace h := ifT hc1 h
    refine Y_iconst (pc := 17) (v := (0 : Int32)) dX12_begun_17 rfl ?_
    cases h
    exact Y_iret (pc := 18) rfl rfl dX12_begun_18 hPy1 ⟨rfl, rfl⟩
  · replace h := ifF hc1 h
    refine Y_aload_n (pc := 8) (j := 0) dX12_begun_8 rfl rfl ?_
    refine Z_getr (pc := 9) dX12_begun_9 w8_99 (lk_69 hPy1) fr_12_33 (lr_69_33 hPy1) ?_
    refine Y_iload_n (pc := 12) (j := 1) dX12_begun_12 rfl rfl ?_
    obtain ⟨hb1, h⟩ := okE h
    refine Y_iald (pc := 13) dX12_begun_13 (lk_95 hPy1) (ln_95 hPy1) hb1 ?_
    refine Y_goto (pc := 14) (tgt := 18) dX12_begun_14 (by decide) ?_
    cases h
    exact Y_iret (pc := 18) rfl rfl dX12_begun_18 hPy1 ⟨rfl, rfl⟩
theorem v_X12_begun {x1 : Int32} {M z} (hP : Lay M) (h : d_X12_begun x1 M = some z) : CC Lay k_X12_begun [.ref 69, .int x1] M z.2 (Qv (some (.int z.1)) z.2) xF :=
  CC.ofVV (by decide) rfl (Nat.le_of_ble_eq_true rfl) (b_X12_begun hP h)
theorem b_X12_inTraces {M z} (hP : Lay M) (h : d_X12_inTraces M = some z) : VV Lay k_X12_inTraces 0 [(0, .ref 69)] [] M z.2 (Qv (some (.int z.1)) z.2) xF := by
  unfold d_X12_inTraces at h
  refine Y_aload_n (pc := 0) (j := 0) dX12_inTraces_0 rfl rfl ?_
  refine Y_iconst (pc := 1) (v := (0 : Int32)) dX12_inTraces_1 rfl ?_
  refine Z_puti (pc := 2) dX12_inTraces_2 w8_66 (lk_69 hP) fi_12_0 (Or.inl rfl) rfl ?_
  obtain ⟨M1, eM1, h⟩ := bndE h
  refine VV.mem eM1 ?_
  have hP1 := hP.wI eM1
  refine Y_aload_n (pc := 5) (j := 0) dX12_inTraces_5 rfl rfl ?_
  refine Z_geti (pc := 6) dX12_inTraces_6 w8_124 (lk_69 hP1) fi_12_58 ?_
  cases h
  exact Y_iret (pc := 9) rfl rfl dX12_inTraces_9 hP1 ⟨rfl, rfl⟩
theorem v_X12_inTraces {M z} (hP : Lay M) (h : d_X12_inTraces M = some z) : CC Lay k_X12_inTraces [.ref 69] M z.2 (Qv (some (.int z.1)) z.2) xF :=
  CC.ofVV (by decide) rfl (Nat.le_of_ble_eq_true rfl) (b_X12_inTraces hP h)
theorem b_X12_codeSize {M z} (hP : Lay M) (h : d_X12_codeSize M = some z) : VV Lay k_X12_codeSize 0 [(0, .ref 69)] [] M z.2 (Qv (some (.int z.1)) z.2) xF := by
  unfold d_X12_codeSize at h
  refine Y_aload_n (pc := 0) (j := 0) dX12_codeSize_0 rfl rfl ?_
  refine Y_iconst (pc := 1) (v := (0 : Int32)) dX12_codeSize_1 rfl ?_
  refine Z_puti (pc := 2) dX12_codeSize_2 w8_66 (lk_69 hP) fi_12_0 (Or.inl rfl) rfl ?_
  obtain ⟨M1, eM1, h⟩ := bndE h
  refine VV.mem eM1 ?_
  have hP1 := hP.wI eM1
  refine Y_aload_n (pc := 5) (j := 0) dX12_codeSize_5 rfl rfl ?_
  obtain ⟨y1, qy1, h⟩ := bindE h
  have cy1 := v_X12_size hP1 qy1
  refine C_V0r (pc := 6) (k' := k_X12_size) dX12_codeSize_6 w9_164 i_X12_size (lk_69 hP1) ⟨Nat.le_of_ble_eq_true rfl, Nat.le_of_ble_eq_true rfl⟩ rfl (Nat.le_of_ble_eq_true rfl) (Nat.le_of_ble_eq_true rfl) (Nat.le_of_ble_eq_true rfl) (cy1) ?_
  have hPy1 := cy1.1.1
  cases h
  exact Y_iret (pc := 9) rfl rfl dX12_codeSize_9 hPy1 ⟨rfl, rfl⟩
theorem v_X12_codeSize {M z} (hP : Lay M) (h : d_X12_codeSize M = some z) : CC Lay k_X12_codeSize [.ref 69] M z.2 (Qv (some (.int z.1)) z.2) xF :=
  CC.ofVV (by decide) rfl (Nat.le_of_ble_eq_true rfl) (b_X12_codeSize hP h)
theorem b_X12_agrees {M z} (hP : Lay M) (h : d_X12_agrees M = some z) : VV Lay k_X12_agrees 0 [(0, .ref 69)] [] M z.2 (Qv (some (.int z.1)) z.2) xF := by
  unfold d_X12_agrees at h
  refine Y_aload_n (pc := 0) (j := 0) dX12_agrees_0 rfl rfl ?_
  refine Y_iconst (pc := 1) (v := (0 : Int32)) dX12_agrees_1 rfl ?_
  refine Z_puti (pc := 2) dX12_agrees_2 w8_66 (lk_69 hP) fi_12_0 (Or.inl rfl) rfl ?_
  obtain ⟨M1, eM1, h⟩ := bndE h
  refine VV.mem eM1 ?_
  have hP1 := hP.wI eM1
  refine Y_iconst (pc := 5) (v := (1 : Int32)) dX12_agrees_5 rfl ?_
  cases h
  exact Y_iret (pc := 6) rfl (nar_bo (by decide)) dX12_agrees_6 hP1 ⟨rfl, rfl⟩
theorem v_X12_agrees {M z} (hP : Lay M) (h : d_X12_agrees M = some z) : CC Lay k_X12_agrees [.ref 69] M z.2 (Qv (some (.int z.1)) z.2) xF :=
  CC.ofVV (by decide) rfl (Nat.le_of_ble_eq_true rfl) (b_X12_agrees hP h)
theorem b_X12_tracedShare_13 {s1 : Int32} {M z} (hP : Lay M) (h : d_X12_tracedShare_13 s1 M = some z) : VV Lay k_X12_tracedShare 13 [(0, .ref 69)] [.int s1, .ref 69] M z.2 (Qv (some (.float z.1)) z.2) xF := by
  unfold d_X12_tracedShare_13 at h
  refine Z_puti (pc := 13) dX12_tracedShare_13 w8_66 (lk_69 hP) fi_12_0 (Or.inl rfl) rfl ?_
  obtain ⟨M1, eM1, h⟩ := bndE h
  refine VV.mem eM1 ?_
  have hP1 := hP.wI eM1
  refine Y_aload_n (pc := 16) (j := 0) dX12_tracedShare_16 rfl rfl ?_
  refine Z_geti (pc := 17) dX12_tracedShare_17 w8_66 (lk_69 hP1) fi_12_0 ?_
  refine Y_if_le (pc := 20) (tgt := 27) dX12_tracedShare_20 (by decide) (fun hc1 => ?_) (fun hc1 => ?_)
  · replace h := ifT hc1 h
    refine Y_aload_n (pc := 27) (j := 0) dX12_tracedShare_27 rfl rfl ?_
    refine Z_geti (pc := 28) dX12_tracedShare_28 w8_124 (lk_69 hP1) fi_12_58 ?_
    refine Y_i2f (pc := 31) dX12_tracedShare_31 ?_
    refine Y_aload_n (pc := 32) (j := 0) dX12_tracedShare_32 rfl rfl ?_
    refine Z_geti (pc := 33) dX12_tracedShare_33 w8_123 (lk_69 hP1) fi_12_57 ?_
    refine Y_i2f (pc := 36) dX12_tracedShare_36 ?_
    obtain ⟨hb1, h⟩ := okE h
    refine Y_fdiv (pc := 37) dX12_tracedShare_37 hb1 ?_
    cases h
    exact Y_fret (pc := 38) rfl dX12_tracedShare_38 hP1 ⟨rfl, rfl⟩
  · replace h := ifF hc1 h
    refine Y_fconst0 (pc := 23) dX12_tracedShare_23 ?_
    refine Y_goto (pc := 24) (tgt := 38) dX12_tracedShare_24 (by decide) ?_
    cases h
    exact Y_fret (pc := 38) rfl dX12_tracedShare_38 hP1 ⟨rfl, rfl⟩
theorem b_X12_tracedShare {M z} (hP : Lay M) (h : d_X12_tracedShare M = some z) : VV Lay k_X12_tracedShare 0 [(0, .ref 69)] [] M z.2 (Qv (some (.float z.1)) z.2) xF := by
  unfold d_X12_tracedShare at h
  refine Y_aload_n (pc := 0) (j := 0) dX12_tracedShare_0 rfl rfl ?_
  refine Y_aload_n (pc := 1) (j := 0) dX12_tracedShare_1 rfl rfl ?_
  refine Z_geti (pc := 2) dX12_tracedShare_2 w8_123 (lk_69 hP) fi_12_57 ?_
  refine Y_if_ne (pc := 5) (tgt := 12) dX12_tracedShare_5 (by decide) (fun hc1 => ?_) (fun hc1 => ?_)
  · replace h := ifF hc1 h
    refine Y_iconst (pc := 12) (v := (0 : Int32)) dX12_tracedShare_12 rfl ?_
    refine VV.sub [0] rfl ?_
    exact b_X12_tracedShare_13  hP h
  · replace h := ifT hc1 h
    refine Y_iconst (pc := 8) (v := (1 : Int32)) dX12_tracedShare_8 rfl ?_
    refine Y_goto (pc := 9) (tgt := 13) dX12_tracedShare_9 (by decide) ?_
    refine VV.sub [0] rfl ?_
    exact b_X12_tracedShare_13  hP h
theorem v_X12_tracedShare {M z} (hP : Lay M) (h : d_X12_tracedShare M = some z) : CC Lay k_X12_tracedShare [.ref 69] M z.2 (Qv (some (.float z.1)) z.2) xF :=
  CC.ofVV (by decide) rfl (Nat.le_of_ble_eq_true rfl) (b_X12_tracedShare hP h)
theorem b_X12_meanGuards_69 {x1 : Int32} {x2 : Int32} {s1 : Int32} {M z} (hP : Lay M) (h : d_X12_meanGuards_69 x1 x2 s1 M = some z) : VV Lay k_X12_meanGuards 69 [(0, .ref 69), (1, .int x1), (2, .int x2)] [.int s1, .ref 69] M z.2 (Qv (some (.double z.1)) z.2) xF := by
  unfold d_X12_meanGuards_69 at h
  refine Z_puti (pc := 69) dX12_meanGuards_69 w8_66 (lk_69 hP) fi_12_0 (Or.inl rfl) rfl ?_
  obtain ⟨M1, eM1, h⟩ := bndE h
  refine VV.mem eM1 ?_
  have hP1 := hP.wI eM1
  refine Y_aload_n (pc := 72) (j := 0) dX12_meanGuards_72 rfl rfl ?_
  refine Z_geti (pc := 73) dX12_meanGuards_73 w8_66 (lk_69 hP1) fi_12_0 ?_
  refine Y_if_le (pc := 76) (tgt := 83) dX12_meanGuards_76 (by decide) (fun hc1 => ?_) (fun hc1 => ?_)
  · replace h := ifT hc1 h
    refine Y_iload_n (pc := 83) (j := 2) dX12_meanGuards_83 rfl rfl ?_
    refine Y_i2d (pc := 84) dX12_meanGuards_84 ?_
    refine Y_iload_n (pc := 85) (j := 1) dX12_meanGuards_85 rfl rfl ?_
    refine Y_i2d (pc := 86) dX12_meanGuards_86 ?_
    refine Y_ddiv (pc := 87) dX12_meanGuards_87 ?_
    cases h
    exact Y_dret (pc := 88) rfl dX12_meanGuards_88 hP1 ⟨rfl, rfl⟩
  · replace h := ifF hc1 h
    refine Y_dconst0 (pc := 79) dX12_meanGuards_79 ?_
    refine Y_goto (pc := 80) (tgt := 88) dX12_meanGuards_80 (by decide) ?_
    cases h
    exact Y_dret (pc := 88) rfl dX12_meanGuards_88 hP1 ⟨rfl, rfl⟩
theorem b_X12_meanGuards_51 {k6 : (Int32 × Int32 × Int32) → Mem → Option (UInt64 × Mem)} {x1 : Int32} {x3 : Int32} {s0 : Int32} {s1 : Int32} {M z} (hk6 : ∀ (a : (Int32 × Int32 × Int32)) (M : Mem) (z : UInt64 × Mem), Lay M → k6 a M = some z → VV Lay k_X12_meanGuards 6 [(0, .ref 69), (1, .int a.1), (2, .int a.2.1), (3, .int a.2.2)] [] M z.2 (Qv (some (.double z.1)) z.2) xF) (hP : Lay M) (h : d_X12_meanGuards_51 k6 x1 x3 s0 s1 M = some z) : VV Lay k_X12_meanGuards 51 [(0, .ref 69), (1, .int x1), (3, .int x3)] [.int s1, .int s0] M z.2 (Qv (some (.double z.1)) z.2) xF := by
  unfold d_X12_meanGuards_51 at h
  refine Y_iadd (pc := 51) dX12_meanGuards_51 ?_
  obtain ⟨b1, eb1, h⟩ := bndE h
  refine VV.topI eb1 ?_
  refine Y_istore_n (pc := 52) (lv1 := [(2, .int b1), (0, .ref 69), (1, .int x1), (3, .int x3)]) dX12_meanGuards_52 rfl (by decide) rfl ?_
  obtain ⟨b2, eb2, h⟩ := bndE h
  refine Y_iinc (pc := 53) (j := 3) (v := b2) (lv1 := [(3, .int b2), (2, .int b1), (0, .ref 69), (1, .int x1)]) dX12_meanGuards_53 rfl eb2.symm (by decide) rfl ?_
  refine Y_goto (pc := 56) (tgt := 6) dX12_meanGuards_56 (by decide) ?_
  refine VV.sub [2, 3, 1, 0] rfl ?_
  exact hk6 _ _ _ hP h
theorem b_X12_meanGuards_29 {k6 : (Int32 × Int32 × Int32) → Mem → Option (UInt64 × Mem)} {x2 : Int32} {x3 : Int32} {s0 : Int32} {s1 : Int32} {M z} (hk6 : ∀ (a : (Int32 × Int32 × Int32)) (M : Mem) (z : UInt64 × Mem), Lay M → k6 a M = some z → VV Lay k_X12_meanGuards 6 [(0, .ref 69), (1, .int a.1), (2, .int a.2.1), (3, .int a.2.2)] [] M z.2 (Qv (some (.double z.1)) z.2) xF) (hP : Lay M) (h : d_X12_meanGuards_29 k6 x2 x3 s0 s1 M = some z) : VV Lay k_X12_meanGuards 29 [(0, .ref 69), (2, .int x2), (3, .int x3)] [.int s1, .int s0] M z.2 (Qv (some (.double z.1)) z.2) xF := by
  unfold d_X12_meanGuards_29 at h
  refine Y_iadd (pc := 29) dX12_meanGuards_29 ?_
  obtain ⟨b1, eb1, h⟩ := bndE h
  refine VV.topI eb1 ?_
  refine Y_istore_n (pc := 30) (lv1 := [(1, .int b1), (0, .ref 69), (2, .int x2), (3, .int x3)]) dX12_meanGuards_30 rfl (by decide) rfl ?_
  refine Y_iload_n (pc := 31) (j := 2) dX12_meanGuards_31 rfl rfl ?_
  refine Y_aload_n (pc := 32) (j := 1) dX12_meanGuards_32 rfl rfl ?_
  refine Z_getr (pc := 33) dX12_meanGuards_33 w8_93 (lk_69 hP) fr_12_27 (lr_69_27 hP) ?_
  refine Y_iload_n (pc := 36) (j := 3) dX12_meanGuards_36 rfl rfl ?_
  obtain ⟨hb1, h⟩ := okE h
  refine Y_zald (pc := 37) dX12_meanGuards_37 (lk_89 hP) (ln_89 hP) hb1 ?_
  refine Y_if_eq (pc := 38) (tgt := 50) dX12_meanGuards_38 (by decide) (fun hc1 => ?_) (fun hc1 => ?_)
  · replace h := ifT hc1 h
    refine Y_iconst (pc := 50) (v := (0 : Int32)) dX12_meanGuards_50 rfl ?_
    refine VV.sub [1, 0, 3] rfl ?_
    exact b_X12_meanGuards_51 hk6 hP h
  · replace h := ifF hc1 h
    refine Y_aload_n (pc := 41) (j := 1) dX12_meanGuards_41 rfl rfl ?_
    refine Z_getr (pc := 42) dX12_meanGuards_42 w8_96 (lk_69 hP) fr_12_30 (lr_69_30 hP) ?_
    refine Y_iload_n (pc := 45) (j := 3) dX12_meanGuards_45 rfl rfl ?_
    obtain ⟨hb2, h⟩ := okE h
    refine Y_iald (pc := 46) dX12_meanGuards_46 (lk_92 hP) (ln_92 hP) hb2 ?_
    refine Y_goto (pc := 47) (tgt := 51) dX12_meanGuards_47 (by decide) ?_
    refine VV.sub [1, 0, 3] rfl ?_
    exact b_X12_meanGuards_51 hk6 hP h
theorem b_X12_meanGuards_6b {k6 : (Int32 × Int32 × Int32) → Mem → Option (UInt64 × Mem)} {x1 : Int32} {x2 : Int32} {x3 : Int32} {M z} (hk6 : ∀ (a : (Int32 × Int32 × Int32)) (M : Mem) (z : UInt64 × Mem), Lay M → k6 a M = some z → VV Lay k_X12_meanGuards 6 [(0, .ref 69), (1, .int a.1), (2, .int a.2.1), (3, .int a.2.2)] [] M z.2 (Qv (some (.double z.1)) z.2) xF) (hP : Lay M) (h : d_X12_meanGuards_6b k6 x1 x2 x3 M = some z) : VV Lay k_X12_meanGuards 6 [(0, .ref 69), (1, .int x1), (2, .int x2), (3, .int x3)] [] M z.2 (Qv (some (.double z.1)) z.2) xF := by
  unfold d_X12_meanGuards_6b at h
  refine Y_iload_n (pc := 6) (j := 3) dX12_meanGuards_6 rfl rfl ?_
  refine Y_aload_n (pc := 7) (j := 0) dX12_meanGuards_7 rfl rfl ?_
  refine Z_geti (pc := 8) dX12_meanGuards_8 w8_92 (lk_69 hP) fi_12_26 ?_
  refine Y_icmp_ge (pc := 11) (tgt := 59) dX12_meanGuards_11 (by decide) (fun hc1 => ?_) (fun hc1 => ?_)
  · replace h := ifT hc1 h
    refine Y_aload_n (pc := 59) (j := 0) dX12_meanGuards_59 rfl rfl ?_
    refine Y_iload_n (pc := 60) (j := 1) dX12_meanGuards_60 rfl rfl ?_
    refine Y_if_ne (pc := 61) (tgt := 68) dX12_meanGuards_61 (by decide) (fun hc2 => ?_) (fun hc2 => ?_)
    · replace h := ifF hc2 h
      refine Y_iconst (pc := 68) (v := (0 : Int32)) dX12_meanGuards_68 rfl ?_
      refine VV.sub [0, 1, 2] rfl ?_
      exact b_X12_meanGuards_69  hP h
    · replace h := ifT hc2 h
      refine Y_iconst (pc := 64) (v := (1 : Int32)) dX12_meanGuards_64 rfl ?_
      refine Y_goto (pc := 65) (tgt := 69) dX12_meanGuards_65 (by decide) ?_
      refine VV.sub [0, 1, 2] rfl ?_
      exact b_X12_meanGuards_69  hP h
  · replace h := ifF hc1 h
    refine Y_iload_n (pc := 14) (j := 1) dX12_meanGuards_14 rfl rfl ?_
    refine Y_aload_n (pc := 15) (j := 0) dX12_meanGuards_15 rfl rfl ?_
    refine Z_getr (pc := 16) dX12_meanGuards_16 w8_93 (lk_69 hP) fr_12_27 (lr_69_27 hP) ?_
    refine Y_iload_n (pc := 19) (j := 3) dX12_meanGuards_19 rfl rfl ?_
    obtain ⟨hb1, h⟩ := okE h
    refine Y_zald (pc := 20) dX12_meanGuards_20 (lk_89 hP) (ln_89 hP) hb1 ?_
    refine Y_if_eq (pc := 21) (tgt := 28) dX12_meanGuards_21 (by decide) (fun hc3 => ?_) (fun hc3 => ?_)
    · replace h := ifT hc3 h
      refine Y_iconst (pc := 28) (v := (0 : Int32)) dX12_meanGuards_28 rfl ?_
      refine VV.sub [0, 2, 3] rfl ?_
      exact b_X12_meanGuards_29 hk6 hP h
    · replace h := ifF hc3 h
      refine Y_iconst (pc := 24) (v := (1 : Int32)) dX12_meanGuards_24 rfl ?_
      refine Y_goto (pc := 25) (tgt := 29) dX12_meanGuards_25 (by decide) ?_
      refine VV.sub [0, 2, 3] rfl ?_
      exact b_X12_meanGuards_29 hk6 hP h
theorem b_X12_meanGuards_6 (n : Nat) : ∀ (a : (Int32 × Int32 × Int32)) (M : Mem) (z : UInt64 × Mem), d_X12_meanGuards_6 n a M = some z → Lay M → VV Lay k_X12_meanGuards 6 [(0, .ref 69), (1, .int a.1), (2, .int a.2.1), (3, .int a.2.2)] [] M z.2 (Qv (some (.double z.1)) z.2) xF :=
  lp_ind (G := fun (a : (Int32 × Int32 × Int32)) (M : Mem) (z : UInt64 × Mem) => Lay M → VV Lay k_X12_meanGuards 6 [(0, .ref 69), (1, .int a.1), (2, .int a.2.1), (3, .int a.2.2)] [] M z.2 (Qv (some (.double z.1)) z.2) xF) (fun k hk a M z h hP => b_X12_meanGuards_6b  (fun a M z hP h => hk a M z h hP) hP h) n
theorem b_X12_meanGuards {M z} (hP : Lay M) (h : d_X12_meanGuards M = some z) : VV Lay k_X12_meanGuards 0 [(0, .ref 69)] [] M z.2 (Qv (some (.double z.1)) z.2) xF := by
  unfold d_X12_meanGuards at h
  refine Y_iconst (pc := 0) (v := (0 : Int32)) dX12_meanGuards_0 rfl ?_
  refine Y_istore_n (pc := 1) (lv1 := [(1, .int (0 : Int32)), (0, .ref 69)]) dX12_meanGuards_1 rfl (by decide) rfl ?_
  refine Y_iconst (pc := 2) (v := (0 : Int32)) dX12_meanGuards_2 rfl ?_
  refine Y_istore_n (pc := 3) (lv1 := [(2, .int (0 : Int32)), (1, .int (0 : Int32)), (0, .ref 69)]) dX12_meanGuards_3 rfl (by decide) rfl ?_
  refine Y_iconst (pc := 4) (v := (0 : Int32)) dX12_meanGuards_4 rfl ?_
  refine Y_istore_n (pc := 5) (lv1 := [(3, .int (0 : Int32)), (2, .int (0 : Int32)), (1, .int (0 : Int32)), (0, .ref 69)]) dX12_meanGuards_5 rfl (by decide) rfl ?_
  refine VV.sub [3, 2, 1, 0] rfl ?_
  exact b_X12_meanGuards_6  fuel _ _ _ h hP
theorem v_X12_meanGuards {M z} (hP : Lay M) (h : d_X12_meanGuards M = some z) : CC Lay k_X12_meanGuards [.ref 69] M z.2 (Qv (some (.double z.1)) z.2) xF :=
  CC.ofVV (by decide) rfl (Nat.le_of_ble_eq_true rfl) (b_X12_meanGuards hP h)
theorem b_X12_isSound {M z} (hP : Lay M) (h : d_X12_isSound M = some z) : VV Lay k_X12_isSound 0 [(0, .ref 69)] [] M z.2 (Qv (some (.int z.1)) z.2) xF := by
  unfold d_X12_isSound at h
  refine Y_aload_n (pc := 0) (j := 0) dX12_isSound_0 rfl rfl ?_
  refine Y_iconst (pc := 1) (v := (0 : Int32)) dX12_isSound_1 rfl ?_
  refine Z_puti (pc := 2) dX12_isSound_2 w8_66 (lk_69 hP) fi_12_0 (Or.inl rfl) rfl ?_
  obtain ⟨M1, eM1, h⟩ := bndE h
  refine VV.mem eM1 ?_
  have hP1 := hP.wI eM1
  refine Y_aload_n (pc := 5) (j := 0) dX12_isSound_5 rfl rfl ?_
  obtain ⟨y1, qy1, h⟩ := bindE h
  have cy1 := v_X12_size hP1 qy1
  refine C_V0r (pc := 6) (k' := k_X12_size) dX12_isSound_6 w9_164 i_X12_size (lk_69 hP1) ⟨Nat.le_of_ble_eq_true rfl, Nat.le_of_ble_eq_true rfl⟩ rfl (Nat.le_of_ble_eq_true rfl) (Nat.le_of_ble_eq_true rfl) (Nat.le_of_ble_eq_true rfl) (cy1) ?_
  have hPy1 := cy1.1.1
  refine Y_aload_n (pc := 9) (j := 0) dX12_isSound_9 rfl rfl ?_
  refine Z_geti (pc := 10) dX12_isSound_10 w8_91 (lk_69 hPy1) fi_12_25 ?_
  refine Y_icmp_gt (pc := 13) (tgt := 20) dX12_isSound_13 (by decide) (fun hc1 => ?_) (fun hc1 => ?_)
  · replace h := ifT hc1 h
    refine Y_iconst (pc := 20) (v := (0 : Int32)) dX12_isSound_20 rfl ?_
    cases h
    exact Y_iret (pc := 21) rfl (nar_bo (by decide)) dX12_isSound_21 hPy1 ⟨rfl, rfl⟩
  · replace h := ifF hc1 h
    refine Y_iconst (pc := 16) (v := (1 : Int32)) dX12_isSound_16 rfl ?_
    refine Y_goto (pc := 17) (tgt := 21) dX12_isSound_17 (by decide) ?_
    cases h
    exact Y_iret (pc := 21) rfl (nar_bo (by decide)) dX12_isSound_21 hPy1 ⟨rfl, rfl⟩
theorem v_X12_isSound {M z} (hP : Lay M) (h : d_X12_isSound M = some z) : CC Lay k_X12_isSound [.ref 69] M z.2 (Qv (some (.int z.1)) z.2) xF :=
  CC.ofVV (by decide) rfl (Nat.le_of_ble_eq_true rfl) (b_X12_isSound hP h)
end VCR

