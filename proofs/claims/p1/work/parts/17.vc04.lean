/-! ===== what the methods reckon (printed by a program) ===== -/
section VCR
theorem b_X12_makes_61 {x3 : Int32} {M z} (hP : Lay M) (h : d_X12_makes_61 x3 M = some z) : VV Lay k_X12_makes 61 [(0, .ref 69), (3, .int x3)] [] M z.2 (Qv (none) z.2) xF := by
  unfold d_X12_makes_61 at h
  refine Y_aload_n (pc := 61) (j := 0) dX12_makes_61 rfl rfl ?_
  refine Y_iload_n (pc := 62) (j := 1) dX12_makes_62 rfl rfl ?_
  obtain ⟨y1, qy1, h⟩ := bindE h
  have cy1 := v_X12_pushes hP qy1
  refine C_V1o (pc := 63) (k' := k_X12_pushes) dX12_makes_63 w10_51 i_X12_pushes (lk_69 hP) ⟨Nat.le_of_ble_eq_true rfl, Nat.le_of_ble_eq_true rfl⟩ rfl (Nat.le_of_ble_eq_true rfl) (Nat.le_of_ble_eq_true rfl) (Nat.le_of_ble_eq_true rfl) (cy1) ?_
  have hPy1 := cy1.1.1
  refine Y_aload_n (pc := 66) (j := 0) dX12_makes_66 rfl rfl ?_
  refine Z_getr (pc := 67) dX12_makes_67 w8_116 (lk_69 hPy1) fr_12_50 (lr_69_50 hPy1) ?_
  refine Y_aload_n (pc := 70) (j := 0) dX12_makes_70 rfl rfl ?_
  refine Z_geti (pc := 71) dX12_makes_71 w8_114 (lk_69 hPy1) fi_12_48 ?_
  refine Y_dup2 (pc := 74) dX12_makes_74 rfl rfl ?_
  obtain ⟨hb1, h⟩ := okE h
  refine Y_iald (pc := 75) dX12_makes_75 (lk_110 hPy1) (ln_110 hPy1) hb1 ?_
  refine Y_iconst (pc := 76) (v := (1 : Int32)) dX12_makes_76 rfl ?_
  refine Y_iadd (pc := 77) dX12_makes_77 ?_
  obtain ⟨hb2, h⟩ := okE h
  refine Y_iast (pc := 78) dX12_makes_78 (lk_110 hPy1) (ln_110 hPy1) hb2 ?_
  obtain ⟨M1, eM1, h⟩ := bndE h
  refine VV.mem eM1 ?_
  have hP1 := hPy1.wI eM1
  cases h
  exact Y_vret (pc := 79) rfl dX12_makes_79 hP1 ⟨rfl, rfl⟩
theorem b_X12_makes {x1 : Int32} {M z} (hP : Lay M) (h : d_X12_makes x1 M = some z) : VV Lay k_X12_makes 0 [(0, .ref 69), (1, .int x1)] [] M z.2 (Qv (none) z.2) xF := by
  unfold d_X12_makes at h
  refine Y_aload_n (pc := 0) (j := 0) dX12_makes_0 rfl rfl ?_
  refine Z_getr (pc := 1) dX12_makes_1 w8_77 (lk_69 hP) fr_12_11 (lr_69_11 hP) ?_
  refine Y_iload_n (pc := 4) (j := 1) dX12_makes_4 rfl rfl ?_
  obtain ⟨hb1, h⟩ := okE h
  refine Y_iald (pc := 5) dX12_makes_5 (lk_78 hP) (ln_78 hP) hb1 ?_
  obtain ⟨b1, eb1, h⟩ := bndE h
  refine VV.topI eb1 ?_
  refine Y_istore_n (pc := 6) (lv1 := [(2, .int b1), (0, .ref 69), (1, .int x1)]) dX12_makes_6 rfl (by decide) rfl ?_
  refine Y_aload_n (pc := 7) (j := 1) dX12_makes_7 rfl rfl ?_
  refine Z_getr (pc := 8) dX12_makes_8 w8_119 (lk_69 hP) fr_12_53 (lr_69_53 hP) ?_
  refine Y_aload_n (pc := 11) (j := 1) dX12_makes_11 rfl rfl ?_
  refine Z_geti (pc := 12) dX12_makes_12 w8_118 (lk_69 hP) fi_12_52 ?_
  refine Y_iload_n (pc := 15) (j := 0) dX12_makes_15 rfl rfl ?_
  obtain ⟨hb2, h⟩ := okE h
  refine Y_iast (pc := 16) dX12_makes_16 (lk_112 hP) (ln_112 hP) hb2 ?_
  obtain ⟨M1, eM1, h⟩ := bndE h
  refine VV.mem eM1 ?_
  have hP1 := hP.wI eM1
  refine Y_aload_n (pc := 17) (j := 1) dX12_makes_17 rfl rfl ?_
  refine Y_bipush (pc := 18) (v := (111 : Int32)) dX12_makes_18 rfl ?_
  refine Y_aload_n (pc := 20) (j := 1) dX12_makes_20 rfl rfl ?_
  refine Z_geti (pc := 21) dX12_makes_21 w8_118 (lk_69 hP1) fi_12_52 ?_
  refine Y_dconst0 (pc := 24) dX12_makes_24 ?_
  obtain ⟨y1, qy1, h⟩ := bindE h
  have cy1 := v_X12_gives hP1 qy1
  refine C_V3o (pc := 25) (k' := k_X12_gives) dX12_makes_25 w10_17 i_X12_gives (lk_69 hP1) ⟨Nat.le_of_ble_eq_true rfl, Nat.le_of_ble_eq_true rfl⟩ rfl (Nat.le_of_ble_eq_true rfl) (Nat.le_of_ble_eq_true rfl) (Nat.le_of_ble_eq_true rfl) (cy1) ?_
  have hPy1 := cy1.1.1
  refine Y_aload_n (pc := 28) (j := 1) dX12_makes_28 rfl rfl ?_
  refine Y_dup (pc := 29) dX12_makes_29 rfl ?_
  refine Z_geti (pc := 30) dX12_makes_30 w8_118 (lk_69 hPy1) fi_12_52 ?_
  refine Y_iconst (pc := 33) (v := (1 : Int32)) dX12_makes_33 rfl ?_
  refine Y_iadd (pc := 34) dX12_makes_34 ?_
  refine Z_puti (pc := 35) dX12_makes_35 w8_118 (lk_69 hPy1) fi_12_52 (Or.inl rfl) rfl ?_
  obtain ⟨M2, eM2, h⟩ := bndE h
  refine VV.mem eM2 ?_
  have hP2 := hPy1.wI eM2
  refine Y_iconst (pc := 38) (v := (0 : Int32)) dX12_makes_38 rfl ?_
  refine Y_istore_n (pc := 39) (lv1 := [(3, .int (0 : Int32)), (2, .int b1), (0, .ref 69), (1, .int x1)]) dX12_makes_39 rfl (by decide) rfl ?_
  refine Y_aload_n (pc := 40) (j := 2) dX12_makes_40 rfl rfl ?_
  refine Z_geti (pc := 41) dX12_makes_41 w8_137 (lk_69 hP2) fi_12_71 ?_
  refine Y_if_eq (pc := 44) (tgt := 61) dX12_makes_44 (by decide) (fun hc1 => ?_) (fun hc1 => ?_)
  · replace h := ifT hc1 h
    refine VV.sub [2, 0] rfl ?_
    exact b_X12_makes_61  hP2 h
  · replace h := ifF hc1 h
    refine Y_aload_n (pc := 47) (j := 2) dX12_makes_47 rfl rfl ?_
    refine Y_bipush (pc := 48) (v := (111 : Int32)) dX12_makes_48 rfl ?_
    obtain ⟨y2, qy2, h⟩ := bindE h
    have cy2 := v_X12_valueOf hP2 qy2
    refine C_V1r (pc := 50) (k' := k_X12_valueOf) dX12_makes_50 w10_47 i_X12_valueOf (lk_69 hP2) ⟨Nat.le_of_ble_eq_true rfl, Nat.le_of_ble_eq_true rfl⟩ rfl (Nat.le_of_ble_eq_true rfl) (Nat.le_of_ble_eq_true rfl) (Nat.le_of_ble_eq_true rfl) (cy2) ?_
    have hPy2 := cy2.1.1
    refine Y_istore_n (pc := 53) (lv1 := [(3, .int y2.1), (2, .int b1), (0, .ref 69), (1, .int x1)]) dX12_makes_53 rfl (by decide) rfl ?_
    refine Y_aload_n (pc := 54) (j := 2) dX12_makes_54 rfl rfl ?_
    refine Z_getr (pc := 55) dX12_makes_55 w8_152 (lk_69 hPy2) fr_12_86 (lr_69_86 hPy2) ?_
    refine Y_iload_n (pc := 58) (j := 0) dX12_makes_58 rfl rfl ?_
    refine Y_iload_n (pc := 59) (j := 1) dX12_makes_59 rfl rfl ?_
    obtain ⟨hb3, h⟩ := okE h
    refine Y_iast (pc := 60) dX12_makes_60 (lk_125 hPy2) (ln_125 hPy2) hb3 ?_
    obtain ⟨M3, eM3, h⟩ := bndE h
    refine VV.mem eM3 ?_
    have hP3 := hPy2.wI eM3
    refine VV.sub [2, 0] rfl ?_
    exact b_X12_makes_61  hP3 h
theorem v_X12_makes {x1 : Int32} {M z} (hP : Lay M) (h : d_X12_makes x1 M = some z) : CC Lay k_X12_makes [.ref 69, .int x1] M z.2 (Qv (none) z.2) xF :=
  CC.ofVV (by decide) rfl (Nat.le_of_ble_eq_true rfl) (b_X12_makes hP h)
theorem b_X12_fetches_77 {s1 : Int32} {M z} (hP : Lay M) (h : d_X12_fetches_77 s1 M = some z) : VV Lay k_X12_fetches 77 [(0, .ref 69)] [.int s1, .ref 69] M z.2 (Qv (none) z.2) xF := by
  unfold d_X12_fetches_77 at h
  obtain ⟨y1, qy1, h⟩ := bindE h
  have cy1 := v_X12_pushes hP qy1
  refine C_V1o (pc := 77) (k' := k_X12_pushes) dX12_fetches_77 w10_51 i_X12_pushes (lk_69 hP) ⟨Nat.le_of_ble_eq_true rfl, Nat.le_of_ble_eq_true rfl⟩ rfl (Nat.le_of_ble_eq_true rfl) (Nat.le_of_ble_eq_true rfl) (Nat.le_of_ble_eq_true rfl) (cy1) ?_
  have hPy1 := cy1.1.1
  refine Y_aload_n (pc := 80) (j := 0) dX12_fetches_80 rfl rfl ?_
  refine Z_getr (pc := 81) dX12_fetches_81 w8_116 (lk_69 hPy1) fr_12_50 (lr_69_50 hPy1) ?_
  refine Y_aload_n (pc := 84) (j := 0) dX12_fetches_84 rfl rfl ?_
  refine Z_geti (pc := 85) dX12_fetches_85 w8_114 (lk_69 hPy1) fi_12_48 ?_
  refine Y_dup2 (pc := 88) dX12_fetches_88 rfl rfl ?_
  obtain ⟨hb1, h⟩ := okE h
  refine Y_iald (pc := 89) dX12_fetches_89 (lk_110 hPy1) (ln_110 hPy1) hb1 ?_
  refine Y_iconst (pc := 90) (v := (1 : Int32)) dX12_fetches_90 rfl ?_
  refine Y_iadd (pc := 91) dX12_fetches_91 ?_
  obtain ⟨hb2, h⟩ := okE h
  refine Y_iast (pc := 92) dX12_fetches_92 (lk_110 hPy1) (ln_110 hPy1) hb2 ?_
  obtain ⟨M1, eM1, h⟩ := bndE h
  refine VV.mem eM1 ?_
  have hP1 := hPy1.wI eM1
  cases h
  exact Y_vret (pc := 93) rfl dX12_fetches_93 hP1 ⟨rfl, rfl⟩
theorem b_X12_fetches {x1 : Int32} {M z} (hP : Lay M) (h : d_X12_fetches x1 M = some z) : VV Lay k_X12_fetches 0 [(0, .ref 69), (1, .int x1)] [] M z.2 (Qv (none) z.2) xF := by
  unfold d_X12_fetches at h
  refine Y_aload_n (pc := 0) (j := 0) dX12_fetches_0 rfl rfl ?_
  refine Z_getr (pc := 1) dX12_fetches_1 w8_111 (lk_69 hP) fr_12_45 (lr_69_45 hP) ?_
  refine Y_aload_n (pc := 4) (j := 0) dX12_fetches_4 rfl rfl ?_
  refine Y_iconst (pc := 5) (v := (0 : Int32)) dX12_fetches_5 rfl ?_
  obtain ⟨y1, qy1, h⟩ := bindE h
  have cy1 := v_X12_top hP qy1
  refine C_V1r (pc := 6) (k' := k_X12_top) dX12_fetches_6 w9_200 i_X12_top (lk_69 hP) ⟨Nat.le_of_ble_eq_true rfl, Nat.le_of_ble_eq_true rfl⟩ rfl (Nat.le_of_ble_eq_true rfl) (Nat.le_of_ble_eq_true rfl) (Nat.le_of_ble_eq_true rfl) (cy1) ?_
  have hPy1 := cy1.1.1
  obtain ⟨hb1, h⟩ := okE h
  refine Y_iald (pc := 9) dX12_fetches_9 (lk_106 hPy1) (ln_106 hPy1) hb1 ?_
  obtain ⟨b1, eb1, h⟩ := bndE h
  refine VV.topI eb1 ?_
  refine Y_istore_n (pc := 10) (lv1 := [(2, .int b1), (0, .ref 69), (1, .int x1)]) dX12_fetches_10 rfl (by decide) rfl ?_
  refine Y_aload_n (pc := 11) (j := 1) dX12_fetches_11 rfl rfl ?_
  refine Y_aload_n (pc := 12) (j := 1) dX12_fetches_12 rfl rfl ?_
  refine Z_getr (pc := 13) dX12_fetches_13 w8_120 (lk_69 hPy1) fr_12_54 (lr_69_54 hPy1) ?_
  refine Y_bipush (pc := 16) (v := (6 : Int32)) dX12_fetches_16 rfl ?_
  refine Y_iload_n (pc := 18) (j := 0) dX12_fetches_18 rfl rfl ?_
  refine Y_imul (pc := 19) dX12_fetches_19 ?_
  refine Y_iload_n (pc := 20) (j := 2) dX12_fetches_20 rfl rfl ?_
  refine Y_iadd (pc := 21) dX12_fetches_21 ?_
  obtain ⟨hb2, h⟩ := okE h
  refine Y_cald (pc := 22) dX12_fetches_22 (lk_113 hPy1) (ln_113 hPy1) hb2 ?_
  refine Y_aload_n (pc := 23) (j := 1) dX12_fetches_23 rfl rfl ?_
  refine Z_getr (pc := 24) dX12_fetches_24 w8_121 (lk_69 hPy1) fr_12_55 (lr_69_55 hPy1) ?_
  refine Y_bipush (pc := 27) (v := (6 : Int32)) dX12_fetches_27 rfl ?_
  refine Y_iload_n (pc := 29) (j := 0) dX12_fetches_29 rfl rfl ?_
  refine Y_imul (pc := 30) dX12_fetches_30 ?_
  refine Y_iload_n (pc := 31) (j := 2) dX12_fetches_31 rfl rfl ?_
  refine Y_iadd (pc := 32) dX12_fetches_32 ?_
  obtain ⟨hb3, h⟩ := okE h
  refine Y_iald (pc := 33) dX12_fetches_33 (lk_114 hPy1) (ln_114 hPy1) hb3 ?_
  refine Y_aload_n (pc := 34) (j := 1) dX12_fetches_34 rfl rfl ?_
  refine Z_getr (pc := 35) dX12_fetches_35 w8_122 (lk_69 hPy1) fr_12_56 (lr_69_56 hPy1) ?_
  refine Y_bipush (pc := 38) (v := (6 : Int32)) dX12_fetches_38 rfl ?_
  refine Y_iload_n (pc := 40) (j := 0) dX12_fetches_40 rfl rfl ?_
  refine Y_imul (pc := 41) dX12_fetches_41 ?_
  refine Y_iload_n (pc := 42) (j := 2) dX12_fetches_42 rfl rfl ?_
  refine Y_iadd (pc := 43) dX12_fetches_43 ?_
  obtain ⟨hb4, h⟩ := okE h
  refine Y_dald (pc := 44) dX12_fetches_44 (lk_115 hPy1) (ln_115 hPy1) hb4 ?_
  obtain ⟨y2, qy2, h⟩ := bindE h
  have cy2 := v_X12_gives hPy1 qy2
  refine C_V3o (pc := 45) (k' := k_X12_gives) dX12_fetches_45 w10_17 i_X12_gives (lk_69 hPy1) ⟨Nat.le_of_ble_eq_true rfl, Nat.le_of_ble_eq_true rfl⟩ rfl (Nat.le_of_ble_eq_true rfl) (Nat.le_of_ble_eq_true rfl) (Nat.le_of_ble_eq_true rfl) (cy2) ?_
  have hPy2 := cy2.1.1
  refine Y_aload_n (pc := 48) (j := 1) dX12_fetches_48 rfl rfl ?_
  refine Z_getr (pc := 49) dX12_fetches_49 w8_117 (lk_69 hPy2) fr_12_51 (lr_69_51 hPy2) ?_
  refine Y_aload_n (pc := 52) (j := 1) dX12_fetches_52 rfl rfl ?_
  refine Z_geti (pc := 53) dX12_fetches_53 w8_114 (lk_69 hPy2) fi_12_48 ?_
  refine Y_dup2 (pc := 56) dX12_fetches_56 rfl rfl ?_
  obtain ⟨hb5, h⟩ := okE h
  refine Y_iald (pc := 57) dX12_fetches_57 (lk_111 hPy2) (ln_111 hPy2) hb5 ?_
  refine Y_iconst (pc := 58) (v := (1 : Int32)) dX12_fetches_58 rfl ?_
  refine Y_isub (pc := 59) dX12_fetches_59 ?_
  obtain ⟨hb6, h⟩ := okE h
  refine Y_iast (pc := 60) dX12_fetches_60 (lk_111 hPy2) (ln_111 hPy2) hb6 ?_
  obtain ⟨M1, eM1, h⟩ := bndE h
  refine VV.mem eM1 ?_
  have hP1 := hPy2.wI eM1
  refine Y_aload_n (pc := 61) (j := 1) dX12_fetches_61 rfl rfl ?_
  refine Y_aload_n (pc := 62) (j := 1) dX12_fetches_62 rfl rfl ?_
  refine Z_geti (pc := 63) dX12_fetches_63 w8_137 (lk_69 hP1) fi_12_71 ?_
  refine Y_if_eq (pc := 66) (tgt := 76) dX12_fetches_66 (by decide) (fun hc1 => ?_) (fun hc1 => ?_)
  · replace h := ifT hc1 h
    refine Y_iconst (pc := 76) (v := (0 : Int32)) dX12_fetches_76 rfl ?_
    refine VV.sub [1] rfl ?_
    exact b_X12_fetches_77  hP1 h
  · replace h := ifF hc1 h
    refine Y_aload_n (pc := 69) (j := 1) dX12_fetches_69 rfl rfl ?_
    obtain ⟨y3, qy3, h⟩ := bindE h
    have cy3 := v_X12_newValue hP1 qy3
    refine C_V0r (pc := 70) (k' := k_X12_newValue) dX12_fetches_70 w10_35 i_X12_newValue (lk_69 hP1) ⟨Nat.le_of_ble_eq_true rfl, Nat.le_of_ble_eq_true rfl⟩ rfl (Nat.le_of_ble_eq_true rfl) (Nat.le_of_ble_eq_true rfl) (Nat.le_of_ble_eq_true rfl) (cy3) ?_
    have hPy3 := cy3.1.1
    refine Y_goto (pc := 73) (tgt := 77) dX12_fetches_73 (by decide) ?_
    refine VV.sub [1] rfl ?_
    exact b_X12_fetches_77  hPy3 h
theorem v_X12_fetches {x1 : Int32} {M z} (hP : Lay M) (h : d_X12_fetches x1 M = some z) : CC Lay k_X12_fetches [.ref 69, .int x1] M z.2 (Qv (none) z.2) xF :=
  CC.ofVV (by decide) rfl (Nat.le_of_ble_eq_true rfl) (b_X12_fetches hP h)
theorem b_X12_executes_78 {s1 : Int32} {s2 : Int32} {M z} (hP : Lay M) (h : d_X12_executes_78 s1 s2 M = some z) : VV Lay k_X12_executes 78 [(0, .ref 69)] [.int s2, .int s1, .ref 69] M z.2 (Qv (none) z.2) xF := by
  unfold d_X12_executes_78 at h
  refine Y_dconst0 (pc := 78) dX12_executes_78 ?_
  obtain ⟨y1, qy1, h⟩ := bindE h
  have cy1 := v_X12_gives hP qy1
  refine C_V3o (pc := 79) (k' := k_X12_gives) dX12_executes_79 w10_17 i_X12_gives (lk_69 hP) ⟨Nat.le_of_ble_eq_true rfl, Nat.le_of_ble_eq_true rfl⟩ rfl (Nat.le_of_ble_eq_true rfl) (Nat.le_of_ble_eq_true rfl) (Nat.le_of_ble_eq_true rfl) (cy1) ?_
  have hPy1 := cy1.1.1
  refine Y_aload_n (pc := 82) (j := 0) dX12_executes_82 rfl rfl ?_
  refine Y_aload_n (pc := 83) (j := 0) dX12_executes_83 rfl rfl ?_
  refine Y_iconst (pc := 84) (v := (1 : Int32)) dX12_executes_84 rfl ?_
  obtain ⟨y2, qy2, h⟩ := bindE h
  have cy2 := v_X12_made hPy1 qy2
  refine C_V1r (pc := 85) (k' := k_X12_made) dX12_executes_85 w10_43 i_X12_made (lk_69 hPy1) ⟨Nat.le_of_ble_eq_true rfl, Nat.le_of_ble_eq_true rfl⟩ rfl (Nat.le_of_ble_eq_true rfl) (Nat.le_of_ble_eq_true rfl) (Nat.le_of_ble_eq_true rfl) (cy2) ?_
  have hPy2 := cy2.1.1
  obtain ⟨y3, qy3, h⟩ := bindE h
  have cy3 := v_X12_pushes hPy2 qy3
  refine C_V1o (pc := 88) (k' := k_X12_pushes) dX12_executes_88 w10_51 i_X12_pushes (lk_69 hPy2) ⟨Nat.le_of_ble_eq_true rfl, Nat.le_of_ble_eq_true rfl⟩ rfl (Nat.le_of_ble_eq_true rfl) (Nat.le_of_ble_eq_true rfl) (Nat.le_of_ble_eq_true rfl) (cy3) ?_
  have hPy3 := cy3.1.1
  refine Y_aload_n (pc := 91) (j := 0) dX12_executes_91 rfl rfl ?_
  refine Z_getr (pc := 92) dX12_executes_92 w8_116 (lk_69 hPy3) fr_12_50 (lr_69_50 hPy3) ?_
  refine Y_aload_n (pc := 95) (j := 0) dX12_executes_95 rfl rfl ?_
  refine Z_geti (pc := 96) dX12_executes_96 w8_114 (lk_69 hPy3) fi_12_48 ?_
  refine Y_dup2 (pc := 99) dX12_executes_99 rfl rfl ?_
  obtain ⟨hb1, h⟩ := okE h
  refine Y_iald (pc := 100) dX12_executes_100 (lk_110 hPy3) (ln_110 hPy3) hb1 ?_
  refine Y_iconst (pc := 101) (v := (1 : Int32)) dX12_executes_101 rfl ?_
  refine Y_iadd (pc := 102) dX12_executes_102 ?_
  obtain ⟨hb2, h⟩ := okE h
  refine Y_iast (pc := 103) dX12_executes_103 (lk_110 hPy3) (ln_110 hPy3) hb2 ?_
  obtain ⟨M1, eM1, h⟩ := bndE h
  refine VV.mem eM1 ?_
  have hP1 := hPy3.wI eM1
  refine Y_goto (pc := 104) (tgt := 517) dX12_executes_104 (by decide) ?_
  cases h
  exact Y_vret (pc := 517) rfl dX12_executes_517 hP1 ⟨rfl, rfl⟩
theorem b_X12_executes_59 {x2 : Int32} {x3 : Int32} {M z} (hP : Lay M) (h : d_X12_executes_59 x2 x3 M = some z) : VV Lay k_X12_executes 59 [(0, .ref 69), (2, .int x2), (3, .int x3)] [] M z.2 (Qv (none) z.2) xF := by
  unfold d_X12_executes_59 at h
  refine Y_aload_n (pc := 59) (j := 0) dX12_executes_59 rfl rfl ?_
  refine Y_bipush (pc := 60) (v := (105 : Int32)) dX12_executes_60 rfl ?_
  refine Y_iload_n (pc := 62) (j := 1) dX12_executes_62 rfl rfl ?_
  refine Y_bipush (pc := 63) (v := (105 : Int32)) dX12_executes_63 rfl ?_
  refine Y_icmp_ne (pc := 65) (tgt := 72) dX12_executes_65 (by decide) (fun hc1 => ?_) (fun hc1 => ?_)
  · replace h := ifF hc1 h
    refine Y_aload_n (pc := 72) (j := 0) dX12_executes_72 rfl rfl ?_
    refine Z_getr (pc := 73) dX12_executes_73 w8_73 (lk_69 hP) fr_12_7 (lr_69_7 hP) ?_
    refine Y_iload_n (pc := 76) (j := 2) dX12_executes_76 rfl rfl ?_
    obtain ⟨hb1, h⟩ := okE h
    refine Y_iald (pc := 77) dX12_executes_77 (lk_75 hP) (ln_75 hP) hb1 ?_
    refine VV.sub [0] rfl ?_
    exact b_X12_executes_78  hP h
  · replace h := ifT hc1 h
    refine Y_iload_n (pc := 68) (j := 2) dX12_executes_68 rfl rfl ?_
    refine Y_goto (pc := 69) (tgt := 78) dX12_executes_69 (by decide) ?_
    refine VV.sub [0] rfl ?_
    exact b_X12_executes_78  hP h
theorem b_X12_endsBy {x1 : Int32} {M z} (hP : Lay M) (h : d_X12_endsBy x1 M = some z) : VV Lay k_X12_endsBy 0 [(0, .ref 69), (1, .int x1)] [] M z.2 (Qv (none) z.2) xF := by
  unfold d_X12_endsBy at h
  refine Y_aload_n (pc := 0) (j := 0) dX12_endsBy_0 rfl rfl ?_
  obtain ⟨y1, qy1, h⟩ := bindE h
  have cy1 := v_X12_breaksOff hP qy1
  refine C_V0o (pc := 1) (k' := k_X12_breaksOff) dX12_endsBy_1 w9_180 i_X12_breaksOff (lk_69 hP) ⟨Nat.le_of_ble_eq_true rfl, Nat.le_of_ble_eq_true rfl⟩ rfl (Nat.le_of_ble_eq_true rfl) (Nat.le_of_ble_eq_true rfl) (Nat.le_of_ble_eq_true rfl) (cy1) ?_
  have hPy1 := cy1.1.1
  refine Y_aload_n (pc := 4) (j := 0) dX12_endsBy_4 rfl rfl ?_
  refine Y_iconst (pc := 5) (v := (-1 : Int32)) dX12_endsBy_5 rfl ?_
  refine Z_puti (pc := 6) dX12_endsBy_6 w8_134 (lk_69 hPy1) fi_12_68 (Or.inl rfl) rfl ?_
  obtain ⟨M1, eM1, h⟩ := bndE h
  refine VV.mem eM1 ?_
  have hP1 := hPy1.wI eM1
  refine Y_aload_n (pc := 9) (j := 0) dX12_endsBy_9 rfl rfl ?_
  refine Y_iconst (pc := 10) (v := (0 : Int32)) dX12_endsBy_10 rfl ?_
  refine Z_putz (pc := 11) dX12_endsBy_11 w8_133 (lk_69 hP1) fi_12_67 (Or.inl rfl) rfl (by decide) ?_
  obtain ⟨M2, eM2, h⟩ := bndE h
  refine VV.mem eM2 ?_
  have hP2 := hP1.wI eM2
  refine Y_aload_n (pc := 14) (j := 0) dX12_endsBy_14 rfl rfl ?_
  refine Y_bipush (pc := 15) (v := (120 : Int32)) dX12_endsBy_15 rfl ?_
  refine Z_putc (pc := 17) dX12_endsBy_17 w8_128 (lk_69 hP2) fi_12_62 (Or.inl rfl) rfl (by decide) ?_
  obtain ⟨M3, eM3, h⟩ := bndE h
  refine VV.mem eM3 ?_
  have hP3 := hP2.wI eM3
  refine Y_aload_n (pc := 20) (j := 0) dX12_endsBy_20 rfl rfl ?_
  refine Y_iload_n (pc := 21) (j := 1) dX12_endsBy_21 rfl rfl ?_
  obtain ⟨hb1, h⟩ := okE h
  refine Z_putc (pc := 22) dX12_endsBy_22 w8_131 (lk_69 hP3) fi_12_65 (Or.inl rfl) rfl hb1 ?_
  obtain ⟨M4, eM4, h⟩ := bndE h
  refine VV.mem eM4 ?_
  have hP4 := hP3.wI eM4
  refine Y_aload_n (pc := 25) (j := 0) dX12_endsBy_25 rfl rfl ?_
  refine Y_bipush (pc := 26) (v := (100 : Int32)) dX12_endsBy_26 rfl ?_
  refine Y_aload_n (pc := 28) (j := 0) dX12_endsBy_28 rfl rfl ?_
  refine Z_getr (pc := 29) dX12_endsBy_29 w8_115 (lk_69 hP4) fr_12_49 (lr_69_49 hP4) ?_
  refine Y_aload_n (pc := 32) (j := 0) dX12_endsBy_32 rfl rfl ?_
  refine Z_geti (pc := 33) dX12_endsBy_33 w8_114 (lk_69 hP4) fi_12_48 ?_
  obtain ⟨hb2, h⟩ := okE h
  refine Y_iald (pc := 36) dX12_endsBy_36 (lk_109 hP4) (ln_109 hP4) hb2 ?_
  refine Y_imul (pc := 37) dX12_endsBy_37 ?_
  refine Y_aload_n (pc := 38) (j := 0) dX12_endsBy_38 rfl rfl ?_
  refine Z_getr (pc := 39) dX12_endsBy_39 w8_116 (lk_69 hP4) fr_12_50 (lr_69_50 hP4) ?_
  refine Y_aload_n (pc := 42) (j := 0) dX12_endsBy_42 rfl rfl ?_
  refine Z_geti (pc := 43) dX12_endsBy_43 w8_114 (lk_69 hP4) fi_12_48 ?_
  obtain ⟨hb3, h⟩ := okE h
  refine Y_iald (pc := 46) dX12_endsBy_46 (lk_110 hP4) (ln_110 hP4) hb3 ?_
  refine Y_iadd (pc := 47) dX12_endsBy_47 ?_
  refine Z_puti (pc := 48) dX12_endsBy_48 w8_132 (lk_69 hP4) fi_12_66 (Or.inl rfl) rfl ?_
  obtain ⟨M5, eM5, h⟩ := bndE h
  refine VV.mem eM5 ?_
  have hP5 := hP4.wI eM5
  cases h
  exact Y_vret (pc := 51) rfl dX12_endsBy_51 hP5 ⟨rfl, rfl⟩
theorem v_X12_endsBy {x1 : Int32} {M z} (hP : Lay M) (h : d_X12_endsBy x1 M = some z) : CC Lay k_X12_endsBy [.ref 69, .int x1] M z.2 (Qv (none) z.2) xF :=
  CC.ofVV (by decide) rfl (Nat.le_of_ble_eq_true rfl) (b_X12_endsBy hP h)
theorem b_X12_failsBy_44 {x1 : Int32} {x2 : Int32} {M z} (hP : Lay M) (h : d_X12_failsBy_44 x1 x2 M = some z) : VV Lay k_X12_failsBy 44 [(0, .ref 69), (1, .int x1), (2, .int x2)] [] M z.2 (Qv (none) z.2) xF := by
  unfold d_X12_failsBy_44 at h
  refine Y_iload_n (pc := 44) (j := 2) dX12_failsBy_44 rfl rfl ?_
  refine Y_if_ge (pc := 45) (tgt := 54) dX12_failsBy_45 (by decide) (fun hc1 => ?_) (fun hc1 => ?_)
  · replace h := ifT hc1 h
    refine Y_aload_n (pc := 54) (j := 0) dX12_failsBy_54 rfl rfl ?_
    refine Y_iload_n (pc := 55) (j := 2) dX12_failsBy_55 rfl rfl ?_
    refine Z_puti (pc := 56) dX12_failsBy_56 w8_114 (lk_69 hP) fi_12_48 (Or.inl rfl) rfl ?_
    obtain ⟨M1, eM1, h⟩ := bndE h
    refine VV.mem eM1 ?_
    have hP1 := hP.wI eM1
    refine Y_aload_n (pc := 59) (j := 0) dX12_failsBy_59 rfl rfl ?_
    refine Z_getr (pc := 60) dX12_failsBy_60 w8_116 (lk_69 hP1) fr_12_50 (lr_69_50 hP1) ?_
    refine Y_iload_n (pc := 63) (j := 2) dX12_failsBy_63 rfl rfl ?_
    refine Y_aload_n (pc := 64) (j := 0) dX12_failsBy_64 rfl rfl ?_
    refine Z_getr (pc := 65) dX12_failsBy_65 w8_72 (lk_69 hP1) fr_12_6 (lr_69_6 hP1) ?_
    refine Y_aload_n (pc := 68) (j := 0) dX12_failsBy_68 rfl rfl ?_
    refine Z_getr (pc := 69) dX12_failsBy_69 w8_115 (lk_69 hP1) fr_12_49 (lr_69_49 hP1) ?_
    refine Y_iload_n (pc := 72) (j := 2) dX12_failsBy_72 rfl rfl ?_
    obtain ⟨hb1, h⟩ := okE h
    refine Y_iald (pc := 73) dX12_failsBy_73 (lk_109 hP1) (ln_109 hP1) hb1 ?_
    obtain ⟨hb2, h⟩ := okE h
    refine Y_iald (pc := 74) dX12_failsBy_74 (lk_74 hP1) (ln_74 hP1) hb2 ?_
    obtain ⟨hb3, h⟩ := okE h
    refine Y_iast (pc := 75) dX12_failsBy_75 (lk_110 hP1) (ln_110 hP1) hb3 ?_
    obtain ⟨M2, eM2, h⟩ := bndE h
    refine VV.mem eM2 ?_
    have hP2 := hP1.wI eM2
    refine Y_aload_n (pc := 76) (j := 0) dX12_failsBy_76 rfl rfl ?_
    refine Z_getr (pc := 77) dX12_failsBy_77 w8_117 (lk_69 hP2) fr_12_51 (lr_69_51 hP2) ?_
    refine Y_iload_n (pc := 80) (j := 2) dX12_failsBy_80 rfl rfl ?_
    refine Y_iconst (pc := 81) (v := (0 : Int32)) dX12_failsBy_81 rfl ?_
    obtain ⟨hb4, h⟩ := okE h
    refine Y_iast (pc := 82) dX12_failsBy_82 (lk_111 hP2) (ln_111 hP2) hb4 ?_
    obtain ⟨M3, eM3, h⟩ := bndE h
    refine VV.mem eM3 ?_
    have hP3 := hP2.wI eM3
    refine Y_aload_n (pc := 83) (j := 0) dX12_failsBy_83 rfl rfl ?_
    refine Y_bipush (pc := 84) (v := (105 : Int32)) dX12_failsBy_84 rfl ?_
    refine Y_iload_n (pc := 86) (j := 1) dX12_failsBy_86 rfl rfl ?_
    refine Y_dconst0 (pc := 87) dX12_failsBy_87 ?_
    obtain ⟨y1, qy1, h⟩ := bindE h
    have cy1 := v_X12_gives hP3 qy1
    refine C_V3o (pc := 88) (k' := k_X12_gives) dX12_failsBy_88 w10_17 i_X12_gives (lk_69 hP3) ⟨Nat.le_of_ble_eq_true rfl, Nat.le_of_ble_eq_true rfl⟩ rfl (Nat.le_of_ble_eq_true rfl) (Nat.le_of_ble_eq_true rfl) (Nat.le_of_ble_eq_true rfl) (cy1) ?_
    have hPy1 := cy1.1.1
    refine Y_aload_n (pc := 91) (j := 0) dX12_failsBy_91 rfl rfl ?_
    refine Y_iconst (pc := 92) (v := (0 : Int32)) dX12_failsBy_92 rfl ?_
    obtain ⟨y2, qy2, h⟩ := bindE h
    have cy2 := v_X12_pushes hPy1 qy2
    refine C_V1o (pc := 93) (k' := k_X12_pushes) dX12_failsBy_93 w10_51 i_X12_pushes (lk_69 hPy1) ⟨Nat.le_of_ble_eq_true rfl, Nat.le_of_ble_eq_true rfl⟩ rfl (Nat.le_of_ble_eq_true rfl) (Nat.le_of_ble_eq_true rfl) (Nat.le_of_ble_eq_true rfl) (cy2) ?_
    have hPy2 := cy2.1.1
    cases h
    exact Y_vret (pc := 96) rfl dX12_failsBy_96 hPy2 ⟨rfl, rfl⟩
  · replace h := ifF hc1 h
    refine Y_aload_n (pc := 48) (j := 0) dX12_failsBy_48 rfl rfl ?_
    refine Y_iload_n (pc := 49) (j := 1) dX12_failsBy_49 rfl rfl ?_
    obtain ⟨y3, qy3, h⟩ := bindE h
    have cy3 := v_X12_endsBy hP qy3
    refine C_V1o (pc := 50) (k' := k_X12_endsBy) dX12_failsBy_50 w9_176 i_X12_endsBy (lk_69 hP) ⟨Nat.le_of_ble_eq_true rfl, Nat.le_of_ble_eq_true rfl⟩ rfl (Nat.le_of_ble_eq_true rfl) (Nat.le_of_ble_eq_true rfl) (Nat.le_of_ble_eq_true rfl) (cy3) ?_
    have hPy3 := cy3.1.1
    cases h
    exact Y_vret (pc := 53) rfl dX12_failsBy_53 hPy3 ⟨rfl, rfl⟩
theorem b_X12_failsBy_19b {k19 : (Int32) → Mem → Option (Unit × Mem)} {x1 : Int32} {x2 : Int32} {M z} (hk19 : ∀ (a : (Int32)) (M : Mem) (z : Unit × Mem), Lay M → k19 a M = some z → VV Lay k_X12_failsBy 19 [(0, .ref 69), (1, .int x1), (2, .int a)] [] M z.2 (Qv (none) z.2) xF) (hP : Lay M) (h : d_X12_failsBy_19b k19 x1 x2 M = some z) : VV Lay k_X12_failsBy 19 [(0, .ref 69), (1, .int x1), (2, .int x2)] [] M z.2 (Qv (none) z.2) xF := by
  unfold d_X12_failsBy_19b at h
  refine Y_iload_n (pc := 19) (j := 2) dX12_failsBy_19 rfl rfl ?_
  refine Y_if_lt (pc := 20) (tgt := 44) dX12_failsBy_20 (by decide) (fun hc1 => ?_) (fun hc1 => ?_)
  · replace h := ifT hc1 h
    refine VV.sub [0, 1, 2] rfl ?_
    exact b_X12_failsBy_44  hP h
  · replace h := ifF hc1 h
    refine Y_aload_n (pc := 23) (j := 0) dX12_failsBy_23 rfl rfl ?_
    refine Z_getr (pc := 24) dX12_failsBy_24 w8_72 (lk_69 hP) fr_12_6 (lr_69_6 hP) ?_
    refine Y_aload_n (pc := 27) (j := 0) dX12_failsBy_27 rfl rfl ?_
    refine Z_getr (pc := 28) dX12_failsBy_28 w8_115 (lk_69 hP) fr_12_49 (lr_69_49 hP) ?_
    refine Y_iload_n (pc := 31) (j := 2) dX12_failsBy_31 rfl rfl ?_
    obtain ⟨hb1, h⟩ := okE h
    refine Y_iald (pc := 32) dX12_failsBy_32 (lk_109 hP) (ln_109 hP) hb1 ?_
    obtain ⟨hb2, h⟩ := okE h
    refine Y_iald (pc := 33) dX12_failsBy_33 (lk_74 hP) (ln_74 hP) hb2 ?_
    refine Y_iconst (pc := 34) (v := (-1 : Int32)) dX12_failsBy_34 rfl ?_
    refine Y_icmp_ne (pc := 35) (tgt := 44) dX12_failsBy_35 (by decide) (fun hc2 => ?_) (fun hc2 => ?_)
    · replace h := ifF hc2 h
      refine VV.sub [0, 1, 2] rfl ?_
      exact b_X12_failsBy_44  hP h
    · replace h := ifT hc2 h
      obtain ⟨b1, eb1, h⟩ := bndE h
      refine Y_iinc (pc := 38) (j := 2) (v := b1) (lv1 := [(2, .int b1), (0, .ref 69), (1, .int x1)]) dX12_failsBy_38 rfl eb1.symm (by decide) rfl ?_
      refine Y_goto (pc := 41) (tgt := 19) dX12_failsBy_41 (by decide) ?_
      refine VV.sub [1, 2, 0] rfl ?_
      exact hk19 _ _ _ hP h
theorem b_X12_failsBy_19 {x1 : Int32} (n : Nat) : ∀ (a : (Int32)) (M : Mem) (z : Unit × Mem), d_X12_failsBy_19 x1 n a M = some z → Lay M → VV Lay k_X12_failsBy 19 [(0, .ref 69), (1, .int x1), (2, .int a)] [] M z.2 (Qv (none) z.2) xF :=
  lp_ind (G := fun (a : (Int32)) (M : Mem) (z : Unit × Mem) => Lay M → VV Lay k_X12_failsBy 19 [(0, .ref 69), (1, .int x1), (2, .int a)] [] M z.2 (Qv (none) z.2) xF) (fun k hk a M z h hP => b_X12_failsBy_19b  (fun a M z hP h => hk a M z h hP) hP h) n
theorem b_X12_failsBy {x1 : Int32} {M z} (hP : Lay M) (h : d_X12_failsBy x1 M = some z) : VV Lay k_X12_failsBy 0 [(0, .ref 69), (1, .int x1)] [] M z.2 (Qv (none) z.2) xF := by
  unfold d_X12_failsBy at h
  refine Y_aload_n (pc := 0) (j := 0) dX12_failsBy_0 rfl rfl ?_
  obtain ⟨y1, qy1, h⟩ := bindE h
  have cy1 := v_X12_breaksOff hP qy1
  refine C_V0o (pc := 1) (k' := k_X12_breaksOff) dX12_failsBy_1 w9_180 i_X12_breaksOff (lk_69 hP) ⟨Nat.le_of_ble_eq_true rfl, Nat.le_of_ble_eq_true rfl⟩ rfl (Nat.le_of_ble_eq_true rfl) (Nat.le_of_ble_eq_true rfl) (Nat.le_of_ble_eq_true rfl) (cy1) ?_
  have hPy1 := cy1.1.1
  refine Y_aload_n (pc := 4) (j := 0) dX12_failsBy_4 rfl rfl ?_
  refine Y_dup (pc := 5) dX12_failsBy_5 rfl ?_
  refine Z_geti (pc := 6) dX12_failsBy_6 w8_123 (lk_69 hPy1) fi_12_57 ?_
  refine Y_iconst (pc := 9) (v := (1 : Int32)) dX12_failsBy_9 rfl ?_
  refine Y_iadd (pc := 10) dX12_failsBy_10 ?_
  refine Z_puti (pc := 11) dX12_failsBy_11 w8_123 (lk_69 hPy1) fi_12_57 (Or.inl rfl) rfl ?_
  obtain ⟨M1, eM1, h⟩ := bndE h
  refine VV.mem eM1 ?_
  have hP1 := hPy1.wI eM1
  refine Y_aload_n (pc := 14) (j := 0) dX12_failsBy_14 rfl rfl ?_
  refine Z_geti (pc := 15) dX12_failsBy_15 w8_114 (lk_69 hP1) fi_12_48 ?_
  obtain ⟨b1, eb1, h⟩ := bndE h
  refine VV.topI eb1 ?_
  refine Y_istore_n (pc := 18) (lv1 := [(2, .int b1), (0, .ref 69), (1, .int x1)]) dX12_failsBy_18 rfl (by decide) rfl ?_
  refine VV.sub [1, 2, 0] rfl ?_
  exact b_X12_failsBy_19  fuel _ _ _ h hP1
theorem v_X12_failsBy {x1 : Int32} {M z} (hP : Lay M) (h : d_X12_failsBy x1 M = some z) : CC Lay k_X12_failsBy [.ref 69, .int x1] M z.2 (Qv (none) z.2) xF :=
  CC.ofVV (by decide) rfl (Nat.le_of_ble_eq_true rfl) (b_X12_failsBy hP h)
theorem b_X12_looksUp_63b {k63 : (Int32) → Mem → Option (Unit × Mem)} {x2 : Int32} {x5 : Int32} {x6 : Int32} {M z} (hk63 : ∀ (a : (Int32)) (M : Mem) (z : Unit × Mem), Lay M → k63 a M = some z → VV Lay k_X12_looksUp 63 [(0, .ref 69), (2, .int x2), (5, .int x5), (6, .int a)] [] M z.2 (Qv (none) z.2) xF) (hP : Lay M) (h : d_X12_looksUp_63b k63 x2 x5 x6 M = some z) : VV Lay k_X12_looksUp 63 [(0, .ref 69), (2, .int x2), (5, .int x5), (6, .int x6)] [] M z.2 (Qv (none) z.2) xF := by
  unfold d_X12_looksUp_63b at h
  refine Y_iload (pc := 63) (j := 3) dX12_looksUp_63 rfl ?_
  refine Y_aload_n (pc := 65) (j := 0) dX12_looksUp_65 rfl rfl ?_
  refine Z_getr (pc := 66) dX12_looksUp_66 w8_83 (lk_69 hP) fr_12_17 (lr_69_17 hP) ?_
  refine Y_iload_n (pc := 69) (j := 1) dX12_looksUp_69 rfl rfl ?_
  obtain ⟨hb1, h⟩ := okE h
  refine Y_iald (pc := 70) dX12_looksUp_70 (lk_83 hP) (ln_83 hP) hb1 ?_
  refine Y_icmp_ge (pc := 71) (tgt := 107) dX12_looksUp_71 (by decide) (fun hc1 => ?_) (fun hc1 => ?_)
  · replace h := ifT hc1 h
    refine Y_aload_n (pc := 107) (j := 0) dX12_looksUp_107 rfl rfl ?_
    refine Z_getr (pc := 108) dX12_looksUp_108 w8_86 (lk_69 hP) fr_12_20 (lr_69_20 hP) ?_
    refine Y_iload_n (pc := 111) (j := 1) dX12_looksUp_111 rfl rfl ?_
    refine Y_dup2 (pc := 112) dX12_looksUp_112 rfl rfl ?_
    obtain ⟨hb2, h⟩ := okE h
    refine Y_iald (pc := 113) dX12_looksUp_113 (lk_86 hP) (ln_86 hP) hb2 ?_
    refine Y_iconst (pc := 114) (v := (1 : Int32)) dX12_looksUp_114 rfl ?_
    refine Y_iadd (pc := 115) dX12_looksUp_115 ?_
    obtain ⟨hb3, h⟩ := okE h
    refine Y_iast (pc := 116) dX12_looksUp_116 (lk_86 hP) (ln_86 hP) hb3 ?_
    obtain ⟨M1, eM1, h⟩ := bndE h
    refine VV.mem eM1 ?_
    have hP1 := hP.wI eM1
    refine Y_aload_n (pc := 117) (j := 0) dX12_looksUp_117 rfl rfl ?_
    refine Z_getr (pc := 118) dX12_looksUp_118 w8_83 (lk_69 hP1) fr_12_17 (lr_69_17 hP1) ?_
    refine Y_iload_n (pc := 121) (j := 1) dX12_looksUp_121 rfl rfl ?_
    obtain ⟨hb4, h⟩ := okE h
    refine Y_iald (pc := 122) dX12_looksUp_122 (lk_83 hP1) (ln_83 hP1) hb4 ?_
    refine Y_iconst (pc := 123) (v := (3 : Int32)) dX12_looksUp_123 rfl ?_
    refine Y_icmp_ne (pc := 124) (tgt := 137) dX12_looksUp_124 (by decide) (fun hc2 => ?_) (fun hc2 => ?_)
    · replace h := ifF hc2 h
      refine Y_aload_n (pc := 137) (j := 0) dX12_looksUp_137 rfl rfl ?_
      refine Z_getr (pc := 138) dX12_looksUp_138 w8_84 (lk_69 hP1) fr_12_18 (lr_69_18 hP1) ?_
      refine Y_iconst (pc := 141) (v := (3 : Int32)) dX12_looksUp_141 rfl ?_
      refine Y_iload_n (pc := 142) (j := 1) dX12_looksUp_142 rfl rfl ?_
      refine Y_imul (pc := 143) dX12_looksUp_143 ?_
      refine Y_aload_n (pc := 144) (j := 0) dX12_looksUp_144 rfl rfl ?_
      refine Z_getr (pc := 145) dX12_looksUp_145 w8_83 (lk_69 hP1) fr_12_17 (lr_69_17 hP1) ?_
      refine Y_iload_n (pc := 148) (j := 1) dX12_looksUp_148 rfl rfl ?_
      obtain ⟨hb5, h⟩ := okE h
      refine Y_iald (pc := 149) dX12_looksUp_149 (lk_83 hP1) (ln_83 hP1) hb5 ?_
      refine Y_iadd (pc := 150) dX12_looksUp_150 ?_
      refine Y_iload (pc := 151) (j := 2) dX12_looksUp_151 rfl ?_
      obtain ⟨hb6, h⟩ := okE h
      refine Y_iast (pc := 153) dX12_looksUp_153 (lk_84 hP1) (ln_84 hP1) hb6 ?_
      obtain ⟨M2, eM2, h⟩ := bndE h
      refine VV.mem eM2 ?_
      have hP2 := hP1.wI eM2
      refine Y_aload_n (pc := 154) (j := 0) dX12_looksUp_154 rfl rfl ?_
      refine Z_getr (pc := 155) dX12_looksUp_155 w8_83 (lk_69 hP2) fr_12_17 (lr_69_17 hP2) ?_
      refine Y_iload_n (pc := 158) (j := 1) dX12_looksUp_158 rfl rfl ?_
      refine Y_dup2 (pc := 159) dX12_looksUp_159 rfl rfl ?_
      obtain ⟨hb7, h⟩ := okE h
      refine Y_iald (pc := 160) dX12_looksUp_160 (lk_83 hP2) (ln_83 hP2) hb7 ?_
      refine Y_iconst (pc := 161) (v := (1 : Int32)) dX12_looksUp_161 rfl ?_
      refine Y_iadd (pc := 162) dX12_looksUp_162 ?_
      obtain ⟨hb8, h⟩ := okE h
      refine Y_iast (pc := 163) dX12_looksUp_163 (lk_83 hP2) (ln_83 hP2) hb8 ?_
      obtain ⟨M3, eM3, h⟩ := bndE h
      refine VV.mem eM3 ?_
      have hP3 := hP2.wI eM3
      cases h
      exact Y_vret (pc := 164) rfl dX12_looksUp_164 hP3 ⟨rfl, rfl⟩
    · replace h := ifT hc2 h
      refine Y_aload_n (pc := 127) (j := 0) dX12_looksUp_127 rfl rfl ?_
      refine Z_getr (pc := 128) dX12_looksUp_128 w8_83 (lk_69 hP1) fr_12_17 (lr_69_17 hP1) ?_
      refine Y_iload_n (pc := 131) (j := 1) dX12_looksUp_131 rfl rfl ?_
      refine Y_iconst (pc := 132) (v := (-1 : Int32)) dX12_looksUp_132 rfl ?_
      obtain ⟨hb9, h⟩ := okE h
      refine Y_iast (pc := 133) dX12_looksUp_133 (lk_83 hP1) (ln_83 hP1) hb9 ?_
      obtain ⟨M4, eM4, h⟩ := bndE h
      refine VV.mem eM4 ?_
      have hP4 := hP1.wI eM4
      refine Y_goto (pc := 134) (tgt := 164) dX12_looksUp_134 (by decide) ?_
      cases h
      exact Y_vret (pc := 164) rfl dX12_looksUp_164 hP4 ⟨rfl, rfl⟩
  · replace h := ifF hc1 h
    refine Y_aload_n (pc := 74) (j := 0) dX12_looksUp_74 rfl rfl ?_
    refine Z_getr (pc := 75) dX12_looksUp_75 w8_84 (lk_69 hP) fr_12_18 (lr_69_18 hP) ?_
    refine Y_iconst (pc := 78) (v := (3 : Int32)) dX12_looksUp_78 rfl ?_
    refine Y_iload_n (pc := 79) (j := 1) dX12_looksUp_79 rfl rfl ?_
    refine Y_imul (pc := 80) dX12_looksUp_80 ?_
    refine Y_iload (pc := 81) (j := 3) dX12_looksUp_81 rfl ?_
    refine Y_iadd (pc := 83) dX12_looksUp_83 ?_
    obtain ⟨hb10, h⟩ := okE h
    refine Y_iald (pc := 84) dX12_looksUp_84 (lk_84 hP) (ln_84 hP) hb10 ?_
    refine Y_iload (pc := 85) (j := 2) dX12_looksUp_85 rfl ?_
    refine Y_icmp_ne (pc := 87) (tgt := 101) dX12_looksUp_87 (by decide) (fun hc3 => ?_) (fun hc3 => ?_)
    · replace h := ifF hc3 h
      obtain ⟨b1, eb1, h⟩ := bndE h
      refine Y_iinc (pc := 101) (j := 3) (v := b1) (lv1 := [(6, .int b1), (0, .ref 69), (2, .int x2), (5, .int x5)]) dX12_looksUp_101 rfl eb1.symm (by decide) rfl ?_
      refine Y_goto (pc := 104) (tgt := 63) dX12_looksUp_104 (by decide) ?_
      refine VV.sub [1, 2, 3, 0] rfl ?_
      exact hk63 _ _ _ hP h
    · replace h := ifT hc3 h
      refine Y_aload_n (pc := 90) (j := 0) dX12_looksUp_90 rfl rfl ?_
      refine Z_getr (pc := 91) dX12_looksUp_91 w8_85 (lk_69 hP) fr_12_19 (lr_69_19 hP) ?_
      refine Y_iload_n (pc := 94) (j := 1) dX12_looksUp_94 rfl rfl ?_
      refine Y_dup2 (pc := 95) dX12_looksUp_95 rfl rfl ?_
      obtain ⟨hb11, h⟩ := okE h
      refine Y_iald (pc := 96) dX12_looksUp_96 (lk_85 hP) (ln_85 hP) hb11 ?_
      refine Y_iconst (pc := 97) (v := (1 : Int32)) dX12_looksUp_97 rfl ?_
      refine Y_iadd (pc := 98) dX12_looksUp_98 ?_
      obtain ⟨hb12, h⟩ := okE h
      refine Y_iast (pc := 99) dX12_looksUp_99 (lk_85 hP) (ln_85 hP) hb12 ?_
      obtain ⟨M5, eM5, h⟩ := bndE h
      refine VV.mem eM5 ?_
      have hP5 := hP.wI eM5
      cases h
      exact Y_vret (pc := 100) rfl dX12_looksUp_100 hP5 ⟨rfl, rfl⟩
theorem b_X12_looksUp_63 {x2 : Int32} {x5 : Int32} (n : Nat) : ∀ (a : (Int32)) (M : Mem) (z : Unit × Mem), d_X12_looksUp_63 x2 x5 n a M = some z → Lay M → VV Lay k_X12_looksUp 63 [(0, .ref 69), (2, .int x2), (5, .int x5), (6, .int a)] [] M z.2 (Qv (none) z.2) xF :=
  lp_ind (G := fun (a : (Int32)) (M : Mem) (z : Unit × Mem) => Lay M → VV Lay k_X12_looksUp 63 [(0, .ref 69), (2, .int x2), (5, .int x5), (6, .int a)] [] M z.2 (Qv (none) z.2) xF) (fun k hk a M z h hP => b_X12_looksUp_63b  (fun a M z hP h => hk a M z h hP) hP h) n
theorem b_X12_looksUp_47 {x2 : Int32} {s0 : Int32} {M z} (hP : Lay M) (h : d_X12_looksUp_47 x2 s0 M = some z) : VV Lay k_X12_looksUp 47 [(0, .ref 69), (2, .int x2)] [.int s0] M z.2 (Qv (none) z.2) xF := by
  unfold d_X12_looksUp_47 at h
  refine Y_istore (pc := 47) (lv1 := [(5, .int s0), (0, .ref 69), (2, .int x2)]) dX12_looksUp_47 (by decide) rfl ?_
  refine Y_aload_n (pc := 49) (j := 1) dX12_looksUp_49 rfl rfl ?_
  refine Z_getr (pc := 50) dX12_looksUp_50 w8_83 (lk_69 hP) fr_12_17 (lr_69_17 hP) ?_
  refine Y_iload_n (pc := 53) (j := 2) dX12_looksUp_53 rfl rfl ?_
  obtain ⟨hb1, h⟩ := okE h
  refine Y_iald (pc := 54) dX12_looksUp_54 (lk_83 hP) (ln_83 hP) hb1 ?_
  refine Y_iconst (pc := 55) (v := (-1 : Int32)) dX12_looksUp_55 rfl ?_
  refine Y_icmp_ne (pc := 56) (tgt := 60) dX12_looksUp_56 (by decide) (fun hc1 => ?_) (fun hc1 => ?_)
  · replace h := ifF hc1 h
    refine Y_iconst (pc := 60) (v := (0 : Int32)) dX12_looksUp_60 rfl ?_
    refine Y_istore (pc := 61) (lv1 := [(6, .int (0 : Int32)), (5, .int s0), (0, .ref 69), (2, .int x2)]) dX12_looksUp_61 (by decide) rfl ?_
    refine VV.sub [2, 3, 1, 0] rfl ?_
    exact b_X12_looksUp_63  fuel _ _ _ h hP
  · replace h := ifT hc1 h
    cases h
    exact Y_vret (pc := 59) rfl dX12_looksUp_59 hP ⟨rfl, rfl⟩
theorem b_X12_looksUp_11 {x1 : Int32} {x2 : Int32} {s0 : Int32} {M z} (hP : Lay M) (h : d_X12_looksUp_11 x1 x2 s0 M = some z) : VV Lay k_X12_looksUp 11 [(0, .ref 69), (1, .int x1), (2, .int x2)] [.int s0] M z.2 (Qv (none) z.2) xF := by
  unfold d_X12_looksUp_11 at h
  refine Y_istore_n (pc := 11) (lv1 := [(3, .int s0), (0, .ref 69), (1, .int x1), (2, .int x2)]) dX12_looksUp_11 rfl (by decide) rfl ?_
  refine Y_aload_n (pc := 12) (j := 1) dX12_looksUp_12 rfl rfl ?_
  refine Z_getr (pc := 13) dX12_looksUp_13 w8_119 (lk_69 hP) fr_12_53 (lr_69_53 hP) ?_
  refine Y_aload_n (pc := 16) (j := 1) dX12_looksUp_16 rfl rfl ?_
  refine Z_getr (pc := 17) dX12_looksUp_17 w8_111 (lk_69 hP) fr_12_45 (lr_69_45 hP) ?_
  refine Y_aload_n (pc := 20) (j := 1) dX12_looksUp_20 rfl rfl ?_
  refine Y_iload_n (pc := 21) (j := 0) dX12_looksUp_21 rfl rfl ?_
  obtain ⟨y1, qy1, h⟩ := bindE h
  have cy1 := v_X12_top hP qy1
  refine C_V1r (pc := 22) (k' := k_X12_top) dX12_looksUp_22 w9_200 i_X12_top (lk_69 hP) ⟨Nat.le_of_ble_eq_true rfl, Nat.le_of_ble_eq_true rfl⟩ rfl (Nat.le_of_ble_eq_true rfl) (Nat.le_of_ble_eq_true rfl) (Nat.le_of_ble_eq_true rfl) (cy1) ?_
  have hPy1 := cy1.1.1
  obtain ⟨hb1, h⟩ := okE h
  refine Y_iald (pc := 25) dX12_looksUp_25 (lk_106 hPy1) (ln_106 hPy1) hb1 ?_
  obtain ⟨hb2, h⟩ := okE h
  refine Y_iald (pc := 26) dX12_looksUp_26 (lk_112 hPy1) (ln_112 hPy1) hb2 ?_
  obtain ⟨b1, eb1, h⟩ := bndE h
  refine VV.topI eb1 ?_
  refine Y_istore (pc := 27) (lv1 := [(4, .int b1), (3, .int s0), (0, .ref 69), (1, .int x1), (2, .int x2)]) dX12_looksUp_27 (by decide) rfl ?_
  refine Y_iload_n (pc := 29) (j := 3) dX12_looksUp_29 rfl rfl ?_
  refine Y_bipush (pc := 30) (v := (109 : Int32)) dX12_looksUp_30 rfl ?_
  refine Y_icmp_ne (pc := 32) (tgt := 45) dX12_looksUp_32 (by decide) (fun hc1 => ?_) (fun hc1 => ?_)
  · replace h := ifF hc1 h
    refine Y_iload (pc := 45) (j := 0) dX12_looksUp_45 rfl ?_
    refine VV.sub [2, 4] rfl ?_
    exact b_X12_looksUp_47  hPy1 h
  · replace h := ifT hc1 h
    refine Y_aload_n (pc := 35) (j := 2) dX12_looksUp_35 rfl rfl ?_
    refine Z_getr (pc := 36) dX12_looksUp_36 w8_79 (lk_69 hPy1) fr_12_13 (lr_69_13 hPy1) ?_
    refine Y_iload (pc := 39) (j := 0) dX12_looksUp_39 rfl ?_
    obtain ⟨hb3, h⟩ := okE h
    refine Y_iald (pc := 41) dX12_looksUp_41 (lk_79 hPy1) (ln_79 hPy1) hb3 ?_
    refine Y_goto (pc := 42) (tgt := 47) dX12_looksUp_42 (by decide) ?_
    refine VV.sub [2, 4] rfl ?_
    exact b_X12_looksUp_47  hPy1 h
theorem b_X12_looksUp {x1 : Int32} {x2 : Int32} {M z} (hP : Lay M) (h : d_X12_looksUp x1 x2 M = some z) : VV Lay k_X12_looksUp 0 [(0, .ref 69), (1, .int x1), (2, .int x2)] [] M z.2 (Qv (none) z.2) xF := by
  unfold d_X12_looksUp at h
  refine Y_iload_n (pc := 0) (j := 1) dX12_looksUp_0 rfl rfl ?_
  refine Y_bipush (pc := 1) (v := (112 : Int32)) dX12_looksUp_1 rfl ?_
  refine Y_icmp_ne (pc := 3) (tgt := 10) dX12_looksUp_3 (by decide) (fun hc1 => ?_) (fun hc1 => ?_)
  · replace h := ifF hc1 h
    refine Y_iconst (pc := 10) (v := (0 : Int32)) dX12_looksUp_10 rfl ?_
    refine VV.sub [0, 1, 2] rfl ?_
    exact b_X12_looksUp_11  hP h
  · replace h := ifT hc1 h
    refine Y_iconst (pc := 6) (v := (1 : Int32)) dX12_looksUp_6 rfl ?_
    refine Y_goto (pc := 7) (tgt := 11) dX12_looksUp_7 (by decide) ?_
    refine VV.sub [0, 1, 2] rfl ?_
    exact b_X12_looksUp_11  hP h
theorem v_X12_looksUp {x1 : Int32} {x2 : Int32} {M z} (hP : Lay M) (h : d_X12_looksUp x1 x2 M = some z) : CC Lay k_X12_looksUp [.ref 69, .int x1, .int x2] M z.2 (Qv (none) z.2) xF :=
  CC.ofVV (by decide) rfl (Nat.le_of_ble_eq_true rfl) (b_X12_looksUp hP h)
theorem b_X12_jumpsBack_31 {x1 : Int32} {M z} (hP : Lay M) (h : d_X12_jumpsBack_31 x1 M = some z) : VV Lay k_X12_jumpsBack 31 [(0, .ref 69), (1, .int x1)] [] M z.2 (Qv (none) z.2) xF := by
  unfold d_X12_jumpsBack_31 at h
  refine Y_aload_n (pc := 31) (j := 0) dX12_jumpsBack_31 rfl rfl ?_
  obtain ⟨y1, qy1, h⟩ := bindE h
  have cy1 := v_X12_breaksOff hP qy1
  refine C_V0o (pc := 32) (k' := k_X12_breaksOff) dX12_jumpsBack_32 w9_180 i_X12_breaksOff (lk_69 hP) ⟨Nat.le_of_ble_eq_true rfl, Nat.le_of_ble_eq_true rfl⟩ rfl (Nat.le_of_ble_eq_true rfl) (Nat.le_of_ble_eq_true rfl) (Nat.le_of_ble_eq_true rfl) (cy1) ?_
  have hPy1 := cy1.1.1
  refine Y_aload_n (pc := 35) (j := 0) dX12_jumpsBack_35 rfl rfl ?_
  refine Y_iload_n (pc := 36) (j := 1) dX12_jumpsBack_36 rfl rfl ?_
  obtain ⟨y2, qy2, h⟩ := bindE h
  have cy2 := v_X12_rootAt hPy1 qy2
  refine C_V1r (pc := 37) (k' := k_X12_rootAt) dX12_jumpsBack_37 w10_151 i_X12_rootAt (lk_69 hPy1) ⟨Nat.le_of_ble_eq_true rfl, Nat.le_of_ble_eq_true rfl⟩ rfl (Nat.le_of_ble_eq_true rfl) (Nat.le_of_ble_eq_true rfl) (Nat.le_of_ble_eq_true rfl) (cy2) ?_
  have hPy2 := cy2.1.1
  refine Y_istore_n (pc := 40) (lv1 := [(2, .int y2.1), (0, .ref 69), (1, .int x1)]) dX12_jumpsBack_40 rfl (by decide) rfl ?_
  refine Y_iload_n (pc := 41) (j := 0) dX12_jumpsBack_41 rfl rfl ?_
  refine Y_iconst (pc := 42) (v := (-1 : Int32)) dX12_jumpsBack_42 rfl ?_
  refine Y_icmp_eq (pc := 43) (tgt := 52) dX12_jumpsBack_43 (by decide) (fun hc1 => ?_) (fun hc1 => ?_)
  · replace h := ifT hc1 h
    refine Y_aload_n (pc := 52) (j := 1) dX12_jumpsBack_52 rfl rfl ?_
    refine Z_getr (pc := 53) dX12_jumpsBack_53 w8_87 (lk_69 hPy2) fr_12_21 (lr_69_21 hPy2) ?_
    refine Y_iload_n (pc := 56) (j := 2) dX12_jumpsBack_56 rfl rfl ?_
    refine Y_dup2 (pc := 57) dX12_jumpsBack_57 rfl rfl ?_
    obtain ⟨hb1, h⟩ := okE h
    refine Y_iald (pc := 58) dX12_jumpsBack_58 (lk_87 hPy2) (ln_87 hPy2) hb1 ?_
    refine Y_iconst (pc := 59) (v := (1 : Int32)) dX12_jumpsBack_59 rfl ?_
    refine Y_iadd (pc := 60) dX12_jumpsBack_60 ?_
    obtain ⟨hb2, h⟩ := okE h
    refine Y_iast (pc := 61) dX12_jumpsBack_61 (lk_87 hPy2) (ln_87 hPy2) hb2 ?_
    obtain ⟨M1, eM1, h⟩ := bndE h
    refine VV.mem eM1 ?_
    have hP1 := hPy2.wI eM1
    refine Y_aload_n (pc := 62) (j := 1) dX12_jumpsBack_62 rfl rfl ?_
    refine Z_getr (pc := 63) dX12_jumpsBack_63 w8_87 (lk_69 hP1) fr_12_21 (lr_69_21 hP1) ?_
    refine Y_iload_n (pc := 66) (j := 2) dX12_jumpsBack_66 rfl rfl ?_
    obtain ⟨hb3, h⟩ := okE h
    refine Y_iald (pc := 67) dX12_jumpsBack_67 (lk_87 hP1) (ln_87 hP1) hb3 ?_
    refine Y_aload_n (pc := 68) (j := 1) dX12_jumpsBack_68 rfl rfl ?_
    refine Z_geti (pc := 69) dX12_jumpsBack_69 w8_89 (lk_69 hP1) fi_12_23 ?_
    refine Y_icmp_lt (pc := 72) (tgt := 96) dX12_jumpsBack_72 (by decide) (fun hc2 => ?_) (fun hc2 => ?_)
    · replace h := ifT hc2 h
      cases h
      exact Y_vret (pc := 96) rfl dX12_jumpsBack_96 hP1 ⟨rfl, rfl⟩
    · replace h := ifF hc2 h
      refine Y_aload_n (pc := 75) (j := 1) dX12_jumpsBack_75 rfl rfl ?_
      refine Z_getr (pc := 76) dX12_jumpsBack_76 w8_88 (lk_69 hP1) fr_12_22 (lr_69_22 hP1) ?_
      refine Y_iload_n (pc := 79) (j := 2) dX12_jumpsBack_79 rfl rfl ?_
      obtain ⟨hb4, h⟩ := okE h
      refine Y_iald (pc := 80) dX12_jumpsBack_80 (lk_88 hP1) (ln_88 hP1) hb4 ?_
      refine Y_iconst (pc := 81) (v := (2 : Int32)) dX12_jumpsBack_81 rfl ?_
      refine Y_icmp_ge (pc := 82) (tgt := 96) dX12_jumpsBack_82 (by decide) (fun hc3 => ?_) (fun hc3 => ?_)
      · replace h := ifT hc3 h
        cases h
        exact Y_vret (pc := 96) rfl dX12_jumpsBack_96 hP1 ⟨rfl, rfl⟩
      · replace h := ifF hc3 h
        refine Y_aload_n (pc := 85) (j := 1) dX12_jumpsBack_85 rfl rfl ?_
        refine Y_iconst (pc := 86) (v := (-1 : Int32)) dX12_jumpsBack_86 rfl ?_
        refine Y_iconst (pc := 87) (v := (-1 : Int32)) dX12_jumpsBack_87 rfl ?_
        refine Y_iload_n (pc := 88) (j := 2) dX12_jumpsBack_88 rfl rfl ?_
        refine Y_aload_n (pc := 89) (j := 1) dX12_jumpsBack_89 rfl rfl ?_
        refine Z_geti (pc := 90) dX12_jumpsBack_90 w8_114 (lk_69 hP1) fi_12_48 ?_
        obtain ⟨y3, qy3, h⟩ := bindE h
        have cy3 := v_X12_records hP1 qy3
        refine C_V4o (pc := 93) (k' := k_X12_records) dX12_jumpsBack_93 w10_31 i_X12_records (lk_69 hP1) ⟨Nat.le_of_ble_eq_true rfl, Nat.le_of_ble_eq_true rfl⟩ rfl (Nat.le_of_ble_eq_true rfl) (Nat.le_of_ble_eq_true rfl) (Nat.le_of_ble_eq_true rfl) (cy3) ?_
        have hPy3 := cy3.1.1
        cases h
        exact Y_vret (pc := 96) rfl dX12_jumpsBack_96 hPy3 ⟨rfl, rfl⟩
  · replace h := ifF hc1 h
    refine Y_aload_n (pc := 46) (j := 1) dX12_jumpsBack_46 rfl rfl ?_
    refine Y_iload_n (pc := 47) (j := 0) dX12_jumpsBack_47 rfl rfl ?_
    obtain ⟨y4, qy4, h⟩ := bindE h
    have cy4 := v_X12_enters hPy2 qy4
    refine C_V1o (pc := 48) (k' := k_X12_enters) dX12_jumpsBack_48 w10_103 i_X12_enters (lk_69 hPy2) ⟨Nat.le_of_ble_eq_true rfl, Nat.le_of_ble_eq_true rfl⟩ rfl (Nat.le_of_ble_eq_true rfl) (Nat.le_of_ble_eq_true rfl) (Nat.le_of_ble_eq_true rfl) (cy4) ?_
    have hPy4 := cy4.1.1
    cases h
    exact Y_vret (pc := 51) rfl dX12_jumpsBack_51 hPy4 ⟨rfl, rfl⟩
theorem b_X12_jumpsBack {x1 : Int32} {M z} (hP : Lay M) (h : d_X12_jumpsBack x1 M = some z) : VV Lay k_X12_jumpsBack 0 [(0, .ref 69), (1, .int x1)] [] M z.2 (Qv (none) z.2) xF := by
  unfold d_X12_jumpsBack at h
  refine Y_aload_n (pc := 0) (j := 0) dX12_jumpsBack_0 rfl rfl ?_
  refine Z_geti (pc := 1) dX12_jumpsBack_1 w8_137 (lk_69 hP) fi_12_71 ?_
  refine Y_if_eq (pc := 4) (tgt := 31) dX12_jumpsBack_4 (by decide) (fun hc1 => ?_) (fun hc1 => ?_)
  · replace h := ifT hc1 h
    refine VV.sub [0, 1] rfl ?_
    exact b_X12_jumpsBack_31  hP h
  · replace h := ifF hc1 h
    refine Y_iload_n (pc := 7) (j := 1) dX12_jumpsBack_7 rfl rfl ?_
    refine Y_aload_n (pc := 8) (j := 0) dX12_jumpsBack_8 rfl rfl ?_
    refine Z_geti (pc := 9) dX12_jumpsBack_9 w8_140 (lk_69 hP) fi_12_74 ?_
    refine Y_icmp_ne (pc := 12) (tgt := 31) dX12_jumpsBack_12 (by decide) (fun hc2 => ?_) (fun hc2 => ?_)
    · replace h := ifF hc2 h
      refine VV.sub [0, 1] rfl ?_
      exact b_X12_jumpsBack_31  hP h
    · replace h := ifT hc2 h
      refine Y_aload_n (pc := 15) (j := 0) dX12_jumpsBack_15 rfl rfl ?_
      refine Z_geti (pc := 16) dX12_jumpsBack_16 w8_114 (lk_69 hP) fi_12_48 ?_
      refine Y_aload_n (pc := 19) (j := 0) dX12_jumpsBack_19 rfl rfl ?_
      refine Z_geti (pc := 20) dX12_jumpsBack_20 w8_141 (lk_69 hP) fi_12_75 ?_
      refine Y_icmp_ne (pc := 23) (tgt := 31) dX12_jumpsBack_23 (by decide) (fun hc3 => ?_) (fun hc3 => ?_)
      · replace h := ifF hc3 h
        refine VV.sub [0, 1] rfl ?_
        exact b_X12_jumpsBack_31  hP h
      · replace h := ifT hc3 h
        refine Y_aload_n (pc := 26) (j := 0) dX12_jumpsBack_26 rfl rfl ?_
        obtain ⟨y1, qy1, h⟩ := bindE h
        have cy1 := v_X12_ends hP qy1
        refine C_V0o (pc := 27) (k' := k_X12_ends) dX12_jumpsBack_27 w10_147 i_X12_ends (lk_69 hP) ⟨Nat.le_of_ble_eq_true rfl, Nat.le_of_ble_eq_true rfl⟩ rfl (Nat.le_of_ble_eq_true rfl) (Nat.le_of_ble_eq_true rfl) (Nat.le_of_ble_eq_true rfl) (cy1) ?_
        have hPy1 := cy1.1.1
        cases h
        exact Y_vret (pc := 30) rfl dX12_jumpsBack_30 hPy1 ⟨rfl, rfl⟩
theorem v_X12_jumpsBack {x1 : Int32} {M z} (hP : Lay M) (h : d_X12_jumpsBack x1 M = some z) : CC Lay k_X12_jumpsBack [.ref 69, .int x1] M z.2 (Qv (none) z.2) xF :=
  CC.ofVV (by decide) rfl (Nat.le_of_ble_eq_true rfl) (b_X12_jumpsBack hP h)
set_option maxRecDepth 20000 in
theorem b_X12_leavesBy {x1 : Int32} {M z} (hP : Lay M) (h : d_X12_leavesBy x1 M = some z) : VV Lay k_X12_leavesBy 0 [(0, .ref 69), (1, .int x1)] [] M z.2 (Qv (none) z.2) xF := by
  unfold d_X12_leavesBy at h
  refine Y_aload_n (pc := 0) (j := 0) dX12_leavesBy_0 rfl rfl ?_
  refine Z_getr (pc := 1) dX12_leavesBy_1 w8_106 (lk_69 hP) fr_12_40 (lr_69_40 hP) ?_
  refine Y_iload_n (pc := 4) (j := 1) dX12_leavesBy_4 rfl rfl ?_
  refine Y_dup2 (pc := 5) dX12_leavesBy_5 rfl rfl ?_
  obtain ⟨hb1, h⟩ := okE h
  refine Y_iald (pc := 6) dX12_leavesBy_6 (lk_101 hP) (ln_101 hP) hb1 ?_
  refine Y_iconst (pc := 7) (v := (1 : Int32)) dX12_leavesBy_7 rfl ?_
  refine Y_iadd (pc := 8) dX12_leavesBy_8 ?_
  obtain ⟨hb2, h⟩ := okE h
  refine Y_iast (pc := 9) dX12_leavesBy_9 (lk_101 hP) (ln_101 hP) hb2 ?_
  obtain ⟨M1, eM1, h⟩ := bndE h
  refine VV.mem eM1 ?_
  have hP1 := hP.wI eM1
  refine Y_aload_n (pc := 10) (j := 0) dX12_leavesBy_10 rfl rfl ?_
  refine Z_getr (pc := 11) dX12_leavesBy_11 w8_109 (lk_69 hP1) fr_12_43 (lr_69_43 hP1) ?_
  refine Y_iload_n (pc := 14) (j := 1) dX12_leavesBy_14 rfl rfl ?_
  obtain ⟨hb3, h⟩ := okE h
  refine Y_iald (pc := 15) dX12_leavesBy_15 (lk_104 hP1) (ln_104 hP1) hb3 ?_
  obtain ⟨b1, eb1, h⟩ := bndE h
  refine VV.topI eb1 ?_
  refine Y_istore_n (pc := 16) (lv1 := [(2, .int b1), (0, .ref 69), (1, .int x1)]) dX12_leavesBy_16 rfl (by decide) rfl ?_
  refine Y_iload_n (pc := 17) (j := 0) dX12_leavesBy_17 rfl rfl ?_
  refine Y_iconst (pc := 18) (v := (-1 : Int32)) dX12_leavesBy_18 rfl ?_
  refine Y_icmp_eq (pc := 19) (tgt := 43) dX12_leavesBy_19 (by decide) (fun hc1 => ?_) (fun hc1 => ?_)
  · replace h := ifT hc1 h
    refine Y_aload_n (pc := 43) (j := 1) dX12_leavesBy_43 rfl rfl ?_
    refine Z_getr (pc := 44) dX12_leavesBy_44 w8_97 (lk_69 hP1) fr_12_31 (lr_69_31 hP1) ?_
    refine Y_aload_n (pc := 47) (j := 1) dX12_leavesBy_47 rfl rfl ?_
    refine Z_geti (pc := 48) dX12_leavesBy_48 w8_134 (lk_69 hP1) fi_12_68 ?_
    obtain ⟨hb4, h⟩ := okE h
    refine Y_iald (pc := 51) dX12_leavesBy_51 (lk_93 hP1) (ln_93 hP1) hb4 ?_
    obtain ⟨b2, eb2, h⟩ := bndE h
    refine VV.topI eb2 ?_
    refine Y_istore_n (pc := 52) (lv1 := [(3, .int b2), (2, .int b1), (0, .ref 69), (1, .int x1)]) dX12_leavesBy_52 rfl (by decide) rfl ?_
    refine Y_aload_n (pc := 53) (j := 2) dX12_leavesBy_53 rfl rfl ?_
    refine Y_iconst (pc := 54) (v := (-1 : Int32)) dX12_leavesBy_54 rfl ?_
    refine Z_puti (pc := 55) dX12_leavesBy_55 w8_134 (lk_69 hP1) fi_12_68 (Or.inl rfl) rfl ?_
    obtain ⟨M2, eM2, h⟩ := bndE h
    refine VV.mem eM2 ?_
    have hP2 := hP1.wI eM2
    refine Y_aload_n (pc := 58) (j := 2) dX12_leavesBy_58 rfl rfl ?_
    refine Z_getr (pc := 59) dX12_leavesBy_59 w8_107 (lk_69 hP2) fr_12_41 (lr_69_41 hP2) ?_
    refine Y_iload_n (pc := 62) (j := 3) dX12_leavesBy_62 rfl rfl ?_
    refine Y_dup2 (pc := 63) dX12_leavesBy_63 rfl rfl ?_
    obtain ⟨hb5, h⟩ := okE h
    refine Y_iald (pc := 64) dX12_leavesBy_64 (lk_102 hP2) (ln_102 hP2) hb5 ?_
    refine Y_iconst (pc := 65) (v := (1 : Int32)) dX12_leavesBy_65 rfl ?_
    refine Y_iadd (pc := 66) dX12_leavesBy_66 ?_
    obtain ⟨hb6, h⟩ := okE h
    refine Y_iast (pc := 67) dX12_leavesBy_67 (lk_102 hP2) (ln_102 hP2) hb6 ?_
    obtain ⟨M3, eM3, h⟩ := bndE h
    refine VV.mem eM3 ?_
    have hP3 := hP2.wI eM3
    refine Y_aload_n (pc := 68) (j := 2) dX12_leavesBy_68 rfl rfl ?_
    refine Z_getr (pc := 69) dX12_leavesBy_69 w8_107 (lk_69 hP3) fr_12_41 (lr_69_41 hP3) ?_
    refine Y_iload_n (pc := 72) (j := 3) dX12_leavesBy_72 rfl rfl ?_
    obtain ⟨hb7, h⟩ := okE h
    refine Y_iald (pc := 73) dX12_leavesBy_73 (lk_102 hP3) (ln_102 hP3) hb7 ?_
    refine Y_aload_n (pc := 74) (j := 2) dX12_leavesBy_74 rfl rfl ?_
    refine Z_geti (pc := 75) dX12_leavesBy_75 w8_90 (lk_69 hP3) fi_12_24 ?_
    refine Y_icmp_lt (pc := 78) (tgt := 107) dX12_leavesBy_78 (by decide) (fun hc2 => ?_) (fun hc2 => ?_)
    · replace h := ifT hc2 h
      cases h
      exact Y_vret (pc := 107) rfl dX12_leavesBy_107 hP3 ⟨rfl, rfl⟩
    · replace h := ifF hc2 h
      refine Y_aload_n (pc := 81) (j := 2) dX12_leavesBy_81 rfl rfl ?_
      refine Z_getr (pc := 82) dX12_leavesBy_82 w8_108 (lk_69 hP3) fr_12_42 (lr_69_42 hP3) ?_
      refine Y_iload_n (pc := 85) (j := 3) dX12_leavesBy_85 rfl rfl ?_
      obtain ⟨hb8, h⟩ := okE h
      refine Y_iald (pc := 86) dX12_leavesBy_86 (lk_103 hP3) (ln_103 hP3) hb8 ?_
      refine Y_iconst (pc := 87) (v := (2 : Int32)) dX12_leavesBy_87 rfl ?_
      refine Y_icmp_ge (pc := 88) (tgt := 107) dX12_leavesBy_88 (by decide) (fun hc3 => ?_) (fun hc3 => ?_)
      · replace h := ifT hc3 h
        cases h
        exact Y_vret (pc := 107) rfl dX12_leavesBy_107 hP3 ⟨rfl, rfl⟩
      · replace h := ifF hc3 h
        refine Y_aload_n (pc := 91) (j := 2) dX12_leavesBy_91 rfl rfl ?_
        refine Y_iload_n (pc := 92) (j := 0) dX12_leavesBy_92 rfl rfl ?_
        refine Y_iload_n (pc := 93) (j := 3) dX12_leavesBy_93 rfl rfl ?_
        refine Y_aload_n (pc := 94) (j := 2) dX12_leavesBy_94 rfl rfl ?_
        refine Z_getr (pc := 95) dX12_leavesBy_95 w8_98 (lk_69 hP3) fr_12_32 (lr_69_32 hP3) ?_
        refine Y_iload_n (pc := 98) (j := 0) dX12_leavesBy_98 rfl rfl ?_
        obtain ⟨hb9, h⟩ := okE h
        refine Y_iald (pc := 99) dX12_leavesBy_99 (lk_94 hP3) (ln_94 hP3) hb9 ?_
        refine Y_aload_n (pc := 100) (j := 2) dX12_leavesBy_100 rfl rfl ?_
        refine Z_geti (pc := 101) dX12_leavesBy_101 w8_136 (lk_69 hP3) fi_12_70 ?_
        obtain ⟨y1, qy1, h⟩ := bindE h
        have cy1 := v_X12_records hP3 qy1
        refine C_V4o (pc := 104) (k' := k_X12_records) dX12_leavesBy_104 w10_31 i_X12_records (lk_69 hP3) ⟨Nat.le_of_ble_eq_true rfl, Nat.le_of_ble_eq_true rfl⟩ rfl (Nat.le_of_ble_eq_true rfl) (Nat.le_of_ble_eq_true rfl) (Nat.le_of_ble_eq_true rfl) (cy1) ?_
        have hPy1 := cy1.1.1
        cases h
        exact Y_vret (pc := 107) rfl dX12_leavesBy_107 hPy1 ⟨rfl, rfl⟩
  · replace h := ifF hc1 h
    refine Y_aload_n (pc := 22) (j := 1) dX12_leavesBy_22 rfl rfl ?_
    refine Y_iload_n (pc := 23) (j := 0) dX12_leavesBy_23 rfl rfl ?_
    refine Z_puti (pc := 24) dX12_leavesBy_24 w8_134 (lk_69 hP1) fi_12_68 (Or.inl rfl) rfl ?_
    obtain ⟨M4, eM4, h⟩ := bndE h
    refine VV.mem eM4 ?_
    have hP4 := hP1.wI eM4
    refine Y_aload_n (pc := 27) (j := 1) dX12_leavesBy_27 rfl rfl ?_
    refine Y_iconst (pc := 28) (v := (0 : Int32)) dX12_leavesBy_28 rfl ?_
    refine Z_puti (pc := 29) dX12_leavesBy_29 w8_135 (lk_69 hP4) fi_12_69 (Or.inl rfl) rfl ?_
    obtain ⟨M5, eM5, h⟩ := bndE h
    refine VV.mem eM5 ?_
    have hP5 := hP4.wI eM5
    refine Y_aload_n (pc := 32) (j := 1) dX12_leavesBy_32 rfl rfl ?_
    refine Z_getr (pc := 33) dX12_leavesBy_33 w8_99 (lk_69 hP5) fr_12_33 (lr_69_33 hP5) ?_
    refine Y_iload_n (pc := 36) (j := 0) dX12_leavesBy_36 rfl rfl ?_
    refine Y_dup2 (pc := 37) dX12_leavesBy_37 rfl rfl ?_
    obtain ⟨hb10, h⟩ := okE h
    refine Y_iald (pc := 38) dX12_leavesBy_38 (lk_95 hP5) (ln_95 hP5) hb10 ?_
    refine Y_iconst (pc := 39) (v := (1 : Int32)) dX12_leavesBy_39 rfl ?_
    refine Y_iadd (pc := 40) dX12_leavesBy_40 ?_
    obtain ⟨hb11, h⟩ := okE h
    refine Y_iast (pc := 41) dX12_leavesBy_41 (lk_95 hP5) (ln_95 hP5) hb11 ?_
    obtain ⟨M6, eM6, h⟩ := bndE h
    refine VV.mem eM6 ?_
    have hP6 := hP5.wI eM6
    cases h
    exact Y_vret (pc := 42) rfl dX12_leavesBy_42 hP6 ⟨rfl, rfl⟩
theorem v_X12_leavesBy {x1 : Int32} {M z} (hP : Lay M) (h : d_X12_leavesBy x1 M = some z) : CC Lay k_X12_leavesBy [.ref 69, .int x1] M z.2 (Qv (none) z.2) xF :=
  CC.ofVV (by decide) rfl (Nat.le_of_ble_eq_true rfl) (b_X12_leavesBy hP h)
theorem b_X12_inTrace_65 {k15 : (Int32) → Mem → Option (Unit × Mem)} {x1 : Int32} {M z} (hk15 : ∀ (a : (Int32)) (M : Mem) (z : Unit × Mem), Lay M → k15 a M = some z → VV Lay k_X12_inTrace 15 [(0, .ref 69), (1, .int a)] [] M z.2 (Qv (none) z.2) xF) (hP : Lay M) (h : d_X12_inTrace_65 k15 x1 M = some z) : VV Lay k_X12_inTrace 65 [(0, .ref 69), (1, .int x1)] [] M z.2 (Qv (none) z.2) xF := by
  unfold d_X12_inTrace_65 at h
  obtain ⟨b1, eb1, h⟩ := bndE h
  refine Y_iinc (pc := 65) (j := 1) (v := b1) (lv1 := [(1, .int b1), (0, .ref 69)]) dX12_inTrace_65 rfl eb1.symm (by decide) rfl ?_
  refine Y_goto (pc := 68) (tgt := 15) dX12_inTrace_68 (by decide) ?_
  refine VV.sub [1, 0] rfl ?_
  exact hk15 _ _ _ hP h
theorem b_X12_run_119 {k82 : (Int32) → Mem → Option (Int32 × Mem)} {x2 : Int32} {x3 : Int32} {s1 : Int32} {s2 : Int32} {M z} (hk82 : ∀ (a : (Int32)) (M : Mem) (z : Int32 × Mem), Lay M → k82 a M = some z → VV Lay k_X12_run 82 [(0, .ref 69), (2, .int x2), (3, .int a)] [] M z.2 (Qv (some (.int z.1)) z.2) xF) (hP : Lay M) (h : d_X12_run_119 k82 x2 x3 s1 s2 M = some z) : VV Lay k_X12_run 119 [(0, .ref 69), (2, .int x2), (3, .int x3)] [.int s2, .int s1, .ref 106] M z.2 (Qv (some (.int z.1)) z.2) xF := by
  unfold d_X12_run_119 at h
  obtain ⟨hb1, h⟩ := okE h
  refine Y_iast (pc := 119) dX12_run_119 (lk_106 hP) (ln_106 hP) hb1 ?_
  obtain ⟨M1, eM1, h⟩ := bndE h
  refine VV.mem eM1 ?_
  have hP1 := hP.wI eM1
  refine Y_aload_n (pc := 120) (j := 0) dX12_run_120 rfl rfl ?_
  refine Z_getr (pc := 121) dX12_run_121 w8_112 (lk_69 hP1) fr_12_46 (lr_69_46 hP1) ?_
  refine Y_iload_n (pc := 124) (j := 2) dX12_run_124 rfl rfl ?_
  refine Y_dconst0 (pc := 125) dX12_run_125 ?_
  obtain ⟨hb2, h⟩ := okE h
  refine Y_dast (pc := 126) dX12_run_126 (lk_107 hP1) (ln_107 hP1) hb2 ?_
  obtain ⟨M2, eM2, h⟩ := bndE h
  refine VV.mem eM2 ?_
  have hP2 := hP1.wD eM2
  obtain ⟨b1, eb1, h⟩ := bndE h
  refine Y_iinc (pc := 127) (j := 2) (v := b1) (lv1 := [(3, .int b1), (0, .ref 69), (2, .int x2)]) dX12_run_127 rfl eb1.symm (by decide) rfl ?_
  refine Y_goto (pc := 130) (tgt := 82) dX12_run_130 (by decide) ?_
  refine VV.sub [1, 2, 0] rfl ?_
  exact hk82 _ _ _ hP2 h
theorem b_X12_run_104 {k82 : (Int32) → Mem → Option (Int32 × Mem)} {x2 : Int32} {x3 : Int32} {s1 : Int32} {s2 : Int32} {M z} (hk82 : ∀ (a : (Int32)) (M : Mem) (z : Int32 × Mem), Lay M → k82 a M = some z → VV Lay k_X12_run 82 [(0, .ref 69), (2, .int x2), (3, .int a)] [] M z.2 (Qv (some (.int z.1)) z.2) xF) (hP : Lay M) (h : d_X12_run_104 k82 x2 x3 s1 s2 M = some z) : VV Lay k_X12_run 104 [(0, .ref 69), (2, .int x2), (3, .int x3)] [.int s2, .int s1, .ref 105] M z.2 (Qv (some (.int z.1)) z.2) xF := by
  unfold d_X12_run_104 at h
  obtain ⟨hb1, h⟩ := okE h
  obtain ⟨hb2, h⟩ := okE h
  refine Y_cast (pc := 104) dX12_run_104 (lk_105 hP) (ln_105 hP) hb1 (nar_ch hb2) ?_
  obtain ⟨M1, eM1, h⟩ := bndE h
  refine VV.mem eM1 ?_
  have hP1 := hP.wI eM1
  refine Y_aload_n (pc := 105) (j := 0) dX12_run_105 rfl rfl ?_
  refine Z_getr (pc := 106) dX12_run_106 w8_111 (lk_69 hP1) fr_12_45 (lr_69_45 hP1) ?_
  refine Y_iload_n (pc := 109) (j := 2) dX12_run_109 rfl rfl ?_
  refine Y_iload_n (pc := 110) (j := 2) dX12_run_110 rfl rfl ?_
  refine Y_if_ne (pc := 111) (tgt := 118) dX12_run_111 (by decide) (fun hc1 => ?_) (fun hc1 => ?_)
  · replace h := ifF hc1 h
    refine Y_iconst (pc := 118) (v := (0 : Int32)) dX12_run_118 rfl ?_
    refine VV.sub [0, 1, 2] rfl ?_
    exact b_X12_run_119 hk82 hP1 h
  · replace h := ifT hc1 h
    refine Y_iload_n (pc := 114) (j := 1) dX12_run_114 rfl rfl ?_
    refine Y_goto (pc := 115) (tgt := 119) dX12_run_115 (by decide) ?_
    refine VV.sub [0, 1, 2] rfl ?_
    exact b_X12_run_119 hk82 hP1 h
theorem b_X12_run0 {x1 : Int32} {x2 : Int32} {M z} (hP : Lay M) (hz : ∀ y, d_X12_isFunction x1 (sI M 69 0 (0 : Int32)) = some y → y.1 = 0) (h : d_X12_run x1 x2 M = some z) : VV Lay k_X12_run 0 [(0, .ref 69), (1, .int x1), (2, .int x2)] [] M z.2 (Qv (some (.int z.1)) z.2) xF := by
  unfold d_X12_run at h
  refine Y_aload_n (pc := 0) (j := 0) dX12_run_0 rfl rfl ?_
  refine Y_iconst (pc := 1) (v := (0 : Int32)) dX12_run_1 rfl ?_
  refine Z_puti (pc := 2) dX12_run_2 w8_66 (lk_69 hP) fi_12_0 (Or.inl rfl) rfl ?_
  obtain ⟨M1, eM1, h⟩ := bndE h
  refine VV.mem eM1 ?_
  have hP1 := hP.wI eM1
  refine Y_aload_n (pc := 5) (j := 0) dX12_run_5 rfl rfl ?_
  refine Y_iload_n (pc := 6) (j := 1) dX12_run_6 rfl rfl ?_
  obtain ⟨y1, qy1, h⟩ := bindE h
  have cy1 := v_X12_isFunction hP1 qy1
  refine C_V1r (pc := 7) (k' := k_X12_isFunction) dX12_run_7 w9_121 i_X12_isFunction (lk_69 hP1) ⟨Nat.le_of_ble_eq_true rfl, Nat.le_of_ble_eq_true rfl⟩ rfl (Nat.le_of_ble_eq_true rfl) (Nat.le_of_ble_eq_true rfl) (Nat.le_of_ble_eq_true rfl) (cy1) ?_
  have hPy1 := cy1.1.1
  refine Y_if_ne (pc := 10) (tgt := 19) dX12_run_10 (by decide) (fun hc1 => ?_) (fun hc1 => ?_)
  · exact absurd (hz y1 (by rw [← eM1]; exact qy1)) hc1
  · replace h := ifT hc1 h
    refine Y_aload_n (pc := 13) (j := 0) dX12_run_13 rfl rfl ?_
    refine Y_iconst (pc := 14) (v := (1 : Int32)) dX12_run_14 rfl ?_
    obtain ⟨y3, qy3, h⟩ := bindE h
    have cy3 := v_X12_fails hPy1 qy3
    refine C_V1r (pc := 15) (k' := k_X12_fails) dX12_run_15 w9_113 i_X12_fails (lk_69 hPy1) ⟨Nat.le_of_ble_eq_true rfl, Nat.le_of_ble_eq_true rfl⟩ rfl (Nat.le_of_ble_eq_true rfl) (Nat.le_of_ble_eq_true rfl) (Nat.le_of_ble_eq_true rfl) (cy3) ?_
    have hPy3 := cy3.1.1
    cases h
    exact Y_iret (pc := 18) rfl rfl dX12_run_18 hPy3 ⟨rfl, rfl⟩
theorem v_X12_run0 {x1 : Int32} {x2 : Int32} {M z} (hP : Lay M) (hz : ∀ y, d_X12_isFunction x1 (sI M 69 0 (0 : Int32)) = some y → y.1 = 0) (h : d_X12_run x1 x2 M = some z) : CC Lay k_X12_run [.ref 69, .int x1, .int x2] M z.2 (Qv (some (.int z.1)) z.2) xF :=
  CC.ofVV (by decide) rfl (Nat.le_of_ble_eq_true rfl) (b_X12_run0 hP hz h)
theorem b_X12_outcome {M z} (hP : Lay M) (h : d_X12_outcome M = some z) : VV Lay k_X12_outcome 0 [(0, .ref 69)] [] M z.2 (Qv (some (.int z.1)) z.2) xF := by
  unfold d_X12_outcome at h
  refine Y_aload_n (pc := 0) (j := 0) dX12_outcome_0 rfl rfl ?_
  refine Y_iconst (pc := 1) (v := (0 : Int32)) dX12_outcome_1 rfl ?_
  refine Z_puti (pc := 2) dX12_outcome_2 w8_66 (lk_69 hP) fi_12_0 (Or.inl rfl) rfl ?_
  obtain ⟨M1, eM1, h⟩ := bndE h
  refine VV.mem eM1 ?_
  have hP1 := hP.wI eM1
  refine Y_aload_n (pc := 5) (j := 0) dX12_outcome_5 rfl rfl ?_
  refine Z_geti (pc := 6) dX12_outcome_6 w8_128 (lk_69 hP1) fi_12_62 ?_
  obtain ⟨hb1, h⟩ := okE h
  cases h
  exact Y_iret (pc := 9) rfl (nar_ch hb1) dX12_outcome_9 hP1 ⟨rfl, rfl⟩
theorem v_X12_outcome {M z} (hP : Lay M) (h : d_X12_outcome M = some z) : CC Lay k_X12_outcome [.ref 69] M z.2 (Qv (some (.int z.1)) z.2) xF :=
  CC.ofVV (by decide) rfl (Nat.le_of_ble_eq_true rfl) (b_X12_outcome hP h)
theorem b_X12_resultKind_15 {s1 : Int32} {M z} (hP : Lay M) (h : d_X12_resultKind_15 s1 M = some z) : VV Lay k_X12_resultKind 15 [(0, .ref 69)] [.int s1, .ref 69] M z.2 (Qv (some (.int z.1)) z.2) xF := by
  unfold d_X12_resultKind_15 at h
  refine Z_puti (pc := 15) dX12_resultKind_15 w8_66 (lk_69 hP) fi_12_0 (Or.inl rfl) rfl ?_
  obtain ⟨M1, eM1, h⟩ := bndE h
  refine VV.mem eM1 ?_
  have hP1 := hP.wI eM1
  refine Y_aload_n (pc := 18) (j := 0) dX12_resultKind_18 rfl rfl ?_
  refine Z_geti (pc := 19) dX12_resultKind_19 w8_66 (lk_69 hP1) fi_12_0 ?_
  refine Y_if_le (pc := 22) (tgt := 29) dX12_resultKind_22 (by decide) (fun hc1 => ?_) (fun hc1 => ?_)
  · replace h := ifT hc1 h
    refine Y_aload_n (pc := 29) (j := 0) dX12_resultKind_29 rfl rfl ?_
    refine Z_geti (pc := 30) dX12_resultKind_30 w8_129 (lk_69 hP1) fi_12_63 ?_
    obtain ⟨hb1, h⟩ := okE h
    cases h
    exact Y_iret (pc := 33) rfl (nar_ch hb1) dX12_resultKind_33 hP1 ⟨rfl, rfl⟩
  · replace h := ifF hc1 h
    refine Y_iconst (pc := 25) (v := (0 : Int32)) dX12_resultKind_25 rfl ?_
    refine Y_goto (pc := 26) (tgt := 33) dX12_resultKind_26 (by decide) ?_
    cases h
    exact Y_iret (pc := 33) rfl (nar_ch (by decide)) dX12_resultKind_33 hP1 ⟨rfl, rfl⟩
theorem b_X12_resultKind {M z} (hP : Lay M) (h : d_X12_resultKind M = some z) : VV Lay k_X12_resultKind 0 [(0, .ref 69)] [] M z.2 (Qv (some (.int z.1)) z.2) xF := by
  unfold d_X12_resultKind at h
  refine Y_aload_n (pc := 0) (j := 0) dX12_resultKind_0 rfl rfl ?_
  refine Y_aload_n (pc := 1) (j := 0) dX12_resultKind_1 rfl rfl ?_
  refine Z_geti (pc := 2) dX12_resultKind_2 w8_128 (lk_69 hP) fi_12_62 ?_
  refine Y_bipush (pc := 5) (v := (118 : Int32)) dX12_resultKind_5 rfl ?_
  refine Y_icmp_ne (pc := 7) (tgt := 14) dX12_resultKind_7 (by decide) (fun hc1 => ?_) (fun hc1 => ?_)
  · replace h := ifF hc1 h
    refine Y_iconst (pc := 14) (v := (1 : Int32)) dX12_resultKind_14 rfl ?_
    refine VV.sub [0] rfl ?_
    exact b_X12_resultKind_15  hP h
  · replace h := ifT hc1 h
    refine Y_iconst (pc := 10) (v := (0 : Int32)) dX12_resultKind_10 rfl ?_
    refine Y_goto (pc := 11) (tgt := 15) dX12_resultKind_11 (by decide) ?_
    refine VV.sub [0] rfl ?_
    exact b_X12_resultKind_15  hP h
theorem v_X12_resultKind {M z} (hP : Lay M) (h : d_X12_resultKind M = some z) : CC Lay k_X12_resultKind [.ref 69] M z.2 (Qv (some (.int z.1)) z.2) xF :=
  CC.ofVV (by decide) rfl (Nat.le_of_ble_eq_true rfl) (b_X12_resultKind hP h)
theorem b_X12_result_15 {s1 : Int32} {M z} (hP : Lay M) (h : d_X12_result_15 s1 M = some z) : VV Lay k_X12_result 15 [(0, .ref 69)] [.int s1, .ref 69] M z.2 (Qv (some (.long z.1)) z.2) xF := by
  unfold d_X12_result_15 at h
  refine Z_puti (pc := 15) dX12_result_15 w8_66 (lk_69 hP) fi_12_0 (Or.inl rfl) rfl ?_
  obtain ⟨M1, eM1, h⟩ := bndE h
  refine VV.mem eM1 ?_
  have hP1 := hP.wI eM1
  refine Y_aload_n (pc := 18) (j := 0) dX12_result_18 rfl rfl ?_
  refine Z_geti (pc := 19) dX12_result_19 w8_66 (lk_69 hP1) fi_12_0 ?_
  refine Y_if_le (pc := 22) (tgt := 29) dX12_result_22 (by decide) (fun hc1 => ?_) (fun hc1 => ?_)
  · replace h := ifT hc1 h
    refine Y_aload_n (pc := 29) (j := 0) dX12_result_29 rfl rfl ?_
    refine Z_getl (pc := 30) dX12_result_30 w8_130 (lk_69 hP1) fl_12_64 ?_
    cases h
    exact Y_lret (pc := 33) rfl dX12_result_33 hP1 ⟨rfl, rfl⟩
  · replace h := ifF hc1 h
    refine Y_lconst (pc := 25) (v := (0 : Int64)) dX12_result_25 rfl ?_
    refine Y_goto (pc := 26) (tgt := 33) dX12_result_26 (by decide) ?_
    cases h
    exact Y_lret (pc := 33) rfl dX12_result_33 hP1 ⟨rfl, rfl⟩
theorem b_X12_result {M z} (hP : Lay M) (h : d_X12_result M = some z) : VV Lay k_X12_result 0 [(0, .ref 69)] [] M z.2 (Qv (some (.long z.1)) z.2) xF := by
  unfold d_X12_result at h
  refine Y_aload_n (pc := 0) (j := 0) dX12_result_0 rfl rfl ?_
  refine Y_aload_n (pc := 1) (j := 0) dX12_result_1 rfl rfl ?_
  refine Z_geti (pc := 2) dX12_result_2 w8_128 (lk_69 hP) fi_12_62 ?_
  refine Y_bipush (pc := 5) (v := (118 : Int32)) dX12_result_5 rfl ?_
  refine Y_icmp_ne (pc := 7) (tgt := 14) dX12_result_7 (by decide) (fun hc1 => ?_) (fun hc1 => ?_)
  · replace h := ifF hc1 h
    refine Y_iconst (pc := 14) (v := (1 : Int32)) dX12_result_14 rfl ?_
    refine VV.sub [0] rfl ?_
    exact b_X12_result_15  hP h
  · replace h := ifT hc1 h
    refine Y_iconst (pc := 10) (v := (0 : Int32)) dX12_result_10 rfl ?_
    refine Y_goto (pc := 11) (tgt := 15) dX12_result_11 (by decide) ?_
    refine VV.sub [0] rfl ?_
    exact b_X12_result_15  hP h
theorem v_X12_result {M z} (hP : Lay M) (h : d_X12_result M = some z) : CC Lay k_X12_result [.ref 69] M z.2 (Qv (some (.long z.1)) z.2) xF :=
  CC.ofVV (by decide) rfl (Nat.le_of_ble_eq_true rfl) (b_X12_result hP h)
theorem b_X12_failure_15 {s1 : Int32} {M z} (hP : Lay M) (h : d_X12_failure_15 s1 M = some z) : VV Lay k_X12_failure 15 [(0, .ref 69)] [.int s1, .ref 69] M z.2 (Qv (some (.int z.1)) z.2) xF := by
  unfold d_X12_failure_15 at h
  refine Z_puti (pc := 15) dX12_failure_15 w8_66 (lk_69 hP) fi_12_0 (Or.inl rfl) rfl ?_
  obtain ⟨M1, eM1, h⟩ := bndE h
  refine VV.mem eM1 ?_
  have hP1 := hP.wI eM1
  refine Y_aload_n (pc := 18) (j := 0) dX12_failure_18 rfl rfl ?_
  refine Z_geti (pc := 19) dX12_failure_19 w8_66 (lk_69 hP1) fi_12_0 ?_
  refine Y_if_le (pc := 22) (tgt := 29) dX12_failure_22 (by decide) (fun hc1 => ?_) (fun hc1 => ?_)
  · replace h := ifT hc1 h
    refine Y_aload_n (pc := 29) (j := 0) dX12_failure_29 rfl rfl ?_
    refine Z_geti (pc := 30) dX12_failure_30 w8_131 (lk_69 hP1) fi_12_65 ?_
    obtain ⟨hb1, h⟩ := okE h
    cases h
    exact Y_iret (pc := 33) rfl (nar_ch hb1) dX12_failure_33 hP1 ⟨rfl, rfl⟩
  · replace h := ifF hc1 h
    refine Y_iconst (pc := 25) (v := (0 : Int32)) dX12_failure_25 rfl ?_
    refine Y_goto (pc := 26) (tgt := 33) dX12_failure_26 (by decide) ?_
    cases h
    exact Y_iret (pc := 33) rfl (nar_ch (by decide)) dX12_failure_33 hP1 ⟨rfl, rfl⟩
theorem b_X12_failure {M z} (hP : Lay M) (h : d_X12_failure M = some z) : VV Lay k_X12_failure 0 [(0, .ref 69)] [] M z.2 (Qv (some (.int z.1)) z.2) xF := by
  unfold d_X12_failure at h
  refine Y_aload_n (pc := 0) (j := 0) dX12_failure_0 rfl rfl ?_
  refine Y_aload_n (pc := 1) (j := 0) dX12_failure_1 rfl rfl ?_
  refine Z_geti (pc := 2) dX12_failure_2 w8_128 (lk_69 hP) fi_12_62 ?_
  refine Y_bipush (pc := 5) (v := (120 : Int32)) dX12_failure_5 rfl ?_
  refine Y_icmp_ne (pc := 7) (tgt := 14) dX12_failure_7 (by decide) (fun hc1 => ?_) (fun hc1 => ?_)
  · replace h := ifF hc1 h
    refine Y_iconst (pc := 14) (v := (1 : Int32)) dX12_failure_14 rfl ?_
    refine VV.sub [0] rfl ?_
    exact b_X12_failure_15  hP h
  · replace h := ifT hc1 h
    refine Y_iconst (pc := 10) (v := (0 : Int32)) dX12_failure_10 rfl ?_
    refine Y_goto (pc := 11) (tgt := 15) dX12_failure_11 (by decide) ?_
    refine VV.sub [0] rfl ?_
    exact b_X12_failure_15  hP h
theorem v_X12_failure {M z} (hP : Lay M) (h : d_X12_failure M = some z) : CC Lay k_X12_failure [.ref 69] M z.2 (Qv (some (.int z.1)) z.2) xF :=
  CC.ofVV (by decide) rfl (Nat.le_of_ble_eq_true rfl) (b_X12_failure hP h)
theorem b_X12_line {M z} (hP : Lay M) (h : d_X12_line M = some z) : VV Lay k_X12_line 0 [(0, .ref 69)] [] M z.2 (Qv (some (.int z.1)) z.2) xF := by
  unfold d_X12_line at h
  refine Y_aload_n (pc := 0) (j := 0) dX12_line_0 rfl rfl ?_
  refine Y_iconst (pc := 1) (v := (0 : Int32)) dX12_line_1 rfl ?_
  refine Z_puti (pc := 2) dX12_line_2 w8_66 (lk_69 hP) fi_12_0 (Or.inl rfl) rfl ?_
  obtain ⟨M1, eM1, h⟩ := bndE h
  refine VV.mem eM1 ?_
  have hP1 := hP.wI eM1
  refine Y_aload_n (pc := 5) (j := 0) dX12_line_5 rfl rfl ?_
  refine Z_geti (pc := 6) dX12_line_6 w8_128 (lk_69 hP1) fi_12_62 ?_
  refine Y_bipush (pc := 9) (v := (120 : Int32)) dX12_line_9 rfl ?_
  refine Y_icmp_ne (pc := 11) (tgt := 21) dX12_line_11 (by decide) (fun hc1 => ?_) (fun hc1 => ?_)
  · replace h := ifF hc1 h
    refine Y_aload_n (pc := 21) (j := 0) dX12_line_21 rfl rfl ?_
    refine Y_iconst (pc := 22) (v := (1 : Int32)) dX12_line_22 rfl ?_
    obtain ⟨y1, qy1, h⟩ := bindE h
    have cy1 := v_X12_fails hP1 qy1
    refine C_V1r (pc := 23) (k' := k_X12_fails) dX12_line_23 w9_113 i_X12_fails (lk_69 hP1) ⟨Nat.le_of_ble_eq_true rfl, Nat.le_of_ble_eq_true rfl⟩ rfl (Nat.le_of_ble_eq_true rfl) (Nat.le_of_ble_eq_true rfl) (Nat.le_of_ble_eq_true rfl) (cy1) ?_
    have hPy1 := cy1.1.1
    cases h
    exact Y_iret (pc := 26) rfl rfl dX12_line_26 hPy1 ⟨rfl, rfl⟩
  · replace h := ifT hc1 h
    refine Y_aload_n (pc := 14) (j := 0) dX12_line_14 rfl rfl ?_
    refine Z_geti (pc := 15) dX12_line_15 w8_132 (lk_69 hP1) fi_12_66 ?_
    refine Y_goto (pc := 18) (tgt := 26) dX12_line_18 (by decide) ?_
    cases h
    exact Y_iret (pc := 26) rfl rfl dX12_line_26 hP1 ⟨rfl, rfl⟩
theorem v_X12_line {M z} (hP : Lay M) (h : d_X12_line M = some z) : CC Lay k_X12_line [.ref 69] M z.2 (Qv (some (.int z.1)) z.2) xF :=
  CC.ofVV (by decide) rfl (Nat.le_of_ble_eq_true rfl) (b_X12_line hP h)
theorem b_X12_told_ {M z} (hP : Lay M) (h : d_X12_told_ M = some z) : VV Lay k_X12_told_ 0 [(0, .ref 69)] [] M z.2 (Qv (some (.int z.1)) z.2) xF := by
  unfold d_X12_told_ at h
  refine Y_aload_n (pc := 0) (j := 0) dX12_told__0 rfl rfl ?_
  refine Y_iconst (pc := 1) (v := (0 : Int32)) dX12_told__1 rfl ?_
  refine Z_puti (pc := 2) dX12_told__2 w8_66 (lk_69 hP) fi_12_0 (Or.inl rfl) rfl ?_
  obtain ⟨M1, eM1, h⟩ := bndE h
  refine VV.mem eM1 ?_
  have hP1 := hP.wI eM1
  refine Y_aload_n (pc := 5) (j := 0) dX12_told__5 rfl rfl ?_
  refine Z_geti (pc := 6) dX12_told__6 w8_125 (lk_69 hP1) fi_12_59 ?_
  cases h
  exact Y_iret (pc := 9) rfl rfl dX12_told__9 hP1 ⟨rfl, rfl⟩
theorem v_X12_told_ {M z} (hP : Lay M) (h : d_X12_told_ M = some z) : CC Lay k_X12_told_ [.ref 69] M z.2 (Qv (some (.int z.1)) z.2) xF :=
  CC.ofVV (by decide) rfl (Nat.le_of_ble_eq_true rfl) (b_X12_told_ hP h)
theorem b_X12_toldKind_20 {x1 : Int32} {s1 : Int32} {M z} (hP : Lay M) (h : d_X12_toldKind_20 x1 s1 M = some z) : VV Lay k_X12_toldKind 20 [(0, .ref 69), (1, .int x1)] [.int s1, .ref 69] M z.2 (Qv (some (.int z.1)) z.2) xF := by
  unfold d_X12_toldKind_20 at h
  refine Z_puti (pc := 20) dX12_toldKind_20 w8_66 (lk_69 hP) fi_12_0 (Or.inl rfl) rfl ?_
  obtain ⟨M1, eM1, h⟩ := bndE h
  refine VV.mem eM1 ?_
  have hP1 := hP.wI eM1
  refine Y_aload_n (pc := 23) (j := 0) dX12_toldKind_23 rfl rfl ?_
  refine Z_geti (pc := 24) dX12_toldKind_24 w8_66 (lk_69 hP1) fi_12_0 ?_
  refine Y_if_le (pc := 27) (tgt := 34) dX12_toldKind_27 (by decide) (fun hc1 => ?_) (fun hc1 => ?_)
  · replace h := ifT hc1 h
    refine Y_aload_n (pc := 34) (j := 0) dX12_toldKind_34 rfl rfl ?_
    refine Z_getr (pc := 35) dX12_toldKind_35 w8_126 (lk_69 hP1) fr_12_60 (lr_69_60 hP1) ?_
    refine Y_iload_n (pc := 38) (j := 1) dX12_toldKind_38 rfl rfl ?_
    obtain ⟨hb1, h⟩ := okE h
    refine Y_cald (pc := 39) dX12_toldKind_39 (lk_116 hP1) (ln_116 hP1) hb1 ?_
    obtain ⟨hb2, h⟩ := okE h
    cases h
    exact Y_iret (pc := 40) rfl (nar_ch hb2) dX12_toldKind_40 hP1 ⟨rfl, rfl⟩
  · replace h := ifF hc1 h
    refine Y_iconst (pc := 30) (v := (0 : Int32)) dX12_toldKind_30 rfl ?_
    refine Y_goto (pc := 31) (tgt := 40) dX12_toldKind_31 (by decide) ?_
    cases h
    exact Y_iret (pc := 40) rfl (nar_ch (by decide)) dX12_toldKind_40 hP1 ⟨rfl, rfl⟩
theorem b_X12_toldKind {x1 : Int32} {M z} (hP : Lay M) (h : d_X12_toldKind x1 M = some z) : VV Lay k_X12_toldKind 0 [(0, .ref 69), (1, .int x1)] [] M z.2 (Qv (some (.int z.1)) z.2) xF := by
  unfold d_X12_toldKind at h
  refine Y_aload_n (pc := 0) (j := 0) dX12_toldKind_0 rfl rfl ?_
  refine Y_iload_n (pc := 1) (j := 1) dX12_toldKind_1 rfl rfl ?_
  refine Y_iconst (pc := 2) (v := (0 : Int32)) dX12_toldKind_2 rfl ?_
  refine Y_aload_n (pc := 3) (j := 0) dX12_toldKind_3 rfl rfl ?_
  refine Z_geti (pc := 4) dX12_toldKind_4 w8_125 (lk_69 hP) fi_12_59 ?_
  refine Y_iconst (pc := 7) (v := (1 : Int32)) dX12_toldKind_7 rfl ?_
  refine Y_isub (pc := 8) dX12_toldKind_8 ?_
  obtain ⟨y1, qy1, h⟩ := bindE h
  have cy1 := v_X12_in hP qy1
  refine C_S3r (pc := 9) (k' := k_X12_in) dX12_toldKind_9 w9_110 i_X12_in (Nat.le_of_ble_eq_true rfl) (Nat.le_of_ble_eq_true rfl) (Nat.le_of_ble_eq_true rfl) (cy1) ?_
  have hPy1 := cy1.1.1
  refine Y_if_eq (pc := 12) (tgt := 19) dX12_toldKind_12 (by decide) (fun hc1 => ?_) (fun hc1 => ?_)
  · replace h := ifT hc1 h
    refine Y_iconst (pc := 19) (v := (1 : Int32)) dX12_toldKind_19 rfl ?_
    refine VV.sub [0, 1] rfl ?_
    exact b_X12_toldKind_20  hPy1 h
  · replace h := ifF hc1 h
    refine Y_iconst (pc := 15) (v := (0 : Int32)) dX12_toldKind_15 rfl ?_
    refine Y_goto (pc := 16) (tgt := 20) dX12_toldKind_16 (by decide) ?_
    refine VV.sub [0, 1] rfl ?_
    exact b_X12_toldKind_20  hPy1 h
theorem v_X12_toldKind {x1 : Int32} {M z} (hP : Lay M) (h : d_X12_toldKind x1 M = some z) : CC Lay k_X12_toldKind [.ref 69, .int x1] M z.2 (Qv (some (.int z.1)) z.2) xF :=
  CC.ofVV (by decide) rfl (Nat.le_of_ble_eq_true rfl) (b_X12_toldKind hP h)
end VCR

