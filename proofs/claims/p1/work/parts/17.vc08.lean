/-! ===== what the methods reckon (printed by a program) ===== -/
section VCR
theorem b_X8_round {o : Nat} {x1 : Int32} {M z} (ho : o = 18 ∨ o = 28) (hP : Lay M) (h : d_X8_round o x1 M = some z) : VV Lay k_X8_round 0 [(0, .ref (o + 1)), (1, .int x1)] [] M z.2 (Qv (none) z.2) xF := by
  unfold d_X8_round at h
  refine Y_aload_n (pc := 0) (j := 0) dX8_round_0 rfl rfl ?_
  refine Z_getr (pc := 1) dX8_round_1 w1_149 (lo_1 hP ho) fr_8_0 (lor_1_0 hP ho) ?_
  refine Y_iload_n (pc := 4) (j := 1) dX8_round_4 rfl rfl ?_
  obtain ⟨hb1, h⟩ := okE h
  refine Y_cald (pc := 5) dX8_round_5 (lo_2 hP ho) (lon_2 hP ho) hb1 ?_
  refine Y_bipush (pc := 6) (v := (102 : Int32)) dX8_round_6 rfl ?_
  refine Y_icmp_ne (pc := 8) (tgt := 27) dX8_round_8 (by decide) (fun hc1 => ?_) (fun hc1 => ?_)
  · replace h := ifF hc1 h
    cases h
    exact Y_vret (pc := 27) rfl dX8_round_27 hP ⟨rfl, rfl⟩
  · replace h := ifT hc1 h
    refine Y_aload_n (pc := 11) (j := 0) dX8_round_11 rfl rfl ?_
    refine Y_iload_n (pc := 12) (j := 1) dX8_round_12 rfl rfl ?_
    refine Y_bipush (pc := 13) (v := (105 : Int32)) dX8_round_13 rfl ?_
    refine Y_aload_n (pc := 15) (j := 0) dX8_round_15 rfl rfl ?_
    refine Z_getr (pc := 16) dX8_round_16 w1_154 (lo_1 hP ho) fr_8_2 (lor_1_2 hP ho) ?_
    refine Y_iload_n (pc := 19) (j := 1) dX8_round_19 rfl rfl ?_
    obtain ⟨hb2, h⟩ := okE h
    refine Y_dald (pc := 20) dX8_round_20 (lo_4 hP ho) (lon_4 hP ho) hb2 ?_
    obtain ⟨y1, qy1, h⟩ := bindE h
    have cy1 := v_X4_nearest hP qy1
    refine C_S1r (pc := 21) (k' := k_X4_nearest) dX8_round_21 w5_233 i_X4_nearest (Nat.le_of_ble_eq_true rfl) (Nat.le_of_ble_eq_true rfl) (Nat.le_of_ble_eq_true rfl) (cy1) ?_
    have hPy1 := cy1.1.1
    obtain ⟨y2, qy2, h⟩ := bindE h
    have cy2 := v_X8_put ho hPy1 qy2
    refine C_V3o (pc := 24) (k' := k_X8_put) dX8_round_24 w5_238 i_X8_put (lo_1 hPy1 ho) ⟨Nat.le_of_ble_eq_true rfl, Nat.le_of_ble_eq_true rfl⟩ rfl (Nat.le_of_ble_eq_true rfl) (Nat.le_of_ble_eq_true rfl) (Nat.le_of_ble_eq_true rfl) (cy2) ?_
    have hPy2 := cy2.1.1
    cases h
    exact Y_vret (pc := 27) rfl dX8_round_27 hPy2 ⟨rfl, rfl⟩
theorem v_X8_round {o : Nat} {x1 : Int32} {M z} (ho : o = 18 ∨ o = 28) (hP : Lay M) (h : d_X8_round o x1 M = some z) : CC Lay k_X8_round [.ref (o + 1), .int x1] M z.2 (Qv (none) z.2) xF :=
  CC.ofVV (by decide) rfl (Nat.le_of_ble_eq_true rfl) (b_X8_round ho hP h)
theorem b_X8_realAt {o : Nat} {x1 : Int32} {M z} (ho : o = 18 ∨ o = 28) (hP : Lay M) (h : d_X8_realAt o x1 M = some z) : VV Lay k_X8_realAt 0 [(0, .ref (o + 1)), (1, .int x1)] [] M z.2 (Qv (some (.double z.1)) z.2) xF := by
  unfold d_X8_realAt at h
  refine Y_aload_n (pc := 0) (j := 0) dX8_realAt_0 rfl rfl ?_
  refine Z_getr (pc := 1) dX8_realAt_1 w1_149 (lo_1 hP ho) fr_8_0 (lor_1_0 hP ho) ?_
  refine Y_iload_n (pc := 4) (j := 1) dX8_realAt_4 rfl rfl ?_
  obtain ⟨hb1, h⟩ := okE h
  refine Y_cald (pc := 5) dX8_realAt_5 (lo_2 hP ho) (lon_2 hP ho) hb1 ?_
  refine Y_bipush (pc := 6) (v := (105 : Int32)) dX8_realAt_6 rfl ?_
  refine Y_icmp_ne (pc := 8) (tgt := 21) dX8_realAt_8 (by decide) (fun hc1 => ?_) (fun hc1 => ?_)
  · replace h := ifF hc1 h
    refine Y_aload_n (pc := 21) (j := 0) dX8_realAt_21 rfl rfl ?_
    refine Z_getr (pc := 22) dX8_realAt_22 w1_154 (lo_1 hP ho) fr_8_2 (lor_1_2 hP ho) ?_
    refine Y_iload_n (pc := 25) (j := 1) dX8_realAt_25 rfl rfl ?_
    obtain ⟨hb2, h⟩ := okE h
    refine Y_dald (pc := 26) dX8_realAt_26 (lo_4 hP ho) (lon_4 hP ho) hb2 ?_
    cases h
    exact Y_dret (pc := 27) rfl dX8_realAt_27 hP ⟨rfl, rfl⟩
  · replace h := ifT hc1 h
    refine Y_aload_n (pc := 11) (j := 0) dX8_realAt_11 rfl rfl ?_
    refine Z_getr (pc := 12) dX8_realAt_12 w1_152 (lo_1 hP ho) fr_8_1 (lor_1_1 hP ho) ?_
    refine Y_iload_n (pc := 15) (j := 1) dX8_realAt_15 rfl rfl ?_
    obtain ⟨hb3, h⟩ := okE h
    refine Y_iald (pc := 16) dX8_realAt_16 (lo_3 hP ho) (lon_3 hP ho) hb3 ?_
    refine Y_i2d (pc := 17) dX8_realAt_17 ?_
    refine Y_goto (pc := 18) (tgt := 27) dX8_realAt_18 (by decide) ?_
    cases h
    exact Y_dret (pc := 27) rfl dX8_realAt_27 hP ⟨rfl, rfl⟩
theorem v_X8_realAt {o : Nat} {x1 : Int32} {M z} (ho : o = 18 ∨ o = 28) (hP : Lay M) (h : d_X8_realAt o x1 M = some z) : CC Lay k_X8_realAt [.ref (o + 1), .int x1] M z.2 (Qv (some (.double z.1)) z.2) xF :=
  CC.ofVV (by decide) rfl (Nat.le_of_ble_eq_true rfl) (b_X8_realAt ho hP h)
theorem b_X8_areEqual_52 {o : Nat} {x1 : Int32} {x2 : Int32} {M z} (ho : o = 18 ∨ o = 28) (hP : Lay M) (h : d_X8_areEqual_52 o x1 x2 M = some z) : VV Lay k_X8_areEqual 52 [(0, .ref (o + 1)), (1, .int x1), (2, .int x2)] [] M z.2 (Qv (some (.int z.1)) z.2) xF := by
  unfold d_X8_areEqual_52 at h
  refine Y_aload_n (pc := 52) (j := 0) dX8_areEqual_52 rfl rfl ?_
  refine Z_getr (pc := 53) dX8_areEqual_53 w1_149 (lo_1 hP ho) fr_8_0 (lor_1_0 hP ho) ?_
  refine Y_iload_n (pc := 56) (j := 1) dX8_areEqual_56 rfl rfl ?_
  obtain ⟨hb1, h⟩ := okE h
  refine Y_cald (pc := 57) dX8_areEqual_57 (lo_2 hP ho) (lon_2 hP ho) hb1 ?_
  refine Y_aload_n (pc := 58) (j := 0) dX8_areEqual_58 rfl rfl ?_
  refine Z_getr (pc := 59) dX8_areEqual_59 w1_149 (lo_1 hP ho) fr_8_0 (lor_1_0 hP ho) ?_
  refine Y_iload_n (pc := 62) (j := 2) dX8_areEqual_62 rfl rfl ?_
  obtain ⟨hb2, h⟩ := okE h
  refine Y_cald (pc := 63) dX8_areEqual_63 (lo_2 hP ho) (lon_2 hP ho) hb2 ?_
  refine Y_icmp_ne (pc := 64) (tgt := 86) dX8_areEqual_64 (by decide) (fun hc1 => ?_) (fun hc1 => ?_)
  · replace h := ifF hc1 h
    refine Y_iconst (pc := 86) (v := (0 : Int32)) dX8_areEqual_86 rfl ?_
    cases h
    exact Y_iret (pc := 87) rfl (nar_bo (by decide)) dX8_areEqual_87 hP ⟨rfl, rfl⟩
  · replace h := ifT hc1 h
    refine Y_aload_n (pc := 67) (j := 0) dX8_areEqual_67 rfl rfl ?_
    refine Z_getr (pc := 68) dX8_areEqual_68 w1_152 (lo_1 hP ho) fr_8_1 (lor_1_1 hP ho) ?_
    refine Y_iload_n (pc := 71) (j := 1) dX8_areEqual_71 rfl rfl ?_
    obtain ⟨hb3, h⟩ := okE h
    refine Y_iald (pc := 72) dX8_areEqual_72 (lo_3 hP ho) (lon_3 hP ho) hb3 ?_
    refine Y_aload_n (pc := 73) (j := 0) dX8_areEqual_73 rfl rfl ?_
    refine Z_getr (pc := 74) dX8_areEqual_74 w1_152 (lo_1 hP ho) fr_8_1 (lor_1_1 hP ho) ?_
    refine Y_iload_n (pc := 77) (j := 2) dX8_areEqual_77 rfl rfl ?_
    obtain ⟨hb4, h⟩ := okE h
    refine Y_iald (pc := 78) dX8_areEqual_78 (lo_3 hP ho) (lon_3 hP ho) hb4 ?_
    refine Y_icmp_ne (pc := 79) (tgt := 86) dX8_areEqual_79 (by decide) (fun hc2 => ?_) (fun hc2 => ?_)
    · replace h := ifF hc2 h
      refine Y_iconst (pc := 86) (v := (0 : Int32)) dX8_areEqual_86 rfl ?_
      cases h
      exact Y_iret (pc := 87) rfl (nar_bo (by decide)) dX8_areEqual_87 hP ⟨rfl, rfl⟩
    · replace h := ifT hc2 h
      refine Y_iconst (pc := 82) (v := (1 : Int32)) dX8_areEqual_82 rfl ?_
      refine Y_goto (pc := 83) (tgt := 87) dX8_areEqual_83 (by decide) ?_
      cases h
      exact Y_iret (pc := 87) rfl (nar_bo (by decide)) dX8_areEqual_87 hP ⟨rfl, rfl⟩
theorem b_X8_areEqual {o : Nat} {x1 : Int32} {x2 : Int32} {M z} (ho : o = 18 ∨ o = 28) (hP : Lay M) (h : d_X8_areEqual o x1 x2 M = some z) : VV Lay k_X8_areEqual 0 [(0, .ref (o + 1)), (1, .int x1), (2, .int x2)] [] M z.2 (Qv (some (.int z.1)) z.2) xF := by
  unfold d_X8_areEqual at h
  refine Y_aload_n (pc := 0) (j := 0) dX8_areEqual_0 rfl rfl ?_
  refine Y_iload_n (pc := 1) (j := 1) dX8_areEqual_1 rfl rfl ?_
  obtain ⟨y1, qy1, h⟩ := bindE h
  have cy1 := v_X8_isNumber ho hP qy1
  refine C_V1r (pc := 2) (k' := k_X8_isNumber) dX8_areEqual_2 w6_7 i_X8_isNumber (lo_1 hP ho) ⟨Nat.le_of_ble_eq_true rfl, Nat.le_of_ble_eq_true rfl⟩ rfl (Nat.le_of_ble_eq_true rfl) (Nat.le_of_ble_eq_true rfl) (Nat.le_of_ble_eq_true rfl) (cy1) ?_
  have hPy1 := cy1.1.1
  refine Y_if_eq (pc := 5) (tgt := 52) dX8_areEqual_5 (by decide) (fun hc1 => ?_) (fun hc1 => ?_)
  · replace h := ifT hc1 h
    refine VV.sub [0, 1, 2] rfl ?_
    exact b_X8_areEqual_52 ho hPy1 h
  · replace h := ifF hc1 h
    refine Y_aload_n (pc := 8) (j := 0) dX8_areEqual_8 rfl rfl ?_
    refine Y_iload_n (pc := 9) (j := 2) dX8_areEqual_9 rfl rfl ?_
    obtain ⟨y2, qy2, h⟩ := bindE h
    have cy2 := v_X8_isNumber ho hPy1 qy2
    refine C_V1r (pc := 10) (k' := k_X8_isNumber) dX8_areEqual_10 w6_7 i_X8_isNumber (lo_1 hPy1 ho) ⟨Nat.le_of_ble_eq_true rfl, Nat.le_of_ble_eq_true rfl⟩ rfl (Nat.le_of_ble_eq_true rfl) (Nat.le_of_ble_eq_true rfl) (Nat.le_of_ble_eq_true rfl) (cy2) ?_
    have hPy2 := cy2.1.1
    refine Y_if_eq (pc := 13) (tgt := 52) dX8_areEqual_13 (by decide) (fun hc2 => ?_) (fun hc2 => ?_)
    · replace h := ifT hc2 h
      refine VV.sub [0, 1, 2] rfl ?_
      exact b_X8_areEqual_52 ho hPy2 h
    · replace h := ifF hc2 h
      refine Y_aload_n (pc := 16) (j := 0) dX8_areEqual_16 rfl rfl ?_
      refine Y_iload_n (pc := 17) (j := 1) dX8_areEqual_17 rfl rfl ?_
      obtain ⟨y3, qy3, h⟩ := bindE h
      have cy3 := v_X8_isUndefined ho hPy2 qy3
      refine C_V1r (pc := 18) (k' := k_X8_isUndefined) dX8_areEqual_18 w5_131 i_X8_isUndefined (lo_1 hPy2 ho) ⟨Nat.le_of_ble_eq_true rfl, Nat.le_of_ble_eq_true rfl⟩ rfl (Nat.le_of_ble_eq_true rfl) (Nat.le_of_ble_eq_true rfl) (Nat.le_of_ble_eq_true rfl) (cy3) ?_
      have hPy3 := cy3.1.1
      refine Y_if_ne (pc := 21) (tgt := 50) dX8_areEqual_21 (by decide) (fun hc3 => ?_) (fun hc3 => ?_)
      · replace h := ifF hc3 h
        refine Y_iconst (pc := 50) (v := (0 : Int32)) dX8_areEqual_50 rfl ?_
        cases h
        exact Y_iret (pc := 51) rfl (nar_bo (by decide)) dX8_areEqual_51 hPy3 ⟨rfl, rfl⟩
      · replace h := ifT hc3 h
        refine Y_aload_n (pc := 24) (j := 0) dX8_areEqual_24 rfl rfl ?_
        refine Y_iload_n (pc := 25) (j := 2) dX8_areEqual_25 rfl rfl ?_
        obtain ⟨y4, qy4, h⟩ := bindE h
        have cy4 := v_X8_isUndefined ho hPy3 qy4
        refine C_V1r (pc := 26) (k' := k_X8_isUndefined) dX8_areEqual_26 w5_131 i_X8_isUndefined (lo_1 hPy3 ho) ⟨Nat.le_of_ble_eq_true rfl, Nat.le_of_ble_eq_true rfl⟩ rfl (Nat.le_of_ble_eq_true rfl) (Nat.le_of_ble_eq_true rfl) (Nat.le_of_ble_eq_true rfl) (cy4) ?_
        have hPy4 := cy4.1.1
        refine Y_if_ne (pc := 29) (tgt := 50) dX8_areEqual_29 (by decide) (fun hc4 => ?_) (fun hc4 => ?_)
        · replace h := ifF hc4 h
          refine Y_iconst (pc := 50) (v := (0 : Int32)) dX8_areEqual_50 rfl ?_
          cases h
          exact Y_iret (pc := 51) rfl (nar_bo (by decide)) dX8_areEqual_51 hPy4 ⟨rfl, rfl⟩
        · replace h := ifT hc4 h
          refine Y_aload_n (pc := 32) (j := 0) dX8_areEqual_32 rfl rfl ?_
          refine Y_iload_n (pc := 33) (j := 1) dX8_areEqual_33 rfl rfl ?_
          obtain ⟨y5, qy5, h⟩ := bindE h
          have cy5 := v_X8_realAt ho hPy4 qy5
          refine C_V1r (pc := 34) (k' := k_X8_realAt) dX8_areEqual_34 w6_8 i_X8_realAt (lo_1 hPy4 ho) ⟨Nat.le_of_ble_eq_true rfl, Nat.le_of_ble_eq_true rfl⟩ rfl (Nat.le_of_ble_eq_true rfl) (Nat.le_of_ble_eq_true rfl) (Nat.le_of_ble_eq_true rfl) (cy5) ?_
          have hPy5 := cy5.1.1
          refine Y_aload_n (pc := 37) (j := 0) dX8_areEqual_37 rfl rfl ?_
          refine Y_iload_n (pc := 38) (j := 2) dX8_areEqual_38 rfl rfl ?_
          obtain ⟨y6, qy6, h⟩ := bindE h
          have cy6 := v_X8_realAt ho hPy5 qy6
          refine C_V1r (pc := 39) (k' := k_X8_realAt) dX8_areEqual_39 w6_8 i_X8_realAt (lo_1 hPy5 ho) ⟨Nat.le_of_ble_eq_true rfl, Nat.le_of_ble_eq_true rfl⟩ rfl (Nat.le_of_ble_eq_true rfl) (Nat.le_of_ble_eq_true rfl) (Nat.le_of_ble_eq_true rfl) (cy6) ?_
          have hPy6 := cy6.1.1
          refine Y_dcmp (pc := 42) dX8_areEqual_42 ?_
          refine Y_if_ne (pc := 43) (tgt := 50) dX8_areEqual_43 (by decide) (fun hc5 => ?_) (fun hc5 => ?_)
          · replace h := ifF hc5 h
            refine Y_iconst (pc := 50) (v := (0 : Int32)) dX8_areEqual_50 rfl ?_
            cases h
            exact Y_iret (pc := 51) rfl (nar_bo (by decide)) dX8_areEqual_51 hPy6 ⟨rfl, rfl⟩
          · replace h := ifT hc5 h
            refine Y_iconst (pc := 46) (v := (1 : Int32)) dX8_areEqual_46 rfl ?_
            refine Y_goto (pc := 47) (tgt := 51) dX8_areEqual_47 (by decide) ?_
            cases h
            exact Y_iret (pc := 51) rfl (nar_bo (by decide)) dX8_areEqual_51 hPy6 ⟨rfl, rfl⟩
theorem v_X8_areEqual {o : Nat} {x1 : Int32} {x2 : Int32} {M z} (ho : o = 18 ∨ o = 28) (hP : Lay M) (h : d_X8_areEqual o x1 x2 M = some z) : CC Lay k_X8_areEqual [.ref (o + 1), .int x1, .int x2] M z.2 (Qv (some (.int z.1)) z.2) xF :=
  CC.ofVV (by decide) rfl (Nat.le_of_ble_eq_true rfl) (b_X8_areEqual ho hP h)
set_option maxRecDepth 20000 in
theorem b_X4_ofIntegers {x0 : Int32} {x1 : Int64} {x2 : Int64} {M z} (hP : Lay M) (h : d_X4_ofIntegers x0 x1 x2 M = some z) : VV Lay k_X4_ofIntegers 0 [(0, .int x0), (1, .long x1), (3, .long x2)] [] M z.2 (Qv (some (.long z.1)) z.2) xF := by
  unfold d_X4_ofIntegers at h
  refine Y_iload_n (pc := 0) (j := 0) dX4_ofIntegers_0 rfl rfl ?_
  refine Y_table (pc := 1) dX4_ofIntegers_1 [(37, 86), (38, 100), (39, 100), (40, 100), (41, 100), (42, 68), (43, 60), (44, 100), (45, 64), (46, 100), (47, 72)] 100 (by decide) (tab_ok (by decide +kernel)) (by decide) ?_ ?_
  · refine xs_cons ?_ <| xs_cons ?_ <| xs_cons ?_ <| xs_cons ?_ <| xs_cons ?_ <| xs_cons ?_ <| xs_cons ?_ <| xs_cons ?_ <| xs_cons ?_ <| xs_cons ?_ <| xs_cons ?_ <| xs_nil
    · intro e9
      replace h := ifT (by rw [e9] <;> decide) h
      refine Y_lload_n (pc := 86) (j := 2) dX4_ofIntegers_86 rfl rfl ?_
      refine Y_lconst (pc := 87) (v := (0 : Int64)) dX4_ofIntegers_87 rfl ?_
      refine Y_lcmp (pc := 88) dX4_ofIntegers_88 ?_
      refine Y_if_ne (pc := 89) (tgt := 96) dX4_ofIntegers_89 (by decide) (fun hc1 => ?_) (fun hc1 => ?_)
      · replace h := ifF hc1 h
        refine Y_lload_n (pc := 96) (j := 1) dX4_ofIntegers_96 rfl rfl ?_
        refine Y_lload_n (pc := 97) (j := 2) dX4_ofIntegers_97 rfl rfl ?_
        obtain ⟨hb1, h⟩ := okE h
        refine Y_lrem (pc := 98) dX4_ofIntegers_98 hb1 ?_
        cases h
        exact Y_lret (pc := 99) rfl dX4_ofIntegers_99 hP ⟨rfl, rfl⟩
      · replace h := ifT hc1 h
        refine Y_lconst (pc := 92) (v := (0 : Int64)) dX4_ofIntegers_92 rfl ?_
        refine Y_goto (pc := 93) (tgt := 99) dX4_ofIntegers_93 (by decide) ?_
        cases h
        exact Y_lret (pc := 99) rfl dX4_ofIntegers_99 hP ⟨rfl, rfl⟩
    · intro e9
      replace h := ifF (by rw [e9] <;> decide) h
      replace h := ifF (by rw [e9] <;> decide) h
      replace h := ifF (by rw [e9] <;> decide) h
      replace h := ifF (by rw [e9] <;> decide) h
      replace h := ifF (by rw [e9] <;> decide) h
      refine Y_lload_n (pc := 100) (j := 1) dX4_ofIntegers_100 rfl rfl ?_
      refine Y_lload_n (pc := 101) (j := 2) dX4_ofIntegers_101 rfl rfl ?_
      refine Y_lcmp (pc := 102) dX4_ofIntegers_102 ?_
      refine Y_if_ge (pc := 103) (tgt := 110) dX4_ofIntegers_103 (by decide) (fun hc3 => ?_) (fun hc3 => ?_)
      · replace h := ifT hc3 h
        refine Y_lconst (pc := 110) (v := (0 : Int64)) dX4_ofIntegers_110 rfl ?_
        cases h
        exact Y_lret (pc := 111) rfl dX4_ofIntegers_111 hP ⟨rfl, rfl⟩
      · replace h := ifF hc3 h
        refine Y_lconst (pc := 106) (v := (1 : Int64)) dX4_ofIntegers_106 rfl ?_
        refine Y_goto (pc := 107) (tgt := 111) dX4_ofIntegers_107 (by decide) ?_
        cases h
        exact Y_lret (pc := 111) rfl dX4_ofIntegers_111 hP ⟨rfl, rfl⟩
    · intro e9
      replace h := ifF (by rw [e9] <;> decide) h
      replace h := ifF (by rw [e9] <;> decide) h
      replace h := ifF (by rw [e9] <;> decide) h
      replace h := ifF (by rw [e9] <;> decide) h
      replace h := ifF (by rw [e9] <;> decide) h
      refine Y_lload_n (pc := 100) (j := 1) dX4_ofIntegers_100 rfl rfl ?_
      refine Y_lload_n (pc := 101) (j := 2) dX4_ofIntegers_101 rfl rfl ?_
      refine Y_lcmp (pc := 102) dX4_ofIntegers_102 ?_
      refine Y_if_ge (pc := 103) (tgt := 110) dX4_ofIntegers_103 (by decide) (fun hc3 => ?_) (fun hc3 => ?_)
      · replace h := ifT hc3 h
        refine Y_lconst (pc := 110) (v := (0 : Int64)) dX4_ofIntegers_110 rfl ?_
        cases h
        exact Y_lret (pc := 111) rfl dX4_ofIntegers_111 hP ⟨rfl, rfl⟩
      · replace h := ifF hc3 h
        refine Y_lconst (pc := 106) (v := (1 : Int64)) dX4_ofIntegers_106 rfl ?_
        refine Y_goto (pc := 107) (tgt := 111) dX4_ofIntegers_107 (by decide) ?_
        cases h
        exact Y_lret (pc := 111) rfl dX4_ofIntegers_111 hP ⟨rfl, rfl⟩
    · intro e9
      replace h := ifF (by rw [e9] <;> decide) h
      replace h := ifF (by rw [e9] <;> decide) h
      replace h := ifF (by rw [e9] <;> decide) h
      replace h := ifF (by rw [e9] <;> decide) h
      replace h := ifF (by rw [e9] <;> decide) h
      refine Y_lload_n (pc := 100) (j := 1) dX4_ofIntegers_100 rfl rfl ?_
      refine Y_lload_n (pc := 101) (j := 2) dX4_ofIntegers_101 rfl rfl ?_
      refine Y_lcmp (pc := 102) dX4_ofIntegers_102 ?_
      refine Y_if_ge (pc := 103) (tgt := 110) dX4_ofIntegers_103 (by decide) (fun hc3 => ?_) (fun hc3 => ?_)
      · replace h := ifT hc3 h
        refine Y_lconst (pc := 110) (v := (0 : Int64)) dX4_ofIntegers_110 rfl ?_
        cases h
        exact Y_lret (pc := 111) rfl dX4_ofIntegers_111 hP ⟨rfl, rfl⟩
      · replace h := ifF hc3 h
        refine Y_lconst (pc := 106) (v := (1 : Int64)) dX4_ofIntegers_106 rfl ?_
        refine Y_goto (pc := 107) (tgt := 111) dX4_ofIntegers_107 (by decide) ?_
        cases h
        exact Y_lret (pc := 111) rfl dX4_ofIntegers_111 hP ⟨rfl, rfl⟩
    · intro e9
      replace h := ifF (by rw [e9] <;> decide) h
      replace h := ifF (by rw [e9] <;> decide) h
      replace h := ifF (by rw [e9] <;> decide) h
      replace h := ifF (by rw [e9] <;> decide) h
      replace h := ifF (by rw [e9] <;> decide) h
      refine Y_lload_n (pc := 100) (j := 1) dX4_ofIntegers_100 rfl rfl ?_
      refine Y_lload_n (pc := 101) (j := 2) dX4_ofIntegers_101 rfl rfl ?_
      refine Y_lcmp (pc := 102) dX4_ofIntegers_102 ?_
      refine Y_if_ge (pc := 103) (tgt := 110) dX4_ofIntegers_103 (by decide) (fun hc3 => ?_) (fun hc3 => ?_)
      · replace h := ifT hc3 h
        refine Y_lconst (pc := 110) (v := (0 : Int64)) dX4_ofIntegers_110 rfl ?_
        cases h
        exact Y_lret (pc := 111) rfl dX4_ofIntegers_111 hP ⟨rfl, rfl⟩
      · replace h := ifF hc3 h
        refine Y_lconst (pc := 106) (v := (1 : Int64)) dX4_ofIntegers_106 rfl ?_
        refine Y_goto (pc := 107) (tgt := 111) dX4_ofIntegers_107 (by decide) ?_
        cases h
        exact Y_lret (pc := 111) rfl dX4_ofIntegers_111 hP ⟨rfl, rfl⟩
    · intro e9
      replace h := ifF (by rw [e9] <;> decide) h
      replace h := ifT (by rw [e9] <;> decide) h
      refine Y_lload_n (pc := 68) (j := 1) dX4_ofIntegers_68 rfl rfl ?_
      refine Y_lload_n (pc := 69) (j := 2) dX4_ofIntegers_69 rfl rfl ?_
      refine Y_lmul (pc := 70) dX4_ofIntegers_70 ?_
      cases h
      exact Y_lret (pc := 71) rfl dX4_ofIntegers_71 hP ⟨rfl, rfl⟩
    · intro e9
      replace h := ifF (by rw [e9] <;> decide) h
      replace h := ifF (by rw [e9] <;> decide) h
      replace h := ifT (by rw [e9] <;> decide) h
      refine Y_lload_n (pc := 60) (j := 1) dX4_ofIntegers_60 rfl rfl ?_
      refine Y_lload_n (pc := 61) (j := 2) dX4_ofIntegers_61 rfl rfl ?_
      refine Y_ladd (pc := 62) dX4_ofIntegers_62 ?_
      cases h
      exact Y_lret (pc := 63) rfl dX4_ofIntegers_63 hP ⟨rfl, rfl⟩
    · intro e9
      replace h := ifF (by rw [e9] <;> decide) h
      replace h := ifF (by rw [e9] <;> decide) h
      replace h := ifF (by rw [e9] <;> decide) h
      replace h := ifF (by rw [e9] <;> decide) h
      replace h := ifF (by rw [e9] <;> decide) h
      refine Y_lload_n (pc := 100) (j := 1) dX4_ofIntegers_100 rfl rfl ?_
      refine Y_lload_n (pc := 101) (j := 2) dX4_ofIntegers_101 rfl rfl ?_
      refine Y_lcmp (pc := 102) dX4_ofIntegers_102 ?_
      refine Y_if_ge (pc := 103) (tgt := 110) dX4_ofIntegers_103 (by decide) (fun hc3 => ?_) (fun hc3 => ?_)
      · replace h := ifT hc3 h
        refine Y_lconst (pc := 110) (v := (0 : Int64)) dX4_ofIntegers_110 rfl ?_
        cases h
        exact Y_lret (pc := 111) rfl dX4_ofIntegers_111 hP ⟨rfl, rfl⟩
      · replace h := ifF hc3 h
        refine Y_lconst (pc := 106) (v := (1 : Int64)) dX4_ofIntegers_106 rfl ?_
        refine Y_goto (pc := 107) (tgt := 111) dX4_ofIntegers_107 (by decide) ?_
        cases h
        exact Y_lret (pc := 111) rfl dX4_ofIntegers_111 hP ⟨rfl, rfl⟩
    · intro e9
      replace h := ifF (by rw [e9] <;> decide) h
      replace h := ifF (by rw [e9] <;> decide) h
      replace h := ifF (by rw [e9] <;> decide) h
      replace h := ifT (by rw [e9] <;> decide) h
      refine Y_lload_n (pc := 64) (j := 1) dX4_ofIntegers_64 rfl rfl ?_
      refine Y_lload_n (pc := 65) (j := 2) dX4_ofIntegers_65 rfl rfl ?_
      refine Y_lsub (pc := 66) dX4_ofIntegers_66 ?_
      cases h
      exact Y_lret (pc := 67) rfl dX4_ofIntegers_67 hP ⟨rfl, rfl⟩
    · intro e9
      replace h := ifF (by rw [e9] <;> decide) h
      replace h := ifF (by rw [e9] <;> decide) h
      replace h := ifF (by rw [e9] <;> decide) h
      replace h := ifF (by rw [e9] <;> decide) h
      replace h := ifF (by rw [e9] <;> decide) h
      refine Y_lload_n (pc := 100) (j := 1) dX4_ofIntegers_100 rfl rfl ?_
      refine Y_lload_n (pc := 101) (j := 2) dX4_ofIntegers_101 rfl rfl ?_
      refine Y_lcmp (pc := 102) dX4_ofIntegers_102 ?_
      refine Y_if_ge (pc := 103) (tgt := 110) dX4_ofIntegers_103 (by decide) (fun hc3 => ?_) (fun hc3 => ?_)
      · replace h := ifT hc3 h
        refine Y_lconst (pc := 110) (v := (0 : Int64)) dX4_ofIntegers_110 rfl ?_
        cases h
        exact Y_lret (pc := 111) rfl dX4_ofIntegers_111 hP ⟨rfl, rfl⟩
      · replace h := ifF hc3 h
        refine Y_lconst (pc := 106) (v := (1 : Int64)) dX4_ofIntegers_106 rfl ?_
        refine Y_goto (pc := 107) (tgt := 111) dX4_ofIntegers_107 (by decide) ?_
        cases h
        exact Y_lret (pc := 111) rfl dX4_ofIntegers_111 hP ⟨rfl, rfl⟩
    · intro e9
      replace h := ifF (by rw [e9] <;> decide) h
      replace h := ifF (by rw [e9] <;> decide) h
      replace h := ifF (by rw [e9] <;> decide) h
      replace h := ifF (by rw [e9] <;> decide) h
      replace h := ifT (by rw [e9] <;> decide) h
      refine Y_lload_n (pc := 72) (j := 2) dX4_ofIntegers_72 rfl rfl ?_
      refine Y_lconst (pc := 73) (v := (0 : Int64)) dX4_ofIntegers_73 rfl ?_
      refine Y_lcmp (pc := 74) dX4_ofIntegers_74 ?_
      refine Y_if_ne (pc := 75) (tgt := 82) dX4_ofIntegers_75 (by decide) (fun hc2 => ?_) (fun hc2 => ?_)
      · replace h := ifF hc2 h
        refine Y_lload_n (pc := 82) (j := 1) dX4_ofIntegers_82 rfl rfl ?_
        refine Y_lload_n (pc := 83) (j := 2) dX4_ofIntegers_83 rfl rfl ?_
        obtain ⟨hb2, h⟩ := okE h
        refine Y_ldiv (pc := 84) dX4_ofIntegers_84 hb2 ?_
        cases h
        exact Y_lret (pc := 85) rfl dX4_ofIntegers_85 hP ⟨rfl, rfl⟩
      · replace h := ifT hc2 h
        refine Y_lconst (pc := 78) (v := (0 : Int64)) dX4_ofIntegers_78 rfl ?_
        refine Y_goto (pc := 79) (tgt := 85) dX4_ofIntegers_79 (by decide) ?_
        cases h
        exact Y_lret (pc := 85) rfl dX4_ofIntegers_85 hP ⟨rfl, rfl⟩
  · intro n9
    replace h := ifF (xs_no n9 (by decide : ((37 : Int32), 86) ∈ _)) h
    replace h := ifF (xs_no n9 (by decide : ((42 : Int32), 68) ∈ _)) h
    replace h := ifF (xs_no n9 (by decide : ((43 : Int32), 60) ∈ _)) h
    replace h := ifF (xs_no n9 (by decide : ((45 : Int32), 64) ∈ _)) h
    replace h := ifF (xs_no n9 (by decide : ((47 : Int32), 72) ∈ _)) h
    refine Y_lload_n (pc := 100) (j := 1) dX4_ofIntegers_100 rfl rfl ?_
    refine Y_lload_n (pc := 101) (j := 2) dX4_ofIntegers_101 rfl rfl ?_
    refine Y_lcmp (pc := 102) dX4_ofIntegers_102 ?_
    refine Y_if_ge (pc := 103) (tgt := 110) dX4_ofIntegers_103 (by decide) (fun hc3 => ?_) (fun hc3 => ?_)
    · replace h := ifT hc3 h
      refine Y_lconst (pc := 110) (v := (0 : Int64)) dX4_ofIntegers_110 rfl ?_
      cases h
      exact Y_lret (pc := 111) rfl dX4_ofIntegers_111 hP ⟨rfl, rfl⟩
    · replace h := ifF hc3 h
      refine Y_lconst (pc := 106) (v := (1 : Int64)) dX4_ofIntegers_106 rfl ?_
      refine Y_goto (pc := 107) (tgt := 111) dX4_ofIntegers_107 (by decide) ?_
      cases h
      exact Y_lret (pc := 111) rfl dX4_ofIntegers_111 hP ⟨rfl, rfl⟩
theorem v_X4_ofIntegers {x0 : Int32} {x1 : Int64} {x2 : Int64} {M z} (hP : Lay M) (h : d_X4_ofIntegers x0 x1 x2 M = some z) : CC Lay k_X4_ofIntegers [.int x0, .long x1, .long x2] M z.2 (Qv (some (.long z.1)) z.2) xF :=
  CC.ofVV (by decide) rfl (Nat.le_of_ble_eq_true rfl) (b_X4_ofIntegers hP h)
theorem b_X4_isInteger {x0 : Int64} {M z} (hP : Lay M) (h : d_X4_isInteger x0 M = some z) : VV Lay k_X4_isInteger 0 [(0, .long x0)] [] M z.2 (Qv (some (.int z.1)) z.2) xF := by
  unfold d_X4_isInteger at h
  refine Y_lload_n (pc := 0) (j := 0) dX4_isInteger_0 rfl rfl ?_
  refine Y_ldc2 (pc := 1) dX4_isInteger_1 w6_23 ?_
  refine Y_lcmp (pc := 4) dX4_isInteger_4 ?_
  refine Y_if_lt (pc := 5) (tgt := 20) dX4_isInteger_5 (by decide) (fun hc1 => ?_) (fun hc1 => ?_)
  · replace h := ifT hc1 h
    refine Y_iconst (pc := 20) (v := (0 : Int32)) dX4_isInteger_20 rfl ?_
    cases h
    exact Y_iret (pc := 21) rfl (nar_bo (by decide)) dX4_isInteger_21 hP ⟨rfl, rfl⟩
  · replace h := ifF hc1 h
    refine Y_lload_n (pc := 8) (j := 0) dX4_isInteger_8 rfl rfl ?_
    refine Y_ldc2 (pc := 9) dX4_isInteger_9 w6_24 ?_
    refine Y_lcmp (pc := 12) dX4_isInteger_12 ?_
    refine Y_if_gt (pc := 13) (tgt := 20) dX4_isInteger_13 (by decide) (fun hc2 => ?_) (fun hc2 => ?_)
    · replace h := ifT hc2 h
      refine Y_iconst (pc := 20) (v := (0 : Int32)) dX4_isInteger_20 rfl ?_
      cases h
      exact Y_iret (pc := 21) rfl (nar_bo (by decide)) dX4_isInteger_21 hP ⟨rfl, rfl⟩
    · replace h := ifF hc2 h
      refine Y_iconst (pc := 16) (v := (1 : Int32)) dX4_isInteger_16 rfl ?_
      refine Y_goto (pc := 17) (tgt := 21) dX4_isInteger_17 (by decide) ?_
      cases h
      exact Y_iret (pc := 21) rfl (nar_bo (by decide)) dX4_isInteger_21 hP ⟨rfl, rfl⟩
theorem v_X4_isInteger {x0 : Int64} {M z} (hP : Lay M) (h : d_X4_isInteger x0 M = some z) : CC Lay k_X4_isInteger [.long x0] M z.2 (Qv (some (.int z.1)) z.2) xF :=
  CC.ofVV (by decide) rfl (Nat.le_of_ble_eq_true rfl) (b_X4_isInteger hP h)
theorem b_X8_givesInteger {o : Nat} {x1 : Int32} {x2 : Int32} {x3 : Int32} {M z} (ho : o = 18 ∨ o = 28) (hP : Lay M) (h : d_X8_givesInteger o x1 x2 x3 M = some z) : VV Lay k_X8_givesInteger 0 [(0, .ref (o + 1)), (1, .int x1), (2, .int x2), (3, .int x3)] [] M z.2 (Qv (some (.int z.1)) z.2) xF := by
  unfold d_X8_givesInteger at h
  refine Y_aload_n (pc := 0) (j := 0) dX8_givesInteger_0 rfl rfl ?_
  refine Y_iload_n (pc := 1) (j := 2) dX8_givesInteger_1 rfl rfl ?_
  refine Y_iload_n (pc := 2) (j := 3) dX8_givesInteger_2 rfl rfl ?_
  obtain ⟨y1, qy1, h⟩ := bindE h
  have cy1 := v_X8_areIntegers ho hP qy1
  refine C_V2r (pc := 3) (k' := k_X8_areIntegers) dX8_givesInteger_3 w6_16 i_X8_areIntegers (lo_1 hP ho) ⟨Nat.le_of_ble_eq_true rfl, Nat.le_of_ble_eq_true rfl⟩ rfl (Nat.le_of_ble_eq_true rfl) (Nat.le_of_ble_eq_true rfl) (Nat.le_of_ble_eq_true rfl) (cy1) ?_
  have hPy1 := cy1.1.1
  refine Y_if_eq (pc := 6) (tgt := 37) dX8_givesInteger_6 (by decide) (fun hc1 => ?_) (fun hc1 => ?_)
  · replace h := ifT hc1 h
    refine Y_iconst (pc := 37) (v := (0 : Int32)) dX8_givesInteger_37 rfl ?_
    cases h
    exact Y_iret (pc := 38) rfl (nar_bo (by decide)) dX8_givesInteger_38 hPy1 ⟨rfl, rfl⟩
  · replace h := ifF hc1 h
    refine Y_iload_n (pc := 9) (j := 1) dX8_givesInteger_9 rfl rfl ?_
    refine Y_aload_n (pc := 10) (j := 0) dX8_givesInteger_10 rfl rfl ?_
    refine Z_getr (pc := 11) dX8_givesInteger_11 w1_152 (lo_1 hPy1 ho) fr_8_1 (lor_1_1 hPy1 ho) ?_
    refine Y_iload_n (pc := 14) (j := 2) dX8_givesInteger_14 rfl rfl ?_
    obtain ⟨hb1, h⟩ := okE h
    refine Y_iald (pc := 15) dX8_givesInteger_15 (lo_3 hPy1 ho) (lon_3 hPy1 ho) hb1 ?_
    refine Y_i2l (pc := 16) dX8_givesInteger_16 ?_
    refine Y_aload_n (pc := 17) (j := 0) dX8_givesInteger_17 rfl rfl ?_
    refine Z_getr (pc := 18) dX8_givesInteger_18 w1_152 (lo_1 hPy1 ho) fr_8_1 (lor_1_1 hPy1 ho) ?_
    refine Y_iload_n (pc := 21) (j := 3) dX8_givesInteger_21 rfl rfl ?_
    obtain ⟨hb2, h⟩ := okE h
    refine Y_iald (pc := 22) dX8_givesInteger_22 (lo_3 hPy1 ho) (lon_3 hPy1 ho) hb2 ?_
    refine Y_i2l (pc := 23) dX8_givesInteger_23 ?_
    obtain ⟨y2, qy2, h⟩ := bindE h
    have cy2 := v_X4_ofIntegers hPy1 qy2
    refine C_S3r (pc := 24) (k' := k_X4_ofIntegers) dX8_givesInteger_24 w6_17 i_X4_ofIntegers (Nat.le_of_ble_eq_true rfl) (Nat.le_of_ble_eq_true rfl) (Nat.le_of_ble_eq_true rfl) (cy2) ?_
    have hPy2 := cy2.1.1
    obtain ⟨y3, qy3, h⟩ := bindE h
    have cy3 := v_X4_isInteger hPy2 qy3
    refine C_S1r (pc := 27) (k' := k_X4_isInteger) dX8_givesInteger_27 w6_20 i_X4_isInteger (Nat.le_of_ble_eq_true rfl) (Nat.le_of_ble_eq_true rfl) (Nat.le_of_ble_eq_true rfl) (cy3) ?_
    have hPy3 := cy3.1.1
    refine Y_if_eq (pc := 30) (tgt := 37) dX8_givesInteger_30 (by decide) (fun hc2 => ?_) (fun hc2 => ?_)
    · replace h := ifT hc2 h
      refine Y_iconst (pc := 37) (v := (0 : Int32)) dX8_givesInteger_37 rfl ?_
      cases h
      exact Y_iret (pc := 38) rfl (nar_bo (by decide)) dX8_givesInteger_38 hPy3 ⟨rfl, rfl⟩
    · replace h := ifF hc2 h
      refine Y_iconst (pc := 33) (v := (1 : Int32)) dX8_givesInteger_33 rfl ?_
      refine Y_goto (pc := 34) (tgt := 38) dX8_givesInteger_34 (by decide) ?_
      cases h
      exact Y_iret (pc := 38) rfl (nar_bo (by decide)) dX8_givesInteger_38 hPy3 ⟨rfl, rfl⟩
theorem v_X8_givesInteger {o : Nat} {x1 : Int32} {x2 : Int32} {x3 : Int32} {M z} (ho : o = 18 ∨ o = 28) (hP : Lay M) (h : d_X8_givesInteger o x1 x2 x3 M = some z) : CC Lay k_X8_givesInteger [.ref (o + 1), .int x1, .int x2, .int x3] M z.2 (Qv (some (.int z.1)) z.2) xF :=
  CC.ofVV (by decide) rfl (Nat.le_of_ble_eq_true rfl) (b_X8_givesInteger ho hP h)
theorem b_X8_isLess {o : Nat} {x1 : Int32} {x2 : Int32} {M z} (ho : o = 18 ∨ o = 28) (hP : Lay M) (h : d_X8_isLess o x1 x2 M = some z) : VV Lay k_X8_isLess 0 [(0, .ref (o + 1)), (1, .int x1), (2, .int x2)] [] M z.2 (Qv (some (.int z.1)) z.2) xF := by
  unfold d_X8_isLess at h
  refine Y_aload_n (pc := 0) (j := 0) dX8_isLess_0 rfl rfl ?_
  refine Y_iload_n (pc := 1) (j := 1) dX8_isLess_1 rfl rfl ?_
  obtain ⟨y1, qy1, h⟩ := bindE h
  have cy1 := v_X8_isUndefined ho hP qy1
  refine C_V1r (pc := 2) (k' := k_X8_isUndefined) dX8_isLess_2 w5_131 i_X8_isUndefined (lo_1 hP ho) ⟨Nat.le_of_ble_eq_true rfl, Nat.le_of_ble_eq_true rfl⟩ rfl (Nat.le_of_ble_eq_true rfl) (Nat.le_of_ble_eq_true rfl) (Nat.le_of_ble_eq_true rfl) (cy1) ?_
  have hPy1 := cy1.1.1
  refine Y_if_ne (pc := 5) (tgt := 34) dX8_isLess_5 (by decide) (fun hc1 => ?_) (fun hc1 => ?_)
  · replace h := ifF hc1 h
    refine Y_iconst (pc := 34) (v := (0 : Int32)) dX8_isLess_34 rfl ?_
    cases h
    exact Y_iret (pc := 35) rfl (nar_bo (by decide)) dX8_isLess_35 hPy1 ⟨rfl, rfl⟩
  · replace h := ifT hc1 h
    refine Y_aload_n (pc := 8) (j := 0) dX8_isLess_8 rfl rfl ?_
    refine Y_iload_n (pc := 9) (j := 2) dX8_isLess_9 rfl rfl ?_
    obtain ⟨y2, qy2, h⟩ := bindE h
    have cy2 := v_X8_isUndefined ho hPy1 qy2
    refine C_V1r (pc := 10) (k' := k_X8_isUndefined) dX8_isLess_10 w5_131 i_X8_isUndefined (lo_1 hPy1 ho) ⟨Nat.le_of_ble_eq_true rfl, Nat.le_of_ble_eq_true rfl⟩ rfl (Nat.le_of_ble_eq_true rfl) (Nat.le_of_ble_eq_true rfl) (Nat.le_of_ble_eq_true rfl) (cy2) ?_
    have hPy2 := cy2.1.1
    refine Y_if_ne (pc := 13) (tgt := 34) dX8_isLess_13 (by decide) (fun hc2 => ?_) (fun hc2 => ?_)
    · replace h := ifF hc2 h
      refine Y_iconst (pc := 34) (v := (0 : Int32)) dX8_isLess_34 rfl ?_
      cases h
      exact Y_iret (pc := 35) rfl (nar_bo (by decide)) dX8_isLess_35 hPy2 ⟨rfl, rfl⟩
    · replace h := ifT hc2 h
      refine Y_aload_n (pc := 16) (j := 0) dX8_isLess_16 rfl rfl ?_
      refine Y_iload_n (pc := 17) (j := 1) dX8_isLess_17 rfl rfl ?_
      obtain ⟨y3, qy3, h⟩ := bindE h
      have cy3 := v_X8_realAt ho hPy2 qy3
      refine C_V1r (pc := 18) (k' := k_X8_realAt) dX8_isLess_18 w6_8 i_X8_realAt (lo_1 hPy2 ho) ⟨Nat.le_of_ble_eq_true rfl, Nat.le_of_ble_eq_true rfl⟩ rfl (Nat.le_of_ble_eq_true rfl) (Nat.le_of_ble_eq_true rfl) (Nat.le_of_ble_eq_true rfl) (cy3) ?_
      have hPy3 := cy3.1.1
      refine Y_aload_n (pc := 21) (j := 0) dX8_isLess_21 rfl rfl ?_
      refine Y_iload_n (pc := 22) (j := 2) dX8_isLess_22 rfl rfl ?_
      obtain ⟨y4, qy4, h⟩ := bindE h
      have cy4 := v_X8_realAt ho hPy3 qy4
      refine C_V1r (pc := 23) (k' := k_X8_realAt) dX8_isLess_23 w6_8 i_X8_realAt (lo_1 hPy3 ho) ⟨Nat.le_of_ble_eq_true rfl, Nat.le_of_ble_eq_true rfl⟩ rfl (Nat.le_of_ble_eq_true rfl) (Nat.le_of_ble_eq_true rfl) (Nat.le_of_ble_eq_true rfl) (cy4) ?_
      have hPy4 := cy4.1.1
      refine Y_dcmp (pc := 26) dX8_isLess_26 ?_
      refine Y_if_ge (pc := 27) (tgt := 34) dX8_isLess_27 (by decide) (fun hc3 => ?_) (fun hc3 => ?_)
      · replace h := ifT hc3 h
        refine Y_iconst (pc := 34) (v := (0 : Int32)) dX8_isLess_34 rfl ?_
        cases h
        exact Y_iret (pc := 35) rfl (nar_bo (by decide)) dX8_isLess_35 hPy4 ⟨rfl, rfl⟩
      · replace h := ifF hc3 h
        refine Y_iconst (pc := 30) (v := (1 : Int32)) dX8_isLess_30 rfl ?_
        refine Y_goto (pc := 31) (tgt := 35) dX8_isLess_31 (by decide) ?_
        cases h
        exact Y_iret (pc := 35) rfl (nar_bo (by decide)) dX8_isLess_35 hPy4 ⟨rfl, rfl⟩
theorem v_X8_isLess {o : Nat} {x1 : Int32} {x2 : Int32} {M z} (ho : o = 18 ∨ o = 28) (hP : Lay M) (h : d_X8_isLess o x1 x2 M = some z) : CC Lay k_X8_isLess [.ref (o + 1), .int x1, .int x2] M z.2 (Qv (some (.int z.1)) z.2) xF :=
  CC.ofVV (by decide) rfl (Nat.le_of_ble_eq_true rfl) (b_X8_isLess ho hP h)
theorem b_X4_isEndless {x0 : UInt64} {M z} (hP : Lay M) (h : d_X4_isEndless x0 M = some z) : VV Lay k_X4_isEndless 0 [(0, .double x0)] [] M z.2 (Qv (some (.int z.1)) z.2) xF := by
  unfold d_X4_isEndless at h
  refine Y_dload_n (pc := 0) (j := 0) dX4_isEndless_0 rfl rfl ?_
  refine Y_ldc2d (pc := 1) (by decide) dX4_isEndless_1 w6_39 ?_
  refine Y_dcmp (pc := 4) dX4_isEndless_4 ?_
  refine Y_if_gt (pc := 5) (tgt := 16) dX4_isEndless_5 (by decide) (fun hc1 => ?_) (fun hc1 => ?_)
  · replace h := ifT hc1 h
    refine Y_iconst (pc := 16) (v := (1 : Int32)) dX4_isEndless_16 rfl ?_
    refine Y_goto (pc := 17) (tgt := 21) dX4_isEndless_17 (by decide) ?_
    cases h
    exact Y_iret (pc := 21) rfl (nar_bo (by decide)) dX4_isEndless_21 hP ⟨rfl, rfl⟩
  · replace h := ifF hc1 h
    refine Y_dload_n (pc := 8) (j := 0) dX4_isEndless_8 rfl rfl ?_
    refine Y_ldc2d (pc := 9) (by decide) dX4_isEndless_9 w6_40 ?_
    refine Y_dcmp (pc := 12) dX4_isEndless_12 ?_
    refine Y_if_ge (pc := 13) (tgt := 20) dX4_isEndless_13 (by decide) (fun hc2 => ?_) (fun hc2 => ?_)
    · replace h := ifT hc2 h
      refine Y_iconst (pc := 20) (v := (0 : Int32)) dX4_isEndless_20 rfl ?_
      cases h
      exact Y_iret (pc := 21) rfl (nar_bo (by decide)) dX4_isEndless_21 hP ⟨rfl, rfl⟩
    · replace h := ifF hc2 h
      refine Y_iconst (pc := 16) (v := (1 : Int32)) dX4_isEndless_16 rfl ?_
      refine Y_goto (pc := 17) (tgt := 21) dX4_isEndless_17 (by decide) ?_
      cases h
      exact Y_iret (pc := 21) rfl (nar_bo (by decide)) dX4_isEndless_21 hP ⟨rfl, rfl⟩
theorem v_X4_isEndless {x0 : UInt64} {M z} (hP : Lay M) (h : d_X4_isEndless x0 M = some z) : CC Lay k_X4_isEndless [.double x0] M z.2 (Qv (some (.int z.1)) z.2) xF :=
  CC.ofVV (by decide) rfl (Nat.le_of_ble_eq_true rfl) (b_X4_isEndless hP h)
theorem b_X4_isUndefined_145 {x1 : UInt64} {x3 : UInt64} {M z} (hP : Lay M) (h : d_X4_isUndefined_145 x1 x3 M = some z) : VV Lay k_X4_isUndefined 145 [(1, .double x1), (3, .double x3)] [] M z.2 (Qv (some (.int z.1)) z.2) xF := by
  unfold d_X4_isUndefined_145 at h
  refine Y_dload_n (pc := 145) (j := 0) dX4_isUndefined_145 rfl rfl ?_
  refine Y_dconst0 (pc := 146) dX4_isUndefined_146 ?_
  refine Y_dcmp (pc := 147) dX4_isUndefined_147 ?_
  refine Y_if_ne (pc := 148) (tgt := 162) dX4_isUndefined_148 (by decide) (fun hc1 => ?_) (fun hc1 => ?_)
  · replace h := ifF hc1 h
    refine Y_iconst (pc := 162) (v := (0 : Int32)) dX4_isUndefined_162 rfl ?_
    cases h
    exact Y_iret (pc := 163) rfl (nar_bo (by decide)) dX4_isUndefined_163 hP ⟨rfl, rfl⟩
  · replace h := ifT hc1 h
    refine Y_dload_n (pc := 151) (j := 1) dX4_isUndefined_151 rfl rfl ?_
    obtain ⟨y1, qy1, h⟩ := bindE h
    have cy1 := v_X4_isEndless hP qy1
    refine C_S1r (pc := 152) (k' := k_X4_isEndless) dX4_isUndefined_152 w6_36 i_X4_isEndless (Nat.le_of_ble_eq_true rfl) (Nat.le_of_ble_eq_true rfl) (Nat.le_of_ble_eq_true rfl) (cy1) ?_
    have hPy1 := cy1.1.1
    refine Y_if_eq (pc := 155) (tgt := 162) dX4_isUndefined_155 (by decide) (fun hc2 => ?_) (fun hc2 => ?_)
    · replace h := ifT hc2 h
      refine Y_iconst (pc := 162) (v := (0 : Int32)) dX4_isUndefined_162 rfl ?_
      cases h
      exact Y_iret (pc := 163) rfl (nar_bo (by decide)) dX4_isUndefined_163 hPy1 ⟨rfl, rfl⟩
    · replace h := ifF hc2 h
      refine Y_iconst (pc := 158) (v := (1 : Int32)) dX4_isUndefined_158 rfl ?_
      refine Y_goto (pc := 159) (tgt := 163) dX4_isUndefined_159 (by decide) ?_
      cases h
      exact Y_iret (pc := 163) rfl (nar_bo (by decide)) dX4_isUndefined_163 hPy1 ⟨rfl, rfl⟩
theorem b_X4_isUndefined_87 {s0 : Int32} {s1 : Int32} {M z} (hP : Lay M) (h : d_X4_isUndefined_87 s0 s1 M = some z) : VV Lay k_X4_isUndefined 87 [] [.int s1, .int s0] M z.2 (Qv (some (.int z.1)) z.2) xF := by
  unfold d_X4_isUndefined_87 at h
  refine Y_icmp_eq (pc := 87) (tgt := 94) dX4_isUndefined_87 (by decide) (fun hc1 => ?_) (fun hc1 => ?_)
  · replace h := ifT hc1 h
    refine Y_iconst (pc := 94) (v := (0 : Int32)) dX4_isUndefined_94 rfl ?_
    cases h
    exact Y_iret (pc := 95) rfl (nar_bo (by decide)) dX4_isUndefined_95 hP ⟨rfl, rfl⟩
  · replace h := ifF hc1 h
    refine Y_iconst (pc := 90) (v := (1 : Int32)) dX4_isUndefined_90 rfl ?_
    refine Y_goto (pc := 91) (tgt := 95) dX4_isUndefined_91 (by decide) ?_
    cases h
    exact Y_iret (pc := 95) rfl (nar_bo (by decide)) dX4_isUndefined_95 hP ⟨rfl, rfl⟩
theorem b_X4_isUndefined_76 {x3 : UInt64} {s0 : Int32} {M z} (hP : Lay M) (h : d_X4_isUndefined_76 x3 s0 M = some z) : VV Lay k_X4_isUndefined 76 [(3, .double x3)] [.int s0] M z.2 (Qv (some (.int z.1)) z.2) xF := by
  unfold d_X4_isUndefined_76 at h
  refine Y_dload_n (pc := 76) (j := 0) dX4_isUndefined_76 rfl rfl ?_
  refine Y_dconst0 (pc := 77) dX4_isUndefined_77 ?_
  refine Y_dcmp (pc := 78) dX4_isUndefined_78 ?_
  refine Y_if_le (pc := 79) (tgt := 86) dX4_isUndefined_79 (by decide) (fun hc1 => ?_) (fun hc1 => ?_)
  · replace h := ifT hc1 h
    refine Y_iconst (pc := 86) (v := (0 : Int32)) dX4_isUndefined_86 rfl ?_
    refine VV.sub [] rfl ?_
    exact b_X4_isUndefined_87  hP h
  · replace h := ifF hc1 h
    refine Y_iconst (pc := 82) (v := (1 : Int32)) dX4_isUndefined_82 rfl ?_
    refine Y_goto (pc := 83) (tgt := 87) dX4_isUndefined_83 (by decide) ?_
    refine VV.sub [] rfl ?_
    exact b_X4_isUndefined_87  hP h
theorem b_X4_isUndefined_123 {s0 : Int32} {s1 : Int32} {M z} (hP : Lay M) (h : d_X4_isUndefined_123 s0 s1 M = some z) : VV Lay k_X4_isUndefined 123 [] [.int s1, .int s0] M z.2 (Qv (some (.int z.1)) z.2) xF := by
  unfold d_X4_isUndefined_123 at h
  refine Y_icmp_ne (pc := 123) (tgt := 130) dX4_isUndefined_123 (by decide) (fun hc1 => ?_) (fun hc1 => ?_)
  · replace h := ifF hc1 h
    refine Y_iconst (pc := 130) (v := (0 : Int32)) dX4_isUndefined_130 rfl ?_
    cases h
    exact Y_iret (pc := 131) rfl (nar_bo (by decide)) dX4_isUndefined_131 hP ⟨rfl, rfl⟩
  · replace h := ifT hc1 h
    refine Y_iconst (pc := 126) (v := (1 : Int32)) dX4_isUndefined_126 rfl ?_
    refine Y_goto (pc := 127) (tgt := 131) dX4_isUndefined_127 (by decide) ?_
    cases h
    exact Y_iret (pc := 131) rfl (nar_bo (by decide)) dX4_isUndefined_131 hP ⟨rfl, rfl⟩
theorem b_X4_isUndefined_112 {x3 : UInt64} {s0 : Int32} {M z} (hP : Lay M) (h : d_X4_isUndefined_112 x3 s0 M = some z) : VV Lay k_X4_isUndefined 112 [(3, .double x3)] [.int s0] M z.2 (Qv (some (.int z.1)) z.2) xF := by
  unfold d_X4_isUndefined_112 at h
  refine Y_dload_n (pc := 112) (j := 0) dX4_isUndefined_112 rfl rfl ?_
  refine Y_dconst0 (pc := 113) dX4_isUndefined_113 ?_
  refine Y_dcmp (pc := 114) dX4_isUndefined_114 ?_
  refine Y_if_le (pc := 115) (tgt := 122) dX4_isUndefined_115 (by decide) (fun hc1 => ?_) (fun hc1 => ?_)
  · replace h := ifT hc1 h
    refine Y_iconst (pc := 122) (v := (0 : Int32)) dX4_isUndefined_122 rfl ?_
    refine VV.sub [] rfl ?_
    exact b_X4_isUndefined_123  hP h
  · replace h := ifF hc1 h
    refine Y_iconst (pc := 118) (v := (1 : Int32)) dX4_isUndefined_118 rfl ?_
    refine Y_goto (pc := 119) (tgt := 123) dX4_isUndefined_119 (by decide) ?_
    refine VV.sub [] rfl ?_
    exact b_X4_isUndefined_123  hP h
set_option maxRecDepth 20000 in
theorem b_X4_isUndefined_19 {x0 : Int32} {x1 : UInt64} {x3 : UInt64} {s0 : Int32} {M z} (hP : Lay M) (h : d_X4_isUndefined_19 x0 x1 x3 s0 M = some z) : VV Lay k_X4_isUndefined 19 [(0, .int x0), (1, .double x1), (3, .double x3)] [.int s0] M z.2 (Qv (some (.int z.1)) z.2) xF := by
  unfold d_X4_isUndefined_19 at h
  refine Y_istore (pc := 19) (lv1 := [(5, .int s0), (0, .int x0), (1, .double x1), (3, .double x3)]) dX4_isUndefined_19 (by decide) rfl ?_
  refine Y_iload_n (pc := 21) (j := 1) dX4_isUndefined_21 rfl rfl ?_
  refine Y_table (pc := 22) dX4_isUndefined_22 [(42, 132), (43, 60), (44, 187), (45, 96), (46, 187), (47, 164)] 187 (by decide) (tab_ok (by decide +kernel)) (by decide) ?_ ?_
  · refine xs_cons ?_ <| xs_cons ?_ <| xs_cons ?_ <| xs_cons ?_ <| xs_cons ?_ <| xs_cons ?_ <| xs_nil
    · intro e9
      replace h := ifT (by rw [e9] <;> decide) h
      refine Y_dload_n (pc := 132) (j := 2) dX4_isUndefined_132 rfl rfl ?_
      obtain ⟨y1, qy1, h⟩ := bindE h
      have cy1 := v_X4_isEndless hP qy1
      refine C_S1r (pc := 133) (k' := k_X4_isEndless) dX4_isUndefined_133 w6_36 i_X4_isEndless (Nat.le_of_ble_eq_true rfl) (Nat.le_of_ble_eq_true rfl) (Nat.le_of_ble_eq_true rfl) (cy1) ?_
      have hPy1 := cy1.1.1
      refine Y_if_eq (pc := 136) (tgt := 145) dX4_isUndefined_136 (by decide) (fun hc1 => ?_) (fun hc1 => ?_)
      · replace h := ifT hc1 h
        refine VV.sub [2, 3] rfl ?_
        exact b_X4_isUndefined_145  hPy1 h
      · replace h := ifF hc1 h
        refine Y_dload_n (pc := 139) (j := 3) dX4_isUndefined_139 rfl rfl ?_
        refine Y_dconst0 (pc := 140) dX4_isUndefined_140 ?_
        refine Y_dcmp (pc := 141) dX4_isUndefined_141 ?_
        refine Y_if_eq (pc := 142) (tgt := 158) dX4_isUndefined_142 (by decide) (fun hc2 => ?_) (fun hc2 => ?_)
        · replace h := ifT hc2 h
          refine Y_iconst (pc := 158) (v := (1 : Int32)) dX4_isUndefined_158 rfl ?_
          refine Y_goto (pc := 159) (tgt := 163) dX4_isUndefined_159 (by decide) ?_
          cases h
          exact Y_iret (pc := 163) rfl (nar_bo (by decide)) dX4_isUndefined_163 hPy1 ⟨rfl, rfl⟩
        · replace h := ifF hc2 h
          refine VV.sub [2, 3] rfl ?_
          exact b_X4_isUndefined_145  hPy1 h
    · intro e9
      replace h := ifF (by rw [e9] <;> decide) h
      replace h := ifT (by rw [e9] <;> decide) h
      refine Y_iload (pc := 60) (j := 0) dX4_isUndefined_60 rfl ?_
      refine Y_if_eq (pc := 62) (tgt := 94) dX4_isUndefined_62 (by decide) (fun hc3 => ?_) (fun hc3 => ?_)
      · replace h := ifT hc3 h
        refine Y_iconst (pc := 94) (v := (0 : Int32)) dX4_isUndefined_94 rfl ?_
        cases h
        exact Y_iret (pc := 95) rfl (nar_bo (by decide)) dX4_isUndefined_95 hP ⟨rfl, rfl⟩
      · replace h := ifF hc3 h
        refine Y_dload_n (pc := 65) (j := 2) dX4_isUndefined_65 rfl rfl ?_
        refine Y_dconst0 (pc := 66) dX4_isUndefined_66 ?_
        refine Y_dcmp (pc := 67) dX4_isUndefined_67 ?_
        refine Y_if_le (pc := 68) (tgt := 75) dX4_isUndefined_68 (by decide) (fun hc4 => ?_) (fun hc4 => ?_)
        · replace h := ifT hc4 h
          refine Y_iconst (pc := 75) (v := (0 : Int32)) dX4_isUndefined_75 rfl ?_
          refine VV.sub [3] rfl ?_
          exact b_X4_isUndefined_76  hP h
        · replace h := ifF hc4 h
          refine Y_iconst (pc := 71) (v := (1 : Int32)) dX4_isUndefined_71 rfl ?_
          refine Y_goto (pc := 72) (tgt := 76) dX4_isUndefined_72 (by decide) ?_
          refine VV.sub [3] rfl ?_
          exact b_X4_isUndefined_76  hP h
    · intro e9
      replace h := ifF (by rw [e9] <;> decide) h
      replace h := ifF (by rw [e9] <;> decide) h
      replace h := ifF (by rw [e9] <;> decide) h
      replace h := ifF (by rw [e9] <;> decide) h
      refine Y_dload_n (pc := 187) (j := 2) dX4_isUndefined_187 rfl rfl ?_
      obtain ⟨y2, qy2, h⟩ := bindE h
      have cy2 := v_X4_isEndless hP qy2
      refine C_S1r (pc := 188) (k' := k_X4_isEndless) dX4_isUndefined_188 w6_36 i_X4_isEndless (Nat.le_of_ble_eq_true rfl) (Nat.le_of_ble_eq_true rfl) (Nat.le_of_ble_eq_true rfl) (cy2) ?_
      have hPy2 := cy2.1.1
      refine Y_if_ne (pc := 191) (tgt := 200) dX4_isUndefined_191 (by decide) (fun hc10 => ?_) (fun hc10 => ?_)
      · replace h := ifF hc10 h
        refine Y_iconst (pc := 200) (v := (1 : Int32)) dX4_isUndefined_200 rfl ?_
        refine Y_goto (pc := 201) (tgt := 205) dX4_isUndefined_201 (by decide) ?_
        cases h
        exact Y_iret (pc := 205) rfl (nar_bo (by decide)) dX4_isUndefined_205 hPy2 ⟨rfl, rfl⟩
      · replace h := ifT hc10 h
        refine Y_dload_n (pc := 194) (j := 3) dX4_isUndefined_194 rfl rfl ?_
        refine Y_dconst0 (pc := 195) dX4_isUndefined_195 ?_
        refine Y_dcmp (pc := 196) dX4_isUndefined_196 ?_
        refine Y_if_ne (pc := 197) (tgt := 204) dX4_isUndefined_197 (by decide) (fun hc11 => ?_) (fun hc11 => ?_)
        · replace h := ifF hc11 h
          refine Y_iconst (pc := 204) (v := (0 : Int32)) dX4_isUndefined_204 rfl ?_
          cases h
          exact Y_iret (pc := 205) rfl (nar_bo (by decide)) dX4_isUndefined_205 hPy2 ⟨rfl, rfl⟩
        · replace h := ifT hc11 h
          refine Y_iconst (pc := 200) (v := (1 : Int32)) dX4_isUndefined_200 rfl ?_
          refine Y_goto (pc := 201) (tgt := 205) dX4_isUndefined_201 (by decide) ?_
          cases h
          exact Y_iret (pc := 205) rfl (nar_bo (by decide)) dX4_isUndefined_205 hPy2 ⟨rfl, rfl⟩
    · intro e9
      replace h := ifF (by rw [e9] <;> decide) h
      replace h := ifF (by rw [e9] <;> decide) h
      replace h := ifT (by rw [e9] <;> decide) h
      refine Y_iload (pc := 96) (j := 0) dX4_isUndefined_96 rfl ?_
      refine Y_if_eq (pc := 98) (tgt := 130) dX4_isUndefined_98 (by decide) (fun hc5 => ?_) (fun hc5 => ?_)
      · replace h := ifT hc5 h
        refine Y_iconst (pc := 130) (v := (0 : Int32)) dX4_isUndefined_130 rfl ?_
        cases h
        exact Y_iret (pc := 131) rfl (nar_bo (by decide)) dX4_isUndefined_131 hP ⟨rfl, rfl⟩
      · replace h := ifF hc5 h
        refine Y_dload_n (pc := 101) (j := 2) dX4_isUndefined_101 rfl rfl ?_
        refine Y_dconst0 (pc := 102) dX4_isUndefined_102 ?_
        refine Y_dcmp (pc := 103) dX4_isUndefined_103 ?_
        refine Y_if_le (pc := 104) (tgt := 111) dX4_isUndefined_104 (by decide) (fun hc6 => ?_) (fun hc6 => ?_)
        · replace h := ifT hc6 h
          refine Y_iconst (pc := 111) (v := (0 : Int32)) dX4_isUndefined_111 rfl ?_
          refine VV.sub [3] rfl ?_
          exact b_X4_isUndefined_112  hP h
        · replace h := ifF hc6 h
          refine Y_iconst (pc := 107) (v := (1 : Int32)) dX4_isUndefined_107 rfl ?_
          refine Y_goto (pc := 108) (tgt := 112) dX4_isUndefined_108 (by decide) ?_
          refine VV.sub [3] rfl ?_
          exact b_X4_isUndefined_112  hP h
    · intro e9
      replace h := ifF (by rw [e9] <;> decide) h
      replace h := ifF (by rw [e9] <;> decide) h
      replace h := ifF (by rw [e9] <;> decide) h
      replace h := ifF (by rw [e9] <;> decide) h
      refine Y_dload_n (pc := 187) (j := 2) dX4_isUndefined_187 rfl rfl ?_
      obtain ⟨y2, qy2, h⟩ := bindE h
      have cy2 := v_X4_isEndless hP qy2
      refine C_S1r (pc := 188) (k' := k_X4_isEndless) dX4_isUndefined_188 w6_36 i_X4_isEndless (Nat.le_of_ble_eq_true rfl) (Nat.le_of_ble_eq_true rfl) (Nat.le_of_ble_eq_true rfl) (cy2) ?_
      have hPy2 := cy2.1.1
      refine Y_if_ne (pc := 191) (tgt := 200) dX4_isUndefined_191 (by decide) (fun hc10 => ?_) (fun hc10 => ?_)
      · replace h := ifF hc10 h
        refine Y_iconst (pc := 200) (v := (1 : Int32)) dX4_isUndefined_200 rfl ?_
        refine Y_goto (pc := 201) (tgt := 205) dX4_isUndefined_201 (by decide) ?_
        cases h
        exact Y_iret (pc := 205) rfl (nar_bo (by decide)) dX4_isUndefined_205 hPy2 ⟨rfl, rfl⟩
      · replace h := ifT hc10 h
        refine Y_dload_n (pc := 194) (j := 3) dX4_isUndefined_194 rfl rfl ?_
        refine Y_dconst0 (pc := 195) dX4_isUndefined_195 ?_
        refine Y_dcmp (pc := 196) dX4_isUndefined_196 ?_
        refine Y_if_ne (pc := 197) (tgt := 204) dX4_isUndefined_197 (by decide) (fun hc11 => ?_) (fun hc11 => ?_)
        · replace h := ifF hc11 h
          refine Y_iconst (pc := 204) (v := (0 : Int32)) dX4_isUndefined_204 rfl ?_
          cases h
          exact Y_iret (pc := 205) rfl (nar_bo (by decide)) dX4_isUndefined_205 hPy2 ⟨rfl, rfl⟩
        · replace h := ifT hc11 h
          refine Y_iconst (pc := 200) (v := (1 : Int32)) dX4_isUndefined_200 rfl ?_
          refine Y_goto (pc := 201) (tgt := 205) dX4_isUndefined_201 (by decide) ?_
          cases h
          exact Y_iret (pc := 205) rfl (nar_bo (by decide)) dX4_isUndefined_205 hPy2 ⟨rfl, rfl⟩
    · intro e9
      replace h := ifF (by rw [e9] <;> decide) h
      replace h := ifF (by rw [e9] <;> decide) h
      replace h := ifF (by rw [e9] <;> decide) h
      replace h := ifT (by rw [e9] <;> decide) h
      refine Y_iload (pc := 164) (j := 0) dX4_isUndefined_164 rfl ?_
      refine Y_if_ne (pc := 166) (tgt := 181) dX4_isUndefined_166 (by decide) (fun hc7 => ?_) (fun hc7 => ?_)
      · replace h := ifF hc7 h
        refine Y_iconst (pc := 181) (v := (1 : Int32)) dX4_isUndefined_181 rfl ?_
        refine Y_goto (pc := 182) (tgt := 186) dX4_isUndefined_182 (by decide) ?_
        cases h
        exact Y_iret (pc := 186) rfl (nar_bo (by decide)) dX4_isUndefined_186 hP ⟨rfl, rfl⟩
      · replace h := ifT hc7 h
        refine Y_dload_n (pc := 169) (j := 2) dX4_isUndefined_169 rfl rfl ?_
        refine Y_dconst0 (pc := 170) dX4_isUndefined_170 ?_
        refine Y_dcmp (pc := 171) dX4_isUndefined_171 ?_
        refine Y_if_ne (pc := 172) (tgt := 185) dX4_isUndefined_172 (by decide) (fun hc8 => ?_) (fun hc8 => ?_)
        · replace h := ifF hc8 h
          refine Y_iconst (pc := 185) (v := (0 : Int32)) dX4_isUndefined_185 rfl ?_
          cases h
          exact Y_iret (pc := 186) rfl (nar_bo (by decide)) dX4_isUndefined_186 hP ⟨rfl, rfl⟩
        · replace h := ifT hc8 h
          refine Y_dload_n (pc := 175) (j := 3) dX4_isUndefined_175 rfl rfl ?_
          refine Y_dconst0 (pc := 176) dX4_isUndefined_176 ?_
          refine Y_dcmp (pc := 177) dX4_isUndefined_177 ?_
          refine Y_if_ne (pc := 178) (tgt := 185) dX4_isUndefined_178 (by decide) (fun hc9 => ?_) (fun hc9 => ?_)
          · replace h := ifF hc9 h
            refine Y_iconst (pc := 185) (v := (0 : Int32)) dX4_isUndefined_185 rfl ?_
            cases h
            exact Y_iret (pc := 186) rfl (nar_bo (by decide)) dX4_isUndefined_186 hP ⟨rfl, rfl⟩
          · replace h := ifT hc9 h
            refine Y_iconst (pc := 181) (v := (1 : Int32)) dX4_isUndefined_181 rfl ?_
            refine Y_goto (pc := 182) (tgt := 186) dX4_isUndefined_182 (by decide) ?_
            cases h
            exact Y_iret (pc := 186) rfl (nar_bo (by decide)) dX4_isUndefined_186 hP ⟨rfl, rfl⟩
  · intro n9
    replace h := ifF (xs_no n9 (by decide : ((42 : Int32), 132) ∈ _)) h
    replace h := ifF (xs_no n9 (by decide : ((43 : Int32), 60) ∈ _)) h
    replace h := ifF (xs_no n9 (by decide : ((45 : Int32), 96) ∈ _)) h
    replace h := ifF (xs_no n9 (by decide : ((47 : Int32), 164) ∈ _)) h
    refine Y_dload_n (pc := 187) (j := 2) dX4_isUndefined_187 rfl rfl ?_
    obtain ⟨y2, qy2, h⟩ := bindE h
    have cy2 := v_X4_isEndless hP qy2
    refine C_S1r (pc := 188) (k' := k_X4_isEndless) dX4_isUndefined_188 w6_36 i_X4_isEndless (Nat.le_of_ble_eq_true rfl) (Nat.le_of_ble_eq_true rfl) (Nat.le_of_ble_eq_true rfl) (cy2) ?_
    have hPy2 := cy2.1.1
    refine Y_if_ne (pc := 191) (tgt := 200) dX4_isUndefined_191 (by decide) (fun hc10 => ?_) (fun hc10 => ?_)
    · replace h := ifF hc10 h
      refine Y_iconst (pc := 200) (v := (1 : Int32)) dX4_isUndefined_200 rfl ?_
      refine Y_goto (pc := 201) (tgt := 205) dX4_isUndefined_201 (by decide) ?_
      cases h
      exact Y_iret (pc := 205) rfl (nar_bo (by decide)) dX4_isUndefined_205 hPy2 ⟨rfl, rfl⟩
    · replace h := ifT hc10 h
      refine Y_dload_n (pc := 194) (j := 3) dX4_isUndefined_194 rfl rfl ?_
      refine Y_dconst0 (pc := 195) dX4_isUndefined_195 ?_
      refine Y_dcmp (pc := 196) dX4_isUndefined_196 ?_
      refine Y_if_ne (pc := 197) (tgt := 204) dX4_isUndefined_197 (by decide) (fun hc11 => ?_) (fun hc11 => ?_)
      · replace h := ifF hc11 h
        refine Y_iconst (pc := 204) (v := (0 : Int32)) dX4_isUndefined_204 rfl ?_
        cases h
        exact Y_iret (pc := 205) rfl (nar_bo (by decide)) dX4_isUndefined_205 hPy2 ⟨rfl, rfl⟩
      · replace h := ifT hc11 h
        refine Y_iconst (pc := 200) (v := (1 : Int32)) dX4_isUndefined_200 rfl ?_
        refine Y_goto (pc := 201) (tgt := 205) dX4_isUndefined_201 (by decide) ?_
        cases h
        exact Y_iret (pc := 205) rfl (nar_bo (by decide)) dX4_isUndefined_205 hPy2 ⟨rfl, rfl⟩
theorem b_X4_isUndefined_18 {x0 : Int32} {x1 : UInt64} {x3 : UInt64} {M z} (hP : Lay M) (h : d_X4_isUndefined_18 x0 x1 x3 M = some z) : VV Lay k_X4_isUndefined 18 [(0, .int x0), (1, .double x1), (3, .double x3)] [] M z.2 (Qv (some (.int z.1)) z.2) xF := by
  unfold d_X4_isUndefined_18 at h
  refine Y_iconst (pc := 18) (v := (0 : Int32)) dX4_isUndefined_18 rfl ?_
  refine VV.sub [0, 1, 2] rfl ?_
  exact b_X4_isUndefined_19  hP h
theorem b_X4_isUndefined {x0 : Int32} {x1 : UInt64} {x2 : UInt64} {M z} (hP : Lay M) (h : d_X4_isUndefined x0 x1 x2 M = some z) : VV Lay k_X4_isUndefined 0 [(0, .int x0), (1, .double x1), (3, .double x2)] [] M z.2 (Qv (some (.int z.1)) z.2) xF := by
  unfold d_X4_isUndefined at h
  refine Y_dload_n (pc := 0) (j := 1) dX4_isUndefined_0 rfl rfl ?_
  obtain ⟨y1, qy1, h⟩ := bindE h
  have cy1 := v_X4_isEndless hP qy1
  refine C_S1r (pc := 1) (k' := k_X4_isEndless) dX4_isUndefined_1 w6_36 i_X4_isEndless (Nat.le_of_ble_eq_true rfl) (Nat.le_of_ble_eq_true rfl) (Nat.le_of_ble_eq_true rfl) (cy1) ?_
  have hPy1 := cy1.1.1
  refine Y_if_eq (pc := 4) (tgt := 18) dX4_isUndefined_4 (by decide) (fun hc1 => ?_) (fun hc1 => ?_)
  · replace h := ifT hc1 h
    refine VV.sub [0, 1, 2] rfl ?_
    exact b_X4_isUndefined_18  hPy1 h
  · replace h := ifF hc1 h
    refine Y_dload_n (pc := 7) (j := 2) dX4_isUndefined_7 rfl rfl ?_
    obtain ⟨y2, qy2, h⟩ := bindE h
    have cy2 := v_X4_isEndless hPy1 qy2
    refine C_S1r (pc := 8) (k' := k_X4_isEndless) dX4_isUndefined_8 w6_36 i_X4_isEndless (Nat.le_of_ble_eq_true rfl) (Nat.le_of_ble_eq_true rfl) (Nat.le_of_ble_eq_true rfl) (cy2) ?_
    have hPy2 := cy2.1.1
    refine Y_if_eq (pc := 11) (tgt := 18) dX4_isUndefined_11 (by decide) (fun hc2 => ?_) (fun hc2 => ?_)
    · replace h := ifT hc2 h
      refine VV.sub [0, 1, 2] rfl ?_
      exact b_X4_isUndefined_18  hPy2 h
    · replace h := ifF hc2 h
      refine Y_iconst (pc := 14) (v := (1 : Int32)) dX4_isUndefined_14 rfl ?_
      refine Y_goto (pc := 15) (tgt := 19) dX4_isUndefined_15 (by decide) ?_
      refine VV.sub [0, 1, 2] rfl ?_
      exact b_X4_isUndefined_19  hPy2 h
theorem v_X4_isUndefined {x0 : Int32} {x1 : UInt64} {x2 : UInt64} {M z} (hP : Lay M) (h : d_X4_isUndefined x0 x1 x2 M = some z) : CC Lay k_X4_isUndefined [.int x0, .double x1, .double x2] M z.2 (Qv (some (.int z.1)) z.2) xF :=
  CC.ofVV (by decide) rfl (Nat.le_of_ble_eq_true rfl) (b_X4_isUndefined hP h)
theorem b_X4_rest_131 {x0 : UInt64} {x4 : UInt64} {M z} (hP : Lay M) (h : d_X4_rest_131 x0 x4 M = some z) : VV Lay k_X4_rest 131 [(0, .double x0), (4, .double x4)] [] M z.2 (Qv (some (.double z.1)) z.2) xF := by
  unfold d_X4_rest_131 at h
  refine Y_dload_n (pc := 131) (j := 0) dX4_rest_131 rfl rfl ?_
  refine Y_dconst0 (pc := 132) dX4_rest_132 ?_
  refine Y_dcmp (pc := 133) dX4_rest_133 ?_
  refine Y_if_ge (pc := 134) (tgt := 143) dX4_rest_134 (by decide) (fun hc1 => ?_) (fun hc1 => ?_)
  · replace h := ifT hc1 h
    refine Y_dload (pc := 143) (j := 1) dX4_rest_143 rfl ?_
    cases h
    exact Y_dret (pc := 145) rfl dX4_rest_145 hP ⟨rfl, rfl⟩
  · replace h := ifF hc1 h
    refine Y_dload (pc := 137) (j := 1) dX4_rest_137 rfl ?_
    refine Y_dneg (pc := 139) dX4_rest_139 ?_
    refine Y_goto (pc := 140) (tgt := 145) dX4_rest_140 (by decide) ?_
    cases h
    exact Y_dret (pc := 145) rfl dX4_rest_145 hP ⟨rfl, rfl⟩
theorem b_X4_rest_115 {k81 : (UInt64 × UInt64 × Int32) → Mem → Option (UInt64 × Mem)} {x0 : UInt64} {x6 : UInt64} {x8 : UInt64} {x10 : Int32} {s0 : UInt64} {M z} (hk81 : ∀ (a : (UInt64 × UInt64 × Int32)) (M : Mem) (z : UInt64 × Mem), Lay M → k81 a M = some z → VV Lay k_X4_rest 81 [(0, .double x0), (4, .double a.1), (6, .double x6), (8, .double a.2.1), (10, .int a.2.2)] [] M z.2 (Qv (some (.double z.1)) z.2) xF) (hP : Lay M) (h : d_X4_rest_115 k81 x0 x6 x8 x10 s0 M = some z) : VV Lay k_X4_rest 115 [(0, .double x0), (6, .double x6), (8, .double x8), (10, .int x10)] [.double s0] M z.2 (Qv (some (.double z.1)) z.2) xF := by
  unfold d_X4_rest_115 at h
  refine Y_dstore (pc := 115) (lv1 := [(4, .double s0), (0, .double x0), (6, .double x6), (8, .double x8), (10, .int x10)]) dX4_rest_115 (by decide) rfl ?_
  refine Y_dload (pc := 117) (j := 3) dX4_rest_117 rfl ?_
  refine Y_ldc2d (pc := 119) (by decide) dX4_rest_119 w6_47 ?_
  refine Y_ddiv (pc := 122) dX4_rest_122 ?_
  obtain ⟨b1, eb1, h⟩ := bndE h
  refine VV.topD eb1 ?_
  refine Y_dstore (pc := 123) (lv1 := [(8, .double b1), (4, .double s0), (0, .double x0), (6, .double x6), (10, .int x10)]) dX4_rest_123 (by decide) rfl ?_
  obtain ⟨b2, eb2, h⟩ := bndE h
  refine Y_iinc (pc := 125) (j := 4) (v := b2) (lv1 := [(10, .int b2), (8, .double b1), (4, .double s0), (0, .double x0), (6, .double x6)]) dX4_rest_125 rfl eb2.symm (by decide) rfl ?_
  refine Y_goto (pc := 128) (tgt := 81) dX4_rest_128 (by decide) ?_
  refine VV.sub [3, 2, 4, 1, 0] rfl ?_
  exact hk81 _ _ _ hP h
theorem b_X4_rest_81b {k81 : (UInt64 × UInt64 × Int32) → Mem → Option (UInt64 × Mem)} {x0 : UInt64} {x4 : UInt64} {x6 : UInt64} {x8 : UInt64} {x10 : Int32} {M z} (hk81 : ∀ (a : (UInt64 × UInt64 × Int32)) (M : Mem) (z : UInt64 × Mem), Lay M → k81 a M = some z → VV Lay k_X4_rest 81 [(0, .double x0), (4, .double a.1), (6, .double x6), (8, .double a.2.1), (10, .int a.2.2)] [] M z.2 (Qv (some (.double z.1)) z.2) xF) (hP : Lay M) (h : d_X4_rest_81b k81 x0 x4 x6 x8 x10 M = some z) : VV Lay k_X4_rest 81 [(0, .double x0), (4, .double x4), (6, .double x6), (8, .double x8), (10, .int x10)] [] M z.2 (Qv (some (.double z.1)) z.2) xF := by
  unfold d_X4_rest_81b at h
  refine Y_iload (pc := 81) (j := 4) dX4_rest_81 rfl ?_
  refine Y_sipush (pc := 83) (v := (3000 : Int32)) dX4_rest_83 rfl ?_
  refine Y_icmp_ge (pc := 86) (tgt := 131) dX4_rest_86 (by decide) (fun hc1 => ?_) (fun hc1 => ?_)
  · replace h := ifT hc1 h
    refine VV.sub [0, 1] rfl ?_
    exact b_X4_rest_131  hP h
  · replace h := ifF hc1 h
    refine Y_dload (pc := 89) (j := 3) dX4_rest_89 rfl ?_
    refine Y_dload (pc := 91) (j := 2) dX4_rest_91 rfl ?_
    refine Y_dcmp (pc := 93) dX4_rest_93 ?_
    refine Y_if_lt (pc := 94) (tgt := 131) dX4_rest_94 (by decide) (fun hc2 => ?_) (fun hc2 => ?_)
    · replace h := ifT hc2 h
      refine VV.sub [0, 1] rfl ?_
      exact b_X4_rest_131  hP h
    · replace h := ifF hc2 h
      refine Y_dload (pc := 97) (j := 1) dX4_rest_97 rfl ?_
      refine Y_dload (pc := 99) (j := 3) dX4_rest_99 rfl ?_
      refine Y_dcmp (pc := 101) dX4_rest_101 ?_
      refine Y_if_lt (pc := 102) (tgt := 113) dX4_rest_102 (by decide) (fun hc3 => ?_) (fun hc3 => ?_)
      · replace h := ifT hc3 h
        refine Y_dload (pc := 113) (j := 1) dX4_rest_113 rfl ?_
        refine VV.sub [0, 2, 3, 4] rfl ?_
        exact b_X4_rest_115 hk81 hP h
      · replace h := ifF hc3 h
        refine Y_dload (pc := 105) (j := 1) dX4_rest_105 rfl ?_
        refine Y_dload (pc := 107) (j := 3) dX4_rest_107 rfl ?_
        refine Y_dsub (pc := 109) dX4_rest_109 ?_
        refine Y_goto (pc := 110) (tgt := 115) dX4_rest_110 (by decide) ?_
        refine VV.sub [0, 2, 3, 4] rfl ?_
        exact b_X4_rest_115 hk81 hP h
theorem b_X4_rest_81 {x0 : UInt64} {x6 : UInt64} (n : Nat) : ∀ (a : (UInt64 × UInt64 × Int32)) (M : Mem) (z : UInt64 × Mem), d_X4_rest_81 x0 x6 n a M = some z → Lay M → VV Lay k_X4_rest 81 [(0, .double x0), (4, .double a.1), (6, .double x6), (8, .double a.2.1), (10, .int a.2.2)] [] M z.2 (Qv (some (.double z.1)) z.2) xF :=
  lp_ind (G := fun (a : (UInt64 × UInt64 × Int32)) (M : Mem) (z : UInt64 × Mem) => Lay M → VV Lay k_X4_rest 81 [(0, .double x0), (4, .double a.1), (6, .double x6), (8, .double a.2.1), (10, .int a.2.2)] [] M z.2 (Qv (some (.double z.1)) z.2) xF) (fun k hk a M z h hP => b_X4_rest_81b  (fun a M z hP h => hk a M z h hP) hP h) n
theorem b_X4_rest_78 {x0 : UInt64} {x4 : UInt64} {x6 : UInt64} {x8 : UInt64} {M z} (hP : Lay M) (h : d_X4_rest_78 x0 x4 x6 x8 M = some z) : VV Lay k_X4_rest 78 [(0, .double x0), (4, .double x4), (6, .double x6), (8, .double x8)] [] M z.2 (Qv (some (.double z.1)) z.2) xF := by
  unfold d_X4_rest_78 at h
  refine Y_iconst (pc := 78) (v := (0 : Int32)) dX4_rest_78 rfl ?_
  refine Y_istore (pc := 79) (lv1 := [(10, .int (0 : Int32)), (0, .double x0), (4, .double x4), (6, .double x6), (8, .double x8)]) dX4_rest_79 (by decide) rfl ?_
  refine VV.sub [1, 2, 3, 4, 0] rfl ?_
  exact b_X4_rest_81  fuel _ _ _ h hP
theorem b_X4_rest_45b {k45 : (UInt64 × Int32) → Mem → Option (UInt64 × Mem)} {x0 : UInt64} {x4 : UInt64} {x6 : UInt64} {x8 : UInt64} {x10 : Int32} {M z} (hk45 : ∀ (a : (UInt64 × Int32)) (M : Mem) (z : UInt64 × Mem), Lay M → k45 a M = some z → VV Lay k_X4_rest 45 [(0, .double x0), (4, .double x4), (6, .double x6), (8, .double a.1), (10, .int a.2)] [] M z.2 (Qv (some (.double z.1)) z.2) xF) (hP : Lay M) (h : d_X4_rest_45b k45 x0 x4 x6 x8 x10 M = some z) : VV Lay k_X4_rest 45 [(0, .double x0), (4, .double x4), (6, .double x6), (8, .double x8), (10, .int x10)] [] M z.2 (Qv (some (.double z.1)) z.2) xF := by
  unfold d_X4_rest_45b at h
  refine Y_iload (pc := 45) (j := 4) dX4_rest_45 rfl ?_
  refine Y_sipush (pc := 47) (v := (3000 : Int32)) dX4_rest_47 rfl ?_
  refine Y_icmp_ge (pc := 50) (tgt := 78) dX4_rest_50 (by decide) (fun hc1 => ?_) (fun hc1 => ?_)
  · replace h := ifT hc1 h
    refine VV.sub [0, 1, 2, 3] rfl ?_
    exact b_X4_rest_78  hP h
  · replace h := ifF hc1 h
    refine Y_dload (pc := 53) (j := 3) dX4_rest_53 rfl ?_
    refine Y_dload (pc := 55) (j := 1) dX4_rest_55 rfl ?_
    refine Y_dload (pc := 57) (j := 3) dX4_rest_57 rfl ?_
    refine Y_dsub (pc := 59) dX4_rest_59 ?_
    refine Y_dcmp (pc := 60) dX4_rest_60 ?_
    refine Y_if_gt (pc := 61) (tgt := 78) dX4_rest_61 (by decide) (fun hc2 => ?_) (fun hc2 => ?_)
    · replace h := ifT hc2 h
      refine VV.sub [0, 1, 2, 3] rfl ?_
      exact b_X4_rest_78  hP h
    · replace h := ifF hc2 h
      refine Y_dload (pc := 64) (j := 3) dX4_rest_64 rfl ?_
      refine Y_ldc2d (pc := 66) (by decide) dX4_rest_66 w6_47 ?_
      refine Y_dmul (pc := 69) dX4_rest_69 ?_
      obtain ⟨b1, eb1, h⟩ := bndE h
      refine VV.topD eb1 ?_
      refine Y_dstore (pc := 70) (lv1 := [(8, .double b1), (0, .double x0), (4, .double x4), (6, .double x6), (10, .int x10)]) dX4_rest_70 (by decide) rfl ?_
      obtain ⟨b2, eb2, h⟩ := bndE h
      refine Y_iinc (pc := 72) (j := 4) (v := b2) (lv1 := [(10, .int b2), (8, .double b1), (0, .double x0), (4, .double x4), (6, .double x6)]) dX4_rest_72 rfl eb2.symm (by decide) rfl ?_
      refine Y_goto (pc := 75) (tgt := 45) dX4_rest_75 (by decide) ?_
      refine VV.sub [2, 3, 4, 1, 0] rfl ?_
      exact hk45 _ _ _ hP h
theorem b_X4_rest_45 {x0 : UInt64} {x4 : UInt64} {x6 : UInt64} (n : Nat) : ∀ (a : (UInt64 × Int32)) (M : Mem) (z : UInt64 × Mem), d_X4_rest_45 x0 x4 x6 n a M = some z → Lay M → VV Lay k_X4_rest 45 [(0, .double x0), (4, .double x4), (6, .double x6), (8, .double a.1), (10, .int a.2)] [] M z.2 (Qv (some (.double z.1)) z.2) xF :=
  lp_ind (G := fun (a : (UInt64 × Int32)) (M : Mem) (z : UInt64 × Mem) => Lay M → VV Lay k_X4_rest 45 [(0, .double x0), (4, .double x4), (6, .double x6), (8, .double a.1), (10, .int a.2)] [] M z.2 (Qv (some (.double z.1)) z.2) xF) (fun k hk a M z h hP => b_X4_rest_45b  (fun a M z hP h => hk a M z h hP) hP h) n
theorem b_X4_rest_26 {x0 : UInt64} {x4 : UInt64} {s0 : UInt64} {M z} (hP : Lay M) (h : d_X4_rest_26 x0 x4 s0 M = some z) : VV Lay k_X4_rest 26 [(0, .double x0), (4, .double x4)] [.double s0] M z.2 (Qv (some (.double z.1)) z.2) xF := by
  unfold d_X4_rest_26 at h
  refine Y_dstore (pc := 26) (lv1 := [(6, .double s0), (0, .double x0), (4, .double x4)]) dX4_rest_26 (by decide) rfl ?_
  refine Y_dload (pc := 28) (j := 2) dX4_rest_28 rfl ?_
  refine Y_dload (pc := 30) (j := 0) dX4_rest_30 rfl ?_
  refine Y_dcmp (pc := 32) dX4_rest_32 ?_
  refine Y_if_ge (pc := 33) (tgt := 38) dX4_rest_33 (by decide) (fun hc1 => ?_) (fun hc1 => ?_)
  · replace h := ifT hc1 h
    refine Y_dload (pc := 38) (j := 0) dX4_rest_38 rfl ?_
    refine Y_dstore (pc := 40) (lv1 := [(8, .double s0), (6, .double s0), (0, .double x0), (4, .double x4)]) dX4_rest_40 (by decide) rfl ?_
    refine Y_iconst (pc := 42) (v := (0 : Int32)) dX4_rest_42 rfl ?_
    refine Y_istore (pc := 43) (lv1 := [(10, .int (0 : Int32)), (8, .double s0), (6, .double s0), (0, .double x0), (4, .double x4)]) dX4_rest_43 (by decide) rfl ?_
    refine VV.sub [3, 4, 2, 1, 0] rfl ?_
    exact b_X4_rest_45  fuel _ _ _ h hP
  · replace h := ifF hc1 h
    refine Y_dload_n (pc := 36) (j := 1) dX4_rest_36 rfl rfl ?_
    cases h
    exact Y_dret (pc := 37) rfl dX4_rest_37 hP ⟨rfl, rfl⟩
theorem b_X4_rest_12 {x0 : UInt64} {x2 : UInt64} {s0 : UInt64} {M z} (hP : Lay M) (h : d_X4_rest_12 x0 x2 s0 M = some z) : VV Lay k_X4_rest 12 [(0, .double x0), (2, .double x2)] [.double s0] M z.2 (Qv (some (.double z.1)) z.2) xF := by
  unfold d_X4_rest_12 at h
  refine Y_dstore (pc := 12) (lv1 := [(4, .double s0), (0, .double x0), (2, .double x2)]) dX4_rest_12 (by decide) rfl ?_
  refine Y_dload_n (pc := 14) (j := 2) dX4_rest_14 rfl rfl ?_
  refine Y_dconst0 (pc := 15) dX4_rest_15 ?_
  refine Y_dcmp (pc := 16) dX4_rest_16 ?_
  refine Y_if_ge (pc := 17) (tgt := 25) dX4_rest_17 (by decide) (fun hc1 => ?_) (fun hc1 => ?_)
  · replace h := ifT hc1 h
    refine Y_dload_n (pc := 25) (j := 2) dX4_rest_25 rfl rfl ?_
    refine VV.sub [1, 0] rfl ?_
    exact b_X4_rest_26  hP h
  · replace h := ifF hc1 h
    refine Y_dload_n (pc := 20) (j := 2) dX4_rest_20 rfl rfl ?_
    refine Y_dneg (pc := 21) dX4_rest_21 ?_
    refine Y_goto (pc := 22) (tgt := 26) dX4_rest_22 (by decide) ?_
    refine VV.sub [1, 0] rfl ?_
    exact b_X4_rest_26  hP h
theorem b_X4_rest {x0 : UInt64} {x1 : UInt64} {M z} (hP : Lay M) (h : d_X4_rest x0 x1 M = some z) : VV Lay k_X4_rest 0 [(0, .double x0), (2, .double x1)] [] M z.2 (Qv (some (.double z.1)) z.2) xF := by
  unfold d_X4_rest at h
  refine Y_dload_n (pc := 0) (j := 0) dX4_rest_0 rfl rfl ?_
  refine Y_dconst0 (pc := 1) dX4_rest_1 ?_
  refine Y_dcmp (pc := 2) dX4_rest_2 ?_
  refine Y_if_ge (pc := 3) (tgt := 11) dX4_rest_3 (by decide) (fun hc1 => ?_) (fun hc1 => ?_)
  · replace h := ifT hc1 h
    refine Y_dload_n (pc := 11) (j := 0) dX4_rest_11 rfl rfl ?_
    refine VV.sub [0, 1] rfl ?_
    exact b_X4_rest_12  hP h
  · replace h := ifF hc1 h
    refine Y_dload_n (pc := 6) (j := 0) dX4_rest_6 rfl rfl ?_
    refine Y_dneg (pc := 7) dX4_rest_7 ?_
    refine Y_goto (pc := 8) (tgt := 12) dX4_rest_8 (by decide) ?_
    refine VV.sub [0, 1] rfl ?_
    exact b_X4_rest_12  hP h
theorem v_X4_rest {x0 : UInt64} {x1 : UInt64} {M z} (hP : Lay M) (h : d_X4_rest x0 x1 M = some z) : CC Lay k_X4_rest [.double x0, .double x1] M z.2 (Qv (some (.double z.1)) z.2) xF :=
  CC.ofVV (by decide) rfl (Nat.le_of_ble_eq_true rfl) (b_X4_rest hP h)
theorem b_X4_ofFloats {x0 : Int32} {x1 : UInt64} {x2 : UInt64} {M z} (hP : Lay M) (h : d_X4_ofFloats x0 x1 x2 M = some z) : VV Lay k_X4_ofFloats 0 [(0, .int x0), (1, .double x1), (3, .double x2)] [] M z.2 (Qv (some (.double z.1)) z.2) xF := by
  unfold d_X4_ofFloats at h
  refine Y_iload_n (pc := 0) (j := 0) dX4_ofFloats_0 rfl rfl ?_
  refine Y_table (pc := 1) dX4_ofFloats_1 [(42, 48), (43, 40), (44, 56), (45, 44), (46, 56), (47, 52)] 56 (by decide) (tab_ok (by decide +kernel)) (by decide) ?_ ?_
  · refine xs_cons ?_ <| xs_cons ?_ <| xs_cons ?_ <| xs_cons ?_ <| xs_cons ?_ <| xs_cons ?_ <| xs_nil
    · intro e9
      replace h := ifT (by rw [e9] <;> decide) h
      refine Y_dload_n (pc := 48) (j := 1) dX4_ofFloats_48 rfl rfl ?_
      refine Y_dload_n (pc := 49) (j := 2) dX4_ofFloats_49 rfl rfl ?_
      refine Y_dmul (pc := 50) dX4_ofFloats_50 ?_
      cases h
      exact Y_dret (pc := 51) rfl dX4_ofFloats_51 hP ⟨rfl, rfl⟩
    · intro e9
      replace h := ifF (by rw [e9] <;> decide) h
      replace h := ifT (by rw [e9] <;> decide) h
      refine Y_dload_n (pc := 40) (j := 1) dX4_ofFloats_40 rfl rfl ?_
      refine Y_dload_n (pc := 41) (j := 2) dX4_ofFloats_41 rfl rfl ?_
      refine Y_dadd (pc := 42) dX4_ofFloats_42 ?_
      cases h
      exact Y_dret (pc := 43) rfl dX4_ofFloats_43 hP ⟨rfl, rfl⟩
    · intro e9
      replace h := ifF (by rw [e9] <;> decide) h
      replace h := ifF (by rw [e9] <;> decide) h
      replace h := ifF (by rw [e9] <;> decide) h
      replace h := ifF (by rw [e9] <;> decide) h
      refine Y_dload_n (pc := 56) (j := 1) dX4_ofFloats_56 rfl rfl ?_
      refine Y_dload_n (pc := 57) (j := 2) dX4_ofFloats_57 rfl rfl ?_
      obtain ⟨y1, qy1, h⟩ := bindE h
      have cy1 := v_X4_rest hP qy1
      refine C_S2r (pc := 58) (k' := k_X4_rest) dX4_ofFloats_58 w6_44 i_X4_rest (Nat.le_of_ble_eq_true rfl) (Nat.le_of_ble_eq_true rfl) (Nat.le_of_ble_eq_true rfl) (cy1) ?_
      have hPy1 := cy1.1.1
      cases h
      exact Y_dret (pc := 61) rfl dX4_ofFloats_61 hPy1 ⟨rfl, rfl⟩
    · intro e9
      replace h := ifF (by rw [e9] <;> decide) h
      replace h := ifF (by rw [e9] <;> decide) h
      replace h := ifT (by rw [e9] <;> decide) h
      refine Y_dload_n (pc := 44) (j := 1) dX4_ofFloats_44 rfl rfl ?_
      refine Y_dload_n (pc := 45) (j := 2) dX4_ofFloats_45 rfl rfl ?_
      refine Y_dsub (pc := 46) dX4_ofFloats_46 ?_
      cases h
      exact Y_dret (pc := 47) rfl dX4_ofFloats_47 hP ⟨rfl, rfl⟩
    · intro e9
      replace h := ifF (by rw [e9] <;> decide) h
      replace h := ifF (by rw [e9] <;> decide) h
      replace h := ifF (by rw [e9] <;> decide) h
      replace h := ifF (by rw [e9] <;> decide) h
      refine Y_dload_n (pc := 56) (j := 1) dX4_ofFloats_56 rfl rfl ?_
      refine Y_dload_n (pc := 57) (j := 2) dX4_ofFloats_57 rfl rfl ?_
      obtain ⟨y1, qy1, h⟩ := bindE h
      have cy1 := v_X4_rest hP qy1
      refine C_S2r (pc := 58) (k' := k_X4_rest) dX4_ofFloats_58 w6_44 i_X4_rest (Nat.le_of_ble_eq_true rfl) (Nat.le_of_ble_eq_true rfl) (Nat.le_of_ble_eq_true rfl) (cy1) ?_
      have hPy1 := cy1.1.1
      cases h
      exact Y_dret (pc := 61) rfl dX4_ofFloats_61 hPy1 ⟨rfl, rfl⟩
    · intro e9
      replace h := ifF (by rw [e9] <;> decide) h
      replace h := ifF (by rw [e9] <;> decide) h
      replace h := ifF (by rw [e9] <;> decide) h
      replace h := ifT (by rw [e9] <;> decide) h
      refine Y_dload_n (pc := 52) (j := 1) dX4_ofFloats_52 rfl rfl ?_
      refine Y_dload_n (pc := 53) (j := 2) dX4_ofFloats_53 rfl rfl ?_
      refine Y_ddiv (pc := 54) dX4_ofFloats_54 ?_
      cases h
      exact Y_dret (pc := 55) rfl dX4_ofFloats_55 hP ⟨rfl, rfl⟩
  · intro n9
    replace h := ifF (xs_no n9 (by decide : ((42 : Int32), 48) ∈ _)) h
    replace h := ifF (xs_no n9 (by decide : ((43 : Int32), 40) ∈ _)) h
    replace h := ifF (xs_no n9 (by decide : ((45 : Int32), 44) ∈ _)) h
    replace h := ifF (xs_no n9 (by decide : ((47 : Int32), 52) ∈ _)) h
    refine Y_dload_n (pc := 56) (j := 1) dX4_ofFloats_56 rfl rfl ?_
    refine Y_dload_n (pc := 57) (j := 2) dX4_ofFloats_57 rfl rfl ?_
    obtain ⟨y1, qy1, h⟩ := bindE h
    have cy1 := v_X4_rest hP qy1
    refine C_S2r (pc := 58) (k' := k_X4_rest) dX4_ofFloats_58 w6_44 i_X4_rest (Nat.le_of_ble_eq_true rfl) (Nat.le_of_ble_eq_true rfl) (Nat.le_of_ble_eq_true rfl) (cy1) ?_
    have hPy1 := cy1.1.1
    cases h
    exact Y_dret (pc := 61) rfl dX4_ofFloats_61 hPy1 ⟨rfl, rfl⟩
theorem v_X4_ofFloats {x0 : Int32} {x1 : UInt64} {x2 : UInt64} {M z} (hP : Lay M) (h : d_X4_ofFloats x0 x1 x2 M = some z) : CC Lay k_X4_ofFloats [.int x0, .double x1, .double x2] M z.2 (Qv (some (.double z.1)) z.2) xF :=
  CC.ofVV (by decide) rfl (Nat.le_of_ble_eq_true rfl) (b_X4_ofFloats hP h)
theorem b_X8_putReal {o : Nat} {x1 : Int32} {x2 : UInt64} {M z} (ho : o = 18 ∨ o = 28) (hP : Lay M) (h : d_X8_putReal o x1 x2 M = some z) : VV Lay k_X8_putReal 0 [(0, .ref (o + 1)), (1, .int x1), (2, .double x2)] [] M z.2 (Qv (none) z.2) xF := by
  unfold d_X8_putReal at h
  refine Y_aload_n (pc := 0) (j := 0) dX8_putReal_0 rfl rfl ?_
  refine Y_iload_n (pc := 1) (j := 1) dX8_putReal_1 rfl rfl ?_
  refine Y_bipush (pc := 2) (v := (102 : Int32)) dX8_putReal_2 rfl ?_
  refine Y_iconst (pc := 4) (v := (0 : Int32)) dX8_putReal_4 rfl ?_
  obtain ⟨y1, qy1, h⟩ := bindE h
  have cy1 := v_X8_put ho hP qy1
  refine C_V3o (pc := 5) (k' := k_X8_put) dX8_putReal_5 w5_238 i_X8_put (lo_1 hP ho) ⟨Nat.le_of_ble_eq_true rfl, Nat.le_of_ble_eq_true rfl⟩ rfl (Nat.le_of_ble_eq_true rfl) (Nat.le_of_ble_eq_true rfl) (Nat.le_of_ble_eq_true rfl) (cy1) ?_
  have hPy1 := cy1.1.1
  refine Y_aload_n (pc := 8) (j := 0) dX8_putReal_8 rfl rfl ?_
  refine Z_getr (pc := 9) dX8_putReal_9 w1_154 (lo_1 hPy1 ho) fr_8_2 (lor_1_2 hPy1 ho) ?_
  refine Y_iload_n (pc := 12) (j := 1) dX8_putReal_12 rfl rfl ?_
  refine Y_dload_n (pc := 13) (j := 2) dX8_putReal_13 rfl rfl ?_
  obtain ⟨hb1, h⟩ := okE h
  refine Y_dast (pc := 14) dX8_putReal_14 (lo_4 hPy1 ho) (lon_4 hPy1 ho) hb1 ?_
  obtain ⟨M1, eM1, h⟩ := bndE h
  refine VV.mem eM1 ?_
  have hP1 := hPy1.wD eM1
  cases h
  exact Y_vret (pc := 15) rfl dX8_putReal_15 hP1 ⟨rfl, rfl⟩
theorem v_X8_putReal {o : Nat} {x1 : Int32} {x2 : UInt64} {M z} (ho : o = 18 ∨ o = 28) (hP : Lay M) (h : d_X8_putReal o x1 x2 M = some z) : CC Lay k_X8_putReal [.ref (o + 1), .int x1, .double x2] M z.2 (Qv (none) z.2) xF :=
  CC.ofVV (by decide) rfl (Nat.le_of_ble_eq_true rfl) (b_X8_putReal ho hP h)
theorem b_X8_combineReals_41 {o : Nat} {x2 : Int32} {M z} (ho : o = 18 ∨ o = 28) (hP : Lay M) (h : d_X8_combineReals_41 o x2 M = some z) : VV Lay k_X8_combineReals 41 [(0, .ref (o + 1)), (2, .int x2)] [] M z.2 (Qv (none) z.2) xF := by
  unfold d_X8_combineReals_41 at h
  refine Y_aload_n (pc := 41) (j := 0) dX8_combineReals_41 rfl rfl ?_
  refine Y_iload_n (pc := 42) (j := 1) dX8_combineReals_42 rfl rfl ?_
  refine Y_bipush (pc := 43) (v := (102 : Int32)) dX8_combineReals_43 rfl ?_
  refine Y_iconst (pc := 45) (v := (1 : Int32)) dX8_combineReals_45 rfl ?_
  obtain ⟨y1, qy1, h⟩ := bindE h
  have cy1 := v_X8_put ho hP qy1
  refine C_V3o (pc := 46) (k' := k_X8_put) dX8_combineReals_46 w5_238 i_X8_put (lo_1 hP ho) ⟨Nat.le_of_ble_eq_true rfl, Nat.le_of_ble_eq_true rfl⟩ rfl (Nat.le_of_ble_eq_true rfl) (Nat.le_of_ble_eq_true rfl) (Nat.le_of_ble_eq_true rfl) (cy1) ?_
  have hPy1 := cy1.1.1
  refine Y_goto (pc := 49) (tgt := 65) dX8_combineReals_49 (by decide) ?_
  cases h
  exact Y_vret (pc := 65) rfl dX8_combineReals_65 hPy1 ⟨rfl, rfl⟩
theorem b_X8_combineReals {o : Nat} {x1 : Int32} {x2 : Int32} {x3 : Int32} {M z} (ho : o = 18 ∨ o = 28) (hP : Lay M) (h : d_X8_combineReals o x1 x2 x3 M = some z) : VV Lay k_X8_combineReals 0 [(0, .ref (o + 1)), (1, .int x1), (2, .int x2), (3, .int x3)] [] M z.2 (Qv (none) z.2) xF := by
  unfold d_X8_combineReals at h
  refine Y_aload_n (pc := 0) (j := 0) dX8_combineReals_0 rfl rfl ?_
  refine Y_iload_n (pc := 1) (j := 2) dX8_combineReals_1 rfl rfl ?_
  obtain ⟨y1, qy1, h⟩ := bindE h
  have cy1 := v_X8_realAt ho hP qy1
  refine C_V1r (pc := 2) (k' := k_X8_realAt) dX8_combineReals_2 w6_8 i_X8_realAt (lo_1 hP ho) ⟨Nat.le_of_ble_eq_true rfl, Nat.le_of_ble_eq_true rfl⟩ rfl (Nat.le_of_ble_eq_true rfl) (Nat.le_of_ble_eq_true rfl) (Nat.le_of_ble_eq_true rfl) (cy1) ?_
  have hPy1 := cy1.1.1
  refine Y_dstore (pc := 5) (lv1 := [(4, .double y1.1), (0, .ref (o + 1)), (1, .int x1), (2, .int x2), (3, .int x3)]) dX8_combineReals_5 (by decide) rfl ?_
  refine Y_aload_n (pc := 7) (j := 1) dX8_combineReals_7 rfl rfl ?_
  refine Y_iload_n (pc := 8) (j := 4) dX8_combineReals_8 rfl rfl ?_
  obtain ⟨y2, qy2, h⟩ := bindE h
  have cy2 := v_X8_realAt ho hPy1 qy2
  refine C_V1r (pc := 9) (k' := k_X8_realAt) dX8_combineReals_9 w6_8 i_X8_realAt (lo_1 hPy1 ho) ⟨Nat.le_of_ble_eq_true rfl, Nat.le_of_ble_eq_true rfl⟩ rfl (Nat.le_of_ble_eq_true rfl) (Nat.le_of_ble_eq_true rfl) (Nat.le_of_ble_eq_true rfl) (cy2) ?_
  have hPy2 := cy2.1.1
  refine Y_dstore (pc := 12) (lv1 := [(6, .double y2.1), (4, .double y1.1), (0, .ref (o + 1)), (1, .int x1), (2, .int x2), (3, .int x3)]) dX8_combineReals_12 (by decide) rfl ?_
  refine Y_aload_n (pc := 14) (j := 2) dX8_combineReals_14 rfl rfl ?_
  refine Y_iload_n (pc := 15) (j := 4) dX8_combineReals_15 rfl rfl ?_
  obtain ⟨y3, qy3, h⟩ := bindE h
  have cy3 := v_X8_isUndefined ho hPy2 qy3
  refine C_V1r (pc := 16) (k' := k_X8_isUndefined) dX8_combineReals_16 w5_131 i_X8_isUndefined (lo_1 hPy2 ho) ⟨Nat.le_of_ble_eq_true rfl, Nat.le_of_ble_eq_true rfl⟩ rfl (Nat.le_of_ble_eq_true rfl) (Nat.le_of_ble_eq_true rfl) (Nat.le_of_ble_eq_true rfl) (cy3) ?_
  have hPy3 := cy3.1.1
  refine Y_if_ne (pc := 19) (tgt := 41) dX8_combineReals_19 (by decide) (fun hc1 => ?_) (fun hc1 => ?_)
  · replace h := ifF hc1 h
    refine VV.sub [2, 4] rfl ?_
    exact b_X8_combineReals_41 ho hPy3 h
  · replace h := ifT hc1 h
    refine Y_aload_n (pc := 22) (j := 2) dX8_combineReals_22 rfl rfl ?_
    refine Y_iload_n (pc := 23) (j := 5) dX8_combineReals_23 rfl rfl ?_
    obtain ⟨y4, qy4, h⟩ := bindE h
    have cy4 := v_X8_isUndefined ho hPy3 qy4
    refine C_V1r (pc := 24) (k' := k_X8_isUndefined) dX8_combineReals_24 w5_131 i_X8_isUndefined (lo_1 hPy3 ho) ⟨Nat.le_of_ble_eq_true rfl, Nat.le_of_ble_eq_true rfl⟩ rfl (Nat.le_of_ble_eq_true rfl) (Nat.le_of_ble_eq_true rfl) (Nat.le_of_ble_eq_true rfl) (cy4) ?_
    have hPy4 := cy4.1.1
    refine Y_if_ne (pc := 27) (tgt := 41) dX8_combineReals_27 (by decide) (fun hc2 => ?_) (fun hc2 => ?_)
    · replace h := ifF hc2 h
      refine VV.sub [2, 4] rfl ?_
      exact b_X8_combineReals_41 ho hPy4 h
    · replace h := ifT hc2 h
      refine Y_iload_n (pc := 30) (j := 3) dX8_combineReals_30 rfl rfl ?_
      refine Y_dload (pc := 31) (j := 1) dX8_combineReals_31 rfl ?_
      refine Y_dload (pc := 33) (j := 0) dX8_combineReals_33 rfl ?_
      obtain ⟨y5, qy5, h⟩ := bindE h
      have cy5 := v_X4_isUndefined hPy4 qy5
      refine C_S3r (pc := 35) (k' := k_X4_isUndefined) dX8_combineReals_35 w6_33 i_X4_isUndefined (Nat.le_of_ble_eq_true rfl) (Nat.le_of_ble_eq_true rfl) (Nat.le_of_ble_eq_true rfl) (cy5) ?_
      have hPy5 := cy5.1.1
      refine Y_if_eq (pc := 38) (tgt := 52) dX8_combineReals_38 (by decide) (fun hc3 => ?_) (fun hc3 => ?_)
      · replace h := ifT hc3 h
        refine Y_aload_n (pc := 52) (j := 2) dX8_combineReals_52 rfl rfl ?_
        refine Y_iload_n (pc := 53) (j := 4) dX8_combineReals_53 rfl rfl ?_
        refine Y_iload_n (pc := 54) (j := 3) dX8_combineReals_54 rfl rfl ?_
        refine Y_dload (pc := 55) (j := 1) dX8_combineReals_55 rfl ?_
        refine Y_dload (pc := 57) (j := 0) dX8_combineReals_57 rfl ?_
        obtain ⟨y6, qy6, h⟩ := bindE h
        have cy6 := v_X4_ofFloats hPy5 qy6
        refine C_S3r (pc := 59) (k' := k_X4_ofFloats) dX8_combineReals_59 w6_41 i_X4_ofFloats (Nat.le_of_ble_eq_true rfl) (Nat.le_of_ble_eq_true rfl) (Nat.le_of_ble_eq_true rfl) (cy6) ?_
        have hPy6 := cy6.1.1
        obtain ⟨y7, qy7, h⟩ := bindE h
        have cy7 := v_X8_putReal ho hPy6 qy7
        refine C_V2o (pc := 62) (k' := k_X8_putReal) dX8_combineReals_62 w6_48 i_X8_putReal (lo_1 hPy6 ho) ⟨Nat.le_of_ble_eq_true rfl, Nat.le_of_ble_eq_true rfl⟩ rfl (Nat.le_of_ble_eq_true rfl) (Nat.le_of_ble_eq_true rfl) (Nat.le_of_ble_eq_true rfl) (cy7) ?_
        have hPy7 := cy7.1.1
        cases h
        exact Y_vret (pc := 65) rfl dX8_combineReals_65 hPy7 ⟨rfl, rfl⟩
      · replace h := ifF hc3 h
        refine VV.sub [2, 4] rfl ?_
        exact b_X8_combineReals_41 ho hPy5 h
theorem v_X8_combineReals {o : Nat} {x1 : Int32} {x2 : Int32} {x3 : Int32} {M z} (ho : o = 18 ∨ o = 28) (hP : Lay M) (h : d_X8_combineReals o x1 x2 x3 M = some z) : CC Lay k_X8_combineReals [.ref (o + 1), .int x1, .int x2, .int x3] M z.2 (Qv (none) z.2) xF :=
  CC.ofVV (by decide) rfl (Nat.le_of_ble_eq_true rfl) (b_X8_combineReals ho hP h)
theorem b_X8_combine {o : Nat} {x1 : Int32} {x2 : Int32} {x3 : Int32} {M z} (ho : o = 18 ∨ o = 28) (hP : Lay M) (h : d_X8_combine o x1 x2 x3 M = some z) : VV Lay k_X8_combine 0 [(0, .ref (o + 1)), (1, .int x1), (2, .int x2), (3, .int x3)] [] M z.2 (Qv (none) z.2) xF := by
  unfold d_X8_combine at h
  refine Y_iload_n (pc := 0) (j := 1) dX8_combine_0 rfl rfl ?_
  refine Y_bipush (pc := 1) (v := (61 : Int32)) dX8_combine_1 rfl ?_
  refine Y_icmp_ne (pc := 3) (tgt := 30) dX8_combine_3 (by decide) (fun hc1 => ?_) (fun hc1 => ?_)
  · replace h := ifF hc1 h
    refine Y_aload_n (pc := 30) (j := 0) dX8_combine_30 rfl rfl ?_
    refine Y_iload_n (pc := 31) (j := 1) dX8_combine_31 rfl rfl ?_
    refine Y_iload_n (pc := 32) (j := 2) dX8_combine_32 rfl rfl ?_
    refine Y_iload_n (pc := 33) (j := 3) dX8_combine_33 rfl rfl ?_
    obtain ⟨y1, qy1, h⟩ := bindE h
    have cy1 := v_X8_givesInteger ho hP qy1
    refine C_V3r (pc := 34) (k' := k_X8_givesInteger) dX8_combine_34 w6_12 i_X8_givesInteger (lo_1 hP ho) ⟨Nat.le_of_ble_eq_true rfl, Nat.le_of_ble_eq_true rfl⟩ rfl (Nat.le_of_ble_eq_true rfl) (Nat.le_of_ble_eq_true rfl) (Nat.le_of_ble_eq_true rfl) (cy1) ?_
    have hPy1 := cy1.1.1
    refine Y_if_eq (pc := 37) (tgt := 69) dX8_combine_37 (by decide) (fun hc2 => ?_) (fun hc2 => ?_)
    · replace h := ifT hc2 h
      refine Y_iload_n (pc := 69) (j := 1) dX8_combine_69 rfl rfl ?_
      refine Y_bipush (pc := 70) (v := (60 : Int32)) dX8_combine_70 rfl ?_
      refine Y_icmp_ne (pc := 72) (tgt := 99) dX8_combine_72 (by decide) (fun hc3 => ?_) (fun hc3 => ?_)
      · replace h := ifF hc3 h
        refine Y_aload_n (pc := 99) (j := 0) dX8_combine_99 rfl rfl ?_
        refine Y_iload_n (pc := 100) (j := 1) dX8_combine_100 rfl rfl ?_
        refine Y_iload_n (pc := 101) (j := 2) dX8_combine_101 rfl rfl ?_
        refine Y_iload_n (pc := 102) (j := 3) dX8_combine_102 rfl rfl ?_
        obtain ⟨y2, qy2, h⟩ := bindE h
        have cy2 := v_X8_combineReals ho hPy1 qy2
        refine C_V3o (pc := 103) (k' := k_X8_combineReals) dX8_combine_103 w6_29 i_X8_combineReals (lo_1 hPy1 ho) ⟨Nat.le_of_ble_eq_true rfl, Nat.le_of_ble_eq_true rfl⟩ rfl (Nat.le_of_ble_eq_true rfl) (Nat.le_of_ble_eq_true rfl) (Nat.le_of_ble_eq_true rfl) (cy2) ?_
        have hPy2 := cy2.1.1
        cases h
        exact Y_vret (pc := 106) rfl dX8_combine_106 hPy2 ⟨rfl, rfl⟩
      · replace h := ifT hc3 h
        refine Y_aload_n (pc := 75) (j := 0) dX8_combine_75 rfl rfl ?_
        refine Y_iload_n (pc := 76) (j := 2) dX8_combine_76 rfl rfl ?_
        refine Y_bipush (pc := 77) (v := (105 : Int32)) dX8_combine_77 rfl ?_
        refine Y_aload_n (pc := 79) (j := 0) dX8_combine_79 rfl rfl ?_
        refine Y_iload_n (pc := 80) (j := 2) dX8_combine_80 rfl rfl ?_
        refine Y_iload_n (pc := 81) (j := 3) dX8_combine_81 rfl rfl ?_
        obtain ⟨y3, qy3, h⟩ := bindE h
        have cy3 := v_X8_isLess ho hPy1 qy3
        refine C_V2r (pc := 82) (k' := k_X8_isLess) dX8_combine_82 w6_25 i_X8_isLess (lo_1 hPy1 ho) ⟨Nat.le_of_ble_eq_true rfl, Nat.le_of_ble_eq_true rfl⟩ rfl (Nat.le_of_ble_eq_true rfl) (Nat.le_of_ble_eq_true rfl) (Nat.le_of_ble_eq_true rfl) (cy3) ?_
        have hPy3 := cy3.1.1
        refine Y_if_eq (pc := 85) (tgt := 92) dX8_combine_85 (by decide) (fun hc4 => ?_) (fun hc4 => ?_)
        · replace h := ifT hc4 h
          refine Y_iconst (pc := 92) (v := (0 : Int32)) dX8_combine_92 rfl ?_
          obtain ⟨y4, qy4, h⟩ := bindE h
          have cy4 := v_X8_put ho hPy3 qy4
          refine C_V3o (pc := 93) (k' := k_X8_put) dX8_combine_93 w5_238 i_X8_put (lo_1 hPy3 ho) ⟨Nat.le_of_ble_eq_true rfl, Nat.le_of_ble_eq_true rfl⟩ rfl (Nat.le_of_ble_eq_true rfl) (Nat.le_of_ble_eq_true rfl) (Nat.le_of_ble_eq_true rfl) (cy4) ?_
          have hPy4 := cy4.1.1
          refine Y_goto (pc := 96) (tgt := 106) dX8_combine_96 (by decide) ?_
          cases h
          exact Y_vret (pc := 106) rfl dX8_combine_106 hPy4 ⟨rfl, rfl⟩
        · replace h := ifF hc4 h
          refine Y_iconst (pc := 88) (v := (1 : Int32)) dX8_combine_88 rfl ?_
          refine Y_goto (pc := 89) (tgt := 93) dX8_combine_89 (by decide) ?_
          obtain ⟨y5, qy5, h⟩ := bindE h
          have cy5 := v_X8_put ho hPy3 qy5
          refine C_V3o (pc := 93) (k' := k_X8_put) dX8_combine_93 w5_238 i_X8_put (lo_1 hPy3 ho) ⟨Nat.le_of_ble_eq_true rfl, Nat.le_of_ble_eq_true rfl⟩ rfl (Nat.le_of_ble_eq_true rfl) (Nat.le_of_ble_eq_true rfl) (Nat.le_of_ble_eq_true rfl) (cy5) ?_
          have hPy5 := cy5.1.1
          refine Y_goto (pc := 96) (tgt := 106) dX8_combine_96 (by decide) ?_
          cases h
          exact Y_vret (pc := 106) rfl dX8_combine_106 hPy5 ⟨rfl, rfl⟩
    · replace h := ifF hc2 h
      refine Y_aload_n (pc := 40) (j := 0) dX8_combine_40 rfl rfl ?_
      refine Y_iload_n (pc := 41) (j := 2) dX8_combine_41 rfl rfl ?_
      refine Y_bipush (pc := 42) (v := (105 : Int32)) dX8_combine_42 rfl ?_
      refine Y_iload_n (pc := 44) (j := 1) dX8_combine_44 rfl rfl ?_
      refine Y_aload_n (pc := 45) (j := 0) dX8_combine_45 rfl rfl ?_
      refine Z_getr (pc := 46) dX8_combine_46 w1_152 (lo_1 hPy1 ho) fr_8_1 (lor_1_1 hPy1 ho) ?_
      refine Y_iload_n (pc := 49) (j := 2) dX8_combine_49 rfl rfl ?_
      obtain ⟨hb1, h⟩ := okE h
      refine Y_iald (pc := 50) dX8_combine_50 (lo_3 hPy1 ho) (lon_3 hPy1 ho) hb1 ?_
      refine Y_i2l (pc := 51) dX8_combine_51 ?_
      refine Y_aload_n (pc := 52) (j := 0) dX8_combine_52 rfl rfl ?_
      refine Z_getr (pc := 53) dX8_combine_53 w1_152 (lo_1 hPy1 ho) fr_8_1 (lor_1_1 hPy1 ho) ?_
      refine Y_iload_n (pc := 56) (j := 3) dX8_combine_56 rfl rfl ?_
      obtain ⟨hb2, h⟩ := okE h
      refine Y_iald (pc := 57) dX8_combine_57 (lo_3 hPy1 ho) (lon_3 hPy1 ho) hb2 ?_
      refine Y_i2l (pc := 58) dX8_combine_58 ?_
      obtain ⟨y6, qy6, h⟩ := bindE h
      have cy6 := v_X4_ofIntegers hPy1 qy6
      refine C_S3r (pc := 59) (k' := k_X4_ofIntegers) dX8_combine_59 w6_17 i_X4_ofIntegers (Nat.le_of_ble_eq_true rfl) (Nat.le_of_ble_eq_true rfl) (Nat.le_of_ble_eq_true rfl) (cy6) ?_
      have hPy6 := cy6.1.1
      refine Y_l2i (pc := 62) dX8_combine_62 ?_
      obtain ⟨y7, qy7, h⟩ := bindE h
      have cy7 := v_X8_put ho hPy6 qy7
      refine C_V3o (pc := 63) (k' := k_X8_put) dX8_combine_63 w5_238 i_X8_put (lo_1 hPy6 ho) ⟨Nat.le_of_ble_eq_true rfl, Nat.le_of_ble_eq_true rfl⟩ rfl (Nat.le_of_ble_eq_true rfl) (Nat.le_of_ble_eq_true rfl) (Nat.le_of_ble_eq_true rfl) (cy7) ?_
      have hPy7 := cy7.1.1
      refine Y_goto (pc := 66) (tgt := 106) dX8_combine_66 (by decide) ?_
      cases h
      exact Y_vret (pc := 106) rfl dX8_combine_106 hPy7 ⟨rfl, rfl⟩
  · replace h := ifT hc1 h
    refine Y_aload_n (pc := 6) (j := 0) dX8_combine_6 rfl rfl ?_
    refine Y_iload_n (pc := 7) (j := 2) dX8_combine_7 rfl rfl ?_
    refine Y_bipush (pc := 8) (v := (105 : Int32)) dX8_combine_8 rfl ?_
    refine Y_aload_n (pc := 10) (j := 0) dX8_combine_10 rfl rfl ?_
    refine Y_iload_n (pc := 11) (j := 2) dX8_combine_11 rfl rfl ?_
    refine Y_iload_n (pc := 12) (j := 3) dX8_combine_12 rfl rfl ?_
    obtain ⟨y8, qy8, h⟩ := bindE h
    have cy8 := v_X8_areEqual ho hP qy8
    refine C_V2r (pc := 13) (k' := k_X8_areEqual) dX8_combine_13 w6_3 i_X8_areEqual (lo_1 hP ho) ⟨Nat.le_of_ble_eq_true rfl, Nat.le_of_ble_eq_true rfl⟩ rfl (Nat.le_of_ble_eq_true rfl) (Nat.le_of_ble_eq_true rfl) (Nat.le_of_ble_eq_true rfl) (cy8) ?_
    have hPy8 := cy8.1.1
    refine Y_if_eq (pc := 16) (tgt := 23) dX8_combine_16 (by decide) (fun hc5 => ?_) (fun hc5 => ?_)
    · replace h := ifT hc5 h
      refine Y_iconst (pc := 23) (v := (0 : Int32)) dX8_combine_23 rfl ?_
      obtain ⟨y9, qy9, h⟩ := bindE h
      have cy9 := v_X8_put ho hPy8 qy9
      refine C_V3o (pc := 24) (k' := k_X8_put) dX8_combine_24 w5_238 i_X8_put (lo_1 hPy8 ho) ⟨Nat.le_of_ble_eq_true rfl, Nat.le_of_ble_eq_true rfl⟩ rfl (Nat.le_of_ble_eq_true rfl) (Nat.le_of_ble_eq_true rfl) (Nat.le_of_ble_eq_true rfl) (cy9) ?_
      have hPy9 := cy9.1.1
      refine Y_goto (pc := 27) (tgt := 106) dX8_combine_27 (by decide) ?_
      cases h
      exact Y_vret (pc := 106) rfl dX8_combine_106 hPy9 ⟨rfl, rfl⟩
    · replace h := ifF hc5 h
      refine Y_iconst (pc := 19) (v := (1 : Int32)) dX8_combine_19 rfl ?_
      refine Y_goto (pc := 20) (tgt := 24) dX8_combine_20 (by decide) ?_
      obtain ⟨y10, qy10, h⟩ := bindE h
      have cy10 := v_X8_put ho hPy8 qy10
      refine C_V3o (pc := 24) (k' := k_X8_put) dX8_combine_24 w5_238 i_X8_put (lo_1 hPy8 ho) ⟨Nat.le_of_ble_eq_true rfl, Nat.le_of_ble_eq_true rfl⟩ rfl (Nat.le_of_ble_eq_true rfl) (Nat.le_of_ble_eq_true rfl) (Nat.le_of_ble_eq_true rfl) (cy10) ?_
      have hPy10 := cy10.1.1
      refine Y_goto (pc := 27) (tgt := 106) dX8_combine_27 (by decide) ?_
      cases h
      exact Y_vret (pc := 106) rfl dX8_combine_106 hPy10 ⟨rfl, rfl⟩
theorem v_X8_combine {o : Nat} {x1 : Int32} {x2 : Int32} {x3 : Int32} {M z} (ho : o = 18 ∨ o = 28) (hP : Lay M) (h : d_X8_combine o x1 x2 x3 M = some z) : CC Lay k_X8_combine [.ref (o + 1), .int x1, .int x2, .int x3] M z.2 (Qv (none) z.2) xF :=
  CC.ofVV (by decide) rfl (Nat.le_of_ble_eq_true rfl) (b_X8_combine ho hP h)
set_option maxRecDepth 20000 in
theorem b_X3_useStack {o : Nat} {x1 : Int32} {x2 : Int32} {M z} (ho : o = 18 ∨ o = 28) (hP : Lay M) (h : d_X3_useStack o x1 x2 M = some z) : VV Lay k_X3_useStack 0 [(0, .ref o), (1, .int x1), (2, .int x2)] [] M z.2 (Qv (none) z.2) xF := by
  unfold d_X3_useStack at h
  refine Y_iload_n (pc := 0) (j := 1) dX3_useStack_0 rfl rfl ?_
  refine Y_table (pc := 1) dX3_useStack_1 [(100, 167), (101, 195), (102, 195), (103, 195), (104, 195), (105, 96), (106, 195), (107, 104), (108, 120), (109, 195), (110, 195), (111, 195), (112, 195), (113, 195), (114, 195), (115, 145), (116, 173), (117, 135), (118, 195), (119, 182)] 195 (by decide) (tab_ok (by decide +kernel)) (by decide) ?_ ?_
  · refine xs_cons ?_ <| xs_cons ?_ <| xs_cons ?_ <| xs_cons ?_ <| xs_cons ?_ <| xs_cons ?_ <| xs_cons ?_ <| xs_cons ?_ <| xs_cons ?_ <| xs_cons ?_ <| xs_cons ?_ <| xs_cons ?_ <| xs_cons ?_ <| xs_cons ?_ <| xs_cons ?_ <| xs_cons ?_ <| xs_cons ?_ <| xs_cons ?_ <| xs_cons ?_ <| xs_cons ?_ <| xs_nil
    · intro e9
      replace h := ifT (by rw [e9] <;> decide) h
      refine Y_aload_n (pc := 167) (j := 0) dX3_useStack_167 rfl rfl ?_
      obtain ⟨y1, qy1, h⟩ := bindE h
      have cy1 := v_X3_take ho hP qy1
      refine C_V0r (pc := 168) (k' := k_X3_take) dX3_useStack_168 w5_181 i_X3_take (lo_0 hP ho) ⟨Nat.le_of_ble_eq_true rfl, Nat.le_of_ble_eq_true rfl⟩ rfl (Nat.le_of_ble_eq_true rfl) (Nat.le_of_ble_eq_true rfl) (Nat.le_of_ble_eq_true rfl) (cy1) ?_
      have hPy1 := cy1.1.1
      refine Y_pop (pc := 171) dX3_useStack_171 rfl ?_
      cases h
      exact Y_vret (pc := 172) rfl dX3_useStack_172 hPy1 ⟨rfl, rfl⟩
    · intro e9
      replace h := ifF (by rw [e9] <;> decide) h
      replace h := ifF (by rw [e9] <;> decide) h
      replace h := ifF (by rw [e9] <;> decide) h
      replace h := ifF (by rw [e9] <;> decide) h
      replace h := ifF (by rw [e9] <;> decide) h
      replace h := ifF (by rw [e9] <;> decide) h
      replace h := ifF (by rw [e9] <;> decide) h
      replace h := ifF (by rw [e9] <;> decide) h
      refine Y_aload_n (pc := 195) (j := 0) dX3_useStack_195 rfl rfl ?_
      refine Z_getr (pc := 196) dX3_useStack_196 w1_171 (lo_0 hP ho) fr_4_2 (lor_0_2 hP ho) ?_
      refine Y_iload_n (pc := 199) (j := 1) dX3_useStack_199 rfl rfl ?_
      refine Y_aload_n (pc := 200) (j := 0) dX3_useStack_200 rfl rfl ?_
      refine Y_iconst (pc := 201) (v := (2 : Int32)) dX3_useStack_201 rfl ?_
      obtain ⟨y15, qy15, h⟩ := bindE h
      have cy15 := v_X3_fromTop ho hP qy15
      refine C_V1r (pc := 202) (k' := k_X3_fromTop) dX3_useStack_202 w5_106 i_X3_fromTop (lo_0 hP ho) ⟨Nat.le_of_ble_eq_true rfl, Nat.le_of_ble_eq_true rfl⟩ rfl (Nat.le_of_ble_eq_true rfl) (Nat.le_of_ble_eq_true rfl) (Nat.le_of_ble_eq_true rfl) (cy15) ?_
      have hPy15 := cy15.1.1
      refine Y_aload_n (pc := 205) (j := 0) dX3_useStack_205 rfl rfl ?_
      refine Y_iconst (pc := 206) (v := (1 : Int32)) dX3_useStack_206 rfl ?_
      obtain ⟨y16, qy16, h⟩ := bindE h
      have cy16 := v_X3_fromTop ho hPy15 qy16
      refine C_V1r (pc := 207) (k' := k_X3_fromTop) dX3_useStack_207 w5_106 i_X3_fromTop (lo_0 hPy15 ho) ⟨Nat.le_of_ble_eq_true rfl, Nat.le_of_ble_eq_true rfl⟩ rfl (Nat.le_of_ble_eq_true rfl) (Nat.le_of_ble_eq_true rfl) (Nat.le_of_ble_eq_true rfl) (cy16) ?_
      have hPy16 := cy16.1.1
      obtain ⟨y17, qy17, h⟩ := bindE h
      have cy17 := v_X8_combine ho hPy16 qy17
      refine C_V3o (pc := 210) (k' := k_X8_combine) dX3_useStack_210 w5_239 i_X8_combine (lo_1 hPy16 ho) ⟨Nat.le_of_ble_eq_true rfl, Nat.le_of_ble_eq_true rfl⟩ rfl (Nat.le_of_ble_eq_true rfl) (Nat.le_of_ble_eq_true rfl) (Nat.le_of_ble_eq_true rfl) (cy17) ?_
      have hPy17 := cy17.1.1
      refine Y_aload_n (pc := 213) (j := 0) dX3_useStack_213 rfl rfl ?_
      obtain ⟨y18, qy18, h⟩ := bindE h
      have cy18 := v_X3_take ho hPy17 qy18
      refine C_V0r (pc := 214) (k' := k_X3_take) dX3_useStack_214 w5_181 i_X3_take (lo_0 hPy17 ho) ⟨Nat.le_of_ble_eq_true rfl, Nat.le_of_ble_eq_true rfl⟩ rfl (Nat.le_of_ble_eq_true rfl) (Nat.le_of_ble_eq_true rfl) (Nat.le_of_ble_eq_true rfl) (cy18) ?_
      have hPy18 := cy18.1.1
      refine Y_pop (pc := 217) dX3_useStack_217 rfl ?_
      cases h
      exact Y_vret (pc := 218) rfl dX3_useStack_218 hPy18 ⟨rfl, rfl⟩
    · intro e9
      replace h := ifF (by rw [e9] <;> decide) h
      replace h := ifF (by rw [e9] <;> decide) h
      replace h := ifF (by rw [e9] <;> decide) h
      replace h := ifF (by rw [e9] <;> decide) h
      replace h := ifF (by rw [e9] <;> decide) h
      replace h := ifF (by rw [e9] <;> decide) h
      replace h := ifF (by rw [e9] <;> decide) h
      replace h := ifF (by rw [e9] <;> decide) h
      refine Y_aload_n (pc := 195) (j := 0) dX3_useStack_195 rfl rfl ?_
      refine Z_getr (pc := 196) dX3_useStack_196 w1_171 (lo_0 hP ho) fr_4_2 (lor_0_2 hP ho) ?_
      refine Y_iload_n (pc := 199) (j := 1) dX3_useStack_199 rfl rfl ?_
      refine Y_aload_n (pc := 200) (j := 0) dX3_useStack_200 rfl rfl ?_
      refine Y_iconst (pc := 201) (v := (2 : Int32)) dX3_useStack_201 rfl ?_
      obtain ⟨y15, qy15, h⟩ := bindE h
      have cy15 := v_X3_fromTop ho hP qy15
      refine C_V1r (pc := 202) (k' := k_X3_fromTop) dX3_useStack_202 w5_106 i_X3_fromTop (lo_0 hP ho) ⟨Nat.le_of_ble_eq_true rfl, Nat.le_of_ble_eq_true rfl⟩ rfl (Nat.le_of_ble_eq_true rfl) (Nat.le_of_ble_eq_true rfl) (Nat.le_of_ble_eq_true rfl) (cy15) ?_
      have hPy15 := cy15.1.1
      refine Y_aload_n (pc := 205) (j := 0) dX3_useStack_205 rfl rfl ?_
      refine Y_iconst (pc := 206) (v := (1 : Int32)) dX3_useStack_206 rfl ?_
      obtain ⟨y16, qy16, h⟩ := bindE h
      have cy16 := v_X3_fromTop ho hPy15 qy16
      refine C_V1r (pc := 207) (k' := k_X3_fromTop) dX3_useStack_207 w5_106 i_X3_fromTop (lo_0 hPy15 ho) ⟨Nat.le_of_ble_eq_true rfl, Nat.le_of_ble_eq_true rfl⟩ rfl (Nat.le_of_ble_eq_true rfl) (Nat.le_of_ble_eq_true rfl) (Nat.le_of_ble_eq_true rfl) (cy16) ?_
      have hPy16 := cy16.1.1
      obtain ⟨y17, qy17, h⟩ := bindE h
      have cy17 := v_X8_combine ho hPy16 qy17
      refine C_V3o (pc := 210) (k' := k_X8_combine) dX3_useStack_210 w5_239 i_X8_combine (lo_1 hPy16 ho) ⟨Nat.le_of_ble_eq_true rfl, Nat.le_of_ble_eq_true rfl⟩ rfl (Nat.le_of_ble_eq_true rfl) (Nat.le_of_ble_eq_true rfl) (Nat.le_of_ble_eq_true rfl) (cy17) ?_
      have hPy17 := cy17.1.1
      refine Y_aload_n (pc := 213) (j := 0) dX3_useStack_213 rfl rfl ?_
      obtain ⟨y18, qy18, h⟩ := bindE h
      have cy18 := v_X3_take ho hPy17 qy18
      refine C_V0r (pc := 214) (k' := k_X3_take) dX3_useStack_214 w5_181 i_X3_take (lo_0 hPy17 ho) ⟨Nat.le_of_ble_eq_true rfl, Nat.le_of_ble_eq_true rfl⟩ rfl (Nat.le_of_ble_eq_true rfl) (Nat.le_of_ble_eq_true rfl) (Nat.le_of_ble_eq_true rfl) (cy18) ?_
      have hPy18 := cy18.1.1
      refine Y_pop (pc := 217) dX3_useStack_217 rfl ?_
      cases h
      exact Y_vret (pc := 218) rfl dX3_useStack_218 hPy18 ⟨rfl, rfl⟩
    · intro e9
      replace h := ifF (by rw [e9] <;> decide) h
      replace h := ifF (by rw [e9] <;> decide) h
      replace h := ifF (by rw [e9] <;> decide) h
      replace h := ifF (by rw [e9] <;> decide) h
      replace h := ifF (by rw [e9] <;> decide) h
      replace h := ifF (by rw [e9] <;> decide) h
      replace h := ifF (by rw [e9] <;> decide) h
      replace h := ifF (by rw [e9] <;> decide) h
      refine Y_aload_n (pc := 195) (j := 0) dX3_useStack_195 rfl rfl ?_
      refine Z_getr (pc := 196) dX3_useStack_196 w1_171 (lo_0 hP ho) fr_4_2 (lor_0_2 hP ho) ?_
      refine Y_iload_n (pc := 199) (j := 1) dX3_useStack_199 rfl rfl ?_
      refine Y_aload_n (pc := 200) (j := 0) dX3_useStack_200 rfl rfl ?_
      refine Y_iconst (pc := 201) (v := (2 : Int32)) dX3_useStack_201 rfl ?_
      obtain ⟨y15, qy15, h⟩ := bindE h
      have cy15 := v_X3_fromTop ho hP qy15
      refine C_V1r (pc := 202) (k' := k_X3_fromTop) dX3_useStack_202 w5_106 i_X3_fromTop (lo_0 hP ho) ⟨Nat.le_of_ble_eq_true rfl, Nat.le_of_ble_eq_true rfl⟩ rfl (Nat.le_of_ble_eq_true rfl) (Nat.le_of_ble_eq_true rfl) (Nat.le_of_ble_eq_true rfl) (cy15) ?_
      have hPy15 := cy15.1.1
      refine Y_aload_n (pc := 205) (j := 0) dX3_useStack_205 rfl rfl ?_
      refine Y_iconst (pc := 206) (v := (1 : Int32)) dX3_useStack_206 rfl ?_
      obtain ⟨y16, qy16, h⟩ := bindE h
      have cy16 := v_X3_fromTop ho hPy15 qy16
      refine C_V1r (pc := 207) (k' := k_X3_fromTop) dX3_useStack_207 w5_106 i_X3_fromTop (lo_0 hPy15 ho) ⟨Nat.le_of_ble_eq_true rfl, Nat.le_of_ble_eq_true rfl⟩ rfl (Nat.le_of_ble_eq_true rfl) (Nat.le_of_ble_eq_true rfl) (Nat.le_of_ble_eq_true rfl) (cy16) ?_
      have hPy16 := cy16.1.1
      obtain ⟨y17, qy17, h⟩ := bindE h
      have cy17 := v_X8_combine ho hPy16 qy17
      refine C_V3o (pc := 210) (k' := k_X8_combine) dX3_useStack_210 w5_239 i_X8_combine (lo_1 hPy16 ho) ⟨Nat.le_of_ble_eq_true rfl, Nat.le_of_ble_eq_true rfl⟩ rfl (Nat.le_of_ble_eq_true rfl) (Nat.le_of_ble_eq_true rfl) (Nat.le_of_ble_eq_true rfl) (cy17) ?_
      have hPy17 := cy17.1.1
      refine Y_aload_n (pc := 213) (j := 0) dX3_useStack_213 rfl rfl ?_
      obtain ⟨y18, qy18, h⟩ := bindE h
      have cy18 := v_X3_take ho hPy17 qy18
      refine C_V0r (pc := 214) (k' := k_X3_take) dX3_useStack_214 w5_181 i_X3_take (lo_0 hPy17 ho) ⟨Nat.le_of_ble_eq_true rfl, Nat.le_of_ble_eq_true rfl⟩ rfl (Nat.le_of_ble_eq_true rfl) (Nat.le_of_ble_eq_true rfl) (Nat.le_of_ble_eq_true rfl) (cy18) ?_
      have hPy18 := cy18.1.1
      refine Y_pop (pc := 217) dX3_useStack_217 rfl ?_
      cases h
      exact Y_vret (pc := 218) rfl dX3_useStack_218 hPy18 ⟨rfl, rfl⟩
    · intro e9
      replace h := ifF (by rw [e9] <;> decide) h
      replace h := ifF (by rw [e9] <;> decide) h
      replace h := ifF (by rw [e9] <;> decide) h
      replace h := ifF (by rw [e9] <;> decide) h
      replace h := ifF (by rw [e9] <;> decide) h
      replace h := ifF (by rw [e9] <;> decide) h
      replace h := ifF (by rw [e9] <;> decide) h
      replace h := ifF (by rw [e9] <;> decide) h
      refine Y_aload_n (pc := 195) (j := 0) dX3_useStack_195 rfl rfl ?_
      refine Z_getr (pc := 196) dX3_useStack_196 w1_171 (lo_0 hP ho) fr_4_2 (lor_0_2 hP ho) ?_
      refine Y_iload_n (pc := 199) (j := 1) dX3_useStack_199 rfl rfl ?_
      refine Y_aload_n (pc := 200) (j := 0) dX3_useStack_200 rfl rfl ?_
      refine Y_iconst (pc := 201) (v := (2 : Int32)) dX3_useStack_201 rfl ?_
      obtain ⟨y15, qy15, h⟩ := bindE h
      have cy15 := v_X3_fromTop ho hP qy15
      refine C_V1r (pc := 202) (k' := k_X3_fromTop) dX3_useStack_202 w5_106 i_X3_fromTop (lo_0 hP ho) ⟨Nat.le_of_ble_eq_true rfl, Nat.le_of_ble_eq_true rfl⟩ rfl (Nat.le_of_ble_eq_true rfl) (Nat.le_of_ble_eq_true rfl) (Nat.le_of_ble_eq_true rfl) (cy15) ?_
      have hPy15 := cy15.1.1
      refine Y_aload_n (pc := 205) (j := 0) dX3_useStack_205 rfl rfl ?_
      refine Y_iconst (pc := 206) (v := (1 : Int32)) dX3_useStack_206 rfl ?_
      obtain ⟨y16, qy16, h⟩ := bindE h
      have cy16 := v_X3_fromTop ho hPy15 qy16
      refine C_V1r (pc := 207) (k' := k_X3_fromTop) dX3_useStack_207 w5_106 i_X3_fromTop (lo_0 hPy15 ho) ⟨Nat.le_of_ble_eq_true rfl, Nat.le_of_ble_eq_true rfl⟩ rfl (Nat.le_of_ble_eq_true rfl) (Nat.le_of_ble_eq_true rfl) (Nat.le_of_ble_eq_true rfl) (cy16) ?_
      have hPy16 := cy16.1.1
      obtain ⟨y17, qy17, h⟩ := bindE h
      have cy17 := v_X8_combine ho hPy16 qy17
      refine C_V3o (pc := 210) (k' := k_X8_combine) dX3_useStack_210 w5_239 i_X8_combine (lo_1 hPy16 ho) ⟨Nat.le_of_ble_eq_true rfl, Nat.le_of_ble_eq_true rfl⟩ rfl (Nat.le_of_ble_eq_true rfl) (Nat.le_of_ble_eq_true rfl) (Nat.le_of_ble_eq_true rfl) (cy17) ?_
      have hPy17 := cy17.1.1
      refine Y_aload_n (pc := 213) (j := 0) dX3_useStack_213 rfl rfl ?_
      obtain ⟨y18, qy18, h⟩ := bindE h
      have cy18 := v_X3_take ho hPy17 qy18
      refine C_V0r (pc := 214) (k' := k_X3_take) dX3_useStack_214 w5_181 i_X3_take (lo_0 hPy17 ho) ⟨Nat.le_of_ble_eq_true rfl, Nat.le_of_ble_eq_true rfl⟩ rfl (Nat.le_of_ble_eq_true rfl) (Nat.le_of_ble_eq_true rfl) (Nat.le_of_ble_eq_true rfl) (cy18) ?_
      have hPy18 := cy18.1.1
      refine Y_pop (pc := 217) dX3_useStack_217 rfl ?_
      cases h
      exact Y_vret (pc := 218) rfl dX3_useStack_218 hPy18 ⟨rfl, rfl⟩
    · intro e9
      replace h := ifF (by rw [e9] <;> decide) h
      replace h := ifT (by rw [e9] <;> decide) h
      refine Y_aload_n (pc := 96) (j := 0) dX3_useStack_96 rfl rfl ?_
      refine Y_bipush (pc := 97) (v := (105 : Int32)) dX3_useStack_97 rfl ?_
      refine Y_iload_n (pc := 99) (j := 2) dX3_useStack_99 rfl rfl ?_
      obtain ⟨y2, qy2, h⟩ := bindE h
      have cy2 := v_X3_pushPut ho hP qy2
      refine C_V2o (pc := 100) (k' := k_X3_pushPut) dX3_useStack_100 w5_169 i_X3_pushPut (lo_0 hP ho) ⟨Nat.le_of_ble_eq_true rfl, Nat.le_of_ble_eq_true rfl⟩ rfl (Nat.le_of_ble_eq_true rfl) (Nat.le_of_ble_eq_true rfl) (Nat.le_of_ble_eq_true rfl) (cy2) ?_
      have hPy2 := cy2.1.1
      cases h
      exact Y_vret (pc := 103) rfl dX3_useStack_103 hPy2 ⟨rfl, rfl⟩
    · intro e9
      replace h := ifF (by rw [e9] <;> decide) h
      replace h := ifF (by rw [e9] <;> decide) h
      replace h := ifF (by rw [e9] <;> decide) h
      replace h := ifF (by rw [e9] <;> decide) h
      replace h := ifF (by rw [e9] <;> decide) h
      replace h := ifF (by rw [e9] <;> decide) h
      replace h := ifF (by rw [e9] <;> decide) h
      replace h := ifF (by rw [e9] <;> decide) h
      refine Y_aload_n (pc := 195) (j := 0) dX3_useStack_195 rfl rfl ?_
      refine Z_getr (pc := 196) dX3_useStack_196 w1_171 (lo_0 hP ho) fr_4_2 (lor_0_2 hP ho) ?_
      refine Y_iload_n (pc := 199) (j := 1) dX3_useStack_199 rfl rfl ?_
      refine Y_aload_n (pc := 200) (j := 0) dX3_useStack_200 rfl rfl ?_
      refine Y_iconst (pc := 201) (v := (2 : Int32)) dX3_useStack_201 rfl ?_
      obtain ⟨y15, qy15, h⟩ := bindE h
      have cy15 := v_X3_fromTop ho hP qy15
      refine C_V1r (pc := 202) (k' := k_X3_fromTop) dX3_useStack_202 w5_106 i_X3_fromTop (lo_0 hP ho) ⟨Nat.le_of_ble_eq_true rfl, Nat.le_of_ble_eq_true rfl⟩ rfl (Nat.le_of_ble_eq_true rfl) (Nat.le_of_ble_eq_true rfl) (Nat.le_of_ble_eq_true rfl) (cy15) ?_
      have hPy15 := cy15.1.1
      refine Y_aload_n (pc := 205) (j := 0) dX3_useStack_205 rfl rfl ?_
      refine Y_iconst (pc := 206) (v := (1 : Int32)) dX3_useStack_206 rfl ?_
      obtain ⟨y16, qy16, h⟩ := bindE h
      have cy16 := v_X3_fromTop ho hPy15 qy16
      refine C_V1r (pc := 207) (k' := k_X3_fromTop) dX3_useStack_207 w5_106 i_X3_fromTop (lo_0 hPy15 ho) ⟨Nat.le_of_ble_eq_true rfl, Nat.le_of_ble_eq_true rfl⟩ rfl (Nat.le_of_ble_eq_true rfl) (Nat.le_of_ble_eq_true rfl) (Nat.le_of_ble_eq_true rfl) (cy16) ?_
      have hPy16 := cy16.1.1
      obtain ⟨y17, qy17, h⟩ := bindE h
      have cy17 := v_X8_combine ho hPy16 qy17
      refine C_V3o (pc := 210) (k' := k_X8_combine) dX3_useStack_210 w5_239 i_X8_combine (lo_1 hPy16 ho) ⟨Nat.le_of_ble_eq_true rfl, Nat.le_of_ble_eq_true rfl⟩ rfl (Nat.le_of_ble_eq_true rfl) (Nat.le_of_ble_eq_true rfl) (Nat.le_of_ble_eq_true rfl) (cy17) ?_
      have hPy17 := cy17.1.1
      refine Y_aload_n (pc := 213) (j := 0) dX3_useStack_213 rfl rfl ?_
      obtain ⟨y18, qy18, h⟩ := bindE h
      have cy18 := v_X3_take ho hPy17 qy18
      refine C_V0r (pc := 214) (k' := k_X3_take) dX3_useStack_214 w5_181 i_X3_take (lo_0 hPy17 ho) ⟨Nat.le_of_ble_eq_true rfl, Nat.le_of_ble_eq_true rfl⟩ rfl (Nat.le_of_ble_eq_true rfl) (Nat.le_of_ble_eq_true rfl) (Nat.le_of_ble_eq_true rfl) (cy18) ?_
      have hPy18 := cy18.1.1
      refine Y_pop (pc := 217) dX3_useStack_217 rfl ?_
      cases h
      exact Y_vret (pc := 218) rfl dX3_useStack_218 hPy18 ⟨rfl, rfl⟩
    · intro e9
      replace h := ifF (by rw [e9] <;> decide) h
      replace h := ifF (by rw [e9] <;> decide) h
      replace h := ifT (by rw [e9] <;> decide) h
      refine Y_aload_n (pc := 104) (j := 0) dX3_useStack_104 rfl rfl ?_
      refine Y_bipush (pc := 105) (v := (105 : Int32)) dX3_useStack_105 rfl ?_
      refine Y_aload_n (pc := 107) (j := 0) dX3_useStack_107 rfl rfl ?_
      refine Z_getr (pc := 108) dX3_useStack_108 w1_167 (lo_0 hP ho) fr_4_0 (lor_0_0 hP ho) ?_
      refine Z_getr (pc := 111) dX3_useStack_111 w1_71 (lk_2 hP) fr_5_5 (lr_2_5 hP) ?_
      refine Y_iload_n (pc := 114) (j := 2) dX3_useStack_114 rfl rfl ?_
      obtain ⟨hb1, h⟩ := okE h
      refine Y_iald (pc := 115) dX3_useStack_115 (lk_8 hP) (ln_8 hP) hb1 ?_
      obtain ⟨y3, qy3, h⟩ := bindE h
      have cy3 := v_X3_pushPut ho hP qy3
      refine C_V2o (pc := 116) (k' := k_X3_pushPut) dX3_useStack_116 w5_169 i_X3_pushPut (lo_0 hP ho) ⟨Nat.le_of_ble_eq_true rfl, Nat.le_of_ble_eq_true rfl⟩ rfl (Nat.le_of_ble_eq_true rfl) (Nat.le_of_ble_eq_true rfl) (Nat.le_of_ble_eq_true rfl) (cy3) ?_
      have hPy3 := cy3.1.1
      cases h
      exact Y_vret (pc := 119) rfl dX3_useStack_119 hPy3 ⟨rfl, rfl⟩
    · intro e9
      replace h := ifF (by rw [e9] <;> decide) h
      replace h := ifF (by rw [e9] <;> decide) h
      replace h := ifF (by rw [e9] <;> decide) h
      replace h := ifT (by rw [e9] <;> decide) h
      refine Y_aload_n (pc := 120) (j := 0) dX3_useStack_120 rfl rfl ?_
      refine Y_aload_n (pc := 121) (j := 0) dX3_useStack_121 rfl rfl ?_
      refine Z_geti (pc := 122) dX3_useStack_122 w1_184 (lo_0 hP ho) fi_4_9 ?_
      refine Y_iconst (pc := 125) (v := (1 : Int32)) dX3_useStack_125 rfl ?_
      refine Y_isub (pc := 126) dX3_useStack_126 ?_
      refine Y_iload_n (pc := 127) (j := 2) dX3_useStack_127 rfl rfl ?_
      obtain ⟨y4, qy4, h⟩ := bindE h
      have cy4 := v_X11_localPlace hP qy4
      refine C_N2r (pc := 128) (k' := k_X11_localPlace) dX3_useStack_128 nl_Machine_66 i_X11_localPlace (Nat.le_of_ble_eq_true rfl) (Nat.le_of_ble_eq_true rfl) (Nat.le_of_ble_eq_true rfl) (cy4) ?_
      have hPy4 := cy4.1.1
      obtain ⟨y5, qy5, h⟩ := bindE h
      have cy5 := v_X3_pushMoved ho hPy4 qy5
      refine C_V1o (pc := 131) (k' := k_X3_pushMoved) dX3_useStack_131 w5_201 i_X3_pushMoved (lo_0 hPy4 ho) ⟨Nat.le_of_ble_eq_true rfl, Nat.le_of_ble_eq_true rfl⟩ rfl (Nat.le_of_ble_eq_true rfl) (Nat.le_of_ble_eq_true rfl) (Nat.le_of_ble_eq_true rfl) (cy5) ?_
      have hPy5 := cy5.1.1
      cases h
      exact Y_vret (pc := 134) rfl dX3_useStack_134 hPy5 ⟨rfl, rfl⟩
    · intro e9
      replace h := ifF (by rw [e9] <;> decide) h
      replace h := ifF (by rw [e9] <;> decide) h
      replace h := ifF (by rw [e9] <;> decide) h
      replace h := ifF (by rw [e9] <;> decide) h
      replace h := ifF (by rw [e9] <;> decide) h
      replace h := ifF (by rw [e9] <;> decide) h
      replace h := ifF (by rw [e9] <;> decide) h
      replace h := ifF (by rw [e9] <;> decide) h
      refine Y_aload_n (pc := 195) (j := 0) dX3_useStack_195 rfl rfl ?_
      refine Z_getr (pc := 196) dX3_useStack_196 w1_171 (lo_0 hP ho) fr_4_2 (lor_0_2 hP ho) ?_
      refine Y_iload_n (pc := 199) (j := 1) dX3_useStack_199 rfl rfl ?_
      refine Y_aload_n (pc := 200) (j := 0) dX3_useStack_200 rfl rfl ?_
      refine Y_iconst (pc := 201) (v := (2 : Int32)) dX3_useStack_201 rfl ?_
      obtain ⟨y15, qy15, h⟩ := bindE h
      have cy15 := v_X3_fromTop ho hP qy15
      refine C_V1r (pc := 202) (k' := k_X3_fromTop) dX3_useStack_202 w5_106 i_X3_fromTop (lo_0 hP ho) ⟨Nat.le_of_ble_eq_true rfl, Nat.le_of_ble_eq_true rfl⟩ rfl (Nat.le_of_ble_eq_true rfl) (Nat.le_of_ble_eq_true rfl) (Nat.le_of_ble_eq_true rfl) (cy15) ?_
      have hPy15 := cy15.1.1
      refine Y_aload_n (pc := 205) (j := 0) dX3_useStack_205 rfl rfl ?_
      refine Y_iconst (pc := 206) (v := (1 : Int32)) dX3_useStack_206 rfl ?_
      obtain ⟨y16, qy16, h⟩ := bindE h
      have cy16 := v_X3_fromTop ho hPy15 qy16
      refine C_V1r (pc := 207) (k' := k_X3_fromTop) dX3_useStack_207 w5_106 i_X3_fromTop (lo_0 hPy15 ho) ⟨Nat.le_of_ble_eq_true rfl, Nat.le_of_ble_eq_true rfl⟩ rfl (Nat.le_of_ble_eq_true rfl) (Nat.le_of_ble_eq_true rfl) (Nat.le_of_ble_eq_true rfl) (cy16) ?_
      have hPy16 := cy16.1.1
      obtain ⟨y17, qy17, h⟩ := bindE h
      have cy17 := v_X8_combine ho hPy16 qy17
      refine C_V3o (pc := 210) (k' := k_X8_combine) dX3_useStack_210 w5_239 i_X8_combine (lo_1 hPy16 ho) ⟨Nat.le_of_ble_eq_true rfl, Nat.le_of_ble_eq_true rfl⟩ rfl (Nat.le_of_ble_eq_true rfl) (Nat.le_of_ble_eq_true rfl) (Nat.le_of_ble_eq_true rfl) (cy17) ?_
      have hPy17 := cy17.1.1
      refine Y_aload_n (pc := 213) (j := 0) dX3_useStack_213 rfl rfl ?_
      obtain ⟨y18, qy18, h⟩ := bindE h
      have cy18 := v_X3_take ho hPy17 qy18
      refine C_V0r (pc := 214) (k' := k_X3_take) dX3_useStack_214 w5_181 i_X3_take (lo_0 hPy17 ho) ⟨Nat.le_of_ble_eq_true rfl, Nat.le_of_ble_eq_true rfl⟩ rfl (Nat.le_of_ble_eq_true rfl) (Nat.le_of_ble_eq_true rfl) (Nat.le_of_ble_eq_true rfl) (cy18) ?_
      have hPy18 := cy18.1.1
      refine Y_pop (pc := 217) dX3_useStack_217 rfl ?_
      cases h
      exact Y_vret (pc := 218) rfl dX3_useStack_218 hPy18 ⟨rfl, rfl⟩
    · intro e9
      replace h := ifF (by rw [e9] <;> decide) h
      replace h := ifF (by rw [e9] <;> decide) h
      replace h := ifF (by rw [e9] <;> decide) h
      replace h := ifF (by rw [e9] <;> decide) h
      replace h := ifF (by rw [e9] <;> decide) h
      replace h := ifF (by rw [e9] <;> decide) h
      replace h := ifF (by rw [e9] <;> decide) h
      replace h := ifF (by rw [e9] <;> decide) h
      refine Y_aload_n (pc := 195) (j := 0) dX3_useStack_195 rfl rfl ?_
      refine Z_getr (pc := 196) dX3_useStack_196 w1_171 (lo_0 hP ho) fr_4_2 (lor_0_2 hP ho) ?_
      refine Y_iload_n (pc := 199) (j := 1) dX3_useStack_199 rfl rfl ?_
      refine Y_aload_n (pc := 200) (j := 0) dX3_useStack_200 rfl rfl ?_
      refine Y_iconst (pc := 201) (v := (2 : Int32)) dX3_useStack_201 rfl ?_
      obtain ⟨y15, qy15, h⟩ := bindE h
      have cy15 := v_X3_fromTop ho hP qy15
      refine C_V1r (pc := 202) (k' := k_X3_fromTop) dX3_useStack_202 w5_106 i_X3_fromTop (lo_0 hP ho) ⟨Nat.le_of_ble_eq_true rfl, Nat.le_of_ble_eq_true rfl⟩ rfl (Nat.le_of_ble_eq_true rfl) (Nat.le_of_ble_eq_true rfl) (Nat.le_of_ble_eq_true rfl) (cy15) ?_
      have hPy15 := cy15.1.1
      refine Y_aload_n (pc := 205) (j := 0) dX3_useStack_205 rfl rfl ?_
      refine Y_iconst (pc := 206) (v := (1 : Int32)) dX3_useStack_206 rfl ?_
      obtain ⟨y16, qy16, h⟩ := bindE h
      have cy16 := v_X3_fromTop ho hPy15 qy16
      refine C_V1r (pc := 207) (k' := k_X3_fromTop) dX3_useStack_207 w5_106 i_X3_fromTop (lo_0 hPy15 ho) ⟨Nat.le_of_ble_eq_true rfl, Nat.le_of_ble_eq_true rfl⟩ rfl (Nat.le_of_ble_eq_true rfl) (Nat.le_of_ble_eq_true rfl) (Nat.le_of_ble_eq_true rfl) (cy16) ?_
      have hPy16 := cy16.1.1
      obtain ⟨y17, qy17, h⟩ := bindE h
      have cy17 := v_X8_combine ho hPy16 qy17
      refine C_V3o (pc := 210) (k' := k_X8_combine) dX3_useStack_210 w5_239 i_X8_combine (lo_1 hPy16 ho) ⟨Nat.le_of_ble_eq_true rfl, Nat.le_of_ble_eq_true rfl⟩ rfl (Nat.le_of_ble_eq_true rfl) (Nat.le_of_ble_eq_true rfl) (Nat.le_of_ble_eq_true rfl) (cy17) ?_
      have hPy17 := cy17.1.1
      refine Y_aload_n (pc := 213) (j := 0) dX3_useStack_213 rfl rfl ?_
      obtain ⟨y18, qy18, h⟩ := bindE h
      have cy18 := v_X3_take ho hPy17 qy18
      refine C_V0r (pc := 214) (k' := k_X3_take) dX3_useStack_214 w5_181 i_X3_take (lo_0 hPy17 ho) ⟨Nat.le_of_ble_eq_true rfl, Nat.le_of_ble_eq_true rfl⟩ rfl (Nat.le_of_ble_eq_true rfl) (Nat.le_of_ble_eq_true rfl) (Nat.le_of_ble_eq_true rfl) (cy18) ?_
      have hPy18 := cy18.1.1
      refine Y_pop (pc := 217) dX3_useStack_217 rfl ?_
      cases h
      exact Y_vret (pc := 218) rfl dX3_useStack_218 hPy18 ⟨rfl, rfl⟩
    · intro e9
      replace h := ifF (by rw [e9] <;> decide) h
      replace h := ifF (by rw [e9] <;> decide) h
      replace h := ifF (by rw [e9] <;> decide) h
      replace h := ifF (by rw [e9] <;> decide) h
      replace h := ifF (by rw [e9] <;> decide) h
      replace h := ifF (by rw [e9] <;> decide) h
      replace h := ifF (by rw [e9] <;> decide) h
      replace h := ifF (by rw [e9] <;> decide) h
      refine Y_aload_n (pc := 195) (j := 0) dX3_useStack_195 rfl rfl ?_
      refine Z_getr (pc := 196) dX3_useStack_196 w1_171 (lo_0 hP ho) fr_4_2 (lor_0_2 hP ho) ?_
      refine Y_iload_n (pc := 199) (j := 1) dX3_useStack_199 rfl rfl ?_
      refine Y_aload_n (pc := 200) (j := 0) dX3_useStack_200 rfl rfl ?_
      refine Y_iconst (pc := 201) (v := (2 : Int32)) dX3_useStack_201 rfl ?_
      obtain ⟨y15, qy15, h⟩ := bindE h
      have cy15 := v_X3_fromTop ho hP qy15
      refine C_V1r (pc := 202) (k' := k_X3_fromTop) dX3_useStack_202 w5_106 i_X3_fromTop (lo_0 hP ho) ⟨Nat.le_of_ble_eq_true rfl, Nat.le_of_ble_eq_true rfl⟩ rfl (Nat.le_of_ble_eq_true rfl) (Nat.le_of_ble_eq_true rfl) (Nat.le_of_ble_eq_true rfl) (cy15) ?_
      have hPy15 := cy15.1.1
      refine Y_aload_n (pc := 205) (j := 0) dX3_useStack_205 rfl rfl ?_
      refine Y_iconst (pc := 206) (v := (1 : Int32)) dX3_useStack_206 rfl ?_
      obtain ⟨y16, qy16, h⟩ := bindE h
      have cy16 := v_X3_fromTop ho hPy15 qy16
      refine C_V1r (pc := 207) (k' := k_X3_fromTop) dX3_useStack_207 w5_106 i_X3_fromTop (lo_0 hPy15 ho) ⟨Nat.le_of_ble_eq_true rfl, Nat.le_of_ble_eq_true rfl⟩ rfl (Nat.le_of_ble_eq_true rfl) (Nat.le_of_ble_eq_true rfl) (Nat.le_of_ble_eq_true rfl) (cy16) ?_
      have hPy16 := cy16.1.1
      obtain ⟨y17, qy17, h⟩ := bindE h
      have cy17 := v_X8_combine ho hPy16 qy17
      refine C_V3o (pc := 210) (k' := k_X8_combine) dX3_useStack_210 w5_239 i_X8_combine (lo_1 hPy16 ho) ⟨Nat.le_of_ble_eq_true rfl, Nat.le_of_ble_eq_true rfl⟩ rfl (Nat.le_of_ble_eq_true rfl) (Nat.le_of_ble_eq_true rfl) (Nat.le_of_ble_eq_true rfl) (cy17) ?_
      have hPy17 := cy17.1.1
      refine Y_aload_n (pc := 213) (j := 0) dX3_useStack_213 rfl rfl ?_
      obtain ⟨y18, qy18, h⟩ := bindE h
      have cy18 := v_X3_take ho hPy17 qy18
      refine C_V0r (pc := 214) (k' := k_X3_take) dX3_useStack_214 w5_181 i_X3_take (lo_0 hPy17 ho) ⟨Nat.le_of_ble_eq_true rfl, Nat.le_of_ble_eq_true rfl⟩ rfl (Nat.le_of_ble_eq_true rfl) (Nat.le_of_ble_eq_true rfl) (Nat.le_of_ble_eq_true rfl) (cy18) ?_
      have hPy18 := cy18.1.1
      refine Y_pop (pc := 217) dX3_useStack_217 rfl ?_
      cases h
      exact Y_vret (pc := 218) rfl dX3_useStack_218 hPy18 ⟨rfl, rfl⟩
    · intro e9
      replace h := ifF (by rw [e9] <;> decide) h
      replace h := ifF (by rw [e9] <;> decide) h
      replace h := ifF (by rw [e9] <;> decide) h
      replace h := ifF (by rw [e9] <;> decide) h
      replace h := ifF (by rw [e9] <;> decide) h
      replace h := ifF (by rw [e9] <;> decide) h
      replace h := ifF (by rw [e9] <;> decide) h
      replace h := ifF (by rw [e9] <;> decide) h
      refine Y_aload_n (pc := 195) (j := 0) dX3_useStack_195 rfl rfl ?_
      refine Z_getr (pc := 196) dX3_useStack_196 w1_171 (lo_0 hP ho) fr_4_2 (lor_0_2 hP ho) ?_
      refine Y_iload_n (pc := 199) (j := 1) dX3_useStack_199 rfl rfl ?_
      refine Y_aload_n (pc := 200) (j := 0) dX3_useStack_200 rfl rfl ?_
      refine Y_iconst (pc := 201) (v := (2 : Int32)) dX3_useStack_201 rfl ?_
      obtain ⟨y15, qy15, h⟩ := bindE h
      have cy15 := v_X3_fromTop ho hP qy15
      refine C_V1r (pc := 202) (k' := k_X3_fromTop) dX3_useStack_202 w5_106 i_X3_fromTop (lo_0 hP ho) ⟨Nat.le_of_ble_eq_true rfl, Nat.le_of_ble_eq_true rfl⟩ rfl (Nat.le_of_ble_eq_true rfl) (Nat.le_of_ble_eq_true rfl) (Nat.le_of_ble_eq_true rfl) (cy15) ?_
      have hPy15 := cy15.1.1
      refine Y_aload_n (pc := 205) (j := 0) dX3_useStack_205 rfl rfl ?_
      refine Y_iconst (pc := 206) (v := (1 : Int32)) dX3_useStack_206 rfl ?_
      obtain ⟨y16, qy16, h⟩ := bindE h
      have cy16 := v_X3_fromTop ho hPy15 qy16
      refine C_V1r (pc := 207) (k' := k_X3_fromTop) dX3_useStack_207 w5_106 i_X3_fromTop (lo_0 hPy15 ho) ⟨Nat.le_of_ble_eq_true rfl, Nat.le_of_ble_eq_true rfl⟩ rfl (Nat.le_of_ble_eq_true rfl) (Nat.le_of_ble_eq_true rfl) (Nat.le_of_ble_eq_true rfl) (cy16) ?_
      have hPy16 := cy16.1.1
      obtain ⟨y17, qy17, h⟩ := bindE h
      have cy17 := v_X8_combine ho hPy16 qy17
      refine C_V3o (pc := 210) (k' := k_X8_combine) dX3_useStack_210 w5_239 i_X8_combine (lo_1 hPy16 ho) ⟨Nat.le_of_ble_eq_true rfl, Nat.le_of_ble_eq_true rfl⟩ rfl (Nat.le_of_ble_eq_true rfl) (Nat.le_of_ble_eq_true rfl) (Nat.le_of_ble_eq_true rfl) (cy17) ?_
      have hPy17 := cy17.1.1
      refine Y_aload_n (pc := 213) (j := 0) dX3_useStack_213 rfl rfl ?_
      obtain ⟨y18, qy18, h⟩ := bindE h
      have cy18 := v_X3_take ho hPy17 qy18
      refine C_V0r (pc := 214) (k' := k_X3_take) dX3_useStack_214 w5_181 i_X3_take (lo_0 hPy17 ho) ⟨Nat.le_of_ble_eq_true rfl, Nat.le_of_ble_eq_true rfl⟩ rfl (Nat.le_of_ble_eq_true rfl) (Nat.le_of_ble_eq_true rfl) (Nat.le_of_ble_eq_true rfl) (cy18) ?_
      have hPy18 := cy18.1.1
      refine Y_pop (pc := 217) dX3_useStack_217 rfl ?_
      cases h
      exact Y_vret (pc := 218) rfl dX3_useStack_218 hPy18 ⟨rfl, rfl⟩
    · intro e9
      replace h := ifF (by rw [e9] <;> decide) h
      replace h := ifF (by rw [e9] <;> decide) h
      replace h := ifF (by rw [e9] <;> decide) h
      replace h := ifF (by rw [e9] <;> decide) h
      replace h := ifF (by rw [e9] <;> decide) h
      replace h := ifF (by rw [e9] <;> decide) h
      replace h := ifF (by rw [e9] <;> decide) h
      replace h := ifF (by rw [e9] <;> decide) h
      refine Y_aload_n (pc := 195) (j := 0) dX3_useStack_195 rfl rfl ?_
      refine Z_getr (pc := 196) dX3_useStack_196 w1_171 (lo_0 hP ho) fr_4_2 (lor_0_2 hP ho) ?_
      refine Y_iload_n (pc := 199) (j := 1) dX3_useStack_199 rfl rfl ?_
      refine Y_aload_n (pc := 200) (j := 0) dX3_useStack_200 rfl rfl ?_
      refine Y_iconst (pc := 201) (v := (2 : Int32)) dX3_useStack_201 rfl ?_
      obtain ⟨y15, qy15, h⟩ := bindE h
      have cy15 := v_X3_fromTop ho hP qy15
      refine C_V1r (pc := 202) (k' := k_X3_fromTop) dX3_useStack_202 w5_106 i_X3_fromTop (lo_0 hP ho) ⟨Nat.le_of_ble_eq_true rfl, Nat.le_of_ble_eq_true rfl⟩ rfl (Nat.le_of_ble_eq_true rfl) (Nat.le_of_ble_eq_true rfl) (Nat.le_of_ble_eq_true rfl) (cy15) ?_
      have hPy15 := cy15.1.1
      refine Y_aload_n (pc := 205) (j := 0) dX3_useStack_205 rfl rfl ?_
      refine Y_iconst (pc := 206) (v := (1 : Int32)) dX3_useStack_206 rfl ?_
      obtain ⟨y16, qy16, h⟩ := bindE h
      have cy16 := v_X3_fromTop ho hPy15 qy16
      refine C_V1r (pc := 207) (k' := k_X3_fromTop) dX3_useStack_207 w5_106 i_X3_fromTop (lo_0 hPy15 ho) ⟨Nat.le_of_ble_eq_true rfl, Nat.le_of_ble_eq_true rfl⟩ rfl (Nat.le_of_ble_eq_true rfl) (Nat.le_of_ble_eq_true rfl) (Nat.le_of_ble_eq_true rfl) (cy16) ?_
      have hPy16 := cy16.1.1
      obtain ⟨y17, qy17, h⟩ := bindE h
      have cy17 := v_X8_combine ho hPy16 qy17
      refine C_V3o (pc := 210) (k' := k_X8_combine) dX3_useStack_210 w5_239 i_X8_combine (lo_1 hPy16 ho) ⟨Nat.le_of_ble_eq_true rfl, Nat.le_of_ble_eq_true rfl⟩ rfl (Nat.le_of_ble_eq_true rfl) (Nat.le_of_ble_eq_true rfl) (Nat.le_of_ble_eq_true rfl) (cy17) ?_
      have hPy17 := cy17.1.1
      refine Y_aload_n (pc := 213) (j := 0) dX3_useStack_213 rfl rfl ?_
      obtain ⟨y18, qy18, h⟩ := bindE h
      have cy18 := v_X3_take ho hPy17 qy18
      refine C_V0r (pc := 214) (k' := k_X3_take) dX3_useStack_214 w5_181 i_X3_take (lo_0 hPy17 ho) ⟨Nat.le_of_ble_eq_true rfl, Nat.le_of_ble_eq_true rfl⟩ rfl (Nat.le_of_ble_eq_true rfl) (Nat.le_of_ble_eq_true rfl) (Nat.le_of_ble_eq_true rfl) (cy18) ?_
      have hPy18 := cy18.1.1
      refine Y_pop (pc := 217) dX3_useStack_217 rfl ?_
      cases h
      exact Y_vret (pc := 218) rfl dX3_useStack_218 hPy18 ⟨rfl, rfl⟩
    · intro e9
      replace h := ifF (by rw [e9] <;> decide) h
      replace h := ifF (by rw [e9] <;> decide) h
      replace h := ifF (by rw [e9] <;> decide) h
      replace h := ifF (by rw [e9] <;> decide) h
      replace h := ifF (by rw [e9] <;> decide) h
      replace h := ifF (by rw [e9] <;> decide) h
      replace h := ifF (by rw [e9] <;> decide) h
      replace h := ifF (by rw [e9] <;> decide) h
      refine Y_aload_n (pc := 195) (j := 0) dX3_useStack_195 rfl rfl ?_
      refine Z_getr (pc := 196) dX3_useStack_196 w1_171 (lo_0 hP ho) fr_4_2 (lor_0_2 hP ho) ?_
      refine Y_iload_n (pc := 199) (j := 1) dX3_useStack_199 rfl rfl ?_
      refine Y_aload_n (pc := 200) (j := 0) dX3_useStack_200 rfl rfl ?_
      refine Y_iconst (pc := 201) (v := (2 : Int32)) dX3_useStack_201 rfl ?_
      obtain ⟨y15, qy15, h⟩ := bindE h
      have cy15 := v_X3_fromTop ho hP qy15
      refine C_V1r (pc := 202) (k' := k_X3_fromTop) dX3_useStack_202 w5_106 i_X3_fromTop (lo_0 hP ho) ⟨Nat.le_of_ble_eq_true rfl, Nat.le_of_ble_eq_true rfl⟩ rfl (Nat.le_of_ble_eq_true rfl) (Nat.le_of_ble_eq_true rfl) (Nat.le_of_ble_eq_true rfl) (cy15) ?_
      have hPy15 := cy15.1.1
      refine Y_aload_n (pc := 205) (j := 0) dX3_useStack_205 rfl rfl ?_
      refine Y_iconst (pc := 206) (v := (1 : Int32)) dX3_useStack_206 rfl ?_
      obtain ⟨y16, qy16, h⟩ := bindE h
      have cy16 := v_X3_fromTop ho hPy15 qy16
      refine C_V1r (pc := 207) (k' := k_X3_fromTop) dX3_useStack_207 w5_106 i_X3_fromTop (lo_0 hPy15 ho) ⟨Nat.le_of_ble_eq_true rfl, Nat.le_of_ble_eq_true rfl⟩ rfl (Nat.le_of_ble_eq_true rfl) (Nat.le_of_ble_eq_true rfl) (Nat.le_of_ble_eq_true rfl) (cy16) ?_
      have hPy16 := cy16.1.1
      obtain ⟨y17, qy17, h⟩ := bindE h
      have cy17 := v_X8_combine ho hPy16 qy17
      refine C_V3o (pc := 210) (k' := k_X8_combine) dX3_useStack_210 w5_239 i_X8_combine (lo_1 hPy16 ho) ⟨Nat.le_of_ble_eq_true rfl, Nat.le_of_ble_eq_true rfl⟩ rfl (Nat.le_of_ble_eq_true rfl) (Nat.le_of_ble_eq_true rfl) (Nat.le_of_ble_eq_true rfl) (cy17) ?_
      have hPy17 := cy17.1.1
      refine Y_aload_n (pc := 213) (j := 0) dX3_useStack_213 rfl rfl ?_
      obtain ⟨y18, qy18, h⟩ := bindE h
      have cy18 := v_X3_take ho hPy17 qy18
      refine C_V0r (pc := 214) (k' := k_X3_take) dX3_useStack_214 w5_181 i_X3_take (lo_0 hPy17 ho) ⟨Nat.le_of_ble_eq_true rfl, Nat.le_of_ble_eq_true rfl⟩ rfl (Nat.le_of_ble_eq_true rfl) (Nat.le_of_ble_eq_true rfl) (Nat.le_of_ble_eq_true rfl) (cy18) ?_
      have hPy18 := cy18.1.1
      refine Y_pop (pc := 217) dX3_useStack_217 rfl ?_
      cases h
      exact Y_vret (pc := 218) rfl dX3_useStack_218 hPy18 ⟨rfl, rfl⟩
    · intro e9
      replace h := ifF (by rw [e9] <;> decide) h
      replace h := ifF (by rw [e9] <;> decide) h
      replace h := ifF (by rw [e9] <;> decide) h
      replace h := ifF (by rw [e9] <;> decide) h
      replace h := ifT (by rw [e9] <;> decide) h
      refine Y_aload_n (pc := 145) (j := 0) dX3_useStack_145 rfl rfl ?_
      refine Z_getr (pc := 146) dX3_useStack_146 w1_171 (lo_0 hP ho) fr_4_2 (lor_0_2 hP ho) ?_
      refine Y_aload_n (pc := 149) (j := 0) dX3_useStack_149 rfl rfl ?_
      obtain ⟨y6, qy6, h⟩ := bindE h
      have cy6 := v_X3_take ho hP qy6
      refine C_V0r (pc := 150) (k' := k_X3_take) dX3_useStack_150 w5_181 i_X3_take (lo_0 hP ho) ⟨Nat.le_of_ble_eq_true rfl, Nat.le_of_ble_eq_true rfl⟩ rfl (Nat.le_of_ble_eq_true rfl) (Nat.le_of_ble_eq_true rfl) (Nat.le_of_ble_eq_true rfl) (cy6) ?_
      have hPy6 := cy6.1.1
      refine Y_aload_n (pc := 153) (j := 0) dX3_useStack_153 rfl rfl ?_
      refine Z_geti (pc := 154) dX3_useStack_154 w1_184 (lo_0 hPy6 ho) fi_4_9 ?_
      refine Y_iconst (pc := 157) (v := (1 : Int32)) dX3_useStack_157 rfl ?_
      refine Y_isub (pc := 158) dX3_useStack_158 ?_
      refine Y_iload_n (pc := 159) (j := 2) dX3_useStack_159 rfl rfl ?_
      obtain ⟨y7, qy7, h⟩ := bindE h
      have cy7 := v_X11_localPlace hPy6 qy7
      refine C_N2r (pc := 160) (k' := k_X11_localPlace) dX3_useStack_160 nl_Machine_66 i_X11_localPlace (Nat.le_of_ble_eq_true rfl) (Nat.le_of_ble_eq_true rfl) (Nat.le_of_ble_eq_true rfl) (cy7) ?_
      have hPy7 := cy7.1.1
      obtain ⟨y8, qy8, h⟩ := bindE h
      have cy8 := v_X8_move ho hPy7 qy8
      refine C_V2o (pc := 163) (k' := k_X8_move) dX3_useStack_163 w5_193 i_X8_move (lo_1 hPy7 ho) ⟨Nat.le_of_ble_eq_true rfl, Nat.le_of_ble_eq_true rfl⟩ rfl (Nat.le_of_ble_eq_true rfl) (Nat.le_of_ble_eq_true rfl) (Nat.le_of_ble_eq_true rfl) (cy8) ?_
      have hPy8 := cy8.1.1
      cases h
      exact Y_vret (pc := 166) rfl dX3_useStack_166 hPy8 ⟨rfl, rfl⟩
    · intro e9
      replace h := ifF (by rw [e9] <;> decide) h
      replace h := ifF (by rw [e9] <;> decide) h
      replace h := ifF (by rw [e9] <;> decide) h
      replace h := ifF (by rw [e9] <;> decide) h
      replace h := ifF (by rw [e9] <;> decide) h
      replace h := ifT (by rw [e9] <;> decide) h
      refine Y_aload_n (pc := 173) (j := 0) dX3_useStack_173 rfl rfl ?_
      refine Y_aload_n (pc := 174) (j := 0) dX3_useStack_174 rfl rfl ?_
      obtain ⟨y9, qy9, h⟩ := bindE h
      have cy9 := v_X3_take ho hP qy9
      refine C_V0r (pc := 175) (k' := k_X3_take) dX3_useStack_175 w5_181 i_X3_take (lo_0 hP ho) ⟨Nat.le_of_ble_eq_true rfl, Nat.le_of_ble_eq_true rfl⟩ rfl (Nat.le_of_ble_eq_true rfl) (Nat.le_of_ble_eq_true rfl) (Nat.le_of_ble_eq_true rfl) (cy9) ?_
      have hPy9 := cy9.1.1
      obtain ⟨y10, qy10, h⟩ := bindE h
      have cy10 := v_X3_tell ho hPy9 qy10
      refine C_V1o (pc := 178) (k' := k_X3_tell) dX3_useStack_178 w5_225 i_X3_tell (lo_0 hPy9 ho) ⟨Nat.le_of_ble_eq_true rfl, Nat.le_of_ble_eq_true rfl⟩ rfl (Nat.le_of_ble_eq_true rfl) (Nat.le_of_ble_eq_true rfl) (Nat.le_of_ble_eq_true rfl) (cy10) ?_
      have hPy10 := cy10.1.1
      cases h
      exact Y_vret (pc := 181) rfl dX3_useStack_181 hPy10 ⟨rfl, rfl⟩
    · intro e9
      replace h := ifF (by rw [e9] <;> decide) h
      replace h := ifF (by rw [e9] <;> decide) h
      replace h := ifF (by rw [e9] <;> decide) h
      replace h := ifF (by rw [e9] <;> decide) h
      replace h := ifF (by rw [e9] <;> decide) h
      replace h := ifF (by rw [e9] <;> decide) h
      replace h := ifT (by rw [e9] <;> decide) h
      refine Y_aload_n (pc := 135) (j := 0) dX3_useStack_135 rfl rfl ?_
      refine Y_aload_n (pc := 136) (j := 0) dX3_useStack_136 rfl rfl ?_
      refine Y_iconst (pc := 137) (v := (1 : Int32)) dX3_useStack_137 rfl ?_
      obtain ⟨y11, qy11, h⟩ := bindE h
      have cy11 := v_X3_fromTop ho hP qy11
      refine C_V1r (pc := 138) (k' := k_X3_fromTop) dX3_useStack_138 w5_106 i_X3_fromTop (lo_0 hP ho) ⟨Nat.le_of_ble_eq_true rfl, Nat.le_of_ble_eq_true rfl⟩ rfl (Nat.le_of_ble_eq_true rfl) (Nat.le_of_ble_eq_true rfl) (Nat.le_of_ble_eq_true rfl) (cy11) ?_
      have hPy11 := cy11.1.1
      obtain ⟨y12, qy12, h⟩ := bindE h
      have cy12 := v_X3_pushMoved ho hPy11 qy12
      refine C_V1o (pc := 141) (k' := k_X3_pushMoved) dX3_useStack_141 w5_201 i_X3_pushMoved (lo_0 hPy11 ho) ⟨Nat.le_of_ble_eq_true rfl, Nat.le_of_ble_eq_true rfl⟩ rfl (Nat.le_of_ble_eq_true rfl) (Nat.le_of_ble_eq_true rfl) (Nat.le_of_ble_eq_true rfl) (cy12) ?_
      have hPy12 := cy12.1.1
      cases h
      exact Y_vret (pc := 144) rfl dX3_useStack_144 hPy12 ⟨rfl, rfl⟩
    · intro e9
      replace h := ifF (by rw [e9] <;> decide) h
      replace h := ifF (by rw [e9] <;> decide) h
      replace h := ifF (by rw [e9] <;> decide) h
      replace h := ifF (by rw [e9] <;> decide) h
      replace h := ifF (by rw [e9] <;> decide) h
      replace h := ifF (by rw [e9] <;> decide) h
      replace h := ifF (by rw [e9] <;> decide) h
      replace h := ifF (by rw [e9] <;> decide) h
      refine Y_aload_n (pc := 195) (j := 0) dX3_useStack_195 rfl rfl ?_
      refine Z_getr (pc := 196) dX3_useStack_196 w1_171 (lo_0 hP ho) fr_4_2 (lor_0_2 hP ho) ?_
      refine Y_iload_n (pc := 199) (j := 1) dX3_useStack_199 rfl rfl ?_
      refine Y_aload_n (pc := 200) (j := 0) dX3_useStack_200 rfl rfl ?_
      refine Y_iconst (pc := 201) (v := (2 : Int32)) dX3_useStack_201 rfl ?_
      obtain ⟨y15, qy15, h⟩ := bindE h
      have cy15 := v_X3_fromTop ho hP qy15
      refine C_V1r (pc := 202) (k' := k_X3_fromTop) dX3_useStack_202 w5_106 i_X3_fromTop (lo_0 hP ho) ⟨Nat.le_of_ble_eq_true rfl, Nat.le_of_ble_eq_true rfl⟩ rfl (Nat.le_of_ble_eq_true rfl) (Nat.le_of_ble_eq_true rfl) (Nat.le_of_ble_eq_true rfl) (cy15) ?_
      have hPy15 := cy15.1.1
      refine Y_aload_n (pc := 205) (j := 0) dX3_useStack_205 rfl rfl ?_
      refine Y_iconst (pc := 206) (v := (1 : Int32)) dX3_useStack_206 rfl ?_
      obtain ⟨y16, qy16, h⟩ := bindE h
      have cy16 := v_X3_fromTop ho hPy15 qy16
      refine C_V1r (pc := 207) (k' := k_X3_fromTop) dX3_useStack_207 w5_106 i_X3_fromTop (lo_0 hPy15 ho) ⟨Nat.le_of_ble_eq_true rfl, Nat.le_of_ble_eq_true rfl⟩ rfl (Nat.le_of_ble_eq_true rfl) (Nat.le_of_ble_eq_true rfl) (Nat.le_of_ble_eq_true rfl) (cy16) ?_
      have hPy16 := cy16.1.1
      obtain ⟨y17, qy17, h⟩ := bindE h
      have cy17 := v_X8_combine ho hPy16 qy17
      refine C_V3o (pc := 210) (k' := k_X8_combine) dX3_useStack_210 w5_239 i_X8_combine (lo_1 hPy16 ho) ⟨Nat.le_of_ble_eq_true rfl, Nat.le_of_ble_eq_true rfl⟩ rfl (Nat.le_of_ble_eq_true rfl) (Nat.le_of_ble_eq_true rfl) (Nat.le_of_ble_eq_true rfl) (cy17) ?_
      have hPy17 := cy17.1.1
      refine Y_aload_n (pc := 213) (j := 0) dX3_useStack_213 rfl rfl ?_
      obtain ⟨y18, qy18, h⟩ := bindE h
      have cy18 := v_X3_take ho hPy17 qy18
      refine C_V0r (pc := 214) (k' := k_X3_take) dX3_useStack_214 w5_181 i_X3_take (lo_0 hPy17 ho) ⟨Nat.le_of_ble_eq_true rfl, Nat.le_of_ble_eq_true rfl⟩ rfl (Nat.le_of_ble_eq_true rfl) (Nat.le_of_ble_eq_true rfl) (Nat.le_of_ble_eq_true rfl) (cy18) ?_
      have hPy18 := cy18.1.1
      refine Y_pop (pc := 217) dX3_useStack_217 rfl ?_
      cases h
      exact Y_vret (pc := 218) rfl dX3_useStack_218 hPy18 ⟨rfl, rfl⟩
    · intro e9
      replace h := ifF (by rw [e9] <;> decide) h
      replace h := ifF (by rw [e9] <;> decide) h
      replace h := ifF (by rw [e9] <;> decide) h
      replace h := ifF (by rw [e9] <;> decide) h
      replace h := ifF (by rw [e9] <;> decide) h
      replace h := ifF (by rw [e9] <;> decide) h
      replace h := ifF (by rw [e9] <;> decide) h
      replace h := ifT (by rw [e9] <;> decide) h
      refine Y_aload_n (pc := 182) (j := 0) dX3_useStack_182 rfl rfl ?_
      refine Z_getr (pc := 183) dX3_useStack_183 w1_171 (lo_0 hP ho) fr_4_2 (lor_0_2 hP ho) ?_
      refine Y_aload_n (pc := 186) (j := 0) dX3_useStack_186 rfl rfl ?_
      refine Y_iconst (pc := 187) (v := (1 : Int32)) dX3_useStack_187 rfl ?_
      obtain ⟨y13, qy13, h⟩ := bindE h
      have cy13 := v_X3_fromTop ho hP qy13
      refine C_V1r (pc := 188) (k' := k_X3_fromTop) dX3_useStack_188 w5_106 i_X3_fromTop (lo_0 hP ho) ⟨Nat.le_of_ble_eq_true rfl, Nat.le_of_ble_eq_true rfl⟩ rfl (Nat.le_of_ble_eq_true rfl) (Nat.le_of_ble_eq_true rfl) (Nat.le_of_ble_eq_true rfl) (cy13) ?_
      have hPy13 := cy13.1.1
      obtain ⟨y14, qy14, h⟩ := bindE h
      have cy14 := v_X8_round ho hPy13 qy14
      refine C_V1o (pc := 191) (k' := k_X8_round) dX3_useStack_191 w5_229 i_X8_round (lo_1 hPy13 ho) ⟨Nat.le_of_ble_eq_true rfl, Nat.le_of_ble_eq_true rfl⟩ rfl (Nat.le_of_ble_eq_true rfl) (Nat.le_of_ble_eq_true rfl) (Nat.le_of_ble_eq_true rfl) (cy14) ?_
      have hPy14 := cy14.1.1
      cases h
      exact Y_vret (pc := 194) rfl dX3_useStack_194 hPy14 ⟨rfl, rfl⟩
  · intro n9
    replace h := ifF (xs_no n9 (by decide : ((100 : Int32), 167) ∈ _)) h
    replace h := ifF (xs_no n9 (by decide : ((105 : Int32), 96) ∈ _)) h
    replace h := ifF (xs_no n9 (by decide : ((107 : Int32), 104) ∈ _)) h
    replace h := ifF (xs_no n9 (by decide : ((108 : Int32), 120) ∈ _)) h
    replace h := ifF (xs_no n9 (by decide : ((115 : Int32), 145) ∈ _)) h
    replace h := ifF (xs_no n9 (by decide : ((116 : Int32), 173) ∈ _)) h
    replace h := ifF (xs_no n9 (by decide : ((117 : Int32), 135) ∈ _)) h
    replace h := ifF (xs_no n9 (by decide : ((119 : Int32), 182) ∈ _)) h
    refine Y_aload_n (pc := 195) (j := 0) dX3_useStack_195 rfl rfl ?_
    refine Z_getr (pc := 196) dX3_useStack_196 w1_171 (lo_0 hP ho) fr_4_2 (lor_0_2 hP ho) ?_
    refine Y_iload_n (pc := 199) (j := 1) dX3_useStack_199 rfl rfl ?_
    refine Y_aload_n (pc := 200) (j := 0) dX3_useStack_200 rfl rfl ?_
    refine Y_iconst (pc := 201) (v := (2 : Int32)) dX3_useStack_201 rfl ?_
    obtain ⟨y15, qy15, h⟩ := bindE h
    have cy15 := v_X3_fromTop ho hP qy15
    refine C_V1r (pc := 202) (k' := k_X3_fromTop) dX3_useStack_202 w5_106 i_X3_fromTop (lo_0 hP ho) ⟨Nat.le_of_ble_eq_true rfl, Nat.le_of_ble_eq_true rfl⟩ rfl (Nat.le_of_ble_eq_true rfl) (Nat.le_of_ble_eq_true rfl) (Nat.le_of_ble_eq_true rfl) (cy15) ?_
    have hPy15 := cy15.1.1
    refine Y_aload_n (pc := 205) (j := 0) dX3_useStack_205 rfl rfl ?_
    refine Y_iconst (pc := 206) (v := (1 : Int32)) dX3_useStack_206 rfl ?_
    obtain ⟨y16, qy16, h⟩ := bindE h
    have cy16 := v_X3_fromTop ho hPy15 qy16
    refine C_V1r (pc := 207) (k' := k_X3_fromTop) dX3_useStack_207 w5_106 i_X3_fromTop (lo_0 hPy15 ho) ⟨Nat.le_of_ble_eq_true rfl, Nat.le_of_ble_eq_true rfl⟩ rfl (Nat.le_of_ble_eq_true rfl) (Nat.le_of_ble_eq_true rfl) (Nat.le_of_ble_eq_true rfl) (cy16) ?_
    have hPy16 := cy16.1.1
    obtain ⟨y17, qy17, h⟩ := bindE h
    have cy17 := v_X8_combine ho hPy16 qy17
    refine C_V3o (pc := 210) (k' := k_X8_combine) dX3_useStack_210 w5_239 i_X8_combine (lo_1 hPy16 ho) ⟨Nat.le_of_ble_eq_true rfl, Nat.le_of_ble_eq_true rfl⟩ rfl (Nat.le_of_ble_eq_true rfl) (Nat.le_of_ble_eq_true rfl) (Nat.le_of_ble_eq_true rfl) (cy17) ?_
    have hPy17 := cy17.1.1
    refine Y_aload_n (pc := 213) (j := 0) dX3_useStack_213 rfl rfl ?_
    obtain ⟨y18, qy18, h⟩ := bindE h
    have cy18 := v_X3_take ho hPy17 qy18
    refine C_V0r (pc := 214) (k' := k_X3_take) dX3_useStack_214 w5_181 i_X3_take (lo_0 hPy17 ho) ⟨Nat.le_of_ble_eq_true rfl, Nat.le_of_ble_eq_true rfl⟩ rfl (Nat.le_of_ble_eq_true rfl) (Nat.le_of_ble_eq_true rfl) (Nat.le_of_ble_eq_true rfl) (cy18) ?_
    have hPy18 := cy18.1.1
    refine Y_pop (pc := 217) dX3_useStack_217 rfl ?_
    cases h
    exact Y_vret (pc := 218) rfl dX3_useStack_218 hPy18 ⟨rfl, rfl⟩
theorem v_X3_useStack {o : Nat} {x1 : Int32} {x2 : Int32} {M z} (ho : o = 18 ∨ o = 28) (hP : Lay M) (h : d_X3_useStack o x1 x2 M = some z) : CC Lay k_X3_useStack [.ref o, .int x1, .int x2] M z.2 (Qv (none) z.2) xF :=
  CC.ofVV (by decide) rfl (Nat.le_of_ble_eq_true rfl) (b_X3_useStack ho hP h)
set_option maxRecDepth 20000 in
theorem b_X3_execute {o : Nat} {M z} (ho : o = 18 ∨ o = 28) (hP : Lay M) (h : d_X3_execute o M = some z) : VV Lay k_X3_execute 0 [(0, .ref o)] [] M z.2 (Qv (some (.int z.1)) z.2) xF := by
  unfold d_X3_execute at h
  refine Y_aload_n (pc := 0) (j := 0) dX3_execute_0 rfl rfl ?_
  refine Z_geti (pc := 1) dX3_execute_1 w1_184 (lo_0 hP ho) fi_4_9 ?_
  refine Y_iconst (pc := 4) (v := (1 : Int32)) dX3_execute_4 rfl ?_
  refine Y_isub (pc := 5) dX3_execute_5 ?_
  obtain ⟨b1, eb1, h⟩ := bndE h
  refine VV.topI eb1 ?_
  refine Y_istore_n (pc := 6) (lv1 := [(1, .int b1), (0, .ref o)]) dX3_execute_6 rfl (by decide) rfl ?_
  refine Y_aload_n (pc := 7) (j := 1) dX3_execute_7 rfl rfl ?_
  refine Z_getr (pc := 8) dX3_execute_8 w1_175 (lo_0 hP ho) fr_4_4 (lor_0_4 hP ho) ?_
  refine Y_iload_n (pc := 11) (j := 0) dX3_execute_11 rfl rfl ?_
  obtain ⟨hb1, h⟩ := okE h
  refine Y_iald (pc := 12) dX3_execute_12 (lo_7 hP ho) (lon_7 hP ho) hb1 ?_
  obtain ⟨b2, eb2, h⟩ := bndE h
  refine VV.topI eb2 ?_
  refine Y_istore_n (pc := 13) (lv1 := [(2, .int b2), (1, .int b1), (0, .ref o)]) dX3_execute_13 rfl (by decide) rfl ?_
  refine Y_aload_n (pc := 14) (j := 2) dX3_execute_14 rfl rfl ?_
  refine Z_geti (pc := 15) dX3_execute_15 w1_183 (lo_0 hP ho) fi_4_8 ?_
  obtain ⟨b3, eb3, h⟩ := bndE h
  refine VV.topI eb3 ?_
  refine Y_istore_n (pc := 18) (lv1 := [(3, .int b3), (2, .int b2), (1, .int b1), (0, .ref o)]) dX3_execute_18 rfl (by decide) rfl ?_
  refine Y_aload_n (pc := 19) (j := 3) dX3_execute_19 rfl rfl ?_
  refine Y_dup (pc := 20) dX3_execute_20 rfl ?_
  refine Z_geti (pc := 21) dX3_execute_21 w1_191 (lo_0 hP ho) fi_4_12 ?_
  refine Y_iconst (pc := 24) (v := (1 : Int32)) dX3_execute_24 rfl ?_
  refine Y_iadd (pc := 25) dX3_execute_25 ?_
  refine Z_puti (pc := 26) dX3_execute_26 w1_191 (lo_0 hP ho) fi_4_12 (Or.inl rfl) rfl ?_
  obtain ⟨M1, eM1, h⟩ := bndE h
  refine VV.mem eM1 ?_
  have hP1 := hP.wI eM1
  refine Y_aload_n (pc := 29) (j := 3) dX3_execute_29 rfl rfl ?_
  refine Z_getr (pc := 30) dX3_execute_30 w1_175 (lo_0 hP1 ho) fr_4_4 (lor_0_4 hP1 ho) ?_
  refine Y_iload_n (pc := 33) (j := 2) dX3_execute_33 rfl rfl ?_
  refine Y_iload_n (pc := 34) (j := 1) dX3_execute_34 rfl rfl ?_
  refine Y_iconst (pc := 35) (v := (1 : Int32)) dX3_execute_35 rfl ?_
  refine Y_iadd (pc := 36) dX3_execute_36 ?_
  obtain ⟨hb2, h⟩ := okE h
  refine Y_iast (pc := 37) dX3_execute_37 (lo_7 hP1 ho) (lon_7 hP1 ho) hb2 ?_
  obtain ⟨M2, eM2, h⟩ := bndE h
  refine VV.mem eM2 ?_
  have hP2 := hP1.wI eM2
  refine Y_aload_n (pc := 38) (j := 3) dX3_execute_38 rfl rfl ?_
  refine Z_geti (pc := 39) dX3_execute_39 w1_181 (lo_0 hP2 ho) fi_4_7 ?_
  obtain ⟨b4, eb4, h⟩ := bndE h
  refine VV.topI eb4 ?_
  refine Y_table (pc := 42) dX3_execute_42 [(99, 177), (100, 229), (101, 229), (102, 229), (103, 218), (104, 229), (105, 229), (106, 152), (107, 229), (108, 229), (109, 193), (110, 218), (111, 229), (112, 218), (113, 229), (114, 212), (115, 229), (116, 229), (117, 229), (118, 229), (119, 229), (120, 229), (121, 229), (122, 170)] 229 (by decide) (tab_ok (by decide +kernel)) (by decide) ?_ ?_
  · refine xs_cons ?_ <| xs_cons ?_ <| xs_cons ?_ <| xs_cons ?_ <| xs_cons ?_ <| xs_cons ?_ <| xs_cons ?_ <| xs_cons ?_ <| xs_cons ?_ <| xs_cons ?_ <| xs_cons ?_ <| xs_cons ?_ <| xs_cons ?_ <| xs_cons ?_ <| xs_cons ?_ <| xs_cons ?_ <| xs_cons ?_ <| xs_cons ?_ <| xs_cons ?_ <| xs_cons ?_ <| xs_cons ?_ <| xs_cons ?_ <| xs_cons ?_ <| xs_cons ?_ <| xs_nil
    · intro e9
      replace h := ifT (by rw [e9] <;> decide) h
      refine Y_aload_n (pc := 177) (j := 3) dX3_execute_177 rfl rfl ?_
      refine Y_iload_n (pc := 178) (j := 0) dX3_execute_178 rfl rfl ?_
      refine Y_aload_n (pc := 179) (j := 3) dX3_execute_179 rfl rfl ?_
      refine Z_getr (pc := 180) dX3_execute_180 w1_167 (lo_0 hP2 ho) fr_4_0 (lor_0_0 hP2 ho) ?_
      refine Z_getr (pc := 183) dX3_execute_183 w1_55 (lk_2 hP2) fr_5_0 (lr_2_0 hP2) ?_
      refine Y_iload_n (pc := 186) (j := 0) dX3_execute_186 rfl rfl ?_
      obtain ⟨hb3, h⟩ := okE h
      refine Y_iald (pc := 187) dX3_execute_187 (lk_3 hP2) (ln_3 hP2) hb3 ?_
      obtain ⟨y1, qy1, h⟩ := bindE h
      have cy1 := v_X3_call ho hP2 qy1
      refine C_V2o (pc := 188) (k' := k_X3_call) dX3_execute_188 w5_189 i_X3_call (lo_0 hP2 ho) ⟨Nat.le_of_ble_eq_true rfl, Nat.le_of_ble_eq_true rfl⟩ rfl (Nat.le_of_ble_eq_true rfl) (Nat.le_of_ble_eq_true rfl) (Nat.le_of_ble_eq_true rfl) (cy1) ?_
      have hPy1 := cy1.1.1
      refine Y_iconst (pc := 191) (v := (0 : Int32)) dX3_execute_191 rfl ?_
      cases h
      exact Y_iret (pc := 192) rfl (nar_bo (by decide)) dX3_execute_192 hPy1 ⟨rfl, rfl⟩
    · intro e9
      replace h := ifF (by rw [e9] <;> decide) h
      replace h := ifF (by rw [e9] <;> decide) h
      replace h := ifF (by rw [e9] <;> decide) h
      replace h := ifF (by rw [e9] <;> decide) h
      replace h := ifF (by rw [e9] <;> decide) h
      replace h := ifF (by rw [e9] <;> decide) h
      refine Y_aload_n (pc := 229) (j := 3) dX3_execute_229 rfl rfl ?_
      refine Y_aload_n (pc := 230) (j := 3) dX3_execute_230 rfl rfl ?_
      refine Z_geti (pc := 231) dX3_execute_231 w1_181 (lo_0 hP2 ho) fi_4_7 ?_
      refine Y_iload_n (pc := 234) (j := 0) dX3_execute_234 rfl rfl ?_
      obtain ⟨y8, qy8, h⟩ := bindE h
      have cy8 := v_X3_useStack ho hP2 qy8
      refine C_V2o (pc := 235) (k' := k_X3_useStack) dX3_execute_235 w5_221 i_X3_useStack (lo_0 hP2 ho) ⟨Nat.le_of_ble_eq_true rfl, Nat.le_of_ble_eq_true rfl⟩ rfl (Nat.le_of_ble_eq_true rfl) (Nat.le_of_ble_eq_true rfl) (Nat.le_of_ble_eq_true rfl) (cy8) ?_
      have hPy8 := cy8.1.1
      refine Y_iconst (pc := 238) (v := (0 : Int32)) dX3_execute_238 rfl ?_
      cases h
      exact Y_iret (pc := 239) rfl (nar_bo (by decide)) dX3_execute_239 hPy8 ⟨rfl, rfl⟩
    · intro e9
      replace h := ifF (by rw [e9] <;> decide) h
      replace h := ifF (by rw [e9] <;> decide) h
      replace h := ifF (by rw [e9] <;> decide) h
      replace h := ifF (by rw [e9] <;> decide) h
      replace h := ifF (by rw [e9] <;> decide) h
      replace h := ifF (by rw [e9] <;> decide) h
      refine Y_aload_n (pc := 229) (j := 3) dX3_execute_229 rfl rfl ?_
      refine Y_aload_n (pc := 230) (j := 3) dX3_execute_230 rfl rfl ?_
      refine Z_geti (pc := 231) dX3_execute_231 w1_181 (lo_0 hP2 ho) fi_4_7 ?_
      refine Y_iload_n (pc := 234) (j := 0) dX3_execute_234 rfl rfl ?_
      obtain ⟨y8, qy8, h⟩ := bindE h
      have cy8 := v_X3_useStack ho hP2 qy8
      refine C_V2o (pc := 235) (k' := k_X3_useStack) dX3_execute_235 w5_221 i_X3_useStack (lo_0 hP2 ho) ⟨Nat.le_of_ble_eq_true rfl, Nat.le_of_ble_eq_true rfl⟩ rfl (Nat.le_of_ble_eq_true rfl) (Nat.le_of_ble_eq_true rfl) (Nat.le_of_ble_eq_true rfl) (cy8) ?_
      have hPy8 := cy8.1.1
      refine Y_iconst (pc := 238) (v := (0 : Int32)) dX3_execute_238 rfl ?_
      cases h
      exact Y_iret (pc := 239) rfl (nar_bo (by decide)) dX3_execute_239 hPy8 ⟨rfl, rfl⟩
    · intro e9
      replace h := ifF (by rw [e9] <;> decide) h
      replace h := ifF (by rw [e9] <;> decide) h
      replace h := ifF (by rw [e9] <;> decide) h
      replace h := ifF (by rw [e9] <;> decide) h
      replace h := ifF (by rw [e9] <;> decide) h
      replace h := ifF (by rw [e9] <;> decide) h
      refine Y_aload_n (pc := 229) (j := 3) dX3_execute_229 rfl rfl ?_
      refine Y_aload_n (pc := 230) (j := 3) dX3_execute_230 rfl rfl ?_
      refine Z_geti (pc := 231) dX3_execute_231 w1_181 (lo_0 hP2 ho) fi_4_7 ?_
      refine Y_iload_n (pc := 234) (j := 0) dX3_execute_234 rfl rfl ?_
      obtain ⟨y8, qy8, h⟩ := bindE h
      have cy8 := v_X3_useStack ho hP2 qy8
      refine C_V2o (pc := 235) (k' := k_X3_useStack) dX3_execute_235 w5_221 i_X3_useStack (lo_0 hP2 ho) ⟨Nat.le_of_ble_eq_true rfl, Nat.le_of_ble_eq_true rfl⟩ rfl (Nat.le_of_ble_eq_true rfl) (Nat.le_of_ble_eq_true rfl) (Nat.le_of_ble_eq_true rfl) (cy8) ?_
      have hPy8 := cy8.1.1
      refine Y_iconst (pc := 238) (v := (0 : Int32)) dX3_execute_238 rfl ?_
      cases h
      exact Y_iret (pc := 239) rfl (nar_bo (by decide)) dX3_execute_239 hPy8 ⟨rfl, rfl⟩
    · intro e9
      replace h := ifF (by rw [e9] <;> decide) h
      replace h := ifT (by rw [e9] <;> decide) h
      refine Y_aload_n (pc := 218) (j := 3) dX3_execute_218 rfl rfl ?_
      refine Y_aload_n (pc := 219) (j := 3) dX3_execute_219 rfl rfl ?_
      refine Z_geti (pc := 220) dX3_execute_220 w1_181 (lo_0 hP2 ho) fi_4_7 ?_
      refine Y_iload_n (pc := 223) (j := 0) dX3_execute_223 rfl rfl ?_
      obtain ⟨y2, qy2, h⟩ := bindE h
      have cy2 := v_X3_useObject ho hP2 qy2
      refine C_V2o (pc := 224) (k' := k_X3_useObject) dX3_execute_224 w5_205 i_X3_useObject (lo_0 hP2 ho) ⟨Nat.le_of_ble_eq_true rfl, Nat.le_of_ble_eq_true rfl⟩ rfl (Nat.le_of_ble_eq_true rfl) (Nat.le_of_ble_eq_true rfl) (Nat.le_of_ble_eq_true rfl) (cy2) ?_
      have hPy2 := cy2.1.1
      refine Y_iconst (pc := 227) (v := (0 : Int32)) dX3_execute_227 rfl ?_
      cases h
      exact Y_iret (pc := 228) rfl (nar_bo (by decide)) dX3_execute_228 hPy2 ⟨rfl, rfl⟩
    · intro e9
      replace h := ifF (by rw [e9] <;> decide) h
      replace h := ifF (by rw [e9] <;> decide) h
      replace h := ifF (by rw [e9] <;> decide) h
      replace h := ifF (by rw [e9] <;> decide) h
      replace h := ifF (by rw [e9] <;> decide) h
      replace h := ifF (by rw [e9] <;> decide) h
      refine Y_aload_n (pc := 229) (j := 3) dX3_execute_229 rfl rfl ?_
      refine Y_aload_n (pc := 230) (j := 3) dX3_execute_230 rfl rfl ?_
      refine Z_geti (pc := 231) dX3_execute_231 w1_181 (lo_0 hP2 ho) fi_4_7 ?_
      refine Y_iload_n (pc := 234) (j := 0) dX3_execute_234 rfl rfl ?_
      obtain ⟨y8, qy8, h⟩ := bindE h
      have cy8 := v_X3_useStack ho hP2 qy8
      refine C_V2o (pc := 235) (k' := k_X3_useStack) dX3_execute_235 w5_221 i_X3_useStack (lo_0 hP2 ho) ⟨Nat.le_of_ble_eq_true rfl, Nat.le_of_ble_eq_true rfl⟩ rfl (Nat.le_of_ble_eq_true rfl) (Nat.le_of_ble_eq_true rfl) (Nat.le_of_ble_eq_true rfl) (cy8) ?_
      have hPy8 := cy8.1.1
      refine Y_iconst (pc := 238) (v := (0 : Int32)) dX3_execute_238 rfl ?_
      cases h
      exact Y_iret (pc := 239) rfl (nar_bo (by decide)) dX3_execute_239 hPy8 ⟨rfl, rfl⟩
    · intro e9
      replace h := ifF (by rw [e9] <;> decide) h
      replace h := ifF (by rw [e9] <;> decide) h
      replace h := ifF (by rw [e9] <;> decide) h
      replace h := ifF (by rw [e9] <;> decide) h
      replace h := ifF (by rw [e9] <;> decide) h
      replace h := ifF (by rw [e9] <;> decide) h
      refine Y_aload_n (pc := 229) (j := 3) dX3_execute_229 rfl rfl ?_
      refine Y_aload_n (pc := 230) (j := 3) dX3_execute_230 rfl rfl ?_
      refine Z_geti (pc := 231) dX3_execute_231 w1_181 (lo_0 hP2 ho) fi_4_7 ?_
      refine Y_iload_n (pc := 234) (j := 0) dX3_execute_234 rfl rfl ?_
      obtain ⟨y8, qy8, h⟩ := bindE h
      have cy8 := v_X3_useStack ho hP2 qy8
      refine C_V2o (pc := 235) (k' := k_X3_useStack) dX3_execute_235 w5_221 i_X3_useStack (lo_0 hP2 ho) ⟨Nat.le_of_ble_eq_true rfl, Nat.le_of_ble_eq_true rfl⟩ rfl (Nat.le_of_ble_eq_true rfl) (Nat.le_of_ble_eq_true rfl) (Nat.le_of_ble_eq_true rfl) (cy8) ?_
      have hPy8 := cy8.1.1
      refine Y_iconst (pc := 238) (v := (0 : Int32)) dX3_execute_238 rfl ?_
      cases h
      exact Y_iret (pc := 239) rfl (nar_bo (by decide)) dX3_execute_239 hPy8 ⟨rfl, rfl⟩
    · intro e9
      replace h := ifF (by rw [e9] <;> decide) h
      replace h := ifF (by rw [e9] <;> decide) h
      replace h := ifT (by rw [e9] <;> decide) h
      refine Y_aload_n (pc := 152) (j := 3) dX3_execute_152 rfl rfl ?_
      refine Z_getr (pc := 153) dX3_execute_153 w1_175 (lo_0 hP2 ho) fr_4_4 (lor_0_4 hP2 ho) ?_
      refine Y_iload_n (pc := 156) (j := 2) dX3_execute_156 rfl rfl ?_
      refine Y_iload_n (pc := 157) (j := 0) dX3_execute_157 rfl rfl ?_
      obtain ⟨hb4, h⟩ := okE h
      refine Y_iast (pc := 158) dX3_execute_158 (lo_7 hP2 ho) (lon_7 hP2 ho) hb4 ?_
      obtain ⟨M3, eM3, h⟩ := bndE h
      refine VV.mem eM3 ?_
      have hP3 := hP2.wI eM3
      refine Y_iload_n (pc := 159) (j := 0) dX3_execute_159 rfl rfl ?_
      refine Y_iload_n (pc := 160) (j := 1) dX3_execute_160 rfl rfl ?_
      refine Y_icmp_gt (pc := 161) (tgt := 168) dX3_execute_161 (by decide) (fun hc1 => ?_) (fun hc1 => ?_)
      · replace h := ifT hc1 h
        refine Y_iconst (pc := 168) (v := (0 : Int32)) dX3_execute_168 rfl ?_
        cases h
        exact Y_iret (pc := 169) rfl (nar_bo (by decide)) dX3_execute_169 hP3 ⟨rfl, rfl⟩
      · replace h := ifF hc1 h
        refine Y_iconst (pc := 164) (v := (1 : Int32)) dX3_execute_164 rfl ?_
        refine Y_goto (pc := 165) (tgt := 169) dX3_execute_165 (by decide) ?_
        cases h
        exact Y_iret (pc := 169) rfl (nar_bo (by decide)) dX3_execute_169 hP3 ⟨rfl, rfl⟩
    · intro e9
      replace h := ifF (by rw [e9] <;> decide) h
      replace h := ifF (by rw [e9] <;> decide) h
      replace h := ifF (by rw [e9] <;> decide) h
      replace h := ifF (by rw [e9] <;> decide) h
      replace h := ifF (by rw [e9] <;> decide) h
      replace h := ifF (by rw [e9] <;> decide) h
      refine Y_aload_n (pc := 229) (j := 3) dX3_execute_229 rfl rfl ?_
      refine Y_aload_n (pc := 230) (j := 3) dX3_execute_230 rfl rfl ?_
      refine Z_geti (pc := 231) dX3_execute_231 w1_181 (lo_0 hP2 ho) fi_4_7 ?_
      refine Y_iload_n (pc := 234) (j := 0) dX3_execute_234 rfl rfl ?_
      obtain ⟨y8, qy8, h⟩ := bindE h
      have cy8 := v_X3_useStack ho hP2 qy8
      refine C_V2o (pc := 235) (k' := k_X3_useStack) dX3_execute_235 w5_221 i_X3_useStack (lo_0 hP2 ho) ⟨Nat.le_of_ble_eq_true rfl, Nat.le_of_ble_eq_true rfl⟩ rfl (Nat.le_of_ble_eq_true rfl) (Nat.le_of_ble_eq_true rfl) (Nat.le_of_ble_eq_true rfl) (cy8) ?_
      have hPy8 := cy8.1.1
      refine Y_iconst (pc := 238) (v := (0 : Int32)) dX3_execute_238 rfl ?_
      cases h
      exact Y_iret (pc := 239) rfl (nar_bo (by decide)) dX3_execute_239 hPy8 ⟨rfl, rfl⟩
    · intro e9
      replace h := ifF (by rw [e9] <;> decide) h
      replace h := ifF (by rw [e9] <;> decide) h
      replace h := ifF (by rw [e9] <;> decide) h
      replace h := ifF (by rw [e9] <;> decide) h
      replace h := ifF (by rw [e9] <;> decide) h
      replace h := ifF (by rw [e9] <;> decide) h
      refine Y_aload_n (pc := 229) (j := 3) dX3_execute_229 rfl rfl ?_
      refine Y_aload_n (pc := 230) (j := 3) dX3_execute_230 rfl rfl ?_
      refine Z_geti (pc := 231) dX3_execute_231 w1_181 (lo_0 hP2 ho) fi_4_7 ?_
      refine Y_iload_n (pc := 234) (j := 0) dX3_execute_234 rfl rfl ?_
      obtain ⟨y8, qy8, h⟩ := bindE h
      have cy8 := v_X3_useStack ho hP2 qy8
      refine C_V2o (pc := 235) (k' := k_X3_useStack) dX3_execute_235 w5_221 i_X3_useStack (lo_0 hP2 ho) ⟨Nat.le_of_ble_eq_true rfl, Nat.le_of_ble_eq_true rfl⟩ rfl (Nat.le_of_ble_eq_true rfl) (Nat.le_of_ble_eq_true rfl) (Nat.le_of_ble_eq_true rfl) (cy8) ?_
      have hPy8 := cy8.1.1
      refine Y_iconst (pc := 238) (v := (0 : Int32)) dX3_execute_238 rfl ?_
      cases h
      exact Y_iret (pc := 239) rfl (nar_bo (by decide)) dX3_execute_239 hPy8 ⟨rfl, rfl⟩
    · intro e9
      replace h := ifF (by rw [e9] <;> decide) h
      replace h := ifF (by rw [e9] <;> decide) h
      replace h := ifF (by rw [e9] <;> decide) h
      replace h := ifT (by rw [e9] <;> decide) h
      refine Y_aload_n (pc := 193) (j := 3) dX3_execute_193 rfl rfl ?_
      refine Y_aload_n (pc := 194) (j := 3) dX3_execute_194 rfl rfl ?_
      refine Z_getr (pc := 195) dX3_execute_195 w1_167 (lo_0 hP2 ho) fr_4_0 (lor_0_0 hP2 ho) ?_
      refine Y_aload_n (pc := 198) (j := 3) dX3_execute_198 rfl rfl ?_
      obtain ⟨y3, qy3, h⟩ := bindE h
      have cy3 := v_X3_classFromTop ho hP2 qy3
      refine C_V0r (pc := 199) (k' := k_X3_classFromTop) dX3_execute_199 w5_153 i_X3_classFromTop (lo_0 hP2 ho) ⟨Nat.le_of_ble_eq_true rfl, Nat.le_of_ble_eq_true rfl⟩ rfl (Nat.le_of_ble_eq_true rfl) (Nat.le_of_ble_eq_true rfl) (Nat.le_of_ble_eq_true rfl) (cy3) ?_
      have hPy3 := cy3.1.1
      refine Y_iload_n (pc := 202) (j := 0) dX3_execute_202 rfl rfl ?_
      obtain ⟨y4, qy4, h⟩ := bindE h
      have cy4 := v_X5_methodOf hPy3 qy4
      refine C_V2r (pc := 203) (k' := k_X5_methodOf) dX3_execute_203 w5_157 i_X5_methodOf (lk_2 hPy3) ⟨Nat.le_of_ble_eq_true rfl, Nat.le_of_ble_eq_true rfl⟩ rfl (Nat.le_of_ble_eq_true rfl) (Nat.le_of_ble_eq_true rfl) (Nat.le_of_ble_eq_true rfl) (cy4) ?_
      have hPy4 := cy4.1.1
      refine Y_iconst (pc := 206) (v := (1 : Int32)) dX3_execute_206 rfl ?_
      obtain ⟨y5, qy5, h⟩ := bindE h
      have cy5 := v_X3_call ho hPy4 qy5
      refine C_V2o (pc := 207) (k' := k_X3_call) dX3_execute_207 w5_189 i_X3_call (lo_0 hPy4 ho) ⟨Nat.le_of_ble_eq_true rfl, Nat.le_of_ble_eq_true rfl⟩ rfl (Nat.le_of_ble_eq_true rfl) (Nat.le_of_ble_eq_true rfl) (Nat.le_of_ble_eq_true rfl) (cy5) ?_
      have hPy5 := cy5.1.1
      refine Y_iconst (pc := 210) (v := (0 : Int32)) dX3_execute_210 rfl ?_
      cases h
      exact Y_iret (pc := 211) rfl (nar_bo (by decide)) dX3_execute_211 hPy5 ⟨rfl, rfl⟩
    · intro e9
      replace h := ifF (by rw [e9] <;> decide) h
      replace h := ifT (by rw [e9] <;> decide) h
      refine Y_aload_n (pc := 218) (j := 3) dX3_execute_218 rfl rfl ?_
      refine Y_aload_n (pc := 219) (j := 3) dX3_execute_219 rfl rfl ?_
      refine Z_geti (pc := 220) dX3_execute_220 w1_181 (lo_0 hP2 ho) fi_4_7 ?_
      refine Y_iload_n (pc := 223) (j := 0) dX3_execute_223 rfl rfl ?_
      obtain ⟨y2, qy2, h⟩ := bindE h
      have cy2 := v_X3_useObject ho hP2 qy2
      refine C_V2o (pc := 224) (k' := k_X3_useObject) dX3_execute_224 w5_205 i_X3_useObject (lo_0 hP2 ho) ⟨Nat.le_of_ble_eq_true rfl, Nat.le_of_ble_eq_true rfl⟩ rfl (Nat.le_of_ble_eq_true rfl) (Nat.le_of_ble_eq_true rfl) (Nat.le_of_ble_eq_true rfl) (cy2) ?_
      have hPy2 := cy2.1.1
      refine Y_iconst (pc := 227) (v := (0 : Int32)) dX3_execute_227 rfl ?_
      cases h
      exact Y_iret (pc := 228) rfl (nar_bo (by decide)) dX3_execute_228 hPy2 ⟨rfl, rfl⟩
    · intro e9
      replace h := ifF (by rw [e9] <;> decide) h
      replace h := ifF (by rw [e9] <;> decide) h
      replace h := ifF (by rw [e9] <;> decide) h
      replace h := ifF (by rw [e9] <;> decide) h
      replace h := ifF (by rw [e9] <;> decide) h
      replace h := ifF (by rw [e9] <;> decide) h
      refine Y_aload_n (pc := 229) (j := 3) dX3_execute_229 rfl rfl ?_
      refine Y_aload_n (pc := 230) (j := 3) dX3_execute_230 rfl rfl ?_
      refine Z_geti (pc := 231) dX3_execute_231 w1_181 (lo_0 hP2 ho) fi_4_7 ?_
      refine Y_iload_n (pc := 234) (j := 0) dX3_execute_234 rfl rfl ?_
      obtain ⟨y8, qy8, h⟩ := bindE h
      have cy8 := v_X3_useStack ho hP2 qy8
      refine C_V2o (pc := 235) (k' := k_X3_useStack) dX3_execute_235 w5_221 i_X3_useStack (lo_0 hP2 ho) ⟨Nat.le_of_ble_eq_true rfl, Nat.le_of_ble_eq_true rfl⟩ rfl (Nat.le_of_ble_eq_true rfl) (Nat.le_of_ble_eq_true rfl) (Nat.le_of_ble_eq_true rfl) (cy8) ?_
      have hPy8 := cy8.1.1
      refine Y_iconst (pc := 238) (v := (0 : Int32)) dX3_execute_238 rfl ?_
      cases h
      exact Y_iret (pc := 239) rfl (nar_bo (by decide)) dX3_execute_239 hPy8 ⟨rfl, rfl⟩
    · intro e9
      replace h := ifF (by rw [e9] <;> decide) h
      replace h := ifT (by rw [e9] <;> decide) h
      refine Y_aload_n (pc := 218) (j := 3) dX3_execute_218 rfl rfl ?_
      refine Y_aload_n (pc := 219) (j := 3) dX3_execute_219 rfl rfl ?_
      refine Z_geti (pc := 220) dX3_execute_220 w1_181 (lo_0 hP2 ho) fi_4_7 ?_
      refine Y_iload_n (pc := 223) (j := 0) dX3_execute_223 rfl rfl ?_
      obtain ⟨y2, qy2, h⟩ := bindE h
      have cy2 := v_X3_useObject ho hP2 qy2
      refine C_V2o (pc := 224) (k' := k_X3_useObject) dX3_execute_224 w5_205 i_X3_useObject (lo_0 hP2 ho) ⟨Nat.le_of_ble_eq_true rfl, Nat.le_of_ble_eq_true rfl⟩ rfl (Nat.le_of_ble_eq_true rfl) (Nat.le_of_ble_eq_true rfl) (Nat.le_of_ble_eq_true rfl) (cy2) ?_
      have hPy2 := cy2.1.1
      refine Y_iconst (pc := 227) (v := (0 : Int32)) dX3_execute_227 rfl ?_
      cases h
      exact Y_iret (pc := 228) rfl (nar_bo (by decide)) dX3_execute_228 hPy2 ⟨rfl, rfl⟩
    · intro e9
      replace h := ifF (by rw [e9] <;> decide) h
      replace h := ifF (by rw [e9] <;> decide) h
      replace h := ifF (by rw [e9] <;> decide) h
      replace h := ifF (by rw [e9] <;> decide) h
      replace h := ifF (by rw [e9] <;> decide) h
      replace h := ifF (by rw [e9] <;> decide) h
      refine Y_aload_n (pc := 229) (j := 3) dX3_execute_229 rfl rfl ?_
      refine Y_aload_n (pc := 230) (j := 3) dX3_execute_230 rfl rfl ?_
      refine Z_geti (pc := 231) dX3_execute_231 w1_181 (lo_0 hP2 ho) fi_4_7 ?_
      refine Y_iload_n (pc := 234) (j := 0) dX3_execute_234 rfl rfl ?_
      obtain ⟨y8, qy8, h⟩ := bindE h
      have cy8 := v_X3_useStack ho hP2 qy8
      refine C_V2o (pc := 235) (k' := k_X3_useStack) dX3_execute_235 w5_221 i_X3_useStack (lo_0 hP2 ho) ⟨Nat.le_of_ble_eq_true rfl, Nat.le_of_ble_eq_true rfl⟩ rfl (Nat.le_of_ble_eq_true rfl) (Nat.le_of_ble_eq_true rfl) (Nat.le_of_ble_eq_true rfl) (cy8) ?_
      have hPy8 := cy8.1.1
      refine Y_iconst (pc := 238) (v := (0 : Int32)) dX3_execute_238 rfl ?_
      cases h
      exact Y_iret (pc := 239) rfl (nar_bo (by decide)) dX3_execute_239 hPy8 ⟨rfl, rfl⟩
    · intro e9
      replace h := ifF (by rw [e9] <;> decide) h
      replace h := ifF (by rw [e9] <;> decide) h
      replace h := ifF (by rw [e9] <;> decide) h
      replace h := ifF (by rw [e9] <;> decide) h
      replace h := ifT (by rw [e9] <;> decide) h
      refine Y_aload_n (pc := 212) (j := 3) dX3_execute_212 rfl rfl ?_
      obtain ⟨y6, qy6, h⟩ := bindE h
      have cy6 := v_X3_giveBack ho hP2 qy6
      refine C_V0o (pc := 213) (k' := k_X3_giveBack) dX3_execute_213 w5_197 i_X3_giveBack (lo_0 hP2 ho) ⟨Nat.le_of_ble_eq_true rfl, Nat.le_of_ble_eq_true rfl⟩ rfl (Nat.le_of_ble_eq_true rfl) (Nat.le_of_ble_eq_true rfl) (Nat.le_of_ble_eq_true rfl) (cy6) ?_
      have hPy6 := cy6.1.1
      refine Y_iconst (pc := 216) (v := (0 : Int32)) dX3_execute_216 rfl ?_
      cases h
      exact Y_iret (pc := 217) rfl (nar_bo (by decide)) dX3_execute_217 hPy6 ⟨rfl, rfl⟩
    · intro e9
      replace h := ifF (by rw [e9] <;> decide) h
      replace h := ifF (by rw [e9] <;> decide) h
      replace h := ifF (by rw [e9] <;> decide) h
      replace h := ifF (by rw [e9] <;> decide) h
      replace h := ifF (by rw [e9] <;> decide) h
      replace h := ifF (by rw [e9] <;> decide) h
      refine Y_aload_n (pc := 229) (j := 3) dX3_execute_229 rfl rfl ?_
      refine Y_aload_n (pc := 230) (j := 3) dX3_execute_230 rfl rfl ?_
      refine Z_geti (pc := 231) dX3_execute_231 w1_181 (lo_0 hP2 ho) fi_4_7 ?_
      refine Y_iload_n (pc := 234) (j := 0) dX3_execute_234 rfl rfl ?_
      obtain ⟨y8, qy8, h⟩ := bindE h
      have cy8 := v_X3_useStack ho hP2 qy8
      refine C_V2o (pc := 235) (k' := k_X3_useStack) dX3_execute_235 w5_221 i_X3_useStack (lo_0 hP2 ho) ⟨Nat.le_of_ble_eq_true rfl, Nat.le_of_ble_eq_true rfl⟩ rfl (Nat.le_of_ble_eq_true rfl) (Nat.le_of_ble_eq_true rfl) (Nat.le_of_ble_eq_true rfl) (cy8) ?_
      have hPy8 := cy8.1.1
      refine Y_iconst (pc := 238) (v := (0 : Int32)) dX3_execute_238 rfl ?_
      cases h
      exact Y_iret (pc := 239) rfl (nar_bo (by decide)) dX3_execute_239 hPy8 ⟨rfl, rfl⟩
    · intro e9
      replace h := ifF (by rw [e9] <;> decide) h
      replace h := ifF (by rw [e9] <;> decide) h
      replace h := ifF (by rw [e9] <;> decide) h
      replace h := ifF (by rw [e9] <;> decide) h
      replace h := ifF (by rw [e9] <;> decide) h
      replace h := ifF (by rw [e9] <;> decide) h
      refine Y_aload_n (pc := 229) (j := 3) dX3_execute_229 rfl rfl ?_
      refine Y_aload_n (pc := 230) (j := 3) dX3_execute_230 rfl rfl ?_
      refine Z_geti (pc := 231) dX3_execute_231 w1_181 (lo_0 hP2 ho) fi_4_7 ?_
      refine Y_iload_n (pc := 234) (j := 0) dX3_execute_234 rfl rfl ?_
      obtain ⟨y8, qy8, h⟩ := bindE h
      have cy8 := v_X3_useStack ho hP2 qy8
      refine C_V2o (pc := 235) (k' := k_X3_useStack) dX3_execute_235 w5_221 i_X3_useStack (lo_0 hP2 ho) ⟨Nat.le_of_ble_eq_true rfl, Nat.le_of_ble_eq_true rfl⟩ rfl (Nat.le_of_ble_eq_true rfl) (Nat.le_of_ble_eq_true rfl) (Nat.le_of_ble_eq_true rfl) (cy8) ?_
      have hPy8 := cy8.1.1
      refine Y_iconst (pc := 238) (v := (0 : Int32)) dX3_execute_238 rfl ?_
      cases h
      exact Y_iret (pc := 239) rfl (nar_bo (by decide)) dX3_execute_239 hPy8 ⟨rfl, rfl⟩
    · intro e9
      replace h := ifF (by rw [e9] <;> decide) h
      replace h := ifF (by rw [e9] <;> decide) h
      replace h := ifF (by rw [e9] <;> decide) h
      replace h := ifF (by rw [e9] <;> decide) h
      replace h := ifF (by rw [e9] <;> decide) h
      replace h := ifF (by rw [e9] <;> decide) h
      refine Y_aload_n (pc := 229) (j := 3) dX3_execute_229 rfl rfl ?_
      refine Y_aload_n (pc := 230) (j := 3) dX3_execute_230 rfl rfl ?_
      refine Z_geti (pc := 231) dX3_execute_231 w1_181 (lo_0 hP2 ho) fi_4_7 ?_
      refine Y_iload_n (pc := 234) (j := 0) dX3_execute_234 rfl rfl ?_
      obtain ⟨y8, qy8, h⟩ := bindE h
      have cy8 := v_X3_useStack ho hP2 qy8
      refine C_V2o (pc := 235) (k' := k_X3_useStack) dX3_execute_235 w5_221 i_X3_useStack (lo_0 hP2 ho) ⟨Nat.le_of_ble_eq_true rfl, Nat.le_of_ble_eq_true rfl⟩ rfl (Nat.le_of_ble_eq_true rfl) (Nat.le_of_ble_eq_true rfl) (Nat.le_of_ble_eq_true rfl) (cy8) ?_
      have hPy8 := cy8.1.1
      refine Y_iconst (pc := 238) (v := (0 : Int32)) dX3_execute_238 rfl ?_
      cases h
      exact Y_iret (pc := 239) rfl (nar_bo (by decide)) dX3_execute_239 hPy8 ⟨rfl, rfl⟩
    · intro e9
      replace h := ifF (by rw [e9] <;> decide) h
      replace h := ifF (by rw [e9] <;> decide) h
      replace h := ifF (by rw [e9] <;> decide) h
      replace h := ifF (by rw [e9] <;> decide) h
      replace h := ifF (by rw [e9] <;> decide) h
      replace h := ifF (by rw [e9] <;> decide) h
      refine Y_aload_n (pc := 229) (j := 3) dX3_execute_229 rfl rfl ?_
      refine Y_aload_n (pc := 230) (j := 3) dX3_execute_230 rfl rfl ?_
      refine Z_geti (pc := 231) dX3_execute_231 w1_181 (lo_0 hP2 ho) fi_4_7 ?_
      refine Y_iload_n (pc := 234) (j := 0) dX3_execute_234 rfl rfl ?_
      obtain ⟨y8, qy8, h⟩ := bindE h
      have cy8 := v_X3_useStack ho hP2 qy8
      refine C_V2o (pc := 235) (k' := k_X3_useStack) dX3_execute_235 w5_221 i_X3_useStack (lo_0 hP2 ho) ⟨Nat.le_of_ble_eq_true rfl, Nat.le_of_ble_eq_true rfl⟩ rfl (Nat.le_of_ble_eq_true rfl) (Nat.le_of_ble_eq_true rfl) (Nat.le_of_ble_eq_true rfl) (cy8) ?_
      have hPy8 := cy8.1.1
      refine Y_iconst (pc := 238) (v := (0 : Int32)) dX3_execute_238 rfl ?_
      cases h
      exact Y_iret (pc := 239) rfl (nar_bo (by decide)) dX3_execute_239 hPy8 ⟨rfl, rfl⟩
    · intro e9
      replace h := ifF (by rw [e9] <;> decide) h
      replace h := ifF (by rw [e9] <;> decide) h
      replace h := ifF (by rw [e9] <;> decide) h
      replace h := ifF (by rw [e9] <;> decide) h
      replace h := ifF (by rw [e9] <;> decide) h
      replace h := ifF (by rw [e9] <;> decide) h
      refine Y_aload_n (pc := 229) (j := 3) dX3_execute_229 rfl rfl ?_
      refine Y_aload_n (pc := 230) (j := 3) dX3_execute_230 rfl rfl ?_
      refine Z_geti (pc := 231) dX3_execute_231 w1_181 (lo_0 hP2 ho) fi_4_7 ?_
      refine Y_iload_n (pc := 234) (j := 0) dX3_execute_234 rfl rfl ?_
      obtain ⟨y8, qy8, h⟩ := bindE h
      have cy8 := v_X3_useStack ho hP2 qy8
      refine C_V2o (pc := 235) (k' := k_X3_useStack) dX3_execute_235 w5_221 i_X3_useStack (lo_0 hP2 ho) ⟨Nat.le_of_ble_eq_true rfl, Nat.le_of_ble_eq_true rfl⟩ rfl (Nat.le_of_ble_eq_true rfl) (Nat.le_of_ble_eq_true rfl) (Nat.le_of_ble_eq_true rfl) (cy8) ?_
      have hPy8 := cy8.1.1
      refine Y_iconst (pc := 238) (v := (0 : Int32)) dX3_execute_238 rfl ?_
      cases h
      exact Y_iret (pc := 239) rfl (nar_bo (by decide)) dX3_execute_239 hPy8 ⟨rfl, rfl⟩
    · intro e9
      replace h := ifF (by rw [e9] <;> decide) h
      replace h := ifF (by rw [e9] <;> decide) h
      replace h := ifF (by rw [e9] <;> decide) h
      replace h := ifF (by rw [e9] <;> decide) h
      replace h := ifF (by rw [e9] <;> decide) h
      replace h := ifF (by rw [e9] <;> decide) h
      refine Y_aload_n (pc := 229) (j := 3) dX3_execute_229 rfl rfl ?_
      refine Y_aload_n (pc := 230) (j := 3) dX3_execute_230 rfl rfl ?_
      refine Z_geti (pc := 231) dX3_execute_231 w1_181 (lo_0 hP2 ho) fi_4_7 ?_
      refine Y_iload_n (pc := 234) (j := 0) dX3_execute_234 rfl rfl ?_
      obtain ⟨y8, qy8, h⟩ := bindE h
      have cy8 := v_X3_useStack ho hP2 qy8
      refine C_V2o (pc := 235) (k' := k_X3_useStack) dX3_execute_235 w5_221 i_X3_useStack (lo_0 hP2 ho) ⟨Nat.le_of_ble_eq_true rfl, Nat.le_of_ble_eq_true rfl⟩ rfl (Nat.le_of_ble_eq_true rfl) (Nat.le_of_ble_eq_true rfl) (Nat.le_of_ble_eq_true rfl) (cy8) ?_
      have hPy8 := cy8.1.1
      refine Y_iconst (pc := 238) (v := (0 : Int32)) dX3_execute_238 rfl ?_
      cases h
      exact Y_iret (pc := 239) rfl (nar_bo (by decide)) dX3_execute_239 hPy8 ⟨rfl, rfl⟩
    · intro e9
      replace h := ifF (by rw [e9] <;> decide) h
      replace h := ifF (by rw [e9] <;> decide) h
      replace h := ifF (by rw [e9] <;> decide) h
      replace h := ifF (by rw [e9] <;> decide) h
      replace h := ifF (by rw [e9] <;> decide) h
      replace h := ifF (by rw [e9] <;> decide) h
      refine Y_aload_n (pc := 229) (j := 3) dX3_execute_229 rfl rfl ?_
      refine Y_aload_n (pc := 230) (j := 3) dX3_execute_230 rfl rfl ?_
      refine Z_geti (pc := 231) dX3_execute_231 w1_181 (lo_0 hP2 ho) fi_4_7 ?_
      refine Y_iload_n (pc := 234) (j := 0) dX3_execute_234 rfl rfl ?_
      obtain ⟨y8, qy8, h⟩ := bindE h
      have cy8 := v_X3_useStack ho hP2 qy8
      refine C_V2o (pc := 235) (k' := k_X3_useStack) dX3_execute_235 w5_221 i_X3_useStack (lo_0 hP2 ho) ⟨Nat.le_of_ble_eq_true rfl, Nat.le_of_ble_eq_true rfl⟩ rfl (Nat.le_of_ble_eq_true rfl) (Nat.le_of_ble_eq_true rfl) (Nat.le_of_ble_eq_true rfl) (cy8) ?_
      have hPy8 := cy8.1.1
      refine Y_iconst (pc := 238) (v := (0 : Int32)) dX3_execute_238 rfl ?_
      cases h
      exact Y_iret (pc := 239) rfl (nar_bo (by decide)) dX3_execute_239 hPy8 ⟨rfl, rfl⟩
    · intro e9
      replace h := ifF (by rw [e9] <;> decide) h
      replace h := ifF (by rw [e9] <;> decide) h
      replace h := ifF (by rw [e9] <;> decide) h
      replace h := ifF (by rw [e9] <;> decide) h
      replace h := ifF (by rw [e9] <;> decide) h
      replace h := ifT (by rw [e9] <;> decide) h
      refine Y_aload_n (pc := 170) (j := 3) dX3_execute_170 rfl rfl ?_
      refine Y_iload_n (pc := 171) (j := 0) dX3_execute_171 rfl rfl ?_
      refine Y_iload_n (pc := 172) (j := 1) dX3_execute_172 rfl rfl ?_
      obtain ⟨y7, qy7, h⟩ := bindE h
      have cy7 := v_X3_jumpsAtNull ho hP2 qy7
      refine C_V2r (pc := 173) (k' := k_X3_jumpsAtNull) dX3_execute_173 w5_177 i_X3_jumpsAtNull (lo_0 hP2 ho) ⟨Nat.le_of_ble_eq_true rfl, Nat.le_of_ble_eq_true rfl⟩ rfl (Nat.le_of_ble_eq_true rfl) (Nat.le_of_ble_eq_true rfl) (Nat.le_of_ble_eq_true rfl) (cy7) ?_
      have hPy7 := cy7.1.1
      obtain ⟨hb5, h⟩ := okE h
      cases h
      exact Y_iret (pc := 176) rfl (nar_bo hb5) dX3_execute_176 hPy7 ⟨rfl, rfl⟩
  · intro n9
    replace h := ifF (xs_no n9 (by decide : ((99 : Int32), 177) ∈ _)) h
    replace h := ifF (fun q => q.elim (xs_no n9 (by decide : ((103 : Int32), 218) ∈ _)) (fun q => q.elim (xs_no n9 (by decide : ((110 : Int32), 218) ∈ _)) (xs_no n9 (by decide : ((112 : Int32), 218) ∈ _)))) h
    replace h := ifF (xs_no n9 (by decide : ((106 : Int32), 152) ∈ _)) h
    replace h := ifF (xs_no n9 (by decide : ((109 : Int32), 193) ∈ _)) h
    replace h := ifF (xs_no n9 (by decide : ((114 : Int32), 212) ∈ _)) h
    replace h := ifF (xs_no n9 (by decide : ((122 : Int32), 170) ∈ _)) h
    refine Y_aload_n (pc := 229) (j := 3) dX3_execute_229 rfl rfl ?_
    refine Y_aload_n (pc := 230) (j := 3) dX3_execute_230 rfl rfl ?_
    refine Z_geti (pc := 231) dX3_execute_231 w1_181 (lo_0 hP2 ho) fi_4_7 ?_
    refine Y_iload_n (pc := 234) (j := 0) dX3_execute_234 rfl rfl ?_
    obtain ⟨y8, qy8, h⟩ := bindE h
    have cy8 := v_X3_useStack ho hP2 qy8
    refine C_V2o (pc := 235) (k' := k_X3_useStack) dX3_execute_235 w5_221 i_X3_useStack (lo_0 hP2 ho) ⟨Nat.le_of_ble_eq_true rfl, Nat.le_of_ble_eq_true rfl⟩ rfl (Nat.le_of_ble_eq_true rfl) (Nat.le_of_ble_eq_true rfl) (Nat.le_of_ble_eq_true rfl) (cy8) ?_
    have hPy8 := cy8.1.1
    refine Y_iconst (pc := 238) (v := (0 : Int32)) dX3_execute_238 rfl ?_
    cases h
    exact Y_iret (pc := 239) rfl (nar_bo (by decide)) dX3_execute_239 hPy8 ⟨rfl, rfl⟩
theorem v_X3_execute {o : Nat} {M z} (ho : o = 18 ∨ o = 28) (hP : Lay M) (h : d_X3_execute o M = some z) : CC Lay k_X3_execute [.ref o] M z.2 (Qv (some (.int z.1)) z.2) xF :=
  CC.ofVV (by decide) rfl (Nat.le_of_ble_eq_true rfl) (b_X3_execute ho hP h)
end VCR

