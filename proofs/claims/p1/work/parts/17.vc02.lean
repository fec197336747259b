/-! ===== what the methods reckon (printed by a program) ===== -/
section VCR
theorem b_X12_setLimits_61b {k61 : (Int32) → Mem → Option (Int32 × Mem)} {x4 : Int32} {M z} (hk61 : ∀ (a : (Int32)) (M : Mem) (z : Int32 × Mem), Lay M → k61 a M = some z → VV Lay k_X12_setLimits 61 [(0, .ref 69), (4, .int a)] [] M z.2 (Qv (some (.int z.1)) z.2) xF) (hP : Lay M) (h : d_X12_setLimits_61b k61 x4 M = some z) : VV Lay k_X12_setLimits 61 [(0, .ref 69), (4, .int x4)] [] M z.2 (Qv (some (.int z.1)) z.2) xF := by
  unfold d_X12_setLimits_61b at h
  refine Y_aload_n (pc := 61) (j := 0) dX12_setLimits_61 rfl rfl ?_
  obtain ⟨y1, qy1, h⟩ := bindE h
  have cy1 := v_X12_size hP qy1
  refine C_V0r (pc := 62) (k' := k_X12_size) dX12_setLimits_62 w9_164 i_X12_size (lk_69 hP) ⟨Nat.le_of_ble_eq_true rfl, Nat.le_of_ble_eq_true rfl⟩ rfl (Nat.le_of_ble_eq_true rfl) (Nat.le_of_ble_eq_true rfl) (Nat.le_of_ble_eq_true rfl) (cy1) ?_
  have hPy1 := cy1.1.1
  refine Y_aload_n (pc := 65) (j := 0) dX12_setLimits_65 rfl rfl ?_
  refine Z_geti (pc := 66) dX12_setLimits_66 w8_91 (lk_69 hPy1) fi_12_25 ?_
  refine Y_icmp_le (pc := 69) (tgt := 87) dX12_setLimits_69 (by decide) (fun hc1 => ?_) (fun hc1 => ?_)
  · replace h := ifT hc1 h
    refine Y_iload (pc := 87) (j := 1) dX12_setLimits_87 rfl ?_
    cases h
    exact Y_iret (pc := 89) rfl rfl dX12_setLimits_89 hPy1 ⟨rfl, rfl⟩
  · replace h := ifF hc1 h
    refine Y_aload_n (pc := 72) (j := 0) dX12_setLimits_72 rfl rfl ?_
    refine Y_aload_n (pc := 73) (j := 0) dX12_setLimits_73 rfl rfl ?_
    refine Y_iconst (pc := 74) (v := (-1 : Int32)) dX12_setLimits_74 rfl ?_
    obtain ⟨y2, qy2, h⟩ := bindE h
    have cy2 := v_X12_oldest hPy1 qy2
    refine C_V1r (pc := 75) (k' := k_X12_oldest) dX12_setLimits_75 w9_168 i_X12_oldest (lk_69 hPy1) ⟨Nat.le_of_ble_eq_true rfl, Nat.le_of_ble_eq_true rfl⟩ rfl (Nat.le_of_ble_eq_true rfl) (Nat.le_of_ble_eq_true rfl) (Nat.le_of_ble_eq_true rfl) (cy2) ?_
    have hPy2 := cy2.1.1
    obtain ⟨y3, qy3, h⟩ := bindE h
    have cy3 := v_X12_throwAway hPy2 qy3
    refine C_V1o (pc := 78) (k' := k_X12_throwAway) dX12_setLimits_78 w9_152 i_X12_throwAway (lk_69 hPy2) ⟨Nat.le_of_ble_eq_true rfl, Nat.le_of_ble_eq_true rfl⟩ rfl (Nat.le_of_ble_eq_true rfl) (Nat.le_of_ble_eq_true rfl) (Nat.le_of_ble_eq_true rfl) (cy3) ?_
    have hPy3 := cy3.1.1
    obtain ⟨b1, eb1, h⟩ := bndE h
    refine Y_iinc (pc := 81) (j := 1) (v := b1) (lv1 := [(4, .int b1), (0, .ref 69)]) dX12_setLimits_81 rfl eb1.symm (by decide) rfl ?_
    refine Y_goto (pc := 84) (tgt := 61) dX12_setLimits_84 (by decide) ?_
    refine VV.sub [1, 0] rfl ?_
    exact hk61 _ _ _ hPy3 h
theorem b_X12_setLimits_61 (n : Nat) : ∀ (a : (Int32)) (M : Mem) (z : Int32 × Mem), d_X12_setLimits_61 n a M = some z → Lay M → VV Lay k_X12_setLimits 61 [(0, .ref 69), (4, .int a)] [] M z.2 (Qv (some (.int z.1)) z.2) xF :=
  lp_ind (G := fun (a : (Int32)) (M : Mem) (z : Int32 × Mem) => Lay M → VV Lay k_X12_setLimits 61 [(0, .ref 69), (4, .int a)] [] M z.2 (Qv (some (.int z.1)) z.2) xF) (fun k hk a M z h hP => b_X12_setLimits_61b  (fun a M z hP h => hk a M z h hP) hP h) n
theorem b_X12_setLimits {x1 : Int32} {x2 : Int32} {x3 : Int32} {M z} (hP : Lay M) (h : d_X12_setLimits x1 x2 x3 M = some z) : VV Lay k_X12_setLimits 0 [(0, .ref 69), (1, .int x1), (2, .int x2), (3, .int x3)] [] M z.2 (Qv (some (.int z.1)) z.2) xF := by
  unfold d_X12_setLimits at h
  refine Y_aload_n (pc := 0) (j := 0) dX12_setLimits_0 rfl rfl ?_
  refine Y_iconst (pc := 1) (v := (0 : Int32)) dX12_setLimits_1 rfl ?_
  refine Z_puti (pc := 2) dX12_setLimits_2 w8_66 (lk_69 hP) fi_12_0 (Or.inl rfl) rfl ?_
  obtain ⟨M1, eM1, h⟩ := bndE h
  refine VV.mem eM1 ?_
  have hP1 := hP.wI eM1
  refine Y_iload_n (pc := 5) (j := 1) dX12_setLimits_5 rfl rfl ?_
  refine Y_iconst (pc := 6) (v := (2 : Int32)) dX12_setLimits_6 rfl ?_
  refine Y_bipush (pc := 7) (v := (50 : Int32)) dX12_setLimits_7 rfl ?_
  obtain ⟨y1, qy1, h⟩ := bindE h
  have cy1 := v_X12_in hP1 qy1
  refine C_S3r (pc := 9) (k' := k_X12_in) dX12_setLimits_9 w9_110 i_X12_in (Nat.le_of_ble_eq_true rfl) (Nat.le_of_ble_eq_true rfl) (Nat.le_of_ble_eq_true rfl) (cy1) ?_
  have hPy1 := cy1.1.1
  refine Y_if_eq (pc := 12) (tgt := 37) dX12_setLimits_12 (by decide) (fun hc1 => ?_) (fun hc1 => ?_)
  · replace h := ifT hc1 h
    refine Y_aload_n (pc := 37) (j := 0) dX12_setLimits_37 rfl rfl ?_
    refine Y_iconst (pc := 38) (v := (1 : Int32)) dX12_setLimits_38 rfl ?_
    obtain ⟨y2, qy2, h⟩ := bindE h
    have cy2 := v_X12_fails hPy1 qy2
    refine C_V1r (pc := 39) (k' := k_X12_fails) dX12_setLimits_39 w9_113 i_X12_fails (lk_69 hPy1) ⟨Nat.le_of_ble_eq_true rfl, Nat.le_of_ble_eq_true rfl⟩ rfl (Nat.le_of_ble_eq_true rfl) (Nat.le_of_ble_eq_true rfl) (Nat.le_of_ble_eq_true rfl) (cy2) ?_
    have hPy2 := cy2.1.1
    cases h
    exact Y_iret (pc := 42) rfl rfl dX12_setLimits_42 hPy2 ⟨rfl, rfl⟩
  · replace h := ifF hc1 h
    refine Y_iload_n (pc := 15) (j := 2) dX12_setLimits_15 rfl rfl ?_
    refine Y_iconst (pc := 16) (v := (1 : Int32)) dX12_setLimits_16 rfl ?_
    refine Y_bipush (pc := 17) (v := (20 : Int32)) dX12_setLimits_17 rfl ?_
    obtain ⟨y3, qy3, h⟩ := bindE h
    have cy3 := v_X12_in hPy1 qy3
    refine C_S3r (pc := 19) (k' := k_X12_in) dX12_setLimits_19 w9_110 i_X12_in (Nat.le_of_ble_eq_true rfl) (Nat.le_of_ble_eq_true rfl) (Nat.le_of_ble_eq_true rfl) (cy3) ?_
    have hPy3 := cy3.1.1
    refine Y_if_eq (pc := 22) (tgt := 37) dX12_setLimits_22 (by decide) (fun hc2 => ?_) (fun hc2 => ?_)
    · replace h := ifT hc2 h
      refine Y_aload_n (pc := 37) (j := 0) dX12_setLimits_37 rfl rfl ?_
      refine Y_iconst (pc := 38) (v := (1 : Int32)) dX12_setLimits_38 rfl ?_
      obtain ⟨y4, qy4, h⟩ := bindE h
      have cy4 := v_X12_fails hPy3 qy4
      refine C_V1r (pc := 39) (k' := k_X12_fails) dX12_setLimits_39 w9_113 i_X12_fails (lk_69 hPy3) ⟨Nat.le_of_ble_eq_true rfl, Nat.le_of_ble_eq_true rfl⟩ rfl (Nat.le_of_ble_eq_true rfl) (Nat.le_of_ble_eq_true rfl) (Nat.le_of_ble_eq_true rfl) (cy4) ?_
      have hPy4 := cy4.1.1
      cases h
      exact Y_iret (pc := 42) rfl rfl dX12_setLimits_42 hPy4 ⟨rfl, rfl⟩
    · replace h := ifF hc2 h
      refine Y_iload_n (pc := 25) (j := 3) dX12_setLimits_25 rfl rfl ?_
      refine Y_bipush (pc := 26) (v := (10 : Int32)) dX12_setLimits_26 rfl ?_
      refine Y_sipush (pc := 28) (v := (200 : Int32)) dX12_setLimits_28 rfl ?_
      obtain ⟨y5, qy5, h⟩ := bindE h
      have cy5 := v_X12_in hPy3 qy5
      refine C_S3r (pc := 31) (k' := k_X12_in) dX12_setLimits_31 w9_110 i_X12_in (Nat.le_of_ble_eq_true rfl) (Nat.le_of_ble_eq_true rfl) (Nat.le_of_ble_eq_true rfl) (cy5) ?_
      have hPy5 := cy5.1.1
      refine Y_if_ne (pc := 34) (tgt := 43) dX12_setLimits_34 (by decide) (fun hc3 => ?_) (fun hc3 => ?_)
      · replace h := ifF hc3 h
        refine Y_aload_n (pc := 43) (j := 0) dX12_setLimits_43 rfl rfl ?_
        refine Y_iload_n (pc := 44) (j := 1) dX12_setLimits_44 rfl rfl ?_
        refine Z_puti (pc := 45) dX12_setLimits_45 w8_89 (lk_69 hPy5) fi_12_23 (Or.inl rfl) rfl ?_
        obtain ⟨M2, eM2, h⟩ := bndE h
        refine VV.mem eM2 ?_
        have hP2 := hPy5.wI eM2
        refine Y_aload_n (pc := 48) (j := 0) dX12_setLimits_48 rfl rfl ?_
        refine Y_iload_n (pc := 49) (j := 2) dX12_setLimits_49 rfl rfl ?_
        refine Z_puti (pc := 50) dX12_setLimits_50 w8_90 (lk_69 hP2) fi_12_24 (Or.inl rfl) rfl ?_
        obtain ⟨M3, eM3, h⟩ := bndE h
        refine VV.mem eM3 ?_
        have hP3 := hP2.wI eM3
        refine Y_aload_n (pc := 53) (j := 0) dX12_setLimits_53 rfl rfl ?_
        refine Y_iload_n (pc := 54) (j := 3) dX12_setLimits_54 rfl rfl ?_
        refine Z_puti (pc := 55) dX12_setLimits_55 w8_91 (lk_69 hP3) fi_12_25 (Or.inl rfl) rfl ?_
        obtain ⟨M4, eM4, h⟩ := bndE h
        refine VV.mem eM4 ?_
        have hP4 := hP3.wI eM4
        refine Y_iconst (pc := 58) (v := (0 : Int32)) dX12_setLimits_58 rfl ?_
        refine Y_istore (pc := 59) (lv1 := [(4, .int (0 : Int32)), (0, .ref 69), (1, .int x1), (2, .int x2), (3, .int x3)]) dX12_setLimits_59 (by decide) rfl ?_
        refine VV.sub [1, 0] rfl ?_
        exact b_X12_setLimits_61  fuel _ _ _ h hP4
      · replace h := ifT hc3 h
        refine Y_aload_n (pc := 37) (j := 0) dX12_setLimits_37 rfl rfl ?_
        refine Y_iconst (pc := 38) (v := (1 : Int32)) dX12_setLimits_38 rfl ?_
        obtain ⟨y6, qy6, h⟩ := bindE h
        have cy6 := v_X12_fails hPy5 qy6
        refine C_V1r (pc := 39) (k' := k_X12_fails) dX12_setLimits_39 w9_113 i_X12_fails (lk_69 hPy5) ⟨Nat.le_of_ble_eq_true rfl, Nat.le_of_ble_eq_true rfl⟩ rfl (Nat.le_of_ble_eq_true rfl) (Nat.le_of_ble_eq_true rfl) (Nat.le_of_ble_eq_true rfl) (cy6) ?_
        have hPy6 := cy6.1.1
        cases h
        exact Y_iret (pc := 42) rfl rfl dX12_setLimits_42 hPy6 ⟨rfl, rfl⟩
theorem v_X12_setLimits {x1 : Int32} {x2 : Int32} {x3 : Int32} {M z} (hP : Lay M) (h : d_X12_setLimits x1 x2 x3 M = some z) : CC Lay k_X12_setLimits [.ref 69, .int x1, .int x2, .int x3] M z.2 (Qv (some (.int z.1)) z.2) xF :=
  CC.ofVV (by decide) rfl (Nat.le_of_ble_eq_true rfl) (b_X12_setLimits hP h)
theorem b_X12_methodOf_2b {k2 : (Int32) → Mem → Option (Int32 × Mem)} {x2 : Int32} {x3 : Int32} {M z} (hk2 : ∀ (a : (Int32)) (M : Mem) (z : Int32 × Mem), Lay M → k2 a M = some z → VV Lay k_X12_methodOf 2 [(0, .ref 69), (2, .int x2), (3, .int a)] [] M z.2 (Qv (some (.int z.1)) z.2) xF) (hP : Lay M) (h : d_X12_methodOf_2b k2 x2 x3 M = some z) : VV Lay k_X12_methodOf 2 [(0, .ref 69), (2, .int x2), (3, .int x3)] [] M z.2 (Qv (some (.int z.1)) z.2) xF := by
  unfold d_X12_methodOf_2b at h
  refine Y_iload_n (pc := 2) (j := 2) dX12_methodOf_2 rfl rfl ?_
  refine Y_iconst (pc := 3) (v := (-1 : Int32)) dX12_methodOf_3 rfl ?_
  refine Y_icmp_eq (pc := 4) (tgt := 44) dX12_methodOf_4 (by decide) (fun hc1 => ?_) (fun hc1 => ?_)
  · replace h := ifT hc1 h
    refine Y_iconst (pc := 44) (v := (-1 : Int32)) dX12_methodOf_44 rfl ?_
    cases h
    exact Y_iret (pc := 45) rfl rfl dX12_methodOf_45 hP ⟨rfl, rfl⟩
  · replace h := ifF hc1 h
    refine Y_aload_n (pc := 7) (j := 0) dX12_methodOf_7 rfl rfl ?_
    refine Z_getr (pc := 8) dX12_methodOf_8 w8_76 (lk_69 hP) fr_12_10 (lr_69_10 hP) ?_
    refine Y_bipush (pc := 11) (v := (6 : Int32)) dX12_methodOf_11 rfl ?_
    refine Y_iload_n (pc := 13) (j := 2) dX12_methodOf_13 rfl rfl ?_
    refine Y_imul (pc := 14) dX12_methodOf_14 ?_
    refine Y_iload_n (pc := 15) (j := 1) dX12_methodOf_15 rfl rfl ?_
    refine Y_iadd (pc := 16) dX12_methodOf_16 ?_
    obtain ⟨hb1, h⟩ := okE h
    refine Y_iald (pc := 17) dX12_methodOf_17 (lk_77 hP) (ln_77 hP) hb1 ?_
    refine Y_iconst (pc := 18) (v := (-1 : Int32)) dX12_methodOf_18 rfl ?_
    refine Y_icmp_eq (pc := 19) (tgt := 34) dX12_methodOf_19 (by decide) (fun hc2 => ?_) (fun hc2 => ?_)
    · replace h := ifT hc2 h
      refine Y_aload_n (pc := 34) (j := 0) dX12_methodOf_34 rfl rfl ?_
      refine Z_getr (pc := 35) dX12_methodOf_35 w8_75 (lk_69 hP) fr_12_9 (lr_69_9 hP) ?_
      refine Y_iload_n (pc := 38) (j := 2) dX12_methodOf_38 rfl rfl ?_
      obtain ⟨hb2, h⟩ := okE h
      refine Y_iald (pc := 39) dX12_methodOf_39 (lk_76 hP) (ln_76 hP) hb2 ?_
      obtain ⟨b1, eb1, h⟩ := bndE h
      refine VV.topI eb1 ?_
      refine Y_istore_n (pc := 40) (lv1 := [(3, .int b1), (0, .ref 69), (2, .int x2)]) dX12_methodOf_40 rfl (by decide) rfl ?_
      refine Y_goto (pc := 41) (tgt := 2) dX12_methodOf_41 (by decide) ?_
      refine VV.sub [1, 2, 0] rfl ?_
      exact hk2 _ _ _ hP h
    · replace h := ifF hc2 h
      refine Y_aload_n (pc := 22) (j := 0) dX12_methodOf_22 rfl rfl ?_
      refine Z_getr (pc := 23) dX12_methodOf_23 w8_76 (lk_69 hP) fr_12_10 (lr_69_10 hP) ?_
      refine Y_bipush (pc := 26) (v := (6 : Int32)) dX12_methodOf_26 rfl ?_
      refine Y_iload_n (pc := 28) (j := 2) dX12_methodOf_28 rfl rfl ?_
      refine Y_imul (pc := 29) dX12_methodOf_29 ?_
      refine Y_iload_n (pc := 30) (j := 1) dX12_methodOf_30 rfl rfl ?_
      refine Y_iadd (pc := 31) dX12_methodOf_31 ?_
      obtain ⟨hb3, h⟩ := okE h
      refine Y_iald (pc := 32) dX12_methodOf_32 (lk_77 hP) (ln_77 hP) hb3 ?_
      cases h
      exact Y_iret (pc := 33) rfl rfl dX12_methodOf_33 hP ⟨rfl, rfl⟩
theorem b_X12_methodOf_2 {x2 : Int32} (n : Nat) : ∀ (a : (Int32)) (M : Mem) (z : Int32 × Mem), d_X12_methodOf_2 x2 n a M = some z → Lay M → VV Lay k_X12_methodOf 2 [(0, .ref 69), (2, .int x2), (3, .int a)] [] M z.2 (Qv (some (.int z.1)) z.2) xF :=
  lp_ind (G := fun (a : (Int32)) (M : Mem) (z : Int32 × Mem) => Lay M → VV Lay k_X12_methodOf 2 [(0, .ref 69), (2, .int x2), (3, .int a)] [] M z.2 (Qv (some (.int z.1)) z.2) xF) (fun k hk a M z h hP => b_X12_methodOf_2b  (fun a M z hP h => hk a M z h hP) hP h) n
theorem b_X12_methodOf {x1 : Int32} {x2 : Int32} {M z} (hP : Lay M) (h : d_X12_methodOf x1 x2 M = some z) : VV Lay k_X12_methodOf 0 [(0, .ref 69), (1, .int x1), (2, .int x2)] [] M z.2 (Qv (some (.int z.1)) z.2) xF := by
  unfold d_X12_methodOf at h
  refine Y_iload_n (pc := 0) (j := 1) dX12_methodOf_0 rfl rfl ?_
  refine Y_istore_n (pc := 1) (lv1 := [(3, .int x1), (0, .ref 69), (1, .int x1), (2, .int x2)]) dX12_methodOf_1 rfl (by decide) rfl ?_
  refine VV.sub [1, 3, 0] rfl ?_
  exact b_X12_methodOf_2  fuel _ _ _ h hP
theorem v_X12_methodOf {x1 : Int32} {x2 : Int32} {M z} (hP : Lay M) (h : d_X12_methodOf x1 x2 M = some z) : CC Lay k_X12_methodOf [.ref 69, .int x1, .int x2] M z.2 (Qv (some (.int z.1)) z.2) xF :=
  CC.ofVV (by decide) rfl (Nat.le_of_ble_eq_true rfl) (b_X12_methodOf hP h)
theorem b_X12_hasField_2b {k2 : (Int32) → Mem → Option (Int32 × Mem)} {x1 : Int32} {x2 : Int32} {x3 : Int32} {M z} (hk2 : ∀ (a : (Int32)) (M : Mem) (z : Int32 × Mem), Lay M → k2 a M = some z → VV Lay k_X12_hasField 2 [(0, .ref 69), (1, .int x1), (2, .int x2), (3, .int a)] [] M z.2 (Qv (some (.int z.1)) z.2) xF) (hP : Lay M) (h : d_X12_hasField_2b k2 x1 x2 x3 M = some z) : VV Lay k_X12_hasField 2 [(0, .ref 69), (1, .int x1), (2, .int x2), (3, .int x3)] [] M z.2 (Qv (some (.int z.1)) z.2) xF := by
  unfold d_X12_hasField_2b at h
  refine Y_iload_n (pc := 2) (j := 3) dX12_hasField_2 rfl rfl ?_
  refine Y_aload_n (pc := 3) (j := 0) dX12_hasField_3 rfl rfl ?_
  refine Z_getr (pc := 4) dX12_hasField_4 w8_80 (lk_69 hP) fr_12_14 (lr_69_14 hP) ?_
  refine Y_iload_n (pc := 7) (j := 1) dX12_hasField_7 rfl rfl ?_
  obtain ⟨hb1, h⟩ := okE h
  refine Y_iald (pc := 8) dX12_hasField_8 (lk_80 hP) (ln_80 hP) hb1 ?_
  refine Y_icmp_ge (pc := 9) (tgt := 35) dX12_hasField_9 (by decide) (fun hc1 => ?_) (fun hc1 => ?_)
  · replace h := ifT hc1 h
    refine Y_iconst (pc := 35) (v := (0 : Int32)) dX12_hasField_35 rfl ?_
    cases h
    exact Y_iret (pc := 36) rfl (nar_bo (by decide)) dX12_hasField_36 hP ⟨rfl, rfl⟩
  · replace h := ifF hc1 h
    refine Y_aload_n (pc := 12) (j := 0) dX12_hasField_12 rfl rfl ?_
    refine Z_getr (pc := 13) dX12_hasField_13 w8_81 (lk_69 hP) fr_12_15 (lr_69_15 hP) ?_
    refine Y_bipush (pc := 16) (v := (6 : Int32)) dX12_hasField_16 rfl ?_
    refine Y_iload_n (pc := 18) (j := 1) dX12_hasField_18 rfl rfl ?_
    refine Y_imul (pc := 19) dX12_hasField_19 ?_
    refine Y_iload_n (pc := 20) (j := 3) dX12_hasField_20 rfl rfl ?_
    refine Y_iadd (pc := 21) dX12_hasField_21 ?_
    obtain ⟨hb2, h⟩ := okE h
    refine Y_iald (pc := 22) dX12_hasField_22 (lk_81 hP) (ln_81 hP) hb2 ?_
    refine Y_iload_n (pc := 23) (j := 2) dX12_hasField_23 rfl rfl ?_
    refine Y_icmp_ne (pc := 24) (tgt := 29) dX12_hasField_24 (by decide) (fun hc2 => ?_) (fun hc2 => ?_)
    · replace h := ifF hc2 h
      obtain ⟨b1, eb1, h⟩ := bndE h
      refine Y_iinc (pc := 29) (j := 3) (v := b1) (lv1 := [(3, .int b1), (0, .ref 69), (1, .int x1), (2, .int x2)]) dX12_hasField_29 rfl eb1.symm (by decide) rfl ?_
      refine Y_goto (pc := 32) (tgt := 2) dX12_hasField_32 (by decide) ?_
      refine VV.sub [1, 2, 3, 0] rfl ?_
      exact hk2 _ _ _ hP h
    · replace h := ifT hc2 h
      refine Y_iconst (pc := 27) (v := (1 : Int32)) dX12_hasField_27 rfl ?_
      cases h
      exact Y_iret (pc := 28) rfl (nar_bo (by decide)) dX12_hasField_28 hP ⟨rfl, rfl⟩
theorem b_X12_hasField_2 {x1 : Int32} {x2 : Int32} (n : Nat) : ∀ (a : (Int32)) (M : Mem) (z : Int32 × Mem), d_X12_hasField_2 x1 x2 n a M = some z → Lay M → VV Lay k_X12_hasField 2 [(0, .ref 69), (1, .int x1), (2, .int x2), (3, .int a)] [] M z.2 (Qv (some (.int z.1)) z.2) xF :=
  lp_ind (G := fun (a : (Int32)) (M : Mem) (z : Int32 × Mem) => Lay M → VV Lay k_X12_hasField 2 [(0, .ref 69), (1, .int x1), (2, .int x2), (3, .int a)] [] M z.2 (Qv (some (.int z.1)) z.2) xF) (fun k hk a M z h hP => b_X12_hasField_2b  (fun a M z hP h => hk a M z h hP) hP h) n
theorem b_X12_hasField {x1 : Int32} {x2 : Int32} {M z} (hP : Lay M) (h : d_X12_hasField x1 x2 M = some z) : VV Lay k_X12_hasField 0 [(0, .ref 69), (1, .int x1), (2, .int x2)] [] M z.2 (Qv (some (.int z.1)) z.2) xF := by
  unfold d_X12_hasField at h
  refine Y_iconst (pc := 0) (v := (0 : Int32)) dX12_hasField_0 rfl ?_
  refine Y_istore_n (pc := 1) (lv1 := [(3, .int (0 : Int32)), (0, .ref 69), (1, .int x1), (2, .int x2)]) dX12_hasField_1 rfl (by decide) rfl ?_
  refine VV.sub [1, 2, 3, 0] rfl ?_
  exact b_X12_hasField_2  fuel _ _ _ h hP
theorem v_X12_hasField {x1 : Int32} {x2 : Int32} {M z} (hP : Lay M) (h : d_X12_hasField x1 x2 M = some z) : CC Lay k_X12_hasField [.ref 69, .int x1, .int x2] M z.2 (Qv (some (.int z.1)) z.2) xF :=
  CC.ofVV (by decide) rfl (Nat.le_of_ble_eq_true rfl) (b_X12_hasField hP h)
theorem b_X12_shapeBehind_124 {x1 : Int32} {x2 : Int32} {M z} (hP : Lay M) (h : d_X12_shapeBehind_124 x1 x2 M = some z) : VV Lay k_X12_shapeBehind 124 [(0, .ref 69), (1, .int x1), (2, .int x2)] [] M z.2 (Qv (some (.int z.1)) z.2) xF := by
  unfold d_X12_shapeBehind_124 at h
  refine Y_aload_n (pc := 124) (j := 0) dX12_shapeBehind_124 rfl rfl ?_
  refine Z_getr (pc := 125) dX12_shapeBehind_125 w8_82 (lk_69 hP) fr_12_16 (lr_69_16 hP) ?_
  refine Y_bipush (pc := 128) (v := (6 : Int32)) dX12_shapeBehind_128 rfl ?_
  refine Y_iload_n (pc := 130) (j := 1) dX12_shapeBehind_130 rfl rfl ?_
  refine Y_imul (pc := 131) dX12_shapeBehind_131 ?_
  refine Y_iload_n (pc := 132) (j := 2) dX12_shapeBehind_132 rfl rfl ?_
  refine Y_iadd (pc := 133) dX12_shapeBehind_133 ?_
  obtain ⟨hb1, h⟩ := okE h
  refine Y_iald (pc := 134) dX12_shapeBehind_134 (lk_82 hP) (ln_82 hP) hb1 ?_
  cases h
  exact Y_iret (pc := 135) rfl rfl dX12_shapeBehind_135 hP ⟨rfl, rfl⟩
theorem b_X12_shapeBehind_40b {k40 : (Int32) → Mem → Option (Int32 × Mem)} {x1 : Int32} {x2 : Int32} {x3 : Int32} {x4 : Int32} {M z} (hk40 : ∀ (a : (Int32)) (M : Mem) (z : Int32 × Mem), Lay M → k40 a M = some z → VV Lay k_X12_shapeBehind 40 [(0, .ref 69), (1, .int x1), (2, .int x2), (3, .int x3), (4, .int a)] [] M z.2 (Qv (some (.int z.1)) z.2) xF) (hP : Lay M) (h : d_X12_shapeBehind_40b k40 x1 x2 x3 x4 M = some z) : VV Lay k_X12_shapeBehind 40 [(0, .ref 69), (1, .int x1), (2, .int x2), (3, .int x3), (4, .int x4)] [] M z.2 (Qv (some (.int z.1)) z.2) xF := by
  unfold d_X12_shapeBehind_40b at h
  refine Y_iload (pc := 40) (j := 4) dX12_shapeBehind_40 rfl ?_
  refine Y_aload_n (pc := 42) (j := 0) dX12_shapeBehind_42 rfl rfl ?_
  refine Z_getr (pc := 43) dX12_shapeBehind_43 w8_80 (lk_69 hP) fr_12_14 (lr_69_14 hP) ?_
  refine Y_iload_n (pc := 46) (j := 1) dX12_shapeBehind_46 rfl rfl ?_
  obtain ⟨hb1, h⟩ := okE h
  refine Y_iald (pc := 47) dX12_shapeBehind_47 (lk_80 hP) (ln_80 hP) hb1 ?_
  refine Y_icmp_ge (pc := 48) (tgt := 81) dX12_shapeBehind_48 (by decide) (fun hc1 => ?_) (fun hc1 => ?_)
  · replace h := ifT hc1 h
    refine Y_aload_n (pc := 81) (j := 0) dX12_shapeBehind_81 rfl rfl ?_
    refine Z_getr (pc := 82) dX12_shapeBehind_82 w8_80 (lk_69 hP) fr_12_14 (lr_69_14 hP) ?_
    refine Y_iload_n (pc := 85) (j := 3) dX12_shapeBehind_85 rfl rfl ?_
    refine Y_aload_n (pc := 86) (j := 0) dX12_shapeBehind_86 rfl rfl ?_
    refine Z_getr (pc := 87) dX12_shapeBehind_87 w8_80 (lk_69 hP) fr_12_14 (lr_69_14 hP) ?_
    refine Y_iload_n (pc := 90) (j := 1) dX12_shapeBehind_90 rfl rfl ?_
    obtain ⟨hb2, h⟩ := okE h
    refine Y_iald (pc := 91) dX12_shapeBehind_91 (lk_80 hP) (ln_80 hP) hb2 ?_
    refine Y_iconst (pc := 92) (v := (1 : Int32)) dX12_shapeBehind_92 rfl ?_
    refine Y_iadd (pc := 93) dX12_shapeBehind_93 ?_
    obtain ⟨hb3, h⟩ := okE h
    refine Y_iast (pc := 94) dX12_shapeBehind_94 (lk_80 hP) (ln_80 hP) hb3 ?_
    obtain ⟨M1, eM1, h⟩ := bndE h
    refine VV.mem eM1 ?_
    have hP1 := hP.wI eM1
    refine Y_aload_n (pc := 95) (j := 0) dX12_shapeBehind_95 rfl rfl ?_
    refine Z_getr (pc := 96) dX12_shapeBehind_96 w8_81 (lk_69 hP1) fr_12_15 (lr_69_15 hP1) ?_
    refine Y_bipush (pc := 99) (v := (6 : Int32)) dX12_shapeBehind_99 rfl ?_
    refine Y_iload_n (pc := 101) (j := 3) dX12_shapeBehind_101 rfl rfl ?_
    refine Y_imul (pc := 102) dX12_shapeBehind_102 ?_
    refine Y_aload_n (pc := 103) (j := 0) dX12_shapeBehind_103 rfl rfl ?_
    refine Z_getr (pc := 104) dX12_shapeBehind_104 w8_80 (lk_69 hP1) fr_12_14 (lr_69_14 hP1) ?_
    refine Y_iload_n (pc := 107) (j := 1) dX12_shapeBehind_107 rfl rfl ?_
    obtain ⟨hb4, h⟩ := okE h
    refine Y_iald (pc := 108) dX12_shapeBehind_108 (lk_80 hP1) (ln_80 hP1) hb4 ?_
    refine Y_iadd (pc := 109) dX12_shapeBehind_109 ?_
    refine Y_iload_n (pc := 110) (j := 2) dX12_shapeBehind_110 rfl rfl ?_
    obtain ⟨hb5, h⟩ := okE h
    refine Y_iast (pc := 111) dX12_shapeBehind_111 (lk_81 hP1) (ln_81 hP1) hb5 ?_
    obtain ⟨M2, eM2, h⟩ := bndE h
    refine VV.mem eM2 ?_
    have hP2 := hP1.wI eM2
    refine Y_aload_n (pc := 112) (j := 0) dX12_shapeBehind_112 rfl rfl ?_
    refine Z_getr (pc := 113) dX12_shapeBehind_113 w8_82 (lk_69 hP2) fr_12_16 (lr_69_16 hP2) ?_
    refine Y_bipush (pc := 116) (v := (6 : Int32)) dX12_shapeBehind_116 rfl ?_
    refine Y_iload_n (pc := 118) (j := 1) dX12_shapeBehind_118 rfl rfl ?_
    refine Y_imul (pc := 119) dX12_shapeBehind_119 ?_
    refine Y_iload_n (pc := 120) (j := 2) dX12_shapeBehind_120 rfl rfl ?_
    refine Y_iadd (pc := 121) dX12_shapeBehind_121 ?_
    refine Y_iload_n (pc := 122) (j := 3) dX12_shapeBehind_122 rfl rfl ?_
    obtain ⟨hb6, h⟩ := okE h
    refine Y_iast (pc := 123) dX12_shapeBehind_123 (lk_82 hP2) (ln_82 hP2) hb6 ?_
    obtain ⟨M3, eM3, h⟩ := bndE h
    refine VV.mem eM3 ?_
    have hP3 := hP2.wI eM3
    refine VV.sub [0, 1, 2] rfl ?_
    exact b_X12_shapeBehind_124  hP3 h
  · replace h := ifF hc1 h
    refine Y_aload_n (pc := 51) (j := 0) dX12_shapeBehind_51 rfl rfl ?_
    refine Z_getr (pc := 52) dX12_shapeBehind_52 w8_81 (lk_69 hP) fr_12_15 (lr_69_15 hP) ?_
    refine Y_bipush (pc := 55) (v := (6 : Int32)) dX12_shapeBehind_55 rfl ?_
    refine Y_iload_n (pc := 57) (j := 3) dX12_shapeBehind_57 rfl rfl ?_
    refine Y_imul (pc := 58) dX12_shapeBehind_58 ?_
    refine Y_iload (pc := 59) (j := 4) dX12_shapeBehind_59 rfl ?_
    refine Y_iadd (pc := 61) dX12_shapeBehind_61 ?_
    refine Y_aload_n (pc := 62) (j := 0) dX12_shapeBehind_62 rfl rfl ?_
    refine Z_getr (pc := 63) dX12_shapeBehind_63 w8_81 (lk_69 hP) fr_12_15 (lr_69_15 hP) ?_
    refine Y_bipush (pc := 66) (v := (6 : Int32)) dX12_shapeBehind_66 rfl ?_
    refine Y_iload_n (pc := 68) (j := 1) dX12_shapeBehind_68 rfl rfl ?_
    refine Y_imul (pc := 69) dX12_shapeBehind_69 ?_
    refine Y_iload (pc := 70) (j := 4) dX12_shapeBehind_70 rfl ?_
    refine Y_iadd (pc := 72) dX12_shapeBehind_72 ?_
    obtain ⟨hb7, h⟩ := okE h
    refine Y_iald (pc := 73) dX12_shapeBehind_73 (lk_81 hP) (ln_81 hP) hb7 ?_
    obtain ⟨hb8, h⟩ := okE h
    refine Y_iast (pc := 74) dX12_shapeBehind_74 (lk_81 hP) (ln_81 hP) hb8 ?_
    obtain ⟨M4, eM4, h⟩ := bndE h
    refine VV.mem eM4 ?_
    have hP4 := hP.wI eM4
    obtain ⟨b1, eb1, h⟩ := bndE h
    refine Y_iinc (pc := 75) (j := 4) (v := b1) (lv1 := [(4, .int b1), (0, .ref 69), (1, .int x1), (2, .int x2), (3, .int x3)]) dX12_shapeBehind_75 rfl eb1.symm (by decide) rfl ?_
    refine Y_goto (pc := 78) (tgt := 40) dX12_shapeBehind_78 (by decide) ?_
    refine VV.sub [1, 2, 3, 4, 0] rfl ?_
    exact hk40 _ _ _ hP4 h
theorem b_X12_shapeBehind_40 {x1 : Int32} {x2 : Int32} {x3 : Int32} (n : Nat) : ∀ (a : (Int32)) (M : Mem) (z : Int32 × Mem), d_X12_shapeBehind_40 x1 x2 x3 n a M = some z → Lay M → VV Lay k_X12_shapeBehind 40 [(0, .ref 69), (1, .int x1), (2, .int x2), (3, .int x3), (4, .int a)] [] M z.2 (Qv (some (.int z.1)) z.2) xF :=
  lp_ind (G := fun (a : (Int32)) (M : Mem) (z : Int32 × Mem) => Lay M → VV Lay k_X12_shapeBehind 40 [(0, .ref 69), (1, .int x1), (2, .int x2), (3, .int x3), (4, .int a)] [] M z.2 (Qv (some (.int z.1)) z.2) xF) (fun k hk a M z h hP => b_X12_shapeBehind_40b  (fun a M z hP h => hk a M z h hP) hP h) n
theorem b_X12_shapeBehind {x1 : Int32} {x2 : Int32} {M z} (hP : Lay M) (h : d_X12_shapeBehind x1 x2 M = some z) : VV Lay k_X12_shapeBehind 0 [(0, .ref 69), (1, .int x1), (2, .int x2)] [] M z.2 (Qv (some (.int z.1)) z.2) xF := by
  unfold d_X12_shapeBehind at h
  refine Y_aload_n (pc := 0) (j := 0) dX12_shapeBehind_0 rfl rfl ?_
  refine Y_iload_n (pc := 1) (j := 1) dX12_shapeBehind_1 rfl rfl ?_
  refine Y_iload_n (pc := 2) (j := 2) dX12_shapeBehind_2 rfl rfl ?_
  obtain ⟨y1, qy1, h⟩ := bindE h
  have cy1 := v_X12_hasField hP qy1
  refine C_V2r (pc := 3) (k' := k_X12_hasField) dX12_shapeBehind_3 w9_233 i_X12_hasField (lk_69 hP) ⟨Nat.le_of_ble_eq_true rfl, Nat.le_of_ble_eq_true rfl⟩ rfl (Nat.le_of_ble_eq_true rfl) (Nat.le_of_ble_eq_true rfl) (Nat.le_of_ble_eq_true rfl) (cy1) ?_
  have hPy1 := cy1.1.1
  refine Y_if_eq (pc := 6) (tgt := 11) dX12_shapeBehind_6 (by decide) (fun hc1 => ?_) (fun hc1 => ?_)
  · replace h := ifT hc1 h
    refine Y_aload_n (pc := 11) (j := 0) dX12_shapeBehind_11 rfl rfl ?_
    refine Z_getr (pc := 12) dX12_shapeBehind_12 w8_82 (lk_69 hPy1) fr_12_16 (lr_69_16 hPy1) ?_
    refine Y_bipush (pc := 15) (v := (6 : Int32)) dX12_shapeBehind_15 rfl ?_
    refine Y_iload_n (pc := 17) (j := 1) dX12_shapeBehind_17 rfl rfl ?_
    refine Y_imul (pc := 18) dX12_shapeBehind_18 ?_
    refine Y_iload_n (pc := 19) (j := 2) dX12_shapeBehind_19 rfl rfl ?_
    refine Y_iadd (pc := 20) dX12_shapeBehind_20 ?_
    obtain ⟨hb1, h⟩ := okE h
    refine Y_iald (pc := 21) dX12_shapeBehind_21 (lk_82 hPy1) (ln_82 hPy1) hb1 ?_
    refine Y_iconst (pc := 22) (v := (-1 : Int32)) dX12_shapeBehind_22 rfl ?_
    refine Y_icmp_ne (pc := 23) (tgt := 124) dX12_shapeBehind_23 (by decide) (fun hc2 => ?_) (fun hc2 => ?_)
    · replace h := ifF hc2 h
      refine VV.sub [0, 1, 2] rfl ?_
      exact b_X12_shapeBehind_124  hPy1 h
    · replace h := ifT hc2 h
      refine Y_aload_n (pc := 26) (j := 0) dX12_shapeBehind_26 rfl rfl ?_
      refine Y_aload_n (pc := 27) (j := 0) dX12_shapeBehind_27 rfl rfl ?_
      refine Z_getr (pc := 28) dX12_shapeBehind_28 w8_79 (lk_69 hPy1) fr_12_13 (lr_69_13 hPy1) ?_
      refine Y_iload_n (pc := 31) (j := 1) dX12_shapeBehind_31 rfl rfl ?_
      obtain ⟨hb2, h⟩ := okE h
      refine Y_iald (pc := 32) dX12_shapeBehind_32 (lk_79 hPy1) (ln_79 hPy1) hb2 ?_
      obtain ⟨y2, qy2, h⟩ := bindE h
      have cy2 := v_X12_newShape hPy1 qy2
      refine C_V1r (pc := 33) (k' := k_X12_newShape) dX12_shapeBehind_33 w9_140 i_X12_newShape (lk_69 hPy1) ⟨Nat.le_of_ble_eq_true rfl, Nat.le_of_ble_eq_true rfl⟩ rfl (Nat.le_of_ble_eq_true rfl) (Nat.le_of_ble_eq_true rfl) (Nat.le_of_ble_eq_true rfl) (cy2) ?_
      have hPy2 := cy2.1.1
      refine Y_istore_n (pc := 36) (lv1 := [(3, .int y2.1), (0, .ref 69), (1, .int x1), (2, .int x2)]) dX12_shapeBehind_36 rfl (by decide) rfl ?_
      refine Y_iconst (pc := 37) (v := (0 : Int32)) dX12_shapeBehind_37 rfl ?_
      refine Y_istore (pc := 38) (lv1 := [(4, .int (0 : Int32)), (3, .int y2.1), (0, .ref 69), (1, .int x1), (2, .int x2)]) dX12_shapeBehind_38 (by decide) rfl ?_
      refine VV.sub [2, 3, 4, 1, 0] rfl ?_
      exact b_X12_shapeBehind_40  fuel _ _ _ h hPy2
  · replace h := ifF hc1 h
    refine Y_iload_n (pc := 9) (j := 1) dX12_shapeBehind_9 rfl rfl ?_
    cases h
    exact Y_iret (pc := 10) rfl rfl dX12_shapeBehind_10 hPy1 ⟨rfl, rfl⟩
theorem v_X12_shapeBehind {x1 : Int32} {x2 : Int32} {M z} (hP : Lay M) (h : d_X12_shapeBehind x1 x2 M = some z) : CC Lay k_X12_shapeBehind [.ref 69, .int x1, .int x2] M z.2 (Qv (some (.int z.1)) z.2) xF :=
  CC.ofVV (by decide) rfl (Nat.le_of_ble_eq_true rfl) (b_X12_shapeBehind hP h)
theorem b_X12_rootAt_41 {k2 : (Int32) → Mem → Option (Int32 × Mem)} {x1 : Int32} {x2 : Int32} {M z} (hk2 : ∀ (a : (Int32)) (M : Mem) (z : Int32 × Mem), Lay M → k2 a M = some z → VV Lay k_X12_rootAt 2 [(0, .ref 69), (1, .int x1), (2, .int a)] [] M z.2 (Qv (some (.int z.1)) z.2) xF) (hP : Lay M) (h : d_X12_rootAt_41 k2 x1 x2 M = some z) : VV Lay k_X12_rootAt 41 [(0, .ref 69), (1, .int x1), (2, .int x2)] [] M z.2 (Qv (some (.int z.1)) z.2) xF := by
  unfold d_X12_rootAt_41 at h
  obtain ⟨b1, eb1, h⟩ := bndE h
  refine Y_iinc (pc := 41) (j := 2) (v := b1) (lv1 := [(2, .int b1), (0, .ref 69), (1, .int x1)]) dX12_rootAt_41 rfl eb1.symm (by decide) rfl ?_
  refine Y_goto (pc := 44) (tgt := 2) dX12_rootAt_44 (by decide) ?_
  refine VV.sub [1, 2, 0] rfl ?_
  exact hk2 _ _ _ hP h
theorem b_X12_rootAt_2b {k2 : (Int32) → Mem → Option (Int32 × Mem)} {x1 : Int32} {x2 : Int32} {M z} (hk2 : ∀ (a : (Int32)) (M : Mem) (z : Int32 × Mem), Lay M → k2 a M = some z → VV Lay k_X12_rootAt 2 [(0, .ref 69), (1, .int x1), (2, .int a)] [] M z.2 (Qv (some (.int z.1)) z.2) xF) (hP : Lay M) (h : d_X12_rootAt_2b k2 x1 x2 M = some z) : VV Lay k_X12_rootAt 2 [(0, .ref 69), (1, .int x1), (2, .int x2)] [] M z.2 (Qv (some (.int z.1)) z.2) xF := by
  unfold d_X12_rootAt_2b at h
  refine Y_iload_n (pc := 2) (j := 2) dX12_rootAt_2 rfl rfl ?_
  refine Y_aload_n (pc := 3) (j := 0) dX12_rootAt_3 rfl rfl ?_
  refine Z_geti (pc := 4) dX12_rootAt_4 w8_92 (lk_69 hP) fi_12_26 ?_
  refine Y_icmp_ge (pc := 7) (tgt := 47) dX12_rootAt_7 (by decide) (fun hc1 => ?_) (fun hc1 => ?_)
  · replace h := ifT hc1 h
    refine Y_iconst (pc := 47) (v := (-1 : Int32)) dX12_rootAt_47 rfl ?_
    cases h
    exact Y_iret (pc := 48) rfl rfl dX12_rootAt_48 hP ⟨rfl, rfl⟩
  · replace h := ifF hc1 h
    refine Y_aload_n (pc := 10) (j := 0) dX12_rootAt_10 rfl rfl ?_
    refine Z_getr (pc := 11) dX12_rootAt_11 w8_93 (lk_69 hP) fr_12_27 (lr_69_27 hP) ?_
    refine Y_iload_n (pc := 14) (j := 2) dX12_rootAt_14 rfl rfl ?_
    obtain ⟨hb1, h⟩ := okE h
    refine Y_zald (pc := 15) dX12_rootAt_15 (lk_89 hP) (ln_89 hP) hb1 ?_
    refine Y_if_eq (pc := 16) (tgt := 41) dX12_rootAt_16 (by decide) (fun hc2 => ?_) (fun hc2 => ?_)
    · replace h := ifT hc2 h
      refine VV.sub [0, 1, 2] rfl ?_
      exact b_X12_rootAt_41 hk2 hP h
    · replace h := ifF hc2 h
      refine Y_aload_n (pc := 19) (j := 0) dX12_rootAt_19 rfl rfl ?_
      refine Z_getr (pc := 20) dX12_rootAt_20 w8_97 (lk_69 hP) fr_12_31 (lr_69_31 hP) ?_
      refine Y_iload_n (pc := 23) (j := 2) dX12_rootAt_23 rfl rfl ?_
      obtain ⟨hb2, h⟩ := okE h
      refine Y_iald (pc := 24) dX12_rootAt_24 (lk_93 hP) (ln_93 hP) hb2 ?_
      refine Y_iload_n (pc := 25) (j := 2) dX12_rootAt_25 rfl rfl ?_
      refine Y_icmp_ne (pc := 26) (tgt := 41) dX12_rootAt_26 (by decide) (fun hc3 => ?_) (fun hc3 => ?_)
      · replace h := ifF hc3 h
        refine VV.sub [0, 1, 2] rfl ?_
        exact b_X12_rootAt_41 hk2 hP h
      · replace h := ifT hc3 h
        refine Y_aload_n (pc := 29) (j := 0) dX12_rootAt_29 rfl rfl ?_
        refine Z_getr (pc := 30) dX12_rootAt_30 w8_98 (lk_69 hP) fr_12_32 (lr_69_32 hP) ?_
        refine Y_iload_n (pc := 33) (j := 2) dX12_rootAt_33 rfl rfl ?_
        obtain ⟨hb3, h⟩ := okE h
        refine Y_iald (pc := 34) dX12_rootAt_34 (lk_94 hP) (ln_94 hP) hb3 ?_
        refine Y_iload_n (pc := 35) (j := 1) dX12_rootAt_35 rfl rfl ?_
        refine Y_icmp_ne (pc := 36) (tgt := 41) dX12_rootAt_36 (by decide) (fun hc4 => ?_) (fun hc4 => ?_)
        · replace h := ifF hc4 h
          refine VV.sub [0, 1, 2] rfl ?_
          exact b_X12_rootAt_41 hk2 hP h
        · replace h := ifT hc4 h
          refine Y_iload_n (pc := 39) (j := 2) dX12_rootAt_39 rfl rfl ?_
          cases h
          exact Y_iret (pc := 40) rfl rfl dX12_rootAt_40 hP ⟨rfl, rfl⟩
theorem b_X12_rootAt_2 {x1 : Int32} (n : Nat) : ∀ (a : (Int32)) (M : Mem) (z : Int32 × Mem), d_X12_rootAt_2 x1 n a M = some z → Lay M → VV Lay k_X12_rootAt 2 [(0, .ref 69), (1, .int x1), (2, .int a)] [] M z.2 (Qv (some (.int z.1)) z.2) xF :=
  lp_ind (G := fun (a : (Int32)) (M : Mem) (z : Int32 × Mem) => Lay M → VV Lay k_X12_rootAt 2 [(0, .ref 69), (1, .int x1), (2, .int a)] [] M z.2 (Qv (some (.int z.1)) z.2) xF) (fun k hk a M z h hP => b_X12_rootAt_2b  (fun a M z hP h => hk a M z h hP) hP h) n
theorem b_X12_rootAt {x1 : Int32} {M z} (hP : Lay M) (h : d_X12_rootAt x1 M = some z) : VV Lay k_X12_rootAt 0 [(0, .ref 69), (1, .int x1)] [] M z.2 (Qv (some (.int z.1)) z.2) xF := by
  unfold d_X12_rootAt at h
  refine Y_iconst (pc := 0) (v := (0 : Int32)) dX12_rootAt_0 rfl ?_
  refine Y_istore_n (pc := 1) (lv1 := [(2, .int (0 : Int32)), (0, .ref 69), (1, .int x1)]) dX12_rootAt_1 rfl (by decide) rfl ?_
  refine VV.sub [1, 2, 0] rfl ?_
  exact b_X12_rootAt_2  fuel _ _ _ h hP
theorem v_X12_rootAt {x1 : Int32} {M z} (hP : Lay M) (h : d_X12_rootAt x1 M = some z) : CC Lay k_X12_rootAt [.ref 69, .int x1] M z.2 (Qv (some (.int z.1)) z.2) xF :=
  CC.ofVV (by decide) rfl (Nat.le_of_ble_eq_true rfl) (b_X12_rootAt hP h)
theorem b_X12_enters {x1 : Int32} {M z} (hP : Lay M) (h : d_X12_enters x1 M = some z) : VV Lay k_X12_enters 0 [(0, .ref 69), (1, .int x1)] [] M z.2 (Qv (none) z.2) xF := by
  unfold d_X12_enters at h
  refine Y_aload_n (pc := 0) (j := 0) dX12_enters_0 rfl rfl ?_
  refine Y_iload_n (pc := 1) (j := 1) dX12_enters_1 rfl rfl ?_
  refine Z_puti (pc := 2) dX12_enters_2 w8_134 (lk_69 hP) fi_12_68 (Or.inl rfl) rfl ?_
  obtain ⟨M1, eM1, h⟩ := bndE h
  refine VV.mem eM1 ?_
  have hP1 := hP.wI eM1
  refine Y_aload_n (pc := 5) (j := 0) dX12_enters_5 rfl rfl ?_
  refine Y_iconst (pc := 6) (v := (0 : Int32)) dX12_enters_6 rfl ?_
  refine Z_puti (pc := 7) dX12_enters_7 w8_135 (lk_69 hP1) fi_12_69 (Or.inl rfl) rfl ?_
  obtain ⟨M2, eM2, h⟩ := bndE h
  refine VV.mem eM2 ?_
  have hP2 := hP1.wI eM2
  refine Y_aload_n (pc := 10) (j := 0) dX12_enters_10 rfl rfl ?_
  refine Y_aload_n (pc := 11) (j := 0) dX12_enters_11 rfl rfl ?_
  refine Z_geti (pc := 12) dX12_enters_12 w8_114 (lk_69 hP2) fi_12_48 ?_
  refine Z_puti (pc := 15) dX12_enters_15 w8_136 (lk_69 hP2) fi_12_70 (Or.inl rfl) rfl ?_
  obtain ⟨M3, eM3, h⟩ := bndE h
  refine VV.mem eM3 ?_
  have hP3 := hP2.wI eM3
  refine Y_aload_n (pc := 18) (j := 0) dX12_enters_18 rfl rfl ?_
  refine Z_getr (pc := 19) dX12_enters_19 w8_99 (lk_69 hP3) fr_12_33 (lr_69_33 hP3) ?_
  refine Y_iload_n (pc := 22) (j := 1) dX12_enters_22 rfl rfl ?_
  refine Y_dup2 (pc := 23) dX12_enters_23 rfl rfl ?_
  obtain ⟨hb1, h⟩ := okE h
  refine Y_iald (pc := 24) dX12_enters_24 (lk_95 hP3) (ln_95 hP3) hb1 ?_
  refine Y_iconst (pc := 25) (v := (1 : Int32)) dX12_enters_25 rfl ?_
  refine Y_iadd (pc := 26) dX12_enters_26 ?_
  obtain ⟨hb2, h⟩ := okE h
  refine Y_iast (pc := 27) dX12_enters_27 (lk_95 hP3) (ln_95 hP3) hb2 ?_
  obtain ⟨M4, eM4, h⟩ := bndE h
  refine VV.mem eM4 ?_
  have hP4 := hP3.wI eM4
  refine Y_aload_n (pc := 28) (j := 0) dX12_enters_28 rfl rfl ?_
  refine Y_dup (pc := 29) dX12_enters_29 rfl ?_
  refine Z_geti (pc := 30) dX12_enters_30 w8_101 (lk_69 hP4) fi_12_35 ?_
  refine Y_iconst (pc := 33) (v := (1 : Int32)) dX12_enters_33 rfl ?_
  refine Y_iadd (pc := 34) dX12_enters_34 ?_
  refine Z_puti (pc := 35) dX12_enters_35 w8_101 (lk_69 hP4) fi_12_35 (Or.inl rfl) rfl ?_
  obtain ⟨M5, eM5, h⟩ := bndE h
  refine VV.mem eM5 ?_
  have hP5 := hP4.wI eM5
  refine Y_aload_n (pc := 38) (j := 0) dX12_enters_38 rfl rfl ?_
  refine Z_getr (pc := 39) dX12_enters_39 w8_100 (lk_69 hP5) fr_12_34 (lr_69_34 hP5) ?_
  refine Y_iload_n (pc := 42) (j := 1) dX12_enters_42 rfl rfl ?_
  refine Y_aload_n (pc := 43) (j := 0) dX12_enters_43 rfl rfl ?_
  refine Z_geti (pc := 44) dX12_enters_44 w8_101 (lk_69 hP5) fi_12_35 ?_
  obtain ⟨hb3, h⟩ := okE h
  refine Y_iast (pc := 47) dX12_enters_47 (lk_96 hP5) (ln_96 hP5) hb3 ?_
  obtain ⟨M6, eM6, h⟩ := bndE h
  refine VV.mem eM6 ?_
  have hP6 := hP5.wI eM6
  cases h
  exact Y_vret (pc := 48) rfl dX12_enters_48 hP6 ⟨rfl, rfl⟩
theorem v_X12_enters {x1 : Int32} {M z} (hP : Lay M) (h : d_X12_enters x1 M = some z) : CC Lay k_X12_enters [.ref 69, .int x1] M z.2 (Qv (none) z.2) xF :=
  CC.ofVV (by decide) rfl (Nat.le_of_ble_eq_true rfl) (b_X12_enters hP h)
theorem b_X12_top {x1 : Int32} {M z} (hP : Lay M) (h : d_X12_top x1 M = some z) : VV Lay k_X12_top 0 [(0, .ref 69), (1, .int x1)] [] M z.2 (Qv (some (.int z.1)) z.2) xF := by
  unfold d_X12_top at h
  refine Y_bipush (pc := 0) (v := (14 : Int32)) dX12_top_0 rfl ?_
  refine Y_aload_n (pc := 2) (j := 0) dX12_top_2 rfl rfl ?_
  refine Z_geti (pc := 3) dX12_top_3 w8_114 (lk_69 hP) fi_12_48 ?_
  refine Y_imul (pc := 6) dX12_top_6 ?_
  refine Y_bipush (pc := 7) (v := (6 : Int32)) dX12_top_7 rfl ?_
  refine Y_iadd (pc := 9) dX12_top_9 ?_
  refine Y_aload_n (pc := 10) (j := 0) dX12_top_10 rfl rfl ?_
  refine Z_getr (pc := 11) dX12_top_11 w8_117 (lk_69 hP) fr_12_51 (lr_69_51 hP) ?_
  refine Y_aload_n (pc := 14) (j := 0) dX12_top_14 rfl rfl ?_
  refine Z_geti (pc := 15) dX12_top_15 w8_114 (lk_69 hP) fi_12_48 ?_
  obtain ⟨hb1, h⟩ := okE h
  refine Y_iald (pc := 18) dX12_top_18 (lk_111 hP) (ln_111 hP) hb1 ?_
  refine Y_iadd (pc := 19) dX12_top_19 ?_
  refine Y_iconst (pc := 20) (v := (1 : Int32)) dX12_top_20 rfl ?_
  refine Y_isub (pc := 21) dX12_top_21 ?_
  refine Y_iload_n (pc := 22) (j := 1) dX12_top_22 rfl rfl ?_
  refine Y_isub (pc := 23) dX12_top_23 ?_
  cases h
  exact Y_iret (pc := 24) rfl rfl dX12_top_24 hP ⟨rfl, rfl⟩
theorem v_X12_top {x1 : Int32} {M z} (hP : Lay M) (h : d_X12_top x1 M = some z) : CC Lay k_X12_top [.ref 69, .int x1] M z.2 (Qv (some (.int z.1)) z.2) xF :=
  CC.ofVV (by decide) rfl (Nat.le_of_ble_eq_true rfl) (b_X12_top hP h)
theorem b_X12_isNumber {x0 : Int32} {M z} (hP : Lay M) (h : d_X12_isNumber x0 M = some z) : VV Lay k_X12_isNumber 0 [(0, .int x0)] [] M z.2 (Qv (some (.int z.1)) z.2) xF := by
  unfold d_X12_isNumber at h
  refine Y_iload_n (pc := 0) (j := 0) dX12_isNumber_0 rfl rfl ?_
  refine Y_bipush (pc := 1) (v := (105 : Int32)) dX12_isNumber_1 rfl ?_
  refine Y_icmp_eq (pc := 3) (tgt := 12) dX12_isNumber_3 (by decide) (fun hc1 => ?_) (fun hc1 => ?_)
  · replace h := ifT hc1 h
    refine Y_iconst (pc := 12) (v := (1 : Int32)) dX12_isNumber_12 rfl ?_
    refine Y_goto (pc := 13) (tgt := 17) dX12_isNumber_13 (by decide) ?_
    cases h
    exact Y_iret (pc := 17) rfl (nar_bo (by decide)) dX12_isNumber_17 hP ⟨rfl, rfl⟩
  · replace h := ifF hc1 h
    refine Y_iload_n (pc := 6) (j := 0) dX12_isNumber_6 rfl rfl ?_
    refine Y_bipush (pc := 7) (v := (102 : Int32)) dX12_isNumber_7 rfl ?_
    refine Y_icmp_ne (pc := 9) (tgt := 16) dX12_isNumber_9 (by decide) (fun hc2 => ?_) (fun hc2 => ?_)
    · replace h := ifF hc2 h
      refine Y_iconst (pc := 16) (v := (0 : Int32)) dX12_isNumber_16 rfl ?_
      cases h
      exact Y_iret (pc := 17) rfl (nar_bo (by decide)) dX12_isNumber_17 hP ⟨rfl, rfl⟩
    · replace h := ifT hc2 h
      refine Y_iconst (pc := 12) (v := (1 : Int32)) dX12_isNumber_12 rfl ?_
      refine Y_goto (pc := 13) (tgt := 17) dX12_isNumber_13 (by decide) ?_
      cases h
      exact Y_iret (pc := 17) rfl (nar_bo (by decide)) dX12_isNumber_17 hP ⟨rfl, rfl⟩
theorem v_X12_isNumber {x0 : Int32} {M z} (hP : Lay M) (h : d_X12_isNumber x0 M = some z) : CC Lay k_X12_isNumber [.int x0] M z.2 (Qv (some (.int z.1)) z.2) xF :=
  CC.ofVV (by decide) rfl (Nat.le_of_ble_eq_true rfl) (b_X12_isNumber hP h)
theorem b_X12_asFloat {x1 : Int32} {M z} (hP : Lay M) (h : d_X12_asFloat x1 M = some z) : VV Lay k_X12_asFloat 0 [(0, .ref 69), (1, .int x1)] [] M z.2 (Qv (some (.double z.1)) z.2) xF := by
  unfold d_X12_asFloat at h
  refine Y_aload_n (pc := 0) (j := 0) dX12_asFloat_0 rfl rfl ?_
  refine Z_getr (pc := 1) dX12_asFloat_1 w8_110 (lk_69 hP) fr_12_44 (lr_69_44 hP) ?_
  refine Y_iload_n (pc := 4) (j := 1) dX12_asFloat_4 rfl rfl ?_
  obtain ⟨hb1, h⟩ := okE h
  refine Y_cald (pc := 5) dX12_asFloat_5 (lk_105 hP) (ln_105 hP) hb1 ?_
  refine Y_bipush (pc := 6) (v := (105 : Int32)) dX12_asFloat_6 rfl ?_
  refine Y_icmp_ne (pc := 8) (tgt := 21) dX12_asFloat_8 (by decide) (fun hc1 => ?_) (fun hc1 => ?_)
  · replace h := ifF hc1 h
    refine Y_aload_n (pc := 21) (j := 0) dX12_asFloat_21 rfl rfl ?_
    refine Z_getr (pc := 22) dX12_asFloat_22 w8_112 (lk_69 hP) fr_12_46 (lr_69_46 hP) ?_
    refine Y_iload_n (pc := 25) (j := 1) dX12_asFloat_25 rfl rfl ?_
    obtain ⟨hb2, h⟩ := okE h
    refine Y_dald (pc := 26) dX12_asFloat_26 (lk_107 hP) (ln_107 hP) hb2 ?_
    cases h
    exact Y_dret (pc := 27) rfl dX12_asFloat_27 hP ⟨rfl, rfl⟩
  · replace h := ifT hc1 h
    refine Y_aload_n (pc := 11) (j := 0) dX12_asFloat_11 rfl rfl ?_
    refine Z_getr (pc := 12) dX12_asFloat_12 w8_111 (lk_69 hP) fr_12_45 (lr_69_45 hP) ?_
    refine Y_iload_n (pc := 15) (j := 1) dX12_asFloat_15 rfl rfl ?_
    obtain ⟨hb3, h⟩ := okE h
    refine Y_iald (pc := 16) dX12_asFloat_16 (lk_106 hP) (ln_106 hP) hb3 ?_
    refine Y_i2d (pc := 17) dX12_asFloat_17 ?_
    refine Y_goto (pc := 18) (tgt := 27) dX12_asFloat_18 (by decide) ?_
    cases h
    exact Y_dret (pc := 27) rfl dX12_asFloat_27 hP ⟨rfl, rfl⟩
theorem v_X12_asFloat {x1 : Int32} {M z} (hP : Lay M) (h : d_X12_asFloat x1 M = some z) : CC Lay k_X12_asFloat [.ref 69, .int x1] M z.2 (Qv (some (.double z.1)) z.2) xF :=
  CC.ofVV (by decide) rfl (Nat.le_of_ble_eq_true rfl) (b_X12_asFloat hP h)
theorem b_X12_isNull_31 {x1 : Int32} {M z} (hP : Lay M) (h : d_X12_isNull_31 x1 M = some z) : VV Lay k_X12_isNull 31 [(0, .ref 69), (1, .int x1)] [] M z.2 (Qv (some (.int z.1)) z.2) xF := by
  unfold d_X12_isNull_31 at h
  refine Y_aload_n (pc := 31) (j := 0) dX12_isNull_31 rfl rfl ?_
  refine Z_getr (pc := 32) dX12_isNull_32 w8_110 (lk_69 hP) fr_12_44 (lr_69_44 hP) ?_
  refine Y_iload_n (pc := 35) (j := 1) dX12_isNull_35 rfl rfl ?_
  obtain ⟨hb1, h⟩ := okE h
  refine Y_cald (pc := 36) dX12_isNull_36 (lk_105 hP) (ln_105 hP) hb1 ?_
  refine Y_bipush (pc := 37) (v := (102 : Int32)) dX12_isNull_37 rfl ?_
  refine Y_icmp_ne (pc := 39) (tgt := 57) dX12_isNull_39 (by decide) (fun hc1 => ?_) (fun hc1 => ?_)
  · replace h := ifF hc1 h
    refine Y_iconst (pc := 57) (v := (0 : Int32)) dX12_isNull_57 rfl ?_
    cases h
    exact Y_iret (pc := 58) rfl (nar_bo (by decide)) dX12_isNull_58 hP ⟨rfl, rfl⟩
  · replace h := ifT hc1 h
    refine Y_aload_n (pc := 42) (j := 0) dX12_isNull_42 rfl rfl ?_
    refine Z_getr (pc := 43) dX12_isNull_43 w8_112 (lk_69 hP) fr_12_46 (lr_69_46 hP) ?_
    refine Y_iload_n (pc := 46) (j := 1) dX12_isNull_46 rfl rfl ?_
    obtain ⟨hb2, h⟩ := okE h
    refine Y_dald (pc := 47) dX12_isNull_47 (lk_107 hP) (ln_107 hP) hb2 ?_
    refine Y_dconst0 (pc := 48) dX12_isNull_48 ?_
    refine Y_dcmp (pc := 49) dX12_isNull_49 ?_
    refine Y_if_ne (pc := 50) (tgt := 57) dX12_isNull_50 (by decide) (fun hc2 => ?_) (fun hc2 => ?_)
    · replace h := ifF hc2 h
      refine Y_iconst (pc := 57) (v := (0 : Int32)) dX12_isNull_57 rfl ?_
      cases h
      exact Y_iret (pc := 58) rfl (nar_bo (by decide)) dX12_isNull_58 hP ⟨rfl, rfl⟩
    · replace h := ifT hc2 h
      refine Y_iconst (pc := 53) (v := (1 : Int32)) dX12_isNull_53 rfl ?_
      refine Y_goto (pc := 54) (tgt := 58) dX12_isNull_54 (by decide) ?_
      cases h
      exact Y_iret (pc := 58) rfl (nar_bo (by decide)) dX12_isNull_58 hP ⟨rfl, rfl⟩
theorem b_X12_isNull {x1 : Int32} {M z} (hP : Lay M) (h : d_X12_isNull x1 M = some z) : VV Lay k_X12_isNull 0 [(0, .ref 69), (1, .int x1)] [] M z.2 (Qv (some (.int z.1)) z.2) xF := by
  unfold d_X12_isNull at h
  refine Y_aload_n (pc := 0) (j := 0) dX12_isNull_0 rfl rfl ?_
  refine Z_getr (pc := 1) dX12_isNull_1 w8_110 (lk_69 hP) fr_12_44 (lr_69_44 hP) ?_
  refine Y_iload_n (pc := 4) (j := 1) dX12_isNull_4 rfl rfl ?_
  obtain ⟨hb1, h⟩ := okE h
  refine Y_cald (pc := 5) dX12_isNull_5 (lk_105 hP) (ln_105 hP) hb1 ?_
  refine Y_bipush (pc := 6) (v := (110 : Int32)) dX12_isNull_6 rfl ?_
  refine Y_icmp_eq (pc := 8) (tgt := 53) dX12_isNull_8 (by decide) (fun hc1 => ?_) (fun hc1 => ?_)
  · replace h := ifT hc1 h
    refine Y_iconst (pc := 53) (v := (1 : Int32)) dX12_isNull_53 rfl ?_
    refine Y_goto (pc := 54) (tgt := 58) dX12_isNull_54 (by decide) ?_
    cases h
    exact Y_iret (pc := 58) rfl (nar_bo (by decide)) dX12_isNull_58 hP ⟨rfl, rfl⟩
  · replace h := ifF hc1 h
    refine Y_aload_n (pc := 11) (j := 0) dX12_isNull_11 rfl rfl ?_
    refine Z_getr (pc := 12) dX12_isNull_12 w8_110 (lk_69 hP) fr_12_44 (lr_69_44 hP) ?_
    refine Y_iload_n (pc := 15) (j := 1) dX12_isNull_15 rfl rfl ?_
    obtain ⟨hb2, h⟩ := okE h
    refine Y_cald (pc := 16) dX12_isNull_16 (lk_105 hP) (ln_105 hP) hb2 ?_
    refine Y_bipush (pc := 17) (v := (105 : Int32)) dX12_isNull_17 rfl ?_
    refine Y_icmp_ne (pc := 19) (tgt := 31) dX12_isNull_19 (by decide) (fun hc2 => ?_) (fun hc2 => ?_)
    · replace h := ifF hc2 h
      refine VV.sub [0, 1] rfl ?_
      exact b_X12_isNull_31  hP h
    · replace h := ifT hc2 h
      refine Y_aload_n (pc := 22) (j := 0) dX12_isNull_22 rfl rfl ?_
      refine Z_getr (pc := 23) dX12_isNull_23 w8_111 (lk_69 hP) fr_12_45 (lr_69_45 hP) ?_
      refine Y_iload_n (pc := 26) (j := 1) dX12_isNull_26 rfl rfl ?_
      obtain ⟨hb3, h⟩ := okE h
      refine Y_iald (pc := 27) dX12_isNull_27 (lk_106 hP) (ln_106 hP) hb3 ?_
      refine Y_if_eq (pc := 28) (tgt := 53) dX12_isNull_28 (by decide) (fun hc3 => ?_) (fun hc3 => ?_)
      · replace h := ifT hc3 h
        refine Y_iconst (pc := 53) (v := (1 : Int32)) dX12_isNull_53 rfl ?_
        refine Y_goto (pc := 54) (tgt := 58) dX12_isNull_54 (by decide) ?_
        cases h
        exact Y_iret (pc := 58) rfl (nar_bo (by decide)) dX12_isNull_58 hP ⟨rfl, rfl⟩
      · replace h := ifF hc3 h
        refine VV.sub [0, 1] rfl ?_
        exact b_X12_isNull_31  hP h
theorem v_X12_isNull {x1 : Int32} {M z} (hP : Lay M) (h : d_X12_isNull x1 M = some z) : CC Lay k_X12_isNull [.ref 69, .int x1] M z.2 (Qv (some (.int z.1)) z.2) xF :=
  CC.ofVV (by decide) rfl (Nat.le_of_ble_eq_true rfl) (b_X12_isNull hP h)
theorem b_X12_bits_139 {x3 : Int64} {x5 : UInt64} {x7 : Int32} {M z} (hP : Lay M) (h : d_X12_bits_139 x3 x5 x7 M = some z) : VV Lay k_X12_bits 139 [(3, .long x3), (5, .double x5), (7, .int x7)] [] M z.2 (Qv (some (.long z.1)) z.2) xF := by
  unfold d_X12_bits_139 at h
  refine Y_dload (pc := 139) (j := 1) dX12_bits_139 rfl ?_
  refine Y_dconst1 (pc := 141) dX12_bits_141 ?_
  refine Y_dcmp (pc := 142) dX12_bits_142 ?_
  refine Y_if_ge (pc := 143) (tgt := 156) dX12_bits_143 (by decide) (fun hc1 => ?_) (fun hc1 => ?_)
  · replace h := ifT hc1 h
    refine Y_lload_n (pc := 156) (j := 0) dX12_bits_156 rfl rfl ?_
    refine Y_iload (pc := 157) (j := 2) dX12_bits_157 rfl ?_
    refine Y_sipush (pc := 159) (v := (1023 : Int32)) dX12_bits_159 rfl ?_
    refine Y_iadd (pc := 162) dX12_bits_162 ?_
    refine Y_i2l (pc := 163) dX12_bits_163 ?_
    refine Y_bipush (pc := 164) (v := (52 : Int32)) dX12_bits_164 rfl ?_
    refine Y_lshl (pc := 166) dX12_bits_166 ?_
    refine Y_lor (pc := 167) dX12_bits_167 ?_
    refine Y_dload (pc := 168) (j := 1) dX12_bits_168 rfl ?_
    refine Y_dconst1 (pc := 170) dX12_bits_170 ?_
    refine Y_dsub (pc := 171) dX12_bits_171 ?_
    refine Y_ldc2d (pc := 172) (by decide) dX12_bits_172 w10_98 ?_
    refine Y_dmul (pc := 175) dX12_bits_175 ?_
    refine Y_d2l (pc := 176) dX12_bits_176 ?_
    refine Y_lor (pc := 177) dX12_bits_177 ?_
    cases h
    exact Y_lret (pc := 178) rfl dX12_bits_178 hP ⟨rfl, rfl⟩
  · replace h := ifF hc1 h
    refine Y_lload_n (pc := 146) (j := 0) dX12_bits_146 rfl rfl ?_
    refine Y_dload (pc := 147) (j := 1) dX12_bits_147 rfl ?_
    refine Y_ldc2d (pc := 149) (by decide) dX12_bits_149 w10_98 ?_
    refine Y_dmul (pc := 152) dX12_bits_152 ?_
    refine Y_d2l (pc := 153) dX12_bits_153 ?_
    refine Y_lor (pc := 154) dX12_bits_154 ?_
    cases h
    exact Y_lret (pc := 155) rfl dX12_bits_155 hP ⟨rfl, rfl⟩
theorem b_X12_bits_110b {k110 : (UInt64 × Int32) → Mem → Option (Int64 × Mem)} {x3 : Int64} {x5 : UInt64} {x7 : Int32} {M z} (hk110 : ∀ (a : (UInt64 × Int32)) (M : Mem) (z : Int64 × Mem), Lay M → k110 a M = some z → VV Lay k_X12_bits 110 [(3, .long x3), (5, .double a.1), (7, .int a.2)] [] M z.2 (Qv (some (.long z.1)) z.2) xF) (hP : Lay M) (h : d_X12_bits_110b k110 x3 x5 x7 M = some z) : VV Lay k_X12_bits 110 [(3, .long x3), (5, .double x5), (7, .int x7)] [] M z.2 (Qv (some (.long z.1)) z.2) xF := by
  unfold d_X12_bits_110b at h
  refine Y_dload (pc := 110) (j := 1) dX12_bits_110 rfl ?_
  refine Y_dconst1 (pc := 112) dX12_bits_112 ?_
  refine Y_dcmp (pc := 113) dX12_bits_113 ?_
  refine Y_if_ge (pc := 114) (tgt := 139) dX12_bits_114 (by decide) (fun hc1 => ?_) (fun hc1 => ?_)
  · replace h := ifT hc1 h
    refine VV.sub [0, 1, 2] rfl ?_
    exact b_X12_bits_139  hP h
  · replace h := ifF hc1 h
    refine Y_iload (pc := 117) (j := 2) dX12_bits_117 rfl ?_
    refine Y_sipush (pc := 119) (v := (-1022 : Int32)) dX12_bits_119 rfl ?_
    refine Y_icmp_le (pc := 122) (tgt := 139) dX12_bits_122 (by decide) (fun hc2 => ?_) (fun hc2 => ?_)
    · replace h := ifT hc2 h
      refine VV.sub [0, 1, 2] rfl ?_
      exact b_X12_bits_139  hP h
    · replace h := ifF hc2 h
      refine Y_dload (pc := 125) (j := 1) dX12_bits_125 rfl ?_
      refine Y_ldc2d (pc := 127) (by decide) dX12_bits_127 w10_97 ?_
      refine Y_dmul (pc := 130) dX12_bits_130 ?_
      obtain ⟨b1, eb1, h⟩ := bndE h
      refine VV.topD eb1 ?_
      refine Y_dstore (pc := 131) (lv1 := [(5, .double b1), (3, .long x3), (7, .int x7)]) dX12_bits_131 (by decide) rfl ?_
      obtain ⟨b2, eb2, h⟩ := bndE h
      refine Y_iinc (pc := 133) (j := 2) (v := b2) (lv1 := [(7, .int b2), (5, .double b1), (3, .long x3)]) dX12_bits_133 rfl eb2.symm (by decide) rfl ?_
      refine Y_goto (pc := 136) (tgt := 110) dX12_bits_136 (by decide) ?_
      refine VV.sub [2, 1, 0] rfl ?_
      exact hk110 _ _ _ hP h
theorem b_X12_bits_110 {x3 : Int64} (n : Nat) : ∀ (a : (UInt64 × Int32)) (M : Mem) (z : Int64 × Mem), d_X12_bits_110 x3 n a M = some z → Lay M → VV Lay k_X12_bits 110 [(3, .long x3), (5, .double a.1), (7, .int a.2)] [] M z.2 (Qv (some (.long z.1)) z.2) xF :=
  lp_ind (G := fun (a : (UInt64 × Int32)) (M : Mem) (z : Int64 × Mem) => Lay M → VV Lay k_X12_bits 110 [(3, .long x3), (5, .double a.1), (7, .int a.2)] [] M z.2 (Qv (some (.long z.1)) z.2) xF) (fun k hk a M z h hP => b_X12_bits_110b  (fun a M z hP h => hk a M z h hP) hP h) n
theorem b_X12_bits_87b {k87 : (UInt64 × Int32) → Mem → Option (Int64 × Mem)} {x3 : Int64} {x5 : UInt64} {x7 : Int32} {M z} (hk87 : ∀ (a : (UInt64 × Int32)) (M : Mem) (z : Int64 × Mem), Lay M → k87 a M = some z → VV Lay k_X12_bits 87 [(3, .long x3), (5, .double a.1), (7, .int a.2)] [] M z.2 (Qv (some (.long z.1)) z.2) xF) (hP : Lay M) (h : d_X12_bits_87b k87 x3 x5 x7 M = some z) : VV Lay k_X12_bits 87 [(3, .long x3), (5, .double x5), (7, .int x7)] [] M z.2 (Qv (some (.long z.1)) z.2) xF := by
  unfold d_X12_bits_87b at h
  refine Y_dload (pc := 87) (j := 1) dX12_bits_87 rfl ?_
  refine Y_ldc2d (pc := 89) (by decide) dX12_bits_89 w10_97 ?_
  refine Y_dcmp (pc := 92) dX12_bits_92 ?_
  refine Y_if_lt (pc := 93) (tgt := 110) dX12_bits_93 (by decide) (fun hc1 => ?_) (fun hc1 => ?_)
  · replace h := ifT hc1 h
    refine VV.sub [0, 1, 2] rfl ?_
    exact b_X12_bits_110  fuel _ _ _ h hP
  · replace h := ifF hc1 h
    refine Y_dload (pc := 96) (j := 1) dX12_bits_96 rfl ?_
    refine Y_ldc2d (pc := 98) (by decide) dX12_bits_98 w10_97 ?_
    refine Y_ddiv (pc := 101) dX12_bits_101 ?_
    obtain ⟨b1, eb1, h⟩ := bndE h
    refine VV.topD eb1 ?_
    refine Y_dstore (pc := 102) (lv1 := [(5, .double b1), (3, .long x3), (7, .int x7)]) dX12_bits_102 (by decide) rfl ?_
    obtain ⟨b2, eb2, h⟩ := bndE h
    refine Y_iinc (pc := 104) (j := 2) (v := b2) (lv1 := [(7, .int b2), (5, .double b1), (3, .long x3)]) dX12_bits_104 rfl eb2.symm (by decide) rfl ?_
    refine Y_goto (pc := 107) (tgt := 87) dX12_bits_107 (by decide) ?_
    refine VV.sub [2, 1, 0] rfl ?_
    exact hk87 _ _ _ hP h
theorem b_X12_bits_87 {x3 : Int64} (n : Nat) : ∀ (a : (UInt64 × Int32)) (M : Mem) (z : Int64 × Mem), d_X12_bits_87 x3 n a M = some z → Lay M → VV Lay k_X12_bits 87 [(3, .long x3), (5, .double a.1), (7, .int a.2)] [] M z.2 (Qv (some (.long z.1)) z.2) xF :=
  lp_ind (G := fun (a : (UInt64 × Int32)) (M : Mem) (z : Int64 × Mem) => Lay M → VV Lay k_X12_bits 87 [(3, .long x3), (5, .double a.1), (7, .int a.2)] [] M z.2 (Qv (some (.long z.1)) z.2) xF) (fun k hk a M z h hP => b_X12_bits_87b  (fun a M z hP h => hk a M z h hP) hP h) n
theorem b_X12_bits_58 {x3 : Int64} {s0 : UInt64} {M z} (hP : Lay M) (h : d_X12_bits_58 x3 s0 M = some z) : VV Lay k_X12_bits 58 [(3, .long x3)] [.double s0] M z.2 (Qv (some (.long z.1)) z.2) xF := by
  unfold d_X12_bits_58 at h
  refine Y_dstore (pc := 58) (lv1 := [(5, .double s0), (3, .long x3)]) dX12_bits_58 (by decide) rfl ?_
  refine Y_dload (pc := 60) (j := 0) dX12_bits_60 rfl ?_
  refine Y_dconst0 (pc := 62) dX12_bits_62 ?_
  refine Y_dcmp (pc := 63) dX12_bits_63 ?_
  refine Y_if_ne (pc := 64) (tgt := 69) dX12_bits_64 (by decide) (fun hc1 => ?_) (fun hc1 => ?_)
  · replace h := ifF hc1 h
    refine Y_dload (pc := 69) (j := 0) dX12_bits_69 rfl ?_
    refine Y_ldc2d (pc := 71) (by decide) dX12_bits_71 w10_95 ?_
    refine Y_dcmp (pc := 74) dX12_bits_74 ?_
    refine Y_if_le (pc := 75) (tgt := 84) dX12_bits_75 (by decide) (fun hc2 => ?_) (fun hc2 => ?_)
    · replace h := ifT hc2 h
      refine Y_iconst (pc := 84) (v := (0 : Int32)) dX12_bits_84 rfl ?_
      refine Y_istore (pc := 85) (lv1 := [(7, .int (0 : Int32)), (5, .double s0), (3, .long x3)]) dX12_bits_85 (by decide) rfl ?_
      refine VV.sub [2, 1, 0] rfl ?_
      exact b_X12_bits_87  fuel _ _ _ h hP
    · replace h := ifF hc2 h
      refine Y_lload_n (pc := 78) (j := 1) dX12_bits_78 rfl rfl ?_
      refine Y_ldc2 (pc := 79) dX12_bits_79 w10_96 ?_
      refine Y_lor (pc := 82) dX12_bits_82 ?_
      cases h
      exact Y_lret (pc := 83) rfl dX12_bits_83 hP ⟨rfl, rfl⟩
  · replace h := ifT hc1 h
    refine Y_lload_n (pc := 67) (j := 1) dX12_bits_67 rfl rfl ?_
    cases h
    exact Y_lret (pc := 68) rfl dX12_bits_68 hP ⟨rfl, rfl⟩
theorem b_X12_bits_47 {x0 : UInt64} {x2 : Int32} {s0 : Int64} {M z} (hP : Lay M) (h : d_X12_bits_47 x0 x2 s0 M = some z) : VV Lay k_X12_bits 47 [(0, .double x0), (2, .int x2)] [.long s0] M z.2 (Qv (some (.long z.1)) z.2) xF := by
  unfold d_X12_bits_47 at h
  refine Y_lstore_n (pc := 47) (lv1 := [(3, .long s0), (0, .double x0), (2, .int x2)]) dX12_bits_47 rfl (by decide) rfl ?_
  refine Y_iload_n (pc := 48) (j := 2) dX12_bits_48 rfl rfl ?_
  refine Y_if_eq (pc := 49) (tgt := 57) dX12_bits_49 (by decide) (fun hc1 => ?_) (fun hc1 => ?_)
  · replace h := ifT hc1 h
    refine Y_dload_n (pc := 57) (j := 1) dX12_bits_57 rfl rfl ?_
    refine VV.sub [0] rfl ?_
    exact b_X12_bits_58  hP h
  · replace h := ifF hc1 h
    refine Y_dload_n (pc := 52) (j := 1) dX12_bits_52 rfl rfl ?_
    refine Y_dneg (pc := 53) dX12_bits_53 ?_
    refine Y_goto (pc := 54) (tgt := 58) dX12_bits_54 (by decide) ?_
    refine VV.sub [0] rfl ?_
    exact b_X12_bits_58  hP h
theorem b_X12_bits_35 {x0 : UInt64} {s0 : Int32} {M z} (hP : Lay M) (h : d_X12_bits_35 x0 s0 M = some z) : VV Lay k_X12_bits 35 [(0, .double x0)] [.int s0] M z.2 (Qv (some (.long z.1)) z.2) xF := by
  unfold d_X12_bits_35 at h
  refine Y_istore_n (pc := 35) (lv1 := [(2, .int s0), (0, .double x0)]) dX12_bits_35 rfl (by decide) rfl ?_
  refine Y_iload_n (pc := 36) (j := 0) dX12_bits_36 rfl rfl ?_
  refine Y_if_eq (pc := 37) (tgt := 46) dX12_bits_37 (by decide) (fun hc1 => ?_) (fun hc1 => ?_)
  · replace h := ifT hc1 h
    refine Y_lconst (pc := 46) (v := (0 : Int64)) dX12_bits_46 rfl ?_
    refine VV.sub [1, 0] rfl ?_
    exact b_X12_bits_47  hP h
  · replace h := ifF hc1 h
    refine Y_ldc2 (pc := 40) dX12_bits_40 w10_94 ?_
    refine Y_goto (pc := 43) (tgt := 47) dX12_bits_43 (by decide) ?_
    refine VV.sub [1, 0] rfl ?_
    exact b_X12_bits_47  hP h
theorem b_X12_bits_30 {x0 : UInt64} {M z} (hP : Lay M) (h : d_X12_bits_30 x0 M = some z) : VV Lay k_X12_bits 30 [(0, .double x0)] [] M z.2 (Qv (some (.long z.1)) z.2) xF := by
  unfold d_X12_bits_30 at h
  refine Y_iconst (pc := 30) (v := (1 : Int32)) dX12_bits_30 rfl ?_
  refine Y_goto (pc := 31) (tgt := 35) dX12_bits_31 (by decide) ?_
  refine VV.sub [0] rfl ?_
  exact b_X12_bits_35  hP h
theorem b_X12_bits_34 {x0 : UInt64} {M z} (hP : Lay M) (h : d_X12_bits_34 x0 M = some z) : VV Lay k_X12_bits 34 [(0, .double x0)] [] M z.2 (Qv (some (.long z.1)) z.2) xF := by
  unfold d_X12_bits_34 at h
  refine Y_iconst (pc := 34) (v := (0 : Int32)) dX12_bits_34 rfl ?_
  refine VV.sub [0] rfl ?_
  exact b_X12_bits_35  hP h
theorem b_X12_bits {x0 : UInt64} {M z} (hP : Lay M) (h : d_X12_bits x0 M = some z) : VV Lay k_X12_bits 0 [(0, .double x0)] [] M z.2 (Qv (some (.long z.1)) z.2) xF := by
  unfold d_X12_bits at h
  refine Y_dload_n (pc := 0) (j := 0) dX12_bits_0 rfl rfl ?_
  refine Y_dload_n (pc := 1) (j := 0) dX12_bits_1 rfl rfl ?_
  refine Y_dcmp (pc := 2) dX12_bits_2 ?_
  refine Y_if_eq (pc := 3) (tgt := 10) dX12_bits_3 (by decide) (fun hc1 => ?_) (fun hc1 => ?_)
  · replace h := ifT hc1 h
    refine Y_dload_n (pc := 10) (j := 0) dX12_bits_10 rfl rfl ?_
    refine Y_dconst0 (pc := 11) dX12_bits_11 ?_
    refine Y_dcmp (pc := 12) dX12_bits_12 ?_
    refine Y_if_lt (pc := 13) (tgt := 30) dX12_bits_13 (by decide) (fun hc2 => ?_) (fun hc2 => ?_)
    · replace h := ifT hc2 h
      refine VV.sub [0] rfl ?_
      exact b_X12_bits_30  hP h
    · replace h := ifF hc2 h
      refine Y_dload_n (pc := 16) (j := 0) dX12_bits_16 rfl rfl ?_
      refine Y_dconst0 (pc := 17) dX12_bits_17 ?_
      refine Y_dcmp (pc := 18) dX12_bits_18 ?_
      refine Y_if_ne (pc := 19) (tgt := 34) dX12_bits_19 (by decide) (fun hc3 => ?_) (fun hc3 => ?_)
      · replace h := ifF hc3 h
        refine VV.sub [0] rfl ?_
        exact b_X12_bits_34  hP h
      · replace h := ifT hc3 h
        refine Y_dconst1 (pc := 22) dX12_bits_22 ?_
        refine Y_dload_n (pc := 23) (j := 0) dX12_bits_23 rfl rfl ?_
        refine Y_ddiv (pc := 24) dX12_bits_24 ?_
        refine Y_dconst0 (pc := 25) dX12_bits_25 ?_
        refine Y_dcmp (pc := 26) dX12_bits_26 ?_
        refine Y_if_ge (pc := 27) (tgt := 34) dX12_bits_27 (by decide) (fun hc4 => ?_) (fun hc4 => ?_)
        · replace h := ifT hc4 h
          refine VV.sub [0] rfl ?_
          exact b_X12_bits_34  hP h
        · replace h := ifF hc4 h
          refine VV.sub [0] rfl ?_
          exact b_X12_bits_30  hP h
  · replace h := ifF hc1 h
    refine Y_ldc2 (pc := 6) dX12_bits_6 w10_93 ?_
    cases h
    exact Y_lret (pc := 9) rfl dX12_bits_9 hP ⟨rfl, rfl⟩
theorem v_X12_bits {x0 : UInt64} {M z} (hP : Lay M) (h : d_X12_bits x0 M = some z) : CC Lay k_X12_bits [.double x0] M z.2 (Qv (some (.long z.1)) z.2) xF :=
  CC.ofVV (by decide) rfl (Nat.le_of_ble_eq_true rfl) (b_X12_bits hP h)
theorem b_X12_told {x0 : Int32} {x1 : Int32} {x2 : UInt64} {M z} (hP : Lay M) (h : d_X12_told x0 x1 x2 M = some z) : VV Lay k_X12_told 0 [(0, .int x0), (1, .int x1), (2, .double x2)] [] M z.2 (Qv (some (.long z.1)) z.2) xF := by
  unfold d_X12_told at h
  refine Y_iload_n (pc := 0) (j := 0) dX12_told_0 rfl rfl ?_
  refine Y_bipush (pc := 1) (v := (105 : Int32)) dX12_told_1 rfl ?_
  refine Y_icmp_eq (pc := 3) (tgt := 12) dX12_told_3 (by decide) (fun hc1 => ?_) (fun hc1 => ?_)
  · replace h := ifT hc1 h
    refine Y_iload_n (pc := 12) (j := 1) dX12_told_12 rfl rfl ?_
    refine Y_i2l (pc := 13) dX12_told_13 ?_
    refine Y_goto (pc := 14) (tgt := 31) dX12_told_14 (by decide) ?_
    cases h
    exact Y_lret (pc := 31) rfl dX12_told_31 hP ⟨rfl, rfl⟩
  · replace h := ifF hc1 h
    refine Y_iload_n (pc := 6) (j := 0) dX12_told_6 rfl rfl ?_
    refine Y_bipush (pc := 7) (v := (111 : Int32)) dX12_told_7 rfl ?_
    refine Y_icmp_ne (pc := 9) (tgt := 17) dX12_told_9 (by decide) (fun hc2 => ?_) (fun hc2 => ?_)
    · replace h := ifF hc2 h
      refine Y_iload_n (pc := 17) (j := 0) dX12_told_17 rfl rfl ?_
      refine Y_bipush (pc := 18) (v := (102 : Int32)) dX12_told_18 rfl ?_
      refine Y_icmp_ne (pc := 20) (tgt := 30) dX12_told_20 (by decide) (fun hc3 => ?_) (fun hc3 => ?_)
      · replace h := ifF hc3 h
        refine Y_lconst (pc := 30) (v := (0 : Int64)) dX12_told_30 rfl ?_
        cases h
        exact Y_lret (pc := 31) rfl dX12_told_31 hP ⟨rfl, rfl⟩
      · replace h := ifT hc3 h
        refine Y_dload_n (pc := 23) (j := 2) dX12_told_23 rfl rfl ?_
        obtain ⟨y1, qy1, h⟩ := bindE h
        have cy1 := v_X12_bits hP qy1
        refine C_S1r (pc := 24) (k' := k_X12_bits) dX12_told_24 w10_90 i_X12_bits (Nat.le_of_ble_eq_true rfl) (Nat.le_of_ble_eq_true rfl) (Nat.le_of_ble_eq_true rfl) (cy1) ?_
        have hPy1 := cy1.1.1
        refine Y_goto (pc := 27) (tgt := 31) dX12_told_27 (by decide) ?_
        cases h
        exact Y_lret (pc := 31) rfl dX12_told_31 hPy1 ⟨rfl, rfl⟩
    · replace h := ifT hc2 h
      refine Y_iload_n (pc := 12) (j := 1) dX12_told_12 rfl rfl ?_
      refine Y_i2l (pc := 13) dX12_told_13 ?_
      refine Y_goto (pc := 14) (tgt := 31) dX12_told_14 (by decide) ?_
      cases h
      exact Y_lret (pc := 31) rfl dX12_told_31 hP ⟨rfl, rfl⟩
theorem v_X12_told {x0 : Int32} {x1 : Int32} {x2 : UInt64} {M z} (hP : Lay M) (h : d_X12_told x0 x1 x2 M = some z) : CC Lay k_X12_told [.int x0, .int x1, .double x2] M z.2 (Qv (some (.long z.1)) z.2) xF :=
  CC.ofVV (by decide) rfl (Nat.le_of_ble_eq_true rfl) (b_X12_told hP h)
theorem b_X12_copies {x1 : Int32} {x2 : Int32} {M z} (hP : Lay M) (h : d_X12_copies x1 x2 M = some z) : VV Lay k_X12_copies 0 [(0, .ref 69), (1, .int x1), (2, .int x2)] [] M z.2 (Qv (none) z.2) xF := by
  unfold d_X12_copies at h
  refine Y_aload_n (pc := 0) (j := 0) dX12_copies_0 rfl rfl ?_
  refine Z_getr (pc := 1) dX12_copies_1 w8_110 (lk_69 hP) fr_12_44 (lr_69_44 hP) ?_
  refine Y_iload_n (pc := 4) (j := 2) dX12_copies_4 rfl rfl ?_
  refine Y_aload_n (pc := 5) (j := 0) dX12_copies_5 rfl rfl ?_
  refine Z_getr (pc := 6) dX12_copies_6 w8_110 (lk_69 hP) fr_12_44 (lr_69_44 hP) ?_
  refine Y_iload_n (pc := 9) (j := 1) dX12_copies_9 rfl rfl ?_
  obtain ⟨hb1, h⟩ := okE h
  refine Y_cald (pc := 10) dX12_copies_10 (lk_105 hP) (ln_105 hP) hb1 ?_
  obtain ⟨hb2, h⟩ := okE h
  obtain ⟨hb3, h⟩ := okE h
  refine Y_cast (pc := 11) dX12_copies_11 (lk_105 hP) (ln_105 hP) hb2 (nar_ch hb3) ?_
  obtain ⟨M1, eM1, h⟩ := bndE h
  refine VV.mem eM1 ?_
  have hP1 := hP.wI eM1
  refine Y_aload_n (pc := 12) (j := 0) dX12_copies_12 rfl rfl ?_
  refine Z_getr (pc := 13) dX12_copies_13 w8_111 (lk_69 hP1) fr_12_45 (lr_69_45 hP1) ?_
  refine Y_iload_n (pc := 16) (j := 2) dX12_copies_16 rfl rfl ?_
  refine Y_aload_n (pc := 17) (j := 0) dX12_copies_17 rfl rfl ?_
  refine Z_getr (pc := 18) dX12_copies_18 w8_111 (lk_69 hP1) fr_12_45 (lr_69_45 hP1) ?_
  refine Y_iload_n (pc := 21) (j := 1) dX12_copies_21 rfl rfl ?_
  obtain ⟨hb4, h⟩ := okE h
  refine Y_iald (pc := 22) dX12_copies_22 (lk_106 hP1) (ln_106 hP1) hb4 ?_
  obtain ⟨hb5, h⟩ := okE h
  refine Y_iast (pc := 23) dX12_copies_23 (lk_106 hP1) (ln_106 hP1) hb5 ?_
  obtain ⟨M2, eM2, h⟩ := bndE h
  refine VV.mem eM2 ?_
  have hP2 := hP1.wI eM2
  refine Y_aload_n (pc := 24) (j := 0) dX12_copies_24 rfl rfl ?_
  refine Z_getr (pc := 25) dX12_copies_25 w8_112 (lk_69 hP2) fr_12_46 (lr_69_46 hP2) ?_
  refine Y_iload_n (pc := 28) (j := 2) dX12_copies_28 rfl rfl ?_
  refine Y_aload_n (pc := 29) (j := 0) dX12_copies_29 rfl rfl ?_
  refine Z_getr (pc := 30) dX12_copies_30 w8_112 (lk_69 hP2) fr_12_46 (lr_69_46 hP2) ?_
  refine Y_iload_n (pc := 33) (j := 1) dX12_copies_33 rfl rfl ?_
  obtain ⟨hb6, h⟩ := okE h
  refine Y_dald (pc := 34) dX12_copies_34 (lk_107 hP2) (ln_107 hP2) hb6 ?_
  obtain ⟨hb7, h⟩ := okE h
  refine Y_dast (pc := 35) dX12_copies_35 (lk_107 hP2) (ln_107 hP2) hb7 ?_
  obtain ⟨M3, eM3, h⟩ := bndE h
  refine VV.mem eM3 ?_
  have hP3 := hP2.wD eM3
  refine Y_aload_n (pc := 36) (j := 0) dX12_copies_36 rfl rfl ?_
  refine Z_getr (pc := 37) dX12_copies_37 w8_113 (lk_69 hP3) fr_12_47 (lr_69_47 hP3) ?_
  refine Y_iload_n (pc := 40) (j := 2) dX12_copies_40 rfl rfl ?_
  refine Y_aload_n (pc := 41) (j := 0) dX12_copies_41 rfl rfl ?_
  refine Z_getr (pc := 42) dX12_copies_42 w8_113 (lk_69 hP3) fr_12_47 (lr_69_47 hP3) ?_
  refine Y_iload_n (pc := 45) (j := 1) dX12_copies_45 rfl rfl ?_
  obtain ⟨hb8, h⟩ := okE h
  refine Y_iald (pc := 46) dX12_copies_46 (lk_108 hP3) (ln_108 hP3) hb8 ?_
  obtain ⟨hb9, h⟩ := okE h
  refine Y_iast (pc := 47) dX12_copies_47 (lk_108 hP3) (ln_108 hP3) hb9 ?_
  obtain ⟨M4, eM4, h⟩ := bndE h
  refine VV.mem eM4 ?_
  have hP4 := hP3.wI eM4
  cases h
  exact Y_vret (pc := 48) rfl dX12_copies_48 hP4 ⟨rfl, rfl⟩
theorem v_X12_copies {x1 : Int32} {x2 : Int32} {M z} (hP : Lay M) (h : d_X12_copies x1 x2 M = some z) : CC Lay k_X12_copies [.ref 69, .int x1, .int x2] M z.2 (Qv (none) z.2) xF :=
  CC.ofVV (by decide) rfl (Nat.le_of_ble_eq_true rfl) (b_X12_copies hP h)
theorem b_X12_gives {x1 : Int32} {x2 : Int32} {x3 : UInt64} {M z} (hP : Lay M) (h : d_X12_gives x1 x2 x3 M = some z) : VV Lay k_X12_gives 0 [(0, .ref 69), (1, .int x1), (2, .int x2), (3, .double x3)] [] M z.2 (Qv (none) z.2) xF := by
  unfold d_X12_gives at h
  refine Y_aload_n (pc := 0) (j := 0) dX12_gives_0 rfl rfl ?_
  refine Y_iload_n (pc := 1) (j := 1) dX12_gives_1 rfl rfl ?_
  obtain ⟨hb1, h⟩ := okE h
  refine Z_putc (pc := 2) dX12_gives_2 w8_154 (lk_69 hP) fi_12_88 (Or.inl rfl) rfl hb1 ?_
  obtain ⟨M1, eM1, h⟩ := bndE h
  refine VV.mem eM1 ?_
  have hP1 := hP.wI eM1
  refine Y_aload_n (pc := 5) (j := 0) dX12_gives_5 rfl rfl ?_
  refine Y_iload_n (pc := 6) (j := 2) dX12_gives_6 rfl rfl ?_
  refine Z_puti (pc := 7) dX12_gives_7 w8_155 (lk_69 hP1) fi_12_89 (Or.inl rfl) rfl ?_
  obtain ⟨M2, eM2, h⟩ := bndE h
  refine VV.mem eM2 ?_
  have hP2 := hP1.wI eM2
  refine Y_aload_n (pc := 10) (j := 0) dX12_gives_10 rfl rfl ?_
  refine Y_dload_n (pc := 11) (j := 3) dX12_gives_11 rfl rfl ?_
  refine Z_putd (pc := 12) dX12_gives_12 w8_156 (lk_69 hP2) fd_12_90 (Or.inl rfl) rfl ?_
  obtain ⟨M3, eM3, h⟩ := bndE h
  refine VV.mem eM3 ?_
  have hP3 := hP2.wD eM3
  cases h
  exact Y_vret (pc := 15) rfl dX12_gives_15 hP3 ⟨rfl, rfl⟩
theorem v_X12_gives {x1 : Int32} {x2 : Int32} {x3 : UInt64} {M z} (hP : Lay M) (h : d_X12_gives x1 x2 x3 M = some z) : CC Lay k_X12_gives [.ref 69, .int x1, .int x2, .double x3] M z.2 (Qv (none) z.2) xF :=
  CC.ofVV (by decide) rfl (Nat.le_of_ble_eq_true rfl) (b_X12_gives hP h)
theorem b_X12_pushes {x1 : Int32} {M z} (hP : Lay M) (h : d_X12_pushes x1 M = some z) : VV Lay k_X12_pushes 0 [(0, .ref 69), (1, .int x1)] [] M z.2 (Qv (none) z.2) xF := by
  unfold d_X12_pushes at h
  refine Y_aload_n (pc := 0) (j := 0) dX12_pushes_0 rfl rfl ?_
  refine Z_getr (pc := 1) dX12_pushes_1 w8_117 (lk_69 hP) fr_12_51 (lr_69_51 hP) ?_
  refine Y_aload_n (pc := 4) (j := 0) dX12_pushes_4 rfl rfl ?_
  refine Z_geti (pc := 5) dX12_pushes_5 w8_114 (lk_69 hP) fi_12_48 ?_
  refine Y_dup2 (pc := 8) dX12_pushes_8 rfl rfl ?_
  obtain ⟨hb1, h⟩ := okE h
  refine Y_iald (pc := 9) dX12_pushes_9 (lk_111 hP) (ln_111 hP) hb1 ?_
  refine Y_iconst (pc := 10) (v := (1 : Int32)) dX12_pushes_10 rfl ?_
  refine Y_iadd (pc := 11) dX12_pushes_11 ?_
  obtain ⟨hb2, h⟩ := okE h
  refine Y_iast (pc := 12) dX12_pushes_12 (lk_111 hP) (ln_111 hP) hb2 ?_
  obtain ⟨M1, eM1, h⟩ := bndE h
  refine VV.mem eM1 ?_
  have hP1 := hP.wI eM1
  refine Y_aload_n (pc := 13) (j := 0) dX12_pushes_13 rfl rfl ?_
  refine Y_iconst (pc := 14) (v := (0 : Int32)) dX12_pushes_14 rfl ?_
  obtain ⟨y1, qy1, h⟩ := bindE h
  have cy1 := v_X12_top hP1 qy1
  refine C_V1r (pc := 15) (k' := k_X12_top) dX12_pushes_15 w9_200 i_X12_top (lk_69 hP1) ⟨Nat.le_of_ble_eq_true rfl, Nat.le_of_ble_eq_true rfl⟩ rfl (Nat.le_of_ble_eq_true rfl) (Nat.le_of_ble_eq_true rfl) (Nat.le_of_ble_eq_true rfl) (cy1) ?_
  have hPy1 := cy1.1.1
  refine Y_istore_n (pc := 18) (lv1 := [(2, .int y1.1), (0, .ref 69), (1, .int x1)]) dX12_pushes_18 rfl (by decide) rfl ?_
  refine Y_aload_n (pc := 19) (j := 1) dX12_pushes_19 rfl rfl ?_
  refine Z_getr (pc := 20) dX12_pushes_20 w8_110 (lk_69 hPy1) fr_12_44 (lr_69_44 hPy1) ?_
  refine Y_iload_n (pc := 23) (j := 0) dX12_pushes_23 rfl rfl ?_
  refine Y_aload_n (pc := 24) (j := 1) dX12_pushes_24 rfl rfl ?_
  refine Z_geti (pc := 25) dX12_pushes_25 w8_154 (lk_69 hPy1) fi_12_88 ?_
  obtain ⟨hb3, h⟩ := okE h
  obtain ⟨hb4, h⟩ := okE h
  refine Y_cast (pc := 28) dX12_pushes_28 (lk_105 hPy1) (ln_105 hPy1) hb3 (nar_ch hb4) ?_
  obtain ⟨M2, eM2, h⟩ := bndE h
  refine VV.mem eM2 ?_
  have hP2 := hPy1.wI eM2
  refine Y_aload_n (pc := 29) (j := 1) dX12_pushes_29 rfl rfl ?_
  refine Z_getr (pc := 30) dX12_pushes_30 w8_111 (lk_69 hP2) fr_12_45 (lr_69_45 hP2) ?_
  refine Y_iload_n (pc := 33) (j := 0) dX12_pushes_33 rfl rfl ?_
  refine Y_aload_n (pc := 34) (j := 1) dX12_pushes_34 rfl rfl ?_
  refine Z_geti (pc := 35) dX12_pushes_35 w8_155 (lk_69 hP2) fi_12_89 ?_
  obtain ⟨hb5, h⟩ := okE h
  refine Y_iast (pc := 38) dX12_pushes_38 (lk_106 hP2) (ln_106 hP2) hb5 ?_
  obtain ⟨M3, eM3, h⟩ := bndE h
  refine VV.mem eM3 ?_
  have hP3 := hP2.wI eM3
  refine Y_aload_n (pc := 39) (j := 1) dX12_pushes_39 rfl rfl ?_
  refine Z_getr (pc := 40) dX12_pushes_40 w8_112 (lk_69 hP3) fr_12_46 (lr_69_46 hP3) ?_
  refine Y_iload_n (pc := 43) (j := 0) dX12_pushes_43 rfl rfl ?_
  refine Y_aload_n (pc := 44) (j := 1) dX12_pushes_44 rfl rfl ?_
  refine Z_getd (pc := 45) dX12_pushes_45 w8_156 (lk_69 hP3) fd_12_90 ?_
  obtain ⟨hb6, h⟩ := okE h
  refine Y_dast (pc := 48) dX12_pushes_48 (lk_107 hP3) (ln_107 hP3) hb6 ?_
  obtain ⟨M4, eM4, h⟩ := bndE h
  refine VV.mem eM4 ?_
  have hP4 := hP3.wD eM4
  refine Y_aload_n (pc := 49) (j := 1) dX12_pushes_49 rfl rfl ?_
  refine Z_getr (pc := 50) dX12_pushes_50 w8_113 (lk_69 hP4) fr_12_47 (lr_69_47 hP4) ?_
  refine Y_iload_n (pc := 53) (j := 0) dX12_pushes_53 rfl rfl ?_
  refine Y_iload_n (pc := 54) (j := 2) dX12_pushes_54 rfl rfl ?_
  obtain ⟨hb7, h⟩ := okE h
  refine Y_iast (pc := 55) dX12_pushes_55 (lk_108 hP4) (ln_108 hP4) hb7 ?_
  obtain ⟨M5, eM5, h⟩ := bndE h
  refine VV.mem eM5 ?_
  have hP5 := hP4.wI eM5
  cases h
  exact Y_vret (pc := 56) rfl dX12_pushes_56 hP5 ⟨rfl, rfl⟩
theorem v_X12_pushes {x1 : Int32} {M z} (hP : Lay M) (h : d_X12_pushes x1 M = some z) : CC Lay k_X12_pushes [.ref 69, .int x1] M z.2 (Qv (none) z.2) xF :=
  CC.ofVV (by decide) rfl (Nat.le_of_ble_eq_true rfl) (b_X12_pushes hP h)
theorem b_X12_givesInteger_28 {x3 : UInt64} {M z} (hP : Lay M) (h : d_X12_givesInteger_28 x3 M = some z) : VV Lay k_X12_givesInteger 28 [(0, .ref 69), (3, .double x3)] [] M z.2 (Qv (none) z.2) xF := by
  unfold d_X12_givesInteger_28 at h
  refine Y_aload_n (pc := 28) (j := 0) dX12_givesInteger_28 rfl rfl ?_
  refine Y_bipush (pc := 29) (v := (102 : Int32)) dX12_givesInteger_29 rfl ?_
  refine Y_iconst (pc := 31) (v := (0 : Int32)) dX12_givesInteger_31 rfl ?_
  refine Y_dload_n (pc := 32) (j := 1) dX12_givesInteger_32 rfl rfl ?_
  obtain ⟨y1, qy1, h⟩ := bindE h
  have cy1 := v_X12_gives hP qy1
  refine C_V3o (pc := 33) (k' := k_X12_gives) dX12_givesInteger_33 w10_17 i_X12_gives (lk_69 hP) ⟨Nat.le_of_ble_eq_true rfl, Nat.le_of_ble_eq_true rfl⟩ rfl (Nat.le_of_ble_eq_true rfl) (Nat.le_of_ble_eq_true rfl) (Nat.le_of_ble_eq_true rfl) (cy1) ?_
  have hPy1 := cy1.1.1
  cases h
  exact Y_vret (pc := 36) rfl dX12_givesInteger_36 hPy1 ⟨rfl, rfl⟩
theorem b_X12_givesInteger {x1 : Int64} {x2 : UInt64} {M z} (hP : Lay M) (h : d_X12_givesInteger x1 x2 M = some z) : VV Lay k_X12_givesInteger 0 [(0, .ref 69), (1, .long x1), (3, .double x2)] [] M z.2 (Qv (none) z.2) xF := by
  unfold d_X12_givesInteger at h
  refine Y_lload_n (pc := 0) (j := 1) dX12_givesInteger_0 rfl rfl ?_
  refine Y_ldc2 (pc := 1) dX12_givesInteger_1 w10_25 ?_
  refine Y_lcmp (pc := 4) dX12_givesInteger_4 ?_
  refine Y_if_lt (pc := 5) (tgt := 28) dX12_givesInteger_5 (by decide) (fun hc1 => ?_) (fun hc1 => ?_)
  · replace h := ifT hc1 h
    refine VV.sub [0, 2] rfl ?_
    exact b_X12_givesInteger_28  hP h
  · replace h := ifF hc1 h
    refine Y_lload_n (pc := 8) (j := 1) dX12_givesInteger_8 rfl rfl ?_
    refine Y_ldc2 (pc := 9) dX12_givesInteger_9 w10_26 ?_
    refine Y_lcmp (pc := 12) dX12_givesInteger_12 ?_
    refine Y_if_gt (pc := 13) (tgt := 28) dX12_givesInteger_13 (by decide) (fun hc2 => ?_) (fun hc2 => ?_)
    · replace h := ifT hc2 h
      refine VV.sub [0, 2] rfl ?_
      exact b_X12_givesInteger_28  hP h
    · replace h := ifF hc2 h
      refine Y_aload_n (pc := 16) (j := 0) dX12_givesInteger_16 rfl rfl ?_
      refine Y_bipush (pc := 17) (v := (105 : Int32)) dX12_givesInteger_17 rfl ?_
      refine Y_lload_n (pc := 19) (j := 1) dX12_givesInteger_19 rfl rfl ?_
      refine Y_l2i (pc := 20) dX12_givesInteger_20 ?_
      refine Y_dconst0 (pc := 21) dX12_givesInteger_21 ?_
      obtain ⟨y1, qy1, h⟩ := bindE h
      have cy1 := v_X12_gives hP qy1
      refine C_V3o (pc := 22) (k' := k_X12_gives) dX12_givesInteger_22 w10_17 i_X12_gives (lk_69 hP) ⟨Nat.le_of_ble_eq_true rfl, Nat.le_of_ble_eq_true rfl⟩ rfl (Nat.le_of_ble_eq_true rfl) (Nat.le_of_ble_eq_true rfl) (Nat.le_of_ble_eq_true rfl) (cy1) ?_
      have hPy1 := cy1.1.1
      refine Y_goto (pc := 25) (tgt := 36) dX12_givesInteger_25 (by decide) ?_
      cases h
      exact Y_vret (pc := 36) rfl dX12_givesInteger_36 hPy1 ⟨rfl, rfl⟩
theorem v_X12_givesInteger {x1 : Int64} {x2 : UInt64} {M z} (hP : Lay M) (h : d_X12_givesInteger x1 x2 M = some z) : CC Lay k_X12_givesInteger [.ref 69, .long x1, .double x2] M z.2 (Qv (none) z.2) xF :=
  CC.ofVV (by decide) rfl (Nat.le_of_ble_eq_true rfl) (b_X12_givesInteger hP h)
theorem b_X12_reckons_361 {x1 : Int32} {x4 : UInt64} {x6 : UInt64} {s0 : Int64} {M z} (hP : Lay M) (h : d_X12_reckons_361 x1 x4 x6 s0 M = some z) : VV Lay k_X12_reckons 361 [(0, .ref 69), (1, .int x1), (4, .double x4), (6, .double x6)] [.long s0] M z.2 (Qv (none) z.2) xF := by
  unfold d_X12_reckons_361 at h
  refine Y_lstore (pc := 361) (lv1 := [(13, .long s0), (0, .ref 69), (1, .int x1), (4, .double x4), (6, .double x6)]) dX12_reckons_361 (by decide) rfl ?_
  refine Y_aload_n (pc := 363) (j := 1) dX12_reckons_363 rfl rfl ?_
  refine Y_lload (pc := 364) (j := 0) dX12_reckons_364 rfl ?_
  refine Y_iload_n (pc := 366) (j := 2) dX12_reckons_366 rfl rfl ?_
  refine Y_bipush (pc := 367) (v := (43 : Int32)) dX12_reckons_367 rfl ?_
  refine Y_icmp_ne (pc := 369) (tgt := 380) dX12_reckons_369 (by decide) (fun hc1 => ?_) (fun hc1 => ?_)
  · replace h := ifF hc1 h
    refine Y_iload_n (pc := 380) (j := 2) dX12_reckons_380 rfl rfl ?_
    refine Y_bipush (pc := 381) (v := (45 : Int32)) dX12_reckons_381 rfl ?_
    refine Y_icmp_ne (pc := 383) (tgt := 394) dX12_reckons_383 (by decide) (fun hc2 => ?_) (fun hc2 => ?_)
    · replace h := ifF hc2 h
      refine Y_iload_n (pc := 394) (j := 2) dX12_reckons_394 rfl rfl ?_
      refine Y_bipush (pc := 395) (v := (42 : Int32)) dX12_reckons_395 rfl ?_
      refine Y_icmp_ne (pc := 397) (tgt := 408) dX12_reckons_397 (by decide) (fun hc3 => ?_) (fun hc3 => ?_)
      · replace h := ifF hc3 h
        refine Y_dload (pc := 408) (j := 3) dX12_reckons_408 rfl ?_
        refine Y_dload (pc := 410) (j := 4) dX12_reckons_410 rfl ?_
        refine Y_ddiv (pc := 412) dX12_reckons_412 ?_
        obtain ⟨y1, qy1, h⟩ := bindE h
        have cy1 := v_X12_givesInteger hP qy1
        refine C_V2o (pc := 413) (k' := k_X12_givesInteger) dX12_reckons_413 w10_21 i_X12_givesInteger (lk_69 hP) ⟨Nat.le_of_ble_eq_true rfl, Nat.le_of_ble_eq_true rfl⟩ rfl (Nat.le_of_ble_eq_true rfl) (Nat.le_of_ble_eq_true rfl) (Nat.le_of_ble_eq_true rfl) (cy1) ?_
        have hPy1 := cy1.1.1
        cases h
        exact Y_vret (pc := 416) rfl dX12_reckons_416 hPy1 ⟨rfl, rfl⟩
      · replace h := ifT hc3 h
        refine Y_dload (pc := 400) (j := 3) dX12_reckons_400 rfl ?_
        refine Y_dload (pc := 402) (j := 4) dX12_reckons_402 rfl ?_
        refine Y_dmul (pc := 404) dX12_reckons_404 ?_
        refine Y_goto (pc := 405) (tgt := 413) dX12_reckons_405 (by decide) ?_
        obtain ⟨y2, qy2, h⟩ := bindE h
        have cy2 := v_X12_givesInteger hP qy2
        refine C_V2o (pc := 413) (k' := k_X12_givesInteger) dX12_reckons_413 w10_21 i_X12_givesInteger (lk_69 hP) ⟨Nat.le_of_ble_eq_true rfl, Nat.le_of_ble_eq_true rfl⟩ rfl (Nat.le_of_ble_eq_true rfl) (Nat.le_of_ble_eq_true rfl) (Nat.le_of_ble_eq_true rfl) (cy2) ?_
        have hPy2 := cy2.1.1
        cases h
        exact Y_vret (pc := 416) rfl dX12_reckons_416 hPy2 ⟨rfl, rfl⟩
    · replace h := ifT hc2 h
      refine Y_dload (pc := 386) (j := 3) dX12_reckons_386 rfl ?_
      refine Y_dload (pc := 388) (j := 4) dX12_reckons_388 rfl ?_
      refine Y_dsub (pc := 390) dX12_reckons_390 ?_
      refine Y_goto (pc := 391) (tgt := 413) dX12_reckons_391 (by decide) ?_
      obtain ⟨y3, qy3, h⟩ := bindE h
      have cy3 := v_X12_givesInteger hP qy3
      refine C_V2o (pc := 413) (k' := k_X12_givesInteger) dX12_reckons_413 w10_21 i_X12_givesInteger (lk_69 hP) ⟨Nat.le_of_ble_eq_true rfl, Nat.le_of_ble_eq_true rfl⟩ rfl (Nat.le_of_ble_eq_true rfl) (Nat.le_of_ble_eq_true rfl) (Nat.le_of_ble_eq_true rfl) (cy3) ?_
      have hPy3 := cy3.1.1
      cases h
      exact Y_vret (pc := 416) rfl dX12_reckons_416 hPy3 ⟨rfl, rfl⟩
  · replace h := ifT hc1 h
    refine Y_dload (pc := 372) (j := 3) dX12_reckons_372 rfl ?_
    refine Y_dload (pc := 374) (j := 4) dX12_reckons_374 rfl ?_
    refine Y_dadd (pc := 376) dX12_reckons_376 ?_
    refine Y_goto (pc := 377) (tgt := 413) dX12_reckons_377 (by decide) ?_
    obtain ⟨y4, qy4, h⟩ := bindE h
    have cy4 := v_X12_givesInteger hP qy4
    refine C_V2o (pc := 413) (k' := k_X12_givesInteger) dX12_reckons_413 w10_21 i_X12_givesInteger (lk_69 hP) ⟨Nat.le_of_ble_eq_true rfl, Nat.le_of_ble_eq_true rfl⟩ rfl (Nat.le_of_ble_eq_true rfl) (Nat.le_of_ble_eq_true rfl) (Nat.le_of_ble_eq_true rfl) (cy4) ?_
    have hPy4 := cy4.1.1
    cases h
    exact Y_vret (pc := 416) rfl dX12_reckons_416 hPy4 ⟨rfl, rfl⟩
theorem b_X12_reckons_165 {s0 : Int32} {M z} (hP : Lay M) (h : d_X12_reckons_165 s0 M = some z) : VV Lay k_X12_reckons 165 [(0, .ref 69)] [.int s0] M z.2 (Qv (none) z.2) xF := by
  unfold d_X12_reckons_165 at h
  refine Y_istore (pc := 165) (lv1 := [(14, .int s0), (0, .ref 69)]) dX12_reckons_165 (by decide) rfl ?_
  refine Y_aload_n (pc := 167) (j := 1) dX12_reckons_167 rfl rfl ?_
  refine Y_bipush (pc := 168) (v := (105 : Int32)) dX12_reckons_168 rfl ?_
  refine Y_iload (pc := 170) (j := 0) dX12_reckons_170 rfl ?_
  refine Y_if_eq (pc := 172) (tgt := 179) dX12_reckons_172 (by decide) (fun hc1 => ?_) (fun hc1 => ?_)
  · replace h := ifT hc1 h
    refine Y_iconst (pc := 179) (v := (0 : Int32)) dX12_reckons_179 rfl ?_
    refine Y_dconst0 (pc := 180) dX12_reckons_180 ?_
    obtain ⟨y1, qy1, h⟩ := bindE h
    have cy1 := v_X12_gives hP qy1
    refine C_V3o (pc := 181) (k' := k_X12_gives) dX12_reckons_181 w10_17 i_X12_gives (lk_69 hP) ⟨Nat.le_of_ble_eq_true rfl, Nat.le_of_ble_eq_true rfl⟩ rfl (Nat.le_of_ble_eq_true rfl) (Nat.le_of_ble_eq_true rfl) (Nat.le_of_ble_eq_true rfl) (cy1) ?_
    have hPy1 := cy1.1.1
    refine Y_goto (pc := 184) (tgt := 416) dX12_reckons_184 (by decide) ?_
    cases h
    exact Y_vret (pc := 416) rfl dX12_reckons_416 hPy1 ⟨rfl, rfl⟩
  · replace h := ifF hc1 h
    refine Y_iconst (pc := 175) (v := (1 : Int32)) dX12_reckons_175 rfl ?_
    refine Y_goto (pc := 176) (tgt := 180) dX12_reckons_176 (by decide) ?_
    refine Y_dconst0 (pc := 180) dX12_reckons_180 ?_
    obtain ⟨y2, qy2, h⟩ := bindE h
    have cy2 := v_X12_gives hP qy2
    refine C_V3o (pc := 181) (k' := k_X12_gives) dX12_reckons_181 w10_17 i_X12_gives (lk_69 hP) ⟨Nat.le_of_ble_eq_true rfl, Nat.le_of_ble_eq_true rfl⟩ rfl (Nat.le_of_ble_eq_true rfl) (Nat.le_of_ble_eq_true rfl) (Nat.le_of_ble_eq_true rfl) (cy2) ?_
    have hPy2 := cy2.1.1
    refine Y_goto (pc := 184) (tgt := 416) dX12_reckons_184 (by decide) ?_
    cases h
    exact Y_vret (pc := 416) rfl dX12_reckons_416 hPy2 ⟨rfl, rfl⟩
theorem b_X12_reckons_164 {M z} (hP : Lay M) (h : d_X12_reckons_164 M = some z) : VV Lay k_X12_reckons 164 [(0, .ref 69)] [] M z.2 (Qv (none) z.2) xF := by
  unfold d_X12_reckons_164 at h
  refine Y_iconst (pc := 164) (v := (0 : Int32)) dX12_reckons_164 rfl ?_
  refine VV.sub [0] rfl ?_
  exact b_X12_reckons_165  hP h
theorem b_X12_reckons_160 {M z} (hP : Lay M) (h : d_X12_reckons_160 M = some z) : VV Lay k_X12_reckons 160 [(0, .ref 69)] [] M z.2 (Qv (none) z.2) xF := by
  unfold d_X12_reckons_160 at h
  refine Y_iconst (pc := 160) (v := (1 : Int32)) dX12_reckons_160 rfl ?_
  refine Y_goto (pc := 161) (tgt := 165) dX12_reckons_161 (by decide) ?_
  refine VV.sub [0] rfl ?_
  exact b_X12_reckons_165  hP h
theorem b_X12_reckons_96 {x2 : Int32} {x3 : Int32} {x4 : UInt64} {x6 : UInt64} {s0 : Int32} {M z} (hP : Lay M) (h : d_X12_reckons_96 x2 x3 x4 x6 s0 M = some z) : VV Lay k_X12_reckons 96 [(0, .ref 69), (2, .int x2), (3, .int x3), (4, .double x4), (6, .double x6)] [.int s0] M z.2 (Qv (none) z.2) xF := by
  unfold d_X12_reckons_96 at h
  refine Y_istore (pc := 96) (lv1 := [(13, .int s0), (0, .ref 69), (2, .int x2), (3, .int x3), (4, .double x4), (6, .double x6)]) dX12_reckons_96 (by decide) rfl ?_
  refine Y_iload (pc := 98) (j := 0) dX12_reckons_98 rfl ?_
  refine Y_if_eq (pc := 100) (tgt := 119) dX12_reckons_100 (by decide) (fun hc1 => ?_) (fun hc1 => ?_)
  · replace h := ifT hc1 h
    refine Y_aload_n (pc := 119) (j := 1) dX12_reckons_119 rfl rfl ?_
    refine Z_getr (pc := 120) dX12_reckons_120 w8_110 (lk_69 hP) fr_12_44 (lr_69_44 hP) ?_
    refine Y_iload_n (pc := 123) (j := 2) dX12_reckons_123 rfl rfl ?_
    obtain ⟨hb1, h⟩ := okE h
    refine Y_cald (pc := 124) dX12_reckons_124 (lk_105 hP) (ln_105 hP) hb1 ?_
    refine Y_aload_n (pc := 125) (j := 1) dX12_reckons_125 rfl rfl ?_
    refine Z_getr (pc := 126) dX12_reckons_126 w8_110 (lk_69 hP) fr_12_44 (lr_69_44 hP) ?_
    refine Y_iload_n (pc := 129) (j := 3) dX12_reckons_129 rfl rfl ?_
    obtain ⟨hb2, h⟩ := okE h
    refine Y_cald (pc := 130) dX12_reckons_130 (lk_105 hP) (ln_105 hP) hb2 ?_
    refine Y_icmp_ne (pc := 131) (tgt := 164) dX12_reckons_131 (by decide) (fun hc2 => ?_) (fun hc2 => ?_)
    · replace h := ifF hc2 h
      refine VV.sub [1] rfl ?_
      exact b_X12_reckons_164  hP h
    · replace h := ifT hc2 h
      refine Y_aload_n (pc := 134) (j := 1) dX12_reckons_134 rfl rfl ?_
      refine Z_getr (pc := 135) dX12_reckons_135 w8_110 (lk_69 hP) fr_12_44 (lr_69_44 hP) ?_
      refine Y_iload_n (pc := 138) (j := 2) dX12_reckons_138 rfl rfl ?_
      obtain ⟨hb3, h⟩ := okE h
      refine Y_cald (pc := 139) dX12_reckons_139 (lk_105 hP) (ln_105 hP) hb3 ?_
      refine Y_bipush (pc := 140) (v := (110 : Int32)) dX12_reckons_140 rfl ?_
      refine Y_icmp_eq (pc := 142) (tgt := 160) dX12_reckons_142 (by decide) (fun hc3 => ?_) (fun hc3 => ?_)
      · replace h := ifT hc3 h
        refine VV.sub [1] rfl ?_
        exact b_X12_reckons_160  hP h
      · replace h := ifF hc3 h
        refine Y_aload_n (pc := 145) (j := 1) dX12_reckons_145 rfl rfl ?_
        refine Z_getr (pc := 146) dX12_reckons_146 w8_111 (lk_69 hP) fr_12_45 (lr_69_45 hP) ?_
        refine Y_iload_n (pc := 149) (j := 2) dX12_reckons_149 rfl rfl ?_
        obtain ⟨hb4, h⟩ := okE h
        refine Y_iald (pc := 150) dX12_reckons_150 (lk_106 hP) (ln_106 hP) hb4 ?_
        refine Y_aload_n (pc := 151) (j := 1) dX12_reckons_151 rfl rfl ?_
        refine Z_getr (pc := 152) dX12_reckons_152 w8_111 (lk_69 hP) fr_12_45 (lr_69_45 hP) ?_
        refine Y_iload_n (pc := 155) (j := 3) dX12_reckons_155 rfl rfl ?_
        obtain ⟨hb5, h⟩ := okE h
        refine Y_iald (pc := 156) dX12_reckons_156 (lk_106 hP) (ln_106 hP) hb5 ?_
        refine Y_icmp_ne (pc := 157) (tgt := 164) dX12_reckons_157 (by decide) (fun hc4 => ?_) (fun hc4 => ?_)
        · replace h := ifF hc4 h
          refine VV.sub [1] rfl ?_
          exact b_X12_reckons_164  hP h
        · replace h := ifT hc4 h
          refine VV.sub [1] rfl ?_
          exact b_X12_reckons_160  hP h
  · replace h := ifF hc1 h
    refine Y_dload (pc := 103) (j := 4) dX12_reckons_103 rfl ?_
    refine Y_dload (pc := 105) (j := 5) dX12_reckons_105 rfl ?_
    refine Y_dcmp (pc := 107) dX12_reckons_107 ?_
    refine Y_if_ne (pc := 108) (tgt := 115) dX12_reckons_108 (by decide) (fun hc5 => ?_) (fun hc5 => ?_)
    · replace h := ifF hc5 h
      refine Y_iconst (pc := 115) (v := (0 : Int32)) dX12_reckons_115 rfl ?_
      refine Y_goto (pc := 116) (tgt := 165) dX12_reckons_116 (by decide) ?_
      refine VV.sub [1] rfl ?_
      exact b_X12_reckons_165  hP h
    · replace h := ifT hc5 h
      refine Y_iconst (pc := 111) (v := (1 : Int32)) dX12_reckons_111 rfl ?_
      refine Y_goto (pc := 112) (tgt := 165) dX12_reckons_112 (by decide) ?_
      refine VV.sub [1] rfl ?_
      exact b_X12_reckons_165  hP h
theorem b_X12_reckons_95 {x2 : Int32} {x3 : Int32} {x4 : UInt64} {x6 : UInt64} {M z} (hP : Lay M) (h : d_X12_reckons_95 x2 x3 x4 x6 M = some z) : VV Lay k_X12_reckons 95 [(0, .ref 69), (2, .int x2), (3, .int x3), (4, .double x4), (6, .double x6)] [] M z.2 (Qv (none) z.2) xF := by
  unfold d_X12_reckons_95 at h
  refine Y_iconst (pc := 95) (v := (0 : Int32)) dX12_reckons_95 rfl ?_
  refine VV.sub [0, 1, 2, 3, 4] rfl ?_
  exact b_X12_reckons_96  hP h
set_option maxRecDepth 20000 in
theorem b_X12_reckons_41 {x1 : Int32} {x2 : Int32} {x3 : Int32} {x4 : UInt64} {x6 : UInt64} {s0 : Int32} {M z} (hP : Lay M) (h : d_X12_reckons_41 x1 x2 x3 x4 x6 s0 M = some z) : VV Lay k_X12_reckons 41 [(0, .ref 69), (1, .int x1), (2, .int x2), (3, .int x3), (4, .double x4), (6, .double x6)] [.int s0] M z.2 (Qv (none) z.2) xF := by
  unfold d_X12_reckons_41 at h
  refine Y_istore (pc := 41) (lv1 := [(8, .int s0), (0, .ref 69), (1, .int x1), (2, .int x2), (3, .int x3), (4, .double x4), (6, .double x6)]) dX12_reckons_41 (by decide) rfl ?_
  refine Y_aload_n (pc := 43) (j := 1) dX12_reckons_43 rfl rfl ?_
  refine Z_getr (pc := 44) dX12_reckons_44 w8_111 (lk_69 hP) fr_12_45 (lr_69_45 hP) ?_
  refine Y_iload_n (pc := 47) (j := 3) dX12_reckons_47 rfl rfl ?_
  obtain ⟨hb1, h⟩ := okE h
  refine Y_iald (pc := 48) dX12_reckons_48 (lk_106 hP) (ln_106 hP) hb1 ?_
  refine Y_i2l (pc := 49) dX12_reckons_49 ?_
  obtain ⟨b1, eb1, h⟩ := bndE h
  refine VV.topL eb1 ?_
  refine Y_lstore (pc := 50) (lv1 := [(9, .long b1), (8, .int s0), (0, .ref 69), (1, .int x1), (2, .int x2), (3, .int x3), (4, .double x4), (6, .double x6)]) dX12_reckons_50 (by decide) rfl ?_
  refine Y_aload_n (pc := 52) (j := 2) dX12_reckons_52 rfl rfl ?_
  refine Z_getr (pc := 53) dX12_reckons_53 w8_111 (lk_69 hP) fr_12_45 (lr_69_45 hP) ?_
  refine Y_iload_n (pc := 56) (j := 5) dX12_reckons_56 rfl rfl ?_
  obtain ⟨hb2, h⟩ := okE h
  refine Y_iald (pc := 57) dX12_reckons_57 (lk_106 hP) (ln_106 hP) hb2 ?_
  refine Y_i2l (pc := 58) dX12_reckons_58 ?_
  obtain ⟨b2, eb2, h⟩ := bndE h
  refine VV.topL eb2 ?_
  refine Y_lstore (pc := 59) (lv1 := [(11, .long b2), (9, .long b1), (8, .int s0), (0, .ref 69), (1, .int x1), (2, .int x2), (3, .int x3), (4, .double x4), (6, .double x6)]) dX12_reckons_59 (by decide) rfl ?_
  refine Y_iload_n (pc := 61) (j := 4) dX12_reckons_61 rfl rfl ?_
  refine Y_bipush (pc := 62) (v := (61 : Int32)) dX12_reckons_62 rfl ?_
  refine Y_icmp_ne (pc := 64) (tgt := 187) dX12_reckons_64 (by decide) (fun hc1 => ?_) (fun hc1 => ?_)
  · replace h := ifF hc1 h
    refine Y_iload_n (pc := 187) (j := 4) dX12_reckons_187 rfl rfl ?_
    refine Y_bipush (pc := 188) (v := (60 : Int32)) dX12_reckons_188 rfl ?_
    refine Y_icmp_ne (pc := 190) (tgt := 216) dX12_reckons_190 (by decide) (fun hc2 => ?_) (fun hc2 => ?_)
    · replace h := ifF hc2 h
      refine Y_iload (pc := 216) (j := 2) dX12_reckons_216 rfl ?_
      refine Y_if_ne (pc := 218) (tgt := 292) dX12_reckons_218 (by decide) (fun hc3 => ?_) (fun hc3 => ?_)
      · replace h := ifF hc3 h
        refine Y_iload_n (pc := 292) (j := 4) dX12_reckons_292 rfl rfl ?_
        refine Y_bipush (pc := 293) (v := (37 : Int32)) dX12_reckons_293 rfl ?_
        refine Y_icmp_ne (pc := 295) (tgt := 314) dX12_reckons_295 (by decide) (fun hc4 => ?_) (fun hc4 => ?_)
        · replace h := ifF hc4 h
          refine Y_iload_n (pc := 314) (j := 4) dX12_reckons_314 rfl rfl ?_
          refine Y_bipush (pc := 315) (v := (43 : Int32)) dX12_reckons_315 rfl ?_
          refine Y_icmp_ne (pc := 317) (tgt := 328) dX12_reckons_317 (by decide) (fun hc5 => ?_) (fun hc5 => ?_)
          · replace h := ifF hc5 h
            refine Y_iload_n (pc := 328) (j := 4) dX12_reckons_328 rfl rfl ?_
            refine Y_bipush (pc := 329) (v := (45 : Int32)) dX12_reckons_329 rfl ?_
            refine Y_icmp_ne (pc := 331) (tgt := 342) dX12_reckons_331 (by decide) (fun hc6 => ?_) (fun hc6 => ?_)
            · replace h := ifF hc6 h
              refine Y_iload_n (pc := 342) (j := 4) dX12_reckons_342 rfl rfl ?_
              refine Y_bipush (pc := 343) (v := (42 : Int32)) dX12_reckons_343 rfl ?_
              refine Y_icmp_ne (pc := 345) (tgt := 356) dX12_reckons_345 (by decide) (fun hc7 => ?_) (fun hc7 => ?_)
              · replace h := ifF hc7 h
                refine Y_lload (pc := 356) (j := 1) dX12_reckons_356 rfl ?_
                refine Y_lload (pc := 358) (j := 0) dX12_reckons_358 rfl ?_
                obtain ⟨hb3, h⟩ := okE h
                refine Y_ldiv (pc := 360) dX12_reckons_360 hb3 ?_
                refine VV.sub [3, 4, 7, 8] rfl ?_
                exact b_X12_reckons_361  hP h
              · replace h := ifT hc7 h
                refine Y_lload (pc := 348) (j := 1) dX12_reckons_348 rfl ?_
                refine Y_lload (pc := 350) (j := 0) dX12_reckons_350 rfl ?_
                refine Y_lmul (pc := 352) dX12_reckons_352 ?_
                refine Y_goto (pc := 353) (tgt := 361) dX12_reckons_353 (by decide) ?_
                refine VV.sub [3, 4, 7, 8] rfl ?_
                exact b_X12_reckons_361  hP h
            · replace h := ifT hc6 h
              refine Y_lload (pc := 334) (j := 1) dX12_reckons_334 rfl ?_
              refine Y_lload (pc := 336) (j := 0) dX12_reckons_336 rfl ?_
              refine Y_lsub (pc := 338) dX12_reckons_338 ?_
              refine Y_goto (pc := 339) (tgt := 361) dX12_reckons_339 (by decide) ?_
              refine VV.sub [3, 4, 7, 8] rfl ?_
              exact b_X12_reckons_361  hP h
          · replace h := ifT hc5 h
            refine Y_lload (pc := 320) (j := 1) dX12_reckons_320 rfl ?_
            refine Y_lload (pc := 322) (j := 0) dX12_reckons_322 rfl ?_
            refine Y_ladd (pc := 324) dX12_reckons_324 ?_
            refine Y_goto (pc := 325) (tgt := 361) dX12_reckons_325 (by decide) ?_
            refine VV.sub [3, 4, 7, 8] rfl ?_
            exact b_X12_reckons_361  hP h
        · replace h := ifT hc4 h
          refine Y_aload_n (pc := 298) (j := 3) dX12_reckons_298 rfl rfl ?_
          refine Y_bipush (pc := 299) (v := (105 : Int32)) dX12_reckons_299 rfl ?_
          refine Y_lload (pc := 301) (j := 1) dX12_reckons_301 rfl ?_
          refine Y_lload (pc := 303) (j := 0) dX12_reckons_303 rfl ?_
          obtain ⟨hb4, h⟩ := okE h
          refine Y_lrem (pc := 305) dX12_reckons_305 hb4 ?_
          refine Y_l2i (pc := 306) dX12_reckons_306 ?_
          refine Y_dconst0 (pc := 307) dX12_reckons_307 ?_
          obtain ⟨y1, qy1, h⟩ := bindE h
          have cy1 := v_X12_gives hP qy1
          refine C_V3o (pc := 308) (k' := k_X12_gives) dX12_reckons_308 w10_17 i_X12_gives (lk_69 hP) ⟨Nat.le_of_ble_eq_true rfl, Nat.le_of_ble_eq_true rfl⟩ rfl (Nat.le_of_ble_eq_true rfl) (Nat.le_of_ble_eq_true rfl) (Nat.le_of_ble_eq_true rfl) (cy1) ?_
          have hPy1 := cy1.1.1
          refine Y_goto (pc := 311) (tgt := 416) dX12_reckons_311 (by decide) ?_
          cases h
          exact Y_vret (pc := 416) rfl dX12_reckons_416 hPy1 ⟨rfl, rfl⟩
      · replace h := ifT hc3 h
        refine Y_aload_n (pc := 221) (j := 3) dX12_reckons_221 rfl rfl ?_
        refine Y_bipush (pc := 222) (v := (102 : Int32)) dX12_reckons_222 rfl ?_
        refine Y_iconst (pc := 224) (v := (0 : Int32)) dX12_reckons_224 rfl ?_
        refine Y_iload_n (pc := 225) (j := 4) dX12_reckons_225 rfl rfl ?_
        refine Y_bipush (pc := 226) (v := (43 : Int32)) dX12_reckons_226 rfl ?_
        refine Y_icmp_ne (pc := 228) (tgt := 239) dX12_reckons_228 (by decide) (fun hc8 => ?_) (fun hc8 => ?_)
        · replace h := ifF hc8 h
          refine Y_iload_n (pc := 239) (j := 4) dX12_reckons_239 rfl rfl ?_
          refine Y_bipush (pc := 240) (v := (45 : Int32)) dX12_reckons_240 rfl ?_
          refine Y_icmp_ne (pc := 242) (tgt := 253) dX12_reckons_242 (by decide) (fun hc9 => ?_) (fun hc9 => ?_)
          · replace h := ifF hc9 h
            refine Y_iload_n (pc := 253) (j := 4) dX12_reckons_253 rfl rfl ?_
            refine Y_bipush (pc := 254) (v := (42 : Int32)) dX12_reckons_254 rfl ?_
            refine Y_icmp_ne (pc := 256) (tgt := 267) dX12_reckons_256 (by decide) (fun hc10 => ?_) (fun hc10 => ?_)
            · replace h := ifF hc10 h
              refine Y_iload_n (pc := 267) (j := 4) dX12_reckons_267 rfl rfl ?_
              refine Y_bipush (pc := 268) (v := (47 : Int32)) dX12_reckons_268 rfl ?_
              refine Y_icmp_ne (pc := 270) (tgt := 281) dX12_reckons_270 (by decide) (fun hc11 => ?_) (fun hc11 => ?_)
              · replace h := ifF hc11 h
                refine Y_dload (pc := 281) (j := 7) dX12_reckons_281 rfl ?_
                refine Y_dload (pc := 283) (j := 8) dX12_reckons_283 rfl ?_
                refine Y_drem (pc := 285) dX12_reckons_285 ?_
                obtain ⟨y2, qy2, h⟩ := bindE h
                have cy2 := v_X12_gives hP qy2
                refine C_V3o (pc := 286) (k' := k_X12_gives) dX12_reckons_286 w10_17 i_X12_gives (lk_69 hP) ⟨Nat.le_of_ble_eq_true rfl, Nat.le_of_ble_eq_true rfl⟩ rfl (Nat.le_of_ble_eq_true rfl) (Nat.le_of_ble_eq_true rfl) (Nat.le_of_ble_eq_true rfl) (cy2) ?_
                have hPy2 := cy2.1.1
                refine Y_goto (pc := 289) (tgt := 416) dX12_reckons_289 (by decide) ?_
                cases h
                exact Y_vret (pc := 416) rfl dX12_reckons_416 hPy2 ⟨rfl, rfl⟩
              · replace h := ifT hc11 h
                refine Y_dload (pc := 273) (j := 7) dX12_reckons_273 rfl ?_
                refine Y_dload (pc := 275) (j := 8) dX12_reckons_275 rfl ?_
                refine Y_ddiv (pc := 277) dX12_reckons_277 ?_
                refine Y_goto (pc := 278) (tgt := 286) dX12_reckons_278 (by decide) ?_
                obtain ⟨y3, qy3, h⟩ := bindE h
                have cy3 := v_X12_gives hP qy3
                refine C_V3o (pc := 286) (k' := k_X12_gives) dX12_reckons_286 w10_17 i_X12_gives (lk_69 hP) ⟨Nat.le_of_ble_eq_true rfl, Nat.le_of_ble_eq_true rfl⟩ rfl (Nat.le_of_ble_eq_true rfl) (Nat.le_of_ble_eq_true rfl) (Nat.le_of_ble_eq_true rfl) (cy3) ?_
                have hPy3 := cy3.1.1
                refine Y_goto (pc := 289) (tgt := 416) dX12_reckons_289 (by decide) ?_
                cases h
                exact Y_vret (pc := 416) rfl dX12_reckons_416 hPy3 ⟨rfl, rfl⟩
            · replace h := ifT hc10 h
              refine Y_dload (pc := 259) (j := 7) dX12_reckons_259 rfl ?_
              refine Y_dload (pc := 261) (j := 8) dX12_reckons_261 rfl ?_
              refine Y_dmul (pc := 263) dX12_reckons_263 ?_
              refine Y_goto (pc := 264) (tgt := 286) dX12_reckons_264 (by decide) ?_
              obtain ⟨y4, qy4, h⟩ := bindE h
              have cy4 := v_X12_gives hP qy4
              refine C_V3o (pc := 286) (k' := k_X12_gives) dX12_reckons_286 w10_17 i_X12_gives (lk_69 hP) ⟨Nat.le_of_ble_eq_true rfl, Nat.le_of_ble_eq_true rfl⟩ rfl (Nat.le_of_ble_eq_true rfl) (Nat.le_of_ble_eq_true rfl) (Nat.le_of_ble_eq_true rfl) (cy4) ?_
              have hPy4 := cy4.1.1
              refine Y_goto (pc := 289) (tgt := 416) dX12_reckons_289 (by decide) ?_
              cases h
              exact Y_vret (pc := 416) rfl dX12_reckons_416 hPy4 ⟨rfl, rfl⟩
          · replace h := ifT hc9 h
            refine Y_dload (pc := 245) (j := 7) dX12_reckons_245 rfl ?_
            refine Y_dload (pc := 247) (j := 8) dX12_reckons_247 rfl ?_
            refine Y_dsub (pc := 249) dX12_reckons_249 ?_
            refine Y_goto (pc := 250) (tgt := 286) dX12_reckons_250 (by decide) ?_
            obtain ⟨y5, qy5, h⟩ := bindE h
            have cy5 := v_X12_gives hP qy5
            refine C_V3o (pc := 286) (k' := k_X12_gives) dX12_reckons_286 w10_17 i_X12_gives (lk_69 hP) ⟨Nat.le_of_ble_eq_true rfl, Nat.le_of_ble_eq_true rfl⟩ rfl (Nat.le_of_ble_eq_true rfl) (Nat.le_of_ble_eq_true rfl) (Nat.le_of_ble_eq_true rfl) (cy5) ?_
            have hPy5 := cy5.1.1
            refine Y_goto (pc := 289) (tgt := 416) dX12_reckons_289 (by decide) ?_
            cases h
            exact Y_vret (pc := 416) rfl dX12_reckons_416 hPy5 ⟨rfl, rfl⟩
        · replace h := ifT hc8 h
          refine Y_dload (pc := 231) (j := 7) dX12_reckons_231 rfl ?_
          refine Y_dload (pc := 233) (j := 8) dX12_reckons_233 rfl ?_
          refine Y_dadd (pc := 235) dX12_reckons_235 ?_
          refine Y_goto (pc := 236) (tgt := 286) dX12_reckons_236 (by decide) ?_
          obtain ⟨y6, qy6, h⟩ := bindE h
          have cy6 := v_X12_gives hP qy6
          refine C_V3o (pc := 286) (k' := k_X12_gives) dX12_reckons_286 w10_17 i_X12_gives (lk_69 hP) ⟨Nat.le_of_ble_eq_true rfl, Nat.le_of_ble_eq_true rfl⟩ rfl (Nat.le_of_ble_eq_true rfl) (Nat.le_of_ble_eq_true rfl) (Nat.le_of_ble_eq_true rfl) (cy6) ?_
          have hPy6 := cy6.1.1
          refine Y_goto (pc := 289) (tgt := 416) dX12_reckons_289 (by decide) ?_
          cases h
          exact Y_vret (pc := 416) rfl dX12_reckons_416 hPy6 ⟨rfl, rfl⟩
    · replace h := ifT hc2 h
      refine Y_aload_n (pc := 193) (j := 3) dX12_reckons_193 rfl rfl ?_
      refine Y_bipush (pc := 194) (v := (105 : Int32)) dX12_reckons_194 rfl ?_
      refine Y_dload (pc := 196) (j := 7) dX12_reckons_196 rfl ?_
      refine Y_dload (pc := 198) (j := 8) dX12_reckons_198 rfl ?_
      refine Y_dcmp (pc := 200) dX12_reckons_200 ?_
      refine Y_if_ge (pc := 201) (tgt := 208) dX12_reckons_201 (by decide) (fun hc12 => ?_) (fun hc12 => ?_)
      · replace h := ifT hc12 h
        refine Y_iconst (pc := 208) (v := (0 : Int32)) dX12_reckons_208 rfl ?_
        refine Y_dconst0 (pc := 209) dX12_reckons_209 ?_
        obtain ⟨y7, qy7, h⟩ := bindE h
        have cy7 := v_X12_gives hP qy7
        refine C_V3o (pc := 210) (k' := k_X12_gives) dX12_reckons_210 w10_17 i_X12_gives (lk_69 hP) ⟨Nat.le_of_ble_eq_true rfl, Nat.le_of_ble_eq_true rfl⟩ rfl (Nat.le_of_ble_eq_true rfl) (Nat.le_of_ble_eq_true rfl) (Nat.le_of_ble_eq_true rfl) (cy7) ?_
        have hPy7 := cy7.1.1
        refine Y_goto (pc := 213) (tgt := 416) dX12_reckons_213 (by decide) ?_
        cases h
        exact Y_vret (pc := 416) rfl dX12_reckons_416 hPy7 ⟨rfl, rfl⟩
      · replace h := ifF hc12 h
        refine Y_iconst (pc := 204) (v := (1 : Int32)) dX12_reckons_204 rfl ?_
        refine Y_goto (pc := 205) (tgt := 209) dX12_reckons_205 (by decide) ?_
        refine Y_dconst0 (pc := 209) dX12_reckons_209 ?_
        obtain ⟨y8, qy8, h⟩ := bindE h
        have cy8 := v_X12_gives hP qy8
        refine C_V3o (pc := 210) (k' := k_X12_gives) dX12_reckons_210 w10_17 i_X12_gives (lk_69 hP) ⟨Nat.le_of_ble_eq_true rfl, Nat.le_of_ble_eq_true rfl⟩ rfl (Nat.le_of_ble_eq_true rfl) (Nat.le_of_ble_eq_true rfl) (Nat.le_of_ble_eq_true rfl) (cy8) ?_
        have hPy8 := cy8.1.1
        refine Y_goto (pc := 213) (tgt := 416) dX12_reckons_213 (by decide) ?_
        cases h
        exact Y_vret (pc := 416) rfl dX12_reckons_416 hPy8 ⟨rfl, rfl⟩
  · replace h := ifT hc1 h
    refine Y_aload_n (pc := 67) (j := 3) dX12_reckons_67 rfl rfl ?_
    refine Z_getr (pc := 68) dX12_reckons_68 w8_110 (lk_69 hP) fr_12_44 (lr_69_44 hP) ?_
    refine Y_iload_n (pc := 71) (j := 5) dX12_reckons_71 rfl rfl ?_
    obtain ⟨hb5, h⟩ := okE h
    refine Y_cald (pc := 72) dX12_reckons_72 (lk_105 hP) (ln_105 hP) hb5 ?_
    obtain ⟨y9, qy9, h⟩ := bindE h
    have cy9 := v_X12_isNumber hP qy9
    refine C_S1r (pc := 73) (k' := k_X12_isNumber) dX12_reckons_73 w9_204 i_X12_isNumber (Nat.le_of_ble_eq_true rfl) (Nat.le_of_ble_eq_true rfl) (Nat.le_of_ble_eq_true rfl) (cy9) ?_
    have hPy9 := cy9.1.1
    refine Y_if_eq (pc := 76) (tgt := 95) dX12_reckons_76 (by decide) (fun hc13 => ?_) (fun hc13 => ?_)
    · replace h := ifT hc13 h
      refine VV.sub [3, 5, 6, 7, 8] rfl ?_
      exact b_X12_reckons_95  hPy9 h
    · replace h := ifF hc13 h
      refine Y_aload_n (pc := 79) (j := 3) dX12_reckons_79 rfl rfl ?_
      refine Z_getr (pc := 80) dX12_reckons_80 w8_110 (lk_69 hPy9) fr_12_44 (lr_69_44 hPy9) ?_
      refine Y_iload_n (pc := 83) (j := 6) dX12_reckons_83 rfl rfl ?_
      obtain ⟨hb6, h⟩ := okE h
      refine Y_cald (pc := 84) dX12_reckons_84 (lk_105 hPy9) (ln_105 hPy9) hb6 ?_
      obtain ⟨y10, qy10, h⟩ := bindE h
      have cy10 := v_X12_isNumber hPy9 qy10
      refine C_S1r (pc := 85) (k' := k_X12_isNumber) dX12_reckons_85 w9_204 i_X12_isNumber (Nat.le_of_ble_eq_true rfl) (Nat.le_of_ble_eq_true rfl) (Nat.le_of_ble_eq_true rfl) (cy10) ?_
      have hPy10 := cy10.1.1
      refine Y_if_eq (pc := 88) (tgt := 95) dX12_reckons_88 (by decide) (fun hc14 => ?_) (fun hc14 => ?_)
      · replace h := ifT hc14 h
        refine VV.sub [3, 5, 6, 7, 8] rfl ?_
        exact b_X12_reckons_95  hPy10 h
      · replace h := ifF hc14 h
        refine Y_iconst (pc := 91) (v := (1 : Int32)) dX12_reckons_91 rfl ?_
        refine Y_goto (pc := 92) (tgt := 96) dX12_reckons_92 (by decide) ?_
        refine VV.sub [3, 5, 6, 7, 8] rfl ?_
        exact b_X12_reckons_96  hPy10 h
theorem b_X12_reckons_40 {x1 : Int32} {x2 : Int32} {x3 : Int32} {x4 : UInt64} {x6 : UInt64} {M z} (hP : Lay M) (h : d_X12_reckons_40 x1 x2 x3 x4 x6 M = some z) : VV Lay k_X12_reckons 40 [(0, .ref 69), (1, .int x1), (2, .int x2), (3, .int x3), (4, .double x4), (6, .double x6)] [] M z.2 (Qv (none) z.2) xF := by
  unfold d_X12_reckons_40 at h
  refine Y_iconst (pc := 40) (v := (0 : Int32)) dX12_reckons_40 rfl ?_
  refine VV.sub [0, 1, 2, 3, 4, 5] rfl ?_
  exact b_X12_reckons_41  hP h
theorem b_X12_reckons {x1 : Int32} {x2 : Int32} {x3 : Int32} {M z} (hP : Lay M) (h : d_X12_reckons x1 x2 x3 M = some z) : VV Lay k_X12_reckons 0 [(0, .ref 69), (1, .int x1), (2, .int x2), (3, .int x3)] [] M z.2 (Qv (none) z.2) xF := by
  unfold d_X12_reckons at h
  refine Y_aload_n (pc := 0) (j := 0) dX12_reckons_0 rfl rfl ?_
  refine Y_iload_n (pc := 1) (j := 2) dX12_reckons_1 rfl rfl ?_
  obtain ⟨y1, qy1, h⟩ := bindE h
  have cy1 := v_X12_asFloat hP qy1
  refine C_V1r (pc := 2) (k' := k_X12_asFloat) dX12_reckons_2 w10_13 i_X12_asFloat (lk_69 hP) ⟨Nat.le_of_ble_eq_true rfl, Nat.le_of_ble_eq_true rfl⟩ rfl (Nat.le_of_ble_eq_true rfl) (Nat.le_of_ble_eq_true rfl) (Nat.le_of_ble_eq_true rfl) (cy1) ?_
  have hPy1 := cy1.1.1
  refine Y_dstore (pc := 5) (lv1 := [(4, .double y1.1), (0, .ref 69), (1, .int x1), (2, .int x2), (3, .int x3)]) dX12_reckons_5 (by decide) rfl ?_
  refine Y_aload_n (pc := 7) (j := 1) dX12_reckons_7 rfl rfl ?_
  refine Y_iload_n (pc := 8) (j := 4) dX12_reckons_8 rfl rfl ?_
  obtain ⟨y2, qy2, h⟩ := bindE h
  have cy2 := v_X12_asFloat hPy1 qy2
  refine C_V1r (pc := 9) (k' := k_X12_asFloat) dX12_reckons_9 w10_13 i_X12_asFloat (lk_69 hPy1) ⟨Nat.le_of_ble_eq_true rfl, Nat.le_of_ble_eq_true rfl⟩ rfl (Nat.le_of_ble_eq_true rfl) (Nat.le_of_ble_eq_true rfl) (Nat.le_of_ble_eq_true rfl) (cy2) ?_
  have hPy2 := cy2.1.1
  refine Y_dstore (pc := 12) (lv1 := [(6, .double y2.1), (4, .double y1.1), (0, .ref 69), (1, .int x1), (2, .int x2), (3, .int x3)]) dX12_reckons_12 (by decide) rfl ?_
  refine Y_aload_n (pc := 14) (j := 2) dX12_reckons_14 rfl rfl ?_
  refine Z_getr (pc := 15) dX12_reckons_15 w8_110 (lk_69 hPy2) fr_12_44 (lr_69_44 hPy2) ?_
  refine Y_iload_n (pc := 18) (j := 4) dX12_reckons_18 rfl rfl ?_
  obtain ⟨hb1, h⟩ := okE h
  refine Y_cald (pc := 19) dX12_reckons_19 (lk_105 hPy2) (ln_105 hPy2) hb1 ?_
  refine Y_bipush (pc := 20) (v := (105 : Int32)) dX12_reckons_20 rfl ?_
  refine Y_icmp_ne (pc := 22) (tgt := 40) dX12_reckons_22 (by decide) (fun hc1 => ?_) (fun hc1 => ?_)
  · replace h := ifF hc1 h
    refine VV.sub [2, 3, 4, 5, 1, 0] rfl ?_
    exact b_X12_reckons_40  hPy2 h
  · replace h := ifT hc1 h
    refine Y_aload_n (pc := 25) (j := 2) dX12_reckons_25 rfl rfl ?_
    refine Z_getr (pc := 26) dX12_reckons_26 w8_110 (lk_69 hPy2) fr_12_44 (lr_69_44 hPy2) ?_
    refine Y_iload_n (pc := 29) (j := 5) dX12_reckons_29 rfl rfl ?_
    obtain ⟨hb2, h⟩ := okE h
    refine Y_cald (pc := 30) dX12_reckons_30 (lk_105 hPy2) (ln_105 hPy2) hb2 ?_
    refine Y_bipush (pc := 31) (v := (105 : Int32)) dX12_reckons_31 rfl ?_
    refine Y_icmp_ne (pc := 33) (tgt := 40) dX12_reckons_33 (by decide) (fun hc2 => ?_) (fun hc2 => ?_)
    · replace h := ifF hc2 h
      refine VV.sub [2, 3, 4, 5, 1, 0] rfl ?_
      exact b_X12_reckons_40  hPy2 h
    · replace h := ifT hc2 h
      refine Y_iconst (pc := 36) (v := (1 : Int32)) dX12_reckons_36 rfl ?_
      refine Y_goto (pc := 37) (tgt := 41) dX12_reckons_37 (by decide) ?_
      refine VV.sub [2, 3, 4, 5, 1, 0] rfl ?_
      exact b_X12_reckons_41  hPy2 h
theorem v_X12_reckons {x1 : Int32} {x2 : Int32} {x3 : Int32} {M z} (hP : Lay M) (h : d_X12_reckons x1 x2 x3 M = some z) : CC Lay k_X12_reckons [.ref 69, .int x1, .int x2, .int x3] M z.2 (Qv (none) z.2) xF :=
  CC.ofVV (by decide) rfl (Nat.le_of_ble_eq_true rfl) (b_X12_reckons hP h)
theorem b_X12_newValue {M z} (hP : Lay M) (h : d_X12_newValue M = some z) : VV Lay k_X12_newValue 0 [(0, .ref 69)] [] M z.2 (Qv (some (.int z.1)) z.2) xF := by
  unfold d_X12_newValue at h
  refine Y_aload_n (pc := 0) (j := 0) dX12_newValue_0 rfl rfl ?_
  refine Z_getr (pc := 1) dX12_newValue_1 w8_150 (lk_69 hP) fr_12_84 (lr_69_84 hP) ?_
  refine Y_aload_n (pc := 4) (j := 0) dX12_newValue_4 rfl rfl ?_
  refine Z_geti (pc := 5) dX12_newValue_5 w8_149 (lk_69 hP) fi_12_83 ?_
  refine Y_iconst (pc := 8) (v := (0 : Int32)) dX12_newValue_8 rfl ?_
  obtain ⟨hb1, h⟩ := okE h
  refine Y_cast (pc := 9) dX12_newValue_9 (lk_123 hP) (ln_123 hP) hb1 (nar_ch (by decide)) ?_
  obtain ⟨M1, eM1, h⟩ := bndE h
  refine VV.mem eM1 ?_
  have hP1 := hP.wI eM1
  refine Y_aload_n (pc := 10) (j := 0) dX12_newValue_10 rfl rfl ?_
  refine Z_getr (pc := 11) dX12_newValue_11 w8_151 (lk_69 hP1) fr_12_85 (lr_69_85 hP1) ?_
  refine Y_aload_n (pc := 14) (j := 0) dX12_newValue_14 rfl rfl ?_
  refine Z_geti (pc := 15) dX12_newValue_15 w8_149 (lk_69 hP1) fi_12_83 ?_
  refine Y_iconst (pc := 18) (v := (0 : Int32)) dX12_newValue_18 rfl ?_
  obtain ⟨hb2, h⟩ := okE h
  refine Y_zast (pc := 19) dX12_newValue_19 (lk_124 hP1) (ln_124 hP1) hb2 (nar_bo (by decide)) ?_
  obtain ⟨M2, eM2, h⟩ := bndE h
  refine VV.mem eM2 ?_
  have hP2 := hP1.wI eM2
  refine Y_aload_n (pc := 20) (j := 0) dX12_newValue_20 rfl rfl ?_
  refine Z_getr (pc := 21) dX12_newValue_21 w8_152 (lk_69 hP2) fr_12_86 (lr_69_86 hP2) ?_
  refine Y_aload_n (pc := 24) (j := 0) dX12_newValue_24 rfl rfl ?_
  refine Z_geti (pc := 25) dX12_newValue_25 w8_149 (lk_69 hP2) fi_12_83 ?_
  refine Y_iconst (pc := 28) (v := (-1 : Int32)) dX12_newValue_28 rfl ?_
  obtain ⟨hb3, h⟩ := okE h
  refine Y_iast (pc := 29) dX12_newValue_29 (lk_125 hP2) (ln_125 hP2) hb3 ?_
  obtain ⟨M3, eM3, h⟩ := bndE h
  refine VV.mem eM3 ?_
  have hP3 := hP2.wI eM3
  refine Y_aload_n (pc := 30) (j := 0) dX12_newValue_30 rfl rfl ?_
  refine Z_getr (pc := 31) dX12_newValue_31 w8_153 (lk_69 hP3) fr_12_87 (lr_69_87 hP3) ?_
  refine Y_aload_n (pc := 34) (j := 0) dX12_newValue_34 rfl rfl ?_
  refine Z_geti (pc := 35) dX12_newValue_35 w8_149 (lk_69 hP3) fi_12_83 ?_
  refine Y_iconst (pc := 38) (v := (0 : Int32)) dX12_newValue_38 rfl ?_
  obtain ⟨hb4, h⟩ := okE h
  refine Y_iast (pc := 39) dX12_newValue_39 (lk_126 hP3) (ln_126 hP3) hb4 ?_
  obtain ⟨M4, eM4, h⟩ := bndE h
  refine VV.mem eM4 ?_
  have hP4 := hP3.wI eM4
  refine Y_aload_n (pc := 40) (j := 0) dX12_newValue_40 rfl rfl ?_
  refine Y_dup (pc := 41) dX12_newValue_41 rfl ?_
  refine Z_geti (pc := 42) dX12_newValue_42 w8_149 (lk_69 hP4) fi_12_83 ?_
  refine Y_iconst (pc := 45) (v := (1 : Int32)) dX12_newValue_45 rfl ?_
  refine Y_iadd (pc := 46) dX12_newValue_46 ?_
  refine Z_puti (pc := 47) dX12_newValue_47 w8_149 (lk_69 hP4) fi_12_83 (Or.inl rfl) rfl ?_
  obtain ⟨M5, eM5, h⟩ := bndE h
  refine VV.mem eM5 ?_
  have hP5 := hP4.wI eM5
  refine Y_aload_n (pc := 50) (j := 0) dX12_newValue_50 rfl rfl ?_
  refine Z_geti (pc := 51) dX12_newValue_51 w8_149 (lk_69 hP5) fi_12_83 ?_
  refine Y_iconst (pc := 54) (v := (1 : Int32)) dX12_newValue_54 rfl ?_
  refine Y_isub (pc := 55) dX12_newValue_55 ?_
  cases h
  exact Y_iret (pc := 56) rfl rfl dX12_newValue_56 hP5 ⟨rfl, rfl⟩
theorem v_X12_newValue {M z} (hP : Lay M) (h : d_X12_newValue M = some z) : CC Lay k_X12_newValue [.ref 69] M z.2 (Qv (some (.int z.1)) z.2) xF :=
  CC.ofVV (by decide) rfl (Nat.le_of_ble_eq_true rfl) (b_X12_newValue hP h)
theorem b_X12_valueOf {x1 : Int32} {M z} (hP : Lay M) (h : d_X12_valueOf x1 M = some z) : VV Lay k_X12_valueOf 0 [(0, .ref 69), (1, .int x1)] [] M z.2 (Qv (some (.int z.1)) z.2) xF := by
  unfold d_X12_valueOf at h
  refine Y_aload_n (pc := 0) (j := 0) dX12_valueOf_0 rfl rfl ?_
  obtain ⟨y1, qy1, h⟩ := bindE h
  have cy1 := v_X12_newValue hP qy1
  refine C_V0r (pc := 1) (k' := k_X12_newValue) dX12_valueOf_1 w10_35 i_X12_newValue (lk_69 hP) ⟨Nat.le_of_ble_eq_true rfl, Nat.le_of_ble_eq_true rfl⟩ rfl (Nat.le_of_ble_eq_true rfl) (Nat.le_of_ble_eq_true rfl) (Nat.le_of_ble_eq_true rfl) (cy1) ?_
  have hPy1 := cy1.1.1
  refine Y_istore_n (pc := 4) (lv1 := [(2, .int y1.1), (0, .ref 69), (1, .int x1)]) dX12_valueOf_4 rfl (by decide) rfl ?_
  refine Y_aload_n (pc := 5) (j := 1) dX12_valueOf_5 rfl rfl ?_
  refine Z_getr (pc := 6) dX12_valueOf_6 w8_150 (lk_69 hPy1) fr_12_84 (lr_69_84 hPy1) ?_
  refine Y_iload_n (pc := 9) (j := 0) dX12_valueOf_9 rfl rfl ?_
  refine Y_iload_n (pc := 10) (j := 2) dX12_valueOf_10 rfl rfl ?_
  obtain ⟨hb1, h⟩ := okE h
  obtain ⟨hb2, h⟩ := okE h
  refine Y_cast (pc := 11) dX12_valueOf_11 (lk_123 hPy1) (ln_123 hPy1) hb1 (nar_ch hb2) ?_
  obtain ⟨M1, eM1, h⟩ := bndE h
  refine VV.mem eM1 ?_
  have hP1 := hPy1.wI eM1
  refine Y_iload_n (pc := 12) (j := 0) dX12_valueOf_12 rfl rfl ?_
  cases h
  exact Y_iret (pc := 13) rfl rfl dX12_valueOf_13 hP1 ⟨rfl, rfl⟩
theorem v_X12_valueOf {x1 : Int32} {M z} (hP : Lay M) (h : d_X12_valueOf x1 M = some z) : CC Lay k_X12_valueOf [.ref 69, .int x1] M z.2 (Qv (some (.int z.1)) z.2) xF :=
  CC.ofVV (by decide) rfl (Nat.le_of_ble_eq_true rfl) (b_X12_valueOf hP h)
theorem b_X12_isKindKnown {x1 : Int32} {M z} (hP : Lay M) (h : d_X12_isKindKnown x1 M = some z) : VV Lay k_X12_isKindKnown 0 [(0, .ref 69), (1, .int x1)] [] M z.2 (Qv (some (.int z.1)) z.2) xF := by
  unfold d_X12_isKindKnown at h
  refine Y_aload_n (pc := 0) (j := 0) dX12_isKindKnown_0 rfl rfl ?_
  refine Z_getr (pc := 1) dX12_isKindKnown_1 w8_150 (lk_69 hP) fr_12_84 (lr_69_84 hP) ?_
  refine Y_iload_n (pc := 4) (j := 1) dX12_isKindKnown_4 rfl rfl ?_
  obtain ⟨hb1, h⟩ := okE h
  refine Y_cald (pc := 5) dX12_isKindKnown_5 (lk_123 hP) (ln_123 hP) hb1 ?_
  refine Y_if_eq (pc := 6) (tgt := 13) dX12_isKindKnown_6 (by decide) (fun hc1 => ?_) (fun hc1 => ?_)
  · replace h := ifT hc1 h
    refine Y_iconst (pc := 13) (v := (0 : Int32)) dX12_isKindKnown_13 rfl ?_
    cases h
    exact Y_iret (pc := 14) rfl (nar_bo (by decide)) dX12_isKindKnown_14 hP ⟨rfl, rfl⟩
  · replace h := ifF hc1 h
    refine Y_iconst (pc := 9) (v := (1 : Int32)) dX12_isKindKnown_9 rfl ?_
    refine Y_goto (pc := 10) (tgt := 14) dX12_isKindKnown_10 (by decide) ?_
    cases h
    exact Y_iret (pc := 14) rfl (nar_bo (by decide)) dX12_isKindKnown_14 hP ⟨rfl, rfl⟩
theorem v_X12_isKindKnown {x1 : Int32} {M z} (hP : Lay M) (h : d_X12_isKindKnown x1 M = some z) : CC Lay k_X12_isKindKnown [.ref 69, .int x1] M z.2 (Qv (some (.int z.1)) z.2) xF :=
  CC.ofVV (by decide) rfl (Nat.le_of_ble_eq_true rfl) (b_X12_isKindKnown hP h)
theorem b_X12_isNullKnown {x1 : Int32} {M z} (hP : Lay M) (h : d_X12_isNullKnown x1 M = some z) : VV Lay k_X12_isNullKnown 0 [(0, .ref 69), (1, .int x1)] [] M z.2 (Qv (some (.int z.1)) z.2) xF := by
  unfold d_X12_isNullKnown at h
  refine Y_aload_n (pc := 0) (j := 0) dX12_isNullKnown_0 rfl rfl ?_
  refine Z_getr (pc := 1) dX12_isNullKnown_1 w8_153 (lk_69 hP) fr_12_87 (lr_69_87 hP) ?_
  refine Y_iload_n (pc := 4) (j := 1) dX12_isNullKnown_4 rfl rfl ?_
  obtain ⟨hb1, h⟩ := okE h
  refine Y_iald (pc := 5) dX12_isNullKnown_5 (lk_126 hP) (ln_126 hP) hb1 ?_
  refine Y_if_ne (pc := 6) (tgt := 31) dX12_isNullKnown_6 (by decide) (fun hc1 => ?_) (fun hc1 => ?_)
  · replace h := ifF hc1 h
    refine Y_iconst (pc := 31) (v := (1 : Int32)) dX12_isNullKnown_31 rfl ?_
    refine Y_goto (pc := 32) (tgt := 36) dX12_isNullKnown_32 (by decide) ?_
    cases h
    exact Y_iret (pc := 36) rfl (nar_bo (by decide)) dX12_isNullKnown_36 hP ⟨rfl, rfl⟩
  · replace h := ifT hc1 h
    refine Y_aload_n (pc := 9) (j := 0) dX12_isNullKnown_9 rfl rfl ?_
    refine Z_getr (pc := 10) dX12_isNullKnown_10 w8_150 (lk_69 hP) fr_12_84 (lr_69_84 hP) ?_
    refine Y_iload_n (pc := 13) (j := 1) dX12_isNullKnown_13 rfl rfl ?_
    obtain ⟨hb2, h⟩ := okE h
    refine Y_cald (pc := 14) dX12_isNullKnown_14 (lk_123 hP) (ln_123 hP) hb2 ?_
    refine Y_bipush (pc := 15) (v := (111 : Int32)) dX12_isNullKnown_15 rfl ?_
    refine Y_icmp_eq (pc := 17) (tgt := 31) dX12_isNullKnown_17 (by decide) (fun hc2 => ?_) (fun hc2 => ?_)
    · replace h := ifT hc2 h
      refine Y_iconst (pc := 31) (v := (1 : Int32)) dX12_isNullKnown_31 rfl ?_
      refine Y_goto (pc := 32) (tgt := 36) dX12_isNullKnown_32 (by decide) ?_
      cases h
      exact Y_iret (pc := 36) rfl (nar_bo (by decide)) dX12_isNullKnown_36 hP ⟨rfl, rfl⟩
    · replace h := ifF hc2 h
      refine Y_aload_n (pc := 20) (j := 0) dX12_isNullKnown_20 rfl rfl ?_
      refine Z_getr (pc := 21) dX12_isNullKnown_21 w8_150 (lk_69 hP) fr_12_84 (lr_69_84 hP) ?_
      refine Y_iload_n (pc := 24) (j := 1) dX12_isNullKnown_24 rfl rfl ?_
      obtain ⟨hb3, h⟩ := okE h
      refine Y_cald (pc := 25) dX12_isNullKnown_25 (lk_123 hP) (ln_123 hP) hb3 ?_
      refine Y_bipush (pc := 26) (v := (110 : Int32)) dX12_isNullKnown_26 rfl ?_
      refine Y_icmp_ne (pc := 28) (tgt := 35) dX12_isNullKnown_28 (by decide) (fun hc3 => ?_) (fun hc3 => ?_)
      · replace h := ifF hc3 h
        refine Y_iconst (pc := 35) (v := (0 : Int32)) dX12_isNullKnown_35 rfl ?_
        cases h
        exact Y_iret (pc := 36) rfl (nar_bo (by decide)) dX12_isNullKnown_36 hP ⟨rfl, rfl⟩
      · replace h := ifT hc3 h
        refine Y_iconst (pc := 31) (v := (1 : Int32)) dX12_isNullKnown_31 rfl ?_
        refine Y_goto (pc := 32) (tgt := 36) dX12_isNullKnown_32 (by decide) ?_
        cases h
        exact Y_iret (pc := 36) rfl (nar_bo (by decide)) dX12_isNullKnown_36 hP ⟨rfl, rfl⟩
theorem v_X12_isNullKnown {x1 : Int32} {M z} (hP : Lay M) (h : d_X12_isNullKnown x1 M = some z) : CC Lay k_X12_isNullKnown [.ref 69, .int x1] M z.2 (Qv (some (.int z.1)) z.2) xF :=
  CC.ofVV (by decide) rfl (Nat.le_of_ble_eq_true rfl) (b_X12_isNullKnown hP h)
theorem b_X12_asks {x1 : Int32} {x2 : Int32} {x3 : Int32} {M z} (hP : Lay M) (h : d_X12_asks x1 x2 x3 M = some z) : VV Lay k_X12_asks 0 [(0, .ref 69), (1, .int x1), (2, .int x2), (3, .int x3)] [] M z.2 (Qv (none) z.2) xF := by
  unfold d_X12_asks at h
  refine Y_aload_n (pc := 0) (j := 0) dX12_asks_0 rfl rfl ?_
  refine Z_getr (pc := 1) dX12_asks_1 w8_145 (lk_69 hP) fr_12_79 (lr_69_79 hP) ?_
  refine Y_aload_n (pc := 4) (j := 0) dX12_asks_4 rfl rfl ?_
  refine Z_geti (pc := 5) dX12_asks_5 w8_144 (lk_69 hP) fi_12_78 ?_
  refine Y_iload_n (pc := 8) (j := 1) dX12_asks_8 rfl rfl ?_
  obtain ⟨hb1, h⟩ := okE h
  obtain ⟨hb2, h⟩ := okE h
  refine Y_cast (pc := 9) dX12_asks_9 (lk_119 hP) (ln_119 hP) hb1 (nar_ch hb2) ?_
  obtain ⟨M1, eM1, h⟩ := bndE h
  refine VV.mem eM1 ?_
  have hP1 := hP.wI eM1
  refine Y_aload_n (pc := 10) (j := 0) dX12_asks_10 rfl rfl ?_
  refine Z_getr (pc := 11) dX12_asks_11 w8_146 (lk_69 hP1) fr_12_80 (lr_69_80 hP1) ?_
  refine Y_aload_n (pc := 14) (j := 0) dX12_asks_14 rfl rfl ?_
  refine Z_geti (pc := 15) dX12_asks_15 w8_144 (lk_69 hP1) fi_12_78 ?_
  refine Y_aload_n (pc := 18) (j := 0) dX12_asks_18 rfl rfl ?_
  refine Z_geti (pc := 19) dX12_asks_19 w8_142 (lk_69 hP1) fi_12_76 ?_
  obtain ⟨hb3, h⟩ := okE h
  refine Y_iast (pc := 22) dX12_asks_22 (lk_120 hP1) (ln_120 hP1) hb3 ?_
  obtain ⟨M2, eM2, h⟩ := bndE h
  refine VV.mem eM2 ?_
  have hP2 := hP1.wI eM2
  refine Y_aload_n (pc := 23) (j := 0) dX12_asks_23 rfl rfl ?_
  refine Z_getr (pc := 24) dX12_asks_24 w8_147 (lk_69 hP2) fr_12_81 (lr_69_81 hP2) ?_
  refine Y_aload_n (pc := 27) (j := 0) dX12_asks_27 rfl rfl ?_
  refine Z_geti (pc := 28) dX12_asks_28 w8_144 (lk_69 hP2) fi_12_78 ?_
  refine Y_iload_n (pc := 31) (j := 2) dX12_asks_31 rfl rfl ?_
  obtain ⟨hb4, h⟩ := okE h
  refine Y_iast (pc := 32) dX12_asks_32 (lk_121 hP2) (ln_121 hP2) hb4 ?_
  obtain ⟨M3, eM3, h⟩ := bndE h
  refine VV.mem eM3 ?_
  have hP3 := hP2.wI eM3
  refine Y_aload_n (pc := 33) (j := 0) dX12_asks_33 rfl rfl ?_
  refine Z_getr (pc := 34) dX12_asks_34 w8_148 (lk_69 hP3) fr_12_82 (lr_69_82 hP3) ?_
  refine Y_aload_n (pc := 37) (j := 0) dX12_asks_37 rfl rfl ?_
  refine Z_geti (pc := 38) dX12_asks_38 w8_144 (lk_69 hP3) fi_12_78 ?_
  refine Y_iload_n (pc := 41) (j := 3) dX12_asks_41 rfl rfl ?_
  obtain ⟨hb5, h⟩ := okE h
  refine Y_iast (pc := 42) dX12_asks_42 (lk_122 hP3) (ln_122 hP3) hb5 ?_
  obtain ⟨M4, eM4, h⟩ := bndE h
  refine VV.mem eM4 ?_
  have hP4 := hP3.wI eM4
  refine Y_aload_n (pc := 43) (j := 0) dX12_asks_43 rfl rfl ?_
  refine Y_dup (pc := 44) dX12_asks_44 rfl ?_
  refine Z_geti (pc := 45) dX12_asks_45 w8_144 (lk_69 hP4) fi_12_78 ?_
  refine Y_iconst (pc := 48) (v := (1 : Int32)) dX12_asks_48 rfl ?_
  refine Y_iadd (pc := 49) dX12_asks_49 ?_
  refine Z_puti (pc := 50) dX12_asks_50 w8_144 (lk_69 hP4) fi_12_78 (Or.inl rfl) rfl ?_
  obtain ⟨M5, eM5, h⟩ := bndE h
  refine VV.mem eM5 ?_
  have hP5 := hP4.wI eM5
  cases h
  exact Y_vret (pc := 53) rfl dX12_asks_53 hP5 ⟨rfl, rfl⟩
theorem v_X12_asks {x1 : Int32} {x2 : Int32} {x3 : Int32} {M z} (hP : Lay M) (h : d_X12_asks x1 x2 x3 M = some z) : CC Lay k_X12_asks [.ref 69, .int x1, .int x2, .int x3] M z.2 (Qv (none) z.2) xF :=
  CC.ofVV (by decide) rfl (Nat.le_of_ble_eq_true rfl) (b_X12_asks hP h)
theorem b_X12_asksKind {x1 : Int32} {M z} (hP : Lay M) (h : d_X12_asksKind x1 M = some z) : VV Lay k_X12_asksKind 0 [(0, .ref 69), (1, .int x1)] [] M z.2 (Qv (none) z.2) xF := by
  unfold d_X12_asksKind at h
  refine Y_aload_n (pc := 0) (j := 0) dX12_asksKind_0 rfl rfl ?_
  refine Z_getr (pc := 1) dX12_asksKind_1 w8_113 (lk_69 hP) fr_12_47 (lr_69_47 hP) ?_
  refine Y_aload_n (pc := 4) (j := 0) dX12_asksKind_4 rfl rfl ?_
  refine Y_iload_n (pc := 5) (j := 1) dX12_asksKind_5 rfl rfl ?_
  obtain ⟨y1, qy1, h⟩ := bindE h
  have cy1 := v_X12_top hP qy1
  refine C_V1r (pc := 6) (k' := k_X12_top) dX12_asksKind_6 w9_200 i_X12_top (lk_69 hP) ⟨Nat.le_of_ble_eq_true rfl, Nat.le_of_ble_eq_true rfl⟩ rfl (Nat.le_of_ble_eq_true rfl) (Nat.le_of_ble_eq_true rfl) (Nat.le_of_ble_eq_true rfl) (cy1) ?_
  have hPy1 := cy1.1.1
  obtain ⟨hb1, h⟩ := okE h
  refine Y_iald (pc := 9) dX12_asksKind_9 (lk_108 hPy1) (ln_108 hPy1) hb1 ?_
  obtain ⟨b1, eb1, h⟩ := bndE h
  refine VV.topI eb1 ?_
  refine Y_istore_n (pc := 10) (lv1 := [(2, .int b1), (0, .ref 69), (1, .int x1)]) dX12_asksKind_10 rfl (by decide) rfl ?_
  refine Y_aload_n (pc := 11) (j := 1) dX12_asksKind_11 rfl rfl ?_
  refine Y_iload_n (pc := 12) (j := 0) dX12_asksKind_12 rfl rfl ?_
  obtain ⟨y2, qy2, h⟩ := bindE h
  have cy2 := v_X12_isKindKnown hPy1 qy2
  refine C_V1r (pc := 13) (k' := k_X12_isKindKnown) dX12_asksKind_13 w10_123 i_X12_isKindKnown (lk_69 hPy1) ⟨Nat.le_of_ble_eq_true rfl, Nat.le_of_ble_eq_true rfl⟩ rfl (Nat.le_of_ble_eq_true rfl) (Nat.le_of_ble_eq_true rfl) (Nat.le_of_ble_eq_true rfl) (cy2) ?_
  have hPy2 := cy2.1.1
  refine Y_if_ne (pc := 16) (tgt := 52) dX12_asksKind_16 (by decide) (fun hc1 => ?_) (fun hc1 => ?_)
  · replace h := ifF hc1 h
    cases h
    exact Y_vret (pc := 52) rfl dX12_asksKind_52 hPy2 ⟨rfl, rfl⟩
  · replace h := ifT hc1 h
    refine Y_aload_n (pc := 19) (j := 1) dX12_asksKind_19 rfl rfl ?_
    refine Y_bipush (pc := 20) (v := (107 : Int32)) dX12_asksKind_20 rfl ?_
    refine Y_iload_n (pc := 22) (j := 2) dX12_asksKind_22 rfl rfl ?_
    refine Y_aload_n (pc := 23) (j := 1) dX12_asksKind_23 rfl rfl ?_
    refine Z_getr (pc := 24) dX12_asksKind_24 w8_110 (lk_69 hPy2) fr_12_44 (lr_69_44 hPy2) ?_
    refine Y_aload_n (pc := 27) (j := 1) dX12_asksKind_27 rfl rfl ?_
    refine Y_iload_n (pc := 28) (j := 2) dX12_asksKind_28 rfl rfl ?_
    obtain ⟨y3, qy3, h⟩ := bindE h
    have cy3 := v_X12_top hPy2 qy3
    refine C_V1r (pc := 29) (k' := k_X12_top) dX12_asksKind_29 w9_200 i_X12_top (lk_69 hPy2) ⟨Nat.le_of_ble_eq_true rfl, Nat.le_of_ble_eq_true rfl⟩ rfl (Nat.le_of_ble_eq_true rfl) (Nat.le_of_ble_eq_true rfl) (Nat.le_of_ble_eq_true rfl) (cy3) ?_
    have hPy3 := cy3.1.1
    obtain ⟨hb2, h⟩ := okE h
    refine Y_cald (pc := 32) dX12_asksKind_32 (lk_105 hPy3) (ln_105 hPy3) hb2 ?_
    obtain ⟨y4, qy4, h⟩ := bindE h
    have cy4 := v_X12_asks hPy3 qy4
    refine C_V3o (pc := 33) (k' := k_X12_asks) dX12_asksKind_33 w10_127 i_X12_asks (lk_69 hPy3) ⟨Nat.le_of_ble_eq_true rfl, Nat.le_of_ble_eq_true rfl⟩ rfl (Nat.le_of_ble_eq_true rfl) (Nat.le_of_ble_eq_true rfl) (Nat.le_of_ble_eq_true rfl) (cy4) ?_
    have hPy4 := cy4.1.1
    refine Y_aload_n (pc := 36) (j := 1) dX12_asksKind_36 rfl rfl ?_
    refine Z_getr (pc := 37) dX12_asksKind_37 w8_150 (lk_69 hPy4) fr_12_84 (lr_69_84 hPy4) ?_
    refine Y_iload_n (pc := 40) (j := 0) dX12_asksKind_40 rfl rfl ?_
    refine Y_aload_n (pc := 41) (j := 1) dX12_asksKind_41 rfl rfl ?_
    refine Z_getr (pc := 42) dX12_asksKind_42 w8_110 (lk_69 hPy4) fr_12_44 (lr_69_44 hPy4) ?_
    refine Y_aload_n (pc := 45) (j := 1) dX12_asksKind_45 rfl rfl ?_
    refine Y_iload_n (pc := 46) (j := 2) dX12_asksKind_46 rfl rfl ?_
    obtain ⟨y5, qy5, h⟩ := bindE h
    have cy5 := v_X12_top hPy4 qy5
    refine C_V1r (pc := 47) (k' := k_X12_top) dX12_asksKind_47 w9_200 i_X12_top (lk_69 hPy4) ⟨Nat.le_of_ble_eq_true rfl, Nat.le_of_ble_eq_true rfl⟩ rfl (Nat.le_of_ble_eq_true rfl) (Nat.le_of_ble_eq_true rfl) (Nat.le_of_ble_eq_true rfl) (cy5) ?_
    have hPy5 := cy5.1.1
    obtain ⟨hb3, h⟩ := okE h
    refine Y_cald (pc := 50) dX12_asksKind_50 (lk_105 hPy5) (ln_105 hPy5) hb3 ?_
    obtain ⟨hb4, h⟩ := okE h
    obtain ⟨hb5, h⟩ := okE h
    refine Y_cast (pc := 51) dX12_asksKind_51 (lk_123 hPy5) (ln_123 hPy5) hb4 (nar_ch hb5) ?_
    obtain ⟨M1, eM1, h⟩ := bndE h
    refine VV.mem eM1 ?_
    have hP1 := hPy5.wI eM1
    cases h
    exact Y_vret (pc := 52) rfl dX12_asksKind_52 hP1 ⟨rfl, rfl⟩
theorem v_X12_asksKind {x1 : Int32} {M z} (hP : Lay M) (h : d_X12_asksKind x1 M = some z) : CC Lay k_X12_asksKind [.ref 69, .int x1] M z.2 (Qv (none) z.2) xF :=
  CC.ofVV (by decide) rfl (Nat.le_of_ble_eq_true rfl) (b_X12_asksKind hP h)
theorem b_X12_asksShape {x1 : Int32} {M z} (hP : Lay M) (h : d_X12_asksShape x1 M = some z) : VV Lay k_X12_asksShape 0 [(0, .ref 69), (1, .int x1)] [] M z.2 (Qv (none) z.2) xF := by
  unfold d_X12_asksShape at h
  refine Y_aload_n (pc := 0) (j := 0) dX12_asksShape_0 rfl rfl ?_
  refine Z_getr (pc := 1) dX12_asksShape_1 w8_113 (lk_69 hP) fr_12_47 (lr_69_47 hP) ?_
  refine Y_aload_n (pc := 4) (j := 0) dX12_asksShape_4 rfl rfl ?_
  refine Y_iload_n (pc := 5) (j := 1) dX12_asksShape_5 rfl rfl ?_
  obtain ⟨y1, qy1, h⟩ := bindE h
  have cy1 := v_X12_top hP qy1
  refine C_V1r (pc := 6) (k' := k_X12_top) dX12_asksShape_6 w9_200 i_X12_top (lk_69 hP) ⟨Nat.le_of_ble_eq_true rfl, Nat.le_of_ble_eq_true rfl⟩ rfl (Nat.le_of_ble_eq_true rfl) (Nat.le_of_ble_eq_true rfl) (Nat.le_of_ble_eq_true rfl) (cy1) ?_
  have hPy1 := cy1.1.1
  obtain ⟨hb1, h⟩ := okE h
  refine Y_iald (pc := 9) dX12_asksShape_9 (lk_108 hPy1) (ln_108 hPy1) hb1 ?_
  obtain ⟨b1, eb1, h⟩ := bndE h
  refine VV.topI eb1 ?_
  refine Y_istore_n (pc := 10) (lv1 := [(2, .int b1), (0, .ref 69), (1, .int x1)]) dX12_asksShape_10 rfl (by decide) rfl ?_
  refine Y_aload_n (pc := 11) (j := 1) dX12_asksShape_11 rfl rfl ?_
  refine Z_getr (pc := 12) dX12_asksShape_12 w8_119 (lk_69 hPy1) fr_12_53 (lr_69_53 hPy1) ?_
  refine Y_aload_n (pc := 15) (j := 1) dX12_asksShape_15 rfl rfl ?_
  refine Z_getr (pc := 16) dX12_asksShape_16 w8_111 (lk_69 hPy1) fr_12_45 (lr_69_45 hPy1) ?_
  refine Y_aload_n (pc := 19) (j := 1) dX12_asksShape_19 rfl rfl ?_
  refine Y_iload_n (pc := 20) (j := 2) dX12_asksShape_20 rfl rfl ?_
  obtain ⟨y2, qy2, h⟩ := bindE h
  have cy2 := v_X12_top hPy1 qy2
  refine C_V1r (pc := 21) (k' := k_X12_top) dX12_asksShape_21 w9_200 i_X12_top (lk_69 hPy1) ⟨Nat.le_of_ble_eq_true rfl, Nat.le_of_ble_eq_true rfl⟩ rfl (Nat.le_of_ble_eq_true rfl) (Nat.le_of_ble_eq_true rfl) (Nat.le_of_ble_eq_true rfl) (cy2) ?_
  have hPy2 := cy2.1.1
  obtain ⟨hb2, h⟩ := okE h
  refine Y_iald (pc := 24) dX12_asksShape_24 (lk_106 hPy2) (ln_106 hPy2) hb2 ?_
  obtain ⟨hb3, h⟩ := okE h
  refine Y_iald (pc := 25) dX12_asksShape_25 (lk_112 hPy2) (ln_112 hPy2) hb3 ?_
  obtain ⟨b2, eb2, h⟩ := bndE h
  refine VV.topI eb2 ?_
  refine Y_istore_n (pc := 26) (lv1 := [(3, .int b2), (2, .int b1), (0, .ref 69), (1, .int x1)]) dX12_asksShape_26 rfl (by decide) rfl ?_
  refine Y_aload_n (pc := 27) (j := 2) dX12_asksShape_27 rfl rfl ?_
  refine Z_getr (pc := 28) dX12_asksShape_28 w8_152 (lk_69 hPy2) fr_12_86 (lr_69_86 hPy2) ?_
  refine Y_iload_n (pc := 31) (j := 1) dX12_asksShape_31 rfl rfl ?_
  obtain ⟨hb4, h⟩ := okE h
  refine Y_iald (pc := 32) dX12_asksShape_32 (lk_125 hPy2) (ln_125 hPy2) hb4 ?_
  refine Y_iconst (pc := 33) (v := (-1 : Int32)) dX12_asksShape_33 rfl ?_
  refine Y_icmp_ne (pc := 34) (tgt := 60) dX12_asksShape_34 (by decide) (fun hc1 => ?_) (fun hc1 => ?_)
  · replace h := ifF hc1 h
    cases h
    exact Y_vret (pc := 60) rfl dX12_asksShape_60 hPy2 ⟨rfl, rfl⟩
  · replace h := ifT hc1 h
    refine Y_aload_n (pc := 37) (j := 2) dX12_asksShape_37 rfl rfl ?_
    refine Y_bipush (pc := 38) (v := (115 : Int32)) dX12_asksShape_38 rfl ?_
    refine Y_iload_n (pc := 40) (j := 3) dX12_asksShape_40 rfl rfl ?_
    refine Y_iload_n (pc := 41) (j := 0) dX12_asksShape_41 rfl rfl ?_
    obtain ⟨y3, qy3, h⟩ := bindE h
    have cy3 := v_X12_asks hPy2 qy3
    refine C_V3o (pc := 42) (k' := k_X12_asks) dX12_asksShape_42 w10_127 i_X12_asks (lk_69 hPy2) ⟨Nat.le_of_ble_eq_true rfl, Nat.le_of_ble_eq_true rfl⟩ rfl (Nat.le_of_ble_eq_true rfl) (Nat.le_of_ble_eq_true rfl) (Nat.le_of_ble_eq_true rfl) (cy3) ?_
    have hPy3 := cy3.1.1
    refine Y_aload_n (pc := 45) (j := 2) dX12_asksShape_45 rfl rfl ?_
    refine Z_getr (pc := 46) dX12_asksShape_46 w8_152 (lk_69 hPy3) fr_12_86 (lr_69_86 hPy3) ?_
    refine Y_iload_n (pc := 49) (j := 1) dX12_asksShape_49 rfl rfl ?_
    refine Y_iload_n (pc := 50) (j := 0) dX12_asksShape_50 rfl rfl ?_
    obtain ⟨hb5, h⟩ := okE h
    refine Y_iast (pc := 51) dX12_asksShape_51 (lk_125 hPy3) (ln_125 hPy3) hb5 ?_
    obtain ⟨M1, eM1, h⟩ := bndE h
    refine VV.mem eM1 ?_
    have hP1 := hPy3.wI eM1
    refine Y_aload_n (pc := 52) (j := 2) dX12_asksShape_52 rfl rfl ?_
    refine Z_getr (pc := 53) dX12_asksShape_53 w8_150 (lk_69 hP1) fr_12_84 (lr_69_84 hP1) ?_
    refine Y_iload_n (pc := 56) (j := 1) dX12_asksShape_56 rfl rfl ?_
    refine Y_bipush (pc := 57) (v := (111 : Int32)) dX12_asksShape_57 rfl ?_
    obtain ⟨hb6, h⟩ := okE h
    refine Y_cast (pc := 59) dX12_asksShape_59 (lk_123 hP1) (ln_123 hP1) hb6 (nar_ch (by decide)) ?_
    obtain ⟨M2, eM2, h⟩ := bndE h
    refine VV.mem eM2 ?_
    have hP2 := hP1.wI eM2
    cases h
    exact Y_vret (pc := 60) rfl dX12_asksShape_60 hP2 ⟨rfl, rfl⟩
theorem v_X12_asksShape {x1 : Int32} {M z} (hP : Lay M) (h : d_X12_asksShape x1 M = some z) : CC Lay k_X12_asksShape [.ref 69, .int x1] M z.2 (Qv (none) z.2) xF :=
  CC.ofVV (by decide) rfl (Nat.le_of_ble_eq_true rfl) (b_X12_asksShape hP h)
theorem b_X12_guards_304 {M z} (hP : Lay M) (h : d_X12_guards_304 M = some z) : VV Lay k_X12_guards 304 [(0, .ref 69)] [] M z.2 (Qv (none) z.2) xF := by
  unfold d_X12_guards_304 at h
  refine Y_aload_n (pc := 304) (j := 0) dX12_guards_304 rfl rfl ?_
  refine Y_iconst (pc := 305) (v := (0 : Int32)) dX12_guards_305 rfl ?_
  obtain ⟨y1, qy1, h⟩ := bindE h
  have cy1 := v_X12_asksShape hP qy1
  refine C_V1o (pc := 306) (k' := k_X12_asksShape) dX12_guards_306 w10_135 i_X12_asksShape (lk_69 hP) ⟨Nat.le_of_ble_eq_true rfl, Nat.le_of_ble_eq_true rfl⟩ rfl (Nat.le_of_ble_eq_true rfl) (Nat.le_of_ble_eq_true rfl) (Nat.le_of_ble_eq_true rfl) (cy1) ?_
  have hPy1 := cy1.1.1
  refine Y_goto (pc := 309) (tgt := 323) dX12_guards_309 (by decide) ?_
  cases h
  exact Y_vret (pc := 323) rfl dX12_guards_323 hPy1 ⟨rfl, rfl⟩
theorem b_X12_guards_263 {x2 : Int32} {s1 : Int32} {s2 : Int32} {s3 : Int32} {M z} (hP : Lay M) (h : d_X12_guards_263 x2 s1 s2 s3 M = some z) : VV Lay k_X12_guards 263 [(0, .ref 69), (2, .int x2)] [.int s3, .int s2, .int s1, .ref 69] M z.2 (Qv (none) z.2) xF := by
  unfold d_X12_guards_263 at h
  obtain ⟨y1, qy1, h⟩ := bindE h
  have cy1 := v_X12_asks hP qy1
  refine C_V3o (pc := 263) (k' := k_X12_asks) dX12_guards_263 w10_127 i_X12_asks (lk_69 hP) ⟨Nat.le_of_ble_eq_true rfl, Nat.le_of_ble_eq_true rfl⟩ rfl (Nat.le_of_ble_eq_true rfl) (Nat.le_of_ble_eq_true rfl) (Nat.le_of_ble_eq_true rfl) (cy1) ?_
  have hPy1 := cy1.1.1
  refine Y_aload_n (pc := 266) (j := 0) dX12_guards_266 rfl rfl ?_
  refine Z_getr (pc := 267) dX12_guards_267 w8_153 (lk_69 hPy1) fr_12_87 (lr_69_87 hPy1) ?_
  refine Y_iload_n (pc := 270) (j := 1) dX12_guards_270 rfl rfl ?_
  refine Y_aload_n (pc := 271) (j := 0) dX12_guards_271 rfl rfl ?_
  refine Y_aload_n (pc := 272) (j := 0) dX12_guards_272 rfl rfl ?_
  refine Y_iconst (pc := 273) (v := (0 : Int32)) dX12_guards_273 rfl ?_
  obtain ⟨y2, qy2, h⟩ := bindE h
  have cy2 := v_X12_top hPy1 qy2
  refine C_V1r (pc := 274) (k' := k_X12_top) dX12_guards_274 w9_200 i_X12_top (lk_69 hPy1) ⟨Nat.le_of_ble_eq_true rfl, Nat.le_of_ble_eq_true rfl⟩ rfl (Nat.le_of_ble_eq_true rfl) (Nat.le_of_ble_eq_true rfl) (Nat.le_of_ble_eq_true rfl) (cy2) ?_
  have hPy2 := cy2.1.1
  obtain ⟨y3, qy3, h⟩ := bindE h
  have cy3 := v_X12_isNull hPy2 qy3
  refine C_V1r (pc := 277) (k' := k_X12_isNull) dX12_guards_277 w10_5 i_X12_isNull (lk_69 hPy2) ⟨Nat.le_of_ble_eq_true rfl, Nat.le_of_ble_eq_true rfl⟩ rfl (Nat.le_of_ble_eq_true rfl) (Nat.le_of_ble_eq_true rfl) (Nat.le_of_ble_eq_true rfl) (cy3) ?_
  have hPy3 := cy3.1.1
  refine Y_if_eq (pc := 280) (tgt := 287) dX12_guards_280 (by decide) (fun hc1 => ?_) (fun hc1 => ?_)
  · replace h := ifT hc1 h
    refine Y_iconst (pc := 287) (v := (2 : Int32)) dX12_guards_287 rfl ?_
    obtain ⟨hb1, h⟩ := okE h
    refine Y_iast (pc := 288) dX12_guards_288 (lk_126 hPy3) (ln_126 hPy3) hb1 ?_
    obtain ⟨M1, eM1, h⟩ := bndE h
    refine VV.mem eM1 ?_
    have hP1 := hPy3.wI eM1
    refine Y_goto (pc := 289) (tgt := 323) dX12_guards_289 (by decide) ?_
    cases h
    exact Y_vret (pc := 323) rfl dX12_guards_323 hP1 ⟨rfl, rfl⟩
  · replace h := ifF hc1 h
    refine Y_iconst (pc := 283) (v := (1 : Int32)) dX12_guards_283 rfl ?_
    refine Y_goto (pc := 284) (tgt := 288) dX12_guards_284 (by decide) ?_
    obtain ⟨hb2, h⟩ := okE h
    refine Y_iast (pc := 288) dX12_guards_288 (lk_126 hPy3) (ln_126 hPy3) hb2 ?_
    obtain ⟨M2, eM2, h⟩ := bndE h
    refine VV.mem eM2 ?_
    have hP2 := hPy3.wI eM2
    refine Y_goto (pc := 289) (tgt := 323) dX12_guards_289 (by decide) ?_
    cases h
    exact Y_vret (pc := 323) rfl dX12_guards_323 hP2 ⟨rfl, rfl⟩
theorem b_X12_guards_164 {x1 : Int32} {M z} (hP : Lay M) (h : d_X12_guards_164 x1 M = some z) : VV Lay k_X12_guards 164 [(0, .ref 69), (1, .int x1)] [] M z.2 (Qv (none) z.2) xF := by
  unfold d_X12_guards_164 at h
  refine Y_aload_n (pc := 164) (j := 0) dX12_guards_164 rfl rfl ?_
  refine Y_iload_n (pc := 165) (j := 1) dX12_guards_165 rfl rfl ?_
  refine Y_aload_n (pc := 166) (j := 0) dX12_guards_166 rfl rfl ?_
  refine Y_iconst (pc := 167) (v := (1 : Int32)) dX12_guards_167 rfl ?_
  obtain ⟨y1, qy1, h⟩ := bindE h
  have cy1 := v_X12_top hP qy1
  refine C_V1r (pc := 168) (k' := k_X12_top) dX12_guards_168 w9_200 i_X12_top (lk_69 hP) ⟨Nat.le_of_ble_eq_true rfl, Nat.le_of_ble_eq_true rfl⟩ rfl (Nat.le_of_ble_eq_true rfl) (Nat.le_of_ble_eq_true rfl) (Nat.le_of_ble_eq_true rfl) (cy1) ?_
  have hPy1 := cy1.1.1
  refine Y_aload_n (pc := 171) (j := 0) dX12_guards_171 rfl rfl ?_
  refine Y_iconst (pc := 172) (v := (0 : Int32)) dX12_guards_172 rfl ?_
  obtain ⟨y2, qy2, h⟩ := bindE h
  have cy2 := v_X12_top hPy1 qy2
  refine C_V1r (pc := 173) (k' := k_X12_top) dX12_guards_173 w9_200 i_X12_top (lk_69 hPy1) ⟨Nat.le_of_ble_eq_true rfl, Nat.le_of_ble_eq_true rfl⟩ rfl (Nat.le_of_ble_eq_true rfl) (Nat.le_of_ble_eq_true rfl) (Nat.le_of_ble_eq_true rfl) (cy2) ?_
  have hPy2 := cy2.1.1
  obtain ⟨y3, qy3, h⟩ := bindE h
  have cy3 := v_X12_reckons hPy2 qy3
  refine C_V3o (pc := 176) (k' := k_X12_reckons) dX12_guards_176 w10_9 i_X12_reckons (lk_69 hPy2) ⟨Nat.le_of_ble_eq_true rfl, Nat.le_of_ble_eq_true rfl⟩ rfl (Nat.le_of_ble_eq_true rfl) (Nat.le_of_ble_eq_true rfl) (Nat.le_of_ble_eq_true rfl) (cy3) ?_
  have hPy3 := cy3.1.1
  refine Y_aload_n (pc := 179) (j := 0) dX12_guards_179 rfl rfl ?_
  refine Y_bipush (pc := 180) (v := (111 : Int32)) dX12_guards_180 rfl ?_
  refine Y_iconst (pc := 182) (v := (0 : Int32)) dX12_guards_182 rfl ?_
  refine Y_aload_n (pc := 183) (j := 0) dX12_guards_183 rfl rfl ?_
  refine Z_geti (pc := 184) dX12_guards_184 w8_154 (lk_69 hPy3) fi_12_88 ?_
  refine Y_bipush (pc := 187) (v := (105 : Int32)) dX12_guards_187 rfl ?_
  refine Y_icmp_ne (pc := 189) (tgt := 196) dX12_guards_189 (by decide) (fun hc1 => ?_) (fun hc1 => ?_)
  · replace h := ifF hc1 h
    refine Y_iconst (pc := 196) (v := (0 : Int32)) dX12_guards_196 rfl ?_
    obtain ⟨y4, qy4, h⟩ := bindE h
    have cy4 := v_X12_asks hPy3 qy4
    refine C_V3o (pc := 197) (k' := k_X12_asks) dX12_guards_197 w10_127 i_X12_asks (lk_69 hPy3) ⟨Nat.le_of_ble_eq_true rfl, Nat.le_of_ble_eq_true rfl⟩ rfl (Nat.le_of_ble_eq_true rfl) (Nat.le_of_ble_eq_true rfl) (Nat.le_of_ble_eq_true rfl) (cy4) ?_
    have hPy4 := cy4.1.1
    refine Y_goto (pc := 200) (tgt := 323) dX12_guards_200 (by decide) ?_
    cases h
    exact Y_vret (pc := 323) rfl dX12_guards_323 hPy4 ⟨rfl, rfl⟩
  · replace h := ifT hc1 h
    refine Y_iconst (pc := 192) (v := (1 : Int32)) dX12_guards_192 rfl ?_
    refine Y_goto (pc := 193) (tgt := 197) dX12_guards_193 (by decide) ?_
    obtain ⟨y5, qy5, h⟩ := bindE h
    have cy5 := v_X12_asks hPy3 qy5
    refine C_V3o (pc := 197) (k' := k_X12_asks) dX12_guards_197 w10_127 i_X12_asks (lk_69 hPy3) ⟨Nat.le_of_ble_eq_true rfl, Nat.le_of_ble_eq_true rfl⟩ rfl (Nat.le_of_ble_eq_true rfl) (Nat.le_of_ble_eq_true rfl) (Nat.le_of_ble_eq_true rfl) (cy5) ?_
    have hPy5 := cy5.1.1
    refine Y_goto (pc := 200) (tgt := 323) dX12_guards_200 (by decide) ?_
    cases h
    exact Y_vret (pc := 323) rfl dX12_guards_323 hPy5 ⟨rfl, rfl⟩
theorem b_X12_guards_135 {x1 : Int32} {x4 : Int32} {M z} (hP : Lay M) (h : d_X12_guards_135 x1 x4 M = some z) : VV Lay k_X12_guards 135 [(0, .ref 69), (1, .int x1), (4, .int x4)] [] M z.2 (Qv (none) z.2) xF := by
  unfold d_X12_guards_135 at h
  refine Y_iload (pc := 135) (j := 2) dX12_guards_135 rfl ?_
  refine Y_if_eq (pc := 137) (tgt := 200) dX12_guards_137 (by decide) (fun hc1 => ?_) (fun hc1 => ?_)
  · replace h := ifT hc1 h
    refine Y_goto (pc := 200) (tgt := 323) dX12_guards_200 (by decide) ?_
    cases h
    exact Y_vret (pc := 323) rfl dX12_guards_323 hP ⟨rfl, rfl⟩
  · replace h := ifF hc1 h
    refine Y_iload_n (pc := 140) (j := 1) dX12_guards_140 rfl rfl ?_
    refine Y_bipush (pc := 141) (v := (43 : Int32)) dX12_guards_141 rfl ?_
    refine Y_icmp_eq (pc := 143) (tgt := 164) dX12_guards_143 (by decide) (fun hc2 => ?_) (fun hc2 => ?_)
    · replace h := ifT hc2 h
      refine VV.sub [0, 1] rfl ?_
      exact b_X12_guards_164  hP h
    · replace h := ifF hc2 h
      refine Y_iload_n (pc := 146) (j := 1) dX12_guards_146 rfl rfl ?_
      refine Y_bipush (pc := 147) (v := (45 : Int32)) dX12_guards_147 rfl ?_
      refine Y_icmp_eq (pc := 149) (tgt := 164) dX12_guards_149 (by decide) (fun hc3 => ?_) (fun hc3 => ?_)
      · replace h := ifT hc3 h
        refine VV.sub [0, 1] rfl ?_
        exact b_X12_guards_164  hP h
      · replace h := ifF hc3 h
        refine Y_iload_n (pc := 152) (j := 1) dX12_guards_152 rfl rfl ?_
        refine Y_bipush (pc := 153) (v := (42 : Int32)) dX12_guards_153 rfl ?_
        refine Y_icmp_eq (pc := 155) (tgt := 164) dX12_guards_155 (by decide) (fun hc4 => ?_) (fun hc4 => ?_)
        · replace h := ifT hc4 h
          refine VV.sub [0, 1] rfl ?_
          exact b_X12_guards_164  hP h
        · replace h := ifF hc4 h
          refine Y_iload_n (pc := 158) (j := 1) dX12_guards_158 rfl rfl ?_
          refine Y_bipush (pc := 159) (v := (47 : Int32)) dX12_guards_159 rfl ?_
          refine Y_icmp_ne (pc := 161) (tgt := 200) dX12_guards_161 (by decide) (fun hc5 => ?_) (fun hc5 => ?_)
          · replace h := ifF hc5 h
            refine Y_goto (pc := 200) (tgt := 323) dX12_guards_200 (by decide) ?_
            cases h
            exact Y_vret (pc := 323) rfl dX12_guards_323 hP ⟨rfl, rfl⟩
          · replace h := ifT hc5 h
            refine VV.sub [0, 1] rfl ?_
            exact b_X12_guards_164  hP h
theorem b_X12_guards_112 {x1 : Int32} {x3 : Int32} {x4 : Int32} {M z} (hP : Lay M) (h : d_X12_guards_112 x1 x3 x4 M = some z) : VV Lay k_X12_guards 112 [(0, .ref 69), (1, .int x1), (3, .int x3), (4, .int x4)] [] M z.2 (Qv (none) z.2) xF := by
  unfold d_X12_guards_112 at h
  refine Y_aload_n (pc := 112) (j := 0) dX12_guards_112 rfl rfl ?_
  refine Y_iload_n (pc := 113) (j := 2) dX12_guards_113 rfl rfl ?_
  obtain ⟨y1, qy1, h⟩ := bindE h
  have cy1 := v_X12_isNullKnown hP qy1
  refine C_V1r (pc := 114) (k' := k_X12_isNullKnown) dX12_guards_114 w10_131 i_X12_isNullKnown (lk_69 hP) ⟨Nat.le_of_ble_eq_true rfl, Nat.le_of_ble_eq_true rfl⟩ rfl (Nat.le_of_ble_eq_true rfl) (Nat.le_of_ble_eq_true rfl) (Nat.le_of_ble_eq_true rfl) (cy1) ?_
  have hPy1 := cy1.1.1
  refine Y_if_ne (pc := 117) (tgt := 135) dX12_guards_117 (by decide) (fun hc1 => ?_) (fun hc1 => ?_)
  · replace h := ifF hc1 h
    refine VV.sub [0, 1, 3] rfl ?_
    exact b_X12_guards_135  hPy1 h
  · replace h := ifT hc1 h
    refine Y_aload_n (pc := 120) (j := 0) dX12_guards_120 rfl rfl ?_
    refine Y_bipush (pc := 121) (v := (122 : Int32)) dX12_guards_121 rfl ?_
    refine Y_iconst (pc := 123) (v := (0 : Int32)) dX12_guards_123 rfl ?_
    refine Y_iconst (pc := 124) (v := (0 : Int32)) dX12_guards_124 rfl ?_
    obtain ⟨y2, qy2, h⟩ := bindE h
    have cy2 := v_X12_asks hPy1 qy2
    refine C_V3o (pc := 125) (k' := k_X12_asks) dX12_guards_125 w10_127 i_X12_asks (lk_69 hPy1) ⟨Nat.le_of_ble_eq_true rfl, Nat.le_of_ble_eq_true rfl⟩ rfl (Nat.le_of_ble_eq_true rfl) (Nat.le_of_ble_eq_true rfl) (Nat.le_of_ble_eq_true rfl) (cy2) ?_
    have hPy2 := cy2.1.1
    refine Y_aload_n (pc := 128) (j := 0) dX12_guards_128 rfl rfl ?_
    refine Z_getr (pc := 129) dX12_guards_129 w8_153 (lk_69 hPy2) fr_12_87 (lr_69_87 hPy2) ?_
    refine Y_iload_n (pc := 132) (j := 2) dX12_guards_132 rfl rfl ?_
    refine Y_iconst (pc := 133) (v := (2 : Int32)) dX12_guards_133 rfl ?_
    obtain ⟨hb1, h⟩ := okE h
    refine Y_iast (pc := 134) dX12_guards_134 (lk_126 hPy2) (ln_126 hPy2) hb1 ?_
    obtain ⟨M1, eM1, h⟩ := bndE h
    refine VV.mem eM1 ?_
    have hP1 := hPy2.wI eM1
    refine VV.sub [0, 1, 3] rfl ?_
    exact b_X12_guards_135  hP1 h
theorem b_X12_guards_93 {x1 : Int32} {x3 : Int32} {s0 : Int32} {M z} (hP : Lay M) (h : d_X12_guards_93 x1 x3 s0 M = some z) : VV Lay k_X12_guards 93 [(0, .ref 69), (1, .int x1), (3, .int x3)] [.int s0] M z.2 (Qv (none) z.2) xF := by
  unfold d_X12_guards_93 at h
  refine Y_istore (pc := 93) (lv1 := [(4, .int s0), (0, .ref 69), (1, .int x1), (3, .int x3)]) dX12_guards_93 (by decide) rfl ?_
  refine Y_iload (pc := 95) (j := 0) dX12_guards_95 rfl ?_
  refine Y_if_eq (pc := 97) (tgt := 135) dX12_guards_97 (by decide) (fun hc1 => ?_) (fun hc1 => ?_)
  · replace h := ifT hc1 h
    refine VV.sub [1, 2, 0] rfl ?_
    exact b_X12_guards_135  hP h
  · replace h := ifF hc1 h
    refine Y_iload_n (pc := 100) (j := 2) dX12_guards_100 rfl rfl ?_
    refine Y_bipush (pc := 101) (v := (47 : Int32)) dX12_guards_101 rfl ?_
    refine Y_icmp_eq (pc := 103) (tgt := 112) dX12_guards_103 (by decide) (fun hc2 => ?_) (fun hc2 => ?_)
    · replace h := ifT hc2 h
      refine VV.sub [1, 2, 3, 0] rfl ?_
      exact b_X12_guards_112  hP h
    · replace h := ifF hc2 h
      refine Y_iload_n (pc := 106) (j := 2) dX12_guards_106 rfl rfl ?_
      refine Y_bipush (pc := 107) (v := (37 : Int32)) dX12_guards_107 rfl ?_
      refine Y_icmp_ne (pc := 109) (tgt := 135) dX12_guards_109 (by decide) (fun hc3 => ?_) (fun hc3 => ?_)
      · replace h := ifF hc3 h
        refine VV.sub [1, 2, 0] rfl ?_
        exact b_X12_guards_135  hP h
      · replace h := ifT hc3 h
        refine VV.sub [1, 2, 3, 0] rfl ?_
        exact b_X12_guards_112  hP h
theorem b_X12_guards_92 {x1 : Int32} {x3 : Int32} {M z} (hP : Lay M) (h : d_X12_guards_92 x1 x3 M = some z) : VV Lay k_X12_guards 92 [(0, .ref 69), (1, .int x1), (3, .int x3)] [] M z.2 (Qv (none) z.2) xF := by
  unfold d_X12_guards_92 at h
  refine Y_iconst (pc := 92) (v := (0 : Int32)) dX12_guards_92 rfl ?_
  refine VV.sub [0, 1, 2] rfl ?_
  exact b_X12_guards_93  hP h
theorem b_X12_guards_48 {x1 : Int32} {x3 : Int32} {M z} (hP : Lay M) (h : d_X12_guards_48 x1 x3 M = some z) : VV Lay k_X12_guards 48 [(0, .ref 69), (1, .int x1), (3, .int x3)] [] M z.2 (Qv (none) z.2) xF := by
  unfold d_X12_guards_48 at h
  refine Y_aload_n (pc := 48) (j := 0) dX12_guards_48 rfl rfl ?_
  refine Y_iconst (pc := 49) (v := (1 : Int32)) dX12_guards_49 rfl ?_
  obtain ⟨y1, qy1, h⟩ := bindE h
  have cy1 := v_X12_asksKind hP qy1
  refine C_V1o (pc := 50) (k' := k_X12_asksKind) dX12_guards_50 w10_119 i_X12_asksKind (lk_69 hP) ⟨Nat.le_of_ble_eq_true rfl, Nat.le_of_ble_eq_true rfl⟩ rfl (Nat.le_of_ble_eq_true rfl) (Nat.le_of_ble_eq_true rfl) (Nat.le_of_ble_eq_true rfl) (cy1) ?_
  have hPy1 := cy1.1.1
  refine Y_aload_n (pc := 53) (j := 0) dX12_guards_53 rfl rfl ?_
  refine Y_iconst (pc := 54) (v := (0 : Int32)) dX12_guards_54 rfl ?_
  obtain ⟨y2, qy2, h⟩ := bindE h
  have cy2 := v_X12_asksKind hPy1 qy2
  refine C_V1o (pc := 55) (k' := k_X12_asksKind) dX12_guards_55 w10_119 i_X12_asksKind (lk_69 hPy1) ⟨Nat.le_of_ble_eq_true rfl, Nat.le_of_ble_eq_true rfl⟩ rfl (Nat.le_of_ble_eq_true rfl) (Nat.le_of_ble_eq_true rfl) (Nat.le_of_ble_eq_true rfl) (cy2) ?_
  have hPy2 := cy2.1.1
  refine Y_aload_n (pc := 58) (j := 0) dX12_guards_58 rfl rfl ?_
  refine Z_getr (pc := 59) dX12_guards_59 w8_110 (lk_69 hPy2) fr_12_44 (lr_69_44 hPy2) ?_
  refine Y_aload_n (pc := 62) (j := 0) dX12_guards_62 rfl rfl ?_
  refine Y_iconst (pc := 63) (v := (1 : Int32)) dX12_guards_63 rfl ?_
  obtain ⟨y3, qy3, h⟩ := bindE h
  have cy3 := v_X12_top hPy2 qy3
  refine C_V1r (pc := 64) (k' := k_X12_top) dX12_guards_64 w9_200 i_X12_top (lk_69 hPy2) ⟨Nat.le_of_ble_eq_true rfl, Nat.le_of_ble_eq_true rfl⟩ rfl (Nat.le_of_ble_eq_true rfl) (Nat.le_of_ble_eq_true rfl) (Nat.le_of_ble_eq_true rfl) (cy3) ?_
  have hPy3 := cy3.1.1
  obtain ⟨hb1, h⟩ := okE h
  refine Y_cald (pc := 67) dX12_guards_67 (lk_105 hPy3) (ln_105 hPy3) hb1 ?_
  refine Y_bipush (pc := 68) (v := (105 : Int32)) dX12_guards_68 rfl ?_
  refine Y_icmp_ne (pc := 70) (tgt := 92) dX12_guards_70 (by decide) (fun hc1 => ?_) (fun hc1 => ?_)
  · replace h := ifF hc1 h
    refine VV.sub [0, 1, 2] rfl ?_
    exact b_X12_guards_92  hPy3 h
  · replace h := ifT hc1 h
    refine Y_aload_n (pc := 73) (j := 0) dX12_guards_73 rfl rfl ?_
    refine Z_getr (pc := 74) dX12_guards_74 w8_110 (lk_69 hPy3) fr_12_44 (lr_69_44 hPy3) ?_
    refine Y_aload_n (pc := 77) (j := 0) dX12_guards_77 rfl rfl ?_
    refine Y_iconst (pc := 78) (v := (0 : Int32)) dX12_guards_78 rfl ?_
    obtain ⟨y4, qy4, h⟩ := bindE h
    have cy4 := v_X12_top hPy3 qy4
    refine C_V1r (pc := 79) (k' := k_X12_top) dX12_guards_79 w9_200 i_X12_top (lk_69 hPy3) ⟨Nat.le_of_ble_eq_true rfl, Nat.le_of_ble_eq_true rfl⟩ rfl (Nat.le_of_ble_eq_true rfl) (Nat.le_of_ble_eq_true rfl) (Nat.le_of_ble_eq_true rfl) (cy4) ?_
    have hPy4 := cy4.1.1
    obtain ⟨hb2, h⟩ := okE h
    refine Y_cald (pc := 82) dX12_guards_82 (lk_105 hPy4) (ln_105 hPy4) hb2 ?_
    refine Y_bipush (pc := 83) (v := (105 : Int32)) dX12_guards_83 rfl ?_
    refine Y_icmp_ne (pc := 85) (tgt := 92) dX12_guards_85 (by decide) (fun hc2 => ?_) (fun hc2 => ?_)
    · replace h := ifF hc2 h
      refine VV.sub [0, 1, 2] rfl ?_
      exact b_X12_guards_92  hPy4 h
    · replace h := ifT hc2 h
      refine Y_iconst (pc := 88) (v := (1 : Int32)) dX12_guards_88 rfl ?_
      refine Y_goto (pc := 89) (tgt := 93) dX12_guards_89 (by decide) ?_
      refine VV.sub [0, 1, 2] rfl ?_
      exact b_X12_guards_93  hPy4 h
set_option maxRecDepth 20000 in
theorem b_X12_guards {x1 : Int32} {M z} (hP : Lay M) (h : d_X12_guards x1 M = some z) : VV Lay k_X12_guards 0 [(0, .ref 69), (1, .int x1)] [] M z.2 (Qv (none) z.2) xF := by
  unfold d_X12_guards at h
  refine Y_iload_n (pc := 0) (j := 1) dX12_guards_0 rfl rfl ?_
  obtain ⟨y1, qy1, h⟩ := bindE h
  have cy1 := v_X12_isPair hP qy1
  refine C_S1r (pc := 1) (k' := k_X12_isPair) dX12_guards_1 w9_129 i_X12_isPair (Nat.le_of_ble_eq_true rfl) (Nat.le_of_ble_eq_true rfl) (Nat.le_of_ble_eq_true rfl) (cy1) ?_
  have hPy1 := cy1.1.1
  refine Y_if_eq (pc := 4) (tgt := 203) dX12_guards_4 (by decide) (fun hc1 => ?_) (fun hc1 => ?_)
  · replace h := ifT hc1 h
    refine Y_iload_n (pc := 203) (j := 1) dX12_guards_203 rfl rfl ?_
    refine Y_bipush (pc := 204) (v := (119 : Int32)) dX12_guards_204 rfl ?_
    refine Y_icmp_ne (pc := 206) (tgt := 217) dX12_guards_206 (by decide) (fun hc2 => ?_) (fun hc2 => ?_)
    · replace h := ifF hc2 h
      refine Y_iload_n (pc := 217) (j := 1) dX12_guards_217 rfl rfl ?_
      refine Y_bipush (pc := 218) (v := (122 : Int32)) dX12_guards_218 rfl ?_
      refine Y_icmp_ne (pc := 220) (tgt := 292) dX12_guards_220 (by decide) (fun hc3 => ?_) (fun hc3 => ?_)
      · replace h := ifF hc3 h
        refine Y_iload_n (pc := 292) (j := 1) dX12_guards_292 rfl rfl ?_
        refine Y_bipush (pc := 293) (v := (103 : Int32)) dX12_guards_293 rfl ?_
        refine Y_icmp_eq (pc := 295) (tgt := 304) dX12_guards_295 (by decide) (fun hc4 => ?_) (fun hc4 => ?_)
        · replace h := ifT hc4 h
          refine VV.sub [0] rfl ?_
          exact b_X12_guards_304  hPy1 h
        · replace h := ifF hc4 h
          refine Y_iload_n (pc := 298) (j := 1) dX12_guards_298 rfl rfl ?_
          refine Y_bipush (pc := 299) (v := (109 : Int32)) dX12_guards_299 rfl ?_
          refine Y_icmp_ne (pc := 301) (tgt := 312) dX12_guards_301 (by decide) (fun hc5 => ?_) (fun hc5 => ?_)
          · replace h := ifF hc5 h
            refine Y_iload_n (pc := 312) (j := 1) dX12_guards_312 rfl rfl ?_
            refine Y_bipush (pc := 313) (v := (112 : Int32)) dX12_guards_313 rfl ?_
            refine Y_icmp_ne (pc := 315) (tgt := 323) dX12_guards_315 (by decide) (fun hc6 => ?_) (fun hc6 => ?_)
            · replace h := ifF hc6 h
              cases h
              exact Y_vret (pc := 323) rfl dX12_guards_323 hPy1 ⟨rfl, rfl⟩
            · replace h := ifT hc6 h
              refine Y_aload_n (pc := 318) (j := 0) dX12_guards_318 rfl rfl ?_
              refine Y_iconst (pc := 319) (v := (1 : Int32)) dX12_guards_319 rfl ?_
              obtain ⟨y2, qy2, h⟩ := bindE h
              have cy2 := v_X12_asksShape hPy1 qy2
              refine C_V1o (pc := 320) (k' := k_X12_asksShape) dX12_guards_320 w10_135 i_X12_asksShape (lk_69 hPy1) ⟨Nat.le_of_ble_eq_true rfl, Nat.le_of_ble_eq_true rfl⟩ rfl (Nat.le_of_ble_eq_true rfl) (Nat.le_of_ble_eq_true rfl) (Nat.le_of_ble_eq_true rfl) (cy2) ?_
              have hPy2 := cy2.1.1
              cases h
              exact Y_vret (pc := 323) rfl dX12_guards_323 hPy2 ⟨rfl, rfl⟩
          · replace h := ifT hc5 h
            refine VV.sub [0] rfl ?_
            exact b_X12_guards_304  hPy1 h
      · replace h := ifT hc3 h
        refine Y_aload_n (pc := 223) (j := 0) dX12_guards_223 rfl rfl ?_
        refine Z_getr (pc := 224) dX12_guards_224 w8_113 (lk_69 hPy1) fr_12_47 (lr_69_47 hPy1) ?_
        refine Y_aload_n (pc := 227) (j := 0) dX12_guards_227 rfl rfl ?_
        refine Y_iconst (pc := 228) (v := (0 : Int32)) dX12_guards_228 rfl ?_
        obtain ⟨y3, qy3, h⟩ := bindE h
        have cy3 := v_X12_top hPy1 qy3
        refine C_V1r (pc := 229) (k' := k_X12_top) dX12_guards_229 w9_200 i_X12_top (lk_69 hPy1) ⟨Nat.le_of_ble_eq_true rfl, Nat.le_of_ble_eq_true rfl⟩ rfl (Nat.le_of_ble_eq_true rfl) (Nat.le_of_ble_eq_true rfl) (Nat.le_of_ble_eq_true rfl) (cy3) ?_
        have hPy3 := cy3.1.1
        obtain ⟨hb1, h⟩ := okE h
        refine Y_iald (pc := 232) dX12_guards_232 (lk_108 hPy3) (ln_108 hPy3) hb1 ?_
        obtain ⟨b1, eb1, h⟩ := bndE h
        refine VV.topI eb1 ?_
        refine Y_istore_n (pc := 233) (lv1 := [(2, .int b1), (0, .ref 69), (1, .int x1)]) dX12_guards_233 rfl (by decide) rfl ?_
        refine Y_aload_n (pc := 234) (j := 1) dX12_guards_234 rfl rfl ?_
        refine Y_iload_n (pc := 235) (j := 0) dX12_guards_235 rfl rfl ?_
        obtain ⟨y4, qy4, h⟩ := bindE h
        have cy4 := v_X12_isNullKnown hPy3 qy4
        refine C_V1r (pc := 236) (k' := k_X12_isNullKnown) dX12_guards_236 w10_131 i_X12_isNullKnown (lk_69 hPy3) ⟨Nat.le_of_ble_eq_true rfl, Nat.le_of_ble_eq_true rfl⟩ rfl (Nat.le_of_ble_eq_true rfl) (Nat.le_of_ble_eq_true rfl) (Nat.le_of_ble_eq_true rfl) (cy4) ?_
        have hPy4 := cy4.1.1
        refine Y_if_ne (pc := 239) (tgt := 289) dX12_guards_239 (by decide) (fun hc7 => ?_) (fun hc7 => ?_)
        · replace h := ifF hc7 h
          refine Y_goto (pc := 289) (tgt := 323) dX12_guards_289 (by decide) ?_
          cases h
          exact Y_vret (pc := 323) rfl dX12_guards_323 hPy4 ⟨rfl, rfl⟩
        · replace h := ifT hc7 h
          refine Y_aload_n (pc := 242) (j := 1) dX12_guards_242 rfl rfl ?_
          refine Y_bipush (pc := 243) (v := (116 : Int32)) dX12_guards_243 rfl ?_
          refine Y_iconst (pc := 245) (v := (0 : Int32)) dX12_guards_245 rfl ?_
          refine Y_aload_n (pc := 246) (j := 1) dX12_guards_246 rfl rfl ?_
          refine Y_aload_n (pc := 247) (j := 1) dX12_guards_247 rfl rfl ?_
          refine Y_iconst (pc := 248) (v := (0 : Int32)) dX12_guards_248 rfl ?_
          obtain ⟨y5, qy5, h⟩ := bindE h
          have cy5 := v_X12_top hPy4 qy5
          refine C_V1r (pc := 249) (k' := k_X12_top) dX12_guards_249 w9_200 i_X12_top (lk_69 hPy4) ⟨Nat.le_of_ble_eq_true rfl, Nat.le_of_ble_eq_true rfl⟩ rfl (Nat.le_of_ble_eq_true rfl) (Nat.le_of_ble_eq_true rfl) (Nat.le_of_ble_eq_true rfl) (cy5) ?_
          have hPy5 := cy5.1.1
          obtain ⟨y6, qy6, h⟩ := bindE h
          have cy6 := v_X12_isNull hPy5 qy6
          refine C_V1r (pc := 252) (k' := k_X12_isNull) dX12_guards_252 w10_5 i_X12_isNull (lk_69 hPy5) ⟨Nat.le_of_ble_eq_true rfl, Nat.le_of_ble_eq_true rfl⟩ rfl (Nat.le_of_ble_eq_true rfl) (Nat.le_of_ble_eq_true rfl) (Nat.le_of_ble_eq_true rfl) (cy6) ?_
          have hPy6 := cy6.1.1
          refine Y_if_eq (pc := 255) (tgt := 262) dX12_guards_255 (by decide) (fun hc8 => ?_) (fun hc8 => ?_)
          · replace h := ifT hc8 h
            refine Y_iconst (pc := 262) (v := (0 : Int32)) dX12_guards_262 rfl ?_
            refine VV.sub [1, 0] rfl ?_
            exact b_X12_guards_263  hPy6 h
          · replace h := ifF hc8 h
            refine Y_iconst (pc := 258) (v := (1 : Int32)) dX12_guards_258 rfl ?_
            refine Y_goto (pc := 259) (tgt := 263) dX12_guards_259 (by decide) ?_
            refine VV.sub [1, 0] rfl ?_
            exact b_X12_guards_263  hPy6 h
    · replace h := ifT hc2 h
      refine Y_aload_n (pc := 209) (j := 0) dX12_guards_209 rfl rfl ?_
      refine Y_iconst (pc := 210) (v := (0 : Int32)) dX12_guards_210 rfl ?_
      obtain ⟨y7, qy7, h⟩ := bindE h
      have cy7 := v_X12_asksKind hPy1 qy7
      refine C_V1o (pc := 211) (k' := k_X12_asksKind) dX12_guards_211 w10_119 i_X12_asksKind (lk_69 hPy1) ⟨Nat.le_of_ble_eq_true rfl, Nat.le_of_ble_eq_true rfl⟩ rfl (Nat.le_of_ble_eq_true rfl) (Nat.le_of_ble_eq_true rfl) (Nat.le_of_ble_eq_true rfl) (cy7) ?_
      have hPy7 := cy7.1.1
      refine Y_goto (pc := 214) (tgt := 323) dX12_guards_214 (by decide) ?_
      cases h
      exact Y_vret (pc := 323) rfl dX12_guards_323 hPy7 ⟨rfl, rfl⟩
  · replace h := ifF hc1 h
    refine Y_aload_n (pc := 7) (j := 0) dX12_guards_7 rfl rfl ?_
    refine Z_getr (pc := 8) dX12_guards_8 w8_113 (lk_69 hPy1) fr_12_47 (lr_69_47 hPy1) ?_
    refine Y_aload_n (pc := 11) (j := 0) dX12_guards_11 rfl rfl ?_
    refine Y_iconst (pc := 12) (v := (1 : Int32)) dX12_guards_12 rfl ?_
    obtain ⟨y8, qy8, h⟩ := bindE h
    have cy8 := v_X12_top hPy1 qy8
    refine C_V1r (pc := 13) (k' := k_X12_top) dX12_guards_13 w9_200 i_X12_top (lk_69 hPy1) ⟨Nat.le_of_ble_eq_true rfl, Nat.le_of_ble_eq_true rfl⟩ rfl (Nat.le_of_ble_eq_true rfl) (Nat.le_of_ble_eq_true rfl) (Nat.le_of_ble_eq_true rfl) (cy8) ?_
    have hPy8 := cy8.1.1
    obtain ⟨hb2, h⟩ := okE h
    refine Y_iald (pc := 16) dX12_guards_16 (lk_108 hPy8) (ln_108 hPy8) hb2 ?_
    obtain ⟨b2, eb2, h⟩ := bndE h
    refine VV.topI eb2 ?_
    refine Y_istore_n (pc := 17) (lv1 := [(2, .int b2), (0, .ref 69), (1, .int x1)]) dX12_guards_17 rfl (by decide) rfl ?_
    refine Y_aload_n (pc := 18) (j := 1) dX12_guards_18 rfl rfl ?_
    refine Z_getr (pc := 19) dX12_guards_19 w8_113 (lk_69 hPy8) fr_12_47 (lr_69_47 hPy8) ?_
    refine Y_aload_n (pc := 22) (j := 1) dX12_guards_22 rfl rfl ?_
    refine Y_iconst (pc := 23) (v := (0 : Int32)) dX12_guards_23 rfl ?_
    obtain ⟨y9, qy9, h⟩ := bindE h
    have cy9 := v_X12_top hPy8 qy9
    refine C_V1r (pc := 24) (k' := k_X12_top) dX12_guards_24 w9_200 i_X12_top (lk_69 hPy8) ⟨Nat.le_of_ble_eq_true rfl, Nat.le_of_ble_eq_true rfl⟩ rfl (Nat.le_of_ble_eq_true rfl) (Nat.le_of_ble_eq_true rfl) (Nat.le_of_ble_eq_true rfl) (cy9) ?_
    have hPy9 := cy9.1.1
    obtain ⟨hb3, h⟩ := okE h
    refine Y_iald (pc := 27) dX12_guards_27 (lk_108 hPy9) (ln_108 hPy9) hb3 ?_
    obtain ⟨b3, eb3, h⟩ := bndE h
    refine VV.topI eb3 ?_
    refine Y_istore_n (pc := 28) (lv1 := [(3, .int b3), (2, .int b2), (0, .ref 69), (1, .int x1)]) dX12_guards_28 rfl (by decide) rfl ?_
    refine Y_aload_n (pc := 29) (j := 2) dX12_guards_29 rfl rfl ?_
    refine Z_getr (pc := 30) dX12_guards_30 w8_151 (lk_69 hPy9) fr_12_85 (lr_69_85 hPy9) ?_
    refine Y_iload_n (pc := 33) (j := 1) dX12_guards_33 rfl rfl ?_
    obtain ⟨hb4, h⟩ := okE h
    refine Y_zald (pc := 34) dX12_guards_34 (lk_124 hPy9) (ln_124 hPy9) hb4 ?_
    refine Y_if_eq (pc := 35) (tgt := 48) dX12_guards_35 (by decide) (fun hc9 => ?_) (fun hc9 => ?_)
    · replace h := ifT hc9 h
      refine VV.sub [2, 3, 0] rfl ?_
      exact b_X12_guards_48  hPy9 h
    · replace h := ifF hc9 h
      refine Y_aload_n (pc := 38) (j := 2) dX12_guards_38 rfl rfl ?_
      refine Z_getr (pc := 39) dX12_guards_39 w8_151 (lk_69 hPy9) fr_12_85 (lr_69_85 hPy9) ?_
      refine Y_iload_n (pc := 42) (j := 0) dX12_guards_42 rfl rfl ?_
      obtain ⟨hb5, h⟩ := okE h
      refine Y_zald (pc := 43) dX12_guards_43 (lk_124 hPy9) (ln_124 hPy9) hb5 ?_
      refine Y_if_eq (pc := 44) (tgt := 48) dX12_guards_44 (by decide) (fun hc10 => ?_) (fun hc10 => ?_)
      · replace h := ifT hc10 h
        refine VV.sub [2, 3, 0] rfl ?_
        exact b_X12_guards_48  hPy9 h
      · replace h := ifF hc10 h
        cases h
        exact Y_vret (pc := 47) rfl dX12_guards_47 hPy9 ⟨rfl, rfl⟩
theorem v_X12_guards {x1 : Int32} {M z} (hP : Lay M) (h : d_X12_guards x1 M = some z) : CC Lay k_X12_guards [.ref 69, .int x1] M z.2 (Qv (none) z.2) xF :=
  CC.ofVV (by decide) rfl (Nat.le_of_ble_eq_true rfl) (b_X12_guards hP h)
end VCR

