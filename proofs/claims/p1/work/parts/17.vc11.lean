/-! ===== what the methods reckon (printed by a program) ===== -/
section VCR
theorem b_X11_needFunction {x1 : Int32} {M z} (hP : Lay M) (h : d_X11_needFunction x1 M = some z) : VV Lay k_X11_needFunction 0 [(0, .ref 1), (1, .int x1)] [] M z.2 (QS (fun _ => none) z) (XS z) := by
  unfold d_X11_needFunction at h
  refine Y_aload_n (pc := 0) (j := 0) dX11_needFunction_0 rfl rfl ?_
  refine Z_getr (pc := 1) dX11_needFunction_1 w3_52 (lk_1 hP) fr_11_0 (lr_1_0 hP) ?_
  refine Y_iload_n (pc := 4) (j := 1) dX11_needFunction_4 rfl rfl ?_
  obtain ⟨y1, qy1, h⟩ := bindE h
  have cy1 := v_X5_hasFunction hP qy1
  refine C_V1r (pc := 5) (k' := k_X5_hasFunction) dX11_needFunction_5 w4_15 i_X5_hasFunction (lk_2 hP) ⟨Nat.le_of_ble_eq_true rfl, Nat.le_of_ble_eq_true rfl⟩ rfl (Nat.le_of_ble_eq_true rfl) (Nat.le_of_ble_eq_true rfl) (Nat.le_of_ble_eq_true rfl) (cy1) ?_
  have hPy1 := cy1.1.1
  refine Y_if_ne (pc := 8) (tgt := 21) dX11_needFunction_8 (by decide) (fun hc1 => ?_) (fun hc1 => ?_)
  · replace h := ifF hc1 h
    cases h
    exact Y_vret (pc := 21) rfl dX11_needFunction_21 hPy1 ⟨_, rfl, rfl, rfl⟩
  · replace h := ifT hc1 h
    cases h
    exact Y_throw_IndexOutOfBoundsException (pc := 11) w4_19 w4_29 (mi := 2) rfl dX11_needFunction_11 dX11_needFunction_14 dX11_needFunction_15 dX11_needFunction_17 dX11_needFunction_20 rfl (Nat.le_of_ble_eq_true rfl) (Nat.le_of_ble_eq_true rfl) (Nat.le_of_ble_eq_true rfl) (hPy1.wT rfl) ⟨rfl, rfl⟩
theorem v_X11_needFunction {x1 : Int32} {M z} (hP : Lay M) (h : d_X11_needFunction x1 M = some z) : CC Lay k_X11_needFunction [.ref 1, .int x1] M z.2 (QS (fun _ => none) z) (XS z) :=
  CC.ofVV (by decide) rfl (Nat.le_of_ble_eq_true rfl) (b_X11_needFunction hP h)
theorem b_X11_code {x1 : Int32} {x2 : Int32} {x3 : Int32} {M z} (hP : Lay M) (h : d_X11_code x1 x2 x3 M = some z) : VV Lay k_X11_code 0 [(0, .ref 1), (1, .int x1), (2, .int x2), (3, .int x3)] [] M z.2 (QS (fun v => some (.int v)) z) (XS z) := by
  unfold d_X11_code at h
  refine Y_aload_n (pc := 0) (j := 0) dX11_code_0 rfl rfl ?_
  refine Y_iload_n (pc := 1) (j := 1) dX11_code_1 rfl rfl ?_
  obtain ⟨y1, qy1, h⟩ := bindE h
  have cy1 := v_X11_needFunction hP qy1
  have hPN1 := cy1.1.1
  obtain ⟨y1 | E1, N1⟩ := y1
  · replace h := id h
    refine C_V1o (k' := k_X11_needFunction) dX11_code_2 w4_11 i_X11_needFunction (lk_1 hP) ⟨Nat.le_of_ble_eq_true rfl, Nat.le_of_ble_eq_true rfl⟩ rfl (Nat.le_of_ble_eq_true rfl) (Nat.le_of_ble_eq_true rfl) (Nat.le_of_ble_eq_true rfl) (cy1.mono id (QSl rfl) (XSl rfl)) ?_
    refine Y_ldcS (pc := 5) (i := 0) dX11_code_5 rfl ?_
    refine Y_iload_n (pc := 7) (j := 2) dX11_code_7 rfl rfl ?_
    refine Y_indexOf (pc := 8) dX11_code_8 w4_33 (i := 0) (by decide) (Nat.le_of_ble_eq_true rfl) (Nat.le_of_ble_eq_true rfl) (Nat.le_of_ble_eq_true rfl) ?_
    refine Y_if_ge (pc := 11) (tgt := 24) dX11_code_11 (by decide) (fun hc1 => ?_) (fun hc1 => ?_)
    · replace h := ifT hc1 h
      refine Y_aload_n (pc := 24) (j := 0) dX11_code_24 rfl rfl ?_
      refine Z_getr (pc := 25) dX11_code_25 w3_52 (lk_1 hPN1) fr_11_0 (lr_1_0 hPN1) ?_
      refine Y_iload_n (pc := 28) (j := 2) dX11_code_28 rfl rfl ?_
      refine Y_iload_n (pc := 29) (j := 3) dX11_code_29 rfl rfl ?_
      obtain ⟨y2, qy2, h⟩ := bindE h
      have cy2 := v_X5_allowsOperand hPN1 qy2
      refine C_V2r (pc := 30) (k' := k_X5_allowsOperand) dX11_code_30 w4_118 i_X5_allowsOperand (lk_2 hPN1) ⟨Nat.le_of_ble_eq_true rfl, Nat.le_of_ble_eq_true rfl⟩ rfl (Nat.le_of_ble_eq_true rfl) (Nat.le_of_ble_eq_true rfl) (Nat.le_of_ble_eq_true rfl) (cy2) ?_
      have hPy2 := cy2.1.1
      refine Y_if_ne (pc := 33) (tgt := 46) dX11_code_33 (by decide) (fun hc2 => ?_) (fun hc2 => ?_)
      · replace h := ifF hc2 h
        refine Y_aload_n (pc := 46) (j := 0) dX11_code_46 rfl rfl ?_
        refine Z_getr (pc := 47) dX11_code_47 w3_52 (lk_1 hPy2) fr_11_0 (lr_1_0 hPy2) ?_
        refine Z_getr (pc := 50) dX11_code_50 w1_57 (lk_2 hPy2) fr_5_1 (lr_2_1 hPy2) ?_
        refine Y_iload_n (pc := 53) (j := 1) dX11_code_53 rfl rfl ?_
        obtain ⟨hb1, h⟩ := okE h
        refine Y_iald (pc := 54) dX11_code_54 (lk_4 hPy2) (ln_4 hPy2) hb1 ?_
        refine Y_bipush (pc := 55) (v := (40 : Int32)) dX11_code_55 rfl ?_
        refine Y_icmp_lt (pc := 57) (tgt := 70) dX11_code_57 (by decide) (fun hc3 => ?_) (fun hc3 => ?_)
        · replace h := ifT hc3 h
          refine Y_aload_n (pc := 70) (j := 0) dX11_code_70 rfl rfl ?_
          refine Z_getr (pc := 71) dX11_code_71 w3_52 (lk_1 hPy2) fr_11_0 (lr_1_0 hPy2) ?_
          refine Y_iload_n (pc := 74) (j := 1) dX11_code_74 rfl rfl ?_
          refine Y_iload_n (pc := 75) (j := 2) dX11_code_75 rfl rfl ?_
          refine Y_iload_n (pc := 76) (j := 3) dX11_code_76 rfl rfl ?_
          obtain ⟨y3, qy3, h⟩ := bindE h
          have cy3 := v_X5_append hPy2 qy3
          refine C_V3r (pc := 77) (k' := k_X5_append) dX11_code_77 w4_128 i_X5_append (lk_2 hPy2) ⟨Nat.le_of_ble_eq_true rfl, Nat.le_of_ble_eq_true rfl⟩ rfl (Nat.le_of_ble_eq_true rfl) (Nat.le_of_ble_eq_true rfl) (Nat.le_of_ble_eq_true rfl) (cy3) ?_
          have hPy3 := cy3.1.1
          cases h
          exact Y_iret (pc := 80) rfl rfl dX11_code_80 hPy3 ⟨_, rfl, rfl, rfl⟩
        · replace h := ifF hc3 h
          cases h
          exact Y_throw_IllegalStateException (pc := 60) w3_200 w3_210 (mi := 5) rfl dX11_code_60 dX11_code_63 dX11_code_64 dX11_code_66 dX11_code_69 rfl (Nat.le_of_ble_eq_true rfl) (Nat.le_of_ble_eq_true rfl) (Nat.le_of_ble_eq_true rfl) (hPy2.wT rfl) ⟨rfl, rfl⟩
      · replace h := ifT hc2 h
        cases h
        exact Y_throw_IllegalArgumentException (pc := 36) w3_128 w3_174 (mi := 4) rfl dX11_code_36 dX11_code_39 dX11_code_40 dX11_code_42 dX11_code_45 rfl (Nat.le_of_ble_eq_true rfl) (Nat.le_of_ble_eq_true rfl) (Nat.le_of_ble_eq_true rfl) (hPy2.wT rfl) ⟨rfl, rfl⟩
    · replace h := ifF hc1 h
      cases h
      exact Y_throw_IllegalArgumentException (pc := 14) w3_128 w3_174 (mi := 3) rfl dX11_code_14 dX11_code_17 dX11_code_18 dX11_code_20 dX11_code_23 rfl (Nat.le_of_ble_eq_true rfl) (Nat.le_of_ble_eq_true rfl) (Nat.le_of_ble_eq_true rfl) (hPN1.wT rfl) ⟨rfl, rfl⟩
  · replace h := id h
    cases h
    refine C_V1x (k' := k_X11_needFunction) dX11_code_2 w4_11 i_X11_needFunction (lk_1 hP) ⟨Nat.le_of_ble_eq_true rfl, Nat.le_of_ble_eq_true rfl⟩ rfl (Nat.le_of_ble_eq_true rfl) (Nat.le_of_ble_eq_true rfl) (Nat.le_of_ble_eq_true rfl) (cy1.mono id (QSr rfl) (XSr rfl)) ?_
    exact Y_out (by decide) hPN1 ⟨rfl, rfl⟩
theorem v_X11_code {x1 : Int32} {x2 : Int32} {x3 : Int32} {M z} (hP : Lay M) (h : d_X11_code x1 x2 x3 M = some z) : CC Lay k_X11_code [.ref 1, .int x1, .int x2, .int x3] M z.2 (QS (fun v => some (.int v)) z) (XS z) :=
  CC.ofVV (by decide) rfl (Nat.le_of_ble_eq_true rfl) (b_X11_code hP h)
theorem b_X11_needIndex_10 {M z} (hP : Lay M) (h : d_X11_needIndex_10 M = some z) : VV Lay k_X11_needIndex 10 [] [] M z.2 (QS (fun _ => none) z) (XS z) := by
  unfold d_X11_needIndex_10 at h
  cases h
  exact Y_throwW_IllegalArgumentException (pc := 10) w3_128 w3_174 (mi := 6) rfl dX11_needIndex_10 dX11_needIndex_13 dX11_needIndex_14 dX11_needIndex_17 dX11_needIndex_20 rfl (Nat.le_of_ble_eq_true rfl) (Nat.le_of_ble_eq_true rfl) (Nat.le_of_ble_eq_true rfl) (hP.wT rfl) ⟨rfl, rfl⟩
theorem b_X11_needIndex {x1 : Int32} {M z} (hP : Lay M) (h : d_X11_needIndex x1 M = some z) : VV Lay k_X11_needIndex 0 [(0, .ref 1), (1, .int x1)] [] M z.2 (QS (fun _ => none) z) (XS z) := by
  unfold d_X11_needIndex at h
  refine Y_iload_n (pc := 0) (j := 1) dX11_needIndex_0 rfl rfl ?_
  refine Y_if_lt (pc := 1) (tgt := 10) dX11_needIndex_1 (by decide) (fun hc1 => ?_) (fun hc1 => ?_)
  · replace h := ifT hc1 h
    refine VV.sub [] rfl ?_
    exact b_X11_needIndex_10  hP h
  · replace h := ifF hc1 h
    refine Y_iload_n (pc := 4) (j := 1) dX11_needIndex_4 rfl rfl ?_
    refine Y_bipush (pc := 5) (v := (40 : Int32)) dX11_needIndex_5 rfl ?_
    refine Y_icmp_lt (pc := 7) (tgt := 21) dX11_needIndex_7 (by decide) (fun hc2 => ?_) (fun hc2 => ?_)
    · replace h := ifT hc2 h
      cases h
      exact Y_vret (pc := 21) rfl dX11_needIndex_21 hP ⟨_, rfl, rfl, rfl⟩
    · replace h := ifF hc2 h
      refine VV.sub [] rfl ?_
      exact b_X11_needIndex_10  hP h
theorem v_X11_needIndex {x1 : Int32} {M z} (hP : Lay M) (h : d_X11_needIndex x1 M = some z) : CC Lay k_X11_needIndex [.ref 1, .int x1] M z.2 (QS (fun _ => none) z) (XS z) :=
  CC.ofVV (by decide) rfl (Nat.le_of_ble_eq_true rfl) (b_X11_needIndex hP h)
theorem b_X11_setHandler {x1 : Int32} {x2 : Int32} {M z} (hP : Lay M) (h : d_X11_setHandler x1 x2 M = some z) : VV Lay k_X11_setHandler 0 [(0, .ref 1), (1, .int x1), (2, .int x2)] [] M z.2 (QS (fun v => some (.int v)) z) (XS z) := by
  unfold d_X11_setHandler at h
  refine Y_aload_n (pc := 0) (j := 0) dX11_setHandler_0 rfl rfl ?_
  refine Y_iload_n (pc := 1) (j := 1) dX11_setHandler_1 rfl rfl ?_
  obtain ⟨y1, qy1, h⟩ := bindE h
  have cy1 := v_X11_needFunction hP qy1
  have hPN1 := cy1.1.1
  obtain ⟨y1 | E1, N1⟩ := y1
  · replace h := id h
    refine C_V1o (k' := k_X11_needFunction) dX11_setHandler_2 w4_11 i_X11_needFunction (lk_1 hP) ⟨Nat.le_of_ble_eq_true rfl, Nat.le_of_ble_eq_true rfl⟩ rfl (Nat.le_of_ble_eq_true rfl) (Nat.le_of_ble_eq_true rfl) (Nat.le_of_ble_eq_true rfl) (cy1.mono id (QSl rfl) (XSl rfl)) ?_
    refine Y_aload_n (pc := 5) (j := 0) dX11_setHandler_5 rfl rfl ?_
    refine Y_iload_n (pc := 6) (j := 2) dX11_setHandler_6 rfl rfl ?_
    obtain ⟨y2, qy2, h⟩ := bindE h
    have cy2 := v_X11_needIndex hPN1 qy2
    have hPN2 := cy2.1.1
    obtain ⟨y2 | E2, N2⟩ := y2
    · replace h := id h
      refine C_V1o (k' := k_X11_needIndex) dX11_setHandler_7 w4_142 i_X11_needIndex (lk_1 hPN1) ⟨Nat.le_of_ble_eq_true rfl, Nat.le_of_ble_eq_true rfl⟩ rfl (Nat.le_of_ble_eq_true rfl) (Nat.le_of_ble_eq_true rfl) (Nat.le_of_ble_eq_true rfl) (cy2.mono id (QSl rfl) (XSl rfl)) ?_
      refine Y_aload_n (pc := 10) (j := 0) dX11_setHandler_10 rfl rfl ?_
      refine Z_getr (pc := 11) dX11_setHandler_11 w3_52 (lk_1 hPN2) fr_11_0 (lr_1_0 hPN2) ?_
      refine Z_getr (pc := 14) dX11_setHandler_14 w1_59 (lk_2 hPN2) fr_5_2 (lr_2_2 hPN2) ?_
      refine Y_iload_n (pc := 17) (j := 1) dX11_setHandler_17 rfl rfl ?_
      obtain ⟨hb1, h⟩ := okE h
      refine Y_iald (pc := 18) dX11_setHandler_18 (lk_5 hPN2) (ln_5 hPN2) hb1 ?_
      obtain ⟨b1, eb1, h⟩ := bndE h
      refine VV.topI eb1 ?_
      refine Y_istore_n (pc := 19) (lv1 := [(3, .int b1), (0, .ref 1), (1, .int x1), (2, .int x2)]) dX11_setHandler_19 rfl (by decide) rfl ?_
      refine Y_aload_n (pc := 20) (j := 1) dX11_setHandler_20 rfl rfl ?_
      refine Z_getr (pc := 21) dX11_setHandler_21 w3_52 (lk_1 hPN2) fr_11_0 (lr_1_0 hPN2) ?_
      refine Z_getr (pc := 24) dX11_setHandler_24 w1_59 (lk_2 hPN2) fr_5_2 (lr_2_2 hPN2) ?_
      refine Y_iload_n (pc := 27) (j := 2) dX11_setHandler_27 rfl rfl ?_
      refine Y_iload_n (pc := 28) (j := 3) dX11_setHandler_28 rfl rfl ?_
      obtain ⟨hb2, h⟩ := okE h
      refine Y_iast (pc := 29) dX11_setHandler_29 (lk_5 hPN2) (ln_5 hPN2) hb2 ?_
      obtain ⟨M1, eM1, h⟩ := bndE h
      refine VV.mem eM1 ?_
      have hP1 := hPN2.wI eM1
      refine Y_iload_n (pc := 30) (j := 0) dX11_setHandler_30 rfl rfl ?_
      cases h
      exact Y_iret (pc := 31) rfl rfl dX11_setHandler_31 hP1 ⟨_, rfl, rfl, rfl⟩
    · replace h := id h
      cases h
      refine C_V1x (k' := k_X11_needIndex) dX11_setHandler_7 w4_142 i_X11_needIndex (lk_1 hPN1) ⟨Nat.le_of_ble_eq_true rfl, Nat.le_of_ble_eq_true rfl⟩ rfl (Nat.le_of_ble_eq_true rfl) (Nat.le_of_ble_eq_true rfl) (Nat.le_of_ble_eq_true rfl) (cy2.mono id (QSr rfl) (XSr rfl)) ?_
      exact Y_out (by decide) hPN2 ⟨rfl, rfl⟩
  · replace h := id h
    cases h
    refine C_V1x (k' := k_X11_needFunction) dX11_setHandler_2 w4_11 i_X11_needFunction (lk_1 hP) ⟨Nat.le_of_ble_eq_true rfl, Nat.le_of_ble_eq_true rfl⟩ rfl (Nat.le_of_ble_eq_true rfl) (Nat.le_of_ble_eq_true rfl) (Nat.le_of_ble_eq_true rfl) (cy1.mono id (QSr rfl) (XSr rfl)) ?_
    exact Y_out (by decide) hPN1 ⟨rfl, rfl⟩
theorem v_X11_setHandler {x1 : Int32} {x2 : Int32} {M z} (hP : Lay M) (h : d_X11_setHandler x1 x2 M = some z) : CC Lay k_X11_setHandler [.ref 1, .int x1, .int x2] M z.2 (QS (fun v => some (.int v)) z) (XS z) :=
  CC.ofVV (by decide) rfl (Nat.le_of_ble_eq_true rfl) (b_X11_setHandler hP h)
theorem b_X11_addClass_26 {x1 : Int32} {M z} (hP : Lay M) (h : d_X11_addClass_26 x1 M = some z) : VV Lay k_X11_addClass 26 [(0, .ref 1), (1, .int x1)] [] M z.2 (QS (fun v => some (.int v)) z) (XS z) := by
  unfold d_X11_addClass_26 at h
  refine Y_aload_n (pc := 26) (j := 0) dX11_addClass_26 rfl rfl ?_
  refine Z_getr (pc := 27) dX11_addClass_27 w3_52 (lk_1 hP) fr_11_0 (lr_1_0 hP) ?_
  refine Z_geti (pc := 30) dX11_addClass_30 w1_78 (lk_2 hP) fi_5_9 ?_
  refine Y_iconst (pc := 33) (v := (5 : Int32)) dX11_addClass_33 rfl ?_
  refine Y_icmp_lt (pc := 34) (tgt := 47) dX11_addClass_34 (by decide) (fun hc1 => ?_) (fun hc1 => ?_)
  · replace h := ifT hc1 h
    refine Y_aload_n (pc := 47) (j := 0) dX11_addClass_47 rfl rfl ?_
    refine Z_getr (pc := 48) dX11_addClass_48 w3_53 (lk_1 hP) fr_11_1 (lr_1_1 hP) ?_
    refine Z_geti (pc := 51) dX11_addClass_51 w1_121 (lk_11 hP) fi_7_6 ?_
    refine Y_bipush (pc := 54) (v := (60 : Int32)) dX11_addClass_54 rfl ?_
    refine Y_icmp_lt (pc := 56) (tgt := 69) dX11_addClass_56 (by decide) (fun hc2 => ?_) (fun hc2 => ?_)
    · replace h := ifT hc2 h
      refine Y_aload_n (pc := 69) (j := 0) dX11_addClass_69 rfl rfl ?_
      refine Z_getr (pc := 70) dX11_addClass_70 w3_52 (lk_1 hP) fr_11_0 (lr_1_0 hP) ?_
      refine Y_iload_n (pc := 73) (j := 1) dX11_addClass_73 rfl rfl ?_
      obtain ⟨y1, qy1, h⟩ := bindE h
      have cy1 := v_X5_addClassBelow hP qy1
      refine C_V1r (pc := 74) (k' := k_X5_addClassBelow) dX11_addClass_74 w4_177 i_X5_addClassBelow (lk_2 hP) ⟨Nat.le_of_ble_eq_true rfl, Nat.le_of_ble_eq_true rfl⟩ rfl (Nat.le_of_ble_eq_true rfl) (Nat.le_of_ble_eq_true rfl) (Nat.le_of_ble_eq_true rfl) (cy1) ?_
      have hPy1 := cy1.1.1
      refine Y_istore_n (pc := 77) (lv1 := [(2, .int y1.1), (0, .ref 1), (1, .int x1)]) dX11_addClass_77 rfl (by decide) rfl ?_
      refine Y_aload_n (pc := 78) (j := 1) dX11_addClass_78 rfl rfl ?_
      refine Z_getr (pc := 79) dX11_addClass_79 w3_53 (lk_1 hPy1) fr_11_1 (lr_1_1 hPy1) ?_
      refine Z_getr (pc := 82) dX11_addClass_82 w1_118 (lk_11 hPy1) fr_7_5 (lr_11_5 hPy1) ?_
      refine Y_iload_n (pc := 85) (j := 0) dX11_addClass_85 rfl rfl ?_
      refine Y_aload_n (pc := 86) (j := 1) dX11_addClass_86 rfl rfl ?_
      refine Z_getr (pc := 87) dX11_addClass_87 w3_53 (lk_1 hPy1) fr_11_1 (lr_1_1 hPy1) ?_
      refine Y_iload_n (pc := 90) (j := 0) dX11_addClass_90 rfl rfl ?_
      obtain ⟨y2, qy2, h⟩ := bindE h
      have cy2 := v_X7_addEmpty hPy1 qy2
      refine C_V1r (pc := 91) (k' := k_X7_addEmpty) dX11_addClass_91 w4_181 i_X7_addEmpty (lk_11 hPy1) ⟨Nat.le_of_ble_eq_true rfl, Nat.le_of_ble_eq_true rfl⟩ rfl (Nat.le_of_ble_eq_true rfl) (Nat.le_of_ble_eq_true rfl) (Nat.le_of_ble_eq_true rfl) (cy2) ?_
      have hPy2 := cy2.1.1
      obtain ⟨hb1, h⟩ := okE h
      refine Y_iast (pc := 94) dX11_addClass_94 (lk_17 hPy2) (ln_17 hPy2) hb1 ?_
      obtain ⟨M1, eM1, h⟩ := bndE h
      refine VV.mem eM1 ?_
      have hP1 := hPy2.wI eM1
      refine Y_iload_n (pc := 95) (j := 0) dX11_addClass_95 rfl rfl ?_
      cases h
      exact Y_iret (pc := 96) rfl rfl dX11_addClass_96 hP1 ⟨_, rfl, rfl, rfl⟩
    · replace h := ifF hc2 h
      cases h
      exact Y_throw_UnsupportedOperationException (pc := 59) w4_161 w4_171 (mi := 9) rfl dX11_addClass_59 dX11_addClass_62 dX11_addClass_63 dX11_addClass_65 dX11_addClass_68 rfl (Nat.le_of_ble_eq_true rfl) (Nat.le_of_ble_eq_true rfl) (Nat.le_of_ble_eq_true rfl) (hP.wT rfl) ⟨rfl, rfl⟩
  · replace h := ifF hc1 h
    cases h
    exact Y_throw_IllegalStateException (pc := 37) w3_200 w3_210 (mi := 8) rfl dX11_addClass_37 dX11_addClass_40 dX11_addClass_41 dX11_addClass_43 dX11_addClass_46 rfl (Nat.le_of_ble_eq_true rfl) (Nat.le_of_ble_eq_true rfl) (Nat.le_of_ble_eq_true rfl) (hP.wT rfl) ⟨rfl, rfl⟩
theorem b_X11_addClass {x1 : Int32} {M z} (hP : Lay M) (h : d_X11_addClass x1 M = some z) : VV Lay k_X11_addClass 0 [(0, .ref 1), (1, .int x1)] [] M z.2 (QS (fun v => some (.int v)) z) (XS z) := by
  unfold d_X11_addClass at h
  refine Y_iload_n (pc := 0) (j := 1) dX11_addClass_0 rfl rfl ?_
  refine Y_iconst (pc := 1) (v := (-1 : Int32)) dX11_addClass_1 rfl ?_
  refine Y_icmp_eq (pc := 2) (tgt := 26) dX11_addClass_2 (by decide) (fun hc1 => ?_) (fun hc1 => ?_)
  · replace h := ifT hc1 h
    refine VV.sub [0, 1] rfl ?_
    exact b_X11_addClass_26  hP h
  · replace h := ifF hc1 h
    refine Y_aload_n (pc := 5) (j := 0) dX11_addClass_5 rfl rfl ?_
    refine Z_getr (pc := 6) dX11_addClass_6 w3_52 (lk_1 hP) fr_11_0 (lr_1_0 hP) ?_
    refine Y_iload_n (pc := 9) (j := 1) dX11_addClass_9 rfl rfl ?_
    obtain ⟨y1, qy1, h⟩ := bindE h
    have cy1 := v_X5_hasClass hP qy1
    refine C_V1r (pc := 10) (k' := k_X5_hasClass) dX11_addClass_10 w4_155 i_X5_hasClass (lk_2 hP) ⟨Nat.le_of_ble_eq_true rfl, Nat.le_of_ble_eq_true rfl⟩ rfl (Nat.le_of_ble_eq_true rfl) (Nat.le_of_ble_eq_true rfl) (Nat.le_of_ble_eq_true rfl) (cy1) ?_
    have hPy1 := cy1.1.1
    refine Y_if_ne (pc := 13) (tgt := 26) dX11_addClass_13 (by decide) (fun hc2 => ?_) (fun hc2 => ?_)
    · replace h := ifF hc2 h
      refine VV.sub [0, 1] rfl ?_
      exact b_X11_addClass_26  hPy1 h
    · replace h := ifT hc2 h
      cases h
      exact Y_throw_IndexOutOfBoundsException (pc := 16) w4_19 w4_29 (mi := 7) rfl dX11_addClass_16 dX11_addClass_19 dX11_addClass_20 dX11_addClass_22 dX11_addClass_25 rfl (Nat.le_of_ble_eq_true rfl) (Nat.le_of_ble_eq_true rfl) (Nat.le_of_ble_eq_true rfl) (hPy1.wT rfl) ⟨rfl, rfl⟩
theorem v_X11_addClass {x1 : Int32} {M z} (hP : Lay M) (h : d_X11_addClass x1 M = some z) : CC Lay k_X11_addClass [.ref 1, .int x1] M z.2 (QS (fun v => some (.int v)) z) (XS z) :=
  CC.ofVV (by decide) rfl (Nat.le_of_ble_eq_true rfl) (b_X11_addClass hP h)
theorem b_X11_isName {x0 : Int32} {M z} (hP : Lay M) (h : d_X11_isName x0 M = some z) : VV Lay k_X11_isName 0 [(0, .int x0)] [] M z.2 (Qv (some (.int z.1)) z.2) xF := by
  unfold d_X11_isName at h
  refine Y_iload_n (pc := 0) (j := 0) dX11_isName_0 rfl rfl ?_
  refine Y_if_lt (pc := 1) (tgt := 14) dX11_isName_1 (by decide) (fun hc1 => ?_) (fun hc1 => ?_)
  · replace h := ifT hc1 h
    refine Y_iconst (pc := 14) (v := (0 : Int32)) dX11_isName_14 rfl ?_
    cases h
    exact Y_iret (pc := 15) rfl (nar_bo (by decide)) dX11_isName_15 hP ⟨rfl, rfl⟩
  · replace h := ifF hc1 h
    refine Y_iload_n (pc := 4) (j := 0) dX11_isName_4 rfl rfl ?_
    refine Y_bipush (pc := 5) (v := (6 : Int32)) dX11_isName_5 rfl ?_
    refine Y_icmp_ge (pc := 7) (tgt := 14) dX11_isName_7 (by decide) (fun hc2 => ?_) (fun hc2 => ?_)
    · replace h := ifT hc2 h
      refine Y_iconst (pc := 14) (v := (0 : Int32)) dX11_isName_14 rfl ?_
      cases h
      exact Y_iret (pc := 15) rfl (nar_bo (by decide)) dX11_isName_15 hP ⟨rfl, rfl⟩
    · replace h := ifF hc2 h
      refine Y_iconst (pc := 10) (v := (1 : Int32)) dX11_isName_10 rfl ?_
      refine Y_goto (pc := 11) (tgt := 15) dX11_isName_11 (by decide) ?_
      cases h
      exact Y_iret (pc := 15) rfl (nar_bo (by decide)) dX11_isName_15 hP ⟨rfl, rfl⟩
theorem v_X11_isName {x0 : Int32} {M z} (hP : Lay M) (h : d_X11_isName x0 M = some z) : CC Lay k_X11_isName [.int x0] M z.2 (Qv (some (.int z.1)) z.2) xF :=
  CC.ofVV (by decide) rfl (Nat.le_of_ble_eq_true rfl) (b_X11_isName hP h)
theorem b_X11_setMethod {x1 : Int32} {x2 : Int32} {x3 : Int32} {M z} (hP : Lay M) (h : d_X11_setMethod x1 x2 x3 M = some z) : VV Lay k_X11_setMethod 0 [(0, .ref 1), (1, .int x1), (2, .int x2), (3, .int x3)] [] M z.2 (QS (fun v => some (.int v)) z) (XS z) := by
  unfold d_X11_setMethod at h
  refine Y_aload_n (pc := 0) (j := 0) dX11_setMethod_0 rfl rfl ?_
  refine Z_getr (pc := 1) dX11_setMethod_1 w3_52 (lk_1 hP) fr_11_0 (lr_1_0 hP) ?_
  refine Y_iload_n (pc := 4) (j := 1) dX11_setMethod_4 rfl rfl ?_
  obtain ⟨y1, qy1, h⟩ := bindE h
  have cy1 := v_X5_hasClass hP qy1
  refine C_V1r (pc := 5) (k' := k_X5_hasClass) dX11_setMethod_5 w4_155 i_X5_hasClass (lk_2 hP) ⟨Nat.le_of_ble_eq_true rfl, Nat.le_of_ble_eq_true rfl⟩ rfl (Nat.le_of_ble_eq_true rfl) (Nat.le_of_ble_eq_true rfl) (Nat.le_of_ble_eq_true rfl) (cy1) ?_
  have hPy1 := cy1.1.1
  refine Y_if_ne (pc := 8) (tgt := 21) dX11_setMethod_8 (by decide) (fun hc1 => ?_) (fun hc1 => ?_)
  · replace h := ifF hc1 h
    refine Y_iload_n (pc := 21) (j := 2) dX11_setMethod_21 rfl rfl ?_
    obtain ⟨y2, qy2, h⟩ := bindE h
    have cy2 := v_X11_isName hPy1 qy2
    refine C_S1r (pc := 22) (k' := k_X11_isName) dX11_setMethod_22 w4_194 i_X11_isName (Nat.le_of_ble_eq_true rfl) (Nat.le_of_ble_eq_true rfl) (Nat.le_of_ble_eq_true rfl) (cy2) ?_
    have hPy2 := cy2.1.1
    refine Y_if_ne (pc := 25) (tgt := 38) dX11_setMethod_25 (by decide) (fun hc2 => ?_) (fun hc2 => ?_)
    · replace h := ifF hc2 h
      refine Y_aload_n (pc := 38) (j := 0) dX11_setMethod_38 rfl rfl ?_
      refine Z_getr (pc := 39) dX11_setMethod_39 w3_52 (lk_1 hPy2) fr_11_0 (lr_1_0 hPy2) ?_
      refine Y_iload_n (pc := 42) (j := 3) dX11_setMethod_42 rfl rfl ?_
      obtain ⟨y3, qy3, h⟩ := bindE h
      have cy3 := v_X5_hasFunction hPy2 qy3
      refine C_V1r (pc := 43) (k' := k_X5_hasFunction) dX11_setMethod_43 w4_15 i_X5_hasFunction (lk_2 hPy2) ⟨Nat.le_of_ble_eq_true rfl, Nat.le_of_ble_eq_true rfl⟩ rfl (Nat.le_of_ble_eq_true rfl) (Nat.le_of_ble_eq_true rfl) (Nat.le_of_ble_eq_true rfl) (cy3) ?_
      have hPy3 := cy3.1.1
      refine Y_if_ne (pc := 46) (tgt := 59) dX11_setMethod_46 (by decide) (fun hc3 => ?_) (fun hc3 => ?_)
      · replace h := ifF hc3 h
        refine Y_aload_n (pc := 59) (j := 0) dX11_setMethod_59 rfl rfl ?_
        refine Z_getr (pc := 60) dX11_setMethod_60 w3_52 (lk_1 hPy3) fr_11_0 (lr_1_0 hPy3) ?_
        refine Z_getr (pc := 63) dX11_setMethod_63 w1_53 (lk_2 hPy3) fr_5_0 (lr_2_0 hPy3) ?_
        refine Y_iload_n (pc := 66) (j := 3) dX11_setMethod_66 rfl rfl ?_
        obtain ⟨hb1, h⟩ := okE h
        refine Y_iald (pc := 67) dX11_setMethod_67 (lk_3 hPy3) (ln_3 hPy3) hb1 ?_
        refine Y_iconst (pc := 68) (v := (1 : Int32)) dX11_setMethod_68 rfl ?_
        refine Y_icmp_eq (pc := 69) (tgt := 82) dX11_setMethod_69 (by decide) (fun hc4 => ?_) (fun hc4 => ?_)
        · replace h := ifT hc4 h
          refine Y_aload_n (pc := 82) (j := 0) dX11_setMethod_82 rfl rfl ?_
          refine Z_getr (pc := 83) dX11_setMethod_83 w3_52 (lk_1 hPy3) fr_11_0 (lr_1_0 hPy3) ?_
          refine Z_getr (pc := 86) dX11_setMethod_86 w1_74 (lk_2 hPy3) fr_5_7 (lr_2_7 hPy3) ?_
          refine Y_iload_n (pc := 89) (j := 1) dX11_setMethod_89 rfl rfl ?_
          refine Y_bipush (pc := 90) (v := (6 : Int32)) dX11_setMethod_90 rfl ?_
          refine Y_imul (pc := 92) dX11_setMethod_92 ?_
          refine Y_iload_n (pc := 93) (j := 2) dX11_setMethod_93 rfl rfl ?_
          refine Y_iadd (pc := 94) dX11_setMethod_94 ?_
          refine Y_iload_n (pc := 95) (j := 3) dX11_setMethod_95 rfl rfl ?_
          obtain ⟨hb2, h⟩ := okE h
          refine Y_iast (pc := 96) dX11_setMethod_96 (lk_10 hPy3) (ln_10 hPy3) hb2 ?_
          obtain ⟨M1, eM1, h⟩ := bndE h
          refine VV.mem eM1 ?_
          have hP1 := hPy3.wI eM1
          refine Y_aload_n (pc := 97) (j := 0) dX11_setMethod_97 rfl rfl ?_
          refine Z_getr (pc := 98) dX11_setMethod_98 w3_56 (lk_1 hP1) fr_11_4 (lr_1_4 hP1) ?_
          refine Z_getr (pc := 101) dX11_setMethod_101 w3_7 (lk_38 hP1) fr_10_1 (lr_38_1 hP1) ?_
          refine Y_aload_n (pc := 104) (j := 0) dX11_setMethod_104 rfl rfl ?_
          refine Z_getr (pc := 105) dX11_setMethod_105 w3_52 (lk_1 hP1) fr_11_0 (lr_1_0 hP1) ?_
          obtain ⟨y4, qy4, h⟩ := bindE h
          have cy4 := v_X0_emptyMethods hP1 qy4
          refine C_V1o (pc := 108) (k' := k_X0_emptyMethods) dX11_setMethod_108 w4_214 i_X0_emptyMethods (lk_39 hP1) ⟨Nat.le_of_ble_eq_true rfl, Nat.le_of_ble_eq_true rfl⟩ rfl (Nat.le_of_ble_eq_true rfl) (Nat.le_of_ble_eq_true rfl) (Nat.le_of_ble_eq_true rfl) (cy4) ?_
          have hPy4 := cy4.1.1
          refine Y_aload_n (pc := 111) (j := 0) dX11_setMethod_111 rfl rfl ?_
          refine Z_getr (pc := 112) dX11_setMethod_112 w3_56 (lk_1 hPy4) fr_11_4 (lr_1_4 hPy4) ?_
          refine Z_getr (pc := 115) dX11_setMethod_115 w3_12 (lk_38 hPy4) fr_10_4 (lr_38_4 hPy4) ?_
          refine Y_bipush (pc := 118) (v := (109 : Int32)) dX11_setMethod_118 rfl ?_
          refine Y_iconst (pc := 120) (v := (0 : Int32)) dX11_setMethod_120 rfl ?_
          obtain ⟨y5, qy5, h⟩ := bindE h
          have cy5 := v_X1_throwThoseWith hPy4 qy5
          refine C_V2r (pc := 121) (k' := k_X1_throwThoseWith) dX11_setMethod_121 w4_218 i_X1_throwThoseWith (lk_67 hPy4) ⟨Nat.le_of_ble_eq_true rfl, Nat.le_of_ble_eq_true rfl⟩ rfl (Nat.le_of_ble_eq_true rfl) (Nat.le_of_ble_eq_true rfl) (Nat.le_of_ble_eq_true rfl) (cy5) ?_
          have hPy5 := cy5.1.1
          cases h
          exact Y_iret (pc := 124) rfl rfl dX11_setMethod_124 hPy5 ⟨_, rfl, rfl, rfl⟩
        · replace h := ifF hc4 h
          cases h
          exact Y_throw_UnsupportedOperationException (pc := 72) w4_161 w4_171 (mi := 12) rfl dX11_setMethod_72 dX11_setMethod_75 dX11_setMethod_76 dX11_setMethod_78 dX11_setMethod_81 rfl (Nat.le_of_ble_eq_true rfl) (Nat.le_of_ble_eq_true rfl) (Nat.le_of_ble_eq_true rfl) (hPy3.wT rfl) ⟨rfl, rfl⟩
      · replace h := ifT hc3 h
        cases h
        exact Y_throw_NoSuchElementException (pc := 49) w4_198 w4_207 (mi := 2) rfl dX11_setMethod_49 dX11_setMethod_52 dX11_setMethod_53 dX11_setMethod_55 dX11_setMethod_58 rfl (Nat.le_of_ble_eq_true rfl) (Nat.le_of_ble_eq_true rfl) (Nat.le_of_ble_eq_true rfl) (hPy3.wT rfl) ⟨rfl, rfl⟩
    · replace h := ifT hc2 h
      cases h
      exact Y_throw_IllegalArgumentException (pc := 28) w3_128 w3_174 (mi := 11) rfl dX11_setMethod_28 dX11_setMethod_31 dX11_setMethod_32 dX11_setMethod_34 dX11_setMethod_37 rfl (Nat.le_of_ble_eq_true rfl) (Nat.le_of_ble_eq_true rfl) (Nat.le_of_ble_eq_true rfl) (hPy2.wT rfl) ⟨rfl, rfl⟩
  · replace h := ifT hc1 h
    cases h
    exact Y_throw_IndexOutOfBoundsException (pc := 11) w4_19 w4_29 (mi := 10) rfl dX11_setMethod_11 dX11_setMethod_14 dX11_setMethod_15 dX11_setMethod_17 dX11_setMethod_20 rfl (Nat.le_of_ble_eq_true rfl) (Nat.le_of_ble_eq_true rfl) (Nat.le_of_ble_eq_true rfl) (hPy1.wT rfl) ⟨rfl, rfl⟩
theorem v_X11_setMethod {x1 : Int32} {x2 : Int32} {x3 : Int32} {M z} (hP : Lay M) (h : d_X11_setMethod x1 x2 x3 M = some z) : CC Lay k_X11_setMethod [.ref 1, .int x1, .int x2, .int x3] M z.2 (QS (fun v => some (.int v)) z) (XS z) :=
  CC.ofVV (by decide) rfl (Nat.le_of_ble_eq_true rfl) (b_X11_setMethod hP h)
theorem b_X11_setCell_10 {M z} (hP : Lay M) (h : d_X11_setCell_10 M = some z) : VV Lay k_X11_setCell 10 [] [] M z.2 (QS (fun v => some (.int v)) z) (XS z) := by
  unfold d_X11_setCell_10 at h
  cases h
  exact Y_throw_IllegalArgumentException (pc := 10) w3_128 w3_174 (mi := 13) rfl dX11_setCell_10 dX11_setCell_13 dX11_setCell_14 dX11_setCell_16 dX11_setCell_19 rfl (Nat.le_of_ble_eq_true rfl) (Nat.le_of_ble_eq_true rfl) (Nat.le_of_ble_eq_true rfl) (hP.wT rfl) ⟨rfl, rfl⟩
theorem b_X11_setCell {x1 : Int32} {x2 : Int32} {M z} (hP : Lay M) (h : d_X11_setCell x1 x2 M = some z) : VV Lay k_X11_setCell 0 [(0, .ref 1), (1, .int x1), (2, .int x2)] [] M z.2 (QS (fun v => some (.int v)) z) (XS z) := by
  unfold d_X11_setCell at h
  refine Y_iload_n (pc := 0) (j := 1) dX11_setCell_0 rfl rfl ?_
  refine Y_if_lt (pc := 1) (tgt := 10) dX11_setCell_1 (by decide) (fun hc1 => ?_) (fun hc1 => ?_)
  · replace h := ifT hc1 h
    refine VV.sub [] rfl ?_
    exact b_X11_setCell_10  hP h
  · replace h := ifF hc1 h
    refine Y_iload_n (pc := 4) (j := 1) dX11_setCell_4 rfl rfl ?_
    refine Y_bipush (pc := 5) (v := (8 : Int32)) dX11_setCell_5 rfl ?_
    refine Y_icmp_lt (pc := 7) (tgt := 20) dX11_setCell_7 (by decide) (fun hc2 => ?_) (fun hc2 => ?_)
    · replace h := ifT hc2 h
      refine Y_aload_n (pc := 20) (j := 0) dX11_setCell_20 rfl rfl ?_
      refine Z_getr (pc := 21) dX11_setCell_21 w3_52 (lk_1 hP) fr_11_0 (lr_1_0 hP) ?_
      refine Z_getr (pc := 24) dX11_setCell_24 w1_70 (lk_2 hP) fr_5_5 (lr_2_5 hP) ?_
      refine Y_iload_n (pc := 27) (j := 1) dX11_setCell_27 rfl rfl ?_
      obtain ⟨hb1, h⟩ := okE h
      refine Y_iald (pc := 28) dX11_setCell_28 (lk_8 hP) (ln_8 hP) hb1 ?_
      refine Y_iload_n (pc := 29) (j := 2) dX11_setCell_29 rfl rfl ?_
      refine Y_icmp_ne (pc := 30) (tgt := 35) dX11_setCell_30 (by decide) (fun hc3 => ?_) (fun hc3 => ?_)
      · replace h := ifF hc3 h
        refine Y_aload_n (pc := 35) (j := 0) dX11_setCell_35 rfl rfl ?_
        refine Z_getr (pc := 36) dX11_setCell_36 w3_52 (lk_1 hP) fr_11_0 (lr_1_0 hP) ?_
        refine Z_getr (pc := 39) dX11_setCell_39 w1_70 (lk_2 hP) fr_5_5 (lr_2_5 hP) ?_
        refine Y_iload_n (pc := 42) (j := 1) dX11_setCell_42 rfl rfl ?_
        refine Y_iload_n (pc := 43) (j := 2) dX11_setCell_43 rfl rfl ?_
        obtain ⟨hb2, h⟩ := okE h
        refine Y_iast (pc := 44) dX11_setCell_44 (lk_8 hP) (ln_8 hP) hb2 ?_
        obtain ⟨M1, eM1, h⟩ := bndE h
        refine VV.mem eM1 ?_
        have hP1 := hP.wI eM1
        refine Y_aload_n (pc := 45) (j := 0) dX11_setCell_45 rfl rfl ?_
        refine Z_getr (pc := 46) dX11_setCell_46 w3_56 (lk_1 hP1) fr_11_4 (lr_1_4 hP1) ?_
        refine Z_getr (pc := 49) dX11_setCell_49 w3_12 (lk_38 hP1) fr_10_4 (lr_38_4 hP1) ?_
        refine Y_bipush (pc := 52) (v := (107 : Int32)) dX11_setCell_52 rfl ?_
        refine Y_iload_n (pc := 54) (j := 1) dX11_setCell_54 rfl rfl ?_
        obtain ⟨y1, qy1, h⟩ := bindE h
        have cy1 := v_X1_throwThoseWith hP1 qy1
        refine C_V2r (pc := 55) (k' := k_X1_throwThoseWith) dX11_setCell_55 w4_218 i_X1_throwThoseWith (lk_67 hP1) ⟨Nat.le_of_ble_eq_true rfl, Nat.le_of_ble_eq_true rfl⟩ rfl (Nat.le_of_ble_eq_true rfl) (Nat.le_of_ble_eq_true rfl) (Nat.le_of_ble_eq_true rfl) (cy1) ?_
        have hPy1 := cy1.1.1
        cases h
        exact Y_iret (pc := 58) rfl rfl dX11_setCell_58 hPy1 ⟨_, rfl, rfl, rfl⟩
      · replace h := ifT hc3 h
        refine Y_iconst (pc := 33) (v := (0 : Int32)) dX11_setCell_33 rfl ?_
        cases h
        exact Y_iret (pc := 34) rfl rfl dX11_setCell_34 hP ⟨_, rfl, rfl, rfl⟩
    · replace h := ifF hc2 h
      refine VV.sub [] rfl ?_
      exact b_X11_setCell_10  hP h
theorem v_X11_setCell {x1 : Int32} {x2 : Int32} {M z} (hP : Lay M) (h : d_X11_setCell x1 x2 M = some z) : CC Lay k_X11_setCell [.ref 1, .int x1, .int x2] M z.2 (QS (fun v => some (.int v)) z) (XS z) :=
  CC.ofVV (by decide) rfl (Nat.le_of_ble_eq_true rfl) (b_X11_setCell hP h)
theorem b_X11_setLimits_35 {M z} (hP : Lay M) (h : d_X11_setLimits_35 M = some z) : VV Lay k_X11_setLimits 35 [] [] M z.2 (QS (fun v => some (.int v)) z) (XS z) := by
  unfold d_X11_setLimits_35 at h
  cases h
  exact Y_throw_IllegalArgumentException (pc := 35) w3_128 w3_174 (mi := 14) rfl dX11_setLimits_35 dX11_setLimits_38 dX11_setLimits_39 dX11_setLimits_41 dX11_setLimits_44 rfl (Nat.le_of_ble_eq_true rfl) (Nat.le_of_ble_eq_true rfl) (Nat.le_of_ble_eq_true rfl) (hP.wT rfl) ⟨rfl, rfl⟩
theorem b_X11_setLimits {x1 : Int32} {x2 : Int32} {x3 : Int32} {M z} (hP : Lay M) (h : d_X11_setLimits x1 x2 x3 M = some z) : VV Lay k_X11_setLimits 0 [(0, .ref 1), (1, .int x1), (2, .int x2), (3, .int x3)] [] M z.2 (QS (fun v => some (.int v)) z) (XS z) := by
  unfold d_X11_setLimits at h
  refine Y_iload_n (pc := 0) (j := 1) dX11_setLimits_0 rfl rfl ?_
  refine Y_iconst (pc := 1) (v := (2 : Int32)) dX11_setLimits_1 rfl ?_
  refine Y_icmp_lt (pc := 2) (tgt := 35) dX11_setLimits_2 (by decide) (fun hc1 => ?_) (fun hc1 => ?_)
  · replace h := ifT hc1 h
    refine VV.sub [] rfl ?_
    exact b_X11_setLimits_35  hP h
  · replace h := ifF hc1 h
    refine Y_iload_n (pc := 5) (j := 1) dX11_setLimits_5 rfl rfl ?_
    refine Y_bipush (pc := 6) (v := (50 : Int32)) dX11_setLimits_6 rfl ?_
    refine Y_icmp_gt (pc := 8) (tgt := 35) dX11_setLimits_8 (by decide) (fun hc2 => ?_) (fun hc2 => ?_)
    · replace h := ifT hc2 h
      refine VV.sub [] rfl ?_
      exact b_X11_setLimits_35  hP h
    · replace h := ifF hc2 h
      refine Y_iload_n (pc := 11) (j := 2) dX11_setLimits_11 rfl rfl ?_
      refine Y_iconst (pc := 12) (v := (1 : Int32)) dX11_setLimits_12 rfl ?_
      refine Y_icmp_lt (pc := 13) (tgt := 35) dX11_setLimits_13 (by decide) (fun hc3 => ?_) (fun hc3 => ?_)
      · replace h := ifT hc3 h
        refine VV.sub [] rfl ?_
        exact b_X11_setLimits_35  hP h
      · replace h := ifF hc3 h
        refine Y_iload_n (pc := 16) (j := 2) dX11_setLimits_16 rfl rfl ?_
        refine Y_bipush (pc := 17) (v := (20 : Int32)) dX11_setLimits_17 rfl ?_
        refine Y_icmp_gt (pc := 19) (tgt := 35) dX11_setLimits_19 (by decide) (fun hc4 => ?_) (fun hc4 => ?_)
        · replace h := ifT hc4 h
          refine VV.sub [] rfl ?_
          exact b_X11_setLimits_35  hP h
        · replace h := ifF hc4 h
          refine Y_iload_n (pc := 22) (j := 3) dX11_setLimits_22 rfl rfl ?_
          refine Y_bipush (pc := 23) (v := (10 : Int32)) dX11_setLimits_23 rfl ?_
          refine Y_icmp_lt (pc := 25) (tgt := 35) dX11_setLimits_25 (by decide) (fun hc5 => ?_) (fun hc5 => ?_)
          · replace h := ifT hc5 h
            refine VV.sub [] rfl ?_
            exact b_X11_setLimits_35  hP h
          · replace h := ifF hc5 h
            refine Y_iload_n (pc := 28) (j := 3) dX11_setLimits_28 rfl rfl ?_
            refine Y_sipush (pc := 29) (v := (200 : Int32)) dX11_setLimits_29 rfl ?_
            refine Y_icmp_le (pc := 32) (tgt := 45) dX11_setLimits_32 (by decide) (fun hc6 => ?_) (fun hc6 => ?_)
            · replace h := ifT hc6 h
              refine Y_aload_n (pc := 45) (j := 0) dX11_setLimits_45 rfl rfl ?_
              refine Z_getr (pc := 46) dX11_setLimits_46 w3_56 (lk_1 hP) fr_11_4 (lr_1_4 hP) ?_
              refine Y_iload_n (pc := 49) (j := 1) dX11_setLimits_49 rfl rfl ?_
              refine Z_puti (pc := 50) dX11_setLimits_50 w3_14 (lk_38 hP) fi_10_5 (Or.inl rfl) rfl ?_
              obtain ⟨M1, eM1, h⟩ := bndE h
              refine VV.mem eM1 ?_
              have hP1 := hP.wI eM1
              refine Y_aload_n (pc := 53) (j := 0) dX11_setLimits_53 rfl rfl ?_
              refine Z_getr (pc := 54) dX11_setLimits_54 w3_56 (lk_1 hP1) fr_11_4 (lr_1_4 hP1) ?_
              refine Y_iload_n (pc := 57) (j := 2) dX11_setLimits_57 rfl rfl ?_
              refine Z_puti (pc := 58) dX11_setLimits_58 w3_16 (lk_38 hP1) fi_10_6 (Or.inl rfl) rfl ?_
              obtain ⟨M2, eM2, h⟩ := bndE h
              refine VV.mem eM2 ?_
              have hP2 := hP1.wI eM2
              refine Y_aload_n (pc := 61) (j := 0) dX11_setLimits_61 rfl rfl ?_
              refine Z_getr (pc := 62) dX11_setLimits_62 w3_56 (lk_1 hP2) fr_11_4 (lr_1_4 hP2) ?_
              refine Z_getr (pc := 65) dX11_setLimits_65 w3_12 (lk_38 hP2) fr_10_4 (lr_38_4 hP2) ?_
              refine Y_iload_n (pc := 68) (j := 3) dX11_setLimits_68 rfl rfl ?_
              refine Z_puti (pc := 69) dX11_setLimits_69 w2_230 (lk_67 hP2) fi_2_4 (Or.inl rfl) rfl ?_
              obtain ⟨M3, eM3, h⟩ := bndE h
              refine VV.mem eM3 ?_
              have hP3 := hP2.wI eM3
              refine Y_aload_n (pc := 72) (j := 0) dX11_setLimits_72 rfl rfl ?_
              refine Z_getr (pc := 73) dX11_setLimits_73 w3_56 (lk_1 hP3) fr_11_4 (lr_1_4 hP3) ?_
              refine Z_getr (pc := 76) dX11_setLimits_76 w3_12 (lk_38 hP3) fr_10_4 (lr_38_4 hP3) ?_
              obtain ⟨y1, qy1, h⟩ := bindE h
              have cy1 := v_X1_shrink hP3 qy1
              refine C_V0r (pc := 79) (k' := k_X1_shrink) dX11_setLimits_79 w5_10 i_X1_shrink (lk_67 hP3) ⟨Nat.le_of_ble_eq_true rfl, Nat.le_of_ble_eq_true rfl⟩ rfl (Nat.le_of_ble_eq_true rfl) (Nat.le_of_ble_eq_true rfl) (Nat.le_of_ble_eq_true rfl) (cy1) ?_
              have hPy1 := cy1.1.1
              cases h
              exact Y_iret (pc := 82) rfl rfl dX11_setLimits_82 hPy1 ⟨_, rfl, rfl, rfl⟩
            · replace h := ifF hc6 h
              refine VV.sub [] rfl ?_
              exact b_X11_setLimits_35  hP h
theorem v_X11_setLimits {x1 : Int32} {x2 : Int32} {x3 : Int32} {M z} (hP : Lay M) (h : d_X11_setLimits x1 x2 x3 M = some z) : CC Lay k_X11_setLimits [.ref 1, .int x1, .int x2, .int x3] M z.2 (QS (fun v => some (.int v)) z) (XS z) :=
  CC.ofVV (by decide) rfl (Nat.le_of_ble_eq_true rfl) (b_X11_setLimits hP h)
theorem b_X11_run_138 {M z} (hP : Lay M) (h : d_X11_run_138 M = some z) : VV Lay k_X11_run 138 [(0, .ref 1)] [] M z.2 (QS (fun v => some (.int v)) z) (XS z) := by
  unfold d_X11_run_138 at h
  refine Y_aload_n (pc := 138) (j := 0) dX11_run_138 rfl rfl ?_
  refine Z_getr (pc := 139) dX11_run_139 w3_56 (lk_1 hP) fr_11_4 (lr_1_4 hP) ?_
  obtain ⟨y1, qy1, h⟩ := bindE h
  have cy1 := v_X10_breakOff hP qy1
  refine C_V0o (pc := 142) (k' := k_X10_breakOff) dX11_run_142 w6_229 i_X10_breakOff (lk_38 hP) ⟨Nat.le_of_ble_eq_true rfl, Nat.le_of_ble_eq_true rfl⟩ rfl (Nat.le_of_ble_eq_true rfl) (Nat.le_of_ble_eq_true rfl) (Nat.le_of_ble_eq_true rfl) (cy1) ?_
  have hPy1 := cy1.1.1
  refine Y_aload_n (pc := 145) (j := 0) dX11_run_145 rfl rfl ?_
  refine Y_aload_n (pc := 146) (j := 0) dX11_run_146 rfl rfl ?_
  refine Z_getr (pc := 147) dX11_run_147 w3_54 (lk_1 hPy1) fr_11_2 (lr_1_2 hPy1) ?_
  refine Y_aload_n (pc := 150) (j := 0) dX11_run_150 rfl rfl ?_
  refine Z_getr (pc := 151) dX11_run_151 w3_55 (lk_1 hPy1) fr_11_3 (lr_1_3 hPy1) ?_
  obtain ⟨y2, qy2, h⟩ := bindE h
  have cy2 := v_X3_endedLike hPy1 qy2
  refine C_V1r (pc := 154) (k' := k_X3_endedLike) dX11_run_154 w6_230 i_X3_endedLike (lk_18 hPy1) ⟨Nat.le_of_ble_eq_true rfl, Nat.le_of_ble_eq_true rfl⟩ rfl (Nat.le_of_ble_eq_true rfl) (Nat.le_of_ble_eq_true rfl) (Nat.le_of_ble_eq_true rfl) (cy2) ?_
  have hPy2 := cy2.1.1
  obtain ⟨hb1, h⟩ := okE h
  refine Z_putz (pc := 157) dX11_run_157 w3_57 (lk_1 hPy2) fi_11_5 (Or.inl rfl) rfl hb1 ?_
  obtain ⟨M1, eM1, h⟩ := bndE h
  refine VV.mem eM1 ?_
  have hP1 := hPy2.wI eM1
  refine Y_aload_n (pc := 160) (j := 0) dX11_run_160 rfl rfl ?_
  refine Z_getr (pc := 161) dX11_run_161 w3_54 (lk_1 hP1) fr_11_2 (lr_1_2 hP1) ?_
  refine Z_geti (pc := 164) dX11_run_164 w1_192 (lk_18 hP1) fi_4_12 ?_
  cases h
  exact Y_iret (pc := 167) rfl rfl dX11_run_167 hP1 ⟨_, rfl, rfl, rfl⟩
theorem b_X11_run_132 {k78 : (Int32) → Mem → Option ((Int32 ⊕ String) × Mem)} {x4 : Int32} {M z} (hk78 : ∀ (a : (Int32)) (M : Mem) (z : (Int32 ⊕ String) × Mem), Lay M → k78 a M = some z → VV Lay k_X11_run 78 [(0, .ref 1), (4, .int a)] [] M z.2 (QS (fun v => some (.int v)) z) (XS z)) (hP : Lay M) (h : d_X11_run_132 k78 x4 M = some z) : VV Lay k_X11_run 132 [(0, .ref 1), (4, .int x4)] [] M z.2 (QS (fun v => some (.int v)) z) (XS z) := by
  unfold d_X11_run_132 at h
  obtain ⟨b1, eb1, h⟩ := bndE h
  refine Y_iinc (pc := 132) (j := 1) (v := b1) (lv1 := [(4, .int b1), (0, .ref 1)]) dX11_run_132 rfl eb1.symm (by decide) rfl ?_
  refine Y_goto (pc := 135) (tgt := 78) dX11_run_135 (by decide) ?_
  refine VV.sub [1, 0] rfl ?_
  exact hk78 _ _ _ hP h
theorem b_X11_run_78b {k78 : (Int32) → Mem → Option ((Int32 ⊕ String) × Mem)} {x4 : Int32} {M z} (hk78 : ∀ (a : (Int32)) (M : Mem) (z : (Int32 ⊕ String) × Mem), Lay M → k78 a M = some z → VV Lay k_X11_run 78 [(0, .ref 1), (4, .int a)] [] M z.2 (QS (fun v => some (.int v)) z) (XS z)) (hP : Lay M) (h : d_X11_run_78b k78 x4 M = some z) : VV Lay k_X11_run 78 [(0, .ref 1), (4, .int x4)] [] M z.2 (QS (fun v => some (.int v)) z) (XS z) := by
  unfold d_X11_run_78b at h
  refine Y_iload (pc := 78) (j := 1) dX11_run_78 rfl ?_
  refine Y_ldc (pc := 80) dX11_run_80 w6_60 ?_
  refine Y_icmp_ge (pc := 82) (tgt := 138) dX11_run_82 (by decide) (fun hc1 => ?_) (fun hc1 => ?_)
  · replace h := ifT hc1 h
    refine VV.sub [0] rfl ?_
    exact b_X11_run_138  hP h
  · replace h := ifF hc1 h
    refine Y_aload_n (pc := 85) (j := 0) dX11_run_85 rfl rfl ?_
    refine Z_getr (pc := 86) dX11_run_86 w3_54 (lk_1 hP) fr_11_2 (lr_1_2 hP) ?_
    obtain ⟨y1, qy1, h⟩ := bindE h
    have cy1 := v_X3_isRunning (Or.inl rfl) hP qy1
    refine C_V0r (pc := 89) (k' := k_X3_isRunning) dX11_run_89 w6_61 i_X3_isRunning (lk_18 hP) ⟨Nat.le_of_ble_eq_true rfl, Nat.le_of_ble_eq_true rfl⟩ rfl (Nat.le_of_ble_eq_true rfl) (Nat.le_of_ble_eq_true rfl) (Nat.le_of_ble_eq_true rfl) (cy1) ?_
    have hPy1 := cy1.1.1
    refine Y_if_eq (pc := 92) (tgt := 138) dX11_run_92 (by decide) (fun hc2 => ?_) (fun hc2 => ?_)
    · replace h := ifT hc2 h
      refine VV.sub [0] rfl ?_
      exact b_X11_run_138  hPy1 h
    · replace h := ifF hc2 h
      refine Y_aload_n (pc := 95) (j := 0) dX11_run_95 rfl rfl ?_
      refine Z_getr (pc := 96) dX11_run_96 w3_56 (lk_1 hPy1) fr_11_4 (lr_1_4 hPy1) ?_
      refine Z_geti (pc := 99) dX11_run_99 w3_20 (lk_38 hPy1) fi_10_8 ?_
      refine Y_if_eq (pc := 102) (tgt := 115) dX11_run_102 (by decide) (fun hc3 => ?_) (fun hc3 => ?_)
      · replace h := ifT hc3 h
        refine Y_aload_n (pc := 115) (j := 0) dX11_run_115 rfl rfl ?_
        refine Z_getr (pc := 116) dX11_run_116 w3_56 (lk_1 hPy1) fr_11_4 (lr_1_4 hPy1) ?_
        obtain ⟨y2, qy2, h⟩ := bindE h
        have cy2 := v_X10_canExecute hPy1 qy2
        refine C_V0r (pc := 119) (k' := k_X10_canExecute) dX11_run_119 w6_98 i_X10_canExecute (lk_38 hPy1) ⟨Nat.le_of_ble_eq_true rfl, Nat.le_of_ble_eq_true rfl⟩ rfl (Nat.le_of_ble_eq_true rfl) (Nat.le_of_ble_eq_true rfl) (Nat.le_of_ble_eq_true rfl) (cy2) ?_
        have hPy2 := cy2.1.1
        refine Y_if_eq (pc := 122) (tgt := 132) dX11_run_122 (by decide) (fun hc4 => ?_) (fun hc4 => ?_)
        · replace h := ifT hc4 h
          refine VV.sub [0, 1] rfl ?_
          exact b_X11_run_132 hk78 hPy2 h
        · replace h := ifF hc4 h
          refine Y_aload_n (pc := 125) (j := 0) dX11_run_125 rfl rfl ?_
          refine Z_getr (pc := 126) dX11_run_126 w3_56 (lk_1 hPy2) fr_11_4 (lr_1_4 hPy2) ?_
          obtain ⟨y3, qy3, h⟩ := bindE h
          have cy3 := v_X10_executeOutside hPy2 qy3
          refine C_V0o (pc := 129) (k' := k_X10_executeOutside) dX11_run_129 w6_120 i_X10_executeOutside (lk_38 hPy2) ⟨Nat.le_of_ble_eq_true rfl, Nat.le_of_ble_eq_true rfl⟩ rfl (Nat.le_of_ble_eq_true rfl) (Nat.le_of_ble_eq_true rfl) (Nat.le_of_ble_eq_true rfl) (cy3) ?_
          have hPy3 := cy3.1.1
          refine VV.sub [0, 1] rfl ?_
          exact b_X11_run_132 hk78 hPy3 h
      · replace h := ifF hc3 h
        refine Y_aload_n (pc := 105) (j := 0) dX11_run_105 rfl rfl ?_
        refine Z_getr (pc := 106) dX11_run_106 w3_56 (lk_1 hPy1) fr_11_4 (lr_1_4 hPy1) ?_
        obtain ⟨y4, qy4, h⟩ := bindE h
        have cy4 := v_X10_turnInTrace hPy1 qy4
        refine C_V0o (pc := 109) (k' := k_X10_turnInTrace) dX11_run_109 w6_62 i_X10_turnInTrace (lk_38 hPy1) ⟨Nat.le_of_ble_eq_true rfl, Nat.le_of_ble_eq_true rfl⟩ rfl (Nat.le_of_ble_eq_true rfl) (Nat.le_of_ble_eq_true rfl) (Nat.le_of_ble_eq_true rfl) (cy4) ?_
        have hPy4 := cy4.1.1
        refine Y_goto (pc := 112) (tgt := 132) dX11_run_112 (by decide) ?_
        refine VV.sub [0, 1] rfl ?_
        exact b_X11_run_132 hk78 hPy4 h
theorem b_X11_run_78 (n : Nat) : ∀ (a : (Int32)) (M : Mem) (z : (Int32 ⊕ String) × Mem), d_X11_run_78 n a M = some z → Lay M → VV Lay k_X11_run 78 [(0, .ref 1), (4, .int a)] [] M z.2 (QS (fun v => some (.int v)) z) (XS z) :=
  lp_ind (G := fun (a : (Int32)) (M : Mem) (z : (Int32 ⊕ String) × Mem) => Lay M → VV Lay k_X11_run 78 [(0, .ref 1), (4, .int a)] [] M z.2 (QS (fun v => some (.int v)) z) (XS z)) (fun k hk a M z h hP => b_X11_run_78b  (fun a M z hP h => hk a M z h hP) hP h) n
theorem b_X11_run {x1 : Int32} {x2 : Int32} {M z} (hP : Lay M) (h : d_X11_run x1 x2 M = some z) : VV Lay k_X11_run 0 [(0, .ref 1), (1, .int x1), (2, .int x2)] [] M z.2 (QS (fun v => some (.int v)) z) (XS z) := by
  unfold d_X11_run at h
  refine Y_aload_n (pc := 0) (j := 0) dX11_run_0 rfl rfl ?_
  refine Y_iload_n (pc := 1) (j := 1) dX11_run_1 rfl rfl ?_
  obtain ⟨y1, qy1, h⟩ := bindE h
  have cy1 := v_X11_needFunction hP qy1
  have hPN1 := cy1.1.1
  obtain ⟨y1 | E1, N1⟩ := y1
  · replace h := id h
    refine C_V1o (k' := k_X11_needFunction) dX11_run_2 w4_11 i_X11_needFunction (lk_1 hP) ⟨Nat.le_of_ble_eq_true rfl, Nat.le_of_ble_eq_true rfl⟩ rfl (Nat.le_of_ble_eq_true rfl) (Nat.le_of_ble_eq_true rfl) (Nat.le_of_ble_eq_true rfl) (cy1.mono id (QSl rfl) (XSl rfl)) ?_
    refine Y_aload_n (pc := 5) (j := 0) dX11_run_5 rfl rfl ?_
    refine Z_getr (pc := 6) dX11_run_6 w3_52 (lk_1 hPN1) fr_11_0 (lr_1_0 hPN1) ?_
    refine Z_getr (pc := 9) dX11_run_9 w1_53 (lk_2 hPN1) fr_5_0 (lr_2_0 hPN1) ?_
    refine Y_iload_n (pc := 12) (j := 1) dX11_run_12 rfl rfl ?_
    obtain ⟨hb1, h⟩ := okE h
    refine Y_iald (pc := 13) dX11_run_13 (lk_3 hPN1) (ln_3 hPN1) hb1 ?_
    refine Y_if_ne (pc := 14) (tgt := 27) dX11_run_14 (by decide) (fun hc1 => ?_) (fun hc1 => ?_)
    · replace h := ifF hc1 h
      refine Y_aload_n (pc := 27) (j := 0) dX11_run_27 rfl rfl ?_
      refine Z_getr (pc := 28) dX11_run_28 w3_53 (lk_1 hPN1) fr_11_1 (lr_1_1 hPN1) ?_
      refine Z_geti (pc := 31) dX11_run_31 w1_121 (lk_11 hPN1) fi_7_6 ?_
      obtain ⟨b1, eb1, h⟩ := bndE h
      refine VV.topI eb1 ?_
      refine Y_istore_n (pc := 34) (lv1 := [(3, .int b1), (0, .ref 1), (1, .int x1), (2, .int x2)]) dX11_run_34 rfl (by decide) rfl ?_
      refine Y_aload_n (pc := 35) (j := 1) dX11_run_35 rfl rfl ?_
      refine Z_getr (pc := 36) dX11_run_36 w3_55 (lk_1 hPN1) fr_11_3 (lr_1_3 hPN1) ?_
      refine Y_iload_n (pc := 39) (j := 2) dX11_run_39 rfl rfl ?_
      refine Y_iload_n (pc := 40) (j := 3) dX11_run_40 rfl rfl ?_
      obtain ⟨y2, qy2, h⟩ := bindE h
      have cy2 := v_X3_begin (Or.inr rfl) hPN1 qy2
      refine C_V2o (pc := 41) (k' := k_X3_begin) dX11_run_41 w5_27 i_X3_begin (lk_28 hPN1) ⟨Nat.le_of_ble_eq_true rfl, Nat.le_of_ble_eq_true rfl⟩ rfl (Nat.le_of_ble_eq_true rfl) (Nat.le_of_ble_eq_true rfl) (Nat.le_of_ble_eq_true rfl) (cy2) ?_
      have hPy2 := cy2.1.1
      refine Y_aload_n (pc := 44) (j := 1) dX11_run_44 rfl rfl ?_
      refine Z_getr (pc := 45) dX11_run_45 w3_55 (lk_1 hPy2) fr_11_3 (lr_1_3 hPy2) ?_
      obtain ⟨y3, qy3, h⟩ := bindE h
      have cy3 := v_X3_runOut (Or.inr rfl) hPy2 qy3
      refine C_V0o (pc := 48) (k' := k_X3_runOut) dX11_run_48 w5_42 i_X3_runOut (lk_28 hPy2) ⟨Nat.le_of_ble_eq_true rfl, Nat.le_of_ble_eq_true rfl⟩ rfl (Nat.le_of_ble_eq_true rfl) (Nat.le_of_ble_eq_true rfl) (Nat.le_of_ble_eq_true rfl) (cy3) ?_
      have hPy3 := cy3.1.1
      refine Y_aload_n (pc := 51) (j := 1) dX11_run_51 rfl rfl ?_
      refine Z_getr (pc := 52) dX11_run_52 w3_53 (lk_1 hPy3) fr_11_1 (lr_1_1 hPy3) ?_
      refine Y_iload_n (pc := 55) (j := 0) dX11_run_55 rfl rfl ?_
      obtain ⟨y4, qy4, h⟩ := bindE h
      have cy4 := v_X7_takeBack hPy3 qy4
      refine C_V1o (pc := 56) (k' := k_X7_takeBack) dX11_run_56 w6_52 i_X7_takeBack (lk_11 hPy3) ⟨Nat.le_of_ble_eq_true rfl, Nat.le_of_ble_eq_true rfl⟩ rfl (Nat.le_of_ble_eq_true rfl) (Nat.le_of_ble_eq_true rfl) (Nat.le_of_ble_eq_true rfl) (cy4) ?_
      have hPy4 := cy4.1.1
      refine Y_aload_n (pc := 59) (j := 1) dX11_run_59 rfl rfl ?_
      refine Z_getr (pc := 60) dX11_run_60 w3_54 (lk_1 hPy4) fr_11_2 (lr_1_2 hPy4) ?_
      refine Y_iload_n (pc := 63) (j := 2) dX11_run_63 rfl rfl ?_
      refine Y_iload_n (pc := 64) (j := 3) dX11_run_64 rfl rfl ?_
      obtain ⟨y5, qy5, h⟩ := bindE h
      have cy5 := v_X3_begin (Or.inl rfl) hPy4 qy5
      refine C_V2o (pc := 65) (k' := k_X3_begin) dX11_run_65 w5_27 i_X3_begin (lk_18 hPy4) ⟨Nat.le_of_ble_eq_true rfl, Nat.le_of_ble_eq_true rfl⟩ rfl (Nat.le_of_ble_eq_true rfl) (Nat.le_of_ble_eq_true rfl) (Nat.le_of_ble_eq_true rfl) (cy5) ?_
      have hPy5 := cy5.1.1
      refine Y_aload_n (pc := 68) (j := 1) dX11_run_68 rfl rfl ?_
      refine Z_getr (pc := 69) dX11_run_69 w3_56 (lk_1 hPy5) fr_11_4 (lr_1_4 hPy5) ?_
      obtain ⟨y6, qy6, h⟩ := bindE h
      have cy6 := v_X10_begin hPy5 qy6
      refine C_V0o (pc := 72) (k' := k_X10_begin) dX11_run_72 w6_56 i_X10_begin (lk_38 hPy5) ⟨Nat.le_of_ble_eq_true rfl, Nat.le_of_ble_eq_true rfl⟩ rfl (Nat.le_of_ble_eq_true rfl) (Nat.le_of_ble_eq_true rfl) (Nat.le_of_ble_eq_true rfl) (cy6) ?_
      have hPy6 := cy6.1.1
      refine Y_iconst (pc := 75) (v := (0 : Int32)) dX11_run_75 rfl ?_
      refine Y_istore (pc := 76) (lv1 := [(4, .int (0 : Int32)), (3, .int b1), (0, .ref 1), (1, .int x1), (2, .int x2)]) dX11_run_76 (by decide) rfl ?_
      refine VV.sub [2, 0] rfl ?_
      exact b_X11_run_78  fuel _ _ _ h hPy6
    · replace h := ifT hc1 h
      cases h
      exact Y_throw_UnsupportedOperationException (pc := 17) w4_161 w4_171 (mi := 15) rfl dX11_run_17 dX11_run_20 dX11_run_21 dX11_run_23 dX11_run_26 rfl (Nat.le_of_ble_eq_true rfl) (Nat.le_of_ble_eq_true rfl) (Nat.le_of_ble_eq_true rfl) (hPN1.wT rfl) ⟨rfl, rfl⟩
  · replace h := id h
    cases h
    refine C_V1x (k' := k_X11_needFunction) dX11_run_2 w4_11 i_X11_needFunction (lk_1 hP) ⟨Nat.le_of_ble_eq_true rfl, Nat.le_of_ble_eq_true rfl⟩ rfl (Nat.le_of_ble_eq_true rfl) (Nat.le_of_ble_eq_true rfl) (Nat.le_of_ble_eq_true rfl) (cy1.mono id (QSr rfl) (XSr rfl)) ?_
    exact Y_out (by decide) hPN1 ⟨rfl, rfl⟩
theorem v_X11_run {x1 : Int32} {x2 : Int32} {M z} (hP : Lay M) (h : d_X11_run x1 x2 M = some z) : CC Lay k_X11_run [.ref 1, .int x1, .int x2] M z.2 (QS (fun v => some (.int v)) z) (XS z) :=
  CC.ofVV (by decide) rfl (Nat.le_of_ble_eq_true rfl) (b_X11_run hP h)
theorem b_X11_outcome {M z} (hP : Lay M) (h : d_X11_outcome M = some z) : VV Lay k_X11_outcome 0 [(0, .ref 1)] [] M z.2 (Qv (some (.int z.1)) z.2) xF := by
  unfold d_X11_outcome at h
  refine Y_aload_n (pc := 0) (j := 0) dX11_outcome_0 rfl rfl ?_
  refine Z_getr (pc := 1) dX11_outcome_1 w3_54 (lk_1 hP) fr_11_2 (lr_1_2 hP) ?_
  refine Z_geti (pc := 4) dX11_outcome_4 w1_194 (lk_18 hP) fi_4_13 ?_
  obtain ⟨hb1, h⟩ := okE h
  cases h
  exact Y_iret (pc := 7) rfl (nar_ch hb1) dX11_outcome_7 hP ⟨rfl, rfl⟩
theorem v_X11_outcome {M z} (hP : Lay M) (h : d_X11_outcome M = some z) : CC Lay k_X11_outcome [.ref 1] M z.2 (Qv (some (.int z.1)) z.2) xF :=
  CC.ofVV (by decide) rfl (Nat.le_of_ble_eq_true rfl) (b_X11_outcome hP h)
theorem b_X11_needEnding {x1 : Int32} {M z} (hP : Lay M) (h : d_X11_needEnding x1 M = some z) : VV Lay k_X11_needEnding 0 [(0, .ref 1), (1, .int x1)] [] M z.2 (QS (fun _ => none) z) (XS z) := by
  unfold d_X11_needEnding at h
  refine Y_aload_n (pc := 0) (j := 0) dX11_needEnding_0 rfl rfl ?_
  refine Z_getr (pc := 1) dX11_needEnding_1 w3_54 (lk_1 hP) fr_11_2 (lr_1_2 hP) ?_
  refine Z_geti (pc := 4) dX11_needEnding_4 w1_194 (lk_18 hP) fi_4_13 ?_
  refine Y_iload_n (pc := 7) (j := 1) dX11_needEnding_7 rfl rfl ?_
  refine Y_icmp_eq (pc := 8) (tgt := 22) dX11_needEnding_8 (by decide) (fun hc1 => ?_) (fun hc1 => ?_)
  · replace h := ifT hc1 h
    cases h
    exact Y_vret (pc := 22) rfl dX11_needEnding_22 hP ⟨_, rfl, rfl, rfl⟩
  · replace h := ifF hc1 h
    cases h
    exact Y_throwW_NoSuchElementException (pc := 11) w4_198 w4_207 (mi := 16) rfl dX11_needEnding_11 dX11_needEnding_14 dX11_needEnding_15 dX11_needEnding_18 dX11_needEnding_21 rfl (Nat.le_of_ble_eq_true rfl) (Nat.le_of_ble_eq_true rfl) (Nat.le_of_ble_eq_true rfl) (hP.wT rfl) ⟨rfl, rfl⟩
theorem v_X11_needEnding {x1 : Int32} {M z} (hP : Lay M) (h : d_X11_needEnding x1 M = some z) : CC Lay k_X11_needEnding [.ref 1, .int x1] M z.2 (QS (fun _ => none) z) (XS z) :=
  CC.ofVV (by decide) rfl (Nat.le_of_ble_eq_true rfl) (b_X11_needEnding hP h)
theorem b_X11_resultKind {M z} (hP : Lay M) (h : d_X11_resultKind M = some z) : VV Lay k_X11_resultKind 0 [(0, .ref 1)] [] M z.2 (QS (fun v => some (.int v)) z) (XS z) := by
  unfold d_X11_resultKind at h
  refine Y_aload_n (pc := 0) (j := 0) dX11_resultKind_0 rfl rfl ?_
  refine Y_bipush (pc := 1) (v := (118 : Int32)) dX11_resultKind_1 rfl ?_
  obtain ⟨y1, qy1, h⟩ := bindE h
  have cy1 := v_X11_needEnding hP qy1
  have hPN1 := cy1.1.1
  obtain ⟨y1 | E1, N1⟩ := y1
  · replace h := id h
    refine C_V1o (k' := k_X11_needEnding) dX11_resultKind_3 w7_20 i_X11_needEnding (lk_1 hP) ⟨Nat.le_of_ble_eq_true rfl, Nat.le_of_ble_eq_true rfl⟩ rfl (Nat.le_of_ble_eq_true rfl) (Nat.le_of_ble_eq_true rfl) (Nat.le_of_ble_eq_true rfl) (cy1.mono id (QSl rfl) (XSl rfl)) ?_
    refine Y_aload_n (pc := 6) (j := 0) dX11_resultKind_6 rfl rfl ?_
    refine Z_getr (pc := 7) dX11_resultKind_7 w3_54 (lk_1 hPN1) fr_11_2 (lr_1_2 hPN1) ?_
    refine Z_getr (pc := 10) dX11_resultKind_10 w1_173 (lk_18 hPN1) fr_4_2 (lr_18_2 hPN1) ?_
    refine Z_getr (pc := 13) dX11_resultKind_13 w1_150 (lk_19 hPN1) fr_8_0 (lr_19_0 hPN1) ?_
    refine Y_sipush (pc := 16) (v := (548 : Int32)) dX11_resultKind_16 rfl ?_
    refine Y_cald (pc := 19) dX11_resultKind_19 (lk_20 hPN1) (ln_20 hPN1) (vp_lit (by decide)) ?_
    obtain ⟨hb1, h⟩ := okE h
    cases h
    exact Y_iret (pc := 20) rfl (nar_ch hb1) dX11_resultKind_20 hPN1 ⟨_, rfl, rfl, rfl⟩
  · replace h := id h
    cases h
    refine C_V1x (k' := k_X11_needEnding) dX11_resultKind_3 w7_20 i_X11_needEnding (lk_1 hP) ⟨Nat.le_of_ble_eq_true rfl, Nat.le_of_ble_eq_true rfl⟩ rfl (Nat.le_of_ble_eq_true rfl) (Nat.le_of_ble_eq_true rfl) (Nat.le_of_ble_eq_true rfl) (cy1.mono id (QSr rfl) (XSr rfl)) ?_
    exact Y_out (by decide) hPN1 ⟨rfl, rfl⟩
theorem v_X11_resultKind {M z} (hP : Lay M) (h : d_X11_resultKind M = some z) : CC Lay k_X11_resultKind [.ref 1] M z.2 (QS (fun v => some (.int v)) z) (XS z) :=
  CC.ofVV (by decide) rfl (Nat.le_of_ble_eq_true rfl) (b_X11_resultKind hP h)
theorem b_X11_result {M z} (hP : Lay M) (h : d_X11_result M = some z) : VV Lay k_X11_result 0 [(0, .ref 1)] [] M z.2 (QS (fun v => some (.long v)) z) (XS z) := by
  unfold d_X11_result at h
  refine Y_aload_n (pc := 0) (j := 0) dX11_result_0 rfl rfl ?_
  refine Y_bipush (pc := 1) (v := (118 : Int32)) dX11_result_1 rfl ?_
  obtain ⟨y1, qy1, h⟩ := bindE h
  have cy1 := v_X11_needEnding hP qy1
  have hPN1 := cy1.1.1
  obtain ⟨y1 | E1, N1⟩ := y1
  · replace h := id h
    refine C_V1o (k' := k_X11_needEnding) dX11_result_3 w7_20 i_X11_needEnding (lk_1 hP) ⟨Nat.le_of_ble_eq_true rfl, Nat.le_of_ble_eq_true rfl⟩ rfl (Nat.le_of_ble_eq_true rfl) (Nat.le_of_ble_eq_true rfl) (Nat.le_of_ble_eq_true rfl) (cy1.mono id (QSl rfl) (XSl rfl)) ?_
    refine Y_aload_n (pc := 6) (j := 0) dX11_result_6 rfl rfl ?_
    refine Z_getr (pc := 7) dX11_result_7 w3_54 (lk_1 hPN1) fr_11_2 (lr_1_2 hPN1) ?_
    refine Z_getr (pc := 10) dX11_result_10 w1_173 (lk_18 hPN1) fr_4_2 (lr_18_2 hPN1) ?_
    refine Y_sipush (pc := 13) (v := (548 : Int32)) dX11_result_13 rfl ?_
    obtain ⟨y2, qy2, h⟩ := bindE h
    have cy2 := v_X8_bitsAt (Or.inl rfl) hPN1 qy2
    refine C_V1r (pc := 16) (k' := k_X8_bitsAt) dX11_result_16 w7_32 i_X8_bitsAt (lk_19 hPN1) ⟨Nat.le_of_ble_eq_true rfl, Nat.le_of_ble_eq_true rfl⟩ rfl (Nat.le_of_ble_eq_true rfl) (Nat.le_of_ble_eq_true rfl) (Nat.le_of_ble_eq_true rfl) (cy2) ?_
    have hPy2 := cy2.1.1
    cases h
    exact Y_lret (pc := 19) rfl dX11_result_19 hPy2 ⟨_, rfl, rfl, rfl⟩
  · replace h := id h
    cases h
    refine C_V1x (k' := k_X11_needEnding) dX11_result_3 w7_20 i_X11_needEnding (lk_1 hP) ⟨Nat.le_of_ble_eq_true rfl, Nat.le_of_ble_eq_true rfl⟩ rfl (Nat.le_of_ble_eq_true rfl) (Nat.le_of_ble_eq_true rfl) (Nat.le_of_ble_eq_true rfl) (cy1.mono id (QSr rfl) (XSr rfl)) ?_
    exact Y_out (by decide) hPN1 ⟨rfl, rfl⟩
theorem v_X11_result {M z} (hP : Lay M) (h : d_X11_result M = some z) : CC Lay k_X11_result [.ref 1] M z.2 (QS (fun v => some (.long v)) z) (XS z) :=
  CC.ofVV (by decide) rfl (Nat.le_of_ble_eq_true rfl) (b_X11_result hP h)
theorem b_X11_failure {M z} (hP : Lay M) (h : d_X11_failure M = some z) : VV Lay k_X11_failure 0 [(0, .ref 1)] [] M z.2 (QS (fun v => some (.int v)) z) (XS z) := by
  unfold d_X11_failure at h
  refine Y_aload_n (pc := 0) (j := 0) dX11_failure_0 rfl rfl ?_
  refine Y_bipush (pc := 1) (v := (120 : Int32)) dX11_failure_1 rfl ?_
  obtain ⟨y1, qy1, h⟩ := bindE h
  have cy1 := v_X11_needEnding hP qy1
  have hPN1 := cy1.1.1
  obtain ⟨y1 | E1, N1⟩ := y1
  · replace h := id h
    refine C_V1o (k' := k_X11_needEnding) dX11_failure_3 w7_20 i_X11_needEnding (lk_1 hP) ⟨Nat.le_of_ble_eq_true rfl, Nat.le_of_ble_eq_true rfl⟩ rfl (Nat.le_of_ble_eq_true rfl) (Nat.le_of_ble_eq_true rfl) (Nat.le_of_ble_eq_true rfl) (cy1.mono id (QSl rfl) (XSl rfl)) ?_
    refine Y_aload_n (pc := 6) (j := 0) dX11_failure_6 rfl rfl ?_
    refine Z_getr (pc := 7) dX11_failure_7 w3_54 (lk_1 hPN1) fr_11_2 (lr_1_2 hPN1) ?_
    refine Z_geti (pc := 10) dX11_failure_10 w1_196 (lk_18 hPN1) fi_4_14 ?_
    obtain ⟨hb1, h⟩ := okE h
    cases h
    exact Y_iret (pc := 13) rfl (nar_ch hb1) dX11_failure_13 hPN1 ⟨_, rfl, rfl, rfl⟩
  · replace h := id h
    cases h
    refine C_V1x (k' := k_X11_needEnding) dX11_failure_3 w7_20 i_X11_needEnding (lk_1 hP) ⟨Nat.le_of_ble_eq_true rfl, Nat.le_of_ble_eq_true rfl⟩ rfl (Nat.le_of_ble_eq_true rfl) (Nat.le_of_ble_eq_true rfl) (Nat.le_of_ble_eq_true rfl) (cy1.mono id (QSr rfl) (XSr rfl)) ?_
    exact Y_out (by decide) hPN1 ⟨rfl, rfl⟩
theorem v_X11_failure {M z} (hP : Lay M) (h : d_X11_failure M = some z) : CC Lay k_X11_failure [.ref 1] M z.2 (QS (fun v => some (.int v)) z) (XS z) :=
  CC.ofVV (by decide) rfl (Nat.le_of_ble_eq_true rfl) (b_X11_failure hP h)
theorem b_X11_line {M z} (hP : Lay M) (h : d_X11_line M = some z) : VV Lay k_X11_line 0 [(0, .ref 1)] [] M z.2 (QS (fun v => some (.int v)) z) (XS z) := by
  unfold d_X11_line at h
  refine Y_aload_n (pc := 0) (j := 0) dX11_line_0 rfl rfl ?_
  refine Y_bipush (pc := 1) (v := (120 : Int32)) dX11_line_1 rfl ?_
  obtain ⟨y1, qy1, h⟩ := bindE h
  have cy1 := v_X11_needEnding hP qy1
  have hPN1 := cy1.1.1
  obtain ⟨y1 | E1, N1⟩ := y1
  · replace h := id h
    refine C_V1o (k' := k_X11_needEnding) dX11_line_3 w7_20 i_X11_needEnding (lk_1 hP) ⟨Nat.le_of_ble_eq_true rfl, Nat.le_of_ble_eq_true rfl⟩ rfl (Nat.le_of_ble_eq_true rfl) (Nat.le_of_ble_eq_true rfl) (Nat.le_of_ble_eq_true rfl) (cy1.mono id (QSl rfl) (XSl rfl)) ?_
    refine Y_aload_n (pc := 6) (j := 0) dX11_line_6 rfl rfl ?_
    refine Z_getr (pc := 7) dX11_line_7 w3_54 (lk_1 hPN1) fr_11_2 (lr_1_2 hPN1) ?_
    refine Z_geti (pc := 10) dX11_line_10 w1_198 (lk_18 hPN1) fi_4_15 ?_
    cases h
    exact Y_iret (pc := 13) rfl rfl dX11_line_13 hPN1 ⟨_, rfl, rfl, rfl⟩
  · replace h := id h
    cases h
    refine C_V1x (k' := k_X11_needEnding) dX11_line_3 w7_20 i_X11_needEnding (lk_1 hP) ⟨Nat.le_of_ble_eq_true rfl, Nat.le_of_ble_eq_true rfl⟩ rfl (Nat.le_of_ble_eq_true rfl) (Nat.le_of_ble_eq_true rfl) (Nat.le_of_ble_eq_true rfl) (cy1.mono id (QSr rfl) (XSr rfl)) ?_
    exact Y_out (by decide) hPN1 ⟨rfl, rfl⟩
theorem v_X11_line {M z} (hP : Lay M) (h : d_X11_line M = some z) : CC Lay k_X11_line [.ref 1] M z.2 (QS (fun v => some (.int v)) z) (XS z) :=
  CC.ofVV (by decide) rfl (Nat.le_of_ble_eq_true rfl) (b_X11_line hP h)
theorem b_X11_told {M z} (hP : Lay M) (h : d_X11_told M = some z) : VV Lay k_X11_told 0 [(0, .ref 1)] [] M z.2 (Qv (some (.int z.1)) z.2) xF := by
  unfold d_X11_told at h
  refine Y_aload_n (pc := 0) (j := 0) dX11_told_0 rfl rfl ?_
  refine Z_getr (pc := 1) dX11_told_1 w3_54 (lk_1 hP) fr_11_2 (lr_1_2 hP) ?_
  refine Z_geti (pc := 4) dX11_told_4 w1_190 (lk_18 hP) fi_4_11 ?_
  cases h
  exact Y_iret (pc := 7) rfl rfl dX11_told_7 hP ⟨rfl, rfl⟩
theorem v_X11_told {M z} (hP : Lay M) (h : d_X11_told M = some z) : CC Lay k_X11_told [.ref 1] M z.2 (Qv (some (.int z.1)) z.2) xF :=
  CC.ofVV (by decide) rfl (Nat.le_of_ble_eq_true rfl) (b_X11_told hP h)
theorem b_X11_needTold_15 {M z} (hP : Lay M) (h : d_X11_needTold_15 M = some z) : VV Lay k_X11_needTold 15 [] [] M z.2 (QS (fun _ => none) z) (XS z) := by
  unfold d_X11_needTold_15 at h
  cases h
  exact Y_throwW_IndexOutOfBoundsException (pc := 15) w4_19 w4_29 (mi := 17) rfl dX11_needTold_15 dX11_needTold_18 dX11_needTold_19 dX11_needTold_22 dX11_needTold_25 rfl (Nat.le_of_ble_eq_true rfl) (Nat.le_of_ble_eq_true rfl) (Nat.le_of_ble_eq_true rfl) (hP.wT rfl) ⟨rfl, rfl⟩
theorem b_X11_needTold {x1 : Int32} {M z} (hP : Lay M) (h : d_X11_needTold x1 M = some z) : VV Lay k_X11_needTold 0 [(0, .ref 1), (1, .int x1)] [] M z.2 (QS (fun _ => none) z) (XS z) := by
  unfold d_X11_needTold at h
  refine Y_iload_n (pc := 0) (j := 1) dX11_needTold_0 rfl rfl ?_
  refine Y_if_lt (pc := 1) (tgt := 15) dX11_needTold_1 (by decide) (fun hc1 => ?_) (fun hc1 => ?_)
  · replace h := ifT hc1 h
    refine VV.sub [] rfl ?_
    exact b_X11_needTold_15  hP h
  · replace h := ifF hc1 h
    refine Y_iload_n (pc := 4) (j := 1) dX11_needTold_4 rfl rfl ?_
    refine Y_aload_n (pc := 5) (j := 0) dX11_needTold_5 rfl rfl ?_
    refine Z_getr (pc := 6) dX11_needTold_6 w3_54 (lk_1 hP) fr_11_2 (lr_1_2 hP) ?_
    refine Z_geti (pc := 9) dX11_needTold_9 w1_190 (lk_18 hP) fi_4_11 ?_
    refine Y_icmp_lt (pc := 12) (tgt := 26) dX11_needTold_12 (by decide) (fun hc2 => ?_) (fun hc2 => ?_)
    · replace h := ifT hc2 h
      cases h
      exact Y_vret (pc := 26) rfl dX11_needTold_26 hP ⟨_, rfl, rfl, rfl⟩
    · replace h := ifF hc2 h
      refine VV.sub [] rfl ?_
      exact b_X11_needTold_15  hP h
theorem v_X11_needTold {x1 : Int32} {M z} (hP : Lay M) (h : d_X11_needTold x1 M = some z) : CC Lay k_X11_needTold [.ref 1, .int x1] M z.2 (QS (fun _ => none) z) (XS z) :=
  CC.ofVV (by decide) rfl (Nat.le_of_ble_eq_true rfl) (b_X11_needTold hP h)
theorem b_X11_toldKind {x1 : Int32} {M z} (hP : Lay M) (h : d_X11_toldKind x1 M = some z) : VV Lay k_X11_toldKind 0 [(0, .ref 1), (1, .int x1)] [] M z.2 (QS (fun v => some (.int v)) z) (XS z) := by
  unfold d_X11_toldKind at h
  refine Y_aload_n (pc := 0) (j := 0) dX11_toldKind_0 rfl rfl ?_
  refine Y_iload_n (pc := 1) (j := 1) dX11_toldKind_1 rfl rfl ?_
  obtain ⟨y1, qy1, h⟩ := bindE h
  have cy1 := v_X11_needTold hP qy1
  have hPN1 := cy1.1.1
  obtain ⟨y1 | E1, N1⟩ := y1
  · replace h := id h
    refine C_V1o (k' := k_X11_needTold) dX11_toldKind_2 w7_69 i_X11_needTold (lk_1 hP) ⟨Nat.le_of_ble_eq_true rfl, Nat.le_of_ble_eq_true rfl⟩ rfl (Nat.le_of_ble_eq_true rfl) (Nat.le_of_ble_eq_true rfl) (Nat.le_of_ble_eq_true rfl) (cy1.mono id (QSl rfl) (XSl rfl)) ?_
    refine Y_aload_n (pc := 5) (j := 0) dX11_toldKind_5 rfl rfl ?_
    refine Z_getr (pc := 6) dX11_toldKind_6 w3_54 (lk_1 hPN1) fr_11_2 (lr_1_2 hPN1) ?_
    refine Z_getr (pc := 9) dX11_toldKind_9 w1_173 (lk_18 hPN1) fr_4_2 (lr_18_2 hPN1) ?_
    refine Z_getr (pc := 12) dX11_toldKind_12 w1_150 (lk_19 hPN1) fr_8_0 (lr_19_0 hPN1) ?_
    refine Y_sipush (pc := 15) (v := (528 : Int32)) dX11_toldKind_15 rfl ?_
    refine Y_iload_n (pc := 18) (j := 1) dX11_toldKind_18 rfl rfl ?_
    refine Y_iadd (pc := 19) dX11_toldKind_19 ?_
    obtain ⟨hb1, h⟩ := okE h
    refine Y_cald (pc := 20) dX11_toldKind_20 (lk_20 hPN1) (ln_20 hPN1) hb1 ?_
    obtain ⟨hb2, h⟩ := okE h
    cases h
    exact Y_iret (pc := 21) rfl (nar_ch hb2) dX11_toldKind_21 hPN1 ⟨_, rfl, rfl, rfl⟩
  · replace h := id h
    cases h
    refine C_V1x (k' := k_X11_needTold) dX11_toldKind_2 w7_69 i_X11_needTold (lk_1 hP) ⟨Nat.le_of_ble_eq_true rfl, Nat.le_of_ble_eq_true rfl⟩ rfl (Nat.le_of_ble_eq_true rfl) (Nat.le_of_ble_eq_true rfl) (Nat.le_of_ble_eq_true rfl) (cy1.mono id (QSr rfl) (XSr rfl)) ?_
    exact Y_out (by decide) hPN1 ⟨rfl, rfl⟩
theorem v_X11_toldKind {x1 : Int32} {M z} (hP : Lay M) (h : d_X11_toldKind x1 M = some z) : CC Lay k_X11_toldKind [.ref 1, .int x1] M z.2 (QS (fun v => some (.int v)) z) (XS z) :=
  CC.ofVV (by decide) rfl (Nat.le_of_ble_eq_true rfl) (b_X11_toldKind hP h)
theorem b_X11_toldAt {x1 : Int32} {M z} (hP : Lay M) (h : d_X11_toldAt x1 M = some z) : VV Lay k_X11_toldAt 0 [(0, .ref 1), (1, .int x1)] [] M z.2 (QS (fun v => some (.long v)) z) (XS z) := by
  unfold d_X11_toldAt at h
  refine Y_aload_n (pc := 0) (j := 0) dX11_toldAt_0 rfl rfl ?_
  refine Y_iload_n (pc := 1) (j := 1) dX11_toldAt_1 rfl rfl ?_
  obtain ⟨y1, qy1, h⟩ := bindE h
  have cy1 := v_X11_needTold hP qy1
  have hPN1 := cy1.1.1
  obtain ⟨y1 | E1, N1⟩ := y1
  · replace h := id h
    refine C_V1o (k' := k_X11_needTold) dX11_toldAt_2 w7_69 i_X11_needTold (lk_1 hP) ⟨Nat.le_of_ble_eq_true rfl, Nat.le_of_ble_eq_true rfl⟩ rfl (Nat.le_of_ble_eq_true rfl) (Nat.le_of_ble_eq_true rfl) (Nat.le_of_ble_eq_true rfl) (cy1.mono id (QSl rfl) (XSl rfl)) ?_
    refine Y_aload_n (pc := 5) (j := 0) dX11_toldAt_5 rfl rfl ?_
    refine Z_getr (pc := 6) dX11_toldAt_6 w3_54 (lk_1 hPN1) fr_11_2 (lr_1_2 hPN1) ?_
    refine Z_getr (pc := 9) dX11_toldAt_9 w1_173 (lk_18 hPN1) fr_4_2 (lr_18_2 hPN1) ?_
    refine Y_sipush (pc := 12) (v := (528 : Int32)) dX11_toldAt_12 rfl ?_
    refine Y_iload_n (pc := 15) (j := 1) dX11_toldAt_15 rfl rfl ?_
    refine Y_iadd (pc := 16) dX11_toldAt_16 ?_
    obtain ⟨y2, qy2, h⟩ := bindE h
    have cy2 := v_X8_bitsAt (Or.inl rfl) hPN1 qy2
    refine C_V1r (pc := 17) (k' := k_X8_bitsAt) dX11_toldAt_17 w7_32 i_X8_bitsAt (lk_19 hPN1) ⟨Nat.le_of_ble_eq_true rfl, Nat.le_of_ble_eq_true rfl⟩ rfl (Nat.le_of_ble_eq_true rfl) (Nat.le_of_ble_eq_true rfl) (Nat.le_of_ble_eq_true rfl) (cy2) ?_
    have hPy2 := cy2.1.1
    cases h
    exact Y_lret (pc := 20) rfl dX11_toldAt_20 hPy2 ⟨_, rfl, rfl, rfl⟩
  · replace h := id h
    cases h
    refine C_V1x (k' := k_X11_needTold) dX11_toldAt_2 w7_69 i_X11_needTold (lk_1 hP) ⟨Nat.le_of_ble_eq_true rfl, Nat.le_of_ble_eq_true rfl⟩ rfl (Nat.le_of_ble_eq_true rfl) (Nat.le_of_ble_eq_true rfl) (Nat.le_of_ble_eq_true rfl) (cy1.mono id (QSr rfl) (XSr rfl)) ?_
    exact Y_out (by decide) hPN1 ⟨rfl, rfl⟩
theorem v_X11_toldAt {x1 : Int32} {M z} (hP : Lay M) (h : d_X11_toldAt x1 M = some z) : CC Lay k_X11_toldAt [.ref 1, .int x1] M z.2 (QS (fun v => some (.long v)) z) (XS z) :=
  CC.ofVV (by decide) rfl (Nat.le_of_ble_eq_true rfl) (b_X11_toldAt hP h)
theorem b_X11_objects {M z} (hP : Lay M) (h : d_X11_objects M = some z) : VV Lay k_X11_objects 0 [(0, .ref 1)] [] M z.2 (Qv (some (.int z.1)) z.2) xF := by
  unfold d_X11_objects at h
  refine Y_aload_n (pc := 0) (j := 0) dX11_objects_0 rfl rfl ?_
  refine Z_getr (pc := 1) dX11_objects_1 w3_54 (lk_1 hP) fr_11_2 (lr_1_2 hP) ?_
  refine Z_geti (pc := 4) dX11_objects_4 w1_188 (lk_18 hP) fi_4_10 ?_
  cases h
  exact Y_iret (pc := 7) rfl rfl dX11_objects_7 hP ⟨rfl, rfl⟩
theorem v_X11_objects {M z} (hP : Lay M) (h : d_X11_objects M = some z) : CC Lay k_X11_objects [.ref 1] M z.2 (Qv (some (.int z.1)) z.2) xF :=
  CC.ofVV (by decide) rfl (Nat.le_of_ble_eq_true rfl) (b_X11_objects hP h)
theorem b_X11_needObject_15 {M z} (hP : Lay M) (h : d_X11_needObject_15 M = some z) : VV Lay k_X11_needObject 15 [] [] M z.2 (QS (fun _ => none) z) (XS z) := by
  unfold d_X11_needObject_15 at h
  cases h
  exact Y_throwW_IndexOutOfBoundsException (pc := 15) w4_19 w4_29 (mi := 18) rfl dX11_needObject_15 dX11_needObject_18 dX11_needObject_19 dX11_needObject_22 dX11_needObject_25 rfl (Nat.le_of_ble_eq_true rfl) (Nat.le_of_ble_eq_true rfl) (Nat.le_of_ble_eq_true rfl) (hP.wT rfl) ⟨rfl, rfl⟩
theorem b_X11_needObject {x1 : Int32} {M z} (hP : Lay M) (h : d_X11_needObject x1 M = some z) : VV Lay k_X11_needObject 0 [(0, .ref 1), (1, .int x1)] [] M z.2 (QS (fun _ => none) z) (XS z) := by
  unfold d_X11_needObject at h
  refine Y_iload_n (pc := 0) (j := 1) dX11_needObject_0 rfl rfl ?_
  refine Y_if_lt (pc := 1) (tgt := 15) dX11_needObject_1 (by decide) (fun hc1 => ?_) (fun hc1 => ?_)
  · replace h := ifT hc1 h
    refine VV.sub [] rfl ?_
    exact b_X11_needObject_15  hP h
  · replace h := ifF hc1 h
    refine Y_iload_n (pc := 4) (j := 1) dX11_needObject_4 rfl rfl ?_
    refine Y_aload_n (pc := 5) (j := 0) dX11_needObject_5 rfl rfl ?_
    refine Z_getr (pc := 6) dX11_needObject_6 w3_54 (lk_1 hP) fr_11_2 (lr_1_2 hP) ?_
    refine Z_geti (pc := 9) dX11_needObject_9 w1_188 (lk_18 hP) fi_4_10 ?_
    refine Y_icmp_lt (pc := 12) (tgt := 26) dX11_needObject_12 (by decide) (fun hc2 => ?_) (fun hc2 => ?_)
    · replace h := ifT hc2 h
      cases h
      exact Y_vret (pc := 26) rfl dX11_needObject_26 hP ⟨_, rfl, rfl, rfl⟩
    · replace h := ifF hc2 h
      refine VV.sub [] rfl ?_
      exact b_X11_needObject_15  hP h
theorem v_X11_needObject {x1 : Int32} {M z} (hP : Lay M) (h : d_X11_needObject x1 M = some z) : CC Lay k_X11_needObject [.ref 1, .int x1] M z.2 (QS (fun _ => none) z) (XS z) :=
  CC.ofVV (by decide) rfl (Nat.le_of_ble_eq_true rfl) (b_X11_needObject hP h)
theorem b_X11_shapeOf {x1 : Int32} {M z} (hP : Lay M) (h : d_X11_shapeOf x1 M = some z) : VV Lay k_X11_shapeOf 0 [(0, .ref 1), (1, .int x1)] [] M z.2 (QS (fun v => some (.int v)) z) (XS z) := by
  unfold d_X11_shapeOf at h
  refine Y_aload_n (pc := 0) (j := 0) dX11_shapeOf_0 rfl rfl ?_
  refine Y_iload_n (pc := 1) (j := 1) dX11_shapeOf_1 rfl rfl ?_
  obtain ⟨y1, qy1, h⟩ := bindE h
  have cy1 := v_X11_needObject hP qy1
  have hPN1 := cy1.1.1
  obtain ⟨y1 | E1, N1⟩ := y1
  · replace h := id h
    refine C_V1o (k' := k_X11_needObject) dX11_shapeOf_2 w7_88 i_X11_needObject (lk_1 hP) ⟨Nat.le_of_ble_eq_true rfl, Nat.le_of_ble_eq_true rfl⟩ rfl (Nat.le_of_ble_eq_true rfl) (Nat.le_of_ble_eq_true rfl) (Nat.le_of_ble_eq_true rfl) (cy1.mono id (QSl rfl) (XSl rfl)) ?_
    refine Y_aload_n (pc := 5) (j := 0) dX11_shapeOf_5 rfl rfl ?_
    refine Z_getr (pc := 6) dX11_shapeOf_6 w3_54 (lk_1 hPN1) fr_11_2 (lr_1_2 hPN1) ?_
    refine Z_getr (pc := 9) dX11_shapeOf_9 w1_178 (lk_18 hPN1) fr_4_6 (lr_18_6 hPN1) ?_
    refine Y_iload_n (pc := 12) (j := 1) dX11_shapeOf_12 rfl rfl ?_
    obtain ⟨hb1, h⟩ := okE h
    refine Y_iald (pc := 13) dX11_shapeOf_13 (lk_27 hPN1) (ln_27 hPN1) hb1 ?_
    cases h
    exact Y_iret (pc := 14) rfl rfl dX11_shapeOf_14 hPN1 ⟨_, rfl, rfl, rfl⟩
  · replace h := id h
    cases h
    refine C_V1x (k' := k_X11_needObject) dX11_shapeOf_2 w7_88 i_X11_needObject (lk_1 hP) ⟨Nat.le_of_ble_eq_true rfl, Nat.le_of_ble_eq_true rfl⟩ rfl (Nat.le_of_ble_eq_true rfl) (Nat.le_of_ble_eq_true rfl) (Nat.le_of_ble_eq_true rfl) (cy1.mono id (QSr rfl) (XSr rfl)) ?_
    exact Y_out (by decide) hPN1 ⟨rfl, rfl⟩
theorem v_X11_shapeOf {x1 : Int32} {M z} (hP : Lay M) (h : d_X11_shapeOf x1 M = some z) : CC Lay k_X11_shapeOf [.ref 1, .int x1] M z.2 (QS (fun v => some (.int v)) z) (XS z) :=
  CC.ofVV (by decide) rfl (Nat.le_of_ble_eq_true rfl) (b_X11_shapeOf hP h)
theorem b_X11_field_32 {M z} (hP : Lay M) (h : d_X11_field_32 M = some z) : VV Lay k_X11_field 32 [] [] M z.2 (QS (fun v => some (.long v)) z) (XS z) := by
  unfold d_X11_field_32 at h
  cases h
  exact Y_throwW_NoSuchElementException (pc := 32) w4_198 w4_207 (mi := 19) rfl dX11_field_32 dX11_field_35 dX11_field_36 dX11_field_39 dX11_field_42 rfl (Nat.le_of_ble_eq_true rfl) (Nat.le_of_ble_eq_true rfl) (Nat.le_of_ble_eq_true rfl) (hP.wT rfl) ⟨rfl, rfl⟩
theorem b_X11_field {x1 : Int32} {x2 : Int32} {M z} (hP : Lay M) (h : d_X11_field x1 x2 M = some z) : VV Lay k_X11_field 0 [(0, .ref 1), (1, .int x1), (2, .int x2)] [] M z.2 (QS (fun v => some (.long v)) z) (XS z) := by
  unfold d_X11_field at h
  refine Y_aload_n (pc := 0) (j := 0) dX11_field_0 rfl rfl ?_
  refine Y_iload_n (pc := 1) (j := 1) dX11_field_1 rfl rfl ?_
  obtain ⟨y1, qy1, h⟩ := bindE h
  have cy1 := v_X11_needObject hP qy1
  have hPN1 := cy1.1.1
  obtain ⟨y1 | E1, N1⟩ := y1
  · replace h := id h
    refine C_V1o (k' := k_X11_needObject) dX11_field_2 w7_88 i_X11_needObject (lk_1 hP) ⟨Nat.le_of_ble_eq_true rfl, Nat.le_of_ble_eq_true rfl⟩ rfl (Nat.le_of_ble_eq_true rfl) (Nat.le_of_ble_eq_true rfl) (Nat.le_of_ble_eq_true rfl) (cy1.mono id (QSl rfl) (XSl rfl)) ?_
    refine Y_iload_n (pc := 5) (j := 2) dX11_field_5 rfl rfl ?_
    obtain ⟨y2, qy2, h⟩ := bindE h
    have cy2 := v_X11_isName hPN1 qy2
    refine C_S1r (pc := 6) (k' := k_X11_isName) dX11_field_6 w4_194 i_X11_isName (Nat.le_of_ble_eq_true rfl) (Nat.le_of_ble_eq_true rfl) (Nat.le_of_ble_eq_true rfl) (cy2) ?_
    have hPy2 := cy2.1.1
    refine Y_if_eq (pc := 9) (tgt := 32) dX11_field_9 (by decide) (fun hc1 => ?_) (fun hc1 => ?_)
    · replace h := ifT hc1 h
      refine VV.sub [] rfl ?_
      exact b_X11_field_32  hPy2 h
    · replace h := ifF hc1 h
      refine Y_aload_n (pc := 12) (j := 0) dX11_field_12 rfl rfl ?_
      refine Z_getr (pc := 13) dX11_field_13 w3_53 (lk_1 hPy2) fr_11_1 (lr_1_1 hPy2) ?_
      refine Y_aload_n (pc := 16) (j := 0) dX11_field_16 rfl rfl ?_
      refine Z_getr (pc := 17) dX11_field_17 w3_54 (lk_1 hPy2) fr_11_2 (lr_1_2 hPy2) ?_
      refine Z_getr (pc := 20) dX11_field_20 w1_178 (lk_18 hPy2) fr_4_6 (lr_18_6 hPy2) ?_
      refine Y_iload_n (pc := 23) (j := 1) dX11_field_23 rfl rfl ?_
      obtain ⟨hb1, h⟩ := okE h
      refine Y_iald (pc := 24) dX11_field_24 (lk_27 hPy2) (ln_27 hPy2) hb1 ?_
      refine Y_iload_n (pc := 25) (j := 2) dX11_field_25 rfl rfl ?_
      obtain ⟨y3, qy3, h⟩ := bindE h
      have cy3 := v_X7_has hPy2 qy3
      refine C_V2r (pc := 26) (k' := k_X7_has) dX11_field_26 w7_100 i_X7_has (lk_11 hPy2) ⟨Nat.le_of_ble_eq_true rfl, Nat.le_of_ble_eq_true rfl⟩ rfl (Nat.le_of_ble_eq_true rfl) (Nat.le_of_ble_eq_true rfl) (Nat.le_of_ble_eq_true rfl) (cy3) ?_
      have hPy3 := cy3.1.1
      refine Y_if_ne (pc := 29) (tgt := 43) dX11_field_29 (by decide) (fun hc2 => ?_) (fun hc2 => ?_)
      · replace h := ifF hc2 h
        refine Y_aload_n (pc := 43) (j := 0) dX11_field_43 rfl rfl ?_
        refine Z_getr (pc := 44) dX11_field_44 w3_54 (lk_1 hPy3) fr_11_2 (lr_1_2 hPy3) ?_
        refine Z_getr (pc := 47) dX11_field_47 w1_173 (lk_18 hPy3) fr_4_2 (lr_18_2 hPy3) ?_
        refine Y_iload_n (pc := 50) (j := 1) dX11_field_50 rfl rfl ?_
        refine Y_iload_n (pc := 51) (j := 2) dX11_field_51 rfl rfl ?_
        obtain ⟨y4, qy4, h⟩ := bindE h
        have cy4 := v_X11_fieldPlace hPy3 qy4
        refine C_S2r (pc := 52) (k' := k_X11_fieldPlace) dX11_field_52 w7_102 i_X11_fieldPlace (Nat.le_of_ble_eq_true rfl) (Nat.le_of_ble_eq_true rfl) (Nat.le_of_ble_eq_true rfl) (cy4) ?_
        have hPy4 := cy4.1.1
        obtain ⟨y5, qy5, h⟩ := bindE h
        have cy5 := v_X8_bitsAt (Or.inl rfl) hPy4 qy5
        refine C_V1r (pc := 55) (k' := k_X8_bitsAt) dX11_field_55 w7_32 i_X8_bitsAt (lk_19 hPy4) ⟨Nat.le_of_ble_eq_true rfl, Nat.le_of_ble_eq_true rfl⟩ rfl (Nat.le_of_ble_eq_true rfl) (Nat.le_of_ble_eq_true rfl) (Nat.le_of_ble_eq_true rfl) (cy5) ?_
        have hPy5 := cy5.1.1
        cases h
        exact Y_lret (pc := 58) rfl dX11_field_58 hPy5 ⟨_, rfl, rfl, rfl⟩
      · replace h := ifT hc2 h
        refine VV.sub [] rfl ?_
        exact b_X11_field_32  hPy3 h
  · replace h := id h
    cases h
    refine C_V1x (k' := k_X11_needObject) dX11_field_2 w7_88 i_X11_needObject (lk_1 hP) ⟨Nat.le_of_ble_eq_true rfl, Nat.le_of_ble_eq_true rfl⟩ rfl (Nat.le_of_ble_eq_true rfl) (Nat.le_of_ble_eq_true rfl) (Nat.le_of_ble_eq_true rfl) (cy1.mono id (QSr rfl) (XSr rfl)) ?_
    exact Y_out (by decide) hPN1 ⟨rfl, rfl⟩
theorem v_X11_field {x1 : Int32} {x2 : Int32} {M z} (hP : Lay M) (h : d_X11_field x1 x2 M = some z) : CC Lay k_X11_field [.ref 1, .int x1, .int x2] M z.2 (QS (fun v => some (.long v)) z) (XS z) :=
  CC.ofVV (by decide) rfl (Nat.le_of_ble_eq_true rfl) (b_X11_field hP h)
theorem b_X11_shapes {M z} (hP : Lay M) (h : d_X11_shapes M = some z) : VV Lay k_X11_shapes 0 [(0, .ref 1)] [] M z.2 (Qv (some (.int z.1)) z.2) xF := by
  unfold d_X11_shapes at h
  refine Y_aload_n (pc := 0) (j := 0) dX11_shapes_0 rfl rfl ?_
  refine Z_getr (pc := 1) dX11_shapes_1 w3_53 (lk_1 hP) fr_11_1 (lr_1_1 hP) ?_
  refine Z_geti (pc := 4) dX11_shapes_4 w1_121 (lk_11 hP) fi_7_6 ?_
  cases h
  exact Y_iret (pc := 7) rfl rfl dX11_shapes_7 hP ⟨rfl, rfl⟩
theorem v_X11_shapes {M z} (hP : Lay M) (h : d_X11_shapes M = some z) : CC Lay k_X11_shapes [.ref 1] M z.2 (Qv (some (.int z.1)) z.2) xF :=
  CC.ofVV (by decide) rfl (Nat.le_of_ble_eq_true rfl) (b_X11_shapes hP h)
theorem b_X11_needShape_15 {M z} (hP : Lay M) (h : d_X11_needShape_15 M = some z) : VV Lay k_X11_needShape 15 [] [] M z.2 (QS (fun _ => none) z) (XS z) := by
  unfold d_X11_needShape_15 at h
  cases h
  exact Y_throwW_IndexOutOfBoundsException (pc := 15) w4_19 w4_29 (mi := 20) rfl dX11_needShape_15 dX11_needShape_18 dX11_needShape_19 dX11_needShape_22 dX11_needShape_25 rfl (Nat.le_of_ble_eq_true rfl) (Nat.le_of_ble_eq_true rfl) (Nat.le_of_ble_eq_true rfl) (hP.wT rfl) ⟨rfl, rfl⟩
theorem b_X11_needShape {x1 : Int32} {M z} (hP : Lay M) (h : d_X11_needShape x1 M = some z) : VV Lay k_X11_needShape 0 [(0, .ref 1), (1, .int x1)] [] M z.2 (QS (fun _ => none) z) (XS z) := by
  unfold d_X11_needShape at h
  refine Y_iload_n (pc := 0) (j := 1) dX11_needShape_0 rfl rfl ?_
  refine Y_if_lt (pc := 1) (tgt := 15) dX11_needShape_1 (by decide) (fun hc1 => ?_) (fun hc1 => ?_)
  · replace h := ifT hc1 h
    refine VV.sub [] rfl ?_
    exact b_X11_needShape_15  hP h
  · replace h := ifF hc1 h
    refine Y_iload_n (pc := 4) (j := 1) dX11_needShape_4 rfl rfl ?_
    refine Y_aload_n (pc := 5) (j := 0) dX11_needShape_5 rfl rfl ?_
    refine Z_getr (pc := 6) dX11_needShape_6 w3_53 (lk_1 hP) fr_11_1 (lr_1_1 hP) ?_
    refine Z_geti (pc := 9) dX11_needShape_9 w1_121 (lk_11 hP) fi_7_6 ?_
    refine Y_icmp_lt (pc := 12) (tgt := 26) dX11_needShape_12 (by decide) (fun hc2 => ?_) (fun hc2 => ?_)
    · replace h := ifT hc2 h
      cases h
      exact Y_vret (pc := 26) rfl dX11_needShape_26 hP ⟨_, rfl, rfl, rfl⟩
    · replace h := ifF hc2 h
      refine VV.sub [] rfl ?_
      exact b_X11_needShape_15  hP h
theorem v_X11_needShape {x1 : Int32} {M z} (hP : Lay M) (h : d_X11_needShape x1 M = some z) : CC Lay k_X11_needShape [.ref 1, .int x1] M z.2 (QS (fun _ => none) z) (XS z) :=
  CC.ofVV (by decide) rfl (Nat.le_of_ble_eq_true rfl) (b_X11_needShape hP h)
theorem b_X11_fields {x1 : Int32} {M z} (hP : Lay M) (h : d_X11_fields x1 M = some z) : VV Lay k_X11_fields 0 [(0, .ref 1), (1, .int x1)] [] M z.2 (QS (fun v => some (.int v)) z) (XS z) := by
  unfold d_X11_fields at h
  refine Y_aload_n (pc := 0) (j := 0) dX11_fields_0 rfl rfl ?_
  refine Y_iload_n (pc := 1) (j := 1) dX11_fields_1 rfl rfl ?_
  obtain ⟨y1, qy1, h⟩ := bindE h
  have cy1 := v_X11_needShape hP qy1
  have hPN1 := cy1.1.1
  obtain ⟨y1 | E1, N1⟩ := y1
  · replace h := id h
    refine C_V1o (k' := k_X11_needShape) dX11_fields_2 w7_110 i_X11_needShape (lk_1 hP) ⟨Nat.le_of_ble_eq_true rfl, Nat.le_of_ble_eq_true rfl⟩ rfl (Nat.le_of_ble_eq_true rfl) (Nat.le_of_ble_eq_true rfl) (Nat.le_of_ble_eq_true rfl) (cy1.mono id (QSl rfl) (XSl rfl)) ?_
    refine Y_aload_n (pc := 5) (j := 0) dX11_fields_5 rfl rfl ?_
    refine Z_getr (pc := 6) dX11_fields_6 w3_53 (lk_1 hPN1) fr_11_1 (lr_1_1 hPN1) ?_
    refine Z_getr (pc := 9) dX11_fields_9 w1_111 (lk_11 hPN1) fr_7_1 (lr_11_1 hPN1) ?_
    refine Y_iload_n (pc := 12) (j := 1) dX11_fields_12 rfl rfl ?_
    obtain ⟨hb1, h⟩ := okE h
    refine Y_iald (pc := 13) dX11_fields_13 (lk_13 hPN1) (ln_13 hPN1) hb1 ?_
    cases h
    exact Y_iret (pc := 14) rfl rfl dX11_fields_14 hPN1 ⟨_, rfl, rfl, rfl⟩
  · replace h := id h
    cases h
    refine C_V1x (k' := k_X11_needShape) dX11_fields_2 w7_110 i_X11_needShape (lk_1 hP) ⟨Nat.le_of_ble_eq_true rfl, Nat.le_of_ble_eq_true rfl⟩ rfl (Nat.le_of_ble_eq_true rfl) (Nat.le_of_ble_eq_true rfl) (Nat.le_of_ble_eq_true rfl) (cy1.mono id (QSr rfl) (XSr rfl)) ?_
    exact Y_out (by decide) hPN1 ⟨rfl, rfl⟩
theorem v_X11_fields {x1 : Int32} {M z} (hP : Lay M) (h : d_X11_fields x1 M = some z) : CC Lay k_X11_fields [.ref 1, .int x1] M z.2 (QS (fun v => some (.int v)) z) (XS z) :=
  CC.ofVV (by decide) rfl (Nat.le_of_ble_eq_true rfl) (b_X11_fields hP h)
theorem b_X11_fieldAt_22 {M z} (hP : Lay M) (h : d_X11_fieldAt_22 M = some z) : VV Lay k_X11_fieldAt 22 [] [] M z.2 (QS (fun v => some (.int v)) z) (XS z) := by
  unfold d_X11_fieldAt_22 at h
  cases h
  exact Y_throwW_NoSuchElementException (pc := 22) w4_198 w4_207 (mi := 21) rfl dX11_fieldAt_22 dX11_fieldAt_25 dX11_fieldAt_26 dX11_fieldAt_29 dX11_fieldAt_32 rfl (Nat.le_of_ble_eq_true rfl) (Nat.le_of_ble_eq_true rfl) (Nat.le_of_ble_eq_true rfl) (hP.wT rfl) ⟨rfl, rfl⟩
theorem b_X11_fieldAt {x1 : Int32} {x2 : Int32} {M z} (hP : Lay M) (h : d_X11_fieldAt x1 x2 M = some z) : VV Lay k_X11_fieldAt 0 [(0, .ref 1), (1, .int x1), (2, .int x2)] [] M z.2 (QS (fun v => some (.int v)) z) (XS z) := by
  unfold d_X11_fieldAt at h
  refine Y_aload_n (pc := 0) (j := 0) dX11_fieldAt_0 rfl rfl ?_
  refine Y_iload_n (pc := 1) (j := 1) dX11_fieldAt_1 rfl rfl ?_
  obtain ⟨y1, qy1, h⟩ := bindE h
  have cy1 := v_X11_needShape hP qy1
  have hPN1 := cy1.1.1
  obtain ⟨y1 | E1, N1⟩ := y1
  · replace h := id h
    refine C_V1o (k' := k_X11_needShape) dX11_fieldAt_2 w7_110 i_X11_needShape (lk_1 hP) ⟨Nat.le_of_ble_eq_true rfl, Nat.le_of_ble_eq_true rfl⟩ rfl (Nat.le_of_ble_eq_true rfl) (Nat.le_of_ble_eq_true rfl) (Nat.le_of_ble_eq_true rfl) (cy1.mono id (QSl rfl) (XSl rfl)) ?_
    refine Y_iload_n (pc := 5) (j := 2) dX11_fieldAt_5 rfl rfl ?_
    refine Y_if_lt (pc := 6) (tgt := 22) dX11_fieldAt_6 (by decide) (fun hc1 => ?_) (fun hc1 => ?_)
    · replace h := ifT hc1 h
      refine VV.sub [] rfl ?_
      exact b_X11_fieldAt_22  hPN1 h
    · replace h := ifF hc1 h
      refine Y_iload_n (pc := 9) (j := 2) dX11_fieldAt_9 rfl rfl ?_
      refine Y_aload_n (pc := 10) (j := 0) dX11_fieldAt_10 rfl rfl ?_
      refine Z_getr (pc := 11) dX11_fieldAt_11 w3_53 (lk_1 hPN1) fr_11_1 (lr_1_1 hPN1) ?_
      refine Z_getr (pc := 14) dX11_fieldAt_14 w1_111 (lk_11 hPN1) fr_7_1 (lr_11_1 hPN1) ?_
      refine Y_iload_n (pc := 17) (j := 1) dX11_fieldAt_17 rfl rfl ?_
      obtain ⟨hb1, h⟩ := okE h
      refine Y_iald (pc := 18) dX11_fieldAt_18 (lk_13 hPN1) (ln_13 hPN1) hb1 ?_
      refine Y_icmp_lt (pc := 19) (tgt := 33) dX11_fieldAt_19 (by decide) (fun hc2 => ?_) (fun hc2 => ?_)
      · replace h := ifT hc2 h
        refine Y_aload_n (pc := 33) (j := 0) dX11_fieldAt_33 rfl rfl ?_
        refine Z_getr (pc := 34) dX11_fieldAt_34 w3_53 (lk_1 hPN1) fr_11_1 (lr_1_1 hPN1) ?_
        refine Z_getr (pc := 37) dX11_fieldAt_37 w1_114 (lk_11 hPN1) fr_7_3 (lr_11_3 hPN1) ?_
        refine Y_iload_n (pc := 40) (j := 1) dX11_fieldAt_40 rfl rfl ?_
        refine Y_bipush (pc := 41) (v := (6 : Int32)) dX11_fieldAt_41 rfl ?_
        refine Y_imul (pc := 43) dX11_fieldAt_43 ?_
        refine Y_iload_n (pc := 44) (j := 2) dX11_fieldAt_44 rfl rfl ?_
        refine Y_iadd (pc := 45) dX11_fieldAt_45 ?_
        obtain ⟨hb2, h⟩ := okE h
        refine Y_iald (pc := 46) dX11_fieldAt_46 (lk_15 hPN1) (ln_15 hPN1) hb2 ?_
        cases h
        exact Y_iret (pc := 47) rfl rfl dX11_fieldAt_47 hPN1 ⟨_, rfl, rfl, rfl⟩
      · replace h := ifF hc2 h
        refine VV.sub [] rfl ?_
        exact b_X11_fieldAt_22  hPN1 h
  · replace h := id h
    cases h
    refine C_V1x (k' := k_X11_needShape) dX11_fieldAt_2 w7_110 i_X11_needShape (lk_1 hP) ⟨Nat.le_of_ble_eq_true rfl, Nat.le_of_ble_eq_true rfl⟩ rfl (Nat.le_of_ble_eq_true rfl) (Nat.le_of_ble_eq_true rfl) (Nat.le_of_ble_eq_true rfl) (cy1.mono id (QSr rfl) (XSr rfl)) ?_
    exact Y_out (by decide) hPN1 ⟨rfl, rfl⟩
theorem v_X11_fieldAt {x1 : Int32} {x2 : Int32} {M z} (hP : Lay M) (h : d_X11_fieldAt x1 x2 M = some z) : CC Lay k_X11_fieldAt [.ref 1, .int x1, .int x2] M z.2 (QS (fun v => some (.int v)) z) (XS z) :=
  CC.ofVV (by decide) rfl (Nat.le_of_ble_eq_true rfl) (b_X11_fieldAt hP h)
theorem b_X11_nextShape_30 {M z} (hP : Lay M) (h : d_X11_nextShape_30 M = some z) : VV Lay k_X11_nextShape 30 [] [] M z.2 (QS (fun v => some (.int v)) z) (XS z) := by
  unfold d_X11_nextShape_30 at h
  cases h
  exact Y_throwW_NoSuchElementException (pc := 30) w4_198 w4_207 (mi := 22) rfl dX11_nextShape_30 dX11_nextShape_33 dX11_nextShape_34 dX11_nextShape_37 dX11_nextShape_40 rfl (Nat.le_of_ble_eq_true rfl) (Nat.le_of_ble_eq_true rfl) (Nat.le_of_ble_eq_true rfl) (hP.wT rfl) ⟨rfl, rfl⟩
theorem b_X11_nextShape {x1 : Int32} {x2 : Int32} {M z} (hP : Lay M) (h : d_X11_nextShape x1 x2 M = some z) : VV Lay k_X11_nextShape 0 [(0, .ref 1), (1, .int x1), (2, .int x2)] [] M z.2 (QS (fun v => some (.int v)) z) (XS z) := by
  unfold d_X11_nextShape at h
  refine Y_aload_n (pc := 0) (j := 0) dX11_nextShape_0 rfl rfl ?_
  refine Y_iload_n (pc := 1) (j := 1) dX11_nextShape_1 rfl rfl ?_
  obtain ⟨y1, qy1, h⟩ := bindE h
  have cy1 := v_X11_needShape hP qy1
  have hPN1 := cy1.1.1
  obtain ⟨y1 | E1, N1⟩ := y1
  · replace h := id h
    refine C_V1o (k' := k_X11_needShape) dX11_nextShape_2 w7_110 i_X11_needShape (lk_1 hP) ⟨Nat.le_of_ble_eq_true rfl, Nat.le_of_ble_eq_true rfl⟩ rfl (Nat.le_of_ble_eq_true rfl) (Nat.le_of_ble_eq_true rfl) (Nat.le_of_ble_eq_true rfl) (cy1.mono id (QSl rfl) (XSl rfl)) ?_
    refine Y_iload_n (pc := 5) (j := 2) dX11_nextShape_5 rfl rfl ?_
    obtain ⟨y2, qy2, h⟩ := bindE h
    have cy2 := v_X11_isName hPN1 qy2
    refine C_S1r (pc := 6) (k' := k_X11_isName) dX11_nextShape_6 w4_194 i_X11_isName (Nat.le_of_ble_eq_true rfl) (Nat.le_of_ble_eq_true rfl) (Nat.le_of_ble_eq_true rfl) (cy2) ?_
    have hPy2 := cy2.1.1
    refine Y_if_eq (pc := 9) (tgt := 30) dX11_nextShape_9 (by decide) (fun hc1 => ?_) (fun hc1 => ?_)
    · replace h := ifT hc1 h
      refine VV.sub [] rfl ?_
      exact b_X11_nextShape_30  hPy2 h
    · replace h := ifF hc1 h
      refine Y_aload_n (pc := 12) (j := 0) dX11_nextShape_12 rfl rfl ?_
      refine Z_getr (pc := 13) dX11_nextShape_13 w3_53 (lk_1 hPy2) fr_11_1 (lr_1_1 hPy2) ?_
      refine Z_getr (pc := 16) dX11_nextShape_16 w1_116 (lk_11 hPy2) fr_7_4 (lr_11_4 hPy2) ?_
      refine Y_iload_n (pc := 19) (j := 1) dX11_nextShape_19 rfl rfl ?_
      refine Y_bipush (pc := 20) (v := (6 : Int32)) dX11_nextShape_20 rfl ?_
      refine Y_imul (pc := 22) dX11_nextShape_22 ?_
      refine Y_iload_n (pc := 23) (j := 2) dX11_nextShape_23 rfl rfl ?_
      refine Y_iadd (pc := 24) dX11_nextShape_24 ?_
      obtain ⟨hb1, h⟩ := okE h
      refine Y_iald (pc := 25) dX11_nextShape_25 (lk_16 hPy2) (ln_16 hPy2) hb1 ?_
      refine Y_iconst (pc := 26) (v := (-1 : Int32)) dX11_nextShape_26 rfl ?_
      refine Y_icmp_ne (pc := 27) (tgt := 41) dX11_nextShape_27 (by decide) (fun hc2 => ?_) (fun hc2 => ?_)
      · replace h := ifF hc2 h
        refine Y_aload_n (pc := 41) (j := 0) dX11_nextShape_41 rfl rfl ?_
        refine Z_getr (pc := 42) dX11_nextShape_42 w3_53 (lk_1 hPy2) fr_11_1 (lr_1_1 hPy2) ?_
        refine Z_getr (pc := 45) dX11_nextShape_45 w1_116 (lk_11 hPy2) fr_7_4 (lr_11_4 hPy2) ?_
        refine Y_iload_n (pc := 48) (j := 1) dX11_nextShape_48 rfl rfl ?_
        refine Y_bipush (pc := 49) (v := (6 : Int32)) dX11_nextShape_49 rfl ?_
        refine Y_imul (pc := 51) dX11_nextShape_51 ?_
        refine Y_iload_n (pc := 52) (j := 2) dX11_nextShape_52 rfl rfl ?_
        refine Y_iadd (pc := 53) dX11_nextShape_53 ?_
        obtain ⟨hb2, h⟩ := okE h
        refine Y_iald (pc := 54) dX11_nextShape_54 (lk_16 hPy2) (ln_16 hPy2) hb2 ?_
        cases h
        exact Y_iret (pc := 55) rfl rfl dX11_nextShape_55 hPy2 ⟨_, rfl, rfl, rfl⟩
      · replace h := ifT hc2 h
        refine VV.sub [] rfl ?_
        exact b_X11_nextShape_30  hPy2 h
  · replace h := id h
    cases h
    refine C_V1x (k' := k_X11_needShape) dX11_nextShape_2 w7_110 i_X11_needShape (lk_1 hP) ⟨Nat.le_of_ble_eq_true rfl, Nat.le_of_ble_eq_true rfl⟩ rfl (Nat.le_of_ble_eq_true rfl) (Nat.le_of_ble_eq_true rfl) (Nat.le_of_ble_eq_true rfl) (cy1.mono id (QSr rfl) (XSr rfl)) ?_
    exact Y_out (by decide) hPN1 ⟨rfl, rfl⟩
theorem v_X11_nextShape {x1 : Int32} {x2 : Int32} {M z} (hP : Lay M) (h : d_X11_nextShape x1 x2 M = some z) : CC Lay k_X11_nextShape [.ref 1, .int x1, .int x2] M z.2 (QS (fun v => some (.int v)) z) (XS z) :=
  CC.ofVV (by decide) rfl (Nat.le_of_ble_eq_true rfl) (b_X11_nextShape hP h)
theorem b_X11_cacheSite_39 {M z} (hP : Lay M) (h : d_X11_cacheSite_39 M = some z) : VV Lay k_X11_cacheSite 39 [] [] M z.2 (QS (fun v => some (.int v)) z) (XS z) := by
  unfold d_X11_cacheSite_39 at h
  cases h
  exact Y_throwW_NoSuchElementException (pc := 39) w4_198 w4_207 (mi := 23) rfl dX11_cacheSite_39 dX11_cacheSite_42 dX11_cacheSite_43 dX11_cacheSite_46 dX11_cacheSite_49 rfl (Nat.le_of_ble_eq_true rfl) (Nat.le_of_ble_eq_true rfl) (Nat.le_of_ble_eq_true rfl) (hP.wT rfl) ⟨rfl, rfl⟩
theorem b_X11_cacheSite {x1 : Int32} {x2 : Int32} {M z} (hP : Lay M) (h : d_X11_cacheSite x1 x2 M = some z) : VV Lay k_X11_cacheSite 0 [(0, .ref 1), (1, .int x1), (2, .int x2)] [] M z.2 (QS (fun v => some (.int v)) z) (XS z) := by
  unfold d_X11_cacheSite at h
  refine Y_aload_n (pc := 0) (j := 0) dX11_cacheSite_0 rfl rfl ?_
  refine Y_iload_n (pc := 1) (j := 1) dX11_cacheSite_1 rfl rfl ?_
  obtain ⟨y1, qy1, h⟩ := bindE h
  have cy1 := v_X11_needFunction hP qy1
  have hPN1 := cy1.1.1
  obtain ⟨y1 | E1, N1⟩ := y1
  · replace h := id h
    refine C_V1o (k' := k_X11_needFunction) dX11_cacheSite_2 w4_11 i_X11_needFunction (lk_1 hP) ⟨Nat.le_of_ble_eq_true rfl, Nat.le_of_ble_eq_true rfl⟩ rfl (Nat.le_of_ble_eq_true rfl) (Nat.le_of_ble_eq_true rfl) (Nat.le_of_ble_eq_true rfl) (cy1.mono id (QSl rfl) (XSl rfl)) ?_
    refine Y_aload_n (pc := 5) (j := 0) dX11_cacheSite_5 rfl rfl ?_
    refine Z_getr (pc := 6) dX11_cacheSite_6 w3_52 (lk_1 hPN1) fr_11_0 (lr_1_0 hPN1) ?_
    refine Y_iload_n (pc := 9) (j := 1) dX11_cacheSite_9 rfl rfl ?_
    refine Y_iload_n (pc := 10) (j := 2) dX11_cacheSite_10 rfl rfl ?_
    obtain ⟨y2, qy2, h⟩ := bindE h
    have cy2 := v_X5_hasCode hPN1 qy2
    refine C_V2r (pc := 11) (k' := k_X5_hasCode) dX11_cacheSite_11 w7_142 i_X5_hasCode (lk_2 hPN1) ⟨Nat.le_of_ble_eq_true rfl, Nat.le_of_ble_eq_true rfl⟩ rfl (Nat.le_of_ble_eq_true rfl) (Nat.le_of_ble_eq_true rfl) (Nat.le_of_ble_eq_true rfl) (cy2) ?_
    have hPy2 := cy2.1.1
    refine Y_if_eq (pc := 14) (tgt := 39) dX11_cacheSite_14 (by decide) (fun hc1 => ?_) (fun hc1 => ?_)
    · replace h := ifT hc1 h
      refine VV.sub [] rfl ?_
      exact b_X11_cacheSite_39  hPy2 h
    · replace h := ifF hc1 h
      refine Y_ldcwS (pc := 17) (i := 6) dX11_cacheSite_17 rfl ?_
      refine Y_aload_n (pc := 20) (j := 0) dX11_cacheSite_20 rfl rfl ?_
      refine Z_getr (pc := 21) dX11_cacheSite_21 w3_52 (lk_1 hPy2) fr_11_0 (lr_1_0 hPy2) ?_
      refine Z_getr (pc := 24) dX11_cacheSite_24 w1_65 (lk_2 hPy2) fr_5_3 (lr_2_3 hPy2) ?_
      refine Y_iload_n (pc := 27) (j := 1) dX11_cacheSite_27 rfl rfl ?_
      refine Y_iload_n (pc := 28) (j := 2) dX11_cacheSite_28 rfl rfl ?_
      obtain ⟨y3, qy3, h⟩ := bindE h
      have cy3 := v_X11_siteOf hPy2 qy3
      refine C_S2r (pc := 29) (k' := k_X11_siteOf) dX11_cacheSite_29 w4_229 i_X11_siteOf (Nat.le_of_ble_eq_true rfl) (Nat.le_of_ble_eq_true rfl) (Nat.le_of_ble_eq_true rfl) (cy3) ?_
      have hPy3 := cy3.1.1
      obtain ⟨hb1, h⟩ := okE h
      refine Y_cald (pc := 32) dX11_cacheSite_32 (lk_6 hPy3) (ln_6 hPy3) hb1 ?_
      refine Y_indexOf (pc := 33) dX11_cacheSite_33 w4_33 (i := 6) (by decide) (Nat.le_of_ble_eq_true rfl) (Nat.le_of_ble_eq_true rfl) (Nat.le_of_ble_eq_true rfl) ?_
      refine Y_if_ge (pc := 36) (tgt := 50) dX11_cacheSite_36 (by decide) (fun hc2 => ?_) (fun hc2 => ?_)
      · replace h := ifT hc2 h
        refine Y_iload_n (pc := 50) (j := 1) dX11_cacheSite_50 rfl rfl ?_
        refine Y_iload_n (pc := 51) (j := 2) dX11_cacheSite_51 rfl rfl ?_
        obtain ⟨y4, qy4, h⟩ := bindE h
        have cy4 := v_X11_siteOf hPy3 qy4
        refine C_S2r (pc := 52) (k' := k_X11_siteOf) dX11_cacheSite_52 w4_229 i_X11_siteOf (Nat.le_of_ble_eq_true rfl) (Nat.le_of_ble_eq_true rfl) (Nat.le_of_ble_eq_true rfl) (cy4) ?_
        have hPy4 := cy4.1.1
        cases h
        exact Y_iret (pc := 55) rfl rfl dX11_cacheSite_55 hPy4 ⟨_, rfl, rfl, rfl⟩
      · replace h := ifF hc2 h
        refine VV.sub [] rfl ?_
        exact b_X11_cacheSite_39  hPy3 h
  · replace h := id h
    cases h
    refine C_V1x (k' := k_X11_needFunction) dX11_cacheSite_2 w4_11 i_X11_needFunction (lk_1 hP) ⟨Nat.le_of_ble_eq_true rfl, Nat.le_of_ble_eq_true rfl⟩ rfl (Nat.le_of_ble_eq_true rfl) (Nat.le_of_ble_eq_true rfl) (Nat.le_of_ble_eq_true rfl) (cy1.mono id (QSr rfl) (XSr rfl)) ?_
    exact Y_out (by decide) hPN1 ⟨rfl, rfl⟩
theorem v_X11_cacheSite {x1 : Int32} {x2 : Int32} {M z} (hP : Lay M) (h : d_X11_cacheSite x1 x2 M = some z) : CC Lay k_X11_cacheSite [.ref 1, .int x1, .int x2] M z.2 (QS (fun v => some (.int v)) z) (XS z) :=
  CC.ofVV (by decide) rfl (Nat.le_of_ble_eq_true rfl) (b_X11_cacheSite hP h)
theorem b_X11_cacheState {x1 : Int32} {x2 : Int32} {M z} (hP : Lay M) (h : d_X11_cacheState x1 x2 M = some z) : VV Lay k_X11_cacheState 0 [(0, .ref 1), (1, .int x1), (2, .int x2)] [] M z.2 (QS (fun v => some (.int v)) z) (XS z) := by
  unfold d_X11_cacheState at h
  refine Y_aload_n (pc := 0) (j := 0) dX11_cacheState_0 rfl rfl ?_
  refine Z_getr (pc := 1) dX11_cacheState_1 w3_56 (lk_1 hP) fr_11_4 (lr_1_4 hP) ?_
  refine Z_getr (pc := 4) dX11_cacheState_4 w3_7 (lk_38 hP) fr_10_1 (lr_38_1 hP) ?_
  refine Y_aload_n (pc := 7) (j := 0) dX11_cacheState_7 rfl rfl ?_
  refine Y_iload_n (pc := 8) (j := 1) dX11_cacheState_8 rfl rfl ?_
  refine Y_iload_n (pc := 9) (j := 2) dX11_cacheState_9 rfl rfl ?_
  obtain ⟨y1, qy1, h⟩ := bindE h
  have cy1 := v_X11_cacheSite hP qy1
  have hPN1 := cy1.1.1
  obtain ⟨y1 | E1, N1⟩ := y1
  · replace h := id h
    refine C_V2r (k' := k_X11_cacheSite) dX11_cacheState_10 w7_138 i_X11_cacheSite (lk_1 hP) ⟨Nat.le_of_ble_eq_true rfl, Nat.le_of_ble_eq_true rfl⟩ rfl (Nat.le_of_ble_eq_true rfl) (Nat.le_of_ble_eq_true rfl) (Nat.le_of_ble_eq_true rfl) (CC.ri cy1) ?_
    obtain ⟨y2, qy2, h⟩ := bindE h
    have cy2 := v_X0_stateAt hPN1 qy2
    refine C_V1r (pc := 13) (k' := k_X0_stateAt) dX11_cacheState_13 w7_145 i_X0_stateAt (lk_39 hPN1) ⟨Nat.le_of_ble_eq_true rfl, Nat.le_of_ble_eq_true rfl⟩ rfl (Nat.le_of_ble_eq_true rfl) (Nat.le_of_ble_eq_true rfl) (Nat.le_of_ble_eq_true rfl) (cy2) ?_
    have hPy2 := cy2.1.1
    obtain ⟨hb1, h⟩ := okE h
    cases h
    exact Y_iret (pc := 16) rfl (nar_ch hb1) dX11_cacheState_16 hPy2 ⟨_, rfl, rfl, rfl⟩
  · replace h := id h
    cases h
    refine C_V2x (k' := k_X11_cacheSite) dX11_cacheState_10 w7_138 i_X11_cacheSite (lk_1 hP) ⟨Nat.le_of_ble_eq_true rfl, Nat.le_of_ble_eq_true rfl⟩ rfl (Nat.le_of_ble_eq_true rfl) (Nat.le_of_ble_eq_true rfl) (Nat.le_of_ble_eq_true rfl) (cy1.mono id (QSr rfl) (XSr rfl)) ?_
    exact Y_out (by decide) hPN1 ⟨rfl, rfl⟩
theorem v_X11_cacheState {x1 : Int32} {x2 : Int32} {M z} (hP : Lay M) (h : d_X11_cacheState x1 x2 M = some z) : CC Lay k_X11_cacheState [.ref 1, .int x1, .int x2] M z.2 (QS (fun v => some (.int v)) z) (XS z) :=
  CC.ofVV (by decide) rfl (Nat.le_of_ble_eq_true rfl) (b_X11_cacheState hP h)
theorem b_X11_hits {x1 : Int32} {x2 : Int32} {M z} (hP : Lay M) (h : d_X11_hits x1 x2 M = some z) : VV Lay k_X11_hits 0 [(0, .ref 1), (1, .int x1), (2, .int x2)] [] M z.2 (QS (fun v => some (.int v)) z) (XS z) := by
  unfold d_X11_hits at h
  refine Y_aload_n (pc := 0) (j := 0) dX11_hits_0 rfl rfl ?_
  refine Z_getr (pc := 1) dX11_hits_1 w3_56 (lk_1 hP) fr_11_4 (lr_1_4 hP) ?_
  refine Z_getr (pc := 4) dX11_hits_4 w3_7 (lk_38 hP) fr_10_1 (lr_38_1 hP) ?_
  refine Z_getr (pc := 7) dX11_hits_7 w2_7 (lk_39 hP) fr_1_2 (lr_39_2 hP) ?_
  refine Y_aload_n (pc := 10) (j := 0) dX11_hits_10 rfl rfl ?_
  refine Y_iload_n (pc := 11) (j := 1) dX11_hits_11 rfl rfl ?_
  refine Y_iload_n (pc := 12) (j := 2) dX11_hits_12 rfl rfl ?_
  obtain ⟨y1, qy1, h⟩ := bindE h
  have cy1 := v_X11_cacheSite hP qy1
  have hPN1 := cy1.1.1
  obtain ⟨y1 | E1, N1⟩ := y1
  · replace h := id h
    refine C_V2r (k' := k_X11_cacheSite) dX11_hits_13 w7_138 i_X11_cacheSite (lk_1 hP) ⟨Nat.le_of_ble_eq_true rfl, Nat.le_of_ble_eq_true rfl⟩ rfl (Nat.le_of_ble_eq_true rfl) (Nat.le_of_ble_eq_true rfl) (Nat.le_of_ble_eq_true rfl) (CC.ri cy1) ?_
    obtain ⟨hb1, h⟩ := okE h
    refine Y_iald (pc := 16) dX11_hits_16 (lk_42 hPN1) (ln_42 hPN1) hb1 ?_
    cases h
    exact Y_iret (pc := 17) rfl rfl dX11_hits_17 hPN1 ⟨_, rfl, rfl, rfl⟩
  · replace h := id h
    cases h
    refine C_V2x (k' := k_X11_cacheSite) dX11_hits_13 w7_138 i_X11_cacheSite (lk_1 hP) ⟨Nat.le_of_ble_eq_true rfl, Nat.le_of_ble_eq_true rfl⟩ rfl (Nat.le_of_ble_eq_true rfl) (Nat.le_of_ble_eq_true rfl) (Nat.le_of_ble_eq_true rfl) (cy1.mono id (QSr rfl) (XSr rfl)) ?_
    exact Y_out (by decide) hPN1 ⟨rfl, rfl⟩
theorem v_X11_hits {x1 : Int32} {x2 : Int32} {M z} (hP : Lay M) (h : d_X11_hits x1 x2 M = some z) : CC Lay k_X11_hits [.ref 1, .int x1, .int x2] M z.2 (QS (fun v => some (.int v)) z) (XS z) :=
  CC.ofVV (by decide) rfl (Nat.le_of_ble_eq_true rfl) (b_X11_hits hP h)
theorem b_X11_misses {x1 : Int32} {x2 : Int32} {M z} (hP : Lay M) (h : d_X11_misses x1 x2 M = some z) : VV Lay k_X11_misses 0 [(0, .ref 1), (1, .int x1), (2, .int x2)] [] M z.2 (QS (fun v => some (.int v)) z) (XS z) := by
  unfold d_X11_misses at h
  refine Y_aload_n (pc := 0) (j := 0) dX11_misses_0 rfl rfl ?_
  refine Z_getr (pc := 1) dX11_misses_1 w3_56 (lk_1 hP) fr_11_4 (lr_1_4 hP) ?_
  refine Z_getr (pc := 4) dX11_misses_4 w3_7 (lk_38 hP) fr_10_1 (lr_38_1 hP) ?_
  refine Z_getr (pc := 7) dX11_misses_7 w2_9 (lk_39 hP) fr_1_3 (lr_39_3 hP) ?_
  refine Y_aload_n (pc := 10) (j := 0) dX11_misses_10 rfl rfl ?_
  refine Y_iload_n (pc := 11) (j := 1) dX11_misses_11 rfl rfl ?_
  refine Y_iload_n (pc := 12) (j := 2) dX11_misses_12 rfl rfl ?_
  obtain ⟨y1, qy1, h⟩ := bindE h
  have cy1 := v_X11_cacheSite hP qy1
  have hPN1 := cy1.1.1
  obtain ⟨y1 | E1, N1⟩ := y1
  · replace h := id h
    refine C_V2r (k' := k_X11_cacheSite) dX11_misses_13 w7_138 i_X11_cacheSite (lk_1 hP) ⟨Nat.le_of_ble_eq_true rfl, Nat.le_of_ble_eq_true rfl⟩ rfl (Nat.le_of_ble_eq_true rfl) (Nat.le_of_ble_eq_true rfl) (Nat.le_of_ble_eq_true rfl) (CC.ri cy1) ?_
    obtain ⟨hb1, h⟩ := okE h
    refine Y_iald (pc := 16) dX11_misses_16 (lk_43 hPN1) (ln_43 hPN1) hb1 ?_
    cases h
    exact Y_iret (pc := 17) rfl rfl dX11_misses_17 hPN1 ⟨_, rfl, rfl, rfl⟩
  · replace h := id h
    cases h
    refine C_V2x (k' := k_X11_cacheSite) dX11_misses_13 w7_138 i_X11_cacheSite (lk_1 hP) ⟨Nat.le_of_ble_eq_true rfl, Nat.le_of_ble_eq_true rfl⟩ rfl (Nat.le_of_ble_eq_true rfl) (Nat.le_of_ble_eq_true rfl) (Nat.le_of_ble_eq_true rfl) (cy1.mono id (QSr rfl) (XSr rfl)) ?_
    exact Y_out (by decide) hPN1 ⟨rfl, rfl⟩
theorem v_X11_misses {x1 : Int32} {x2 : Int32} {M z} (hP : Lay M) (h : d_X11_misses x1 x2 M = some z) : CC Lay k_X11_misses [.ref 1, .int x1, .int x2] M z.2 (QS (fun v => some (.int v)) z) (XS z) :=
  CC.ofVV (by decide) rfl (Nat.le_of_ble_eq_true rfl) (b_X11_misses hP h)
theorem b_X11_counter {x1 : Int32} {x2 : Int32} {M z} (hP : Lay M) (h : d_X11_counter x1 x2 M = some z) : VV Lay k_X11_counter 0 [(0, .ref 1), (1, .int x1), (2, .int x2)] [] M z.2 (QS (fun v => some (.int v)) z) (XS z) := by
  unfold d_X11_counter at h
  refine Y_aload_n (pc := 0) (j := 0) dX11_counter_0 rfl rfl ?_
  refine Y_iload_n (pc := 1) (j := 1) dX11_counter_1 rfl rfl ?_
  obtain ⟨y1, qy1, h⟩ := bindE h
  have cy1 := v_X11_needFunction hP qy1
  have hPN1 := cy1.1.1
  obtain ⟨y1 | E1, N1⟩ := y1
  · replace h := id h
    refine C_V1o (k' := k_X11_needFunction) dX11_counter_2 w4_11 i_X11_needFunction (lk_1 hP) ⟨Nat.le_of_ble_eq_true rfl, Nat.le_of_ble_eq_true rfl⟩ rfl (Nat.le_of_ble_eq_true rfl) (Nat.le_of_ble_eq_true rfl) (Nat.le_of_ble_eq_true rfl) (cy1.mono id (QSl rfl) (XSl rfl)) ?_
    refine Y_aload_n (pc := 5) (j := 0) dX11_counter_5 rfl rfl ?_
    refine Y_iload_n (pc := 6) (j := 2) dX11_counter_6 rfl rfl ?_
    obtain ⟨y2, qy2, h⟩ := bindE h
    have cy2 := v_X11_needIndex hPN1 qy2
    have hPN2 := cy2.1.1
    obtain ⟨y2 | E2, N2⟩ := y2
    · replace h := id h
      refine C_V1o (k' := k_X11_needIndex) dX11_counter_7 w4_142 i_X11_needIndex (lk_1 hPN1) ⟨Nat.le_of_ble_eq_true rfl, Nat.le_of_ble_eq_true rfl⟩ rfl (Nat.le_of_ble_eq_true rfl) (Nat.le_of_ble_eq_true rfl) (Nat.le_of_ble_eq_true rfl) (cy2.mono id (QSl rfl) (XSl rfl)) ?_
      refine Y_aload_n (pc := 10) (j := 0) dX11_counter_10 rfl rfl ?_
      refine Z_getr (pc := 11) dX11_counter_11 w3_56 (lk_1 hPN2) fr_11_4 (lr_1_4 hPN2) ?_
      refine Z_getr (pc := 14) dX11_counter_14 w3_9 (lk_38 hPN2) fr_10_2 (lr_38_2 hPN2) ?_
      refine Z_getr (pc := 17) dX11_counter_17 w2_29 (lk_44 hPN2) fr_3_0 (lr_44_0 hPN2) ?_
      refine Y_iload_n (pc := 20) (j := 1) dX11_counter_20 rfl rfl ?_
      refine Y_iload_n (pc := 21) (j := 2) dX11_counter_21 rfl rfl ?_
      obtain ⟨y3, qy3, h⟩ := bindE h
      have cy3 := v_X11_siteOf hPN2 qy3
      refine C_S2r (pc := 22) (k' := k_X11_siteOf) dX11_counter_22 w4_229 i_X11_siteOf (Nat.le_of_ble_eq_true rfl) (Nat.le_of_ble_eq_true rfl) (Nat.le_of_ble_eq_true rfl) (cy3) ?_
      have hPy3 := cy3.1.1
      obtain ⟨hb1, h⟩ := okE h
      refine Y_iald (pc := 25) dX11_counter_25 (lk_45 hPy3) (ln_45 hPy3) hb1 ?_
      cases h
      exact Y_iret (pc := 26) rfl rfl dX11_counter_26 hPy3 ⟨_, rfl, rfl, rfl⟩
    · replace h := id h
      cases h
      refine C_V1x (k' := k_X11_needIndex) dX11_counter_7 w4_142 i_X11_needIndex (lk_1 hPN1) ⟨Nat.le_of_ble_eq_true rfl, Nat.le_of_ble_eq_true rfl⟩ rfl (Nat.le_of_ble_eq_true rfl) (Nat.le_of_ble_eq_true rfl) (Nat.le_of_ble_eq_true rfl) (cy2.mono id (QSr rfl) (XSr rfl)) ?_
      exact Y_out (by decide) hPN2 ⟨rfl, rfl⟩
  · replace h := id h
    cases h
    refine C_V1x (k' := k_X11_needFunction) dX11_counter_2 w4_11 i_X11_needFunction (lk_1 hP) ⟨Nat.le_of_ble_eq_true rfl, Nat.le_of_ble_eq_true rfl⟩ rfl (Nat.le_of_ble_eq_true rfl) (Nat.le_of_ble_eq_true rfl) (Nat.le_of_ble_eq_true rfl) (cy1.mono id (QSr rfl) (XSr rfl)) ?_
    exact Y_out (by decide) hPN1 ⟨rfl, rfl⟩
theorem v_X11_counter {x1 : Int32} {x2 : Int32} {M z} (hP : Lay M) (h : d_X11_counter x1 x2 M = some z) : CC Lay k_X11_counter [.ref 1, .int x1, .int x2] M z.2 (QS (fun v => some (.int v)) z) (XS z) :=
  CC.ofVV (by decide) rfl (Nat.le_of_ble_eq_true rfl) (b_X11_counter hP h)
theorem b_X11_isBarred {x1 : Int32} {x2 : Int32} {M z} (hP : Lay M) (h : d_X11_isBarred x1 x2 M = some z) : VV Lay k_X11_isBarred 0 [(0, .ref 1), (1, .int x1), (2, .int x2)] [] M z.2 (QS (fun v => some (.int v)) z) (XS z) := by
  unfold d_X11_isBarred at h
  refine Y_aload_n (pc := 0) (j := 0) dX11_isBarred_0 rfl rfl ?_
  refine Y_iload_n (pc := 1) (j := 1) dX11_isBarred_1 rfl rfl ?_
  obtain ⟨y1, qy1, h⟩ := bindE h
  have cy1 := v_X11_needFunction hP qy1
  have hPN1 := cy1.1.1
  obtain ⟨y1 | E1, N1⟩ := y1
  · replace h := id h
    refine C_V1o (k' := k_X11_needFunction) dX11_isBarred_2 w4_11 i_X11_needFunction (lk_1 hP) ⟨Nat.le_of_ble_eq_true rfl, Nat.le_of_ble_eq_true rfl⟩ rfl (Nat.le_of_ble_eq_true rfl) (Nat.le_of_ble_eq_true rfl) (Nat.le_of_ble_eq_true rfl) (cy1.mono id (QSl rfl) (XSl rfl)) ?_
    refine Y_aload_n (pc := 5) (j := 0) dX11_isBarred_5 rfl rfl ?_
    refine Y_iload_n (pc := 6) (j := 2) dX11_isBarred_6 rfl rfl ?_
    obtain ⟨y2, qy2, h⟩ := bindE h
    have cy2 := v_X11_needIndex hPN1 qy2
    have hPN2 := cy2.1.1
    obtain ⟨y2 | E2, N2⟩ := y2
    · replace h := id h
      refine C_V1o (k' := k_X11_needIndex) dX11_isBarred_7 w4_142 i_X11_needIndex (lk_1 hPN1) ⟨Nat.le_of_ble_eq_true rfl, Nat.le_of_ble_eq_true rfl⟩ rfl (Nat.le_of_ble_eq_true rfl) (Nat.le_of_ble_eq_true rfl) (Nat.le_of_ble_eq_true rfl) (cy2.mono id (QSl rfl) (XSl rfl)) ?_
      refine Y_aload_n (pc := 10) (j := 0) dX11_isBarred_10 rfl rfl ?_
      refine Z_getr (pc := 11) dX11_isBarred_11 w3_56 (lk_1 hPN2) fr_11_4 (lr_1_4 hPN2) ?_
      refine Z_getr (pc := 14) dX11_isBarred_14 w3_9 (lk_38 hPN2) fr_10_2 (lr_38_2 hPN2) ?_
      refine Y_iload_n (pc := 17) (j := 1) dX11_isBarred_17 rfl rfl ?_
      refine Y_iload_n (pc := 18) (j := 2) dX11_isBarred_18 rfl rfl ?_
      obtain ⟨y3, qy3, h⟩ := bindE h
      have cy3 := v_X11_siteOf hPN2 qy3
      refine C_S2r (pc := 19) (k' := k_X11_siteOf) dX11_isBarred_19 w4_229 i_X11_siteOf (Nat.le_of_ble_eq_true rfl) (Nat.le_of_ble_eq_true rfl) (Nat.le_of_ble_eq_true rfl) (cy3) ?_
      have hPy3 := cy3.1.1
      obtain ⟨y4, qy4, h⟩ := bindE h
      have cy4 := v_X2_bars hPy3 qy4
      refine C_V1r (pc := 22) (k' := k_X2_bars) dX11_isBarred_22 w7_177 i_X2_bars (lk_44 hPy3) ⟨Nat.le_of_ble_eq_true rfl, Nat.le_of_ble_eq_true rfl⟩ rfl (Nat.le_of_ble_eq_true rfl) (Nat.le_of_ble_eq_true rfl) (Nat.le_of_ble_eq_true rfl) (cy4) ?_
      have hPy4 := cy4.1.1
      obtain ⟨hb1, h⟩ := okE h
      cases h
      exact Y_iret (pc := 25) rfl (nar_bo hb1) dX11_isBarred_25 hPy4 ⟨_, rfl, rfl, rfl⟩
    · replace h := id h
      cases h
      refine C_V1x (k' := k_X11_needIndex) dX11_isBarred_7 w4_142 i_X11_needIndex (lk_1 hPN1) ⟨Nat.le_of_ble_eq_true rfl, Nat.le_of_ble_eq_true rfl⟩ rfl (Nat.le_of_ble_eq_true rfl) (Nat.le_of_ble_eq_true rfl) (Nat.le_of_ble_eq_true rfl) (cy2.mono id (QSr rfl) (XSr rfl)) ?_
      exact Y_out (by decide) hPN2 ⟨rfl, rfl⟩
  · replace h := id h
    cases h
    refine C_V1x (k' := k_X11_needFunction) dX11_isBarred_2 w4_11 i_X11_needFunction (lk_1 hP) ⟨Nat.le_of_ble_eq_true rfl, Nat.le_of_ble_eq_true rfl⟩ rfl (Nat.le_of_ble_eq_true rfl) (Nat.le_of_ble_eq_true rfl) (Nat.le_of_ble_eq_true rfl) (cy1.mono id (QSr rfl) (XSr rfl)) ?_
    exact Y_out (by decide) hPN1 ⟨rfl, rfl⟩
theorem v_X11_isBarred {x1 : Int32} {x2 : Int32} {M z} (hP : Lay M) (h : d_X11_isBarred x1 x2 M = some z) : CC Lay k_X11_isBarred [.ref 1, .int x1, .int x2] M z.2 (QS (fun v => some (.int v)) z) (XS z) :=
  CC.ofVV (by decide) rfl (Nat.le_of_ble_eq_true rfl) (b_X11_isBarred hP h)
theorem b_X11_traces {M z} (hP : Lay M) (h : d_X11_traces M = some z) : VV Lay k_X11_traces 0 [(0, .ref 1)] [] M z.2 (Qv (some (.int z.1)) z.2) xF := by
  unfold d_X11_traces at h
  refine Y_aload_n (pc := 0) (j := 0) dX11_traces_0 rfl rfl ?_
  refine Z_getr (pc := 1) dX11_traces_1 w3_56 (lk_1 hP) fr_11_4 (lr_1_4 hP) ?_
  refine Z_getr (pc := 4) dX11_traces_4 w3_12 (lk_38 hP) fr_10_4 (lr_38_4 hP) ?_
  refine Z_geti (pc := 7) dX11_traces_7 w2_228 (lk_67 hP) fi_2_3 ?_
  cases h
  exact Y_iret (pc := 10) rfl rfl dX11_traces_10 hP ⟨rfl, rfl⟩
theorem v_X11_traces {M z} (hP : Lay M) (h : d_X11_traces M = some z) : CC Lay k_X11_traces [.ref 1] M z.2 (Qv (some (.int z.1)) z.2) xF :=
  CC.ofVV (by decide) rfl (Nat.le_of_ble_eq_true rfl) (b_X11_traces hP h)
theorem b_X11_traceAt_18 {M z} (hP : Lay M) (h : d_X11_traceAt_18 M = some z) : VV Lay k_X11_traceAt 18 [] [] M z.2 (QS (fun v => some (.ref v)) z) (XS z) := by
  unfold d_X11_traceAt_18 at h
  cases h
  exact Y_throwW_IndexOutOfBoundsException (pc := 18) w4_19 w4_29 (mi := 24) rfl dX11_traceAt_18 dX11_traceAt_21 dX11_traceAt_22 dX11_traceAt_25 dX11_traceAt_28 rfl (Nat.le_of_ble_eq_true rfl) (Nat.le_of_ble_eq_true rfl) (Nat.le_of_ble_eq_true rfl) (hP.wT rfl) ⟨rfl, rfl⟩
theorem b_X11_traceAt {x1 : Int32} {M z} (hP : Lay M) (h : d_X11_traceAt x1 M = some z) : VV Lay k_X11_traceAt 0 [(0, .ref 1), (1, .int x1)] [] M z.2 (QS (fun v => some (.ref v)) z) (XS z) := by
  unfold d_X11_traceAt at h
  refine Y_iload_n (pc := 0) (j := 1) dX11_traceAt_0 rfl rfl ?_
  refine Y_if_lt (pc := 1) (tgt := 18) dX11_traceAt_1 (by decide) (fun hc1 => ?_) (fun hc1 => ?_)
  · replace h := ifT hc1 h
    refine VV.sub [] rfl ?_
    exact b_X11_traceAt_18  hP h
  · replace h := ifF hc1 h
    refine Y_iload_n (pc := 4) (j := 1) dX11_traceAt_4 rfl rfl ?_
    refine Y_aload_n (pc := 5) (j := 0) dX11_traceAt_5 rfl rfl ?_
    refine Z_getr (pc := 6) dX11_traceAt_6 w3_56 (lk_1 hP) fr_11_4 (lr_1_4 hP) ?_
    refine Z_getr (pc := 9) dX11_traceAt_9 w3_12 (lk_38 hP) fr_10_4 (lr_38_4 hP) ?_
    refine Z_geti (pc := 12) dX11_traceAt_12 w2_228 (lk_67 hP) fi_2_3 ?_
    refine Y_icmp_lt (pc := 15) (tgt := 29) dX11_traceAt_15 (by decide) (fun hc2 => ?_) (fun hc2 => ?_)
    · replace h := ifT hc2 h
      refine Y_aload_n (pc := 29) (j := 0) dX11_traceAt_29 rfl rfl ?_
      refine Z_getr (pc := 30) dX11_traceAt_30 w3_56 (lk_1 hP) fr_11_4 (lr_1_4 hP) ?_
      refine Z_getr (pc := 33) dX11_traceAt_33 w3_12 (lk_38 hP) fr_10_4 (lr_38_4 hP) ?_
      refine Z_getr (pc := 36) dX11_traceAt_36 w2_225 (lk_67 hP) fr_2_2 (lr_67_2 hP) ?_
      refine Y_iload_n (pc := 39) (j := 1) dX11_traceAt_39 rfl rfl ?_
      obtain ⟨hb1, h⟩ := okE h
      obtain ⟨r_1, er_1, h⟩ := bindE h
      refine Y_aald (pc := 40) dX11_traceAt_40 (lk_68 hP) (ln_68 hP) hb1 er_1 ?_
      cases h
      exact Y_aret (pc := 41) rfl (Or.inl ⟨_, rfl⟩) dX11_traceAt_41 hP ⟨_, rfl, rfl, rfl⟩
    · replace h := ifF hc2 h
      refine VV.sub [] rfl ?_
      exact b_X11_traceAt_18  hP h
theorem v_X11_traceAt {x1 : Int32} {M z} (hP : Lay M) (h : d_X11_traceAt x1 M = some z) : CC Lay k_X11_traceAt [.ref 1, .int x1] M z.2 (QS (fun v => some (.ref v)) z) (XS z) :=
  CC.ofVV (by decide) rfl (Nat.le_of_ble_eq_true rfl) (b_X11_traceAt hP h)
theorem b_X11_isThere {x1 : Int32} {M z} (hP : Lay M) (h : d_X11_isThere x1 M = some z) : VV Lay k_X11_isThere 0 [(0, .ref 1), (1, .int x1)] [] M z.2 (QS (fun v => some (.int v)) z) (XS z) := by
  unfold d_X11_isThere at h
  refine Y_aload_n (pc := 0) (j := 0) dX11_isThere_0 rfl rfl ?_
  refine Y_iload_n (pc := 1) (j := 1) dX11_isThere_1 rfl rfl ?_
  obtain ⟨y1, qy1, h⟩ := bindE h
  have cy1 := v_X11_traceAt hP qy1
  have hPN1 := cy1.1.1
  obtain ⟨y1 | E1, N1⟩ := y1
  · replace h := id h
    refine C_V1r (k' := k_X11_traceAt) dX11_isThere_2 w7_185 i_X11_traceAt (lk_1 hP) ⟨Nat.le_of_ble_eq_true rfl, Nat.le_of_ble_eq_true rfl⟩ rfl (Nat.le_of_ble_eq_true rfl) (Nat.le_of_ble_eq_true rfl) (Nat.le_of_ble_eq_true rfl) (CC.rr cy1) ?_
    obtain ⟨hb1, h⟩ := okE h
    refine Z_geti (pc := 5) dX11_isThere_5 w2_173 hb1 fi_9_14 ?_
    obtain ⟨hb2, h⟩ := okE h
    cases h
    exact Y_iret (pc := 8) rfl (nar_bo hb2) dX11_isThere_8 hPN1 ⟨_, rfl, rfl, rfl⟩
  · replace h := id h
    cases h
    refine C_V1x (k' := k_X11_traceAt) dX11_isThere_2 w7_185 i_X11_traceAt (lk_1 hP) ⟨Nat.le_of_ble_eq_true rfl, Nat.le_of_ble_eq_true rfl⟩ rfl (Nat.le_of_ble_eq_true rfl) (Nat.le_of_ble_eq_true rfl) (Nat.le_of_ble_eq_true rfl) (cy1.mono id (QSr rfl) (XSr rfl)) ?_
    exact Y_out (by decide) hPN1 ⟨rfl, rfl⟩
theorem v_X11_isThere {x1 : Int32} {M z} (hP : Lay M) (h : d_X11_isThere x1 M = some z) : CC Lay k_X11_isThere [.ref 1, .int x1] M z.2 (QS (fun v => some (.int v)) z) (XS z) :=
  CC.ofVV (by decide) rfl (Nat.le_of_ble_eq_true rfl) (b_X11_isThere hP h)
theorem b_X11_steps {x1 : Int32} {M z} (hP : Lay M) (h : d_X11_steps x1 M = some z) : VV Lay k_X11_steps 0 [(0, .ref 1), (1, .int x1)] [] M z.2 (QS (fun v => some (.int v)) z) (XS z) := by
  unfold d_X11_steps at h
  refine Y_aload_n (pc := 0) (j := 0) dX11_steps_0 rfl rfl ?_
  refine Y_iload_n (pc := 1) (j := 1) dX11_steps_1 rfl rfl ?_
  obtain ⟨y1, qy1, h⟩ := bindE h
  have cy1 := v_X11_traceAt hP qy1
  have hPN1 := cy1.1.1
  obtain ⟨y1 | E1, N1⟩ := y1
  · replace h := id h
    refine C_V1r (k' := k_X11_traceAt) dX11_steps_2 w7_185 i_X11_traceAt (lk_1 hP) ⟨Nat.le_of_ble_eq_true rfl, Nat.le_of_ble_eq_true rfl⟩ rfl (Nat.le_of_ble_eq_true rfl) (Nat.le_of_ble_eq_true rfl) (Nat.le_of_ble_eq_true rfl) (CC.rr cy1) ?_
    obtain ⟨hb1, h⟩ := okE h
    refine Z_geti (pc := 5) dX11_steps_5 w2_137 hb1 fi_9_0 ?_
    cases h
    exact Y_iret (pc := 8) rfl rfl dX11_steps_8 hPN1 ⟨_, rfl, rfl, rfl⟩
  · replace h := id h
    cases h
    refine C_V1x (k' := k_X11_traceAt) dX11_steps_2 w7_185 i_X11_traceAt (lk_1 hP) ⟨Nat.le_of_ble_eq_true rfl, Nat.le_of_ble_eq_true rfl⟩ rfl (Nat.le_of_ble_eq_true rfl) (Nat.le_of_ble_eq_true rfl) (Nat.le_of_ble_eq_true rfl) (cy1.mono id (QSr rfl) (XSr rfl)) ?_
    exact Y_out (by decide) hPN1 ⟨rfl, rfl⟩
theorem v_X11_steps {x1 : Int32} {M z} (hP : Lay M) (h : d_X11_steps x1 M = some z) : CC Lay k_X11_steps [.ref 1, .int x1] M z.2 (QS (fun v => some (.int v)) z) (XS z) :=
  CC.ofVV (by decide) rfl (Nat.le_of_ble_eq_true rfl) (b_X11_steps hP h)
theorem b_X11_lineAt_18 {M z} (hP : Lay M) (h : d_X11_lineAt_18 M = some z) : VV Lay k_X11_lineAt 18 [] [] M z.2 (QS (fun v => some (.int v)) z) (XS z) := by
  unfold d_X11_lineAt_18 at h
  cases h
  exact Y_throwW_NoSuchElementException (pc := 18) w4_198 w4_207 (mi := 25) rfl dX11_lineAt_18 dX11_lineAt_21 dX11_lineAt_22 dX11_lineAt_25 dX11_lineAt_28 rfl (Nat.le_of_ble_eq_true rfl) (Nat.le_of_ble_eq_true rfl) (Nat.le_of_ble_eq_true rfl) (hP.wT rfl) ⟨rfl, rfl⟩
theorem b_X11_lineAt {x1 : Int32} {x2 : Int32} {M z} (hP : Lay M) (h : d_X11_lineAt x1 x2 M = some z) : VV Lay k_X11_lineAt 0 [(0, .ref 1), (1, .int x1), (2, .int x2)] [] M z.2 (QS (fun v => some (.int v)) z) (XS z) := by
  unfold d_X11_lineAt at h
  refine Y_aload_n (pc := 0) (j := 0) dX11_lineAt_0 rfl rfl ?_
  refine Y_iload_n (pc := 1) (j := 1) dX11_lineAt_1 rfl rfl ?_
  obtain ⟨y1, qy1, h⟩ := bindE h
  have cy1 := v_X11_traceAt hP qy1
  have hPN1 := cy1.1.1
  obtain ⟨y1 | E1, N1⟩ := y1
  · replace h := id h
    refine C_V1r (k' := k_X11_traceAt) dX11_lineAt_2 w7_185 i_X11_traceAt (lk_1 hP) ⟨Nat.le_of_ble_eq_true rfl, Nat.le_of_ble_eq_true rfl⟩ rfl (Nat.le_of_ble_eq_true rfl) (Nat.le_of_ble_eq_true rfl) (Nat.le_of_ble_eq_true rfl) (CC.rr cy1) ?_
    refine Y_astore_n (pc := 5) (lv1 := [(3, .ref y1), (0, .ref 1), (1, .int x1), (2, .int x2)]) dX11_lineAt_5 rfl (by decide) rfl ?_
    refine Y_iload_n (pc := 6) (j := 3) dX11_lineAt_6 rfl rfl ?_
    refine Y_if_lt (pc := 7) (tgt := 18) dX11_lineAt_7 (by decide) (fun hc1 => ?_) (fun hc1 => ?_)
    · replace h := ifT hc1 h
      refine VV.sub [] rfl ?_
      exact b_X11_lineAt_18  hPN1 h
    · replace h := ifF hc1 h
      refine Y_iload_n (pc := 10) (j := 3) dX11_lineAt_10 rfl rfl ?_
      refine Y_aload_n (pc := 11) (j := 0) dX11_lineAt_11 rfl rfl ?_
      obtain ⟨hb1, h⟩ := okE h
      refine Z_geti (pc := 12) dX11_lineAt_12 w2_137 hb1 fi_9_0 ?_
      refine Y_icmp_lt (pc := 15) (tgt := 29) dX11_lineAt_15 (by decide) (fun hc2 => ?_) (fun hc2 => ?_)
      · replace h := ifT hc2 h
        refine Y_aload_n (pc := 29) (j := 0) dX11_lineAt_29 rfl rfl ?_
        obtain ⟨hb2, h⟩ := okE h
        obtain ⟨r_1, er_1, h⟩ := bindE h
        refine Z_getr (pc := 30) dX11_lineAt_30 w2_143 hb2 fr_9_2 er_1 ?_
        refine Y_iload_n (pc := 33) (j := 3) dX11_lineAt_33 rfl rfl ?_
        obtain ⟨hb3, h⟩ := okE h
        obtain ⟨hb4, h⟩ := okE h
        refine Y_iald (pc := 34) dX11_lineAt_34 hb3 rfl hb4 ?_
        cases h
        exact Y_iret (pc := 35) rfl rfl dX11_lineAt_35 hPN1 ⟨_, rfl, rfl, rfl⟩
      · replace h := ifF hc2 h
        refine VV.sub [] rfl ?_
        exact b_X11_lineAt_18  hPN1 h
  · replace h := id h
    cases h
    refine C_V1x (k' := k_X11_traceAt) dX11_lineAt_2 w7_185 i_X11_traceAt (lk_1 hP) ⟨Nat.le_of_ble_eq_true rfl, Nat.le_of_ble_eq_true rfl⟩ rfl (Nat.le_of_ble_eq_true rfl) (Nat.le_of_ble_eq_true rfl) (Nat.le_of_ble_eq_true rfl) (cy1.mono id (QSr rfl) (XSr rfl)) ?_
    exact Y_out (by decide) hPN1 ⟨rfl, rfl⟩
theorem v_X11_lineAt {x1 : Int32} {x2 : Int32} {M z} (hP : Lay M) (h : d_X11_lineAt x1 x2 M = some z) : CC Lay k_X11_lineAt [.ref 1, .int x1, .int x2] M z.2 (QS (fun v => some (.int v)) z) (XS z) :=
  CC.ofVV (by decide) rfl (Nat.le_of_ble_eq_true rfl) (b_X11_lineAt hP h)
theorem b_X11_guards {x1 : Int32} {M z} (hP : Lay M) (h : d_X11_guards x1 M = some z) : VV Lay k_X11_guards 0 [(0, .ref 1), (1, .int x1)] [] M z.2 (QS (fun v => some (.int v)) z) (XS z) := by
  unfold d_X11_guards at h
  refine Y_aload_n (pc := 0) (j := 0) dX11_guards_0 rfl rfl ?_
  refine Y_iload_n (pc := 1) (j := 1) dX11_guards_1 rfl rfl ?_
  obtain ⟨y1, qy1, h⟩ := bindE h
  have cy1 := v_X11_traceAt hP qy1
  have hPN1 := cy1.1.1
  obtain ⟨y1 | E1, N1⟩ := y1
  · replace h := id h
    refine C_V1r (k' := k_X11_traceAt) dX11_guards_2 w7_185 i_X11_traceAt (lk_1 hP) ⟨Nat.le_of_ble_eq_true rfl, Nat.le_of_ble_eq_true rfl⟩ rfl (Nat.le_of_ble_eq_true rfl) (Nat.le_of_ble_eq_true rfl) (Nat.le_of_ble_eq_true rfl) (CC.rr cy1) ?_
    obtain ⟨hb1, h⟩ := okE h
    refine Z_geti (pc := 5) dX11_guards_5 w2_140 hb1 fi_9_1 ?_
    cases h
    exact Y_iret (pc := 8) rfl rfl dX11_guards_8 hPN1 ⟨_, rfl, rfl, rfl⟩
  · replace h := id h
    cases h
    refine C_V1x (k' := k_X11_traceAt) dX11_guards_2 w7_185 i_X11_traceAt (lk_1 hP) ⟨Nat.le_of_ble_eq_true rfl, Nat.le_of_ble_eq_true rfl⟩ rfl (Nat.le_of_ble_eq_true rfl) (Nat.le_of_ble_eq_true rfl) (Nat.le_of_ble_eq_true rfl) (cy1.mono id (QSr rfl) (XSr rfl)) ?_
    exact Y_out (by decide) hPN1 ⟨rfl, rfl⟩
theorem v_X11_guards {x1 : Int32} {M z} (hP : Lay M) (h : d_X11_guards x1 M = some z) : CC Lay k_X11_guards [.ref 1, .int x1] M z.2 (QS (fun v => some (.int v)) z) (XS z) :=
  CC.ofVV (by decide) rfl (Nat.le_of_ble_eq_true rfl) (b_X11_guards hP h)
theorem b_X11_traceWithGuard_18 {M z} (hP : Lay M) (h : d_X11_traceWithGuard_18 M = some z) : VV Lay k_X11_traceWithGuard 18 [] [] M z.2 (QS (fun v => some (.ref v)) z) (XS z) := by
  unfold d_X11_traceWithGuard_18 at h
  cases h
  exact Y_throwW_IndexOutOfBoundsException (pc := 18) w4_19 w4_29 (mi := 26) rfl dX11_traceWithGuard_18 dX11_traceWithGuard_21 dX11_traceWithGuard_22 dX11_traceWithGuard_25 dX11_traceWithGuard_28 rfl (Nat.le_of_ble_eq_true rfl) (Nat.le_of_ble_eq_true rfl) (Nat.le_of_ble_eq_true rfl) (hP.wT rfl) ⟨rfl, rfl⟩
theorem b_X11_traceWithGuard {x1 : Int32} {x2 : Int32} {M z} (hP : Lay M) (h : d_X11_traceWithGuard x1 x2 M = some z) : VV Lay k_X11_traceWithGuard 0 [(0, .ref 1), (1, .int x1), (2, .int x2)] [] M z.2 (QS (fun v => some (.ref v)) z) (XS z) := by
  unfold d_X11_traceWithGuard at h
  refine Y_aload_n (pc := 0) (j := 0) dX11_traceWithGuard_0 rfl rfl ?_
  refine Y_iload_n (pc := 1) (j := 1) dX11_traceWithGuard_1 rfl rfl ?_
  obtain ⟨y1, qy1, h⟩ := bindE h
  have cy1 := v_X11_traceAt hP qy1
  have hPN1 := cy1.1.1
  obtain ⟨y1 | E1, N1⟩ := y1
  · replace h := id h
    refine C_V1r (k' := k_X11_traceAt) dX11_traceWithGuard_2 w7_185 i_X11_traceAt (lk_1 hP) ⟨Nat.le_of_ble_eq_true rfl, Nat.le_of_ble_eq_true rfl⟩ rfl (Nat.le_of_ble_eq_true rfl) (Nat.le_of_ble_eq_true rfl) (Nat.le_of_ble_eq_true rfl) (CC.rr cy1) ?_
    refine Y_astore_n (pc := 5) (lv1 := [(3, .ref y1), (0, .ref 1), (1, .int x1), (2, .int x2)]) dX11_traceWithGuard_5 rfl (by decide) rfl ?_
    refine Y_iload_n (pc := 6) (j := 3) dX11_traceWithGuard_6 rfl rfl ?_
    refine Y_if_lt (pc := 7) (tgt := 18) dX11_traceWithGuard_7 (by decide) (fun hc1 => ?_) (fun hc1 => ?_)
    · replace h := ifT hc1 h
      refine VV.sub [] rfl ?_
      exact b_X11_traceWithGuard_18  hPN1 h
    · replace h := ifF hc1 h
      refine Y_iload_n (pc := 10) (j := 3) dX11_traceWithGuard_10 rfl rfl ?_
      refine Y_aload_n (pc := 11) (j := 0) dX11_traceWithGuard_11 rfl rfl ?_
      obtain ⟨hb1, h⟩ := okE h
      refine Z_geti (pc := 12) dX11_traceWithGuard_12 w2_140 hb1 fi_9_1 ?_
      refine Y_icmp_lt (pc := 15) (tgt := 29) dX11_traceWithGuard_15 (by decide) (fun hc2 => ?_) (fun hc2 => ?_)
      · replace h := ifT hc2 h
        refine Y_aload_n (pc := 29) (j := 0) dX11_traceWithGuard_29 rfl rfl ?_
        cases h
        exact Y_aret (pc := 30) rfl (Or.inl ⟨_, rfl⟩) dX11_traceWithGuard_30 hPN1 ⟨_, rfl, rfl, rfl⟩
      · replace h := ifF hc2 h
        refine VV.sub [] rfl ?_
        exact b_X11_traceWithGuard_18  hPN1 h
  · replace h := id h
    cases h
    refine C_V1x (k' := k_X11_traceAt) dX11_traceWithGuard_2 w7_185 i_X11_traceAt (lk_1 hP) ⟨Nat.le_of_ble_eq_true rfl, Nat.le_of_ble_eq_true rfl⟩ rfl (Nat.le_of_ble_eq_true rfl) (Nat.le_of_ble_eq_true rfl) (Nat.le_of_ble_eq_true rfl) (cy1.mono id (QSr rfl) (XSr rfl)) ?_
    exact Y_out (by decide) hPN1 ⟨rfl, rfl⟩
theorem v_X11_traceWithGuard {x1 : Int32} {x2 : Int32} {M z} (hP : Lay M) (h : d_X11_traceWithGuard x1 x2 M = some z) : CC Lay k_X11_traceWithGuard [.ref 1, .int x1, .int x2] M z.2 (QS (fun v => some (.ref v)) z) (XS z) :=
  CC.ofVV (by decide) rfl (Nat.le_of_ble_eq_true rfl) (b_X11_traceWithGuard hP h)
theorem b_X11_guardAt {x1 : Int32} {x2 : Int32} {M z} (hP : Lay M) (h : d_X11_guardAt x1 x2 M = some z) : VV Lay k_X11_guardAt 0 [(0, .ref 1), (1, .int x1), (2, .int x2)] [] M z.2 (QS (fun v => some (.int v)) z) (XS z) := by
  unfold d_X11_guardAt at h
  refine Y_aload_n (pc := 0) (j := 0) dX11_guardAt_0 rfl rfl ?_
  refine Y_iload_n (pc := 1) (j := 1) dX11_guardAt_1 rfl rfl ?_
  refine Y_iload_n (pc := 2) (j := 2) dX11_guardAt_2 rfl rfl ?_
  obtain ⟨y1, qy1, h⟩ := bindE h
  have cy1 := v_X11_traceWithGuard hP qy1
  have hPN1 := cy1.1.1
  obtain ⟨y1 | E1, N1⟩ := y1
  · replace h := id h
    refine C_V2r (k' := k_X11_traceWithGuard) dX11_guardAt_3 w7_219 i_X11_traceWithGuard (lk_1 hP) ⟨Nat.le_of_ble_eq_true rfl, Nat.le_of_ble_eq_true rfl⟩ rfl (Nat.le_of_ble_eq_true rfl) (Nat.le_of_ble_eq_true rfl) (Nat.le_of_ble_eq_true rfl) (CC.rr cy1) ?_
    obtain ⟨hb1, h⟩ := okE h
    obtain ⟨r_1, er_1, h⟩ := bindE h
    refine Z_getr (pc := 6) dX11_guardAt_6 w2_148 hb1 fr_9_4 er_1 ?_
    refine Y_iload_n (pc := 9) (j := 2) dX11_guardAt_9 rfl rfl ?_
    obtain ⟨hb2, h⟩ := okE h
    obtain ⟨hb3, h⟩ := okE h
    refine Y_iald (pc := 10) dX11_guardAt_10 hb2 rfl hb3 ?_
    refine Y_i2c (pc := 11) dX11_guardAt_11 ?_
    obtain ⟨hb4, h⟩ := okE h
    cases h
    exact Y_iret (pc := 12) rfl (nar_ch hb4) dX11_guardAt_12 hPN1 ⟨_, rfl, rfl, rfl⟩
  · replace h := id h
    cases h
    refine C_V2x (k' := k_X11_traceWithGuard) dX11_guardAt_3 w7_219 i_X11_traceWithGuard (lk_1 hP) ⟨Nat.le_of_ble_eq_true rfl, Nat.le_of_ble_eq_true rfl⟩ rfl (Nat.le_of_ble_eq_true rfl) (Nat.le_of_ble_eq_true rfl) (Nat.le_of_ble_eq_true rfl) (cy1.mono id (QSr rfl) (XSr rfl)) ?_
    exact Y_out (by decide) hPN1 ⟨rfl, rfl⟩
theorem v_X11_guardAt {x1 : Int32} {x2 : Int32} {M z} (hP : Lay M) (h : d_X11_guardAt x1 x2 M = some z) : CC Lay k_X11_guardAt [.ref 1, .int x1, .int x2] M z.2 (QS (fun v => some (.int v)) z) (XS z) :=
  CC.ofVV (by decide) rfl (Nat.le_of_ble_eq_true rfl) (b_X11_guardAt hP h)
theorem b_X11_guardStep {x1 : Int32} {x2 : Int32} {M z} (hP : Lay M) (h : d_X11_guardStep x1 x2 M = some z) : VV Lay k_X11_guardStep 0 [(0, .ref 1), (1, .int x1), (2, .int x2)] [] M z.2 (QS (fun v => some (.int v)) z) (XS z) := by
  unfold d_X11_guardStep at h
  refine Y_aload_n (pc := 0) (j := 0) dX11_guardStep_0 rfl rfl ?_
  refine Y_iload_n (pc := 1) (j := 1) dX11_guardStep_1 rfl rfl ?_
  refine Y_iload_n (pc := 2) (j := 2) dX11_guardStep_2 rfl rfl ?_
  obtain ⟨y1, qy1, h⟩ := bindE h
  have cy1 := v_X11_traceWithGuard hP qy1
  have hPN1 := cy1.1.1
  obtain ⟨y1 | E1, N1⟩ := y1
  · replace h := id h
    refine C_V2r (k' := k_X11_traceWithGuard) dX11_guardStep_3 w7_219 i_X11_traceWithGuard (lk_1 hP) ⟨Nat.le_of_ble_eq_true rfl, Nat.le_of_ble_eq_true rfl⟩ rfl (Nat.le_of_ble_eq_true rfl) (Nat.le_of_ble_eq_true rfl) (Nat.le_of_ble_eq_true rfl) (CC.rr cy1) ?_
    obtain ⟨hb1, h⟩ := okE h
    obtain ⟨r_1, er_1, h⟩ := bindE h
    refine Z_getr (pc := 6) dX11_guardStep_6 w2_150 hb1 fr_9_5 er_1 ?_
    refine Y_iload_n (pc := 9) (j := 2) dX11_guardStep_9 rfl rfl ?_
    obtain ⟨hb2, h⟩ := okE h
    obtain ⟨hb3, h⟩ := okE h
    refine Y_iald (pc := 10) dX11_guardStep_10 hb2 rfl hb3 ?_
    cases h
    exact Y_iret (pc := 11) rfl rfl dX11_guardStep_11 hPN1 ⟨_, rfl, rfl, rfl⟩
  · replace h := id h
    cases h
    refine C_V2x (k' := k_X11_traceWithGuard) dX11_guardStep_3 w7_219 i_X11_traceWithGuard (lk_1 hP) ⟨Nat.le_of_ble_eq_true rfl, Nat.le_of_ble_eq_true rfl⟩ rfl (Nat.le_of_ble_eq_true rfl) (Nat.le_of_ble_eq_true rfl) (Nat.le_of_ble_eq_true rfl) (cy1.mono id (QSr rfl) (XSr rfl)) ?_
    exact Y_out (by decide) hPN1 ⟨rfl, rfl⟩
theorem v_X11_guardStep {x1 : Int32} {x2 : Int32} {M z} (hP : Lay M) (h : d_X11_guardStep x1 x2 M = some z) : CC Lay k_X11_guardStep [.ref 1, .int x1, .int x2] M z.2 (QS (fun v => some (.int v)) z) (XS z) :=
  CC.ofVV (by decide) rfl (Nat.le_of_ble_eq_true rfl) (b_X11_guardStep hP h)
theorem b_X11_exits {x1 : Int32} {x2 : Int32} {M z} (hP : Lay M) (h : d_X11_exits x1 x2 M = some z) : VV Lay k_X11_exits 0 [(0, .ref 1), (1, .int x1), (2, .int x2)] [] M z.2 (QS (fun v => some (.int v)) z) (XS z) := by
  unfold d_X11_exits at h
  refine Y_aload_n (pc := 0) (j := 0) dX11_exits_0 rfl rfl ?_
  refine Y_iload_n (pc := 1) (j := 1) dX11_exits_1 rfl rfl ?_
  refine Y_iload_n (pc := 2) (j := 2) dX11_exits_2 rfl rfl ?_
  obtain ⟨y1, qy1, h⟩ := bindE h
  have cy1 := v_X11_traceWithGuard hP qy1
  have hPN1 := cy1.1.1
  obtain ⟨y1 | E1, N1⟩ := y1
  · replace h := id h
    refine C_V2r (k' := k_X11_traceWithGuard) dX11_exits_3 w7_219 i_X11_traceWithGuard (lk_1 hP) ⟨Nat.le_of_ble_eq_true rfl, Nat.le_of_ble_eq_true rfl⟩ rfl (Nat.le_of_ble_eq_true rfl) (Nat.le_of_ble_eq_true rfl) (Nat.le_of_ble_eq_true rfl) (CC.rr cy1) ?_
    obtain ⟨hb1, h⟩ := okE h
    obtain ⟨r_1, er_1, h⟩ := bindE h
    refine Z_getr (pc := 6) dX11_exits_6 w2_157 hb1 fr_9_8 er_1 ?_
    refine Y_iload_n (pc := 9) (j := 2) dX11_exits_9 rfl rfl ?_
    obtain ⟨hb2, h⟩ := okE h
    obtain ⟨hb3, h⟩ := okE h
    refine Y_iald (pc := 10) dX11_exits_10 hb2 rfl hb3 ?_
    cases h
    exact Y_iret (pc := 11) rfl rfl dX11_exits_11 hPN1 ⟨_, rfl, rfl, rfl⟩
  · replace h := id h
    cases h
    refine C_V2x (k' := k_X11_traceWithGuard) dX11_exits_3 w7_219 i_X11_traceWithGuard (lk_1 hP) ⟨Nat.le_of_ble_eq_true rfl, Nat.le_of_ble_eq_true rfl⟩ rfl (Nat.le_of_ble_eq_true rfl) (Nat.le_of_ble_eq_true rfl) (Nat.le_of_ble_eq_true rfl) (cy1.mono id (QSr rfl) (XSr rfl)) ?_
    exact Y_out (by decide) hPN1 ⟨rfl, rfl⟩
theorem v_X11_exits {x1 : Int32} {x2 : Int32} {M z} (hP : Lay M) (h : d_X11_exits x1 x2 M = some z) : CC Lay k_X11_exits [.ref 1, .int x1, .int x2] M z.2 (QS (fun v => some (.int v)) z) (XS z) :=
  CC.ofVV (by decide) rfl (Nat.le_of_ble_eq_true rfl) (b_X11_exits hP h)
theorem b_X11_sideOf {x1 : Int32} {x2 : Int32} {M z} (hP : Lay M) (h : d_X11_sideOf x1 x2 M = some z) : VV Lay k_X11_sideOf 0 [(0, .ref 1), (1, .int x1), (2, .int x2)] [] M z.2 (QS (fun v => some (.int v)) z) (XS z) := by
  unfold d_X11_sideOf at h
  refine Y_aload_n (pc := 0) (j := 0) dX11_sideOf_0 rfl rfl ?_
  refine Y_iload_n (pc := 1) (j := 1) dX11_sideOf_1 rfl rfl ?_
  refine Y_iload_n (pc := 2) (j := 2) dX11_sideOf_2 rfl rfl ?_
  obtain ⟨y1, qy1, h⟩ := bindE h
  have cy1 := v_X11_traceWithGuard hP qy1
  have hPN1 := cy1.1.1
  obtain ⟨y1 | E1, N1⟩ := y1
  · replace h := id h
    refine C_V2r (k' := k_X11_traceWithGuard) dX11_sideOf_3 w7_219 i_X11_traceWithGuard (lk_1 hP) ⟨Nat.le_of_ble_eq_true rfl, Nat.le_of_ble_eq_true rfl⟩ rfl (Nat.le_of_ble_eq_true rfl) (Nat.le_of_ble_eq_true rfl) (Nat.le_of_ble_eq_true rfl) (CC.rr cy1) ?_
    obtain ⟨hb1, h⟩ := okE h
    obtain ⟨r_1, er_1, h⟩ := bindE h
    refine Z_getr (pc := 6) dX11_sideOf_6 w2_163 hb1 fr_9_11 er_1 ?_
    refine Y_iload_n (pc := 9) (j := 2) dX11_sideOf_9 rfl rfl ?_
    obtain ⟨hb2, h⟩ := okE h
    obtain ⟨hb3, h⟩ := okE h
    refine Y_iald (pc := 10) dX11_sideOf_10 hb2 rfl hb3 ?_
    obtain ⟨b1, eb1, h⟩ := bndE h
    refine VV.topI eb1 ?_
    refine Y_istore_n (pc := 11) (lv1 := [(3, .int b1), (0, .ref 1), (1, .int x1), (2, .int x2)]) dX11_sideOf_11 rfl (by decide) rfl ?_
    refine Y_iload_n (pc := 12) (j := 0) dX11_sideOf_12 rfl rfl ?_
    refine Y_iconst (pc := 13) (v := (-1 : Int32)) dX11_sideOf_13 rfl ?_
    refine Y_icmp_ne (pc := 14) (tgt := 28) dX11_sideOf_14 (by decide) (fun hc1 => ?_) (fun hc1 => ?_)
    · replace h := ifF hc1 h
      refine Y_iload_n (pc := 28) (j := 0) dX11_sideOf_28 rfl rfl ?_
      cases h
      exact Y_iret (pc := 29) rfl rfl dX11_sideOf_29 hPN1 ⟨_, rfl, rfl, rfl⟩
    · replace h := ifT hc1 h
      cases h
      exact Y_throwW_NoSuchElementException (pc := 17) w4_198 w4_207 (mi := 27) rfl dX11_sideOf_17 dX11_sideOf_20 dX11_sideOf_21 dX11_sideOf_24 dX11_sideOf_27 rfl (Nat.le_of_ble_eq_true rfl) (Nat.le_of_ble_eq_true rfl) (Nat.le_of_ble_eq_true rfl) (hPN1.wT rfl) ⟨rfl, rfl⟩
  · replace h := id h
    cases h
    refine C_V2x (k' := k_X11_traceWithGuard) dX11_sideOf_3 w7_219 i_X11_traceWithGuard (lk_1 hP) ⟨Nat.le_of_ble_eq_true rfl, Nat.le_of_ble_eq_true rfl⟩ rfl (Nat.le_of_ble_eq_true rfl) (Nat.le_of_ble_eq_true rfl) (Nat.le_of_ble_eq_true rfl) (cy1.mono id (QSr rfl) (XSr rfl)) ?_
    exact Y_out (by decide) hPN1 ⟨rfl, rfl⟩
theorem v_X11_sideOf {x1 : Int32} {x2 : Int32} {M z} (hP : Lay M) (h : d_X11_sideOf x1 x2 M = some z) : CC Lay k_X11_sideOf [.ref 1, .int x1, .int x2] M z.2 (QS (fun v => some (.int v)) z) (XS z) :=
  CC.ofVV (by decide) rfl (Nat.le_of_ble_eq_true rfl) (b_X11_sideOf hP h)
theorem b_X11_rootOf {x1 : Int32} {M z} (hP : Lay M) (h : d_X11_rootOf x1 M = some z) : VV Lay k_X11_rootOf 0 [(0, .ref 1), (1, .int x1)] [] M z.2 (QS (fun v => some (.int v)) z) (XS z) := by
  unfold d_X11_rootOf at h
  refine Y_aload_n (pc := 0) (j := 0) dX11_rootOf_0 rfl rfl ?_
  refine Y_iload_n (pc := 1) (j := 1) dX11_rootOf_1 rfl rfl ?_
  obtain ⟨y1, qy1, h⟩ := bindE h
  have cy1 := v_X11_traceAt hP qy1
  have hPN1 := cy1.1.1
  obtain ⟨y1 | E1, N1⟩ := y1
  · replace h := id h
    refine C_V1r (k' := k_X11_traceAt) dX11_rootOf_2 w7_185 i_X11_traceAt (lk_1 hP) ⟨Nat.le_of_ble_eq_true rfl, Nat.le_of_ble_eq_true rfl⟩ rfl (Nat.le_of_ble_eq_true rfl) (Nat.le_of_ble_eq_true rfl) (Nat.le_of_ble_eq_true rfl) (CC.rr cy1) ?_
    obtain ⟨hb1, h⟩ := okE h
    refine Z_geti (pc := 5) dX11_rootOf_5 w2_167 hb1 fi_9_12 ?_
    cases h
    exact Y_iret (pc := 8) rfl rfl dX11_rootOf_8 hPN1 ⟨_, rfl, rfl, rfl⟩
  · replace h := id h
    cases h
    refine C_V1x (k' := k_X11_traceAt) dX11_rootOf_2 w7_185 i_X11_traceAt (lk_1 hP) ⟨Nat.le_of_ble_eq_true rfl, Nat.le_of_ble_eq_true rfl⟩ rfl (Nat.le_of_ble_eq_true rfl) (Nat.le_of_ble_eq_true rfl) (Nat.le_of_ble_eq_true rfl) (cy1.mono id (QSr rfl) (XSr rfl)) ?_
    exact Y_out (by decide) hPN1 ⟨rfl, rfl⟩
theorem v_X11_rootOf {x1 : Int32} {M z} (hP : Lay M) (h : d_X11_rootOf x1 M = some z) : CC Lay k_X11_rootOf [.ref 1, .int x1] M z.2 (QS (fun v => some (.int v)) z) (XS z) :=
  CC.ofVV (by decide) rfl (Nat.le_of_ble_eq_true rfl) (b_X11_rootOf hP h)
theorem b_X11_begun {x1 : Int32} {M z} (hP : Lay M) (h : d_X11_begun x1 M = some z) : VV Lay k_X11_begun 0 [(0, .ref 1), (1, .int x1)] [] M z.2 (QS (fun v => some (.int v)) z) (XS z) := by
  unfold d_X11_begun at h
  refine Y_aload_n (pc := 0) (j := 0) dX11_begun_0 rfl rfl ?_
  refine Y_iload_n (pc := 1) (j := 1) dX11_begun_1 rfl rfl ?_
  obtain ⟨y1, qy1, h⟩ := bindE h
  have cy1 := v_X11_traceAt hP qy1
  have hPN1 := cy1.1.1
  obtain ⟨y1 | E1, N1⟩ := y1
  · replace h := id h
    refine C_V1r (k' := k_X11_traceAt) dX11_begun_2 w7_185 i_X11_traceAt (lk_1 hP) ⟨Nat.le_of_ble_eq_true rfl, Nat.le_of_ble_eq_true rfl⟩ rfl (Nat.le_of_ble_eq_true rfl) (Nat.le_of_ble_eq_true rfl) (Nat.le_of_ble_eq_true rfl) (CC.rr cy1) ?_
    obtain ⟨hb1, h⟩ := okE h
    refine Z_geti (pc := 5) dX11_begun_5 w2_175 hb1 fi_9_15 ?_
    cases h
    exact Y_iret (pc := 8) rfl rfl dX11_begun_8 hPN1 ⟨_, rfl, rfl, rfl⟩
  · replace h := id h
    cases h
    refine C_V1x (k' := k_X11_traceAt) dX11_begun_2 w7_185 i_X11_traceAt (lk_1 hP) ⟨Nat.le_of_ble_eq_true rfl, Nat.le_of_ble_eq_true rfl⟩ rfl (Nat.le_of_ble_eq_true rfl) (Nat.le_of_ble_eq_true rfl) (Nat.le_of_ble_eq_true rfl) (cy1.mono id (QSr rfl) (XSr rfl)) ?_
    exact Y_out (by decide) hPN1 ⟨rfl, rfl⟩
theorem v_X11_begun {x1 : Int32} {M z} (hP : Lay M) (h : d_X11_begun x1 M = some z) : CC Lay k_X11_begun [.ref 1, .int x1] M z.2 (QS (fun v => some (.int v)) z) (XS z) :=
  CC.ofVV (by decide) rfl (Nat.le_of_ble_eq_true rfl) (b_X11_begun hP h)
theorem b_X11_inTraces {M z} (hP : Lay M) (h : d_X11_inTraces M = some z) : VV Lay k_X11_inTraces 0 [(0, .ref 1)] [] M z.2 (Qv (some (.int z.1)) z.2) xF := by
  unfold d_X11_inTraces at h
  refine Y_aload_n (pc := 0) (j := 0) dX11_inTraces_0 rfl rfl ?_
  refine Z_getr (pc := 1) dX11_inTraces_1 w3_56 (lk_1 hP) fr_11_4 (lr_1_4 hP) ?_
  refine Z_geti (pc := 4) dX11_inTraces_4 w3_18 (lk_38 hP) fi_10_7 ?_
  cases h
  exact Y_iret (pc := 7) rfl rfl dX11_inTraces_7 hP ⟨rfl, rfl⟩
theorem v_X11_inTraces {M z} (hP : Lay M) (h : d_X11_inTraces M = some z) : CC Lay k_X11_inTraces [.ref 1] M z.2 (Qv (some (.int z.1)) z.2) xF :=
  CC.ofVV (by decide) rfl (Nat.le_of_ble_eq_true rfl) (b_X11_inTraces hP h)
theorem b_X11_codeSize {M z} (hP : Lay M) (h : d_X11_codeSize M = some z) : VV Lay k_X11_codeSize 0 [(0, .ref 1)] [] M z.2 (Qv (some (.int z.1)) z.2) xF := by
  unfold d_X11_codeSize at h
  refine Y_aload_n (pc := 0) (j := 0) dX11_codeSize_0 rfl rfl ?_
  refine Z_getr (pc := 1) dX11_codeSize_1 w3_56 (lk_1 hP) fr_11_4 (lr_1_4 hP) ?_
  refine Z_getr (pc := 4) dX11_codeSize_4 w3_12 (lk_38 hP) fr_10_4 (lr_38_4 hP) ?_
  obtain ⟨y1, qy1, h⟩ := bindE h
  have cy1 := v_X1_size hP qy1
  refine C_V0r (pc := 7) (k' := k_X1_size) dX11_codeSize_7 w3_99 i_X1_size (lk_67 hP) ⟨Nat.le_of_ble_eq_true rfl, Nat.le_of_ble_eq_true rfl⟩ rfl (Nat.le_of_ble_eq_true rfl) (Nat.le_of_ble_eq_true rfl) (Nat.le_of_ble_eq_true rfl) (cy1) ?_
  have hPy1 := cy1.1.1
  cases h
  exact Y_iret (pc := 10) rfl rfl dX11_codeSize_10 hPy1 ⟨rfl, rfl⟩
theorem v_X11_codeSize {M z} (hP : Lay M) (h : d_X11_codeSize M = some z) : CC Lay k_X11_codeSize [.ref 1] M z.2 (Qv (some (.int z.1)) z.2) xF :=
  CC.ofVV (by decide) rfl (Nat.le_of_ble_eq_true rfl) (b_X11_codeSize hP h)
theorem b_X11_agrees {M z} (hP : Lay M) (h : d_X11_agrees M = some z) : VV Lay k_X11_agrees 0 [(0, .ref 1)] [] M z.2 (Qv (some (.int z.1)) z.2) xF := by
  unfold d_X11_agrees at h
  refine Y_aload_n (pc := 0) (j := 0) dX11_agrees_0 rfl rfl ?_
  refine Z_geti (pc := 1) dX11_agrees_1 w3_57 (lk_1 hP) fi_11_5 ?_
  obtain ⟨hb1, h⟩ := okE h
  cases h
  exact Y_iret (pc := 4) rfl (nar_bo hb1) dX11_agrees_4 hP ⟨rfl, rfl⟩
theorem v_X11_agrees {M z} (hP : Lay M) (h : d_X11_agrees M = some z) : CC Lay k_X11_agrees [.ref 1] M z.2 (Qv (some (.int z.1)) z.2) xF :=
  CC.ofVV (by decide) rfl (Nat.le_of_ble_eq_true rfl) (b_X11_agrees hP h)
theorem b_X11_tracedShare {M z} (hP : Lay M) (h : d_X11_tracedShare M = some z) : VV Lay k_X11_tracedShare 0 [(0, .ref 1)] [] M z.2 (QS (fun v => some (.float v)) z) (XS z) := by
  unfold d_X11_tracedShare at h
  refine Y_aload_n (pc := 0) (j := 0) dX11_tracedShare_0 rfl rfl ?_
  refine Z_getr (pc := 1) dX11_tracedShare_1 w3_54 (lk_1 hP) fr_11_2 (lr_1_2 hP) ?_
  refine Z_geti (pc := 4) dX11_tracedShare_4 w1_192 (lk_18 hP) fi_4_12 ?_
  refine Y_if_ne (pc := 7) (tgt := 21) dX11_tracedShare_7 (by decide) (fun hc1 => ?_) (fun hc1 => ?_)
  · replace h := ifF hc1 h
    refine Y_aload_n (pc := 21) (j := 0) dX11_tracedShare_21 rfl rfl ?_
    refine Z_getr (pc := 22) dX11_tracedShare_22 w3_56 (lk_1 hP) fr_11_4 (lr_1_4 hP) ?_
    refine Z_geti (pc := 25) dX11_tracedShare_25 w3_18 (lk_38 hP) fi_10_7 ?_
    refine Y_i2f (pc := 28) dX11_tracedShare_28 ?_
    refine Y_aload_n (pc := 29) (j := 0) dX11_tracedShare_29 rfl rfl ?_
    refine Z_getr (pc := 30) dX11_tracedShare_30 w3_54 (lk_1 hP) fr_11_2 (lr_1_2 hP) ?_
    refine Z_geti (pc := 33) dX11_tracedShare_33 w1_192 (lk_18 hP) fi_4_12 ?_
    refine Y_i2f (pc := 36) dX11_tracedShare_36 ?_
    obtain ⟨hb1, h⟩ := okE h
    refine Y_fdiv (pc := 37) dX11_tracedShare_37 hb1 ?_
    cases h
    exact Y_fret (pc := 38) rfl dX11_tracedShare_38 hP ⟨_, rfl, rfl, rfl⟩
  · replace h := ifT hc1 h
    cases h
    exact Y_throwW_ArithmeticException (pc := 10) w8_41 w8_43 (mi := 28) rfl dX11_tracedShare_10 dX11_tracedShare_13 dX11_tracedShare_14 dX11_tracedShare_17 dX11_tracedShare_20 rfl (Nat.le_of_ble_eq_true rfl) (Nat.le_of_ble_eq_true rfl) (Nat.le_of_ble_eq_true rfl) (hP.wT rfl) ⟨rfl, rfl⟩
theorem v_X11_tracedShare {M z} (hP : Lay M) (h : d_X11_tracedShare M = some z) : CC Lay k_X11_tracedShare [.ref 1] M z.2 (QS (fun v => some (.float v)) z) (XS z) :=
  CC.ofVV (by decide) rfl (Nat.le_of_ble_eq_true rfl) (b_X11_tracedShare hP h)
theorem b_X11_meanGuards {M z} (hP : Lay M) (h : d_X11_meanGuards M = some z) : VV Lay k_X11_meanGuards 0 [(0, .ref 1)] [] M z.2 (QS (fun v => some (.double v)) z) (XS z) := by
  unfold d_X11_meanGuards at h
  refine Y_aload_n (pc := 0) (j := 0) dX11_meanGuards_0 rfl rfl ?_
  refine Z_getr (pc := 1) dX11_meanGuards_1 w3_56 (lk_1 hP) fr_11_4 (lr_1_4 hP) ?_
  refine Z_getr (pc := 4) dX11_meanGuards_4 w3_12 (lk_38 hP) fr_10_4 (lr_38_4 hP) ?_
  obtain ⟨y1, qy1, h⟩ := bindE h
  have cy1 := v_X1_countThere hP qy1
  refine C_V0r (pc := 7) (k' := k_X1_countThere) dX11_meanGuards_7 w8_51 i_X1_countThere (lk_67 hP) ⟨Nat.le_of_ble_eq_true rfl, Nat.le_of_ble_eq_true rfl⟩ rfl (Nat.le_of_ble_eq_true rfl) (Nat.le_of_ble_eq_true rfl) (Nat.le_of_ble_eq_true rfl) (cy1) ?_
  have hPy1 := cy1.1.1
  refine Y_istore_n (pc := 10) (lv1 := [(1, .int y1.1), (0, .ref 1)]) dX11_meanGuards_10 rfl (by decide) rfl ?_
  refine Y_iload_n (pc := 11) (j := 0) dX11_meanGuards_11 rfl rfl ?_
  refine Y_if_ne (pc := 12) (tgt := 26) dX11_meanGuards_12 (by decide) (fun hc1 => ?_) (fun hc1 => ?_)
  · replace h := ifF hc1 h
    refine Y_aload_n (pc := 26) (j := 1) dX11_meanGuards_26 rfl rfl ?_
    refine Z_getr (pc := 27) dX11_meanGuards_27 w3_56 (lk_1 hPy1) fr_11_4 (lr_1_4 hPy1) ?_
    refine Z_getr (pc := 30) dX11_meanGuards_30 w3_12 (lk_38 hPy1) fr_10_4 (lr_38_4 hPy1) ?_
    obtain ⟨y2, qy2, h⟩ := bindE h
    have cy2 := v_X1_guardsThere hPy1 qy2
    refine C_V0r (pc := 33) (k' := k_X1_guardsThere) dX11_meanGuards_33 w8_56 i_X1_guardsThere (lk_67 hPy1) ⟨Nat.le_of_ble_eq_true rfl, Nat.le_of_ble_eq_true rfl⟩ rfl (Nat.le_of_ble_eq_true rfl) (Nat.le_of_ble_eq_true rfl) (Nat.le_of_ble_eq_true rfl) (cy2) ?_
    have hPy2 := cy2.1.1
    refine Y_i2d (pc := 36) dX11_meanGuards_36 ?_
    refine Y_iload_n (pc := 37) (j := 0) dX11_meanGuards_37 rfl rfl ?_
    refine Y_i2d (pc := 38) dX11_meanGuards_38 ?_
    refine Y_ddiv (pc := 39) dX11_meanGuards_39 ?_
    cases h
    exact Y_dret (pc := 40) rfl dX11_meanGuards_40 hPy2 ⟨_, rfl, rfl, rfl⟩
  · replace h := ifT hc1 h
    cases h
    exact Y_throwW_ArithmeticException (pc := 15) w8_41 w8_43 (mi := 29) rfl dX11_meanGuards_15 dX11_meanGuards_18 dX11_meanGuards_19 dX11_meanGuards_22 dX11_meanGuards_25 rfl (Nat.le_of_ble_eq_true rfl) (Nat.le_of_ble_eq_true rfl) (Nat.le_of_ble_eq_true rfl) (hPy1.wT rfl) ⟨rfl, rfl⟩
theorem v_X11_meanGuards {M z} (hP : Lay M) (h : d_X11_meanGuards M = some z) : CC Lay k_X11_meanGuards [.ref 1] M z.2 (QS (fun v => some (.double v)) z) (XS z) :=
  CC.ofVV (by decide) rfl (Nat.le_of_ble_eq_true rfl) (b_X11_meanGuards hP h)
theorem b_X11_isSound {M z} (hP : Lay M) (h : d_X11_isSound M = some z) : VV Lay k_X11_isSound 0 [(0, .ref 1)] [] M z.2 (Qv (some (.int z.1)) z.2) xF := by
  unfold d_X11_isSound at h
  refine Y_aload_n (pc := 0) (j := 0) dX11_isSound_0 rfl rfl ?_
  refine Z_geti (pc := 1) dX11_isSound_1 w3_57 (lk_1 hP) fi_11_5 ?_
  refine Y_if_eq (pc := 4) (tgt := 60) dX11_isSound_4 (by decide) (fun hc1 => ?_) (fun hc1 => ?_)
  · replace h := ifT hc1 h
    refine Y_iconst (pc := 60) (v := (0 : Int32)) dX11_isSound_60 rfl ?_
    cases h
    exact Y_iret (pc := 61) rfl (nar_bo (by decide)) dX11_isSound_61 hP ⟨rfl, rfl⟩
  · replace h := ifF hc1 h
    refine Y_aload_n (pc := 7) (j := 0) dX11_isSound_7 rfl rfl ?_
    refine Z_getr (pc := 8) dX11_isSound_8 w3_56 (lk_1 hP) fr_11_4 (lr_1_4 hP) ?_
    refine Z_getr (pc := 11) dX11_isSound_11 w3_12 (lk_38 hP) fr_10_4 (lr_38_4 hP) ?_
    obtain ⟨y1, qy1, h⟩ := bindE h
    have cy1 := v_X1_size hP qy1
    refine C_V0r (pc := 14) (k' := k_X1_size) dX11_isSound_14 w3_99 i_X1_size (lk_67 hP) ⟨Nat.le_of_ble_eq_true rfl, Nat.le_of_ble_eq_true rfl⟩ rfl (Nat.le_of_ble_eq_true rfl) (Nat.le_of_ble_eq_true rfl) (Nat.le_of_ble_eq_true rfl) (cy1) ?_
    have hPy1 := cy1.1.1
    refine Y_aload_n (pc := 17) (j := 0) dX11_isSound_17 rfl rfl ?_
    refine Z_getr (pc := 18) dX11_isSound_18 w3_56 (lk_1 hPy1) fr_11_4 (lr_1_4 hPy1) ?_
    refine Z_getr (pc := 21) dX11_isSound_21 w3_12 (lk_38 hPy1) fr_10_4 (lr_38_4 hPy1) ?_
    refine Z_geti (pc := 24) dX11_isSound_24 w2_230 (lk_67 hPy1) fi_2_4 ?_
    refine Y_icmp_gt (pc := 27) (tgt := 60) dX11_isSound_27 (by decide) (fun hc2 => ?_) (fun hc2 => ?_)
    · replace h := ifT hc2 h
      refine Y_iconst (pc := 60) (v := (0 : Int32)) dX11_isSound_60 rfl ?_
      cases h
      exact Y_iret (pc := 61) rfl (nar_bo (by decide)) dX11_isSound_61 hPy1 ⟨rfl, rfl⟩
    · replace h := ifF hc2 h
      refine Y_aload_n (pc := 30) (j := 0) dX11_isSound_30 rfl rfl ?_
      refine Z_getr (pc := 31) dX11_isSound_31 w3_56 (lk_1 hPy1) fr_11_4 (lr_1_4 hPy1) ?_
      refine Z_getr (pc := 34) dX11_isSound_34 w3_12 (lk_38 hPy1) fr_10_4 (lr_38_4 hPy1) ?_
      obtain ⟨y2, qy2, h⟩ := bindE h
      have cy2 := v_X1_hasRoots hPy1 qy2
      refine C_V0r (pc := 37) (k' := k_X1_hasRoots) dX11_isSound_37 w3_111 i_X1_hasRoots (lk_67 hPy1) ⟨Nat.le_of_ble_eq_true rfl, Nat.le_of_ble_eq_true rfl⟩ rfl (Nat.le_of_ble_eq_true rfl) (Nat.le_of_ble_eq_true rfl) (Nat.le_of_ble_eq_true rfl) (cy2) ?_
      have hPy2 := cy2.1.1
      refine Y_if_eq (pc := 40) (tgt := 60) dX11_isSound_40 (by decide) (fun hc3 => ?_) (fun hc3 => ?_)
      · replace h := ifT hc3 h
        refine Y_iconst (pc := 60) (v := (0 : Int32)) dX11_isSound_60 rfl ?_
        cases h
        exact Y_iret (pc := 61) rfl (nar_bo (by decide)) dX11_isSound_61 hPy2 ⟨rfl, rfl⟩
      · replace h := ifF hc3 h
        refine Y_aload_n (pc := 43) (j := 0) dX11_isSound_43 rfl rfl ?_
        refine Z_getr (pc := 44) dX11_isSound_44 w3_56 (lk_1 hPy2) fr_11_4 (lr_1_4 hPy2) ?_
        refine Z_getr (pc := 47) dX11_isSound_47 w3_7 (lk_38 hPy2) fr_10_1 (lr_38_1 hPy2) ?_
        obtain ⟨y3, qy3, h⟩ := bindE h
        have cy3 := v_X0_areSmall hPy2 qy3
        refine C_V0r (pc := 50) (k' := k_X0_areSmall) dX11_isSound_50 w3_115 i_X0_areSmall (lk_39 hPy2) ⟨Nat.le_of_ble_eq_true rfl, Nat.le_of_ble_eq_true rfl⟩ rfl (Nat.le_of_ble_eq_true rfl) (Nat.le_of_ble_eq_true rfl) (Nat.le_of_ble_eq_true rfl) (cy3) ?_
        have hPy3 := cy3.1.1
        refine Y_if_eq (pc := 53) (tgt := 60) dX11_isSound_53 (by decide) (fun hc4 => ?_) (fun hc4 => ?_)
        · replace h := ifT hc4 h
          refine Y_iconst (pc := 60) (v := (0 : Int32)) dX11_isSound_60 rfl ?_
          cases h
          exact Y_iret (pc := 61) rfl (nar_bo (by decide)) dX11_isSound_61 hPy3 ⟨rfl, rfl⟩
        · replace h := ifF hc4 h
          refine Y_iconst (pc := 56) (v := (1 : Int32)) dX11_isSound_56 rfl ?_
          refine Y_goto (pc := 57) (tgt := 61) dX11_isSound_57 (by decide) ?_
          cases h
          exact Y_iret (pc := 61) rfl (nar_bo (by decide)) dX11_isSound_61 hPy3 ⟨rfl, rfl⟩
theorem v_X11_isSound {M z} (hP : Lay M) (h : d_X11_isSound M = some z) : CC Lay k_X11_isSound [.ref 1] M z.2 (Qv (some (.int z.1)) z.2) xF :=
  CC.ofVV (by decide) rfl (Nat.le_of_ble_eq_true rfl) (b_X11_isSound hP h)
theorem b_L_addFunction {x1 : Int32} {M z} (hP : Lay M) (h : d_L_addFunction x1 M = some z) : VV Lay k_L_addFunction 0 [(0, .ref 1), (1, .int x1), (2, .ref 127)] [] M z.2 (Qv (some (.int z.1)) z.2) xF := by
  unfold d_L_addFunction at h
  refine Y_aload_n (pc := 0) (j := 2) dL_addFunction_0 rfl rfl ?_
  refine Y_iconst (pc := 1) (v := (0 : Int32)) dL_addFunction_1 rfl ?_
  refine Y_aload_n (pc := 2) (j := 0) dL_addFunction_2 rfl rfl ?_
  refine Y_iload_n (pc := 3) (j := 1) dL_addFunction_3 rfl rfl ?_
  obtain ⟨y1, qy1, h⟩ := bindE h
  have cy1 := v_X11_addFunction hP qy1
  have hPN1 := cy1.1.1
  obtain ⟨y1 | E1, N1⟩ := y1
  · replace h := id h
    refine C_V1r (k' := k_X11_addFunction) dL_addFunction_4 w3_124 i_X11_addFunction (lk_1 hP) ⟨Nat.le_of_ble_eq_true rfl, Nat.le_of_ble_eq_true rfl⟩ rfl (Nat.le_of_ble_eq_true rfl) (Nat.le_of_ble_eq_true rfl) (Nat.le_of_ble_eq_true rfl) (CC.ri cy1) ?_
    refine Y_i2l (pc := 7) dL_addFunction_7 ?_
    refine Y_last (pc := 8) dL_addFunction_8 (lk_127 hPN1) (ln_127 hPN1) (vp_lit (by decide)) ?_
    obtain ⟨M1, eM1, h⟩ := bndE h
    refine VV.mem eM1 ?_
    have hP1 := hPN1.wL eM1
    refine Y_goto (pc := 9) (tgt := 18) dL_addFunction_9 (by decide) ?_
    refine Y_iconst (pc := 18) (v := (0 : Int32)) dL_addFunction_18 rfl ?_
    cases h
    exact Y_iret (pc := 19) rfl rfl dL_addFunction_19 hP1 ⟨rfl, rfl⟩
  · replace h := id h
    by_cases hc0 : E1 = "java/lang/IllegalArgumentException"
    · replace h := ifT hc0 h
      subst hc0
      refine C_V1x (k' := k_X11_addFunction) dL_addFunction_4 w3_124 i_X11_addFunction (lk_1 hP) ⟨Nat.le_of_ble_eq_true rfl, Nat.le_of_ble_eq_true rfl⟩ rfl (Nat.le_of_ble_eq_true rfl) (Nat.le_of_ble_eq_true rfl) (Nat.le_of_ble_eq_true rfl) (cy1.mono id (QSr rfl) (XSr rfl)) ?_
      refine Y_catch_n (E := "java/lang/IllegalArgumentException") (i := 3) (pre := []) (suf := [(0, 9, 15, 15)]) (lv1 := [(0, .ref 1), (1, .int x1), (2, .ref 127)]) rfl hp_nil (by decide) (by decide) w3_122 (List.mem_of_getElem? (i := 1) rfl) dL_addFunction_12 rfl (by decide) rfl ?_
      refine Y_iconst (pc := 13) (v := (1 : Int32)) dL_addFunction_13 rfl ?_
      cases h
      exact Y_iret (pc := 14) rfl rfl dL_addFunction_14 hPN1 ⟨rfl, rfl⟩
    replace h := ifF hc0 h
    by_cases hc1 : E1 = "java/lang/IllegalStateException"
    · replace h := ifT hc1 h
      subst hc1
      refine C_V1x (k' := k_X11_addFunction) dL_addFunction_4 w3_124 i_X11_addFunction (lk_1 hP) ⟨Nat.le_of_ble_eq_true rfl, Nat.le_of_ble_eq_true rfl⟩ rfl (Nat.le_of_ble_eq_true rfl) (Nat.le_of_ble_eq_true rfl) (Nat.le_of_ble_eq_true rfl) (cy1.mono id (QSr rfl) (XSr rfl)) ?_
      refine Y_catch_n (E := "java/lang/IllegalStateException") (i := 3) (pre := [(0, 9, 12, 13)]) (suf := []) (lv1 := [(0, .ref 1), (1, .int x1), (2, .ref 127)]) rfl (hp_cons (by decide) w3_122 (List.mem_of_getElem? (i := 0) rfl) hp_nil) (by decide) (by decide) w3_123 (List.mem_of_getElem? (i := 8) rfl) dL_addFunction_15 rfl (by decide) rfl ?_
      refine Y_iconst (pc := 16) (v := (2 : Int32)) dL_addFunction_16 rfl ?_
      cases h
      exact Y_iret (pc := 17) rfl rfl dL_addFunction_17 hPN1 ⟨rfl, rfl⟩
    replace h := ifF hc1 h
    cases h
theorem v_L_addFunction {x1 : Int32} {M z} (hP : Lay M) (h : d_L_addFunction x1 M = some z) : CC Lay k_L_addFunction [.ref 1, .int x1, .ref 127] M z.2 (Qv (some (.int z.1)) z.2) xF :=
  CC.ofVV (by decide) rfl (Nat.le_of_ble_eq_true rfl) (b_L_addFunction hP h)
theorem b_L_code {x1 : Int32} {x2 : Int32} {x3 : Int32} {M z} (hP : Lay M) (h : d_L_code x1 x2 x3 M = some z) : VV Lay k_L_code 0 [(0, .ref 1), (1, .int x1), (2, .int x2), (3, .int x3), (4, .ref 127)] [] M z.2 (Qv (some (.int z.1)) z.2) xF := by
  unfold d_L_code at h
  refine Y_aload (pc := 0) (j := 4) dL_code_0 rfl ?_
  refine Y_iconst (pc := 2) (v := (0 : Int32)) dL_code_2 rfl ?_
  refine Y_aload_n (pc := 3) (j := 0) dL_code_3 rfl rfl ?_
  refine Y_iload_n (pc := 4) (j := 1) dL_code_4 rfl rfl ?_
  refine Y_iload_n (pc := 5) (j := 2) dL_code_5 rfl rfl ?_
  refine Y_iload_n (pc := 6) (j := 3) dL_code_6 rfl rfl ?_
  obtain ⟨y1, qy1, h⟩ := bindE h
  have cy1 := v_X11_code hP qy1
  have hPN1 := cy1.1.1
  obtain ⟨y1 | E1, N1⟩ := y1
  · replace h := id h
    refine C_V3r (k' := k_X11_code) dL_code_7 w4_7 i_X11_code (lk_1 hP) ⟨Nat.le_of_ble_eq_true rfl, Nat.le_of_ble_eq_true rfl⟩ rfl (Nat.le_of_ble_eq_true rfl) (Nat.le_of_ble_eq_true rfl) (Nat.le_of_ble_eq_true rfl) (CC.ri cy1) ?_
    refine Y_i2l (pc := 10) dL_code_10 ?_
    refine Y_last (pc := 11) dL_code_11 (lk_127 hPN1) (ln_127 hPN1) (vp_lit (by decide)) ?_
    obtain ⟨M1, eM1, h⟩ := bndE h
    refine VV.mem eM1 ?_
    have hP1 := hPN1.wL eM1
    refine Y_goto (pc := 12) (tgt := 27) dL_code_12 (by decide) ?_
    refine Y_iconst (pc := 27) (v := (0 : Int32)) dL_code_27 rfl ?_
    cases h
    exact Y_iret (pc := 28) rfl rfl dL_code_28 hP1 ⟨rfl, rfl⟩
  · replace h := id h
    by_cases hc0 : E1 = "java/lang/IndexOutOfBoundsException"
    · replace h := ifT hc0 h
      subst hc0
      refine C_V3x (k' := k_X11_code) dL_code_7 w4_7 i_X11_code (lk_1 hP) ⟨Nat.le_of_ble_eq_true rfl, Nat.le_of_ble_eq_true rfl⟩ rfl (Nat.le_of_ble_eq_true rfl) (Nat.le_of_ble_eq_true rfl) (Nat.le_of_ble_eq_true rfl) (cy1.mono id (QSr rfl) (XSr rfl)) ?_
      refine Y_catch (E := "java/lang/IndexOutOfBoundsException") (i := 5) (pre := []) (suf := [(0, 12, 19, 13), (0, 12, 23, 15)]) (lv1 := [(0, .ref 1), (1, .int x1), (2, .int x2), (3, .int x3), (4, .ref 127)]) rfl hp_nil (by decide) (by decide) w3_223 (List.mem_of_getElem? (i := 12) rfl) dL_code_15 (by decide) rfl ?_
      refine Y_iconst (pc := 17) (v := (1 : Int32)) dL_code_17 rfl ?_
      cases h
      exact Y_iret (pc := 18) rfl rfl dL_code_18 hPN1 ⟨rfl, rfl⟩
    replace h := ifF hc0 h
    by_cases hc1 : E1 = "java/lang/IllegalArgumentException"
    · replace h := ifT hc1 h
      subst hc1
      refine C_V3x (k' := k_X11_code) dL_code_7 w4_7 i_X11_code (lk_1 hP) ⟨Nat.le_of_ble_eq_true rfl, Nat.le_of_ble_eq_true rfl⟩ rfl (Nat.le_of_ble_eq_true rfl) (Nat.le_of_ble_eq_true rfl) (Nat.le_of_ble_eq_true rfl) (cy1.mono id (QSr rfl) (XSr rfl)) ?_
      refine Y_catch (E := "java/lang/IllegalArgumentException") (i := 5) (pre := [(0, 12, 15, 21)]) (suf := [(0, 12, 23, 15)]) (lv1 := [(0, .ref 1), (1, .int x1), (2, .int x2), (3, .int x3), (4, .ref 127)]) rfl (hp_cons (by decide) w3_223 (List.mem_of_getElem? (i := 10) rfl) hp_nil) (by decide) (by decide) w3_122 (List.mem_of_getElem? (i := 1) rfl) dL_code_19 (by decide) rfl ?_
      refine Y_iconst (pc := 21) (v := (2 : Int32)) dL_code_21 rfl ?_
      cases h
      exact Y_iret (pc := 22) rfl rfl dL_code_22 hPN1 ⟨rfl, rfl⟩
    replace h := ifF hc1 h
    by_cases hc2 : E1 = "java/lang/IllegalStateException"
    · replace h := ifT hc2 h
      subst hc2
      refine C_V3x (k' := k_X11_code) dL_code_7 w4_7 i_X11_code (lk_1 hP) ⟨Nat.le_of_ble_eq_true rfl, Nat.le_of_ble_eq_true rfl⟩ rfl (Nat.le_of_ble_eq_true rfl) (Nat.le_of_ble_eq_true rfl) (Nat.le_of_ble_eq_true rfl) (cy1.mono id (QSr rfl) (XSr rfl)) ?_
      refine Y_catch (E := "java/lang/IllegalStateException") (i := 5) (pre := [(0, 12, 15, 21), (0, 12, 19, 13)]) (suf := []) (lv1 := [(0, .ref 1), (1, .int x1), (2, .int x2), (3, .int x3), (4, .ref 127)]) rfl (hp_cons (by decide) w3_223 (List.mem_of_getElem? (i := 11) rfl) (hp_cons (by decide) w3_122 (List.mem_of_getElem? (i := 0) rfl) hp_nil)) (by decide) (by decide) w3_123 (List.mem_of_getElem? (i := 8) rfl) dL_code_23 (by decide) rfl ?_
      refine Y_iconst (pc := 25) (v := (3 : Int32)) dL_code_25 rfl ?_
      cases h
      exact Y_iret (pc := 26) rfl rfl dL_code_26 hPN1 ⟨rfl, rfl⟩
    replace h := ifF hc2 h
    cases h
theorem v_L_code {x1 : Int32} {x2 : Int32} {x3 : Int32} {M z} (hP : Lay M) (h : d_L_code x1 x2 x3 M = some z) : CC Lay k_L_code [.ref 1, .int x1, .int x2, .int x3, .ref 127] M z.2 (Qv (some (.int z.1)) z.2) xF :=
  CC.ofVV (by decide) rfl (Nat.le_of_ble_eq_true rfl) (b_L_code hP h)
theorem b_L_setHandler {x1 : Int32} {x2 : Int32} {M z} (hP : Lay M) (h : d_L_setHandler x1 x2 M = some z) : VV Lay k_L_setHandler 0 [(0, .ref 1), (1, .int x1), (2, .int x2), (3, .ref 127)] [] M z.2 (Qv (some (.int z.1)) z.2) xF := by
  unfold d_L_setHandler at h
  refine Y_aload_n (pc := 0) (j := 3) dL_setHandler_0 rfl rfl ?_
  refine Y_iconst (pc := 1) (v := (0 : Int32)) dL_setHandler_1 rfl ?_
  refine Y_aload_n (pc := 2) (j := 0) dL_setHandler_2 rfl rfl ?_
  refine Y_iload_n (pc := 3) (j := 1) dL_setHandler_3 rfl rfl ?_
  refine Y_iload_n (pc := 4) (j := 2) dL_setHandler_4 rfl rfl ?_
  obtain ⟨y1, qy1, h⟩ := bindE h
  have cy1 := v_X11_setHandler hP qy1
  have hPN1 := cy1.1.1
  obtain ⟨y1 | E1, N1⟩ := y1
  · replace h := id h
    refine C_V2r (k' := k_X11_setHandler) dL_setHandler_5 w4_138 i_X11_setHandler (lk_1 hP) ⟨Nat.le_of_ble_eq_true rfl, Nat.le_of_ble_eq_true rfl⟩ rfl (Nat.le_of_ble_eq_true rfl) (Nat.le_of_ble_eq_true rfl) (Nat.le_of_ble_eq_true rfl) (CC.ri cy1) ?_
    refine Y_i2l (pc := 8) dL_setHandler_8 ?_
    refine Y_last (pc := 9) dL_setHandler_9 (lk_127 hPN1) (ln_127 hPN1) (vp_lit (by decide)) ?_
    obtain ⟨M1, eM1, h⟩ := bndE h
    refine VV.mem eM1 ?_
    have hP1 := hPN1.wL eM1
    refine Y_goto (pc := 10) (tgt := 21) dL_setHandler_10 (by decide) ?_
    refine Y_iconst (pc := 21) (v := (0 : Int32)) dL_setHandler_21 rfl ?_
    cases h
    exact Y_iret (pc := 22) rfl rfl dL_setHandler_22 hP1 ⟨rfl, rfl⟩
  · replace h := id h
    by_cases hc0 : E1 = "java/lang/IndexOutOfBoundsException"
    · replace h := ifT hc0 h
      subst hc0
      refine C_V2x (k' := k_X11_setHandler) dL_setHandler_5 w4_138 i_X11_setHandler (lk_1 hP) ⟨Nat.le_of_ble_eq_true rfl, Nat.le_of_ble_eq_true rfl⟩ rfl (Nat.le_of_ble_eq_true rfl) (Nat.le_of_ble_eq_true rfl) (Nat.le_of_ble_eq_true rfl) (cy1.mono id (QSr rfl) (XSr rfl)) ?_
      refine Y_catch (E := "java/lang/IndexOutOfBoundsException") (i := 4) (pre := []) (suf := [(0, 10, 17, 13)]) (lv1 := [(0, .ref 1), (1, .int x1), (2, .int x2), (3, .ref 127)]) rfl hp_nil (by decide) (by decide) w3_223 (List.mem_of_getElem? (i := 12) rfl) dL_setHandler_13 (by decide) rfl ?_
      refine Y_iconst (pc := 15) (v := (1 : Int32)) dL_setHandler_15 rfl ?_
      cases h
      exact Y_iret (pc := 16) rfl rfl dL_setHandler_16 hPN1 ⟨rfl, rfl⟩
    replace h := ifF hc0 h
    by_cases hc1 : E1 = "java/lang/IllegalArgumentException"
    · replace h := ifT hc1 h
      subst hc1
      refine C_V2x (k' := k_X11_setHandler) dL_setHandler_5 w4_138 i_X11_setHandler (lk_1 hP) ⟨Nat.le_of_ble_eq_true rfl, Nat.le_of_ble_eq_true rfl⟩ rfl (Nat.le_of_ble_eq_true rfl) (Nat.le_of_ble_eq_true rfl) (Nat.le_of_ble_eq_true rfl) (cy1.mono id (QSr rfl) (XSr rfl)) ?_
      refine Y_catch (E := "java/lang/IllegalArgumentException") (i := 4) (pre := [(0, 10, 13, 21)]) (suf := []) (lv1 := [(0, .ref 1), (1, .int x1), (2, .int x2), (3, .ref 127)]) rfl (hp_cons (by decide) w3_223 (List.mem_of_getElem? (i := 10) rfl) hp_nil) (by decide) (by decide) w3_122 (List.mem_of_getElem? (i := 1) rfl) dL_setHandler_17 (by decide) rfl ?_
      refine Y_iconst (pc := 19) (v := (2 : Int32)) dL_setHandler_19 rfl ?_
      cases h
      exact Y_iret (pc := 20) rfl rfl dL_setHandler_20 hPN1 ⟨rfl, rfl⟩
    replace h := ifF hc1 h
    cases h
theorem v_L_setHandler {x1 : Int32} {x2 : Int32} {M z} (hP : Lay M) (h : d_L_setHandler x1 x2 M = some z) : CC Lay k_L_setHandler [.ref 1, .int x1, .int x2, .ref 127] M z.2 (Qv (some (.int z.1)) z.2) xF :=
  CC.ofVV (by decide) rfl (Nat.le_of_ble_eq_true rfl) (b_L_setHandler hP h)
end VCR

