/-! ===== what the methods reckon (printed by a program) ===== -/
section VCR
theorem b_L_addClass {x1 : Int32} {M z} (hP : Lay M) (h : d_L_addClass x1 M = some z) : VV Lay k_L_addClass 0 [(0, .ref 1), (1, .int x1), (2, .ref 127)] [] M z.2 (Qv (some (.int z.1)) z.2) xF := by
  unfold d_L_addClass at h
  refine Y_aload_n (pc := 0) (j := 2) dL_addClass_0 rfl rfl ?_
  refine Y_iconst (pc := 1) (v := (0 : Int32)) dL_addClass_1 rfl ?_
  refine Y_aload_n (pc := 2) (j := 0) dL_addClass_2 rfl rfl ?_
  refine Y_iload_n (pc := 3) (j := 1) dL_addClass_3 rfl rfl ?_
  obtain ⟨y1, qy1, h⟩ := bindE h
  have cy1 := v_X11_addClass hP qy1
  have hPN1 := cy1.1.1
  obtain ⟨y1 | E1, N1⟩ := y1
  · replace h := id h
    refine C_V1r (k' := k_X11_addClass) dL_addClass_4 w4_151 i_X11_addClass (lk_1 hP) ⟨Nat.le_of_ble_eq_true rfl, Nat.le_of_ble_eq_true rfl⟩ rfl (Nat.le_of_ble_eq_true rfl) (Nat.le_of_ble_eq_true rfl) (Nat.le_of_ble_eq_true rfl) (CC.ri cy1) ?_
    refine Y_i2l (pc := 7) dL_addClass_7 ?_
    refine Y_last (pc := 8) dL_addClass_8 (lk_127 hPN1) (ln_127 hPN1) (vp_lit (by decide)) ?_
    obtain ⟨M1, eM1, h⟩ := bndE h
    refine VV.mem eM1 ?_
    have hP1 := hPN1.wL eM1
    refine Y_goto (pc := 9) (tgt := 21) dL_addClass_9 (by decide) ?_
    refine Y_iconst (pc := 21) (v := (0 : Int32)) dL_addClass_21 rfl ?_
    cases h
    exact Y_iret (pc := 22) rfl rfl dL_addClass_22 hP1 ⟨rfl, rfl⟩
  · replace h := id h
    by_cases hc0 : E1 = "java/lang/IndexOutOfBoundsException"
    · replace h := ifT hc0 h
      subst hc0
      refine C_V1x (k' := k_X11_addClass) dL_addClass_4 w4_151 i_X11_addClass (lk_1 hP) ⟨Nat.le_of_ble_eq_true rfl, Nat.le_of_ble_eq_true rfl⟩ rfl (Nat.le_of_ble_eq_true rfl) (Nat.le_of_ble_eq_true rfl) (Nat.le_of_ble_eq_true rfl) (cy1.mono id (QSr rfl) (XSr rfl)) ?_
      refine Y_catch_n (E := "java/lang/IndexOutOfBoundsException") (i := 3) (pre := []) (suf := [(0, 9, 15, 15), (0, 9, 18, 30)]) (lv1 := [(0, .ref 1), (1, .int x1), (2, .ref 127)]) rfl hp_nil (by decide) (by decide) w3_223 (List.mem_of_getElem? (i := 12) rfl) dL_addClass_12 rfl (by decide) rfl ?_
      refine Y_iconst (pc := 13) (v := (1 : Int32)) dL_addClass_13 rfl ?_
      cases h
      exact Y_iret (pc := 14) rfl rfl dL_addClass_14 hPN1 ⟨rfl, rfl⟩
    replace h := ifF hc0 h
    by_cases hc1 : E1 = "java/lang/IllegalStateException"
    · replace h := ifT hc1 h
      subst hc1
      refine C_V1x (k' := k_X11_addClass) dL_addClass_4 w4_151 i_X11_addClass (lk_1 hP) ⟨Nat.le_of_ble_eq_true rfl, Nat.le_of_ble_eq_true rfl⟩ rfl (Nat.le_of_ble_eq_true rfl) (Nat.le_of_ble_eq_true rfl) (Nat.le_of_ble_eq_true rfl) (cy1.mono id (QSr rfl) (XSr rfl)) ?_
      refine Y_catch_n (E := "java/lang/IllegalStateException") (i := 3) (pre := [(0, 9, 12, 21)]) (suf := [(0, 9, 18, 30)]) (lv1 := [(0, .ref 1), (1, .int x1), (2, .ref 127)]) rfl (hp_cons (by decide) w3_223 (List.mem_of_getElem? (i := 11) rfl) hp_nil) (by decide) (by decide) w3_123 (List.mem_of_getElem? (i := 8) rfl) dL_addClass_15 rfl (by decide) rfl ?_
      refine Y_iconst (pc := 16) (v := (2 : Int32)) dL_addClass_16 rfl ?_
      cases h
      exact Y_iret (pc := 17) rfl rfl dL_addClass_17 hPN1 ⟨rfl, rfl⟩
    replace h := ifF hc1 h
    by_cases hc2 : E1 = "java/lang/UnsupportedOperationException"
    · replace h := ifT hc2 h
      subst hc2
      refine C_V1x (k' := k_X11_addClass) dL_addClass_4 w4_151 i_X11_addClass (lk_1 hP) ⟨Nat.le_of_ble_eq_true rfl, Nat.le_of_ble_eq_true rfl⟩ rfl (Nat.le_of_ble_eq_true rfl) (Nat.le_of_ble_eq_true rfl) (Nat.le_of_ble_eq_true rfl) (cy1.mono id (QSr rfl) (XSr rfl)) ?_
      refine Y_catch_n (E := "java/lang/UnsupportedOperationException") (i := 3) (pre := [(0, 9, 12, 21), (0, 9, 15, 15)]) (suf := []) (lv1 := [(0, .ref 1), (1, .int x1), (2, .ref 127)]) rfl (hp_cons (by decide) w3_223 (List.mem_of_getElem? (i := 12) rfl) (hp_cons (by decide) w3_123 (List.mem_of_getElem? (i := 7) rfl) hp_nil)) (by decide) (by decide) w4_150 (List.mem_of_getElem? (i := 14) rfl) dL_addClass_18 rfl (by decide) rfl ?_
      refine Y_iconst (pc := 19) (v := (3 : Int32)) dL_addClass_19 rfl ?_
      cases h
      exact Y_iret (pc := 20) rfl rfl dL_addClass_20 hPN1 ⟨rfl, rfl⟩
    replace h := ifF hc2 h
    cases h
theorem v_L_addClass {x1 : Int32} {M z} (hP : Lay M) (h : d_L_addClass x1 M = some z) : CC Lay k_L_addClass [.ref 1, .int x1, .ref 127] M z.2 (Qv (some (.int z.1)) z.2) xF :=
  CC.ofVV (by decide) rfl (Nat.le_of_ble_eq_true rfl) (b_L_addClass hP h)
theorem b_L_setMethod {x1 : Int32} {x2 : Int32} {x3 : Int32} {M z} (hP : Lay M) (h : d_L_setMethod x1 x2 x3 M = some z) : VV Lay k_L_setMethod 0 [(0, .ref 1), (1, .int x1), (2, .int x2), (3, .int x3), (4, .ref 127)] [] M z.2 (Qv (some (.int z.1)) z.2) xF := by
  unfold d_L_setMethod at h
  refine Y_aload (pc := 0) (j := 4) dL_setMethod_0 rfl ?_
  refine Y_iconst (pc := 2) (v := (0 : Int32)) dL_setMethod_2 rfl ?_
  refine Y_aload_n (pc := 3) (j := 0) dL_setMethod_3 rfl rfl ?_
  refine Y_iload_n (pc := 4) (j := 1) dL_setMethod_4 rfl rfl ?_
  refine Y_iload_n (pc := 5) (j := 2) dL_setMethod_5 rfl rfl ?_
  refine Y_iload_n (pc := 6) (j := 3) dL_setMethod_6 rfl rfl ?_
  obtain ⟨y1, qy1, h⟩ := bindE h
  have cy1 := v_X11_setMethod hP qy1
  have hPN1 := cy1.1.1
  obtain ⟨y1 | E1, N1⟩ := y1
  · replace h := id h
    refine C_V3r (k' := k_X11_setMethod) dL_setMethod_7 w4_189 i_X11_setMethod (lk_1 hP) ⟨Nat.le_of_ble_eq_true rfl, Nat.le_of_ble_eq_true rfl⟩ rfl (Nat.le_of_ble_eq_true rfl) (Nat.le_of_ble_eq_true rfl) (Nat.le_of_ble_eq_true rfl) (CC.ri cy1) ?_
    refine Y_i2l (pc := 10) dL_setMethod_10 ?_
    refine Y_last (pc := 11) dL_setMethod_11 (lk_127 hPN1) (ln_127 hPN1) (vp_lit (by decide)) ?_
    obtain ⟨M1, eM1, h⟩ := bndE h
    refine VV.mem eM1 ?_
    have hP1 := hPN1.wL eM1
    refine Y_goto (pc := 12) (tgt := 31) dL_setMethod_12 (by decide) ?_
    refine Y_iconst (pc := 31) (v := (0 : Int32)) dL_setMethod_31 rfl ?_
    cases h
    exact Y_iret (pc := 32) rfl rfl dL_setMethod_32 hP1 ⟨rfl, rfl⟩
  · replace h := id h
    by_cases hc0 : E1 = "java/lang/IndexOutOfBoundsException"
    · replace h := ifT hc0 h
      subst hc0
      refine C_V3x (k' := k_X11_setMethod) dL_setMethod_7 w4_189 i_X11_setMethod (lk_1 hP) ⟨Nat.le_of_ble_eq_true rfl, Nat.le_of_ble_eq_true rfl⟩ rfl (Nat.le_of_ble_eq_true rfl) (Nat.le_of_ble_eq_true rfl) (Nat.le_of_ble_eq_true rfl) (cy1.mono id (QSr rfl) (XSr rfl)) ?_
      refine Y_catch (E := "java/lang/IndexOutOfBoundsException") (i := 5) (pre := []) (suf := [(0, 12, 19, 13), (0, 12, 23, 36), (0, 12, 27, 30)]) (lv1 := [(0, .ref 1), (1, .int x1), (2, .int x2), (3, .int x3), (4, .ref 127)]) rfl hp_nil (by decide) (by decide) w3_223 (List.mem_of_getElem? (i := 12) rfl) dL_setMethod_15 (by decide) rfl ?_
      refine Y_iconst (pc := 17) (v := (1 : Int32)) dL_setMethod_17 rfl ?_
      cases h
      exact Y_iret (pc := 18) rfl rfl dL_setMethod_18 hPN1 ⟨rfl, rfl⟩
    replace h := ifF hc0 h
    by_cases hc1 : E1 = "java/lang/IllegalArgumentException"
    · replace h := ifT hc1 h
      subst hc1
      refine C_V3x (k' := k_X11_setMethod) dL_setMethod_7 w4_189 i_X11_setMethod (lk_1 hP) ⟨Nat.le_of_ble_eq_true rfl, Nat.le_of_ble_eq_true rfl⟩ rfl (Nat.le_of_ble_eq_true rfl) (Nat.le_of_ble_eq_true rfl) (Nat.le_of_ble_eq_true rfl) (cy1.mono id (QSr rfl) (XSr rfl)) ?_
      refine Y_catch (E := "java/lang/IllegalArgumentException") (i := 5) (pre := [(0, 12, 15, 21)]) (suf := [(0, 12, 23, 36), (0, 12, 27, 30)]) (lv1 := [(0, .ref 1), (1, .int x1), (2, .int x2), (3, .int x3), (4, .ref 127)]) rfl (hp_cons (by decide) w3_223 (List.mem_of_getElem? (i := 10) rfl) hp_nil) (by decide) (by decide) w3_122 (List.mem_of_getElem? (i := 1) rfl) dL_setMethod_19 (by decide) rfl ?_
      refine Y_iconst (pc := 21) (v := (2 : Int32)) dL_setMethod_21 rfl ?_
      cases h
      exact Y_iret (pc := 22) rfl rfl dL_setMethod_22 hPN1 ⟨rfl, rfl⟩
    replace h := ifF hc1 h
    by_cases hc2 : E1 = "java/util/NoSuchElementException"
    · replace h := ifT hc2 h
      subst hc2
      refine C_V3x (k' := k_X11_setMethod) dL_setMethod_7 w4_189 i_X11_setMethod (lk_1 hP) ⟨Nat.le_of_ble_eq_true rfl, Nat.le_of_ble_eq_true rfl⟩ rfl (Nat.le_of_ble_eq_true rfl) (Nat.le_of_ble_eq_true rfl) (Nat.le_of_ble_eq_true rfl) (cy1.mono id (QSr rfl) (XSr rfl)) ?_
      refine Y_catch (E := "java/util/NoSuchElementException") (i := 5) (pre := [(0, 12, 15, 21), (0, 12, 19, 13)]) (suf := [(0, 12, 27, 30)]) (lv1 := [(0, .ref 1), (1, .int x1), (2, .int x2), (3, .int x3), (4, .ref 127)]) rfl (hp_cons (by decide) w3_223 (List.mem_of_getElem? (i := 13) rfl) (hp_cons (by decide) w3_122 (List.mem_of_getElem? (i := 3) rfl) hp_nil)) (by decide) (by decide) w4_188 (List.mem_of_getElem? (i := 15) rfl) dL_setMethod_23 (by decide) rfl ?_
      refine Y_iconst (pc := 25) (v := (3 : Int32)) dL_setMethod_25 rfl ?_
      cases h
      exact Y_iret (pc := 26) rfl rfl dL_setMethod_26 hPN1 ⟨rfl, rfl⟩
    replace h := ifF hc2 h
    by_cases hc3 : E1 = "java/lang/UnsupportedOperationException"
    · replace h := ifT hc3 h
      subst hc3
      refine C_V3x (k' := k_X11_setMethod) dL_setMethod_7 w4_189 i_X11_setMethod (lk_1 hP) ⟨Nat.le_of_ble_eq_true rfl, Nat.le_of_ble_eq_true rfl⟩ rfl (Nat.le_of_ble_eq_true rfl) (Nat.le_of_ble_eq_true rfl) (Nat.le_of_ble_eq_true rfl) (cy1.mono id (QSr rfl) (XSr rfl)) ?_
      refine Y_catch (E := "java/lang/UnsupportedOperationException") (i := 5) (pre := [(0, 12, 15, 21), (0, 12, 19, 13), (0, 12, 23, 36)]) (suf := []) (lv1 := [(0, .ref 1), (1, .int x1), (2, .int x2), (3, .int x3), (4, .ref 127)]) rfl (hp_cons (by decide) w3_223 (List.mem_of_getElem? (i := 12) rfl) (hp_cons (by decide) w3_122 (List.mem_of_getElem? (i := 2) rfl) (hp_cons (by decide) w4_188 (List.mem_of_getElem? (i := 23) rfl) hp_nil))) (by decide) (by decide) w4_150 (List.mem_of_getElem? (i := 14) rfl) dL_setMethod_27 (by decide) rfl ?_
      refine Y_iconst (pc := 29) (v := (4 : Int32)) dL_setMethod_29 rfl ?_
      cases h
      exact Y_iret (pc := 30) rfl rfl dL_setMethod_30 hPN1 ⟨rfl, rfl⟩
    replace h := ifF hc3 h
    cases h
theorem v_L_setMethod {x1 : Int32} {x2 : Int32} {x3 : Int32} {M z} (hP : Lay M) (h : d_L_setMethod x1 x2 x3 M = some z) : CC Lay k_L_setMethod [.ref 1, .int x1, .int x2, .int x3, .ref 127] M z.2 (Qv (some (.int z.1)) z.2) xF :=
  CC.ofVV (by decide) rfl (Nat.le_of_ble_eq_true rfl) (b_L_setMethod hP h)
theorem b_L_setCell {x1 : Int32} {x2 : Int32} {M z} (hP : Lay M) (h : d_L_setCell x1 x2 M = some z) : VV Lay k_L_setCell 0 [(0, .ref 1), (1, .int x1), (2, .int x2), (3, .ref 127)] [] M z.2 (Qv (some (.int z.1)) z.2) xF := by
  unfold d_L_setCell at h
  refine Y_aload_n (pc := 0) (j := 3) dL_setCell_0 rfl rfl ?_
  refine Y_iconst (pc := 1) (v := (0 : Int32)) dL_setCell_1 rfl ?_
  refine Y_aload_n (pc := 2) (j := 0) dL_setCell_2 rfl rfl ?_
  refine Y_iload_n (pc := 3) (j := 1) dL_setCell_3 rfl rfl ?_
  refine Y_iload_n (pc := 4) (j := 2) dL_setCell_4 rfl rfl ?_
  obtain ⟨y1, qy1, h⟩ := bindE h
  have cy1 := v_X11_setCell hP qy1
  have hPN1 := cy1.1.1
  obtain ⟨y1 | E1, N1⟩ := y1
  · replace h := id h
    refine C_V2r (k' := k_X11_setCell) dL_setCell_5 w4_237 i_X11_setCell (lk_1 hP) ⟨Nat.le_of_ble_eq_true rfl, Nat.le_of_ble_eq_true rfl⟩ rfl (Nat.le_of_ble_eq_true rfl) (Nat.le_of_ble_eq_true rfl) (Nat.le_of_ble_eq_true rfl) (CC.ri cy1) ?_
    refine Y_i2l (pc := 8) dL_setCell_8 ?_
    refine Y_last (pc := 9) dL_setCell_9 (lk_127 hPN1) (ln_127 hPN1) (vp_lit (by decide)) ?_
    obtain ⟨M1, eM1, h⟩ := bndE h
    refine VV.mem eM1 ?_
    have hP1 := hPN1.wL eM1
    refine Y_goto (pc := 10) (tgt := 17) dL_setCell_10 (by decide) ?_
    refine Y_iconst (pc := 17) (v := (0 : Int32)) dL_setCell_17 rfl ?_
    cases h
    exact Y_iret (pc := 18) rfl rfl dL_setCell_18 hP1 ⟨rfl, rfl⟩
  · replace h := id h
    by_cases hc0 : E1 = "java/lang/IllegalArgumentException"
    · replace h := ifT hc0 h
      subst hc0
      refine C_V2x (k' := k_X11_setCell) dL_setCell_5 w4_237 i_X11_setCell (lk_1 hP) ⟨Nat.le_of_ble_eq_true rfl, Nat.le_of_ble_eq_true rfl⟩ rfl (Nat.le_of_ble_eq_true rfl) (Nat.le_of_ble_eq_true rfl) (Nat.le_of_ble_eq_true rfl) (cy1.mono id (QSr rfl) (XSr rfl)) ?_
      refine Y_catch (E := "java/lang/IllegalArgumentException") (i := 4) (pre := []) (suf := []) (lv1 := [(0, .ref 1), (1, .int x1), (2, .int x2), (3, .ref 127)]) rfl hp_nil (by decide) (by decide) w3_122 (List.mem_of_getElem? (i := 1) rfl) dL_setCell_13 (by decide) rfl ?_
      refine Y_iconst (pc := 15) (v := (1 : Int32)) dL_setCell_15 rfl ?_
      cases h
      exact Y_iret (pc := 16) rfl rfl dL_setCell_16 hPN1 ⟨rfl, rfl⟩
    replace h := ifF hc0 h
    cases h
theorem v_L_setCell {x1 : Int32} {x2 : Int32} {M z} (hP : Lay M) (h : d_L_setCell x1 x2 M = some z) : CC Lay k_L_setCell [.ref 1, .int x1, .int x2, .ref 127] M z.2 (Qv (some (.int z.1)) z.2) xF :=
  CC.ofVV (by decide) rfl (Nat.le_of_ble_eq_true rfl) (b_L_setCell hP h)
theorem b_L_setLimits {x1 : Int32} {x2 : Int32} {x3 : Int32} {M z} (hP : Lay M) (h : d_L_setLimits x1 x2 x3 M = some z) : VV Lay k_L_setLimits 0 [(0, .ref 1), (1, .int x1), (2, .int x2), (3, .int x3), (4, .ref 127)] [] M z.2 (Qv (some (.int z.1)) z.2) xF := by
  unfold d_L_setLimits at h
  refine Y_aload (pc := 0) (j := 4) dL_setLimits_0 rfl ?_
  refine Y_iconst (pc := 2) (v := (0 : Int32)) dL_setLimits_2 rfl ?_
  refine Y_aload_n (pc := 3) (j := 0) dL_setLimits_3 rfl rfl ?_
  refine Y_iload_n (pc := 4) (j := 1) dL_setLimits_4 rfl rfl ?_
  refine Y_iload_n (pc := 5) (j := 2) dL_setLimits_5 rfl rfl ?_
  refine Y_iload_n (pc := 6) (j := 3) dL_setLimits_6 rfl rfl ?_
  obtain ⟨y1, qy1, h⟩ := bindE h
  have cy1 := v_X11_setLimits hP qy1
  have hPN1 := cy1.1.1
  obtain ⟨y1 | E1, N1⟩ := y1
  · replace h := id h
    refine C_V3r (k' := k_X11_setLimits) dL_setLimits_7 w5_5 i_X11_setLimits (lk_1 hP) ⟨Nat.le_of_ble_eq_true rfl, Nat.le_of_ble_eq_true rfl⟩ rfl (Nat.le_of_ble_eq_true rfl) (Nat.le_of_ble_eq_true rfl) (Nat.le_of_ble_eq_true rfl) (CC.ri cy1) ?_
    refine Y_i2l (pc := 10) dL_setLimits_10 ?_
    refine Y_last (pc := 11) dL_setLimits_11 (lk_127 hPN1) (ln_127 hPN1) (vp_lit (by decide)) ?_
    obtain ⟨M1, eM1, h⟩ := bndE h
    refine VV.mem eM1 ?_
    have hP1 := hPN1.wL eM1
    refine Y_goto (pc := 12) (tgt := 19) dL_setLimits_12 (by decide) ?_
    refine Y_iconst (pc := 19) (v := (0 : Int32)) dL_setLimits_19 rfl ?_
    cases h
    exact Y_iret (pc := 20) rfl rfl dL_setLimits_20 hP1 ⟨rfl, rfl⟩
  · replace h := id h
    by_cases hc0 : E1 = "java/lang/IllegalArgumentException"
    · replace h := ifT hc0 h
      subst hc0
      refine C_V3x (k' := k_X11_setLimits) dL_setLimits_7 w5_5 i_X11_setLimits (lk_1 hP) ⟨Nat.le_of_ble_eq_true rfl, Nat.le_of_ble_eq_true rfl⟩ rfl (Nat.le_of_ble_eq_true rfl) (Nat.le_of_ble_eq_true rfl) (Nat.le_of_ble_eq_true rfl) (cy1.mono id (QSr rfl) (XSr rfl)) ?_
      refine Y_catch (E := "java/lang/IllegalArgumentException") (i := 5) (pre := []) (suf := []) (lv1 := [(0, .ref 1), (1, .int x1), (2, .int x2), (3, .int x3), (4, .ref 127)]) rfl hp_nil (by decide) (by decide) w3_122 (List.mem_of_getElem? (i := 1) rfl) dL_setLimits_15 (by decide) rfl ?_
      refine Y_iconst (pc := 17) (v := (1 : Int32)) dL_setLimits_17 rfl ?_
      cases h
      exact Y_iret (pc := 18) rfl rfl dL_setLimits_18 hPN1 ⟨rfl, rfl⟩
    replace h := ifF hc0 h
    cases h
theorem v_L_setLimits {x1 : Int32} {x2 : Int32} {x3 : Int32} {M z} (hP : Lay M) (h : d_L_setLimits x1 x2 x3 M = some z) : CC Lay k_L_setLimits [.ref 1, .int x1, .int x2, .int x3, .ref 127] M z.2 (Qv (some (.int z.1)) z.2) xF :=
  CC.ofVV (by decide) rfl (Nat.le_of_ble_eq_true rfl) (b_L_setLimits hP h)
theorem b_L_run {x1 : Int32} {x2 : Int32} {M z} (hP : Lay M) (h : d_L_run x1 x2 M = some z) : VV Lay k_L_run 0 [(0, .ref 1), (1, .int x1), (2, .int x2), (3, .ref 127)] [] M z.2 (Qv (some (.int z.1)) z.2) xF := by
  unfold d_L_run at h
  refine Y_aload_n (pc := 0) (j := 3) dL_run_0 rfl rfl ?_
  refine Y_iconst (pc := 1) (v := (0 : Int32)) dL_run_1 rfl ?_
  refine Y_aload_n (pc := 2) (j := 0) dL_run_2 rfl rfl ?_
  refine Y_iload_n (pc := 3) (j := 1) dL_run_3 rfl rfl ?_
  refine Y_iload_n (pc := 4) (j := 2) dL_run_4 rfl rfl ?_
  obtain ⟨y1, qy1, h⟩ := bindE h
  have cy1 := v_X11_run hP qy1
  have hPN1 := cy1.1.1
  obtain ⟨y1 | E1, N1⟩ := y1
  · replace h := id h
    refine C_V2r (k' := k_X11_run) dL_run_5 w5_22 i_X11_run (lk_1 hP) ⟨Nat.le_of_ble_eq_true rfl, Nat.le_of_ble_eq_true rfl⟩ rfl (Nat.le_of_ble_eq_true rfl) (Nat.le_of_ble_eq_true rfl) (Nat.le_of_ble_eq_true rfl) (CC.ri cy1) ?_
    refine Y_i2l (pc := 8) dL_run_8 ?_
    refine Y_last (pc := 9) dL_run_9 (lk_127 hPN1) (ln_127 hPN1) (vp_lit (by decide)) ?_
    obtain ⟨M1, eM1, h⟩ := bndE h
    refine VV.mem eM1 ?_
    have hP1 := hPN1.wL eM1
    refine Y_goto (pc := 10) (tgt := 21) dL_run_10 (by decide) ?_
    refine Y_iconst (pc := 21) (v := (0 : Int32)) dL_run_21 rfl ?_
    cases h
    exact Y_iret (pc := 22) rfl rfl dL_run_22 hP1 ⟨rfl, rfl⟩
  · replace h := id h
    by_cases hc0 : E1 = "java/lang/IndexOutOfBoundsException"
    · replace h := ifT hc0 h
      subst hc0
      refine C_V2x (k' := k_X11_run) dL_run_5 w5_22 i_X11_run (lk_1 hP) ⟨Nat.le_of_ble_eq_true rfl, Nat.le_of_ble_eq_true rfl⟩ rfl (Nat.le_of_ble_eq_true rfl) (Nat.le_of_ble_eq_true rfl) (Nat.le_of_ble_eq_true rfl) (cy1.mono id (QSr rfl) (XSr rfl)) ?_
      refine Y_catch (E := "java/lang/IndexOutOfBoundsException") (i := 4) (pre := []) (suf := [(0, 10, 17, 30)]) (lv1 := [(0, .ref 1), (1, .int x1), (2, .int x2), (3, .ref 127)]) rfl hp_nil (by decide) (by decide) w3_223 (List.mem_of_getElem? (i := 12) rfl) dL_run_13 (by decide) rfl ?_
      refine Y_iconst (pc := 15) (v := (1 : Int32)) dL_run_15 rfl ?_
      cases h
      exact Y_iret (pc := 16) rfl rfl dL_run_16 hPN1 ⟨rfl, rfl⟩
    replace h := ifF hc0 h
    by_cases hc1 : E1 = "java/lang/UnsupportedOperationException"
    · replace h := ifT hc1 h
      subst hc1
      refine C_V2x (k' := k_X11_run) dL_run_5 w5_22 i_X11_run (lk_1 hP) ⟨Nat.le_of_ble_eq_true rfl, Nat.le_of_ble_eq_true rfl⟩ rfl (Nat.le_of_ble_eq_true rfl) (Nat.le_of_ble_eq_true rfl) (Nat.le_of_ble_eq_true rfl) (cy1.mono id (QSr rfl) (XSr rfl)) ?_
      refine Y_catch (E := "java/lang/UnsupportedOperationException") (i := 4) (pre := [(0, 10, 13, 21)]) (suf := []) (lv1 := [(0, .ref 1), (1, .int x1), (2, .int x2), (3, .ref 127)]) rfl (hp_cons (by decide) w3_223 (List.mem_of_getElem? (i := 12) rfl) hp_nil) (by decide) (by decide) w4_150 (List.mem_of_getElem? (i := 14) rfl) dL_run_17 (by decide) rfl ?_
      refine Y_iconst (pc := 19) (v := (2 : Int32)) dL_run_19 rfl ?_
      cases h
      exact Y_iret (pc := 20) rfl rfl dL_run_20 hPN1 ⟨rfl, rfl⟩
    replace h := ifF hc1 h
    cases h
theorem v_L_run {x1 : Int32} {x2 : Int32} {M z} (hP : Lay M) (h : d_L_run x1 x2 M = some z) : CC Lay k_L_run [.ref 1, .int x1, .int x2, .ref 127] M z.2 (Qv (some (.int z.1)) z.2) xF :=
  CC.ofVV (by decide) rfl (Nat.le_of_ble_eq_true rfl) (b_L_run hP h)
theorem b_L_resultKind {M z} (hP : Lay M) (h : d_L_resultKind M = some z) : VV Lay k_L_resultKind 0 [(0, .ref 1), (1, .ref 127)] [] M z.2 (Qv (some (.int z.1)) z.2) xF := by
  unfold d_L_resultKind at h
  refine Y_aload_n (pc := 0) (j := 1) dL_resultKind_0 rfl rfl ?_
  refine Y_iconst (pc := 1) (v := (0 : Int32)) dL_resultKind_1 rfl ?_
  refine Y_aload_n (pc := 2) (j := 0) dL_resultKind_2 rfl rfl ?_
  obtain ⟨y1, qy1, h⟩ := bindE h
  have cy1 := v_X11_resultKind hP qy1
  have hPN1 := cy1.1.1
  obtain ⟨y1 | E1, N1⟩ := y1
  · replace h := id h
    refine C_V0r (k' := k_X11_resultKind) dL_resultKind_3 w7_16 i_X11_resultKind (lk_1 hP) ⟨Nat.le_of_ble_eq_true rfl, Nat.le_of_ble_eq_true rfl⟩ rfl (Nat.le_of_ble_eq_true rfl) (Nat.le_of_ble_eq_true rfl) (Nat.le_of_ble_eq_true rfl) (CC.ri cy1) ?_
    refine Y_i2l (pc := 6) dL_resultKind_6 ?_
    refine Y_last (pc := 7) dL_resultKind_7 (lk_127 hPN1) (ln_127 hPN1) (vp_lit (by decide)) ?_
    obtain ⟨M1, eM1, h⟩ := bndE h
    refine VV.mem eM1 ?_
    have hP1 := hPN1.wL eM1
    refine Y_goto (pc := 8) (tgt := 14) dL_resultKind_8 (by decide) ?_
    refine Y_iconst (pc := 14) (v := (0 : Int32)) dL_resultKind_14 rfl ?_
    cases h
    exact Y_iret (pc := 15) rfl rfl dL_resultKind_15 hP1 ⟨rfl, rfl⟩
  · replace h := id h
    by_cases hc0 : E1 = "java/util/NoSuchElementException"
    · replace h := ifT hc0 h
      subst hc0
      refine C_V0x (k' := k_X11_resultKind) dL_resultKind_3 w7_16 i_X11_resultKind (lk_1 hP) ⟨Nat.le_of_ble_eq_true rfl, Nat.le_of_ble_eq_true rfl⟩ rfl (Nat.le_of_ble_eq_true rfl) (Nat.le_of_ble_eq_true rfl) (Nat.le_of_ble_eq_true rfl) (cy1.mono id (QSr rfl) (XSr rfl)) ?_
      refine Y_catch_n (E := "java/util/NoSuchElementException") (i := 2) (pre := []) (suf := []) (lv1 := [(0, .ref 1), (1, .ref 127)]) rfl hp_nil (by decide) (by decide) w4_188 (List.mem_of_getElem? (i := 15) rfl) dL_resultKind_11 rfl (by decide) rfl ?_
      refine Y_iconst (pc := 12) (v := (1 : Int32)) dL_resultKind_12 rfl ?_
      cases h
      exact Y_iret (pc := 13) rfl rfl dL_resultKind_13 hPN1 ⟨rfl, rfl⟩
    replace h := ifF hc0 h
    cases h
theorem v_L_resultKind {M z} (hP : Lay M) (h : d_L_resultKind M = some z) : CC Lay k_L_resultKind [.ref 1, .ref 127] M z.2 (Qv (some (.int z.1)) z.2) xF :=
  CC.ofVV (by decide) rfl (Nat.le_of_ble_eq_true rfl) (b_L_resultKind hP h)
theorem b_L_result {M z} (hP : Lay M) (h : d_L_result M = some z) : VV Lay k_L_result 0 [(0, .ref 1), (1, .ref 127)] [] M z.2 (Qv (some (.int z.1)) z.2) xF := by
  unfold d_L_result at h
  refine Y_aload_n (pc := 0) (j := 1) dL_result_0 rfl rfl ?_
  refine Y_iconst (pc := 1) (v := (0 : Int32)) dL_result_1 rfl ?_
  refine Y_aload_n (pc := 2) (j := 0) dL_result_2 rfl rfl ?_
  obtain ⟨y1, qy1, h⟩ := bindE h
  have cy1 := v_X11_result hP qy1
  have hPN1 := cy1.1.1
  obtain ⟨y1 | E1, N1⟩ := y1
  · replace h := id h
    refine C_V0r (k' := k_X11_result) dL_result_3 w7_28 i_X11_result (lk_1 hP) ⟨Nat.le_of_ble_eq_true rfl, Nat.le_of_ble_eq_true rfl⟩ rfl (Nat.le_of_ble_eq_true rfl) (Nat.le_of_ble_eq_true rfl) (Nat.le_of_ble_eq_true rfl) (CC.rl cy1) ?_
    refine Y_last (pc := 6) dL_result_6 (lk_127 hPN1) (ln_127 hPN1) (vp_lit (by decide)) ?_
    obtain ⟨M1, eM1, h⟩ := bndE h
    refine VV.mem eM1 ?_
    have hP1 := hPN1.wL eM1
    refine Y_goto (pc := 7) (tgt := 13) dL_result_7 (by decide) ?_
    refine Y_iconst (pc := 13) (v := (0 : Int32)) dL_result_13 rfl ?_
    cases h
    exact Y_iret (pc := 14) rfl rfl dL_result_14 hP1 ⟨rfl, rfl⟩
  · replace h := id h
    by_cases hc0 : E1 = "java/util/NoSuchElementException"
    · replace h := ifT hc0 h
      subst hc0
      refine C_V0x (k' := k_X11_result) dL_result_3 w7_28 i_X11_result (lk_1 hP) ⟨Nat.le_of_ble_eq_true rfl, Nat.le_of_ble_eq_true rfl⟩ rfl (Nat.le_of_ble_eq_true rfl) (Nat.le_of_ble_eq_true rfl) (Nat.le_of_ble_eq_true rfl) (cy1.mono id (QSr rfl) (XSr rfl)) ?_
      refine Y_catch_n (E := "java/util/NoSuchElementException") (i := 2) (pre := []) (suf := []) (lv1 := [(0, .ref 1), (1, .ref 127)]) rfl hp_nil (by decide) (by decide) w4_188 (List.mem_of_getElem? (i := 15) rfl) dL_result_10 rfl (by decide) rfl ?_
      refine Y_iconst (pc := 11) (v := (1 : Int32)) dL_result_11 rfl ?_
      cases h
      exact Y_iret (pc := 12) rfl rfl dL_result_12 hPN1 ⟨rfl, rfl⟩
    replace h := ifF hc0 h
    cases h
theorem v_L_result {M z} (hP : Lay M) (h : d_L_result M = some z) : CC Lay k_L_result [.ref 1, .ref 127] M z.2 (Qv (some (.int z.1)) z.2) xF :=
  CC.ofVV (by decide) rfl (Nat.le_of_ble_eq_true rfl) (b_L_result hP h)
theorem b_L_failure {M z} (hP : Lay M) (h : d_L_failure M = some z) : VV Lay k_L_failure 0 [(0, .ref 1), (1, .ref 127)] [] M z.2 (Qv (some (.int z.1)) z.2) xF := by
  unfold d_L_failure at h
  refine Y_aload_n (pc := 0) (j := 1) dL_failure_0 rfl rfl ?_
  refine Y_iconst (pc := 1) (v := (0 : Int32)) dL_failure_1 rfl ?_
  refine Y_aload_n (pc := 2) (j := 0) dL_failure_2 rfl rfl ?_
  obtain ⟨y1, qy1, h⟩ := bindE h
  have cy1 := v_X11_failure hP qy1
  have hPN1 := cy1.1.1
  obtain ⟨y1 | E1, N1⟩ := y1
  · replace h := id h
    refine C_V0r (k' := k_X11_failure) dL_failure_3 w7_51 i_X11_failure (lk_1 hP) ⟨Nat.le_of_ble_eq_true rfl, Nat.le_of_ble_eq_true rfl⟩ rfl (Nat.le_of_ble_eq_true rfl) (Nat.le_of_ble_eq_true rfl) (Nat.le_of_ble_eq_true rfl) (CC.ri cy1) ?_
    refine Y_i2l (pc := 6) dL_failure_6 ?_
    refine Y_last (pc := 7) dL_failure_7 (lk_127 hPN1) (ln_127 hPN1) (vp_lit (by decide)) ?_
    obtain ⟨M1, eM1, h⟩ := bndE h
    refine VV.mem eM1 ?_
    have hP1 := hPN1.wL eM1
    refine Y_goto (pc := 8) (tgt := 14) dL_failure_8 (by decide) ?_
    refine Y_iconst (pc := 14) (v := (0 : Int32)) dL_failure_14 rfl ?_
    cases h
    exact Y_iret (pc := 15) rfl rfl dL_failure_15 hP1 ⟨rfl, rfl⟩
  · replace h := id h
    by_cases hc0 : E1 = "java/util/NoSuchElementException"
    · replace h := ifT hc0 h
      subst hc0
      refine C_V0x (k' := k_X11_failure) dL_failure_3 w7_51 i_X11_failure (lk_1 hP) ⟨Nat.le_of_ble_eq_true rfl, Nat.le_of_ble_eq_true rfl⟩ rfl (Nat.le_of_ble_eq_true rfl) (Nat.le_of_ble_eq_true rfl) (Nat.le_of_ble_eq_true rfl) (cy1.mono id (QSr rfl) (XSr rfl)) ?_
      refine Y_catch_n (E := "java/util/NoSuchElementException") (i := 2) (pre := []) (suf := []) (lv1 := [(0, .ref 1), (1, .ref 127)]) rfl hp_nil (by decide) (by decide) w4_188 (List.mem_of_getElem? (i := 15) rfl) dL_failure_11 rfl (by decide) rfl ?_
      refine Y_iconst (pc := 12) (v := (1 : Int32)) dL_failure_12 rfl ?_
      cases h
      exact Y_iret (pc := 13) rfl rfl dL_failure_13 hPN1 ⟨rfl, rfl⟩
    replace h := ifF hc0 h
    cases h
theorem v_L_failure {M z} (hP : Lay M) (h : d_L_failure M = some z) : CC Lay k_L_failure [.ref 1, .ref 127] M z.2 (Qv (some (.int z.1)) z.2) xF :=
  CC.ofVV (by decide) rfl (Nat.le_of_ble_eq_true rfl) (b_L_failure hP h)
theorem b_L_line {M z} (hP : Lay M) (h : d_L_line M = some z) : VV Lay k_L_line 0 [(0, .ref 1), (1, .ref 127)] [] M z.2 (Qv (some (.int z.1)) z.2) xF := by
  unfold d_L_line at h
  refine Y_aload_n (pc := 0) (j := 1) dL_line_0 rfl rfl ?_
  refine Y_iconst (pc := 1) (v := (0 : Int32)) dL_line_1 rfl ?_
  refine Y_aload_n (pc := 2) (j := 0) dL_line_2 rfl rfl ?_
  obtain ⟨y1, qy1, h⟩ := bindE h
  have cy1 := v_X11_line hP qy1
  have hPN1 := cy1.1.1
  obtain ⟨y1 | E1, N1⟩ := y1
  · replace h := id h
    refine C_V0r (k' := k_X11_line) dL_line_3 w7_58 i_X11_line (lk_1 hP) ⟨Nat.le_of_ble_eq_true rfl, Nat.le_of_ble_eq_true rfl⟩ rfl (Nat.le_of_ble_eq_true rfl) (Nat.le_of_ble_eq_true rfl) (Nat.le_of_ble_eq_true rfl) (CC.ri cy1) ?_
    refine Y_i2l (pc := 6) dL_line_6 ?_
    refine Y_last (pc := 7) dL_line_7 (lk_127 hPN1) (ln_127 hPN1) (vp_lit (by decide)) ?_
    obtain ⟨M1, eM1, h⟩ := bndE h
    refine VV.mem eM1 ?_
    have hP1 := hPN1.wL eM1
    refine Y_goto (pc := 8) (tgt := 14) dL_line_8 (by decide) ?_
    refine Y_iconst (pc := 14) (v := (0 : Int32)) dL_line_14 rfl ?_
    cases h
    exact Y_iret (pc := 15) rfl rfl dL_line_15 hP1 ⟨rfl, rfl⟩
  · replace h := id h
    by_cases hc0 : E1 = "java/util/NoSuchElementException"
    · replace h := ifT hc0 h
      subst hc0
      refine C_V0x (k' := k_X11_line) dL_line_3 w7_58 i_X11_line (lk_1 hP) ⟨Nat.le_of_ble_eq_true rfl, Nat.le_of_ble_eq_true rfl⟩ rfl (Nat.le_of_ble_eq_true rfl) (Nat.le_of_ble_eq_true rfl) (Nat.le_of_ble_eq_true rfl) (cy1.mono id (QSr rfl) (XSr rfl)) ?_
      refine Y_catch_n (E := "java/util/NoSuchElementException") (i := 2) (pre := []) (suf := []) (lv1 := [(0, .ref 1), (1, .ref 127)]) rfl hp_nil (by decide) (by decide) w4_188 (List.mem_of_getElem? (i := 15) rfl) dL_line_11 rfl (by decide) rfl ?_
      refine Y_iconst (pc := 12) (v := (1 : Int32)) dL_line_12 rfl ?_
      cases h
      exact Y_iret (pc := 13) rfl rfl dL_line_13 hPN1 ⟨rfl, rfl⟩
    replace h := ifF hc0 h
    cases h
theorem v_L_line {M z} (hP : Lay M) (h : d_L_line M = some z) : CC Lay k_L_line [.ref 1, .ref 127] M z.2 (Qv (some (.int z.1)) z.2) xF :=
  CC.ofVV (by decide) rfl (Nat.le_of_ble_eq_true rfl) (b_L_line hP h)
theorem b_L_toldKind {x1 : Int32} {M z} (hP : Lay M) (h : d_L_toldKind x1 M = some z) : VV Lay k_L_toldKind 0 [(0, .ref 1), (1, .int x1), (2, .ref 127)] [] M z.2 (Qv (some (.int z.1)) z.2) xF := by
  unfold d_L_toldKind at h
  refine Y_aload_n (pc := 0) (j := 2) dL_toldKind_0 rfl rfl ?_
  refine Y_iconst (pc := 1) (v := (0 : Int32)) dL_toldKind_1 rfl ?_
  refine Y_aload_n (pc := 2) (j := 0) dL_toldKind_2 rfl rfl ?_
  refine Y_iload_n (pc := 3) (j := 1) dL_toldKind_3 rfl rfl ?_
  obtain ⟨y1, qy1, h⟩ := bindE h
  have cy1 := v_X11_toldKind hP qy1
  have hPN1 := cy1.1.1
  obtain ⟨y1 | E1, N1⟩ := y1
  · replace h := id h
    refine C_V1r (k' := k_X11_toldKind) dL_toldKind_4 w7_65 i_X11_toldKind (lk_1 hP) ⟨Nat.le_of_ble_eq_true rfl, Nat.le_of_ble_eq_true rfl⟩ rfl (Nat.le_of_ble_eq_true rfl) (Nat.le_of_ble_eq_true rfl) (Nat.le_of_ble_eq_true rfl) (CC.ri cy1) ?_
    refine Y_i2l (pc := 7) dL_toldKind_7 ?_
    refine Y_last (pc := 8) dL_toldKind_8 (lk_127 hPN1) (ln_127 hPN1) (vp_lit (by decide)) ?_
    obtain ⟨M1, eM1, h⟩ := bndE h
    refine VV.mem eM1 ?_
    have hP1 := hPN1.wL eM1
    refine Y_goto (pc := 9) (tgt := 15) dL_toldKind_9 (by decide) ?_
    refine Y_iconst (pc := 15) (v := (0 : Int32)) dL_toldKind_15 rfl ?_
    cases h
    exact Y_iret (pc := 16) rfl rfl dL_toldKind_16 hP1 ⟨rfl, rfl⟩
  · replace h := id h
    by_cases hc0 : E1 = "java/lang/IndexOutOfBoundsException"
    · replace h := ifT hc0 h
      subst hc0
      refine C_V1x (k' := k_X11_toldKind) dL_toldKind_4 w7_65 i_X11_toldKind (lk_1 hP) ⟨Nat.le_of_ble_eq_true rfl, Nat.le_of_ble_eq_true rfl⟩ rfl (Nat.le_of_ble_eq_true rfl) (Nat.le_of_ble_eq_true rfl) (Nat.le_of_ble_eq_true rfl) (cy1.mono id (QSr rfl) (XSr rfl)) ?_
      refine Y_catch_n (E := "java/lang/IndexOutOfBoundsException") (i := 3) (pre := []) (suf := []) (lv1 := [(0, .ref 1), (1, .int x1), (2, .ref 127)]) rfl hp_nil (by decide) (by decide) w3_223 (List.mem_of_getElem? (i := 12) rfl) dL_toldKind_12 rfl (by decide) rfl ?_
      refine Y_iconst (pc := 13) (v := (1 : Int32)) dL_toldKind_13 rfl ?_
      cases h
      exact Y_iret (pc := 14) rfl rfl dL_toldKind_14 hPN1 ⟨rfl, rfl⟩
    replace h := ifF hc0 h
    cases h
theorem v_L_toldKind {x1 : Int32} {M z} (hP : Lay M) (h : d_L_toldKind x1 M = some z) : CC Lay k_L_toldKind [.ref 1, .int x1, .ref 127] M z.2 (Qv (some (.int z.1)) z.2) xF :=
  CC.ofVV (by decide) rfl (Nat.le_of_ble_eq_true rfl) (b_L_toldKind hP h)
theorem b_L_toldAt {x1 : Int32} {M z} (hP : Lay M) (h : d_L_toldAt x1 M = some z) : VV Lay k_L_toldAt 0 [(0, .ref 1), (1, .int x1), (2, .ref 127)] [] M z.2 (Qv (some (.int z.1)) z.2) xF := by
  unfold d_L_toldAt at h
  refine Y_aload_n (pc := 0) (j := 2) dL_toldAt_0 rfl rfl ?_
  refine Y_iconst (pc := 1) (v := (0 : Int32)) dL_toldAt_1 rfl ?_
  refine Y_aload_n (pc := 2) (j := 0) dL_toldAt_2 rfl rfl ?_
  refine Y_iload_n (pc := 3) (j := 1) dL_toldAt_3 rfl rfl ?_
  obtain ⟨y1, qy1, h⟩ := bindE h
  have cy1 := v_X11_toldAt hP qy1
  have hPN1 := cy1.1.1
  obtain ⟨y1 | E1, N1⟩ := y1
  · replace h := id h
    refine C_V1r (k' := k_X11_toldAt) dL_toldAt_4 w7_77 i_X11_toldAt (lk_1 hP) ⟨Nat.le_of_ble_eq_true rfl, Nat.le_of_ble_eq_true rfl⟩ rfl (Nat.le_of_ble_eq_true rfl) (Nat.le_of_ble_eq_true rfl) (Nat.le_of_ble_eq_true rfl) (CC.rl cy1) ?_
    refine Y_last (pc := 7) dL_toldAt_7 (lk_127 hPN1) (ln_127 hPN1) (vp_lit (by decide)) ?_
    obtain ⟨M1, eM1, h⟩ := bndE h
    refine VV.mem eM1 ?_
    have hP1 := hPN1.wL eM1
    refine Y_goto (pc := 8) (tgt := 14) dL_toldAt_8 (by decide) ?_
    refine Y_iconst (pc := 14) (v := (0 : Int32)) dL_toldAt_14 rfl ?_
    cases h
    exact Y_iret (pc := 15) rfl rfl dL_toldAt_15 hP1 ⟨rfl, rfl⟩
  · replace h := id h
    by_cases hc0 : E1 = "java/lang/IndexOutOfBoundsException"
    · replace h := ifT hc0 h
      subst hc0
      refine C_V1x (k' := k_X11_toldAt) dL_toldAt_4 w7_77 i_X11_toldAt (lk_1 hP) ⟨Nat.le_of_ble_eq_true rfl, Nat.le_of_ble_eq_true rfl⟩ rfl (Nat.le_of_ble_eq_true rfl) (Nat.le_of_ble_eq_true rfl) (Nat.le_of_ble_eq_true rfl) (cy1.mono id (QSr rfl) (XSr rfl)) ?_
      refine Y_catch_n (E := "java/lang/IndexOutOfBoundsException") (i := 3) (pre := []) (suf := []) (lv1 := [(0, .ref 1), (1, .int x1), (2, .ref 127)]) rfl hp_nil (by decide) (by decide) w3_223 (List.mem_of_getElem? (i := 12) rfl) dL_toldAt_11 rfl (by decide) rfl ?_
      refine Y_iconst (pc := 12) (v := (1 : Int32)) dL_toldAt_12 rfl ?_
      cases h
      exact Y_iret (pc := 13) rfl rfl dL_toldAt_13 hPN1 ⟨rfl, rfl⟩
    replace h := ifF hc0 h
    cases h
theorem v_L_toldAt {x1 : Int32} {M z} (hP : Lay M) (h : d_L_toldAt x1 M = some z) : CC Lay k_L_toldAt [.ref 1, .int x1, .ref 127] M z.2 (Qv (some (.int z.1)) z.2) xF :=
  CC.ofVV (by decide) rfl (Nat.le_of_ble_eq_true rfl) (b_L_toldAt hP h)
theorem b_L_shapeOf {x1 : Int32} {M z} (hP : Lay M) (h : d_L_shapeOf x1 M = some z) : VV Lay k_L_shapeOf 0 [(0, .ref 1), (1, .int x1), (2, .ref 127)] [] M z.2 (Qv (some (.int z.1)) z.2) xF := by
  unfold d_L_shapeOf at h
  refine Y_aload_n (pc := 0) (j := 2) dL_shapeOf_0 rfl rfl ?_
  refine Y_iconst (pc := 1) (v := (0 : Int32)) dL_shapeOf_1 rfl ?_
  refine Y_aload_n (pc := 2) (j := 0) dL_shapeOf_2 rfl rfl ?_
  refine Y_iload_n (pc := 3) (j := 1) dL_shapeOf_3 rfl rfl ?_
  obtain ⟨y1, qy1, h⟩ := bindE h
  have cy1 := v_X11_shapeOf hP qy1
  have hPN1 := cy1.1.1
  obtain ⟨y1 | E1, N1⟩ := y1
  · replace h := id h
    refine C_V1r (k' := k_X11_shapeOf) dL_shapeOf_4 w7_84 i_X11_shapeOf (lk_1 hP) ⟨Nat.le_of_ble_eq_true rfl, Nat.le_of_ble_eq_true rfl⟩ rfl (Nat.le_of_ble_eq_true rfl) (Nat.le_of_ble_eq_true rfl) (Nat.le_of_ble_eq_true rfl) (CC.ri cy1) ?_
    refine Y_i2l (pc := 7) dL_shapeOf_7 ?_
    refine Y_last (pc := 8) dL_shapeOf_8 (lk_127 hPN1) (ln_127 hPN1) (vp_lit (by decide)) ?_
    obtain ⟨M1, eM1, h⟩ := bndE h
    refine VV.mem eM1 ?_
    have hP1 := hPN1.wL eM1
    refine Y_goto (pc := 9) (tgt := 15) dL_shapeOf_9 (by decide) ?_
    refine Y_iconst (pc := 15) (v := (0 : Int32)) dL_shapeOf_15 rfl ?_
    cases h
    exact Y_iret (pc := 16) rfl rfl dL_shapeOf_16 hP1 ⟨rfl, rfl⟩
  · replace h := id h
    by_cases hc0 : E1 = "java/lang/IndexOutOfBoundsException"
    · replace h := ifT hc0 h
      subst hc0
      refine C_V1x (k' := k_X11_shapeOf) dL_shapeOf_4 w7_84 i_X11_shapeOf (lk_1 hP) ⟨Nat.le_of_ble_eq_true rfl, Nat.le_of_ble_eq_true rfl⟩ rfl (Nat.le_of_ble_eq_true rfl) (Nat.le_of_ble_eq_true rfl) (Nat.le_of_ble_eq_true rfl) (cy1.mono id (QSr rfl) (XSr rfl)) ?_
      refine Y_catch_n (E := "java/lang/IndexOutOfBoundsException") (i := 3) (pre := []) (suf := []) (lv1 := [(0, .ref 1), (1, .int x1), (2, .ref 127)]) rfl hp_nil (by decide) (by decide) w3_223 (List.mem_of_getElem? (i := 12) rfl) dL_shapeOf_12 rfl (by decide) rfl ?_
      refine Y_iconst (pc := 13) (v := (1 : Int32)) dL_shapeOf_13 rfl ?_
      cases h
      exact Y_iret (pc := 14) rfl rfl dL_shapeOf_14 hPN1 ⟨rfl, rfl⟩
    replace h := ifF hc0 h
    cases h
theorem v_L_shapeOf {x1 : Int32} {M z} (hP : Lay M) (h : d_L_shapeOf x1 M = some z) : CC Lay k_L_shapeOf [.ref 1, .int x1, .ref 127] M z.2 (Qv (some (.int z.1)) z.2) xF :=
  CC.ofVV (by decide) rfl (Nat.le_of_ble_eq_true rfl) (b_L_shapeOf hP h)
theorem b_L_field {x1 : Int32} {x2 : Int32} {M z} (hP : Lay M) (h : d_L_field x1 x2 M = some z) : VV Lay k_L_field 0 [(0, .ref 1), (1, .int x1), (2, .int x2), (3, .ref 127)] [] M z.2 (Qv (some (.int z.1)) z.2) xF := by
  unfold d_L_field at h
  refine Y_aload_n (pc := 0) (j := 3) dL_field_0 rfl rfl ?_
  refine Y_iconst (pc := 1) (v := (0 : Int32)) dL_field_1 rfl ?_
  refine Y_aload_n (pc := 2) (j := 0) dL_field_2 rfl rfl ?_
  refine Y_iload_n (pc := 3) (j := 1) dL_field_3 rfl rfl ?_
  refine Y_iload_n (pc := 4) (j := 2) dL_field_4 rfl rfl ?_
  obtain ⟨y1, qy1, h⟩ := bindE h
  have cy1 := v_X11_field hP qy1
  have hPN1 := cy1.1.1
  obtain ⟨y1 | E1, N1⟩ := y1
  · replace h := id h
    refine C_V2r (k' := k_X11_field) dL_field_5 w7_96 i_X11_field (lk_1 hP) ⟨Nat.le_of_ble_eq_true rfl, Nat.le_of_ble_eq_true rfl⟩ rfl (Nat.le_of_ble_eq_true rfl) (Nat.le_of_ble_eq_true rfl) (Nat.le_of_ble_eq_true rfl) (CC.rl cy1) ?_
    refine Y_last (pc := 8) dL_field_8 (lk_127 hPN1) (ln_127 hPN1) (vp_lit (by decide)) ?_
    obtain ⟨M1, eM1, h⟩ := bndE h
    refine VV.mem eM1 ?_
    have hP1 := hPN1.wL eM1
    refine Y_goto (pc := 9) (tgt := 20) dL_field_9 (by decide) ?_
    refine Y_iconst (pc := 20) (v := (0 : Int32)) dL_field_20 rfl ?_
    cases h
    exact Y_iret (pc := 21) rfl rfl dL_field_21 hP1 ⟨rfl, rfl⟩
  · replace h := id h
    by_cases hc0 : E1 = "java/lang/IndexOutOfBoundsException"
    · replace h := ifT hc0 h
      subst hc0
      refine C_V2x (k' := k_X11_field) dL_field_5 w7_96 i_X11_field (lk_1 hP) ⟨Nat.le_of_ble_eq_true rfl, Nat.le_of_ble_eq_true rfl⟩ rfl (Nat.le_of_ble_eq_true rfl) (Nat.le_of_ble_eq_true rfl) (Nat.le_of_ble_eq_true rfl) (cy1.mono id (QSr rfl) (XSr rfl)) ?_
      refine Y_catch (E := "java/lang/IndexOutOfBoundsException") (i := 4) (pre := []) (suf := [(0, 9, 16, 36)]) (lv1 := [(0, .ref 1), (1, .int x1), (2, .int x2), (3, .ref 127)]) rfl hp_nil (by decide) (by decide) w3_223 (List.mem_of_getElem? (i := 12) rfl) dL_field_12 (by decide) rfl ?_
      refine Y_iconst (pc := 14) (v := (1 : Int32)) dL_field_14 rfl ?_
      cases h
      exact Y_iret (pc := 15) rfl rfl dL_field_15 hPN1 ⟨rfl, rfl⟩
    replace h := ifF hc0 h
    by_cases hc1 : E1 = "java/util/NoSuchElementException"
    · replace h := ifT hc1 h
      subst hc1
      refine C_V2x (k' := k_X11_field) dL_field_5 w7_96 i_X11_field (lk_1 hP) ⟨Nat.le_of_ble_eq_true rfl, Nat.le_of_ble_eq_true rfl⟩ rfl (Nat.le_of_ble_eq_true rfl) (Nat.le_of_ble_eq_true rfl) (Nat.le_of_ble_eq_true rfl) (cy1.mono id (QSr rfl) (XSr rfl)) ?_
      refine Y_catch (E := "java/util/NoSuchElementException") (i := 4) (pre := [(0, 9, 12, 21)]) (suf := []) (lv1 := [(0, .ref 1), (1, .int x1), (2, .int x2), (3, .ref 127)]) rfl (hp_cons (by decide) w3_223 (List.mem_of_getElem? (i := 13) rfl) hp_nil) (by decide) (by decide) w4_188 (List.mem_of_getElem? (i := 15) rfl) dL_field_16 (by decide) rfl ?_
      refine Y_iconst (pc := 18) (v := (2 : Int32)) dL_field_18 rfl ?_
      cases h
      exact Y_iret (pc := 19) rfl rfl dL_field_19 hPN1 ⟨rfl, rfl⟩
    replace h := ifF hc1 h
    cases h
theorem v_L_field {x1 : Int32} {x2 : Int32} {M z} (hP : Lay M) (h : d_L_field x1 x2 M = some z) : CC Lay k_L_field [.ref 1, .int x1, .int x2, .ref 127] M z.2 (Qv (some (.int z.1)) z.2) xF :=
  CC.ofVV (by decide) rfl (Nat.le_of_ble_eq_true rfl) (b_L_field hP h)
theorem b_L_fields {x1 : Int32} {M z} (hP : Lay M) (h : d_L_fields x1 M = some z) : VV Lay k_L_fields 0 [(0, .ref 1), (1, .int x1), (2, .ref 127)] [] M z.2 (Qv (some (.int z.1)) z.2) xF := by
  unfold d_L_fields at h
  refine Y_aload_n (pc := 0) (j := 2) dL_fields_0 rfl rfl ?_
  refine Y_iconst (pc := 1) (v := (0 : Int32)) dL_fields_1 rfl ?_
  refine Y_aload_n (pc := 2) (j := 0) dL_fields_2 rfl rfl ?_
  refine Y_iload_n (pc := 3) (j := 1) dL_fields_3 rfl rfl ?_
  obtain ⟨y1, qy1, h⟩ := bindE h
  have cy1 := v_X11_fields hP qy1
  have hPN1 := cy1.1.1
  obtain ⟨y1 | E1, N1⟩ := y1
  · replace h := id h
    refine C_V1r (k' := k_X11_fields) dL_fields_4 w7_106 i_X11_fields (lk_1 hP) ⟨Nat.le_of_ble_eq_true rfl, Nat.le_of_ble_eq_true rfl⟩ rfl (Nat.le_of_ble_eq_true rfl) (Nat.le_of_ble_eq_true rfl) (Nat.le_of_ble_eq_true rfl) (CC.ri cy1) ?_
    refine Y_i2l (pc := 7) dL_fields_7 ?_
    refine Y_last (pc := 8) dL_fields_8 (lk_127 hPN1) (ln_127 hPN1) (vp_lit (by decide)) ?_
    obtain ⟨M1, eM1, h⟩ := bndE h
    refine VV.mem eM1 ?_
    have hP1 := hPN1.wL eM1
    refine Y_goto (pc := 9) (tgt := 15) dL_fields_9 (by decide) ?_
    refine Y_iconst (pc := 15) (v := (0 : Int32)) dL_fields_15 rfl ?_
    cases h
    exact Y_iret (pc := 16) rfl rfl dL_fields_16 hP1 ⟨rfl, rfl⟩
  · replace h := id h
    by_cases hc0 : E1 = "java/lang/IndexOutOfBoundsException"
    · replace h := ifT hc0 h
      subst hc0
      refine C_V1x (k' := k_X11_fields) dL_fields_4 w7_106 i_X11_fields (lk_1 hP) ⟨Nat.le_of_ble_eq_true rfl, Nat.le_of_ble_eq_true rfl⟩ rfl (Nat.le_of_ble_eq_true rfl) (Nat.le_of_ble_eq_true rfl) (Nat.le_of_ble_eq_true rfl) (cy1.mono id (QSr rfl) (XSr rfl)) ?_
      refine Y_catch_n (E := "java/lang/IndexOutOfBoundsException") (i := 3) (pre := []) (suf := []) (lv1 := [(0, .ref 1), (1, .int x1), (2, .ref 127)]) rfl hp_nil (by decide) (by decide) w3_223 (List.mem_of_getElem? (i := 12) rfl) dL_fields_12 rfl (by decide) rfl ?_
      refine Y_iconst (pc := 13) (v := (1 : Int32)) dL_fields_13 rfl ?_
      cases h
      exact Y_iret (pc := 14) rfl rfl dL_fields_14 hPN1 ⟨rfl, rfl⟩
    replace h := ifF hc0 h
    cases h
theorem v_L_fields {x1 : Int32} {M z} (hP : Lay M) (h : d_L_fields x1 M = some z) : CC Lay k_L_fields [.ref 1, .int x1, .ref 127] M z.2 (Qv (some (.int z.1)) z.2) xF :=
  CC.ofVV (by decide) rfl (Nat.le_of_ble_eq_true rfl) (b_L_fields hP h)
theorem b_L_fieldAt {x1 : Int32} {x2 : Int32} {M z} (hP : Lay M) (h : d_L_fieldAt x1 x2 M = some z) : VV Lay k_L_fieldAt 0 [(0, .ref 1), (1, .int x1), (2, .int x2), (3, .ref 127)] [] M z.2 (Qv (some (.int z.1)) z.2) xF := by
  unfold d_L_fieldAt at h
  refine Y_aload_n (pc := 0) (j := 3) dL_fieldAt_0 rfl rfl ?_
  refine Y_iconst (pc := 1) (v := (0 : Int32)) dL_fieldAt_1 rfl ?_
  refine Y_aload_n (pc := 2) (j := 0) dL_fieldAt_2 rfl rfl ?_
  refine Y_iload_n (pc := 3) (j := 1) dL_fieldAt_3 rfl rfl ?_
  refine Y_iload_n (pc := 4) (j := 2) dL_fieldAt_4 rfl rfl ?_
  obtain ⟨y1, qy1, h⟩ := bindE h
  have cy1 := v_X11_fieldAt hP qy1
  have hPN1 := cy1.1.1
  obtain ⟨y1 | E1, N1⟩ := y1
  · replace h := id h
    refine C_V2r (k' := k_X11_fieldAt) dL_fieldAt_5 w7_118 i_X11_fieldAt (lk_1 hP) ⟨Nat.le_of_ble_eq_true rfl, Nat.le_of_ble_eq_true rfl⟩ rfl (Nat.le_of_ble_eq_true rfl) (Nat.le_of_ble_eq_true rfl) (Nat.le_of_ble_eq_true rfl) (CC.ri cy1) ?_
    refine Y_i2l (pc := 8) dL_fieldAt_8 ?_
    refine Y_last (pc := 9) dL_fieldAt_9 (lk_127 hPN1) (ln_127 hPN1) (vp_lit (by decide)) ?_
    obtain ⟨M1, eM1, h⟩ := bndE h
    refine VV.mem eM1 ?_
    have hP1 := hPN1.wL eM1
    refine Y_goto (pc := 10) (tgt := 21) dL_fieldAt_10 (by decide) ?_
    refine Y_iconst (pc := 21) (v := (0 : Int32)) dL_fieldAt_21 rfl ?_
    cases h
    exact Y_iret (pc := 22) rfl rfl dL_fieldAt_22 hP1 ⟨rfl, rfl⟩
  · replace h := id h
    by_cases hc0 : E1 = "java/lang/IndexOutOfBoundsException"
    · replace h := ifT hc0 h
      subst hc0
      refine C_V2x (k' := k_X11_fieldAt) dL_fieldAt_5 w7_118 i_X11_fieldAt (lk_1 hP) ⟨Nat.le_of_ble_eq_true rfl, Nat.le_of_ble_eq_true rfl⟩ rfl (Nat.le_of_ble_eq_true rfl) (Nat.le_of_ble_eq_true rfl) (Nat.le_of_ble_eq_true rfl) (cy1.mono id (QSr rfl) (XSr rfl)) ?_
      refine Y_catch (E := "java/lang/IndexOutOfBoundsException") (i := 4) (pre := []) (suf := [(0, 10, 17, 36)]) (lv1 := [(0, .ref 1), (1, .int x1), (2, .int x2), (3, .ref 127)]) rfl hp_nil (by decide) (by decide) w3_223 (List.mem_of_getElem? (i := 12) rfl) dL_fieldAt_13 (by decide) rfl ?_
      refine Y_iconst (pc := 15) (v := (1 : Int32)) dL_fieldAt_15 rfl ?_
      cases h
      exact Y_iret (pc := 16) rfl rfl dL_fieldAt_16 hPN1 ⟨rfl, rfl⟩
    replace h := ifF hc0 h
    by_cases hc1 : E1 = "java/util/NoSuchElementException"
    · replace h := ifT hc1 h
      subst hc1
      refine C_V2x (k' := k_X11_fieldAt) dL_fieldAt_5 w7_118 i_X11_fieldAt (lk_1 hP) ⟨Nat.le_of_ble_eq_true rfl, Nat.le_of_ble_eq_true rfl⟩ rfl (Nat.le_of_ble_eq_true rfl) (Nat.le_of_ble_eq_true rfl) (Nat.le_of_ble_eq_true rfl) (cy1.mono id (QSr rfl) (XSr rfl)) ?_
      refine Y_catch (E := "java/util/NoSuchElementException") (i := 4) (pre := [(0, 10, 13, 21)]) (suf := []) (lv1 := [(0, .ref 1), (1, .int x1), (2, .int x2), (3, .ref 127)]) rfl (hp_cons (by decide) w3_223 (List.mem_of_getElem? (i := 13) rfl) hp_nil) (by decide) (by decide) w4_188 (List.mem_of_getElem? (i := 15) rfl) dL_fieldAt_17 (by decide) rfl ?_
      refine Y_iconst (pc := 19) (v := (2 : Int32)) dL_fieldAt_19 rfl ?_
      cases h
      exact Y_iret (pc := 20) rfl rfl dL_fieldAt_20 hPN1 ⟨rfl, rfl⟩
    replace h := ifF hc1 h
    cases h
theorem v_L_fieldAt {x1 : Int32} {x2 : Int32} {M z} (hP : Lay M) (h : d_L_fieldAt x1 x2 M = some z) : CC Lay k_L_fieldAt [.ref 1, .int x1, .int x2, .ref 127] M z.2 (Qv (some (.int z.1)) z.2) xF :=
  CC.ofVV (by decide) rfl (Nat.le_of_ble_eq_true rfl) (b_L_fieldAt hP h)
theorem b_L_nextShape {x1 : Int32} {x2 : Int32} {M z} (hP : Lay M) (h : d_L_nextShape x1 x2 M = some z) : VV Lay k_L_nextShape 0 [(0, .ref 1), (1, .int x1), (2, .int x2), (3, .ref 127)] [] M z.2 (Qv (some (.int z.1)) z.2) xF := by
  unfold d_L_nextShape at h
  refine Y_aload_n (pc := 0) (j := 3) dL_nextShape_0 rfl rfl ?_
  refine Y_iconst (pc := 1) (v := (0 : Int32)) dL_nextShape_1 rfl ?_
  refine Y_aload_n (pc := 2) (j := 0) dL_nextShape_2 rfl rfl ?_
  refine Y_iload_n (pc := 3) (j := 1) dL_nextShape_3 rfl rfl ?_
  refine Y_iload_n (pc := 4) (j := 2) dL_nextShape_4 rfl rfl ?_
  obtain ⟨y1, qy1, h⟩ := bindE h
  have cy1 := v_X11_nextShape hP qy1
  have hPN1 := cy1.1.1
  obtain ⟨y1 | E1, N1⟩ := y1
  · replace h := id h
    refine C_V2r (k' := k_X11_nextShape) dL_nextShape_5 w7_126 i_X11_nextShape (lk_1 hP) ⟨Nat.le_of_ble_eq_true rfl, Nat.le_of_ble_eq_true rfl⟩ rfl (Nat.le_of_ble_eq_true rfl) (Nat.le_of_ble_eq_true rfl) (Nat.le_of_ble_eq_true rfl) (CC.ri cy1) ?_
    refine Y_i2l (pc := 8) dL_nextShape_8 ?_
    refine Y_last (pc := 9) dL_nextShape_9 (lk_127 hPN1) (ln_127 hPN1) (vp_lit (by decide)) ?_
    obtain ⟨M1, eM1, h⟩ := bndE h
    refine VV.mem eM1 ?_
    have hP1 := hPN1.wL eM1
    refine Y_goto (pc := 10) (tgt := 21) dL_nextShape_10 (by decide) ?_
    refine Y_iconst (pc := 21) (v := (0 : Int32)) dL_nextShape_21 rfl ?_
    cases h
    exact Y_iret (pc := 22) rfl rfl dL_nextShape_22 hP1 ⟨rfl, rfl⟩
  · replace h := id h
    by_cases hc0 : E1 = "java/lang/IndexOutOfBoundsException"
    · replace h := ifT hc0 h
      subst hc0
      refine C_V2x (k' := k_X11_nextShape) dL_nextShape_5 w7_126 i_X11_nextShape (lk_1 hP) ⟨Nat.le_of_ble_eq_true rfl, Nat.le_of_ble_eq_true rfl⟩ rfl (Nat.le_of_ble_eq_true rfl) (Nat.le_of_ble_eq_true rfl) (Nat.le_of_ble_eq_true rfl) (cy1.mono id (QSr rfl) (XSr rfl)) ?_
      refine Y_catch (E := "java/lang/IndexOutOfBoundsException") (i := 4) (pre := []) (suf := [(0, 10, 17, 36)]) (lv1 := [(0, .ref 1), (1, .int x1), (2, .int x2), (3, .ref 127)]) rfl hp_nil (by decide) (by decide) w3_223 (List.mem_of_getElem? (i := 12) rfl) dL_nextShape_13 (by decide) rfl ?_
      refine Y_iconst (pc := 15) (v := (1 : Int32)) dL_nextShape_15 rfl ?_
      cases h
      exact Y_iret (pc := 16) rfl rfl dL_nextShape_16 hPN1 ⟨rfl, rfl⟩
    replace h := ifF hc0 h
    by_cases hc1 : E1 = "java/util/NoSuchElementException"
    · replace h := ifT hc1 h
      subst hc1
      refine C_V2x (k' := k_X11_nextShape) dL_nextShape_5 w7_126 i_X11_nextShape (lk_1 hP) ⟨Nat.le_of_ble_eq_true rfl, Nat.le_of_ble_eq_true rfl⟩ rfl (Nat.le_of_ble_eq_true rfl) (Nat.le_of_ble_eq_true rfl) (Nat.le_of_ble_eq_true rfl) (cy1.mono id (QSr rfl) (XSr rfl)) ?_
      refine Y_catch (E := "java/util/NoSuchElementException") (i := 4) (pre := [(0, 10, 13, 21)]) (suf := []) (lv1 := [(0, .ref 1), (1, .int x1), (2, .int x2), (3, .ref 127)]) rfl (hp_cons (by decide) w3_223 (List.mem_of_getElem? (i := 13) rfl) hp_nil) (by decide) (by decide) w4_188 (List.mem_of_getElem? (i := 15) rfl) dL_nextShape_17 (by decide) rfl ?_
      refine Y_iconst (pc := 19) (v := (2 : Int32)) dL_nextShape_19 rfl ?_
      cases h
      exact Y_iret (pc := 20) rfl rfl dL_nextShape_20 hPN1 ⟨rfl, rfl⟩
    replace h := ifF hc1 h
    cases h
theorem v_L_nextShape {x1 : Int32} {x2 : Int32} {M z} (hP : Lay M) (h : d_L_nextShape x1 x2 M = some z) : CC Lay k_L_nextShape [.ref 1, .int x1, .int x2, .ref 127] M z.2 (Qv (some (.int z.1)) z.2) xF :=
  CC.ofVV (by decide) rfl (Nat.le_of_ble_eq_true rfl) (b_L_nextShape hP h)
theorem b_L_cacheState {x1 : Int32} {x2 : Int32} {M z} (hP : Lay M) (h : d_L_cacheState x1 x2 M = some z) : VV Lay k_L_cacheState 0 [(0, .ref 1), (1, .int x1), (2, .int x2), (3, .ref 127)] [] M z.2 (Qv (some (.int z.1)) z.2) xF := by
  unfold d_L_cacheState at h
  refine Y_aload_n (pc := 0) (j := 3) dL_cacheState_0 rfl rfl ?_
  refine Y_iconst (pc := 1) (v := (0 : Int32)) dL_cacheState_1 rfl ?_
  refine Y_aload_n (pc := 2) (j := 0) dL_cacheState_2 rfl rfl ?_
  refine Y_iload_n (pc := 3) (j := 1) dL_cacheState_3 rfl rfl ?_
  refine Y_iload_n (pc := 4) (j := 2) dL_cacheState_4 rfl rfl ?_
  obtain ⟨y1, qy1, h⟩ := bindE h
  have cy1 := v_X11_cacheState hP qy1
  have hPN1 := cy1.1.1
  obtain ⟨y1 | E1, N1⟩ := y1
  · replace h := id h
    refine C_V2r (k' := k_X11_cacheState) dL_cacheState_5 w7_134 i_X11_cacheState (lk_1 hP) ⟨Nat.le_of_ble_eq_true rfl, Nat.le_of_ble_eq_true rfl⟩ rfl (Nat.le_of_ble_eq_true rfl) (Nat.le_of_ble_eq_true rfl) (Nat.le_of_ble_eq_true rfl) (CC.ri cy1) ?_
    refine Y_i2l (pc := 8) dL_cacheState_8 ?_
    refine Y_last (pc := 9) dL_cacheState_9 (lk_127 hPN1) (ln_127 hPN1) (vp_lit (by decide)) ?_
    obtain ⟨M1, eM1, h⟩ := bndE h
    refine VV.mem eM1 ?_
    have hP1 := hPN1.wL eM1
    refine Y_goto (pc := 10) (tgt := 21) dL_cacheState_10 (by decide) ?_
    refine Y_iconst (pc := 21) (v := (0 : Int32)) dL_cacheState_21 rfl ?_
    cases h
    exact Y_iret (pc := 22) rfl rfl dL_cacheState_22 hP1 ⟨rfl, rfl⟩
  · replace h := id h
    by_cases hc0 : E1 = "java/lang/IndexOutOfBoundsException"
    · replace h := ifT hc0 h
      subst hc0
      refine C_V2x (k' := k_X11_cacheState) dL_cacheState_5 w7_134 i_X11_cacheState (lk_1 hP) ⟨Nat.le_of_ble_eq_true rfl, Nat.le_of_ble_eq_true rfl⟩ rfl (Nat.le_of_ble_eq_true rfl) (Nat.le_of_ble_eq_true rfl) (Nat.le_of_ble_eq_true rfl) (cy1.mono id (QSr rfl) (XSr rfl)) ?_
      refine Y_catch (E := "java/lang/IndexOutOfBoundsException") (i := 4) (pre := []) (suf := [(0, 10, 17, 36)]) (lv1 := [(0, .ref 1), (1, .int x1), (2, .int x2), (3, .ref 127)]) rfl hp_nil (by decide) (by decide) w3_223 (List.mem_of_getElem? (i := 12) rfl) dL_cacheState_13 (by decide) rfl ?_
      refine Y_iconst (pc := 15) (v := (1 : Int32)) dL_cacheState_15 rfl ?_
      cases h
      exact Y_iret (pc := 16) rfl rfl dL_cacheState_16 hPN1 ⟨rfl, rfl⟩
    replace h := ifF hc0 h
    by_cases hc1 : E1 = "java/util/NoSuchElementException"
    · replace h := ifT hc1 h
      subst hc1
      refine C_V2x (k' := k_X11_cacheState) dL_cacheState_5 w7_134 i_X11_cacheState (lk_1 hP) ⟨Nat.le_of_ble_eq_true rfl, Nat.le_of_ble_eq_true rfl⟩ rfl (Nat.le_of_ble_eq_true rfl) (Nat.le_of_ble_eq_true rfl) (Nat.le_of_ble_eq_true rfl) (cy1.mono id (QSr rfl) (XSr rfl)) ?_
      refine Y_catch (E := "java/util/NoSuchElementException") (i := 4) (pre := [(0, 10, 13, 21)]) (suf := []) (lv1 := [(0, .ref 1), (1, .int x1), (2, .int x2), (3, .ref 127)]) rfl (hp_cons (by decide) w3_223 (List.mem_of_getElem? (i := 13) rfl) hp_nil) (by decide) (by decide) w4_188 (List.mem_of_getElem? (i := 15) rfl) dL_cacheState_17 (by decide) rfl ?_
      refine Y_iconst (pc := 19) (v := (2 : Int32)) dL_cacheState_19 rfl ?_
      cases h
      exact Y_iret (pc := 20) rfl rfl dL_cacheState_20 hPN1 ⟨rfl, rfl⟩
    replace h := ifF hc1 h
    cases h
theorem v_L_cacheState {x1 : Int32} {x2 : Int32} {M z} (hP : Lay M) (h : d_L_cacheState x1 x2 M = some z) : CC Lay k_L_cacheState [.ref 1, .int x1, .int x2, .ref 127] M z.2 (Qv (some (.int z.1)) z.2) xF :=
  CC.ofVV (by decide) rfl (Nat.le_of_ble_eq_true rfl) (b_L_cacheState hP h)
theorem b_L_hits {x1 : Int32} {x2 : Int32} {M z} (hP : Lay M) (h : d_L_hits x1 x2 M = some z) : VV Lay k_L_hits 0 [(0, .ref 1), (1, .int x1), (2, .int x2), (3, .ref 127)] [] M z.2 (Qv (some (.int z.1)) z.2) xF := by
  unfold d_L_hits at h
  refine Y_aload_n (pc := 0) (j := 3) dL_hits_0 rfl rfl ?_
  refine Y_iconst (pc := 1) (v := (0 : Int32)) dL_hits_1 rfl ?_
  refine Y_aload_n (pc := 2) (j := 0) dL_hits_2 rfl rfl ?_
  refine Y_iload_n (pc := 3) (j := 1) dL_hits_3 rfl rfl ?_
  refine Y_iload_n (pc := 4) (j := 2) dL_hits_4 rfl rfl ?_
  obtain ⟨y1, qy1, h⟩ := bindE h
  have cy1 := v_X11_hits hP qy1
  have hPN1 := cy1.1.1
  obtain ⟨y1 | E1, N1⟩ := y1
  · replace h := id h
    refine C_V2r (k' := k_X11_hits) dL_hits_5 w7_152 i_X11_hits (lk_1 hP) ⟨Nat.le_of_ble_eq_true rfl, Nat.le_of_ble_eq_true rfl⟩ rfl (Nat.le_of_ble_eq_true rfl) (Nat.le_of_ble_eq_true rfl) (Nat.le_of_ble_eq_true rfl) (CC.ri cy1) ?_
    refine Y_i2l (pc := 8) dL_hits_8 ?_
    refine Y_last (pc := 9) dL_hits_9 (lk_127 hPN1) (ln_127 hPN1) (vp_lit (by decide)) ?_
    obtain ⟨M1, eM1, h⟩ := bndE h
    refine VV.mem eM1 ?_
    have hP1 := hPN1.wL eM1
    refine Y_goto (pc := 10) (tgt := 21) dL_hits_10 (by decide) ?_
    refine Y_iconst (pc := 21) (v := (0 : Int32)) dL_hits_21 rfl ?_
    cases h
    exact Y_iret (pc := 22) rfl rfl dL_hits_22 hP1 ⟨rfl, rfl⟩
  · replace h := id h
    by_cases hc0 : E1 = "java/lang/IndexOutOfBoundsException"
    · replace h := ifT hc0 h
      subst hc0
      refine C_V2x (k' := k_X11_hits) dL_hits_5 w7_152 i_X11_hits (lk_1 hP) ⟨Nat.le_of_ble_eq_true rfl, Nat.le_of_ble_eq_true rfl⟩ rfl (Nat.le_of_ble_eq_true rfl) (Nat.le_of_ble_eq_true rfl) (Nat.le_of_ble_eq_true rfl) (cy1.mono id (QSr rfl) (XSr rfl)) ?_
      refine Y_catch (E := "java/lang/IndexOutOfBoundsException") (i := 4) (pre := []) (suf := [(0, 10, 17, 36)]) (lv1 := [(0, .ref 1), (1, .int x1), (2, .int x2), (3, .ref 127)]) rfl hp_nil (by decide) (by decide) w3_223 (List.mem_of_getElem? (i := 12) rfl) dL_hits_13 (by decide) rfl ?_
      refine Y_iconst (pc := 15) (v := (1 : Int32)) dL_hits_15 rfl ?_
      cases h
      exact Y_iret (pc := 16) rfl rfl dL_hits_16 hPN1 ⟨rfl, rfl⟩
    replace h := ifF hc0 h
    by_cases hc1 : E1 = "java/util/NoSuchElementException"
    · replace h := ifT hc1 h
      subst hc1
      refine C_V2x (k' := k_X11_hits) dL_hits_5 w7_152 i_X11_hits (lk_1 hP) ⟨Nat.le_of_ble_eq_true rfl, Nat.le_of_ble_eq_true rfl⟩ rfl (Nat.le_of_ble_eq_true rfl) (Nat.le_of_ble_eq_true rfl) (Nat.le_of_ble_eq_true rfl) (cy1.mono id (QSr rfl) (XSr rfl)) ?_
      refine Y_catch (E := "java/util/NoSuchElementException") (i := 4) (pre := [(0, 10, 13, 21)]) (suf := []) (lv1 := [(0, .ref 1), (1, .int x1), (2, .int x2), (3, .ref 127)]) rfl (hp_cons (by decide) w3_223 (List.mem_of_getElem? (i := 13) rfl) hp_nil) (by decide) (by decide) w4_188 (List.mem_of_getElem? (i := 15) rfl) dL_hits_17 (by decide) rfl ?_
      refine Y_iconst (pc := 19) (v := (2 : Int32)) dL_hits_19 rfl ?_
      cases h
      exact Y_iret (pc := 20) rfl rfl dL_hits_20 hPN1 ⟨rfl, rfl⟩
    replace h := ifF hc1 h
    cases h
theorem v_L_hits {x1 : Int32} {x2 : Int32} {M z} (hP : Lay M) (h : d_L_hits x1 x2 M = some z) : CC Lay k_L_hits [.ref 1, .int x1, .int x2, .ref 127] M z.2 (Qv (some (.int z.1)) z.2) xF :=
  CC.ofVV (by decide) rfl (Nat.le_of_ble_eq_true rfl) (b_L_hits hP h)
theorem b_L_misses {x1 : Int32} {x2 : Int32} {M z} (hP : Lay M) (h : d_L_misses x1 x2 M = some z) : VV Lay k_L_misses 0 [(0, .ref 1), (1, .int x1), (2, .int x2), (3, .ref 127)] [] M z.2 (Qv (some (.int z.1)) z.2) xF := by
  unfold d_L_misses at h
  refine Y_aload_n (pc := 0) (j := 3) dL_misses_0 rfl rfl ?_
  refine Y_iconst (pc := 1) (v := (0 : Int32)) dL_misses_1 rfl ?_
  refine Y_aload_n (pc := 2) (j := 0) dL_misses_2 rfl rfl ?_
  refine Y_iload_n (pc := 3) (j := 1) dL_misses_3 rfl rfl ?_
  refine Y_iload_n (pc := 4) (j := 2) dL_misses_4 rfl rfl ?_
  obtain ⟨y1, qy1, h⟩ := bindE h
  have cy1 := v_X11_misses hP qy1
  have hPN1 := cy1.1.1
  obtain ⟨y1 | E1, N1⟩ := y1
  · replace h := id h
    refine C_V2r (k' := k_X11_misses) dL_misses_5 w7_159 i_X11_misses (lk_1 hP) ⟨Nat.le_of_ble_eq_true rfl, Nat.le_of_ble_eq_true rfl⟩ rfl (Nat.le_of_ble_eq_true rfl) (Nat.le_of_ble_eq_true rfl) (Nat.le_of_ble_eq_true rfl) (CC.ri cy1) ?_
    refine Y_i2l (pc := 8) dL_misses_8 ?_
    refine Y_last (pc := 9) dL_misses_9 (lk_127 hPN1) (ln_127 hPN1) (vp_lit (by decide)) ?_
    obtain ⟨M1, eM1, h⟩ := bndE h
    refine VV.mem eM1 ?_
    have hP1 := hPN1.wL eM1
    refine Y_goto (pc := 10) (tgt := 21) dL_misses_10 (by decide) ?_
    refine Y_iconst (pc := 21) (v := (0 : Int32)) dL_misses_21 rfl ?_
    cases h
    exact Y_iret (pc := 22) rfl rfl dL_misses_22 hP1 ⟨rfl, rfl⟩
  · replace h := id h
    by_cases hc0 : E1 = "java/lang/IndexOutOfBoundsException"
    · replace h := ifT hc0 h
      subst hc0
      refine C_V2x (k' := k_X11_misses) dL_misses_5 w7_159 i_X11_misses (lk_1 hP) ⟨Nat.le_of_ble_eq_true rfl, Nat.le_of_ble_eq_true rfl⟩ rfl (Nat.le_of_ble_eq_true rfl) (Nat.le_of_ble_eq_true rfl) (Nat.le_of_ble_eq_true rfl) (cy1.mono id (QSr rfl) (XSr rfl)) ?_
      refine Y_catch (E := "java/lang/IndexOutOfBoundsException") (i := 4) (pre := []) (suf := [(0, 10, 17, 36)]) (lv1 := [(0, .ref 1), (1, .int x1), (2, .int x2), (3, .ref 127)]) rfl hp_nil (by decide) (by decide) w3_223 (List.mem_of_getElem? (i := 12) rfl) dL_misses_13 (by decide) rfl ?_
      refine Y_iconst (pc := 15) (v := (1 : Int32)) dL_misses_15 rfl ?_
      cases h
      exact Y_iret (pc := 16) rfl rfl dL_misses_16 hPN1 ⟨rfl, rfl⟩
    replace h := ifF hc0 h
    by_cases hc1 : E1 = "java/util/NoSuchElementException"
    · replace h := ifT hc1 h
      subst hc1
      refine C_V2x (k' := k_X11_misses) dL_misses_5 w7_159 i_X11_misses (lk_1 hP) ⟨Nat.le_of_ble_eq_true rfl, Nat.le_of_ble_eq_true rfl⟩ rfl (Nat.le_of_ble_eq_true rfl) (Nat.le_of_ble_eq_true rfl) (Nat.le_of_ble_eq_true rfl) (cy1.mono id (QSr rfl) (XSr rfl)) ?_
      refine Y_catch (E := "java/util/NoSuchElementException") (i := 4) (pre := [(0, 10, 13, 21)]) (suf := []) (lv1 := [(0, .ref 1), (1, .int x1), (2, .int x2), (3, .ref 127)]) rfl (hp_cons (by decide) w3_223 (List.mem_of_getElem? (i := 13) rfl) hp_nil) (by decide) (by decide) w4_188 (List.mem_of_getElem? (i := 15) rfl) dL_misses_17 (by decide) rfl ?_
      refine Y_iconst (pc := 19) (v := (2 : Int32)) dL_misses_19 rfl ?_
      cases h
      exact Y_iret (pc := 20) rfl rfl dL_misses_20 hPN1 ⟨rfl, rfl⟩
    replace h := ifF hc1 h
    cases h
theorem v_L_misses {x1 : Int32} {x2 : Int32} {M z} (hP : Lay M) (h : d_L_misses x1 x2 M = some z) : CC Lay k_L_misses [.ref 1, .int x1, .int x2, .ref 127] M z.2 (Qv (some (.int z.1)) z.2) xF :=
  CC.ofVV (by decide) rfl (Nat.le_of_ble_eq_true rfl) (b_L_misses hP h)
theorem b_L_counter {x1 : Int32} {x2 : Int32} {M z} (hP : Lay M) (h : d_L_counter x1 x2 M = some z) : VV Lay k_L_counter 0 [(0, .ref 1), (1, .int x1), (2, .int x2), (3, .ref 127)] [] M z.2 (Qv (some (.int z.1)) z.2) xF := by
  unfold d_L_counter at h
  refine Y_aload_n (pc := 0) (j := 3) dL_counter_0 rfl rfl ?_
  refine Y_iconst (pc := 1) (v := (0 : Int32)) dL_counter_1 rfl ?_
  refine Y_aload_n (pc := 2) (j := 0) dL_counter_2 rfl rfl ?_
  refine Y_iload_n (pc := 3) (j := 1) dL_counter_3 rfl rfl ?_
  refine Y_iload_n (pc := 4) (j := 2) dL_counter_4 rfl rfl ?_
  obtain ⟨y1, qy1, h⟩ := bindE h
  have cy1 := v_X11_counter hP qy1
  have hPN1 := cy1.1.1
  obtain ⟨y1 | E1, N1⟩ := y1
  · replace h := id h
    refine C_V2r (k' := k_X11_counter) dL_counter_5 w7_166 i_X11_counter (lk_1 hP) ⟨Nat.le_of_ble_eq_true rfl, Nat.le_of_ble_eq_true rfl⟩ rfl (Nat.le_of_ble_eq_true rfl) (Nat.le_of_ble_eq_true rfl) (Nat.le_of_ble_eq_true rfl) (CC.ri cy1) ?_
    refine Y_i2l (pc := 8) dL_counter_8 ?_
    refine Y_last (pc := 9) dL_counter_9 (lk_127 hPN1) (ln_127 hPN1) (vp_lit (by decide)) ?_
    obtain ⟨M1, eM1, h⟩ := bndE h
    refine VV.mem eM1 ?_
    have hP1 := hPN1.wL eM1
    refine Y_goto (pc := 10) (tgt := 21) dL_counter_10 (by decide) ?_
    refine Y_iconst (pc := 21) (v := (0 : Int32)) dL_counter_21 rfl ?_
    cases h
    exact Y_iret (pc := 22) rfl rfl dL_counter_22 hP1 ⟨rfl, rfl⟩
  · replace h := id h
    by_cases hc0 : E1 = "java/lang/IndexOutOfBoundsException"
    · replace h := ifT hc0 h
      subst hc0
      refine C_V2x (k' := k_X11_counter) dL_counter_5 w7_166 i_X11_counter (lk_1 hP) ⟨Nat.le_of_ble_eq_true rfl, Nat.le_of_ble_eq_true rfl⟩ rfl (Nat.le_of_ble_eq_true rfl) (Nat.le_of_ble_eq_true rfl) (Nat.le_of_ble_eq_true rfl) (cy1.mono id (QSr rfl) (XSr rfl)) ?_
      refine Y_catch (E := "java/lang/IndexOutOfBoundsException") (i := 4) (pre := []) (suf := [(0, 10, 17, 13)]) (lv1 := [(0, .ref 1), (1, .int x1), (2, .int x2), (3, .ref 127)]) rfl hp_nil (by decide) (by decide) w3_223 (List.mem_of_getElem? (i := 12) rfl) dL_counter_13 (by decide) rfl ?_
      refine Y_iconst (pc := 15) (v := (1 : Int32)) dL_counter_15 rfl ?_
      cases h
      exact Y_iret (pc := 16) rfl rfl dL_counter_16 hPN1 ⟨rfl, rfl⟩
    replace h := ifF hc0 h
    by_cases hc1 : E1 = "java/lang/IllegalArgumentException"
    · replace h := ifT hc1 h
      subst hc1
      refine C_V2x (k' := k_X11_counter) dL_counter_5 w7_166 i_X11_counter (lk_1 hP) ⟨Nat.le_of_ble_eq_true rfl, Nat.le_of_ble_eq_true rfl⟩ rfl (Nat.le_of_ble_eq_true rfl) (Nat.le_of_ble_eq_true rfl) (Nat.le_of_ble_eq_true rfl) (cy1.mono id (QSr rfl) (XSr rfl)) ?_
      refine Y_catch (E := "java/lang/IllegalArgumentException") (i := 4) (pre := [(0, 10, 13, 21)]) (suf := []) (lv1 := [(0, .ref 1), (1, .int x1), (2, .int x2), (3, .ref 127)]) rfl (hp_cons (by decide) w3_223 (List.mem_of_getElem? (i := 10) rfl) hp_nil) (by decide) (by decide) w3_122 (List.mem_of_getElem? (i := 1) rfl) dL_counter_17 (by decide) rfl ?_
      refine Y_iconst (pc := 19) (v := (2 : Int32)) dL_counter_19 rfl ?_
      cases h
      exact Y_iret (pc := 20) rfl rfl dL_counter_20 hPN1 ⟨rfl, rfl⟩
    replace h := ifF hc1 h
    cases h
theorem v_L_counter {x1 : Int32} {x2 : Int32} {M z} (hP : Lay M) (h : d_L_counter x1 x2 M = some z) : CC Lay k_L_counter [.ref 1, .int x1, .int x2, .ref 127] M z.2 (Qv (some (.int z.1)) z.2) xF :=
  CC.ofVV (by decide) rfl (Nat.le_of_ble_eq_true rfl) (b_L_counter hP h)
theorem b_L_isBarred {x1 : Int32} {x2 : Int32} {M z} (hP : Lay M) (h : d_L_isBarred x1 x2 M = some z) : VV Lay k_L_isBarred 0 [(0, .ref 1), (1, .int x1), (2, .int x2), (3, .ref 127)] [] M z.2 (Qv (some (.int z.1)) z.2) xF := by
  unfold d_L_isBarred at h
  refine Y_aload_n (pc := 0) (j := 3) dL_isBarred_0 rfl rfl ?_
  refine Y_iconst (pc := 1) (v := (0 : Int32)) dL_isBarred_1 rfl ?_
  refine Y_aload_n (pc := 2) (j := 0) dL_isBarred_2 rfl rfl ?_
  refine Y_iload_n (pc := 3) (j := 1) dL_isBarred_3 rfl rfl ?_
  refine Y_iload_n (pc := 4) (j := 2) dL_isBarred_4 rfl rfl ?_
  obtain ⟨y1, qy1, h⟩ := bindE h
  have cy1 := v_X11_isBarred hP qy1
  have hPN1 := cy1.1.1
  obtain ⟨y1 | E1, N1⟩ := y1
  · replace h := id h
    refine C_V2r (k' := k_X11_isBarred) dL_isBarred_5 w7_173 i_X11_isBarred (lk_1 hP) ⟨Nat.le_of_ble_eq_true rfl, Nat.le_of_ble_eq_true rfl⟩ rfl (Nat.le_of_ble_eq_true rfl) (Nat.le_of_ble_eq_true rfl) (Nat.le_of_ble_eq_true rfl) (CC.ri cy1) ?_
    refine Y_if_eq (pc := 8) (tgt := 15) dL_isBarred_8 (by decide) (fun hc1 => ?_) (fun hc1 => ?_)
    · replace h := ifT hc1 h
      refine Y_lconst (pc := 15) (v := (0 : Int64)) dL_isBarred_15 rfl ?_
      refine Y_last (pc := 16) dL_isBarred_16 (lk_127 hPN1) (ln_127 hPN1) (vp_lit (by decide)) ?_
      obtain ⟨M1, eM1, h⟩ := bndE h
      refine VV.mem eM1 ?_
      have hP1 := hPN1.wL eM1
      refine Y_goto (pc := 17) (tgt := 28) dL_isBarred_17 (by decide) ?_
      refine Y_iconst (pc := 28) (v := (0 : Int32)) dL_isBarred_28 rfl ?_
      cases h
      exact Y_iret (pc := 29) rfl rfl dL_isBarred_29 hP1 ⟨rfl, rfl⟩
    · replace h := ifF hc1 h
      refine Y_lconst (pc := 11) (v := (1 : Int64)) dL_isBarred_11 rfl ?_
      refine Y_goto (pc := 12) (tgt := 16) dL_isBarred_12 (by decide) ?_
      refine Y_last (pc := 16) dL_isBarred_16 (lk_127 hPN1) (ln_127 hPN1) (vp_lit (by decide)) ?_
      obtain ⟨M2, eM2, h⟩ := bndE h
      refine VV.mem eM2 ?_
      have hP2 := hPN1.wL eM2
      refine Y_goto (pc := 17) (tgt := 28) dL_isBarred_17 (by decide) ?_
      refine Y_iconst (pc := 28) (v := (0 : Int32)) dL_isBarred_28 rfl ?_
      cases h
      exact Y_iret (pc := 29) rfl rfl dL_isBarred_29 hP2 ⟨rfl, rfl⟩
  · replace h := id h
    by_cases hc0 : E1 = "java/lang/IndexOutOfBoundsException"
    · replace h := ifT hc0 h
      subst hc0
      refine C_V2x (k' := k_X11_isBarred) dL_isBarred_5 w7_173 i_X11_isBarred (lk_1 hP) ⟨Nat.le_of_ble_eq_true rfl, Nat.le_of_ble_eq_true rfl⟩ rfl (Nat.le_of_ble_eq_true rfl) (Nat.le_of_ble_eq_true rfl) (Nat.le_of_ble_eq_true rfl) (cy1.mono id (QSr rfl) (XSr rfl)) ?_
      refine Y_catch (E := "java/lang/IndexOutOfBoundsException") (i := 4) (pre := []) (suf := [(0, 17, 24, 13)]) (lv1 := [(0, .ref 1), (1, .int x1), (2, .int x2), (3, .ref 127)]) rfl hp_nil (by decide) (by decide) w3_223 (List.mem_of_getElem? (i := 12) rfl) dL_isBarred_20 (by decide) rfl ?_
      refine Y_iconst (pc := 22) (v := (1 : Int32)) dL_isBarred_22 rfl ?_
      cases h
      exact Y_iret (pc := 23) rfl rfl dL_isBarred_23 hPN1 ⟨rfl, rfl⟩
    replace h := ifF hc0 h
    by_cases hc1 : E1 = "java/lang/IllegalArgumentException"
    · replace h := ifT hc1 h
      subst hc1
      refine C_V2x (k' := k_X11_isBarred) dL_isBarred_5 w7_173 i_X11_isBarred (lk_1 hP) ⟨Nat.le_of_ble_eq_true rfl, Nat.le_of_ble_eq_true rfl⟩ rfl (Nat.le_of_ble_eq_true rfl) (Nat.le_of_ble_eq_true rfl) (Nat.le_of_ble_eq_true rfl) (cy1.mono id (QSr rfl) (XSr rfl)) ?_
      refine Y_catch (E := "java/lang/IllegalArgumentException") (i := 4) (pre := [(0, 17, 20, 21)]) (suf := []) (lv1 := [(0, .ref 1), (1, .int x1), (2, .int x2), (3, .ref 127)]) rfl (hp_cons (by decide) w3_223 (List.mem_of_getElem? (i := 10) rfl) hp_nil) (by decide) (by decide) w3_122 (List.mem_of_getElem? (i := 1) rfl) dL_isBarred_24 (by decide) rfl ?_
      refine Y_iconst (pc := 26) (v := (2 : Int32)) dL_isBarred_26 rfl ?_
      cases h
      exact Y_iret (pc := 27) rfl rfl dL_isBarred_27 hPN1 ⟨rfl, rfl⟩
    replace h := ifF hc1 h
    cases h
theorem v_L_isBarred {x1 : Int32} {x2 : Int32} {M z} (hP : Lay M) (h : d_L_isBarred x1 x2 M = some z) : CC Lay k_L_isBarred [.ref 1, .int x1, .int x2, .ref 127] M z.2 (Qv (some (.int z.1)) z.2) xF :=
  CC.ofVV (by decide) rfl (Nat.le_of_ble_eq_true rfl) (b_L_isBarred hP h)
theorem b_L_isThere {x1 : Int32} {M z} (hP : Lay M) (h : d_L_isThere x1 M = some z) : VV Lay k_L_isThere 0 [(0, .ref 1), (1, .int x1), (2, .ref 127)] [] M z.2 (Qv (some (.int z.1)) z.2) xF := by
  unfold d_L_isThere at h
  refine Y_aload_n (pc := 0) (j := 2) dL_isThere_0 rfl rfl ?_
  refine Y_iconst (pc := 1) (v := (0 : Int32)) dL_isThere_1 rfl ?_
  refine Y_aload_n (pc := 2) (j := 0) dL_isThere_2 rfl rfl ?_
  refine Y_iload_n (pc := 3) (j := 1) dL_isThere_3 rfl rfl ?_
  obtain ⟨y1, qy1, h⟩ := bindE h
  have cy1 := v_X11_isThere hP qy1
  have hPN1 := cy1.1.1
  obtain ⟨y1 | E1, N1⟩ := y1
  · replace h := id h
    refine C_V1r (k' := k_X11_isThere) dL_isThere_4 w7_181 i_X11_isThere (lk_1 hP) ⟨Nat.le_of_ble_eq_true rfl, Nat.le_of_ble_eq_true rfl⟩ rfl (Nat.le_of_ble_eq_true rfl) (Nat.le_of_ble_eq_true rfl) (Nat.le_of_ble_eq_true rfl) (CC.ri cy1) ?_
    refine Y_if_eq (pc := 7) (tgt := 14) dL_isThere_7 (by decide) (fun hc1 => ?_) (fun hc1 => ?_)
    · replace h := ifT hc1 h
      refine Y_lconst (pc := 14) (v := (0 : Int64)) dL_isThere_14 rfl ?_
      refine Y_last (pc := 15) dL_isThere_15 (lk_127 hPN1) (ln_127 hPN1) (vp_lit (by decide)) ?_
      obtain ⟨M1, eM1, h⟩ := bndE h
      refine VV.mem eM1 ?_
      have hP1 := hPN1.wL eM1
      refine Y_goto (pc := 16) (tgt := 22) dL_isThere_16 (by decide) ?_
      refine Y_iconst (pc := 22) (v := (0 : Int32)) dL_isThere_22 rfl ?_
      cases h
      exact Y_iret (pc := 23) rfl rfl dL_isThere_23 hP1 ⟨rfl, rfl⟩
    · replace h := ifF hc1 h
      refine Y_lconst (pc := 10) (v := (1 : Int64)) dL_isThere_10 rfl ?_
      refine Y_goto (pc := 11) (tgt := 15) dL_isThere_11 (by decide) ?_
      refine Y_last (pc := 15) dL_isThere_15 (lk_127 hPN1) (ln_127 hPN1) (vp_lit (by decide)) ?_
      obtain ⟨M2, eM2, h⟩ := bndE h
      refine VV.mem eM2 ?_
      have hP2 := hPN1.wL eM2
      refine Y_goto (pc := 16) (tgt := 22) dL_isThere_16 (by decide) ?_
      refine Y_iconst (pc := 22) (v := (0 : Int32)) dL_isThere_22 rfl ?_
      cases h
      exact Y_iret (pc := 23) rfl rfl dL_isThere_23 hP2 ⟨rfl, rfl⟩
  · replace h := id h
    by_cases hc0 : E1 = "java/lang/IndexOutOfBoundsException"
    · replace h := ifT hc0 h
      subst hc0
      refine C_V1x (k' := k_X11_isThere) dL_isThere_4 w7_181 i_X11_isThere (lk_1 hP) ⟨Nat.le_of_ble_eq_true rfl, Nat.le_of_ble_eq_true rfl⟩ rfl (Nat.le_of_ble_eq_true rfl) (Nat.le_of_ble_eq_true rfl) (Nat.le_of_ble_eq_true rfl) (cy1.mono id (QSr rfl) (XSr rfl)) ?_
      refine Y_catch_n (E := "java/lang/IndexOutOfBoundsException") (i := 3) (pre := []) (suf := []) (lv1 := [(0, .ref 1), (1, .int x1), (2, .ref 127)]) rfl hp_nil (by decide) (by decide) w3_223 (List.mem_of_getElem? (i := 12) rfl) dL_isThere_19 rfl (by decide) rfl ?_
      refine Y_iconst (pc := 20) (v := (1 : Int32)) dL_isThere_20 rfl ?_
      cases h
      exact Y_iret (pc := 21) rfl rfl dL_isThere_21 hPN1 ⟨rfl, rfl⟩
    replace h := ifF hc0 h
    cases h
theorem v_L_isThere {x1 : Int32} {M z} (hP : Lay M) (h : d_L_isThere x1 M = some z) : CC Lay k_L_isThere [.ref 1, .int x1, .ref 127] M z.2 (Qv (some (.int z.1)) z.2) xF :=
  CC.ofVV (by decide) rfl (Nat.le_of_ble_eq_true rfl) (b_L_isThere hP h)
theorem b_L_steps {x1 : Int32} {M z} (hP : Lay M) (h : d_L_steps x1 M = some z) : VV Lay k_L_steps 0 [(0, .ref 1), (1, .int x1), (2, .ref 127)] [] M z.2 (Qv (some (.int z.1)) z.2) xF := by
  unfold d_L_steps at h
  refine Y_aload_n (pc := 0) (j := 2) dL_steps_0 rfl rfl ?_
  refine Y_iconst (pc := 1) (v := (0 : Int32)) dL_steps_1 rfl ?_
  refine Y_aload_n (pc := 2) (j := 0) dL_steps_2 rfl rfl ?_
  refine Y_iload_n (pc := 3) (j := 1) dL_steps_3 rfl rfl ?_
  obtain ⟨y1, qy1, h⟩ := bindE h
  have cy1 := v_X11_steps hP qy1
  have hPN1 := cy1.1.1
  obtain ⟨y1 | E1, N1⟩ := y1
  · replace h := id h
    refine C_V1r (k' := k_X11_steps) dL_steps_4 w7_193 i_X11_steps (lk_1 hP) ⟨Nat.le_of_ble_eq_true rfl, Nat.le_of_ble_eq_true rfl⟩ rfl (Nat.le_of_ble_eq_true rfl) (Nat.le_of_ble_eq_true rfl) (Nat.le_of_ble_eq_true rfl) (CC.ri cy1) ?_
    refine Y_i2l (pc := 7) dL_steps_7 ?_
    refine Y_last (pc := 8) dL_steps_8 (lk_127 hPN1) (ln_127 hPN1) (vp_lit (by decide)) ?_
    obtain ⟨M1, eM1, h⟩ := bndE h
    refine VV.mem eM1 ?_
    have hP1 := hPN1.wL eM1
    refine Y_goto (pc := 9) (tgt := 15) dL_steps_9 (by decide) ?_
    refine Y_iconst (pc := 15) (v := (0 : Int32)) dL_steps_15 rfl ?_
    cases h
    exact Y_iret (pc := 16) rfl rfl dL_steps_16 hP1 ⟨rfl, rfl⟩
  · replace h := id h
    by_cases hc0 : E1 = "java/lang/IndexOutOfBoundsException"
    · replace h := ifT hc0 h
      subst hc0
      refine C_V1x (k' := k_X11_steps) dL_steps_4 w7_193 i_X11_steps (lk_1 hP) ⟨Nat.le_of_ble_eq_true rfl, Nat.le_of_ble_eq_true rfl⟩ rfl (Nat.le_of_ble_eq_true rfl) (Nat.le_of_ble_eq_true rfl) (Nat.le_of_ble_eq_true rfl) (cy1.mono id (QSr rfl) (XSr rfl)) ?_
      refine Y_catch_n (E := "java/lang/IndexOutOfBoundsException") (i := 3) (pre := []) (suf := []) (lv1 := [(0, .ref 1), (1, .int x1), (2, .ref 127)]) rfl hp_nil (by decide) (by decide) w3_223 (List.mem_of_getElem? (i := 12) rfl) dL_steps_12 rfl (by decide) rfl ?_
      refine Y_iconst (pc := 13) (v := (1 : Int32)) dL_steps_13 rfl ?_
      cases h
      exact Y_iret (pc := 14) rfl rfl dL_steps_14 hPN1 ⟨rfl, rfl⟩
    replace h := ifF hc0 h
    cases h
theorem v_L_steps {x1 : Int32} {M z} (hP : Lay M) (h : d_L_steps x1 M = some z) : CC Lay k_L_steps [.ref 1, .int x1, .ref 127] M z.2 (Qv (some (.int z.1)) z.2) xF :=
  CC.ofVV (by decide) rfl (Nat.le_of_ble_eq_true rfl) (b_L_steps hP h)
theorem b_L_lineAt {x1 : Int32} {x2 : Int32} {M z} (hP : Lay M) (h : d_L_lineAt x1 x2 M = some z) : VV Lay k_L_lineAt 0 [(0, .ref 1), (1, .int x1), (2, .int x2), (3, .ref 127)] [] M z.2 (Qv (some (.int z.1)) z.2) xF := by
  unfold d_L_lineAt at h
  refine Y_aload_n (pc := 0) (j := 3) dL_lineAt_0 rfl rfl ?_
  refine Y_iconst (pc := 1) (v := (0 : Int32)) dL_lineAt_1 rfl ?_
  refine Y_aload_n (pc := 2) (j := 0) dL_lineAt_2 rfl rfl ?_
  refine Y_iload_n (pc := 3) (j := 1) dL_lineAt_3 rfl rfl ?_
  refine Y_iload_n (pc := 4) (j := 2) dL_lineAt_4 rfl rfl ?_
  obtain ⟨y1, qy1, h⟩ := bindE h
  have cy1 := v_X11_lineAt hP qy1
  have hPN1 := cy1.1.1
  obtain ⟨y1 | E1, N1⟩ := y1
  · replace h := id h
    refine C_V2r (k' := k_X11_lineAt) dL_lineAt_5 w7_200 i_X11_lineAt (lk_1 hP) ⟨Nat.le_of_ble_eq_true rfl, Nat.le_of_ble_eq_true rfl⟩ rfl (Nat.le_of_ble_eq_true rfl) (Nat.le_of_ble_eq_true rfl) (Nat.le_of_ble_eq_true rfl) (CC.ri cy1) ?_
    refine Y_i2l (pc := 8) dL_lineAt_8 ?_
    refine Y_last (pc := 9) dL_lineAt_9 (lk_127 hPN1) (ln_127 hPN1) (vp_lit (by decide)) ?_
    obtain ⟨M1, eM1, h⟩ := bndE h
    refine VV.mem eM1 ?_
    have hP1 := hPN1.wL eM1
    refine Y_goto (pc := 10) (tgt := 21) dL_lineAt_10 (by decide) ?_
    refine Y_iconst (pc := 21) (v := (0 : Int32)) dL_lineAt_21 rfl ?_
    cases h
    exact Y_iret (pc := 22) rfl rfl dL_lineAt_22 hP1 ⟨rfl, rfl⟩
  · replace h := id h
    by_cases hc0 : E1 = "java/lang/IndexOutOfBoundsException"
    · replace h := ifT hc0 h
      subst hc0
      refine C_V2x (k' := k_X11_lineAt) dL_lineAt_5 w7_200 i_X11_lineAt (lk_1 hP) ⟨Nat.le_of_ble_eq_true rfl, Nat.le_of_ble_eq_true rfl⟩ rfl (Nat.le_of_ble_eq_true rfl) (Nat.le_of_ble_eq_true rfl) (Nat.le_of_ble_eq_true rfl) (cy1.mono id (QSr rfl) (XSr rfl)) ?_
      refine Y_catch (E := "java/lang/IndexOutOfBoundsException") (i := 4) (pre := []) (suf := [(0, 10, 17, 36)]) (lv1 := [(0, .ref 1), (1, .int x1), (2, .int x2), (3, .ref 127)]) rfl hp_nil (by decide) (by decide) w3_223 (List.mem_of_getElem? (i := 12) rfl) dL_lineAt_13 (by decide) rfl ?_
      refine Y_iconst (pc := 15) (v := (1 : Int32)) dL_lineAt_15 rfl ?_
      cases h
      exact Y_iret (pc := 16) rfl rfl dL_lineAt_16 hPN1 ⟨rfl, rfl⟩
    replace h := ifF hc0 h
    by_cases hc1 : E1 = "java/util/NoSuchElementException"
    · replace h := ifT hc1 h
      subst hc1
      refine C_V2x (k' := k_X11_lineAt) dL_lineAt_5 w7_200 i_X11_lineAt (lk_1 hP) ⟨Nat.le_of_ble_eq_true rfl, Nat.le_of_ble_eq_true rfl⟩ rfl (Nat.le_of_ble_eq_true rfl) (Nat.le_of_ble_eq_true rfl) (Nat.le_of_ble_eq_true rfl) (cy1.mono id (QSr rfl) (XSr rfl)) ?_
      refine Y_catch (E := "java/util/NoSuchElementException") (i := 4) (pre := [(0, 10, 13, 21)]) (suf := []) (lv1 := [(0, .ref 1), (1, .int x1), (2, .int x2), (3, .ref 127)]) rfl (hp_cons (by decide) w3_223 (List.mem_of_getElem? (i := 13) rfl) hp_nil) (by decide) (by decide) w4_188 (List.mem_of_getElem? (i := 15) rfl) dL_lineAt_17 (by decide) rfl ?_
      refine Y_iconst (pc := 19) (v := (2 : Int32)) dL_lineAt_19 rfl ?_
      cases h
      exact Y_iret (pc := 20) rfl rfl dL_lineAt_20 hPN1 ⟨rfl, rfl⟩
    replace h := ifF hc1 h
    cases h
theorem v_L_lineAt {x1 : Int32} {x2 : Int32} {M z} (hP : Lay M) (h : d_L_lineAt x1 x2 M = some z) : CC Lay k_L_lineAt [.ref 1, .int x1, .int x2, .ref 127] M z.2 (Qv (some (.int z.1)) z.2) xF :=
  CC.ofVV (by decide) rfl (Nat.le_of_ble_eq_true rfl) (b_L_lineAt hP h)
theorem b_L_guards {x1 : Int32} {M z} (hP : Lay M) (h : d_L_guards x1 M = some z) : VV Lay k_L_guards 0 [(0, .ref 1), (1, .int x1), (2, .ref 127)] [] M z.2 (Qv (some (.int z.1)) z.2) xF := by
  unfold d_L_guards at h
  refine Y_aload_n (pc := 0) (j := 2) dL_guards_0 rfl rfl ?_
  refine Y_iconst (pc := 1) (v := (0 : Int32)) dL_guards_1 rfl ?_
  refine Y_aload_n (pc := 2) (j := 0) dL_guards_2 rfl rfl ?_
  refine Y_iload_n (pc := 3) (j := 1) dL_guards_3 rfl rfl ?_
  obtain ⟨y1, qy1, h⟩ := bindE h
  have cy1 := v_X11_guards hP qy1
  have hPN1 := cy1.1.1
  obtain ⟨y1 | E1, N1⟩ := y1
  · replace h := id h
    refine C_V1r (k' := k_X11_guards) dL_guards_4 w7_208 i_X11_guards (lk_1 hP) ⟨Nat.le_of_ble_eq_true rfl, Nat.le_of_ble_eq_true rfl⟩ rfl (Nat.le_of_ble_eq_true rfl) (Nat.le_of_ble_eq_true rfl) (Nat.le_of_ble_eq_true rfl) (CC.ri cy1) ?_
    refine Y_i2l (pc := 7) dL_guards_7 ?_
    refine Y_last (pc := 8) dL_guards_8 (lk_127 hPN1) (ln_127 hPN1) (vp_lit (by decide)) ?_
    obtain ⟨M1, eM1, h⟩ := bndE h
    refine VV.mem eM1 ?_
    have hP1 := hPN1.wL eM1
    refine Y_goto (pc := 9) (tgt := 15) dL_guards_9 (by decide) ?_
    refine Y_iconst (pc := 15) (v := (0 : Int32)) dL_guards_15 rfl ?_
    cases h
    exact Y_iret (pc := 16) rfl rfl dL_guards_16 hP1 ⟨rfl, rfl⟩
  · replace h := id h
    by_cases hc0 : E1 = "java/lang/IndexOutOfBoundsException"
    · replace h := ifT hc0 h
      subst hc0
      refine C_V1x (k' := k_X11_guards) dL_guards_4 w7_208 i_X11_guards (lk_1 hP) ⟨Nat.le_of_ble_eq_true rfl, Nat.le_of_ble_eq_true rfl⟩ rfl (Nat.le_of_ble_eq_true rfl) (Nat.le_of_ble_eq_true rfl) (Nat.le_of_ble_eq_true rfl) (cy1.mono id (QSr rfl) (XSr rfl)) ?_
      refine Y_catch_n (E := "java/lang/IndexOutOfBoundsException") (i := 3) (pre := []) (suf := []) (lv1 := [(0, .ref 1), (1, .int x1), (2, .ref 127)]) rfl hp_nil (by decide) (by decide) w3_223 (List.mem_of_getElem? (i := 12) rfl) dL_guards_12 rfl (by decide) rfl ?_
      refine Y_iconst (pc := 13) (v := (1 : Int32)) dL_guards_13 rfl ?_
      cases h
      exact Y_iret (pc := 14) rfl rfl dL_guards_14 hPN1 ⟨rfl, rfl⟩
    replace h := ifF hc0 h
    cases h
theorem v_L_guards {x1 : Int32} {M z} (hP : Lay M) (h : d_L_guards x1 M = some z) : CC Lay k_L_guards [.ref 1, .int x1, .ref 127] M z.2 (Qv (some (.int z.1)) z.2) xF :=
  CC.ofVV (by decide) rfl (Nat.le_of_ble_eq_true rfl) (b_L_guards hP h)
theorem b_L_guardAt {x1 : Int32} {x2 : Int32} {M z} (hP : Lay M) (h : d_L_guardAt x1 x2 M = some z) : VV Lay k_L_guardAt 0 [(0, .ref 1), (1, .int x1), (2, .int x2), (3, .ref 127)] [] M z.2 (Qv (some (.int z.1)) z.2) xF := by
  unfold d_L_guardAt at h
  refine Y_aload_n (pc := 0) (j := 3) dL_guardAt_0 rfl rfl ?_
  refine Y_iconst (pc := 1) (v := (0 : Int32)) dL_guardAt_1 rfl ?_
  refine Y_aload_n (pc := 2) (j := 0) dL_guardAt_2 rfl rfl ?_
  refine Y_iload_n (pc := 3) (j := 1) dL_guardAt_3 rfl rfl ?_
  refine Y_iload_n (pc := 4) (j := 2) dL_guardAt_4 rfl rfl ?_
  obtain ⟨y1, qy1, h⟩ := bindE h
  have cy1 := v_X11_guardAt hP qy1
  have hPN1 := cy1.1.1
  obtain ⟨y1 | E1, N1⟩ := y1
  · replace h := id h
    refine C_V2r (k' := k_X11_guardAt) dL_guardAt_5 w7_215 i_X11_guardAt (lk_1 hP) ⟨Nat.le_of_ble_eq_true rfl, Nat.le_of_ble_eq_true rfl⟩ rfl (Nat.le_of_ble_eq_true rfl) (Nat.le_of_ble_eq_true rfl) (Nat.le_of_ble_eq_true rfl) (CC.ri cy1) ?_
    refine Y_i2l (pc := 8) dL_guardAt_8 ?_
    refine Y_last (pc := 9) dL_guardAt_9 (lk_127 hPN1) (ln_127 hPN1) (vp_lit (by decide)) ?_
    obtain ⟨M1, eM1, h⟩ := bndE h
    refine VV.mem eM1 ?_
    have hP1 := hPN1.wL eM1
    refine Y_goto (pc := 10) (tgt := 17) dL_guardAt_10 (by decide) ?_
    refine Y_iconst (pc := 17) (v := (0 : Int32)) dL_guardAt_17 rfl ?_
    cases h
    exact Y_iret (pc := 18) rfl rfl dL_guardAt_18 hP1 ⟨rfl, rfl⟩
  · replace h := id h
    by_cases hc0 : E1 = "java/lang/IndexOutOfBoundsException"
    · replace h := ifT hc0 h
      subst hc0
      refine C_V2x (k' := k_X11_guardAt) dL_guardAt_5 w7_215 i_X11_guardAt (lk_1 hP) ⟨Nat.le_of_ble_eq_true rfl, Nat.le_of_ble_eq_true rfl⟩ rfl (Nat.le_of_ble_eq_true rfl) (Nat.le_of_ble_eq_true rfl) (Nat.le_of_ble_eq_true rfl) (cy1.mono id (QSr rfl) (XSr rfl)) ?_
      refine Y_catch (E := "java/lang/IndexOutOfBoundsException") (i := 4) (pre := []) (suf := []) (lv1 := [(0, .ref 1), (1, .int x1), (2, .int x2), (3, .ref 127)]) rfl hp_nil (by decide) (by decide) w3_223 (List.mem_of_getElem? (i := 12) rfl) dL_guardAt_13 (by decide) rfl ?_
      refine Y_iconst (pc := 15) (v := (1 : Int32)) dL_guardAt_15 rfl ?_
      cases h
      exact Y_iret (pc := 16) rfl rfl dL_guardAt_16 hPN1 ⟨rfl, rfl⟩
    replace h := ifF hc0 h
    cases h
theorem v_L_guardAt {x1 : Int32} {x2 : Int32} {M z} (hP : Lay M) (h : d_L_guardAt x1 x2 M = some z) : CC Lay k_L_guardAt [.ref 1, .int x1, .int x2, .ref 127] M z.2 (Qv (some (.int z.1)) z.2) xF :=
  CC.ofVV (by decide) rfl (Nat.le_of_ble_eq_true rfl) (b_L_guardAt hP h)
theorem b_L_guardStep {x1 : Int32} {x2 : Int32} {M z} (hP : Lay M) (h : d_L_guardStep x1 x2 M = some z) : VV Lay k_L_guardStep 0 [(0, .ref 1), (1, .int x1), (2, .int x2), (3, .ref 127)] [] M z.2 (Qv (some (.int z.1)) z.2) xF := by
  unfold d_L_guardStep at h
  refine Y_aload_n (pc := 0) (j := 3) dL_guardStep_0 rfl rfl ?_
  refine Y_iconst (pc := 1) (v := (0 : Int32)) dL_guardStep_1 rfl ?_
  refine Y_aload_n (pc := 2) (j := 0) dL_guardStep_2 rfl rfl ?_
  refine Y_iload_n (pc := 3) (j := 1) dL_guardStep_3 rfl rfl ?_
  refine Y_iload_n (pc := 4) (j := 2) dL_guardStep_4 rfl rfl ?_
  obtain ⟨y1, qy1, h⟩ := bindE h
  have cy1 := v_X11_guardStep hP qy1
  have hPN1 := cy1.1.1
  obtain ⟨y1 | E1, N1⟩ := y1
  · replace h := id h
    refine C_V2r (k' := k_X11_guardStep) dL_guardStep_5 w7_227 i_X11_guardStep (lk_1 hP) ⟨Nat.le_of_ble_eq_true rfl, Nat.le_of_ble_eq_true rfl⟩ rfl (Nat.le_of_ble_eq_true rfl) (Nat.le_of_ble_eq_true rfl) (Nat.le_of_ble_eq_true rfl) (CC.ri cy1) ?_
    refine Y_i2l (pc := 8) dL_guardStep_8 ?_
    refine Y_last (pc := 9) dL_guardStep_9 (lk_127 hPN1) (ln_127 hPN1) (vp_lit (by decide)) ?_
    obtain ⟨M1, eM1, h⟩ := bndE h
    refine VV.mem eM1 ?_
    have hP1 := hPN1.wL eM1
    refine Y_goto (pc := 10) (tgt := 17) dL_guardStep_10 (by decide) ?_
    refine Y_iconst (pc := 17) (v := (0 : Int32)) dL_guardStep_17 rfl ?_
    cases h
    exact Y_iret (pc := 18) rfl rfl dL_guardStep_18 hP1 ⟨rfl, rfl⟩
  · replace h := id h
    by_cases hc0 : E1 = "java/lang/IndexOutOfBoundsException"
    · replace h := ifT hc0 h
      subst hc0
      refine C_V2x (k' := k_X11_guardStep) dL_guardStep_5 w7_227 i_X11_guardStep (lk_1 hP) ⟨Nat.le_of_ble_eq_true rfl, Nat.le_of_ble_eq_true rfl⟩ rfl (Nat.le_of_ble_eq_true rfl) (Nat.le_of_ble_eq_true rfl) (Nat.le_of_ble_eq_true rfl) (cy1.mono id (QSr rfl) (XSr rfl)) ?_
      refine Y_catch (E := "java/lang/IndexOutOfBoundsException") (i := 4) (pre := []) (suf := []) (lv1 := [(0, .ref 1), (1, .int x1), (2, .int x2), (3, .ref 127)]) rfl hp_nil (by decide) (by decide) w3_223 (List.mem_of_getElem? (i := 12) rfl) dL_guardStep_13 (by decide) rfl ?_
      refine Y_iconst (pc := 15) (v := (1 : Int32)) dL_guardStep_15 rfl ?_
      cases h
      exact Y_iret (pc := 16) rfl rfl dL_guardStep_16 hPN1 ⟨rfl, rfl⟩
    replace h := ifF hc0 h
    cases h
theorem v_L_guardStep {x1 : Int32} {x2 : Int32} {M z} (hP : Lay M) (h : d_L_guardStep x1 x2 M = some z) : CC Lay k_L_guardStep [.ref 1, .int x1, .int x2, .ref 127] M z.2 (Qv (some (.int z.1)) z.2) xF :=
  CC.ofVV (by decide) rfl (Nat.le_of_ble_eq_true rfl) (b_L_guardStep hP h)
theorem b_L_exits {x1 : Int32} {x2 : Int32} {M z} (hP : Lay M) (h : d_L_exits x1 x2 M = some z) : VV Lay k_L_exits 0 [(0, .ref 1), (1, .int x1), (2, .int x2), (3, .ref 127)] [] M z.2 (Qv (some (.int z.1)) z.2) xF := by
  unfold d_L_exits at h
  refine Y_aload_n (pc := 0) (j := 3) dL_exits_0 rfl rfl ?_
  refine Y_iconst (pc := 1) (v := (0 : Int32)) dL_exits_1 rfl ?_
  refine Y_aload_n (pc := 2) (j := 0) dL_exits_2 rfl rfl ?_
  refine Y_iload_n (pc := 3) (j := 1) dL_exits_3 rfl rfl ?_
  refine Y_iload_n (pc := 4) (j := 2) dL_exits_4 rfl rfl ?_
  obtain ⟨y1, qy1, h⟩ := bindE h
  have cy1 := v_X11_exits hP qy1
  have hPN1 := cy1.1.1
  obtain ⟨y1 | E1, N1⟩ := y1
  · replace h := id h
    refine C_V2r (k' := k_X11_exits) dL_exits_5 w7_234 i_X11_exits (lk_1 hP) ⟨Nat.le_of_ble_eq_true rfl, Nat.le_of_ble_eq_true rfl⟩ rfl (Nat.le_of_ble_eq_true rfl) (Nat.le_of_ble_eq_true rfl) (Nat.le_of_ble_eq_true rfl) (CC.ri cy1) ?_
    refine Y_i2l (pc := 8) dL_exits_8 ?_
    refine Y_last (pc := 9) dL_exits_9 (lk_127 hPN1) (ln_127 hPN1) (vp_lit (by decide)) ?_
    obtain ⟨M1, eM1, h⟩ := bndE h
    refine VV.mem eM1 ?_
    have hP1 := hPN1.wL eM1
    refine Y_goto (pc := 10) (tgt := 17) dL_exits_10 (by decide) ?_
    refine Y_iconst (pc := 17) (v := (0 : Int32)) dL_exits_17 rfl ?_
    cases h
    exact Y_iret (pc := 18) rfl rfl dL_exits_18 hP1 ⟨rfl, rfl⟩
  · replace h := id h
    by_cases hc0 : E1 = "java/lang/IndexOutOfBoundsException"
    · replace h := ifT hc0 h
      subst hc0
      refine C_V2x (k' := k_X11_exits) dL_exits_5 w7_234 i_X11_exits (lk_1 hP) ⟨Nat.le_of_ble_eq_true rfl, Nat.le_of_ble_eq_true rfl⟩ rfl (Nat.le_of_ble_eq_true rfl) (Nat.le_of_ble_eq_true rfl) (Nat.le_of_ble_eq_true rfl) (cy1.mono id (QSr rfl) (XSr rfl)) ?_
      refine Y_catch (E := "java/lang/IndexOutOfBoundsException") (i := 4) (pre := []) (suf := []) (lv1 := [(0, .ref 1), (1, .int x1), (2, .int x2), (3, .ref 127)]) rfl hp_nil (by decide) (by decide) w3_223 (List.mem_of_getElem? (i := 12) rfl) dL_exits_13 (by decide) rfl ?_
      refine Y_iconst (pc := 15) (v := (1 : Int32)) dL_exits_15 rfl ?_
      cases h
      exact Y_iret (pc := 16) rfl rfl dL_exits_16 hPN1 ⟨rfl, rfl⟩
    replace h := ifF hc0 h
    cases h
theorem v_L_exits {x1 : Int32} {x2 : Int32} {M z} (hP : Lay M) (h : d_L_exits x1 x2 M = some z) : CC Lay k_L_exits [.ref 1, .int x1, .int x2, .ref 127] M z.2 (Qv (some (.int z.1)) z.2) xF :=
  CC.ofVV (by decide) rfl (Nat.le_of_ble_eq_true rfl) (b_L_exits hP h)
theorem b_L_sideOf {x1 : Int32} {x2 : Int32} {M z} (hP : Lay M) (h : d_L_sideOf x1 x2 M = some z) : VV Lay k_L_sideOf 0 [(0, .ref 1), (1, .int x1), (2, .int x2), (3, .ref 127)] [] M z.2 (Qv (some (.int z.1)) z.2) xF := by
  unfold d_L_sideOf at h
  refine Y_aload_n (pc := 0) (j := 3) dL_sideOf_0 rfl rfl ?_
  refine Y_iconst (pc := 1) (v := (0 : Int32)) dL_sideOf_1 rfl ?_
  refine Y_aload_n (pc := 2) (j := 0) dL_sideOf_2 rfl rfl ?_
  refine Y_iload_n (pc := 3) (j := 1) dL_sideOf_3 rfl rfl ?_
  refine Y_iload_n (pc := 4) (j := 2) dL_sideOf_4 rfl rfl ?_
  obtain ⟨y1, qy1, h⟩ := bindE h
  have cy1 := v_X11_sideOf hP qy1
  have hPN1 := cy1.1.1
  obtain ⟨y1 | E1, N1⟩ := y1
  · replace h := id h
    refine C_V2r (k' := k_X11_sideOf) dL_sideOf_5 w8_1 i_X11_sideOf (lk_1 hP) ⟨Nat.le_of_ble_eq_true rfl, Nat.le_of_ble_eq_true rfl⟩ rfl (Nat.le_of_ble_eq_true rfl) (Nat.le_of_ble_eq_true rfl) (Nat.le_of_ble_eq_true rfl) (CC.ri cy1) ?_
    refine Y_i2l (pc := 8) dL_sideOf_8 ?_
    refine Y_last (pc := 9) dL_sideOf_9 (lk_127 hPN1) (ln_127 hPN1) (vp_lit (by decide)) ?_
    obtain ⟨M1, eM1, h⟩ := bndE h
    refine VV.mem eM1 ?_
    have hP1 := hPN1.wL eM1
    refine Y_goto (pc := 10) (tgt := 21) dL_sideOf_10 (by decide) ?_
    refine Y_iconst (pc := 21) (v := (0 : Int32)) dL_sideOf_21 rfl ?_
    cases h
    exact Y_iret (pc := 22) rfl rfl dL_sideOf_22 hP1 ⟨rfl, rfl⟩
  · replace h := id h
    by_cases hc0 : E1 = "java/lang/IndexOutOfBoundsException"
    · replace h := ifT hc0 h
      subst hc0
      refine C_V2x (k' := k_X11_sideOf) dL_sideOf_5 w8_1 i_X11_sideOf (lk_1 hP) ⟨Nat.le_of_ble_eq_true rfl, Nat.le_of_ble_eq_true rfl⟩ rfl (Nat.le_of_ble_eq_true rfl) (Nat.le_of_ble_eq_true rfl) (Nat.le_of_ble_eq_true rfl) (cy1.mono id (QSr rfl) (XSr rfl)) ?_
      refine Y_catch (E := "java/lang/IndexOutOfBoundsException") (i := 4) (pre := []) (suf := [(0, 10, 17, 36)]) (lv1 := [(0, .ref 1), (1, .int x1), (2, .int x2), (3, .ref 127)]) rfl hp_nil (by decide) (by decide) w3_223 (List.mem_of_getElem? (i := 12) rfl) dL_sideOf_13 (by decide) rfl ?_
      refine Y_iconst (pc := 15) (v := (1 : Int32)) dL_sideOf_15 rfl ?_
      cases h
      exact Y_iret (pc := 16) rfl rfl dL_sideOf_16 hPN1 ⟨rfl, rfl⟩
    replace h := ifF hc0 h
    by_cases hc1 : E1 = "java/util/NoSuchElementException"
    · replace h := ifT hc1 h
      subst hc1
      refine C_V2x (k' := k_X11_sideOf) dL_sideOf_5 w8_1 i_X11_sideOf (lk_1 hP) ⟨Nat.le_of_ble_eq_true rfl, Nat.le_of_ble_eq_true rfl⟩ rfl (Nat.le_of_ble_eq_true rfl) (Nat.le_of_ble_eq_true rfl) (Nat.le_of_ble_eq_true rfl) (cy1.mono id (QSr rfl) (XSr rfl)) ?_
      refine Y_catch (E := "java/util/NoSuchElementException") (i := 4) (pre := [(0, 10, 13, 21)]) (suf := []) (lv1 := [(0, .ref 1), (1, .int x1), (2, .int x2), (3, .ref 127)]) rfl (hp_cons (by decide) w3_223 (List.mem_of_getElem? (i := 13) rfl) hp_nil) (by decide) (by decide) w4_188 (List.mem_of_getElem? (i := 15) rfl) dL_sideOf_17 (by decide) rfl ?_
      refine Y_iconst (pc := 19) (v := (2 : Int32)) dL_sideOf_19 rfl ?_
      cases h
      exact Y_iret (pc := 20) rfl rfl dL_sideOf_20 hPN1 ⟨rfl, rfl⟩
    replace h := ifF hc1 h
    cases h
theorem v_L_sideOf {x1 : Int32} {x2 : Int32} {M z} (hP : Lay M) (h : d_L_sideOf x1 x2 M = some z) : CC Lay k_L_sideOf [.ref 1, .int x1, .int x2, .ref 127] M z.2 (Qv (some (.int z.1)) z.2) xF :=
  CC.ofVV (by decide) rfl (Nat.le_of_ble_eq_true rfl) (b_L_sideOf hP h)
theorem b_L_rootOf {x1 : Int32} {M z} (hP : Lay M) (h : d_L_rootOf x1 M = some z) : VV Lay k_L_rootOf 0 [(0, .ref 1), (1, .int x1), (2, .ref 127)] [] M z.2 (Qv (some (.int z.1)) z.2) xF := by
  unfold d_L_rootOf at h
  refine Y_aload_n (pc := 0) (j := 2) dL_rootOf_0 rfl rfl ?_
  refine Y_iconst (pc := 1) (v := (0 : Int32)) dL_rootOf_1 rfl ?_
  refine Y_aload_n (pc := 2) (j := 0) dL_rootOf_2 rfl rfl ?_
  refine Y_iload_n (pc := 3) (j := 1) dL_rootOf_3 rfl rfl ?_
  obtain ⟨y1, qy1, h⟩ := bindE h
  have cy1 := v_X11_rootOf hP qy1
  have hPN1 := cy1.1.1
  obtain ⟨y1 | E1, N1⟩ := y1
  · replace h := id h
    refine C_V1r (k' := k_X11_rootOf) dL_rootOf_4 w8_9 i_X11_rootOf (lk_1 hP) ⟨Nat.le_of_ble_eq_true rfl, Nat.le_of_ble_eq_true rfl⟩ rfl (Nat.le_of_ble_eq_true rfl) (Nat.le_of_ble_eq_true rfl) (Nat.le_of_ble_eq_true rfl) (CC.ri cy1) ?_
    refine Y_i2l (pc := 7) dL_rootOf_7 ?_
    refine Y_last (pc := 8) dL_rootOf_8 (lk_127 hPN1) (ln_127 hPN1) (vp_lit (by decide)) ?_
    obtain ⟨M1, eM1, h⟩ := bndE h
    refine VV.mem eM1 ?_
    have hP1 := hPN1.wL eM1
    refine Y_goto (pc := 9) (tgt := 15) dL_rootOf_9 (by decide) ?_
    refine Y_iconst (pc := 15) (v := (0 : Int32)) dL_rootOf_15 rfl ?_
    cases h
    exact Y_iret (pc := 16) rfl rfl dL_rootOf_16 hP1 ⟨rfl, rfl⟩
  · replace h := id h
    by_cases hc0 : E1 = "java/lang/IndexOutOfBoundsException"
    · replace h := ifT hc0 h
      subst hc0
      refine C_V1x (k' := k_X11_rootOf) dL_rootOf_4 w8_9 i_X11_rootOf (lk_1 hP) ⟨Nat.le_of_ble_eq_true rfl, Nat.le_of_ble_eq_true rfl⟩ rfl (Nat.le_of_ble_eq_true rfl) (Nat.le_of_ble_eq_true rfl) (Nat.le_of_ble_eq_true rfl) (cy1.mono id (QSr rfl) (XSr rfl)) ?_
      refine Y_catch_n (E := "java/lang/IndexOutOfBoundsException") (i := 3) (pre := []) (suf := []) (lv1 := [(0, .ref 1), (1, .int x1), (2, .ref 127)]) rfl hp_nil (by decide) (by decide) w3_223 (List.mem_of_getElem? (i := 12) rfl) dL_rootOf_12 rfl (by decide) rfl ?_
      refine Y_iconst (pc := 13) (v := (1 : Int32)) dL_rootOf_13 rfl ?_
      cases h
      exact Y_iret (pc := 14) rfl rfl dL_rootOf_14 hPN1 ⟨rfl, rfl⟩
    replace h := ifF hc0 h
    cases h
theorem v_L_rootOf {x1 : Int32} {M z} (hP : Lay M) (h : d_L_rootOf x1 M = some z) : CC Lay k_L_rootOf [.ref 1, .int x1, .ref 127] M z.2 (Qv (some (.int z.1)) z.2) xF :=
  CC.ofVV (by decide) rfl (Nat.le_of_ble_eq_true rfl) (b_L_rootOf hP h)
theorem b_L_begun {x1 : Int32} {M z} (hP : Lay M) (h : d_L_begun x1 M = some z) : VV Lay k_L_begun 0 [(0, .ref 1), (1, .int x1), (2, .ref 127)] [] M z.2 (Qv (some (.int z.1)) z.2) xF := by
  unfold d_L_begun at h
  refine Y_aload_n (pc := 0) (j := 2) dL_begun_0 rfl rfl ?_
  refine Y_iconst (pc := 1) (v := (0 : Int32)) dL_begun_1 rfl ?_
  refine Y_aload_n (pc := 2) (j := 0) dL_begun_2 rfl rfl ?_
  refine Y_iload_n (pc := 3) (j := 1) dL_begun_3 rfl rfl ?_
  obtain ⟨y1, qy1, h⟩ := bindE h
  have cy1 := v_X11_begun hP qy1
  have hPN1 := cy1.1.1
  obtain ⟨y1 | E1, N1⟩ := y1
  · replace h := id h
    refine C_V1r (k' := k_X11_begun) dL_begun_4 w8_16 i_X11_begun (lk_1 hP) ⟨Nat.le_of_ble_eq_true rfl, Nat.le_of_ble_eq_true rfl⟩ rfl (Nat.le_of_ble_eq_true rfl) (Nat.le_of_ble_eq_true rfl) (Nat.le_of_ble_eq_true rfl) (CC.ri cy1) ?_
    refine Y_i2l (pc := 7) dL_begun_7 ?_
    refine Y_last (pc := 8) dL_begun_8 (lk_127 hPN1) (ln_127 hPN1) (vp_lit (by decide)) ?_
    obtain ⟨M1, eM1, h⟩ := bndE h
    refine VV.mem eM1 ?_
    have hP1 := hPN1.wL eM1
    refine Y_goto (pc := 9) (tgt := 15) dL_begun_9 (by decide) ?_
    refine Y_iconst (pc := 15) (v := (0 : Int32)) dL_begun_15 rfl ?_
    cases h
    exact Y_iret (pc := 16) rfl rfl dL_begun_16 hP1 ⟨rfl, rfl⟩
  · replace h := id h
    by_cases hc0 : E1 = "java/lang/IndexOutOfBoundsException"
    · replace h := ifT hc0 h
      subst hc0
      refine C_V1x (k' := k_X11_begun) dL_begun_4 w8_16 i_X11_begun (lk_1 hP) ⟨Nat.le_of_ble_eq_true rfl, Nat.le_of_ble_eq_true rfl⟩ rfl (Nat.le_of_ble_eq_true rfl) (Nat.le_of_ble_eq_true rfl) (Nat.le_of_ble_eq_true rfl) (cy1.mono id (QSr rfl) (XSr rfl)) ?_
      refine Y_catch_n (E := "java/lang/IndexOutOfBoundsException") (i := 3) (pre := []) (suf := []) (lv1 := [(0, .ref 1), (1, .int x1), (2, .ref 127)]) rfl hp_nil (by decide) (by decide) w3_223 (List.mem_of_getElem? (i := 12) rfl) dL_begun_12 rfl (by decide) rfl ?_
      refine Y_iconst (pc := 13) (v := (1 : Int32)) dL_begun_13 rfl ?_
      cases h
      exact Y_iret (pc := 14) rfl rfl dL_begun_14 hPN1 ⟨rfl, rfl⟩
    replace h := ifF hc0 h
    cases h
theorem v_L_begun {x1 : Int32} {M z} (hP : Lay M) (h : d_L_begun x1 M = some z) : CC Lay k_L_begun [.ref 1, .int x1, .ref 127] M z.2 (Qv (some (.int z.1)) z.2) xF :=
  CC.ofVV (by decide) rfl (Nat.le_of_ble_eq_true rfl) (b_L_begun hP h)
theorem b_L_tracedShare {M z} (hP : Lay M) (h : d_L_tracedShare M = some z) : VV Lay k_L_tracedShare 0 [(0, .ref 1), (1, .ref 128)] [] M z.2 (Qv (some (.int z.1)) z.2) xF := by
  unfold d_L_tracedShare at h
  refine Y_aload_n (pc := 0) (j := 1) dL_tracedShare_0 rfl rfl ?_
  refine Y_iconst (pc := 1) (v := (0 : Int32)) dL_tracedShare_1 rfl ?_
  refine Y_aload_n (pc := 2) (j := 0) dL_tracedShare_2 rfl rfl ?_
  obtain ⟨y1, qy1, h⟩ := bindE h
  have cy1 := v_X11_tracedShare hP qy1
  have hPN1 := cy1.1.1
  obtain ⟨y1 | E1, N1⟩ := y1
  · replace h := id h
    refine C_V0r (k' := k_X11_tracedShare) dL_tracedShare_3 w8_37 i_X11_tracedShare (lk_1 hP) ⟨Nat.le_of_ble_eq_true rfl, Nat.le_of_ble_eq_true rfl⟩ rfl (Nat.le_of_ble_eq_true rfl) (Nat.le_of_ble_eq_true rfl) (Nat.le_of_ble_eq_true rfl) (CC.rf cy1) ?_
    obtain ⟨hb1, h⟩ := okE h
    refine Y_f2d (pc := 6) dL_tracedShare_6 hb1 ?_
    refine Y_dast (pc := 7) dL_tracedShare_7 (lk_128 hPN1) (ln_128 hPN1) (vp_lit (by decide)) ?_
    obtain ⟨M1, eM1, h⟩ := bndE h
    refine VV.mem eM1 ?_
    have hP1 := hPN1.wD eM1
    refine Y_goto (pc := 8) (tgt := 14) dL_tracedShare_8 (by decide) ?_
    refine Y_iconst (pc := 14) (v := (0 : Int32)) dL_tracedShare_14 rfl ?_
    cases h
    exact Y_iret (pc := 15) rfl rfl dL_tracedShare_15 hP1 ⟨rfl, rfl⟩
  · replace h := id h
    by_cases hc0 : E1 = "java/lang/ArithmeticException"
    · replace h := ifT hc0 h
      subst hc0
      refine C_V0x (k' := k_X11_tracedShare) dL_tracedShare_3 w8_37 i_X11_tracedShare (lk_1 hP) ⟨Nat.le_of_ble_eq_true rfl, Nat.le_of_ble_eq_true rfl⟩ rfl (Nat.le_of_ble_eq_true rfl) (Nat.le_of_ble_eq_true rfl) (Nat.le_of_ble_eq_true rfl) (cy1.mono id (QSr rfl) (XSr rfl)) ?_
      refine Y_catch_n (E := "java/lang/ArithmeticException") (i := 2) (pre := []) (suf := []) (lv1 := [(0, .ref 1), (1, .ref 128)]) rfl hp_nil (by decide) (by decide) w8_23 (List.mem_of_getElem? (i := 21) rfl) dL_tracedShare_11 rfl (by decide) rfl ?_
      refine Y_iconst (pc := 12) (v := (1 : Int32)) dL_tracedShare_12 rfl ?_
      cases h
      exact Y_iret (pc := 13) rfl rfl dL_tracedShare_13 hPN1 ⟨rfl, rfl⟩
    replace h := ifF hc0 h
    cases h
theorem v_L_tracedShare {M z} (hP : Lay M) (h : d_L_tracedShare M = some z) : CC Lay k_L_tracedShare [.ref 1, .ref 128] M z.2 (Qv (some (.int z.1)) z.2) xF :=
  CC.ofVV (by decide) rfl (Nat.le_of_ble_eq_true rfl) (b_L_tracedShare hP h)
theorem b_L_meanGuards {M z} (hP : Lay M) (h : d_L_meanGuards M = some z) : VV Lay k_L_meanGuards 0 [(0, .ref 1), (1, .ref 128)] [] M z.2 (Qv (some (.int z.1)) z.2) xF := by
  unfold d_L_meanGuards at h
  refine Y_aload_n (pc := 0) (j := 1) dL_meanGuards_0 rfl rfl ?_
  refine Y_iconst (pc := 1) (v := (0 : Int32)) dL_meanGuards_1 rfl ?_
  refine Y_aload_n (pc := 2) (j := 0) dL_meanGuards_2 rfl rfl ?_
  obtain ⟨y1, qy1, h⟩ := bindE h
  have cy1 := v_X11_meanGuards hP qy1
  have hPN1 := cy1.1.1
  obtain ⟨y1 | E1, N1⟩ := y1
  · replace h := id h
    refine C_V0r (k' := k_X11_meanGuards) dL_meanGuards_3 w8_47 i_X11_meanGuards (lk_1 hP) ⟨Nat.le_of_ble_eq_true rfl, Nat.le_of_ble_eq_true rfl⟩ rfl (Nat.le_of_ble_eq_true rfl) (Nat.le_of_ble_eq_true rfl) (Nat.le_of_ble_eq_true rfl) (CC.rd cy1) ?_
    refine Y_dast (pc := 6) dL_meanGuards_6 (lk_128 hPN1) (ln_128 hPN1) (vp_lit (by decide)) ?_
    obtain ⟨M1, eM1, h⟩ := bndE h
    refine VV.mem eM1 ?_
    have hP1 := hPN1.wD eM1
    refine Y_goto (pc := 7) (tgt := 13) dL_meanGuards_7 (by decide) ?_
    refine Y_iconst (pc := 13) (v := (0 : Int32)) dL_meanGuards_13 rfl ?_
    cases h
    exact Y_iret (pc := 14) rfl rfl dL_meanGuards_14 hP1 ⟨rfl, rfl⟩
  · replace h := id h
    by_cases hc0 : E1 = "java/lang/ArithmeticException"
    · replace h := ifT hc0 h
      subst hc0
      refine C_V0x (k' := k_X11_meanGuards) dL_meanGuards_3 w8_47 i_X11_meanGuards (lk_1 hP) ⟨Nat.le_of_ble_eq_true rfl, Nat.le_of_ble_eq_true rfl⟩ rfl (Nat.le_of_ble_eq_true rfl) (Nat.le_of_ble_eq_true rfl) (Nat.le_of_ble_eq_true rfl) (cy1.mono id (QSr rfl) (XSr rfl)) ?_
      refine Y_catch_n (E := "java/lang/ArithmeticException") (i := 2) (pre := []) (suf := []) (lv1 := [(0, .ref 1), (1, .ref 128)]) rfl hp_nil (by decide) (by decide) w8_23 (List.mem_of_getElem? (i := 21) rfl) dL_meanGuards_10 rfl (by decide) rfl ?_
      refine Y_iconst (pc := 11) (v := (1 : Int32)) dL_meanGuards_11 rfl ?_
      cases h
      exact Y_iret (pc := 12) rfl rfl dL_meanGuards_12 hPN1 ⟨rfl, rfl⟩
    replace h := ifF hc0 h
    cases h
theorem v_L_meanGuards {M z} (hP : Lay M) (h : d_L_meanGuards M = some z) : CC Lay k_L_meanGuards [.ref 1, .ref 128] M z.2 (Qv (some (.int z.1)) z.2) xF :=
  CC.ofVV (by decide) rfl (Nat.le_of_ble_eq_true rfl) (b_L_meanGuards hP h)
theorem b_L_law_2621 {k28 : (Int32) → Mem → Option (Int32 × Mem)} {x5 : Int32} {M z} (hk28 : ∀ (a : (Int32)) (M : Mem) (z : Int32 × Mem), Lay M → k28 a M = some z → VV Lay k_L_law 28 [(0, .ref 0), (1, .ref 1), (2, .ref 69), (3, .ref 127), (4, .ref 128), (5, .int a)] [] M z.2 (Qv (some (.int z.1)) z.2) xF) (hP : Lay M) (h : d_L_law_2621 k28 x5 M = some z) : VV Lay k_L_law 2621 [(0, .ref 0), (1, .ref 1), (2, .ref 69), (3, .ref 127), (4, .ref 128), (5, .int x5)] [] M z.2 (Qv (some (.int z.1)) z.2) xF := by
  unfold d_L_law_2621 at h
  obtain ⟨b1, eb1, h⟩ := bndE h
  refine Y_iinc (pc := 2621) (j := 5) (v := b1) (lv1 := [(5, .int b1), (0, .ref 0), (1, .ref 1), (2, .ref 69), (3, .ref 127), (4, .ref 128)]) dL_law_2621 rfl eb1.symm (by decide) rfl ?_
  refine Y_goto (pc := 2624) (tgt := 28) dL_law_2624 (by decide) ?_
  refine VV.sub [1, 2, 3, 4, 5, 0] rfl ?_
  exact hk28 _ _ _ hP h
theorem b_L_law_293 {k28 : (Int32) → Mem → Option (Int32 × Mem)} {x5 : Int32} {M z} (hk28 : ∀ (a : (Int32)) (M : Mem) (z : Int32 × Mem), Lay M → k28 a M = some z → VV Lay k_L_law 28 [(0, .ref 0), (1, .ref 1), (2, .ref 69), (3, .ref 127), (4, .ref 128), (5, .int a)] [] M z.2 (Qv (some (.int z.1)) z.2) xF) (hP : Lay M) (h : d_L_law_293 k28 x5 M = some z) : VV Lay k_L_law 293 [(0, .ref 0), (1, .ref 1), (2, .ref 69), (3, .ref 127), (4, .ref 128), (5, .int x5)] [] M z.2 (Qv (some (.int z.1)) z.2) xF := by
  unfold d_L_law_293 at h
  refine Y_goto (pc := 293) (tgt := 2621) dL_law_293 (by decide) ?_
  refine VV.sub [0, 1, 2, 3, 4, 5] rfl ?_
  exact b_L_law_2621 hk28 hP h
theorem b_L_law_375 {k28 : (Int32) → Mem → Option (Int32 × Mem)} {x5 : Int32} {M z} (hk28 : ∀ (a : (Int32)) (M : Mem) (z : Int32 × Mem), Lay M → k28 a M = some z → VV Lay k_L_law 28 [(0, .ref 0), (1, .ref 1), (2, .ref 69), (3, .ref 127), (4, .ref 128), (5, .int a)] [] M z.2 (Qv (some (.int z.1)) z.2) xF) (hP : Lay M) (h : d_L_law_375 k28 x5 M = some z) : VV Lay k_L_law 375 [(0, .ref 0), (1, .ref 1), (2, .ref 69), (3, .ref 127), (4, .ref 128), (5, .int x5)] [] M z.2 (Qv (some (.int z.1)) z.2) xF := by
  unfold d_L_law_375 at h
  refine Y_goto (pc := 375) (tgt := 2621) dL_law_375 (by decide) ?_
  refine VV.sub [0, 1, 2, 3, 4, 5] rfl ?_
  exact b_L_law_2621 hk28 hP h
theorem b_L_law_443 {k28 : (Int32) → Mem → Option (Int32 × Mem)} {x5 : Int32} {M z} (hk28 : ∀ (a : (Int32)) (M : Mem) (z : Int32 × Mem), Lay M → k28 a M = some z → VV Lay k_L_law 28 [(0, .ref 0), (1, .ref 1), (2, .ref 69), (3, .ref 127), (4, .ref 128), (5, .int a)] [] M z.2 (Qv (some (.int z.1)) z.2) xF) (hP : Lay M) (h : d_L_law_443 k28 x5 M = some z) : VV Lay k_L_law 443 [(0, .ref 0), (1, .ref 1), (2, .ref 69), (3, .ref 127), (4, .ref 128), (5, .int x5)] [] M z.2 (Qv (some (.int z.1)) z.2) xF := by
  unfold d_L_law_443 at h
  refine Y_goto (pc := 443) (tgt := 2621) dL_law_443 (by decide) ?_
  refine VV.sub [0, 1, 2, 3, 4, 5] rfl ?_
  exact b_L_law_2621 hk28 hP h
theorem b_L_law_499 {k28 : (Int32) → Mem → Option (Int32 × Mem)} {x5 : Int32} {M z} (hk28 : ∀ (a : (Int32)) (M : Mem) (z : Int32 × Mem), Lay M → k28 a M = some z → VV Lay k_L_law 28 [(0, .ref 0), (1, .ref 1), (2, .ref 69), (3, .ref 127), (4, .ref 128), (5, .int a)] [] M z.2 (Qv (some (.int z.1)) z.2) xF) (hP : Lay M) (h : d_L_law_499 k28 x5 M = some z) : VV Lay k_L_law 499 [(0, .ref 0), (1, .ref 1), (2, .ref 69), (3, .ref 127), (4, .ref 128), (5, .int x5)] [] M z.2 (Qv (some (.int z.1)) z.2) xF := by
  unfold d_L_law_499 at h
  refine Y_goto (pc := 499) (tgt := 2621) dL_law_499 (by decide) ?_
  refine VV.sub [0, 1, 2, 3, 4, 5] rfl ?_
  exact b_L_law_2621 hk28 hP h
theorem b_L_law_579 {k28 : (Int32) → Mem → Option (Int32 × Mem)} {x5 : Int32} {M z} (hk28 : ∀ (a : (Int32)) (M : Mem) (z : Int32 × Mem), Lay M → k28 a M = some z → VV Lay k_L_law 28 [(0, .ref 0), (1, .ref 1), (2, .ref 69), (3, .ref 127), (4, .ref 128), (5, .int a)] [] M z.2 (Qv (some (.int z.1)) z.2) xF) (hP : Lay M) (h : d_L_law_579 k28 x5 M = some z) : VV Lay k_L_law 579 [(0, .ref 0), (1, .ref 1), (2, .ref 69), (3, .ref 127), (4, .ref 128), (5, .int x5)] [] M z.2 (Qv (some (.int z.1)) z.2) xF := by
  unfold d_L_law_579 at h
  refine Y_goto (pc := 579) (tgt := 2621) dL_law_579 (by decide) ?_
  refine VV.sub [0, 1, 2, 3, 4, 5] rfl ?_
  exact b_L_law_2621 hk28 hP h
theorem b_L_law_647 {k28 : (Int32) → Mem → Option (Int32 × Mem)} {x5 : Int32} {M z} (hk28 : ∀ (a : (Int32)) (M : Mem) (z : Int32 × Mem), Lay M → k28 a M = some z → VV Lay k_L_law 28 [(0, .ref 0), (1, .ref 1), (2, .ref 69), (3, .ref 127), (4, .ref 128), (5, .int a)] [] M z.2 (Qv (some (.int z.1)) z.2) xF) (hP : Lay M) (h : d_L_law_647 k28 x5 M = some z) : VV Lay k_L_law 647 [(0, .ref 0), (1, .ref 1), (2, .ref 69), (3, .ref 127), (4, .ref 128), (5, .int x5)] [] M z.2 (Qv (some (.int z.1)) z.2) xF := by
  unfold d_L_law_647 at h
  refine Y_goto (pc := 647) (tgt := 2621) dL_law_647 (by decide) ?_
  refine VV.sub [0, 1, 2, 3, 4, 5] rfl ?_
  exact b_L_law_2621 hk28 hP h
theorem b_L_law_727 {k28 : (Int32) → Mem → Option (Int32 × Mem)} {x5 : Int32} {M z} (hk28 : ∀ (a : (Int32)) (M : Mem) (z : Int32 × Mem), Lay M → k28 a M = some z → VV Lay k_L_law 28 [(0, .ref 0), (1, .ref 1), (2, .ref 69), (3, .ref 127), (4, .ref 128), (5, .int a)] [] M z.2 (Qv (some (.int z.1)) z.2) xF) (hP : Lay M) (h : d_L_law_727 k28 x5 M = some z) : VV Lay k_L_law 727 [(0, .ref 0), (1, .ref 1), (2, .ref 69), (3, .ref 127), (4, .ref 128), (5, .int x5)] [] M z.2 (Qv (some (.int z.1)) z.2) xF := by
  unfold d_L_law_727 at h
  refine Y_goto (pc := 727) (tgt := 2621) dL_law_727 (by decide) ?_
  refine VV.sub [0, 1, 2, 3, 4, 5] rfl ?_
  exact b_L_law_2621 hk28 hP h
theorem b_L_law_795 {k28 : (Int32) → Mem → Option (Int32 × Mem)} {x5 : Int32} {M z} (hk28 : ∀ (a : (Int32)) (M : Mem) (z : Int32 × Mem), Lay M → k28 a M = some z → VV Lay k_L_law 28 [(0, .ref 0), (1, .ref 1), (2, .ref 69), (3, .ref 127), (4, .ref 128), (5, .int a)] [] M z.2 (Qv (some (.int z.1)) z.2) xF) (hP : Lay M) (h : d_L_law_795 k28 x5 M = some z) : VV Lay k_L_law 795 [(0, .ref 0), (1, .ref 1), (2, .ref 69), (3, .ref 127), (4, .ref 128), (5, .int x5)] [] M z.2 (Qv (some (.int z.1)) z.2) xF := by
  unfold d_L_law_795 at h
  refine Y_goto (pc := 795) (tgt := 2621) dL_law_795 (by decide) ?_
  refine VV.sub [0, 1, 2, 3, 4, 5] rfl ?_
  exact b_L_law_2621 hk28 hP h
theorem b_L_law_852 {k28 : (Int32) → Mem → Option (Int32 × Mem)} {x5 : Int32} {M z} (hk28 : ∀ (a : (Int32)) (M : Mem) (z : Int32 × Mem), Lay M → k28 a M = some z → VV Lay k_L_law 28 [(0, .ref 0), (1, .ref 1), (2, .ref 69), (3, .ref 127), (4, .ref 128), (5, .int a)] [] M z.2 (Qv (some (.int z.1)) z.2) xF) (hP : Lay M) (h : d_L_law_852 k28 x5 M = some z) : VV Lay k_L_law 852 [(0, .ref 0), (1, .ref 1), (2, .ref 69), (3, .ref 127), (4, .ref 128), (5, .int x5)] [] M z.2 (Qv (some (.int z.1)) z.2) xF := by
  unfold d_L_law_852 at h
  refine Y_goto (pc := 852) (tgt := 2621) dL_law_852 (by decide) ?_
  refine VV.sub [0, 1, 2, 3, 4, 5] rfl ?_
  exact b_L_law_2621 hk28 hP h
theorem b_L_law_895 {k28 : (Int32) → Mem → Option (Int32 × Mem)} {x5 : Int32} {M z} (hk28 : ∀ (a : (Int32)) (M : Mem) (z : Int32 × Mem), Lay M → k28 a M = some z → VV Lay k_L_law 28 [(0, .ref 0), (1, .ref 1), (2, .ref 69), (3, .ref 127), (4, .ref 128), (5, .int a)] [] M z.2 (Qv (some (.int z.1)) z.2) xF) (hP : Lay M) (h : d_L_law_895 k28 x5 M = some z) : VV Lay k_L_law 895 [(0, .ref 0), (1, .ref 1), (2, .ref 69), (3, .ref 127), (4, .ref 128), (5, .int x5)] [] M z.2 (Qv (some (.int z.1)) z.2) xF := by
  unfold d_L_law_895 at h
  refine Y_goto (pc := 895) (tgt := 2621) dL_law_895 (by decide) ?_
  refine VV.sub [0, 1, 2, 3, 4, 5] rfl ?_
  exact b_L_law_2621 hk28 hP h
theorem b_L_law_939 {k28 : (Int32) → Mem → Option (Int32 × Mem)} {x5 : Int32} {M z} (hk28 : ∀ (a : (Int32)) (M : Mem) (z : Int32 × Mem), Lay M → k28 a M = some z → VV Lay k_L_law 28 [(0, .ref 0), (1, .ref 1), (2, .ref 69), (3, .ref 127), (4, .ref 128), (5, .int a)] [] M z.2 (Qv (some (.int z.1)) z.2) xF) (hP : Lay M) (h : d_L_law_939 k28 x5 M = some z) : VV Lay k_L_law 939 [(0, .ref 0), (1, .ref 1), (2, .ref 69), (3, .ref 127), (4, .ref 128), (5, .int x5)] [] M z.2 (Qv (some (.int z.1)) z.2) xF := by
  unfold d_L_law_939 at h
  refine Y_goto (pc := 939) (tgt := 2621) dL_law_939 (by decide) ?_
  refine VV.sub [0, 1, 2, 3, 4, 5] rfl ?_
  exact b_L_law_2621 hk28 hP h
theorem b_L_law_983 {k28 : (Int32) → Mem → Option (Int32 × Mem)} {x5 : Int32} {M z} (hk28 : ∀ (a : (Int32)) (M : Mem) (z : Int32 × Mem), Lay M → k28 a M = some z → VV Lay k_L_law 28 [(0, .ref 0), (1, .ref 1), (2, .ref 69), (3, .ref 127), (4, .ref 128), (5, .int a)] [] M z.2 (Qv (some (.int z.1)) z.2) xF) (hP : Lay M) (h : d_L_law_983 k28 x5 M = some z) : VV Lay k_L_law 983 [(0, .ref 0), (1, .ref 1), (2, .ref 69), (3, .ref 127), (4, .ref 128), (5, .int x5)] [] M z.2 (Qv (some (.int z.1)) z.2) xF := by
  unfold d_L_law_983 at h
  refine Y_goto (pc := 983) (tgt := 2621) dL_law_983 (by decide) ?_
  refine VV.sub [0, 1, 2, 3, 4, 5] rfl ?_
  exact b_L_law_2621 hk28 hP h
theorem b_L_law_1052 {k28 : (Int32) → Mem → Option (Int32 × Mem)} {x5 : Int32} {M z} (hk28 : ∀ (a : (Int32)) (M : Mem) (z : Int32 × Mem), Lay M → k28 a M = some z → VV Lay k_L_law 28 [(0, .ref 0), (1, .ref 1), (2, .ref 69), (3, .ref 127), (4, .ref 128), (5, .int a)] [] M z.2 (Qv (some (.int z.1)) z.2) xF) (hP : Lay M) (h : d_L_law_1052 k28 x5 M = some z) : VV Lay k_L_law 1052 [(0, .ref 0), (1, .ref 1), (2, .ref 69), (3, .ref 127), (4, .ref 128), (5, .int x5)] [] M z.2 (Qv (some (.int z.1)) z.2) xF := by
  unfold d_L_law_1052 at h
  refine Y_goto (pc := 1052) (tgt := 2621) dL_law_1052 (by decide) ?_
  refine VV.sub [0, 1, 2, 3, 4, 5] rfl ?_
  exact b_L_law_2621 hk28 hP h
theorem b_L_law_1107 {k28 : (Int32) → Mem → Option (Int32 × Mem)} {x5 : Int32} {M z} (hk28 : ∀ (a : (Int32)) (M : Mem) (z : Int32 × Mem), Lay M → k28 a M = some z → VV Lay k_L_law 28 [(0, .ref 0), (1, .ref 1), (2, .ref 69), (3, .ref 127), (4, .ref 128), (5, .int a)] [] M z.2 (Qv (some (.int z.1)) z.2) xF) (hP : Lay M) (h : d_L_law_1107 k28 x5 M = some z) : VV Lay k_L_law 1107 [(0, .ref 0), (1, .ref 1), (2, .ref 69), (3, .ref 127), (4, .ref 128), (5, .int x5)] [] M z.2 (Qv (some (.int z.1)) z.2) xF := by
  unfold d_L_law_1107 at h
  refine Y_goto (pc := 1107) (tgt := 2621) dL_law_1107 (by decide) ?_
  refine VV.sub [0, 1, 2, 3, 4, 5] rfl ?_
  exact b_L_law_2621 hk28 hP h
theorem b_L_law_1176 {k28 : (Int32) → Mem → Option (Int32 × Mem)} {x5 : Int32} {M z} (hk28 : ∀ (a : (Int32)) (M : Mem) (z : Int32 × Mem), Lay M → k28 a M = some z → VV Lay k_L_law 28 [(0, .ref 0), (1, .ref 1), (2, .ref 69), (3, .ref 127), (4, .ref 128), (5, .int a)] [] M z.2 (Qv (some (.int z.1)) z.2) xF) (hP : Lay M) (h : d_L_law_1176 k28 x5 M = some z) : VV Lay k_L_law 1176 [(0, .ref 0), (1, .ref 1), (2, .ref 69), (3, .ref 127), (4, .ref 128), (5, .int x5)] [] M z.2 (Qv (some (.int z.1)) z.2) xF := by
  unfold d_L_law_1176 at h
  refine Y_goto (pc := 1176) (tgt := 2621) dL_law_1176 (by decide) ?_
  refine VV.sub [0, 1, 2, 3, 4, 5] rfl ?_
  exact b_L_law_2621 hk28 hP h
theorem b_L_law_1243 {k28 : (Int32) → Mem → Option (Int32 × Mem)} {x5 : Int32} {M z} (hk28 : ∀ (a : (Int32)) (M : Mem) (z : Int32 × Mem), Lay M → k28 a M = some z → VV Lay k_L_law 28 [(0, .ref 0), (1, .ref 1), (2, .ref 69), (3, .ref 127), (4, .ref 128), (5, .int a)] [] M z.2 (Qv (some (.int z.1)) z.2) xF) (hP : Lay M) (h : d_L_law_1243 k28 x5 M = some z) : VV Lay k_L_law 1243 [(0, .ref 0), (1, .ref 1), (2, .ref 69), (3, .ref 127), (4, .ref 128), (5, .int x5)] [] M z.2 (Qv (some (.int z.1)) z.2) xF := by
  unfold d_L_law_1243 at h
  refine Y_goto (pc := 1243) (tgt := 2621) dL_law_1243 (by decide) ?_
  refine VV.sub [0, 1, 2, 3, 4, 5] rfl ?_
  exact b_L_law_2621 hk28 hP h
theorem b_L_law_1312 {k28 : (Int32) → Mem → Option (Int32 × Mem)} {x5 : Int32} {M z} (hk28 : ∀ (a : (Int32)) (M : Mem) (z : Int32 × Mem), Lay M → k28 a M = some z → VV Lay k_L_law 28 [(0, .ref 0), (1, .ref 1), (2, .ref 69), (3, .ref 127), (4, .ref 128), (5, .int a)] [] M z.2 (Qv (some (.int z.1)) z.2) xF) (hP : Lay M) (h : d_L_law_1312 k28 x5 M = some z) : VV Lay k_L_law 1312 [(0, .ref 0), (1, .ref 1), (2, .ref 69), (3, .ref 127), (4, .ref 128), (5, .int x5)] [] M z.2 (Qv (some (.int z.1)) z.2) xF := by
  unfold d_L_law_1312 at h
  refine Y_goto (pc := 1312) (tgt := 2621) dL_law_1312 (by decide) ?_
  refine VV.sub [0, 1, 2, 3, 4, 5] rfl ?_
  exact b_L_law_2621 hk28 hP h
theorem b_L_law_1380 {k28 : (Int32) → Mem → Option (Int32 × Mem)} {x5 : Int32} {M z} (hk28 : ∀ (a : (Int32)) (M : Mem) (z : Int32 × Mem), Lay M → k28 a M = some z → VV Lay k_L_law 28 [(0, .ref 0), (1, .ref 1), (2, .ref 69), (3, .ref 127), (4, .ref 128), (5, .int a)] [] M z.2 (Qv (some (.int z.1)) z.2) xF) (hP : Lay M) (h : d_L_law_1380 k28 x5 M = some z) : VV Lay k_L_law 1380 [(0, .ref 0), (1, .ref 1), (2, .ref 69), (3, .ref 127), (4, .ref 128), (5, .int x5)] [] M z.2 (Qv (some (.int z.1)) z.2) xF := by
  unfold d_L_law_1380 at h
  refine Y_goto (pc := 1380) (tgt := 2621) dL_law_1380 (by decide) ?_
  refine VV.sub [0, 1, 2, 3, 4, 5] rfl ?_
  exact b_L_law_2621 hk28 hP h
theorem b_L_law_1448 {k28 : (Int32) → Mem → Option (Int32 × Mem)} {x5 : Int32} {M z} (hk28 : ∀ (a : (Int32)) (M : Mem) (z : Int32 × Mem), Lay M → k28 a M = some z → VV Lay k_L_law 28 [(0, .ref 0), (1, .ref 1), (2, .ref 69), (3, .ref 127), (4, .ref 128), (5, .int a)] [] M z.2 (Qv (some (.int z.1)) z.2) xF) (hP : Lay M) (h : d_L_law_1448 k28 x5 M = some z) : VV Lay k_L_law 1448 [(0, .ref 0), (1, .ref 1), (2, .ref 69), (3, .ref 127), (4, .ref 128), (5, .int x5)] [] M z.2 (Qv (some (.int z.1)) z.2) xF := by
  unfold d_L_law_1448 at h
  refine Y_goto (pc := 1448) (tgt := 2621) dL_law_1448 (by decide) ?_
  refine VV.sub [0, 1, 2, 3, 4, 5] rfl ?_
  exact b_L_law_2621 hk28 hP h
theorem b_L_law_1516 {k28 : (Int32) → Mem → Option (Int32 × Mem)} {x5 : Int32} {M z} (hk28 : ∀ (a : (Int32)) (M : Mem) (z : Int32 × Mem), Lay M → k28 a M = some z → VV Lay k_L_law 28 [(0, .ref 0), (1, .ref 1), (2, .ref 69), (3, .ref 127), (4, .ref 128), (5, .int a)] [] M z.2 (Qv (some (.int z.1)) z.2) xF) (hP : Lay M) (h : d_L_law_1516 k28 x5 M = some z) : VV Lay k_L_law 1516 [(0, .ref 0), (1, .ref 1), (2, .ref 69), (3, .ref 127), (4, .ref 128), (5, .int x5)] [] M z.2 (Qv (some (.int z.1)) z.2) xF := by
  unfold d_L_law_1516 at h
  refine Y_goto (pc := 1516) (tgt := 2621) dL_law_1516 (by decide) ?_
  refine VV.sub [0, 1, 2, 3, 4, 5] rfl ?_
  exact b_L_law_2621 hk28 hP h
theorem b_L_law_1584 {k28 : (Int32) → Mem → Option (Int32 × Mem)} {x5 : Int32} {M z} (hk28 : ∀ (a : (Int32)) (M : Mem) (z : Int32 × Mem), Lay M → k28 a M = some z → VV Lay k_L_law 28 [(0, .ref 0), (1, .ref 1), (2, .ref 69), (3, .ref 127), (4, .ref 128), (5, .int a)] [] M z.2 (Qv (some (.int z.1)) z.2) xF) (hP : Lay M) (h : d_L_law_1584 k28 x5 M = some z) : VV Lay k_L_law 1584 [(0, .ref 0), (1, .ref 1), (2, .ref 69), (3, .ref 127), (4, .ref 128), (5, .int x5)] [] M z.2 (Qv (some (.int z.1)) z.2) xF := by
  unfold d_L_law_1584 at h
  refine Y_goto (pc := 1584) (tgt := 2621) dL_law_1584 (by decide) ?_
  refine VV.sub [0, 1, 2, 3, 4, 5] rfl ?_
  exact b_L_law_2621 hk28 hP h
theorem b_L_law_1652 {k28 : (Int32) → Mem → Option (Int32 × Mem)} {x5 : Int32} {M z} (hk28 : ∀ (a : (Int32)) (M : Mem) (z : Int32 × Mem), Lay M → k28 a M = some z → VV Lay k_L_law 28 [(0, .ref 0), (1, .ref 1), (2, .ref 69), (3, .ref 127), (4, .ref 128), (5, .int a)] [] M z.2 (Qv (some (.int z.1)) z.2) xF) (hP : Lay M) (h : d_L_law_1652 k28 x5 M = some z) : VV Lay k_L_law 1652 [(0, .ref 0), (1, .ref 1), (2, .ref 69), (3, .ref 127), (4, .ref 128), (5, .int x5)] [] M z.2 (Qv (some (.int z.1)) z.2) xF := by
  unfold d_L_law_1652 at h
  refine Y_goto (pc := 1652) (tgt := 2621) dL_law_1652 (by decide) ?_
  refine VV.sub [0, 1, 2, 3, 4, 5] rfl ?_
  exact b_L_law_2621 hk28 hP h
theorem b_L_law_1720 {k28 : (Int32) → Mem → Option (Int32 × Mem)} {x5 : Int32} {M z} (hk28 : ∀ (a : (Int32)) (M : Mem) (z : Int32 × Mem), Lay M → k28 a M = some z → VV Lay k_L_law 28 [(0, .ref 0), (1, .ref 1), (2, .ref 69), (3, .ref 127), (4, .ref 128), (5, .int a)] [] M z.2 (Qv (some (.int z.1)) z.2) xF) (hP : Lay M) (h : d_L_law_1720 k28 x5 M = some z) : VV Lay k_L_law 1720 [(0, .ref 0), (1, .ref 1), (2, .ref 69), (3, .ref 127), (4, .ref 128), (5, .int x5)] [] M z.2 (Qv (some (.int z.1)) z.2) xF := by
  unfold d_L_law_1720 at h
  refine Y_goto (pc := 1720) (tgt := 2621) dL_law_1720 (by decide) ?_
  refine VV.sub [0, 1, 2, 3, 4, 5] rfl ?_
  exact b_L_law_2621 hk28 hP h
theorem b_L_law_1795 {k28 : (Int32) → Mem → Option (Int32 × Mem)} {x5 : Int32} {M z} (hk28 : ∀ (a : (Int32)) (M : Mem) (z : Int32 × Mem), Lay M → k28 a M = some z → VV Lay k_L_law 28 [(0, .ref 0), (1, .ref 1), (2, .ref 69), (3, .ref 127), (4, .ref 128), (5, .int a)] [] M z.2 (Qv (some (.int z.1)) z.2) xF) (hP : Lay M) (h : d_L_law_1795 k28 x5 M = some z) : VV Lay k_L_law 1795 [(0, .ref 0), (1, .ref 1), (2, .ref 69), (3, .ref 127), (4, .ref 128), (5, .int x5)] [] M z.2 (Qv (some (.int z.1)) z.2) xF := by
  unfold d_L_law_1795 at h
  refine Y_goto (pc := 1795) (tgt := 2621) dL_law_1795 (by decide) ?_
  refine VV.sub [0, 1, 2, 3, 4, 5] rfl ?_
  exact b_L_law_2621 hk28 hP h
theorem b_L_law_1789 {k28 : (Int32) → Mem → Option (Int32 × Mem)} {x5 : Int32} {s0 : Int64} {s1 : Int64} {M z} (hk28 : ∀ (a : (Int32)) (M : Mem) (z : Int32 × Mem), Lay M → k28 a M = some z → VV Lay k_L_law 28 [(0, .ref 0), (1, .ref 1), (2, .ref 69), (3, .ref 127), (4, .ref 128), (5, .int a)] [] M z.2 (Qv (some (.int z.1)) z.2) xF) (hP : Lay M) (h : d_L_law_1789 k28 x5 s0 s1 M = some z) : VV Lay k_L_law 1789 [(0, .ref 0), (1, .ref 1), (2, .ref 69), (3, .ref 127), (4, .ref 128), (5, .int x5)] [.long s1, .long s0] M z.2 (Qv (some (.int z.1)) z.2) xF := by
  unfold d_L_law_1789 at h
  refine Y_lcmp (pc := 1789) dL_law_1789 ?_
  refine Y_if_eq (pc := 1790) (tgt := 1795) dL_law_1790 (by decide) (fun hc1 => ?_) (fun hc1 => ?_)
  · replace h := ifT hc1 h
    refine VV.sub [0, 1, 2, 3, 4, 5] rfl ?_
    exact b_L_law_1795 hk28 hP h
  · replace h := ifF hc1 h
    refine Y_iconst (pc := 1793) (v := (0 : Int32)) dL_law_1793 rfl ?_
    cases h
    exact Y_iret (pc := 1794) rfl (nar_bo (by decide)) dL_law_1794 hP ⟨rfl, rfl⟩
theorem b_L_law_1871 {k28 : (Int32) → Mem → Option (Int32 × Mem)} {x5 : Int32} {M z} (hk28 : ∀ (a : (Int32)) (M : Mem) (z : Int32 × Mem), Lay M → k28 a M = some z → VV Lay k_L_law 28 [(0, .ref 0), (1, .ref 1), (2, .ref 69), (3, .ref 127), (4, .ref 128), (5, .int a)] [] M z.2 (Qv (some (.int z.1)) z.2) xF) (hP : Lay M) (h : d_L_law_1871 k28 x5 M = some z) : VV Lay k_L_law 1871 [(0, .ref 0), (1, .ref 1), (2, .ref 69), (3, .ref 127), (4, .ref 128), (5, .int x5)] [] M z.2 (Qv (some (.int z.1)) z.2) xF := by
  unfold d_L_law_1871 at h
  refine Y_goto (pc := 1871) (tgt := 2621) dL_law_1871 (by decide) ?_
  refine VV.sub [0, 1, 2, 3, 4, 5] rfl ?_
  exact b_L_law_2621 hk28 hP h
theorem b_L_law_1865 {k28 : (Int32) → Mem → Option (Int32 × Mem)} {x5 : Int32} {s0 : Int64} {s1 : Int64} {M z} (hk28 : ∀ (a : (Int32)) (M : Mem) (z : Int32 × Mem), Lay M → k28 a M = some z → VV Lay k_L_law 28 [(0, .ref 0), (1, .ref 1), (2, .ref 69), (3, .ref 127), (4, .ref 128), (5, .int a)] [] M z.2 (Qv (some (.int z.1)) z.2) xF) (hP : Lay M) (h : d_L_law_1865 k28 x5 s0 s1 M = some z) : VV Lay k_L_law 1865 [(0, .ref 0), (1, .ref 1), (2, .ref 69), (3, .ref 127), (4, .ref 128), (5, .int x5)] [.long s1, .long s0] M z.2 (Qv (some (.int z.1)) z.2) xF := by
  unfold d_L_law_1865 at h
  refine Y_lcmp (pc := 1865) dL_law_1865 ?_
  refine Y_if_eq (pc := 1866) (tgt := 1871) dL_law_1866 (by decide) (fun hc1 => ?_) (fun hc1 => ?_)
  · replace h := ifT hc1 h
    refine VV.sub [0, 1, 2, 3, 4, 5] rfl ?_
    exact b_L_law_1871 hk28 hP h
  · replace h := ifF hc1 h
    refine Y_iconst (pc := 1869) (v := (0 : Int32)) dL_law_1869 rfl ?_
    cases h
    exact Y_iret (pc := 1870) rfl (nar_bo (by decide)) dL_law_1870 hP ⟨rfl, rfl⟩
theorem b_L_law_1927 {k28 : (Int32) → Mem → Option (Int32 × Mem)} {x5 : Int32} {M z} (hk28 : ∀ (a : (Int32)) (M : Mem) (z : Int32 × Mem), Lay M → k28 a M = some z → VV Lay k_L_law 28 [(0, .ref 0), (1, .ref 1), (2, .ref 69), (3, .ref 127), (4, .ref 128), (5, .int a)] [] M z.2 (Qv (some (.int z.1)) z.2) xF) (hP : Lay M) (h : d_L_law_1927 k28 x5 M = some z) : VV Lay k_L_law 1927 [(0, .ref 0), (1, .ref 1), (2, .ref 69), (3, .ref 127), (4, .ref 128), (5, .int x5)] [] M z.2 (Qv (some (.int z.1)) z.2) xF := by
  unfold d_L_law_1927 at h
  refine Y_goto (pc := 1927) (tgt := 2621) dL_law_1927 (by decide) ?_
  refine VV.sub [0, 1, 2, 3, 4, 5] rfl ?_
  exact b_L_law_2621 hk28 hP h
theorem b_L_law_1995 {k28 : (Int32) → Mem → Option (Int32 × Mem)} {x5 : Int32} {M z} (hk28 : ∀ (a : (Int32)) (M : Mem) (z : Int32 × Mem), Lay M → k28 a M = some z → VV Lay k_L_law 28 [(0, .ref 0), (1, .ref 1), (2, .ref 69), (3, .ref 127), (4, .ref 128), (5, .int a)] [] M z.2 (Qv (some (.int z.1)) z.2) xF) (hP : Lay M) (h : d_L_law_1995 k28 x5 M = some z) : VV Lay k_L_law 1995 [(0, .ref 0), (1, .ref 1), (2, .ref 69), (3, .ref 127), (4, .ref 128), (5, .int x5)] [] M z.2 (Qv (some (.int z.1)) z.2) xF := by
  unfold d_L_law_1995 at h
  refine Y_goto (pc := 1995) (tgt := 2621) dL_law_1995 (by decide) ?_
  refine VV.sub [0, 1, 2, 3, 4, 5] rfl ?_
  exact b_L_law_2621 hk28 hP h
theorem b_L_law_2051 {k28 : (Int32) → Mem → Option (Int32 × Mem)} {x5 : Int32} {M z} (hk28 : ∀ (a : (Int32)) (M : Mem) (z : Int32 × Mem), Lay M → k28 a M = some z → VV Lay k_L_law 28 [(0, .ref 0), (1, .ref 1), (2, .ref 69), (3, .ref 127), (4, .ref 128), (5, .int a)] [] M z.2 (Qv (some (.int z.1)) z.2) xF) (hP : Lay M) (h : d_L_law_2051 k28 x5 M = some z) : VV Lay k_L_law 2051 [(0, .ref 0), (1, .ref 1), (2, .ref 69), (3, .ref 127), (4, .ref 128), (5, .int x5)] [] M z.2 (Qv (some (.int z.1)) z.2) xF := by
  unfold d_L_law_2051 at h
  refine Y_goto (pc := 2051) (tgt := 2621) dL_law_2051 (by decide) ?_
  refine VV.sub [0, 1, 2, 3, 4, 5] rfl ?_
  exact b_L_law_2621 hk28 hP h
theorem b_L_law_2119 {k28 : (Int32) → Mem → Option (Int32 × Mem)} {x5 : Int32} {M z} (hk28 : ∀ (a : (Int32)) (M : Mem) (z : Int32 × Mem), Lay M → k28 a M = some z → VV Lay k_L_law 28 [(0, .ref 0), (1, .ref 1), (2, .ref 69), (3, .ref 127), (4, .ref 128), (5, .int a)] [] M z.2 (Qv (some (.int z.1)) z.2) xF) (hP : Lay M) (h : d_L_law_2119 k28 x5 M = some z) : VV Lay k_L_law 2119 [(0, .ref 0), (1, .ref 1), (2, .ref 69), (3, .ref 127), (4, .ref 128), (5, .int x5)] [] M z.2 (Qv (some (.int z.1)) z.2) xF := by
  unfold d_L_law_2119 at h
  refine Y_goto (pc := 2119) (tgt := 2621) dL_law_2119 (by decide) ?_
  refine VV.sub [0, 1, 2, 3, 4, 5] rfl ?_
  exact b_L_law_2621 hk28 hP h
theorem b_L_law_2187 {k28 : (Int32) → Mem → Option (Int32 × Mem)} {x5 : Int32} {M z} (hk28 : ∀ (a : (Int32)) (M : Mem) (z : Int32 × Mem), Lay M → k28 a M = some z → VV Lay k_L_law 28 [(0, .ref 0), (1, .ref 1), (2, .ref 69), (3, .ref 127), (4, .ref 128), (5, .int a)] [] M z.2 (Qv (some (.int z.1)) z.2) xF) (hP : Lay M) (h : d_L_law_2187 k28 x5 M = some z) : VV Lay k_L_law 2187 [(0, .ref 0), (1, .ref 1), (2, .ref 69), (3, .ref 127), (4, .ref 128), (5, .int x5)] [] M z.2 (Qv (some (.int z.1)) z.2) xF := by
  unfold d_L_law_2187 at h
  refine Y_goto (pc := 2187) (tgt := 2621) dL_law_2187 (by decide) ?_
  refine VV.sub [0, 1, 2, 3, 4, 5] rfl ?_
  exact b_L_law_2621 hk28 hP h
theorem b_L_law_2255 {k28 : (Int32) → Mem → Option (Int32 × Mem)} {x5 : Int32} {M z} (hk28 : ∀ (a : (Int32)) (M : Mem) (z : Int32 × Mem), Lay M → k28 a M = some z → VV Lay k_L_law 28 [(0, .ref 0), (1, .ref 1), (2, .ref 69), (3, .ref 127), (4, .ref 128), (5, .int a)] [] M z.2 (Qv (some (.int z.1)) z.2) xF) (hP : Lay M) (h : d_L_law_2255 k28 x5 M = some z) : VV Lay k_L_law 2255 [(0, .ref 0), (1, .ref 1), (2, .ref 69), (3, .ref 127), (4, .ref 128), (5, .int x5)] [] M z.2 (Qv (some (.int z.1)) z.2) xF := by
  unfold d_L_law_2255 at h
  refine Y_goto (pc := 2255) (tgt := 2621) dL_law_2255 (by decide) ?_
  refine VV.sub [0, 1, 2, 3, 4, 5] rfl ?_
  exact b_L_law_2621 hk28 hP h
theorem b_L_law_2323 {k28 : (Int32) → Mem → Option (Int32 × Mem)} {x5 : Int32} {M z} (hk28 : ∀ (a : (Int32)) (M : Mem) (z : Int32 × Mem), Lay M → k28 a M = some z → VV Lay k_L_law 28 [(0, .ref 0), (1, .ref 1), (2, .ref 69), (3, .ref 127), (4, .ref 128), (5, .int a)] [] M z.2 (Qv (some (.int z.1)) z.2) xF) (hP : Lay M) (h : d_L_law_2323 k28 x5 M = some z) : VV Lay k_L_law 2323 [(0, .ref 0), (1, .ref 1), (2, .ref 69), (3, .ref 127), (4, .ref 128), (5, .int x5)] [] M z.2 (Qv (some (.int z.1)) z.2) xF := by
  unfold d_L_law_2323 at h
  refine Y_goto (pc := 2323) (tgt := 2621) dL_law_2323 (by decide) ?_
  refine VV.sub [0, 1, 2, 3, 4, 5] rfl ?_
  exact b_L_law_2621 hk28 hP h
theorem b_L_law_2379 {k28 : (Int32) → Mem → Option (Int32 × Mem)} {x5 : Int32} {M z} (hk28 : ∀ (a : (Int32)) (M : Mem) (z : Int32 × Mem), Lay M → k28 a M = some z → VV Lay k_L_law 28 [(0, .ref 0), (1, .ref 1), (2, .ref 69), (3, .ref 127), (4, .ref 128), (5, .int a)] [] M z.2 (Qv (some (.int z.1)) z.2) xF) (hP : Lay M) (h : d_L_law_2379 k28 x5 M = some z) : VV Lay k_L_law 2379 [(0, .ref 0), (1, .ref 1), (2, .ref 69), (3, .ref 127), (4, .ref 128), (5, .int x5)] [] M z.2 (Qv (some (.int z.1)) z.2) xF := by
  unfold d_L_law_2379 at h
  refine Y_goto (pc := 2379) (tgt := 2621) dL_law_2379 (by decide) ?_
  refine VV.sub [0, 1, 2, 3, 4, 5] rfl ?_
  exact b_L_law_2621 hk28 hP h
theorem b_L_law_2435 {k28 : (Int32) → Mem → Option (Int32 × Mem)} {x5 : Int32} {M z} (hk28 : ∀ (a : (Int32)) (M : Mem) (z : Int32 × Mem), Lay M → k28 a M = some z → VV Lay k_L_law 28 [(0, .ref 0), (1, .ref 1), (2, .ref 69), (3, .ref 127), (4, .ref 128), (5, .int a)] [] M z.2 (Qv (some (.int z.1)) z.2) xF) (hP : Lay M) (h : d_L_law_2435 k28 x5 M = some z) : VV Lay k_L_law 2435 [(0, .ref 0), (1, .ref 1), (2, .ref 69), (3, .ref 127), (4, .ref 128), (5, .int x5)] [] M z.2 (Qv (some (.int z.1)) z.2) xF := by
  unfold d_L_law_2435 at h
  refine Y_goto (pc := 2435) (tgt := 2621) dL_law_2435 (by decide) ?_
  refine VV.sub [0, 1, 2, 3, 4, 5] rfl ?_
  exact b_L_law_2621 hk28 hP h
theorem b_L_law_2540 {k28 : (Int32) → Mem → Option (Int32 × Mem)} {x5 : Int32} {M z} (hk28 : ∀ (a : (Int32)) (M : Mem) (z : Int32 × Mem), Lay M → k28 a M = some z → VV Lay k_L_law 28 [(0, .ref 0), (1, .ref 1), (2, .ref 69), (3, .ref 127), (4, .ref 128), (5, .int a)] [] M z.2 (Qv (some (.int z.1)) z.2) xF) (hP : Lay M) (h : d_L_law_2540 k28 x5 M = some z) : VV Lay k_L_law 2540 [(0, .ref 0), (1, .ref 1), (2, .ref 69), (3, .ref 127), (4, .ref 128), (5, .int x5)] [] M z.2 (Qv (some (.int z.1)) z.2) xF := by
  unfold d_L_law_2540 at h
  refine Y_goto (pc := 2540) (tgt := 2621) dL_law_2540 (by decide) ?_
  refine VV.sub [0, 1, 2, 3, 4, 5] rfl ?_
  exact b_L_law_2621 hk28 hP h
theorem b_L_law_2605 {k28 : (Int32) → Mem → Option (Int32 × Mem)} {x5 : Int32} {M z} (hk28 : ∀ (a : (Int32)) (M : Mem) (z : Int32 × Mem), Lay M → k28 a M = some z → VV Lay k_L_law 28 [(0, .ref 0), (1, .ref 1), (2, .ref 69), (3, .ref 127), (4, .ref 128), (5, .int a)] [] M z.2 (Qv (some (.int z.1)) z.2) xF) (hP : Lay M) (h : d_L_law_2605 k28 x5 M = some z) : VV Lay k_L_law 2605 [(0, .ref 0), (1, .ref 1), (2, .ref 69), (3, .ref 127), (4, .ref 128), (5, .int x5)] [] M z.2 (Qv (some (.int z.1)) z.2) xF := by
  unfold d_L_law_2605 at h
  refine Y_goto (pc := 2605) (tgt := 2621) dL_law_2605 (by decide) ?_
  refine VV.sub [0, 1, 2, 3, 4, 5] rfl ?_
  exact b_L_law_2621 hk28 hP h
set_option maxRecDepth 20000 in
theorem b_L_law_28b {k28 : (Int32) → Mem → Option (Int32 × Mem)} {x5 : Int32} {M z} (hk28 : ∀ (a : (Int32)) (M : Mem) (z : Int32 × Mem), Lay M → k28 a M = some z → VV Lay k_L_law 28 [(0, .ref 0), (1, .ref 1), (2, .ref 69), (3, .ref 127), (4, .ref 128), (5, .int a)] [] M z.2 (Qv (some (.int z.1)) z.2) xF) (hP : Lay M) (hr : ∀ (x1 x2 x3 : Int32) (y22 y : Int32 × Mem), d_L_run x1 x2 M = some y22 → d_X12_isFunction x3 (sI y22.2 69 0 (0 : Int32)) = some y → y.1 = 0) (h : d_L_law_28b k28 x5 M = some z) : VV Lay k_L_law 28 [(0, .ref 0), (1, .ref 1), (2, .ref 69), (3, .ref 127), (4, .ref 128), (5, .int x5)] [] M z.2 (Qv (some (.int z.1)) z.2) xF := by
  unfold d_L_law_28b at h
  refine Y_iload (pc := 28) (j := 5) dL_law_28 rfl ?_
  refine Y_aload_n (pc := 30) (j := 0) dL_law_30 rfl rfl ?_
  refine Y_alen (pc := 31) dL_law_31 (lk_0 hP) (by decide) ?_
  refine Y_iconst (pc := 32) (v := (4 : Int32)) dL_law_32 rfl ?_
  refine Y_isub (pc := 33) dL_law_33 ?_
  refine Y_icmp_gt (pc := 34) (tgt := 2627) dL_law_34 (by decide) (fun hc1 => ?_) (fun hc1 => ?_)
  · replace h := ifT hc1 h
    refine Y_iconst (pc := 2627) (v := (1 : Int32)) dL_law_2627 rfl ?_
    cases h
    exact Y_iret (pc := 2628) rfl (nar_bo (by decide)) dL_law_2628 hP ⟨rfl, rfl⟩
  · replace h := ifF hc1 h
    refine Y_aload_n (pc := 37) (j := 0) dL_law_37 rfl rfl ?_
    refine Y_iload (pc := 38) (j := 5) dL_law_38 rfl ?_
    obtain ⟨hb1, h⟩ := okE h
    refine Y_sald (pc := 40) dL_law_40 (lk_0 hP) rfl hb1 ?_
    refine Y_bipush (pc := 41) (v := (63 : Int32)) dL_law_41 rfl ?_
    refine Y_iand (pc := 43) dL_law_43 ?_
    obtain ⟨b1, eb1, h⟩ := bndE h
    refine VV.topI eb1 ?_
    refine Y_table (pc := 44) dL_law_44 [(0, 240), (1, 296), (2, 378), (3, 446), (4, 502), (5, 582), (6, 650), (7, 730), (8, 798), (9, 811), (10, 855), (11, 898), (12, 942), (13, 986), (14, 999), (15, 1055), (16, 1110), (17, 1123), (18, 1179), (19, 1246), (20, 1259), (21, 1315), (22, 1383), (23, 1451), (24, 1519), (25, 1587), (26, 1655), (27, 1723), (28, 1798), (29, 1811), (30, 1874), (31, 1930), (32, 1998), (33, 2054), (34, 2122), (35, 2190), (36, 2258), (37, 2326), (38, 2382), (39, 2438), (40, 2451), (41, 2464), (42, 2477), (43, 2543), (44, 2608)] 2621 (by decide) (tab_ok (by decide +kernel)) (by decide) ?_ ?_
    · refine xs_cons ?_ <| xs_cons ?_ <| xs_cons ?_ <| xs_cons ?_ <| xs_cons ?_ <| xs_cons ?_ <| xs_cons ?_ <| xs_cons ?_ <| xs_cons ?_ <| xs_cons ?_ <| xs_cons ?_ <| xs_cons ?_ <| xs_cons ?_ <| xs_cons ?_ <| xs_cons ?_ <| xs_cons ?_ <| xs_cons ?_ <| xs_cons ?_ <| xs_cons ?_ <| xs_cons ?_ <| xs_cons ?_ <| xs_cons ?_ <| xs_cons ?_ <| xs_cons ?_ <| xs_cons ?_ <| xs_cons ?_ <| xs_cons ?_ <| xs_cons ?_ <| xs_cons ?_ <| xs_cons ?_ <| xs_cons ?_ <| xs_cons ?_ <| xs_cons ?_ <| xs_cons ?_ <| xs_cons ?_ <| xs_cons ?_ <| xs_cons ?_ <| xs_cons ?_ <| xs_cons ?_ <| xs_cons ?_ <| xs_cons ?_ <| xs_cons ?_ <| xs_cons ?_ <| xs_cons ?_ <| xs_cons ?_ <| xs_nil
      · intro e9
        replace h := ifT (by rw [e9] <;> decide) h
        refine Y_aload_n (pc := 240) (j := 1) dL_law_240 rfl rfl ?_
        refine Y_aload_n (pc := 241) (j := 0) dL_law_241 rfl rfl ?_
        refine Y_iload (pc := 242) (j := 5) dL_law_242 rfl ?_
        refine Y_iconst (pc := 244) (v := (1 : Int32)) dL_law_244 rfl ?_
        refine Y_iadd (pc := 245) dL_law_245 ?_
        obtain ⟨hb2, h⟩ := okE h
        refine Y_sald (pc := 246) dL_law_246 (lk_0 hP) rfl hb2 ?_
        refine Y_aload_n (pc := 247) (j := 3) dL_law_247 rfl rfl ?_
        obtain ⟨y1, qy1, h⟩ := bindE h
        have cy1 := v_L_addFunction hP qy1
        refine C_S3r (pc := 248) (k' := k_L_addFunction) dL_law_248 w3_119 i_L_addFunction (Nat.le_of_ble_eq_true rfl) (Nat.le_of_ble_eq_true rfl) (Nat.le_of_ble_eq_true rfl) (cy1) ?_
        have hPy1 := cy1.1.1
        refine Y_istore (pc := 251) (lv1 := [(6, .int y1.1), (0, .ref 0), (1, .ref 1), (2, .ref 69), (3, .ref 127), (4, .ref 128), (5, .int x5)]) dL_law_251 (by decide) rfl ?_
        refine Y_aload_n (pc := 253) (j := 3) dL_law_253 rfl rfl ?_
        refine Y_aload_n (pc := 254) (j := 1) dL_law_254 rfl rfl ?_
        refine Y_iload (pc := 255) (j := 6) dL_law_255 rfl ?_
        refine Y_iconst (pc := 257) (v := (1 : Int32)) dL_law_257 rfl ?_
        refine Y_iadd (pc := 258) dL_law_258 ?_
        obtain ⟨hb3, h⟩ := okE h
        refine Y_sald (pc := 259) dL_law_259 (lk_0 hPy1) rfl hb3 ?_
        obtain ⟨y2, qy2, h⟩ := bindE h
        have cy2 := v_X12_addFunction hPy1 qy2
        refine C_V1r (pc := 260) (k' := k_X12_addFunction) dL_law_260 w9_106 i_X12_addFunction (lk_69 hPy1) ⟨Nat.le_of_ble_eq_true rfl, Nat.le_of_ble_eq_true rfl⟩ rfl (Nat.le_of_ble_eq_true rfl) (Nat.le_of_ble_eq_true rfl) (Nat.le_of_ble_eq_true rfl) (cy2) ?_
        have hPy2 := cy2.1.1
        refine Y_istore (pc := 263) (lv1 := [(7, .int y2.1), (6, .int y1.1), (0, .ref 0), (1, .ref 1), (2, .ref 69), (3, .ref 127), (4, .ref 128), (5, .int x5)]) dL_law_263 (by decide) rfl ?_
        refine Y_aload_n (pc := 265) (j := 4) dL_law_265 rfl rfl ?_
        obtain ⟨y3, qy3, h⟩ := bindE h
        have cy3 := v_X12_thrown hPy2 qy3
        refine C_V0r (pc := 266) (k' := k_X12_thrown) dL_law_266 w9_102 i_X12_thrown (lk_69 hPy2) ⟨Nat.le_of_ble_eq_true rfl, Nat.le_of_ble_eq_true rfl⟩ rfl (Nat.le_of_ble_eq_true rfl) (Nat.le_of_ble_eq_true rfl) (Nat.le_of_ble_eq_true rfl) (cy3) ?_
        have hPy3 := cy3.1.1
        refine Y_iload (pc := 269) (j := 1) dL_law_269 rfl ?_
        refine Y_icmp_eq (pc := 271) (tgt := 276) dL_law_271 (by decide) (fun hc2 => ?_) (fun hc2 => ?_)
        · replace h := ifT hc2 h
          refine Y_iload (pc := 276) (j := 1) dL_law_276 rfl ?_
          refine Y_if_ne (pc := 278) (tgt := 293) dL_law_278 (by decide) (fun hc3 => ?_) (fun hc3 => ?_)
          · replace h := ifF hc3 h
            refine VV.sub [2, 3, 4, 5, 6, 7] rfl ?_
            exact b_L_law_293 hk28 hPy3 h
          · replace h := ifT hc3 h
            refine Y_aload_n (pc := 281) (j := 5) dL_law_281 rfl rfl ?_
            refine Y_iconst (pc := 282) (v := (0 : Int32)) dL_law_282 rfl ?_
            refine Y_lald (pc := 283) dL_law_283 (lk_127 hPy3) (ln_127 hPy3) (vp_lit (by decide)) ?_
            refine Y_iload (pc := 284) (j := 0) dL_law_284 rfl ?_
            refine Y_i2l (pc := 286) dL_law_286 ?_
            refine Y_lcmp (pc := 287) dL_law_287 ?_
            refine Y_if_eq (pc := 288) (tgt := 293) dL_law_288 (by decide) (fun hc4 => ?_) (fun hc4 => ?_)
            · replace h := ifT hc4 h
              refine VV.sub [2, 3, 4, 5, 6, 7] rfl ?_
              exact b_L_law_293 hk28 hPy3 h
            · replace h := ifF hc4 h
              refine Y_iconst (pc := 291) (v := (0 : Int32)) dL_law_291 rfl ?_
              cases h
              exact Y_iret (pc := 292) rfl (nar_bo (by decide)) dL_law_292 hPy3 ⟨rfl, rfl⟩
        · replace h := ifF hc2 h
          refine Y_iconst (pc := 274) (v := (0 : Int32)) dL_law_274 rfl ?_
          cases h
          exact Y_iret (pc := 275) rfl (nar_bo (by decide)) dL_law_275 hPy3 ⟨rfl, rfl⟩
      · intro e9
        replace h := ifF (by rw [e9] <;> decide) h
        replace h := ifT (by rw [e9] <;> decide) h
        refine Y_aload_n (pc := 296) (j := 1) dL_law_296 rfl rfl ?_
        refine Y_aload_n (pc := 297) (j := 0) dL_law_297 rfl rfl ?_
        refine Y_iload (pc := 298) (j := 5) dL_law_298 rfl ?_
        refine Y_iconst (pc := 300) (v := (1 : Int32)) dL_law_300 rfl ?_
        refine Y_iadd (pc := 301) dL_law_301 ?_
        obtain ⟨hb4, h⟩ := okE h
        refine Y_sald (pc := 302) dL_law_302 (lk_0 hP) rfl hb4 ?_
        refine Y_aload_n (pc := 303) (j := 0) dL_law_303 rfl rfl ?_
        refine Y_iload (pc := 304) (j := 5) dL_law_304 rfl ?_
        refine Y_iconst (pc := 306) (v := (2 : Int32)) dL_law_306 rfl ?_
        refine Y_iadd (pc := 307) dL_law_307 ?_
        obtain ⟨hb5, h⟩ := okE h
        refine Y_sald (pc := 308) dL_law_308 (lk_0 hP) rfl hb5 ?_
        refine Y_i2c (pc := 309) dL_law_309 ?_
        refine Y_aload_n (pc := 310) (j := 0) dL_law_310 rfl rfl ?_
        refine Y_iload (pc := 311) (j := 5) dL_law_311 rfl ?_
        refine Y_iconst (pc := 313) (v := (3 : Int32)) dL_law_313 rfl ?_
        refine Y_iadd (pc := 314) dL_law_314 ?_
        obtain ⟨hb6, h⟩ := okE h
        refine Y_sald (pc := 315) dL_law_315 (lk_0 hP) rfl hb6 ?_
        refine Y_aload_n (pc := 316) (j := 3) dL_law_316 rfl rfl ?_
        obtain ⟨y4, qy4, h⟩ := bindE h
        have cy4 := v_L_code hP qy4
        refine C_S5r (pc := 317) (k' := k_L_code) dL_law_317 w3_220 i_L_code (Nat.le_of_ble_eq_true rfl) (Nat.le_of_ble_eq_true rfl) (Nat.le_of_ble_eq_true rfl) (cy4) ?_
        have hPy4 := cy4.1.1
        refine Y_istore (pc := 320) (lv1 := [(6, .int y4.1), (0, .ref 0), (1, .ref 1), (2, .ref 69), (3, .ref 127), (4, .ref 128), (5, .int x5)]) dL_law_320 (by decide) rfl ?_
        refine Y_aload_n (pc := 322) (j := 3) dL_law_322 rfl rfl ?_
        refine Y_aload_n (pc := 323) (j := 1) dL_law_323 rfl rfl ?_
        refine Y_iload (pc := 324) (j := 6) dL_law_324 rfl ?_
        refine Y_iconst (pc := 326) (v := (1 : Int32)) dL_law_326 rfl ?_
        refine Y_iadd (pc := 327) dL_law_327 ?_
        obtain ⟨hb7, h⟩ := okE h
        refine Y_sald (pc := 328) dL_law_328 (lk_0 hPy4) rfl hb7 ?_
        refine Y_aload_n (pc := 329) (j := 1) dL_law_329 rfl rfl ?_
        refine Y_iload (pc := 330) (j := 6) dL_law_330 rfl ?_
        refine Y_iconst (pc := 332) (v := (2 : Int32)) dL_law_332 rfl ?_
        refine Y_iadd (pc := 333) dL_law_333 ?_
        obtain ⟨hb8, h⟩ := okE h
        refine Y_sald (pc := 334) dL_law_334 (lk_0 hPy4) rfl hb8 ?_
        refine Y_i2c (pc := 335) dL_law_335 ?_
        refine Y_aload_n (pc := 336) (j := 1) dL_law_336 rfl rfl ?_
        refine Y_iload (pc := 337) (j := 6) dL_law_337 rfl ?_
        refine Y_iconst (pc := 339) (v := (3 : Int32)) dL_law_339 rfl ?_
        refine Y_iadd (pc := 340) dL_law_340 ?_
        obtain ⟨hb9, h⟩ := okE h
        refine Y_sald (pc := 341) dL_law_341 (lk_0 hPy4) rfl hb9 ?_
        obtain ⟨y5, qy5, h⟩ := bindE h
        have cy5 := v_X12_code hPy4 qy5
        refine C_V3r (pc := 342) (k' := k_X12_code) dL_law_342 w9_117 i_X12_code (lk_69 hPy4) ⟨Nat.le_of_ble_eq_true rfl, Nat.le_of_ble_eq_true rfl⟩ rfl (Nat.le_of_ble_eq_true rfl) (Nat.le_of_ble_eq_true rfl) (Nat.le_of_ble_eq_true rfl) (cy5) ?_
        have hPy5 := cy5.1.1
        refine Y_istore (pc := 345) (lv1 := [(7, .int y5.1), (6, .int y4.1), (0, .ref 0), (1, .ref 1), (2, .ref 69), (3, .ref 127), (4, .ref 128), (5, .int x5)]) dL_law_345 (by decide) rfl ?_
        refine Y_aload_n (pc := 347) (j := 4) dL_law_347 rfl rfl ?_
        obtain ⟨y6, qy6, h⟩ := bindE h
        have cy6 := v_X12_thrown hPy5 qy6
        refine C_V0r (pc := 348) (k' := k_X12_thrown) dL_law_348 w9_102 i_X12_thrown (lk_69 hPy5) ⟨Nat.le_of_ble_eq_true rfl, Nat.le_of_ble_eq_true rfl⟩ rfl (Nat.le_of_ble_eq_true rfl) (Nat.le_of_ble_eq_true rfl) (Nat.le_of_ble_eq_true rfl) (cy6) ?_
        have hPy6 := cy6.1.1
        refine Y_iload (pc := 351) (j := 1) dL_law_351 rfl ?_
        refine Y_icmp_eq (pc := 353) (tgt := 358) dL_law_353 (by decide) (fun hc5 => ?_) (fun hc5 => ?_)
        · replace h := ifT hc5 h
          refine Y_iload (pc := 358) (j := 1) dL_law_358 rfl ?_
          refine Y_if_ne (pc := 360) (tgt := 375) dL_law_360 (by decide) (fun hc6 => ?_) (fun hc6 => ?_)
          · replace h := ifF hc6 h
            refine VV.sub [2, 3, 4, 5, 6, 7] rfl ?_
            exact b_L_law_375 hk28 hPy6 h
          · replace h := ifT hc6 h
            refine Y_aload_n (pc := 363) (j := 5) dL_law_363 rfl rfl ?_
            refine Y_iconst (pc := 364) (v := (0 : Int32)) dL_law_364 rfl ?_
            refine Y_lald (pc := 365) dL_law_365 (lk_127 hPy6) (ln_127 hPy6) (vp_lit (by decide)) ?_
            refine Y_iload (pc := 366) (j := 0) dL_law_366 rfl ?_
            refine Y_i2l (pc := 368) dL_law_368 ?_
            refine Y_lcmp (pc := 369) dL_law_369 ?_
            refine Y_if_eq (pc := 370) (tgt := 375) dL_law_370 (by decide) (fun hc7 => ?_) (fun hc7 => ?_)
            · replace h := ifT hc7 h
              refine VV.sub [2, 3, 4, 5, 6, 7] rfl ?_
              exact b_L_law_375 hk28 hPy6 h
            · replace h := ifF hc7 h
              refine Y_iconst (pc := 373) (v := (0 : Int32)) dL_law_373 rfl ?_
              cases h
              exact Y_iret (pc := 374) rfl (nar_bo (by decide)) dL_law_374 hPy6 ⟨rfl, rfl⟩
        · replace h := ifF hc5 h
          refine Y_iconst (pc := 356) (v := (0 : Int32)) dL_law_356 rfl ?_
          cases h
          exact Y_iret (pc := 357) rfl (nar_bo (by decide)) dL_law_357 hPy6 ⟨rfl, rfl⟩
      · intro e9
        replace h := ifF (by rw [e9] <;> decide) h
        replace h := ifF (by rw [e9] <;> decide) h
        replace h := ifT (by rw [e9] <;> decide) h
        refine Y_aload_n (pc := 378) (j := 1) dL_law_378 rfl rfl ?_
        refine Y_aload_n (pc := 379) (j := 0) dL_law_379 rfl rfl ?_
        refine Y_iload (pc := 380) (j := 5) dL_law_380 rfl ?_
        refine Y_iconst (pc := 382) (v := (1 : Int32)) dL_law_382 rfl ?_
        refine Y_iadd (pc := 383) dL_law_383 ?_
        obtain ⟨hb10, h⟩ := okE h
        refine Y_sald (pc := 384) dL_law_384 (lk_0 hP) rfl hb10 ?_
        refine Y_aload_n (pc := 385) (j := 0) dL_law_385 rfl rfl ?_
        refine Y_iload (pc := 386) (j := 5) dL_law_386 rfl ?_
        refine Y_iconst (pc := 388) (v := (2 : Int32)) dL_law_388 rfl ?_
        refine Y_iadd (pc := 389) dL_law_389 ?_
        obtain ⟨hb11, h⟩ := okE h
        refine Y_sald (pc := 390) dL_law_390 (lk_0 hP) rfl hb11 ?_
        refine Y_aload_n (pc := 391) (j := 3) dL_law_391 rfl rfl ?_
        obtain ⟨y7, qy7, h⟩ := bindE h
        have cy7 := v_L_setHandler hP qy7
        refine C_S4r (pc := 392) (k' := k_L_setHandler) dL_law_392 w4_135 i_L_setHandler (Nat.le_of_ble_eq_true rfl) (Nat.le_of_ble_eq_true rfl) (Nat.le_of_ble_eq_true rfl) (cy7) ?_
        have hPy7 := cy7.1.1
        refine Y_istore (pc := 395) (lv1 := [(6, .int y7.1), (0, .ref 0), (1, .ref 1), (2, .ref 69), (3, .ref 127), (4, .ref 128), (5, .int x5)]) dL_law_395 (by decide) rfl ?_
        refine Y_aload_n (pc := 397) (j := 3) dL_law_397 rfl rfl ?_
        refine Y_aload_n (pc := 398) (j := 1) dL_law_398 rfl rfl ?_
        refine Y_iload (pc := 399) (j := 6) dL_law_399 rfl ?_
        refine Y_iconst (pc := 401) (v := (1 : Int32)) dL_law_401 rfl ?_
        refine Y_iadd (pc := 402) dL_law_402 ?_
        obtain ⟨hb12, h⟩ := okE h
        refine Y_sald (pc := 403) dL_law_403 (lk_0 hPy7) rfl hb12 ?_
        refine Y_aload_n (pc := 404) (j := 1) dL_law_404 rfl rfl ?_
        refine Y_iload (pc := 405) (j := 6) dL_law_405 rfl ?_
        refine Y_iconst (pc := 407) (v := (2 : Int32)) dL_law_407 rfl ?_
        refine Y_iadd (pc := 408) dL_law_408 ?_
        obtain ⟨hb13, h⟩ := okE h
        refine Y_sald (pc := 409) dL_law_409 (lk_0 hPy7) rfl hb13 ?_
        obtain ⟨y8, qy8, h⟩ := bindE h
        have cy8 := v_X12_setHandler hPy7 qy8
        refine C_V2r (pc := 410) (k' := k_X12_setHandler) dL_law_410 w9_132 i_X12_setHandler (lk_69 hPy7) ⟨Nat.le_of_ble_eq_true rfl, Nat.le_of_ble_eq_true rfl⟩ rfl (Nat.le_of_ble_eq_true rfl) (Nat.le_of_ble_eq_true rfl) (Nat.le_of_ble_eq_true rfl) (cy8) ?_
        have hPy8 := cy8.1.1
        refine Y_istore (pc := 413) (lv1 := [(7, .int y8.1), (6, .int y7.1), (0, .ref 0), (1, .ref 1), (2, .ref 69), (3, .ref 127), (4, .ref 128), (5, .int x5)]) dL_law_413 (by decide) rfl ?_
        refine Y_aload_n (pc := 415) (j := 4) dL_law_415 rfl rfl ?_
        obtain ⟨y9, qy9, h⟩ := bindE h
        have cy9 := v_X12_thrown hPy8 qy9
        refine C_V0r (pc := 416) (k' := k_X12_thrown) dL_law_416 w9_102 i_X12_thrown (lk_69 hPy8) ⟨Nat.le_of_ble_eq_true rfl, Nat.le_of_ble_eq_true rfl⟩ rfl (Nat.le_of_ble_eq_true rfl) (Nat.le_of_ble_eq_true rfl) (Nat.le_of_ble_eq_true rfl) (cy9) ?_
        have hPy9 := cy9.1.1
        refine Y_iload (pc := 419) (j := 1) dL_law_419 rfl ?_
        refine Y_icmp_eq (pc := 421) (tgt := 426) dL_law_421 (by decide) (fun hc8 => ?_) (fun hc8 => ?_)
        · replace h := ifT hc8 h
          refine Y_iload (pc := 426) (j := 1) dL_law_426 rfl ?_
          refine Y_if_ne (pc := 428) (tgt := 443) dL_law_428 (by decide) (fun hc9 => ?_) (fun hc9 => ?_)
          · replace h := ifF hc9 h
            refine VV.sub [2, 3, 4, 5, 6, 7] rfl ?_
            exact b_L_law_443 hk28 hPy9 h
          · replace h := ifT hc9 h
            refine Y_aload_n (pc := 431) (j := 5) dL_law_431 rfl rfl ?_
            refine Y_iconst (pc := 432) (v := (0 : Int32)) dL_law_432 rfl ?_
            refine Y_lald (pc := 433) dL_law_433 (lk_127 hPy9) (ln_127 hPy9) (vp_lit (by decide)) ?_
            refine Y_iload (pc := 434) (j := 0) dL_law_434 rfl ?_
            refine Y_i2l (pc := 436) dL_law_436 ?_
            refine Y_lcmp (pc := 437) dL_law_437 ?_
            refine Y_if_eq (pc := 438) (tgt := 443) dL_law_438 (by decide) (fun hc10 => ?_) (fun hc10 => ?_)
            · replace h := ifT hc10 h
              refine VV.sub [2, 3, 4, 5, 6, 7] rfl ?_
              exact b_L_law_443 hk28 hPy9 h
            · replace h := ifF hc10 h
              refine Y_iconst (pc := 441) (v := (0 : Int32)) dL_law_441 rfl ?_
              cases h
              exact Y_iret (pc := 442) rfl (nar_bo (by decide)) dL_law_442 hPy9 ⟨rfl, rfl⟩
        · replace h := ifF hc8 h
          refine Y_iconst (pc := 424) (v := (0 : Int32)) dL_law_424 rfl ?_
          cases h
          exact Y_iret (pc := 425) rfl (nar_bo (by decide)) dL_law_425 hPy9 ⟨rfl, rfl⟩
      · intro e9
        replace h := ifF (by rw [e9] <;> decide) h
        replace h := ifF (by rw [e9] <;> decide) h
        replace h := ifF (by rw [e9] <;> decide) h
        replace h := ifT (by rw [e9] <;> decide) h
        refine Y_aload_n (pc := 446) (j := 1) dL_law_446 rfl rfl ?_
        refine Y_aload_n (pc := 447) (j := 0) dL_law_447 rfl rfl ?_
        refine Y_iload (pc := 448) (j := 5) dL_law_448 rfl ?_
        refine Y_iconst (pc := 450) (v := (1 : Int32)) dL_law_450 rfl ?_
        refine Y_iadd (pc := 451) dL_law_451 ?_
        obtain ⟨hb14, h⟩ := okE h
        refine Y_sald (pc := 452) dL_law_452 (lk_0 hP) rfl hb14 ?_
        refine Y_aload_n (pc := 453) (j := 3) dL_law_453 rfl rfl ?_
        obtain ⟨y10, qy10, h⟩ := bindE h
        have cy10 := v_L_addClass hP qy10
        refine C_S3r (pc := 454) (k' := k_L_addClass) dL_law_454 w4_147 i_L_addClass (Nat.le_of_ble_eq_true rfl) (Nat.le_of_ble_eq_true rfl) (Nat.le_of_ble_eq_true rfl) (cy10) ?_
        have hPy10 := cy10.1.1
        refine Y_istore (pc := 457) (lv1 := [(6, .int y10.1), (0, .ref 0), (1, .ref 1), (2, .ref 69), (3, .ref 127), (4, .ref 128), (5, .int x5)]) dL_law_457 (by decide) rfl ?_
        refine Y_aload_n (pc := 459) (j := 3) dL_law_459 rfl rfl ?_
        refine Y_aload_n (pc := 460) (j := 1) dL_law_460 rfl rfl ?_
        refine Y_iload (pc := 461) (j := 6) dL_law_461 rfl ?_
        refine Y_iconst (pc := 463) (v := (1 : Int32)) dL_law_463 rfl ?_
        refine Y_iadd (pc := 464) dL_law_464 ?_
        obtain ⟨hb15, h⟩ := okE h
        refine Y_sald (pc := 465) dL_law_465 (lk_0 hPy10) rfl hb15 ?_
        obtain ⟨y11, qy11, h⟩ := bindE h
        have cy11 := v_X12_addClass hPy10 qy11
        refine C_V1r (pc := 466) (k' := k_X12_addClass) dL_law_466 w9_136 i_X12_addClass (lk_69 hPy10) ⟨Nat.le_of_ble_eq_true rfl, Nat.le_of_ble_eq_true rfl⟩ rfl (Nat.le_of_ble_eq_true rfl) (Nat.le_of_ble_eq_true rfl) (Nat.le_of_ble_eq_true rfl) (cy11) ?_
        have hPy11 := cy11.1.1
        refine Y_istore (pc := 469) (lv1 := [(7, .int y11.1), (6, .int y10.1), (0, .ref 0), (1, .ref 1), (2, .ref 69), (3, .ref 127), (4, .ref 128), (5, .int x5)]) dL_law_469 (by decide) rfl ?_
        refine Y_aload_n (pc := 471) (j := 4) dL_law_471 rfl rfl ?_
        obtain ⟨y12, qy12, h⟩ := bindE h
        have cy12 := v_X12_thrown hPy11 qy12
        refine C_V0r (pc := 472) (k' := k_X12_thrown) dL_law_472 w9_102 i_X12_thrown (lk_69 hPy11) ⟨Nat.le_of_ble_eq_true rfl, Nat.le_of_ble_eq_true rfl⟩ rfl (Nat.le_of_ble_eq_true rfl) (Nat.le_of_ble_eq_true rfl) (Nat.le_of_ble_eq_true rfl) (cy12) ?_
        have hPy12 := cy12.1.1
        refine Y_iload (pc := 475) (j := 1) dL_law_475 rfl ?_
        refine Y_icmp_eq (pc := 477) (tgt := 482) dL_law_477 (by decide) (fun hc11 => ?_) (fun hc11 => ?_)
        · replace h := ifT hc11 h
          refine Y_iload (pc := 482) (j := 1) dL_law_482 rfl ?_
          refine Y_if_ne (pc := 484) (tgt := 499) dL_law_484 (by decide) (fun hc12 => ?_) (fun hc12 => ?_)
          · replace h := ifF hc12 h
            refine VV.sub [2, 3, 4, 5, 6, 7] rfl ?_
            exact b_L_law_499 hk28 hPy12 h
          · replace h := ifT hc12 h
            refine Y_aload_n (pc := 487) (j := 5) dL_law_487 rfl rfl ?_
            refine Y_iconst (pc := 488) (v := (0 : Int32)) dL_law_488 rfl ?_
            refine Y_lald (pc := 489) dL_law_489 (lk_127 hPy12) (ln_127 hPy12) (vp_lit (by decide)) ?_
            refine Y_iload (pc := 490) (j := 0) dL_law_490 rfl ?_
            refine Y_i2l (pc := 492) dL_law_492 ?_
            refine Y_lcmp (pc := 493) dL_law_493 ?_
            refine Y_if_eq (pc := 494) (tgt := 499) dL_law_494 (by decide) (fun hc13 => ?_) (fun hc13 => ?_)
            · replace h := ifT hc13 h
              refine VV.sub [2, 3, 4, 5, 6, 7] rfl ?_
              exact b_L_law_499 hk28 hPy12 h
            · replace h := ifF hc13 h
              refine Y_iconst (pc := 497) (v := (0 : Int32)) dL_law_497 rfl ?_
              cases h
              exact Y_iret (pc := 498) rfl (nar_bo (by decide)) dL_law_498 hPy12 ⟨rfl, rfl⟩
        · replace h := ifF hc11 h
          refine Y_iconst (pc := 480) (v := (0 : Int32)) dL_law_480 rfl ?_
          cases h
          exact Y_iret (pc := 481) rfl (nar_bo (by decide)) dL_law_481 hPy12 ⟨rfl, rfl⟩
      · intro e9
        replace h := ifF (by rw [e9] <;> decide) h
        replace h := ifF (by rw [e9] <;> decide) h
        replace h := ifF (by rw [e9] <;> decide) h
        replace h := ifF (by rw [e9] <;> decide) h
        replace h := ifT (by rw [e9] <;> decide) h
        refine Y_aload_n (pc := 502) (j := 1) dL_law_502 rfl rfl ?_
        refine Y_aload_n (pc := 503) (j := 0) dL_law_503 rfl rfl ?_
        refine Y_iload (pc := 504) (j := 5) dL_law_504 rfl ?_
        refine Y_iconst (pc := 506) (v := (1 : Int32)) dL_law_506 rfl ?_
        refine Y_iadd (pc := 507) dL_law_507 ?_
        obtain ⟨hb16, h⟩ := okE h
        refine Y_sald (pc := 508) dL_law_508 (lk_0 hP) rfl hb16 ?_
        refine Y_aload_n (pc := 509) (j := 0) dL_law_509 rfl rfl ?_
        refine Y_iload (pc := 510) (j := 5) dL_law_510 rfl ?_
        refine Y_iconst (pc := 512) (v := (2 : Int32)) dL_law_512 rfl ?_
        refine Y_iadd (pc := 513) dL_law_513 ?_
        obtain ⟨hb17, h⟩ := okE h
        refine Y_sald (pc := 514) dL_law_514 (lk_0 hP) rfl hb17 ?_
        refine Y_aload_n (pc := 515) (j := 0) dL_law_515 rfl rfl ?_
        refine Y_iload (pc := 516) (j := 5) dL_law_516 rfl ?_
        refine Y_iconst (pc := 518) (v := (3 : Int32)) dL_law_518 rfl ?_
        refine Y_iadd (pc := 519) dL_law_519 ?_
        obtain ⟨hb18, h⟩ := okE h
        refine Y_sald (pc := 520) dL_law_520 (lk_0 hP) rfl hb18 ?_
        refine Y_aload_n (pc := 521) (j := 3) dL_law_521 rfl rfl ?_
        obtain ⟨y13, qy13, h⟩ := bindE h
        have cy13 := v_L_setMethod hP qy13
        refine C_S5r (pc := 522) (k' := k_L_setMethod) dL_law_522 w4_185 i_L_setMethod (Nat.le_of_ble_eq_true rfl) (Nat.le_of_ble_eq_true rfl) (Nat.le_of_ble_eq_true rfl) (cy13) ?_
        have hPy13 := cy13.1.1
        refine Y_istore (pc := 525) (lv1 := [(6, .int y13.1), (0, .ref 0), (1, .ref 1), (2, .ref 69), (3, .ref 127), (4, .ref 128), (5, .int x5)]) dL_law_525 (by decide) rfl ?_
        refine Y_aload_n (pc := 527) (j := 3) dL_law_527 rfl rfl ?_
        refine Y_aload_n (pc := 528) (j := 1) dL_law_528 rfl rfl ?_
        refine Y_iload (pc := 529) (j := 6) dL_law_529 rfl ?_
        refine Y_iconst (pc := 531) (v := (1 : Int32)) dL_law_531 rfl ?_
        refine Y_iadd (pc := 532) dL_law_532 ?_
        obtain ⟨hb19, h⟩ := okE h
        refine Y_sald (pc := 533) dL_law_533 (lk_0 hPy13) rfl hb19 ?_
        refine Y_aload_n (pc := 534) (j := 1) dL_law_534 rfl rfl ?_
        refine Y_iload (pc := 535) (j := 6) dL_law_535 rfl ?_
        refine Y_iconst (pc := 537) (v := (2 : Int32)) dL_law_537 rfl ?_
        refine Y_iadd (pc := 538) dL_law_538 ?_
        obtain ⟨hb20, h⟩ := okE h
        refine Y_sald (pc := 539) dL_law_539 (lk_0 hPy13) rfl hb20 ?_
        refine Y_aload_n (pc := 540) (j := 1) dL_law_540 rfl rfl ?_
        refine Y_iload (pc := 541) (j := 6) dL_law_541 rfl ?_
        refine Y_iconst (pc := 543) (v := (3 : Int32)) dL_law_543 rfl ?_
        refine Y_iadd (pc := 544) dL_law_544 ?_
        obtain ⟨hb21, h⟩ := okE h
        refine Y_sald (pc := 545) dL_law_545 (lk_0 hPy13) rfl hb21 ?_
        obtain ⟨y14, qy14, h⟩ := bindE h
        have cy14 := v_X12_setMethod hPy13 qy14
        refine C_V3r (pc := 546) (k' := k_X12_setMethod) dL_law_546 w9_144 i_X12_setMethod (lk_69 hPy13) ⟨Nat.le_of_ble_eq_true rfl, Nat.le_of_ble_eq_true rfl⟩ rfl (Nat.le_of_ble_eq_true rfl) (Nat.le_of_ble_eq_true rfl) (Nat.le_of_ble_eq_true rfl) (cy14) ?_
        have hPy14 := cy14.1.1
        refine Y_istore (pc := 549) (lv1 := [(7, .int y14.1), (6, .int y13.1), (0, .ref 0), (1, .ref 1), (2, .ref 69), (3, .ref 127), (4, .ref 128), (5, .int x5)]) dL_law_549 (by decide) rfl ?_
        refine Y_aload_n (pc := 551) (j := 4) dL_law_551 rfl rfl ?_
        obtain ⟨y15, qy15, h⟩ := bindE h
        have cy15 := v_X12_thrown hPy14 qy15
        refine C_V0r (pc := 552) (k' := k_X12_thrown) dL_law_552 w9_102 i_X12_thrown (lk_69 hPy14) ⟨Nat.le_of_ble_eq_true rfl, Nat.le_of_ble_eq_true rfl⟩ rfl (Nat.le_of_ble_eq_true rfl) (Nat.le_of_ble_eq_true rfl) (Nat.le_of_ble_eq_true rfl) (cy15) ?_
        have hPy15 := cy15.1.1
        refine Y_iload (pc := 555) (j := 1) dL_law_555 rfl ?_
        refine Y_icmp_eq (pc := 557) (tgt := 562) dL_law_557 (by decide) (fun hc14 => ?_) (fun hc14 => ?_)
        · replace h := ifT hc14 h
          refine Y_iload (pc := 562) (j := 1) dL_law_562 rfl ?_
          refine Y_if_ne (pc := 564) (tgt := 579) dL_law_564 (by decide) (fun hc15 => ?_) (fun hc15 => ?_)
          · replace h := ifF hc15 h
            refine VV.sub [2, 3, 4, 5, 6, 7] rfl ?_
            exact b_L_law_579 hk28 hPy15 h
          · replace h := ifT hc15 h
            refine Y_aload_n (pc := 567) (j := 5) dL_law_567 rfl rfl ?_
            refine Y_iconst (pc := 568) (v := (0 : Int32)) dL_law_568 rfl ?_
            refine Y_lald (pc := 569) dL_law_569 (lk_127 hPy15) (ln_127 hPy15) (vp_lit (by decide)) ?_
            refine Y_iload (pc := 570) (j := 0) dL_law_570 rfl ?_
            refine Y_i2l (pc := 572) dL_law_572 ?_
            refine Y_lcmp (pc := 573) dL_law_573 ?_
            refine Y_if_eq (pc := 574) (tgt := 579) dL_law_574 (by decide) (fun hc16 => ?_) (fun hc16 => ?_)
            · replace h := ifT hc16 h
              refine VV.sub [2, 3, 4, 5, 6, 7] rfl ?_
              exact b_L_law_579 hk28 hPy15 h
            · replace h := ifF hc16 h
              refine Y_iconst (pc := 577) (v := (0 : Int32)) dL_law_577 rfl ?_
              cases h
              exact Y_iret (pc := 578) rfl (nar_bo (by decide)) dL_law_578 hPy15 ⟨rfl, rfl⟩
        · replace h := ifF hc14 h
          refine Y_iconst (pc := 560) (v := (0 : Int32)) dL_law_560 rfl ?_
          cases h
          exact Y_iret (pc := 561) rfl (nar_bo (by decide)) dL_law_561 hPy15 ⟨rfl, rfl⟩
      · intro e9
        replace h := ifF (by rw [e9] <;> decide) h
        replace h := ifF (by rw [e9] <;> decide) h
        replace h := ifF (by rw [e9] <;> decide) h
        replace h := ifF (by rw [e9] <;> decide) h
        replace h := ifF (by rw [e9] <;> decide) h
        replace h := ifT (by rw [e9] <;> decide) h
        refine Y_aload_n (pc := 582) (j := 1) dL_law_582 rfl rfl ?_
        refine Y_aload_n (pc := 583) (j := 0) dL_law_583 rfl rfl ?_
        refine Y_iload (pc := 584) (j := 5) dL_law_584 rfl ?_
        refine Y_iconst (pc := 586) (v := (1 : Int32)) dL_law_586 rfl ?_
        refine Y_iadd (pc := 587) dL_law_587 ?_
        obtain ⟨hb22, h⟩ := okE h
        refine Y_sald (pc := 588) dL_law_588 (lk_0 hP) rfl hb22 ?_
        refine Y_aload_n (pc := 589) (j := 0) dL_law_589 rfl rfl ?_
        refine Y_iload (pc := 590) (j := 5) dL_law_590 rfl ?_
        refine Y_iconst (pc := 592) (v := (2 : Int32)) dL_law_592 rfl ?_
        refine Y_iadd (pc := 593) dL_law_593 ?_
        obtain ⟨hb23, h⟩ := okE h
        refine Y_sald (pc := 594) dL_law_594 (lk_0 hP) rfl hb23 ?_
        refine Y_aload_n (pc := 595) (j := 3) dL_law_595 rfl rfl ?_
        obtain ⟨y16, qy16, h⟩ := bindE h
        have cy16 := v_L_setCell hP qy16
        refine C_S4r (pc := 596) (k' := k_L_setCell) dL_law_596 w4_234 i_L_setCell (Nat.le_of_ble_eq_true rfl) (Nat.le_of_ble_eq_true rfl) (Nat.le_of_ble_eq_true rfl) (cy16) ?_
        have hPy16 := cy16.1.1
        refine Y_istore (pc := 599) (lv1 := [(6, .int y16.1), (0, .ref 0), (1, .ref 1), (2, .ref 69), (3, .ref 127), (4, .ref 128), (5, .int x5)]) dL_law_599 (by decide) rfl ?_
        refine Y_aload_n (pc := 601) (j := 3) dL_law_601 rfl rfl ?_
        refine Y_aload_n (pc := 602) (j := 1) dL_law_602 rfl rfl ?_
        refine Y_iload (pc := 603) (j := 6) dL_law_603 rfl ?_
        refine Y_iconst (pc := 605) (v := (1 : Int32)) dL_law_605 rfl ?_
        refine Y_iadd (pc := 606) dL_law_606 ?_
        obtain ⟨hb24, h⟩ := okE h
        refine Y_sald (pc := 607) dL_law_607 (lk_0 hPy16) rfl hb24 ?_
        refine Y_aload_n (pc := 608) (j := 1) dL_law_608 rfl rfl ?_
        refine Y_iload (pc := 609) (j := 6) dL_law_609 rfl ?_
        refine Y_iconst (pc := 611) (v := (2 : Int32)) dL_law_611 rfl ?_
        refine Y_iadd (pc := 612) dL_law_612 ?_
        obtain ⟨hb25, h⟩ := okE h
        refine Y_sald (pc := 613) dL_law_613 (lk_0 hPy16) rfl hb25 ?_
        obtain ⟨y17, qy17, h⟩ := bindE h
        have cy17 := v_X12_setCell hPy16 qy17
        refine C_V2r (pc := 614) (k' := k_X12_setCell) dL_law_614 w9_156 i_X12_setCell (lk_69 hPy16) ⟨Nat.le_of_ble_eq_true rfl, Nat.le_of_ble_eq_true rfl⟩ rfl (Nat.le_of_ble_eq_true rfl) (Nat.le_of_ble_eq_true rfl) (Nat.le_of_ble_eq_true rfl) (cy17) ?_
        have hPy17 := cy17.1.1
        refine Y_istore (pc := 617) (lv1 := [(7, .int y17.1), (6, .int y16.1), (0, .ref 0), (1, .ref 1), (2, .ref 69), (3, .ref 127), (4, .ref 128), (5, .int x5)]) dL_law_617 (by decide) rfl ?_
        refine Y_aload_n (pc := 619) (j := 4) dL_law_619 rfl rfl ?_
        obtain ⟨y18, qy18, h⟩ := bindE h
        have cy18 := v_X12_thrown hPy17 qy18
        refine C_V0r (pc := 620) (k' := k_X12_thrown) dL_law_620 w9_102 i_X12_thrown (lk_69 hPy17) ⟨Nat.le_of_ble_eq_true rfl, Nat.le_of_ble_eq_true rfl⟩ rfl (Nat.le_of_ble_eq_true rfl) (Nat.le_of_ble_eq_true rfl) (Nat.le_of_ble_eq_true rfl) (cy18) ?_
        have hPy18 := cy18.1.1
        refine Y_iload (pc := 623) (j := 1) dL_law_623 rfl ?_
        refine Y_icmp_eq (pc := 625) (tgt := 630) dL_law_625 (by decide) (fun hc17 => ?_) (fun hc17 => ?_)
        · replace h := ifT hc17 h
          refine Y_iload (pc := 630) (j := 1) dL_law_630 rfl ?_
          refine Y_if_ne (pc := 632) (tgt := 647) dL_law_632 (by decide) (fun hc18 => ?_) (fun hc18 => ?_)
          · replace h := ifF hc18 h
            refine VV.sub [2, 3, 4, 5, 6, 7] rfl ?_
            exact b_L_law_647 hk28 hPy18 h
          · replace h := ifT hc18 h
            refine Y_aload_n (pc := 635) (j := 5) dL_law_635 rfl rfl ?_
            refine Y_iconst (pc := 636) (v := (0 : Int32)) dL_law_636 rfl ?_
            refine Y_lald (pc := 637) dL_law_637 (lk_127 hPy18) (ln_127 hPy18) (vp_lit (by decide)) ?_
            refine Y_iload (pc := 638) (j := 0) dL_law_638 rfl ?_
            refine Y_i2l (pc := 640) dL_law_640 ?_
            refine Y_lcmp (pc := 641) dL_law_641 ?_
            refine Y_if_eq (pc := 642) (tgt := 647) dL_law_642 (by decide) (fun hc19 => ?_) (fun hc19 => ?_)
            · replace h := ifT hc19 h
              refine VV.sub [2, 3, 4, 5, 6, 7] rfl ?_
              exact b_L_law_647 hk28 hPy18 h
            · replace h := ifF hc19 h
              refine Y_iconst (pc := 645) (v := (0 : Int32)) dL_law_645 rfl ?_
              cases h
              exact Y_iret (pc := 646) rfl (nar_bo (by decide)) dL_law_646 hPy18 ⟨rfl, rfl⟩
        · replace h := ifF hc17 h
          refine Y_iconst (pc := 628) (v := (0 : Int32)) dL_law_628 rfl ?_
          cases h
          exact Y_iret (pc := 629) rfl (nar_bo (by decide)) dL_law_629 hPy18 ⟨rfl, rfl⟩
      · intro e9
        replace h := ifF (by rw [e9] <;> decide) h
        replace h := ifF (by rw [e9] <;> decide) h
        replace h := ifF (by rw [e9] <;> decide) h
        replace h := ifF (by rw [e9] <;> decide) h
        replace h := ifF (by rw [e9] <;> decide) h
        replace h := ifF (by rw [e9] <;> decide) h
        replace h := ifT (by rw [e9] <;> decide) h
        refine Y_aload_n (pc := 650) (j := 1) dL_law_650 rfl rfl ?_
        refine Y_aload_n (pc := 651) (j := 0) dL_law_651 rfl rfl ?_
        refine Y_iload (pc := 652) (j := 5) dL_law_652 rfl ?_
        refine Y_iconst (pc := 654) (v := (1 : Int32)) dL_law_654 rfl ?_
        refine Y_iadd (pc := 655) dL_law_655 ?_
        obtain ⟨hb26, h⟩ := okE h
        refine Y_sald (pc := 656) dL_law_656 (lk_0 hP) rfl hb26 ?_
        refine Y_aload_n (pc := 657) (j := 0) dL_law_657 rfl rfl ?_
        refine Y_iload (pc := 658) (j := 5) dL_law_658 rfl ?_
        refine Y_iconst (pc := 660) (v := (2 : Int32)) dL_law_660 rfl ?_
        refine Y_iadd (pc := 661) dL_law_661 ?_
        obtain ⟨hb27, h⟩ := okE h
        refine Y_sald (pc := 662) dL_law_662 (lk_0 hP) rfl hb27 ?_
        refine Y_aload_n (pc := 663) (j := 0) dL_law_663 rfl rfl ?_
        refine Y_iload (pc := 664) (j := 5) dL_law_664 rfl ?_
        refine Y_iconst (pc := 666) (v := (3 : Int32)) dL_law_666 rfl ?_
        refine Y_iadd (pc := 667) dL_law_667 ?_
        obtain ⟨hb28, h⟩ := okE h
        refine Y_sald (pc := 668) dL_law_668 (lk_0 hP) rfl hb28 ?_
        refine Y_aload_n (pc := 669) (j := 3) dL_law_669 rfl rfl ?_
        obtain ⟨y19, qy19, h⟩ := bindE h
        have cy19 := v_L_setLimits hP qy19
        refine C_S5r (pc := 670) (k' := k_L_setLimits) dL_law_670 w5_2 i_L_setLimits (Nat.le_of_ble_eq_true rfl) (Nat.le_of_ble_eq_true rfl) (Nat.le_of_ble_eq_true rfl) (cy19) ?_
        have hPy19 := cy19.1.1
        refine Y_istore (pc := 673) (lv1 := [(6, .int y19.1), (0, .ref 0), (1, .ref 1), (2, .ref 69), (3, .ref 127), (4, .ref 128), (5, .int x5)]) dL_law_673 (by decide) rfl ?_
        refine Y_aload_n (pc := 675) (j := 3) dL_law_675 rfl rfl ?_
        refine Y_aload_n (pc := 676) (j := 1) dL_law_676 rfl rfl ?_
        refine Y_iload (pc := 677) (j := 6) dL_law_677 rfl ?_
        refine Y_iconst (pc := 679) (v := (1 : Int32)) dL_law_679 rfl ?_
        refine Y_iadd (pc := 680) dL_law_680 ?_
        obtain ⟨hb29, h⟩ := okE h
        refine Y_sald (pc := 681) dL_law_681 (lk_0 hPy19) rfl hb29 ?_
        refine Y_aload_n (pc := 682) (j := 1) dL_law_682 rfl rfl ?_
        refine Y_iload (pc := 683) (j := 6) dL_law_683 rfl ?_
        refine Y_iconst (pc := 685) (v := (2 : Int32)) dL_law_685 rfl ?_
        refine Y_iadd (pc := 686) dL_law_686 ?_
        obtain ⟨hb30, h⟩ := okE h
        refine Y_sald (pc := 687) dL_law_687 (lk_0 hPy19) rfl hb30 ?_
        refine Y_aload_n (pc := 688) (j := 1) dL_law_688 rfl rfl ?_
        refine Y_iload (pc := 689) (j := 6) dL_law_689 rfl ?_
        refine Y_iconst (pc := 691) (v := (3 : Int32)) dL_law_691 rfl ?_
        refine Y_iadd (pc := 692) dL_law_692 ?_
        obtain ⟨hb31, h⟩ := okE h
        refine Y_sald (pc := 693) dL_law_693 (lk_0 hPy19) rfl hb31 ?_
        obtain ⟨y20, qy20, h⟩ := bindE h
        have cy20 := v_X12_setLimits hPy19 qy20
        refine C_V3r (pc := 694) (k' := k_X12_setLimits) dL_law_694 w9_160 i_X12_setLimits (lk_69 hPy19) ⟨Nat.le_of_ble_eq_true rfl, Nat.le_of_ble_eq_true rfl⟩ rfl (Nat.le_of_ble_eq_true rfl) (Nat.le_of_ble_eq_true rfl) (Nat.le_of_ble_eq_true rfl) (cy20) ?_
        have hPy20 := cy20.1.1
        refine Y_istore (pc := 697) (lv1 := [(7, .int y20.1), (6, .int y19.1), (0, .ref 0), (1, .ref 1), (2, .ref 69), (3, .ref 127), (4, .ref 128), (5, .int x5)]) dL_law_697 (by decide) rfl ?_
        refine Y_aload_n (pc := 699) (j := 4) dL_law_699 rfl rfl ?_
        obtain ⟨y21, qy21, h⟩ := bindE h
        have cy21 := v_X12_thrown hPy20 qy21
        refine C_V0r (pc := 700) (k' := k_X12_thrown) dL_law_700 w9_102 i_X12_thrown (lk_69 hPy20) ⟨Nat.le_of_ble_eq_true rfl, Nat.le_of_ble_eq_true rfl⟩ rfl (Nat.le_of_ble_eq_true rfl) (Nat.le_of_ble_eq_true rfl) (Nat.le_of_ble_eq_true rfl) (cy21) ?_
        have hPy21 := cy21.1.1
        refine Y_iload (pc := 703) (j := 1) dL_law_703 rfl ?_
        refine Y_icmp_eq (pc := 705) (tgt := 710) dL_law_705 (by decide) (fun hc20 => ?_) (fun hc20 => ?_)
        · replace h := ifT hc20 h
          refine Y_iload (pc := 710) (j := 1) dL_law_710 rfl ?_
          refine Y_if_ne (pc := 712) (tgt := 727) dL_law_712 (by decide) (fun hc21 => ?_) (fun hc21 => ?_)
          · replace h := ifF hc21 h
            refine VV.sub [2, 3, 4, 5, 6, 7] rfl ?_
            exact b_L_law_727 hk28 hPy21 h
          · replace h := ifT hc21 h
            refine Y_aload_n (pc := 715) (j := 5) dL_law_715 rfl rfl ?_
            refine Y_iconst (pc := 716) (v := (0 : Int32)) dL_law_716 rfl ?_
            refine Y_lald (pc := 717) dL_law_717 (lk_127 hPy21) (ln_127 hPy21) (vp_lit (by decide)) ?_
            refine Y_iload (pc := 718) (j := 0) dL_law_718 rfl ?_
            refine Y_i2l (pc := 720) dL_law_720 ?_
            refine Y_lcmp (pc := 721) dL_law_721 ?_
            refine Y_if_eq (pc := 722) (tgt := 727) dL_law_722 (by decide) (fun hc22 => ?_) (fun hc22 => ?_)
            · replace h := ifT hc22 h
              refine VV.sub [2, 3, 4, 5, 6, 7] rfl ?_
              exact b_L_law_727 hk28 hPy21 h
            · replace h := ifF hc22 h
              refine Y_iconst (pc := 725) (v := (0 : Int32)) dL_law_725 rfl ?_
              cases h
              exact Y_iret (pc := 726) rfl (nar_bo (by decide)) dL_law_726 hPy21 ⟨rfl, rfl⟩
        · replace h := ifF hc20 h
          refine Y_iconst (pc := 708) (v := (0 : Int32)) dL_law_708 rfl ?_
          cases h
          exact Y_iret (pc := 709) rfl (nar_bo (by decide)) dL_law_709 hPy21 ⟨rfl, rfl⟩
      · intro e9
        replace h := ifF (by rw [e9] <;> decide) h
        replace h := ifF (by rw [e9] <;> decide) h
        replace h := ifF (by rw [e9] <;> decide) h
        replace h := ifF (by rw [e9] <;> decide) h
        replace h := ifF (by rw [e9] <;> decide) h
        replace h := ifF (by rw [e9] <;> decide) h
        replace h := ifF (by rw [e9] <;> decide) h
        replace h := ifT (by rw [e9] <;> decide) h
        refine Y_aload_n (pc := 730) (j := 1) dL_law_730 rfl rfl ?_
        refine Y_aload_n (pc := 731) (j := 0) dL_law_731 rfl rfl ?_
        refine Y_iload (pc := 732) (j := 5) dL_law_732 rfl ?_
        refine Y_iconst (pc := 734) (v := (1 : Int32)) dL_law_734 rfl ?_
        refine Y_iadd (pc := 735) dL_law_735 ?_
        obtain ⟨hb32, h⟩ := okE h
        refine Y_sald (pc := 736) dL_law_736 (lk_0 hP) rfl hb32 ?_
        refine Y_aload_n (pc := 737) (j := 0) dL_law_737 rfl rfl ?_
        refine Y_iload (pc := 738) (j := 5) dL_law_738 rfl ?_
        refine Y_iconst (pc := 740) (v := (2 : Int32)) dL_law_740 rfl ?_
        refine Y_iadd (pc := 741) dL_law_741 ?_
        obtain ⟨hb33, h⟩ := okE h
        refine Y_sald (pc := 742) dL_law_742 (lk_0 hP) rfl hb33 ?_
        refine Y_aload_n (pc := 743) (j := 3) dL_law_743 rfl rfl ?_
        obtain ⟨y22, qy22, h⟩ := bindE h
        have cy22 := v_L_run hP qy22
        refine C_S4r (pc := 744) (k' := k_L_run) dL_law_744 w5_19 i_L_run (Nat.le_of_ble_eq_true rfl) (Nat.le_of_ble_eq_true rfl) (Nat.le_of_ble_eq_true rfl) (cy22) ?_
        have hPy22 := cy22.1.1
        refine Y_istore (pc := 747) (lv1 := [(6, .int y22.1), (0, .ref 0), (1, .ref 1), (2, .ref 69), (3, .ref 127), (4, .ref 128), (5, .int x5)]) dL_law_747 (by decide) rfl ?_
        refine Y_aload_n (pc := 749) (j := 3) dL_law_749 rfl rfl ?_
        refine Y_aload_n (pc := 750) (j := 1) dL_law_750 rfl rfl ?_
        refine Y_iload (pc := 751) (j := 6) dL_law_751 rfl ?_
        refine Y_iconst (pc := 753) (v := (1 : Int32)) dL_law_753 rfl ?_
        refine Y_iadd (pc := 754) dL_law_754 ?_
        obtain ⟨hb34, h⟩ := okE h
        refine Y_sald (pc := 755) dL_law_755 (lk_0 hPy22) rfl hb34 ?_
        refine Y_aload_n (pc := 756) (j := 1) dL_law_756 rfl rfl ?_
        refine Y_iload (pc := 757) (j := 6) dL_law_757 rfl ?_
        refine Y_iconst (pc := 759) (v := (2 : Int32)) dL_law_759 rfl ?_
        refine Y_iadd (pc := 760) dL_law_760 ?_
        obtain ⟨hb35, h⟩ := okE h
        refine Y_sald (pc := 761) dL_law_761 (lk_0 hPy22) rfl hb35 ?_
        obtain ⟨y23, qy23, h⟩ := bindE h
        have cy23 := v_X12_run0 hPy22 (fun y hy => hr _ _ _ _ _ qy22 hy) qy23
        refine C_V2r (pc := 762) (k' := k_X12_run) dL_law_762 w9_172 i_X12_run (lk_69 hPy22) ⟨Nat.le_of_ble_eq_true rfl, Nat.le_of_ble_eq_true rfl⟩ rfl (Nat.le_of_ble_eq_true rfl) (Nat.le_of_ble_eq_true rfl) (Nat.le_of_ble_eq_true rfl) (cy23) ?_
        have hPy23 := cy23.1.1
        refine Y_istore (pc := 765) (lv1 := [(7, .int y23.1), (6, .int y22.1), (0, .ref 0), (1, .ref 1), (2, .ref 69), (3, .ref 127), (4, .ref 128), (5, .int x5)]) dL_law_765 (by decide) rfl ?_
        refine Y_aload_n (pc := 767) (j := 4) dL_law_767 rfl rfl ?_
        obtain ⟨y24, qy24, h⟩ := bindE h
        have cy24 := v_X12_thrown hPy23 qy24
        refine C_V0r (pc := 768) (k' := k_X12_thrown) dL_law_768 w9_102 i_X12_thrown (lk_69 hPy23) ⟨Nat.le_of_ble_eq_true rfl, Nat.le_of_ble_eq_true rfl⟩ rfl (Nat.le_of_ble_eq_true rfl) (Nat.le_of_ble_eq_true rfl) (Nat.le_of_ble_eq_true rfl) (cy24) ?_
        have hPy24 := cy24.1.1
        refine Y_iload (pc := 771) (j := 1) dL_law_771 rfl ?_
        refine Y_icmp_eq (pc := 773) (tgt := 778) dL_law_773 (by decide) (fun hc23 => ?_) (fun hc23 => ?_)
        · replace h := ifT hc23 h
          refine Y_iload (pc := 778) (j := 1) dL_law_778 rfl ?_
          refine Y_if_ne (pc := 780) (tgt := 795) dL_law_780 (by decide) (fun hc24 => ?_) (fun hc24 => ?_)
          · replace h := ifF hc24 h
            refine VV.sub [2, 3, 4, 5, 6, 7] rfl ?_
            exact b_L_law_795 hk28 hPy24 h
          · replace h := ifT hc24 h
            refine Y_aload_n (pc := 783) (j := 5) dL_law_783 rfl rfl ?_
            refine Y_iconst (pc := 784) (v := (0 : Int32)) dL_law_784 rfl ?_
            refine Y_lald (pc := 785) dL_law_785 (lk_127 hPy24) (ln_127 hPy24) (vp_lit (by decide)) ?_
            refine Y_iload (pc := 786) (j := 0) dL_law_786 rfl ?_
            refine Y_i2l (pc := 788) dL_law_788 ?_
            refine Y_lcmp (pc := 789) dL_law_789 ?_
            refine Y_if_eq (pc := 790) (tgt := 795) dL_law_790 (by decide) (fun hc25 => ?_) (fun hc25 => ?_)
            · replace h := ifT hc25 h
              refine VV.sub [2, 3, 4, 5, 6, 7] rfl ?_
              exact b_L_law_795 hk28 hPy24 h
            · replace h := ifF hc25 h
              refine Y_iconst (pc := 793) (v := (0 : Int32)) dL_law_793 rfl ?_
              cases h
              exact Y_iret (pc := 794) rfl (nar_bo (by decide)) dL_law_794 hPy24 ⟨rfl, rfl⟩
        · replace h := ifF hc23 h
          refine Y_iconst (pc := 776) (v := (0 : Int32)) dL_law_776 rfl ?_
          cases h
          exact Y_iret (pc := 777) rfl (nar_bo (by decide)) dL_law_777 hPy24 ⟨rfl, rfl⟩
      · intro e9
        replace h := ifF (by rw [e9] <;> decide) h
        replace h := ifF (by rw [e9] <;> decide) h
        replace h := ifF (by rw [e9] <;> decide) h
        replace h := ifF (by rw [e9] <;> decide) h
        replace h := ifF (by rw [e9] <;> decide) h
        replace h := ifF (by rw [e9] <;> decide) h
        replace h := ifF (by rw [e9] <;> decide) h
        replace h := ifF (by rw [e9] <;> decide) h
        replace h := ifT (by rw [e9] <;> decide) h
        refine Y_aload_n (pc := 798) (j := 1) dL_law_798 rfl rfl ?_
        obtain ⟨y25, qy25, h⟩ := bindE h
        have cy25 := v_X11_outcome hP qy25
        refine C_V0r (pc := 799) (k' := k_X11_outcome) dL_law_799 w3_71 i_X11_outcome (lk_1 hP) ⟨Nat.le_of_ble_eq_true rfl, Nat.le_of_ble_eq_true rfl⟩ rfl (Nat.le_of_ble_eq_true rfl) (Nat.le_of_ble_eq_true rfl) (Nat.le_of_ble_eq_true rfl) (cy25) ?_
        have hPy25 := cy25.1.1
        refine Y_aload_n (pc := 802) (j := 2) dL_law_802 rfl rfl ?_
        obtain ⟨y26, qy26, h⟩ := bindE h
        have cy26 := v_X12_outcome hPy25 qy26
        refine C_V0r (pc := 803) (k' := k_X12_outcome) dL_law_803 w10_155 i_X12_outcome (lk_69 hPy25) ⟨Nat.le_of_ble_eq_true rfl, Nat.le_of_ble_eq_true rfl⟩ rfl (Nat.le_of_ble_eq_true rfl) (Nat.le_of_ble_eq_true rfl) (Nat.le_of_ble_eq_true rfl) (cy26) ?_
        have hPy26 := cy26.1.1
        refine Y_icmp_eq (pc := 806) (tgt := 2621) dL_law_806 (by decide) (fun hc26 => ?_) (fun hc26 => ?_)
        · replace h := ifT hc26 h
          refine VV.sub [0, 1, 2, 3, 4, 5] rfl ?_
          exact b_L_law_2621 hk28 hPy26 h
        · replace h := ifF hc26 h
          refine Y_iconst (pc := 809) (v := (0 : Int32)) dL_law_809 rfl ?_
          cases h
          exact Y_iret (pc := 810) rfl (nar_bo (by decide)) dL_law_810 hPy26 ⟨rfl, rfl⟩
      · intro e9
        replace h := ifF (by rw [e9] <;> decide) h
        replace h := ifF (by rw [e9] <;> decide) h
        replace h := ifF (by rw [e9] <;> decide) h
        replace h := ifF (by rw [e9] <;> decide) h
        replace h := ifF (by rw [e9] <;> decide) h
        replace h := ifF (by rw [e9] <;> decide) h
        replace h := ifF (by rw [e9] <;> decide) h
        replace h := ifF (by rw [e9] <;> decide) h
        replace h := ifF (by rw [e9] <;> decide) h
        replace h := ifT (by rw [e9] <;> decide) h
        refine Y_aload_n (pc := 811) (j := 1) dL_law_811 rfl rfl ?_
        refine Y_aload_n (pc := 812) (j := 3) dL_law_812 rfl rfl ?_
        obtain ⟨y27, qy27, h⟩ := bindE h
        have cy27 := v_L_resultKind hP qy27
        refine C_S2r (pc := 813) (k' := k_L_resultKind) dL_law_813 w7_13 i_L_resultKind (Nat.le_of_ble_eq_true rfl) (Nat.le_of_ble_eq_true rfl) (Nat.le_of_ble_eq_true rfl) (cy27) ?_
        have hPy27 := cy27.1.1
        refine Y_istore (pc := 816) (lv1 := [(6, .int y27.1), (0, .ref 0), (1, .ref 1), (2, .ref 69), (3, .ref 127), (4, .ref 128), (5, .int x5)]) dL_law_816 (by decide) rfl ?_
        refine Y_aload_n (pc := 818) (j := 3) dL_law_818 rfl rfl ?_
        obtain ⟨y28, qy28, h⟩ := bindE h
        have cy28 := v_X12_resultKind hPy27 qy28
        refine C_V0r (pc := 819) (k' := k_X12_resultKind) dL_law_819 w10_159 i_X12_resultKind (lk_69 hPy27) ⟨Nat.le_of_ble_eq_true rfl, Nat.le_of_ble_eq_true rfl⟩ rfl (Nat.le_of_ble_eq_true rfl) (Nat.le_of_ble_eq_true rfl) (Nat.le_of_ble_eq_true rfl) (cy28) ?_
        have hPy28 := cy28.1.1
        refine Y_istore (pc := 822) (lv1 := [(7, .int y28.1), (6, .int y27.1), (0, .ref 0), (1, .ref 1), (2, .ref 69), (3, .ref 127), (4, .ref 128), (5, .int x5)]) dL_law_822 (by decide) rfl ?_
        refine Y_aload_n (pc := 824) (j := 4) dL_law_824 rfl rfl ?_
        obtain ⟨y29, qy29, h⟩ := bindE h
        have cy29 := v_X12_thrown hPy28 qy29
        refine C_V0r (pc := 825) (k' := k_X12_thrown) dL_law_825 w9_102 i_X12_thrown (lk_69 hPy28) ⟨Nat.le_of_ble_eq_true rfl, Nat.le_of_ble_eq_true rfl⟩ rfl (Nat.le_of_ble_eq_true rfl) (Nat.le_of_ble_eq_true rfl) (Nat.le_of_ble_eq_true rfl) (cy29) ?_
        have hPy29 := cy29.1.1
        refine Y_iload (pc := 828) (j := 1) dL_law_828 rfl ?_
        refine Y_icmp_eq (pc := 830) (tgt := 835) dL_law_830 (by decide) (fun hc27 => ?_) (fun hc27 => ?_)
        · replace h := ifT hc27 h
          refine Y_iload (pc := 835) (j := 1) dL_law_835 rfl ?_
          refine Y_if_ne (pc := 837) (tgt := 852) dL_law_837 (by decide) (fun hc28 => ?_) (fun hc28 => ?_)
          · replace h := ifF hc28 h
            refine VV.sub [2, 3, 4, 5, 6, 7] rfl ?_
            exact b_L_law_852 hk28 hPy29 h
          · replace h := ifT hc28 h
            refine Y_aload_n (pc := 840) (j := 5) dL_law_840 rfl rfl ?_
            refine Y_iconst (pc := 841) (v := (0 : Int32)) dL_law_841 rfl ?_
            refine Y_lald (pc := 842) dL_law_842 (lk_127 hPy29) (ln_127 hPy29) (vp_lit (by decide)) ?_
            refine Y_iload (pc := 843) (j := 0) dL_law_843 rfl ?_
            refine Y_i2l (pc := 845) dL_law_845 ?_
            refine Y_lcmp (pc := 846) dL_law_846 ?_
            refine Y_if_eq (pc := 847) (tgt := 852) dL_law_847 (by decide) (fun hc29 => ?_) (fun hc29 => ?_)
            · replace h := ifT hc29 h
              refine VV.sub [2, 3, 4, 5, 6, 7] rfl ?_
              exact b_L_law_852 hk28 hPy29 h
            · replace h := ifF hc29 h
              refine Y_iconst (pc := 850) (v := (0 : Int32)) dL_law_850 rfl ?_
              cases h
              exact Y_iret (pc := 851) rfl (nar_bo (by decide)) dL_law_851 hPy29 ⟨rfl, rfl⟩
        · replace h := ifF hc27 h
          refine Y_iconst (pc := 833) (v := (0 : Int32)) dL_law_833 rfl ?_
          cases h
          exact Y_iret (pc := 834) rfl (nar_bo (by decide)) dL_law_834 hPy29 ⟨rfl, rfl⟩
      · intro e9
        replace h := ifF (by rw [e9] <;> decide) h
        replace h := ifF (by rw [e9] <;> decide) h
        replace h := ifF (by rw [e9] <;> decide) h
        replace h := ifF (by rw [e9] <;> decide) h
        replace h := ifF (by rw [e9] <;> decide) h
        replace h := ifF (by rw [e9] <;> decide) h
        replace h := ifF (by rw [e9] <;> decide) h
        replace h := ifF (by rw [e9] <;> decide) h
        replace h := ifF (by rw [e9] <;> decide) h
        replace h := ifF (by rw [e9] <;> decide) h
        replace h := ifT (by rw [e9] <;> decide) h
        refine Y_aload_n (pc := 855) (j := 1) dL_law_855 rfl rfl ?_
        refine Y_aload_n (pc := 856) (j := 3) dL_law_856 rfl rfl ?_
        obtain ⟨y30, qy30, h⟩ := bindE h
        have cy30 := v_L_result hP qy30
        refine C_S2r (pc := 857) (k' := k_L_result) dL_law_857 w7_25 i_L_result (Nat.le_of_ble_eq_true rfl) (Nat.le_of_ble_eq_true rfl) (Nat.le_of_ble_eq_true rfl) (cy30) ?_
        have hPy30 := cy30.1.1
        refine Y_istore (pc := 860) (lv1 := [(6, .int y30.1), (0, .ref 0), (1, .ref 1), (2, .ref 69), (3, .ref 127), (4, .ref 128), (5, .int x5)]) dL_law_860 (by decide) rfl ?_
        refine Y_aload_n (pc := 862) (j := 3) dL_law_862 rfl rfl ?_
        obtain ⟨y31, qy31, h⟩ := bindE h
        have cy31 := v_X12_result hPy30 qy31
        refine C_V0r (pc := 863) (k' := k_X12_result) dL_law_863 w10_163 i_X12_result (lk_69 hPy30) ⟨Nat.le_of_ble_eq_true rfl, Nat.le_of_ble_eq_true rfl⟩ rfl (Nat.le_of_ble_eq_true rfl) (Nat.le_of_ble_eq_true rfl) (Nat.le_of_ble_eq_true rfl) (cy31) ?_
        have hPy31 := cy31.1.1
        refine Y_lstore (pc := 866) (lv1 := [(7, .long y31.1), (6, .int y30.1), (0, .ref 0), (1, .ref 1), (2, .ref 69), (3, .ref 127), (4, .ref 128), (5, .int x5)]) dL_law_866 (by decide) rfl ?_
        refine Y_aload_n (pc := 868) (j := 4) dL_law_868 rfl rfl ?_
        obtain ⟨y32, qy32, h⟩ := bindE h
        have cy32 := v_X12_thrown hPy31 qy32
        refine C_V0r (pc := 869) (k' := k_X12_thrown) dL_law_869 w9_102 i_X12_thrown (lk_69 hPy31) ⟨Nat.le_of_ble_eq_true rfl, Nat.le_of_ble_eq_true rfl⟩ rfl (Nat.le_of_ble_eq_true rfl) (Nat.le_of_ble_eq_true rfl) (Nat.le_of_ble_eq_true rfl) (cy32) ?_
        have hPy32 := cy32.1.1
        refine Y_iload (pc := 872) (j := 1) dL_law_872 rfl ?_
        refine Y_icmp_eq (pc := 874) (tgt := 879) dL_law_874 (by decide) (fun hc30 => ?_) (fun hc30 => ?_)
        · replace h := ifT hc30 h
          refine Y_iload (pc := 879) (j := 1) dL_law_879 rfl ?_
          refine Y_if_ne (pc := 881) (tgt := 895) dL_law_881 (by decide) (fun hc31 => ?_) (fun hc31 => ?_)
          · replace h := ifF hc31 h
            refine VV.sub [2, 3, 4, 5, 6, 7] rfl ?_
            exact b_L_law_895 hk28 hPy32 h
          · replace h := ifT hc31 h
            refine Y_aload_n (pc := 884) (j := 5) dL_law_884 rfl rfl ?_
            refine Y_iconst (pc := 885) (v := (0 : Int32)) dL_law_885 rfl ?_
            refine Y_lald (pc := 886) dL_law_886 (lk_127 hPy32) (ln_127 hPy32) (vp_lit (by decide)) ?_
            refine Y_lload (pc := 887) (j := 0) dL_law_887 rfl ?_
            refine Y_lcmp (pc := 889) dL_law_889 ?_
            refine Y_if_eq (pc := 890) (tgt := 895) dL_law_890 (by decide) (fun hc32 => ?_) (fun hc32 => ?_)
            · replace h := ifT hc32 h
              refine VV.sub [2, 3, 4, 5, 6, 7] rfl ?_
              exact b_L_law_895 hk28 hPy32 h
            · replace h := ifF hc32 h
              refine Y_iconst (pc := 893) (v := (0 : Int32)) dL_law_893 rfl ?_
              cases h
              exact Y_iret (pc := 894) rfl (nar_bo (by decide)) dL_law_894 hPy32 ⟨rfl, rfl⟩
        · replace h := ifF hc30 h
          refine Y_iconst (pc := 877) (v := (0 : Int32)) dL_law_877 rfl ?_
          cases h
          exact Y_iret (pc := 878) rfl (nar_bo (by decide)) dL_law_878 hPy32 ⟨rfl, rfl⟩
      · intro e9
        replace h := ifF (by rw [e9] <;> decide) h
        replace h := ifF (by rw [e9] <;> decide) h
        replace h := ifF (by rw [e9] <;> decide) h
        replace h := ifF (by rw [e9] <;> decide) h
        replace h := ifF (by rw [e9] <;> decide) h
        replace h := ifF (by rw [e9] <;> decide) h
        replace h := ifF (by rw [e9] <;> decide) h
        replace h := ifF (by rw [e9] <;> decide) h
        replace h := ifF (by rw [e9] <;> decide) h
        replace h := ifF (by rw [e9] <;> decide) h
        replace h := ifF (by rw [e9] <;> decide) h
        replace h := ifT (by rw [e9] <;> decide) h
        refine Y_aload_n (pc := 898) (j := 1) dL_law_898 rfl rfl ?_
        refine Y_aload_n (pc := 899) (j := 3) dL_law_899 rfl rfl ?_
        obtain ⟨y33, qy33, h⟩ := bindE h
        have cy33 := v_L_failure hP qy33
        refine C_S2r (pc := 900) (k' := k_L_failure) dL_law_900 w7_48 i_L_failure (Nat.le_of_ble_eq_true rfl) (Nat.le_of_ble_eq_true rfl) (Nat.le_of_ble_eq_true rfl) (cy33) ?_
        have hPy33 := cy33.1.1
        refine Y_istore (pc := 903) (lv1 := [(6, .int y33.1), (0, .ref 0), (1, .ref 1), (2, .ref 69), (3, .ref 127), (4, .ref 128), (5, .int x5)]) dL_law_903 (by decide) rfl ?_
        refine Y_aload_n (pc := 905) (j := 3) dL_law_905 rfl rfl ?_
        obtain ⟨y34, qy34, h⟩ := bindE h
        have cy34 := v_X12_failure hPy33 qy34
        refine C_V0r (pc := 906) (k' := k_X12_failure) dL_law_906 w10_167 i_X12_failure (lk_69 hPy33) ⟨Nat.le_of_ble_eq_true rfl, Nat.le_of_ble_eq_true rfl⟩ rfl (Nat.le_of_ble_eq_true rfl) (Nat.le_of_ble_eq_true rfl) (Nat.le_of_ble_eq_true rfl) (cy34) ?_
        have hPy34 := cy34.1.1
        refine Y_istore (pc := 909) (lv1 := [(7, .int y34.1), (6, .int y33.1), (0, .ref 0), (1, .ref 1), (2, .ref 69), (3, .ref 127), (4, .ref 128), (5, .int x5)]) dL_law_909 (by decide) rfl ?_
        refine Y_aload_n (pc := 911) (j := 4) dL_law_911 rfl rfl ?_
        obtain ⟨y35, qy35, h⟩ := bindE h
        have cy35 := v_X12_thrown hPy34 qy35
        refine C_V0r (pc := 912) (k' := k_X12_thrown) dL_law_912 w9_102 i_X12_thrown (lk_69 hPy34) ⟨Nat.le_of_ble_eq_true rfl, Nat.le_of_ble_eq_true rfl⟩ rfl (Nat.le_of_ble_eq_true rfl) (Nat.le_of_ble_eq_true rfl) (Nat.le_of_ble_eq_true rfl) (cy35) ?_
        have hPy35 := cy35.1.1
        refine Y_iload (pc := 915) (j := 1) dL_law_915 rfl ?_
        refine Y_icmp_eq (pc := 917) (tgt := 922) dL_law_917 (by decide) (fun hc33 => ?_) (fun hc33 => ?_)
        · replace h := ifT hc33 h
          refine Y_iload (pc := 922) (j := 1) dL_law_922 rfl ?_
          refine Y_if_ne (pc := 924) (tgt := 939) dL_law_924 (by decide) (fun hc34 => ?_) (fun hc34 => ?_)
          · replace h := ifF hc34 h
            refine VV.sub [2, 3, 4, 5, 6, 7] rfl ?_
            exact b_L_law_939 hk28 hPy35 h
          · replace h := ifT hc34 h
            refine Y_aload_n (pc := 927) (j := 5) dL_law_927 rfl rfl ?_
            refine Y_iconst (pc := 928) (v := (0 : Int32)) dL_law_928 rfl ?_
            refine Y_lald (pc := 929) dL_law_929 (lk_127 hPy35) (ln_127 hPy35) (vp_lit (by decide)) ?_
            refine Y_iload (pc := 930) (j := 0) dL_law_930 rfl ?_
            refine Y_i2l (pc := 932) dL_law_932 ?_
            refine Y_lcmp (pc := 933) dL_law_933 ?_
            refine Y_if_eq (pc := 934) (tgt := 939) dL_law_934 (by decide) (fun hc35 => ?_) (fun hc35 => ?_)
            · replace h := ifT hc35 h
              refine VV.sub [2, 3, 4, 5, 6, 7] rfl ?_
              exact b_L_law_939 hk28 hPy35 h
            · replace h := ifF hc35 h
              refine Y_iconst (pc := 937) (v := (0 : Int32)) dL_law_937 rfl ?_
              cases h
              exact Y_iret (pc := 938) rfl (nar_bo (by decide)) dL_law_938 hPy35 ⟨rfl, rfl⟩
        · replace h := ifF hc33 h
          refine Y_iconst (pc := 920) (v := (0 : Int32)) dL_law_920 rfl ?_
          cases h
          exact Y_iret (pc := 921) rfl (nar_bo (by decide)) dL_law_921 hPy35 ⟨rfl, rfl⟩
      · intro e9
        replace h := ifF (by rw [e9] <;> decide) h
        replace h := ifF (by rw [e9] <;> decide) h
        replace h := ifF (by rw [e9] <;> decide) h
        replace h := ifF (by rw [e9] <;> decide) h
        replace h := ifF (by rw [e9] <;> decide) h
        replace h := ifF (by rw [e9] <;> decide) h
        replace h := ifF (by rw [e9] <;> decide) h
        replace h := ifF (by rw [e9] <;> decide) h
        replace h := ifF (by rw [e9] <;> decide) h
        replace h := ifF (by rw [e9] <;> decide) h
        replace h := ifF (by rw [e9] <;> decide) h
        replace h := ifF (by rw [e9] <;> decide) h
        replace h := ifT (by rw [e9] <;> decide) h
        refine Y_aload_n (pc := 942) (j := 1) dL_law_942 rfl rfl ?_
        refine Y_aload_n (pc := 943) (j := 3) dL_law_943 rfl rfl ?_
        obtain ⟨y36, qy36, h⟩ := bindE h
        have cy36 := v_L_line hP qy36
        refine C_S2r (pc := 944) (k' := k_L_line) dL_law_944 w7_55 i_L_line (Nat.le_of_ble_eq_true rfl) (Nat.le_of_ble_eq_true rfl) (Nat.le_of_ble_eq_true rfl) (cy36) ?_
        have hPy36 := cy36.1.1
        refine Y_istore (pc := 947) (lv1 := [(6, .int y36.1), (0, .ref 0), (1, .ref 1), (2, .ref 69), (3, .ref 127), (4, .ref 128), (5, .int x5)]) dL_law_947 (by decide) rfl ?_
        refine Y_aload_n (pc := 949) (j := 3) dL_law_949 rfl rfl ?_
        obtain ⟨y37, qy37, h⟩ := bindE h
        have cy37 := v_X12_line hPy36 qy37
        refine C_V0r (pc := 950) (k' := k_X12_line) dL_law_950 w10_171 i_X12_line (lk_69 hPy36) ⟨Nat.le_of_ble_eq_true rfl, Nat.le_of_ble_eq_true rfl⟩ rfl (Nat.le_of_ble_eq_true rfl) (Nat.le_of_ble_eq_true rfl) (Nat.le_of_ble_eq_true rfl) (cy37) ?_
        have hPy37 := cy37.1.1
        refine Y_istore (pc := 953) (lv1 := [(7, .int y37.1), (6, .int y36.1), (0, .ref 0), (1, .ref 1), (2, .ref 69), (3, .ref 127), (4, .ref 128), (5, .int x5)]) dL_law_953 (by decide) rfl ?_
        refine Y_aload_n (pc := 955) (j := 4) dL_law_955 rfl rfl ?_
        obtain ⟨y38, qy38, h⟩ := bindE h
        have cy38 := v_X12_thrown hPy37 qy38
        refine C_V0r (pc := 956) (k' := k_X12_thrown) dL_law_956 w9_102 i_X12_thrown (lk_69 hPy37) ⟨Nat.le_of_ble_eq_true rfl, Nat.le_of_ble_eq_true rfl⟩ rfl (Nat.le_of_ble_eq_true rfl) (Nat.le_of_ble_eq_true rfl) (Nat.le_of_ble_eq_true rfl) (cy38) ?_
        have hPy38 := cy38.1.1
        refine Y_iload (pc := 959) (j := 1) dL_law_959 rfl ?_
        refine Y_icmp_eq (pc := 961) (tgt := 966) dL_law_961 (by decide) (fun hc36 => ?_) (fun hc36 => ?_)
        · replace h := ifT hc36 h
          refine Y_iload (pc := 966) (j := 1) dL_law_966 rfl ?_
          refine Y_if_ne (pc := 968) (tgt := 983) dL_law_968 (by decide) (fun hc37 => ?_) (fun hc37 => ?_)
          · replace h := ifF hc37 h
            refine VV.sub [2, 3, 4, 5, 6, 7] rfl ?_
            exact b_L_law_983 hk28 hPy38 h
          · replace h := ifT hc37 h
            refine Y_aload_n (pc := 971) (j := 5) dL_law_971 rfl rfl ?_
            refine Y_iconst (pc := 972) (v := (0 : Int32)) dL_law_972 rfl ?_
            refine Y_lald (pc := 973) dL_law_973 (lk_127 hPy38) (ln_127 hPy38) (vp_lit (by decide)) ?_
            refine Y_iload (pc := 974) (j := 0) dL_law_974 rfl ?_
            refine Y_i2l (pc := 976) dL_law_976 ?_
            refine Y_lcmp (pc := 977) dL_law_977 ?_
            refine Y_if_eq (pc := 978) (tgt := 983) dL_law_978 (by decide) (fun hc38 => ?_) (fun hc38 => ?_)
            · replace h := ifT hc38 h
              refine VV.sub [2, 3, 4, 5, 6, 7] rfl ?_
              exact b_L_law_983 hk28 hPy38 h
            · replace h := ifF hc38 h
              refine Y_iconst (pc := 981) (v := (0 : Int32)) dL_law_981 rfl ?_
              cases h
              exact Y_iret (pc := 982) rfl (nar_bo (by decide)) dL_law_982 hPy38 ⟨rfl, rfl⟩
        · replace h := ifF hc36 h
          refine Y_iconst (pc := 964) (v := (0 : Int32)) dL_law_964 rfl ?_
          cases h
          exact Y_iret (pc := 965) rfl (nar_bo (by decide)) dL_law_965 hPy38 ⟨rfl, rfl⟩
      · intro e9
        replace h := ifF (by rw [e9] <;> decide) h
        replace h := ifF (by rw [e9] <;> decide) h
        replace h := ifF (by rw [e9] <;> decide) h
        replace h := ifF (by rw [e9] <;> decide) h
        replace h := ifF (by rw [e9] <;> decide) h
        replace h := ifF (by rw [e9] <;> decide) h
        replace h := ifF (by rw [e9] <;> decide) h
        replace h := ifF (by rw [e9] <;> decide) h
        replace h := ifF (by rw [e9] <;> decide) h
        replace h := ifF (by rw [e9] <;> decide) h
        replace h := ifF (by rw [e9] <;> decide) h
        replace h := ifF (by rw [e9] <;> decide) h
        replace h := ifF (by rw [e9] <;> decide) h
        replace h := ifT (by rw [e9] <;> decide) h
        refine Y_aload_n (pc := 986) (j := 1) dL_law_986 rfl rfl ?_
        obtain ⟨y39, qy39, h⟩ := bindE h
        have cy39 := v_X11_told hP qy39
        refine C_V0r (pc := 987) (k' := k_X11_told) dL_law_987 w3_75 i_X11_told (lk_1 hP) ⟨Nat.le_of_ble_eq_true rfl, Nat.le_of_ble_eq_true rfl⟩ rfl (Nat.le_of_ble_eq_true rfl) (Nat.le_of_ble_eq_true rfl) (Nat.le_of_ble_eq_true rfl) (cy39) ?_
        have hPy39 := cy39.1.1
        refine Y_aload_n (pc := 990) (j := 2) dL_law_990 rfl rfl ?_
        obtain ⟨y40, qy40, h⟩ := bindE h
        have cy40 := v_X12_told_ hPy39 qy40
        refine C_V0r (pc := 991) (k' := k_X12_told_) dL_law_991 w10_175 i_X12_told_ (lk_69 hPy39) ⟨Nat.le_of_ble_eq_true rfl, Nat.le_of_ble_eq_true rfl⟩ rfl (Nat.le_of_ble_eq_true rfl) (Nat.le_of_ble_eq_true rfl) (Nat.le_of_ble_eq_true rfl) (cy40) ?_
        have hPy40 := cy40.1.1
        refine Y_icmp_eq (pc := 994) (tgt := 2621) dL_law_994 (by decide) (fun hc39 => ?_) (fun hc39 => ?_)
        · replace h := ifT hc39 h
          refine VV.sub [0, 1, 2, 3, 4, 5] rfl ?_
          exact b_L_law_2621 hk28 hPy40 h
        · replace h := ifF hc39 h
          refine Y_iconst (pc := 997) (v := (0 : Int32)) dL_law_997 rfl ?_
          cases h
          exact Y_iret (pc := 998) rfl (nar_bo (by decide)) dL_law_998 hPy40 ⟨rfl, rfl⟩
      · intro e9
        replace h := ifF (by rw [e9] <;> decide) h
        replace h := ifF (by rw [e9] <;> decide) h
        replace h := ifF (by rw [e9] <;> decide) h
        replace h := ifF (by rw [e9] <;> decide) h
        replace h := ifF (by rw [e9] <;> decide) h
        replace h := ifF (by rw [e9] <;> decide) h
        replace h := ifF (by rw [e9] <;> decide) h
        replace h := ifF (by rw [e9] <;> decide) h
        replace h := ifF (by rw [e9] <;> decide) h
        replace h := ifF (by rw [e9] <;> decide) h
        replace h := ifF (by rw [e9] <;> decide) h
        replace h := ifF (by rw [e9] <;> decide) h
        replace h := ifF (by rw [e9] <;> decide) h
        replace h := ifF (by rw [e9] <;> decide) h
        replace h := ifT (by rw [e9] <;> decide) h
        refine Y_aload_n (pc := 999) (j := 1) dL_law_999 rfl rfl ?_
        refine Y_aload_n (pc := 1000) (j := 0) dL_law_1000 rfl rfl ?_
        refine Y_iload (pc := 1001) (j := 5) dL_law_1001 rfl ?_
        refine Y_iconst (pc := 1003) (v := (1 : Int32)) dL_law_1003 rfl ?_
        refine Y_iadd (pc := 1004) dL_law_1004 ?_
        obtain ⟨hb36, h⟩ := okE h
        refine Y_sald (pc := 1005) dL_law_1005 (lk_0 hP) rfl hb36 ?_
        refine Y_aload_n (pc := 1006) (j := 3) dL_law_1006 rfl rfl ?_
        obtain ⟨y41, qy41, h⟩ := bindE h
        have cy41 := v_L_toldKind hP qy41
        refine C_S3r (pc := 1007) (k' := k_L_toldKind) dL_law_1007 w7_62 i_L_toldKind (Nat.le_of_ble_eq_true rfl) (Nat.le_of_ble_eq_true rfl) (Nat.le_of_ble_eq_true rfl) (cy41) ?_
        have hPy41 := cy41.1.1
        refine Y_istore (pc := 1010) (lv1 := [(6, .int y41.1), (0, .ref 0), (1, .ref 1), (2, .ref 69), (3, .ref 127), (4, .ref 128), (5, .int x5)]) dL_law_1010 (by decide) rfl ?_
        refine Y_aload_n (pc := 1012) (j := 3) dL_law_1012 rfl rfl ?_
        refine Y_aload_n (pc := 1013) (j := 1) dL_law_1013 rfl rfl ?_
        refine Y_iload (pc := 1014) (j := 6) dL_law_1014 rfl ?_
        refine Y_iconst (pc := 1016) (v := (1 : Int32)) dL_law_1016 rfl ?_
        refine Y_iadd (pc := 1017) dL_law_1017 ?_
        obtain ⟨hb37, h⟩ := okE h
        refine Y_sald (pc := 1018) dL_law_1018 (lk_0 hPy41) rfl hb37 ?_
        obtain ⟨y42, qy42, h⟩ := bindE h
        have cy42 := v_X12_toldKind hPy41 qy42
        refine C_V1r (pc := 1019) (k' := k_X12_toldKind) dL_law_1019 w10_179 i_X12_toldKind (lk_69 hPy41) ⟨Nat.le_of_ble_eq_true rfl, Nat.le_of_ble_eq_true rfl⟩ rfl (Nat.le_of_ble_eq_true rfl) (Nat.le_of_ble_eq_true rfl) (Nat.le_of_ble_eq_true rfl) (cy42) ?_
        have hPy42 := cy42.1.1
        refine Y_istore (pc := 1022) (lv1 := [(7, .int y42.1), (6, .int y41.1), (0, .ref 0), (1, .ref 1), (2, .ref 69), (3, .ref 127), (4, .ref 128), (5, .int x5)]) dL_law_1022 (by decide) rfl ?_
        refine Y_aload_n (pc := 1024) (j := 4) dL_law_1024 rfl rfl ?_
        obtain ⟨y43, qy43, h⟩ := bindE h
        have cy43 := v_X12_thrown hPy42 qy43
        refine C_V0r (pc := 1025) (k' := k_X12_thrown) dL_law_1025 w9_102 i_X12_thrown (lk_69 hPy42) ⟨Nat.le_of_ble_eq_true rfl, Nat.le_of_ble_eq_true rfl⟩ rfl (Nat.le_of_ble_eq_true rfl) (Nat.le_of_ble_eq_true rfl) (Nat.le_of_ble_eq_true rfl) (cy43) ?_
        have hPy43 := cy43.1.1
        refine Y_iload (pc := 1028) (j := 1) dL_law_1028 rfl ?_
        refine Y_icmp_eq (pc := 1030) (tgt := 1035) dL_law_1030 (by decide) (fun hc40 => ?_) (fun hc40 => ?_)
        · replace h := ifT hc40 h
          refine Y_iload (pc := 1035) (j := 1) dL_law_1035 rfl ?_
          refine Y_if_ne (pc := 1037) (tgt := 1052) dL_law_1037 (by decide) (fun hc41 => ?_) (fun hc41 => ?_)
          · replace h := ifF hc41 h
            refine VV.sub [2, 3, 4, 5, 6, 7] rfl ?_
            exact b_L_law_1052 hk28 hPy43 h
          · replace h := ifT hc41 h
            refine Y_aload_n (pc := 1040) (j := 5) dL_law_1040 rfl rfl ?_
            refine Y_iconst (pc := 1041) (v := (0 : Int32)) dL_law_1041 rfl ?_
            refine Y_lald (pc := 1042) dL_law_1042 (lk_127 hPy43) (ln_127 hPy43) (vp_lit (by decide)) ?_
            refine Y_iload (pc := 1043) (j := 0) dL_law_1043 rfl ?_
            refine Y_i2l (pc := 1045) dL_law_1045 ?_
            refine Y_lcmp (pc := 1046) dL_law_1046 ?_
            refine Y_if_eq (pc := 1047) (tgt := 1052) dL_law_1047 (by decide) (fun hc42 => ?_) (fun hc42 => ?_)
            · replace h := ifT hc42 h
              refine VV.sub [2, 3, 4, 5, 6, 7] rfl ?_
              exact b_L_law_1052 hk28 hPy43 h
            · replace h := ifF hc42 h
              refine Y_iconst (pc := 1050) (v := (0 : Int32)) dL_law_1050 rfl ?_
              cases h
              exact Y_iret (pc := 1051) rfl (nar_bo (by decide)) dL_law_1051 hPy43 ⟨rfl, rfl⟩
        · replace h := ifF hc40 h
          refine Y_iconst (pc := 1033) (v := (0 : Int32)) dL_law_1033 rfl ?_
          cases h
          exact Y_iret (pc := 1034) rfl (nar_bo (by decide)) dL_law_1034 hPy43 ⟨rfl, rfl⟩
      · intro e9
        replace h := ifF (by rw [e9] <;> decide) h
        replace h := ifF (by rw [e9] <;> decide) h
        replace h := ifF (by rw [e9] <;> decide) h
        replace h := ifF (by rw [e9] <;> decide) h
        replace h := ifF (by rw [e9] <;> decide) h
        replace h := ifF (by rw [e9] <;> decide) h
        replace h := ifF (by rw [e9] <;> decide) h
        replace h := ifF (by rw [e9] <;> decide) h
        replace h := ifF (by rw [e9] <;> decide) h
        replace h := ifF (by rw [e9] <;> decide) h
        replace h := ifF (by rw [e9] <;> decide) h
        replace h := ifF (by rw [e9] <;> decide) h
        replace h := ifF (by rw [e9] <;> decide) h
        replace h := ifF (by rw [e9] <;> decide) h
        replace h := ifF (by rw [e9] <;> decide) h
        replace h := ifT (by rw [e9] <;> decide) h
        refine Y_aload_n (pc := 1055) (j := 1) dL_law_1055 rfl rfl ?_
        refine Y_aload_n (pc := 1056) (j := 0) dL_law_1056 rfl rfl ?_
        refine Y_iload (pc := 1057) (j := 5) dL_law_1057 rfl ?_
        refine Y_iconst (pc := 1059) (v := (1 : Int32)) dL_law_1059 rfl ?_
        refine Y_iadd (pc := 1060) dL_law_1060 ?_
        obtain ⟨hb38, h⟩ := okE h
        refine Y_sald (pc := 1061) dL_law_1061 (lk_0 hP) rfl hb38 ?_
        refine Y_aload_n (pc := 1062) (j := 3) dL_law_1062 rfl rfl ?_
        obtain ⟨y44, qy44, h⟩ := bindE h
        have cy44 := v_L_toldAt hP qy44
        refine C_S3r (pc := 1063) (k' := k_L_toldAt) dL_law_1063 w7_74 i_L_toldAt (Nat.le_of_ble_eq_true rfl) (Nat.le_of_ble_eq_true rfl) (Nat.le_of_ble_eq_true rfl) (cy44) ?_
        have hPy44 := cy44.1.1
        refine Y_istore (pc := 1066) (lv1 := [(6, .int y44.1), (0, .ref 0), (1, .ref 1), (2, .ref 69), (3, .ref 127), (4, .ref 128), (5, .int x5)]) dL_law_1066 (by decide) rfl ?_
        refine Y_aload_n (pc := 1068) (j := 3) dL_law_1068 rfl rfl ?_
        refine Y_aload_n (pc := 1069) (j := 1) dL_law_1069 rfl rfl ?_
        refine Y_iload (pc := 1070) (j := 6) dL_law_1070 rfl ?_
        refine Y_iconst (pc := 1072) (v := (1 : Int32)) dL_law_1072 rfl ?_
        refine Y_iadd (pc := 1073) dL_law_1073 ?_
        obtain ⟨hb39, h⟩ := okE h
        refine Y_sald (pc := 1074) dL_law_1074 (lk_0 hPy44) rfl hb39 ?_
        obtain ⟨y45, qy45, h⟩ := bindE h
        have cy45 := v_X12_toldAt hPy44 qy45
        refine C_V1r (pc := 1075) (k' := k_X12_toldAt) dL_law_1075 w10_183 i_X12_toldAt (lk_69 hPy44) ⟨Nat.le_of_ble_eq_true rfl, Nat.le_of_ble_eq_true rfl⟩ rfl (Nat.le_of_ble_eq_true rfl) (Nat.le_of_ble_eq_true rfl) (Nat.le_of_ble_eq_true rfl) (cy45) ?_
        have hPy45 := cy45.1.1
        refine Y_lstore (pc := 1078) (lv1 := [(7, .long y45.1), (6, .int y44.1), (0, .ref 0), (1, .ref 1), (2, .ref 69), (3, .ref 127), (4, .ref 128), (5, .int x5)]) dL_law_1078 (by decide) rfl ?_
        refine Y_aload_n (pc := 1080) (j := 4) dL_law_1080 rfl rfl ?_
        obtain ⟨y46, qy46, h⟩ := bindE h
        have cy46 := v_X12_thrown hPy45 qy46
        refine C_V0r (pc := 1081) (k' := k_X12_thrown) dL_law_1081 w9_102 i_X12_thrown (lk_69 hPy45) ⟨Nat.le_of_ble_eq_true rfl, Nat.le_of_ble_eq_true rfl⟩ rfl (Nat.le_of_ble_eq_true rfl) (Nat.le_of_ble_eq_true rfl) (Nat.le_of_ble_eq_true rfl) (cy46) ?_
        have hPy46 := cy46.1.1
        refine Y_iload (pc := 1084) (j := 1) dL_law_1084 rfl ?_
        refine Y_icmp_eq (pc := 1086) (tgt := 1091) dL_law_1086 (by decide) (fun hc43 => ?_) (fun hc43 => ?_)
        · replace h := ifT hc43 h
          refine Y_iload (pc := 1091) (j := 1) dL_law_1091 rfl ?_
          refine Y_if_ne (pc := 1093) (tgt := 1107) dL_law_1093 (by decide) (fun hc44 => ?_) (fun hc44 => ?_)
          · replace h := ifF hc44 h
            refine VV.sub [2, 3, 4, 5, 6, 7] rfl ?_
            exact b_L_law_1107 hk28 hPy46 h
          · replace h := ifT hc44 h
            refine Y_aload_n (pc := 1096) (j := 5) dL_law_1096 rfl rfl ?_
            refine Y_iconst (pc := 1097) (v := (0 : Int32)) dL_law_1097 rfl ?_
            refine Y_lald (pc := 1098) dL_law_1098 (lk_127 hPy46) (ln_127 hPy46) (vp_lit (by decide)) ?_
            refine Y_lload (pc := 1099) (j := 0) dL_law_1099 rfl ?_
            refine Y_lcmp (pc := 1101) dL_law_1101 ?_
            refine Y_if_eq (pc := 1102) (tgt := 1107) dL_law_1102 (by decide) (fun hc45 => ?_) (fun hc45 => ?_)
            · replace h := ifT hc45 h
              refine VV.sub [2, 3, 4, 5, 6, 7] rfl ?_
              exact b_L_law_1107 hk28 hPy46 h
            · replace h := ifF hc45 h
              refine Y_iconst (pc := 1105) (v := (0 : Int32)) dL_law_1105 rfl ?_
              cases h
              exact Y_iret (pc := 1106) rfl (nar_bo (by decide)) dL_law_1106 hPy46 ⟨rfl, rfl⟩
        · replace h := ifF hc43 h
          refine Y_iconst (pc := 1089) (v := (0 : Int32)) dL_law_1089 rfl ?_
          cases h
          exact Y_iret (pc := 1090) rfl (nar_bo (by decide)) dL_law_1090 hPy46 ⟨rfl, rfl⟩
      · intro e9
        replace h := ifF (by rw [e9] <;> decide) h
        replace h := ifF (by rw [e9] <;> decide) h
        replace h := ifF (by rw [e9] <;> decide) h
        replace h := ifF (by rw [e9] <;> decide) h
        replace h := ifF (by rw [e9] <;> decide) h
        replace h := ifF (by rw [e9] <;> decide) h
        replace h := ifF (by rw [e9] <;> decide) h
        replace h := ifF (by rw [e9] <;> decide) h
        replace h := ifF (by rw [e9] <;> decide) h
        replace h := ifF (by rw [e9] <;> decide) h
        replace h := ifF (by rw [e9] <;> decide) h
        replace h := ifF (by rw [e9] <;> decide) h
        replace h := ifF (by rw [e9] <;> decide) h
        replace h := ifF (by rw [e9] <;> decide) h
        replace h := ifF (by rw [e9] <;> decide) h
        replace h := ifF (by rw [e9] <;> decide) h
        replace h := ifT (by rw [e9] <;> decide) h
        refine Y_aload_n (pc := 1110) (j := 1) dL_law_1110 rfl rfl ?_
        obtain ⟨y47, qy47, h⟩ := bindE h
        have cy47 := v_X11_objects hP qy47
        refine C_V0r (pc := 1111) (k' := k_X11_objects) dL_law_1111 w3_79 i_X11_objects (lk_1 hP) ⟨Nat.le_of_ble_eq_true rfl, Nat.le_of_ble_eq_true rfl⟩ rfl (Nat.le_of_ble_eq_true rfl) (Nat.le_of_ble_eq_true rfl) (Nat.le_of_ble_eq_true rfl) (cy47) ?_
        have hPy47 := cy47.1.1
        refine Y_aload_n (pc := 1114) (j := 2) dL_law_1114 rfl rfl ?_
        obtain ⟨y48, qy48, h⟩ := bindE h
        have cy48 := v_X12_objects hPy47 qy48
        refine C_V0r (pc := 1115) (k' := k_X12_objects) dL_law_1115 w10_187 i_X12_objects (lk_69 hPy47) ⟨Nat.le_of_ble_eq_true rfl, Nat.le_of_ble_eq_true rfl⟩ rfl (Nat.le_of_ble_eq_true rfl) (Nat.le_of_ble_eq_true rfl) (Nat.le_of_ble_eq_true rfl) (cy48) ?_
        have hPy48 := cy48.1.1
        refine Y_icmp_eq (pc := 1118) (tgt := 2621) dL_law_1118 (by decide) (fun hc46 => ?_) (fun hc46 => ?_)
        · replace h := ifT hc46 h
          refine VV.sub [0, 1, 2, 3, 4, 5] rfl ?_
          exact b_L_law_2621 hk28 hPy48 h
        · replace h := ifF hc46 h
          refine Y_iconst (pc := 1121) (v := (0 : Int32)) dL_law_1121 rfl ?_
          cases h
          exact Y_iret (pc := 1122) rfl (nar_bo (by decide)) dL_law_1122 hPy48 ⟨rfl, rfl⟩
      · intro e9
        replace h := ifF (by rw [e9] <;> decide) h
        replace h := ifF (by rw [e9] <;> decide) h
        replace h := ifF (by rw [e9] <;> decide) h
        replace h := ifF (by rw [e9] <;> decide) h
        replace h := ifF (by rw [e9] <;> decide) h
        replace h := ifF (by rw [e9] <;> decide) h
        replace h := ifF (by rw [e9] <;> decide) h
        replace h := ifF (by rw [e9] <;> decide) h
        replace h := ifF (by rw [e9] <;> decide) h
        replace h := ifF (by rw [e9] <;> decide) h
        replace h := ifF (by rw [e9] <;> decide) h
        replace h := ifF (by rw [e9] <;> decide) h
        replace h := ifF (by rw [e9] <;> decide) h
        replace h := ifF (by rw [e9] <;> decide) h
        replace h := ifF (by rw [e9] <;> decide) h
        replace h := ifF (by rw [e9] <;> decide) h
        replace h := ifF (by rw [e9] <;> decide) h
        replace h := ifT (by rw [e9] <;> decide) h
        refine Y_aload_n (pc := 1123) (j := 1) dL_law_1123 rfl rfl ?_
        refine Y_aload_n (pc := 1124) (j := 0) dL_law_1124 rfl rfl ?_
        refine Y_iload (pc := 1125) (j := 5) dL_law_1125 rfl ?_
        refine Y_iconst (pc := 1127) (v := (1 : Int32)) dL_law_1127 rfl ?_
        refine Y_iadd (pc := 1128) dL_law_1128 ?_
        obtain ⟨hb40, h⟩ := okE h
        refine Y_sald (pc := 1129) dL_law_1129 (lk_0 hP) rfl hb40 ?_
        refine Y_aload_n (pc := 1130) (j := 3) dL_law_1130 rfl rfl ?_
        obtain ⟨y49, qy49, h⟩ := bindE h
        have cy49 := v_L_shapeOf hP qy49
        refine C_S3r (pc := 1131) (k' := k_L_shapeOf) dL_law_1131 w7_81 i_L_shapeOf (Nat.le_of_ble_eq_true rfl) (Nat.le_of_ble_eq_true rfl) (Nat.le_of_ble_eq_true rfl) (cy49) ?_
        have hPy49 := cy49.1.1
        refine Y_istore (pc := 1134) (lv1 := [(6, .int y49.1), (0, .ref 0), (1, .ref 1), (2, .ref 69), (3, .ref 127), (4, .ref 128), (5, .int x5)]) dL_law_1134 (by decide) rfl ?_
        refine Y_aload_n (pc := 1136) (j := 3) dL_law_1136 rfl rfl ?_
        refine Y_aload_n (pc := 1137) (j := 1) dL_law_1137 rfl rfl ?_
        refine Y_iload (pc := 1138) (j := 6) dL_law_1138 rfl ?_
        refine Y_iconst (pc := 1140) (v := (1 : Int32)) dL_law_1140 rfl ?_
        refine Y_iadd (pc := 1141) dL_law_1141 ?_
        obtain ⟨hb41, h⟩ := okE h
        refine Y_sald (pc := 1142) dL_law_1142 (lk_0 hPy49) rfl hb41 ?_
        obtain ⟨y50, qy50, h⟩ := bindE h
        have cy50 := v_X12_shapeOf hPy49 qy50
        refine C_V1r (pc := 1143) (k' := k_X12_shapeOf) dL_law_1143 w10_191 i_X12_shapeOf (lk_69 hPy49) ⟨Nat.le_of_ble_eq_true rfl, Nat.le_of_ble_eq_true rfl⟩ rfl (Nat.le_of_ble_eq_true rfl) (Nat.le_of_ble_eq_true rfl) (Nat.le_of_ble_eq_true rfl) (cy50) ?_
        have hPy50 := cy50.1.1
        refine Y_istore (pc := 1146) (lv1 := [(7, .int y50.1), (6, .int y49.1), (0, .ref 0), (1, .ref 1), (2, .ref 69), (3, .ref 127), (4, .ref 128), (5, .int x5)]) dL_law_1146 (by decide) rfl ?_
        refine Y_aload_n (pc := 1148) (j := 4) dL_law_1148 rfl rfl ?_
        obtain ⟨y51, qy51, h⟩ := bindE h
        have cy51 := v_X12_thrown hPy50 qy51
        refine C_V0r (pc := 1149) (k' := k_X12_thrown) dL_law_1149 w9_102 i_X12_thrown (lk_69 hPy50) ⟨Nat.le_of_ble_eq_true rfl, Nat.le_of_ble_eq_true rfl⟩ rfl (Nat.le_of_ble_eq_true rfl) (Nat.le_of_ble_eq_true rfl) (Nat.le_of_ble_eq_true rfl) (cy51) ?_
        have hPy51 := cy51.1.1
        refine Y_iload (pc := 1152) (j := 1) dL_law_1152 rfl ?_
        refine Y_icmp_eq (pc := 1154) (tgt := 1159) dL_law_1154 (by decide) (fun hc47 => ?_) (fun hc47 => ?_)
        · replace h := ifT hc47 h
          refine Y_iload (pc := 1159) (j := 1) dL_law_1159 rfl ?_
          refine Y_if_ne (pc := 1161) (tgt := 1176) dL_law_1161 (by decide) (fun hc48 => ?_) (fun hc48 => ?_)
          · replace h := ifF hc48 h
            refine VV.sub [2, 3, 4, 5, 6, 7] rfl ?_
            exact b_L_law_1176 hk28 hPy51 h
          · replace h := ifT hc48 h
            refine Y_aload_n (pc := 1164) (j := 5) dL_law_1164 rfl rfl ?_
            refine Y_iconst (pc := 1165) (v := (0 : Int32)) dL_law_1165 rfl ?_
            refine Y_lald (pc := 1166) dL_law_1166 (lk_127 hPy51) (ln_127 hPy51) (vp_lit (by decide)) ?_
            refine Y_iload (pc := 1167) (j := 0) dL_law_1167 rfl ?_
            refine Y_i2l (pc := 1169) dL_law_1169 ?_
            refine Y_lcmp (pc := 1170) dL_law_1170 ?_
            refine Y_if_eq (pc := 1171) (tgt := 1176) dL_law_1171 (by decide) (fun hc49 => ?_) (fun hc49 => ?_)
            · replace h := ifT hc49 h
              refine VV.sub [2, 3, 4, 5, 6, 7] rfl ?_
              exact b_L_law_1176 hk28 hPy51 h
            · replace h := ifF hc49 h
              refine Y_iconst (pc := 1174) (v := (0 : Int32)) dL_law_1174 rfl ?_
              cases h
              exact Y_iret (pc := 1175) rfl (nar_bo (by decide)) dL_law_1175 hPy51 ⟨rfl, rfl⟩
        · replace h := ifF hc47 h
          refine Y_iconst (pc := 1157) (v := (0 : Int32)) dL_law_1157 rfl ?_
          cases h
          exact Y_iret (pc := 1158) rfl (nar_bo (by decide)) dL_law_1158 hPy51 ⟨rfl, rfl⟩
      · intro e9
        replace h := ifF (by rw [e9] <;> decide) h
        replace h := ifF (by rw [e9] <;> decide) h
        replace h := ifF (by rw [e9] <;> decide) h
        replace h := ifF (by rw [e9] <;> decide) h
        replace h := ifF (by rw [e9] <;> decide) h
        replace h := ifF (by rw [e9] <;> decide) h
        replace h := ifF (by rw [e9] <;> decide) h
        replace h := ifF (by rw [e9] <;> decide) h
        replace h := ifF (by rw [e9] <;> decide) h
        replace h := ifF (by rw [e9] <;> decide) h
        replace h := ifF (by rw [e9] <;> decide) h
        replace h := ifF (by rw [e9] <;> decide) h
        replace h := ifF (by rw [e9] <;> decide) h
        replace h := ifF (by rw [e9] <;> decide) h
        replace h := ifF (by rw [e9] <;> decide) h
        replace h := ifF (by rw [e9] <;> decide) h
        replace h := ifF (by rw [e9] <;> decide) h
        replace h := ifF (by rw [e9] <;> decide) h
        replace h := ifT (by rw [e9] <;> decide) h
        refine Y_aload_n (pc := 1179) (j := 1) dL_law_1179 rfl rfl ?_
        refine Y_aload_n (pc := 1180) (j := 0) dL_law_1180 rfl rfl ?_
        refine Y_iload (pc := 1181) (j := 5) dL_law_1181 rfl ?_
        refine Y_iconst (pc := 1183) (v := (1 : Int32)) dL_law_1183 rfl ?_
        refine Y_iadd (pc := 1184) dL_law_1184 ?_
        obtain ⟨hb42, h⟩ := okE h
        refine Y_sald (pc := 1185) dL_law_1185 (lk_0 hP) rfl hb42 ?_
        refine Y_aload_n (pc := 1186) (j := 0) dL_law_1186 rfl rfl ?_
        refine Y_iload (pc := 1187) (j := 5) dL_law_1187 rfl ?_
        refine Y_iconst (pc := 1189) (v := (2 : Int32)) dL_law_1189 rfl ?_
        refine Y_iadd (pc := 1190) dL_law_1190 ?_
        obtain ⟨hb43, h⟩ := okE h
        refine Y_sald (pc := 1191) dL_law_1191 (lk_0 hP) rfl hb43 ?_
        refine Y_aload_n (pc := 1192) (j := 3) dL_law_1192 rfl rfl ?_
        obtain ⟨y52, qy52, h⟩ := bindE h
        have cy52 := v_L_field hP qy52
        refine C_S4r (pc := 1193) (k' := k_L_field) dL_law_1193 w7_93 i_L_field (Nat.le_of_ble_eq_true rfl) (Nat.le_of_ble_eq_true rfl) (Nat.le_of_ble_eq_true rfl) (cy52) ?_
        have hPy52 := cy52.1.1
        refine Y_istore (pc := 1196) (lv1 := [(6, .int y52.1), (0, .ref 0), (1, .ref 1), (2, .ref 69), (3, .ref 127), (4, .ref 128), (5, .int x5)]) dL_law_1196 (by decide) rfl ?_
        refine Y_aload_n (pc := 1198) (j := 3) dL_law_1198 rfl rfl ?_
        refine Y_aload_n (pc := 1199) (j := 1) dL_law_1199 rfl rfl ?_
        refine Y_iload (pc := 1200) (j := 6) dL_law_1200 rfl ?_
        refine Y_iconst (pc := 1202) (v := (1 : Int32)) dL_law_1202 rfl ?_
        refine Y_iadd (pc := 1203) dL_law_1203 ?_
        obtain ⟨hb44, h⟩ := okE h
        refine Y_sald (pc := 1204) dL_law_1204 (lk_0 hPy52) rfl hb44 ?_
        refine Y_aload_n (pc := 1205) (j := 1) dL_law_1205 rfl rfl ?_
        refine Y_iload (pc := 1206) (j := 6) dL_law_1206 rfl ?_
        refine Y_iconst (pc := 1208) (v := (2 : Int32)) dL_law_1208 rfl ?_
        refine Y_iadd (pc := 1209) dL_law_1209 ?_
        obtain ⟨hb45, h⟩ := okE h
        refine Y_sald (pc := 1210) dL_law_1210 (lk_0 hPy52) rfl hb45 ?_
        obtain ⟨y53, qy53, h⟩ := bindE h
        have cy53 := v_X12_field hPy52 qy53
        refine C_V2r (pc := 1211) (k' := k_X12_field) dL_law_1211 w10_195 i_X12_field (lk_69 hPy52) ⟨Nat.le_of_ble_eq_true rfl, Nat.le_of_ble_eq_true rfl⟩ rfl (Nat.le_of_ble_eq_true rfl) (Nat.le_of_ble_eq_true rfl) (Nat.le_of_ble_eq_true rfl) (cy53) ?_
        have hPy53 := cy53.1.1
        refine Y_lstore (pc := 1214) (lv1 := [(7, .long y53.1), (6, .int y52.1), (0, .ref 0), (1, .ref 1), (2, .ref 69), (3, .ref 127), (4, .ref 128), (5, .int x5)]) dL_law_1214 (by decide) rfl ?_
        refine Y_aload_n (pc := 1216) (j := 4) dL_law_1216 rfl rfl ?_
        obtain ⟨y54, qy54, h⟩ := bindE h
        have cy54 := v_X12_thrown hPy53 qy54
        refine C_V0r (pc := 1217) (k' := k_X12_thrown) dL_law_1217 w9_102 i_X12_thrown (lk_69 hPy53) ⟨Nat.le_of_ble_eq_true rfl, Nat.le_of_ble_eq_true rfl⟩ rfl (Nat.le_of_ble_eq_true rfl) (Nat.le_of_ble_eq_true rfl) (Nat.le_of_ble_eq_true rfl) (cy54) ?_
        have hPy54 := cy54.1.1
        refine Y_iload (pc := 1220) (j := 1) dL_law_1220 rfl ?_
        refine Y_icmp_eq (pc := 1222) (tgt := 1227) dL_law_1222 (by decide) (fun hc50 => ?_) (fun hc50 => ?_)
        · replace h := ifT hc50 h
          refine Y_iload (pc := 1227) (j := 1) dL_law_1227 rfl ?_
          refine Y_if_ne (pc := 1229) (tgt := 1243) dL_law_1229 (by decide) (fun hc51 => ?_) (fun hc51 => ?_)
          · replace h := ifF hc51 h
            refine VV.sub [2, 3, 4, 5, 6, 7] rfl ?_
            exact b_L_law_1243 hk28 hPy54 h
          · replace h := ifT hc51 h
            refine Y_aload_n (pc := 1232) (j := 5) dL_law_1232 rfl rfl ?_
            refine Y_iconst (pc := 1233) (v := (0 : Int32)) dL_law_1233 rfl ?_
            refine Y_lald (pc := 1234) dL_law_1234 (lk_127 hPy54) (ln_127 hPy54) (vp_lit (by decide)) ?_
            refine Y_lload (pc := 1235) (j := 0) dL_law_1235 rfl ?_
            refine Y_lcmp (pc := 1237) dL_law_1237 ?_
            refine Y_if_eq (pc := 1238) (tgt := 1243) dL_law_1238 (by decide) (fun hc52 => ?_) (fun hc52 => ?_)
            · replace h := ifT hc52 h
              refine VV.sub [2, 3, 4, 5, 6, 7] rfl ?_
              exact b_L_law_1243 hk28 hPy54 h
            · replace h := ifF hc52 h
              refine Y_iconst (pc := 1241) (v := (0 : Int32)) dL_law_1241 rfl ?_
              cases h
              exact Y_iret (pc := 1242) rfl (nar_bo (by decide)) dL_law_1242 hPy54 ⟨rfl, rfl⟩
        · replace h := ifF hc50 h
          refine Y_iconst (pc := 1225) (v := (0 : Int32)) dL_law_1225 rfl ?_
          cases h
          exact Y_iret (pc := 1226) rfl (nar_bo (by decide)) dL_law_1226 hPy54 ⟨rfl, rfl⟩
      · intro e9
        replace h := ifF (by rw [e9] <;> decide) h
        replace h := ifF (by rw [e9] <;> decide) h
        replace h := ifF (by rw [e9] <;> decide) h
        replace h := ifF (by rw [e9] <;> decide) h
        replace h := ifF (by rw [e9] <;> decide) h
        replace h := ifF (by rw [e9] <;> decide) h
        replace h := ifF (by rw [e9] <;> decide) h
        replace h := ifF (by rw [e9] <;> decide) h
        replace h := ifF (by rw [e9] <;> decide) h
        replace h := ifF (by rw [e9] <;> decide) h
        replace h := ifF (by rw [e9] <;> decide) h
        replace h := ifF (by rw [e9] <;> decide) h
        replace h := ifF (by rw [e9] <;> decide) h
        replace h := ifF (by rw [e9] <;> decide) h
        replace h := ifF (by rw [e9] <;> decide) h
        replace h := ifF (by rw [e9] <;> decide) h
        replace h := ifF (by rw [e9] <;> decide) h
        replace h := ifF (by rw [e9] <;> decide) h
        replace h := ifF (by rw [e9] <;> decide) h
        replace h := ifT (by rw [e9] <;> decide) h
        refine Y_aload_n (pc := 1246) (j := 1) dL_law_1246 rfl rfl ?_
        obtain ⟨y55, qy55, h⟩ := bindE h
        have cy55 := v_X11_shapes hP qy55
        refine C_V0r (pc := 1247) (k' := k_X11_shapes) dL_law_1247 w3_83 i_X11_shapes (lk_1 hP) ⟨Nat.le_of_ble_eq_true rfl, Nat.le_of_ble_eq_true rfl⟩ rfl (Nat.le_of_ble_eq_true rfl) (Nat.le_of_ble_eq_true rfl) (Nat.le_of_ble_eq_true rfl) (cy55) ?_
        have hPy55 := cy55.1.1
        refine Y_aload_n (pc := 1250) (j := 2) dL_law_1250 rfl rfl ?_
        obtain ⟨y56, qy56, h⟩ := bindE h
        have cy56 := v_X12_shapes hPy55 qy56
        refine C_V0r (pc := 1251) (k' := k_X12_shapes) dL_law_1251 w10_199 i_X12_shapes (lk_69 hPy55) ⟨Nat.le_of_ble_eq_true rfl, Nat.le_of_ble_eq_true rfl⟩ rfl (Nat.le_of_ble_eq_true rfl) (Nat.le_of_ble_eq_true rfl) (Nat.le_of_ble_eq_true rfl) (cy56) ?_
        have hPy56 := cy56.1.1
        refine Y_icmp_eq (pc := 1254) (tgt := 2621) dL_law_1254 (by decide) (fun hc53 => ?_) (fun hc53 => ?_)
        · replace h := ifT hc53 h
          refine VV.sub [0, 1, 2, 3, 4, 5] rfl ?_
          exact b_L_law_2621 hk28 hPy56 h
        · replace h := ifF hc53 h
          refine Y_iconst (pc := 1257) (v := (0 : Int32)) dL_law_1257 rfl ?_
          cases h
          exact Y_iret (pc := 1258) rfl (nar_bo (by decide)) dL_law_1258 hPy56 ⟨rfl, rfl⟩
      · intro e9
        replace h := ifF (by rw [e9] <;> decide) h
        replace h := ifF (by rw [e9] <;> decide) h
        replace h := ifF (by rw [e9] <;> decide) h
        replace h := ifF (by rw [e9] <;> decide) h
        replace h := ifF (by rw [e9] <;> decide) h
        replace h := ifF (by rw [e9] <;> decide) h
        replace h := ifF (by rw [e9] <;> decide) h
        replace h := ifF (by rw [e9] <;> decide) h
        replace h := ifF (by rw [e9] <;> decide) h
        replace h := ifF (by rw [e9] <;> decide) h
        replace h := ifF (by rw [e9] <;> decide) h
        replace h := ifF (by rw [e9] <;> decide) h
        replace h := ifF (by rw [e9] <;> decide) h
        replace h := ifF (by rw [e9] <;> decide) h
        replace h := ifF (by rw [e9] <;> decide) h
        replace h := ifF (by rw [e9] <;> decide) h
        replace h := ifF (by rw [e9] <;> decide) h
        replace h := ifF (by rw [e9] <;> decide) h
        replace h := ifF (by rw [e9] <;> decide) h
        replace h := ifF (by rw [e9] <;> decide) h
        replace h := ifT (by rw [e9] <;> decide) h
        refine Y_aload_n (pc := 1259) (j := 1) dL_law_1259 rfl rfl ?_
        refine Y_aload_n (pc := 1260) (j := 0) dL_law_1260 rfl rfl ?_
        refine Y_iload (pc := 1261) (j := 5) dL_law_1261 rfl ?_
        refine Y_iconst (pc := 1263) (v := (1 : Int32)) dL_law_1263 rfl ?_
        refine Y_iadd (pc := 1264) dL_law_1264 ?_
        obtain ⟨hb46, h⟩ := okE h
        refine Y_sald (pc := 1265) dL_law_1265 (lk_0 hP) rfl hb46 ?_
        refine Y_aload_n (pc := 1266) (j := 3) dL_law_1266 rfl rfl ?_
        obtain ⟨y57, qy57, h⟩ := bindE h
        have cy57 := v_L_fields hP qy57
        refine C_S3r (pc := 1267) (k' := k_L_fields) dL_law_1267 w7_103 i_L_fields (Nat.le_of_ble_eq_true rfl) (Nat.le_of_ble_eq_true rfl) (Nat.le_of_ble_eq_true rfl) (cy57) ?_
        have hPy57 := cy57.1.1
        refine Y_istore (pc := 1270) (lv1 := [(6, .int y57.1), (0, .ref 0), (1, .ref 1), (2, .ref 69), (3, .ref 127), (4, .ref 128), (5, .int x5)]) dL_law_1270 (by decide) rfl ?_
        refine Y_aload_n (pc := 1272) (j := 3) dL_law_1272 rfl rfl ?_
        refine Y_aload_n (pc := 1273) (j := 1) dL_law_1273 rfl rfl ?_
        refine Y_iload (pc := 1274) (j := 6) dL_law_1274 rfl ?_
        refine Y_iconst (pc := 1276) (v := (1 : Int32)) dL_law_1276 rfl ?_
        refine Y_iadd (pc := 1277) dL_law_1277 ?_
        obtain ⟨hb47, h⟩ := okE h
        refine Y_sald (pc := 1278) dL_law_1278 (lk_0 hPy57) rfl hb47 ?_
        obtain ⟨y58, qy58, h⟩ := bindE h
        have cy58 := v_X12_fields hPy57 qy58
        refine C_V1r (pc := 1279) (k' := k_X12_fields) dL_law_1279 w10_203 i_X12_fields (lk_69 hPy57) ⟨Nat.le_of_ble_eq_true rfl, Nat.le_of_ble_eq_true rfl⟩ rfl (Nat.le_of_ble_eq_true rfl) (Nat.le_of_ble_eq_true rfl) (Nat.le_of_ble_eq_true rfl) (cy58) ?_
        have hPy58 := cy58.1.1
        refine Y_istore (pc := 1282) (lv1 := [(7, .int y58.1), (6, .int y57.1), (0, .ref 0), (1, .ref 1), (2, .ref 69), (3, .ref 127), (4, .ref 128), (5, .int x5)]) dL_law_1282 (by decide) rfl ?_
        refine Y_aload_n (pc := 1284) (j := 4) dL_law_1284 rfl rfl ?_
        obtain ⟨y59, qy59, h⟩ := bindE h
        have cy59 := v_X12_thrown hPy58 qy59
        refine C_V0r (pc := 1285) (k' := k_X12_thrown) dL_law_1285 w9_102 i_X12_thrown (lk_69 hPy58) ⟨Nat.le_of_ble_eq_true rfl, Nat.le_of_ble_eq_true rfl⟩ rfl (Nat.le_of_ble_eq_true rfl) (Nat.le_of_ble_eq_true rfl) (Nat.le_of_ble_eq_true rfl) (cy59) ?_
        have hPy59 := cy59.1.1
        refine Y_iload (pc := 1288) (j := 1) dL_law_1288 rfl ?_
        refine Y_icmp_eq (pc := 1290) (tgt := 1295) dL_law_1290 (by decide) (fun hc54 => ?_) (fun hc54 => ?_)
        · replace h := ifT hc54 h
          refine Y_iload (pc := 1295) (j := 1) dL_law_1295 rfl ?_
          refine Y_if_ne (pc := 1297) (tgt := 1312) dL_law_1297 (by decide) (fun hc55 => ?_) (fun hc55 => ?_)
          · replace h := ifF hc55 h
            refine VV.sub [2, 3, 4, 5, 6, 7] rfl ?_
            exact b_L_law_1312 hk28 hPy59 h
          · replace h := ifT hc55 h
            refine Y_aload_n (pc := 1300) (j := 5) dL_law_1300 rfl rfl ?_
            refine Y_iconst (pc := 1301) (v := (0 : Int32)) dL_law_1301 rfl ?_
            refine Y_lald (pc := 1302) dL_law_1302 (lk_127 hPy59) (ln_127 hPy59) (vp_lit (by decide)) ?_
            refine Y_iload (pc := 1303) (j := 0) dL_law_1303 rfl ?_
            refine Y_i2l (pc := 1305) dL_law_1305 ?_
            refine Y_lcmp (pc := 1306) dL_law_1306 ?_
            refine Y_if_eq (pc := 1307) (tgt := 1312) dL_law_1307 (by decide) (fun hc56 => ?_) (fun hc56 => ?_)
            · replace h := ifT hc56 h
              refine VV.sub [2, 3, 4, 5, 6, 7] rfl ?_
              exact b_L_law_1312 hk28 hPy59 h
            · replace h := ifF hc56 h
              refine Y_iconst (pc := 1310) (v := (0 : Int32)) dL_law_1310 rfl ?_
              cases h
              exact Y_iret (pc := 1311) rfl (nar_bo (by decide)) dL_law_1311 hPy59 ⟨rfl, rfl⟩
        · replace h := ifF hc54 h
          refine Y_iconst (pc := 1293) (v := (0 : Int32)) dL_law_1293 rfl ?_
          cases h
          exact Y_iret (pc := 1294) rfl (nar_bo (by decide)) dL_law_1294 hPy59 ⟨rfl, rfl⟩
      · intro e9
        replace h := ifF (by rw [e9] <;> decide) h
        replace h := ifF (by rw [e9] <;> decide) h
        replace h := ifF (by rw [e9] <;> decide) h
        replace h := ifF (by rw [e9] <;> decide) h
        replace h := ifF (by rw [e9] <;> decide) h
        replace h := ifF (by rw [e9] <;> decide) h
        replace h := ifF (by rw [e9] <;> decide) h
        replace h := ifF (by rw [e9] <;> decide) h
        replace h := ifF (by rw [e9] <;> decide) h
        replace h := ifF (by rw [e9] <;> decide) h
        replace h := ifF (by rw [e9] <;> decide) h
        replace h := ifF (by rw [e9] <;> decide) h
        replace h := ifF (by rw [e9] <;> decide) h
        replace h := ifF (by rw [e9] <;> decide) h
        replace h := ifF (by rw [e9] <;> decide) h
        replace h := ifF (by rw [e9] <;> decide) h
        replace h := ifF (by rw [e9] <;> decide) h
        replace h := ifF (by rw [e9] <;> decide) h
        replace h := ifF (by rw [e9] <;> decide) h
        replace h := ifF (by rw [e9] <;> decide) h
        replace h := ifF (by rw [e9] <;> decide) h
        replace h := ifT (by rw [e9] <;> decide) h
        refine Y_aload_n (pc := 1315) (j := 1) dL_law_1315 rfl rfl ?_
        refine Y_aload_n (pc := 1316) (j := 0) dL_law_1316 rfl rfl ?_
        refine Y_iload (pc := 1317) (j := 5) dL_law_1317 rfl ?_
        refine Y_iconst (pc := 1319) (v := (1 : Int32)) dL_law_1319 rfl ?_
        refine Y_iadd (pc := 1320) dL_law_1320 ?_
        obtain ⟨hb48, h⟩ := okE h
        refine Y_sald (pc := 1321) dL_law_1321 (lk_0 hP) rfl hb48 ?_
        refine Y_aload_n (pc := 1322) (j := 0) dL_law_1322 rfl rfl ?_
        refine Y_iload (pc := 1323) (j := 5) dL_law_1323 rfl ?_
        refine Y_iconst (pc := 1325) (v := (2 : Int32)) dL_law_1325 rfl ?_
        refine Y_iadd (pc := 1326) dL_law_1326 ?_
        obtain ⟨hb49, h⟩ := okE h
        refine Y_sald (pc := 1327) dL_law_1327 (lk_0 hP) rfl hb49 ?_
        refine Y_aload_n (pc := 1328) (j := 3) dL_law_1328 rfl rfl ?_
        obtain ⟨y60, qy60, h⟩ := bindE h
        have cy60 := v_L_fieldAt hP qy60
        refine C_S4r (pc := 1329) (k' := k_L_fieldAt) dL_law_1329 w7_115 i_L_fieldAt (Nat.le_of_ble_eq_true rfl) (Nat.le_of_ble_eq_true rfl) (Nat.le_of_ble_eq_true rfl) (cy60) ?_
        have hPy60 := cy60.1.1
        refine Y_istore (pc := 1332) (lv1 := [(6, .int y60.1), (0, .ref 0), (1, .ref 1), (2, .ref 69), (3, .ref 127), (4, .ref 128), (5, .int x5)]) dL_law_1332 (by decide) rfl ?_
        refine Y_aload_n (pc := 1334) (j := 3) dL_law_1334 rfl rfl ?_
        refine Y_aload_n (pc := 1335) (j := 1) dL_law_1335 rfl rfl ?_
        refine Y_iload (pc := 1336) (j := 6) dL_law_1336 rfl ?_
        refine Y_iconst (pc := 1338) (v := (1 : Int32)) dL_law_1338 rfl ?_
        refine Y_iadd (pc := 1339) dL_law_1339 ?_
        obtain ⟨hb50, h⟩ := okE h
        refine Y_sald (pc := 1340) dL_law_1340 (lk_0 hPy60) rfl hb50 ?_
        refine Y_aload_n (pc := 1341) (j := 1) dL_law_1341 rfl rfl ?_
        refine Y_iload (pc := 1342) (j := 6) dL_law_1342 rfl ?_
        refine Y_iconst (pc := 1344) (v := (2 : Int32)) dL_law_1344 rfl ?_
        refine Y_iadd (pc := 1345) dL_law_1345 ?_
        obtain ⟨hb51, h⟩ := okE h
        refine Y_sald (pc := 1346) dL_law_1346 (lk_0 hPy60) rfl hb51 ?_
        obtain ⟨y61, qy61, h⟩ := bindE h
        have cy61 := v_X12_fieldAt hPy60 qy61
        refine C_V2r (pc := 1347) (k' := k_X12_fieldAt) dL_law_1347 w10_207 i_X12_fieldAt (lk_69 hPy60) ⟨Nat.le_of_ble_eq_true rfl, Nat.le_of_ble_eq_true rfl⟩ rfl (Nat.le_of_ble_eq_true rfl) (Nat.le_of_ble_eq_true rfl) (Nat.le_of_ble_eq_true rfl) (cy61) ?_
        have hPy61 := cy61.1.1
        refine Y_istore (pc := 1350) (lv1 := [(7, .int y61.1), (6, .int y60.1), (0, .ref 0), (1, .ref 1), (2, .ref 69), (3, .ref 127), (4, .ref 128), (5, .int x5)]) dL_law_1350 (by decide) rfl ?_
        refine Y_aload_n (pc := 1352) (j := 4) dL_law_1352 rfl rfl ?_
        obtain ⟨y62, qy62, h⟩ := bindE h
        have cy62 := v_X12_thrown hPy61 qy62
        refine C_V0r (pc := 1353) (k' := k_X12_thrown) dL_law_1353 w9_102 i_X12_thrown (lk_69 hPy61) ⟨Nat.le_of_ble_eq_true rfl, Nat.le_of_ble_eq_true rfl⟩ rfl (Nat.le_of_ble_eq_true rfl) (Nat.le_of_ble_eq_true rfl) (Nat.le_of_ble_eq_true rfl) (cy62) ?_
        have hPy62 := cy62.1.1
        refine Y_iload (pc := 1356) (j := 1) dL_law_1356 rfl ?_
        refine Y_icmp_eq (pc := 1358) (tgt := 1363) dL_law_1358 (by decide) (fun hc57 => ?_) (fun hc57 => ?_)
        · replace h := ifT hc57 h
          refine Y_iload (pc := 1363) (j := 1) dL_law_1363 rfl ?_
          refine Y_if_ne (pc := 1365) (tgt := 1380) dL_law_1365 (by decide) (fun hc58 => ?_) (fun hc58 => ?_)
          · replace h := ifF hc58 h
            refine VV.sub [2, 3, 4, 5, 6, 7] rfl ?_
            exact b_L_law_1380 hk28 hPy62 h
          · replace h := ifT hc58 h
            refine Y_aload_n (pc := 1368) (j := 5) dL_law_1368 rfl rfl ?_
            refine Y_iconst (pc := 1369) (v := (0 : Int32)) dL_law_1369 rfl ?_
            refine Y_lald (pc := 1370) dL_law_1370 (lk_127 hPy62) (ln_127 hPy62) (vp_lit (by decide)) ?_
            refine Y_iload (pc := 1371) (j := 0) dL_law_1371 rfl ?_
            refine Y_i2l (pc := 1373) dL_law_1373 ?_
            refine Y_lcmp (pc := 1374) dL_law_1374 ?_
            refine Y_if_eq (pc := 1375) (tgt := 1380) dL_law_1375 (by decide) (fun hc59 => ?_) (fun hc59 => ?_)
            · replace h := ifT hc59 h
              refine VV.sub [2, 3, 4, 5, 6, 7] rfl ?_
              exact b_L_law_1380 hk28 hPy62 h
            · replace h := ifF hc59 h
              refine Y_iconst (pc := 1378) (v := (0 : Int32)) dL_law_1378 rfl ?_
              cases h
              exact Y_iret (pc := 1379) rfl (nar_bo (by decide)) dL_law_1379 hPy62 ⟨rfl, rfl⟩
        · replace h := ifF hc57 h
          refine Y_iconst (pc := 1361) (v := (0 : Int32)) dL_law_1361 rfl ?_
          cases h
          exact Y_iret (pc := 1362) rfl (nar_bo (by decide)) dL_law_1362 hPy62 ⟨rfl, rfl⟩
      · intro e9
        replace h := ifF (by rw [e9] <;> decide) h
        replace h := ifF (by rw [e9] <;> decide) h
        replace h := ifF (by rw [e9] <;> decide) h
        replace h := ifF (by rw [e9] <;> decide) h
        replace h := ifF (by rw [e9] <;> decide) h
        replace h := ifF (by rw [e9] <;> decide) h
        replace h := ifF (by rw [e9] <;> decide) h
        replace h := ifF (by rw [e9] <;> decide) h
        replace h := ifF (by rw [e9] <;> decide) h
        replace h := ifF (by rw [e9] <;> decide) h
        replace h := ifF (by rw [e9] <;> decide) h
        replace h := ifF (by rw [e9] <;> decide) h
        replace h := ifF (by rw [e9] <;> decide) h
        replace h := ifF (by rw [e9] <;> decide) h
        replace h := ifF (by rw [e9] <;> decide) h
        replace h := ifF (by rw [e9] <;> decide) h
        replace h := ifF (by rw [e9] <;> decide) h
        replace h := ifF (by rw [e9] <;> decide) h
        replace h := ifF (by rw [e9] <;> decide) h
        replace h := ifF (by rw [e9] <;> decide) h
        replace h := ifF (by rw [e9] <;> decide) h
        replace h := ifF (by rw [e9] <;> decide) h
        replace h := ifT (by rw [e9] <;> decide) h
        refine Y_aload_n (pc := 1383) (j := 1) dL_law_1383 rfl rfl ?_
        refine Y_aload_n (pc := 1384) (j := 0) dL_law_1384 rfl rfl ?_
        refine Y_iload (pc := 1385) (j := 5) dL_law_1385 rfl ?_
        refine Y_iconst (pc := 1387) (v := (1 : Int32)) dL_law_1387 rfl ?_
        refine Y_iadd (pc := 1388) dL_law_1388 ?_
        obtain ⟨hb52, h⟩ := okE h
        refine Y_sald (pc := 1389) dL_law_1389 (lk_0 hP) rfl hb52 ?_
        refine Y_aload_n (pc := 1390) (j := 0) dL_law_1390 rfl rfl ?_
        refine Y_iload (pc := 1391) (j := 5) dL_law_1391 rfl ?_
        refine Y_iconst (pc := 1393) (v := (2 : Int32)) dL_law_1393 rfl ?_
        refine Y_iadd (pc := 1394) dL_law_1394 ?_
        obtain ⟨hb53, h⟩ := okE h
        refine Y_sald (pc := 1395) dL_law_1395 (lk_0 hP) rfl hb53 ?_
        refine Y_aload_n (pc := 1396) (j := 3) dL_law_1396 rfl rfl ?_
        obtain ⟨y63, qy63, h⟩ := bindE h
        have cy63 := v_L_nextShape hP qy63
        refine C_S4r (pc := 1397) (k' := k_L_nextShape) dL_law_1397 w7_123 i_L_nextShape (Nat.le_of_ble_eq_true rfl) (Nat.le_of_ble_eq_true rfl) (Nat.le_of_ble_eq_true rfl) (cy63) ?_
        have hPy63 := cy63.1.1
        refine Y_istore (pc := 1400) (lv1 := [(6, .int y63.1), (0, .ref 0), (1, .ref 1), (2, .ref 69), (3, .ref 127), (4, .ref 128), (5, .int x5)]) dL_law_1400 (by decide) rfl ?_
        refine Y_aload_n (pc := 1402) (j := 3) dL_law_1402 rfl rfl ?_
        refine Y_aload_n (pc := 1403) (j := 1) dL_law_1403 rfl rfl ?_
        refine Y_iload (pc := 1404) (j := 6) dL_law_1404 rfl ?_
        refine Y_iconst (pc := 1406) (v := (1 : Int32)) dL_law_1406 rfl ?_
        refine Y_iadd (pc := 1407) dL_law_1407 ?_
        obtain ⟨hb54, h⟩ := okE h
        refine Y_sald (pc := 1408) dL_law_1408 (lk_0 hPy63) rfl hb54 ?_
        refine Y_aload_n (pc := 1409) (j := 1) dL_law_1409 rfl rfl ?_
        refine Y_iload (pc := 1410) (j := 6) dL_law_1410 rfl ?_
        refine Y_iconst (pc := 1412) (v := (2 : Int32)) dL_law_1412 rfl ?_
        refine Y_iadd (pc := 1413) dL_law_1413 ?_
        obtain ⟨hb55, h⟩ := okE h
        refine Y_sald (pc := 1414) dL_law_1414 (lk_0 hPy63) rfl hb55 ?_
        obtain ⟨y64, qy64, h⟩ := bindE h
        have cy64 := v_X12_nextShape hPy63 qy64
        refine C_V2r (pc := 1415) (k' := k_X12_nextShape) dL_law_1415 w10_211 i_X12_nextShape (lk_69 hPy63) ⟨Nat.le_of_ble_eq_true rfl, Nat.le_of_ble_eq_true rfl⟩ rfl (Nat.le_of_ble_eq_true rfl) (Nat.le_of_ble_eq_true rfl) (Nat.le_of_ble_eq_true rfl) (cy64) ?_
        have hPy64 := cy64.1.1
        refine Y_istore (pc := 1418) (lv1 := [(7, .int y64.1), (6, .int y63.1), (0, .ref 0), (1, .ref 1), (2, .ref 69), (3, .ref 127), (4, .ref 128), (5, .int x5)]) dL_law_1418 (by decide) rfl ?_
        refine Y_aload_n (pc := 1420) (j := 4) dL_law_1420 rfl rfl ?_
        obtain ⟨y65, qy65, h⟩ := bindE h
        have cy65 := v_X12_thrown hPy64 qy65
        refine C_V0r (pc := 1421) (k' := k_X12_thrown) dL_law_1421 w9_102 i_X12_thrown (lk_69 hPy64) ⟨Nat.le_of_ble_eq_true rfl, Nat.le_of_ble_eq_true rfl⟩ rfl (Nat.le_of_ble_eq_true rfl) (Nat.le_of_ble_eq_true rfl) (Nat.le_of_ble_eq_true rfl) (cy65) ?_
        have hPy65 := cy65.1.1
        refine Y_iload (pc := 1424) (j := 1) dL_law_1424 rfl ?_
        refine Y_icmp_eq (pc := 1426) (tgt := 1431) dL_law_1426 (by decide) (fun hc60 => ?_) (fun hc60 => ?_)
        · replace h := ifT hc60 h
          refine Y_iload (pc := 1431) (j := 1) dL_law_1431 rfl ?_
          refine Y_if_ne (pc := 1433) (tgt := 1448) dL_law_1433 (by decide) (fun hc61 => ?_) (fun hc61 => ?_)
          · replace h := ifF hc61 h
            refine VV.sub [2, 3, 4, 5, 6, 7] rfl ?_
            exact b_L_law_1448 hk28 hPy65 h
          · replace h := ifT hc61 h
            refine Y_aload_n (pc := 1436) (j := 5) dL_law_1436 rfl rfl ?_
            refine Y_iconst (pc := 1437) (v := (0 : Int32)) dL_law_1437 rfl ?_
            refine Y_lald (pc := 1438) dL_law_1438 (lk_127 hPy65) (ln_127 hPy65) (vp_lit (by decide)) ?_
            refine Y_iload (pc := 1439) (j := 0) dL_law_1439 rfl ?_
            refine Y_i2l (pc := 1441) dL_law_1441 ?_
            refine Y_lcmp (pc := 1442) dL_law_1442 ?_
            refine Y_if_eq (pc := 1443) (tgt := 1448) dL_law_1443 (by decide) (fun hc62 => ?_) (fun hc62 => ?_)
            · replace h := ifT hc62 h
              refine VV.sub [2, 3, 4, 5, 6, 7] rfl ?_
              exact b_L_law_1448 hk28 hPy65 h
            · replace h := ifF hc62 h
              refine Y_iconst (pc := 1446) (v := (0 : Int32)) dL_law_1446 rfl ?_
              cases h
              exact Y_iret (pc := 1447) rfl (nar_bo (by decide)) dL_law_1447 hPy65 ⟨rfl, rfl⟩
        · replace h := ifF hc60 h
          refine Y_iconst (pc := 1429) (v := (0 : Int32)) dL_law_1429 rfl ?_
          cases h
          exact Y_iret (pc := 1430) rfl (nar_bo (by decide)) dL_law_1430 hPy65 ⟨rfl, rfl⟩
      · intro e9
        replace h := ifF (by rw [e9] <;> decide) h
        replace h := ifF (by rw [e9] <;> decide) h
        replace h := ifF (by rw [e9] <;> decide) h
        replace h := ifF (by rw [e9] <;> decide) h
        replace h := ifF (by rw [e9] <;> decide) h
        replace h := ifF (by rw [e9] <;> decide) h
        replace h := ifF (by rw [e9] <;> decide) h
        replace h := ifF (by rw [e9] <;> decide) h
        replace h := ifF (by rw [e9] <;> decide) h
        replace h := ifF (by rw [e9] <;> decide) h
        replace h := ifF (by rw [e9] <;> decide) h
        replace h := ifF (by rw [e9] <;> decide) h
        replace h := ifF (by rw [e9] <;> decide) h
        replace h := ifF (by rw [e9] <;> decide) h
        replace h := ifF (by rw [e9] <;> decide) h
        replace h := ifF (by rw [e9] <;> decide) h
        replace h := ifF (by rw [e9] <;> decide) h
        replace h := ifF (by rw [e9] <;> decide) h
        replace h := ifF (by rw [e9] <;> decide) h
        replace h := ifF (by rw [e9] <;> decide) h
        replace h := ifF (by rw [e9] <;> decide) h
        replace h := ifF (by rw [e9] <;> decide) h
        replace h := ifF (by rw [e9] <;> decide) h
        replace h := ifT (by rw [e9] <;> decide) h
        refine Y_aload_n (pc := 1451) (j := 1) dL_law_1451 rfl rfl ?_
        refine Y_aload_n (pc := 1452) (j := 0) dL_law_1452 rfl rfl ?_
        refine Y_iload (pc := 1453) (j := 5) dL_law_1453 rfl ?_
        refine Y_iconst (pc := 1455) (v := (1 : Int32)) dL_law_1455 rfl ?_
        refine Y_iadd (pc := 1456) dL_law_1456 ?_
        obtain ⟨hb56, h⟩ := okE h
        refine Y_sald (pc := 1457) dL_law_1457 (lk_0 hP) rfl hb56 ?_
        refine Y_aload_n (pc := 1458) (j := 0) dL_law_1458 rfl rfl ?_
        refine Y_iload (pc := 1459) (j := 5) dL_law_1459 rfl ?_
        refine Y_iconst (pc := 1461) (v := (2 : Int32)) dL_law_1461 rfl ?_
        refine Y_iadd (pc := 1462) dL_law_1462 ?_
        obtain ⟨hb57, h⟩ := okE h
        refine Y_sald (pc := 1463) dL_law_1463 (lk_0 hP) rfl hb57 ?_
        refine Y_aload_n (pc := 1464) (j := 3) dL_law_1464 rfl rfl ?_
        obtain ⟨y66, qy66, h⟩ := bindE h
        have cy66 := v_L_cacheState hP qy66
        refine C_S4r (pc := 1465) (k' := k_L_cacheState) dL_law_1465 w7_131 i_L_cacheState (Nat.le_of_ble_eq_true rfl) (Nat.le_of_ble_eq_true rfl) (Nat.le_of_ble_eq_true rfl) (cy66) ?_
        have hPy66 := cy66.1.1
        refine Y_istore (pc := 1468) (lv1 := [(6, .int y66.1), (0, .ref 0), (1, .ref 1), (2, .ref 69), (3, .ref 127), (4, .ref 128), (5, .int x5)]) dL_law_1468 (by decide) rfl ?_
        refine Y_aload_n (pc := 1470) (j := 3) dL_law_1470 rfl rfl ?_
        refine Y_aload_n (pc := 1471) (j := 1) dL_law_1471 rfl rfl ?_
        refine Y_iload (pc := 1472) (j := 6) dL_law_1472 rfl ?_
        refine Y_iconst (pc := 1474) (v := (1 : Int32)) dL_law_1474 rfl ?_
        refine Y_iadd (pc := 1475) dL_law_1475 ?_
        obtain ⟨hb58, h⟩ := okE h
        refine Y_sald (pc := 1476) dL_law_1476 (lk_0 hPy66) rfl hb58 ?_
        refine Y_aload_n (pc := 1477) (j := 1) dL_law_1477 rfl rfl ?_
        refine Y_iload (pc := 1478) (j := 6) dL_law_1478 rfl ?_
        refine Y_iconst (pc := 1480) (v := (2 : Int32)) dL_law_1480 rfl ?_
        refine Y_iadd (pc := 1481) dL_law_1481 ?_
        obtain ⟨hb59, h⟩ := okE h
        refine Y_sald (pc := 1482) dL_law_1482 (lk_0 hPy66) rfl hb59 ?_
        obtain ⟨y67, qy67, h⟩ := bindE h
        have cy67 := v_X12_cacheState hPy66 qy67
        refine C_V2r (pc := 1483) (k' := k_X12_cacheState) dL_law_1483 w10_215 i_X12_cacheState (lk_69 hPy66) ⟨Nat.le_of_ble_eq_true rfl, Nat.le_of_ble_eq_true rfl⟩ rfl (Nat.le_of_ble_eq_true rfl) (Nat.le_of_ble_eq_true rfl) (Nat.le_of_ble_eq_true rfl) (cy67) ?_
        have hPy67 := cy67.1.1
        refine Y_istore (pc := 1486) (lv1 := [(7, .int y67.1), (6, .int y66.1), (0, .ref 0), (1, .ref 1), (2, .ref 69), (3, .ref 127), (4, .ref 128), (5, .int x5)]) dL_law_1486 (by decide) rfl ?_
        refine Y_aload_n (pc := 1488) (j := 4) dL_law_1488 rfl rfl ?_
        obtain ⟨y68, qy68, h⟩ := bindE h
        have cy68 := v_X12_thrown hPy67 qy68
        refine C_V0r (pc := 1489) (k' := k_X12_thrown) dL_law_1489 w9_102 i_X12_thrown (lk_69 hPy67) ⟨Nat.le_of_ble_eq_true rfl, Nat.le_of_ble_eq_true rfl⟩ rfl (Nat.le_of_ble_eq_true rfl) (Nat.le_of_ble_eq_true rfl) (Nat.le_of_ble_eq_true rfl) (cy68) ?_
        have hPy68 := cy68.1.1
        refine Y_iload (pc := 1492) (j := 1) dL_law_1492 rfl ?_
        refine Y_icmp_eq (pc := 1494) (tgt := 1499) dL_law_1494 (by decide) (fun hc63 => ?_) (fun hc63 => ?_)
        · replace h := ifT hc63 h
          refine Y_iload (pc := 1499) (j := 1) dL_law_1499 rfl ?_
          refine Y_if_ne (pc := 1501) (tgt := 1516) dL_law_1501 (by decide) (fun hc64 => ?_) (fun hc64 => ?_)
          · replace h := ifF hc64 h
            refine VV.sub [2, 3, 4, 5, 6, 7] rfl ?_
            exact b_L_law_1516 hk28 hPy68 h
          · replace h := ifT hc64 h
            refine Y_aload_n (pc := 1504) (j := 5) dL_law_1504 rfl rfl ?_
            refine Y_iconst (pc := 1505) (v := (0 : Int32)) dL_law_1505 rfl ?_
            refine Y_lald (pc := 1506) dL_law_1506 (lk_127 hPy68) (ln_127 hPy68) (vp_lit (by decide)) ?_
            refine Y_iload (pc := 1507) (j := 0) dL_law_1507 rfl ?_
            refine Y_i2l (pc := 1509) dL_law_1509 ?_
            refine Y_lcmp (pc := 1510) dL_law_1510 ?_
            refine Y_if_eq (pc := 1511) (tgt := 1516) dL_law_1511 (by decide) (fun hc65 => ?_) (fun hc65 => ?_)
            · replace h := ifT hc65 h
              refine VV.sub [2, 3, 4, 5, 6, 7] rfl ?_
              exact b_L_law_1516 hk28 hPy68 h
            · replace h := ifF hc65 h
              refine Y_iconst (pc := 1514) (v := (0 : Int32)) dL_law_1514 rfl ?_
              cases h
              exact Y_iret (pc := 1515) rfl (nar_bo (by decide)) dL_law_1515 hPy68 ⟨rfl, rfl⟩
        · replace h := ifF hc63 h
          refine Y_iconst (pc := 1497) (v := (0 : Int32)) dL_law_1497 rfl ?_
          cases h
          exact Y_iret (pc := 1498) rfl (nar_bo (by decide)) dL_law_1498 hPy68 ⟨rfl, rfl⟩
      · intro e9
        replace h := ifF (by rw [e9] <;> decide) h
        replace h := ifF (by rw [e9] <;> decide) h
        replace h := ifF (by rw [e9] <;> decide) h
        replace h := ifF (by rw [e9] <;> decide) h
        replace h := ifF (by rw [e9] <;> decide) h
        replace h := ifF (by rw [e9] <;> decide) h
        replace h := ifF (by rw [e9] <;> decide) h
        replace h := ifF (by rw [e9] <;> decide) h
        replace h := ifF (by rw [e9] <;> decide) h
        replace h := ifF (by rw [e9] <;> decide) h
        replace h := ifF (by rw [e9] <;> decide) h
        replace h := ifF (by rw [e9] <;> decide) h
        replace h := ifF (by rw [e9] <;> decide) h
        replace h := ifF (by rw [e9] <;> decide) h
        replace h := ifF (by rw [e9] <;> decide) h
        replace h := ifF (by rw [e9] <;> decide) h
        replace h := ifF (by rw [e9] <;> decide) h
        replace h := ifF (by rw [e9] <;> decide) h
        replace h := ifF (by rw [e9] <;> decide) h
        replace h := ifF (by rw [e9] <;> decide) h
        replace h := ifF (by rw [e9] <;> decide) h
        replace h := ifF (by rw [e9] <;> decide) h
        replace h := ifF (by rw [e9] <;> decide) h
        replace h := ifF (by rw [e9] <;> decide) h
        replace h := ifT (by rw [e9] <;> decide) h
        refine Y_aload_n (pc := 1519) (j := 1) dL_law_1519 rfl rfl ?_
        refine Y_aload_n (pc := 1520) (j := 0) dL_law_1520 rfl rfl ?_
        refine Y_iload (pc := 1521) (j := 5) dL_law_1521 rfl ?_
        refine Y_iconst (pc := 1523) (v := (1 : Int32)) dL_law_1523 rfl ?_
        refine Y_iadd (pc := 1524) dL_law_1524 ?_
        obtain ⟨hb60, h⟩ := okE h
        refine Y_sald (pc := 1525) dL_law_1525 (lk_0 hP) rfl hb60 ?_
        refine Y_aload_n (pc := 1526) (j := 0) dL_law_1526 rfl rfl ?_
        refine Y_iload (pc := 1527) (j := 5) dL_law_1527 rfl ?_
        refine Y_iconst (pc := 1529) (v := (2 : Int32)) dL_law_1529 rfl ?_
        refine Y_iadd (pc := 1530) dL_law_1530 ?_
        obtain ⟨hb61, h⟩ := okE h
        refine Y_sald (pc := 1531) dL_law_1531 (lk_0 hP) rfl hb61 ?_
        refine Y_aload_n (pc := 1532) (j := 3) dL_law_1532 rfl rfl ?_
        obtain ⟨y69, qy69, h⟩ := bindE h
        have cy69 := v_L_hits hP qy69
        refine C_S4r (pc := 1533) (k' := k_L_hits) dL_law_1533 w7_149 i_L_hits (Nat.le_of_ble_eq_true rfl) (Nat.le_of_ble_eq_true rfl) (Nat.le_of_ble_eq_true rfl) (cy69) ?_
        have hPy69 := cy69.1.1
        refine Y_istore (pc := 1536) (lv1 := [(6, .int y69.1), (0, .ref 0), (1, .ref 1), (2, .ref 69), (3, .ref 127), (4, .ref 128), (5, .int x5)]) dL_law_1536 (by decide) rfl ?_
        refine Y_aload_n (pc := 1538) (j := 3) dL_law_1538 rfl rfl ?_
        refine Y_aload_n (pc := 1539) (j := 1) dL_law_1539 rfl rfl ?_
        refine Y_iload (pc := 1540) (j := 6) dL_law_1540 rfl ?_
        refine Y_iconst (pc := 1542) (v := (1 : Int32)) dL_law_1542 rfl ?_
        refine Y_iadd (pc := 1543) dL_law_1543 ?_
        obtain ⟨hb62, h⟩ := okE h
        refine Y_sald (pc := 1544) dL_law_1544 (lk_0 hPy69) rfl hb62 ?_
        refine Y_aload_n (pc := 1545) (j := 1) dL_law_1545 rfl rfl ?_
        refine Y_iload (pc := 1546) (j := 6) dL_law_1546 rfl ?_
        refine Y_iconst (pc := 1548) (v := (2 : Int32)) dL_law_1548 rfl ?_
        refine Y_iadd (pc := 1549) dL_law_1549 ?_
        obtain ⟨hb63, h⟩ := okE h
        refine Y_sald (pc := 1550) dL_law_1550 (lk_0 hPy69) rfl hb63 ?_
        obtain ⟨y70, qy70, h⟩ := bindE h
        have cy70 := v_X12_hits hPy69 qy70
        refine C_V2r (pc := 1551) (k' := k_X12_hits) dL_law_1551 w10_223 i_X12_hits (lk_69 hPy69) ⟨Nat.le_of_ble_eq_true rfl, Nat.le_of_ble_eq_true rfl⟩ rfl (Nat.le_of_ble_eq_true rfl) (Nat.le_of_ble_eq_true rfl) (Nat.le_of_ble_eq_true rfl) (cy70) ?_
        have hPy70 := cy70.1.1
        refine Y_istore (pc := 1554) (lv1 := [(7, .int y70.1), (6, .int y69.1), (0, .ref 0), (1, .ref 1), (2, .ref 69), (3, .ref 127), (4, .ref 128), (5, .int x5)]) dL_law_1554 (by decide) rfl ?_
        refine Y_aload_n (pc := 1556) (j := 4) dL_law_1556 rfl rfl ?_
        obtain ⟨y71, qy71, h⟩ := bindE h
        have cy71 := v_X12_thrown hPy70 qy71
        refine C_V0r (pc := 1557) (k' := k_X12_thrown) dL_law_1557 w9_102 i_X12_thrown (lk_69 hPy70) ⟨Nat.le_of_ble_eq_true rfl, Nat.le_of_ble_eq_true rfl⟩ rfl (Nat.le_of_ble_eq_true rfl) (Nat.le_of_ble_eq_true rfl) (Nat.le_of_ble_eq_true rfl) (cy71) ?_
        have hPy71 := cy71.1.1
        refine Y_iload (pc := 1560) (j := 1) dL_law_1560 rfl ?_
        refine Y_icmp_eq (pc := 1562) (tgt := 1567) dL_law_1562 (by decide) (fun hc66 => ?_) (fun hc66 => ?_)
        · replace h := ifT hc66 h
          refine Y_iload (pc := 1567) (j := 1) dL_law_1567 rfl ?_
          refine Y_if_ne (pc := 1569) (tgt := 1584) dL_law_1569 (by decide) (fun hc67 => ?_) (fun hc67 => ?_)
          · replace h := ifF hc67 h
            refine VV.sub [2, 3, 4, 5, 6, 7] rfl ?_
            exact b_L_law_1584 hk28 hPy71 h
          · replace h := ifT hc67 h
            refine Y_aload_n (pc := 1572) (j := 5) dL_law_1572 rfl rfl ?_
            refine Y_iconst (pc := 1573) (v := (0 : Int32)) dL_law_1573 rfl ?_
            refine Y_lald (pc := 1574) dL_law_1574 (lk_127 hPy71) (ln_127 hPy71) (vp_lit (by decide)) ?_
            refine Y_iload (pc := 1575) (j := 0) dL_law_1575 rfl ?_
            refine Y_i2l (pc := 1577) dL_law_1577 ?_
            refine Y_lcmp (pc := 1578) dL_law_1578 ?_
            refine Y_if_eq (pc := 1579) (tgt := 1584) dL_law_1579 (by decide) (fun hc68 => ?_) (fun hc68 => ?_)
            · replace h := ifT hc68 h
              refine VV.sub [2, 3, 4, 5, 6, 7] rfl ?_
              exact b_L_law_1584 hk28 hPy71 h
            · replace h := ifF hc68 h
              refine Y_iconst (pc := 1582) (v := (0 : Int32)) dL_law_1582 rfl ?_
              cases h
              exact Y_iret (pc := 1583) rfl (nar_bo (by decide)) dL_law_1583 hPy71 ⟨rfl, rfl⟩
        · replace h := ifF hc66 h
          refine Y_iconst (pc := 1565) (v := (0 : Int32)) dL_law_1565 rfl ?_
          cases h
          exact Y_iret (pc := 1566) rfl (nar_bo (by decide)) dL_law_1566 hPy71 ⟨rfl, rfl⟩
      · intro e9
        replace h := ifF (by rw [e9] <;> decide) h
        replace h := ifF (by rw [e9] <;> decide) h
        replace h := ifF (by rw [e9] <;> decide) h
        replace h := ifF (by rw [e9] <;> decide) h
        replace h := ifF (by rw [e9] <;> decide) h
        replace h := ifF (by rw [e9] <;> decide) h
        replace h := ifF (by rw [e9] <;> decide) h
        replace h := ifF (by rw [e9] <;> decide) h
        replace h := ifF (by rw [e9] <;> decide) h
        replace h := ifF (by rw [e9] <;> decide) h
        replace h := ifF (by rw [e9] <;> decide) h
        replace h := ifF (by rw [e9] <;> decide) h
        replace h := ifF (by rw [e9] <;> decide) h
        replace h := ifF (by rw [e9] <;> decide) h
        replace h := ifF (by rw [e9] <;> decide) h
        replace h := ifF (by rw [e9] <;> decide) h
        replace h := ifF (by rw [e9] <;> decide) h
        replace h := ifF (by rw [e9] <;> decide) h
        replace h := ifF (by rw [e9] <;> decide) h
        replace h := ifF (by rw [e9] <;> decide) h
        replace h := ifF (by rw [e9] <;> decide) h
        replace h := ifF (by rw [e9] <;> decide) h
        replace h := ifF (by rw [e9] <;> decide) h
        replace h := ifF (by rw [e9] <;> decide) h
        replace h := ifF (by rw [e9] <;> decide) h
        replace h := ifT (by rw [e9] <;> decide) h
        refine Y_aload_n (pc := 1587) (j := 1) dL_law_1587 rfl rfl ?_
        refine Y_aload_n (pc := 1588) (j := 0) dL_law_1588 rfl rfl ?_
        refine Y_iload (pc := 1589) (j := 5) dL_law_1589 rfl ?_
        refine Y_iconst (pc := 1591) (v := (1 : Int32)) dL_law_1591 rfl ?_
        refine Y_iadd (pc := 1592) dL_law_1592 ?_
        obtain ⟨hb64, h⟩ := okE h
        refine Y_sald (pc := 1593) dL_law_1593 (lk_0 hP) rfl hb64 ?_
        refine Y_aload_n (pc := 1594) (j := 0) dL_law_1594 rfl rfl ?_
        refine Y_iload (pc := 1595) (j := 5) dL_law_1595 rfl ?_
        refine Y_iconst (pc := 1597) (v := (2 : Int32)) dL_law_1597 rfl ?_
        refine Y_iadd (pc := 1598) dL_law_1598 ?_
        obtain ⟨hb65, h⟩ := okE h
        refine Y_sald (pc := 1599) dL_law_1599 (lk_0 hP) rfl hb65 ?_
        refine Y_aload_n (pc := 1600) (j := 3) dL_law_1600 rfl rfl ?_
        obtain ⟨y72, qy72, h⟩ := bindE h
        have cy72 := v_L_misses hP qy72
        refine C_S4r (pc := 1601) (k' := k_L_misses) dL_law_1601 w7_156 i_L_misses (Nat.le_of_ble_eq_true rfl) (Nat.le_of_ble_eq_true rfl) (Nat.le_of_ble_eq_true rfl) (cy72) ?_
        have hPy72 := cy72.1.1
        refine Y_istore (pc := 1604) (lv1 := [(6, .int y72.1), (0, .ref 0), (1, .ref 1), (2, .ref 69), (3, .ref 127), (4, .ref 128), (5, .int x5)]) dL_law_1604 (by decide) rfl ?_
        refine Y_aload_n (pc := 1606) (j := 3) dL_law_1606 rfl rfl ?_
        refine Y_aload_n (pc := 1607) (j := 1) dL_law_1607 rfl rfl ?_
        refine Y_iload (pc := 1608) (j := 6) dL_law_1608 rfl ?_
        refine Y_iconst (pc := 1610) (v := (1 : Int32)) dL_law_1610 rfl ?_
        refine Y_iadd (pc := 1611) dL_law_1611 ?_
        obtain ⟨hb66, h⟩ := okE h
        refine Y_sald (pc := 1612) dL_law_1612 (lk_0 hPy72) rfl hb66 ?_
        refine Y_aload_n (pc := 1613) (j := 1) dL_law_1613 rfl rfl ?_
        refine Y_iload (pc := 1614) (j := 6) dL_law_1614 rfl ?_
        refine Y_iconst (pc := 1616) (v := (2 : Int32)) dL_law_1616 rfl ?_
        refine Y_iadd (pc := 1617) dL_law_1617 ?_
        obtain ⟨hb67, h⟩ := okE h
        refine Y_sald (pc := 1618) dL_law_1618 (lk_0 hPy72) rfl hb67 ?_
        obtain ⟨y73, qy73, h⟩ := bindE h
        have cy73 := v_X12_misses hPy72 qy73
        refine C_V2r (pc := 1619) (k' := k_X12_misses) dL_law_1619 w10_227 i_X12_misses (lk_69 hPy72) ⟨Nat.le_of_ble_eq_true rfl, Nat.le_of_ble_eq_true rfl⟩ rfl (Nat.le_of_ble_eq_true rfl) (Nat.le_of_ble_eq_true rfl) (Nat.le_of_ble_eq_true rfl) (cy73) ?_
        have hPy73 := cy73.1.1
        refine Y_istore (pc := 1622) (lv1 := [(7, .int y73.1), (6, .int y72.1), (0, .ref 0), (1, .ref 1), (2, .ref 69), (3, .ref 127), (4, .ref 128), (5, .int x5)]) dL_law_1622 (by decide) rfl ?_
        refine Y_aload_n (pc := 1624) (j := 4) dL_law_1624 rfl rfl ?_
        obtain ⟨y74, qy74, h⟩ := bindE h
        have cy74 := v_X12_thrown hPy73 qy74
        refine C_V0r (pc := 1625) (k' := k_X12_thrown) dL_law_1625 w9_102 i_X12_thrown (lk_69 hPy73) ⟨Nat.le_of_ble_eq_true rfl, Nat.le_of_ble_eq_true rfl⟩ rfl (Nat.le_of_ble_eq_true rfl) (Nat.le_of_ble_eq_true rfl) (Nat.le_of_ble_eq_true rfl) (cy74) ?_
        have hPy74 := cy74.1.1
        refine Y_iload (pc := 1628) (j := 1) dL_law_1628 rfl ?_
        refine Y_icmp_eq (pc := 1630) (tgt := 1635) dL_law_1630 (by decide) (fun hc69 => ?_) (fun hc69 => ?_)
        · replace h := ifT hc69 h
          refine Y_iload (pc := 1635) (j := 1) dL_law_1635 rfl ?_
          refine Y_if_ne (pc := 1637) (tgt := 1652) dL_law_1637 (by decide) (fun hc70 => ?_) (fun hc70 => ?_)
          · replace h := ifF hc70 h
            refine VV.sub [2, 3, 4, 5, 6, 7] rfl ?_
            exact b_L_law_1652 hk28 hPy74 h
          · replace h := ifT hc70 h
            refine Y_aload_n (pc := 1640) (j := 5) dL_law_1640 rfl rfl ?_
            refine Y_iconst (pc := 1641) (v := (0 : Int32)) dL_law_1641 rfl ?_
            refine Y_lald (pc := 1642) dL_law_1642 (lk_127 hPy74) (ln_127 hPy74) (vp_lit (by decide)) ?_
            refine Y_iload (pc := 1643) (j := 0) dL_law_1643 rfl ?_
            refine Y_i2l (pc := 1645) dL_law_1645 ?_
            refine Y_lcmp (pc := 1646) dL_law_1646 ?_
            refine Y_if_eq (pc := 1647) (tgt := 1652) dL_law_1647 (by decide) (fun hc71 => ?_) (fun hc71 => ?_)
            · replace h := ifT hc71 h
              refine VV.sub [2, 3, 4, 5, 6, 7] rfl ?_
              exact b_L_law_1652 hk28 hPy74 h
            · replace h := ifF hc71 h
              refine Y_iconst (pc := 1650) (v := (0 : Int32)) dL_law_1650 rfl ?_
              cases h
              exact Y_iret (pc := 1651) rfl (nar_bo (by decide)) dL_law_1651 hPy74 ⟨rfl, rfl⟩
        · replace h := ifF hc69 h
          refine Y_iconst (pc := 1633) (v := (0 : Int32)) dL_law_1633 rfl ?_
          cases h
          exact Y_iret (pc := 1634) rfl (nar_bo (by decide)) dL_law_1634 hPy74 ⟨rfl, rfl⟩
      · intro e9
        replace h := ifF (by rw [e9] <;> decide) h
        replace h := ifF (by rw [e9] <;> decide) h
        replace h := ifF (by rw [e9] <;> decide) h
        replace h := ifF (by rw [e9] <;> decide) h
        replace h := ifF (by rw [e9] <;> decide) h
        replace h := ifF (by rw [e9] <;> decide) h
        replace h := ifF (by rw [e9] <;> decide) h
        replace h := ifF (by rw [e9] <;> decide) h
        replace h := ifF (by rw [e9] <;> decide) h
        replace h := ifF (by rw [e9] <;> decide) h
        replace h := ifF (by rw [e9] <;> decide) h
        replace h := ifF (by rw [e9] <;> decide) h
        replace h := ifF (by rw [e9] <;> decide) h
        replace h := ifF (by rw [e9] <;> decide) h
        replace h := ifF (by rw [e9] <;> decide) h
        replace h := ifF (by rw [e9] <;> decide) h
        replace h := ifF (by rw [e9] <;> decide) h
        replace h := ifF (by rw [e9] <;> decide) h
        replace h := ifF (by rw [e9] <;> decide) h
        replace h := ifF (by rw [e9] <;> decide) h
        replace h := ifF (by rw [e9] <;> decide) h
        replace h := ifF (by rw [e9] <;> decide) h
        replace h := ifF (by rw [e9] <;> decide) h
        replace h := ifF (by rw [e9] <;> decide) h
        replace h := ifF (by rw [e9] <;> decide) h
        replace h := ifF (by rw [e9] <;> decide) h
        replace h := ifT (by rw [e9] <;> decide) h
        refine Y_aload_n (pc := 1655) (j := 1) dL_law_1655 rfl rfl ?_
        refine Y_aload_n (pc := 1656) (j := 0) dL_law_1656 rfl rfl ?_
        refine Y_iload (pc := 1657) (j := 5) dL_law_1657 rfl ?_
        refine Y_iconst (pc := 1659) (v := (1 : Int32)) dL_law_1659 rfl ?_
        refine Y_iadd (pc := 1660) dL_law_1660 ?_
        obtain ⟨hb68, h⟩ := okE h
        refine Y_sald (pc := 1661) dL_law_1661 (lk_0 hP) rfl hb68 ?_
        refine Y_aload_n (pc := 1662) (j := 0) dL_law_1662 rfl rfl ?_
        refine Y_iload (pc := 1663) (j := 5) dL_law_1663 rfl ?_
        refine Y_iconst (pc := 1665) (v := (2 : Int32)) dL_law_1665 rfl ?_
        refine Y_iadd (pc := 1666) dL_law_1666 ?_
        obtain ⟨hb69, h⟩ := okE h
        refine Y_sald (pc := 1667) dL_law_1667 (lk_0 hP) rfl hb69 ?_
        refine Y_aload_n (pc := 1668) (j := 3) dL_law_1668 rfl rfl ?_
        obtain ⟨y75, qy75, h⟩ := bindE h
        have cy75 := v_L_counter hP qy75
        refine C_S4r (pc := 1669) (k' := k_L_counter) dL_law_1669 w7_163 i_L_counter (Nat.le_of_ble_eq_true rfl) (Nat.le_of_ble_eq_true rfl) (Nat.le_of_ble_eq_true rfl) (cy75) ?_
        have hPy75 := cy75.1.1
        refine Y_istore (pc := 1672) (lv1 := [(6, .int y75.1), (0, .ref 0), (1, .ref 1), (2, .ref 69), (3, .ref 127), (4, .ref 128), (5, .int x5)]) dL_law_1672 (by decide) rfl ?_
        refine Y_aload_n (pc := 1674) (j := 3) dL_law_1674 rfl rfl ?_
        refine Y_aload_n (pc := 1675) (j := 1) dL_law_1675 rfl rfl ?_
        refine Y_iload (pc := 1676) (j := 6) dL_law_1676 rfl ?_
        refine Y_iconst (pc := 1678) (v := (1 : Int32)) dL_law_1678 rfl ?_
        refine Y_iadd (pc := 1679) dL_law_1679 ?_
        obtain ⟨hb70, h⟩ := okE h
        refine Y_sald (pc := 1680) dL_law_1680 (lk_0 hPy75) rfl hb70 ?_
        refine Y_aload_n (pc := 1681) (j := 1) dL_law_1681 rfl rfl ?_
        refine Y_iload (pc := 1682) (j := 6) dL_law_1682 rfl ?_
        refine Y_iconst (pc := 1684) (v := (2 : Int32)) dL_law_1684 rfl ?_
        refine Y_iadd (pc := 1685) dL_law_1685 ?_
        obtain ⟨hb71, h⟩ := okE h
        refine Y_sald (pc := 1686) dL_law_1686 (lk_0 hPy75) rfl hb71 ?_
        obtain ⟨y76, qy76, h⟩ := bindE h
        have cy76 := v_X12_counter hPy75 qy76
        refine C_V2r (pc := 1687) (k' := k_X12_counter) dL_law_1687 w10_231 i_X12_counter (lk_69 hPy75) ⟨Nat.le_of_ble_eq_true rfl, Nat.le_of_ble_eq_true rfl⟩ rfl (Nat.le_of_ble_eq_true rfl) (Nat.le_of_ble_eq_true rfl) (Nat.le_of_ble_eq_true rfl) (cy76) ?_
        have hPy76 := cy76.1.1
        refine Y_istore (pc := 1690) (lv1 := [(7, .int y76.1), (6, .int y75.1), (0, .ref 0), (1, .ref 1), (2, .ref 69), (3, .ref 127), (4, .ref 128), (5, .int x5)]) dL_law_1690 (by decide) rfl ?_
        refine Y_aload_n (pc := 1692) (j := 4) dL_law_1692 rfl rfl ?_
        obtain ⟨y77, qy77, h⟩ := bindE h
        have cy77 := v_X12_thrown hPy76 qy77
        refine C_V0r (pc := 1693) (k' := k_X12_thrown) dL_law_1693 w9_102 i_X12_thrown (lk_69 hPy76) ⟨Nat.le_of_ble_eq_true rfl, Nat.le_of_ble_eq_true rfl⟩ rfl (Nat.le_of_ble_eq_true rfl) (Nat.le_of_ble_eq_true rfl) (Nat.le_of_ble_eq_true rfl) (cy77) ?_
        have hPy77 := cy77.1.1
        refine Y_iload (pc := 1696) (j := 1) dL_law_1696 rfl ?_
        refine Y_icmp_eq (pc := 1698) (tgt := 1703) dL_law_1698 (by decide) (fun hc72 => ?_) (fun hc72 => ?_)
        · replace h := ifT hc72 h
          refine Y_iload (pc := 1703) (j := 1) dL_law_1703 rfl ?_
          refine Y_if_ne (pc := 1705) (tgt := 1720) dL_law_1705 (by decide) (fun hc73 => ?_) (fun hc73 => ?_)
          · replace h := ifF hc73 h
            refine VV.sub [2, 3, 4, 5, 6, 7] rfl ?_
            exact b_L_law_1720 hk28 hPy77 h
          · replace h := ifT hc73 h
            refine Y_aload_n (pc := 1708) (j := 5) dL_law_1708 rfl rfl ?_
            refine Y_iconst (pc := 1709) (v := (0 : Int32)) dL_law_1709 rfl ?_
            refine Y_lald (pc := 1710) dL_law_1710 (lk_127 hPy77) (ln_127 hPy77) (vp_lit (by decide)) ?_
            refine Y_iload (pc := 1711) (j := 0) dL_law_1711 rfl ?_
            refine Y_i2l (pc := 1713) dL_law_1713 ?_
            refine Y_lcmp (pc := 1714) dL_law_1714 ?_
            refine Y_if_eq (pc := 1715) (tgt := 1720) dL_law_1715 (by decide) (fun hc74 => ?_) (fun hc74 => ?_)
            · replace h := ifT hc74 h
              refine VV.sub [2, 3, 4, 5, 6, 7] rfl ?_
              exact b_L_law_1720 hk28 hPy77 h
            · replace h := ifF hc74 h
              refine Y_iconst (pc := 1718) (v := (0 : Int32)) dL_law_1718 rfl ?_
              cases h
              exact Y_iret (pc := 1719) rfl (nar_bo (by decide)) dL_law_1719 hPy77 ⟨rfl, rfl⟩
        · replace h := ifF hc72 h
          refine Y_iconst (pc := 1701) (v := (0 : Int32)) dL_law_1701 rfl ?_
          cases h
          exact Y_iret (pc := 1702) rfl (nar_bo (by decide)) dL_law_1702 hPy77 ⟨rfl, rfl⟩
      · intro e9
        replace h := ifF (by rw [e9] <;> decide) h
        replace h := ifF (by rw [e9] <;> decide) h
        replace h := ifF (by rw [e9] <;> decide) h
        replace h := ifF (by rw [e9] <;> decide) h
        replace h := ifF (by rw [e9] <;> decide) h
        replace h := ifF (by rw [e9] <;> decide) h
        replace h := ifF (by rw [e9] <;> decide) h
        replace h := ifF (by rw [e9] <;> decide) h
        replace h := ifF (by rw [e9] <;> decide) h
        replace h := ifF (by rw [e9] <;> decide) h
        replace h := ifF (by rw [e9] <;> decide) h
        replace h := ifF (by rw [e9] <;> decide) h
        replace h := ifF (by rw [e9] <;> decide) h
        replace h := ifF (by rw [e9] <;> decide) h
        replace h := ifF (by rw [e9] <;> decide) h
        replace h := ifF (by rw [e9] <;> decide) h
        replace h := ifF (by rw [e9] <;> decide) h
        replace h := ifF (by rw [e9] <;> decide) h
        replace h := ifF (by rw [e9] <;> decide) h
        replace h := ifF (by rw [e9] <;> decide) h
        replace h := ifF (by rw [e9] <;> decide) h
        replace h := ifF (by rw [e9] <;> decide) h
        replace h := ifF (by rw [e9] <;> decide) h
        replace h := ifF (by rw [e9] <;> decide) h
        replace h := ifF (by rw [e9] <;> decide) h
        replace h := ifF (by rw [e9] <;> decide) h
        replace h := ifF (by rw [e9] <;> decide) h
        replace h := ifT (by rw [e9] <;> decide) h
        refine Y_aload_n (pc := 1723) (j := 1) dL_law_1723 rfl rfl ?_
        refine Y_aload_n (pc := 1724) (j := 0) dL_law_1724 rfl rfl ?_
        refine Y_iload (pc := 1725) (j := 5) dL_law_1725 rfl ?_
        refine Y_iconst (pc := 1727) (v := (1 : Int32)) dL_law_1727 rfl ?_
        refine Y_iadd (pc := 1728) dL_law_1728 ?_
        obtain ⟨hb72, h⟩ := okE h
        refine Y_sald (pc := 1729) dL_law_1729 (lk_0 hP) rfl hb72 ?_
        refine Y_aload_n (pc := 1730) (j := 0) dL_law_1730 rfl rfl ?_
        refine Y_iload (pc := 1731) (j := 5) dL_law_1731 rfl ?_
        refine Y_iconst (pc := 1733) (v := (2 : Int32)) dL_law_1733 rfl ?_
        refine Y_iadd (pc := 1734) dL_law_1734 ?_
        obtain ⟨hb73, h⟩ := okE h
        refine Y_sald (pc := 1735) dL_law_1735 (lk_0 hP) rfl hb73 ?_
        refine Y_aload_n (pc := 1736) (j := 3) dL_law_1736 rfl rfl ?_
        obtain ⟨y78, qy78, h⟩ := bindE h
        have cy78 := v_L_isBarred hP qy78
        refine C_S4r (pc := 1737) (k' := k_L_isBarred) dL_law_1737 w7_170 i_L_isBarred (Nat.le_of_ble_eq_true rfl) (Nat.le_of_ble_eq_true rfl) (Nat.le_of_ble_eq_true rfl) (cy78) ?_
        have hPy78 := cy78.1.1
        refine Y_istore (pc := 1740) (lv1 := [(6, .int y78.1), (0, .ref 0), (1, .ref 1), (2, .ref 69), (3, .ref 127), (4, .ref 128), (5, .int x5)]) dL_law_1740 (by decide) rfl ?_
        refine Y_aload_n (pc := 1742) (j := 3) dL_law_1742 rfl rfl ?_
        refine Y_aload_n (pc := 1743) (j := 1) dL_law_1743 rfl rfl ?_
        refine Y_iload (pc := 1744) (j := 6) dL_law_1744 rfl ?_
        refine Y_iconst (pc := 1746) (v := (1 : Int32)) dL_law_1746 rfl ?_
        refine Y_iadd (pc := 1747) dL_law_1747 ?_
        obtain ⟨hb74, h⟩ := okE h
        refine Y_sald (pc := 1748) dL_law_1748 (lk_0 hPy78) rfl hb74 ?_
        refine Y_aload_n (pc := 1749) (j := 1) dL_law_1749 rfl rfl ?_
        refine Y_iload (pc := 1750) (j := 6) dL_law_1750 rfl ?_
        refine Y_iconst (pc := 1752) (v := (2 : Int32)) dL_law_1752 rfl ?_
        refine Y_iadd (pc := 1753) dL_law_1753 ?_
        obtain ⟨hb75, h⟩ := okE h
        refine Y_sald (pc := 1754) dL_law_1754 (lk_0 hPy78) rfl hb75 ?_
        obtain ⟨y79, qy79, h⟩ := bindE h
        have cy79 := v_X12_isBarred hPy78 qy79
        refine C_V2r (pc := 1755) (k' := k_X12_isBarred) dL_law_1755 w10_239 i_X12_isBarred (lk_69 hPy78) ⟨Nat.le_of_ble_eq_true rfl, Nat.le_of_ble_eq_true rfl⟩ rfl (Nat.le_of_ble_eq_true rfl) (Nat.le_of_ble_eq_true rfl) (Nat.le_of_ble_eq_true rfl) (cy79) ?_
        have hPy79 := cy79.1.1
        refine Y_istore (pc := 1758) (lv1 := [(7, .int y79.1), (6, .int y78.1), (0, .ref 0), (1, .ref 1), (2, .ref 69), (3, .ref 127), (4, .ref 128), (5, .int x5)]) dL_law_1758 (by decide) rfl ?_
        refine Y_aload_n (pc := 1760) (j := 4) dL_law_1760 rfl rfl ?_
        obtain ⟨y80, qy80, h⟩ := bindE h
        have cy80 := v_X12_thrown hPy79 qy80
        refine C_V0r (pc := 1761) (k' := k_X12_thrown) dL_law_1761 w9_102 i_X12_thrown (lk_69 hPy79) ⟨Nat.le_of_ble_eq_true rfl, Nat.le_of_ble_eq_true rfl⟩ rfl (Nat.le_of_ble_eq_true rfl) (Nat.le_of_ble_eq_true rfl) (Nat.le_of_ble_eq_true rfl) (cy80) ?_
        have hPy80 := cy80.1.1
        refine Y_iload (pc := 1764) (j := 1) dL_law_1764 rfl ?_
        refine Y_icmp_eq (pc := 1766) (tgt := 1771) dL_law_1766 (by decide) (fun hc75 => ?_) (fun hc75 => ?_)
        · replace h := ifT hc75 h
          refine Y_iload (pc := 1771) (j := 1) dL_law_1771 rfl ?_
          refine Y_if_ne (pc := 1773) (tgt := 1795) dL_law_1773 (by decide) (fun hc76 => ?_) (fun hc76 => ?_)
          · replace h := ifF hc76 h
            refine VV.sub [2, 3, 4, 5, 6, 7] rfl ?_
            exact b_L_law_1795 hk28 hPy80 h
          · replace h := ifT hc76 h
            refine Y_aload_n (pc := 1776) (j := 5) dL_law_1776 rfl rfl ?_
            refine Y_iconst (pc := 1777) (v := (0 : Int32)) dL_law_1777 rfl ?_
            refine Y_lald (pc := 1778) dL_law_1778 (lk_127 hPy80) (ln_127 hPy80) (vp_lit (by decide)) ?_
            refine Y_iload (pc := 1779) (j := 0) dL_law_1779 rfl ?_
            refine Y_if_eq (pc := 1781) (tgt := 1788) dL_law_1781 (by decide) (fun hc77 => ?_) (fun hc77 => ?_)
            · replace h := ifT hc77 h
              refine Y_lconst (pc := 1788) (v := (0 : Int64)) dL_law_1788 rfl ?_
              refine VV.sub [2, 3, 4, 5, 6, 7] rfl ?_
              exact b_L_law_1789 hk28 hPy80 h
            · replace h := ifF hc77 h
              refine Y_lconst (pc := 1784) (v := (1 : Int64)) dL_law_1784 rfl ?_
              refine Y_goto (pc := 1785) (tgt := 1789) dL_law_1785 (by decide) ?_
              refine VV.sub [2, 3, 4, 5, 6, 7] rfl ?_
              exact b_L_law_1789 hk28 hPy80 h
        · replace h := ifF hc75 h
          refine Y_iconst (pc := 1769) (v := (0 : Int32)) dL_law_1769 rfl ?_
          cases h
          exact Y_iret (pc := 1770) rfl (nar_bo (by decide)) dL_law_1770 hPy80 ⟨rfl, rfl⟩
      · intro e9
        replace h := ifF (by rw [e9] <;> decide) h
        replace h := ifF (by rw [e9] <;> decide) h
        replace h := ifF (by rw [e9] <;> decide) h
        replace h := ifF (by rw [e9] <;> decide) h
        replace h := ifF (by rw [e9] <;> decide) h
        replace h := ifF (by rw [e9] <;> decide) h
        replace h := ifF (by rw [e9] <;> decide) h
        replace h := ifF (by rw [e9] <;> decide) h
        replace h := ifF (by rw [e9] <;> decide) h
        replace h := ifF (by rw [e9] <;> decide) h
        replace h := ifF (by rw [e9] <;> decide) h
        replace h := ifF (by rw [e9] <;> decide) h
        replace h := ifF (by rw [e9] <;> decide) h
        replace h := ifF (by rw [e9] <;> decide) h
        replace h := ifF (by rw [e9] <;> decide) h
        replace h := ifF (by rw [e9] <;> decide) h
        replace h := ifF (by rw [e9] <;> decide) h
        replace h := ifF (by rw [e9] <;> decide) h
        replace h := ifF (by rw [e9] <;> decide) h
        replace h := ifF (by rw [e9] <;> decide) h
        replace h := ifF (by rw [e9] <;> decide) h
        replace h := ifF (by rw [e9] <;> decide) h
        replace h := ifF (by rw [e9] <;> decide) h
        replace h := ifF (by rw [e9] <;> decide) h
        replace h := ifF (by rw [e9] <;> decide) h
        replace h := ifF (by rw [e9] <;> decide) h
        replace h := ifF (by rw [e9] <;> decide) h
        replace h := ifF (by rw [e9] <;> decide) h
        replace h := ifT (by rw [e9] <;> decide) h
        refine Y_aload_n (pc := 1798) (j := 1) dL_law_1798 rfl rfl ?_
        obtain ⟨y81, qy81, h⟩ := bindE h
        have cy81 := v_X11_traces hP qy81
        refine C_V0r (pc := 1799) (k' := k_X11_traces) dL_law_1799 w3_87 i_X11_traces (lk_1 hP) ⟨Nat.le_of_ble_eq_true rfl, Nat.le_of_ble_eq_true rfl⟩ rfl (Nat.le_of_ble_eq_true rfl) (Nat.le_of_ble_eq_true rfl) (Nat.le_of_ble_eq_true rfl) (cy81) ?_
        have hPy81 := cy81.1.1
        refine Y_aload_n (pc := 1802) (j := 2) dL_law_1802 rfl rfl ?_
        obtain ⟨y82, qy82, h⟩ := bindE h
        have cy82 := v_X12_traces hPy81 qy82
        refine C_V0r (pc := 1803) (k' := k_X12_traces) dL_law_1803 w11_3 i_X12_traces (lk_69 hPy81) ⟨Nat.le_of_ble_eq_true rfl, Nat.le_of_ble_eq_true rfl⟩ rfl (Nat.le_of_ble_eq_true rfl) (Nat.le_of_ble_eq_true rfl) (Nat.le_of_ble_eq_true rfl) (cy82) ?_
        have hPy82 := cy82.1.1
        refine Y_icmp_eq (pc := 1806) (tgt := 2621) dL_law_1806 (by decide) (fun hc78 => ?_) (fun hc78 => ?_)
        · replace h := ifT hc78 h
          refine VV.sub [0, 1, 2, 3, 4, 5] rfl ?_
          exact b_L_law_2621 hk28 hPy82 h
        · replace h := ifF hc78 h
          refine Y_iconst (pc := 1809) (v := (0 : Int32)) dL_law_1809 rfl ?_
          cases h
          exact Y_iret (pc := 1810) rfl (nar_bo (by decide)) dL_law_1810 hPy82 ⟨rfl, rfl⟩
      · intro e9
        replace h := ifF (by rw [e9] <;> decide) h
        replace h := ifF (by rw [e9] <;> decide) h
        replace h := ifF (by rw [e9] <;> decide) h
        replace h := ifF (by rw [e9] <;> decide) h
        replace h := ifF (by rw [e9] <;> decide) h
        replace h := ifF (by rw [e9] <;> decide) h
        replace h := ifF (by rw [e9] <;> decide) h
        replace h := ifF (by rw [e9] <;> decide) h
        replace h := ifF (by rw [e9] <;> decide) h
        replace h := ifF (by rw [e9] <;> decide) h
        replace h := ifF (by rw [e9] <;> decide) h
        replace h := ifF (by rw [e9] <;> decide) h
        replace h := ifF (by rw [e9] <;> decide) h
        replace h := ifF (by rw [e9] <;> decide) h
        replace h := ifF (by rw [e9] <;> decide) h
        replace h := ifF (by rw [e9] <;> decide) h
        replace h := ifF (by rw [e9] <;> decide) h
        replace h := ifF (by rw [e9] <;> decide) h
        replace h := ifF (by rw [e9] <;> decide) h
        replace h := ifF (by rw [e9] <;> decide) h
        replace h := ifF (by rw [e9] <;> decide) h
        replace h := ifF (by rw [e9] <;> decide) h
        replace h := ifF (by rw [e9] <;> decide) h
        replace h := ifF (by rw [e9] <;> decide) h
        replace h := ifF (by rw [e9] <;> decide) h
        replace h := ifF (by rw [e9] <;> decide) h
        replace h := ifF (by rw [e9] <;> decide) h
        replace h := ifF (by rw [e9] <;> decide) h
        replace h := ifF (by rw [e9] <;> decide) h
        replace h := ifT (by rw [e9] <;> decide) h
        refine Y_aload_n (pc := 1811) (j := 1) dL_law_1811 rfl rfl ?_
        refine Y_aload_n (pc := 1812) (j := 0) dL_law_1812 rfl rfl ?_
        refine Y_iload (pc := 1813) (j := 5) dL_law_1813 rfl ?_
        refine Y_iconst (pc := 1815) (v := (1 : Int32)) dL_law_1815 rfl ?_
        refine Y_iadd (pc := 1816) dL_law_1816 ?_
        obtain ⟨hb76, h⟩ := okE h
        refine Y_sald (pc := 1817) dL_law_1817 (lk_0 hP) rfl hb76 ?_
        refine Y_aload_n (pc := 1818) (j := 3) dL_law_1818 rfl rfl ?_
        obtain ⟨y83, qy83, h⟩ := bindE h
        have cy83 := v_L_isThere hP qy83
        refine C_S3r (pc := 1819) (k' := k_L_isThere) dL_law_1819 w7_178 i_L_isThere (Nat.le_of_ble_eq_true rfl) (Nat.le_of_ble_eq_true rfl) (Nat.le_of_ble_eq_true rfl) (cy83) ?_
        have hPy83 := cy83.1.1
        refine Y_istore (pc := 1822) (lv1 := [(6, .int y83.1), (0, .ref 0), (1, .ref 1), (2, .ref 69), (3, .ref 127), (4, .ref 128), (5, .int x5)]) dL_law_1822 (by decide) rfl ?_
        refine Y_aload_n (pc := 1824) (j := 3) dL_law_1824 rfl rfl ?_
        refine Y_aload_n (pc := 1825) (j := 1) dL_law_1825 rfl rfl ?_
        refine Y_iload (pc := 1826) (j := 6) dL_law_1826 rfl ?_
        refine Y_iconst (pc := 1828) (v := (1 : Int32)) dL_law_1828 rfl ?_
        refine Y_iadd (pc := 1829) dL_law_1829 ?_
        obtain ⟨hb77, h⟩ := okE h
        refine Y_sald (pc := 1830) dL_law_1830 (lk_0 hPy83) rfl hb77 ?_
        obtain ⟨y84, qy84, h⟩ := bindE h
        have cy84 := v_X12_isThere hPy83 qy84
        refine C_V1r (pc := 1831) (k' := k_X12_isThere) dL_law_1831 w11_7 i_X12_isThere (lk_69 hPy83) ⟨Nat.le_of_ble_eq_true rfl, Nat.le_of_ble_eq_true rfl⟩ rfl (Nat.le_of_ble_eq_true rfl) (Nat.le_of_ble_eq_true rfl) (Nat.le_of_ble_eq_true rfl) (cy84) ?_
        have hPy84 := cy84.1.1
        refine Y_istore (pc := 1834) (lv1 := [(7, .int y84.1), (6, .int y83.1), (0, .ref 0), (1, .ref 1), (2, .ref 69), (3, .ref 127), (4, .ref 128), (5, .int x5)]) dL_law_1834 (by decide) rfl ?_
        refine Y_aload_n (pc := 1836) (j := 4) dL_law_1836 rfl rfl ?_
        obtain ⟨y85, qy85, h⟩ := bindE h
        have cy85 := v_X12_thrown hPy84 qy85
        refine C_V0r (pc := 1837) (k' := k_X12_thrown) dL_law_1837 w9_102 i_X12_thrown (lk_69 hPy84) ⟨Nat.le_of_ble_eq_true rfl, Nat.le_of_ble_eq_true rfl⟩ rfl (Nat.le_of_ble_eq_true rfl) (Nat.le_of_ble_eq_true rfl) (Nat.le_of_ble_eq_true rfl) (cy85) ?_
        have hPy85 := cy85.1.1
        refine Y_iload (pc := 1840) (j := 1) dL_law_1840 rfl ?_
        refine Y_icmp_eq (pc := 1842) (tgt := 1847) dL_law_1842 (by decide) (fun hc79 => ?_) (fun hc79 => ?_)
        · replace h := ifT hc79 h
          refine Y_iload (pc := 1847) (j := 1) dL_law_1847 rfl ?_
          refine Y_if_ne (pc := 1849) (tgt := 1871) dL_law_1849 (by decide) (fun hc80 => ?_) (fun hc80 => ?_)
          · replace h := ifF hc80 h
            refine VV.sub [2, 3, 4, 5, 6, 7] rfl ?_
            exact b_L_law_1871 hk28 hPy85 h
          · replace h := ifT hc80 h
            refine Y_aload_n (pc := 1852) (j := 5) dL_law_1852 rfl rfl ?_
            refine Y_iconst (pc := 1853) (v := (0 : Int32)) dL_law_1853 rfl ?_
            refine Y_lald (pc := 1854) dL_law_1854 (lk_127 hPy85) (ln_127 hPy85) (vp_lit (by decide)) ?_
            refine Y_iload (pc := 1855) (j := 0) dL_law_1855 rfl ?_
            refine Y_if_eq (pc := 1857) (tgt := 1864) dL_law_1857 (by decide) (fun hc81 => ?_) (fun hc81 => ?_)
            · replace h := ifT hc81 h
              refine Y_lconst (pc := 1864) (v := (0 : Int64)) dL_law_1864 rfl ?_
              refine VV.sub [2, 3, 4, 5, 6, 7] rfl ?_
              exact b_L_law_1865 hk28 hPy85 h
            · replace h := ifF hc81 h
              refine Y_lconst (pc := 1860) (v := (1 : Int64)) dL_law_1860 rfl ?_
              refine Y_goto (pc := 1861) (tgt := 1865) dL_law_1861 (by decide) ?_
              refine VV.sub [2, 3, 4, 5, 6, 7] rfl ?_
              exact b_L_law_1865 hk28 hPy85 h
        · replace h := ifF hc79 h
          refine Y_iconst (pc := 1845) (v := (0 : Int32)) dL_law_1845 rfl ?_
          cases h
          exact Y_iret (pc := 1846) rfl (nar_bo (by decide)) dL_law_1846 hPy85 ⟨rfl, rfl⟩
      · intro e9
        replace h := ifF (by rw [e9] <;> decide) h
        replace h := ifF (by rw [e9] <;> decide) h
        replace h := ifF (by rw [e9] <;> decide) h
        replace h := ifF (by rw [e9] <;> decide) h
        replace h := ifF (by rw [e9] <;> decide) h
        replace h := ifF (by rw [e9] <;> decide) h
        replace h := ifF (by rw [e9] <;> decide) h
        replace h := ifF (by rw [e9] <;> decide) h
        replace h := ifF (by rw [e9] <;> decide) h
        replace h := ifF (by rw [e9] <;> decide) h
        replace h := ifF (by rw [e9] <;> decide) h
        replace h := ifF (by rw [e9] <;> decide) h
        replace h := ifF (by rw [e9] <;> decide) h
        replace h := ifF (by rw [e9] <;> decide) h
        replace h := ifF (by rw [e9] <;> decide) h
        replace h := ifF (by rw [e9] <;> decide) h
        replace h := ifF (by rw [e9] <;> decide) h
        replace h := ifF (by rw [e9] <;> decide) h
        replace h := ifF (by rw [e9] <;> decide) h
        replace h := ifF (by rw [e9] <;> decide) h
        replace h := ifF (by rw [e9] <;> decide) h
        replace h := ifF (by rw [e9] <;> decide) h
        replace h := ifF (by rw [e9] <;> decide) h
        replace h := ifF (by rw [e9] <;> decide) h
        replace h := ifF (by rw [e9] <;> decide) h
        replace h := ifF (by rw [e9] <;> decide) h
        replace h := ifF (by rw [e9] <;> decide) h
        replace h := ifF (by rw [e9] <;> decide) h
        replace h := ifF (by rw [e9] <;> decide) h
        replace h := ifF (by rw [e9] <;> decide) h
        replace h := ifT (by rw [e9] <;> decide) h
        refine Y_aload_n (pc := 1874) (j := 1) dL_law_1874 rfl rfl ?_
        refine Y_aload_n (pc := 1875) (j := 0) dL_law_1875 rfl rfl ?_
        refine Y_iload (pc := 1876) (j := 5) dL_law_1876 rfl ?_
        refine Y_iconst (pc := 1878) (v := (1 : Int32)) dL_law_1878 rfl ?_
        refine Y_iadd (pc := 1879) dL_law_1879 ?_
        obtain ⟨hb78, h⟩ := okE h
        refine Y_sald (pc := 1880) dL_law_1880 (lk_0 hP) rfl hb78 ?_
        refine Y_aload_n (pc := 1881) (j := 3) dL_law_1881 rfl rfl ?_
        obtain ⟨y86, qy86, h⟩ := bindE h
        have cy86 := v_L_steps hP qy86
        refine C_S3r (pc := 1882) (k' := k_L_steps) dL_law_1882 w7_190 i_L_steps (Nat.le_of_ble_eq_true rfl) (Nat.le_of_ble_eq_true rfl) (Nat.le_of_ble_eq_true rfl) (cy86) ?_
        have hPy86 := cy86.1.1
        refine Y_istore (pc := 1885) (lv1 := [(6, .int y86.1), (0, .ref 0), (1, .ref 1), (2, .ref 69), (3, .ref 127), (4, .ref 128), (5, .int x5)]) dL_law_1885 (by decide) rfl ?_
        refine Y_aload_n (pc := 1887) (j := 3) dL_law_1887 rfl rfl ?_
        refine Y_aload_n (pc := 1888) (j := 1) dL_law_1888 rfl rfl ?_
        refine Y_iload (pc := 1889) (j := 6) dL_law_1889 rfl ?_
        refine Y_iconst (pc := 1891) (v := (1 : Int32)) dL_law_1891 rfl ?_
        refine Y_iadd (pc := 1892) dL_law_1892 ?_
        obtain ⟨hb79, h⟩ := okE h
        refine Y_sald (pc := 1893) dL_law_1893 (lk_0 hPy86) rfl hb79 ?_
        obtain ⟨y87, qy87, h⟩ := bindE h
        have cy87 := v_X12_steps hPy86 qy87
        refine C_V1r (pc := 1894) (k' := k_X12_steps) dL_law_1894 w11_15 i_X12_steps (lk_69 hPy86) ⟨Nat.le_of_ble_eq_true rfl, Nat.le_of_ble_eq_true rfl⟩ rfl (Nat.le_of_ble_eq_true rfl) (Nat.le_of_ble_eq_true rfl) (Nat.le_of_ble_eq_true rfl) (cy87) ?_
        have hPy87 := cy87.1.1
        refine Y_istore (pc := 1897) (lv1 := [(7, .int y87.1), (6, .int y86.1), (0, .ref 0), (1, .ref 1), (2, .ref 69), (3, .ref 127), (4, .ref 128), (5, .int x5)]) dL_law_1897 (by decide) rfl ?_
        refine Y_aload_n (pc := 1899) (j := 4) dL_law_1899 rfl rfl ?_
        obtain ⟨y88, qy88, h⟩ := bindE h
        have cy88 := v_X12_thrown hPy87 qy88
        refine C_V0r (pc := 1900) (k' := k_X12_thrown) dL_law_1900 w9_102 i_X12_thrown (lk_69 hPy87) ⟨Nat.le_of_ble_eq_true rfl, Nat.le_of_ble_eq_true rfl⟩ rfl (Nat.le_of_ble_eq_true rfl) (Nat.le_of_ble_eq_true rfl) (Nat.le_of_ble_eq_true rfl) (cy88) ?_
        have hPy88 := cy88.1.1
        refine Y_iload (pc := 1903) (j := 1) dL_law_1903 rfl ?_
        refine Y_icmp_eq (pc := 1905) (tgt := 1910) dL_law_1905 (by decide) (fun hc82 => ?_) (fun hc82 => ?_)
        · replace h := ifT hc82 h
          refine Y_iload (pc := 1910) (j := 1) dL_law_1910 rfl ?_
          refine Y_if_ne (pc := 1912) (tgt := 1927) dL_law_1912 (by decide) (fun hc83 => ?_) (fun hc83 => ?_)
          · replace h := ifF hc83 h
            refine VV.sub [2, 3, 4, 5, 6, 7] rfl ?_
            exact b_L_law_1927 hk28 hPy88 h
          · replace h := ifT hc83 h
            refine Y_aload_n (pc := 1915) (j := 5) dL_law_1915 rfl rfl ?_
            refine Y_iconst (pc := 1916) (v := (0 : Int32)) dL_law_1916 rfl ?_
            refine Y_lald (pc := 1917) dL_law_1917 (lk_127 hPy88) (ln_127 hPy88) (vp_lit (by decide)) ?_
            refine Y_iload (pc := 1918) (j := 0) dL_law_1918 rfl ?_
            refine Y_i2l (pc := 1920) dL_law_1920 ?_
            refine Y_lcmp (pc := 1921) dL_law_1921 ?_
            refine Y_if_eq (pc := 1922) (tgt := 1927) dL_law_1922 (by decide) (fun hc84 => ?_) (fun hc84 => ?_)
            · replace h := ifT hc84 h
              refine VV.sub [2, 3, 4, 5, 6, 7] rfl ?_
              exact b_L_law_1927 hk28 hPy88 h
            · replace h := ifF hc84 h
              refine Y_iconst (pc := 1925) (v := (0 : Int32)) dL_law_1925 rfl ?_
              cases h
              exact Y_iret (pc := 1926) rfl (nar_bo (by decide)) dL_law_1926 hPy88 ⟨rfl, rfl⟩
        · replace h := ifF hc82 h
          refine Y_iconst (pc := 1908) (v := (0 : Int32)) dL_law_1908 rfl ?_
          cases h
          exact Y_iret (pc := 1909) rfl (nar_bo (by decide)) dL_law_1909 hPy88 ⟨rfl, rfl⟩
      · intro e9
        replace h := ifF (by rw [e9] <;> decide) h
        replace h := ifF (by rw [e9] <;> decide) h
        replace h := ifF (by rw [e9] <;> decide) h
        replace h := ifF (by rw [e9] <;> decide) h
        replace h := ifF (by rw [e9] <;> decide) h
        replace h := ifF (by rw [e9] <;> decide) h
        replace h := ifF (by rw [e9] <;> decide) h
        replace h := ifF (by rw [e9] <;> decide) h
        replace h := ifF (by rw [e9] <;> decide) h
        replace h := ifF (by rw [e9] <;> decide) h
        replace h := ifF (by rw [e9] <;> decide) h
        replace h := ifF (by rw [e9] <;> decide) h
        replace h := ifF (by rw [e9] <;> decide) h
        replace h := ifF (by rw [e9] <;> decide) h
        replace h := ifF (by rw [e9] <;> decide) h
        replace h := ifF (by rw [e9] <;> decide) h
        replace h := ifF (by rw [e9] <;> decide) h
        replace h := ifF (by rw [e9] <;> decide) h
        replace h := ifF (by rw [e9] <;> decide) h
        replace h := ifF (by rw [e9] <;> decide) h
        replace h := ifF (by rw [e9] <;> decide) h
        replace h := ifF (by rw [e9] <;> decide) h
        replace h := ifF (by rw [e9] <;> decide) h
        replace h := ifF (by rw [e9] <;> decide) h
        replace h := ifF (by rw [e9] <;> decide) h
        replace h := ifF (by rw [e9] <;> decide) h
        replace h := ifF (by rw [e9] <;> decide) h
        replace h := ifF (by rw [e9] <;> decide) h
        replace h := ifF (by rw [e9] <;> decide) h
        replace h := ifF (by rw [e9] <;> decide) h
        replace h := ifF (by rw [e9] <;> decide) h
        replace h := ifT (by rw [e9] <;> decide) h
        refine Y_aload_n (pc := 1930) (j := 1) dL_law_1930 rfl rfl ?_
        refine Y_aload_n (pc := 1931) (j := 0) dL_law_1931 rfl rfl ?_
        refine Y_iload (pc := 1932) (j := 5) dL_law_1932 rfl ?_
        refine Y_iconst (pc := 1934) (v := (1 : Int32)) dL_law_1934 rfl ?_
        refine Y_iadd (pc := 1935) dL_law_1935 ?_
        obtain ⟨hb80, h⟩ := okE h
        refine Y_sald (pc := 1936) dL_law_1936 (lk_0 hP) rfl hb80 ?_
        refine Y_aload_n (pc := 1937) (j := 0) dL_law_1937 rfl rfl ?_
        refine Y_iload (pc := 1938) (j := 5) dL_law_1938 rfl ?_
        refine Y_iconst (pc := 1940) (v := (2 : Int32)) dL_law_1940 rfl ?_
        refine Y_iadd (pc := 1941) dL_law_1941 ?_
        obtain ⟨hb81, h⟩ := okE h
        refine Y_sald (pc := 1942) dL_law_1942 (lk_0 hP) rfl hb81 ?_
        refine Y_aload_n (pc := 1943) (j := 3) dL_law_1943 rfl rfl ?_
        obtain ⟨y89, qy89, h⟩ := bindE h
        have cy89 := v_L_lineAt hP qy89
        refine C_S4r (pc := 1944) (k' := k_L_lineAt) dL_law_1944 w7_197 i_L_lineAt (Nat.le_of_ble_eq_true rfl) (Nat.le_of_ble_eq_true rfl) (Nat.le_of_ble_eq_true rfl) (cy89) ?_
        have hPy89 := cy89.1.1
        refine Y_istore (pc := 1947) (lv1 := [(6, .int y89.1), (0, .ref 0), (1, .ref 1), (2, .ref 69), (3, .ref 127), (4, .ref 128), (5, .int x5)]) dL_law_1947 (by decide) rfl ?_
        refine Y_aload_n (pc := 1949) (j := 3) dL_law_1949 rfl rfl ?_
        refine Y_aload_n (pc := 1950) (j := 1) dL_law_1950 rfl rfl ?_
        refine Y_iload (pc := 1951) (j := 6) dL_law_1951 rfl ?_
        refine Y_iconst (pc := 1953) (v := (1 : Int32)) dL_law_1953 rfl ?_
        refine Y_iadd (pc := 1954) dL_law_1954 ?_
        obtain ⟨hb82, h⟩ := okE h
        refine Y_sald (pc := 1955) dL_law_1955 (lk_0 hPy89) rfl hb82 ?_
        refine Y_aload_n (pc := 1956) (j := 1) dL_law_1956 rfl rfl ?_
        refine Y_iload (pc := 1957) (j := 6) dL_law_1957 rfl ?_
        refine Y_iconst (pc := 1959) (v := (2 : Int32)) dL_law_1959 rfl ?_
        refine Y_iadd (pc := 1960) dL_law_1960 ?_
        obtain ⟨hb83, h⟩ := okE h
        refine Y_sald (pc := 1961) dL_law_1961 (lk_0 hPy89) rfl hb83 ?_
        obtain ⟨y90, qy90, h⟩ := bindE h
        have cy90 := v_X12_lineAt hPy89 qy90
        refine C_V2r (pc := 1962) (k' := k_X12_lineAt) dL_law_1962 w11_19 i_X12_lineAt (lk_69 hPy89) ⟨Nat.le_of_ble_eq_true rfl, Nat.le_of_ble_eq_true rfl⟩ rfl (Nat.le_of_ble_eq_true rfl) (Nat.le_of_ble_eq_true rfl) (Nat.le_of_ble_eq_true rfl) (cy90) ?_
        have hPy90 := cy90.1.1
        refine Y_istore (pc := 1965) (lv1 := [(7, .int y90.1), (6, .int y89.1), (0, .ref 0), (1, .ref 1), (2, .ref 69), (3, .ref 127), (4, .ref 128), (5, .int x5)]) dL_law_1965 (by decide) rfl ?_
        refine Y_aload_n (pc := 1967) (j := 4) dL_law_1967 rfl rfl ?_
        obtain ⟨y91, qy91, h⟩ := bindE h
        have cy91 := v_X12_thrown hPy90 qy91
        refine C_V0r (pc := 1968) (k' := k_X12_thrown) dL_law_1968 w9_102 i_X12_thrown (lk_69 hPy90) ⟨Nat.le_of_ble_eq_true rfl, Nat.le_of_ble_eq_true rfl⟩ rfl (Nat.le_of_ble_eq_true rfl) (Nat.le_of_ble_eq_true rfl) (Nat.le_of_ble_eq_true rfl) (cy91) ?_
        have hPy91 := cy91.1.1
        refine Y_iload (pc := 1971) (j := 1) dL_law_1971 rfl ?_
        refine Y_icmp_eq (pc := 1973) (tgt := 1978) dL_law_1973 (by decide) (fun hc85 => ?_) (fun hc85 => ?_)
        · replace h := ifT hc85 h
          refine Y_iload (pc := 1978) (j := 1) dL_law_1978 rfl ?_
          refine Y_if_ne (pc := 1980) (tgt := 1995) dL_law_1980 (by decide) (fun hc86 => ?_) (fun hc86 => ?_)
          · replace h := ifF hc86 h
            refine VV.sub [2, 3, 4, 5, 6, 7] rfl ?_
            exact b_L_law_1995 hk28 hPy91 h
          · replace h := ifT hc86 h
            refine Y_aload_n (pc := 1983) (j := 5) dL_law_1983 rfl rfl ?_
            refine Y_iconst (pc := 1984) (v := (0 : Int32)) dL_law_1984 rfl ?_
            refine Y_lald (pc := 1985) dL_law_1985 (lk_127 hPy91) (ln_127 hPy91) (vp_lit (by decide)) ?_
            refine Y_iload (pc := 1986) (j := 0) dL_law_1986 rfl ?_
            refine Y_i2l (pc := 1988) dL_law_1988 ?_
            refine Y_lcmp (pc := 1989) dL_law_1989 ?_
            refine Y_if_eq (pc := 1990) (tgt := 1995) dL_law_1990 (by decide) (fun hc87 => ?_) (fun hc87 => ?_)
            · replace h := ifT hc87 h
              refine VV.sub [2, 3, 4, 5, 6, 7] rfl ?_
              exact b_L_law_1995 hk28 hPy91 h
            · replace h := ifF hc87 h
              refine Y_iconst (pc := 1993) (v := (0 : Int32)) dL_law_1993 rfl ?_
              cases h
              exact Y_iret (pc := 1994) rfl (nar_bo (by decide)) dL_law_1994 hPy91 ⟨rfl, rfl⟩
        · replace h := ifF hc85 h
          refine Y_iconst (pc := 1976) (v := (0 : Int32)) dL_law_1976 rfl ?_
          cases h
          exact Y_iret (pc := 1977) rfl (nar_bo (by decide)) dL_law_1977 hPy91 ⟨rfl, rfl⟩
      · intro e9
        replace h := ifF (by rw [e9] <;> decide) h
        replace h := ifF (by rw [e9] <;> decide) h
        replace h := ifF (by rw [e9] <;> decide) h
        replace h := ifF (by rw [e9] <;> decide) h
        replace h := ifF (by rw [e9] <;> decide) h
        replace h := ifF (by rw [e9] <;> decide) h
        replace h := ifF (by rw [e9] <;> decide) h
        replace h := ifF (by rw [e9] <;> decide) h
        replace h := ifF (by rw [e9] <;> decide) h
        replace h := ifF (by rw [e9] <;> decide) h
        replace h := ifF (by rw [e9] <;> decide) h
        replace h := ifF (by rw [e9] <;> decide) h
        replace h := ifF (by rw [e9] <;> decide) h
        replace h := ifF (by rw [e9] <;> decide) h
        replace h := ifF (by rw [e9] <;> decide) h
        replace h := ifF (by rw [e9] <;> decide) h
        replace h := ifF (by rw [e9] <;> decide) h
        replace h := ifF (by rw [e9] <;> decide) h
        replace h := ifF (by rw [e9] <;> decide) h
        replace h := ifF (by rw [e9] <;> decide) h
        replace h := ifF (by rw [e9] <;> decide) h
        replace h := ifF (by rw [e9] <;> decide) h
        replace h := ifF (by rw [e9] <;> decide) h
        replace h := ifF (by rw [e9] <;> decide) h
        replace h := ifF (by rw [e9] <;> decide) h
        replace h := ifF (by rw [e9] <;> decide) h
        replace h := ifF (by rw [e9] <;> decide) h
        replace h := ifF (by rw [e9] <;> decide) h
        replace h := ifF (by rw [e9] <;> decide) h
        replace h := ifF (by rw [e9] <;> decide) h
        replace h := ifF (by rw [e9] <;> decide) h
        replace h := ifF (by rw [e9] <;> decide) h
        replace h := ifT (by rw [e9] <;> decide) h
        refine Y_aload_n (pc := 1998) (j := 1) dL_law_1998 rfl rfl ?_
        refine Y_aload_n (pc := 1999) (j := 0) dL_law_1999 rfl rfl ?_
        refine Y_iload (pc := 2000) (j := 5) dL_law_2000 rfl ?_
        refine Y_iconst (pc := 2002) (v := (1 : Int32)) dL_law_2002 rfl ?_
        refine Y_iadd (pc := 2003) dL_law_2003 ?_
        obtain ⟨hb84, h⟩ := okE h
        refine Y_sald (pc := 2004) dL_law_2004 (lk_0 hP) rfl hb84 ?_
        refine Y_aload_n (pc := 2005) (j := 3) dL_law_2005 rfl rfl ?_
        obtain ⟨y92, qy92, h⟩ := bindE h
        have cy92 := v_L_guards hP qy92
        refine C_S3r (pc := 2006) (k' := k_L_guards) dL_law_2006 w7_205 i_L_guards (Nat.le_of_ble_eq_true rfl) (Nat.le_of_ble_eq_true rfl) (Nat.le_of_ble_eq_true rfl) (cy92) ?_
        have hPy92 := cy92.1.1
        refine Y_istore (pc := 2009) (lv1 := [(6, .int y92.1), (0, .ref 0), (1, .ref 1), (2, .ref 69), (3, .ref 127), (4, .ref 128), (5, .int x5)]) dL_law_2009 (by decide) rfl ?_
        refine Y_aload_n (pc := 2011) (j := 3) dL_law_2011 rfl rfl ?_
        refine Y_aload_n (pc := 2012) (j := 1) dL_law_2012 rfl rfl ?_
        refine Y_iload (pc := 2013) (j := 6) dL_law_2013 rfl ?_
        refine Y_iconst (pc := 2015) (v := (1 : Int32)) dL_law_2015 rfl ?_
        refine Y_iadd (pc := 2016) dL_law_2016 ?_
        obtain ⟨hb85, h⟩ := okE h
        refine Y_sald (pc := 2017) dL_law_2017 (lk_0 hPy92) rfl hb85 ?_
        obtain ⟨y93, qy93, h⟩ := bindE h
        have cy93 := v_X12_guards_ hPy92 qy93
        refine C_V1r (pc := 2018) (k' := k_X12_guards_) dL_law_2018 w11_23 i_X12_guards_ (lk_69 hPy92) ⟨Nat.le_of_ble_eq_true rfl, Nat.le_of_ble_eq_true rfl⟩ rfl (Nat.le_of_ble_eq_true rfl) (Nat.le_of_ble_eq_true rfl) (Nat.le_of_ble_eq_true rfl) (cy93) ?_
        have hPy93 := cy93.1.1
        refine Y_istore (pc := 2021) (lv1 := [(7, .int y93.1), (6, .int y92.1), (0, .ref 0), (1, .ref 1), (2, .ref 69), (3, .ref 127), (4, .ref 128), (5, .int x5)]) dL_law_2021 (by decide) rfl ?_
        refine Y_aload_n (pc := 2023) (j := 4) dL_law_2023 rfl rfl ?_
        obtain ⟨y94, qy94, h⟩ := bindE h
        have cy94 := v_X12_thrown hPy93 qy94
        refine C_V0r (pc := 2024) (k' := k_X12_thrown) dL_law_2024 w9_102 i_X12_thrown (lk_69 hPy93) ⟨Nat.le_of_ble_eq_true rfl, Nat.le_of_ble_eq_true rfl⟩ rfl (Nat.le_of_ble_eq_true rfl) (Nat.le_of_ble_eq_true rfl) (Nat.le_of_ble_eq_true rfl) (cy94) ?_
        have hPy94 := cy94.1.1
        refine Y_iload (pc := 2027) (j := 1) dL_law_2027 rfl ?_
        refine Y_icmp_eq (pc := 2029) (tgt := 2034) dL_law_2029 (by decide) (fun hc88 => ?_) (fun hc88 => ?_)
        · replace h := ifT hc88 h
          refine Y_iload (pc := 2034) (j := 1) dL_law_2034 rfl ?_
          refine Y_if_ne (pc := 2036) (tgt := 2051) dL_law_2036 (by decide) (fun hc89 => ?_) (fun hc89 => ?_)
          · replace h := ifF hc89 h
            refine VV.sub [2, 3, 4, 5, 6, 7] rfl ?_
            exact b_L_law_2051 hk28 hPy94 h
          · replace h := ifT hc89 h
            refine Y_aload_n (pc := 2039) (j := 5) dL_law_2039 rfl rfl ?_
            refine Y_iconst (pc := 2040) (v := (0 : Int32)) dL_law_2040 rfl ?_
            refine Y_lald (pc := 2041) dL_law_2041 (lk_127 hPy94) (ln_127 hPy94) (vp_lit (by decide)) ?_
            refine Y_iload (pc := 2042) (j := 0) dL_law_2042 rfl ?_
            refine Y_i2l (pc := 2044) dL_law_2044 ?_
            refine Y_lcmp (pc := 2045) dL_law_2045 ?_
            refine Y_if_eq (pc := 2046) (tgt := 2051) dL_law_2046 (by decide) (fun hc90 => ?_) (fun hc90 => ?_)
            · replace h := ifT hc90 h
              refine VV.sub [2, 3, 4, 5, 6, 7] rfl ?_
              exact b_L_law_2051 hk28 hPy94 h
            · replace h := ifF hc90 h
              refine Y_iconst (pc := 2049) (v := (0 : Int32)) dL_law_2049 rfl ?_
              cases h
              exact Y_iret (pc := 2050) rfl (nar_bo (by decide)) dL_law_2050 hPy94 ⟨rfl, rfl⟩
        · replace h := ifF hc88 h
          refine Y_iconst (pc := 2032) (v := (0 : Int32)) dL_law_2032 rfl ?_
          cases h
          exact Y_iret (pc := 2033) rfl (nar_bo (by decide)) dL_law_2033 hPy94 ⟨rfl, rfl⟩
      · intro e9
        replace h := ifF (by rw [e9] <;> decide) h
        replace h := ifF (by rw [e9] <;> decide) h
        replace h := ifF (by rw [e9] <;> decide) h
        replace h := ifF (by rw [e9] <;> decide) h
        replace h := ifF (by rw [e9] <;> decide) h
        replace h := ifF (by rw [e9] <;> decide) h
        replace h := ifF (by rw [e9] <;> decide) h
        replace h := ifF (by rw [e9] <;> decide) h
        replace h := ifF (by rw [e9] <;> decide) h
        replace h := ifF (by rw [e9] <;> decide) h
        replace h := ifF (by rw [e9] <;> decide) h
        replace h := ifF (by rw [e9] <;> decide) h
        replace h := ifF (by rw [e9] <;> decide) h
        replace h := ifF (by rw [e9] <;> decide) h
        replace h := ifF (by rw [e9] <;> decide) h
        replace h := ifF (by rw [e9] <;> decide) h
        replace h := ifF (by rw [e9] <;> decide) h
        replace h := ifF (by rw [e9] <;> decide) h
        replace h := ifF (by rw [e9] <;> decide) h
        replace h := ifF (by rw [e9] <;> decide) h
        replace h := ifF (by rw [e9] <;> decide) h
        replace h := ifF (by rw [e9] <;> decide) h
        replace h := ifF (by rw [e9] <;> decide) h
        replace h := ifF (by rw [e9] <;> decide) h
        replace h := ifF (by rw [e9] <;> decide) h
        replace h := ifF (by rw [e9] <;> decide) h
        replace h := ifF (by rw [e9] <;> decide) h
        replace h := ifF (by rw [e9] <;> decide) h
        replace h := ifF (by rw [e9] <;> decide) h
        replace h := ifF (by rw [e9] <;> decide) h
        replace h := ifF (by rw [e9] <;> decide) h
        replace h := ifF (by rw [e9] <;> decide) h
        replace h := ifF (by rw [e9] <;> decide) h
        replace h := ifT (by rw [e9] <;> decide) h
        refine Y_aload_n (pc := 2054) (j := 1) dL_law_2054 rfl rfl ?_
        refine Y_aload_n (pc := 2055) (j := 0) dL_law_2055 rfl rfl ?_
        refine Y_iload (pc := 2056) (j := 5) dL_law_2056 rfl ?_
        refine Y_iconst (pc := 2058) (v := (1 : Int32)) dL_law_2058 rfl ?_
        refine Y_iadd (pc := 2059) dL_law_2059 ?_
        obtain ⟨hb86, h⟩ := okE h
        refine Y_sald (pc := 2060) dL_law_2060 (lk_0 hP) rfl hb86 ?_
        refine Y_aload_n (pc := 2061) (j := 0) dL_law_2061 rfl rfl ?_
        refine Y_iload (pc := 2062) (j := 5) dL_law_2062 rfl ?_
        refine Y_iconst (pc := 2064) (v := (2 : Int32)) dL_law_2064 rfl ?_
        refine Y_iadd (pc := 2065) dL_law_2065 ?_
        obtain ⟨hb87, h⟩ := okE h
        refine Y_sald (pc := 2066) dL_law_2066 (lk_0 hP) rfl hb87 ?_
        refine Y_aload_n (pc := 2067) (j := 3) dL_law_2067 rfl rfl ?_
        obtain ⟨y95, qy95, h⟩ := bindE h
        have cy95 := v_L_guardAt hP qy95
        refine C_S4r (pc := 2068) (k' := k_L_guardAt) dL_law_2068 w7_212 i_L_guardAt (Nat.le_of_ble_eq_true rfl) (Nat.le_of_ble_eq_true rfl) (Nat.le_of_ble_eq_true rfl) (cy95) ?_
        have hPy95 := cy95.1.1
        refine Y_istore (pc := 2071) (lv1 := [(6, .int y95.1), (0, .ref 0), (1, .ref 1), (2, .ref 69), (3, .ref 127), (4, .ref 128), (5, .int x5)]) dL_law_2071 (by decide) rfl ?_
        refine Y_aload_n (pc := 2073) (j := 3) dL_law_2073 rfl rfl ?_
        refine Y_aload_n (pc := 2074) (j := 1) dL_law_2074 rfl rfl ?_
        refine Y_iload (pc := 2075) (j := 6) dL_law_2075 rfl ?_
        refine Y_iconst (pc := 2077) (v := (1 : Int32)) dL_law_2077 rfl ?_
        refine Y_iadd (pc := 2078) dL_law_2078 ?_
        obtain ⟨hb88, h⟩ := okE h
        refine Y_sald (pc := 2079) dL_law_2079 (lk_0 hPy95) rfl hb88 ?_
        refine Y_aload_n (pc := 2080) (j := 1) dL_law_2080 rfl rfl ?_
        refine Y_iload (pc := 2081) (j := 6) dL_law_2081 rfl ?_
        refine Y_iconst (pc := 2083) (v := (2 : Int32)) dL_law_2083 rfl ?_
        refine Y_iadd (pc := 2084) dL_law_2084 ?_
        obtain ⟨hb89, h⟩ := okE h
        refine Y_sald (pc := 2085) dL_law_2085 (lk_0 hPy95) rfl hb89 ?_
        obtain ⟨y96, qy96, h⟩ := bindE h
        have cy96 := v_X12_guardAt hPy95 qy96
        refine C_V2r (pc := 2086) (k' := k_X12_guardAt) dL_law_2086 w11_27 i_X12_guardAt (lk_69 hPy95) ⟨Nat.le_of_ble_eq_true rfl, Nat.le_of_ble_eq_true rfl⟩ rfl (Nat.le_of_ble_eq_true rfl) (Nat.le_of_ble_eq_true rfl) (Nat.le_of_ble_eq_true rfl) (cy96) ?_
        have hPy96 := cy96.1.1
        refine Y_istore (pc := 2089) (lv1 := [(7, .int y96.1), (6, .int y95.1), (0, .ref 0), (1, .ref 1), (2, .ref 69), (3, .ref 127), (4, .ref 128), (5, .int x5)]) dL_law_2089 (by decide) rfl ?_
        refine Y_aload_n (pc := 2091) (j := 4) dL_law_2091 rfl rfl ?_
        obtain ⟨y97, qy97, h⟩ := bindE h
        have cy97 := v_X12_thrown hPy96 qy97
        refine C_V0r (pc := 2092) (k' := k_X12_thrown) dL_law_2092 w9_102 i_X12_thrown (lk_69 hPy96) ⟨Nat.le_of_ble_eq_true rfl, Nat.le_of_ble_eq_true rfl⟩ rfl (Nat.le_of_ble_eq_true rfl) (Nat.le_of_ble_eq_true rfl) (Nat.le_of_ble_eq_true rfl) (cy97) ?_
        have hPy97 := cy97.1.1
        refine Y_iload (pc := 2095) (j := 1) dL_law_2095 rfl ?_
        refine Y_icmp_eq (pc := 2097) (tgt := 2102) dL_law_2097 (by decide) (fun hc91 => ?_) (fun hc91 => ?_)
        · replace h := ifT hc91 h
          refine Y_iload (pc := 2102) (j := 1) dL_law_2102 rfl ?_
          refine Y_if_ne (pc := 2104) (tgt := 2119) dL_law_2104 (by decide) (fun hc92 => ?_) (fun hc92 => ?_)
          · replace h := ifF hc92 h
            refine VV.sub [2, 3, 4, 5, 6, 7] rfl ?_
            exact b_L_law_2119 hk28 hPy97 h
          · replace h := ifT hc92 h
            refine Y_aload_n (pc := 2107) (j := 5) dL_law_2107 rfl rfl ?_
            refine Y_iconst (pc := 2108) (v := (0 : Int32)) dL_law_2108 rfl ?_
            refine Y_lald (pc := 2109) dL_law_2109 (lk_127 hPy97) (ln_127 hPy97) (vp_lit (by decide)) ?_
            refine Y_iload (pc := 2110) (j := 0) dL_law_2110 rfl ?_
            refine Y_i2l (pc := 2112) dL_law_2112 ?_
            refine Y_lcmp (pc := 2113) dL_law_2113 ?_
            refine Y_if_eq (pc := 2114) (tgt := 2119) dL_law_2114 (by decide) (fun hc93 => ?_) (fun hc93 => ?_)
            · replace h := ifT hc93 h
              refine VV.sub [2, 3, 4, 5, 6, 7] rfl ?_
              exact b_L_law_2119 hk28 hPy97 h
            · replace h := ifF hc93 h
              refine Y_iconst (pc := 2117) (v := (0 : Int32)) dL_law_2117 rfl ?_
              cases h
              exact Y_iret (pc := 2118) rfl (nar_bo (by decide)) dL_law_2118 hPy97 ⟨rfl, rfl⟩
        · replace h := ifF hc91 h
          refine Y_iconst (pc := 2100) (v := (0 : Int32)) dL_law_2100 rfl ?_
          cases h
          exact Y_iret (pc := 2101) rfl (nar_bo (by decide)) dL_law_2101 hPy97 ⟨rfl, rfl⟩
      · intro e9
        replace h := ifF (by rw [e9] <;> decide) h
        replace h := ifF (by rw [e9] <;> decide) h
        replace h := ifF (by rw [e9] <;> decide) h
        replace h := ifF (by rw [e9] <;> decide) h
        replace h := ifF (by rw [e9] <;> decide) h
        replace h := ifF (by rw [e9] <;> decide) h
        replace h := ifF (by rw [e9] <;> decide) h
        replace h := ifF (by rw [e9] <;> decide) h
        replace h := ifF (by rw [e9] <;> decide) h
        replace h := ifF (by rw [e9] <;> decide) h
        replace h := ifF (by rw [e9] <;> decide) h
        replace h := ifF (by rw [e9] <;> decide) h
        replace h := ifF (by rw [e9] <;> decide) h
        replace h := ifF (by rw [e9] <;> decide) h
        replace h := ifF (by rw [e9] <;> decide) h
        replace h := ifF (by rw [e9] <;> decide) h
        replace h := ifF (by rw [e9] <;> decide) h
        replace h := ifF (by rw [e9] <;> decide) h
        replace h := ifF (by rw [e9] <;> decide) h
        replace h := ifF (by rw [e9] <;> decide) h
        replace h := ifF (by rw [e9] <;> decide) h
        replace h := ifF (by rw [e9] <;> decide) h
        replace h := ifF (by rw [e9] <;> decide) h
        replace h := ifF (by rw [e9] <;> decide) h
        replace h := ifF (by rw [e9] <;> decide) h
        replace h := ifF (by rw [e9] <;> decide) h
        replace h := ifF (by rw [e9] <;> decide) h
        replace h := ifF (by rw [e9] <;> decide) h
        replace h := ifF (by rw [e9] <;> decide) h
        replace h := ifF (by rw [e9] <;> decide) h
        replace h := ifF (by rw [e9] <;> decide) h
        replace h := ifF (by rw [e9] <;> decide) h
        replace h := ifF (by rw [e9] <;> decide) h
        replace h := ifF (by rw [e9] <;> decide) h
        replace h := ifT (by rw [e9] <;> decide) h
        refine Y_aload_n (pc := 2122) (j := 1) dL_law_2122 rfl rfl ?_
        refine Y_aload_n (pc := 2123) (j := 0) dL_law_2123 rfl rfl ?_
        refine Y_iload (pc := 2124) (j := 5) dL_law_2124 rfl ?_
        refine Y_iconst (pc := 2126) (v := (1 : Int32)) dL_law_2126 rfl ?_
        refine Y_iadd (pc := 2127) dL_law_2127 ?_
        obtain ⟨hb90, h⟩ := okE h
        refine Y_sald (pc := 2128) dL_law_2128 (lk_0 hP) rfl hb90 ?_
        refine Y_aload_n (pc := 2129) (j := 0) dL_law_2129 rfl rfl ?_
        refine Y_iload (pc := 2130) (j := 5) dL_law_2130 rfl ?_
        refine Y_iconst (pc := 2132) (v := (2 : Int32)) dL_law_2132 rfl ?_
        refine Y_iadd (pc := 2133) dL_law_2133 ?_
        obtain ⟨hb91, h⟩ := okE h
        refine Y_sald (pc := 2134) dL_law_2134 (lk_0 hP) rfl hb91 ?_
        refine Y_aload_n (pc := 2135) (j := 3) dL_law_2135 rfl rfl ?_
        obtain ⟨y98, qy98, h⟩ := bindE h
        have cy98 := v_L_guardStep hP qy98
        refine C_S4r (pc := 2136) (k' := k_L_guardStep) dL_law_2136 w7_224 i_L_guardStep (Nat.le_of_ble_eq_true rfl) (Nat.le_of_ble_eq_true rfl) (Nat.le_of_ble_eq_true rfl) (cy98) ?_
        have hPy98 := cy98.1.1
        refine Y_istore (pc := 2139) (lv1 := [(6, .int y98.1), (0, .ref 0), (1, .ref 1), (2, .ref 69), (3, .ref 127), (4, .ref 128), (5, .int x5)]) dL_law_2139 (by decide) rfl ?_
        refine Y_aload_n (pc := 2141) (j := 3) dL_law_2141 rfl rfl ?_
        refine Y_aload_n (pc := 2142) (j := 1) dL_law_2142 rfl rfl ?_
        refine Y_iload (pc := 2143) (j := 6) dL_law_2143 rfl ?_
        refine Y_iconst (pc := 2145) (v := (1 : Int32)) dL_law_2145 rfl ?_
        refine Y_iadd (pc := 2146) dL_law_2146 ?_
        obtain ⟨hb92, h⟩ := okE h
        refine Y_sald (pc := 2147) dL_law_2147 (lk_0 hPy98) rfl hb92 ?_
        refine Y_aload_n (pc := 2148) (j := 1) dL_law_2148 rfl rfl ?_
        refine Y_iload (pc := 2149) (j := 6) dL_law_2149 rfl ?_
        refine Y_iconst (pc := 2151) (v := (2 : Int32)) dL_law_2151 rfl ?_
        refine Y_iadd (pc := 2152) dL_law_2152 ?_
        obtain ⟨hb93, h⟩ := okE h
        refine Y_sald (pc := 2153) dL_law_2153 (lk_0 hPy98) rfl hb93 ?_
        obtain ⟨y99, qy99, h⟩ := bindE h
        have cy99 := v_X12_guardStep hPy98 qy99
        refine C_V2r (pc := 2154) (k' := k_X12_guardStep) dL_law_2154 w11_35 i_X12_guardStep (lk_69 hPy98) ⟨Nat.le_of_ble_eq_true rfl, Nat.le_of_ble_eq_true rfl⟩ rfl (Nat.le_of_ble_eq_true rfl) (Nat.le_of_ble_eq_true rfl) (Nat.le_of_ble_eq_true rfl) (cy99) ?_
        have hPy99 := cy99.1.1
        refine Y_istore (pc := 2157) (lv1 := [(7, .int y99.1), (6, .int y98.1), (0, .ref 0), (1, .ref 1), (2, .ref 69), (3, .ref 127), (4, .ref 128), (5, .int x5)]) dL_law_2157 (by decide) rfl ?_
        refine Y_aload_n (pc := 2159) (j := 4) dL_law_2159 rfl rfl ?_
        obtain ⟨y100, qy100, h⟩ := bindE h
        have cy100 := v_X12_thrown hPy99 qy100
        refine C_V0r (pc := 2160) (k' := k_X12_thrown) dL_law_2160 w9_102 i_X12_thrown (lk_69 hPy99) ⟨Nat.le_of_ble_eq_true rfl, Nat.le_of_ble_eq_true rfl⟩ rfl (Nat.le_of_ble_eq_true rfl) (Nat.le_of_ble_eq_true rfl) (Nat.le_of_ble_eq_true rfl) (cy100) ?_
        have hPy100 := cy100.1.1
        refine Y_iload (pc := 2163) (j := 1) dL_law_2163 rfl ?_
        refine Y_icmp_eq (pc := 2165) (tgt := 2170) dL_law_2165 (by decide) (fun hc94 => ?_) (fun hc94 => ?_)
        · replace h := ifT hc94 h
          refine Y_iload (pc := 2170) (j := 1) dL_law_2170 rfl ?_
          refine Y_if_ne (pc := 2172) (tgt := 2187) dL_law_2172 (by decide) (fun hc95 => ?_) (fun hc95 => ?_)
          · replace h := ifF hc95 h
            refine VV.sub [2, 3, 4, 5, 6, 7] rfl ?_
            exact b_L_law_2187 hk28 hPy100 h
          · replace h := ifT hc95 h
            refine Y_aload_n (pc := 2175) (j := 5) dL_law_2175 rfl rfl ?_
            refine Y_iconst (pc := 2176) (v := (0 : Int32)) dL_law_2176 rfl ?_
            refine Y_lald (pc := 2177) dL_law_2177 (lk_127 hPy100) (ln_127 hPy100) (vp_lit (by decide)) ?_
            refine Y_iload (pc := 2178) (j := 0) dL_law_2178 rfl ?_
            refine Y_i2l (pc := 2180) dL_law_2180 ?_
            refine Y_lcmp (pc := 2181) dL_law_2181 ?_
            refine Y_if_eq (pc := 2182) (tgt := 2187) dL_law_2182 (by decide) (fun hc96 => ?_) (fun hc96 => ?_)
            · replace h := ifT hc96 h
              refine VV.sub [2, 3, 4, 5, 6, 7] rfl ?_
              exact b_L_law_2187 hk28 hPy100 h
            · replace h := ifF hc96 h
              refine Y_iconst (pc := 2185) (v := (0 : Int32)) dL_law_2185 rfl ?_
              cases h
              exact Y_iret (pc := 2186) rfl (nar_bo (by decide)) dL_law_2186 hPy100 ⟨rfl, rfl⟩
        · replace h := ifF hc94 h
          refine Y_iconst (pc := 2168) (v := (0 : Int32)) dL_law_2168 rfl ?_
          cases h
          exact Y_iret (pc := 2169) rfl (nar_bo (by decide)) dL_law_2169 hPy100 ⟨rfl, rfl⟩
      · intro e9
        replace h := ifF (by rw [e9] <;> decide) h
        replace h := ifF (by rw [e9] <;> decide) h
        replace h := ifF (by rw [e9] <;> decide) h
        replace h := ifF (by rw [e9] <;> decide) h
        replace h := ifF (by rw [e9] <;> decide) h
        replace h := ifF (by rw [e9] <;> decide) h
        replace h := ifF (by rw [e9] <;> decide) h
        replace h := ifF (by rw [e9] <;> decide) h
        replace h := ifF (by rw [e9] <;> decide) h
        replace h := ifF (by rw [e9] <;> decide) h
        replace h := ifF (by rw [e9] <;> decide) h
        replace h := ifF (by rw [e9] <;> decide) h
        replace h := ifF (by rw [e9] <;> decide) h
        replace h := ifF (by rw [e9] <;> decide) h
        replace h := ifF (by rw [e9] <;> decide) h
        replace h := ifF (by rw [e9] <;> decide) h
        replace h := ifF (by rw [e9] <;> decide) h
        replace h := ifF (by rw [e9] <;> decide) h
        replace h := ifF (by rw [e9] <;> decide) h
        replace h := ifF (by rw [e9] <;> decide) h
        replace h := ifF (by rw [e9] <;> decide) h
        replace h := ifF (by rw [e9] <;> decide) h
        replace h := ifF (by rw [e9] <;> decide) h
        replace h := ifF (by rw [e9] <;> decide) h
        replace h := ifF (by rw [e9] <;> decide) h
        replace h := ifF (by rw [e9] <;> decide) h
        replace h := ifF (by rw [e9] <;> decide) h
        replace h := ifF (by rw [e9] <;> decide) h
        replace h := ifF (by rw [e9] <;> decide) h
        replace h := ifF (by rw [e9] <;> decide) h
        replace h := ifF (by rw [e9] <;> decide) h
        replace h := ifF (by rw [e9] <;> decide) h
        replace h := ifF (by rw [e9] <;> decide) h
        replace h := ifF (by rw [e9] <;> decide) h
        replace h := ifF (by rw [e9] <;> decide) h
        replace h := ifT (by rw [e9] <;> decide) h
        refine Y_aload_n (pc := 2190) (j := 1) dL_law_2190 rfl rfl ?_
        refine Y_aload_n (pc := 2191) (j := 0) dL_law_2191 rfl rfl ?_
        refine Y_iload (pc := 2192) (j := 5) dL_law_2192 rfl ?_
        refine Y_iconst (pc := 2194) (v := (1 : Int32)) dL_law_2194 rfl ?_
        refine Y_iadd (pc := 2195) dL_law_2195 ?_
        obtain ⟨hb94, h⟩ := okE h
        refine Y_sald (pc := 2196) dL_law_2196 (lk_0 hP) rfl hb94 ?_
        refine Y_aload_n (pc := 2197) (j := 0) dL_law_2197 rfl rfl ?_
        refine Y_iload (pc := 2198) (j := 5) dL_law_2198 rfl ?_
        refine Y_iconst (pc := 2200) (v := (2 : Int32)) dL_law_2200 rfl ?_
        refine Y_iadd (pc := 2201) dL_law_2201 ?_
        obtain ⟨hb95, h⟩ := okE h
        refine Y_sald (pc := 2202) dL_law_2202 (lk_0 hP) rfl hb95 ?_
        refine Y_aload_n (pc := 2203) (j := 3) dL_law_2203 rfl rfl ?_
        obtain ⟨y101, qy101, h⟩ := bindE h
        have cy101 := v_L_exits hP qy101
        refine C_S4r (pc := 2204) (k' := k_L_exits) dL_law_2204 w7_231 i_L_exits (Nat.le_of_ble_eq_true rfl) (Nat.le_of_ble_eq_true rfl) (Nat.le_of_ble_eq_true rfl) (cy101) ?_
        have hPy101 := cy101.1.1
        refine Y_istore (pc := 2207) (lv1 := [(6, .int y101.1), (0, .ref 0), (1, .ref 1), (2, .ref 69), (3, .ref 127), (4, .ref 128), (5, .int x5)]) dL_law_2207 (by decide) rfl ?_
        refine Y_aload_n (pc := 2209) (j := 3) dL_law_2209 rfl rfl ?_
        refine Y_aload_n (pc := 2210) (j := 1) dL_law_2210 rfl rfl ?_
        refine Y_iload (pc := 2211) (j := 6) dL_law_2211 rfl ?_
        refine Y_iconst (pc := 2213) (v := (1 : Int32)) dL_law_2213 rfl ?_
        refine Y_iadd (pc := 2214) dL_law_2214 ?_
        obtain ⟨hb96, h⟩ := okE h
        refine Y_sald (pc := 2215) dL_law_2215 (lk_0 hPy101) rfl hb96 ?_
        refine Y_aload_n (pc := 2216) (j := 1) dL_law_2216 rfl rfl ?_
        refine Y_iload (pc := 2217) (j := 6) dL_law_2217 rfl ?_
        refine Y_iconst (pc := 2219) (v := (2 : Int32)) dL_law_2219 rfl ?_
        refine Y_iadd (pc := 2220) dL_law_2220 ?_
        obtain ⟨hb97, h⟩ := okE h
        refine Y_sald (pc := 2221) dL_law_2221 (lk_0 hPy101) rfl hb97 ?_
        obtain ⟨y102, qy102, h⟩ := bindE h
        have cy102 := v_X12_exits hPy101 qy102
        refine C_V2r (pc := 2222) (k' := k_X12_exits) dL_law_2222 w11_39 i_X12_exits (lk_69 hPy101) ⟨Nat.le_of_ble_eq_true rfl, Nat.le_of_ble_eq_true rfl⟩ rfl (Nat.le_of_ble_eq_true rfl) (Nat.le_of_ble_eq_true rfl) (Nat.le_of_ble_eq_true rfl) (cy102) ?_
        have hPy102 := cy102.1.1
        refine Y_istore (pc := 2225) (lv1 := [(7, .int y102.1), (6, .int y101.1), (0, .ref 0), (1, .ref 1), (2, .ref 69), (3, .ref 127), (4, .ref 128), (5, .int x5)]) dL_law_2225 (by decide) rfl ?_
        refine Y_aload_n (pc := 2227) (j := 4) dL_law_2227 rfl rfl ?_
        obtain ⟨y103, qy103, h⟩ := bindE h
        have cy103 := v_X12_thrown hPy102 qy103
        refine C_V0r (pc := 2228) (k' := k_X12_thrown) dL_law_2228 w9_102 i_X12_thrown (lk_69 hPy102) ⟨Nat.le_of_ble_eq_true rfl, Nat.le_of_ble_eq_true rfl⟩ rfl (Nat.le_of_ble_eq_true rfl) (Nat.le_of_ble_eq_true rfl) (Nat.le_of_ble_eq_true rfl) (cy103) ?_
        have hPy103 := cy103.1.1
        refine Y_iload (pc := 2231) (j := 1) dL_law_2231 rfl ?_
        refine Y_icmp_eq (pc := 2233) (tgt := 2238) dL_law_2233 (by decide) (fun hc97 => ?_) (fun hc97 => ?_)
        · replace h := ifT hc97 h
          refine Y_iload (pc := 2238) (j := 1) dL_law_2238 rfl ?_
          refine Y_if_ne (pc := 2240) (tgt := 2255) dL_law_2240 (by decide) (fun hc98 => ?_) (fun hc98 => ?_)
          · replace h := ifF hc98 h
            refine VV.sub [2, 3, 4, 5, 6, 7] rfl ?_
            exact b_L_law_2255 hk28 hPy103 h
          · replace h := ifT hc98 h
            refine Y_aload_n (pc := 2243) (j := 5) dL_law_2243 rfl rfl ?_
            refine Y_iconst (pc := 2244) (v := (0 : Int32)) dL_law_2244 rfl ?_
            refine Y_lald (pc := 2245) dL_law_2245 (lk_127 hPy103) (ln_127 hPy103) (vp_lit (by decide)) ?_
            refine Y_iload (pc := 2246) (j := 0) dL_law_2246 rfl ?_
            refine Y_i2l (pc := 2248) dL_law_2248 ?_
            refine Y_lcmp (pc := 2249) dL_law_2249 ?_
            refine Y_if_eq (pc := 2250) (tgt := 2255) dL_law_2250 (by decide) (fun hc99 => ?_) (fun hc99 => ?_)
            · replace h := ifT hc99 h
              refine VV.sub [2, 3, 4, 5, 6, 7] rfl ?_
              exact b_L_law_2255 hk28 hPy103 h
            · replace h := ifF hc99 h
              refine Y_iconst (pc := 2253) (v := (0 : Int32)) dL_law_2253 rfl ?_
              cases h
              exact Y_iret (pc := 2254) rfl (nar_bo (by decide)) dL_law_2254 hPy103 ⟨rfl, rfl⟩
        · replace h := ifF hc97 h
          refine Y_iconst (pc := 2236) (v := (0 : Int32)) dL_law_2236 rfl ?_
          cases h
          exact Y_iret (pc := 2237) rfl (nar_bo (by decide)) dL_law_2237 hPy103 ⟨rfl, rfl⟩
      · intro e9
        replace h := ifF (by rw [e9] <;> decide) h
        replace h := ifF (by rw [e9] <;> decide) h
        replace h := ifF (by rw [e9] <;> decide) h
        replace h := ifF (by rw [e9] <;> decide) h
        replace h := ifF (by rw [e9] <;> decide) h
        replace h := ifF (by rw [e9] <;> decide) h
        replace h := ifF (by rw [e9] <;> decide) h
        replace h := ifF (by rw [e9] <;> decide) h
        replace h := ifF (by rw [e9] <;> decide) h
        replace h := ifF (by rw [e9] <;> decide) h
        replace h := ifF (by rw [e9] <;> decide) h
        replace h := ifF (by rw [e9] <;> decide) h
        replace h := ifF (by rw [e9] <;> decide) h
        replace h := ifF (by rw [e9] <;> decide) h
        replace h := ifF (by rw [e9] <;> decide) h
        replace h := ifF (by rw [e9] <;> decide) h
        replace h := ifF (by rw [e9] <;> decide) h
        replace h := ifF (by rw [e9] <;> decide) h
        replace h := ifF (by rw [e9] <;> decide) h
        replace h := ifF (by rw [e9] <;> decide) h
        replace h := ifF (by rw [e9] <;> decide) h
        replace h := ifF (by rw [e9] <;> decide) h
        replace h := ifF (by rw [e9] <;> decide) h
        replace h := ifF (by rw [e9] <;> decide) h
        replace h := ifF (by rw [e9] <;> decide) h
        replace h := ifF (by rw [e9] <;> decide) h
        replace h := ifF (by rw [e9] <;> decide) h
        replace h := ifF (by rw [e9] <;> decide) h
        replace h := ifF (by rw [e9] <;> decide) h
        replace h := ifF (by rw [e9] <;> decide) h
        replace h := ifF (by rw [e9] <;> decide) h
        replace h := ifF (by rw [e9] <;> decide) h
        replace h := ifF (by rw [e9] <;> decide) h
        replace h := ifF (by rw [e9] <;> decide) h
        replace h := ifF (by rw [e9] <;> decide) h
        replace h := ifF (by rw [e9] <;> decide) h
        replace h := ifT (by rw [e9] <;> decide) h
        refine Y_aload_n (pc := 2258) (j := 1) dL_law_2258 rfl rfl ?_
        refine Y_aload_n (pc := 2259) (j := 0) dL_law_2259 rfl rfl ?_
        refine Y_iload (pc := 2260) (j := 5) dL_law_2260 rfl ?_
        refine Y_iconst (pc := 2262) (v := (1 : Int32)) dL_law_2262 rfl ?_
        refine Y_iadd (pc := 2263) dL_law_2263 ?_
        obtain ⟨hb98, h⟩ := okE h
        refine Y_sald (pc := 2264) dL_law_2264 (lk_0 hP) rfl hb98 ?_
        refine Y_aload_n (pc := 2265) (j := 0) dL_law_2265 rfl rfl ?_
        refine Y_iload (pc := 2266) (j := 5) dL_law_2266 rfl ?_
        refine Y_iconst (pc := 2268) (v := (2 : Int32)) dL_law_2268 rfl ?_
        refine Y_iadd (pc := 2269) dL_law_2269 ?_
        obtain ⟨hb99, h⟩ := okE h
        refine Y_sald (pc := 2270) dL_law_2270 (lk_0 hP) rfl hb99 ?_
        refine Y_aload_n (pc := 2271) (j := 3) dL_law_2271 rfl rfl ?_
        obtain ⟨y104, qy104, h⟩ := bindE h
        have cy104 := v_L_sideOf hP qy104
        refine C_S4r (pc := 2272) (k' := k_L_sideOf) dL_law_2272 w7_238 i_L_sideOf (Nat.le_of_ble_eq_true rfl) (Nat.le_of_ble_eq_true rfl) (Nat.le_of_ble_eq_true rfl) (cy104) ?_
        have hPy104 := cy104.1.1
        refine Y_istore (pc := 2275) (lv1 := [(6, .int y104.1), (0, .ref 0), (1, .ref 1), (2, .ref 69), (3, .ref 127), (4, .ref 128), (5, .int x5)]) dL_law_2275 (by decide) rfl ?_
        refine Y_aload_n (pc := 2277) (j := 3) dL_law_2277 rfl rfl ?_
        refine Y_aload_n (pc := 2278) (j := 1) dL_law_2278 rfl rfl ?_
        refine Y_iload (pc := 2279) (j := 6) dL_law_2279 rfl ?_
        refine Y_iconst (pc := 2281) (v := (1 : Int32)) dL_law_2281 rfl ?_
        refine Y_iadd (pc := 2282) dL_law_2282 ?_
        obtain ⟨hb100, h⟩ := okE h
        refine Y_sald (pc := 2283) dL_law_2283 (lk_0 hPy104) rfl hb100 ?_
        refine Y_aload_n (pc := 2284) (j := 1) dL_law_2284 rfl rfl ?_
        refine Y_iload (pc := 2285) (j := 6) dL_law_2285 rfl ?_
        refine Y_iconst (pc := 2287) (v := (2 : Int32)) dL_law_2287 rfl ?_
        refine Y_iadd (pc := 2288) dL_law_2288 ?_
        obtain ⟨hb101, h⟩ := okE h
        refine Y_sald (pc := 2289) dL_law_2289 (lk_0 hPy104) rfl hb101 ?_
        obtain ⟨y105, qy105, h⟩ := bindE h
        have cy105 := v_X12_sideOf hPy104 qy105
        refine C_V2r (pc := 2290) (k' := k_X12_sideOf) dL_law_2290 w11_43 i_X12_sideOf (lk_69 hPy104) ⟨Nat.le_of_ble_eq_true rfl, Nat.le_of_ble_eq_true rfl⟩ rfl (Nat.le_of_ble_eq_true rfl) (Nat.le_of_ble_eq_true rfl) (Nat.le_of_ble_eq_true rfl) (cy105) ?_
        have hPy105 := cy105.1.1
        refine Y_istore (pc := 2293) (lv1 := [(7, .int y105.1), (6, .int y104.1), (0, .ref 0), (1, .ref 1), (2, .ref 69), (3, .ref 127), (4, .ref 128), (5, .int x5)]) dL_law_2293 (by decide) rfl ?_
        refine Y_aload_n (pc := 2295) (j := 4) dL_law_2295 rfl rfl ?_
        obtain ⟨y106, qy106, h⟩ := bindE h
        have cy106 := v_X12_thrown hPy105 qy106
        refine C_V0r (pc := 2296) (k' := k_X12_thrown) dL_law_2296 w9_102 i_X12_thrown (lk_69 hPy105) ⟨Nat.le_of_ble_eq_true rfl, Nat.le_of_ble_eq_true rfl⟩ rfl (Nat.le_of_ble_eq_true rfl) (Nat.le_of_ble_eq_true rfl) (Nat.le_of_ble_eq_true rfl) (cy106) ?_
        have hPy106 := cy106.1.1
        refine Y_iload (pc := 2299) (j := 1) dL_law_2299 rfl ?_
        refine Y_icmp_eq (pc := 2301) (tgt := 2306) dL_law_2301 (by decide) (fun hc100 => ?_) (fun hc100 => ?_)
        · replace h := ifT hc100 h
          refine Y_iload (pc := 2306) (j := 1) dL_law_2306 rfl ?_
          refine Y_if_ne (pc := 2308) (tgt := 2323) dL_law_2308 (by decide) (fun hc101 => ?_) (fun hc101 => ?_)
          · replace h := ifF hc101 h
            refine VV.sub [2, 3, 4, 5, 6, 7] rfl ?_
            exact b_L_law_2323 hk28 hPy106 h
          · replace h := ifT hc101 h
            refine Y_aload_n (pc := 2311) (j := 5) dL_law_2311 rfl rfl ?_
            refine Y_iconst (pc := 2312) (v := (0 : Int32)) dL_law_2312 rfl ?_
            refine Y_lald (pc := 2313) dL_law_2313 (lk_127 hPy106) (ln_127 hPy106) (vp_lit (by decide)) ?_
            refine Y_iload (pc := 2314) (j := 0) dL_law_2314 rfl ?_
            refine Y_i2l (pc := 2316) dL_law_2316 ?_
            refine Y_lcmp (pc := 2317) dL_law_2317 ?_
            refine Y_if_eq (pc := 2318) (tgt := 2323) dL_law_2318 (by decide) (fun hc102 => ?_) (fun hc102 => ?_)
            · replace h := ifT hc102 h
              refine VV.sub [2, 3, 4, 5, 6, 7] rfl ?_
              exact b_L_law_2323 hk28 hPy106 h
            · replace h := ifF hc102 h
              refine Y_iconst (pc := 2321) (v := (0 : Int32)) dL_law_2321 rfl ?_
              cases h
              exact Y_iret (pc := 2322) rfl (nar_bo (by decide)) dL_law_2322 hPy106 ⟨rfl, rfl⟩
        · replace h := ifF hc100 h
          refine Y_iconst (pc := 2304) (v := (0 : Int32)) dL_law_2304 rfl ?_
          cases h
          exact Y_iret (pc := 2305) rfl (nar_bo (by decide)) dL_law_2305 hPy106 ⟨rfl, rfl⟩
      · intro e9
        replace h := ifF (by rw [e9] <;> decide) h
        replace h := ifF (by rw [e9] <;> decide) h
        replace h := ifF (by rw [e9] <;> decide) h
        replace h := ifF (by rw [e9] <;> decide) h
        replace h := ifF (by rw [e9] <;> decide) h
        replace h := ifF (by rw [e9] <;> decide) h
        replace h := ifF (by rw [e9] <;> decide) h
        replace h := ifF (by rw [e9] <;> decide) h
        replace h := ifF (by rw [e9] <;> decide) h
        replace h := ifF (by rw [e9] <;> decide) h
        replace h := ifF (by rw [e9] <;> decide) h
        replace h := ifF (by rw [e9] <;> decide) h
        replace h := ifF (by rw [e9] <;> decide) h
        replace h := ifF (by rw [e9] <;> decide) h
        replace h := ifF (by rw [e9] <;> decide) h
        replace h := ifF (by rw [e9] <;> decide) h
        replace h := ifF (by rw [e9] <;> decide) h
        replace h := ifF (by rw [e9] <;> decide) h
        replace h := ifF (by rw [e9] <;> decide) h
        replace h := ifF (by rw [e9] <;> decide) h
        replace h := ifF (by rw [e9] <;> decide) h
        replace h := ifF (by rw [e9] <;> decide) h
        replace h := ifF (by rw [e9] <;> decide) h
        replace h := ifF (by rw [e9] <;> decide) h
        replace h := ifF (by rw [e9] <;> decide) h
        replace h := ifF (by rw [e9] <;> decide) h
        replace h := ifF (by rw [e9] <;> decide) h
        replace h := ifF (by rw [e9] <;> decide) h
        replace h := ifF (by rw [e9] <;> decide) h
        replace h := ifF (by rw [e9] <;> decide) h
        replace h := ifF (by rw [e9] <;> decide) h
        replace h := ifF (by rw [e9] <;> decide) h
        replace h := ifF (by rw [e9] <;> decide) h
        replace h := ifF (by rw [e9] <;> decide) h
        replace h := ifF (by rw [e9] <;> decide) h
        replace h := ifF (by rw [e9] <;> decide) h
        replace h := ifF (by rw [e9] <;> decide) h
        replace h := ifT (by rw [e9] <;> decide) h
        refine Y_aload_n (pc := 2326) (j := 1) dL_law_2326 rfl rfl ?_
        refine Y_aload_n (pc := 2327) (j := 0) dL_law_2327 rfl rfl ?_
        refine Y_iload (pc := 2328) (j := 5) dL_law_2328 rfl ?_
        refine Y_iconst (pc := 2330) (v := (1 : Int32)) dL_law_2330 rfl ?_
        refine Y_iadd (pc := 2331) dL_law_2331 ?_
        obtain ⟨hb102, h⟩ := okE h
        refine Y_sald (pc := 2332) dL_law_2332 (lk_0 hP) rfl hb102 ?_
        refine Y_aload_n (pc := 2333) (j := 3) dL_law_2333 rfl rfl ?_
        obtain ⟨y107, qy107, h⟩ := bindE h
        have cy107 := v_L_rootOf hP qy107
        refine C_S3r (pc := 2334) (k' := k_L_rootOf) dL_law_2334 w8_6 i_L_rootOf (Nat.le_of_ble_eq_true rfl) (Nat.le_of_ble_eq_true rfl) (Nat.le_of_ble_eq_true rfl) (cy107) ?_
        have hPy107 := cy107.1.1
        refine Y_istore (pc := 2337) (lv1 := [(6, .int y107.1), (0, .ref 0), (1, .ref 1), (2, .ref 69), (3, .ref 127), (4, .ref 128), (5, .int x5)]) dL_law_2337 (by decide) rfl ?_
        refine Y_aload_n (pc := 2339) (j := 3) dL_law_2339 rfl rfl ?_
        refine Y_aload_n (pc := 2340) (j := 1) dL_law_2340 rfl rfl ?_
        refine Y_iload (pc := 2341) (j := 6) dL_law_2341 rfl ?_
        refine Y_iconst (pc := 2343) (v := (1 : Int32)) dL_law_2343 rfl ?_
        refine Y_iadd (pc := 2344) dL_law_2344 ?_
        obtain ⟨hb103, h⟩ := okE h
        refine Y_sald (pc := 2345) dL_law_2345 (lk_0 hPy107) rfl hb103 ?_
        obtain ⟨y108, qy108, h⟩ := bindE h
        have cy108 := v_X12_rootOf hPy107 qy108
        refine C_V1r (pc := 2346) (k' := k_X12_rootOf) dL_law_2346 w11_47 i_X12_rootOf (lk_69 hPy107) ⟨Nat.le_of_ble_eq_true rfl, Nat.le_of_ble_eq_true rfl⟩ rfl (Nat.le_of_ble_eq_true rfl) (Nat.le_of_ble_eq_true rfl) (Nat.le_of_ble_eq_true rfl) (cy108) ?_
        have hPy108 := cy108.1.1
        refine Y_istore (pc := 2349) (lv1 := [(7, .int y108.1), (6, .int y107.1), (0, .ref 0), (1, .ref 1), (2, .ref 69), (3, .ref 127), (4, .ref 128), (5, .int x5)]) dL_law_2349 (by decide) rfl ?_
        refine Y_aload_n (pc := 2351) (j := 4) dL_law_2351 rfl rfl ?_
        obtain ⟨y109, qy109, h⟩ := bindE h
        have cy109 := v_X12_thrown hPy108 qy109
        refine C_V0r (pc := 2352) (k' := k_X12_thrown) dL_law_2352 w9_102 i_X12_thrown (lk_69 hPy108) ⟨Nat.le_of_ble_eq_true rfl, Nat.le_of_ble_eq_true rfl⟩ rfl (Nat.le_of_ble_eq_true rfl) (Nat.le_of_ble_eq_true rfl) (Nat.le_of_ble_eq_true rfl) (cy109) ?_
        have hPy109 := cy109.1.1
        refine Y_iload (pc := 2355) (j := 1) dL_law_2355 rfl ?_
        refine Y_icmp_eq (pc := 2357) (tgt := 2362) dL_law_2357 (by decide) (fun hc103 => ?_) (fun hc103 => ?_)
        · replace h := ifT hc103 h
          refine Y_iload (pc := 2362) (j := 1) dL_law_2362 rfl ?_
          refine Y_if_ne (pc := 2364) (tgt := 2379) dL_law_2364 (by decide) (fun hc104 => ?_) (fun hc104 => ?_)
          · replace h := ifF hc104 h
            refine VV.sub [2, 3, 4, 5, 6, 7] rfl ?_
            exact b_L_law_2379 hk28 hPy109 h
          · replace h := ifT hc104 h
            refine Y_aload_n (pc := 2367) (j := 5) dL_law_2367 rfl rfl ?_
            refine Y_iconst (pc := 2368) (v := (0 : Int32)) dL_law_2368 rfl ?_
            refine Y_lald (pc := 2369) dL_law_2369 (lk_127 hPy109) (ln_127 hPy109) (vp_lit (by decide)) ?_
            refine Y_iload (pc := 2370) (j := 0) dL_law_2370 rfl ?_
            refine Y_i2l (pc := 2372) dL_law_2372 ?_
            refine Y_lcmp (pc := 2373) dL_law_2373 ?_
            refine Y_if_eq (pc := 2374) (tgt := 2379) dL_law_2374 (by decide) (fun hc105 => ?_) (fun hc105 => ?_)
            · replace h := ifT hc105 h
              refine VV.sub [2, 3, 4, 5, 6, 7] rfl ?_
              exact b_L_law_2379 hk28 hPy109 h
            · replace h := ifF hc105 h
              refine Y_iconst (pc := 2377) (v := (0 : Int32)) dL_law_2377 rfl ?_
              cases h
              exact Y_iret (pc := 2378) rfl (nar_bo (by decide)) dL_law_2378 hPy109 ⟨rfl, rfl⟩
        · replace h := ifF hc103 h
          refine Y_iconst (pc := 2360) (v := (0 : Int32)) dL_law_2360 rfl ?_
          cases h
          exact Y_iret (pc := 2361) rfl (nar_bo (by decide)) dL_law_2361 hPy109 ⟨rfl, rfl⟩
      · intro e9
        replace h := ifF (by rw [e9] <;> decide) h
        replace h := ifF (by rw [e9] <;> decide) h
        replace h := ifF (by rw [e9] <;> decide) h
        replace h := ifF (by rw [e9] <;> decide) h
        replace h := ifF (by rw [e9] <;> decide) h
        replace h := ifF (by rw [e9] <;> decide) h
        replace h := ifF (by rw [e9] <;> decide) h
        replace h := ifF (by rw [e9] <;> decide) h
        replace h := ifF (by rw [e9] <;> decide) h
        replace h := ifF (by rw [e9] <;> decide) h
        replace h := ifF (by rw [e9] <;> decide) h
        replace h := ifF (by rw [e9] <;> decide) h
        replace h := ifF (by rw [e9] <;> decide) h
        replace h := ifF (by rw [e9] <;> decide) h
        replace h := ifF (by rw [e9] <;> decide) h
        replace h := ifF (by rw [e9] <;> decide) h
        replace h := ifF (by rw [e9] <;> decide) h
        replace h := ifF (by rw [e9] <;> decide) h
        replace h := ifF (by rw [e9] <;> decide) h
        replace h := ifF (by rw [e9] <;> decide) h
        replace h := ifF (by rw [e9] <;> decide) h
        replace h := ifF (by rw [e9] <;> decide) h
        replace h := ifF (by rw [e9] <;> decide) h
        replace h := ifF (by rw [e9] <;> decide) h
        replace h := ifF (by rw [e9] <;> decide) h
        replace h := ifF (by rw [e9] <;> decide) h
        replace h := ifF (by rw [e9] <;> decide) h
        replace h := ifF (by rw [e9] <;> decide) h
        replace h := ifF (by rw [e9] <;> decide) h
        replace h := ifF (by rw [e9] <;> decide) h
        replace h := ifF (by rw [e9] <;> decide) h
        replace h := ifF (by rw [e9] <;> decide) h
        replace h := ifF (by rw [e9] <;> decide) h
        replace h := ifF (by rw [e9] <;> decide) h
        replace h := ifF (by rw [e9] <;> decide) h
        replace h := ifF (by rw [e9] <;> decide) h
        replace h := ifF (by rw [e9] <;> decide) h
        replace h := ifF (by rw [e9] <;> decide) h
        replace h := ifT (by rw [e9] <;> decide) h
        refine Y_aload_n (pc := 2382) (j := 1) dL_law_2382 rfl rfl ?_
        refine Y_aload_n (pc := 2383) (j := 0) dL_law_2383 rfl rfl ?_
        refine Y_iload (pc := 2384) (j := 5) dL_law_2384 rfl ?_
        refine Y_iconst (pc := 2386) (v := (1 : Int32)) dL_law_2386 rfl ?_
        refine Y_iadd (pc := 2387) dL_law_2387 ?_
        obtain ⟨hb104, h⟩ := okE h
        refine Y_sald (pc := 2388) dL_law_2388 (lk_0 hP) rfl hb104 ?_
        refine Y_aload_n (pc := 2389) (j := 3) dL_law_2389 rfl rfl ?_
        obtain ⟨y110, qy110, h⟩ := bindE h
        have cy110 := v_L_begun hP qy110
        refine C_S3r (pc := 2390) (k' := k_L_begun) dL_law_2390 w8_13 i_L_begun (Nat.le_of_ble_eq_true rfl) (Nat.le_of_ble_eq_true rfl) (Nat.le_of_ble_eq_true rfl) (cy110) ?_
        have hPy110 := cy110.1.1
        refine Y_istore (pc := 2393) (lv1 := [(6, .int y110.1), (0, .ref 0), (1, .ref 1), (2, .ref 69), (3, .ref 127), (4, .ref 128), (5, .int x5)]) dL_law_2393 (by decide) rfl ?_
        refine Y_aload_n (pc := 2395) (j := 3) dL_law_2395 rfl rfl ?_
        refine Y_aload_n (pc := 2396) (j := 1) dL_law_2396 rfl rfl ?_
        refine Y_iload (pc := 2397) (j := 6) dL_law_2397 rfl ?_
        refine Y_iconst (pc := 2399) (v := (1 : Int32)) dL_law_2399 rfl ?_
        refine Y_iadd (pc := 2400) dL_law_2400 ?_
        obtain ⟨hb105, h⟩ := okE h
        refine Y_sald (pc := 2401) dL_law_2401 (lk_0 hPy110) rfl hb105 ?_
        obtain ⟨y111, qy111, h⟩ := bindE h
        have cy111 := v_X12_begun hPy110 qy111
        refine C_V1r (pc := 2402) (k' := k_X12_begun) dL_law_2402 w11_51 i_X12_begun (lk_69 hPy110) ⟨Nat.le_of_ble_eq_true rfl, Nat.le_of_ble_eq_true rfl⟩ rfl (Nat.le_of_ble_eq_true rfl) (Nat.le_of_ble_eq_true rfl) (Nat.le_of_ble_eq_true rfl) (cy111) ?_
        have hPy111 := cy111.1.1
        refine Y_istore (pc := 2405) (lv1 := [(7, .int y111.1), (6, .int y110.1), (0, .ref 0), (1, .ref 1), (2, .ref 69), (3, .ref 127), (4, .ref 128), (5, .int x5)]) dL_law_2405 (by decide) rfl ?_
        refine Y_aload_n (pc := 2407) (j := 4) dL_law_2407 rfl rfl ?_
        obtain ⟨y112, qy112, h⟩ := bindE h
        have cy112 := v_X12_thrown hPy111 qy112
        refine C_V0r (pc := 2408) (k' := k_X12_thrown) dL_law_2408 w9_102 i_X12_thrown (lk_69 hPy111) ⟨Nat.le_of_ble_eq_true rfl, Nat.le_of_ble_eq_true rfl⟩ rfl (Nat.le_of_ble_eq_true rfl) (Nat.le_of_ble_eq_true rfl) (Nat.le_of_ble_eq_true rfl) (cy112) ?_
        have hPy112 := cy112.1.1
        refine Y_iload (pc := 2411) (j := 1) dL_law_2411 rfl ?_
        refine Y_icmp_eq (pc := 2413) (tgt := 2418) dL_law_2413 (by decide) (fun hc106 => ?_) (fun hc106 => ?_)
        · replace h := ifT hc106 h
          refine Y_iload (pc := 2418) (j := 1) dL_law_2418 rfl ?_
          refine Y_if_ne (pc := 2420) (tgt := 2435) dL_law_2420 (by decide) (fun hc107 => ?_) (fun hc107 => ?_)
          · replace h := ifF hc107 h
            refine VV.sub [2, 3, 4, 5, 6, 7] rfl ?_
            exact b_L_law_2435 hk28 hPy112 h
          · replace h := ifT hc107 h
            refine Y_aload_n (pc := 2423) (j := 5) dL_law_2423 rfl rfl ?_
            refine Y_iconst (pc := 2424) (v := (0 : Int32)) dL_law_2424 rfl ?_
            refine Y_lald (pc := 2425) dL_law_2425 (lk_127 hPy112) (ln_127 hPy112) (vp_lit (by decide)) ?_
            refine Y_iload (pc := 2426) (j := 0) dL_law_2426 rfl ?_
            refine Y_i2l (pc := 2428) dL_law_2428 ?_
            refine Y_lcmp (pc := 2429) dL_law_2429 ?_
            refine Y_if_eq (pc := 2430) (tgt := 2435) dL_law_2430 (by decide) (fun hc108 => ?_) (fun hc108 => ?_)
            · replace h := ifT hc108 h
              refine VV.sub [2, 3, 4, 5, 6, 7] rfl ?_
              exact b_L_law_2435 hk28 hPy112 h
            · replace h := ifF hc108 h
              refine Y_iconst (pc := 2433) (v := (0 : Int32)) dL_law_2433 rfl ?_
              cases h
              exact Y_iret (pc := 2434) rfl (nar_bo (by decide)) dL_law_2434 hPy112 ⟨rfl, rfl⟩
        · replace h := ifF hc106 h
          refine Y_iconst (pc := 2416) (v := (0 : Int32)) dL_law_2416 rfl ?_
          cases h
          exact Y_iret (pc := 2417) rfl (nar_bo (by decide)) dL_law_2417 hPy112 ⟨rfl, rfl⟩
      · intro e9
        replace h := ifF (by rw [e9] <;> decide) h
        replace h := ifF (by rw [e9] <;> decide) h
        replace h := ifF (by rw [e9] <;> decide) h
        replace h := ifF (by rw [e9] <;> decide) h
        replace h := ifF (by rw [e9] <;> decide) h
        replace h := ifF (by rw [e9] <;> decide) h
        replace h := ifF (by rw [e9] <;> decide) h
        replace h := ifF (by rw [e9] <;> decide) h
        replace h := ifF (by rw [e9] <;> decide) h
        replace h := ifF (by rw [e9] <;> decide) h
        replace h := ifF (by rw [e9] <;> decide) h
        replace h := ifF (by rw [e9] <;> decide) h
        replace h := ifF (by rw [e9] <;> decide) h
        replace h := ifF (by rw [e9] <;> decide) h
        replace h := ifF (by rw [e9] <;> decide) h
        replace h := ifF (by rw [e9] <;> decide) h
        replace h := ifF (by rw [e9] <;> decide) h
        replace h := ifF (by rw [e9] <;> decide) h
        replace h := ifF (by rw [e9] <;> decide) h
        replace h := ifF (by rw [e9] <;> decide) h
        replace h := ifF (by rw [e9] <;> decide) h
        replace h := ifF (by rw [e9] <;> decide) h
        replace h := ifF (by rw [e9] <;> decide) h
        replace h := ifF (by rw [e9] <;> decide) h
        replace h := ifF (by rw [e9] <;> decide) h
        replace h := ifF (by rw [e9] <;> decide) h
        replace h := ifF (by rw [e9] <;> decide) h
        replace h := ifF (by rw [e9] <;> decide) h
        replace h := ifF (by rw [e9] <;> decide) h
        replace h := ifF (by rw [e9] <;> decide) h
        replace h := ifF (by rw [e9] <;> decide) h
        replace h := ifF (by rw [e9] <;> decide) h
        replace h := ifF (by rw [e9] <;> decide) h
        replace h := ifF (by rw [e9] <;> decide) h
        replace h := ifF (by rw [e9] <;> decide) h
        replace h := ifF (by rw [e9] <;> decide) h
        replace h := ifF (by rw [e9] <;> decide) h
        replace h := ifF (by rw [e9] <;> decide) h
        replace h := ifF (by rw [e9] <;> decide) h
        replace h := ifT (by rw [e9] <;> decide) h
        refine Y_aload_n (pc := 2438) (j := 1) dL_law_2438 rfl rfl ?_
        obtain ⟨y113, qy113, h⟩ := bindE h
        have cy113 := v_X11_inTraces hP qy113
        refine C_V0r (pc := 2439) (k' := k_X11_inTraces) dL_law_2439 w3_91 i_X11_inTraces (lk_1 hP) ⟨Nat.le_of_ble_eq_true rfl, Nat.le_of_ble_eq_true rfl⟩ rfl (Nat.le_of_ble_eq_true rfl) (Nat.le_of_ble_eq_true rfl) (Nat.le_of_ble_eq_true rfl) (cy113) ?_
        have hPy113 := cy113.1.1
        refine Y_aload_n (pc := 2442) (j := 2) dL_law_2442 rfl rfl ?_
        obtain ⟨y114, qy114, h⟩ := bindE h
        have cy114 := v_X12_inTraces hPy113 qy114
        refine C_V0r (pc := 2443) (k' := k_X12_inTraces) dL_law_2443 w11_55 i_X12_inTraces (lk_69 hPy113) ⟨Nat.le_of_ble_eq_true rfl, Nat.le_of_ble_eq_true rfl⟩ rfl (Nat.le_of_ble_eq_true rfl) (Nat.le_of_ble_eq_true rfl) (Nat.le_of_ble_eq_true rfl) (cy114) ?_
        have hPy114 := cy114.1.1
        refine Y_icmp_eq (pc := 2446) (tgt := 2621) dL_law_2446 (by decide) (fun hc109 => ?_) (fun hc109 => ?_)
        · replace h := ifT hc109 h
          refine VV.sub [0, 1, 2, 3, 4, 5] rfl ?_
          exact b_L_law_2621 hk28 hPy114 h
        · replace h := ifF hc109 h
          refine Y_iconst (pc := 2449) (v := (0 : Int32)) dL_law_2449 rfl ?_
          cases h
          exact Y_iret (pc := 2450) rfl (nar_bo (by decide)) dL_law_2450 hPy114 ⟨rfl, rfl⟩
      · intro e9
        replace h := ifF (by rw [e9] <;> decide) h
        replace h := ifF (by rw [e9] <;> decide) h
        replace h := ifF (by rw [e9] <;> decide) h
        replace h := ifF (by rw [e9] <;> decide) h
        replace h := ifF (by rw [e9] <;> decide) h
        replace h := ifF (by rw [e9] <;> decide) h
        replace h := ifF (by rw [e9] <;> decide) h
        replace h := ifF (by rw [e9] <;> decide) h
        replace h := ifF (by rw [e9] <;> decide) h
        replace h := ifF (by rw [e9] <;> decide) h
        replace h := ifF (by rw [e9] <;> decide) h
        replace h := ifF (by rw [e9] <;> decide) h
        replace h := ifF (by rw [e9] <;> decide) h
        replace h := ifF (by rw [e9] <;> decide) h
        replace h := ifF (by rw [e9] <;> decide) h
        replace h := ifF (by rw [e9] <;> decide) h
        replace h := ifF (by rw [e9] <;> decide) h
        replace h := ifF (by rw [e9] <;> decide) h
        replace h := ifF (by rw [e9] <;> decide) h
        replace h := ifF (by rw [e9] <;> decide) h
        replace h := ifF (by rw [e9] <;> decide) h
        replace h := ifF (by rw [e9] <;> decide) h
        replace h := ifF (by rw [e9] <;> decide) h
        replace h := ifF (by rw [e9] <;> decide) h
        replace h := ifF (by rw [e9] <;> decide) h
        replace h := ifF (by rw [e9] <;> decide) h
        replace h := ifF (by rw [e9] <;> decide) h
        replace h := ifF (by rw [e9] <;> decide) h
        replace h := ifF (by rw [e9] <;> decide) h
        replace h := ifF (by rw [e9] <;> decide) h
        replace h := ifF (by rw [e9] <;> decide) h
        replace h := ifF (by rw [e9] <;> decide) h
        replace h := ifF (by rw [e9] <;> decide) h
        replace h := ifF (by rw [e9] <;> decide) h
        replace h := ifF (by rw [e9] <;> decide) h
        replace h := ifF (by rw [e9] <;> decide) h
        replace h := ifF (by rw [e9] <;> decide) h
        replace h := ifF (by rw [e9] <;> decide) h
        replace h := ifF (by rw [e9] <;> decide) h
        replace h := ifF (by rw [e9] <;> decide) h
        replace h := ifT (by rw [e9] <;> decide) h
        refine Y_aload_n (pc := 2451) (j := 1) dL_law_2451 rfl rfl ?_
        obtain ⟨y115, qy115, h⟩ := bindE h
        have cy115 := v_X11_codeSize hP qy115
        refine C_V0r (pc := 2452) (k' := k_X11_codeSize) dL_law_2452 w3_95 i_X11_codeSize (lk_1 hP) ⟨Nat.le_of_ble_eq_true rfl, Nat.le_of_ble_eq_true rfl⟩ rfl (Nat.le_of_ble_eq_true rfl) (Nat.le_of_ble_eq_true rfl) (Nat.le_of_ble_eq_true rfl) (cy115) ?_
        have hPy115 := cy115.1.1
        refine Y_aload_n (pc := 2455) (j := 2) dL_law_2455 rfl rfl ?_
        obtain ⟨y116, qy116, h⟩ := bindE h
        have cy116 := v_X12_codeSize hPy115 qy116
        refine C_V0r (pc := 2456) (k' := k_X12_codeSize) dL_law_2456 w11_59 i_X12_codeSize (lk_69 hPy115) ⟨Nat.le_of_ble_eq_true rfl, Nat.le_of_ble_eq_true rfl⟩ rfl (Nat.le_of_ble_eq_true rfl) (Nat.le_of_ble_eq_true rfl) (Nat.le_of_ble_eq_true rfl) (cy116) ?_
        have hPy116 := cy116.1.1
        refine Y_icmp_eq (pc := 2459) (tgt := 2621) dL_law_2459 (by decide) (fun hc110 => ?_) (fun hc110 => ?_)
        · replace h := ifT hc110 h
          refine VV.sub [0, 1, 2, 3, 4, 5] rfl ?_
          exact b_L_law_2621 hk28 hPy116 h
        · replace h := ifF hc110 h
          refine Y_iconst (pc := 2462) (v := (0 : Int32)) dL_law_2462 rfl ?_
          cases h
          exact Y_iret (pc := 2463) rfl (nar_bo (by decide)) dL_law_2463 hPy116 ⟨rfl, rfl⟩
      · intro e9
        replace h := ifF (by rw [e9] <;> decide) h
        replace h := ifF (by rw [e9] <;> decide) h
        replace h := ifF (by rw [e9] <;> decide) h
        replace h := ifF (by rw [e9] <;> decide) h
        replace h := ifF (by rw [e9] <;> decide) h
        replace h := ifF (by rw [e9] <;> decide) h
        replace h := ifF (by rw [e9] <;> decide) h
        replace h := ifF (by rw [e9] <;> decide) h
        replace h := ifF (by rw [e9] <;> decide) h
        replace h := ifF (by rw [e9] <;> decide) h
        replace h := ifF (by rw [e9] <;> decide) h
        replace h := ifF (by rw [e9] <;> decide) h
        replace h := ifF (by rw [e9] <;> decide) h
        replace h := ifF (by rw [e9] <;> decide) h
        replace h := ifF (by rw [e9] <;> decide) h
        replace h := ifF (by rw [e9] <;> decide) h
        replace h := ifF (by rw [e9] <;> decide) h
        replace h := ifF (by rw [e9] <;> decide) h
        replace h := ifF (by rw [e9] <;> decide) h
        replace h := ifF (by rw [e9] <;> decide) h
        replace h := ifF (by rw [e9] <;> decide) h
        replace h := ifF (by rw [e9] <;> decide) h
        replace h := ifF (by rw [e9] <;> decide) h
        replace h := ifF (by rw [e9] <;> decide) h
        replace h := ifF (by rw [e9] <;> decide) h
        replace h := ifF (by rw [e9] <;> decide) h
        replace h := ifF (by rw [e9] <;> decide) h
        replace h := ifF (by rw [e9] <;> decide) h
        replace h := ifF (by rw [e9] <;> decide) h
        replace h := ifF (by rw [e9] <;> decide) h
        replace h := ifF (by rw [e9] <;> decide) h
        replace h := ifF (by rw [e9] <;> decide) h
        replace h := ifF (by rw [e9] <;> decide) h
        replace h := ifF (by rw [e9] <;> decide) h
        replace h := ifF (by rw [e9] <;> decide) h
        replace h := ifF (by rw [e9] <;> decide) h
        replace h := ifF (by rw [e9] <;> decide) h
        replace h := ifF (by rw [e9] <;> decide) h
        replace h := ifF (by rw [e9] <;> decide) h
        replace h := ifF (by rw [e9] <;> decide) h
        replace h := ifF (by rw [e9] <;> decide) h
        replace h := ifT (by rw [e9] <;> decide) h
        refine Y_aload_n (pc := 2464) (j := 1) dL_law_2464 rfl rfl ?_
        obtain ⟨y117, qy117, h⟩ := bindE h
        have cy117 := v_X11_agrees hP qy117
        refine C_V0r (pc := 2465) (k' := k_X11_agrees) dL_law_2465 w3_103 i_X11_agrees (lk_1 hP) ⟨Nat.le_of_ble_eq_true rfl, Nat.le_of_ble_eq_true rfl⟩ rfl (Nat.le_of_ble_eq_true rfl) (Nat.le_of_ble_eq_true rfl) (Nat.le_of_ble_eq_true rfl) (cy117) ?_
        have hPy117 := cy117.1.1
        refine Y_aload_n (pc := 2468) (j := 2) dL_law_2468 rfl rfl ?_
        obtain ⟨y118, qy118, h⟩ := bindE h
        have cy118 := v_X12_agrees hPy117 qy118
        refine C_V0r (pc := 2469) (k' := k_X12_agrees) dL_law_2469 w11_63 i_X12_agrees (lk_69 hPy117) ⟨Nat.le_of_ble_eq_true rfl, Nat.le_of_ble_eq_true rfl⟩ rfl (Nat.le_of_ble_eq_true rfl) (Nat.le_of_ble_eq_true rfl) (Nat.le_of_ble_eq_true rfl) (cy118) ?_
        have hPy118 := cy118.1.1
        refine Y_icmp_eq (pc := 2472) (tgt := 2621) dL_law_2472 (by decide) (fun hc111 => ?_) (fun hc111 => ?_)
        · replace h := ifT hc111 h
          refine VV.sub [0, 1, 2, 3, 4, 5] rfl ?_
          exact b_L_law_2621 hk28 hPy118 h
        · replace h := ifF hc111 h
          refine Y_iconst (pc := 2475) (v := (0 : Int32)) dL_law_2475 rfl ?_
          cases h
          exact Y_iret (pc := 2476) rfl (nar_bo (by decide)) dL_law_2476 hPy118 ⟨rfl, rfl⟩
      · intro e9
        replace h := ifF (by rw [e9] <;> decide) h
        replace h := ifF (by rw [e9] <;> decide) h
        replace h := ifF (by rw [e9] <;> decide) h
        replace h := ifF (by rw [e9] <;> decide) h
        replace h := ifF (by rw [e9] <;> decide) h
        replace h := ifF (by rw [e9] <;> decide) h
        replace h := ifF (by rw [e9] <;> decide) h
        replace h := ifF (by rw [e9] <;> decide) h
        replace h := ifF (by rw [e9] <;> decide) h
        replace h := ifF (by rw [e9] <;> decide) h
        replace h := ifF (by rw [e9] <;> decide) h
        replace h := ifF (by rw [e9] <;> decide) h
        replace h := ifF (by rw [e9] <;> decide) h
        replace h := ifF (by rw [e9] <;> decide) h
        replace h := ifF (by rw [e9] <;> decide) h
        replace h := ifF (by rw [e9] <;> decide) h
        replace h := ifF (by rw [e9] <;> decide) h
        replace h := ifF (by rw [e9] <;> decide) h
        replace h := ifF (by rw [e9] <;> decide) h
        replace h := ifF (by rw [e9] <;> decide) h
        replace h := ifF (by rw [e9] <;> decide) h
        replace h := ifF (by rw [e9] <;> decide) h
        replace h := ifF (by rw [e9] <;> decide) h
        replace h := ifF (by rw [e9] <;> decide) h
        replace h := ifF (by rw [e9] <;> decide) h
        replace h := ifF (by rw [e9] <;> decide) h
        replace h := ifF (by rw [e9] <;> decide) h
        replace h := ifF (by rw [e9] <;> decide) h
        replace h := ifF (by rw [e9] <;> decide) h
        replace h := ifF (by rw [e9] <;> decide) h
        replace h := ifF (by rw [e9] <;> decide) h
        replace h := ifF (by rw [e9] <;> decide) h
        replace h := ifF (by rw [e9] <;> decide) h
        replace h := ifF (by rw [e9] <;> decide) h
        replace h := ifF (by rw [e9] <;> decide) h
        replace h := ifF (by rw [e9] <;> decide) h
        replace h := ifF (by rw [e9] <;> decide) h
        replace h := ifF (by rw [e9] <;> decide) h
        replace h := ifF (by rw [e9] <;> decide) h
        replace h := ifF (by rw [e9] <;> decide) h
        replace h := ifF (by rw [e9] <;> decide) h
        replace h := ifF (by rw [e9] <;> decide) h
        replace h := ifT (by rw [e9] <;> decide) h
        refine Y_aload_n (pc := 2477) (j := 1) dL_law_2477 rfl rfl ?_
        refine Y_aload (pc := 2478) (j := 4) dL_law_2478 rfl ?_
        obtain ⟨y119, qy119, h⟩ := bindE h
        have cy119 := v_L_tracedShare hP qy119
        refine C_S2r (pc := 2480) (k' := k_L_tracedShare) dL_law_2480 w8_20 i_L_tracedShare (Nat.le_of_ble_eq_true rfl) (Nat.le_of_ble_eq_true rfl) (Nat.le_of_ble_eq_true rfl) (cy119) ?_
        have hPy119 := cy119.1.1
        refine Y_istore (pc := 2483) (lv1 := [(6, .int y119.1), (0, .ref 0), (1, .ref 1), (2, .ref 69), (3, .ref 127), (4, .ref 128), (5, .int x5)]) dL_law_2483 (by decide) rfl ?_
        refine Y_aload_n (pc := 2485) (j := 3) dL_law_2485 rfl rfl ?_
        obtain ⟨y120, qy120, h⟩ := bindE h
        have cy120 := v_X12_tracedShare hPy119 qy120
        refine C_V0r (pc := 2486) (k' := k_X12_tracedShare) dL_law_2486 w11_67 i_X12_tracedShare (lk_69 hPy119) ⟨Nat.le_of_ble_eq_true rfl, Nat.le_of_ble_eq_true rfl⟩ rfl (Nat.le_of_ble_eq_true rfl) (Nat.le_of_ble_eq_true rfl) (Nat.le_of_ble_eq_true rfl) (cy120) ?_
        have hPy120 := cy120.1.1
        refine Y_fstore (pc := 2489) (lv1 := [(7, .float y120.1), (6, .int y119.1), (0, .ref 0), (1, .ref 1), (2, .ref 69), (3, .ref 127), (4, .ref 128), (5, .int x5)]) dL_law_2489 (by decide) rfl ?_
        refine Y_aload_n (pc := 2491) (j := 4) dL_law_2491 rfl rfl ?_
        obtain ⟨y121, qy121, h⟩ := bindE h
        have cy121 := v_X12_thrown hPy120 qy121
        refine C_V0r (pc := 2492) (k' := k_X12_thrown) dL_law_2492 w9_102 i_X12_thrown (lk_69 hPy120) ⟨Nat.le_of_ble_eq_true rfl, Nat.le_of_ble_eq_true rfl⟩ rfl (Nat.le_of_ble_eq_true rfl) (Nat.le_of_ble_eq_true rfl) (Nat.le_of_ble_eq_true rfl) (cy121) ?_
        have hPy121 := cy121.1.1
        refine Y_iload (pc := 2495) (j := 1) dL_law_2495 rfl ?_
        refine Y_icmp_eq (pc := 2497) (tgt := 2502) dL_law_2497 (by decide) (fun hc112 => ?_) (fun hc112 => ?_)
        · replace h := ifT hc112 h
          refine Y_iload (pc := 2502) (j := 1) dL_law_2502 rfl ?_
          refine Y_if_ne (pc := 2504) (tgt := 2540) dL_law_2504 (by decide) (fun hc113 => ?_) (fun hc113 => ?_)
          · replace h := ifF hc113 h
            refine VV.sub [2, 3, 4, 5, 6, 7] rfl ?_
            exact b_L_law_2540 hk28 hPy121 h
          · replace h := ifT hc113 h
            refine Y_aload (pc := 2507) (j := 6) dL_law_2507 rfl ?_
            refine Y_iconst (pc := 2509) (v := (0 : Int32)) dL_law_2509 rfl ?_
            refine Y_dald (pc := 2510) dL_law_2510 (lk_128 hPy121) (ln_128 hPy121) (vp_lit (by decide)) ?_
            refine Y_fload (pc := 2511) (j := 0) dL_law_2511 rfl ?_
            obtain ⟨hb106, h⟩ := okE h
            refine Y_f2d (pc := 2513) dL_law_2513 hb106 ?_
            refine Y_dcmp (pc := 2514) dL_law_2514 ?_
            refine Y_if_eq (pc := 2515) (tgt := 2540) dL_law_2515 (by decide) (fun hc114 => ?_) (fun hc114 => ?_)
            · replace h := ifT hc114 h
              refine VV.sub [2, 3, 4, 5, 6, 7] rfl ?_
              exact b_L_law_2540 hk28 hPy121 h
            · replace h := ifF hc114 h
              refine Y_aload (pc := 2518) (j := 6) dL_law_2518 rfl ?_
              refine Y_iconst (pc := 2520) (v := (0 : Int32)) dL_law_2520 rfl ?_
              refine Y_dald (pc := 2521) dL_law_2521 (lk_128 hPy121) (ln_128 hPy121) (vp_lit (by decide)) ?_
              refine Y_aload (pc := 2522) (j := 6) dL_law_2522 rfl ?_
              refine Y_iconst (pc := 2524) (v := (0 : Int32)) dL_law_2524 rfl ?_
              refine Y_dald (pc := 2525) dL_law_2525 (lk_128 hPy121) (ln_128 hPy121) (vp_lit (by decide)) ?_
              refine Y_dcmp (pc := 2526) dL_law_2526 ?_
              refine Y_if_eq (pc := 2527) (tgt := 2538) dL_law_2527 (by decide) (fun hc115 => ?_) (fun hc115 => ?_)
              · replace h := ifT hc115 h
                refine Y_iconst (pc := 2538) (v := (0 : Int32)) dL_law_2538 rfl ?_
                cases h
                exact Y_iret (pc := 2539) rfl (nar_bo (by decide)) dL_law_2539 hPy121 ⟨rfl, rfl⟩
              · replace h := ifF hc115 h
                refine Y_fload (pc := 2530) (j := 0) dL_law_2530 rfl ?_
                refine Y_fload (pc := 2532) (j := 0) dL_law_2532 rfl ?_
                refine Y_fcmp (pc := 2534) dL_law_2534 ?_
                refine Y_if_ne (pc := 2535) (tgt := 2540) dL_law_2535 (by decide) (fun hc116 => ?_) (fun hc116 => ?_)
                · replace h := ifF hc116 h
                  refine VV.sub [2, 3, 4, 5, 6, 7] rfl ?_
                  exact b_L_law_2540 hk28 hPy121 h
                · replace h := ifT hc116 h
                  refine Y_iconst (pc := 2538) (v := (0 : Int32)) dL_law_2538 rfl ?_
                  cases h
                  exact Y_iret (pc := 2539) rfl (nar_bo (by decide)) dL_law_2539 hPy121 ⟨rfl, rfl⟩
        · replace h := ifF hc112 h
          refine Y_iconst (pc := 2500) (v := (0 : Int32)) dL_law_2500 rfl ?_
          cases h
          exact Y_iret (pc := 2501) rfl (nar_bo (by decide)) dL_law_2501 hPy121 ⟨rfl, rfl⟩
      · intro e9
        replace h := ifF (by rw [e9] <;> decide) h
        replace h := ifF (by rw [e9] <;> decide) h
        replace h := ifF (by rw [e9] <;> decide) h
        replace h := ifF (by rw [e9] <;> decide) h
        replace h := ifF (by rw [e9] <;> decide) h
        replace h := ifF (by rw [e9] <;> decide) h
        replace h := ifF (by rw [e9] <;> decide) h
        replace h := ifF (by rw [e9] <;> decide) h
        replace h := ifF (by rw [e9] <;> decide) h
        replace h := ifF (by rw [e9] <;> decide) h
        replace h := ifF (by rw [e9] <;> decide) h
        replace h := ifF (by rw [e9] <;> decide) h
        replace h := ifF (by rw [e9] <;> decide) h
        replace h := ifF (by rw [e9] <;> decide) h
        replace h := ifF (by rw [e9] <;> decide) h
        replace h := ifF (by rw [e9] <;> decide) h
        replace h := ifF (by rw [e9] <;> decide) h
        replace h := ifF (by rw [e9] <;> decide) h
        replace h := ifF (by rw [e9] <;> decide) h
        replace h := ifF (by rw [e9] <;> decide) h
        replace h := ifF (by rw [e9] <;> decide) h
        replace h := ifF (by rw [e9] <;> decide) h
        replace h := ifF (by rw [e9] <;> decide) h
        replace h := ifF (by rw [e9] <;> decide) h
        replace h := ifF (by rw [e9] <;> decide) h
        replace h := ifF (by rw [e9] <;> decide) h
        replace h := ifF (by rw [e9] <;> decide) h
        replace h := ifF (by rw [e9] <;> decide) h
        replace h := ifF (by rw [e9] <;> decide) h
        replace h := ifF (by rw [e9] <;> decide) h
        replace h := ifF (by rw [e9] <;> decide) h
        replace h := ifF (by rw [e9] <;> decide) h
        replace h := ifF (by rw [e9] <;> decide) h
        replace h := ifF (by rw [e9] <;> decide) h
        replace h := ifF (by rw [e9] <;> decide) h
        replace h := ifF (by rw [e9] <;> decide) h
        replace h := ifF (by rw [e9] <;> decide) h
        replace h := ifF (by rw [e9] <;> decide) h
        replace h := ifF (by rw [e9] <;> decide) h
        replace h := ifF (by rw [e9] <;> decide) h
        replace h := ifF (by rw [e9] <;> decide) h
        replace h := ifF (by rw [e9] <;> decide) h
        replace h := ifF (by rw [e9] <;> decide) h
        replace h := ifT (by rw [e9] <;> decide) h
        refine Y_aload_n (pc := 2543) (j := 1) dL_law_2543 rfl rfl ?_
        refine Y_aload (pc := 2544) (j := 4) dL_law_2544 rfl ?_
        obtain ⟨y122, qy122, h⟩ := bindE h
        have cy122 := v_L_meanGuards hP qy122
        refine C_S2r (pc := 2546) (k' := k_L_meanGuards) dL_law_2546 w8_44 i_L_meanGuards (Nat.le_of_ble_eq_true rfl) (Nat.le_of_ble_eq_true rfl) (Nat.le_of_ble_eq_true rfl) (cy122) ?_
        have hPy122 := cy122.1.1
        refine Y_istore (pc := 2549) (lv1 := [(6, .int y122.1), (0, .ref 0), (1, .ref 1), (2, .ref 69), (3, .ref 127), (4, .ref 128), (5, .int x5)]) dL_law_2549 (by decide) rfl ?_
        refine Y_aload_n (pc := 2551) (j := 3) dL_law_2551 rfl rfl ?_
        obtain ⟨y123, qy123, h⟩ := bindE h
        have cy123 := v_X12_meanGuards hPy122 qy123
        refine C_V0r (pc := 2552) (k' := k_X12_meanGuards) dL_law_2552 w11_71 i_X12_meanGuards (lk_69 hPy122) ⟨Nat.le_of_ble_eq_true rfl, Nat.le_of_ble_eq_true rfl⟩ rfl (Nat.le_of_ble_eq_true rfl) (Nat.le_of_ble_eq_true rfl) (Nat.le_of_ble_eq_true rfl) (cy123) ?_
        have hPy123 := cy123.1.1
        refine Y_dstore (pc := 2555) (lv1 := [(7, .double y123.1), (6, .int y122.1), (0, .ref 0), (1, .ref 1), (2, .ref 69), (3, .ref 127), (4, .ref 128), (5, .int x5)]) dL_law_2555 (by decide) rfl ?_
        refine Y_aload_n (pc := 2557) (j := 4) dL_law_2557 rfl rfl ?_
        obtain ⟨y124, qy124, h⟩ := bindE h
        have cy124 := v_X12_thrown hPy123 qy124
        refine C_V0r (pc := 2558) (k' := k_X12_thrown) dL_law_2558 w9_102 i_X12_thrown (lk_69 hPy123) ⟨Nat.le_of_ble_eq_true rfl, Nat.le_of_ble_eq_true rfl⟩ rfl (Nat.le_of_ble_eq_true rfl) (Nat.le_of_ble_eq_true rfl) (Nat.le_of_ble_eq_true rfl) (cy124) ?_
        have hPy124 := cy124.1.1
        refine Y_iload (pc := 2561) (j := 1) dL_law_2561 rfl ?_
        refine Y_icmp_eq (pc := 2563) (tgt := 2568) dL_law_2563 (by decide) (fun hc117 => ?_) (fun hc117 => ?_)
        · replace h := ifT hc117 h
          refine Y_iload (pc := 2568) (j := 1) dL_law_2568 rfl ?_
          refine Y_if_ne (pc := 2570) (tgt := 2605) dL_law_2570 (by decide) (fun hc118 => ?_) (fun hc118 => ?_)
          · replace h := ifF hc118 h
            refine VV.sub [2, 3, 4, 5, 6, 7] rfl ?_
            exact b_L_law_2605 hk28 hPy124 h
          · replace h := ifT hc118 h
            refine Y_aload (pc := 2573) (j := 6) dL_law_2573 rfl ?_
            refine Y_iconst (pc := 2575) (v := (0 : Int32)) dL_law_2575 rfl ?_
            refine Y_dald (pc := 2576) dL_law_2576 (lk_128 hPy124) (ln_128 hPy124) (vp_lit (by decide)) ?_
            refine Y_dload (pc := 2577) (j := 0) dL_law_2577 rfl ?_
            refine Y_dcmp (pc := 2579) dL_law_2579 ?_
            refine Y_if_eq (pc := 2580) (tgt := 2605) dL_law_2580 (by decide) (fun hc119 => ?_) (fun hc119 => ?_)
            · replace h := ifT hc119 h
              refine VV.sub [2, 3, 4, 5, 6, 7] rfl ?_
              exact b_L_law_2605 hk28 hPy124 h
            · replace h := ifF hc119 h
              refine Y_aload (pc := 2583) (j := 6) dL_law_2583 rfl ?_
              refine Y_iconst (pc := 2585) (v := (0 : Int32)) dL_law_2585 rfl ?_
              refine Y_dald (pc := 2586) dL_law_2586 (lk_128 hPy124) (ln_128 hPy124) (vp_lit (by decide)) ?_
              refine Y_aload (pc := 2587) (j := 6) dL_law_2587 rfl ?_
              refine Y_iconst (pc := 2589) (v := (0 : Int32)) dL_law_2589 rfl ?_
              refine Y_dald (pc := 2590) dL_law_2590 (lk_128 hPy124) (ln_128 hPy124) (vp_lit (by decide)) ?_
              refine Y_dcmp (pc := 2591) dL_law_2591 ?_
              refine Y_if_eq (pc := 2592) (tgt := 2603) dL_law_2592 (by decide) (fun hc120 => ?_) (fun hc120 => ?_)
              · replace h := ifT hc120 h
                refine Y_iconst (pc := 2603) (v := (0 : Int32)) dL_law_2603 rfl ?_
                cases h
                exact Y_iret (pc := 2604) rfl (nar_bo (by decide)) dL_law_2604 hPy124 ⟨rfl, rfl⟩
              · replace h := ifF hc120 h
                refine Y_dload (pc := 2595) (j := 0) dL_law_2595 rfl ?_
                refine Y_dload (pc := 2597) (j := 0) dL_law_2597 rfl ?_
                refine Y_dcmp (pc := 2599) dL_law_2599 ?_
                refine Y_if_ne (pc := 2600) (tgt := 2605) dL_law_2600 (by decide) (fun hc121 => ?_) (fun hc121 => ?_)
                · replace h := ifF hc121 h
                  refine VV.sub [2, 3, 4, 5, 6, 7] rfl ?_
                  exact b_L_law_2605 hk28 hPy124 h
                · replace h := ifT hc121 h
                  refine Y_iconst (pc := 2603) (v := (0 : Int32)) dL_law_2603 rfl ?_
                  cases h
                  exact Y_iret (pc := 2604) rfl (nar_bo (by decide)) dL_law_2604 hPy124 ⟨rfl, rfl⟩
        · replace h := ifF hc117 h
          refine Y_iconst (pc := 2566) (v := (0 : Int32)) dL_law_2566 rfl ?_
          cases h
          exact Y_iret (pc := 2567) rfl (nar_bo (by decide)) dL_law_2567 hPy124 ⟨rfl, rfl⟩
      · intro e9
        replace h := ifF (by rw [e9] <;> decide) h
        replace h := ifF (by rw [e9] <;> decide) h
        replace h := ifF (by rw [e9] <;> decide) h
        replace h := ifF (by rw [e9] <;> decide) h
        replace h := ifF (by rw [e9] <;> decide) h
        replace h := ifF (by rw [e9] <;> decide) h
        replace h := ifF (by rw [e9] <;> decide) h
        replace h := ifF (by rw [e9] <;> decide) h
        replace h := ifF (by rw [e9] <;> decide) h
        replace h := ifF (by rw [e9] <;> decide) h
        replace h := ifF (by rw [e9] <;> decide) h
        replace h := ifF (by rw [e9] <;> decide) h
        replace h := ifF (by rw [e9] <;> decide) h
        replace h := ifF (by rw [e9] <;> decide) h
        replace h := ifF (by rw [e9] <;> decide) h
        replace h := ifF (by rw [e9] <;> decide) h
        replace h := ifF (by rw [e9] <;> decide) h
        replace h := ifF (by rw [e9] <;> decide) h
        replace h := ifF (by rw [e9] <;> decide) h
        replace h := ifF (by rw [e9] <;> decide) h
        replace h := ifF (by rw [e9] <;> decide) h
        replace h := ifF (by rw [e9] <;> decide) h
        replace h := ifF (by rw [e9] <;> decide) h
        replace h := ifF (by rw [e9] <;> decide) h
        replace h := ifF (by rw [e9] <;> decide) h
        replace h := ifF (by rw [e9] <;> decide) h
        replace h := ifF (by rw [e9] <;> decide) h
        replace h := ifF (by rw [e9] <;> decide) h
        replace h := ifF (by rw [e9] <;> decide) h
        replace h := ifF (by rw [e9] <;> decide) h
        replace h := ifF (by rw [e9] <;> decide) h
        replace h := ifF (by rw [e9] <;> decide) h
        replace h := ifF (by rw [e9] <;> decide) h
        replace h := ifF (by rw [e9] <;> decide) h
        replace h := ifF (by rw [e9] <;> decide) h
        replace h := ifF (by rw [e9] <;> decide) h
        replace h := ifF (by rw [e9] <;> decide) h
        replace h := ifF (by rw [e9] <;> decide) h
        replace h := ifF (by rw [e9] <;> decide) h
        replace h := ifF (by rw [e9] <;> decide) h
        replace h := ifF (by rw [e9] <;> decide) h
        replace h := ifF (by rw [e9] <;> decide) h
        replace h := ifF (by rw [e9] <;> decide) h
        replace h := ifF (by rw [e9] <;> decide) h
        replace h := ifT (by rw [e9] <;> decide) h
        refine Y_aload_n (pc := 2608) (j := 1) dL_law_2608 rfl rfl ?_
        obtain ⟨y125, qy125, h⟩ := bindE h
        have cy125 := v_X11_isSound hP qy125
        refine C_V0r (pc := 2609) (k' := k_X11_isSound) dL_law_2609 w3_107 i_X11_isSound (lk_1 hP) ⟨Nat.le_of_ble_eq_true rfl, Nat.le_of_ble_eq_true rfl⟩ rfl (Nat.le_of_ble_eq_true rfl) (Nat.le_of_ble_eq_true rfl) (Nat.le_of_ble_eq_true rfl) (cy125) ?_
        have hPy125 := cy125.1.1
        refine Y_aload_n (pc := 2612) (j := 2) dL_law_2612 rfl rfl ?_
        obtain ⟨y126, qy126, h⟩ := bindE h
        have cy126 := v_X12_isSound hPy125 qy126
        refine C_V0r (pc := 2613) (k' := k_X12_isSound) dL_law_2613 w11_75 i_X12_isSound (lk_69 hPy125) ⟨Nat.le_of_ble_eq_true rfl, Nat.le_of_ble_eq_true rfl⟩ rfl (Nat.le_of_ble_eq_true rfl) (Nat.le_of_ble_eq_true rfl) (Nat.le_of_ble_eq_true rfl) (cy126) ?_
        have hPy126 := cy126.1.1
        refine Y_icmp_eq (pc := 2616) (tgt := 2621) dL_law_2616 (by decide) (fun hc122 => ?_) (fun hc122 => ?_)
        · replace h := ifT hc122 h
          refine VV.sub [0, 1, 2, 3, 4, 5] rfl ?_
          exact b_L_law_2621 hk28 hPy126 h
        · replace h := ifF hc122 h
          refine Y_iconst (pc := 2619) (v := (0 : Int32)) dL_law_2619 rfl ?_
          cases h
          exact Y_iret (pc := 2620) rfl (nar_bo (by decide)) dL_law_2620 hPy126 ⟨rfl, rfl⟩
    · intro n9
      replace h := ifF (xs_no n9 (by decide : ((0 : Int32), 240) ∈ _)) h
      replace h := ifF (xs_no n9 (by decide : ((1 : Int32), 296) ∈ _)) h
      replace h := ifF (xs_no n9 (by decide : ((2 : Int32), 378) ∈ _)) h
      replace h := ifF (xs_no n9 (by decide : ((3 : Int32), 446) ∈ _)) h
      replace h := ifF (xs_no n9 (by decide : ((4 : Int32), 502) ∈ _)) h
      replace h := ifF (xs_no n9 (by decide : ((5 : Int32), 582) ∈ _)) h
      replace h := ifF (xs_no n9 (by decide : ((6 : Int32), 650) ∈ _)) h
      replace h := ifF (xs_no n9 (by decide : ((7 : Int32), 730) ∈ _)) h
      replace h := ifF (xs_no n9 (by decide : ((8 : Int32), 798) ∈ _)) h
      replace h := ifF (xs_no n9 (by decide : ((9 : Int32), 811) ∈ _)) h
      replace h := ifF (xs_no n9 (by decide : ((10 : Int32), 855) ∈ _)) h
      replace h := ifF (xs_no n9 (by decide : ((11 : Int32), 898) ∈ _)) h
      replace h := ifF (xs_no n9 (by decide : ((12 : Int32), 942) ∈ _)) h
      replace h := ifF (xs_no n9 (by decide : ((13 : Int32), 986) ∈ _)) h
      replace h := ifF (xs_no n9 (by decide : ((14 : Int32), 999) ∈ _)) h
      replace h := ifF (xs_no n9 (by decide : ((15 : Int32), 1055) ∈ _)) h
      replace h := ifF (xs_no n9 (by decide : ((16 : Int32), 1110) ∈ _)) h
      replace h := ifF (xs_no n9 (by decide : ((17 : Int32), 1123) ∈ _)) h
      replace h := ifF (xs_no n9 (by decide : ((18 : Int32), 1179) ∈ _)) h
      replace h := ifF (xs_no n9 (by decide : ((19 : Int32), 1246) ∈ _)) h
      replace h := ifF (xs_no n9 (by decide : ((20 : Int32), 1259) ∈ _)) h
      replace h := ifF (xs_no n9 (by decide : ((21 : Int32), 1315) ∈ _)) h
      replace h := ifF (xs_no n9 (by decide : ((22 : Int32), 1383) ∈ _)) h
      replace h := ifF (xs_no n9 (by decide : ((23 : Int32), 1451) ∈ _)) h
      replace h := ifF (xs_no n9 (by decide : ((24 : Int32), 1519) ∈ _)) h
      replace h := ifF (xs_no n9 (by decide : ((25 : Int32), 1587) ∈ _)) h
      replace h := ifF (xs_no n9 (by decide : ((26 : Int32), 1655) ∈ _)) h
      replace h := ifF (xs_no n9 (by decide : ((27 : Int32), 1723) ∈ _)) h
      replace h := ifF (xs_no n9 (by decide : ((28 : Int32), 1798) ∈ _)) h
      replace h := ifF (xs_no n9 (by decide : ((29 : Int32), 1811) ∈ _)) h
      replace h := ifF (xs_no n9 (by decide : ((30 : Int32), 1874) ∈ _)) h
      replace h := ifF (xs_no n9 (by decide : ((31 : Int32), 1930) ∈ _)) h
      replace h := ifF (xs_no n9 (by decide : ((32 : Int32), 1998) ∈ _)) h
      replace h := ifF (xs_no n9 (by decide : ((33 : Int32), 2054) ∈ _)) h
      replace h := ifF (xs_no n9 (by decide : ((34 : Int32), 2122) ∈ _)) h
      replace h := ifF (xs_no n9 (by decide : ((35 : Int32), 2190) ∈ _)) h
      replace h := ifF (xs_no n9 (by decide : ((36 : Int32), 2258) ∈ _)) h
      replace h := ifF (xs_no n9 (by decide : ((37 : Int32), 2326) ∈ _)) h
      replace h := ifF (xs_no n9 (by decide : ((38 : Int32), 2382) ∈ _)) h
      replace h := ifF (xs_no n9 (by decide : ((39 : Int32), 2438) ∈ _)) h
      replace h := ifF (xs_no n9 (by decide : ((40 : Int32), 2451) ∈ _)) h
      replace h := ifF (xs_no n9 (by decide : ((41 : Int32), 2464) ∈ _)) h
      replace h := ifF (xs_no n9 (by decide : ((42 : Int32), 2477) ∈ _)) h
      replace h := ifF (xs_no n9 (by decide : ((43 : Int32), 2543) ∈ _)) h
      replace h := ifF (xs_no n9 (by decide : ((44 : Int32), 2608) ∈ _)) h
      refine VV.sub [0, 1, 2, 3, 4, 5] rfl ?_
      exact b_L_law_2621 hk28 hP h
end VCR

