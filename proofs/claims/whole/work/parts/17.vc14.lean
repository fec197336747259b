/-! ===== what the methods reckon (printed by a program) ===== -/
section VCR
noncomputable def d_L_addFunction (x1 : Int32) (M : Mem) : Option (Int32 × Mem) :=
  (d_X11_addFunction x1 M).bind fun y1 => match y1 with
  | (.inl y1, N1) => (
    bnd (sL N1 127 0 (y1.toInt64)) fun M1 =>
    some ((0 : Int32), M1))
  | (.inr E1, N1) => (
    if E1 = "java/lang/IllegalArgumentException" then (
      some ((1 : Int32), N1))
    else if E1 = "java/lang/IllegalStateException" then (
      some ((2 : Int32), N1))
    else none)
theorem b_L_addFunction {x1 : Int32} {M z} (hP : Lay M) (h : d_L_addFunction x1 M = some z) : VV Lay k_L_addFunction 0 [(0, .ref 1), (1, .int x1), (2, .ref 127)] [] M z.2 (Qv (some (.int z.1)) z.2) xF := by
  unfold d_L_addFunction at h
  refine Y_aload_n (pc := 0) (j := 2) dL_addFunction_0 rfl rfl ?_
  refine Y_iconst (pc := 1) (v := (0 : Int32)) dL_addFunction_1 rfl ?_
  refine Y_aload_n (pc := 2) (j := 0) dL_addFunction_2 rfl rfl ?_
  refine Y_iload_n (pc := 3) (j := 1) dL_addFunction_3 rfl rfl ?_
  obtain ⟨y1, qy1, h⟩ := bindE h
  have cy1 := v_X11_addFunction hP qy1
  have hPN1 := cy1.1.1
  obtain ⟨y1 | E1, N1⟩ := y1
  · replace h := id h
    refine C_V1r (k' := k_X11_addFunction) dL_addFunction_4 w3_124 i_X11_addFunction (lk_1 hP) ⟨Nat.le_of_ble_eq_true rfl, Nat.le_of_ble_eq_true rfl⟩ rfl (Nat.le_of_ble_eq_true rfl) (Nat.le_of_ble_eq_true rfl) (Nat.le_of_ble_eq_true rfl) (cy1.mono id (QSl rfl) (XSl rfl)) ?_
    refine Y_i2l (pc := 7) dL_addFunction_7 ?_
    refine Y_last (pc := 8) dL_addFunction_8 (lk_127 hPN1) (ln_127 hPN1) (vp_lit (by decide)) ?_
    obtain ⟨M1, eM1, h⟩ := bndE h
    refine VV.mem eM1 ?_
    have hP1 := hPN1.wL eM1
    refine Y_goto (pc := 9) (tgt := 18) dL_addFunction_9 (by decide) ?_
    refine Y_iconst (pc := 18) (v := (0 : Int32)) dL_addFunction_18 rfl ?_
    cases h
    exact Y_iret (pc := 19) rfl rfl dL_addFunction_19 hP1 ⟨rfl, rfl⟩
  · replace h := id h
    by_cases hc0 : E1 = "java/lang/IllegalArgumentException"
    · replace h := ifT hc0 h
      subst hc0
      refine C_V1x (k' := k_X11_addFunction) dL_addFunction_4 w3_124 i_X11_addFunction (lk_1 hP) ⟨Nat.le_of_ble_eq_true rfl, Nat.le_of_ble_eq_true rfl⟩ rfl (Nat.le_of_ble_eq_true rfl) (Nat.le_of_ble_eq_true rfl) (Nat.le_of_ble_eq_true rfl) (cy1.mono id (QSr rfl) (XSr rfl)) ?_
      refine Y_catch_n (E := "java/lang/IllegalArgumentException") (i := 3) (pre := []) (suf := [(0, 9, 15, 15)]) (lv1 := [(0, .ref 1), (1, .int x1), (2, .ref 127)]) rfl hp_nil (by decide) (by decide) w3_122 (List.mem_of_getElem? (i := 1) rfl) dL_addFunction_12 rfl (by decide) rfl ?_
      refine Y_iconst (pc := 13) (v := (1 : Int32)) dL_addFunction_13 rfl ?_
      cases h
      exact Y_iret (pc := 14) rfl rfl dL_addFunction_14 hPN1 ⟨rfl, rfl⟩
    replace h := ifF hc0 h
    by_cases hc1 : E1 = "java/lang/IllegalStateException"
    · replace h := ifT hc1 h
      subst hc1
      refine C_V1x (k' := k_X11_addFunction) dL_addFunction_4 w3_124 i_X11_addFunction (lk_1 hP) ⟨Nat.le_of_ble_eq_true rfl, Nat.le_of_ble_eq_true rfl⟩ rfl (Nat.le_of_ble_eq_true rfl) (Nat.le_of_ble_eq_true rfl) (Nat.le_of_ble_eq_true rfl) (cy1.mono id (QSr rfl) (XSr rfl)) ?_
      refine Y_catch_n (E := "java/lang/IllegalStateException") (i := 3) (pre := [(0, 9, 12, 13)]) (suf := []) (lv1 := [(0, .ref 1), (1, .int x1), (2, .ref 127)]) rfl (hp_cons (by decide) w3_122 (List.mem_of_getElem? (i := 0) rfl) hp_nil) (by decide) (by decide) w3_123 (List.mem_of_getElem? (i := 8) rfl) dL_addFunction_15 rfl (by decide) rfl ?_
      refine Y_iconst (pc := 16) (v := (2 : Int32)) dL_addFunction_16 rfl ?_
      cases h
      exact Y_iret (pc := 17) rfl rfl dL_addFunction_17 hPN1 ⟨rfl, rfl⟩
    replace h := ifF hc1 h
    cases h
theorem v_L_addFunction {x1 : Int32} {M z} (hP : Lay M) (h : d_L_addFunction x1 M = some z) : CC Lay k_L_addFunction [.ref 1, .int x1, .ref 127] M z.2 (Qv (some (.int z.1)) z.2) xF :=
  CC.ofVV (by decide) rfl (Nat.le_of_ble_eq_true rfl) (b_L_addFunction hP h)
noncomputable def d_L_code (x1 : Int32) (x2 : Int32) (x3 : Int32) (M : Mem) : Option (Int32 × Mem) :=
  (d_X11_code x1 x2 x3 M).bind fun y1 => match y1 with
  | (.inl y1, N1) => (
    bnd (sL N1 127 0 (y1.toInt64)) fun M1 =>
    some ((0 : Int32), M1))
  | (.inr E1, N1) => (
    if E1 = "java/lang/IndexOutOfBoundsException" then (
      some ((1 : Int32), N1))
    else if E1 = "java/lang/IllegalArgumentException" then (
      some ((2 : Int32), N1))
    else if E1 = "java/lang/IllegalStateException" then (
      some ((3 : Int32), N1))
    else none)
theorem b_L_code {x1 : Int32} {x2 : Int32} {x3 : Int32} {M z} (hP : Lay M) (h : d_L_code x1 x2 x3 M = some z) : VV Lay k_L_code 0 [(0, .ref 1), (1, .int x1), (2, .int x2), (3, .int x3), (4, .ref 127)] [] M z.2 (Qv (some (.int z.1)) z.2) xF := by
  unfold d_L_code at h
  refine Y_aload (pc := 0) (j := 4) dL_code_0 rfl ?_
  refine Y_iconst (pc := 2) (v := (0 : Int32)) dL_code_2 rfl ?_
  refine Y_aload_n (pc := 3) (j := 0) dL_code_3 rfl rfl ?_
  refine Y_iload_n (pc := 4) (j := 1) dL_code_4 rfl rfl ?_
  refine Y_iload_n (pc := 5) (j := 2) dL_code_5 rfl rfl ?_
  refine Y_iload_n (pc := 6) (j := 3) dL_code_6 rfl rfl ?_
  obtain ⟨y1, qy1, h⟩ := bindE h
  have cy1 := v_X11_code hP qy1
  have hPN1 := cy1.1.1
  obtain ⟨y1 | E1, N1⟩ := y1
  · replace h := id h
    refine C_V3r (k' := k_X11_code) dL_code_7 w4_7 i_X11_code (lk_1 hP) ⟨Nat.le_of_ble_eq_true rfl, Nat.le_of_ble_eq_true rfl⟩ rfl (Nat.le_of_ble_eq_true rfl) (Nat.le_of_ble_eq_true rfl) (Nat.le_of_ble_eq_true rfl) (cy1.mono id (QSl rfl) (XSl rfl)) ?_
    refine Y_i2l (pc := 10) dL_code_10 ?_
    refine Y_last (pc := 11) dL_code_11 (lk_127 hPN1) (ln_127 hPN1) (vp_lit (by decide)) ?_
    obtain ⟨M1, eM1, h⟩ := bndE h
    refine VV.mem eM1 ?_
    have hP1 := hPN1.wL eM1
    refine Y_goto (pc := 12) (tgt := 27) dL_code_12 (by decide) ?_
    refine Y_iconst (pc := 27) (v := (0 : Int32)) dL_code_27 rfl ?_
    cases h
    exact Y_iret (pc := 28) rfl rfl dL_code_28 hP1 ⟨rfl, rfl⟩
  · replace h := id h
    by_cases hc0 : E1 = "java/lang/IndexOutOfBoundsException"
    · replace h := ifT hc0 h
      subst hc0
      refine C_V3x (k' := k_X11_code) dL_code_7 w4_7 i_X11_code (lk_1 hP) ⟨Nat.le_of_ble_eq_true rfl, Nat.le_of_ble_eq_true rfl⟩ rfl (Nat.le_of_ble_eq_true rfl) (Nat.le_of_ble_eq_true rfl) (Nat.le_of_ble_eq_true rfl) (cy1.mono id (QSr rfl) (XSr rfl)) ?_
      refine Y_catch (E := "java/lang/IndexOutOfBoundsException") (i := 5) (pre := []) (suf := [(0, 12, 19, 13), (0, 12, 23, 15)]) (lv1 := [(0, .ref 1), (1, .int x1), (2, .int x2), (3, .int x3), (4, .ref 127)]) rfl hp_nil (by decide) (by decide) w3_223 (List.mem_of_getElem? (i := 12) rfl) dL_code_15 (by decide) rfl ?_
      refine Y_iconst (pc := 17) (v := (1 : Int32)) dL_code_17 rfl ?_
      cases h
      exact Y_iret (pc := 18) rfl rfl dL_code_18 hPN1 ⟨rfl, rfl⟩
    replace h := ifF hc0 h
    by_cases hc1 : E1 = "java/lang/IllegalArgumentException"
    · replace h := ifT hc1 h
      subst hc1
      refine C_V3x (k' := k_X11_code) dL_code_7 w4_7 i_X11_code (lk_1 hP) ⟨Nat.le_of_ble_eq_true rfl, Nat.le_of_ble_eq_true rfl⟩ rfl (Nat.le_of_ble_eq_true rfl) (Nat.le_of_ble_eq_true rfl) (Nat.le_of_ble_eq_true rfl) (cy1.mono id (QSr rfl) (XSr rfl)) ?_
      refine Y_catch (E := "java/lang/IllegalArgumentException") (i := 5) (pre := [(0, 12, 15, 21)]) (suf := [(0, 12, 23, 15)]) (lv1 := [(0, .ref 1), (1, .int x1), (2, .int x2), (3, .int x3), (4, .ref 127)]) rfl (hp_cons (by decide) w3_223 (List.mem_of_getElem? (i := 10) rfl) hp_nil) (by decide) (by decide) w3_122 (List.mem_of_getElem? (i := 1) rfl) dL_code_19 (by decide) rfl ?_
      refine Y_iconst (pc := 21) (v := (2 : Int32)) dL_code_21 rfl ?_
      cases h
      exact Y_iret (pc := 22) rfl rfl dL_code_22 hPN1 ⟨rfl, rfl⟩
    replace h := ifF hc1 h
    by_cases hc2 : E1 = "java/lang/IllegalStateException"
    · replace h := ifT hc2 h
      subst hc2
      refine C_V3x (k' := k_X11_code) dL_code_7 w4_7 i_X11_code (lk_1 hP) ⟨Nat.le_of_ble_eq_true rfl, Nat.le_of_ble_eq_true rfl⟩ rfl (Nat.le_of_ble_eq_true rfl) (Nat.le_of_ble_eq_true rfl) (Nat.le_of_ble_eq_true rfl) (cy1.mono id (QSr rfl) (XSr rfl)) ?_
      refine Y_catch (E := "java/lang/IllegalStateException") (i := 5) (pre := [(0, 12, 15, 21), (0, 12, 19, 13)]) (suf := []) (lv1 := [(0, .ref 1), (1, .int x1), (2, .int x2), (3, .int x3), (4, .ref 127)]) rfl (hp_cons (by decide) w3_223 (List.mem_of_getElem? (i := 11) rfl) (hp_cons (by decide) w3_122 (List.mem_of_getElem? (i := 0) rfl) hp_nil)) (by decide) (by decide) w3_123 (List.mem_of_getElem? (i := 8) rfl) dL_code_23 (by decide) rfl ?_
      refine Y_iconst (pc := 25) (v := (3 : Int32)) dL_code_25 rfl ?_
      cases h
      exact Y_iret (pc := 26) rfl rfl dL_code_26 hPN1 ⟨rfl, rfl⟩
    replace h := ifF hc2 h
    cases h
theorem v_L_code {x1 : Int32} {x2 : Int32} {x3 : Int32} {M z} (hP : Lay M) (h : d_L_code x1 x2 x3 M = some z) : CC Lay k_L_code [.ref 1, .int x1, .int x2, .int x3, .ref 127] M z.2 (Qv (some (.int z.1)) z.2) xF :=
  CC.ofVV (by decide) rfl (Nat.le_of_ble_eq_true rfl) (b_L_code hP h)
noncomputable def d_L_setHandler (x1 : Int32) (x2 : Int32) (M : Mem) : Option (Int32 × Mem) :=
  (d_X11_setHandler x1 x2 M).bind fun y1 => match y1 with
  | (.inl y1, N1) => (
    bnd (sL N1 127 0 (y1.toInt64)) fun M1 =>
    some ((0 : Int32), M1))
  | (.inr E1, N1) => (
    if E1 = "java/lang/IndexOutOfBoundsException" then (
      some ((1 : Int32), N1))
    else if E1 = "java/lang/IllegalArgumentException" then (
      some ((2 : Int32), N1))
    else none)
theorem b_L_setHandler {x1 : Int32} {x2 : Int32} {M z} (hP : Lay M) (h : d_L_setHandler x1 x2 M = some z) : VV Lay k_L_setHandler 0 [(0, .ref 1), (1, .int x1), (2, .int x2), (3, .ref 127)] [] M z.2 (Qv (some (.int z.1)) z.2) xF := by
  unfold d_L_setHandler at h
  refine Y_aload_n (pc := 0) (j := 3) dL_setHandler_0 rfl rfl ?_
  refine Y_iconst (pc := 1) (v := (0 : Int32)) dL_setHandler_1 rfl ?_
  refine Y_aload_n (pc := 2) (j := 0) dL_setHandler_2 rfl rfl ?_
  refine Y_iload_n (pc := 3) (j := 1) dL_setHandler_3 rfl rfl ?_
  refine Y_iload_n (pc := 4) (j := 2) dL_setHandler_4 rfl rfl ?_
  obtain ⟨y1, qy1, h⟩ := bindE h
  have cy1 := v_X11_setHandler hP qy1
  have hPN1 := cy1.1.1
  obtain ⟨y1 | E1, N1⟩ := y1
  · replace h := id h
    refine C_V2r (k' := k_X11_setHandler) dL_setHandler_5 w4_138 i_X11_setHandler (lk_1 hP) ⟨Nat.le_of_ble_eq_true rfl, Nat.le_of_ble_eq_true rfl⟩ rfl (Nat.le_of_ble_eq_true rfl) (Nat.le_of_ble_eq_true rfl) (Nat.le_of_ble_eq_true rfl) (cy1.mono id (QSl rfl) (XSl rfl)) ?_
    refine Y_i2l (pc := 8) dL_setHandler_8 ?_
    refine Y_last (pc := 9) dL_setHandler_9 (lk_127 hPN1) (ln_127 hPN1) (vp_lit (by decide)) ?_
    obtain ⟨M1, eM1, h⟩ := bndE h
    refine VV.mem eM1 ?_
    have hP1 := hPN1.wL eM1
    refine Y_goto (pc := 10) (tgt := 21) dL_setHandler_10 (by decide) ?_
    refine Y_iconst (pc := 21) (v := (0 : Int32)) dL_setHandler_21 rfl ?_
    cases h
    exact Y_iret (pc := 22) rfl rfl dL_setHandler_22 hP1 ⟨rfl, rfl⟩
  · replace h := id h
    by_cases hc0 : E1 = "java/lang/IndexOutOfBoundsException"
    · replace h := ifT hc0 h
      subst hc0
      refine C_V2x (k' := k_X11_setHandler) dL_setHandler_5 w4_138 i_X11_setHandler (lk_1 hP) ⟨Nat.le_of_ble_eq_true rfl, Nat.le_of_ble_eq_true rfl⟩ rfl (Nat.le_of_ble_eq_true rfl) (Nat.le_of_ble_eq_true rfl) (Nat.le_of_ble_eq_true rfl) (cy1.mono id (QSr rfl) (XSr rfl)) ?_
      refine Y_catch (E := "java/lang/IndexOutOfBoundsException") (i := 4) (pre := []) (suf := [(0, 10, 17, 13)]) (lv1 := [(0, .ref 1), (1, .int x1), (2, .int x2), (3, .ref 127)]) rfl hp_nil (by decide) (by decide) w3_223 (List.mem_of_getElem? (i := 12) rfl) dL_setHandler_13 (by decide) rfl ?_
      refine Y_iconst (pc := 15) (v := (1 : Int32)) dL_setHandler_15 rfl ?_
      cases h
      exact Y_iret (pc := 16) rfl rfl dL_setHandler_16 hPN1 ⟨rfl, rfl⟩
    replace h := ifF hc0 h
    by_cases hc1 : E1 = "java/lang/IllegalArgumentException"
    · replace h := ifT hc1 h
      subst hc1
      refine C_V2x (k' := k_X11_setHandler) dL_setHandler_5 w4_138 i_X11_setHandler (lk_1 hP) ⟨Nat.le_of_ble_eq_true rfl, Nat.le_of_ble_eq_true rfl⟩ rfl (Nat.le_of_ble_eq_true rfl) (Nat.le_of_ble_eq_true rfl) (Nat.le_of_ble_eq_true rfl) (cy1.mono id (QSr rfl) (XSr rfl)) ?_
      refine Y_catch (E := "java/lang/IllegalArgumentException") (i := 4) (pre := [(0, 10, 13, 21)]) (suf := []) (lv1 := [(0, .ref 1), (1, .int x1), (2, .int x2), (3, .ref 127)]) rfl (hp_cons (by decide) w3_223 (List.mem_of_getElem? (i := 10) rfl) hp_nil) (by decide) (by decide) w3_122 (List.mem_of_getElem? (i := 1) rfl) dL_setHandler_17 (by decide) rfl ?_
      refine Y_iconst (pc := 19) (v := (2 : Int32)) dL_setHandler_19 rfl ?_
      cases h
      exact Y_iret (pc := 20) rfl rfl dL_setHandler_20 hPN1 ⟨rfl, rfl⟩
    replace h := ifF hc1 h
    cases h
theorem v_L_setHandler {x1 : Int32} {x2 : Int32} {M z} (hP : Lay M) (h : d_L_setHandler x1 x2 M = some z) : CC Lay k_L_setHandler [.ref 1, .int x1, .int x2, .ref 127] M z.2 (Qv (some (.int z.1)) z.2) xF :=
  CC.ofVV (by decide) rfl (Nat.le_of_ble_eq_true rfl) (b_L_setHandler hP h)
noncomputable def d_L_addClass (x1 : Int32) (M : Mem) : Option (Int32 × Mem) :=
  (d_X11_addClass x1 M).bind fun y1 => match y1 with
  | (.inl y1, N1) => (
    bnd (sL N1 127 0 (y1.toInt64)) fun M1 =>
    some ((0 : Int32), M1))
  | (.inr E1, N1) => (
    if E1 = "java/lang/IndexOutOfBoundsException" then (
      some ((1 : Int32), N1))
    else if E1 = "java/lang/IllegalStateException" then (
      some ((2 : Int32), N1))
    else if E1 = "java/lang/UnsupportedOperationException" then (
      some ((3 : Int32), N1))
    else none)
theorem b_L_addClass {x1 : Int32} {M z} (hP : Lay M) (h : d_L_addClass x1 M = some z) : VV Lay k_L_addClass 0 [(0, .ref 1), (1, .int x1), (2, .ref 127)] [] M z.2 (Qv (some (.int z.1)) z.2) xF := by
  unfold d_L_addClass at h
  refine Y_aload_n (pc := 0) (j := 2) dL_addClass_0 rfl rfl ?_
  refine Y_iconst (pc := 1) (v := (0 : Int32)) dL_addClass_1 rfl ?_
  refine Y_aload_n (pc := 2) (j := 0) dL_addClass_2 rfl rfl ?_
  refine Y_iload_n (pc := 3) (j := 1) dL_addClass_3 rfl rfl ?_
  obtain ⟨y1, qy1, h⟩ := bindE h
  have cy1 := v_X11_addClass hP qy1
  have hPN1 := cy1.1.1
  obtain ⟨y1 | E1, N1⟩ := y1
  · replace h := id h
    refine C_V1r (k' := k_X11_addClass) dL_addClass_4 w4_151 i_X11_addClass (lk_1 hP) ⟨Nat.le_of_ble_eq_true rfl, Nat.le_of_ble_eq_true rfl⟩ rfl (Nat.le_of_ble_eq_true rfl) (Nat.le_of_ble_eq_true rfl) (Nat.le_of_ble_eq_true rfl) (cy1.mono id (QSl rfl) (XSl rfl)) ?_
    refine Y_i2l (pc := 7) dL_addClass_7 ?_
    refine Y_last (pc := 8) dL_addClass_8 (lk_127 hPN1) (ln_127 hPN1) (vp_lit (by decide)) ?_
    obtain ⟨M1, eM1, h⟩ := bndE h
    refine VV.mem eM1 ?_
    have hP1 := hPN1.wL eM1
    refine Y_goto (pc := 9) (tgt := 21) dL_addClass_9 (by decide) ?_
    refine Y_iconst (pc := 21) (v := (0 : Int32)) dL_addClass_21 rfl ?_
    cases h
    exact Y_iret (pc := 22) rfl rfl dL_addClass_22 hP1 ⟨rfl, rfl⟩
  · replace h := id h
    by_cases hc0 : E1 = "java/lang/IndexOutOfBoundsException"
    · replace h := ifT hc0 h
      subst hc0
      refine C_V1x (k' := k_X11_addClass) dL_addClass_4 w4_151 i_X11_addClass (lk_1 hP) ⟨Nat.le_of_ble_eq_true rfl, Nat.le_of_ble_eq_true rfl⟩ rfl (Nat.le_of_ble_eq_true rfl) (Nat.le_of_ble_eq_true rfl) (Nat.le_of_ble_eq_true rfl) (cy1.mono id (QSr rfl) (XSr rfl)) ?_
      refine Y_catch_n (E := "java/lang/IndexOutOfBoundsException") (i := 3) (pre := []) (suf := [(0, 9, 15, 15), (0, 9, 18, 30)]) (lv1 := [(0, .ref 1), (1, .int x1), (2, .ref 127)]) rfl hp_nil (by decide) (by decide) w3_223 (List.mem_of_getElem? (i := 12) rfl) dL_addClass_12 rfl (by decide) rfl ?_
      refine Y_iconst (pc := 13) (v := (1 : Int32)) dL_addClass_13 rfl ?_
      cases h
      exact Y_iret (pc := 14) rfl rfl dL_addClass_14 hPN1 ⟨rfl, rfl⟩
    replace h := ifF hc0 h
    by_cases hc1 : E1 = "java/lang/IllegalStateException"
    · replace h := ifT hc1 h
      subst hc1
      refine C_V1x (k' := k_X11_addClass) dL_addClass_4 w4_151 i_X11_addClass (lk_1 hP) ⟨Nat.le_of_ble_eq_true rfl, Nat.le_of_ble_eq_true rfl⟩ rfl (Nat.le_of_ble_eq_true rfl) (Nat.le_of_ble_eq_true rfl) (Nat.le_of_ble_eq_true rfl) (cy1.mono id (QSr rfl) (XSr rfl)) ?_
      refine Y_catch_n (E := "java/lang/IllegalStateException") (i := 3) (pre := [(0, 9, 12, 21)]) (suf := [(0, 9, 18, 30)]) (lv1 := [(0, .ref 1), (1, .int x1), (2, .ref 127)]) rfl (hp_cons (by decide) w3_223 (List.mem_of_getElem? (i := 11) rfl) hp_nil) (by decide) (by decide) w3_123 (List.mem_of_getElem? (i := 8) rfl) dL_addClass_15 rfl (by decide) rfl ?_
      refine Y_iconst (pc := 16) (v := (2 : Int32)) dL_addClass_16 rfl ?_
      cases h
      exact Y_iret (pc := 17) rfl rfl dL_addClass_17 hPN1 ⟨rfl, rfl⟩
    replace h := ifF hc1 h
    by_cases hc2 : E1 = "java/lang/UnsupportedOperationException"
    · replace h := ifT hc2 h
      subst hc2
      refine C_V1x (k' := k_X11_addClass) dL_addClass_4 w4_151 i_X11_addClass (lk_1 hP) ⟨Nat.le_of_ble_eq_true rfl, Nat.le_of_ble_eq_true rfl⟩ rfl (Nat.le_of_ble_eq_true rfl) (Nat.le_of_ble_eq_true rfl) (Nat.le_of_ble_eq_true rfl) (cy1.mono id (QSr rfl) (XSr rfl)) ?_
      refine Y_catch_n (E := "java/lang/UnsupportedOperationException") (i := 3) (pre := [(0, 9, 12, 21), (0, 9, 15, 15)]) (suf := []) (lv1 := [(0, .ref 1), (1, .int x1), (2, .ref 127)]) rfl (hp_cons (by decide) w3_223 (List.mem_of_getElem? (i := 12) rfl) (hp_cons (by decide) w3_123 (List.mem_of_getElem? (i := 7) rfl) hp_nil)) (by decide) (by decide) w4_150 (List.mem_of_getElem? (i := 14) rfl) dL_addClass_18 rfl (by decide) rfl ?_
      refine Y_iconst (pc := 19) (v := (3 : Int32)) dL_addClass_19 rfl ?_
      cases h
      exact Y_iret (pc := 20) rfl rfl dL_addClass_20 hPN1 ⟨rfl, rfl⟩
    replace h := ifF hc2 h
    cases h
theorem v_L_addClass {x1 : Int32} {M z} (hP : Lay M) (h : d_L_addClass x1 M = some z) : CC Lay k_L_addClass [.ref 1, .int x1, .ref 127] M z.2 (Qv (some (.int z.1)) z.2) xF :=
  CC.ofVV (by decide) rfl (Nat.le_of_ble_eq_true rfl) (b_L_addClass hP h)
noncomputable def d_L_setMethod (x1 : Int32) (x2 : Int32) (x3 : Int32) (M : Mem) : Option (Int32 × Mem) :=
  (d_X11_setMethod x1 x2 x3 M).bind fun y1 => match y1 with
  | (.inl y1, N1) => (
    bnd (sL N1 127 0 (y1.toInt64)) fun M1 =>
    some ((0 : Int32), M1))
  | (.inr E1, N1) => (
    if E1 = "java/lang/IndexOutOfBoundsException" then (
      some ((1 : Int32), N1))
    else if E1 = "java/lang/IllegalArgumentException" then (
      some ((2 : Int32), N1))
    else if E1 = "java/util/NoSuchElementException" then (
      some ((3 : Int32), N1))
    else if E1 = "java/lang/UnsupportedOperationException" then (
      some ((4 : Int32), N1))
    else none)
theorem b_L_setMethod {x1 : Int32} {x2 : Int32} {x3 : Int32} {M z} (hP : Lay M) (h : d_L_setMethod x1 x2 x3 M = some z) : VV Lay k_L_setMethod 0 [(0, .ref 1), (1, .int x1), (2, .int x2), (3, .int x3), (4, .ref 127)] [] M z.2 (Qv (some (.int z.1)) z.2) xF := by
  unfold d_L_setMethod at h
  refine Y_aload (pc := 0) (j := 4) dL_setMethod_0 rfl ?_
  refine Y_iconst (pc := 2) (v := (0 : Int32)) dL_setMethod_2 rfl ?_
  refine Y_aload_n (pc := 3) (j := 0) dL_setMethod_3 rfl rfl ?_
  refine Y_iload_n (pc := 4) (j := 1) dL_setMethod_4 rfl rfl ?_
  refine Y_iload_n (pc := 5) (j := 2) dL_setMethod_5 rfl rfl ?_
  refine Y_iload_n (pc := 6) (j := 3) dL_setMethod_6 rfl rfl ?_
  obtain ⟨y1, qy1, h⟩ := bindE h
  have cy1 := v_X11_setMethod hP qy1
  have hPN1 := cy1.1.1
  obtain ⟨y1 | E1, N1⟩ := y1
  · replace h := id h
    refine C_V3r (k' := k_X11_setMethod) dL_setMethod_7 w4_189 i_X11_setMethod (lk_1 hP) ⟨Nat.le_of_ble_eq_true rfl, Nat.le_of_ble_eq_true rfl⟩ rfl (Nat.le_of_ble_eq_true rfl) (Nat.le_of_ble_eq_true rfl) (Nat.le_of_ble_eq_true rfl) (cy1.mono id (QSl rfl) (XSl rfl)) ?_
    refine Y_i2l (pc := 10) dL_setMethod_10 ?_
    refine Y_last (pc := 11) dL_setMethod_11 (lk_127 hPN1) (ln_127 hPN1) (vp_lit (by decide)) ?_
    obtain ⟨M1, eM1, h⟩ := bndE h
    refine VV.mem eM1 ?_
    have hP1 := hPN1.wL eM1
    refine Y_goto (pc := 12) (tgt := 31) dL_setMethod_12 (by decide) ?_
    refine Y_iconst (pc := 31) (v := (0 : Int32)) dL_setMethod_31 rfl ?_
    cases h
    exact Y_iret (pc := 32) rfl rfl dL_setMethod_32 hP1 ⟨rfl, rfl⟩
  · replace h := id h
    by_cases hc0 : E1 = "java/lang/IndexOutOfBoundsException"
    · replace h := ifT hc0 h
      subst hc0
      refine C_V3x (k' := k_X11_setMethod) dL_setMethod_7 w4_189 i_X11_setMethod (lk_1 hP) ⟨Nat.le_of_ble_eq_true rfl, Nat.le_of_ble_eq_true rfl⟩ rfl (Nat.le_of_ble_eq_true rfl) (Nat.le_of_ble_eq_true rfl) (Nat.le_of_ble_eq_true rfl) (cy1.mono id (QSr rfl) (XSr rfl)) ?_
      refine Y_catch (E := "java/lang/IndexOutOfBoundsException") (i := 5) (pre := []) (suf := [(0, 12, 19, 13), (0, 12, 23, 36), (0, 12, 27, 30)]) (lv1 := [(0, .ref 1), (1, .int x1), (2, .int x2), (3, .int x3), (4, .ref 127)]) rfl hp_nil (by decide) (by decide) w3_223 (List.mem_of_getElem? (i := 12) rfl) dL_setMethod_15 (by decide) rfl ?_
      refine Y_iconst (pc := 17) (v := (1 : Int32)) dL_setMethod_17 rfl ?_
      cases h
      exact Y_iret (pc := 18) rfl rfl dL_setMethod_18 hPN1 ⟨rfl, rfl⟩
    replace h := ifF hc0 h
    by_cases hc1 : E1 = "java/lang/IllegalArgumentException"
    · replace h := ifT hc1 h
      subst hc1
      refine C_V3x (k' := k_X11_setMethod) dL_setMethod_7 w4_189 i_X11_setMethod (lk_1 hP) ⟨Nat.le_of_ble_eq_true rfl, Nat.le_of_ble_eq_true rfl⟩ rfl (Nat.le_of_ble_eq_true rfl) (Nat.le_of_ble_eq_true rfl) (Nat.le_of_ble_eq_true rfl) (cy1.mono id (QSr rfl) (XSr rfl)) ?_
      refine Y_catch (E := "java/lang/IllegalArgumentException") (i := 5) (pre := [(0, 12, 15, 21)]) (suf := [(0, 12, 23, 36), (0, 12, 27, 30)]) (lv1 := [(0, .ref 1), (1, .int x1), (2, .int x2), (3, .int x3), (4, .ref 127)]) rfl (hp_cons (by decide) w3_223 (List.mem_of_getElem? (i := 10) rfl) hp_nil) (by decide) (by decide) w3_122 (List.mem_of_getElem? (i := 1) rfl) dL_setMethod_19 (by decide) rfl ?_
      refine Y_iconst (pc := 21) (v := (2 : Int32)) dL_setMethod_21 rfl ?_
      cases h
      exact Y_iret (pc := 22) rfl rfl dL_setMethod_22 hPN1 ⟨rfl, rfl⟩
    replace h := ifF hc1 h
    by_cases hc2 : E1 = "java/util/NoSuchElementException"
    · replace h := ifT hc2 h
      subst hc2
      refine C_V3x (k' := k_X11_setMethod) dL_setMethod_7 w4_189 i_X11_setMethod (lk_1 hP) ⟨Nat.le_of_ble_eq_true rfl, Nat.le_of_ble_eq_true rfl⟩ rfl (Nat.le_of_ble_eq_true rfl) (Nat.le_of_ble_eq_true rfl) (Nat.le_of_ble_eq_true rfl) (cy1.mono id (QSr rfl) (XSr rfl)) ?_
      refine Y_catch (E := "java/util/NoSuchElementException") (i := 5) (pre := [(0, 12, 15, 21), (0, 12, 19, 13)]) (suf := [(0, 12, 27, 30)]) (lv1 := [(0, .ref 1), (1, .int x1), (2, .int x2), (3, .int x3), (4, .ref 127)]) rfl (hp_cons (by decide) w3_223 (List.mem_of_getElem? (i := 13) rfl) (hp_cons (by decide) w3_122 (List.mem_of_getElem? (i := 3) rfl) hp_nil)) (by decide) (by decide) w4_188 (List.mem_of_getElem? (i := 15) rfl) dL_setMethod_23 (by decide) rfl ?_
      refine Y_iconst (pc := 25) (v := (3 : Int32)) dL_setMethod_25 rfl ?_
      cases h
      exact Y_iret (pc := 26) rfl rfl dL_setMethod_26 hPN1 ⟨rfl, rfl⟩
    replace h := ifF hc2 h
    by_cases hc3 : E1 = "java/lang/UnsupportedOperationException"
    · replace h := ifT hc3 h
      subst hc3
      refine C_V3x (k' := k_X11_setMethod) dL_setMethod_7 w4_189 i_X11_setMethod (lk_1 hP) ⟨Nat.le_of_ble_eq_true rfl, Nat.le_of_ble_eq_true rfl⟩ rfl (Nat.le_of_ble_eq_true rfl) (Nat.le_of_ble_eq_true rfl) (Nat.le_of_ble_eq_true rfl) (cy1.mono id (QSr rfl) (XSr rfl)) ?_
      refine Y_catch (E := "java/lang/UnsupportedOperationException") (i := 5) (pre := [(0, 12, 15, 21), (0, 12, 19, 13), (0, 12, 23, 36)]) (suf := []) (lv1 := [(0, .ref 1), (1, .int x1), (2, .int x2), (3, .int x3), (4, .ref 127)]) rfl (hp_cons (by decide) w3_223 (List.mem_of_getElem? (i := 12) rfl) (hp_cons (by decide) w3_122 (List.mem_of_getElem? (i := 2) rfl) (hp_cons (by decide) w4_188 (List.mem_of_getElem? (i := 23) rfl) hp_nil))) (by decide) (by decide) w4_150 (List.mem_of_getElem? (i := 14) rfl) dL_setMethod_27 (by decide) rfl ?_
      refine Y_iconst (pc := 29) (v := (4 : Int32)) dL_setMethod_29 rfl ?_
      cases h
      exact Y_iret (pc := 30) rfl rfl dL_setMethod_30 hPN1 ⟨rfl, rfl⟩
    replace h := ifF hc3 h
    cases h
theorem v_L_setMethod {x1 : Int32} {x2 : Int32} {x3 : Int32} {M z} (hP : Lay M) (h : d_L_setMethod x1 x2 x3 M = some z) : CC Lay k_L_setMethod [.ref 1, .int x1, .int x2, .int x3, .ref 127] M z.2 (Qv (some (.int z.1)) z.2) xF :=
  CC.ofVV (by decide) rfl (Nat.le_of_ble_eq_true rfl) (b_L_setMethod hP h)
noncomputable def d_L_setCell (x1 : Int32) (x2 : Int32) (M : Mem) : Option (Int32 × Mem) :=
  (d_X11_setCell x1 x2 M).bind fun y1 => match y1 with
  | (.inl y1, N1) => (
    bnd (sL N1 127 0 (y1.toInt64)) fun M1 =>
    some ((0 : Int32), M1))
  | (.inr E1, N1) => (
    if E1 = "java/lang/IllegalArgumentException" then (
      some ((1 : Int32), N1))
    else none)
theorem b_L_setCell {x1 : Int32} {x2 : Int32} {M z} (hP : Lay M) (h : d_L_setCell x1 x2 M = some z) : VV Lay k_L_setCell 0 [(0, .ref 1), (1, .int x1), (2, .int x2), (3, .ref 127)] [] M z.2 (Qv (some (.int z.1)) z.2) xF := by
  unfold d_L_setCell at h
  refine Y_aload_n (pc := 0) (j := 3) dL_setCell_0 rfl rfl ?_
  refine Y_iconst (pc := 1) (v := (0 : Int32)) dL_setCell_1 rfl ?_
  refine Y_aload_n (pc := 2) (j := 0) dL_setCell_2 rfl rfl ?_
  refine Y_iload_n (pc := 3) (j := 1) dL_setCell_3 rfl rfl ?_
  refine Y_iload_n (pc := 4) (j := 2) dL_setCell_4 rfl rfl ?_
  obtain ⟨y1, qy1, h⟩ := bindE h
  have cy1 := v_X11_setCell hP qy1
  have hPN1 := cy1.1.1
  obtain ⟨y1 | E1, N1⟩ := y1
  · replace h := id h
    refine C_V2r (k' := k_X11_setCell) dL_setCell_5 w4_237 i_X11_setCell (lk_1 hP) ⟨Nat.le_of_ble_eq_true rfl, Nat.le_of_ble_eq_true rfl⟩ rfl (Nat.le_of_ble_eq_true rfl) (Nat.le_of_ble_eq_true rfl) (Nat.le_of_ble_eq_true rfl) (cy1.mono id (QSl rfl) (XSl rfl)) ?_
    refine Y_i2l (pc := 8) dL_setCell_8 ?_
    refine Y_last (pc := 9) dL_setCell_9 (lk_127 hPN1) (ln_127 hPN1) (vp_lit (by decide)) ?_
    obtain ⟨M1, eM1, h⟩ := bndE h
    refine VV.mem eM1 ?_
    have hP1 := hPN1.wL eM1
    refine Y_goto (pc := 10) (tgt := 17) dL_setCell_10 (by decide) ?_
    refine Y_iconst (pc := 17) (v := (0 : Int32)) dL_setCell_17 rfl ?_
    cases h
    exact Y_iret (pc := 18) rfl rfl dL_setCell_18 hP1 ⟨rfl, rfl⟩
  · replace h := id h
    by_cases hc0 : E1 = "java/lang/IllegalArgumentException"
    · replace h := ifT hc0 h
      subst hc0
      refine C_V2x (k' := k_X11_setCell) dL_setCell_5 w4_237 i_X11_setCell (lk_1 hP) ⟨Nat.le_of_ble_eq_true rfl, Nat.le_of_ble_eq_true rfl⟩ rfl (Nat.le_of_ble_eq_true rfl) (Nat.le_of_ble_eq_true rfl) (Nat.le_of_ble_eq_true rfl) (cy1.mono id (QSr rfl) (XSr rfl)) ?_
      refine Y_catch (E := "java/lang/IllegalArgumentException") (i := 4) (pre := []) (suf := []) (lv1 := [(0, .ref 1), (1, .int x1), (2, .int x2), (3, .ref 127)]) rfl hp_nil (by decide) (by decide) w3_122 (List.mem_of_getElem? (i := 1) rfl) dL_setCell_13 (by decide) rfl ?_
      refine Y_iconst (pc := 15) (v := (1 : Int32)) dL_setCell_15 rfl ?_
      cases h
      exact Y_iret (pc := 16) rfl rfl dL_setCell_16 hPN1 ⟨rfl, rfl⟩
    replace h := ifF hc0 h
    cases h
theorem v_L_setCell {x1 : Int32} {x2 : Int32} {M z} (hP : Lay M) (h : d_L_setCell x1 x2 M = some z) : CC Lay k_L_setCell [.ref 1, .int x1, .int x2, .ref 127] M z.2 (Qv (some (.int z.1)) z.2) xF :=
  CC.ofVV (by decide) rfl (Nat.le_of_ble_eq_true rfl) (b_L_setCell hP h)
noncomputable def d_L_setLimits (x1 : Int32) (x2 : Int32) (x3 : Int32) (M : Mem) : Option (Int32 × Mem) :=
  (d_X11_setLimits x1 x2 x3 M).bind fun y1 => match y1 with
  | (.inl y1, N1) => (
    bnd (sL N1 127 0 (y1.toInt64)) fun M1 =>
    some ((0 : Int32), M1))
  | (.inr E1, N1) => (
    if E1 = "java/lang/IllegalArgumentException" then (
      some ((1 : Int32), N1))
    else none)
theorem b_L_setLimits {x1 : Int32} {x2 : Int32} {x3 : Int32} {M z} (hP : Lay M) (h : d_L_setLimits x1 x2 x3 M = some z) : VV Lay k_L_setLimits 0 [(0, .ref 1), (1, .int x1), (2, .int x2), (3, .int x3), (4, .ref 127)] [] M z.2 (Qv (some (.int z.1)) z.2) xF := by
  unfold d_L_setLimits at h
  refine Y_aload (pc := 0) (j := 4) dL_setLimits_0 rfl ?_
  refine Y_iconst (pc := 2) (v := (0 : Int32)) dL_setLimits_2 rfl ?_
  refine Y_aload_n (pc := 3) (j := 0) dL_setLimits_3 rfl rfl ?_
  refine Y_iload_n (pc := 4) (j := 1) dL_setLimits_4 rfl rfl ?_
  refine Y_iload_n (pc := 5) (j := 2) dL_setLimits_5 rfl rfl ?_
  refine Y_iload_n (pc := 6) (j := 3) dL_setLimits_6 rfl rfl ?_
  obtain ⟨y1, qy1, h⟩ := bindE h
  have cy1 := v_X11_setLimits hP qy1
  have hPN1 := cy1.1.1
  obtain ⟨y1 | E1, N1⟩ := y1
  · replace h := id h
    refine C_V3r (k' := k_X11_setLimits) dL_setLimits_7 w5_5 i_X11_setLimits (lk_1 hP) ⟨Nat.le_of_ble_eq_true rfl, Nat.le_of_ble_eq_true rfl⟩ rfl (Nat.le_of_ble_eq_true rfl) (Nat.le_of_ble_eq_true rfl) (Nat.le_of_ble_eq_true rfl) (cy1.mono id (QSl rfl) (XSl rfl)) ?_
    refine Y_i2l (pc := 10) dL_setLimits_10 ?_
    refine Y_last (pc := 11) dL_setLimits_11 (lk_127 hPN1) (ln_127 hPN1) (vp_lit (by decide)) ?_
    obtain ⟨M1, eM1, h⟩ := bndE h
    refine VV.mem eM1 ?_
    have hP1 := hPN1.wL eM1
    refine Y_goto (pc := 12) (tgt := 19) dL_setLimits_12 (by decide) ?_
    refine Y_iconst (pc := 19) (v := (0 : Int32)) dL_setLimits_19 rfl ?_
    cases h
    exact Y_iret (pc := 20) rfl rfl dL_setLimits_20 hP1 ⟨rfl, rfl⟩
  · replace h := id h
    by_cases hc0 : E1 = "java/lang/IllegalArgumentException"
    · replace h := ifT hc0 h
      subst hc0
      refine C_V3x (k' := k_X11_setLimits) dL_setLimits_7 w5_5 i_X11_setLimits (lk_1 hP) ⟨Nat.le_of_ble_eq_true rfl, Nat.le_of_ble_eq_true rfl⟩ rfl (Nat.le_of_ble_eq_true rfl) (Nat.le_of_ble_eq_true rfl) (Nat.le_of_ble_eq_true rfl) (cy1.mono id (QSr rfl) (XSr rfl)) ?_
      refine Y_catch (E := "java/lang/IllegalArgumentException") (i := 5) (pre := []) (suf := []) (lv1 := [(0, .ref 1), (1, .int x1), (2, .int x2), (3, .int x3), (4, .ref 127)]) rfl hp_nil (by decide) (by decide) w3_122 (List.mem_of_getElem? (i := 1) rfl) dL_setLimits_15 (by decide) rfl ?_
      refine Y_iconst (pc := 17) (v := (1 : Int32)) dL_setLimits_17 rfl ?_
      cases h
      exact Y_iret (pc := 18) rfl rfl dL_setLimits_18 hPN1 ⟨rfl, rfl⟩
    replace h := ifF hc0 h
    cases h
theorem v_L_setLimits {x1 : Int32} {x2 : Int32} {x3 : Int32} {M z} (hP : Lay M) (h : d_L_setLimits x1 x2 x3 M = some z) : CC Lay k_L_setLimits [.ref 1, .int x1, .int x2, .int x3, .ref 127] M z.2 (Qv (some (.int z.1)) z.2) xF :=
  CC.ofVV (by decide) rfl (Nat.le_of_ble_eq_true rfl) (b_L_setLimits hP h)
noncomputable def d_L_run (x1 : Int32) (x2 : Int32) (M : Mem) : Option (Int32 × Mem) :=
  (d_X11_run x1 x2 M).bind fun y1 => match y1 with
  | (.inl y1, N1) => (
    bnd (sL N1 127 0 (y1.toInt64)) fun M1 =>
    some ((0 : Int32), M1))
  | (.inr E1, N1) => (
    if E1 = "java/lang/IndexOutOfBoundsException" then (
      some ((1 : Int32), N1))
    else if E1 = "java/lang/UnsupportedOperationException" then (
      some ((2 : Int32), N1))
    else none)
theorem b_L_run {x1 : Int32} {x2 : Int32} {M z} (hP : Lay M) (h : d_L_run x1 x2 M = some z) : VV Lay k_L_run 0 [(0, .ref 1), (1, .int x1), (2, .int x2), (3, .ref 127)] [] M z.2 (Qv (some (.int z.1)) z.2) xF := by
  unfold d_L_run at h
  refine Y_aload_n (pc := 0) (j := 3) dL_run_0 rfl rfl ?_
  refine Y_iconst (pc := 1) (v := (0 : Int32)) dL_run_1 rfl ?_
  refine Y_aload_n (pc := 2) (j := 0) dL_run_2 rfl rfl ?_
  refine Y_iload_n (pc := 3) (j := 1) dL_run_3 rfl rfl ?_
  refine Y_iload_n (pc := 4) (j := 2) dL_run_4 rfl rfl ?_
  obtain ⟨y1, qy1, h⟩ := bindE h
  have cy1 := v_X11_run hP qy1
  have hPN1 := cy1.1.1
  obtain ⟨y1 | E1, N1⟩ := y1
  · replace h := id h
    refine C_V2r (k' := k_X11_run) dL_run_5 w5_22 i_X11_run (lk_1 hP) ⟨Nat.le_of_ble_eq_true rfl, Nat.le_of_ble_eq_true rfl⟩ rfl (Nat.le_of_ble_eq_true rfl) (Nat.le_of_ble_eq_true rfl) (Nat.le_of_ble_eq_true rfl) (cy1.mono id (QSl rfl) (XSl rfl)) ?_
    refine Y_i2l (pc := 8) dL_run_8 ?_
    refine Y_last (pc := 9) dL_run_9 (lk_127 hPN1) (ln_127 hPN1) (vp_lit (by decide)) ?_
    obtain ⟨M1, eM1, h⟩ := bndE h
    refine VV.mem eM1 ?_
    have hP1 := hPN1.wL eM1
    refine Y_goto (pc := 10) (tgt := 21) dL_run_10 (by decide) ?_
    refine Y_iconst (pc := 21) (v := (0 : Int32)) dL_run_21 rfl ?_
    cases h
    exact Y_iret (pc := 22) rfl rfl dL_run_22 hP1 ⟨rfl, rfl⟩
  · replace h := id h
    by_cases hc0 : E1 = "java/lang/IndexOutOfBoundsException"
    · replace h := ifT hc0 h
      subst hc0
      refine C_V2x (k' := k_X11_run) dL_run_5 w5_22 i_X11_run (lk_1 hP) ⟨Nat.le_of_ble_eq_true rfl, Nat.le_of_ble_eq_true rfl⟩ rfl (Nat.le_of_ble_eq_true rfl) (Nat.le_of_ble_eq_true rfl) (Nat.le_of_ble_eq_true rfl) (cy1.mono id (QSr rfl) (XSr rfl)) ?_
      refine Y_catch (E := "java/lang/IndexOutOfBoundsException") (i := 4) (pre := []) (suf := [(0, 10, 17, 30)]) (lv1 := [(0, .ref 1), (1, .int x1), (2, .int x2), (3, .ref 127)]) rfl hp_nil (by decide) (by decide) w3_223 (List.mem_of_getElem? (i := 12) rfl) dL_run_13 (by decide) rfl ?_
      refine Y_iconst (pc := 15) (v := (1 : Int32)) dL_run_15 rfl ?_
      cases h
      exact Y_iret (pc := 16) rfl rfl dL_run_16 hPN1 ⟨rfl, rfl⟩
    replace h := ifF hc0 h
    by_cases hc1 : E1 = "java/lang/UnsupportedOperationException"
    · replace h := ifT hc1 h
      subst hc1
      refine C_V2x (k' := k_X11_run) dL_run_5 w5_22 i_X11_run (lk_1 hP) ⟨Nat.le_of_ble_eq_true rfl, Nat.le_of_ble_eq_true rfl⟩ rfl (Nat.le_of_ble_eq_true rfl) (Nat.le_of_ble_eq_true rfl) (Nat.le_of_ble_eq_true rfl) (cy1.mono id (QSr rfl) (XSr rfl)) ?_
      refine Y_catch (E := "java/lang/UnsupportedOperationException") (i := 4) (pre := [(0, 10, 13, 21)]) (suf := []) (lv1 := [(0, .ref 1), (1, .int x1), (2, .int x2), (3, .ref 127)]) rfl (hp_cons (by decide) w3_223 (List.mem_of_getElem? (i := 12) rfl) hp_nil) (by decide) (by decide) w4_150 (List.mem_of_getElem? (i := 14) rfl) dL_run_17 (by decide) rfl ?_
      refine Y_iconst (pc := 19) (v := (2 : Int32)) dL_run_19 rfl ?_
      cases h
      exact Y_iret (pc := 20) rfl rfl dL_run_20 hPN1 ⟨rfl, rfl⟩
    replace h := ifF hc1 h
    cases h
theorem v_L_run {x1 : Int32} {x2 : Int32} {M z} (hP : Lay M) (h : d_L_run x1 x2 M = some z) : CC Lay k_L_run [.ref 1, .int x1, .int x2, .ref 127] M z.2 (Qv (some (.int z.1)) z.2) xF :=
  CC.ofVV (by decide) rfl (Nat.le_of_ble_eq_true rfl) (b_L_run hP h)
noncomputable def d_L_resultKind (M : Mem) : Option (Int32 × Mem) :=
  (d_X11_resultKind M).bind fun y1 => match y1 with
  | (.inl y1, N1) => (
    bnd (sL N1 127 0 (y1.toInt64)) fun M1 =>
    some ((0 : Int32), M1))
  | (.inr E1, N1) => (
    if E1 = "java/util/NoSuchElementException" then (
      some ((1 : Int32), N1))
    else none)
theorem b_L_resultKind {M z} (hP : Lay M) (h : d_L_resultKind M = some z) : VV Lay k_L_resultKind 0 [(0, .ref 1), (1, .ref 127)] [] M z.2 (Qv (some (.int z.1)) z.2) xF := by
  unfold d_L_resultKind at h
  refine Y_aload_n (pc := 0) (j := 1) dL_resultKind_0 rfl rfl ?_
  refine Y_iconst (pc := 1) (v := (0 : Int32)) dL_resultKind_1 rfl ?_
  refine Y_aload_n (pc := 2) (j := 0) dL_resultKind_2 rfl rfl ?_
  obtain ⟨y1, qy1, h⟩ := bindE h
  have cy1 := v_X11_resultKind hP qy1
  have hPN1 := cy1.1.1
  obtain ⟨y1 | E1, N1⟩ := y1
  · replace h := id h
    refine C_V0r (k' := k_X11_resultKind) dL_resultKind_3 w7_16 i_X11_resultKind (lk_1 hP) ⟨Nat.le_of_ble_eq_true rfl, Nat.le_of_ble_eq_true rfl⟩ rfl (Nat.le_of_ble_eq_true rfl) (Nat.le_of_ble_eq_true rfl) (Nat.le_of_ble_eq_true rfl) (cy1.mono id (QSl rfl) (XSl rfl)) ?_
    refine Y_i2l (pc := 6) dL_resultKind_6 ?_
    refine Y_last (pc := 7) dL_resultKind_7 (lk_127 hPN1) (ln_127 hPN1) (vp_lit (by decide)) ?_
    obtain ⟨M1, eM1, h⟩ := bndE h
    refine VV.mem eM1 ?_
    have hP1 := hPN1.wL eM1
    refine Y_goto (pc := 8) (tgt := 14) dL_resultKind_8 (by decide) ?_
    refine Y_iconst (pc := 14) (v := (0 : Int32)) dL_resultKind_14 rfl ?_
    cases h
    exact Y_iret (pc := 15) rfl rfl dL_resultKind_15 hP1 ⟨rfl, rfl⟩
  · replace h := id h
    by_cases hc0 : E1 = "java/util/NoSuchElementException"
    · replace h := ifT hc0 h
      subst hc0
      refine C_V0x (k' := k_X11_resultKind) dL_resultKind_3 w7_16 i_X11_resultKind (lk_1 hP) ⟨Nat.le_of_ble_eq_true rfl, Nat.le_of_ble_eq_true rfl⟩ rfl (Nat.le_of_ble_eq_true rfl) (Nat.le_of_ble_eq_true rfl) (Nat.le_of_ble_eq_true rfl) (cy1.mono id (QSr rfl) (XSr rfl)) ?_
      refine Y_catch_n (E := "java/util/NoSuchElementException") (i := 2) (pre := []) (suf := []) (lv1 := [(0, .ref 1), (1, .ref 127)]) rfl hp_nil (by decide) (by decide) w4_188 (List.mem_of_getElem? (i := 15) rfl) dL_resultKind_11 rfl (by decide) rfl ?_
      refine Y_iconst (pc := 12) (v := (1 : Int32)) dL_resultKind_12 rfl ?_
      cases h
      exact Y_iret (pc := 13) rfl rfl dL_resultKind_13 hPN1 ⟨rfl, rfl⟩
    replace h := ifF hc0 h
    cases h
theorem v_L_resultKind {M z} (hP : Lay M) (h : d_L_resultKind M = some z) : CC Lay k_L_resultKind [.ref 1, .ref 127] M z.2 (Qv (some (.int z.1)) z.2) xF :=
  CC.ofVV (by decide) rfl (Nat.le_of_ble_eq_true rfl) (b_L_resultKind hP h)
noncomputable def d_L_result (M : Mem) : Option (Int32 × Mem) :=
  (d_X11_result M).bind fun y1 => match y1 with
  | (.inl y1, N1) => (
    bnd (sL N1 127 0 y1) fun M1 =>
    some ((0 : Int32), M1))
  | (.inr E1, N1) => (
    if E1 = "java/util/NoSuchElementException" then (
      some ((1 : Int32), N1))
    else none)
theorem b_L_result {M z} (hP : Lay M) (h : d_L_result M = some z) : VV Lay k_L_result 0 [(0, .ref 1), (1, .ref 127)] [] M z.2 (Qv (some (.int z.1)) z.2) xF := by
  unfold d_L_result at h
  refine Y_aload_n (pc := 0) (j := 1) dL_result_0 rfl rfl ?_
  refine Y_iconst (pc := 1) (v := (0 : Int32)) dL_result_1 rfl ?_
  refine Y_aload_n (pc := 2) (j := 0) dL_result_2 rfl rfl ?_
  obtain ⟨y1, qy1, h⟩ := bindE h
  have cy1 := v_X11_result hP qy1
  have hPN1 := cy1.1.1
  obtain ⟨y1 | E1, N1⟩ := y1
  · replace h := id h
    refine C_V0r (k' := k_X11_result) dL_result_3 w7_28 i_X11_result (lk_1 hP) ⟨Nat.le_of_ble_eq_true rfl, Nat.le_of_ble_eq_true rfl⟩ rfl (Nat.le_of_ble_eq_true rfl) (Nat.le_of_ble_eq_true rfl) (Nat.le_of_ble_eq_true rfl) (cy1.mono id (QSl rfl) (XSl rfl)) ?_
    refine Y_last (pc := 6) dL_result_6 (lk_127 hPN1) (ln_127 hPN1) (vp_lit (by decide)) ?_
    obtain ⟨M1, eM1, h⟩ := bndE h
    refine VV.mem eM1 ?_
    have hP1 := hPN1.wL eM1
    refine Y_goto (pc := 7) (tgt := 13) dL_result_7 (by decide) ?_
    refine Y_iconst (pc := 13) (v := (0 : Int32)) dL_result_13 rfl ?_
    cases h
    exact Y_iret (pc := 14) rfl rfl dL_result_14 hP1 ⟨rfl, rfl⟩
  · replace h := id h
    by_cases hc0 : E1 = "java/util/NoSuchElementException"
    · replace h := ifT hc0 h
      subst hc0
      refine C_V0x (k' := k_X11_result) dL_result_3 w7_28 i_X11_result (lk_1 hP) ⟨Nat.le_of_ble_eq_true rfl, Nat.le_of_ble_eq_true rfl⟩ rfl (Nat.le_of_ble_eq_true rfl) (Nat.le_of_ble_eq_true rfl) (Nat.le_of_ble_eq_true rfl) (cy1.mono id (QSr rfl) (XSr rfl)) ?_
      refine Y_catch_n (E := "java/util/NoSuchElementException") (i := 2) (pre := []) (suf := []) (lv1 := [(0, .ref 1), (1, .ref 127)]) rfl hp_nil (by decide) (by decide) w4_188 (List.mem_of_getElem? (i := 15) rfl) dL_result_10 rfl (by decide) rfl ?_
      refine Y_iconst (pc := 11) (v := (1 : Int32)) dL_result_11 rfl ?_
      cases h
      exact Y_iret (pc := 12) rfl rfl dL_result_12 hPN1 ⟨rfl, rfl⟩
    replace h := ifF hc0 h
    cases h
theorem v_L_result {M z} (hP : Lay M) (h : d_L_result M = some z) : CC Lay k_L_result [.ref 1, .ref 127] M z.2 (Qv (some (.int z.1)) z.2) xF :=
  CC.ofVV (by decide) rfl (Nat.le_of_ble_eq_true rfl) (b_L_result hP h)
noncomputable def d_L_failure (M : Mem) : Option (Int32 × Mem) :=
  (d_X11_failure M).bind fun y1 => match y1 with
  | (.inl y1, N1) => (
    bnd (sL N1 127 0 (y1.toInt64)) fun M1 =>
    some ((0 : Int32), M1))
  | (.inr E1, N1) => (
    if E1 = "java/util/NoSuchElementException" then (
      some ((1 : Int32), N1))
    else none)
theorem b_L_failure {M z} (hP : Lay M) (h : d_L_failure M = some z) : VV Lay k_L_failure 0 [(0, .ref 1), (1, .ref 127)] [] M z.2 (Qv (some (.int z.1)) z.2) xF := by
  unfold d_L_failure at h
  refine Y_aload_n (pc := 0) (j := 1) dL_failure_0 rfl rfl ?_
  refine Y_iconst (pc := 1) (v := (0 : Int32)) dL_failure_1 rfl ?_
  refine Y_aload_n (pc := 2) (j := 0) dL_failure_2 rfl rfl ?_
  obtain ⟨y1, qy1, h⟩ := bindE h
  have cy1 := v_X11_failure hP qy1
  have hPN1 := cy1.1.1
  obtain ⟨y1 | E1, N1⟩ := y1
  · replace h := id h
    refine C_V0r (k' := k_X11_failure) dL_failure_3 w7_51 i_X11_failure (lk_1 hP) ⟨Nat.le_of_ble_eq_true rfl, Nat.le_of_ble_eq_true rfl⟩ rfl (Nat.le_of_ble_eq_true rfl) (Nat.le_of_ble_eq_true rfl) (Nat.le_of_ble_eq_true rfl) (cy1.mono id (QSl rfl) (XSl rfl)) ?_
    refine Y_i2l (pc := 6) dL_failure_6 ?_
    refine Y_last (pc := 7) dL_failure_7 (lk_127 hPN1) (ln_127 hPN1) (vp_lit (by decide)) ?_
    obtain ⟨M1, eM1, h⟩ := bndE h
    refine VV.mem eM1 ?_
    have hP1 := hPN1.wL eM1
    refine Y_goto (pc := 8) (tgt := 14) dL_failure_8 (by decide) ?_
    refine Y_iconst (pc := 14) (v := (0 : Int32)) dL_failure_14 rfl ?_
    cases h
    exact Y_iret (pc := 15) rfl rfl dL_failure_15 hP1 ⟨rfl, rfl⟩
  · replace h := id h
    by_cases hc0 : E1 = "java/util/NoSuchElementException"
    · replace h := ifT hc0 h
      subst hc0
      refine C_V0x (k' := k_X11_failure) dL_failure_3 w7_51 i_X11_failure (lk_1 hP) ⟨Nat.le_of_ble_eq_true rfl, Nat.le_of_ble_eq_true rfl⟩ rfl (Nat.le_of_ble_eq_true rfl) (Nat.le_of_ble_eq_true rfl) (Nat.le_of_ble_eq_true rfl) (cy1.mono id (QSr rfl) (XSr rfl)) ?_
      refine Y_catch_n (E := "java/util/NoSuchElementException") (i := 2) (pre := []) (suf := []) (lv1 := [(0, .ref 1), (1, .ref 127)]) rfl hp_nil (by decide) (by decide) w4_188 (List.mem_of_getElem? (i := 15) rfl) dL_failure_11 rfl (by decide) rfl ?_
      refine Y_iconst (pc := 12) (v := (1 : Int32)) dL_failure_12 rfl ?_
      cases h
      exact Y_iret (pc := 13) rfl rfl dL_failure_13 hPN1 ⟨rfl, rfl⟩
    replace h := ifF hc0 h
    cases h
theorem v_L_failure {M z} (hP : Lay M) (h : d_L_failure M = some z) : CC Lay k_L_failure [.ref 1, .ref 127] M z.2 (Qv (some (.int z.1)) z.2) xF :=
  CC.ofVV (by decide) rfl (Nat.le_of_ble_eq_true rfl) (b_L_failure hP h)
noncomputable def d_L_line (M : Mem) : Option (Int32 × Mem) :=
  (d_X11_line M).bind fun y1 => match y1 with
  | (.inl y1, N1) => (
    bnd (sL N1 127 0 (y1.toInt64)) fun M1 =>
    some ((0 : Int32), M1))
  | (.inr E1, N1) => (
    if E1 = "java/util/NoSuchElementException" then (
      some ((1 : Int32), N1))
    else none)
theorem b_L_line {M z} (hP : Lay M) (h : d_L_line M = some z) : VV Lay k_L_line 0 [(0, .ref 1), (1, .ref 127)] [] M z.2 (Qv (some (.int z.1)) z.2) xF := by
  unfold d_L_line at h
  refine Y_aload_n (pc := 0) (j := 1) dL_line_0 rfl rfl ?_
  refine Y_iconst (pc := 1) (v := (0 : Int32)) dL_line_1 rfl ?_
  refine Y_aload_n (pc := 2) (j := 0) dL_line_2 rfl rfl ?_
  obtain ⟨y1, qy1, h⟩ := bindE h
  have cy1 := v_X11_line hP qy1
  have hPN1 := cy1.1.1
  obtain ⟨y1 | E1, N1⟩ := y1
  · replace h := id h
    refine C_V0r (k' := k_X11_line) dL_line_3 w7_58 i_X11_line (lk_1 hP) ⟨Nat.le_of_ble_eq_true rfl, Nat.le_of_ble_eq_true rfl⟩ rfl (Nat.le_of_ble_eq_true rfl) (Nat.le_of_ble_eq_true rfl) (Nat.le_of_ble_eq_true rfl) (cy1.mono id (QSl rfl) (XSl rfl)) ?_
    refine Y_i2l (pc := 6) dL_line_6 ?_
    refine Y_last (pc := 7) dL_line_7 (lk_127 hPN1) (ln_127 hPN1) (vp_lit (by decide)) ?_
    obtain ⟨M1, eM1, h⟩ := bndE h
    refine VV.mem eM1 ?_
    have hP1 := hPN1.wL eM1
    refine Y_goto (pc := 8) (tgt := 14) dL_line_8 (by decide) ?_
    refine Y_iconst (pc := 14) (v := (0 : Int32)) dL_line_14 rfl ?_
    cases h
    exact Y_iret (pc := 15) rfl rfl dL_line_15 hP1 ⟨rfl, rfl⟩
  · replace h := id h
    by_cases hc0 : E1 = "java/util/NoSuchElementException"
    · replace h := ifT hc0 h
      subst hc0
      refine C_V0x (k' := k_X11_line) dL_line_3 w7_58 i_X11_line (lk_1 hP) ⟨Nat.le_of_ble_eq_true rfl, Nat.le_of_ble_eq_true rfl⟩ rfl (Nat.le_of_ble_eq_true rfl) (Nat.le_of_ble_eq_true rfl) (Nat.le_of_ble_eq_true rfl) (cy1.mono id (QSr rfl) (XSr rfl)) ?_
      refine Y_catch_n (E := "java/util/NoSuchElementException") (i := 2) (pre := []) (suf := []) (lv1 := [(0, .ref 1), (1, .ref 127)]) rfl hp_nil (by decide) (by decide) w4_188 (List.mem_of_getElem? (i := 15) rfl) dL_line_11 rfl (by decide) rfl ?_
      refine Y_iconst (pc := 12) (v := (1 : Int32)) dL_line_12 rfl ?_
      cases h
      exact Y_iret (pc := 13) rfl rfl dL_line_13 hPN1 ⟨rfl, rfl⟩
    replace h := ifF hc0 h
    cases h
theorem v_L_line {M z} (hP : Lay M) (h : d_L_line M = some z) : CC Lay k_L_line [.ref 1, .ref 127] M z.2 (Qv (some (.int z.1)) z.2) xF :=
  CC.ofVV (by decide) rfl (Nat.le_of_ble_eq_true rfl) (b_L_line hP h)
noncomputable def d_L_toldKind (x1 : Int32) (M : Mem) : Option (Int32 × Mem) :=
  (d_X11_toldKind x1 M).bind fun y1 => match y1 with
  | (.inl y1, N1) => (
    bnd (sL N1 127 0 (y1.toInt64)) fun M1 =>
    some ((0 : Int32), M1))
  | (.inr E1, N1) => (
    if E1 = "java/lang/IndexOutOfBoundsException" then (
      some ((1 : Int32), N1))
    else none)
theorem b_L_toldKind {x1 : Int32} {M z} (hP : Lay M) (h : d_L_toldKind x1 M = some z) : VV Lay k_L_toldKind 0 [(0, .ref 1), (1, .int x1), (2, .ref 127)] [] M z.2 (Qv (some (.int z.1)) z.2) xF := by
  unfold d_L_toldKind at h
  refine Y_aload_n (pc := 0) (j := 2) dL_toldKind_0 rfl rfl ?_
  refine Y_iconst (pc := 1) (v := (0 : Int32)) dL_toldKind_1 rfl ?_
  refine Y_aload_n (pc := 2) (j := 0) dL_toldKind_2 rfl rfl ?_
  refine Y_iload_n (pc := 3) (j := 1) dL_toldKind_3 rfl rfl ?_
  obtain ⟨y1, qy1, h⟩ := bindE h
  have cy1 := v_X11_toldKind hP qy1
  have hPN1 := cy1.1.1
  obtain ⟨y1 | E1, N1⟩ := y1
  · replace h := id h
    refine C_V1r (k' := k_X11_toldKind) dL_toldKind_4 w7_65 i_X11_toldKind (lk_1 hP) ⟨Nat.le_of_ble_eq_true rfl, Nat.le_of_ble_eq_true rfl⟩ rfl (Nat.le_of_ble_eq_true rfl) (Nat.le_of_ble_eq_true rfl) (Nat.le_of_ble_eq_true rfl) (cy1.mono id (QSl rfl) (XSl rfl)) ?_
    refine Y_i2l (pc := 7) dL_toldKind_7 ?_
    refine Y_last (pc := 8) dL_toldKind_8 (lk_127 hPN1) (ln_127 hPN1) (vp_lit (by decide)) ?_
    obtain ⟨M1, eM1, h⟩ := bndE h
    refine VV.mem eM1 ?_
    have hP1 := hPN1.wL eM1
    refine Y_goto (pc := 9) (tgt := 15) dL_toldKind_9 (by decide) ?_
    refine Y_iconst (pc := 15) (v := (0 : Int32)) dL_toldKind_15 rfl ?_
    cases h
    exact Y_iret (pc := 16) rfl rfl dL_toldKind_16 hP1 ⟨rfl, rfl⟩
  · replace h := id h
    by_cases hc0 : E1 = "java/lang/IndexOutOfBoundsException"
    · replace h := ifT hc0 h
      subst hc0
      refine C_V1x (k' := k_X11_toldKind) dL_toldKind_4 w7_65 i_X11_toldKind (lk_1 hP) ⟨Nat.le_of_ble_eq_true rfl, Nat.le_of_ble_eq_true rfl⟩ rfl (Nat.le_of_ble_eq_true rfl) (Nat.le_of_ble_eq_true rfl) (Nat.le_of_ble_eq_true rfl) (cy1.mono id (QSr rfl) (XSr rfl)) ?_
      refine Y_catch_n (E := "java/lang/IndexOutOfBoundsException") (i := 3) (pre := []) (suf := []) (lv1 := [(0, .ref 1), (1, .int x1), (2, .ref 127)]) rfl hp_nil (by decide) (by decide) w3_223 (List.mem_of_getElem? (i := 12) rfl) dL_toldKind_12 rfl (by decide) rfl ?_
      refine Y_iconst (pc := 13) (v := (1 : Int32)) dL_toldKind_13 rfl ?_
      cases h
      exact Y_iret (pc := 14) rfl rfl dL_toldKind_14 hPN1 ⟨rfl, rfl⟩
    replace h := ifF hc0 h
    cases h
theorem v_L_toldKind {x1 : Int32} {M z} (hP : Lay M) (h : d_L_toldKind x1 M = some z) : CC Lay k_L_toldKind [.ref 1, .int x1, .ref 127] M z.2 (Qv (some (.int z.1)) z.2) xF :=
  CC.ofVV (by decide) rfl (Nat.le_of_ble_eq_true rfl) (b_L_toldKind hP h)
noncomputable def d_L_toldAt (x1 : Int32) (M : Mem) : Option (Int32 × Mem) :=
  (d_X11_toldAt x1 M).bind fun y1 => match y1 with
  | (.inl y1, N1) => (
    bnd (sL N1 127 0 y1) fun M1 =>
    some ((0 : Int32), M1))
  | (.inr E1, N1) => (
    if E1 = "java/lang/IndexOutOfBoundsException" then (
      some ((1 : Int32), N1))
    else none)
theorem b_L_toldAt {x1 : Int32} {M z} (hP : Lay M) (h : d_L_toldAt x1 M = some z) : VV Lay k_L_toldAt 0 [(0, .ref 1), (1, .int x1), (2, .ref 127)] [] M z.2 (Qv (some (.int z.1)) z.2) xF := by
  unfold d_L_toldAt at h
  refine Y_aload_n (pc := 0) (j := 2) dL_toldAt_0 rfl rfl ?_
  refine Y_iconst (pc := 1) (v := (0 : Int32)) dL_toldAt_1 rfl ?_
  refine Y_aload_n (pc := 2) (j := 0) dL_toldAt_2 rfl rfl ?_
  refine Y_iload_n (pc := 3) (j := 1) dL_toldAt_3 rfl rfl ?_
  obtain ⟨y1, qy1, h⟩ := bindE h
  have cy1 := v_X11_toldAt hP qy1
  have hPN1 := cy1.1.1
  obtain ⟨y1 | E1, N1⟩ := y1
  · replace h := id h
    refine C_V1r (k' := k_X11_toldAt) dL_toldAt_4 w7_77 i_X11_toldAt (lk_1 hP) ⟨Nat.le_of_ble_eq_true rfl, Nat.le_of_ble_eq_true rfl⟩ rfl (Nat.le_of_ble_eq_true rfl) (Nat.le_of_ble_eq_true rfl) (Nat.le_of_ble_eq_true rfl) (cy1.mono id (QSl rfl) (XSl rfl)) ?_
    refine Y_last (pc := 7) dL_toldAt_7 (lk_127 hPN1) (ln_127 hPN1) (vp_lit (by decide)) ?_
    obtain ⟨M1, eM1, h⟩ := bndE h
    refine VV.mem eM1 ?_
    have hP1 := hPN1.wL eM1
    refine Y_goto (pc := 8) (tgt := 14) dL_toldAt_8 (by decide) ?_
    refine Y_iconst (pc := 14) (v := (0 : Int32)) dL_toldAt_14 rfl ?_
    cases h
    exact Y_iret (pc := 15) rfl rfl dL_toldAt_15 hP1 ⟨rfl, rfl⟩
  · replace h := id h
    by_cases hc0 : E1 = "java/lang/IndexOutOfBoundsException"
    · replace h := ifT hc0 h
      subst hc0
      refine C_V1x (k' := k_X11_toldAt) dL_toldAt_4 w7_77 i_X11_toldAt (lk_1 hP) ⟨Nat.le_of_ble_eq_true rfl, Nat.le_of_ble_eq_true rfl⟩ rfl (Nat.le_of_ble_eq_true rfl) (Nat.le_of_ble_eq_true rfl) (Nat.le_of_ble_eq_true rfl) (cy1.mono id (QSr rfl) (XSr rfl)) ?_
      refine Y_catch_n (E := "java/lang/IndexOutOfBoundsException") (i := 3) (pre := []) (suf := []) (lv1 := [(0, .ref 1), (1, .int x1), (2, .ref 127)]) rfl hp_nil (by decide) (by decide) w3_223 (List.mem_of_getElem? (i := 12) rfl) dL_toldAt_11 rfl (by decide) rfl ?_
      refine Y_iconst (pc := 12) (v := (1 : Int32)) dL_toldAt_12 rfl ?_
      cases h
      exact Y_iret (pc := 13) rfl rfl dL_toldAt_13 hPN1 ⟨rfl, rfl⟩
    replace h := ifF hc0 h
    cases h
theorem v_L_toldAt {x1 : Int32} {M z} (hP : Lay M) (h : d_L_toldAt x1 M = some z) : CC Lay k_L_toldAt [.ref 1, .int x1, .ref 127] M z.2 (Qv (some (.int z.1)) z.2) xF :=
  CC.ofVV (by decide) rfl (Nat.le_of_ble_eq_true rfl) (b_L_toldAt hP h)
noncomputable def d_L_shapeOf (x1 : Int32) (M : Mem) : Option (Int32 × Mem) :=
  (d_X11_shapeOf x1 M).bind fun y1 => match y1 with
  | (.inl y1, N1) => (
    bnd (sL N1 127 0 (y1.toInt64)) fun M1 =>
    some ((0 : Int32), M1))
  | (.inr E1, N1) => (
    if E1 = "java/lang/IndexOutOfBoundsException" then (
      some ((1 : Int32), N1))
    else none)
theorem b_L_shapeOf {x1 : Int32} {M z} (hP : Lay M) (h : d_L_shapeOf x1 M = some z) : VV Lay k_L_shapeOf 0 [(0, .ref 1), (1, .int x1), (2, .ref 127)] [] M z.2 (Qv (some (.int z.1)) z.2) xF := by
  unfold d_L_shapeOf at h
  refine Y_aload_n (pc := 0) (j := 2) dL_shapeOf_0 rfl rfl ?_
  refine Y_iconst (pc := 1) (v := (0 : Int32)) dL_shapeOf_1 rfl ?_
  refine Y_aload_n (pc := 2) (j := 0) dL_shapeOf_2 rfl rfl ?_
  refine Y_iload_n (pc := 3) (j := 1) dL_shapeOf_3 rfl rfl ?_
  obtain ⟨y1, qy1, h⟩ := bindE h
  have cy1 := v_X11_shapeOf hP qy1
  have hPN1 := cy1.1.1
  obtain ⟨y1 | E1, N1⟩ := y1
  · replace h := id h
    refine C_V1r (k' := k_X11_shapeOf) dL_shapeOf_4 w7_84 i_X11_shapeOf (lk_1 hP) ⟨Nat.le_of_ble_eq_true rfl, Nat.le_of_ble_eq_true rfl⟩ rfl (Nat.le_of_ble_eq_true rfl) (Nat.le_of_ble_eq_true rfl) (Nat.le_of_ble_eq_true rfl) (cy1.mono id (QSl rfl) (XSl rfl)) ?_
    refine Y_i2l (pc := 7) dL_shapeOf_7 ?_
    refine Y_last (pc := 8) dL_shapeOf_8 (lk_127 hPN1) (ln_127 hPN1) (vp_lit (by decide)) ?_
    obtain ⟨M1, eM1, h⟩ := bndE h
    refine VV.mem eM1 ?_
    have hP1 := hPN1.wL eM1
    refine Y_goto (pc := 9) (tgt := 15) dL_shapeOf_9 (by decide) ?_
    refine Y_iconst (pc := 15) (v := (0 : Int32)) dL_shapeOf_15 rfl ?_
    cases h
    exact Y_iret (pc := 16) rfl rfl dL_shapeOf_16 hP1 ⟨rfl, rfl⟩
  · replace h := id h
    by_cases hc0 : E1 = "java/lang/IndexOutOfBoundsException"
    · replace h := ifT hc0 h
      subst hc0
      refine C_V1x (k' := k_X11_shapeOf) dL_shapeOf_4 w7_84 i_X11_shapeOf (lk_1 hP) ⟨Nat.le_of_ble_eq_true rfl, Nat.le_of_ble_eq_true rfl⟩ rfl (Nat.le_of_ble_eq_true rfl) (Nat.le_of_ble_eq_true rfl) (Nat.le_of_ble_eq_true rfl) (cy1.mono id (QSr rfl) (XSr rfl)) ?_
      refine Y_catch_n (E := "java/lang/IndexOutOfBoundsException") (i := 3) (pre := []) (suf := []) (lv1 := [(0, .ref 1), (1, .int x1), (2, .ref 127)]) rfl hp_nil (by decide) (by decide) w3_223 (List.mem_of_getElem? (i := 12) rfl) dL_shapeOf_12 rfl (by decide) rfl ?_
      refine Y_iconst (pc := 13) (v := (1 : Int32)) dL_shapeOf_13 rfl ?_
      cases h
      exact Y_iret (pc := 14) rfl rfl dL_shapeOf_14 hPN1 ⟨rfl, rfl⟩
    replace h := ifF hc0 h
    cases h
theorem v_L_shapeOf {x1 : Int32} {M z} (hP : Lay M) (h : d_L_shapeOf x1 M = some z) : CC Lay k_L_shapeOf [.ref 1, .int x1, .ref 127] M z.2 (Qv (some (.int z.1)) z.2) xF :=
  CC.ofVV (by decide) rfl (Nat.le_of_ble_eq_true rfl) (b_L_shapeOf hP h)
noncomputable def d_L_field (x1 : Int32) (x2 : Int32) (M : Mem) : Option (Int32 × Mem) :=
  (d_X11_field x1 x2 M).bind fun y1 => match y1 with
  | (.inl y1, N1) => (
    bnd (sL N1 127 0 y1) fun M1 =>
    some ((0 : Int32), M1))
  | (.inr E1, N1) => (
    if E1 = "java/lang/IndexOutOfBoundsException" then (
      some ((1 : Int32), N1))
    else if E1 = "java/util/NoSuchElementException" then (
      some ((2 : Int32), N1))
    else none)
theorem b_L_field {x1 : Int32} {x2 : Int32} {M z} (hP : Lay M) (h : d_L_field x1 x2 M = some z) : VV Lay k_L_field 0 [(0, .ref 1), (1, .int x1), (2, .int x2), (3, .ref 127)] [] M z.2 (Qv (some (.int z.1)) z.2) xF := by
  unfold d_L_field at h
  refine Y_aload_n (pc := 0) (j := 3) dL_field_0 rfl rfl ?_
  refine Y_iconst (pc := 1) (v := (0 : Int32)) dL_field_1 rfl ?_
  refine Y_aload_n (pc := 2) (j := 0) dL_field_2 rfl rfl ?_
  refine Y_iload_n (pc := 3) (j := 1) dL_field_3 rfl rfl ?_
  refine Y_iload_n (pc := 4) (j := 2) dL_field_4 rfl rfl ?_
  obtain ⟨y1, qy1, h⟩ := bindE h
  have cy1 := v_X11_field hP qy1
  have hPN1 := cy1.1.1
  obtain ⟨y1 | E1, N1⟩ := y1
  · replace h := id h
    refine C_V2r (k' := k_X11_field) dL_field_5 w7_96 i_X11_field (lk_1 hP) ⟨Nat.le_of_ble_eq_true rfl, Nat.le_of_ble_eq_true rfl⟩ rfl (Nat.le_of_ble_eq_true rfl) (Nat.le_of_ble_eq_true rfl) (Nat.le_of_ble_eq_true rfl) (cy1.mono id (QSl rfl) (XSl rfl)) ?_
    refine Y_last (pc := 8) dL_field_8 (lk_127 hPN1) (ln_127 hPN1) (vp_lit (by decide)) ?_
    obtain ⟨M1, eM1, h⟩ := bndE h
    refine VV.mem eM1 ?_
    have hP1 := hPN1.wL eM1
    refine Y_goto (pc := 9) (tgt := 20) dL_field_9 (by decide) ?_
    refine Y_iconst (pc := 20) (v := (0 : Int32)) dL_field_20 rfl ?_
    cases h
    exact Y_iret (pc := 21) rfl rfl dL_field_21 hP1 ⟨rfl, rfl⟩
  · replace h := id h
    by_cases hc0 : E1 = "java/lang/IndexOutOfBoundsException"
    · replace h := ifT hc0 h
      subst hc0
      refine C_V2x (k' := k_X11_field) dL_field_5 w7_96 i_X11_field (lk_1 hP) ⟨Nat.le_of_ble_eq_true rfl, Nat.le_of_ble_eq_true rfl⟩ rfl (Nat.le_of_ble_eq_true rfl) (Nat.le_of_ble_eq_true rfl) (Nat.le_of_ble_eq_true rfl) (cy1.mono id (QSr rfl) (XSr rfl)) ?_
      refine Y_catch (E := "java/lang/IndexOutOfBoundsException") (i := 4) (pre := []) (suf := [(0, 9, 16, 36)]) (lv1 := [(0, .ref 1), (1, .int x1), (2, .int x2), (3, .ref 127)]) rfl hp_nil (by decide) (by decide) w3_223 (List.mem_of_getElem? (i := 12) rfl) dL_field_12 (by decide) rfl ?_
      refine Y_iconst (pc := 14) (v := (1 : Int32)) dL_field_14 rfl ?_
      cases h
      exact Y_iret (pc := 15) rfl rfl dL_field_15 hPN1 ⟨rfl, rfl⟩
    replace h := ifF hc0 h
    by_cases hc1 : E1 = "java/util/NoSuchElementException"
    · replace h := ifT hc1 h
      subst hc1
      refine C_V2x (k' := k_X11_field) dL_field_5 w7_96 i_X11_field (lk_1 hP) ⟨Nat.le_of_ble_eq_true rfl, Nat.le_of_ble_eq_true rfl⟩ rfl (Nat.le_of_ble_eq_true rfl) (Nat.le_of_ble_eq_true rfl) (Nat.le_of_ble_eq_true rfl) (cy1.mono id (QSr rfl) (XSr rfl)) ?_
      refine Y_catch (E := "java/util/NoSuchElementException") (i := 4) (pre := [(0, 9, 12, 21)]) (suf := []) (lv1 := [(0, .ref 1), (1, .int x1), (2, .int x2), (3, .ref 127)]) rfl (hp_cons (by decide) w3_223 (List.mem_of_getElem? (i := 13) rfl) hp_nil) (by decide) (by decide) w4_188 (List.mem_of_getElem? (i := 15) rfl) dL_field_16 (by decide) rfl ?_
      refine Y_iconst (pc := 18) (v := (2 : Int32)) dL_field_18 rfl ?_
      cases h
      exact Y_iret (pc := 19) rfl rfl dL_field_19 hPN1 ⟨rfl, rfl⟩
    replace h := ifF hc1 h
    cases h
theorem v_L_field {x1 : Int32} {x2 : Int32} {M z} (hP : Lay M) (h : d_L_field x1 x2 M = some z) : CC Lay k_L_field [.ref 1, .int x1, .int x2, .ref 127] M z.2 (Qv (some (.int z.1)) z.2) xF :=
  CC.ofVV (by decide) rfl (Nat.le_of_ble_eq_true rfl) (b_L_field hP h)
noncomputable def d_L_fields (x1 : Int32) (M : Mem) : Option (Int32 × Mem) :=
  (d_X11_fields x1 M).bind fun y1 => match y1 with
  | (.inl y1, N1) => (
    bnd (sL N1 127 0 (y1.toInt64)) fun M1 =>
    some ((0 : Int32), M1))
  | (.inr E1, N1) => (
    if E1 = "java/lang/IndexOutOfBoundsException" then (
      some ((1 : Int32), N1))
    else none)
theorem b_L_fields {x1 : Int32} {M z} (hP : Lay M) (h : d_L_fields x1 M = some z) : VV Lay k_L_fields 0 [(0, .ref 1), (1, .int x1), (2, .ref 127)] [] M z.2 (Qv (some (.int z.1)) z.2) xF := by
  unfold d_L_fields at h
  refine Y_aload_n (pc := 0) (j := 2) dL_fields_0 rfl rfl ?_
  refine Y_iconst (pc := 1) (v := (0 : Int32)) dL_fields_1 rfl ?_
  refine Y_aload_n (pc := 2) (j := 0) dL_fields_2 rfl rfl ?_
  refine Y_iload_n (pc := 3) (j := 1) dL_fields_3 rfl rfl ?_
  obtain ⟨y1, qy1, h⟩ := bindE h
  have cy1 := v_X11_fields hP qy1
  have hPN1 := cy1.1.1
  obtain ⟨y1 | E1, N1⟩ := y1
  · replace h := id h
    refine C_V1r (k' := k_X11_fields) dL_fields_4 w7_106 i_X11_fields (lk_1 hP) ⟨Nat.le_of_ble_eq_true rfl, Nat.le_of_ble_eq_true rfl⟩ rfl (Nat.le_of_ble_eq_true rfl) (Nat.le_of_ble_eq_true rfl) (Nat.le_of_ble_eq_true rfl) (cy1.mono id (QSl rfl) (XSl rfl)) ?_
    refine Y_i2l (pc := 7) dL_fields_7 ?_
    refine Y_last (pc := 8) dL_fields_8 (lk_127 hPN1) (ln_127 hPN1) (vp_lit (by decide)) ?_
    obtain ⟨M1, eM1, h⟩ := bndE h
    refine VV.mem eM1 ?_
    have hP1 := hPN1.wL eM1
    refine Y_goto (pc := 9) (tgt := 15) dL_fields_9 (by decide) ?_
    refine Y_iconst (pc := 15) (v := (0 : Int32)) dL_fields_15 rfl ?_
    cases h
    exact Y_iret (pc := 16) rfl rfl dL_fields_16 hP1 ⟨rfl, rfl⟩
  · replace h := id h
    by_cases hc0 : E1 = "java/lang/IndexOutOfBoundsException"
    · replace h := ifT hc0 h
      subst hc0
      refine C_V1x (k' := k_X11_fields) dL_fields_4 w7_106 i_X11_fields (lk_1 hP) ⟨Nat.le_of_ble_eq_true rfl, Nat.le_of_ble_eq_true rfl⟩ rfl (Nat.le_of_ble_eq_true rfl) (Nat.le_of_ble_eq_true rfl) (Nat.le_of_ble_eq_true rfl) (cy1.mono id (QSr rfl) (XSr rfl)) ?_
      refine Y_catch_n (E := "java/lang/IndexOutOfBoundsException") (i := 3) (pre := []) (suf := []) (lv1 := [(0, .ref 1), (1, .int x1), (2, .ref 127)]) rfl hp_nil (by decide) (by decide) w3_223 (List.mem_of_getElem? (i := 12) rfl) dL_fields_12 rfl (by decide) rfl ?_
      refine Y_iconst (pc := 13) (v := (1 : Int32)) dL_fields_13 rfl ?_
      cases h
      exact Y_iret (pc := 14) rfl rfl dL_fields_14 hPN1 ⟨rfl, rfl⟩
    replace h := ifF hc0 h
    cases h
theorem v_L_fields {x1 : Int32} {M z} (hP : Lay M) (h : d_L_fields x1 M = some z) : CC Lay k_L_fields [.ref 1, .int x1, .ref 127] M z.2 (Qv (some (.int z.1)) z.2) xF :=
  CC.ofVV (by decide) rfl (Nat.le_of_ble_eq_true rfl) (b_L_fields hP h)
noncomputable def d_L_fieldAt (x1 : Int32) (x2 : Int32) (M : Mem) : Option (Int32 × Mem) :=
  (d_X11_fieldAt x1 x2 M).bind fun y1 => match y1 with
  | (.inl y1, N1) => (
    bnd (sL N1 127 0 (y1.toInt64)) fun M1 =>
    some ((0 : Int32), M1))
  | (.inr E1, N1) => (
    if E1 = "java/lang/IndexOutOfBoundsException" then (
      some ((1 : Int32), N1))
    else if E1 = "java/util/NoSuchElementException" then (
      some ((2 : Int32), N1))
    else none)
theorem b_L_fieldAt {x1 : Int32} {x2 : Int32} {M z} (hP : Lay M) (h : d_L_fieldAt x1 x2 M = some z) : VV Lay k_L_fieldAt 0 [(0, .ref 1), (1, .int x1), (2, .int x2), (3, .ref 127)] [] M z.2 (Qv (some (.int z.1)) z.2) xF := by
  unfold d_L_fieldAt at h
  refine Y_aload_n (pc := 0) (j := 3) dL_fieldAt_0 rfl rfl ?_
  refine Y_iconst (pc := 1) (v := (0 : Int32)) dL_fieldAt_1 rfl ?_
  refine Y_aload_n (pc := 2) (j := 0) dL_fieldAt_2 rfl rfl ?_
  refine Y_iload_n (pc := 3) (j := 1) dL_fieldAt_3 rfl rfl ?_
  refine Y_iload_n (pc := 4) (j := 2) dL_fieldAt_4 rfl rfl ?_
  obtain ⟨y1, qy1, h⟩ := bindE h
  have cy1 := v_X11_fieldAt hP qy1
  have hPN1 := cy1.1.1
  obtain ⟨y1 | E1, N1⟩ := y1
  · replace h := id h
    refine C_V2r (k' := k_X11_fieldAt) dL_fieldAt_5 w7_118 i_X11_fieldAt (lk_1 hP) ⟨Nat.le_of_ble_eq_true rfl, Nat.le_of_ble_eq_true rfl⟩ rfl (Nat.le_of_ble_eq_true rfl) (Nat.le_of_ble_eq_true rfl) (Nat.le_of_ble_eq_true rfl) (cy1.mono id (QSl rfl) (XSl rfl)) ?_
    refine Y_i2l (pc := 8) dL_fieldAt_8 ?_
    refine Y_last (pc := 9) dL_fieldAt_9 (lk_127 hPN1) (ln_127 hPN1) (vp_lit (by decide)) ?_
    obtain ⟨M1, eM1, h⟩ := bndE h
    refine VV.mem eM1 ?_
    have hP1 := hPN1.wL eM1
    refine Y_goto (pc := 10) (tgt := 21) dL_fieldAt_10 (by decide) ?_
    refine Y_iconst (pc := 21) (v := (0 : Int32)) dL_fieldAt_21 rfl ?_
    cases h
    exact Y_iret (pc := 22) rfl rfl dL_fieldAt_22 hP1 ⟨rfl, rfl⟩
  · replace h := id h
    by_cases hc0 : E1 = "java/lang/IndexOutOfBoundsException"
    · replace h := ifT hc0 h
      subst hc0
      refine C_V2x (k' := k_X11_fieldAt) dL_fieldAt_5 w7_118 i_X11_fieldAt (lk_1 hP) ⟨Nat.le_of_ble_eq_true rfl, Nat.le_of_ble_eq_true rfl⟩ rfl (Nat.le_of_ble_eq_true rfl) (Nat.le_of_ble_eq_true rfl) (Nat.le_of_ble_eq_true rfl) (cy1.mono id (QSr rfl) (XSr rfl)) ?_
      refine Y_catch (E := "java/lang/IndexOutOfBoundsException") (i := 4) (pre := []) (suf := [(0, 10, 17, 36)]) (lv1 := [(0, .ref 1), (1, .int x1), (2, .int x2), (3, .ref 127)]) rfl hp_nil (by decide) (by decide) w3_223 (List.mem_of_getElem? (i := 12) rfl) dL_fieldAt_13 (by decide) rfl ?_
      refine Y_iconst (pc := 15) (v := (1 : Int32)) dL_fieldAt_15 rfl ?_
      cases h
      exact Y_iret (pc := 16) rfl rfl dL_fieldAt_16 hPN1 ⟨rfl, rfl⟩
    replace h := ifF hc0 h
    by_cases hc1 : E1 = "java/util/NoSuchElementException"
    · replace h := ifT hc1 h
      subst hc1
      refine C_V2x (k' := k_X11_fieldAt) dL_fieldAt_5 w7_118 i_X11_fieldAt (lk_1 hP) ⟨Nat.le_of_ble_eq_true rfl, Nat.le_of_ble_eq_true rfl⟩ rfl (Nat.le_of_ble_eq_true rfl) (Nat.le_of_ble_eq_true rfl) (Nat.le_of_ble_eq_true rfl) (cy1.mono id (QSr rfl) (XSr rfl)) ?_
      refine Y_catch (E := "java/util/NoSuchElementException") (i := 4) (pre := [(0, 10, 13, 21)]) (suf := []) (lv1 := [(0, .ref 1), (1, .int x1), (2, .int x2), (3, .ref 127)]) rfl (hp_cons (by decide) w3_223 (List.mem_of_getElem? (i := 13) rfl) hp_nil) (by decide) (by decide) w4_188 (List.mem_of_getElem? (i := 15) rfl) dL_fieldAt_17 (by decide) rfl ?_
      refine Y_iconst (pc := 19) (v := (2 : Int32)) dL_fieldAt_19 rfl ?_
      cases h
      exact Y_iret (pc := 20) rfl rfl dL_fieldAt_20 hPN1 ⟨rfl, rfl⟩
    replace h := ifF hc1 h
    cases h
theorem v_L_fieldAt {x1 : Int32} {x2 : Int32} {M z} (hP : Lay M) (h : d_L_fieldAt x1 x2 M = some z) : CC Lay k_L_fieldAt [.ref 1, .int x1, .int x2, .ref 127] M z.2 (Qv (some (.int z.1)) z.2) xF :=
  CC.ofVV (by decide) rfl (Nat.le_of_ble_eq_true rfl) (b_L_fieldAt hP h)
noncomputable def d_L_nextShape (x1 : Int32) (x2 : Int32) (M : Mem) : Option (Int32 × Mem) :=
  (d_X11_nextShape x1 x2 M).bind fun y1 => match y1 with
  | (.inl y1, N1) => (
    bnd (sL N1 127 0 (y1.toInt64)) fun M1 =>
    some ((0 : Int32), M1))
  | (.inr E1, N1) => (
    if E1 = "java/lang/IndexOutOfBoundsException" then (
      some ((1 : Int32), N1))
    else if E1 = "java/util/NoSuchElementException" then (
      some ((2 : Int32), N1))
    else none)
theorem b_L_nextShape {x1 : Int32} {x2 : Int32} {M z} (hP : Lay M) (h : d_L_nextShape x1 x2 M = some z) : VV Lay k_L_nextShape 0 [(0, .ref 1), (1, .int x1), (2, .int x2), (3, .ref 127)] [] M z.2 (Qv (some (.int z.1)) z.2) xF := by
  unfold d_L_nextShape at h
  refine Y_aload_n (pc := 0) (j := 3) dL_nextShape_0 rfl rfl ?_
  refine Y_iconst (pc := 1) (v := (0 : Int32)) dL_nextShape_1 rfl ?_
  refine Y_aload_n (pc := 2) (j := 0) dL_nextShape_2 rfl rfl ?_
  refine Y_iload_n (pc := 3) (j := 1) dL_nextShape_3 rfl rfl ?_
  refine Y_iload_n (pc := 4) (j := 2) dL_nextShape_4 rfl rfl ?_
  obtain ⟨y1, qy1, h⟩ := bindE h
  have cy1 := v_X11_nextShape hP qy1
  have hPN1 := cy1.1.1
  obtain ⟨y1 | E1, N1⟩ := y1
  · replace h := id h
    refine C_V2r (k' := k_X11_nextShape) dL_nextShape_5 w7_126 i_X11_nextShape (lk_1 hP) ⟨Nat.le_of_ble_eq_true rfl, Nat.le_of_ble_eq_true rfl⟩ rfl (Nat.le_of_ble_eq_true rfl) (Nat.le_of_ble_eq_true rfl) (Nat.le_of_ble_eq_true rfl) (cy1.mono id (QSl rfl) (XSl rfl)) ?_
    refine Y_i2l (pc := 8) dL_nextShape_8 ?_
    refine Y_last (pc := 9) dL_nextShape_9 (lk_127 hPN1) (ln_127 hPN1) (vp_lit (by decide)) ?_
    obtain ⟨M1, eM1, h⟩ := bndE h
    refine VV.mem eM1 ?_
    have hP1 := hPN1.wL eM1
    refine Y_goto (pc := 10) (tgt := 21) dL_nextShape_10 (by decide) ?_
    refine Y_iconst (pc := 21) (v := (0 : Int32)) dL_nextShape_21 rfl ?_
    cases h
    exact Y_iret (pc := 22) rfl rfl dL_nextShape_22 hP1 ⟨rfl, rfl⟩
  · replace h := id h
    by_cases hc0 : E1 = "java/lang/IndexOutOfBoundsException"
    · replace h := ifT hc0 h
      subst hc0
      refine C_V2x (k' := k_X11_nextShape) dL_nextShape_5 w7_126 i_X11_nextShape (lk_1 hP) ⟨Nat.le_of_ble_eq_true rfl, Nat.le_of_ble_eq_true rfl⟩ rfl (Nat.le_of_ble_eq_true rfl) (Nat.le_of_ble_eq_true rfl) (Nat.le_of_ble_eq_true rfl) (cy1.mono id (QSr rfl) (XSr rfl)) ?_
      refine Y_catch (E := "java/lang/IndexOutOfBoundsException") (i := 4) (pre := []) (suf := [(0, 10, 17, 36)]) (lv1 := [(0, .ref 1), (1, .int x1), (2, .int x2), (3, .ref 127)]) rfl hp_nil (by decide) (by decide) w3_223 (List.mem_of_getElem? (i := 12) rfl) dL_nextShape_13 (by decide) rfl ?_
      refine Y_iconst (pc := 15) (v := (1 : Int32)) dL_nextShape_15 rfl ?_
      cases h
      exact Y_iret (pc := 16) rfl rfl dL_nextShape_16 hPN1 ⟨rfl, rfl⟩
    replace h := ifF hc0 h
    by_cases hc1 : E1 = "java/util/NoSuchElementException"
    · replace h := ifT hc1 h
      subst hc1
      refine C_V2x (k' := k_X11_nextShape) dL_nextShape_5 w7_126 i_X11_nextShape (lk_1 hP) ⟨Nat.le_of_ble_eq_true rfl, Nat.le_of_ble_eq_true rfl⟩ rfl (Nat.le_of_ble_eq_true rfl) (Nat.le_of_ble_eq_true rfl) (Nat.le_of_ble_eq_true rfl) (cy1.mono id (QSr rfl) (XSr rfl)) ?_
      refine Y_catch (E := "java/util/NoSuchElementException") (i := 4) (pre := [(0, 10, 13, 21)]) (suf := []) (lv1 := [(0, .ref 1), (1, .int x1), (2, .int x2), (3, .ref 127)]) rfl (hp_cons (by decide) w3_223 (List.mem_of_getElem? (i := 13) rfl) hp_nil) (by decide) (by decide) w4_188 (List.mem_of_getElem? (i := 15) rfl) dL_nextShape_17 (by decide) rfl ?_
      refine Y_iconst (pc := 19) (v := (2 : Int32)) dL_nextShape_19 rfl ?_
      cases h
      exact Y_iret (pc := 20) rfl rfl dL_nextShape_20 hPN1 ⟨rfl, rfl⟩
    replace h := ifF hc1 h
    cases h
theorem v_L_nextShape {x1 : Int32} {x2 : Int32} {M z} (hP : Lay M) (h : d_L_nextShape x1 x2 M = some z) : CC Lay k_L_nextShape [.ref 1, .int x1, .int x2, .ref 127] M z.2 (Qv (some (.int z.1)) z.2) xF :=
  CC.ofVV (by decide) rfl (Nat.le_of_ble_eq_true rfl) (b_L_nextShape hP h)
noncomputable def d_L_cacheState (x1 : Int32) (x2 : Int32) (M : Mem) : Option (Int32 × Mem) :=
  (d_X11_cacheState x1 x2 M).bind fun y1 => match y1 with
  | (.inl y1, N1) => (
    bnd (sL N1 127 0 (y1.toInt64)) fun M1 =>
    some ((0 : Int32), M1))
  | (.inr E1, N1) => (
    if E1 = "java/lang/IndexOutOfBoundsException" then (
      some ((1 : Int32), N1))
    else if E1 = "java/util/NoSuchElementException" then (
      some ((2 : Int32), N1))
    else none)
theorem b_L_cacheState {x1 : Int32} {x2 : Int32} {M z} (hP : Lay M) (h : d_L_cacheState x1 x2 M = some z) : VV Lay k_L_cacheState 0 [(0, .ref 1), (1, .int x1), (2, .int x2), (3, .ref 127)] [] M z.2 (Qv (some (.int z.1)) z.2) xF := by
  unfold d_L_cacheState at h
  refine Y_aload_n (pc := 0) (j := 3) dL_cacheState_0 rfl rfl ?_
  refine Y_iconst (pc := 1) (v := (0 : Int32)) dL_cacheState_1 rfl ?_
  refine Y_aload_n (pc := 2) (j := 0) dL_cacheState_2 rfl rfl ?_
  refine Y_iload_n (pc := 3) (j := 1) dL_cacheState_3 rfl rfl ?_
  refine Y_iload_n (pc := 4) (j := 2) dL_cacheState_4 rfl rfl ?_
  obtain ⟨y1, qy1, h⟩ := bindE h
  have cy1 := v_X11_cacheState hP qy1
  have hPN1 := cy1.1.1
  obtain ⟨y1 | E1, N1⟩ := y1
  · replace h := id h
    refine C_V2r (k' := k_X11_cacheState) dL_cacheState_5 w7_134 i_X11_cacheState (lk_1 hP) ⟨Nat.le_of_ble_eq_true rfl, Nat.le_of_ble_eq_true rfl⟩ rfl (Nat.le_of_ble_eq_true rfl) (Nat.le_of_ble_eq_true rfl) (Nat.le_of_ble_eq_true rfl) (cy1.mono id (QSl rfl) (XSl rfl)) ?_
    refine Y_i2l (pc := 8) dL_cacheState_8 ?_
    refine Y_last (pc := 9) dL_cacheState_9 (lk_127 hPN1) (ln_127 hPN1) (vp_lit (by decide)) ?_
    obtain ⟨M1, eM1, h⟩ := bndE h
    refine VV.mem eM1 ?_
    have hP1 := hPN1.wL eM1
    refine Y_goto (pc := 10) (tgt := 21) dL_cacheState_10 (by decide) ?_
    refine Y_iconst (pc := 21) (v := (0 : Int32)) dL_cacheState_21 rfl ?_
    cases h
    exact Y_iret (pc := 22) rfl rfl dL_cacheState_22 hP1 ⟨rfl, rfl⟩
  · replace h := id h
    by_cases hc0 : E1 = "java/lang/IndexOutOfBoundsException"
    · replace h := ifT hc0 h
      subst hc0
      refine C_V2x (k' := k_X11_cacheState) dL_cacheState_5 w7_134 i_X11_cacheState (lk_1 hP) ⟨Nat.le_of_ble_eq_true rfl, Nat.le_of_ble_eq_true rfl⟩ rfl (Nat.le_of_ble_eq_true rfl) (Nat.le_of_ble_eq_true rfl) (Nat.le_of_ble_eq_true rfl) (cy1.mono id (QSr rfl) (XSr rfl)) ?_
      refine Y_catch (E := "java/lang/IndexOutOfBoundsException") (i := 4) (pre := []) (suf := [(0, 10, 17, 36)]) (lv1 := [(0, .ref 1), (1, .int x1), (2, .int x2), (3, .ref 127)]) rfl hp_nil (by decide) (by decide) w3_223 (List.mem_of_getElem? (i := 12) rfl) dL_cacheState_13 (by decide) rfl ?_
      refine Y_iconst (pc := 15) (v := (1 : Int32)) dL_cacheState_15 rfl ?_
      cases h
      exact Y_iret (pc := 16) rfl rfl dL_cacheState_16 hPN1 ⟨rfl, rfl⟩
    replace h := ifF hc0 h
    by_cases hc1 : E1 = "java/util/NoSuchElementException"
    · replace h := ifT hc1 h
      subst hc1
      refine C_V2x (k' := k_X11_cacheState) dL_cacheState_5 w7_134 i_X11_cacheState (lk_1 hP) ⟨Nat.le_of_ble_eq_true rfl, Nat.le_of_ble_eq_true rfl⟩ rfl (Nat.le_of_ble_eq_true rfl) (Nat.le_of_ble_eq_true rfl) (Nat.le_of_ble_eq_true rfl) (cy1.mono id (QSr rfl) (XSr rfl)) ?_
      refine Y_catch (E := "java/util/NoSuchElementException") (i := 4) (pre := [(0, 10, 13, 21)]) (suf := []) (lv1 := [(0, .ref 1), (1, .int x1), (2, .int x2), (3, .ref 127)]) rfl (hp_cons (by decide) w3_223 (List.mem_of_getElem? (i := 13) rfl) hp_nil) (by decide) (by decide) w4_188 (List.mem_of_getElem? (i := 15) rfl) dL_cacheState_17 (by decide) rfl ?_
      refine Y_iconst (pc := 19) (v := (2 : Int32)) dL_cacheState_19 rfl ?_
      cases h
      exact Y_iret (pc := 20) rfl rfl dL_cacheState_20 hPN1 ⟨rfl, rfl⟩
    replace h := ifF hc1 h
    cases h
theorem v_L_cacheState {x1 : Int32} {x2 : Int32} {M z} (hP : Lay M) (h : d_L_cacheState x1 x2 M = some z) : CC Lay k_L_cacheState [.ref 1, .int x1, .int x2, .ref 127] M z.2 (Qv (some (.int z.1)) z.2) xF :=
  CC.ofVV (by decide) rfl (Nat.le_of_ble_eq_true rfl) (b_L_cacheState hP h)
noncomputable def d_L_hits (x1 : Int32) (x2 : Int32) (M : Mem) : Option (Int32 × Mem) :=
  (d_X11_hits x1 x2 M).bind fun y1 => match y1 with
  | (.inl y1, N1) => (
    bnd (sL N1 127 0 (y1.toInt64)) fun M1 =>
    some ((0 : Int32), M1))
  | (.inr E1, N1) => (
    if E1 = "java/lang/IndexOutOfBoundsException" then (
      some ((1 : Int32), N1))
    else if E1 = "java/util/NoSuchElementException" then (
      some ((2 : Int32), N1))
    else none)
theorem b_L_hits {x1 : Int32} {x2 : Int32} {M z} (hP : Lay M) (h : d_L_hits x1 x2 M = some z) : VV Lay k_L_hits 0 [(0, .ref 1), (1, .int x1), (2, .int x2), (3, .ref 127)] [] M z.2 (Qv (some (.int z.1)) z.2) xF := by
  unfold d_L_hits at h
  refine Y_aload_n (pc := 0) (j := 3) dL_hits_0 rfl rfl ?_
  refine Y_iconst (pc := 1) (v := (0 : Int32)) dL_hits_1 rfl ?_
  refine Y_aload_n (pc := 2) (j := 0) dL_hits_2 rfl rfl ?_
  refine Y_iload_n (pc := 3) (j := 1) dL_hits_3 rfl rfl ?_
  refine Y_iload_n (pc := 4) (j := 2) dL_hits_4 rfl rfl ?_
  obtain ⟨y1, qy1, h⟩ := bindE h
  have cy1 := v_X11_hits hP qy1
  have hPN1 := cy1.1.1
  obtain ⟨y1 | E1, N1⟩ := y1
  · replace h := id h
    refine C_V2r (k' := k_X11_hits) dL_hits_5 w7_152 i_X11_hits (lk_1 hP) ⟨Nat.le_of_ble_eq_true rfl, Nat.le_of_ble_eq_true rfl⟩ rfl (Nat.le_of_ble_eq_true rfl) (Nat.le_of_ble_eq_true rfl) (Nat.le_of_ble_eq_true rfl) (cy1.mono id (QSl rfl) (XSl rfl)) ?_
    refine Y_i2l (pc := 8) dL_hits_8 ?_
    refine Y_last (pc := 9) dL_hits_9 (lk_127 hPN1) (ln_127 hPN1) (vp_lit (by decide)) ?_
    obtain ⟨M1, eM1, h⟩ := bndE h
    refine VV.mem eM1 ?_
    have hP1 := hPN1.wL eM1
    refine Y_goto (pc := 10) (tgt := 21) dL_hits_10 (by decide) ?_
    refine Y_iconst (pc := 21) (v := (0 : Int32)) dL_hits_21 rfl ?_
    cases h
    exact Y_iret (pc := 22) rfl rfl dL_hits_22 hP1 ⟨rfl, rfl⟩
  · replace h := id h
    by_cases hc0 : E1 = "java/lang/IndexOutOfBoundsException"
    · replace h := ifT hc0 h
      subst hc0
      refine C_V2x (k' := k_X11_hits) dL_hits_5 w7_152 i_X11_hits (lk_1 hP) ⟨Nat.le_of_ble_eq_true rfl, Nat.le_of_ble_eq_true rfl⟩ rfl (Nat.le_of_ble_eq_true rfl) (Nat.le_of_ble_eq_true rfl) (Nat.le_of_ble_eq_true rfl) (cy1.mono id (QSr rfl) (XSr rfl)) ?_
      refine Y_catch (E := "java/lang/IndexOutOfBoundsException") (i := 4) (pre := []) (suf := [(0, 10, 17, 36)]) (lv1 := [(0, .ref 1), (1, .int x1), (2, .int x2), (3, .ref 127)]) rfl hp_nil (by decide) (by decide) w3_223 (List.mem_of_getElem? (i := 12) rfl) dL_hits_13 (by decide) rfl ?_
      refine Y_iconst (pc := 15) (v := (1 : Int32)) dL_hits_15 rfl ?_
      cases h
      exact Y_iret (pc := 16) rfl rfl dL_hits_16 hPN1 ⟨rfl, rfl⟩
    replace h := ifF hc0 h
    by_cases hc1 : E1 = "java/util/NoSuchElementException"
    · replace h := ifT hc1 h
      subst hc1
      refine C_V2x (k' := k_X11_hits) dL_hits_5 w7_152 i_X11_hits (lk_1 hP) ⟨Nat.le_of_ble_eq_true rfl, Nat.le_of_ble_eq_true rfl⟩ rfl (Nat.le_of_ble_eq_true rfl) (Nat.le_of_ble_eq_true rfl) (Nat.le_of_ble_eq_true rfl) (cy1.mono id (QSr rfl) (XSr rfl)) ?_
      refine Y_catch (E := "java/util/NoSuchElementException") (i := 4) (pre := [(0, 10, 13, 21)]) (suf := []) (lv1 := [(0, .ref 1), (1, .int x1), (2, .int x2), (3, .ref 127)]) rfl (hp_cons (by decide) w3_223 (List.mem_of_getElem? (i := 13) rfl) hp_nil) (by decide) (by decide) w4_188 (List.mem_of_getElem? (i := 15) rfl) dL_hits_17 (by decide) rfl ?_
      refine Y_iconst (pc := 19) (v := (2 : Int32)) dL_hits_19 rfl ?_
      cases h
      exact Y_iret (pc := 20) rfl rfl dL_hits_20 hPN1 ⟨rfl, rfl⟩
    replace h := ifF hc1 h
    cases h
theorem v_L_hits {x1 : Int32} {x2 : Int32} {M z} (hP : Lay M) (h : d_L_hits x1 x2 M = some z) : CC Lay k_L_hits [.ref 1, .int x1, .int x2, .ref 127] M z.2 (Qv (some (.int z.1)) z.2) xF :=
  CC.ofVV (by decide) rfl (Nat.le_of_ble_eq_true rfl) (b_L_hits hP h)
noncomputable def d_L_misses (x1 : Int32) (x2 : Int32) (M : Mem) : Option (Int32 × Mem) :=
  (d_X11_misses x1 x2 M).bind fun y1 => match y1 with
  | (.inl y1, N1) => (
    bnd (sL N1 127 0 (y1.toInt64)) fun M1 =>
    some ((0 : Int32), M1))
  | (.inr E1, N1) => (
    if E1 = "java/lang/IndexOutOfBoundsException" then (
      some ((1 : Int32), N1))
    else if E1 = "java/util/NoSuchElementException" then (
      some ((2 : Int32), N1))
    else none)
theorem b_L_misses {x1 : Int32} {x2 : Int32} {M z} (hP : Lay M) (h : d_L_misses x1 x2 M = some z) : VV Lay k_L_misses 0 [(0, .ref 1), (1, .int x1), (2, .int x2), (3, .ref 127)] [] M z.2 (Qv (some (.int z.1)) z.2) xF := by
  unfold d_L_misses at h
  refine Y_aload_n (pc := 0) (j := 3) dL_misses_0 rfl rfl ?_
  refine Y_iconst (pc := 1) (v := (0 : Int32)) dL_misses_1 rfl ?_
  refine Y_aload_n (pc := 2) (j := 0) dL_misses_2 rfl rfl ?_
  refine Y_iload_n (pc := 3) (j := 1) dL_misses_3 rfl rfl ?_
  refine Y_iload_n (pc := 4) (j := 2) dL_misses_4 rfl rfl ?_
  obtain ⟨y1, qy1, h⟩ := bindE h
  have cy1 := v_X11_misses hP qy1
  have hPN1 := cy1.1.1
  obtain ⟨y1 | E1, N1⟩ := y1
  · replace h := id h
    refine C_V2r (k' := k_X11_misses) dL_misses_5 w7_159 i_X11_misses (lk_1 hP) ⟨Nat.le_of_ble_eq_true rfl, Nat.le_of_ble_eq_true rfl⟩ rfl (Nat.le_of_ble_eq_true rfl) (Nat.le_of_ble_eq_true rfl) (Nat.le_of_ble_eq_true rfl) (cy1.mono id (QSl rfl) (XSl rfl)) ?_
    refine Y_i2l (pc := 8) dL_misses_8 ?_
    refine Y_last (pc := 9) dL_misses_9 (lk_127 hPN1) (ln_127 hPN1) (vp_lit (by decide)) ?_
    obtain ⟨M1, eM1, h⟩ := bndE h
    refine VV.mem eM1 ?_
    have hP1 := hPN1.wL eM1
    refine Y_goto (pc := 10) (tgt := 21) dL_misses_10 (by decide) ?_
    refine Y_iconst (pc := 21) (v := (0 : Int32)) dL_misses_21 rfl ?_
    cases h
    exact Y_iret (pc := 22) rfl rfl dL_misses_22 hP1 ⟨rfl, rfl⟩
  · replace h := id h
    by_cases hc0 : E1 = "java/lang/IndexOutOfBoundsException"
    · replace h := ifT hc0 h
      subst hc0
      refine C_V2x (k' := k_X11_misses) dL_misses_5 w7_159 i_X11_misses (lk_1 hP) ⟨Nat.le_of_ble_eq_true rfl, Nat.le_of_ble_eq_true rfl⟩ rfl (Nat.le_of_ble_eq_true rfl) (Nat.le_of_ble_eq_true rfl) (Nat.le_of_ble_eq_true rfl) (cy1.mono id (QSr rfl) (XSr rfl)) ?_
      refine Y_catch (E := "java/lang/IndexOutOfBoundsException") (i := 4) (pre := []) (suf := [(0, 10, 17, 36)]) (lv1 := [(0, .ref 1), (1, .int x1), (2, .int x2), (3, .ref 127)]) rfl hp_nil (by decide) (by decide) w3_223 (List.mem_of_getElem? (i := 12) rfl) dL_misses_13 (by decide) rfl ?_
      refine Y_iconst (pc := 15) (v := (1 : Int32)) dL_misses_15 rfl ?_
      cases h
      exact Y_iret (pc := 16) rfl rfl dL_misses_16 hPN1 ⟨rfl, rfl⟩
    replace h := ifF hc0 h
    by_cases hc1 : E1 = "java/util/NoSuchElementException"
    · replace h := ifT hc1 h
      subst hc1
      refine C_V2x (k' := k_X11_misses) dL_misses_5 w7_159 i_X11_misses (lk_1 hP) ⟨Nat.le_of_ble_eq_true rfl, Nat.le_of_ble_eq_true rfl⟩ rfl (Nat.le_of_ble_eq_true rfl) (Nat.le_of_ble_eq_true rfl) (Nat.le_of_ble_eq_true rfl) (cy1.mono id (QSr rfl) (XSr rfl)) ?_
      refine Y_catch (E := "java/util/NoSuchElementException") (i := 4) (pre := [(0, 10, 13, 21)]) (suf := []) (lv1 := [(0, .ref 1), (1, .int x1), (2, .int x2), (3, .ref 127)]) rfl (hp_cons (by decide) w3_223 (List.mem_of_getElem? (i := 13) rfl) hp_nil) (by decide) (by decide) w4_188 (List.mem_of_getElem? (i := 15) rfl) dL_misses_17 (by decide) rfl ?_
      refine Y_iconst (pc := 19) (v := (2 : Int32)) dL_misses_19 rfl ?_
      cases h
      exact Y_iret (pc := 20) rfl rfl dL_misses_20 hPN1 ⟨rfl, rfl⟩
    replace h := ifF hc1 h
    cases h
theorem v_L_misses {x1 : Int32} {x2 : Int32} {M z} (hP : Lay M) (h : d_L_misses x1 x2 M = some z) : CC Lay k_L_misses [.ref 1, .int x1, .int x2, .ref 127] M z.2 (Qv (some (.int z.1)) z.2) xF :=
  CC.ofVV (by decide) rfl (Nat.le_of_ble_eq_true rfl) (b_L_misses hP h)
noncomputable def d_L_counter (x1 : Int32) (x2 : Int32) (M : Mem) : Option (Int32 × Mem) :=
  (d_X11_counter x1 x2 M).bind fun y1 => match y1 with
  | (.inl y1, N1) => (
    bnd (sL N1 127 0 (y1.toInt64)) fun M1 =>
    some ((0 : Int32), M1))
  | (.inr E1, N1) => (
    if E1 = "java/lang/IndexOutOfBoundsException" then (
      some ((1 : Int32), N1))
    else if E1 = "java/lang/IllegalArgumentException" then (
      some ((2 : Int32), N1))
    else none)
theorem b_L_counter {x1 : Int32} {x2 : Int32} {M z} (hP : Lay M) (h : d_L_counter x1 x2 M = some z) : VV Lay k_L_counter 0 [(0, .ref 1), (1, .int x1), (2, .int x2), (3, .ref 127)] [] M z.2 (Qv (some (.int z.1)) z.2) xF := by
  unfold d_L_counter at h
  refine Y_aload_n (pc := 0) (j := 3) dL_counter_0 rfl rfl ?_
  refine Y_iconst (pc := 1) (v := (0 : Int32)) dL_counter_1 rfl ?_
  refine Y_aload_n (pc := 2) (j := 0) dL_counter_2 rfl rfl ?_
  refine Y_iload_n (pc := 3) (j := 1) dL_counter_3 rfl rfl ?_
  refine Y_iload_n (pc := 4) (j := 2) dL_counter_4 rfl rfl ?_
  obtain ⟨y1, qy1, h⟩ := bindE h
  have cy1 := v_X11_counter hP qy1
  have hPN1 := cy1.1.1
  obtain ⟨y1 | E1, N1⟩ := y1
  · replace h := id h
    refine C_V2r (k' := k_X11_counter) dL_counter_5 w7_166 i_X11_counter (lk_1 hP) ⟨Nat.le_of_ble_eq_true rfl, Nat.le_of_ble_eq_true rfl⟩ rfl (Nat.le_of_ble_eq_true rfl) (Nat.le_of_ble_eq_true rfl) (Nat.le_of_ble_eq_true rfl) (cy1.mono id (QSl rfl) (XSl rfl)) ?_
    refine Y_i2l (pc := 8) dL_counter_8 ?_
    refine Y_last (pc := 9) dL_counter_9 (lk_127 hPN1) (ln_127 hPN1) (vp_lit (by decide)) ?_
    obtain ⟨M1, eM1, h⟩ := bndE h
    refine VV.mem eM1 ?_
    have hP1 := hPN1.wL eM1
    refine Y_goto (pc := 10) (tgt := 21) dL_counter_10 (by decide) ?_
    refine Y_iconst (pc := 21) (v := (0 : Int32)) dL_counter_21 rfl ?_
    cases h
    exact Y_iret (pc := 22) rfl rfl dL_counter_22 hP1 ⟨rfl, rfl⟩
  · replace h := id h
    by_cases hc0 : E1 = "java/lang/IndexOutOfBoundsException"
    · replace h := ifT hc0 h
      subst hc0
      refine C_V2x (k' := k_X11_counter) dL_counter_5 w7_166 i_X11_counter (lk_1 hP) ⟨Nat.le_of_ble_eq_true rfl, Nat.le_of_ble_eq_true rfl⟩ rfl (Nat.le_of_ble_eq_true rfl) (Nat.le_of_ble_eq_true rfl) (Nat.le_of_ble_eq_true rfl) (cy1.mono id (QSr rfl) (XSr rfl)) ?_
      refine Y_catch (E := "java/lang/IndexOutOfBoundsException") (i := 4) (pre := []) (suf := [(0, 10, 17, 13)]) (lv1 := [(0, .ref 1), (1, .int x1), (2, .int x2), (3, .ref 127)]) rfl hp_nil (by decide) (by decide) w3_223 (List.mem_of_getElem? (i := 12) rfl) dL_counter_13 (by decide) rfl ?_
      refine Y_iconst (pc := 15) (v := (1 : Int32)) dL_counter_15 rfl ?_
      cases h
      exact Y_iret (pc := 16) rfl rfl dL_counter_16 hPN1 ⟨rfl, rfl⟩
    replace h := ifF hc0 h
    by_cases hc1 : E1 = "java/lang/IllegalArgumentException"
    · replace h := ifT hc1 h
      subst hc1
      refine C_V2x (k' := k_X11_counter) dL_counter_5 w7_166 i_X11_counter (lk_1 hP) ⟨Nat.le_of_ble_eq_true rfl, Nat.le_of_ble_eq_true rfl⟩ rfl (Nat.le_of_ble_eq_true rfl) (Nat.le_of_ble_eq_true rfl) (Nat.le_of_ble_eq_true rfl) (cy1.mono id (QSr rfl) (XSr rfl)) ?_
      refine Y_catch (E := "java/lang/IllegalArgumentException") (i := 4) (pre := [(0, 10, 13, 21)]) (suf := []) (lv1 := [(0, .ref 1), (1, .int x1), (2, .int x2), (3, .ref 127)]) rfl (hp_cons (by decide) w3_223 (List.mem_of_getElem? (i := 10) rfl) hp_nil) (by decide) (by decide) w3_122 (List.mem_of_getElem? (i := 1) rfl) dL_counter_17 (by decide) rfl ?_
      refine Y_iconst (pc := 19) (v := (2 : Int32)) dL_counter_19 rfl ?_
      cases h
      exact Y_iret (pc := 20) rfl rfl dL_counter_20 hPN1 ⟨rfl, rfl⟩
    replace h := ifF hc1 h
    cases h
theorem v_L_counter {x1 : Int32} {x2 : Int32} {M z} (hP : Lay M) (h : d_L_counter x1 x2 M = some z) : CC Lay k_L_counter [.ref 1, .int x1, .int x2, .ref 127] M z.2 (Qv (some (.int z.1)) z.2) xF :=
  CC.ofVV (by decide) rfl (Nat.le_of_ble_eq_true rfl) (b_L_counter hP h)
noncomputable def d_L_isBarred (x1 : Int32) (x2 : Int32) (M : Mem) : Option (Int32 × Mem) :=
  (d_X11_isBarred x1 x2 M).bind fun y1 => match y1 with
  | (.inl y1, N1) => (
    if y1 = 0 then (
      bnd (sL N1 127 0 (0 : Int64)) fun M1 =>
      some ((0 : Int32), M1))
    else (
      bnd (sL N1 127 0 (1 : Int64)) fun M2 =>
      some ((0 : Int32), M2)))
  | (.inr E1, N1) => (
    if E1 = "java/lang/IndexOutOfBoundsException" then (
      some ((1 : Int32), N1))
    else if E1 = "java/lang/IllegalArgumentException" then (
      some ((2 : Int32), N1))
    else none)
theorem b_L_isBarred {x1 : Int32} {x2 : Int32} {M z} (hP : Lay M) (h : d_L_isBarred x1 x2 M = some z) : VV Lay k_L_isBarred 0 [(0, .ref 1), (1, .int x1), (2, .int x2), (3, .ref 127)] [] M z.2 (Qv (some (.int z.1)) z.2) xF := by
  unfold d_L_isBarred at h
  refine Y_aload_n (pc := 0) (j := 3) dL_isBarred_0 rfl rfl ?_
  refine Y_iconst (pc := 1) (v := (0 : Int32)) dL_isBarred_1 rfl ?_
  refine Y_aload_n (pc := 2) (j := 0) dL_isBarred_2 rfl rfl ?_
  refine Y_iload_n (pc := 3) (j := 1) dL_isBarred_3 rfl rfl ?_
  refine Y_iload_n (pc := 4) (j := 2) dL_isBarred_4 rfl rfl ?_
  obtain ⟨y1, qy1, h⟩ := bindE h
  have cy1 := v_X11_isBarred hP qy1
  have hPN1 := cy1.1.1
  obtain ⟨y1 | E1, N1⟩ := y1
  · replace h := id h
    refine C_V2r (k' := k_X11_isBarred) dL_isBarred_5 w7_173 i_X11_isBarred (lk_1 hP) ⟨Nat.le_of_ble_eq_true rfl, Nat.le_of_ble_eq_true rfl⟩ rfl (Nat.le_of_ble_eq_true rfl) (Nat.le_of_ble_eq_true rfl) (Nat.le_of_ble_eq_true rfl) (cy1.mono id (QSl rfl) (XSl rfl)) ?_
    refine Y_if_eq (pc := 8) (tgt := 15) dL_isBarred_8 (by decide) (fun hc1 => ?_) (fun hc1 => ?_)
    · replace h := ifT hc1 h
      refine Y_lconst (pc := 15) (v := (0 : Int64)) dL_isBarred_15 rfl ?_
      refine Y_last (pc := 16) dL_isBarred_16 (lk_127 hPN1) (ln_127 hPN1) (vp_lit (by decide)) ?_
      obtain ⟨M1, eM1, h⟩ := bndE h
      refine VV.mem eM1 ?_
      have hP1 := hPN1.wL eM1
      refine Y_goto (pc := 17) (tgt := 28) dL_isBarred_17 (by decide) ?_
      refine Y_iconst (pc := 28) (v := (0 : Int32)) dL_isBarred_28 rfl ?_
      cases h
      exact Y_iret (pc := 29) rfl rfl dL_isBarred_29 hP1 ⟨rfl, rfl⟩
    · replace h := ifF hc1 h
      refine Y_lconst (pc := 11) (v := (1 : Int64)) dL_isBarred_11 rfl ?_
      refine Y_goto (pc := 12) (tgt := 16) dL_isBarred_12 (by decide) ?_
      refine Y_last (pc := 16) dL_isBarred_16 (lk_127 hPN1) (ln_127 hPN1) (vp_lit (by decide)) ?_
      obtain ⟨M2, eM2, h⟩ := bndE h
      refine VV.mem eM2 ?_
      have hP2 := hPN1.wL eM2
      refine Y_goto (pc := 17) (tgt := 28) dL_isBarred_17 (by decide) ?_
      refine Y_iconst (pc := 28) (v := (0 : Int32)) dL_isBarred_28 rfl ?_
      cases h
      exact Y_iret (pc := 29) rfl rfl dL_isBarred_29 hP2 ⟨rfl, rfl⟩
  · replace h := id h
    by_cases hc0 : E1 = "java/lang/IndexOutOfBoundsException"
    · replace h := ifT hc0 h
      subst hc0
      refine C_V2x (k' := k_X11_isBarred) dL_isBarred_5 w7_173 i_X11_isBarred (lk_1 hP) ⟨Nat.le_of_ble_eq_true rfl, Nat.le_of_ble_eq_true rfl⟩ rfl (Nat.le_of_ble_eq_true rfl) (Nat.le_of_ble_eq_true rfl) (Nat.le_of_ble_eq_true rfl) (cy1.mono id (QSr rfl) (XSr rfl)) ?_
      refine Y_catch (E := "java/lang/IndexOutOfBoundsException") (i := 4) (pre := []) (suf := [(0, 17, 24, 13)]) (lv1 := [(0, .ref 1), (1, .int x1), (2, .int x2), (3, .ref 127)]) rfl hp_nil (by decide) (by decide) w3_223 (List.mem_of_getElem? (i := 12) rfl) dL_isBarred_20 (by decide) rfl ?_
      refine Y_iconst (pc := 22) (v := (1 : Int32)) dL_isBarred_22 rfl ?_
      cases h
      exact Y_iret (pc := 23) rfl rfl dL_isBarred_23 hPN1 ⟨rfl, rfl⟩
    replace h := ifF hc0 h
    by_cases hc1 : E1 = "java/lang/IllegalArgumentException"
    · replace h := ifT hc1 h
      subst hc1
      refine C_V2x (k' := k_X11_isBarred) dL_isBarred_5 w7_173 i_X11_isBarred (lk_1 hP) ⟨Nat.le_of_ble_eq_true rfl, Nat.le_of_ble_eq_true rfl⟩ rfl (Nat.le_of_ble_eq_true rfl) (Nat.le_of_ble_eq_true rfl) (Nat.le_of_ble_eq_true rfl) (cy1.mono id (QSr rfl) (XSr rfl)) ?_
      refine Y_catch (E := "java/lang/IllegalArgumentException") (i := 4) (pre := [(0, 17, 20, 21)]) (suf := []) (lv1 := [(0, .ref 1), (1, .int x1), (2, .int x2), (3, .ref 127)]) rfl (hp_cons (by decide) w3_223 (List.mem_of_getElem? (i := 10) rfl) hp_nil) (by decide) (by decide) w3_122 (List.mem_of_getElem? (i := 1) rfl) dL_isBarred_24 (by decide) rfl ?_
      refine Y_iconst (pc := 26) (v := (2 : Int32)) dL_isBarred_26 rfl ?_
      cases h
      exact Y_iret (pc := 27) rfl rfl dL_isBarred_27 hPN1 ⟨rfl, rfl⟩
    replace h := ifF hc1 h
    cases h
theorem v_L_isBarred {x1 : Int32} {x2 : Int32} {M z} (hP : Lay M) (h : d_L_isBarred x1 x2 M = some z) : CC Lay k_L_isBarred [.ref 1, .int x1, .int x2, .ref 127] M z.2 (Qv (some (.int z.1)) z.2) xF :=
  CC.ofVV (by decide) rfl (Nat.le_of_ble_eq_true rfl) (b_L_isBarred hP h)
noncomputable def d_L_isThere (x1 : Int32) (M : Mem) : Option (Int32 × Mem) :=
  (d_X11_isThere x1 M).bind fun y1 => match y1 with
  | (.inl y1, N1) => (
    if y1 = 0 then (
      bnd (sL N1 127 0 (0 : Int64)) fun M1 =>
      some ((0 : Int32), M1))
    else (
      bnd (sL N1 127 0 (1 : Int64)) fun M2 =>
      some ((0 : Int32), M2)))
  | (.inr E1, N1) => (
    if E1 = "java/lang/IndexOutOfBoundsException" then (
      some ((1 : Int32), N1))
    else none)
theorem b_L_isThere {x1 : Int32} {M z} (hP : Lay M) (h : d_L_isThere x1 M = some z) : VV Lay k_L_isThere 0 [(0, .ref 1), (1, .int x1), (2, .ref 127)] [] M z.2 (Qv (some (.int z.1)) z.2) xF := by
  unfold d_L_isThere at h
  refine Y_aload_n (pc := 0) (j := 2) dL_isThere_0 rfl rfl ?_
  refine Y_iconst (pc := 1) (v := (0 : Int32)) dL_isThere_1 rfl ?_
  refine Y_aload_n (pc := 2) (j := 0) dL_isThere_2 rfl rfl ?_
  refine Y_iload_n (pc := 3) (j := 1) dL_isThere_3 rfl rfl ?_
  obtain ⟨y1, qy1, h⟩ := bindE h
  have cy1 := v_X11_isThere hP qy1
  have hPN1 := cy1.1.1
  obtain ⟨y1 | E1, N1⟩ := y1
  · replace h := id h
    refine C_V1r (k' := k_X11_isThere) dL_isThere_4 w7_181 i_X11_isThere (lk_1 hP) ⟨Nat.le_of_ble_eq_true rfl, Nat.le_of_ble_eq_true rfl⟩ rfl (Nat.le_of_ble_eq_true rfl) (Nat.le_of_ble_eq_true rfl) (Nat.le_of_ble_eq_true rfl) (cy1.mono id (QSl rfl) (XSl rfl)) ?_
    refine Y_if_eq (pc := 7) (tgt := 14) dL_isThere_7 (by decide) (fun hc1 => ?_) (fun hc1 => ?_)
    · replace h := ifT hc1 h
      refine Y_lconst (pc := 14) (v := (0 : Int64)) dL_isThere_14 rfl ?_
      refine Y_last (pc := 15) dL_isThere_15 (lk_127 hPN1) (ln_127 hPN1) (vp_lit (by decide)) ?_
      obtain ⟨M1, eM1, h⟩ := bndE h
      refine VV.mem eM1 ?_
      have hP1 := hPN1.wL eM1
      refine Y_goto (pc := 16) (tgt := 22) dL_isThere_16 (by decide) ?_
      refine Y_iconst (pc := 22) (v := (0 : Int32)) dL_isThere_22 rfl ?_
      cases h
      exact Y_iret (pc := 23) rfl rfl dL_isThere_23 hP1 ⟨rfl, rfl⟩
    · replace h := ifF hc1 h
      refine Y_lconst (pc := 10) (v := (1 : Int64)) dL_isThere_10 rfl ?_
      refine Y_goto (pc := 11) (tgt := 15) dL_isThere_11 (by decide) ?_
      refine Y_last (pc := 15) dL_isThere_15 (lk_127 hPN1) (ln_127 hPN1) (vp_lit (by decide)) ?_
      obtain ⟨M2, eM2, h⟩ := bndE h
      refine VV.mem eM2 ?_
      have hP2 := hPN1.wL eM2
      refine Y_goto (pc := 16) (tgt := 22) dL_isThere_16 (by decide) ?_
      refine Y_iconst (pc := 22) (v := (0 : Int32)) dL_isThere_22 rfl ?_
      cases h
      exact Y_iret (pc := 23) rfl rfl dL_isThere_23 hP2 ⟨rfl, rfl⟩
  · replace h := id h
    by_cases hc0 : E1 = "java/lang/IndexOutOfBoundsException"
    · replace h := ifT hc0 h
      subst hc0
      refine C_V1x (k' := k_X11_isThere) dL_isThere_4 w7_181 i_X11_isThere (lk_1 hP) ⟨Nat.le_of_ble_eq_true rfl, Nat.le_of_ble_eq_true rfl⟩ rfl (Nat.le_of_ble_eq_true rfl) (Nat.le_of_ble_eq_true rfl) (Nat.le_of_ble_eq_true rfl) (cy1.mono id (QSr rfl) (XSr rfl)) ?_
      refine Y_catch_n (E := "java/lang/IndexOutOfBoundsException") (i := 3) (pre := []) (suf := []) (lv1 := [(0, .ref 1), (1, .int x1), (2, .ref 127)]) rfl hp_nil (by decide) (by decide) w3_223 (List.mem_of_getElem? (i := 12) rfl) dL_isThere_19 rfl (by decide) rfl ?_
      refine Y_iconst (pc := 20) (v := (1 : Int32)) dL_isThere_20 rfl ?_
      cases h
      exact Y_iret (pc := 21) rfl rfl dL_isThere_21 hPN1 ⟨rfl, rfl⟩
    replace h := ifF hc0 h
    cases h
theorem v_L_isThere {x1 : Int32} {M z} (hP : Lay M) (h : d_L_isThere x1 M = some z) : CC Lay k_L_isThere [.ref 1, .int x1, .ref 127] M z.2 (Qv (some (.int z.1)) z.2) xF :=
  CC.ofVV (by decide) rfl (Nat.le_of_ble_eq_true rfl) (b_L_isThere hP h)
noncomputable def d_L_steps (x1 : Int32) (M : Mem) : Option (Int32 × Mem) :=
  (d_X11_steps x1 M).bind fun y1 => match y1 with
  | (.inl y1, N1) => (
    bnd (sL N1 127 0 (y1.toInt64)) fun M1 =>
    some ((0 : Int32), M1))
  | (.inr E1, N1) => (
    if E1 = "java/lang/IndexOutOfBoundsException" then (
      some ((1 : Int32), N1))
    else none)
theorem b_L_steps {x1 : Int32} {M z} (hP : Lay M) (h : d_L_steps x1 M = some z) : VV Lay k_L_steps 0 [(0, .ref 1), (1, .int x1), (2, .ref 127)] [] M z.2 (Qv (some (.int z.1)) z.2) xF := by
  unfold d_L_steps at h
  refine Y_aload_n (pc := 0) (j := 2) dL_steps_0 rfl rfl ?_
  refine Y_iconst (pc := 1) (v := (0 : Int32)) dL_steps_1 rfl ?_
  refine Y_aload_n (pc := 2) (j := 0) dL_steps_2 rfl rfl ?_
  refine Y_iload_n (pc := 3) (j := 1) dL_steps_3 rfl rfl ?_
  obtain ⟨y1, qy1, h⟩ := bindE h
  have cy1 := v_X11_steps hP qy1
  have hPN1 := cy1.1.1
  obtain ⟨y1 | E1, N1⟩ := y1
  · replace h := id h
    refine C_V1r (k' := k_X11_steps) dL_steps_4 w7_193 i_X11_steps (lk_1 hP) ⟨Nat.le_of_ble_eq_true rfl, Nat.le_of_ble_eq_true rfl⟩ rfl (Nat.le_of_ble_eq_true rfl) (Nat.le_of_ble_eq_true rfl) (Nat.le_of_ble_eq_true rfl) (cy1.mono id (QSl rfl) (XSl rfl)) ?_
    refine Y_i2l (pc := 7) dL_steps_7 ?_
    refine Y_last (pc := 8) dL_steps_8 (lk_127 hPN1) (ln_127 hPN1) (vp_lit (by decide)) ?_
    obtain ⟨M1, eM1, h⟩ := bndE h
    refine VV.mem eM1 ?_
    have hP1 := hPN1.wL eM1
    refine Y_goto (pc := 9) (tgt := 15) dL_steps_9 (by decide) ?_
    refine Y_iconst (pc := 15) (v := (0 : Int32)) dL_steps_15 rfl ?_
    cases h
    exact Y_iret (pc := 16) rfl rfl dL_steps_16 hP1 ⟨rfl, rfl⟩
  · replace h := id h
    by_cases hc0 : E1 = "java/lang/IndexOutOfBoundsException"
    · replace h := ifT hc0 h
      subst hc0
      refine C_V1x (k' := k_X11_steps) dL_steps_4 w7_193 i_X11_steps (lk_1 hP) ⟨Nat.le_of_ble_eq_true rfl, Nat.le_of_ble_eq_true rfl⟩ rfl (Nat.le_of_ble_eq_true rfl) (Nat.le_of_ble_eq_true rfl) (Nat.le_of_ble_eq_true rfl) (cy1.mono id (QSr rfl) (XSr rfl)) ?_
      refine Y_catch_n (E := "java/lang/IndexOutOfBoundsException") (i := 3) (pre := []) (suf := []) (lv1 := [(0, .ref 1), (1, .int x1), (2, .ref 127)]) rfl hp_nil (by decide) (by decide) w3_223 (List.mem_of_getElem? (i := 12) rfl) dL_steps_12 rfl (by decide) rfl ?_
      refine Y_iconst (pc := 13) (v := (1 : Int32)) dL_steps_13 rfl ?_
      cases h
      exact Y_iret (pc := 14) rfl rfl dL_steps_14 hPN1 ⟨rfl, rfl⟩
    replace h := ifF hc0 h
    cases h
theorem v_L_steps {x1 : Int32} {M z} (hP : Lay M) (h : d_L_steps x1 M = some z) : CC Lay k_L_steps [.ref 1, .int x1, .ref 127] M z.2 (Qv (some (.int z.1)) z.2) xF :=
  CC.ofVV (by decide) rfl (Nat.le_of_ble_eq_true rfl) (b_L_steps hP h)
noncomputable def d_L_lineAt (x1 : Int32) (x2 : Int32) (M : Mem) : Option (Int32 × Mem) :=
  (d_X11_lineAt x1 x2 M).bind fun y1 => match y1 with
  | (.inl y1, N1) => (
    bnd (sL N1 127 0 (y1.toInt64)) fun M1 =>
    some ((0 : Int32), M1))
  | (.inr E1, N1) => (
    if E1 = "java/lang/IndexOutOfBoundsException" then (
      some ((1 : Int32), N1))
    else if E1 = "java/util/NoSuchElementException" then (
      some ((2 : Int32), N1))
    else none)
theorem b_L_lineAt {x1 : Int32} {x2 : Int32} {M z} (hP : Lay M) (h : d_L_lineAt x1 x2 M = some z) : VV Lay k_L_lineAt 0 [(0, .ref 1), (1, .int x1), (2, .int x2), (3, .ref 127)] [] M z.2 (Qv (some (.int z.1)) z.2) xF := by
  unfold d_L_lineAt at h
  refine Y_aload_n (pc := 0) (j := 3) dL_lineAt_0 rfl rfl ?_
  refine Y_iconst (pc := 1) (v := (0 : Int32)) dL_lineAt_1 rfl ?_
  refine Y_aload_n (pc := 2) (j := 0) dL_lineAt_2 rfl rfl ?_
  refine Y_iload_n (pc := 3) (j := 1) dL_lineAt_3 rfl rfl ?_
  refine Y_iload_n (pc := 4) (j := 2) dL_lineAt_4 rfl rfl ?_
  obtain ⟨y1, qy1, h⟩ := bindE h
  have cy1 := v_X11_lineAt hP qy1
  have hPN1 := cy1.1.1
  obtain ⟨y1 | E1, N1⟩ := y1
  · replace h := id h
    refine C_V2r (k' := k_X11_lineAt) dL_lineAt_5 w7_200 i_X11_lineAt (lk_1 hP) ⟨Nat.le_of_ble_eq_true rfl, Nat.le_of_ble_eq_true rfl⟩ rfl (Nat.le_of_ble_eq_true rfl) (Nat.le_of_ble_eq_true rfl) (Nat.le_of_ble_eq_true rfl) (cy1.mono id (QSl rfl) (XSl rfl)) ?_
    refine Y_i2l (pc := 8) dL_lineAt_8 ?_
    refine Y_last (pc := 9) dL_lineAt_9 (lk_127 hPN1) (ln_127 hPN1) (vp_lit (by decide)) ?_
    obtain ⟨M1, eM1, h⟩ := bndE h
    refine VV.mem eM1 ?_
    have hP1 := hPN1.wL eM1
    refine Y_goto (pc := 10) (tgt := 21) dL_lineAt_10 (by decide) ?_
    refine Y_iconst (pc := 21) (v := (0 : Int32)) dL_lineAt_21 rfl ?_
    cases h
    exact Y_iret (pc := 22) rfl rfl dL_lineAt_22 hP1 ⟨rfl, rfl⟩
  · replace h := id h
    by_cases hc0 : E1 = "java/lang/IndexOutOfBoundsException"
    · replace h := ifT hc0 h
      subst hc0
      refine C_V2x (k' := k_X11_lineAt) dL_lineAt_5 w7_200 i_X11_lineAt (lk_1 hP) ⟨Nat.le_of_ble_eq_true rfl, Nat.le_of_ble_eq_true rfl⟩ rfl (Nat.le_of_ble_eq_true rfl) (Nat.le_of_ble_eq_true rfl) (Nat.le_of_ble_eq_true rfl) (cy1.mono id (QSr rfl) (XSr rfl)) ?_
      refine Y_catch (E := "java/lang/IndexOutOfBoundsException") (i := 4) (pre := []) (suf := [(0, 10, 17, 36)]) (lv1 := [(0, .ref 1), (1, .int x1), (2, .int x2), (3, .ref 127)]) rfl hp_nil (by decide) (by decide) w3_223 (List.mem_of_getElem? (i := 12) rfl) dL_lineAt_13 (by decide) rfl ?_
      refine Y_iconst (pc := 15) (v := (1 : Int32)) dL_lineAt_15 rfl ?_
      cases h
      exact Y_iret (pc := 16) rfl rfl dL_lineAt_16 hPN1 ⟨rfl, rfl⟩
    replace h := ifF hc0 h
    by_cases hc1 : E1 = "java/util/NoSuchElementException"
    · replace h := ifT hc1 h
      subst hc1
      refine C_V2x (k' := k_X11_lineAt) dL_lineAt_5 w7_200 i_X11_lineAt (lk_1 hP) ⟨Nat.le_of_ble_eq_true rfl, Nat.le_of_ble_eq_true rfl⟩ rfl (Nat.le_of_ble_eq_true rfl) (Nat.le_of_ble_eq_true rfl) (Nat.le_of_ble_eq_true rfl) (cy1.mono id (QSr rfl) (XSr rfl)) ?_
      refine Y_catch (E := "java/util/NoSuchElementException") (i := 4) (pre := [(0, 10, 13, 21)]) (suf := []) (lv1 := [(0, .ref 1), (1, .int x1), (2, .int x2), (3, .ref 127)]) rfl (hp_cons (by decide) w3_223 (List.mem_of_getElem? (i := 13) rfl) hp_nil) (by decide) (by decide) w4_188 (List.mem_of_getElem? (i := 15) rfl) dL_lineAt_17 (by decide) rfl ?_
      refine Y_iconst (pc := 19) (v := (2 : Int32)) dL_lineAt_19 rfl ?_
      cases h
      exact Y_iret (pc := 20) rfl rfl dL_lineAt_20 hPN1 ⟨rfl, rfl⟩
    replace h := ifF hc1 h
    cases h
theorem v_L_lineAt {x1 : Int32} {x2 : Int32} {M z} (hP : Lay M) (h : d_L_lineAt x1 x2 M = some z) : CC Lay k_L_lineAt [.ref 1, .int x1, .int x2, .ref 127] M z.2 (Qv (some (.int z.1)) z.2) xF :=
  CC.ofVV (by decide) rfl (Nat.le_of_ble_eq_true rfl) (b_L_lineAt hP h)
noncomputable def d_L_guards (x1 : Int32) (M : Mem) : Option (Int32 × Mem) :=
  (d_X11_guards x1 M).bind fun y1 => match y1 with
  | (.inl y1, N1) => (
    bnd (sL N1 127 0 (y1.toInt64)) fun M1 =>
    some ((0 : Int32), M1))
  | (.inr E1, N1) => (
    if E1 = "java/lang/IndexOutOfBoundsException" then (
      some ((1 : Int32), N1))
    else none)
theorem b_L_guards {x1 : Int32} {M z} (hP : Lay M) (h : d_L_guards x1 M = some z) : VV Lay k_L_guards 0 [(0, .ref 1), (1, .int x1), (2, .ref 127)] [] M z.2 (Qv (some (.int z.1)) z.2) xF := by
  unfold d_L_guards at h
  refine Y_aload_n (pc := 0) (j := 2) dL_guards_0 rfl rfl ?_
  refine Y_iconst (pc := 1) (v := (0 : Int32)) dL_guards_1 rfl ?_
  refine Y_aload_n (pc := 2) (j := 0) dL_guards_2 rfl rfl ?_
  refine Y_iload_n (pc := 3) (j := 1) dL_guards_3 rfl rfl ?_
  obtain ⟨y1, qy1, h⟩ := bindE h
  have cy1 := v_X11_guards hP qy1
  have hPN1 := cy1.1.1
  obtain ⟨y1 | E1, N1⟩ := y1
  · replace h := id h
    refine C_V1r (k' := k_X11_guards) dL_guards_4 w7_208 i_X11_guards (lk_1 hP) ⟨Nat.le_of_ble_eq_true rfl, Nat.le_of_ble_eq_true rfl⟩ rfl (Nat.le_of_ble_eq_true rfl) (Nat.le_of_ble_eq_true rfl) (Nat.le_of_ble_eq_true rfl) (cy1.mono id (QSl rfl) (XSl rfl)) ?_
    refine Y_i2l (pc := 7) dL_guards_7 ?_
    refine Y_last (pc := 8) dL_guards_8 (lk_127 hPN1) (ln_127 hPN1) (vp_lit (by decide)) ?_
    obtain ⟨M1, eM1, h⟩ := bndE h
    refine VV.mem eM1 ?_
    have hP1 := hPN1.wL eM1
    refine Y_goto (pc := 9) (tgt := 15) dL_guards_9 (by decide) ?_
    refine Y_iconst (pc := 15) (v := (0 : Int32)) dL_guards_15 rfl ?_
    cases h
    exact Y_iret (pc := 16) rfl rfl dL_guards_16 hP1 ⟨rfl, rfl⟩
  · replace h := id h
    by_cases hc0 : E1 = "java/lang/IndexOutOfBoundsException"
    · replace h := ifT hc0 h
      subst hc0
      refine C_V1x (k' := k_X11_guards) dL_guards_4 w7_208 i_X11_guards (lk_1 hP) ⟨Nat.le_of_ble_eq_true rfl, Nat.le_of_ble_eq_true rfl⟩ rfl (Nat.le_of_ble_eq_true rfl) (Nat.le_of_ble_eq_true rfl) (Nat.le_of_ble_eq_true rfl) (cy1.mono id (QSr rfl) (XSr rfl)) ?_
      refine Y_catch_n (E := "java/lang/IndexOutOfBoundsException") (i := 3) (pre := []) (suf := []) (lv1 := [(0, .ref 1), (1, .int x1), (2, .ref 127)]) rfl hp_nil (by decide) (by decide) w3_223 (List.mem_of_getElem? (i := 12) rfl) dL_guards_12 rfl (by decide) rfl ?_
      refine Y_iconst (pc := 13) (v := (1 : Int32)) dL_guards_13 rfl ?_
      cases h
      exact Y_iret (pc := 14) rfl rfl dL_guards_14 hPN1 ⟨rfl, rfl⟩
    replace h := ifF hc0 h
    cases h
theorem v_L_guards {x1 : Int32} {M z} (hP : Lay M) (h : d_L_guards x1 M = some z) : CC Lay k_L_guards [.ref 1, .int x1, .ref 127] M z.2 (Qv (some (.int z.1)) z.2) xF :=
  CC.ofVV (by decide) rfl (Nat.le_of_ble_eq_true rfl) (b_L_guards hP h)
noncomputable def d_L_guardAt (x1 : Int32) (x2 : Int32) (M : Mem) : Option (Int32 × Mem) :=
  (d_X11_guardAt x1 x2 M).bind fun y1 => match y1 with
  | (.inl y1, N1) => (
    bnd (sL N1 127 0 (y1.toInt64)) fun M1 =>
    some ((0 : Int32), M1))
  | (.inr E1, N1) => (
    if E1 = "java/lang/IndexOutOfBoundsException" then (
      some ((1 : Int32), N1))
    else none)
theorem b_L_guardAt {x1 : Int32} {x2 : Int32} {M z} (hP : Lay M) (h : d_L_guardAt x1 x2 M = some z) : VV Lay k_L_guardAt 0 [(0, .ref 1), (1, .int x1), (2, .int x2), (3, .ref 127)] [] M z.2 (Qv (some (.int z.1)) z.2) xF := by
  unfold d_L_guardAt at h
  refine Y_aload_n (pc := 0) (j := 3) dL_guardAt_0 rfl rfl ?_
  refine Y_iconst (pc := 1) (v := (0 : Int32)) dL_guardAt_1 rfl ?_
  refine Y_aload_n (pc := 2) (j := 0) dL_guardAt_2 rfl rfl ?_
  refine Y_iload_n (pc := 3) (j := 1) dL_guardAt_3 rfl rfl ?_
  refine Y_iload_n (pc := 4) (j := 2) dL_guardAt_4 rfl rfl ?_
  obtain ⟨y1, qy1, h⟩ := bindE h
  have cy1 := v_X11_guardAt hP qy1
  have hPN1 := cy1.1.1
  obtain ⟨y1 | E1, N1⟩ := y1
  · replace h := id h
    refine C_V2r (k' := k_X11_guardAt) dL_guardAt_5 w7_215 i_X11_guardAt (lk_1 hP) ⟨Nat.le_of_ble_eq_true rfl, Nat.le_of_ble_eq_true rfl⟩ rfl (Nat.le_of_ble_eq_true rfl) (Nat.le_of_ble_eq_true rfl) (Nat.le_of_ble_eq_true rfl) (cy1.mono id (QSl rfl) (XSl rfl)) ?_
    refine Y_i2l (pc := 8) dL_guardAt_8 ?_
    refine Y_last (pc := 9) dL_guardAt_9 (lk_127 hPN1) (ln_127 hPN1) (vp_lit (by decide)) ?_
    obtain ⟨M1, eM1, h⟩ := bndE h
    refine VV.mem eM1 ?_
    have hP1 := hPN1.wL eM1
    refine Y_goto (pc := 10) (tgt := 17) dL_guardAt_10 (by decide) ?_
    refine Y_iconst (pc := 17) (v := (0 : Int32)) dL_guardAt_17 rfl ?_
    cases h
    exact Y_iret (pc := 18) rfl rfl dL_guardAt_18 hP1 ⟨rfl, rfl⟩
  · replace h := id h
    by_cases hc0 : E1 = "java/lang/IndexOutOfBoundsException"
    · replace h := ifT hc0 h
      subst hc0
      refine C_V2x (k' := k_X11_guardAt) dL_guardAt_5 w7_215 i_X11_guardAt (lk_1 hP) ⟨Nat.le_of_ble_eq_true rfl, Nat.le_of_ble_eq_true rfl⟩ rfl (Nat.le_of_ble_eq_true rfl) (Nat.le_of_ble_eq_true rfl) (Nat.le_of_ble_eq_true rfl) (cy1.mono id (QSr rfl) (XSr rfl)) ?_
      refine Y_catch (E := "java/lang/IndexOutOfBoundsException") (i := 4) (pre := []) (suf := []) (lv1 := [(0, .ref 1), (1, .int x1), (2, .int x2), (3, .ref 127)]) rfl hp_nil (by decide) (by decide) w3_223 (List.mem_of_getElem? (i := 12) rfl) dL_guardAt_13 (by decide) rfl ?_
      refine Y_iconst (pc := 15) (v := (1 : Int32)) dL_guardAt_15 rfl ?_
      cases h
      exact Y_iret (pc := 16) rfl rfl dL_guardAt_16 hPN1 ⟨rfl, rfl⟩
    replace h := ifF hc0 h
    cases h
theorem v_L_guardAt {x1 : Int32} {x2 : Int32} {M z} (hP : Lay M) (h : d_L_guardAt x1 x2 M = some z) : CC Lay k_L_guardAt [.ref 1, .int x1, .int x2, .ref 127] M z.2 (Qv (some (.int z.1)) z.2) xF :=
  CC.ofVV (by decide) rfl (Nat.le_of_ble_eq_true rfl) (b_L_guardAt hP h)
noncomputable def d_L_guardStep (x1 : Int32) (x2 : Int32) (M : Mem) : Option (Int32 × Mem) :=
  (d_X11_guardStep x1 x2 M).bind fun y1 => match y1 with
  | (.inl y1, N1) => (
    bnd (sL N1 127 0 (y1.toInt64)) fun M1 =>
    some ((0 : Int32), M1))
  | (.inr E1, N1) => (
    if E1 = "java/lang/IndexOutOfBoundsException" then (
      some ((1 : Int32), N1))
    else none)
theorem b_L_guardStep {x1 : Int32} {x2 : Int32} {M z} (hP : Lay M) (h : d_L_guardStep x1 x2 M = some z) : VV Lay k_L_guardStep 0 [(0, .ref 1), (1, .int x1), (2, .int x2), (3, .ref 127)] [] M z.2 (Qv (some (.int z.1)) z.2) xF := by
  unfold d_L_guardStep at h
  refine Y_aload_n (pc := 0) (j := 3) dL_guardStep_0 rfl rfl ?_
  refine Y_iconst (pc := 1) (v := (0 : Int32)) dL_guardStep_1 rfl ?_
  refine Y_aload_n (pc := 2) (j := 0) dL_guardStep_2 rfl rfl ?_
  refine Y_iload_n (pc := 3) (j := 1) dL_guardStep_3 rfl rfl ?_
  refine Y_iload_n (pc := 4) (j := 2) dL_guardStep_4 rfl rfl ?_
  obtain ⟨y1, qy1, h⟩ := bindE h
  have cy1 := v_X11_guardStep hP qy1
  have hPN1 := cy1.1.1
  obtain ⟨y1 | E1, N1⟩ := y1
  · replace h := id h
    refine C_V2r (k' := k_X11_guardStep) dL_guardStep_5 w7_227 i_X11_guardStep (lk_1 hP) ⟨Nat.le_of_ble_eq_true rfl, Nat.le_of_ble_eq_true rfl⟩ rfl (Nat.le_of_ble_eq_true rfl) (Nat.le_of_ble_eq_true rfl) (Nat.le_of_ble_eq_true rfl) (cy1.mono id (QSl rfl) (XSl rfl)) ?_
    refine Y_i2l (pc := 8) dL_guardStep_8 ?_
    refine Y_last (pc := 9) dL_guardStep_9 (lk_127 hPN1) (ln_127 hPN1) (vp_lit (by decide)) ?_
    obtain ⟨M1, eM1, h⟩ := bndE h
    refine VV.mem eM1 ?_
    have hP1 := hPN1.wL eM1
    refine Y_goto (pc := 10) (tgt := 17) dL_guardStep_10 (by decide) ?_
    refine Y_iconst (pc := 17) (v := (0 : Int32)) dL_guardStep_17 rfl ?_
    cases h
    exact Y_iret (pc := 18) rfl rfl dL_guardStep_18 hP1 ⟨rfl, rfl⟩
  · replace h := id h
    by_cases hc0 : E1 = "java/lang/IndexOutOfBoundsException"
    · replace h := ifT hc0 h
      subst hc0
      refine C_V2x (k' := k_X11_guardStep) dL_guardStep_5 w7_227 i_X11_guardStep (lk_1 hP) ⟨Nat.le_of_ble_eq_true rfl, Nat.le_of_ble_eq_true rfl⟩ rfl (Nat.le_of_ble_eq_true rfl) (Nat.le_of_ble_eq_true rfl) (Nat.le_of_ble_eq_true rfl) (cy1.mono id (QSr rfl) (XSr rfl)) ?_
      refine Y_catch (E := "java/lang/IndexOutOfBoundsException") (i := 4) (pre := []) (suf := []) (lv1 := [(0, .ref 1), (1, .int x1), (2, .int x2), (3, .ref 127)]) rfl hp_nil (by decide) (by decide) w3_223 (List.mem_of_getElem? (i := 12) rfl) dL_guardStep_13 (by decide) rfl ?_
      refine Y_iconst (pc := 15) (v := (1 : Int32)) dL_guardStep_15 rfl ?_
      cases h
      exact Y_iret (pc := 16) rfl rfl dL_guardStep_16 hPN1 ⟨rfl, rfl⟩
    replace h := ifF hc0 h
    cases h
theorem v_L_guardStep {x1 : Int32} {x2 : Int32} {M z} (hP : Lay M) (h : d_L_guardStep x1 x2 M = some z) : CC Lay k_L_guardStep [.ref 1, .int x1, .int x2, .ref 127] M z.2 (Qv (some (.int z.1)) z.2) xF :=
  CC.ofVV (by decide) rfl (Nat.le_of_ble_eq_true rfl) (b_L_guardStep hP h)
noncomputable def d_L_exits (x1 : Int32) (x2 : Int32) (M : Mem) : Option (Int32 × Mem) :=
  (d_X11_exits x1 x2 M).bind fun y1 => match y1 with
  | (.inl y1, N1) => (
    bnd (sL N1 127 0 (y1.toInt64)) fun M1 =>
    some ((0 : Int32), M1))
  | (.inr E1, N1) => (
    if E1 = "java/lang/IndexOutOfBoundsException" then (
      some ((1 : Int32), N1))
    else none)
theorem b_L_exits {x1 : Int32} {x2 : Int32} {M z} (hP : Lay M) (h : d_L_exits x1 x2 M = some z) : VV Lay k_L_exits 0 [(0, .ref 1), (1, .int x1), (2, .int x2), (3, .ref 127)] [] M z.2 (Qv (some (.int z.1)) z.2) xF := by
  unfold d_L_exits at h
  refine Y_aload_n (pc := 0) (j := 3) dL_exits_0 rfl rfl ?_
  refine Y_iconst (pc := 1) (v := (0 : Int32)) dL_exits_1 rfl ?_
  refine Y_aload_n (pc := 2) (j := 0) dL_exits_2 rfl rfl ?_
  refine Y_iload_n (pc := 3) (j := 1) dL_exits_3 rfl rfl ?_
  refine Y_iload_n (pc := 4) (j := 2) dL_exits_4 rfl rfl ?_
  obtain ⟨y1, qy1, h⟩ := bindE h
  have cy1 := v_X11_exits hP qy1
  have hPN1 := cy1.1.1
  obtain ⟨y1 | E1, N1⟩ := y1
  · replace h := id h
    refine C_V2r (k' := k_X11_exits) dL_exits_5 w7_234 i_X11_exits (lk_1 hP) ⟨Nat.le_of_ble_eq_true rfl, Nat.le_of_ble_eq_true rfl⟩ rfl (Nat.le_of_ble_eq_true rfl) (Nat.le_of_ble_eq_true rfl) (Nat.le_of_ble_eq_true rfl) (cy1.mono id (QSl rfl) (XSl rfl)) ?_
    refine Y_i2l (pc := 8) dL_exits_8 ?_
    refine Y_last (pc := 9) dL_exits_9 (lk_127 hPN1) (ln_127 hPN1) (vp_lit (by decide)) ?_
    obtain ⟨M1, eM1, h⟩ := bndE h
    refine VV.mem eM1 ?_
    have hP1 := hPN1.wL eM1
    refine Y_goto (pc := 10) (tgt := 17) dL_exits_10 (by decide) ?_
    refine Y_iconst (pc := 17) (v := (0 : Int32)) dL_exits_17 rfl ?_
    cases h
    exact Y_iret (pc := 18) rfl rfl dL_exits_18 hP1 ⟨rfl, rfl⟩
  · replace h := id h
    by_cases hc0 : E1 = "java/lang/IndexOutOfBoundsException"
    · replace h := ifT hc0 h
      subst hc0
      refine C_V2x (k' := k_X11_exits) dL_exits_5 w7_234 i_X11_exits (lk_1 hP) ⟨Nat.le_of_ble_eq_true rfl, Nat.le_of_ble_eq_true rfl⟩ rfl (Nat.le_of_ble_eq_true rfl) (Nat.le_of_ble_eq_true rfl) (Nat.le_of_ble_eq_true rfl) (cy1.mono id (QSr rfl) (XSr rfl)) ?_
      refine Y_catch (E := "java/lang/IndexOutOfBoundsException") (i := 4) (pre := []) (suf := []) (lv1 := [(0, .ref 1), (1, .int x1), (2, .int x2), (3, .ref 127)]) rfl hp_nil (by decide) (by decide) w3_223 (List.mem_of_getElem? (i := 12) rfl) dL_exits_13 (by decide) rfl ?_
      refine Y_iconst (pc := 15) (v := (1 : Int32)) dL_exits_15 rfl ?_
      cases h
      exact Y_iret (pc := 16) rfl rfl dL_exits_16 hPN1 ⟨rfl, rfl⟩
    replace h := ifF hc0 h
    cases h
theorem v_L_exits {x1 : Int32} {x2 : Int32} {M z} (hP : Lay M) (h : d_L_exits x1 x2 M = some z) : CC Lay k_L_exits [.ref 1, .int x1, .int x2, .ref 127] M z.2 (Qv (some (.int z.1)) z.2) xF :=
  CC.ofVV (by decide) rfl (Nat.le_of_ble_eq_true rfl) (b_L_exits hP h)
noncomputable def d_L_sideOf (x1 : Int32) (x2 : Int32) (M : Mem) : Option (Int32 × Mem) :=
  (d_X11_sideOf x1 x2 M).bind fun y1 => match y1 with
  | (.inl y1, N1) => (
    bnd (sL N1 127 0 (y1.toInt64)) fun M1 =>
    some ((0 : Int32), M1))
  | (.inr E1, N1) => (
    if E1 = "java/lang/IndexOutOfBoundsException" then (
      some ((1 : Int32), N1))
    else if E1 = "java/util/NoSuchElementException" then (
      some ((2 : Int32), N1))
    else none)
theorem b_L_sideOf {x1 : Int32} {x2 : Int32} {M z} (hP : Lay M) (h : d_L_sideOf x1 x2 M = some z) : VV Lay k_L_sideOf 0 [(0, .ref 1), (1, .int x1), (2, .int x2), (3, .ref 127)] [] M z.2 (Qv (some (.int z.1)) z.2) xF := by
  unfold d_L_sideOf at h
  refine Y_aload_n (pc := 0) (j := 3) dL_sideOf_0 rfl rfl ?_
  refine Y_iconst (pc := 1) (v := (0 : Int32)) dL_sideOf_1 rfl ?_
  refine Y_aload_n (pc := 2) (j := 0) dL_sideOf_2 rfl rfl ?_
  refine Y_iload_n (pc := 3) (j := 1) dL_sideOf_3 rfl rfl ?_
  refine Y_iload_n (pc := 4) (j := 2) dL_sideOf_4 rfl rfl ?_
  obtain ⟨y1, qy1, h⟩ := bindE h
  have cy1 := v_X11_sideOf hP qy1
  have hPN1 := cy1.1.1
  obtain ⟨y1 | E1, N1⟩ := y1
  · replace h := id h
    refine C_V2r (k' := k_X11_sideOf) dL_sideOf_5 w8_1 i_X11_sideOf (lk_1 hP) ⟨Nat.le_of_ble_eq_true rfl, Nat.le_of_ble_eq_true rfl⟩ rfl (Nat.le_of_ble_eq_true rfl) (Nat.le_of_ble_eq_true rfl) (Nat.le_of_ble_eq_true rfl) (cy1.mono id (QSl rfl) (XSl rfl)) ?_
    refine Y_i2l (pc := 8) dL_sideOf_8 ?_
    refine Y_last (pc := 9) dL_sideOf_9 (lk_127 hPN1) (ln_127 hPN1) (vp_lit (by decide)) ?_
    obtain ⟨M1, eM1, h⟩ := bndE h
    refine VV.mem eM1 ?_
    have hP1 := hPN1.wL eM1
    refine Y_goto (pc := 10) (tgt := 21) dL_sideOf_10 (by decide) ?_
    refine Y_iconst (pc := 21) (v := (0 : Int32)) dL_sideOf_21 rfl ?_
    cases h
    exact Y_iret (pc := 22) rfl rfl dL_sideOf_22 hP1 ⟨rfl, rfl⟩
  · replace h := id h
    by_cases hc0 : E1 = "java/lang/IndexOutOfBoundsException"
    · replace h := ifT hc0 h
      subst hc0
      refine C_V2x (k' := k_X11_sideOf) dL_sideOf_5 w8_1 i_X11_sideOf (lk_1 hP) ⟨Nat.le_of_ble_eq_true rfl, Nat.le_of_ble_eq_true rfl⟩ rfl (Nat.le_of_ble_eq_true rfl) (Nat.le_of_ble_eq_true rfl) (Nat.le_of_ble_eq_true rfl) (cy1.mono id (QSr rfl) (XSr rfl)) ?_
      refine Y_catch (E := "java/lang/IndexOutOfBoundsException") (i := 4) (pre := []) (suf := [(0, 10, 17, 36)]) (lv1 := [(0, .ref 1), (1, .int x1), (2, .int x2), (3, .ref 127)]) rfl hp_nil (by decide) (by decide) w3_223 (List.mem_of_getElem? (i := 12) rfl) dL_sideOf_13 (by decide) rfl ?_
      refine Y_iconst (pc := 15) (v := (1 : Int32)) dL_sideOf_15 rfl ?_
      cases h
      exact Y_iret (pc := 16) rfl rfl dL_sideOf_16 hPN1 ⟨rfl, rfl⟩
    replace h := ifF hc0 h
    by_cases hc1 : E1 = "java/util/NoSuchElementException"
    · replace h := ifT hc1 h
      subst hc1
      refine C_V2x (k' := k_X11_sideOf) dL_sideOf_5 w8_1 i_X11_sideOf (lk_1 hP) ⟨Nat.le_of_ble_eq_true rfl, Nat.le_of_ble_eq_true rfl⟩ rfl (Nat.le_of_ble_eq_true rfl) (Nat.le_of_ble_eq_true rfl) (Nat.le_of_ble_eq_true rfl) (cy1.mono id (QSr rfl) (XSr rfl)) ?_
      refine Y_catch (E := "java/util/NoSuchElementException") (i := 4) (pre := [(0, 10, 13, 21)]) (suf := []) (lv1 := [(0, .ref 1), (1, .int x1), (2, .int x2), (3, .ref 127)]) rfl (hp_cons (by decide) w3_223 (List.mem_of_getElem? (i := 13) rfl) hp_nil) (by decide) (by decide) w4_188 (List.mem_of_getElem? (i := 15) rfl) dL_sideOf_17 (by decide) rfl ?_
      refine Y_iconst (pc := 19) (v := (2 : Int32)) dL_sideOf_19 rfl ?_
      cases h
      exact Y_iret (pc := 20) rfl rfl dL_sideOf_20 hPN1 ⟨rfl, rfl⟩
    replace h := ifF hc1 h
    cases h
theorem v_L_sideOf {x1 : Int32} {x2 : Int32} {M z} (hP : Lay M) (h : d_L_sideOf x1 x2 M = some z) : CC Lay k_L_sideOf [.ref 1, .int x1, .int x2, .ref 127] M z.2 (Qv (some (.int z.1)) z.2) xF :=
  CC.ofVV (by decide) rfl (Nat.le_of_ble_eq_true rfl) (b_L_sideOf hP h)
noncomputable def d_L_rootOf (x1 : Int32) (M : Mem) : Option (Int32 × Mem) :=
  (d_X11_rootOf x1 M).bind fun y1 => match y1 with
  | (.inl y1, N1) => (
    bnd (sL N1 127 0 (y1.toInt64)) fun M1 =>
    some ((0 : Int32), M1))
  | (.inr E1, N1) => (
    if E1 = "java/lang/IndexOutOfBoundsException" then (
      some ((1 : Int32), N1))
    else none)
theorem b_L_rootOf {x1 : Int32} {M z} (hP : Lay M) (h : d_L_rootOf x1 M = some z) : VV Lay k_L_rootOf 0 [(0, .ref 1), (1, .int x1), (2, .ref 127)] [] M z.2 (Qv (some (.int z.1)) z.2) xF := by
  unfold d_L_rootOf at h
  refine Y_aload_n (pc := 0) (j := 2) dL_rootOf_0 rfl rfl ?_
  refine Y_iconst (pc := 1) (v := (0 : Int32)) dL_rootOf_1 rfl ?_
  refine Y_aload_n (pc := 2) (j := 0) dL_rootOf_2 rfl rfl ?_
  refine Y_iload_n (pc := 3) (j := 1) dL_rootOf_3 rfl rfl ?_
  obtain ⟨y1, qy1, h⟩ := bindE h
  have cy1 := v_X11_rootOf hP qy1
  have hPN1 := cy1.1.1
  obtain ⟨y1 | E1, N1⟩ := y1
  · replace h := id h
    refine C_V1r (k' := k_X11_rootOf) dL_rootOf_4 w8_9 i_X11_rootOf (lk_1 hP) ⟨Nat.le_of_ble_eq_true rfl, Nat.le_of_ble_eq_true rfl⟩ rfl (Nat.le_of_ble_eq_true rfl) (Nat.le_of_ble_eq_true rfl) (Nat.le_of_ble_eq_true rfl) (cy1.mono id (QSl rfl) (XSl rfl)) ?_
    refine Y_i2l (pc := 7) dL_rootOf_7 ?_
    refine Y_last (pc := 8) dL_rootOf_8 (lk_127 hPN1) (ln_127 hPN1) (vp_lit (by decide)) ?_
    obtain ⟨M1, eM1, h⟩ := bndE h
    refine VV.mem eM1 ?_
    have hP1 := hPN1.wL eM1
    refine Y_goto (pc := 9) (tgt := 15) dL_rootOf_9 (by decide) ?_
    refine Y_iconst (pc := 15) (v := (0 : Int32)) dL_rootOf_15 rfl ?_
    cases h
    exact Y_iret (pc := 16) rfl rfl dL_rootOf_16 hP1 ⟨rfl, rfl⟩
  · replace h := id h
    by_cases hc0 : E1 = "java/lang/IndexOutOfBoundsException"
    · replace h := ifT hc0 h
      subst hc0
      refine C_V1x (k' := k_X11_rootOf) dL_rootOf_4 w8_9 i_X11_rootOf (lk_1 hP) ⟨Nat.le_of_ble_eq_true rfl, Nat.le_of_ble_eq_true rfl⟩ rfl (Nat.le_of_ble_eq_true rfl) (Nat.le_of_ble_eq_true rfl) (Nat.le_of_ble_eq_true rfl) (cy1.mono id (QSr rfl) (XSr rfl)) ?_
      refine Y_catch_n (E := "java/lang/IndexOutOfBoundsException") (i := 3) (pre := []) (suf := []) (lv1 := [(0, .ref 1), (1, .int x1), (2, .ref 127)]) rfl hp_nil (by decide) (by decide) w3_223 (List.mem_of_getElem? (i := 12) rfl) dL_rootOf_12 rfl (by decide) rfl ?_
      refine Y_iconst (pc := 13) (v := (1 : Int32)) dL_rootOf_13 rfl ?_
      cases h
      exact Y_iret (pc := 14) rfl rfl dL_rootOf_14 hPN1 ⟨rfl, rfl⟩
    replace h := ifF hc0 h
    cases h
theorem v_L_rootOf {x1 : Int32} {M z} (hP : Lay M) (h : d_L_rootOf x1 M = some z) : CC Lay k_L_rootOf [.ref 1, .int x1, .ref 127] M z.2 (Qv (some (.int z.1)) z.2) xF :=
  CC.ofVV (by decide) rfl (Nat.le_of_ble_eq_true rfl) (b_L_rootOf hP h)
noncomputable def d_L_begun (x1 : Int32) (M : Mem) : Option (Int32 × Mem) :=
  (d_X11_begun x1 M).bind fun y1 => match y1 with
  | (.inl y1, N1) => (
    bnd (sL N1 127 0 (y1.toInt64)) fun M1 =>
    some ((0 : Int32), M1))
  | (.inr E1, N1) => (
    if E1 = "java/lang/IndexOutOfBoundsException" then (
      some ((1 : Int32), N1))
    else none)
theorem b_L_begun {x1 : Int32} {M z} (hP : Lay M) (h : d_L_begun x1 M = some z) : VV Lay k_L_begun 0 [(0, .ref 1), (1, .int x1), (2, .ref 127)] [] M z.2 (Qv (some (.int z.1)) z.2) xF := by
  unfold d_L_begun at h
  refine Y_aload_n (pc := 0) (j := 2) dL_begun_0 rfl rfl ?_
  refine Y_iconst (pc := 1) (v := (0 : Int32)) dL_begun_1 rfl ?_
  refine Y_aload_n (pc := 2) (j := 0) dL_begun_2 rfl rfl ?_
  refine Y_iload_n (pc := 3) (j := 1) dL_begun_3 rfl rfl ?_
  obtain ⟨y1, qy1, h⟩ := bindE h
  have cy1 := v_X11_begun hP qy1
  have hPN1 := cy1.1.1
  obtain ⟨y1 | E1, N1⟩ := y1
  · replace h := id h
    refine C_V1r (k' := k_X11_begun) dL_begun_4 w8_16 i_X11_begun (lk_1 hP) ⟨Nat.le_of_ble_eq_true rfl, Nat.le_of_ble_eq_true rfl⟩ rfl (Nat.le_of_ble_eq_true rfl) (Nat.le_of_ble_eq_true rfl) (Nat.le_of_ble_eq_true rfl) (cy1.mono id (QSl rfl) (XSl rfl)) ?_
    refine Y_i2l (pc := 7) dL_begun_7 ?_
    refine Y_last (pc := 8) dL_begun_8 (lk_127 hPN1) (ln_127 hPN1) (vp_lit (by decide)) ?_
    obtain ⟨M1, eM1, h⟩ := bndE h
    refine VV.mem eM1 ?_
    have hP1 := hPN1.wL eM1
    refine Y_goto (pc := 9) (tgt := 15) dL_begun_9 (by decide) ?_
    refine Y_iconst (pc := 15) (v := (0 : Int32)) dL_begun_15 rfl ?_
    cases h
    exact Y_iret (pc := 16) rfl rfl dL_begun_16 hP1 ⟨rfl, rfl⟩
  · replace h := id h
    by_cases hc0 : E1 = "java/lang/IndexOutOfBoundsException"
    · replace h := ifT hc0 h
      subst hc0
      refine C_V1x (k' := k_X11_begun) dL_begun_4 w8_16 i_X11_begun (lk_1 hP) ⟨Nat.le_of_ble_eq_true rfl, Nat.le_of_ble_eq_true rfl⟩ rfl (Nat.le_of_ble_eq_true rfl) (Nat.le_of_ble_eq_true rfl) (Nat.le_of_ble_eq_true rfl) (cy1.mono id (QSr rfl) (XSr rfl)) ?_
      refine Y_catch_n (E := "java/lang/IndexOutOfBoundsException") (i := 3) (pre := []) (suf := []) (lv1 := [(0, .ref 1), (1, .int x1), (2, .ref 127)]) rfl hp_nil (by decide) (by decide) w3_223 (List.mem_of_getElem? (i := 12) rfl) dL_begun_12 rfl (by decide) rfl ?_
      refine Y_iconst (pc := 13) (v := (1 : Int32)) dL_begun_13 rfl ?_
      cases h
      exact Y_iret (pc := 14) rfl rfl dL_begun_14 hPN1 ⟨rfl, rfl⟩
    replace h := ifF hc0 h
    cases h
theorem v_L_begun {x1 : Int32} {M z} (hP : Lay M) (h : d_L_begun x1 M = some z) : CC Lay k_L_begun [.ref 1, .int x1, .ref 127] M z.2 (Qv (some (.int z.1)) z.2) xF :=
  CC.ofVV (by decide) rfl (Nat.le_of_ble_eq_true rfl) (b_L_begun hP h)
noncomputable def d_L_tracedShare (M : Mem) : Option (Int32 × Mem) :=
  (d_X11_tracedShare M).bind fun y1 => match y1 with
  | (.inl y1, N1) => (
    okk (vf_n64 (FP.f2d y1)) <|
    bnd (sD N1 128 0 (FP.f2d y1)) fun M1 =>
    some ((0 : Int32), M1))
  | (.inr E1, N1) => (
    if E1 = "java/lang/ArithmeticException" then (
      some ((1 : Int32), N1))
    else none)
theorem b_L_tracedShare {M z} (hP : Lay M) (h : d_L_tracedShare M = some z) : VV Lay k_L_tracedShare 0 [(0, .ref 1), (1, .ref 128)] [] M z.2 (Qv (some (.int z.1)) z.2) xF := by
  unfold d_L_tracedShare at h
  refine Y_aload_n (pc := 0) (j := 1) dL_tracedShare_0 rfl rfl ?_
  refine Y_iconst (pc := 1) (v := (0 : Int32)) dL_tracedShare_1 rfl ?_
  refine Y_aload_n (pc := 2) (j := 0) dL_tracedShare_2 rfl rfl ?_
  obtain ⟨y1, qy1, h⟩ := bindE h
  have cy1 := v_X11_tracedShare hP qy1
  have hPN1 := cy1.1.1
  obtain ⟨y1 | E1, N1⟩ := y1
  · replace h := id h
    refine C_V0r (k' := k_X11_tracedShare) dL_tracedShare_3 w8_37 i_X11_tracedShare (lk_1 hP) ⟨Nat.le_of_ble_eq_true rfl, Nat.le_of_ble_eq_true rfl⟩ rfl (Nat.le_of_ble_eq_true rfl) (Nat.le_of_ble_eq_true rfl) (Nat.le_of_ble_eq_true rfl) (cy1.mono id (QSl rfl) (XSl rfl)) ?_
    obtain ⟨hb1, h⟩ := okE h
    refine Y_f2d (pc := 6) dL_tracedShare_6 hb1 ?_
    refine Y_dast (pc := 7) dL_tracedShare_7 (lk_128 hPN1) (ln_128 hPN1) (vp_lit (by decide)) ?_
    obtain ⟨M1, eM1, h⟩ := bndE h
    refine VV.mem eM1 ?_
    have hP1 := hPN1.wD eM1
    refine Y_goto (pc := 8) (tgt := 14) dL_tracedShare_8 (by decide) ?_
    refine Y_iconst (pc := 14) (v := (0 : Int32)) dL_tracedShare_14 rfl ?_
    cases h
    exact Y_iret (pc := 15) rfl rfl dL_tracedShare_15 hP1 ⟨rfl, rfl⟩
  · replace h := id h
    by_cases hc0 : E1 = "java/lang/ArithmeticException"
    · replace h := ifT hc0 h
      subst hc0
      refine C_V0x (k' := k_X11_tracedShare) dL_tracedShare_3 w8_37 i_X11_tracedShare (lk_1 hP) ⟨Nat.le_of_ble_eq_true rfl, Nat.le_of_ble_eq_true rfl⟩ rfl (Nat.le_of_ble_eq_true rfl) (Nat.le_of_ble_eq_true rfl) (Nat.le_of_ble_eq_true rfl) (cy1.mono id (QSr rfl) (XSr rfl)) ?_
      refine Y_catch_n (E := "java/lang/ArithmeticException") (i := 2) (pre := []) (suf := []) (lv1 := [(0, .ref 1), (1, .ref 128)]) rfl hp_nil (by decide) (by decide) w8_23 (List.mem_of_getElem? (i := 21) rfl) dL_tracedShare_11 rfl (by decide) rfl ?_
      refine Y_iconst (pc := 12) (v := (1 : Int32)) dL_tracedShare_12 rfl ?_
      cases h
      exact Y_iret (pc := 13) rfl rfl dL_tracedShare_13 hPN1 ⟨rfl, rfl⟩
    replace h := ifF hc0 h
    cases h
theorem v_L_tracedShare {M z} (hP : Lay M) (h : d_L_tracedShare M = some z) : CC Lay k_L_tracedShare [.ref 1, .ref 128] M z.2 (Qv (some (.int z.1)) z.2) xF :=
  CC.ofVV (by decide) rfl (Nat.le_of_ble_eq_true rfl) (b_L_tracedShare hP h)
noncomputable def d_L_meanGuards (M : Mem) : Option (Int32 × Mem) :=
  (d_X11_meanGuards M).bind fun y1 => match y1 with
  | (.inl y1, N1) => (
    bnd (sD N1 128 0 y1) fun M1 =>
    some ((0 : Int32), M1))
  | (.inr E1, N1) => (
    if E1 = "java/lang/ArithmeticException" then (
      some ((1 : Int32), N1))
    else none)
theorem b_L_meanGuards {M z} (hP : Lay M) (h : d_L_meanGuards M = some z) : VV Lay k_L_meanGuards 0 [(0, .ref 1), (1, .ref 128)] [] M z.2 (Qv (some (.int z.1)) z.2) xF := by
  unfold d_L_meanGuards at h
  refine Y_aload_n (pc := 0) (j := 1) dL_meanGuards_0 rfl rfl ?_
  refine Y_iconst (pc := 1) (v := (0 : Int32)) dL_meanGuards_1 rfl ?_
  refine Y_aload_n (pc := 2) (j := 0) dL_meanGuards_2 rfl rfl ?_
  obtain ⟨y1, qy1, h⟩ := bindE h
  have cy1 := v_X11_meanGuards hP qy1
  have hPN1 := cy1.1.1
  obtain ⟨y1 | E1, N1⟩ := y1
  · replace h := id h
    refine C_V0r (k' := k_X11_meanGuards) dL_meanGuards_3 w8_47 i_X11_meanGuards (lk_1 hP) ⟨Nat.le_of_ble_eq_true rfl, Nat.le_of_ble_eq_true rfl⟩ rfl (Nat.le_of_ble_eq_true rfl) (Nat.le_of_ble_eq_true rfl) (Nat.le_of_ble_eq_true rfl) (cy1.mono id (QSl rfl) (XSl rfl)) ?_
    refine Y_dast (pc := 6) dL_meanGuards_6 (lk_128 hPN1) (ln_128 hPN1) (vp_lit (by decide)) ?_
    obtain ⟨M1, eM1, h⟩ := bndE h
    refine VV.mem eM1 ?_
    have hP1 := hPN1.wD eM1
    refine Y_goto (pc := 7) (tgt := 13) dL_meanGuards_7 (by decide) ?_
    refine Y_iconst (pc := 13) (v := (0 : Int32)) dL_meanGuards_13 rfl ?_
    cases h
    exact Y_iret (pc := 14) rfl rfl dL_meanGuards_14 hP1 ⟨rfl, rfl⟩
  · replace h := id h
    by_cases hc0 : E1 = "java/lang/ArithmeticException"
    · replace h := ifT hc0 h
      subst hc0
      refine C_V0x (k' := k_X11_meanGuards) dL_meanGuards_3 w8_47 i_X11_meanGuards (lk_1 hP) ⟨Nat.le_of_ble_eq_true rfl, Nat.le_of_ble_eq_true rfl⟩ rfl (Nat.le_of_ble_eq_true rfl) (Nat.le_of_ble_eq_true rfl) (Nat.le_of_ble_eq_true rfl) (cy1.mono id (QSr rfl) (XSr rfl)) ?_
      refine Y_catch_n (E := "java/lang/ArithmeticException") (i := 2) (pre := []) (suf := []) (lv1 := [(0, .ref 1), (1, .ref 128)]) rfl hp_nil (by decide) (by decide) w8_23 (List.mem_of_getElem? (i := 21) rfl) dL_meanGuards_10 rfl (by decide) rfl ?_
      refine Y_iconst (pc := 11) (v := (1 : Int32)) dL_meanGuards_11 rfl ?_
      cases h
      exact Y_iret (pc := 12) rfl rfl dL_meanGuards_12 hPN1 ⟨rfl, rfl⟩
    replace h := ifF hc0 h
    cases h
theorem v_L_meanGuards {M z} (hP : Lay M) (h : d_L_meanGuards M = some z) : CC Lay k_L_meanGuards [.ref 1, .ref 128] M z.2 (Qv (some (.int z.1)) z.2) xF :=
  CC.ofVV (by decide) rfl (Nat.le_of_ble_eq_true rfl) (b_L_meanGuards hP h)
end VCR
