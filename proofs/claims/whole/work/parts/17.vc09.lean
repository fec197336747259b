/-! ===== what the methods reckon (printed by a program) ===== -/
section VCR
noncomputable def d_X3_call_25b (k25 : (Int32) → Mem → Option (Unit × Mem)) (o : Nat) (x2 : Int32) (x3 : Int32) (x4 : Int32) (M : Mem) : Option (Unit × Mem) :=
  if x2 ≤ x4 then (
    some ((), M))
  else (
    okk (vp_in x3 12) <|
    (d_X11_localPlace (x3 + (1 : Int32)) x4 M).bind fun y1 =>
    (d_X8_move o ((((x3 * (14 : Int32)) + (6 : Int32)) + (mI M (o + 8) x3.toNatClampNeg)) + x4) y1.1 y1.2).bind fun y2 =>
    bnd ((x4 + (1 : Int32))) fun b1 =>
    k25 (b1) y2.2)
theorem b_X3_call_25b {k25 : (Int32) → Mem → Option (Unit × Mem)} {o : Nat} {x2 : Int32} {x3 : Int32} {x4 : Int32} {M z} (ho : o = 18 ∨ o = 28) (hk25 : ∀ (a : (Int32)) (M : Mem) (z : Unit × Mem), Lay M → k25 a M = some z → VV Lay k_X3_call 25 [(0, .ref o), (2, .int x2), (3, .int x3), (4, .int a)] [] M z.2 (Qv (none) z.2) xF) (hP : Lay M) (h : d_X3_call_25b k25 o x2 x3 x4 M = some z) : VV Lay k_X3_call 25 [(0, .ref o), (2, .int x2), (3, .int x3), (4, .int x4)] [] M z.2 (Qv (none) z.2) xF := by
  unfold d_X3_call_25b at h
  refine Y_iload (pc := 25) (j := 3) dX3_call_25 rfl ?_
  refine Y_iload_n (pc := 27) (j := 1) dX3_call_27 rfl rfl ?_
  refine Y_icmp_ge (pc := 28) (tgt := 69) dX3_call_28 (by decide) (fun hc1 => ?_) (fun hc1 => ?_)
  · replace h := ifT hc1 h
    cases h
    exact Y_vret (pc := 69) rfl dX3_call_69 hP ⟨rfl, rfl⟩
  · replace h := ifF hc1 h
    refine Y_aload_n (pc := 31) (j := 0) dX3_call_31 rfl rfl ?_
    refine Z_getr (pc := 32) dX3_call_32 w1_171 (lo_0 hP ho) fr_4_2 (lor_0_2 hP ho) ?_
    refine Y_iload_n (pc := 35) (j := 2) dX3_call_35 rfl rfl ?_
    refine Y_bipush (pc := 36) (v := (14 : Int32)) dX3_call_36 rfl ?_
    refine Y_imul (pc := 38) dX3_call_38 ?_
    refine Y_bipush (pc := 39) (v := (6 : Int32)) dX3_call_39 rfl ?_
    refine Y_iadd (pc := 41) dX3_call_41 ?_
    refine Y_aload_n (pc := 42) (j := 0) dX3_call_42 rfl rfl ?_
    refine Z_getr (pc := 43) dX3_call_43 w1_176 (lo_0 hP ho) fr_4_5 (lor_0_5 hP ho) ?_
    refine Y_iload_n (pc := 46) (j := 2) dX3_call_46 rfl rfl ?_
    obtain ⟨hb1, h⟩ := okE h
    refine Y_iald (pc := 47) dX3_call_47 (lo_8 hP ho) (lon_8 hP ho) hb1 ?_
    refine Y_iadd (pc := 48) dX3_call_48 ?_
    refine Y_iload (pc := 49) (j := 3) dX3_call_49 rfl ?_
    refine Y_iadd (pc := 51) dX3_call_51 ?_
    refine Y_iload_n (pc := 52) (j := 2) dX3_call_52 rfl rfl ?_
    refine Y_iconst (pc := 53) (v := (1 : Int32)) dX3_call_53 rfl ?_
    refine Y_iadd (pc := 54) dX3_call_54 ?_
    refine Y_iload (pc := 55) (j := 3) dX3_call_55 rfl ?_
    obtain ⟨y1, qy1, h⟩ := bindE h
    have cy1 := v_X11_localPlace hP qy1
    refine C_N2r (pc := 57) (k' := k_X11_localPlace) dX3_call_57 nl_Machine_66 i_X11_localPlace (Nat.le_of_ble_eq_true rfl) (Nat.le_of_ble_eq_true rfl) (Nat.le_of_ble_eq_true rfl) (cy1) ?_
    have hPy1 := cy1.1.1
    obtain ⟨y2, qy2, h⟩ := bindE h
    have cy2 := v_X8_move ho hPy1 qy2
    refine C_V2o (pc := 60) (k' := k_X8_move) dX3_call_60 w5_193 i_X8_move (lo_1 hPy1 ho) ⟨Nat.le_of_ble_eq_true rfl, Nat.le_of_ble_eq_true rfl⟩ rfl (Nat.le_of_ble_eq_true rfl) (Nat.le_of_ble_eq_true rfl) (Nat.le_of_ble_eq_true rfl) (cy2) ?_
    have hPy2 := cy2.1.1
    obtain ⟨b1, eb1, h⟩ := bndE h
    refine Y_iinc (pc := 63) (j := 3) (v := b1) (lv1 := [(4, .int b1), (0, .ref o), (2, .int x2), (3, .int x3)]) dX3_call_63 rfl eb1.symm (by decide) rfl ?_
    refine Y_goto (pc := 66) (tgt := 25) dX3_call_66 (by decide) ?_
    refine VV.sub [1, 2, 3, 0] rfl ?_
    exact hk25 _ _ _ hPy2 h
noncomputable def d_X3_call_25 (o : Nat) (x2 : Int32) (x3 : Int32) : Nat → (Int32) → Mem → Option (Unit × Mem) := lp fun k a M => d_X3_call_25b k o x2 x3 a M
theorem b_X3_call_25 {o : Nat} {x2 : Int32} {x3 : Int32} (ho : o = 18 ∨ o = 28) (n : Nat) : ∀ (a : (Int32)) (M : Mem) (z : Unit × Mem), d_X3_call_25 o x2 x3 n a M = some z → Lay M → VV Lay k_X3_call 25 [(0, .ref o), (2, .int x2), (3, .int x3), (4, .int a)] [] M z.2 (Qv (none) z.2) xF :=
  lp_ind (G := fun (a : (Int32)) (M : Mem) (z : Unit × Mem) => Lay M → VV Lay k_X3_call 25 [(0, .ref o), (2, .int x2), (3, .int x3), (4, .int a)] [] M z.2 (Qv (none) z.2) xF) (fun k hk a M z h hP => b_X3_call_25b ho (fun a M z hP h => hk a M z h hP) hP h) n
noncomputable def d_X3_call (o : Nat) (x1 : Int32) (x2 : Int32) (M : Mem) : Option (Unit × Mem) :=
  bnd (((mI M o 9) - (1 : Int32))) fun b1 =>
  okk (vp_in b1 12) <|
  okk (vp_in b1 12) <|
  bnd (sI M (o + 8) b1.toNatClampNeg ((mI M (o + 8) b1.toNatClampNeg) - x2)) fun M1 =>
  (d_X3_addFrame o x1 M1).bind fun y1 =>
  d_X3_call_25 o x2 b1 fuel ((0 : Int32)) y1.2
theorem b_X3_call {o : Nat} {x1 : Int32} {x2 : Int32} {M z} (ho : o = 18 ∨ o = 28) (hP : Lay M) (h : d_X3_call o x1 x2 M = some z) : VV Lay k_X3_call 0 [(0, .ref o), (1, .int x1), (2, .int x2)] [] M z.2 (Qv (none) z.2) xF := by
  unfold d_X3_call at h
  refine Y_aload_n (pc := 0) (j := 0) dX3_call_0 rfl rfl ?_
  refine Z_geti (pc := 1) dX3_call_1 w1_184 (lo_0 hP ho) fi_4_9 ?_
  refine Y_iconst (pc := 4) (v := (1 : Int32)) dX3_call_4 rfl ?_
  refine Y_isub (pc := 5) dX3_call_5 ?_
  obtain ⟨b1, eb1, h⟩ := bndE h
  refine VV.topI eb1 ?_
  refine Y_istore_n (pc := 6) (lv1 := [(3, .int b1), (0, .ref o), (1, .int x1), (2, .int x2)]) dX3_call_6 rfl (by decide) rfl ?_
  refine Y_aload_n (pc := 7) (j := 1) dX3_call_7 rfl rfl ?_
  refine Z_getr (pc := 8) dX3_call_8 w1_176 (lo_0 hP ho) fr_4_5 (lor_0_5 hP ho) ?_
  refine Y_iload_n (pc := 11) (j := 0) dX3_call_11 rfl rfl ?_
  refine Y_dup2 (pc := 12) dX3_call_12 rfl rfl ?_
  obtain ⟨hb1, h⟩ := okE h
  refine Y_iald (pc := 13) dX3_call_13 (lo_8 hP ho) (lon_8 hP ho) hb1 ?_
  refine Y_iload_n (pc := 14) (j := 3) dX3_call_14 rfl rfl ?_
  refine Y_isub (pc := 15) dX3_call_15 ?_
  obtain ⟨hb2, h⟩ := okE h
  refine Y_iast (pc := 16) dX3_call_16 (lo_8 hP ho) (lon_8 hP ho) hb2 ?_
  obtain ⟨M1, eM1, h⟩ := bndE h
  refine VV.mem eM1 ?_
  have hP1 := hP.wI eM1
  refine Y_aload_n (pc := 17) (j := 1) dX3_call_17 rfl rfl ?_
  refine Y_iload_n (pc := 18) (j := 2) dX3_call_18 rfl rfl ?_
  obtain ⟨y1, qy1, h⟩ := bindE h
  have cy1 := v_X3_addFrame ho hP1 qy1
  refine C_V1o (pc := 19) (k' := k_X3_addFrame) dX3_call_19 w5_31 i_X3_addFrame (lo_0 hP1 ho) ⟨Nat.le_of_ble_eq_true rfl, Nat.le_of_ble_eq_true rfl⟩ rfl (Nat.le_of_ble_eq_true rfl) (Nat.le_of_ble_eq_true rfl) (Nat.le_of_ble_eq_true rfl) (cy1) ?_
  have hPy1 := cy1.1.1
  refine Y_iconst (pc := 22) (v := (0 : Int32)) dX3_call_22 rfl ?_
  refine Y_istore (pc := 23) (lv1 := [(4, .int (0 : Int32)), (3, .int b1), (0, .ref o), (1, .int x1), (2, .int x2)]) dX3_call_23 (by decide) rfl ?_
  refine VV.sub [2, 4, 1, 0] rfl ?_
  exact b_X3_call_25 ho fuel _ _ _ h hPy1
theorem v_X3_call {o : Nat} {x1 : Int32} {x2 : Int32} {M z} (ho : o = 18 ∨ o = 28) (hP : Lay M) (h : d_X3_call o x1 x2 M = some z) : CC Lay k_X3_call [.ref o, .int x1, .int x2] M z.2 (Qv (none) z.2) xF :=
  CC.ofVV (by decide) rfl (Nat.le_of_ble_eq_true rfl) (b_X3_call ho hP h)
noncomputable def d_X3_pushMoved (o : Nat) (x1 : Int32) (M : Mem) : Option (Unit × Mem) :=
  okk (vp_in ((mI M o 9) - (1 : Int32)) 12) <|
  okk (vp_in ((mI M o 9) - (1 : Int32)) 12) <|
  bnd (sI M (o + 8) ((mI M o 9) - (1 : Int32)).toNatClampNeg ((mI M (o + 8) ((mI M o 9) - (1 : Int32)).toNatClampNeg) + (1 : Int32))) fun M1 =>
  (d_X3_fromTop o (1 : Int32) M1).bind fun y1 =>
  (d_X8_move o x1 y1.1 y1.2).bind fun y2 =>
  some ((), y2.2)
theorem b_X3_pushMoved {o : Nat} {x1 : Int32} {M z} (ho : o = 18 ∨ o = 28) (hP : Lay M) (h : d_X3_pushMoved o x1 M = some z) : VV Lay k_X3_pushMoved 0 [(0, .ref o), (1, .int x1)] [] M z.2 (Qv (none) z.2) xF := by
  unfold d_X3_pushMoved at h
  refine Y_aload_n (pc := 0) (j := 0) dX3_pushMoved_0 rfl rfl ?_
  refine Z_getr (pc := 1) dX3_pushMoved_1 w1_176 (lo_0 hP ho) fr_4_5 (lor_0_5 hP ho) ?_
  refine Y_aload_n (pc := 4) (j := 0) dX3_pushMoved_4 rfl rfl ?_
  refine Z_geti (pc := 5) dX3_pushMoved_5 w1_184 (lo_0 hP ho) fi_4_9 ?_
  refine Y_iconst (pc := 8) (v := (1 : Int32)) dX3_pushMoved_8 rfl ?_
  refine Y_isub (pc := 9) dX3_pushMoved_9 ?_
  refine Y_dup2 (pc := 10) dX3_pushMoved_10 rfl rfl ?_
  obtain ⟨hb1, h⟩ := okE h
  refine Y_iald (pc := 11) dX3_pushMoved_11 (lo_8 hP ho) (lon_8 hP ho) hb1 ?_
  refine Y_iconst (pc := 12) (v := (1 : Int32)) dX3_pushMoved_12 rfl ?_
  refine Y_iadd (pc := 13) dX3_pushMoved_13 ?_
  obtain ⟨hb2, h⟩ := okE h
  refine Y_iast (pc := 14) dX3_pushMoved_14 (lo_8 hP ho) (lon_8 hP ho) hb2 ?_
  obtain ⟨M1, eM1, h⟩ := bndE h
  refine VV.mem eM1 ?_
  have hP1 := hP.wI eM1
  refine Y_aload_n (pc := 15) (j := 0) dX3_pushMoved_15 rfl rfl ?_
  refine Z_getr (pc := 16) dX3_pushMoved_16 w1_171 (lo_0 hP1 ho) fr_4_2 (lor_0_2 hP1 ho) ?_
  refine Y_iload_n (pc := 19) (j := 1) dX3_pushMoved_19 rfl rfl ?_
  refine Y_aload_n (pc := 20) (j := 0) dX3_pushMoved_20 rfl rfl ?_
  refine Y_iconst (pc := 21) (v := (1 : Int32)) dX3_pushMoved_21 rfl ?_
  obtain ⟨y1, qy1, h⟩ := bindE h
  have cy1 := v_X3_fromTop ho hP1 qy1
  refine C_V1r (pc := 22) (k' := k_X3_fromTop) dX3_pushMoved_22 w5_106 i_X3_fromTop (lo_0 hP1 ho) ⟨Nat.le_of_ble_eq_true rfl, Nat.le_of_ble_eq_true rfl⟩ rfl (Nat.le_of_ble_eq_true rfl) (Nat.le_of_ble_eq_true rfl) (Nat.le_of_ble_eq_true rfl) (cy1) ?_
  have hPy1 := cy1.1.1
  obtain ⟨y2, qy2, h⟩ := bindE h
  have cy2 := v_X8_move ho hPy1 qy2
  refine C_V2o (pc := 25) (k' := k_X8_move) dX3_pushMoved_25 w5_193 i_X8_move (lo_1 hPy1 ho) ⟨Nat.le_of_ble_eq_true rfl, Nat.le_of_ble_eq_true rfl⟩ rfl (Nat.le_of_ble_eq_true rfl) (Nat.le_of_ble_eq_true rfl) (Nat.le_of_ble_eq_true rfl) (cy2) ?_
  have hPy2 := cy2.1.1
  cases h
  exact Y_vret (pc := 28) rfl dX3_pushMoved_28 hPy2 ⟨rfl, rfl⟩
theorem v_X3_pushMoved {o : Nat} {x1 : Int32} {M z} (ho : o = 18 ∨ o = 28) (hP : Lay M) (h : d_X3_pushMoved o x1 M = some z) : CC Lay k_X3_pushMoved [.ref o, .int x1] M z.2 (Qv (none) z.2) xF :=
  CC.ofVV (by decide) rfl (Nat.le_of_ble_eq_true rfl) (b_X3_pushMoved ho hP h)
noncomputable def d_X3_giveBack (o : Nat) (M : Mem) : Option (Unit × Mem) :=
  (d_X3_take o M).bind fun y1 =>
  bnd (sI y1.2 o 9 ((mI y1.2 o 9) - (1 : Int32))) fun M1 =>
  if (mI M1 o 9) = 0 then (
    (d_X8_move o y1.1 (548 : Int32) M1).bind fun y3 =>
    bnd (sI y3.2 o 13 (118 : Int32)) fun M2 =>
    some ((), M2))
  else (
    (d_X3_pushMoved o y1.1 M1).bind fun y2 =>
    some ((), y2.2))
theorem b_X3_giveBack {o : Nat} {M z} (ho : o = 18 ∨ o = 28) (hP : Lay M) (h : d_X3_giveBack o M = some z) : VV Lay k_X3_giveBack 0 [(0, .ref o)] [] M z.2 (Qv (none) z.2) xF := by
  unfold d_X3_giveBack at h
  refine Y_aload_n (pc := 0) (j := 0) dX3_giveBack_0 rfl rfl ?_
  obtain ⟨y1, qy1, h⟩ := bindE h
  have cy1 := v_X3_take ho hP qy1
  refine C_V0r (pc := 1) (k' := k_X3_take) dX3_giveBack_1 w5_181 i_X3_take (lo_0 hP ho) ⟨Nat.le_of_ble_eq_true rfl, Nat.le_of_ble_eq_true rfl⟩ rfl (Nat.le_of_ble_eq_true rfl) (Nat.le_of_ble_eq_true rfl) (Nat.le_of_ble_eq_true rfl) (cy1) ?_
  have hPy1 := cy1.1.1
  refine Y_istore_n (pc := 4) (lv1 := [(1, .int y1.1), (0, .ref o)]) dX3_giveBack_4 rfl (by decide) rfl ?_
  refine Y_aload_n (pc := 5) (j := 1) dX3_giveBack_5 rfl rfl ?_
  refine Y_dup (pc := 6) dX3_giveBack_6 rfl ?_
  refine Z_geti (pc := 7) dX3_giveBack_7 w1_184 (lo_0 hPy1 ho) fi_4_9 ?_
  refine Y_iconst (pc := 10) (v := (1 : Int32)) dX3_giveBack_10 rfl ?_
  refine Y_isub (pc := 11) dX3_giveBack_11 ?_
  refine Z_puti (pc := 12) dX3_giveBack_12 w1_184 (lo_0 hPy1 ho) fi_4_9 (Or.inl rfl) rfl ?_
  obtain ⟨M1, eM1, h⟩ := bndE h
  refine VV.mem eM1 ?_
  have hP1 := hPy1.wI eM1
  refine Y_aload_n (pc := 15) (j := 1) dX3_giveBack_15 rfl rfl ?_
  refine Z_geti (pc := 16) dX3_giveBack_16 w1_184 (lo_0 hP1 ho) fi_4_9 ?_
  refine Y_if_ne (pc := 19) (tgt := 42) dX3_giveBack_19 (by decide) (fun hc1 => ?_) (fun hc1 => ?_)
  · replace h := ifF hc1 h
    refine Y_aload_n (pc := 42) (j := 1) dX3_giveBack_42 rfl rfl ?_
    refine Y_iload_n (pc := 43) (j := 0) dX3_giveBack_43 rfl rfl ?_
    obtain ⟨y2, qy2, h⟩ := bindE h
    have cy2 := v_X3_pushMoved ho hP1 qy2
    refine C_V1o (pc := 44) (k' := k_X3_pushMoved) dX3_giveBack_44 w5_201 i_X3_pushMoved (lo_0 hP1 ho) ⟨Nat.le_of_ble_eq_true rfl, Nat.le_of_ble_eq_true rfl⟩ rfl (Nat.le_of_ble_eq_true rfl) (Nat.le_of_ble_eq_true rfl) (Nat.le_of_ble_eq_true rfl) (cy2) ?_
    have hPy2 := cy2.1.1
    cases h
    exact Y_vret (pc := 47) rfl dX3_giveBack_47 hPy2 ⟨rfl, rfl⟩
  · replace h := ifT hc1 h
    refine Y_aload_n (pc := 22) (j := 1) dX3_giveBack_22 rfl rfl ?_
    refine Z_getr (pc := 23) dX3_giveBack_23 w1_171 (lo_0 hP1 ho) fr_4_2 (lor_0_2 hP1 ho) ?_
    refine Y_iload_n (pc := 26) (j := 0) dX3_giveBack_26 rfl rfl ?_
    refine Y_sipush (pc := 27) (v := (548 : Int32)) dX3_giveBack_27 rfl ?_
    obtain ⟨y3, qy3, h⟩ := bindE h
    have cy3 := v_X8_move ho hP1 qy3
    refine C_V2o (pc := 30) (k' := k_X8_move) dX3_giveBack_30 w5_193 i_X8_move (lo_1 hP1 ho) ⟨Nat.le_of_ble_eq_true rfl, Nat.le_of_ble_eq_true rfl⟩ rfl (Nat.le_of_ble_eq_true rfl) (Nat.le_of_ble_eq_true rfl) (Nat.le_of_ble_eq_true rfl) (cy3) ?_
    have hPy3 := cy3.1.1
    refine Y_aload_n (pc := 33) (j := 1) dX3_giveBack_33 rfl rfl ?_
    refine Y_bipush (pc := 34) (v := (118 : Int32)) dX3_giveBack_34 rfl ?_
    refine Z_putc (pc := 36) dX3_giveBack_36 w1_193 (lo_0 hPy3 ho) fi_4_13 (Or.inl rfl) rfl (by decide) ?_
    obtain ⟨M2, eM2, h⟩ := bndE h
    refine VV.mem eM2 ?_
    have hP2 := hPy3.wI eM2
    refine Y_goto (pc := 39) (tgt := 47) dX3_giveBack_39 (by decide) ?_
    cases h
    exact Y_vret (pc := 47) rfl dX3_giveBack_47 hP2 ⟨rfl, rfl⟩
theorem v_X3_giveBack {o : Nat} {M z} (ho : o = 18 ∨ o = 28) (hP : Lay M) (h : d_X3_giveBack o M = some z) : CC Lay k_X3_giveBack [.ref o] M z.2 (Qv (none) z.2) xF :=
  CC.ofVV (by decide) rfl (Nat.le_of_ble_eq_true rfl) (b_X3_giveBack ho hP h)
noncomputable def d_X11_fieldPlace (x0 : Int32) (x1 : Int32) (M : Mem) : Option (Int32 × Mem) :=
  some ((((168 : Int32) + (x0 * (6 : Int32))) + x1), M)
theorem b_X11_fieldPlace {x0 : Int32} {x1 : Int32} {M z} (hP : Lay M) (h : d_X11_fieldPlace x0 x1 M = some z) : VV Lay k_X11_fieldPlace 0 [(0, .int x0), (1, .int x1)] [] M z.2 (Qv (some (.int z.1)) z.2) xF := by
  unfold d_X11_fieldPlace at h
  refine Y_sipush (pc := 0) (v := (168 : Int32)) dX11_fieldPlace_0 rfl ?_
  refine Y_iload_n (pc := 3) (j := 0) dX11_fieldPlace_3 rfl rfl ?_
  refine Y_bipush (pc := 4) (v := (6 : Int32)) dX11_fieldPlace_4 rfl ?_
  refine Y_imul (pc := 6) dX11_fieldPlace_6 ?_
  refine Y_iadd (pc := 7) dX11_fieldPlace_7 ?_
  refine Y_iload_n (pc := 8) (j := 1) dX11_fieldPlace_8 rfl rfl ?_
  refine Y_iadd (pc := 9) dX11_fieldPlace_9 ?_
  cases h
  exact Y_iret (pc := 10) rfl rfl dX11_fieldPlace_10 hP ⟨rfl, rfl⟩
theorem v_X11_fieldPlace {x0 : Int32} {x1 : Int32} {M z} (hP : Lay M) (h : d_X11_fieldPlace x0 x1 M = some z) : CC Lay k_X11_fieldPlace [.int x0, .int x1] M z.2 (Qv (some (.int z.1)) z.2) xF :=
  CC.ofVV (by decide) rfl (Nat.le_of_ble_eq_true rfl) (b_X11_fieldPlace hP h)
noncomputable def d_X7_addEmpty_28b (k28 : (Int32) → Mem → Option (Int32 × Mem)) (x2 : Int32) (x3 : Int32) (M : Mem) : Option (Int32 × Mem) :=
  if (6 : Int32) ≤ x3 then (
    bnd (sI M 11 6 ((mI M 11 6) + (1 : Int32))) fun M1 =>
    some (x2, M1))
  else (
    okk (vp_in ((x2 * (6 : Int32)) + x3) 360) <|
    bnd (sI M 16 ((x2 * (6 : Int32)) + x3).toNatClampNeg (-1 : Int32)) fun M2 =>
    bnd ((x3 + (1 : Int32))) fun b1 =>
    k28 (b1) M2)
theorem b_X7_addEmpty_28b {k28 : (Int32) → Mem → Option (Int32 × Mem)} {x2 : Int32} {x3 : Int32} {M z} (hk28 : ∀ (a : (Int32)) (M : Mem) (z : Int32 × Mem), Lay M → k28 a M = some z → VV Lay k_X7_addEmpty 28 [(0, .ref 11), (2, .int x2), (3, .int a)] [] M z.2 (Qv (some (.int z.1)) z.2) xF) (hP : Lay M) (h : d_X7_addEmpty_28b k28 x2 x3 M = some z) : VV Lay k_X7_addEmpty 28 [(0, .ref 11), (2, .int x2), (3, .int x3)] [] M z.2 (Qv (some (.int z.1)) z.2) xF := by
  unfold d_X7_addEmpty_28b at h
  refine Y_iload_n (pc := 28) (j := 2) dX7_addEmpty_28 rfl rfl ?_
  refine Y_bipush (pc := 29) (v := (6 : Int32)) dX7_addEmpty_29 rfl ?_
  refine Y_icmp_ge (pc := 31) (tgt := 52) dX7_addEmpty_31 (by decide) (fun hc1 => ?_) (fun hc1 => ?_)
  · replace h := ifT hc1 h
    refine Y_aload_n (pc := 52) (j := 0) dX7_addEmpty_52 rfl rfl ?_
    refine Y_dup (pc := 53) dX7_addEmpty_53 rfl ?_
    refine Z_geti (pc := 54) dX7_addEmpty_54 w1_120 (lk_11 hP) fi_7_6 ?_
    refine Y_iconst (pc := 57) (v := (1 : Int32)) dX7_addEmpty_57 rfl ?_
    refine Y_iadd (pc := 58) dX7_addEmpty_58 ?_
    refine Z_puti (pc := 59) dX7_addEmpty_59 w1_120 (lk_11 hP) fi_7_6 (Or.inl rfl) rfl ?_
    obtain ⟨M1, eM1, h⟩ := bndE h
    refine VV.mem eM1 ?_
    have hP1 := hP.wI eM1
    refine Y_iload_n (pc := 62) (j := 1) dX7_addEmpty_62 rfl rfl ?_
    cases h
    exact Y_iret (pc := 63) rfl rfl dX7_addEmpty_63 hP1 ⟨rfl, rfl⟩
  · replace h := ifF hc1 h
    refine Y_aload_n (pc := 34) (j := 0) dX7_addEmpty_34 rfl rfl ?_
    refine Z_getr (pc := 35) dX7_addEmpty_35 w1_115 (lk_11 hP) fr_7_4 (lr_11_4 hP) ?_
    refine Y_iload_n (pc := 38) (j := 1) dX7_addEmpty_38 rfl rfl ?_
    refine Y_bipush (pc := 39) (v := (6 : Int32)) dX7_addEmpty_39 rfl ?_
    refine Y_imul (pc := 41) dX7_addEmpty_41 ?_
    refine Y_iload_n (pc := 42) (j := 2) dX7_addEmpty_42 rfl rfl ?_
    refine Y_iadd (pc := 43) dX7_addEmpty_43 ?_
    refine Y_iconst (pc := 44) (v := (-1 : Int32)) dX7_addEmpty_44 rfl ?_
    obtain ⟨hb1, h⟩ := okE h
    refine Y_iast (pc := 45) dX7_addEmpty_45 (lk_16 hP) (ln_16 hP) hb1 ?_
    obtain ⟨M2, eM2, h⟩ := bndE h
    refine VV.mem eM2 ?_
    have hP2 := hP.wI eM2
    obtain ⟨b1, eb1, h⟩ := bndE h
    refine Y_iinc (pc := 46) (j := 2) (v := b1) (lv1 := [(3, .int b1), (0, .ref 11), (2, .int x2)]) dX7_addEmpty_46 rfl eb1.symm (by decide) rfl ?_
    refine Y_goto (pc := 49) (tgt := 28) dX7_addEmpty_49 (by decide) ?_
    refine VV.sub [1, 2, 0] rfl ?_
    exact hk28 _ _ _ hP2 h
noncomputable def d_X7_addEmpty_28 (x2 : Int32) : Nat → (Int32) → Mem → Option (Int32 × Mem) := lp fun k a M => d_X7_addEmpty_28b k x2 a M
theorem b_X7_addEmpty_28 {x2 : Int32} (n : Nat) : ∀ (a : (Int32)) (M : Mem) (z : Int32 × Mem), d_X7_addEmpty_28 x2 n a M = some z → Lay M → VV Lay k_X7_addEmpty 28 [(0, .ref 11), (2, .int x2), (3, .int a)] [] M z.2 (Qv (some (.int z.1)) z.2) xF :=
  lp_ind (G := fun (a : (Int32)) (M : Mem) (z : Int32 × Mem) => Lay M → VV Lay k_X7_addEmpty 28 [(0, .ref 11), (2, .int x2), (3, .int a)] [] M z.2 (Qv (some (.int z.1)) z.2) xF) (fun k hk a M z h hP => b_X7_addEmpty_28b  (fun a M z hP h => hk a M z h hP) hP h) n
noncomputable def d_X7_addEmpty (x1 : Int32) (M : Mem) : Option (Int32 × Mem) :=
  bnd ((mI M 11 6)) fun b1 =>
  okk (vp_in b1 60) <|
  bnd (sI M 12 b1.toNatClampNeg x1) fun M1 =>
  okk (vp_in b1 60) <|
  bnd (sI M1 13 b1.toNatClampNeg (0 : Int32)) fun M2 =>
  okk (vp_in b1 60) <|
  bnd (sI M2 14 b1.toNatClampNeg (0 : Int32)) fun M3 =>
  d_X7_addEmpty_28 b1 fuel ((0 : Int32)) M3
theorem b_X7_addEmpty {x1 : Int32} {M z} (hP : Lay M) (h : d_X7_addEmpty x1 M = some z) : VV Lay k_X7_addEmpty 0 [(0, .ref 11), (1, .int x1)] [] M z.2 (Qv (some (.int z.1)) z.2) xF := by
  unfold d_X7_addEmpty at h
  refine Y_aload_n (pc := 0) (j := 0) dX7_addEmpty_0 rfl rfl ?_
  refine Z_geti (pc := 1) dX7_addEmpty_1 w1_120 (lk_11 hP) fi_7_6 ?_
  obtain ⟨b1, eb1, h⟩ := bndE h
  refine VV.topI eb1 ?_
  refine Y_istore_n (pc := 4) (lv1 := [(2, .int b1), (0, .ref 11), (1, .int x1)]) dX7_addEmpty_4 rfl (by decide) rfl ?_
  refine Y_aload_n (pc := 5) (j := 1) dX7_addEmpty_5 rfl rfl ?_
  refine Z_getr (pc := 6) dX7_addEmpty_6 w1_108 (lk_11 hP) fr_7_0 (lr_11_0 hP) ?_
  refine Y_iload_n (pc := 9) (j := 0) dX7_addEmpty_9 rfl rfl ?_
  refine Y_iload_n (pc := 10) (j := 2) dX7_addEmpty_10 rfl rfl ?_
  obtain ⟨hb1, h⟩ := okE h
  refine Y_iast (pc := 11) dX7_addEmpty_11 (lk_12 hP) (ln_12 hP) hb1 ?_
  obtain ⟨M1, eM1, h⟩ := bndE h
  refine VV.mem eM1 ?_
  have hP1 := hP.wI eM1
  refine Y_aload_n (pc := 12) (j := 1) dX7_addEmpty_12 rfl rfl ?_
  refine Z_getr (pc := 13) dX7_addEmpty_13 w1_110 (lk_11 hP1) fr_7_1 (lr_11_1 hP1) ?_
  refine Y_iload_n (pc := 16) (j := 0) dX7_addEmpty_16 rfl rfl ?_
  refine Y_iconst (pc := 17) (v := (0 : Int32)) dX7_addEmpty_17 rfl ?_
  obtain ⟨hb2, h⟩ := okE h
  refine Y_iast (pc := 18) dX7_addEmpty_18 (lk_13 hP1) (ln_13 hP1) hb2 ?_
  obtain ⟨M2, eM2, h⟩ := bndE h
  refine VV.mem eM2 ?_
  have hP2 := hP1.wI eM2
  refine Y_aload_n (pc := 19) (j := 1) dX7_addEmpty_19 rfl rfl ?_
  refine Z_getr (pc := 20) dX7_addEmpty_20 w1_112 (lk_11 hP2) fr_7_2 (lr_11_2 hP2) ?_
  refine Y_iload_n (pc := 23) (j := 0) dX7_addEmpty_23 rfl rfl ?_
  refine Y_iconst (pc := 24) (v := (0 : Int32)) dX7_addEmpty_24 rfl ?_
  obtain ⟨hb3, h⟩ := okE h
  refine Y_iast (pc := 25) dX7_addEmpty_25 (lk_14 hP2) (ln_14 hP2) hb3 ?_
  obtain ⟨M3, eM3, h⟩ := bndE h
  refine VV.mem eM3 ?_
  have hP3 := hP2.wI eM3
  refine Y_iconst (pc := 26) (v := (0 : Int32)) dX7_addEmpty_26 rfl ?_
  refine Y_istore_n (pc := 27) (lv1 := [(3, .int (0 : Int32)), (2, .int b1), (0, .ref 11), (1, .int x1)]) dX7_addEmpty_27 rfl (by decide) rfl ?_
  refine VV.sub [2, 1, 0] rfl ?_
  exact b_X7_addEmpty_28  fuel _ _ _ h hP3
theorem v_X7_addEmpty {x1 : Int32} {M z} (hP : Lay M) (h : d_X7_addEmpty x1 M = some z) : CC Lay k_X7_addEmpty [.ref 11, .int x1] M z.2 (Qv (some (.int z.1)) z.2) xF :=
  CC.ofVV (by decide) rfl (Nat.le_of_ble_eq_true rfl) (b_X7_addEmpty hP h)
noncomputable def d_X7_addLonger_14b (k14 : (Int32) → Mem → Option (Int32 × Mem)) (x1 : Int32) (x2 : Int32) (x3 : Int32) (x4 : Int32) (M : Mem) : Option (Int32 × Mem) :=
  okk (vp_in x1 60) <|
  if (mI M 13 x1.toNatClampNeg) ≤ x4 then (
    okk (vp_in x1 60) <|
    okk (vp_in ((x3 * (6 : Int32)) + (mI M 13 x1.toNatClampNeg)) 360) <|
    bnd (sI M 15 ((x3 * (6 : Int32)) + (mI M 13 x1.toNatClampNeg)).toNatClampNeg x2) fun M1 =>
    okk (vp_in x1 60) <|
    okk (vp_in x3 60) <|
    bnd (sI M1 13 x3.toNatClampNeg ((mI M1 13 x1.toNatClampNeg) + (1 : Int32))) fun M2 =>
    okk (vp_in x1 60) <|
    okk (vp_in x3 60) <|
    bnd (sI M2 14 x3.toNatClampNeg ((mI M2 14 x1.toNatClampNeg) ||| ((1 : Int32) <<< (x2 &&& 31)))) fun M3 =>
    some (x3, M3))
  else (
    okk (vp_in ((x1 * (6 : Int32)) + x4) 360) <|
    okk (vp_in ((x3 * (6 : Int32)) + x4) 360) <|
    bnd (sI M 15 ((x3 * (6 : Int32)) + x4).toNatClampNeg (mI M 15 ((x1 * (6 : Int32)) + x4).toNatClampNeg)) fun M4 =>
    bnd ((x4 + (1 : Int32))) fun b1 =>
    k14 (b1) M4)
theorem b_X7_addLonger_14b {k14 : (Int32) → Mem → Option (Int32 × Mem)} {x1 : Int32} {x2 : Int32} {x3 : Int32} {x4 : Int32} {M z} (hk14 : ∀ (a : (Int32)) (M : Mem) (z : Int32 × Mem), Lay M → k14 a M = some z → VV Lay k_X7_addLonger 14 [(0, .ref 11), (1, .int x1), (2, .int x2), (3, .int x3), (4, .int a)] [] M z.2 (Qv (some (.int z.1)) z.2) xF) (hP : Lay M) (h : d_X7_addLonger_14b k14 x1 x2 x3 x4 M = some z) : VV Lay k_X7_addLonger 14 [(0, .ref 11), (1, .int x1), (2, .int x2), (3, .int x3), (4, .int x4)] [] M z.2 (Qv (some (.int z.1)) z.2) xF := by
  unfold d_X7_addLonger_14b at h
  refine Y_iload (pc := 14) (j := 4) dX7_addLonger_14 rfl ?_
  refine Y_aload_n (pc := 16) (j := 0) dX7_addLonger_16 rfl rfl ?_
  refine Z_getr (pc := 17) dX7_addLonger_17 w1_110 (lk_11 hP) fr_7_1 (lr_11_1 hP) ?_
  refine Y_iload_n (pc := 20) (j := 1) dX7_addLonger_20 rfl rfl ?_
  obtain ⟨hb1, h⟩ := okE h
  refine Y_iald (pc := 21) dX7_addLonger_21 (lk_13 hP) (ln_13 hP) hb1 ?_
  refine Y_icmp_ge (pc := 22) (tgt := 55) dX7_addLonger_22 (by decide) (fun hc1 => ?_) (fun hc1 => ?_)
  · replace h := ifT hc1 h
    refine Y_aload_n (pc := 55) (j := 0) dX7_addLonger_55 rfl rfl ?_
    refine Z_getr (pc := 56) dX7_addLonger_56 w1_113 (lk_11 hP) fr_7_3 (lr_11_3 hP) ?_
    refine Y_iload_n (pc := 59) (j := 3) dX7_addLonger_59 rfl rfl ?_
    refine Y_bipush (pc := 60) (v := (6 : Int32)) dX7_addLonger_60 rfl ?_
    refine Y_imul (pc := 62) dX7_addLonger_62 ?_
    refine Y_aload_n (pc := 63) (j := 0) dX7_addLonger_63 rfl rfl ?_
    refine Z_getr (pc := 64) dX7_addLonger_64 w1_110 (lk_11 hP) fr_7_1 (lr_11_1 hP) ?_
    refine Y_iload_n (pc := 67) (j := 1) dX7_addLonger_67 rfl rfl ?_
    obtain ⟨hb2, h⟩ := okE h
    refine Y_iald (pc := 68) dX7_addLonger_68 (lk_13 hP) (ln_13 hP) hb2 ?_
    refine Y_iadd (pc := 69) dX7_addLonger_69 ?_
    refine Y_iload_n (pc := 70) (j := 2) dX7_addLonger_70 rfl rfl ?_
    obtain ⟨hb3, h⟩ := okE h
    refine Y_iast (pc := 71) dX7_addLonger_71 (lk_15 hP) (ln_15 hP) hb3 ?_
    obtain ⟨M1, eM1, h⟩ := bndE h
    refine VV.mem eM1 ?_
    have hP1 := hP.wI eM1
    refine Y_aload_n (pc := 72) (j := 0) dX7_addLonger_72 rfl rfl ?_
    refine Z_getr (pc := 73) dX7_addLonger_73 w1_110 (lk_11 hP1) fr_7_1 (lr_11_1 hP1) ?_
    refine Y_iload_n (pc := 76) (j := 3) dX7_addLonger_76 rfl rfl ?_
    refine Y_aload_n (pc := 77) (j := 0) dX7_addLonger_77 rfl rfl ?_
    refine Z_getr (pc := 78) dX7_addLonger_78 w1_110 (lk_11 hP1) fr_7_1 (lr_11_1 hP1) ?_
    refine Y_iload_n (pc := 81) (j := 1) dX7_addLonger_81 rfl rfl ?_
    obtain ⟨hb4, h⟩ := okE h
    refine Y_iald (pc := 82) dX7_addLonger_82 (lk_13 hP1) (ln_13 hP1) hb4 ?_
    refine Y_iconst (pc := 83) (v := (1 : Int32)) dX7_addLonger_83 rfl ?_
    refine Y_iadd (pc := 84) dX7_addLonger_84 ?_
    obtain ⟨hb5, h⟩ := okE h
    refine Y_iast (pc := 85) dX7_addLonger_85 (lk_13 hP1) (ln_13 hP1) hb5 ?_
    obtain ⟨M2, eM2, h⟩ := bndE h
    refine VV.mem eM2 ?_
    have hP2 := hP1.wI eM2
    refine Y_aload_n (pc := 86) (j := 0) dX7_addLonger_86 rfl rfl ?_
    refine Z_getr (pc := 87) dX7_addLonger_87 w1_112 (lk_11 hP2) fr_7_2 (lr_11_2 hP2) ?_
    refine Y_iload_n (pc := 90) (j := 3) dX7_addLonger_90 rfl rfl ?_
    refine Y_aload_n (pc := 91) (j := 0) dX7_addLonger_91 rfl rfl ?_
    refine Z_getr (pc := 92) dX7_addLonger_92 w1_112 (lk_11 hP2) fr_7_2 (lr_11_2 hP2) ?_
    refine Y_iload_n (pc := 95) (j := 1) dX7_addLonger_95 rfl rfl ?_
    obtain ⟨hb6, h⟩ := okE h
    refine Y_iald (pc := 96) dX7_addLonger_96 (lk_14 hP2) (ln_14 hP2) hb6 ?_
    refine Y_iconst (pc := 97) (v := (1 : Int32)) dX7_addLonger_97 rfl ?_
    refine Y_iload_n (pc := 98) (j := 2) dX7_addLonger_98 rfl rfl ?_
    refine Y_ishl (pc := 99) dX7_addLonger_99 ?_
    refine Y_ior (pc := 100) dX7_addLonger_100 ?_
    obtain ⟨hb7, h⟩ := okE h
    refine Y_iast (pc := 101) dX7_addLonger_101 (lk_14 hP2) (ln_14 hP2) hb7 ?_
    obtain ⟨M3, eM3, h⟩ := bndE h
    refine VV.mem eM3 ?_
    have hP3 := hP2.wI eM3
    refine Y_iload_n (pc := 102) (j := 3) dX7_addLonger_102 rfl rfl ?_
    cases h
    exact Y_iret (pc := 103) rfl rfl dX7_addLonger_103 hP3 ⟨rfl, rfl⟩
  · replace h := ifF hc1 h
    refine Y_aload_n (pc := 25) (j := 0) dX7_addLonger_25 rfl rfl ?_
    refine Z_getr (pc := 26) dX7_addLonger_26 w1_113 (lk_11 hP) fr_7_3 (lr_11_3 hP) ?_
    refine Y_iload_n (pc := 29) (j := 3) dX7_addLonger_29 rfl rfl ?_
    refine Y_bipush (pc := 30) (v := (6 : Int32)) dX7_addLonger_30 rfl ?_
    refine Y_imul (pc := 32) dX7_addLonger_32 ?_
    refine Y_iload (pc := 33) (j := 4) dX7_addLonger_33 rfl ?_
    refine Y_iadd (pc := 35) dX7_addLonger_35 ?_
    refine Y_aload_n (pc := 36) (j := 0) dX7_addLonger_36 rfl rfl ?_
    refine Z_getr (pc := 37) dX7_addLonger_37 w1_113 (lk_11 hP) fr_7_3 (lr_11_3 hP) ?_
    refine Y_iload_n (pc := 40) (j := 1) dX7_addLonger_40 rfl rfl ?_
    refine Y_bipush (pc := 41) (v := (6 : Int32)) dX7_addLonger_41 rfl ?_
    refine Y_imul (pc := 43) dX7_addLonger_43 ?_
    refine Y_iload (pc := 44) (j := 4) dX7_addLonger_44 rfl ?_
    refine Y_iadd (pc := 46) dX7_addLonger_46 ?_
    obtain ⟨hb8, h⟩ := okE h
    refine Y_iald (pc := 47) dX7_addLonger_47 (lk_15 hP) (ln_15 hP) hb8 ?_
    obtain ⟨hb9, h⟩ := okE h
    refine Y_iast (pc := 48) dX7_addLonger_48 (lk_15 hP) (ln_15 hP) hb9 ?_
    obtain ⟨M4, eM4, h⟩ := bndE h
    refine VV.mem eM4 ?_
    have hP4 := hP.wI eM4
    obtain ⟨b1, eb1, h⟩ := bndE h
    refine Y_iinc (pc := 49) (j := 4) (v := b1) (lv1 := [(4, .int b1), (0, .ref 11), (1, .int x1), (2, .int x2), (3, .int x3)]) dX7_addLonger_49 rfl eb1.symm (by decide) rfl ?_
    refine Y_goto (pc := 52) (tgt := 14) dX7_addLonger_52 (by decide) ?_
    refine VV.sub [1, 2, 3, 4, 0] rfl ?_
    exact hk14 _ _ _ hP4 h
noncomputable def d_X7_addLonger_14 (x1 : Int32) (x2 : Int32) (x3 : Int32) : Nat → (Int32) → Mem → Option (Int32 × Mem) := lp fun k a M => d_X7_addLonger_14b k x1 x2 x3 a M
theorem b_X7_addLonger_14 {x1 : Int32} {x2 : Int32} {x3 : Int32} (n : Nat) : ∀ (a : (Int32)) (M : Mem) (z : Int32 × Mem), d_X7_addLonger_14 x1 x2 x3 n a M = some z → Lay M → VV Lay k_X7_addLonger 14 [(0, .ref 11), (1, .int x1), (2, .int x2), (3, .int x3), (4, .int a)] [] M z.2 (Qv (some (.int z.1)) z.2) xF :=
  lp_ind (G := fun (a : (Int32)) (M : Mem) (z : Int32 × Mem) => Lay M → VV Lay k_X7_addLonger 14 [(0, .ref 11), (1, .int x1), (2, .int x2), (3, .int x3), (4, .int a)] [] M z.2 (Qv (some (.int z.1)) z.2) xF) (fun k hk a M z h hP => b_X7_addLonger_14b  (fun a M z hP h => hk a M z h hP) hP h) n
noncomputable def d_X7_addLonger (x1 : Int32) (x2 : Int32) (M : Mem) : Option (Int32 × Mem) :=
  okk (vp_in x1 60) <|
  (d_X7_addEmpty (mI M 12 x1.toNatClampNeg) M).bind fun y1 =>
  d_X7_addLonger_14 x1 x2 y1.1 fuel ((0 : Int32)) y1.2
theorem b_X7_addLonger {x1 : Int32} {x2 : Int32} {M z} (hP : Lay M) (h : d_X7_addLonger x1 x2 M = some z) : VV Lay k_X7_addLonger 0 [(0, .ref 11), (1, .int x1), (2, .int x2)] [] M z.2 (Qv (some (.int z.1)) z.2) xF := by
  unfold d_X7_addLonger at h
  refine Y_aload_n (pc := 0) (j := 0) dX7_addLonger_0 rfl rfl ?_
  refine Y_aload_n (pc := 1) (j := 0) dX7_addLonger_1 rfl rfl ?_
  refine Z_getr (pc := 2) dX7_addLonger_2 w1_108 (lk_11 hP) fr_7_0 (lr_11_0 hP) ?_
  refine Y_iload_n (pc := 5) (j := 1) dX7_addLonger_5 rfl rfl ?_
  obtain ⟨hb1, h⟩ := okE h
  refine Y_iald (pc := 6) dX7_addLonger_6 (lk_12 hP) (ln_12 hP) hb1 ?_
  obtain ⟨y1, qy1, h⟩ := bindE h
  have cy1 := v_X7_addEmpty hP qy1
  refine C_V1r (pc := 7) (k' := k_X7_addEmpty) dX7_addLonger_7 w5_220 i_X7_addEmpty (lk_11 hP) ⟨Nat.le_of_ble_eq_true rfl, Nat.le_of_ble_eq_true rfl⟩ rfl (Nat.le_of_ble_eq_true rfl) (Nat.le_of_ble_eq_true rfl) (Nat.le_of_ble_eq_true rfl) (cy1) ?_
  have hPy1 := cy1.1.1
  refine Y_istore_n (pc := 10) (lv1 := [(3, .int y1.1), (0, .ref 11), (1, .int x1), (2, .int x2)]) dX7_addLonger_10 rfl (by decide) rfl ?_
  refine Y_iconst (pc := 11) (v := (0 : Int32)) dX7_addLonger_11 rfl ?_
  refine Y_istore (pc := 12) (lv1 := [(4, .int (0 : Int32)), (3, .int y1.1), (0, .ref 11), (1, .int x1), (2, .int x2)]) dX7_addLonger_12 (by decide) rfl ?_
  refine VV.sub [2, 3, 4, 1, 0] rfl ?_
  exact b_X7_addLonger_14  fuel _ _ _ h hPy1
theorem v_X7_addLonger {x1 : Int32} {x2 : Int32} {M z} (hP : Lay M) (h : d_X7_addLonger x1 x2 M = some z) : CC Lay k_X7_addLonger [.ref 11, .int x1, .int x2] M z.2 (Qv (some (.int z.1)) z.2) xF :=
  CC.ofVV (by decide) rfl (Nat.le_of_ble_eq_true rfl) (b_X7_addLonger hP h)
noncomputable def d_X7_behindPut_43 (x1 : Int32) (x2 : Int32) (M : Mem) : Option (Int32 × Mem) :=
  okk (vp_in ((x1 * (6 : Int32)) + x2) 360) <|
  some ((mI M 16 ((x1 * (6 : Int32)) + x2).toNatClampNeg), M)
theorem b_X7_behindPut_43 {x1 : Int32} {x2 : Int32} {M z} (hP : Lay M) (h : d_X7_behindPut_43 x1 x2 M = some z) : VV Lay k_X7_behindPut 43 [(0, .ref 11), (1, .int x1), (2, .int x2)] [] M z.2 (Qv (some (.int z.1)) z.2) xF := by
  unfold d_X7_behindPut_43 at h
  refine Y_aload_n (pc := 43) (j := 0) dX7_behindPut_43 rfl rfl ?_
  refine Z_getr (pc := 44) dX7_behindPut_44 w1_115 (lk_11 hP) fr_7_4 (lr_11_4 hP) ?_
  refine Y_iload_n (pc := 47) (j := 1) dX7_behindPut_47 rfl rfl ?_
  refine Y_bipush (pc := 48) (v := (6 : Int32)) dX7_behindPut_48 rfl ?_
  refine Y_imul (pc := 50) dX7_behindPut_50 ?_
  refine Y_iload_n (pc := 51) (j := 2) dX7_behindPut_51 rfl rfl ?_
  refine Y_iadd (pc := 52) dX7_behindPut_52 ?_
  obtain ⟨hb1, h⟩ := okE h
  refine Y_iald (pc := 53) dX7_behindPut_53 (lk_16 hP) (ln_16 hP) hb1 ?_
  cases h
  exact Y_iret (pc := 54) rfl rfl dX7_behindPut_54 hP ⟨rfl, rfl⟩
noncomputable def d_X7_behindPut (x1 : Int32) (x2 : Int32) (M : Mem) : Option (Int32 × Mem) :=
  (d_X7_has x1 x2 M).bind fun y1 =>
  if y1.1 = 0 then (
    okk (vp_in ((x1 * (6 : Int32)) + x2) 360) <|
    if (mI y1.2 16 ((x1 * (6 : Int32)) + x2).toNatClampNeg) = (-1 : Int32) then (
      (d_X7_addLonger x1 x2 y1.2).bind fun y2 =>
      okk (vp_in ((x1 * (6 : Int32)) + x2) 360) <|
      bnd (sI y2.2 16 ((x1 * (6 : Int32)) + x2).toNatClampNeg y2.1) fun M1 =>
      d_X7_behindPut_43 x1 x2 M1)
    else (
      d_X7_behindPut_43 x1 x2 y1.2))
  else (
    some (x1, y1.2))
theorem b_X7_behindPut {x1 : Int32} {x2 : Int32} {M z} (hP : Lay M) (h : d_X7_behindPut x1 x2 M = some z) : VV Lay k_X7_behindPut 0 [(0, .ref 11), (1, .int x1), (2, .int x2)] [] M z.2 (Qv (some (.int z.1)) z.2) xF := by
  unfold d_X7_behindPut at h
  refine Y_aload_n (pc := 0) (j := 0) dX7_behindPut_0 rfl rfl ?_
  refine Y_iload_n (pc := 1) (j := 1) dX7_behindPut_1 rfl rfl ?_
  refine Y_iload_n (pc := 2) (j := 2) dX7_behindPut_2 rfl rfl ?_
  obtain ⟨y1, qy1, h⟩ := bindE h
  have cy1 := v_X7_has hP qy1
  refine C_V2r (pc := 3) (k' := k_X7_has) dX7_behindPut_3 w5_152 i_X7_has (lk_11 hP) ⟨Nat.le_of_ble_eq_true rfl, Nat.le_of_ble_eq_true rfl⟩ rfl (Nat.le_of_ble_eq_true rfl) (Nat.le_of_ble_eq_true rfl) (Nat.le_of_ble_eq_true rfl) (cy1) ?_
  have hPy1 := cy1.1.1
  refine Y_if_eq (pc := 6) (tgt := 11) dX7_behindPut_6 (by decide) (fun hc1 => ?_) (fun hc1 => ?_)
  · replace h := ifT hc1 h
    refine Y_aload_n (pc := 11) (j := 0) dX7_behindPut_11 rfl rfl ?_
    refine Z_getr (pc := 12) dX7_behindPut_12 w1_115 (lk_11 hPy1) fr_7_4 (lr_11_4 hPy1) ?_
    refine Y_iload_n (pc := 15) (j := 1) dX7_behindPut_15 rfl rfl ?_
    refine Y_bipush (pc := 16) (v := (6 : Int32)) dX7_behindPut_16 rfl ?_
    refine Y_imul (pc := 18) dX7_behindPut_18 ?_
    refine Y_iload_n (pc := 19) (j := 2) dX7_behindPut_19 rfl rfl ?_
    refine Y_iadd (pc := 20) dX7_behindPut_20 ?_
    obtain ⟨hb1, h⟩ := okE h
    refine Y_iald (pc := 21) dX7_behindPut_21 (lk_16 hPy1) (ln_16 hPy1) hb1 ?_
    refine Y_iconst (pc := 22) (v := (-1 : Int32)) dX7_behindPut_22 rfl ?_
    refine Y_icmp_ne (pc := 23) (tgt := 43) dX7_behindPut_23 (by decide) (fun hc2 => ?_) (fun hc2 => ?_)
    · replace h := ifF hc2 h
      refine VV.sub [0, 1, 2] rfl ?_
      exact b_X7_behindPut_43  hPy1 h
    · replace h := ifT hc2 h
      refine Y_aload_n (pc := 26) (j := 0) dX7_behindPut_26 rfl rfl ?_
      refine Z_getr (pc := 27) dX7_behindPut_27 w1_115 (lk_11 hPy1) fr_7_4 (lr_11_4 hPy1) ?_
      refine Y_iload_n (pc := 30) (j := 1) dX7_behindPut_30 rfl rfl ?_
      refine Y_bipush (pc := 31) (v := (6 : Int32)) dX7_behindPut_31 rfl ?_
      refine Y_imul (pc := 33) dX7_behindPut_33 ?_
      refine Y_iload_n (pc := 34) (j := 2) dX7_behindPut_34 rfl rfl ?_
      refine Y_iadd (pc := 35) dX7_behindPut_35 ?_
      refine Y_aload_n (pc := 36) (j := 0) dX7_behindPut_36 rfl rfl ?_
      refine Y_iload_n (pc := 37) (j := 1) dX7_behindPut_37 rfl rfl ?_
      refine Y_iload_n (pc := 38) (j := 2) dX7_behindPut_38 rfl rfl ?_
      obtain ⟨y2, qy2, h⟩ := bindE h
      have cy2 := v_X7_addLonger hPy1 qy2
      refine C_V2r (pc := 39) (k' := k_X7_addLonger) dX7_behindPut_39 w5_216 i_X7_addLonger (lk_11 hPy1) ⟨Nat.le_of_ble_eq_true rfl, Nat.le_of_ble_eq_true rfl⟩ rfl (Nat.le_of_ble_eq_true rfl) (Nat.le_of_ble_eq_true rfl) (Nat.le_of_ble_eq_true rfl) (cy2) ?_
      have hPy2 := cy2.1.1
      obtain ⟨hb2, h⟩ := okE h
      refine Y_iast (pc := 42) dX7_behindPut_42 (lk_16 hPy2) (ln_16 hPy2) hb2 ?_
      obtain ⟨M1, eM1, h⟩ := bndE h
      refine VV.mem eM1 ?_
      have hP1 := hPy2.wI eM1
      refine VV.sub [0, 1, 2] rfl ?_
      exact b_X7_behindPut_43  hP1 h
  · replace h := ifF hc1 h
    refine Y_iload_n (pc := 9) (j := 1) dX7_behindPut_9 rfl rfl ?_
    cases h
    exact Y_iret (pc := 10) rfl rfl dX7_behindPut_10 hPy1 ⟨rfl, rfl⟩
theorem v_X7_behindPut {x1 : Int32} {x2 : Int32} {M z} (hP : Lay M) (h : d_X7_behindPut x1 x2 M = some z) : CC Lay k_X7_behindPut [.ref 11, .int x1, .int x2] M z.2 (Qv (some (.int z.1)) z.2) xF :=
  CC.ofVV (by decide) rfl (Nat.le_of_ble_eq_true rfl) (b_X7_behindPut hP h)
noncomputable def d_X3_useObject (o : Nat) (x1 : Int32) (x2 : Int32) (M : Mem) : Option (Unit × Mem) :=
  if x1 = (110 : Int32) then (
    okk (vp_in x2 5) <|
    okk (vp_in (mI M o 10) 60) <|
    bnd (sI M (o + 9) (mI M o 10).toNatClampNeg (mI M 17 x2.toNatClampNeg)) fun M2 =>
    (d_X3_pushPut o (111 : Int32) (mI M2 o 10) M2).bind fun y10 =>
    bnd (sI y10.2 o 10 ((mI y10.2 o 10) + (1 : Int32))) fun M3 =>
    some ((), M3))
  else (
    if x1 = (103 : Int32) then (
      (d_X3_fromTop o (1 : Int32) M).bind fun y6 =>
      okk (vp_in y6.1 549) <|
      (d_X11_fieldPlace (mI y6.2 (o + 3) y6.1.toNatClampNeg) x2 y6.2).bind fun y7 =>
      (d_X3_fromTop o (1 : Int32) y7.2).bind fun y8 =>
      (d_X8_move o y7.1 y8.1 y8.2).bind fun y9 =>
      some ((), y9.2))
    else (
      (d_X3_take o M).bind fun y1 =>
      (d_X3_take o y1.2).bind fun y2 =>
      okk (vp_in y2.1 549) <|
      bnd ((mI y2.2 (o + 3) y2.1.toNatClampNeg)) fun b1 =>
      okk (vp_in b1 60) <|
      (d_X7_behindPut (mI y2.2 (o + 9) b1.toNatClampNeg) x2 y2.2).bind fun y3 =>
      okk (vp_in b1 60) <|
      bnd (sI y3.2 (o + 9) b1.toNatClampNeg y3.1) fun M1 =>
      (d_X11_fieldPlace b1 x2 M1).bind fun y4 =>
      (d_X8_move o y1.1 y4.1 y4.2).bind fun y5 =>
      some ((), y5.2)))
theorem b_X3_useObject {o : Nat} {x1 : Int32} {x2 : Int32} {M z} (ho : o = 18 ∨ o = 28) (hP : Lay M) (h : d_X3_useObject o x1 x2 M = some z) : VV Lay k_X3_useObject 0 [(0, .ref o), (1, .int x1), (2, .int x2)] [] M z.2 (Qv (none) z.2) xF := by
  unfold d_X3_useObject at h
  refine Y_iload_n (pc := 0) (j := 1) dX3_useObject_0 rfl rfl ?_
  refine Y_bipush (pc := 1) (v := (110 : Int32)) dX3_useObject_1 rfl ?_
  refine Y_icmp_ne (pc := 3) (tgt := 47) dX3_useObject_3 (by decide) (fun hc1 => ?_) (fun hc1 => ?_)
  · replace h := ifF hc1 h
    refine Y_iload_n (pc := 47) (j := 1) dX3_useObject_47 rfl rfl ?_
    refine Y_bipush (pc := 48) (v := (103 : Int32)) dX3_useObject_48 rfl ?_
    refine Y_icmp_ne (pc := 50) (tgt := 85) dX3_useObject_50 (by decide) (fun hc2 => ?_) (fun hc2 => ?_)
    · replace h := ifF hc2 h
      refine Y_aload_n (pc := 85) (j := 0) dX3_useObject_85 rfl rfl ?_
      obtain ⟨y1, qy1, h⟩ := bindE h
      have cy1 := v_X3_take ho hP qy1
      refine C_V0r (pc := 86) (k' := k_X3_take) dX3_useObject_86 w5_181 i_X3_take (lo_0 hP ho) ⟨Nat.le_of_ble_eq_true rfl, Nat.le_of_ble_eq_true rfl⟩ rfl (Nat.le_of_ble_eq_true rfl) (Nat.le_of_ble_eq_true rfl) (Nat.le_of_ble_eq_true rfl) (cy1) ?_
      have hPy1 := cy1.1.1
      refine Y_istore_n (pc := 89) (lv1 := [(3, .int y1.1), (0, .ref o), (1, .int x1), (2, .int x2)]) dX3_useObject_89 rfl (by decide) rfl ?_
      refine Y_aload_n (pc := 90) (j := 1) dX3_useObject_90 rfl rfl ?_
      refine Z_getr (pc := 91) dX3_useObject_91 w1_171 (lo_0 hPy1 ho) fr_4_2 (lor_0_2 hPy1 ho) ?_
      refine Z_getr (pc := 94) dX3_useObject_94 w1_153 (lo_1 hPy1 ho) fr_8_1 (lor_1_1 hPy1 ho) ?_
      refine Y_aload_n (pc := 97) (j := 1) dX3_useObject_97 rfl rfl ?_
      obtain ⟨y2, qy2, h⟩ := bindE h
      have cy2 := v_X3_take ho hPy1 qy2
      refine C_V0r (pc := 98) (k' := k_X3_take) dX3_useObject_98 w5_181 i_X3_take (lo_0 hPy1 ho) ⟨Nat.le_of_ble_eq_true rfl, Nat.le_of_ble_eq_true rfl⟩ rfl (Nat.le_of_ble_eq_true rfl) (Nat.le_of_ble_eq_true rfl) (Nat.le_of_ble_eq_true rfl) (cy2) ?_
      have hPy2 := cy2.1.1
      obtain ⟨hb1, h⟩ := okE h
      refine Y_iald (pc := 101) dX3_useObject_101 (lo_3 hPy2 ho) (lon_3 hPy2 ho) hb1 ?_
      obtain ⟨b1, eb1, h⟩ := bndE h
      refine VV.topI eb1 ?_
      refine Y_istore (pc := 102) (lv1 := [(4, .int b1), (3, .int y1.1), (0, .ref o), (1, .int x1), (2, .int x2)]) dX3_useObject_102 (by decide) rfl ?_
      refine Y_aload_n (pc := 104) (j := 2) dX3_useObject_104 rfl rfl ?_
      refine Z_getr (pc := 105) dX3_useObject_105 w1_177 (lo_0 hPy2 ho) fr_4_6 (lor_0_6 hPy2 ho) ?_
      refine Y_iload (pc := 108) (j := 0) dX3_useObject_108 rfl ?_
      refine Y_aload_n (pc := 110) (j := 2) dX3_useObject_110 rfl rfl ?_
      refine Z_getr (pc := 111) dX3_useObject_111 w1_169 (lo_0 hPy2 ho) fr_4_1 (lor_0_1 hPy2 ho) ?_
      refine Y_aload_n (pc := 114) (j := 2) dX3_useObject_114 rfl rfl ?_
      refine Z_getr (pc := 115) dX3_useObject_115 w1_177 (lo_0 hPy2 ho) fr_4_6 (lor_0_6 hPy2 ho) ?_
      refine Y_iload (pc := 118) (j := 0) dX3_useObject_118 rfl ?_
      obtain ⟨hb2, h⟩ := okE h
      refine Y_iald (pc := 120) dX3_useObject_120 (lo_9 hPy2 ho) (lon_9 hPy2 ho) hb2 ?_
      refine Y_iload_n (pc := 121) (j := 4) dX3_useObject_121 rfl rfl ?_
      obtain ⟨y3, qy3, h⟩ := bindE h
      have cy3 := v_X7_behindPut hPy2 qy3
      refine C_V2r (pc := 122) (k' := k_X7_behindPut) dX3_useObject_122 w5_212 i_X7_behindPut (lk_11 hPy2) ⟨Nat.le_of_ble_eq_true rfl, Nat.le_of_ble_eq_true rfl⟩ rfl (Nat.le_of_ble_eq_true rfl) (Nat.le_of_ble_eq_true rfl) (Nat.le_of_ble_eq_true rfl) (cy3) ?_
      have hPy3 := cy3.1.1
      obtain ⟨hb3, h⟩ := okE h
      refine Y_iast (pc := 125) dX3_useObject_125 (lo_9 hPy3 ho) (lon_9 hPy3 ho) hb3 ?_
      obtain ⟨M1, eM1, h⟩ := bndE h
      refine VV.mem eM1 ?_
      have hP1 := hPy3.wI eM1
      refine Y_aload_n (pc := 126) (j := 2) dX3_useObject_126 rfl rfl ?_
      refine Z_getr (pc := 127) dX3_useObject_127 w1_171 (lo_0 hP1 ho) fr_4_2 (lor_0_2 hP1 ho) ?_
      refine Y_iload_n (pc := 130) (j := 1) dX3_useObject_130 rfl rfl ?_
      refine Y_iload (pc := 131) (j := 0) dX3_useObject_131 rfl ?_
      refine Y_iload_n (pc := 133) (j := 4) dX3_useObject_133 rfl rfl ?_
      obtain ⟨y4, qy4, h⟩ := bindE h
      have cy4 := v_X11_fieldPlace hP1 qy4
      refine C_N2r (pc := 134) (k' := k_X11_fieldPlace) dX3_useObject_134 nl_Machine_260 i_X11_fieldPlace (Nat.le_of_ble_eq_true rfl) (Nat.le_of_ble_eq_true rfl) (Nat.le_of_ble_eq_true rfl) (cy4) ?_
      have hPy4 := cy4.1.1
      obtain ⟨y5, qy5, h⟩ := bindE h
      have cy5 := v_X8_move ho hPy4 qy5
      refine C_V2o (pc := 137) (k' := k_X8_move) dX3_useObject_137 w5_193 i_X8_move (lo_1 hPy4 ho) ⟨Nat.le_of_ble_eq_true rfl, Nat.le_of_ble_eq_true rfl⟩ rfl (Nat.le_of_ble_eq_true rfl) (Nat.le_of_ble_eq_true rfl) (Nat.le_of_ble_eq_true rfl) (cy5) ?_
      have hPy5 := cy5.1.1
      cases h
      exact Y_vret (pc := 140) rfl dX3_useObject_140 hPy5 ⟨rfl, rfl⟩
    · replace h := ifT hc2 h
      refine Y_aload_n (pc := 53) (j := 0) dX3_useObject_53 rfl rfl ?_
      refine Z_getr (pc := 54) dX3_useObject_54 w1_171 (lo_0 hP ho) fr_4_2 (lor_0_2 hP ho) ?_
      refine Y_aload_n (pc := 57) (j := 0) dX3_useObject_57 rfl rfl ?_
      refine Z_getr (pc := 58) dX3_useObject_58 w1_171 (lo_0 hP ho) fr_4_2 (lor_0_2 hP ho) ?_
      refine Z_getr (pc := 61) dX3_useObject_61 w1_153 (lo_1 hP ho) fr_8_1 (lor_1_1 hP ho) ?_
      refine Y_aload_n (pc := 64) (j := 0) dX3_useObject_64 rfl rfl ?_
      refine Y_iconst (pc := 65) (v := (1 : Int32)) dX3_useObject_65 rfl ?_
      obtain ⟨y6, qy6, h⟩ := bindE h
      have cy6 := v_X3_fromTop ho hP qy6
      refine C_V1r (pc := 66) (k' := k_X3_fromTop) dX3_useObject_66 w5_106 i_X3_fromTop (lo_0 hP ho) ⟨Nat.le_of_ble_eq_true rfl, Nat.le_of_ble_eq_true rfl⟩ rfl (Nat.le_of_ble_eq_true rfl) (Nat.le_of_ble_eq_true rfl) (Nat.le_of_ble_eq_true rfl) (cy6) ?_
      have hPy6 := cy6.1.1
      obtain ⟨hb4, h⟩ := okE h
      refine Y_iald (pc := 69) dX3_useObject_69 (lo_3 hPy6 ho) (lon_3 hPy6 ho) hb4 ?_
      refine Y_iload_n (pc := 70) (j := 2) dX3_useObject_70 rfl rfl ?_
      obtain ⟨y7, qy7, h⟩ := bindE h
      have cy7 := v_X11_fieldPlace hPy6 qy7
      refine C_N2r (pc := 71) (k' := k_X11_fieldPlace) dX3_useObject_71 nl_Machine_260 i_X11_fieldPlace (Nat.le_of_ble_eq_true rfl) (Nat.le_of_ble_eq_true rfl) (Nat.le_of_ble_eq_true rfl) (cy7) ?_
      have hPy7 := cy7.1.1
      refine Y_aload_n (pc := 74) (j := 0) dX3_useObject_74 rfl rfl ?_
      refine Y_iconst (pc := 75) (v := (1 : Int32)) dX3_useObject_75 rfl ?_
      obtain ⟨y8, qy8, h⟩ := bindE h
      have cy8 := v_X3_fromTop ho hPy7 qy8
      refine C_V1r (pc := 76) (k' := k_X3_fromTop) dX3_useObject_76 w5_106 i_X3_fromTop (lo_0 hPy7 ho) ⟨Nat.le_of_ble_eq_true rfl, Nat.le_of_ble_eq_true rfl⟩ rfl (Nat.le_of_ble_eq_true rfl) (Nat.le_of_ble_eq_true rfl) (Nat.le_of_ble_eq_true rfl) (cy8) ?_
      have hPy8 := cy8.1.1
      obtain ⟨y9, qy9, h⟩ := bindE h
      have cy9 := v_X8_move ho hPy8 qy9
      refine C_V2o (pc := 79) (k' := k_X8_move) dX3_useObject_79 w5_193 i_X8_move (lo_1 hPy8 ho) ⟨Nat.le_of_ble_eq_true rfl, Nat.le_of_ble_eq_true rfl⟩ rfl (Nat.le_of_ble_eq_true rfl) (Nat.le_of_ble_eq_true rfl) (Nat.le_of_ble_eq_true rfl) (cy9) ?_
      have hPy9 := cy9.1.1
      refine Y_goto (pc := 82) (tgt := 140) dX3_useObject_82 (by decide) ?_
      cases h
      exact Y_vret (pc := 140) rfl dX3_useObject_140 hPy9 ⟨rfl, rfl⟩
  · replace h := ifT hc1 h
    refine Y_aload_n (pc := 6) (j := 0) dX3_useObject_6 rfl rfl ?_
    refine Z_getr (pc := 7) dX3_useObject_7 w1_177 (lo_0 hP ho) fr_4_6 (lor_0_6 hP ho) ?_
    refine Y_aload_n (pc := 10) (j := 0) dX3_useObject_10 rfl rfl ?_
    refine Z_geti (pc := 11) dX3_useObject_11 w1_187 (lo_0 hP ho) fi_4_10 ?_
    refine Y_aload_n (pc := 14) (j := 0) dX3_useObject_14 rfl rfl ?_
    refine Z_getr (pc := 15) dX3_useObject_15 w1_169 (lo_0 hP ho) fr_4_1 (lor_0_1 hP ho) ?_
    refine Z_getr (pc := 18) dX3_useObject_18 w1_119 (lk_11 hP) fr_7_5 (lr_11_5 hP) ?_
    refine Y_iload_n (pc := 21) (j := 2) dX3_useObject_21 rfl rfl ?_
    obtain ⟨hb5, h⟩ := okE h
    refine Y_iald (pc := 22) dX3_useObject_22 (lk_17 hP) (ln_17 hP) hb5 ?_
    obtain ⟨hb6, h⟩ := okE h
    refine Y_iast (pc := 23) dX3_useObject_23 (lo_9 hP ho) (lon_9 hP ho) hb6 ?_
    obtain ⟨M2, eM2, h⟩ := bndE h
    refine VV.mem eM2 ?_
    have hP2 := hP.wI eM2
    refine Y_aload_n (pc := 24) (j := 0) dX3_useObject_24 rfl rfl ?_
    refine Y_bipush (pc := 25) (v := (111 : Int32)) dX3_useObject_25 rfl ?_
    refine Y_aload_n (pc := 27) (j := 0) dX3_useObject_27 rfl rfl ?_
    refine Z_geti (pc := 28) dX3_useObject_28 w1_187 (lo_0 hP2 ho) fi_4_10 ?_
    obtain ⟨y10, qy10, h⟩ := bindE h
    have cy10 := v_X3_pushPut ho hP2 qy10
    refine C_V2o (pc := 31) (k' := k_X3_pushPut) dX3_useObject_31 w5_169 i_X3_pushPut (lo_0 hP2 ho) ⟨Nat.le_of_ble_eq_true rfl, Nat.le_of_ble_eq_true rfl⟩ rfl (Nat.le_of_ble_eq_true rfl) (Nat.le_of_ble_eq_true rfl) (Nat.le_of_ble_eq_true rfl) (cy10) ?_
    have hPy10 := cy10.1.1
    refine Y_aload_n (pc := 34) (j := 0) dX3_useObject_34 rfl rfl ?_
    refine Y_dup (pc := 35) dX3_useObject_35 rfl ?_
    refine Z_geti (pc := 36) dX3_useObject_36 w1_187 (lo_0 hPy10 ho) fi_4_10 ?_
    refine Y_iconst (pc := 39) (v := (1 : Int32)) dX3_useObject_39 rfl ?_
    refine Y_iadd (pc := 40) dX3_useObject_40 ?_
    refine Z_puti (pc := 41) dX3_useObject_41 w1_187 (lo_0 hPy10 ho) fi_4_10 (Or.inl rfl) rfl ?_
    obtain ⟨M3, eM3, h⟩ := bndE h
    refine VV.mem eM3 ?_
    have hP3 := hPy10.wI eM3
    refine Y_goto (pc := 44) (tgt := 140) dX3_useObject_44 (by decide) ?_
    cases h
    exact Y_vret (pc := 140) rfl dX3_useObject_140 hP3 ⟨rfl, rfl⟩
theorem v_X3_useObject {o : Nat} {x1 : Int32} {x2 : Int32} {M z} (ho : o = 18 ∨ o = 28) (hP : Lay M) (h : d_X3_useObject o x1 x2 M = some z) : CC Lay k_X3_useObject [.ref o, .int x1, .int x2] M z.2 (Qv (none) z.2) xF :=
  CC.ofVV (by decide) rfl (Nat.le_of_ble_eq_true rfl) (b_X3_useObject ho hP h)
noncomputable def d_X3_tell (o : Nat) (x1 : Int32) (M : Mem) : Option (Unit × Mem) :=
  if (20 : Int32) ≤ (mI M o 11) then (
    some ((), M))
  else (
    (d_X8_move o x1 ((528 : Int32) + (mI M o 11)) M).bind fun y1 =>
    bnd (sI y1.2 o 11 ((mI y1.2 o 11) + (1 : Int32))) fun M1 =>
    some ((), M1))
theorem b_X3_tell {o : Nat} {x1 : Int32} {M z} (ho : o = 18 ∨ o = 28) (hP : Lay M) (h : d_X3_tell o x1 M = some z) : VV Lay k_X3_tell 0 [(0, .ref o), (1, .int x1)] [] M z.2 (Qv (none) z.2) xF := by
  unfold d_X3_tell at h
  refine Y_aload_n (pc := 0) (j := 0) dX3_tell_0 rfl rfl ?_
  refine Z_geti (pc := 1) dX3_tell_1 w1_189 (lo_0 hP ho) fi_4_11 ?_
  refine Y_bipush (pc := 4) (v := (20 : Int32)) dX3_tell_4 rfl ?_
  refine Y_icmp_ge (pc := 6) (tgt := 35) dX3_tell_6 (by decide) (fun hc1 => ?_) (fun hc1 => ?_)
  · replace h := ifT hc1 h
    cases h
    exact Y_vret (pc := 35) rfl dX3_tell_35 hP ⟨rfl, rfl⟩
  · replace h := ifF hc1 h
    refine Y_aload_n (pc := 9) (j := 0) dX3_tell_9 rfl rfl ?_
    refine Z_getr (pc := 10) dX3_tell_10 w1_171 (lo_0 hP ho) fr_4_2 (lor_0_2 hP ho) ?_
    refine Y_iload_n (pc := 13) (j := 1) dX3_tell_13 rfl rfl ?_
    refine Y_sipush (pc := 14) (v := (528 : Int32)) dX3_tell_14 rfl ?_
    refine Y_aload_n (pc := 17) (j := 0) dX3_tell_17 rfl rfl ?_
    refine Z_geti (pc := 18) dX3_tell_18 w1_189 (lo_0 hP ho) fi_4_11 ?_
    refine Y_iadd (pc := 21) dX3_tell_21 ?_
    obtain ⟨y1, qy1, h⟩ := bindE h
    have cy1 := v_X8_move ho hP qy1
    refine C_V2o (pc := 22) (k' := k_X8_move) dX3_tell_22 w5_193 i_X8_move (lo_1 hP ho) ⟨Nat.le_of_ble_eq_true rfl, Nat.le_of_ble_eq_true rfl⟩ rfl (Nat.le_of_ble_eq_true rfl) (Nat.le_of_ble_eq_true rfl) (Nat.le_of_ble_eq_true rfl) (cy1) ?_
    have hPy1 := cy1.1.1
    refine Y_aload_n (pc := 25) (j := 0) dX3_tell_25 rfl rfl ?_
    refine Y_dup (pc := 26) dX3_tell_26 rfl ?_
    refine Z_geti (pc := 27) dX3_tell_27 w1_189 (lo_0 hPy1 ho) fi_4_11 ?_
    refine Y_iconst (pc := 30) (v := (1 : Int32)) dX3_tell_30 rfl ?_
    refine Y_iadd (pc := 31) dX3_tell_31 ?_
    refine Z_puti (pc := 32) dX3_tell_32 w1_189 (lo_0 hPy1 ho) fi_4_11 (Or.inl rfl) rfl ?_
    obtain ⟨M1, eM1, h⟩ := bndE h
    refine VV.mem eM1 ?_
    have hP1 := hPy1.wI eM1
    cases h
    exact Y_vret (pc := 35) rfl dX3_tell_35 hP1 ⟨rfl, rfl⟩
theorem v_X3_tell {o : Nat} {x1 : Int32} {M z} (ho : o = 18 ∨ o = 28) (hP : Lay M) (h : d_X3_tell o x1 M = some z) : CC Lay k_X3_tell [.ref o, .int x1] M z.2 (Qv (none) z.2) xF :=
  CC.ofVV (by decide) rfl (Nat.le_of_ble_eq_true rfl) (b_X3_tell ho hP h)
noncomputable def d_X4_nearest_47 (x2 : Int64) (M : Mem) : Option (Int32 × Mem) :=
  bnd ((x2 + (1 : Int64))) fun b1 =>
  some ((b1.toInt32), M)
theorem b_X4_nearest_47 {x2 : Int64} {M z} (hP : Lay M) (h : d_X4_nearest_47 x2 M = some z) : VV Lay k_X4_nearest 47 [(2, .long x2)] [] M z.2 (Qv (some (.int z.1)) z.2) xF := by
  unfold d_X4_nearest_47 at h
  refine Y_lload_n (pc := 47) (j := 0) dX4_nearest_47 rfl rfl ?_
  refine Y_lconst (pc := 48) (v := (1 : Int64)) dX4_nearest_48 rfl ?_
  refine Y_ladd (pc := 49) dX4_nearest_49 ?_
  obtain ⟨b1, eb1, h⟩ := bndE h
  refine VV.topL eb1 ?_
  refine Y_lstore_n (pc := 50) (lv1 := [(2, .long b1)]) dX4_nearest_50 rfl (by decide) rfl ?_
  refine Y_goto (pc := 51) (tgt := 81) dX4_nearest_51 (by decide) ?_
  refine Y_lload_n (pc := 81) (j := 0) dX4_nearest_81 rfl rfl ?_
  refine Y_l2i (pc := 82) dX4_nearest_82 ?_
  cases h
  exact Y_iret (pc := 83) rfl rfl dX4_nearest_83 hP ⟨rfl, rfl⟩
noncomputable def d_X4_nearest_77 (x2 : Int64) (M : Mem) : Option (Int32 × Mem) :=
  bnd ((x2 - (1 : Int64))) fun b1 =>
  some ((b1.toInt32), M)
theorem b_X4_nearest_77 {x2 : Int64} {M z} (hP : Lay M) (h : d_X4_nearest_77 x2 M = some z) : VV Lay k_X4_nearest 77 [(2, .long x2)] [] M z.2 (Qv (some (.int z.1)) z.2) xF := by
  unfold d_X4_nearest_77 at h
  refine Y_lload_n (pc := 77) (j := 0) dX4_nearest_77 rfl rfl ?_
  refine Y_lconst (pc := 78) (v := (1 : Int64)) dX4_nearest_78 rfl ?_
  refine Y_lsub (pc := 79) dX4_nearest_79 ?_
  obtain ⟨b1, eb1, h⟩ := bndE h
  refine VV.topL eb1 ?_
  refine Y_lstore_n (pc := 80) (lv1 := [(2, .long b1)]) dX4_nearest_80 rfl (by decide) rfl ?_
  refine Y_lload_n (pc := 81) (j := 0) dX4_nearest_81 rfl rfl ?_
  refine Y_l2i (pc := 82) dX4_nearest_82 ?_
  cases h
  exact Y_iret (pc := 83) rfl rfl dX4_nearest_83 hP ⟨rfl, rfl⟩
noncomputable def d_X4_nearest_54 (x2 : Int64) (x4 : UInt64) (x6 : Int32) (M : Mem) : Option (Int32 × Mem) :=
  if (Op.cmpValue (FP.dcmp x4 (13826050856027422720 : UInt64)) .g) < 0 then (
    d_X4_nearest_77 x2 M)
  else (
    if (Op.cmpValue (FP.dcmp x4 (13826050856027422720 : UInt64)) .l) = 0 then (
      if x6 = 0 then (
        some ((x2.toInt32), M))
      else (
        d_X4_nearest_77 x2 M))
    else (
      some ((x2.toInt32), M)))
theorem b_X4_nearest_54 {x2 : Int64} {x4 : UInt64} {x6 : Int32} {M z} (hP : Lay M) (h : d_X4_nearest_54 x2 x4 x6 M = some z) : VV Lay k_X4_nearest 54 [(2, .long x2), (4, .double x4), (6, .int x6)] [] M z.2 (Qv (some (.int z.1)) z.2) xF := by
  unfold d_X4_nearest_54 at h
  refine Y_dload (pc := 54) (j := 1) dX4_nearest_54 rfl ?_
  refine Y_ldc2d (pc := 56) (by decide) dX4_nearest_56 w5_237 ?_
  refine Y_dcmp (pc := 59) dX4_nearest_59 ?_
  refine Y_if_lt (pc := 60) (tgt := 77) dX4_nearest_60 (by decide) (fun hc1 => ?_) (fun hc1 => ?_)
  · replace h := ifT hc1 h
    refine VV.sub [0] rfl ?_
    exact b_X4_nearest_77  hP h
  · replace h := ifF hc1 h
    refine Y_dload (pc := 63) (j := 1) dX4_nearest_63 rfl ?_
    refine Y_ldc2d (pc := 65) (by decide) dX4_nearest_65 w5_237 ?_
    refine Y_dcmp (pc := 68) dX4_nearest_68 ?_
    refine Y_if_ne (pc := 69) (tgt := 81) dX4_nearest_69 (by decide) (fun hc2 => ?_) (fun hc2 => ?_)
    · replace h := ifF hc2 h
      refine Y_lload_n (pc := 81) (j := 0) dX4_nearest_81 rfl rfl ?_
      refine Y_l2i (pc := 82) dX4_nearest_82 ?_
      cases h
      exact Y_iret (pc := 83) rfl rfl dX4_nearest_83 hP ⟨rfl, rfl⟩
    · replace h := ifT hc2 h
      refine Y_iload (pc := 72) (j := 2) dX4_nearest_72 rfl ?_
      refine Y_if_eq (pc := 74) (tgt := 81) dX4_nearest_74 (by decide) (fun hc3 => ?_) (fun hc3 => ?_)
      · replace h := ifT hc3 h
        refine Y_lload_n (pc := 81) (j := 0) dX4_nearest_81 rfl rfl ?_
        refine Y_l2i (pc := 82) dX4_nearest_82 ?_
        cases h
        exact Y_iret (pc := 83) rfl rfl dX4_nearest_83 hP ⟨rfl, rfl⟩
      · replace h := ifF hc3 h
        refine VV.sub [0] rfl ?_
        exact b_X4_nearest_77  hP h
noncomputable def d_X4_nearest_22 (x2 : Int64) (x4 : UInt64) (s0 : Int32) (M : Mem) : Option (Int32 × Mem) :=
  if 0 < (Op.cmpValue (FP.dcmp x4 (4602678819172646912 : UInt64)) .l) then (
    d_X4_nearest_47 x2 M)
  else (
    if (Op.cmpValue (FP.dcmp x4 (4602678819172646912 : UInt64)) .l) = 0 then (
      if s0 = 0 then (
        d_X4_nearest_54 x2 x4 s0 M)
      else (
        d_X4_nearest_47 x2 M))
    else (
      d_X4_nearest_54 x2 x4 s0 M))
theorem b_X4_nearest_22 {x2 : Int64} {x4 : UInt64} {s0 : Int32} {M z} (hP : Lay M) (h : d_X4_nearest_22 x2 x4 s0 M = some z) : VV Lay k_X4_nearest 22 [(2, .long x2), (4, .double x4)] [.int s0] M z.2 (Qv (some (.int z.1)) z.2) xF := by
  unfold d_X4_nearest_22 at h
  refine Y_istore (pc := 22) (lv1 := [(6, .int s0), (2, .long x2), (4, .double x4)]) dX4_nearest_22 (by decide) rfl ?_
  refine Y_dload (pc := 24) (j := 2) dX4_nearest_24 rfl ?_
  refine Y_ldc2d (pc := 26) (by decide) dX4_nearest_26 w5_236 ?_
  refine Y_dcmp (pc := 29) dX4_nearest_29 ?_
  refine Y_if_gt (pc := 30) (tgt := 47) dX4_nearest_30 (by decide) (fun hc1 => ?_) (fun hc1 => ?_)
  · replace h := ifT hc1 h
    refine VV.sub [1] rfl ?_
    exact b_X4_nearest_47  hP h
  · replace h := ifF hc1 h
    refine Y_dload (pc := 33) (j := 2) dX4_nearest_33 rfl ?_
    refine Y_ldc2d (pc := 35) (by decide) dX4_nearest_35 w5_236 ?_
    refine Y_dcmp (pc := 38) dX4_nearest_38 ?_
    refine Y_if_ne (pc := 39) (tgt := 54) dX4_nearest_39 (by decide) (fun hc2 => ?_) (fun hc2 => ?_)
    · replace h := ifF hc2 h
      refine VV.sub [1, 2, 0] rfl ?_
      exact b_X4_nearest_54  hP h
    · replace h := ifT hc2 h
      refine Y_iload (pc := 42) (j := 0) dX4_nearest_42 rfl ?_
      refine Y_if_eq (pc := 44) (tgt := 54) dX4_nearest_44 (by decide) (fun hc3 => ?_) (fun hc3 => ?_)
      · replace h := ifT hc3 h
        refine VV.sub [1, 2, 0] rfl ?_
        exact b_X4_nearest_54  hP h
      · replace h := ifF hc3 h
        refine VV.sub [1] rfl ?_
        exact b_X4_nearest_47  hP h
noncomputable def d_X4_nearest (x0 : UInt64) (M : Mem) : Option (Int32 × Mem) :=
  bnd ((FP.d2l x0)) fun b1 =>
  bnd ((FP.dsub x0 (FP.l2d b1))) fun b2 =>
  if (lg_cmp (b1 &&& (1 : Int64)) (0 : Int64)) = 0 then (
    d_X4_nearest_22 b1 b2 (0 : Int32) M)
  else (
    d_X4_nearest_22 b1 b2 (1 : Int32) M)
theorem b_X4_nearest {x0 : UInt64} {M z} (hP : Lay M) (h : d_X4_nearest x0 M = some z) : VV Lay k_X4_nearest 0 [(0, .double x0)] [] M z.2 (Qv (some (.int z.1)) z.2) xF := by
  unfold d_X4_nearest at h
  refine Y_dload_n (pc := 0) (j := 0) dX4_nearest_0 rfl rfl ?_
  refine Y_d2l (pc := 1) dX4_nearest_1 ?_
  obtain ⟨b1, eb1, h⟩ := bndE h
  refine VV.topL eb1 ?_
  refine Y_lstore_n (pc := 2) (lv1 := [(2, .long b1), (0, .double x0)]) dX4_nearest_2 rfl (by decide) rfl ?_
  refine Y_dload_n (pc := 3) (j := 1) dX4_nearest_3 rfl rfl ?_
  refine Y_lload_n (pc := 4) (j := 0) dX4_nearest_4 rfl rfl ?_
  refine Y_l2d (pc := 5) dX4_nearest_5 ?_
  refine Y_dsub (pc := 6) dX4_nearest_6 ?_
  obtain ⟨b2, eb2, h⟩ := bndE h
  refine VV.topD eb2 ?_
  refine Y_dstore (pc := 7) (lv1 := [(4, .double b2), (2, .long b1), (0, .double x0)]) dX4_nearest_7 (by decide) rfl ?_
  refine Y_lload_n (pc := 9) (j := 1) dX4_nearest_9 rfl rfl ?_
  refine Y_lconst (pc := 10) (v := (1 : Int64)) dX4_nearest_10 rfl ?_
  refine Y_land (pc := 11) dX4_nearest_11 ?_
  refine Y_lconst (pc := 12) (v := (0 : Int64)) dX4_nearest_12 rfl ?_
  refine Y_lcmp (pc := 13) dX4_nearest_13 ?_
  refine Y_if_eq (pc := 14) (tgt := 21) dX4_nearest_14 (by decide) (fun hc1 => ?_) (fun hc1 => ?_)
  · replace h := ifT hc1 h
    refine Y_iconst (pc := 21) (v := (0 : Int32)) dX4_nearest_21 rfl ?_
    refine VV.sub [1, 0] rfl ?_
    exact b_X4_nearest_22  hP h
  · replace h := ifF hc1 h
    refine Y_iconst (pc := 17) (v := (1 : Int32)) dX4_nearest_17 rfl ?_
    refine Y_goto (pc := 18) (tgt := 22) dX4_nearest_18 (by decide) ?_
    refine VV.sub [1, 0] rfl ?_
    exact b_X4_nearest_22  hP h
theorem v_X4_nearest {x0 : UInt64} {M z} (hP : Lay M) (h : d_X4_nearest x0 M = some z) : CC Lay k_X4_nearest [.double x0] M z.2 (Qv (some (.int z.1)) z.2) xF :=
  CC.ofVV (by decide) rfl (Nat.le_of_ble_eq_true rfl) (b_X4_nearest hP h)
noncomputable def d_X8_round (o : Nat) (x1 : Int32) (M : Mem) : Option (Unit × Mem) :=
  okk (vp_in x1 549) <|
  if (mI M (o + 2) x1.toNatClampNeg) = (102 : Int32) then (
    okk (vp_in x1 549) <|
    (d_X4_nearest (mD M (o + 4) x1.toNatClampNeg) M).bind fun y1 =>
    (d_X8_put o x1 (105 : Int32) y1.1 y1.2).bind fun y2 =>
    some ((), y2.2))
  else (
    some ((), M))
theorem b_X8_round {o : Nat} {x1 : Int32} {M z} (ho : o = 18 ∨ o = 28) (hP : Lay M) (h : d_X8_round o x1 M = some z) : VV Lay k_X8_round 0 [(0, .ref (o + 1)), (1, .int x1)] [] M z.2 (Qv (none) z.2) xF := by
  unfold d_X8_round at h
  refine Y_aload_n (pc := 0) (j := 0) dX8_round_0 rfl rfl ?_
  refine Z_getr (pc := 1) dX8_round_1 w1_149 (lo_1 hP ho) fr_8_0 (lor_1_0 hP ho) ?_
  refine Y_iload_n (pc := 4) (j := 1) dX8_round_4 rfl rfl ?_
  obtain ⟨hb1, h⟩ := okE h
  refine Y_cald (pc := 5) dX8_round_5 (lo_2 hP ho) (lon_2 hP ho) hb1 ?_
  refine Y_bipush (pc := 6) (v := (102 : Int32)) dX8_round_6 rfl ?_
  refine Y_icmp_ne (pc := 8) (tgt := 27) dX8_round_8 (by decide) (fun hc1 => ?_) (fun hc1 => ?_)
  · replace h := ifF hc1 h
    cases h
    exact Y_vret (pc := 27) rfl dX8_round_27 hP ⟨rfl, rfl⟩
  · replace h := ifT hc1 h
    refine Y_aload_n (pc := 11) (j := 0) dX8_round_11 rfl rfl ?_
    refine Y_iload_n (pc := 12) (j := 1) dX8_round_12 rfl rfl ?_
    refine Y_bipush (pc := 13) (v := (105 : Int32)) dX8_round_13 rfl ?_
    refine Y_aload_n (pc := 15) (j := 0) dX8_round_15 rfl rfl ?_
    refine Z_getr (pc := 16) dX8_round_16 w1_154 (lo_1 hP ho) fr_8_2 (lor_1_2 hP ho) ?_
    refine Y_iload_n (pc := 19) (j := 1) dX8_round_19 rfl rfl ?_
    obtain ⟨hb2, h⟩ := okE h
    refine Y_dald (pc := 20) dX8_round_20 (lo_4 hP ho) (lon_4 hP ho) hb2 ?_
    obtain ⟨y1, qy1, h⟩ := bindE h
    have cy1 := v_X4_nearest hP qy1
    refine C_S1r (pc := 21) (k' := k_X4_nearest) dX8_round_21 w5_233 i_X4_nearest (Nat.le_of_ble_eq_true rfl) (Nat.le_of_ble_eq_true rfl) (Nat.le_of_ble_eq_true rfl) (cy1) ?_
    have hPy1 := cy1.1.1
    obtain ⟨y2, qy2, h⟩ := bindE h
    have cy2 := v_X8_put ho hPy1 qy2
    refine C_V3o (pc := 24) (k' := k_X8_put) dX8_round_24 w5_238 i_X8_put (lo_1 hPy1 ho) ⟨Nat.le_of_ble_eq_true rfl, Nat.le_of_ble_eq_true rfl⟩ rfl (Nat.le_of_ble_eq_true rfl) (Nat.le_of_ble_eq_true rfl) (Nat.le_of_ble_eq_true rfl) (cy2) ?_
    have hPy2 := cy2.1.1
    cases h
    exact Y_vret (pc := 27) rfl dX8_round_27 hPy2 ⟨rfl, rfl⟩
theorem v_X8_round {o : Nat} {x1 : Int32} {M z} (ho : o = 18 ∨ o = 28) (hP : Lay M) (h : d_X8_round o x1 M = some z) : CC Lay k_X8_round [.ref (o + 1), .int x1] M z.2 (Qv (none) z.2) xF :=
  CC.ofVV (by decide) rfl (Nat.le_of_ble_eq_true rfl) (b_X8_round ho hP h)
noncomputable def d_X8_realAt (o : Nat) (x1 : Int32) (M : Mem) : Option (UInt64 × Mem) :=
  okk (vp_in x1 549) <|
  if (mI M (o + 2) x1.toNatClampNeg) = (105 : Int32) then (
    okk (vp_in x1 549) <|
    some ((FP.i2d (mI M (o + 3) x1.toNatClampNeg)), M))
  else (
    okk (vp_in x1 549) <|
    some ((mD M (o + 4) x1.toNatClampNeg), M))
theorem b_X8_realAt {o : Nat} {x1 : Int32} {M z} (ho : o = 18 ∨ o = 28) (hP : Lay M) (h : d_X8_realAt o x1 M = some z) : VV Lay k_X8_realAt 0 [(0, .ref (o + 1)), (1, .int x1)] [] M z.2 (Qv (some (.double z.1)) z.2) xF := by
  unfold d_X8_realAt at h
  refine Y_aload_n (pc := 0) (j := 0) dX8_realAt_0 rfl rfl ?_
  refine Z_getr (pc := 1) dX8_realAt_1 w1_149 (lo_1 hP ho) fr_8_0 (lor_1_0 hP ho) ?_
  refine Y_iload_n (pc := 4) (j := 1) dX8_realAt_4 rfl rfl ?_
  obtain ⟨hb1, h⟩ := okE h
  refine Y_cald (pc := 5) dX8_realAt_5 (lo_2 hP ho) (lon_2 hP ho) hb1 ?_
  refine Y_bipush (pc := 6) (v := (105 : Int32)) dX8_realAt_6 rfl ?_
  refine Y_icmp_ne (pc := 8) (tgt := 21) dX8_realAt_8 (by decide) (fun hc1 => ?_) (fun hc1 => ?_)
  · replace h := ifF hc1 h
    refine Y_aload_n (pc := 21) (j := 0) dX8_realAt_21 rfl rfl ?_
    refine Z_getr (pc := 22) dX8_realAt_22 w1_154 (lo_1 hP ho) fr_8_2 (lor_1_2 hP ho) ?_
    refine Y_iload_n (pc := 25) (j := 1) dX8_realAt_25 rfl rfl ?_
    obtain ⟨hb2, h⟩ := okE h
    refine Y_dald (pc := 26) dX8_realAt_26 (lo_4 hP ho) (lon_4 hP ho) hb2 ?_
    cases h
    exact Y_dret (pc := 27) rfl dX8_realAt_27 hP ⟨rfl, rfl⟩
  · replace h := ifT hc1 h
    refine Y_aload_n (pc := 11) (j := 0) dX8_realAt_11 rfl rfl ?_
    refine Z_getr (pc := 12) dX8_realAt_12 w1_152 (lo_1 hP ho) fr_8_1 (lor_1_1 hP ho) ?_
    refine Y_iload_n (pc := 15) (j := 1) dX8_realAt_15 rfl rfl ?_
    obtain ⟨hb3, h⟩ := okE h
    refine Y_iald (pc := 16) dX8_realAt_16 (lo_3 hP ho) (lon_3 hP ho) hb3 ?_
    refine Y_i2d (pc := 17) dX8_realAt_17 ?_
    refine Y_goto (pc := 18) (tgt := 27) dX8_realAt_18 (by decide) ?_
    cases h
    exact Y_dret (pc := 27) rfl dX8_realAt_27 hP ⟨rfl, rfl⟩
theorem v_X8_realAt {o : Nat} {x1 : Int32} {M z} (ho : o = 18 ∨ o = 28) (hP : Lay M) (h : d_X8_realAt o x1 M = some z) : CC Lay k_X8_realAt [.ref (o + 1), .int x1] M z.2 (Qv (some (.double z.1)) z.2) xF :=
  CC.ofVV (by decide) rfl (Nat.le_of_ble_eq_true rfl) (b_X8_realAt ho hP h)
noncomputable def d_X8_areEqual_52 (o : Nat) (x1 : Int32) (x2 : Int32) (M : Mem) : Option (Int32 × Mem) :=
  okk (vp_in x1 549) <|
  okk (vp_in x2 549) <|
  if (mI M (o + 2) x1.toNatClampNeg) = (mI M (o + 2) x2.toNatClampNeg) then (
    okk (vp_in x1 549) <|
    okk (vp_in x2 549) <|
    if (mI M (o + 3) x1.toNatClampNeg) = (mI M (o + 3) x2.toNatClampNeg) then (
      some ((1 : Int32), M))
    else (
      some ((0 : Int32), M)))
  else (
    some ((0 : Int32), M))
theorem b_X8_areEqual_52 {o : Nat} {x1 : Int32} {x2 : Int32} {M z} (ho : o = 18 ∨ o = 28) (hP : Lay M) (h : d_X8_areEqual_52 o x1 x2 M = some z) : VV Lay k_X8_areEqual 52 [(0, .ref (o + 1)), (1, .int x1), (2, .int x2)] [] M z.2 (Qv (some (.int z.1)) z.2) xF := by
  unfold d_X8_areEqual_52 at h
  refine Y_aload_n (pc := 52) (j := 0) dX8_areEqual_52 rfl rfl ?_
  refine Z_getr (pc := 53) dX8_areEqual_53 w1_149 (lo_1 hP ho) fr_8_0 (lor_1_0 hP ho) ?_
  refine Y_iload_n (pc := 56) (j := 1) dX8_areEqual_56 rfl rfl ?_
  obtain ⟨hb1, h⟩ := okE h
  refine Y_cald (pc := 57) dX8_areEqual_57 (lo_2 hP ho) (lon_2 hP ho) hb1 ?_
  refine Y_aload_n (pc := 58) (j := 0) dX8_areEqual_58 rfl rfl ?_
  refine Z_getr (pc := 59) dX8_areEqual_59 w1_149 (lo_1 hP ho) fr_8_0 (lor_1_0 hP ho) ?_
  refine Y_iload_n (pc := 62) (j := 2) dX8_areEqual_62 rfl rfl ?_
  obtain ⟨hb2, h⟩ := okE h
  refine Y_cald (pc := 63) dX8_areEqual_63 (lo_2 hP ho) (lon_2 hP ho) hb2 ?_
  refine Y_icmp_ne (pc := 64) (tgt := 86) dX8_areEqual_64 (by decide) (fun hc1 => ?_) (fun hc1 => ?_)
  · replace h := ifF hc1 h
    refine Y_iconst (pc := 86) (v := (0 : Int32)) dX8_areEqual_86 rfl ?_
    cases h
    exact Y_iret (pc := 87) rfl (nar_bo (by decide)) dX8_areEqual_87 hP ⟨rfl, rfl⟩
  · replace h := ifT hc1 h
    refine Y_aload_n (pc := 67) (j := 0) dX8_areEqual_67 rfl rfl ?_
    refine Z_getr (pc := 68) dX8_areEqual_68 w1_152 (lo_1 hP ho) fr_8_1 (lor_1_1 hP ho) ?_
    refine Y_iload_n (pc := 71) (j := 1) dX8_areEqual_71 rfl rfl ?_
    obtain ⟨hb3, h⟩ := okE h
    refine Y_iald (pc := 72) dX8_areEqual_72 (lo_3 hP ho) (lon_3 hP ho) hb3 ?_
    refine Y_aload_n (pc := 73) (j := 0) dX8_areEqual_73 rfl rfl ?_
    refine Z_getr (pc := 74) dX8_areEqual_74 w1_152 (lo_1 hP ho) fr_8_1 (lor_1_1 hP ho) ?_
    refine Y_iload_n (pc := 77) (j := 2) dX8_areEqual_77 rfl rfl ?_
    obtain ⟨hb4, h⟩ := okE h
    refine Y_iald (pc := 78) dX8_areEqual_78 (lo_3 hP ho) (lon_3 hP ho) hb4 ?_
    refine Y_icmp_ne (pc := 79) (tgt := 86) dX8_areEqual_79 (by decide) (fun hc2 => ?_) (fun hc2 => ?_)
    · replace h := ifF hc2 h
      refine Y_iconst (pc := 86) (v := (0 : Int32)) dX8_areEqual_86 rfl ?_
      cases h
      exact Y_iret (pc := 87) rfl (nar_bo (by decide)) dX8_areEqual_87 hP ⟨rfl, rfl⟩
    · replace h := ifT hc2 h
      refine Y_iconst (pc := 82) (v := (1 : Int32)) dX8_areEqual_82 rfl ?_
      refine Y_goto (pc := 83) (tgt := 87) dX8_areEqual_83 (by decide) ?_
      cases h
      exact Y_iret (pc := 87) rfl (nar_bo (by decide)) dX8_areEqual_87 hP ⟨rfl, rfl⟩
noncomputable def d_X8_areEqual (o : Nat) (x1 : Int32) (x2 : Int32) (M : Mem) : Option (Int32 × Mem) :=
  (d_X8_isNumber o x1 M).bind fun y1 =>
  if y1.1 = 0 then (
    d_X8_areEqual_52 o x1 x2 y1.2)
  else (
    (d_X8_isNumber o x2 y1.2).bind fun y2 =>
    if y2.1 = 0 then (
      d_X8_areEqual_52 o x1 x2 y2.2)
    else (
      (d_X8_isUndefined o x1 y2.2).bind fun y3 =>
      if y3.1 = 0 then (
        (d_X8_isUndefined o x2 y3.2).bind fun y4 =>
        if y4.1 = 0 then (
          (d_X8_realAt o x1 y4.2).bind fun y5 =>
          (d_X8_realAt o x2 y5.2).bind fun y6 =>
          if (Op.cmpValue (FP.dcmp y5.1 y6.1) .l) = 0 then (
            some ((1 : Int32), y6.2))
          else (
            some ((0 : Int32), y6.2)))
        else (
          some ((0 : Int32), y4.2)))
      else (
        some ((0 : Int32), y3.2))))
theorem b_X8_areEqual {o : Nat} {x1 : Int32} {x2 : Int32} {M z} (ho : o = 18 ∨ o = 28) (hP : Lay M) (h : d_X8_areEqual o x1 x2 M = some z) : VV Lay k_X8_areEqual 0 [(0, .ref (o + 1)), (1, .int x1), (2, .int x2)] [] M z.2 (Qv (some (.int z.1)) z.2) xF := by
  unfold d_X8_areEqual at h
  refine Y_aload_n (pc := 0) (j := 0) dX8_areEqual_0 rfl rfl ?_
  refine Y_iload_n (pc := 1) (j := 1) dX8_areEqual_1 rfl rfl ?_
  obtain ⟨y1, qy1, h⟩ := bindE h
  have cy1 := v_X8_isNumber ho hP qy1
  refine C_V1r (pc := 2) (k' := k_X8_isNumber) dX8_areEqual_2 w6_7 i_X8_isNumber (lo_1 hP ho) ⟨Nat.le_of_ble_eq_true rfl, Nat.le_of_ble_eq_true rfl⟩ rfl (Nat.le_of_ble_eq_true rfl) (Nat.le_of_ble_eq_true rfl) (Nat.le_of_ble_eq_true rfl) (cy1) ?_
  have hPy1 := cy1.1.1
  refine Y_if_eq (pc := 5) (tgt := 52) dX8_areEqual_5 (by decide) (fun hc1 => ?_) (fun hc1 => ?_)
  · replace h := ifT hc1 h
    refine VV.sub [0, 1, 2] rfl ?_
    exact b_X8_areEqual_52 ho hPy1 h
  · replace h := ifF hc1 h
    refine Y_aload_n (pc := 8) (j := 0) dX8_areEqual_8 rfl rfl ?_
    refine Y_iload_n (pc := 9) (j := 2) dX8_areEqual_9 rfl rfl ?_
    obtain ⟨y2, qy2, h⟩ := bindE h
    have cy2 := v_X8_isNumber ho hPy1 qy2
    refine C_V1r (pc := 10) (k' := k_X8_isNumber) dX8_areEqual_10 w6_7 i_X8_isNumber (lo_1 hPy1 ho) ⟨Nat.le_of_ble_eq_true rfl, Nat.le_of_ble_eq_true rfl⟩ rfl (Nat.le_of_ble_eq_true rfl) (Nat.le_of_ble_eq_true rfl) (Nat.le_of_ble_eq_true rfl) (cy2) ?_
    have hPy2 := cy2.1.1
    refine Y_if_eq (pc := 13) (tgt := 52) dX8_areEqual_13 (by decide) (fun hc2 => ?_) (fun hc2 => ?_)
    · replace h := ifT hc2 h
      refine VV.sub [0, 1, 2] rfl ?_
      exact b_X8_areEqual_52 ho hPy2 h
    · replace h := ifF hc2 h
      refine Y_aload_n (pc := 16) (j := 0) dX8_areEqual_16 rfl rfl ?_
      refine Y_iload_n (pc := 17) (j := 1) dX8_areEqual_17 rfl rfl ?_
      obtain ⟨y3, qy3, h⟩ := bindE h
      have cy3 := v_X8_isUndefined ho hPy2 qy3
      refine C_V1r (pc := 18) (k' := k_X8_isUndefined) dX8_areEqual_18 w5_131 i_X8_isUndefined (lo_1 hPy2 ho) ⟨Nat.le_of_ble_eq_true rfl, Nat.le_of_ble_eq_true rfl⟩ rfl (Nat.le_of_ble_eq_true rfl) (Nat.le_of_ble_eq_true rfl) (Nat.le_of_ble_eq_true rfl) (cy3) ?_
      have hPy3 := cy3.1.1
      refine Y_if_ne (pc := 21) (tgt := 50) dX8_areEqual_21 (by decide) (fun hc3 => ?_) (fun hc3 => ?_)
      · replace h := ifF hc3 h
        refine Y_iconst (pc := 50) (v := (0 : Int32)) dX8_areEqual_50 rfl ?_
        cases h
        exact Y_iret (pc := 51) rfl (nar_bo (by decide)) dX8_areEqual_51 hPy3 ⟨rfl, rfl⟩
      · replace h := ifT hc3 h
        refine Y_aload_n (pc := 24) (j := 0) dX8_areEqual_24 rfl rfl ?_
        refine Y_iload_n (pc := 25) (j := 2) dX8_areEqual_25 rfl rfl ?_
        obtain ⟨y4, qy4, h⟩ := bindE h
        have cy4 := v_X8_isUndefined ho hPy3 qy4
        refine C_V1r (pc := 26) (k' := k_X8_isUndefined) dX8_areEqual_26 w5_131 i_X8_isUndefined (lo_1 hPy3 ho) ⟨Nat.le_of_ble_eq_true rfl, Nat.le_of_ble_eq_true rfl⟩ rfl (Nat.le_of_ble_eq_true rfl) (Nat.le_of_ble_eq_true rfl) (Nat.le_of_ble_eq_true rfl) (cy4) ?_
        have hPy4 := cy4.1.1
        refine Y_if_ne (pc := 29) (tgt := 50) dX8_areEqual_29 (by decide) (fun hc4 => ?_) (fun hc4 => ?_)
        · replace h := ifF hc4 h
          refine Y_iconst (pc := 50) (v := (0 : Int32)) dX8_areEqual_50 rfl ?_
          cases h
          exact Y_iret (pc := 51) rfl (nar_bo (by decide)) dX8_areEqual_51 hPy4 ⟨rfl, rfl⟩
        · replace h := ifT hc4 h
          refine Y_aload_n (pc := 32) (j := 0) dX8_areEqual_32 rfl rfl ?_
          refine Y_iload_n (pc := 33) (j := 1) dX8_areEqual_33 rfl rfl ?_
          obtain ⟨y5, qy5, h⟩ := bindE h
          have cy5 := v_X8_realAt ho hPy4 qy5
          refine C_V1r (pc := 34) (k' := k_X8_realAt) dX8_areEqual_34 w6_8 i_X8_realAt (lo_1 hPy4 ho) ⟨Nat.le_of_ble_eq_true rfl, Nat.le_of_ble_eq_true rfl⟩ rfl (Nat.le_of_ble_eq_true rfl) (Nat.le_of_ble_eq_true rfl) (Nat.le_of_ble_eq_true rfl) (cy5) ?_
          have hPy5 := cy5.1.1
          refine Y_aload_n (pc := 37) (j := 0) dX8_areEqual_37 rfl rfl ?_
          refine Y_iload_n (pc := 38) (j := 2) dX8_areEqual_38 rfl rfl ?_
          obtain ⟨y6, qy6, h⟩ := bindE h
          have cy6 := v_X8_realAt ho hPy5 qy6
          refine C_V1r (pc := 39) (k' := k_X8_realAt) dX8_areEqual_39 w6_8 i_X8_realAt (lo_1 hPy5 ho) ⟨Nat.le_of_ble_eq_true rfl, Nat.le_of_ble_eq_true rfl⟩ rfl (Nat.le_of_ble_eq_true rfl) (Nat.le_of_ble_eq_true rfl) (Nat.le_of_ble_eq_true rfl) (cy6) ?_
          have hPy6 := cy6.1.1
          refine Y_dcmp (pc := 42) dX8_areEqual_42 ?_
          refine Y_if_ne (pc := 43) (tgt := 50) dX8_areEqual_43 (by decide) (fun hc5 => ?_) (fun hc5 => ?_)
          · replace h := ifF hc5 h
            refine Y_iconst (pc := 50) (v := (0 : Int32)) dX8_areEqual_50 rfl ?_
            cases h
            exact Y_iret (pc := 51) rfl (nar_bo (by decide)) dX8_areEqual_51 hPy6 ⟨rfl, rfl⟩
          · replace h := ifT hc5 h
            refine Y_iconst (pc := 46) (v := (1 : Int32)) dX8_areEqual_46 rfl ?_
            refine Y_goto (pc := 47) (tgt := 51) dX8_areEqual_47 (by decide) ?_
            cases h
            exact Y_iret (pc := 51) rfl (nar_bo (by decide)) dX8_areEqual_51 hPy6 ⟨rfl, rfl⟩
theorem v_X8_areEqual {o : Nat} {x1 : Int32} {x2 : Int32} {M z} (ho : o = 18 ∨ o = 28) (hP : Lay M) (h : d_X8_areEqual o x1 x2 M = some z) : CC Lay k_X8_areEqual [.ref (o + 1), .int x1, .int x2] M z.2 (Qv (some (.int z.1)) z.2) xF :=
  CC.ofVV (by decide) rfl (Nat.le_of_ble_eq_true rfl) (b_X8_areEqual ho hP h)
noncomputable def d_X4_ofIntegers (x0 : Int32) (x1 : Int64) (x2 : Int64) (M : Mem) : Option (Int64 × Mem) :=
  if x0 = (37 : Int32) then (
    if (lg_cmp x2 (0 : Int64)) = 0 then (
      some ((0 : Int64), M))
    else (
      okk (¬ x2 = 0) <|
      some ((x1 - x1 / x2 * x2), M)))
  else if x0 = (42 : Int32) then (
    some ((x1 * x2), M))
  else if x0 = (43 : Int32) then (
    some ((x1 + x2), M))
  else if x0 = (45 : Int32) then (
    some ((x1 - x2), M))
  else if x0 = (47 : Int32) then (
    if (lg_cmp x2 (0 : Int64)) = 0 then (
      some ((0 : Int64), M))
    else (
      okk (¬ x2 = 0) <|
      some ((x1 / x2), M)))
  else (
    if 0 ≤ (lg_cmp x1 x2) then (
      some ((0 : Int64), M))
    else (
      some ((1 : Int64), M)))
theorem b_X4_ofIntegers {x0 : Int32} {x1 : Int64} {x2 : Int64} {M z} (hP : Lay M) (h : d_X4_ofIntegers x0 x1 x2 M = some z) : VV Lay k_X4_ofIntegers 0 [(0, .int x0), (1, .long x1), (3, .long x2)] [] M z.2 (Qv (some (.long z.1)) z.2) xF := by
  unfold d_X4_ofIntegers at h
  refine Y_iload_n (pc := 0) (j := 0) dX4_ofIntegers_0 rfl rfl ?_
  refine Y_table (pc := 1) dX4_ofIntegers_1 [(37, 86), (38, 100), (39, 100), (40, 100), (41, 100), (42, 68), (43, 60), (44, 100), (45, 64), (46, 100), (47, 72)] 100 (by decide) (tab_ok (by decide +kernel)) (by decide) ?_ ?_
  · refine xs_cons ?_ <| xs_cons ?_ <| xs_cons ?_ <| xs_cons ?_ <| xs_cons ?_ <| xs_cons ?_ <| xs_cons ?_ <| xs_cons ?_ <| xs_cons ?_ <| xs_cons ?_ <| xs_cons ?_ <| xs_nil
    · intro e9
      replace h := ifT (by rw [e9] <;> decide) h
      refine Y_lload_n (pc := 86) (j := 2) dX4_ofIntegers_86 rfl rfl ?_
      refine Y_lconst (pc := 87) (v := (0 : Int64)) dX4_ofIntegers_87 rfl ?_
      refine Y_lcmp (pc := 88) dX4_ofIntegers_88 ?_
      refine Y_if_ne (pc := 89) (tgt := 96) dX4_ofIntegers_89 (by decide) (fun hc1 => ?_) (fun hc1 => ?_)
      · replace h := ifF hc1 h
        refine Y_lload_n (pc := 96) (j := 1) dX4_ofIntegers_96 rfl rfl ?_
        refine Y_lload_n (pc := 97) (j := 2) dX4_ofIntegers_97 rfl rfl ?_
        obtain ⟨hb1, h⟩ := okE h
        refine Y_lrem (pc := 98) dX4_ofIntegers_98 hb1 ?_
        cases h
        exact Y_lret (pc := 99) rfl dX4_ofIntegers_99 hP ⟨rfl, rfl⟩
      · replace h := ifT hc1 h
        refine Y_lconst (pc := 92) (v := (0 : Int64)) dX4_ofIntegers_92 rfl ?_
        refine Y_goto (pc := 93) (tgt := 99) dX4_ofIntegers_93 (by decide) ?_
        cases h
        exact Y_lret (pc := 99) rfl dX4_ofIntegers_99 hP ⟨rfl, rfl⟩
    · intro e9
      replace h := ifF (by rw [e9] <;> decide) h
      replace h := ifF (by rw [e9] <;> decide) h
      replace h := ifF (by rw [e9] <;> decide) h
      replace h := ifF (by rw [e9] <;> decide) h
      replace h := ifF (by rw [e9] <;> decide) h
      refine Y_lload_n (pc := 100) (j := 1) dX4_ofIntegers_100 rfl rfl ?_
      refine Y_lload_n (pc := 101) (j := 2) dX4_ofIntegers_101 rfl rfl ?_
      refine Y_lcmp (pc := 102) dX4_ofIntegers_102 ?_
      refine Y_if_ge (pc := 103) (tgt := 110) dX4_ofIntegers_103 (by decide) (fun hc3 => ?_) (fun hc3 => ?_)
      · replace h := ifT hc3 h
        refine Y_lconst (pc := 110) (v := (0 : Int64)) dX4_ofIntegers_110 rfl ?_
        cases h
        exact Y_lret (pc := 111) rfl dX4_ofIntegers_111 hP ⟨rfl, rfl⟩
      · replace h := ifF hc3 h
        refine Y_lconst (pc := 106) (v := (1 : Int64)) dX4_ofIntegers_106 rfl ?_
        refine Y_goto (pc := 107) (tgt := 111) dX4_ofIntegers_107 (by decide) ?_
        cases h
        exact Y_lret (pc := 111) rfl dX4_ofIntegers_111 hP ⟨rfl, rfl⟩
    · intro e9
      replace h := ifF (by rw [e9] <;> decide) h
      replace h := ifF (by rw [e9] <;> decide) h
      replace h := ifF (by rw [e9] <;> decide) h
      replace h := ifF (by rw [e9] <;> decide) h
      replace h := ifF (by rw [e9] <;> decide) h
      refine Y_lload_n (pc := 100) (j := 1) dX4_ofIntegers_100 rfl rfl ?_
      refine Y_lload_n (pc := 101) (j := 2) dX4_ofIntegers_101 rfl rfl ?_
      refine Y_lcmp (pc := 102) dX4_ofIntegers_102 ?_
      refine Y_if_ge (pc := 103) (tgt := 110) dX4_ofIntegers_103 (by decide) (fun hc3 => ?_) (fun hc3 => ?_)
      · replace h := ifT hc3 h
        refine Y_lconst (pc := 110) (v := (0 : Int64)) dX4_ofIntegers_110 rfl ?_
        cases h
        exact Y_lret (pc := 111) rfl dX4_ofIntegers_111 hP ⟨rfl, rfl⟩
      · replace h := ifF hc3 h
        refine Y_lconst (pc := 106) (v := (1 : Int64)) dX4_ofIntegers_106 rfl ?_
        refine Y_goto (pc := 107) (tgt := 111) dX4_ofIntegers_107 (by decide) ?_
        cases h
        exact Y_lret (pc := 111) rfl dX4_ofIntegers_111 hP ⟨rfl, rfl⟩
    · intro e9
      replace h := ifF (by rw [e9] <;> decide) h
      replace h := ifF (by rw [e9] <;> decide) h
      replace h := ifF (by rw [e9] <;> decide) h
      replace h := ifF (by rw [e9] <;> decide) h
      replace h := ifF (by rw [e9] <;> decide) h
      refine Y_lload_n (pc := 100) (j := 1) dX4_ofIntegers_100 rfl rfl ?_
      refine Y_lload_n (pc := 101) (j := 2) dX4_ofIntegers_101 rfl rfl ?_
      refine Y_lcmp (pc := 102) dX4_ofIntegers_102 ?_
      refine Y_if_ge (pc := 103) (tgt := 110) dX4_ofIntegers_103 (by decide) (fun hc3 => ?_) (fun hc3 => ?_)
      · replace h := ifT hc3 h
        refine Y_lconst (pc := 110) (v := (0 : Int64)) dX4_ofIntegers_110 rfl ?_
        cases h
        exact Y_lret (pc := 111) rfl dX4_ofIntegers_111 hP ⟨rfl, rfl⟩
      · replace h := ifF hc3 h
        refine Y_lconst (pc := 106) (v := (1 : Int64)) dX4_ofIntegers_106 rfl ?_
        refine Y_goto (pc := 107) (tgt := 111) dX4_ofIntegers_107 (by decide) ?_
        cases h
        exact Y_lret (pc := 111) rfl dX4_ofIntegers_111 hP ⟨rfl, rfl⟩
    · intro e9
      replace h := ifF (by rw [e9] <;> decide) h
      replace h := ifF (by rw [e9] <;> decide) h
      replace h := ifF (by rw [e9] <;> decide) h
      replace h := ifF (by rw [e9] <;> decide) h
      replace h := ifF (by rw [e9] <;> decide) h
      refine Y_lload_n (pc := 100) (j := 1) dX4_ofIntegers_100 rfl rfl ?_
      refine Y_lload_n (pc := 101) (j := 2) dX4_ofIntegers_101 rfl rfl ?_
      refine Y_lcmp (pc := 102) dX4_ofIntegers_102 ?_
      refine Y_if_ge (pc := 103) (tgt := 110) dX4_ofIntegers_103 (by decide) (fun hc3 => ?_) (fun hc3 => ?_)
      · replace h := ifT hc3 h
        refine Y_lconst (pc := 110) (v := (0 : Int64)) dX4_ofIntegers_110 rfl ?_
        cases h
        exact Y_lret (pc := 111) rfl dX4_ofIntegers_111 hP ⟨rfl, rfl⟩
      · replace h := ifF hc3 h
        refine Y_lconst (pc := 106) (v := (1 : Int64)) dX4_ofIntegers_106 rfl ?_
        refine Y_goto (pc := 107) (tgt := 111) dX4_ofIntegers_107 (by decide) ?_
        cases h
        exact Y_lret (pc := 111) rfl dX4_ofIntegers_111 hP ⟨rfl, rfl⟩
    · intro e9
      replace h := ifF (by rw [e9] <;> decide) h
      replace h := ifT (by rw [e9] <;> decide) h
      refine Y_lload_n (pc := 68) (j := 1) dX4_ofIntegers_68 rfl rfl ?_
      refine Y_lload_n (pc := 69) (j := 2) dX4_ofIntegers_69 rfl rfl ?_
      refine Y_lmul (pc := 70) dX4_ofIntegers_70 ?_
      cases h
      exact Y_lret (pc := 71) rfl dX4_ofIntegers_71 hP ⟨rfl, rfl⟩
    · intro e9
      replace h := ifF (by rw [e9] <;> decide) h
      replace h := ifF (by rw [e9] <;> decide) h
      replace h := ifT (by rw [e9] <;> decide) h
      refine Y_lload_n (pc := 60) (j := 1) dX4_ofIntegers_60 rfl rfl ?_
      refine Y_lload_n (pc := 61) (j := 2) dX4_ofIntegers_61 rfl rfl ?_
      refine Y_ladd (pc := 62) dX4_ofIntegers_62 ?_
      cases h
      exact Y_lret (pc := 63) rfl dX4_ofIntegers_63 hP ⟨rfl, rfl⟩
    · intro e9
      replace h := ifF (by rw [e9] <;> decide) h
      replace h := ifF (by rw [e9] <;> decide) h
      replace h := ifF (by rw [e9] <;> decide) h
      replace h := ifF (by rw [e9] <;> decide) h
      replace h := ifF (by rw [e9] <;> decide) h
      refine Y_lload_n (pc := 100) (j := 1) dX4_ofIntegers_100 rfl rfl ?_
      refine Y_lload_n (pc := 101) (j := 2) dX4_ofIntegers_101 rfl rfl ?_
      refine Y_lcmp (pc := 102) dX4_ofIntegers_102 ?_
      refine Y_if_ge (pc := 103) (tgt := 110) dX4_ofIntegers_103 (by decide) (fun hc3 => ?_) (fun hc3 => ?_)
      · replace h := ifT hc3 h
        refine Y_lconst (pc := 110) (v := (0 : Int64)) dX4_ofIntegers_110 rfl ?_
        cases h
        exact Y_lret (pc := 111) rfl dX4_ofIntegers_111 hP ⟨rfl, rfl⟩
      · replace h := ifF hc3 h
        refine Y_lconst (pc := 106) (v := (1 : Int64)) dX4_ofIntegers_106 rfl ?_
        refine Y_goto (pc := 107) (tgt := 111) dX4_ofIntegers_107 (by decide) ?_
        cases h
        exact Y_lret (pc := 111) rfl dX4_ofIntegers_111 hP ⟨rfl, rfl⟩
    · intro e9
      replace h := ifF (by rw [e9] <;> decide) h
      replace h := ifF (by rw [e9] <;> decide) h
      replace h := ifF (by rw [e9] <;> decide) h
      replace h := ifT (by rw [e9] <;> decide) h
      refine Y_lload_n (pc := 64) (j := 1) dX4_ofIntegers_64 rfl rfl ?_
      refine Y_lload_n (pc := 65) (j := 2) dX4_ofIntegers_65 rfl rfl ?_
      refine Y_lsub (pc := 66) dX4_ofIntegers_66 ?_
      cases h
      exact Y_lret (pc := 67) rfl dX4_ofIntegers_67 hP ⟨rfl, rfl⟩
    · intro e9
      replace h := ifF (by rw [e9] <;> decide) h
      replace h := ifF (by rw [e9] <;> decide) h
      replace h := ifF (by rw [e9] <;> decide) h
      replace h := ifF (by rw [e9] <;> decide) h
      replace h := ifF (by rw [e9] <;> decide) h
      refine Y_lload_n (pc := 100) (j := 1) dX4_ofIntegers_100 rfl rfl ?_
      refine Y_lload_n (pc := 101) (j := 2) dX4_ofIntegers_101 rfl rfl ?_
      refine Y_lcmp (pc := 102) dX4_ofIntegers_102 ?_
      refine Y_if_ge (pc := 103) (tgt := 110) dX4_ofIntegers_103 (by decide) (fun hc3 => ?_) (fun hc3 => ?_)
      · replace h := ifT hc3 h
        refine Y_lconst (pc := 110) (v := (0 : Int64)) dX4_ofIntegers_110 rfl ?_
        cases h
        exact Y_lret (pc := 111) rfl dX4_ofIntegers_111 hP ⟨rfl, rfl⟩
      · replace h := ifF hc3 h
        refine Y_lconst (pc := 106) (v := (1 : Int64)) dX4_ofIntegers_106 rfl ?_
        refine Y_goto (pc := 107) (tgt := 111) dX4_ofIntegers_107 (by decide) ?_
        cases h
        exact Y_lret (pc := 111) rfl dX4_ofIntegers_111 hP ⟨rfl, rfl⟩
    · intro e9
      replace h := ifF (by rw [e9] <;> decide) h
      replace h := ifF (by rw [e9] <;> decide) h
      replace h := ifF (by rw [e9] <;> decide) h
      replace h := ifF (by rw [e9] <;> decide) h
      replace h := ifT (by rw [e9] <;> decide) h
      refine Y_lload_n (pc := 72) (j := 2) dX4_ofIntegers_72 rfl rfl ?_
      refine Y_lconst (pc := 73) (v := (0 : Int64)) dX4_ofIntegers_73 rfl ?_
      refine Y_lcmp (pc := 74) dX4_ofIntegers_74 ?_
      refine Y_if_ne (pc := 75) (tgt := 82) dX4_ofIntegers_75 (by decide) (fun hc2 => ?_) (fun hc2 => ?_)
      · replace h := ifF hc2 h
        refine Y_lload_n (pc := 82) (j := 1) dX4_ofIntegers_82 rfl rfl ?_
        refine Y_lload_n (pc := 83) (j := 2) dX4_ofIntegers_83 rfl rfl ?_
        obtain ⟨hb2, h⟩ := okE h
        refine Y_ldiv (pc := 84) dX4_ofIntegers_84 hb2 ?_
        cases h
        exact Y_lret (pc := 85) rfl dX4_ofIntegers_85 hP ⟨rfl, rfl⟩
      · replace h := ifT hc2 h
        refine Y_lconst (pc := 78) (v := (0 : Int64)) dX4_ofIntegers_78 rfl ?_
        refine Y_goto (pc := 79) (tgt := 85) dX4_ofIntegers_79 (by decide) ?_
        cases h
        exact Y_lret (pc := 85) rfl dX4_ofIntegers_85 hP ⟨rfl, rfl⟩
  · intro n9
    replace h := ifF (xs_no n9 (by decide : ((37 : Int32), 86) ∈ _)) h
    replace h := ifF (xs_no n9 (by decide : ((42 : Int32), 68) ∈ _)) h
    replace h := ifF (xs_no n9 (by decide : ((43 : Int32), 60) ∈ _)) h
    replace h := ifF (xs_no n9 (by decide : ((45 : Int32), 64) ∈ _)) h
    replace h := ifF (xs_no n9 (by decide : ((47 : Int32), 72) ∈ _)) h
    refine Y_lload_n (pc := 100) (j := 1) dX4_ofIntegers_100 rfl rfl ?_
    refine Y_lload_n (pc := 101) (j := 2) dX4_ofIntegers_101 rfl rfl ?_
    refine Y_lcmp (pc := 102) dX4_ofIntegers_102 ?_
    refine Y_if_ge (pc := 103) (tgt := 110) dX4_ofIntegers_103 (by decide) (fun hc3 => ?_) (fun hc3 => ?_)
    · replace h := ifT hc3 h
      refine Y_lconst (pc := 110) (v := (0 : Int64)) dX4_ofIntegers_110 rfl ?_
      cases h
      exact Y_lret (pc := 111) rfl dX4_ofIntegers_111 hP ⟨rfl, rfl⟩
    · replace h := ifF hc3 h
      refine Y_lconst (pc := 106) (v := (1 : Int64)) dX4_ofIntegers_106 rfl ?_
      refine Y_goto (pc := 107) (tgt := 111) dX4_ofIntegers_107 (by decide) ?_
      cases h
      exact Y_lret (pc := 111) rfl dX4_ofIntegers_111 hP ⟨rfl, rfl⟩
theorem v_X4_ofIntegers {x0 : Int32} {x1 : Int64} {x2 : Int64} {M z} (hP : Lay M) (h : d_X4_ofIntegers x0 x1 x2 M = some z) : CC Lay k_X4_ofIntegers [.int x0, .long x1, .long x2] M z.2 (Qv (some (.long z.1)) z.2) xF :=
  CC.ofVV (by decide) rfl (Nat.le_of_ble_eq_true rfl) (b_X4_ofIntegers hP h)
noncomputable def d_X4_isInteger (x0 : Int64) (M : Mem) : Option (Int32 × Mem) :=
  if (lg_cmp x0 (-2147483648 : Int64)) < 0 then (
    some ((0 : Int32), M))
  else (
    if 0 < (lg_cmp x0 (2147483647 : Int64)) then (
      some ((0 : Int32), M))
    else (
      some ((1 : Int32), M)))
theorem b_X4_isInteger {x0 : Int64} {M z} (hP : Lay M) (h : d_X4_isInteger x0 M = some z) : VV Lay k_X4_isInteger 0 [(0, .long x0)] [] M z.2 (Qv (some (.int z.1)) z.2) xF := by
  unfold d_X4_isInteger at h
  refine Y_lload_n (pc := 0) (j := 0) dX4_isInteger_0 rfl rfl ?_
  refine Y_ldc2 (pc := 1) dX4_isInteger_1 w6_23 ?_
  refine Y_lcmp (pc := 4) dX4_isInteger_4 ?_
  refine Y_if_lt (pc := 5) (tgt := 20) dX4_isInteger_5 (by decide) (fun hc1 => ?_) (fun hc1 => ?_)
  · replace h := ifT hc1 h
    refine Y_iconst (pc := 20) (v := (0 : Int32)) dX4_isInteger_20 rfl ?_
    cases h
    exact Y_iret (pc := 21) rfl (nar_bo (by decide)) dX4_isInteger_21 hP ⟨rfl, rfl⟩
  · replace h := ifF hc1 h
    refine Y_lload_n (pc := 8) (j := 0) dX4_isInteger_8 rfl rfl ?_
    refine Y_ldc2 (pc := 9) dX4_isInteger_9 w6_24 ?_
    refine Y_lcmp (pc := 12) dX4_isInteger_12 ?_
    refine Y_if_gt (pc := 13) (tgt := 20) dX4_isInteger_13 (by decide) (fun hc2 => ?_) (fun hc2 => ?_)
    · replace h := ifT hc2 h
      refine Y_iconst (pc := 20) (v := (0 : Int32)) dX4_isInteger_20 rfl ?_
      cases h
      exact Y_iret (pc := 21) rfl (nar_bo (by decide)) dX4_isInteger_21 hP ⟨rfl, rfl⟩
    · replace h := ifF hc2 h
      refine Y_iconst (pc := 16) (v := (1 : Int32)) dX4_isInteger_16 rfl ?_
      refine Y_goto (pc := 17) (tgt := 21) dX4_isInteger_17 (by decide) ?_
      cases h
      exact Y_iret (pc := 21) rfl (nar_bo (by decide)) dX4_isInteger_21 hP ⟨rfl, rfl⟩
theorem v_X4_isInteger {x0 : Int64} {M z} (hP : Lay M) (h : d_X4_isInteger x0 M = some z) : CC Lay k_X4_isInteger [.long x0] M z.2 (Qv (some (.int z.1)) z.2) xF :=
  CC.ofVV (by decide) rfl (Nat.le_of_ble_eq_true rfl) (b_X4_isInteger hP h)
noncomputable def d_X8_givesInteger (o : Nat) (x1 : Int32) (x2 : Int32) (x3 : Int32) (M : Mem) : Option (Int32 × Mem) :=
  (d_X8_areIntegers o x2 x3 M).bind fun y1 =>
  if y1.1 = 0 then (
    some ((0 : Int32), y1.2))
  else (
    okk (vp_in x2 549) <|
    okk (vp_in x3 549) <|
    (d_X4_ofIntegers x1 ((mI y1.2 (o + 3) x2.toNatClampNeg).toInt64) ((mI y1.2 (o + 3) x3.toNatClampNeg).toInt64) y1.2).bind fun y2 =>
    (d_X4_isInteger y2.1 y2.2).bind fun y3 =>
    if y3.1 = 0 then (
      some ((0 : Int32), y3.2))
    else (
      some ((1 : Int32), y3.2)))
theorem b_X8_givesInteger {o : Nat} {x1 : Int32} {x2 : Int32} {x3 : Int32} {M z} (ho : o = 18 ∨ o = 28) (hP : Lay M) (h : d_X8_givesInteger o x1 x2 x3 M = some z) : VV Lay k_X8_givesInteger 0 [(0, .ref (o + 1)), (1, .int x1), (2, .int x2), (3, .int x3)] [] M z.2 (Qv (some (.int z.1)) z.2) xF := by
  unfold d_X8_givesInteger at h
  refine Y_aload_n (pc := 0) (j := 0) dX8_givesInteger_0 rfl rfl ?_
  refine Y_iload_n (pc := 1) (j := 2) dX8_givesInteger_1 rfl rfl ?_
  refine Y_iload_n (pc := 2) (j := 3) dX8_givesInteger_2 rfl rfl ?_
  obtain ⟨y1, qy1, h⟩ := bindE h
  have cy1 := v_X8_areIntegers ho hP qy1
  refine C_V2r (pc := 3) (k' := k_X8_areIntegers) dX8_givesInteger_3 w6_16 i_X8_areIntegers (lo_1 hP ho) ⟨Nat.le_of_ble_eq_true rfl, Nat.le_of_ble_eq_true rfl⟩ rfl (Nat.le_of_ble_eq_true rfl) (Nat.le_of_ble_eq_true rfl) (Nat.le_of_ble_eq_true rfl) (cy1) ?_
  have hPy1 := cy1.1.1
  refine Y_if_eq (pc := 6) (tgt := 37) dX8_givesInteger_6 (by decide) (fun hc1 => ?_) (fun hc1 => ?_)
  · replace h := ifT hc1 h
    refine Y_iconst (pc := 37) (v := (0 : Int32)) dX8_givesInteger_37 rfl ?_
    cases h
    exact Y_iret (pc := 38) rfl (nar_bo (by decide)) dX8_givesInteger_38 hPy1 ⟨rfl, rfl⟩
  · replace h := ifF hc1 h
    refine Y_iload_n (pc := 9) (j := 1) dX8_givesInteger_9 rfl rfl ?_
    refine Y_aload_n (pc := 10) (j := 0) dX8_givesInteger_10 rfl rfl ?_
    refine Z_getr (pc := 11) dX8_givesInteger_11 w1_152 (lo_1 hPy1 ho) fr_8_1 (lor_1_1 hPy1 ho) ?_
    refine Y_iload_n (pc := 14) (j := 2) dX8_givesInteger_14 rfl rfl ?_
    obtain ⟨hb1, h⟩ := okE h
    refine Y_iald (pc := 15) dX8_givesInteger_15 (lo_3 hPy1 ho) (lon_3 hPy1 ho) hb1 ?_
    refine Y_i2l (pc := 16) dX8_givesInteger_16 ?_
    refine Y_aload_n (pc := 17) (j := 0) dX8_givesInteger_17 rfl rfl ?_
    refine Z_getr (pc := 18) dX8_givesInteger_18 w1_152 (lo_1 hPy1 ho) fr_8_1 (lor_1_1 hPy1 ho) ?_
    refine Y_iload_n (pc := 21) (j := 3) dX8_givesInteger_21 rfl rfl ?_
    obtain ⟨hb2, h⟩ := okE h
    refine Y_iald (pc := 22) dX8_givesInteger_22 (lo_3 hPy1 ho) (lon_3 hPy1 ho) hb2 ?_
    refine Y_i2l (pc := 23) dX8_givesInteger_23 ?_
    obtain ⟨y2, qy2, h⟩ := bindE h
    have cy2 := v_X4_ofIntegers hPy1 qy2
    refine C_S3r (pc := 24) (k' := k_X4_ofIntegers) dX8_givesInteger_24 w6_17 i_X4_ofIntegers (Nat.le_of_ble_eq_true rfl) (Nat.le_of_ble_eq_true rfl) (Nat.le_of_ble_eq_true rfl) (cy2) ?_
    have hPy2 := cy2.1.1
    obtain ⟨y3, qy3, h⟩ := bindE h
    have cy3 := v_X4_isInteger hPy2 qy3
    refine C_S1r (pc := 27) (k' := k_X4_isInteger) dX8_givesInteger_27 w6_20 i_X4_isInteger (Nat.le_of_ble_eq_true rfl) (Nat.le_of_ble_eq_true rfl) (Nat.le_of_ble_eq_true rfl) (cy3) ?_
    have hPy3 := cy3.1.1
    refine Y_if_eq (pc := 30) (tgt := 37) dX8_givesInteger_30 (by decide) (fun hc2 => ?_) (fun hc2 => ?_)
    · replace h := ifT hc2 h
      refine Y_iconst (pc := 37) (v := (0 : Int32)) dX8_givesInteger_37 rfl ?_
      cases h
      exact Y_iret (pc := 38) rfl (nar_bo (by decide)) dX8_givesInteger_38 hPy3 ⟨rfl, rfl⟩
    · replace h := ifF hc2 h
      refine Y_iconst (pc := 33) (v := (1 : Int32)) dX8_givesInteger_33 rfl ?_
      refine Y_goto (pc := 34) (tgt := 38) dX8_givesInteger_34 (by decide) ?_
      cases h
      exact Y_iret (pc := 38) rfl (nar_bo (by decide)) dX8_givesInteger_38 hPy3 ⟨rfl, rfl⟩
theorem v_X8_givesInteger {o : Nat} {x1 : Int32} {x2 : Int32} {x3 : Int32} {M z} (ho : o = 18 ∨ o = 28) (hP : Lay M) (h : d_X8_givesInteger o x1 x2 x3 M = some z) : CC Lay k_X8_givesInteger [.ref (o + 1), .int x1, .int x2, .int x3] M z.2 (Qv (some (.int z.1)) z.2) xF :=
  CC.ofVV (by decide) rfl (Nat.le_of_ble_eq_true rfl) (b_X8_givesInteger ho hP h)
noncomputable def d_X8_isLess (o : Nat) (x1 : Int32) (x2 : Int32) (M : Mem) : Option (Int32 × Mem) :=
  (d_X8_isUndefined o x1 M).bind fun y1 =>
  if y1.1 = 0 then (
    (d_X8_isUndefined o x2 y1.2).bind fun y2 =>
    if y2.1 = 0 then (
      (d_X8_realAt o x1 y2.2).bind fun y3 =>
      (d_X8_realAt o x2 y3.2).bind fun y4 =>
      if 0 ≤ (Op.cmpValue (FP.dcmp y3.1 y4.1) .g) then (
        some ((0 : Int32), y4.2))
      else (
        some ((1 : Int32), y4.2)))
    else (
      some ((0 : Int32), y2.2)))
  else (
    some ((0 : Int32), y1.2))
theorem b_X8_isLess {o : Nat} {x1 : Int32} {x2 : Int32} {M z} (ho : o = 18 ∨ o = 28) (hP : Lay M) (h : d_X8_isLess o x1 x2 M = some z) : VV Lay k_X8_isLess 0 [(0, .ref (o + 1)), (1, .int x1), (2, .int x2)] [] M z.2 (Qv (some (.int z.1)) z.2) xF := by
  unfold d_X8_isLess at h
  refine Y_aload_n (pc := 0) (j := 0) dX8_isLess_0 rfl rfl ?_
  refine Y_iload_n (pc := 1) (j := 1) dX8_isLess_1 rfl rfl ?_
  obtain ⟨y1, qy1, h⟩ := bindE h
  have cy1 := v_X8_isUndefined ho hP qy1
  refine C_V1r (pc := 2) (k' := k_X8_isUndefined) dX8_isLess_2 w5_131 i_X8_isUndefined (lo_1 hP ho) ⟨Nat.le_of_ble_eq_true rfl, Nat.le_of_ble_eq_true rfl⟩ rfl (Nat.le_of_ble_eq_true rfl) (Nat.le_of_ble_eq_true rfl) (Nat.le_of_ble_eq_true rfl) (cy1) ?_
  have hPy1 := cy1.1.1
  refine Y_if_ne (pc := 5) (tgt := 34) dX8_isLess_5 (by decide) (fun hc1 => ?_) (fun hc1 => ?_)
  · replace h := ifF hc1 h
    refine Y_iconst (pc := 34) (v := (0 : Int32)) dX8_isLess_34 rfl ?_
    cases h
    exact Y_iret (pc := 35) rfl (nar_bo (by decide)) dX8_isLess_35 hPy1 ⟨rfl, rfl⟩
  · replace h := ifT hc1 h
    refine Y_aload_n (pc := 8) (j := 0) dX8_isLess_8 rfl rfl ?_
    refine Y_iload_n (pc := 9) (j := 2) dX8_isLess_9 rfl rfl ?_
    obtain ⟨y2, qy2, h⟩ := bindE h
    have cy2 := v_X8_isUndefined ho hPy1 qy2
    refine C_V1r (pc := 10) (k' := k_X8_isUndefined) dX8_isLess_10 w5_131 i_X8_isUndefined (lo_1 hPy1 ho) ⟨Nat.le_of_ble_eq_true rfl, Nat.le_of_ble_eq_true rfl⟩ rfl (Nat.le_of_ble_eq_true rfl) (Nat.le_of_ble_eq_true rfl) (Nat.le_of_ble_eq_true rfl) (cy2) ?_
    have hPy2 := cy2.1.1
    refine Y_if_ne (pc := 13) (tgt := 34) dX8_isLess_13 (by decide) (fun hc2 => ?_) (fun hc2 => ?_)
    · replace h := ifF hc2 h
      refine Y_iconst (pc := 34) (v := (0 : Int32)) dX8_isLess_34 rfl ?_
      cases h
      exact Y_iret (pc := 35) rfl (nar_bo (by decide)) dX8_isLess_35 hPy2 ⟨rfl, rfl⟩
    · replace h := ifT hc2 h
      refine Y_aload_n (pc := 16) (j := 0) dX8_isLess_16 rfl rfl ?_
      refine Y_iload_n (pc := 17) (j := 1) dX8_isLess_17 rfl rfl ?_
      obtain ⟨y3, qy3, h⟩ := bindE h
      have cy3 := v_X8_realAt ho hPy2 qy3
      refine C_V1r (pc := 18) (k' := k_X8_realAt) dX8_isLess_18 w6_8 i_X8_realAt (lo_1 hPy2 ho) ⟨Nat.le_of_ble_eq_true rfl, Nat.le_of_ble_eq_true rfl⟩ rfl (Nat.le_of_ble_eq_true rfl) (Nat.le_of_ble_eq_true rfl) (Nat.le_of_ble_eq_true rfl) (cy3) ?_
      have hPy3 := cy3.1.1
      refine Y_aload_n (pc := 21) (j := 0) dX8_isLess_21 rfl rfl ?_
      refine Y_iload_n (pc := 22) (j := 2) dX8_isLess_22 rfl rfl ?_
      obtain ⟨y4, qy4, h⟩ := bindE h
      have cy4 := v_X8_realAt ho hPy3 qy4
      refine C_V1r (pc := 23) (k' := k_X8_realAt) dX8_isLess_23 w6_8 i_X8_realAt (lo_1 hPy3 ho) ⟨Nat.le_of_ble_eq_true rfl, Nat.le_of_ble_eq_true rfl⟩ rfl (Nat.le_of_ble_eq_true rfl) (Nat.le_of_ble_eq_true rfl) (Nat.le_of_ble_eq_true rfl) (cy4) ?_
      have hPy4 := cy4.1.1
      refine Y_dcmp (pc := 26) dX8_isLess_26 ?_
      refine Y_if_ge (pc := 27) (tgt := 34) dX8_isLess_27 (by decide) (fun hc3 => ?_) (fun hc3 => ?_)
      · replace h := ifT hc3 h
        refine Y_iconst (pc := 34) (v := (0 : Int32)) dX8_isLess_34 rfl ?_
        cases h
        exact Y_iret (pc := 35) rfl (nar_bo (by decide)) dX8_isLess_35 hPy4 ⟨rfl, rfl⟩
      · replace h := ifF hc3 h
        refine Y_iconst (pc := 30) (v := (1 : Int32)) dX8_isLess_30 rfl ?_
        refine Y_goto (pc := 31) (tgt := 35) dX8_isLess_31 (by decide) ?_
        cases h
        exact Y_iret (pc := 35) rfl (nar_bo (by decide)) dX8_isLess_35 hPy4 ⟨rfl, rfl⟩
theorem v_X8_isLess {o : Nat} {x1 : Int32} {x2 : Int32} {M z} (ho : o = 18 ∨ o = 28) (hP : Lay M) (h : d_X8_isLess o x1 x2 M = some z) : CC Lay k_X8_isLess [.ref (o + 1), .int x1, .int x2] M z.2 (Qv (some (.int z.1)) z.2) xF :=
  CC.ofVV (by decide) rfl (Nat.le_of_ble_eq_true rfl) (b_X8_isLess ho hP h)
noncomputable def d_X4_isEndless (x0 : UInt64) (M : Mem) : Option (Int32 × Mem) :=
  if 0 < (Op.cmpValue (FP.dcmp x0 (9218868437227405311 : UInt64)) .l) then (
    some ((1 : Int32), M))
  else (
    if 0 ≤ (Op.cmpValue (FP.dcmp x0 (18442240474082181119 : UInt64)) .g) then (
      some ((0 : Int32), M))
    else (
      some ((1 : Int32), M)))
theorem b_X4_isEndless {x0 : UInt64} {M z} (hP : Lay M) (h : d_X4_isEndless x0 M = some z) : VV Lay k_X4_isEndless 0 [(0, .double x0)] [] M z.2 (Qv (some (.int z.1)) z.2) xF := by
  unfold d_X4_isEndless at h
  refine Y_dload_n (pc := 0) (j := 0) dX4_isEndless_0 rfl rfl ?_
  refine Y_ldc2d (pc := 1) (by decide) dX4_isEndless_1 w6_39 ?_
  refine Y_dcmp (pc := 4) dX4_isEndless_4 ?_
  refine Y_if_gt (pc := 5) (tgt := 16) dX4_isEndless_5 (by decide) (fun hc1 => ?_) (fun hc1 => ?_)
  · replace h := ifT hc1 h
    refine Y_iconst (pc := 16) (v := (1 : Int32)) dX4_isEndless_16 rfl ?_
    refine Y_goto (pc := 17) (tgt := 21) dX4_isEndless_17 (by decide) ?_
    cases h
    exact Y_iret (pc := 21) rfl (nar_bo (by decide)) dX4_isEndless_21 hP ⟨rfl, rfl⟩
  · replace h := ifF hc1 h
    refine Y_dload_n (pc := 8) (j := 0) dX4_isEndless_8 rfl rfl ?_
    refine Y_ldc2d (pc := 9) (by decide) dX4_isEndless_9 w6_40 ?_
    refine Y_dcmp (pc := 12) dX4_isEndless_12 ?_
    refine Y_if_ge (pc := 13) (tgt := 20) dX4_isEndless_13 (by decide) (fun hc2 => ?_) (fun hc2 => ?_)
    · replace h := ifT hc2 h
      refine Y_iconst (pc := 20) (v := (0 : Int32)) dX4_isEndless_20 rfl ?_
      cases h
      exact Y_iret (pc := 21) rfl (nar_bo (by decide)) dX4_isEndless_21 hP ⟨rfl, rfl⟩
    · replace h := ifF hc2 h
      refine Y_iconst (pc := 16) (v := (1 : Int32)) dX4_isEndless_16 rfl ?_
      refine Y_goto (pc := 17) (tgt := 21) dX4_isEndless_17 (by decide) ?_
      cases h
      exact Y_iret (pc := 21) rfl (nar_bo (by decide)) dX4_isEndless_21 hP ⟨rfl, rfl⟩
theorem v_X4_isEndless {x0 : UInt64} {M z} (hP : Lay M) (h : d_X4_isEndless x0 M = some z) : CC Lay k_X4_isEndless [.double x0] M z.2 (Qv (some (.int z.1)) z.2) xF :=
  CC.ofVV (by decide) rfl (Nat.le_of_ble_eq_true rfl) (b_X4_isEndless hP h)
noncomputable def d_X4_isUndefined_145 (x1 : UInt64) (x3 : UInt64) (M : Mem) : Option (Int32 × Mem) :=
  if (Op.cmpValue (FP.dcmp x1 FP.dconst0) .l) = 0 then (
    (d_X4_isEndless x3 M).bind fun y1 =>
    if y1.1 = 0 then (
      some ((0 : Int32), y1.2))
    else (
      some ((1 : Int32), y1.2)))
  else (
    some ((0 : Int32), M))
theorem b_X4_isUndefined_145 {x1 : UInt64} {x3 : UInt64} {M z} (hP : Lay M) (h : d_X4_isUndefined_145 x1 x3 M = some z) : VV Lay k_X4_isUndefined 145 [(1, .double x1), (3, .double x3)] [] M z.2 (Qv (some (.int z.1)) z.2) xF := by
  unfold d_X4_isUndefined_145 at h
  refine Y_dload_n (pc := 145) (j := 0) dX4_isUndefined_145 rfl rfl ?_
  refine Y_dconst0 (pc := 146) dX4_isUndefined_146 ?_
  refine Y_dcmp (pc := 147) dX4_isUndefined_147 ?_
  refine Y_if_ne (pc := 148) (tgt := 162) dX4_isUndefined_148 (by decide) (fun hc1 => ?_) (fun hc1 => ?_)
  · replace h := ifF hc1 h
    refine Y_iconst (pc := 162) (v := (0 : Int32)) dX4_isUndefined_162 rfl ?_
    cases h
    exact Y_iret (pc := 163) rfl (nar_bo (by decide)) dX4_isUndefined_163 hP ⟨rfl, rfl⟩
  · replace h := ifT hc1 h
    refine Y_dload_n (pc := 151) (j := 1) dX4_isUndefined_151 rfl rfl ?_
    obtain ⟨y1, qy1, h⟩ := bindE h
    have cy1 := v_X4_isEndless hP qy1
    refine C_S1r (pc := 152) (k' := k_X4_isEndless) dX4_isUndefined_152 w6_36 i_X4_isEndless (Nat.le_of_ble_eq_true rfl) (Nat.le_of_ble_eq_true rfl) (Nat.le_of_ble_eq_true rfl) (cy1) ?_
    have hPy1 := cy1.1.1
    refine Y_if_eq (pc := 155) (tgt := 162) dX4_isUndefined_155 (by decide) (fun hc2 => ?_) (fun hc2 => ?_)
    · replace h := ifT hc2 h
      refine Y_iconst (pc := 162) (v := (0 : Int32)) dX4_isUndefined_162 rfl ?_
      cases h
      exact Y_iret (pc := 163) rfl (nar_bo (by decide)) dX4_isUndefined_163 hPy1 ⟨rfl, rfl⟩
    · replace h := ifF hc2 h
      refine Y_iconst (pc := 158) (v := (1 : Int32)) dX4_isUndefined_158 rfl ?_
      refine Y_goto (pc := 159) (tgt := 163) dX4_isUndefined_159 (by decide) ?_
      cases h
      exact Y_iret (pc := 163) rfl (nar_bo (by decide)) dX4_isUndefined_163 hPy1 ⟨rfl, rfl⟩
noncomputable def d_X4_isUndefined_87 (s0 : Int32) (s1 : Int32) (M : Mem) : Option (Int32 × Mem) :=
  if s0 = s1 then (
    some ((0 : Int32), M))
  else (
    some ((1 : Int32), M))
theorem b_X4_isUndefined_87 {s0 : Int32} {s1 : Int32} {M z} (hP : Lay M) (h : d_X4_isUndefined_87 s0 s1 M = some z) : VV Lay k_X4_isUndefined 87 [] [.int s1, .int s0] M z.2 (Qv (some (.int z.1)) z.2) xF := by
  unfold d_X4_isUndefined_87 at h
  refine Y_icmp_eq (pc := 87) (tgt := 94) dX4_isUndefined_87 (by decide) (fun hc1 => ?_) (fun hc1 => ?_)
  · replace h := ifT hc1 h
    refine Y_iconst (pc := 94) (v := (0 : Int32)) dX4_isUndefined_94 rfl ?_
    cases h
    exact Y_iret (pc := 95) rfl (nar_bo (by decide)) dX4_isUndefined_95 hP ⟨rfl, rfl⟩
  · replace h := ifF hc1 h
    refine Y_iconst (pc := 90) (v := (1 : Int32)) dX4_isUndefined_90 rfl ?_
    refine Y_goto (pc := 91) (tgt := 95) dX4_isUndefined_91 (by decide) ?_
    cases h
    exact Y_iret (pc := 95) rfl (nar_bo (by decide)) dX4_isUndefined_95 hP ⟨rfl, rfl⟩
noncomputable def d_X4_isUndefined_76 (x3 : UInt64) (s0 : Int32) (M : Mem) : Option (Int32 × Mem) :=
  if (Op.cmpValue (FP.dcmp x3 FP.dconst0) .l) ≤ 0 then (
    d_X4_isUndefined_87 s0 (0 : Int32) M)
  else (
    d_X4_isUndefined_87 s0 (1 : Int32) M)
theorem b_X4_isUndefined_76 {x3 : UInt64} {s0 : Int32} {M z} (hP : Lay M) (h : d_X4_isUndefined_76 x3 s0 M = some z) : VV Lay k_X4_isUndefined 76 [(3, .double x3)] [.int s0] M z.2 (Qv (some (.int z.1)) z.2) xF := by
  unfold d_X4_isUndefined_76 at h
  refine Y_dload_n (pc := 76) (j := 0) dX4_isUndefined_76 rfl rfl ?_
  refine Y_dconst0 (pc := 77) dX4_isUndefined_77 ?_
  refine Y_dcmp (pc := 78) dX4_isUndefined_78 ?_
  refine Y_if_le (pc := 79) (tgt := 86) dX4_isUndefined_79 (by decide) (fun hc1 => ?_) (fun hc1 => ?_)
  · replace h := ifT hc1 h
    refine Y_iconst (pc := 86) (v := (0 : Int32)) dX4_isUndefined_86 rfl ?_
    refine VV.sub [] rfl ?_
    exact b_X4_isUndefined_87  hP h
  · replace h := ifF hc1 h
    refine Y_iconst (pc := 82) (v := (1 : Int32)) dX4_isUndefined_82 rfl ?_
    refine Y_goto (pc := 83) (tgt := 87) dX4_isUndefined_83 (by decide) ?_
    refine VV.sub [] rfl ?_
    exact b_X4_isUndefined_87  hP h
noncomputable def d_X4_isUndefined_123 (s0 : Int32) (s1 : Int32) (M : Mem) : Option (Int32 × Mem) :=
  if s0 = s1 then (
    some ((1 : Int32), M))
  else (
    some ((0 : Int32), M))
theorem b_X4_isUndefined_123 {s0 : Int32} {s1 : Int32} {M z} (hP : Lay M) (h : d_X4_isUndefined_123 s0 s1 M = some z) : VV Lay k_X4_isUndefined 123 [] [.int s1, .int s0] M z.2 (Qv (some (.int z.1)) z.2) xF := by
  unfold d_X4_isUndefined_123 at h
  refine Y_icmp_ne (pc := 123) (tgt := 130) dX4_isUndefined_123 (by decide) (fun hc1 => ?_) (fun hc1 => ?_)
  · replace h := ifF hc1 h
    refine Y_iconst (pc := 130) (v := (0 : Int32)) dX4_isUndefined_130 rfl ?_
    cases h
    exact Y_iret (pc := 131) rfl (nar_bo (by decide)) dX4_isUndefined_131 hP ⟨rfl, rfl⟩
  · replace h := ifT hc1 h
    refine Y_iconst (pc := 126) (v := (1 : Int32)) dX4_isUndefined_126 rfl ?_
    refine Y_goto (pc := 127) (tgt := 131) dX4_isUndefined_127 (by decide) ?_
    cases h
    exact Y_iret (pc := 131) rfl (nar_bo (by decide)) dX4_isUndefined_131 hP ⟨rfl, rfl⟩
noncomputable def d_X4_isUndefined_112 (x3 : UInt64) (s0 : Int32) (M : Mem) : Option (Int32 × Mem) :=
  if (Op.cmpValue (FP.dcmp x3 FP.dconst0) .l) ≤ 0 then (
    d_X4_isUndefined_123 s0 (0 : Int32) M)
  else (
    d_X4_isUndefined_123 s0 (1 : Int32) M)
theorem b_X4_isUndefined_112 {x3 : UInt64} {s0 : Int32} {M z} (hP : Lay M) (h : d_X4_isUndefined_112 x3 s0 M = some z) : VV Lay k_X4_isUndefined 112 [(3, .double x3)] [.int s0] M z.2 (Qv (some (.int z.1)) z.2) xF := by
  unfold d_X4_isUndefined_112 at h
  refine Y_dload_n (pc := 112) (j := 0) dX4_isUndefined_112 rfl rfl ?_
  refine Y_dconst0 (pc := 113) dX4_isUndefined_113 ?_
  refine Y_dcmp (pc := 114) dX4_isUndefined_114 ?_
  refine Y_if_le (pc := 115) (tgt := 122) dX4_isUndefined_115 (by decide) (fun hc1 => ?_) (fun hc1 => ?_)
  · replace h := ifT hc1 h
    refine Y_iconst (pc := 122) (v := (0 : Int32)) dX4_isUndefined_122 rfl ?_
    refine VV.sub [] rfl ?_
    exact b_X4_isUndefined_123  hP h
  · replace h := ifF hc1 h
    refine Y_iconst (pc := 118) (v := (1 : Int32)) dX4_isUndefined_118 rfl ?_
    refine Y_goto (pc := 119) (tgt := 123) dX4_isUndefined_119 (by decide) ?_
    refine VV.sub [] rfl ?_
    exact b_X4_isUndefined_123  hP h
noncomputable def d_X4_isUndefined_19 (x0 : Int32) (x1 : UInt64) (x3 : UInt64) (s0 : Int32) (M : Mem) : Option (Int32 × Mem) :=
  if x0 = (42 : Int32) then (
    (d_X4_isEndless x1 M).bind fun y1 =>
    if y1.1 = 0 then (
      d_X4_isUndefined_145 x1 x3 y1.2)
    else (
      if (Op.cmpValue (FP.dcmp x3 FP.dconst0) .l) = 0 then (
        some ((1 : Int32), y1.2))
      else (
        d_X4_isUndefined_145 x1 x3 y1.2)))
  else if x0 = (43 : Int32) then (
    if s0 = 0 then (
      some ((0 : Int32), M))
    else (
      if (Op.cmpValue (FP.dcmp x1 FP.dconst0) .l) ≤ 0 then (
        d_X4_isUndefined_76 x3 (0 : Int32) M)
      else (
        d_X4_isUndefined_76 x3 (1 : Int32) M)))
  else if x0 = (45 : Int32) then (
    if s0 = 0 then (
      some ((0 : Int32), M))
    else (
      if (Op.cmpValue (FP.dcmp x1 FP.dconst0) .l) ≤ 0 then (
        d_X4_isUndefined_112 x3 (0 : Int32) M)
      else (
        d_X4_isUndefined_112 x3 (1 : Int32) M)))
  else if x0 = (47 : Int32) then (
    if s0 = 0 then (
      if (Op.cmpValue (FP.dcmp x1 FP.dconst0) .l) = 0 then (
        if (Op.cmpValue (FP.dcmp x3 FP.dconst0) .l) = 0 then (
          some ((1 : Int32), M))
        else (
          some ((0 : Int32), M)))
      else (
        some ((0 : Int32), M)))
    else (
      some ((1 : Int32), M)))
  else (
    (d_X4_isEndless x1 M).bind fun y2 =>
    if y2.1 = 0 then (
      if (Op.cmpValue (FP.dcmp x3 FP.dconst0) .l) = 0 then (
        some ((1 : Int32), y2.2))
      else (
        some ((0 : Int32), y2.2)))
    else (
      some ((1 : Int32), y2.2)))
theorem b_X4_isUndefined_19 {x0 : Int32} {x1 : UInt64} {x3 : UInt64} {s0 : Int32} {M z} (hP : Lay M) (h : d_X4_isUndefined_19 x0 x1 x3 s0 M = some z) : VV Lay k_X4_isUndefined 19 [(0, .int x0), (1, .double x1), (3, .double x3)] [.int s0] M z.2 (Qv (some (.int z.1)) z.2) xF := by
  unfold d_X4_isUndefined_19 at h
  refine Y_istore (pc := 19) (lv1 := [(5, .int s0), (0, .int x0), (1, .double x1), (3, .double x3)]) dX4_isUndefined_19 (by decide) rfl ?_
  refine Y_iload_n (pc := 21) (j := 1) dX4_isUndefined_21 rfl rfl ?_
  refine Y_table (pc := 22) dX4_isUndefined_22 [(42, 132), (43, 60), (44, 187), (45, 96), (46, 187), (47, 164)] 187 (by decide) (tab_ok (by decide +kernel)) (by decide) ?_ ?_
  · refine xs_cons ?_ <| xs_cons ?_ <| xs_cons ?_ <| xs_cons ?_ <| xs_cons ?_ <| xs_cons ?_ <| xs_nil
    · intro e9
      replace h := ifT (by rw [e9] <;> decide) h
      refine Y_dload_n (pc := 132) (j := 2) dX4_isUndefined_132 rfl rfl ?_
      obtain ⟨y1, qy1, h⟩ := bindE h
      have cy1 := v_X4_isEndless hP qy1
      refine C_S1r (pc := 133) (k' := k_X4_isEndless) dX4_isUndefined_133 w6_36 i_X4_isEndless (Nat.le_of_ble_eq_true rfl) (Nat.le_of_ble_eq_true rfl) (Nat.le_of_ble_eq_true rfl) (cy1) ?_
      have hPy1 := cy1.1.1
      refine Y_if_eq (pc := 136) (tgt := 145) dX4_isUndefined_136 (by decide) (fun hc1 => ?_) (fun hc1 => ?_)
      · replace h := ifT hc1 h
        refine VV.sub [2, 3] rfl ?_
        exact b_X4_isUndefined_145  hPy1 h
      · replace h := ifF hc1 h
        refine Y_dload_n (pc := 139) (j := 3) dX4_isUndefined_139 rfl rfl ?_
        refine Y_dconst0 (pc := 140) dX4_isUndefined_140 ?_
        refine Y_dcmp (pc := 141) dX4_isUndefined_141 ?_
        refine Y_if_eq (pc := 142) (tgt := 158) dX4_isUndefined_142 (by decide) (fun hc2 => ?_) (fun hc2 => ?_)
        · replace h := ifT hc2 h
          refine Y_iconst (pc := 158) (v := (1 : Int32)) dX4_isUndefined_158 rfl ?_
          refine Y_goto (pc := 159) (tgt := 163) dX4_isUndefined_159 (by decide) ?_
          cases h
          exact Y_iret (pc := 163) rfl (nar_bo (by decide)) dX4_isUndefined_163 hPy1 ⟨rfl, rfl⟩
        · replace h := ifF hc2 h
          refine VV.sub [2, 3] rfl ?_
          exact b_X4_isUndefined_145  hPy1 h
    · intro e9
      replace h := ifF (by rw [e9] <;> decide) h
      replace h := ifT (by rw [e9] <;> decide) h
      refine Y_iload (pc := 60) (j := 0) dX4_isUndefined_60 rfl ?_
      refine Y_if_eq (pc := 62) (tgt := 94) dX4_isUndefined_62 (by decide) (fun hc3 => ?_) (fun hc3 => ?_)
      · replace h := ifT hc3 h
        refine Y_iconst (pc := 94) (v := (0 : Int32)) dX4_isUndefined_94 rfl ?_
        cases h
        exact Y_iret (pc := 95) rfl (nar_bo (by decide)) dX4_isUndefined_95 hP ⟨rfl, rfl⟩
      · replace h := ifF hc3 h
        refine Y_dload_n (pc := 65) (j := 2) dX4_isUndefined_65 rfl rfl ?_
        refine Y_dconst0 (pc := 66) dX4_isUndefined_66 ?_
        refine Y_dcmp (pc := 67) dX4_isUndefined_67 ?_
        refine Y_if_le (pc := 68) (tgt := 75) dX4_isUndefined_68 (by decide) (fun hc4 => ?_) (fun hc4 => ?_)
        · replace h := ifT hc4 h
          refine Y_iconst (pc := 75) (v := (0 : Int32)) dX4_isUndefined_75 rfl ?_
          refine VV.sub [3] rfl ?_
          exact b_X4_isUndefined_76  hP h
        · replace h := ifF hc4 h
          refine Y_iconst (pc := 71) (v := (1 : Int32)) dX4_isUndefined_71 rfl ?_
          refine Y_goto (pc := 72) (tgt := 76) dX4_isUndefined_72 (by decide) ?_
          refine VV.sub [3] rfl ?_
          exact b_X4_isUndefined_76  hP h
    · intro e9
      replace h := ifF (by rw [e9] <;> decide) h
      replace h := ifF (by rw [e9] <;> decide) h
      replace h := ifF (by rw [e9] <;> decide) h
      replace h := ifF (by rw [e9] <;> decide) h
      refine Y_dload_n (pc := 187) (j := 2) dX4_isUndefined_187 rfl rfl ?_
      obtain ⟨y2, qy2, h⟩ := bindE h
      have cy2 := v_X4_isEndless hP qy2
      refine C_S1r (pc := 188) (k' := k_X4_isEndless) dX4_isUndefined_188 w6_36 i_X4_isEndless (Nat.le_of_ble_eq_true rfl) (Nat.le_of_ble_eq_true rfl) (Nat.le_of_ble_eq_true rfl) (cy2) ?_
      have hPy2 := cy2.1.1
      refine Y_if_ne (pc := 191) (tgt := 200) dX4_isUndefined_191 (by decide) (fun hc10 => ?_) (fun hc10 => ?_)
      · replace h := ifF hc10 h
        refine Y_iconst (pc := 200) (v := (1 : Int32)) dX4_isUndefined_200 rfl ?_
        refine Y_goto (pc := 201) (tgt := 205) dX4_isUndefined_201 (by decide) ?_
        cases h
        exact Y_iret (pc := 205) rfl (nar_bo (by decide)) dX4_isUndefined_205 hPy2 ⟨rfl, rfl⟩
      · replace h := ifT hc10 h
        refine Y_dload_n (pc := 194) (j := 3) dX4_isUndefined_194 rfl rfl ?_
        refine Y_dconst0 (pc := 195) dX4_isUndefined_195 ?_
        refine Y_dcmp (pc := 196) dX4_isUndefined_196 ?_
        refine Y_if_ne (pc := 197) (tgt := 204) dX4_isUndefined_197 (by decide) (fun hc11 => ?_) (fun hc11 => ?_)
        · replace h := ifF hc11 h
          refine Y_iconst (pc := 204) (v := (0 : Int32)) dX4_isUndefined_204 rfl ?_
          cases h
          exact Y_iret (pc := 205) rfl (nar_bo (by decide)) dX4_isUndefined_205 hPy2 ⟨rfl, rfl⟩
        · replace h := ifT hc11 h
          refine Y_iconst (pc := 200) (v := (1 : Int32)) dX4_isUndefined_200 rfl ?_
          refine Y_goto (pc := 201) (tgt := 205) dX4_isUndefined_201 (by decide) ?_
          cases h
          exact Y_iret (pc := 205) rfl (nar_bo (by decide)) dX4_isUndefined_205 hPy2 ⟨rfl, rfl⟩
    · intro e9
      replace h := ifF (by rw [e9] <;> decide) h
      replace h := ifF (by rw [e9] <;> decide) h
      replace h := ifT (by rw [e9] <;> decide) h
      refine Y_iload (pc := 96) (j := 0) dX4_isUndefined_96 rfl ?_
      refine Y_if_eq (pc := 98) (tgt := 130) dX4_isUndefined_98 (by decide) (fun hc5 => ?_) (fun hc5 => ?_)
      · replace h := ifT hc5 h
        refine Y_iconst (pc := 130) (v := (0 : Int32)) dX4_isUndefined_130 rfl ?_
        cases h
        exact Y_iret (pc := 131) rfl (nar_bo (by decide)) dX4_isUndefined_131 hP ⟨rfl, rfl⟩
      · replace h := ifF hc5 h
        refine Y_dload_n (pc := 101) (j := 2) dX4_isUndefined_101 rfl rfl ?_
        refine Y_dconst0 (pc := 102) dX4_isUndefined_102 ?_
        refine Y_dcmp (pc := 103) dX4_isUndefined_103 ?_
        refine Y_if_le (pc := 104) (tgt := 111) dX4_isUndefined_104 (by decide) (fun hc6 => ?_) (fun hc6 => ?_)
        · replace h := ifT hc6 h
          refine Y_iconst (pc := 111) (v := (0 : Int32)) dX4_isUndefined_111 rfl ?_
          refine VV.sub [3] rfl ?_
          exact b_X4_isUndefined_112  hP h
        · replace h := ifF hc6 h
          refine Y_iconst (pc := 107) (v := (1 : Int32)) dX4_isUndefined_107 rfl ?_
          refine Y_goto (pc := 108) (tgt := 112) dX4_isUndefined_108 (by decide) ?_
          refine VV.sub [3] rfl ?_
          exact b_X4_isUndefined_112  hP h
    · intro e9
      replace h := ifF (by rw [e9] <;> decide) h
      replace h := ifF (by rw [e9] <;> decide) h
      replace h := ifF (by rw [e9] <;> decide) h
      replace h := ifF (by rw [e9] <;> decide) h
      refine Y_dload_n (pc := 187) (j := 2) dX4_isUndefined_187 rfl rfl ?_
      obtain ⟨y2, qy2, h⟩ := bindE h
      have cy2 := v_X4_isEndless hP qy2
      refine C_S1r (pc := 188) (k' := k_X4_isEndless) dX4_isUndefined_188 w6_36 i_X4_isEndless (Nat.le_of_ble_eq_true rfl) (Nat.le_of_ble_eq_true rfl) (Nat.le_of_ble_eq_true rfl) (cy2) ?_
      have hPy2 := cy2.1.1
      refine Y_if_ne (pc := 191) (tgt := 200) dX4_isUndefined_191 (by decide) (fun hc10 => ?_) (fun hc10 => ?_)
      · replace h := ifF hc10 h
        refine Y_iconst (pc := 200) (v := (1 : Int32)) dX4_isUndefined_200 rfl ?_
        refine Y_goto (pc := 201) (tgt := 205) dX4_isUndefined_201 (by decide) ?_
        cases h
        exact Y_iret (pc := 205) rfl (nar_bo (by decide)) dX4_isUndefined_205 hPy2 ⟨rfl, rfl⟩
      · replace h := ifT hc10 h
        refine Y_dload_n (pc := 194) (j := 3) dX4_isUndefined_194 rfl rfl ?_
        refine Y_dconst0 (pc := 195) dX4_isUndefined_195 ?_
        refine Y_dcmp (pc := 196) dX4_isUndefined_196 ?_
        refine Y_if_ne (pc := 197) (tgt := 204) dX4_isUndefined_197 (by decide) (fun hc11 => ?_) (fun hc11 => ?_)
        · replace h := ifF hc11 h
          refine Y_iconst (pc := 204) (v := (0 : Int32)) dX4_isUndefined_204 rfl ?_
          cases h
          exact Y_iret (pc := 205) rfl (nar_bo (by decide)) dX4_isUndefined_205 hPy2 ⟨rfl, rfl⟩
        · replace h := ifT hc11 h
          refine Y_iconst (pc := 200) (v := (1 : Int32)) dX4_isUndefined_200 rfl ?_
          refine Y_goto (pc := 201) (tgt := 205) dX4_isUndefined_201 (by decide) ?_
          cases h
          exact Y_iret (pc := 205) rfl (nar_bo (by decide)) dX4_isUndefined_205 hPy2 ⟨rfl, rfl⟩
    · intro e9
      replace h := ifF (by rw [e9] <;> decide) h
      replace h := ifF (by rw [e9] <;> decide) h
      replace h := ifF (by rw [e9] <;> decide) h
      replace h := ifT (by rw [e9] <;> decide) h
      refine Y_iload (pc := 164) (j := 0) dX4_isUndefined_164 rfl ?_
      refine Y_if_ne (pc := 166) (tgt := 181) dX4_isUndefined_166 (by decide) (fun hc7 => ?_) (fun hc7 => ?_)
      · replace h := ifF hc7 h
        refine Y_iconst (pc := 181) (v := (1 : Int32)) dX4_isUndefined_181 rfl ?_
        refine Y_goto (pc := 182) (tgt := 186) dX4_isUndefined_182 (by decide) ?_
        cases h
        exact Y_iret (pc := 186) rfl (nar_bo (by decide)) dX4_isUndefined_186 hP ⟨rfl, rfl⟩
      · replace h := ifT hc7 h
        refine Y_dload_n (pc := 169) (j := 2) dX4_isUndefined_169 rfl rfl ?_
        refine Y_dconst0 (pc := 170) dX4_isUndefined_170 ?_
        refine Y_dcmp (pc := 171) dX4_isUndefined_171 ?_
        refine Y_if_ne (pc := 172) (tgt := 185) dX4_isUndefined_172 (by decide) (fun hc8 => ?_) (fun hc8 => ?_)
        · replace h := ifF hc8 h
          refine Y_iconst (pc := 185) (v := (0 : Int32)) dX4_isUndefined_185 rfl ?_
          cases h
          exact Y_iret (pc := 186) rfl (nar_bo (by decide)) dX4_isUndefined_186 hP ⟨rfl, rfl⟩
        · replace h := ifT hc8 h
          refine Y_dload_n (pc := 175) (j := 3) dX4_isUndefined_175 rfl rfl ?_
          refine Y_dconst0 (pc := 176) dX4_isUndefined_176 ?_
          refine Y_dcmp (pc := 177) dX4_isUndefined_177 ?_
          refine Y_if_ne (pc := 178) (tgt := 185) dX4_isUndefined_178 (by decide) (fun hc9 => ?_) (fun hc9 => ?_)
          · replace h := ifF hc9 h
            refine Y_iconst (pc := 185) (v := (0 : Int32)) dX4_isUndefined_185 rfl ?_
            cases h
            exact Y_iret (pc := 186) rfl (nar_bo (by decide)) dX4_isUndefined_186 hP ⟨rfl, rfl⟩
          · replace h := ifT hc9 h
            refine Y_iconst (pc := 181) (v := (1 : Int32)) dX4_isUndefined_181 rfl ?_
            refine Y_goto (pc := 182) (tgt := 186) dX4_isUndefined_182 (by decide) ?_
            cases h
            exact Y_iret (pc := 186) rfl (nar_bo (by decide)) dX4_isUndefined_186 hP ⟨rfl, rfl⟩
  · intro n9
    replace h := ifF (xs_no n9 (by decide : ((42 : Int32), 132) ∈ _)) h
    replace h := ifF (xs_no n9 (by decide : ((43 : Int32), 60) ∈ _)) h
    replace h := ifF (xs_no n9 (by decide : ((45 : Int32), 96) ∈ _)) h
    replace h := ifF (xs_no n9 (by decide : ((47 : Int32), 164) ∈ _)) h
    refine Y_dload_n (pc := 187) (j := 2) dX4_isUndefined_187 rfl rfl ?_
    obtain ⟨y2, qy2, h⟩ := bindE h
    have cy2 := v_X4_isEndless hP qy2
    refine C_S1r (pc := 188) (k' := k_X4_isEndless) dX4_isUndefined_188 w6_36 i_X4_isEndless (Nat.le_of_ble_eq_true rfl) (Nat.le_of_ble_eq_true rfl) (Nat.le_of_ble_eq_true rfl) (cy2) ?_
    have hPy2 := cy2.1.1
    refine Y_if_ne (pc := 191) (tgt := 200) dX4_isUndefined_191 (by decide) (fun hc10 => ?_) (fun hc10 => ?_)
    · replace h := ifF hc10 h
      refine Y_iconst (pc := 200) (v := (1 : Int32)) dX4_isUndefined_200 rfl ?_
      refine Y_goto (pc := 201) (tgt := 205) dX4_isUndefined_201 (by decide) ?_
      cases h
      exact Y_iret (pc := 205) rfl (nar_bo (by decide)) dX4_isUndefined_205 hPy2 ⟨rfl, rfl⟩
    · replace h := ifT hc10 h
      refine Y_dload_n (pc := 194) (j := 3) dX4_isUndefined_194 rfl rfl ?_
      refine Y_dconst0 (pc := 195) dX4_isUndefined_195 ?_
      refine Y_dcmp (pc := 196) dX4_isUndefined_196 ?_
      refine Y_if_ne (pc := 197) (tgt := 204) dX4_isUndefined_197 (by decide) (fun hc11 => ?_) (fun hc11 => ?_)
      · replace h := ifF hc11 h
        refine Y_iconst (pc := 204) (v := (0 : Int32)) dX4_isUndefined_204 rfl ?_
        cases h
        exact Y_iret (pc := 205) rfl (nar_bo (by decide)) dX4_isUndefined_205 hPy2 ⟨rfl, rfl⟩
      · replace h := ifT hc11 h
        refine Y_iconst (pc := 200) (v := (1 : Int32)) dX4_isUndefined_200 rfl ?_
        refine Y_goto (pc := 201) (tgt := 205) dX4_isUndefined_201 (by decide) ?_
        cases h
        exact Y_iret (pc := 205) rfl (nar_bo (by decide)) dX4_isUndefined_205 hPy2 ⟨rfl, rfl⟩
noncomputable def d_X4_isUndefined_18 (x0 : Int32) (x1 : UInt64) (x3 : UInt64) (M : Mem) : Option (Int32 × Mem) :=
  d_X4_isUndefined_19 x0 x1 x3 (0 : Int32) M
theorem b_X4_isUndefined_18 {x0 : Int32} {x1 : UInt64} {x3 : UInt64} {M z} (hP : Lay M) (h : d_X4_isUndefined_18 x0 x1 x3 M = some z) : VV Lay k_X4_isUndefined 18 [(0, .int x0), (1, .double x1), (3, .double x3)] [] M z.2 (Qv (some (.int z.1)) z.2) xF := by
  unfold d_X4_isUndefined_18 at h
  refine Y_iconst (pc := 18) (v := (0 : Int32)) dX4_isUndefined_18 rfl ?_
  refine VV.sub [0, 1, 2] rfl ?_
  exact b_X4_isUndefined_19  hP h
noncomputable def d_X4_isUndefined (x0 : Int32) (x1 : UInt64) (x2 : UInt64) (M : Mem) : Option (Int32 × Mem) :=
  (d_X4_isEndless x1 M).bind fun y1 =>
  if y1.1 = 0 then (
    d_X4_isUndefined_18 x0 x1 x2 y1.2)
  else (
    (d_X4_isEndless x2 y1.2).bind fun y2 =>
    if y2.1 = 0 then (
      d_X4_isUndefined_18 x0 x1 x2 y2.2)
    else (
      d_X4_isUndefined_19 x0 x1 x2 (1 : Int32) y2.2))
theorem b_X4_isUndefined {x0 : Int32} {x1 : UInt64} {x2 : UInt64} {M z} (hP : Lay M) (h : d_X4_isUndefined x0 x1 x2 M = some z) : VV Lay k_X4_isUndefined 0 [(0, .int x0), (1, .double x1), (3, .double x2)] [] M z.2 (Qv (some (.int z.1)) z.2) xF := by
  unfold d_X4_isUndefined at h
  refine Y_dload_n (pc := 0) (j := 1) dX4_isUndefined_0 rfl rfl ?_
  obtain ⟨y1, qy1, h⟩ := bindE h
  have cy1 := v_X4_isEndless hP qy1
  refine C_S1r (pc := 1) (k' := k_X4_isEndless) dX4_isUndefined_1 w6_36 i_X4_isEndless (Nat.le_of_ble_eq_true rfl) (Nat.le_of_ble_eq_true rfl) (Nat.le_of_ble_eq_true rfl) (cy1) ?_
  have hPy1 := cy1.1.1
  refine Y_if_eq (pc := 4) (tgt := 18) dX4_isUndefined_4 (by decide) (fun hc1 => ?_) (fun hc1 => ?_)
  · replace h := ifT hc1 h
    refine VV.sub [0, 1, 2] rfl ?_
    exact b_X4_isUndefined_18  hPy1 h
  · replace h := ifF hc1 h
    refine Y_dload_n (pc := 7) (j := 2) dX4_isUndefined_7 rfl rfl ?_
    obtain ⟨y2, qy2, h⟩ := bindE h
    have cy2 := v_X4_isEndless hPy1 qy2
    refine C_S1r (pc := 8) (k' := k_X4_isEndless) dX4_isUndefined_8 w6_36 i_X4_isEndless (Nat.le_of_ble_eq_true rfl) (Nat.le_of_ble_eq_true rfl) (Nat.le_of_ble_eq_true rfl) (cy2) ?_
    have hPy2 := cy2.1.1
    refine Y_if_eq (pc := 11) (tgt := 18) dX4_isUndefined_11 (by decide) (fun hc2 => ?_) (fun hc2 => ?_)
    · replace h := ifT hc2 h
      refine VV.sub [0, 1, 2] rfl ?_
      exact b_X4_isUndefined_18  hPy2 h
    · replace h := ifF hc2 h
      refine Y_iconst (pc := 14) (v := (1 : Int32)) dX4_isUndefined_14 rfl ?_
      refine Y_goto (pc := 15) (tgt := 19) dX4_isUndefined_15 (by decide) ?_
      refine VV.sub [0, 1, 2] rfl ?_
      exact b_X4_isUndefined_19  hPy2 h
theorem v_X4_isUndefined {x0 : Int32} {x1 : UInt64} {x2 : UInt64} {M z} (hP : Lay M) (h : d_X4_isUndefined x0 x1 x2 M = some z) : CC Lay k_X4_isUndefined [.int x0, .double x1, .double x2] M z.2 (Qv (some (.int z.1)) z.2) xF :=
  CC.ofVV (by decide) rfl (Nat.le_of_ble_eq_true rfl) (b_X4_isUndefined hP h)
noncomputable def d_X4_rest_131 (x0 : UInt64) (x4 : UInt64) (M : Mem) : Option (UInt64 × Mem) :=
  if 0 ≤ (Op.cmpValue (FP.dcmp x0 FP.dconst0) .g) then (
    some (x4, M))
  else (
    some ((FP.dneg x4), M))
theorem b_X4_rest_131 {x0 : UInt64} {x4 : UInt64} {M z} (hP : Lay M) (h : d_X4_rest_131 x0 x4 M = some z) : VV Lay k_X4_rest 131 [(0, .double x0), (4, .double x4)] [] M z.2 (Qv (some (.double z.1)) z.2) xF := by
  unfold d_X4_rest_131 at h
  refine Y_dload_n (pc := 131) (j := 0) dX4_rest_131 rfl rfl ?_
  refine Y_dconst0 (pc := 132) dX4_rest_132 ?_
  refine Y_dcmp (pc := 133) dX4_rest_133 ?_
  refine Y_if_ge (pc := 134) (tgt := 143) dX4_rest_134 (by decide) (fun hc1 => ?_) (fun hc1 => ?_)
  · replace h := ifT hc1 h
    refine Y_dload (pc := 143) (j := 1) dX4_rest_143 rfl ?_
    cases h
    exact Y_dret (pc := 145) rfl dX4_rest_145 hP ⟨rfl, rfl⟩
  · replace h := ifF hc1 h
    refine Y_dload (pc := 137) (j := 1) dX4_rest_137 rfl ?_
    refine Y_dneg (pc := 139) dX4_rest_139 ?_
    refine Y_goto (pc := 140) (tgt := 145) dX4_rest_140 (by decide) ?_
    cases h
    exact Y_dret (pc := 145) rfl dX4_rest_145 hP ⟨rfl, rfl⟩
noncomputable def d_X4_rest_115 (k81 : (UInt64 × UInt64 × Int32) → Mem → Option (UInt64 × Mem)) (x0 : UInt64) (x6 : UInt64) (x8 : UInt64) (x10 : Int32) (s0 : UInt64) (M : Mem) : Option (UInt64 × Mem) :=
  bnd ((FP.ddiv x8 (4611686018427387904 : UInt64))) fun b1 =>
  bnd ((x10 + (1 : Int32))) fun b2 =>
  k81 (s0, b1, b2) M
theorem b_X4_rest_115 {k81 : (UInt64 × UInt64 × Int32) → Mem → Option (UInt64 × Mem)} {x0 : UInt64} {x6 : UInt64} {x8 : UInt64} {x10 : Int32} {s0 : UInt64} {M z} (hk81 : ∀ (a : (UInt64 × UInt64 × Int32)) (M : Mem) (z : UInt64 × Mem), Lay M → k81 a M = some z → VV Lay k_X4_rest 81 [(0, .double x0), (4, .double a.1), (6, .double x6), (8, .double a.2.1), (10, .int a.2.2)] [] M z.2 (Qv (some (.double z.1)) z.2) xF) (hP : Lay M) (h : d_X4_rest_115 k81 x0 x6 x8 x10 s0 M = some z) : VV Lay k_X4_rest 115 [(0, .double x0), (6, .double x6), (8, .double x8), (10, .int x10)] [.double s0] M z.2 (Qv (some (.double z.1)) z.2) xF := by
  unfold d_X4_rest_115 at h
  refine Y_dstore (pc := 115) (lv1 := [(4, .double s0), (0, .double x0), (6, .double x6), (8, .double x8), (10, .int x10)]) dX4_rest_115 (by decide) rfl ?_
  refine Y_dload (pc := 117) (j := 3) dX4_rest_117 rfl ?_
  refine Y_ldc2d (pc := 119) (by decide) dX4_rest_119 w6_47 ?_
  refine Y_ddiv (pc := 122) dX4_rest_122 ?_
  obtain ⟨b1, eb1, h⟩ := bndE h
  refine VV.topD eb1 ?_
  refine Y_dstore (pc := 123) (lv1 := [(8, .double b1), (4, .double s0), (0, .double x0), (6, .double x6), (10, .int x10)]) dX4_rest_123 (by decide) rfl ?_
  obtain ⟨b2, eb2, h⟩ := bndE h
  refine Y_iinc (pc := 125) (j := 4) (v := b2) (lv1 := [(10, .int b2), (8, .double b1), (4, .double s0), (0, .double x0), (6, .double x6)]) dX4_rest_125 rfl eb2.symm (by decide) rfl ?_
  refine Y_goto (pc := 128) (tgt := 81) dX4_rest_128 (by decide) ?_
  refine VV.sub [3, 2, 4, 1, 0] rfl ?_
  exact hk81 _ _ _ hP h
noncomputable def d_X4_rest_81b (k81 : (UInt64 × UInt64 × Int32) → Mem → Option (UInt64 × Mem)) (x0 : UInt64) (x4 : UInt64) (x6 : UInt64) (x8 : UInt64) (x10 : Int32) (M : Mem) : Option (UInt64 × Mem) :=
  if (3000 : Int32) ≤ x10 then (
    d_X4_rest_131 x0 x4 M)
  else (
    if (Op.cmpValue (FP.dcmp x8 x6) .l) < 0 then (
      d_X4_rest_131 x0 x4 M)
    else (
      if (Op.cmpValue (FP.dcmp x4 x8) .l) < 0 then (
        d_X4_rest_115 k81 x0 x6 x8 x10 x4 M)
      else (
        d_X4_rest_115 k81 x0 x6 x8 x10 (FP.dsub x4 x8) M)))
theorem b_X4_rest_81b {k81 : (UInt64 × UInt64 × Int32) → Mem → Option (UInt64 × Mem)} {x0 : UInt64} {x4 : UInt64} {x6 : UInt64} {x8 : UInt64} {x10 : Int32} {M z} (hk81 : ∀ (a : (UInt64 × UInt64 × Int32)) (M : Mem) (z : UInt64 × Mem), Lay M → k81 a M = some z → VV Lay k_X4_rest 81 [(0, .double x0), (4, .double a.1), (6, .double x6), (8, .double a.2.1), (10, .int a.2.2)] [] M z.2 (Qv (some (.double z.1)) z.2) xF) (hP : Lay M) (h : d_X4_rest_81b k81 x0 x4 x6 x8 x10 M = some z) : VV Lay k_X4_rest 81 [(0, .double x0), (4, .double x4), (6, .double x6), (8, .double x8), (10, .int x10)] [] M z.2 (Qv (some (.double z.1)) z.2) xF := by
  unfold d_X4_rest_81b at h
  refine Y_iload (pc := 81) (j := 4) dX4_rest_81 rfl ?_
  refine Y_sipush (pc := 83) (v := (3000 : Int32)) dX4_rest_83 rfl ?_
  refine Y_icmp_ge (pc := 86) (tgt := 131) dX4_rest_86 (by decide) (fun hc1 => ?_) (fun hc1 => ?_)
  · replace h := ifT hc1 h
    refine VV.sub [0, 1] rfl ?_
    exact b_X4_rest_131  hP h
  · replace h := ifF hc1 h
    refine Y_dload (pc := 89) (j := 3) dX4_rest_89 rfl ?_
    refine Y_dload (pc := 91) (j := 2) dX4_rest_91 rfl ?_
    refine Y_dcmp (pc := 93) dX4_rest_93 ?_
    refine Y_if_lt (pc := 94) (tgt := 131) dX4_rest_94 (by decide) (fun hc2 => ?_) (fun hc2 => ?_)
    · replace h := ifT hc2 h
      refine VV.sub [0, 1] rfl ?_
      exact b_X4_rest_131  hP h
    · replace h := ifF hc2 h
      refine Y_dload (pc := 97) (j := 1) dX4_rest_97 rfl ?_
      refine Y_dload (pc := 99) (j := 3) dX4_rest_99 rfl ?_
      refine Y_dcmp (pc := 101) dX4_rest_101 ?_
      refine Y_if_lt (pc := 102) (tgt := 113) dX4_rest_102 (by decide) (fun hc3 => ?_) (fun hc3 => ?_)
      · replace h := ifT hc3 h
        refine Y_dload (pc := 113) (j := 1) dX4_rest_113 rfl ?_
        refine VV.sub [0, 2, 3, 4] rfl ?_
        exact b_X4_rest_115 hk81 hP h
      · replace h := ifF hc3 h
        refine Y_dload (pc := 105) (j := 1) dX4_rest_105 rfl ?_
        refine Y_dload (pc := 107) (j := 3) dX4_rest_107 rfl ?_
        refine Y_dsub (pc := 109) dX4_rest_109 ?_
        refine Y_goto (pc := 110) (tgt := 115) dX4_rest_110 (by decide) ?_
        refine VV.sub [0, 2, 3, 4] rfl ?_
        exact b_X4_rest_115 hk81 hP h
noncomputable def d_X4_rest_81 (x0 : UInt64) (x6 : UInt64) : Nat → (UInt64 × UInt64 × Int32) → Mem → Option (UInt64 × Mem) := lp fun k a M => d_X4_rest_81b k x0 a.1 x6 a.2.1 a.2.2 M
theorem b_X4_rest_81 {x0 : UInt64} {x6 : UInt64} (n : Nat) : ∀ (a : (UInt64 × UInt64 × Int32)) (M : Mem) (z : UInt64 × Mem), d_X4_rest_81 x0 x6 n a M = some z → Lay M → VV Lay k_X4_rest 81 [(0, .double x0), (4, .double a.1), (6, .double x6), (8, .double a.2.1), (10, .int a.2.2)] [] M z.2 (Qv (some (.double z.1)) z.2) xF :=
  lp_ind (G := fun (a : (UInt64 × UInt64 × Int32)) (M : Mem) (z : UInt64 × Mem) => Lay M → VV Lay k_X4_rest 81 [(0, .double x0), (4, .double a.1), (6, .double x6), (8, .double a.2.1), (10, .int a.2.2)] [] M z.2 (Qv (some (.double z.1)) z.2) xF) (fun k hk a M z h hP => b_X4_rest_81b  (fun a M z hP h => hk a M z h hP) hP h) n
noncomputable def d_X4_rest_78 (x0 : UInt64) (x4 : UInt64) (x6 : UInt64) (x8 : UInt64) (M : Mem) : Option (UInt64 × Mem) :=
  d_X4_rest_81 x0 x6 fuel (x4, x8, (0 : Int32)) M
theorem b_X4_rest_78 {x0 : UInt64} {x4 : UInt64} {x6 : UInt64} {x8 : UInt64} {M z} (hP : Lay M) (h : d_X4_rest_78 x0 x4 x6 x8 M = some z) : VV Lay k_X4_rest 78 [(0, .double x0), (4, .double x4), (6, .double x6), (8, .double x8)] [] M z.2 (Qv (some (.double z.1)) z.2) xF := by
  unfold d_X4_rest_78 at h
  refine Y_iconst (pc := 78) (v := (0 : Int32)) dX4_rest_78 rfl ?_
  refine Y_istore (pc := 79) (lv1 := [(10, .int (0 : Int32)), (0, .double x0), (4, .double x4), (6, .double x6), (8, .double x8)]) dX4_rest_79 (by decide) rfl ?_
  refine VV.sub [1, 2, 3, 4, 0] rfl ?_
  exact b_X4_rest_81  fuel _ _ _ h hP
noncomputable def d_X4_rest_45b (k45 : (UInt64 × Int32) → Mem → Option (UInt64 × Mem)) (x0 : UInt64) (x4 : UInt64) (x6 : UInt64) (x8 : UInt64) (x10 : Int32) (M : Mem) : Option (UInt64 × Mem) :=
  if (3000 : Int32) ≤ x10 then (
    d_X4_rest_78 x0 x4 x6 x8 M)
  else (
    if 0 < (Op.cmpValue (FP.dcmp x8 (FP.dsub x4 x8)) .g) then (
      d_X4_rest_78 x0 x4 x6 x8 M)
    else (
      bnd ((FP.dmul x8 (4611686018427387904 : UInt64))) fun b1 =>
      bnd ((x10 + (1 : Int32))) fun b2 =>
      k45 (b1, b2) M))
theorem b_X4_rest_45b {k45 : (UInt64 × Int32) → Mem → Option (UInt64 × Mem)} {x0 : UInt64} {x4 : UInt64} {x6 : UInt64} {x8 : UInt64} {x10 : Int32} {M z} (hk45 : ∀ (a : (UInt64 × Int32)) (M : Mem) (z : UInt64 × Mem), Lay M → k45 a M = some z → VV Lay k_X4_rest 45 [(0, .double x0), (4, .double x4), (6, .double x6), (8, .double a.1), (10, .int a.2)] [] M z.2 (Qv (some (.double z.1)) z.2) xF) (hP : Lay M) (h : d_X4_rest_45b k45 x0 x4 x6 x8 x10 M = some z) : VV Lay k_X4_rest 45 [(0, .double x0), (4, .double x4), (6, .double x6), (8, .double x8), (10, .int x10)] [] M z.2 (Qv (some (.double z.1)) z.2) xF := by
  unfold d_X4_rest_45b at h
  refine Y_iload (pc := 45) (j := 4) dX4_rest_45 rfl ?_
  refine Y_sipush (pc := 47) (v := (3000 : Int32)) dX4_rest_47 rfl ?_
  refine Y_icmp_ge (pc := 50) (tgt := 78) dX4_rest_50 (by decide) (fun hc1 => ?_) (fun hc1 => ?_)
  · replace h := ifT hc1 h
    refine VV.sub [0, 1, 2, 3] rfl ?_
    exact b_X4_rest_78  hP h
  · replace h := ifF hc1 h
    refine Y_dload (pc := 53) (j := 3) dX4_rest_53 rfl ?_
    refine Y_dload (pc := 55) (j := 1) dX4_rest_55 rfl ?_
    refine Y_dload (pc := 57) (j := 3) dX4_rest_57 rfl ?_
    refine Y_dsub (pc := 59) dX4_rest_59 ?_
    refine Y_dcmp (pc := 60) dX4_rest_60 ?_
    refine Y_if_gt (pc := 61) (tgt := 78) dX4_rest_61 (by decide) (fun hc2 => ?_) (fun hc2 => ?_)
    · replace h := ifT hc2 h
      refine VV.sub [0, 1, 2, 3] rfl ?_
      exact b_X4_rest_78  hP h
    · replace h := ifF hc2 h
      refine Y_dload (pc := 64) (j := 3) dX4_rest_64 rfl ?_
      refine Y_ldc2d (pc := 66) (by decide) dX4_rest_66 w6_47 ?_
      refine Y_dmul (pc := 69) dX4_rest_69 ?_
      obtain ⟨b1, eb1, h⟩ := bndE h
      refine VV.topD eb1 ?_
      refine Y_dstore (pc := 70) (lv1 := [(8, .double b1), (0, .double x0), (4, .double x4), (6, .double x6), (10, .int x10)]) dX4_rest_70 (by decide) rfl ?_
      obtain ⟨b2, eb2, h⟩ := bndE h
      refine Y_iinc (pc := 72) (j := 4) (v := b2) (lv1 := [(10, .int b2), (8, .double b1), (0, .double x0), (4, .double x4), (6, .double x6)]) dX4_rest_72 rfl eb2.symm (by decide) rfl ?_
      refine Y_goto (pc := 75) (tgt := 45) dX4_rest_75 (by decide) ?_
      refine VV.sub [2, 3, 4, 1, 0] rfl ?_
      exact hk45 _ _ _ hP h
noncomputable def d_X4_rest_45 (x0 : UInt64) (x4 : UInt64) (x6 : UInt64) : Nat → (UInt64 × Int32) → Mem → Option (UInt64 × Mem) := lp fun k a M => d_X4_rest_45b k x0 x4 x6 a.1 a.2 M
theorem b_X4_rest_45 {x0 : UInt64} {x4 : UInt64} {x6 : UInt64} (n : Nat) : ∀ (a : (UInt64 × Int32)) (M : Mem) (z : UInt64 × Mem), d_X4_rest_45 x0 x4 x6 n a M = some z → Lay M → VV Lay k_X4_rest 45 [(0, .double x0), (4, .double x4), (6, .double x6), (8, .double a.1), (10, .int a.2)] [] M z.2 (Qv (some (.double z.1)) z.2) xF :=
  lp_ind (G := fun (a : (UInt64 × Int32)) (M : Mem) (z : UInt64 × Mem) => Lay M → VV Lay k_X4_rest 45 [(0, .double x0), (4, .double x4), (6, .double x6), (8, .double a.1), (10, .int a.2)] [] M z.2 (Qv (some (.double z.1)) z.2) xF) (fun k hk a M z h hP => b_X4_rest_45b  (fun a M z hP h => hk a M z h hP) hP h) n
noncomputable def d_X4_rest_26 (x0 : UInt64) (x4 : UInt64) (s0 : UInt64) (M : Mem) : Option (UInt64 × Mem) :=
  if 0 ≤ (Op.cmpValue (FP.dcmp x4 s0) .g) then (
    d_X4_rest_45 x0 x4 s0 fuel (s0, (0 : Int32)) M)
  else (
    some (x0, M))
theorem b_X4_rest_26 {x0 : UInt64} {x4 : UInt64} {s0 : UInt64} {M z} (hP : Lay M) (h : d_X4_rest_26 x0 x4 s0 M = some z) : VV Lay k_X4_rest 26 [(0, .double x0), (4, .double x4)] [.double s0] M z.2 (Qv (some (.double z.1)) z.2) xF := by
  unfold d_X4_rest_26 at h
  refine Y_dstore (pc := 26) (lv1 := [(6, .double s0), (0, .double x0), (4, .double x4)]) dX4_rest_26 (by decide) rfl ?_
  refine Y_dload (pc := 28) (j := 2) dX4_rest_28 rfl ?_
  refine Y_dload (pc := 30) (j := 0) dX4_rest_30 rfl ?_
  refine Y_dcmp (pc := 32) dX4_rest_32 ?_
  refine Y_if_ge (pc := 33) (tgt := 38) dX4_rest_33 (by decide) (fun hc1 => ?_) (fun hc1 => ?_)
  · replace h := ifT hc1 h
    refine Y_dload (pc := 38) (j := 0) dX4_rest_38 rfl ?_
    refine Y_dstore (pc := 40) (lv1 := [(8, .double s0), (6, .double s0), (0, .double x0), (4, .double x4)]) dX4_rest_40 (by decide) rfl ?_
    refine Y_iconst (pc := 42) (v := (0 : Int32)) dX4_rest_42 rfl ?_
    refine Y_istore (pc := 43) (lv1 := [(10, .int (0 : Int32)), (8, .double s0), (6, .double s0), (0, .double x0), (4, .double x4)]) dX4_rest_43 (by decide) rfl ?_
    refine VV.sub [3, 4, 2, 1, 0] rfl ?_
    exact b_X4_rest_45  fuel _ _ _ h hP
  · replace h := ifF hc1 h
    refine Y_dload_n (pc := 36) (j := 1) dX4_rest_36 rfl rfl ?_
    cases h
    exact Y_dret (pc := 37) rfl dX4_rest_37 hP ⟨rfl, rfl⟩
noncomputable def d_X4_rest_12 (x0 : UInt64) (x2 : UInt64) (s0 : UInt64) (M : Mem) : Option (UInt64 × Mem) :=
  if 0 ≤ (Op.cmpValue (FP.dcmp x2 FP.dconst0) .g) then (
    d_X4_rest_26 x0 s0 x2 M)
  else (
    d_X4_rest_26 x0 s0 (FP.dneg x2) M)
theorem b_X4_rest_12 {x0 : UInt64} {x2 : UInt64} {s0 : UInt64} {M z} (hP : Lay M) (h : d_X4_rest_12 x0 x2 s0 M = some z) : VV Lay k_X4_rest 12 [(0, .double x0), (2, .double x2)] [.double s0] M z.2 (Qv (some (.double z.1)) z.2) xF := by
  unfold d_X4_rest_12 at h
  refine Y_dstore (pc := 12) (lv1 := [(4, .double s0), (0, .double x0), (2, .double x2)]) dX4_rest_12 (by decide) rfl ?_
  refine Y_dload_n (pc := 14) (j := 2) dX4_rest_14 rfl rfl ?_
  refine Y_dconst0 (pc := 15) dX4_rest_15 ?_
  refine Y_dcmp (pc := 16) dX4_rest_16 ?_
  refine Y_if_ge (pc := 17) (tgt := 25) dX4_rest_17 (by decide) (fun hc1 => ?_) (fun hc1 => ?_)
  · replace h := ifT hc1 h
    refine Y_dload_n (pc := 25) (j := 2) dX4_rest_25 rfl rfl ?_
    refine VV.sub [1, 0] rfl ?_
    exact b_X4_rest_26  hP h
  · replace h := ifF hc1 h
    refine Y_dload_n (pc := 20) (j := 2) dX4_rest_20 rfl rfl ?_
    refine Y_dneg (pc := 21) dX4_rest_21 ?_
    refine Y_goto (pc := 22) (tgt := 26) dX4_rest_22 (by decide) ?_
    refine VV.sub [1, 0] rfl ?_
    exact b_X4_rest_26  hP h
noncomputable def d_X4_rest (x0 : UInt64) (x1 : UInt64) (M : Mem) : Option (UInt64 × Mem) :=
  if 0 ≤ (Op.cmpValue (FP.dcmp x0 FP.dconst0) .g) then (
    d_X4_rest_12 x0 x1 x0 M)
  else (
    d_X4_rest_12 x0 x1 (FP.dneg x0) M)
theorem b_X4_rest {x0 : UInt64} {x1 : UInt64} {M z} (hP : Lay M) (h : d_X4_rest x0 x1 M = some z) : VV Lay k_X4_rest 0 [(0, .double x0), (2, .double x1)] [] M z.2 (Qv (some (.double z.1)) z.2) xF := by
  unfold d_X4_rest at h
  refine Y_dload_n (pc := 0) (j := 0) dX4_rest_0 rfl rfl ?_
  refine Y_dconst0 (pc := 1) dX4_rest_1 ?_
  refine Y_dcmp (pc := 2) dX4_rest_2 ?_
  refine Y_if_ge (pc := 3) (tgt := 11) dX4_rest_3 (by decide) (fun hc1 => ?_) (fun hc1 => ?_)
  · replace h := ifT hc1 h
    refine Y_dload_n (pc := 11) (j := 0) dX4_rest_11 rfl rfl ?_
    refine VV.sub [0, 1] rfl ?_
    exact b_X4_rest_12  hP h
  · replace h := ifF hc1 h
    refine Y_dload_n (pc := 6) (j := 0) dX4_rest_6 rfl rfl ?_
    refine Y_dneg (pc := 7) dX4_rest_7 ?_
    refine Y_goto (pc := 8) (tgt := 12) dX4_rest_8 (by decide) ?_
    refine VV.sub [0, 1] rfl ?_
    exact b_X4_rest_12  hP h
theorem v_X4_rest {x0 : UInt64} {x1 : UInt64} {M z} (hP : Lay M) (h : d_X4_rest x0 x1 M = some z) : CC Lay k_X4_rest [.double x0, .double x1] M z.2 (Qv (some (.double z.1)) z.2) xF :=
  CC.ofVV (by decide) rfl (Nat.le_of_ble_eq_true rfl) (b_X4_rest hP h)
noncomputable def d_X4_ofFloats (x0 : Int32) (x1 : UInt64) (x2 : UInt64) (M : Mem) : Option (UInt64 × Mem) :=
  if x0 = (42 : Int32) then (
    some ((FP.dmul x1 x2), M))
  else if x0 = (43 : Int32) then (
    some ((FP.dadd x1 x2), M))
  else if x0 = (45 : Int32) then (
    some ((FP.dsub x1 x2), M))
  else if x0 = (47 : Int32) then (
    some ((FP.ddiv x1 x2), M))
  else (
    (d_X4_rest x1 x2 M).bind fun y1 =>
    some (y1.1, y1.2))
theorem b_X4_ofFloats {x0 : Int32} {x1 : UInt64} {x2 : UInt64} {M z} (hP : Lay M) (h : d_X4_ofFloats x0 x1 x2 M = some z) : VV Lay k_X4_ofFloats 0 [(0, .int x0), (1, .double x1), (3, .double x2)] [] M z.2 (Qv (some (.double z.1)) z.2) xF := by
  unfold d_X4_ofFloats at h
  refine Y_iload_n (pc := 0) (j := 0) dX4_ofFloats_0 rfl rfl ?_
  refine Y_table (pc := 1) dX4_ofFloats_1 [(42, 48), (43, 40), (44, 56), (45, 44), (46, 56), (47, 52)] 56 (by decide) (tab_ok (by decide +kernel)) (by decide) ?_ ?_
  · refine xs_cons ?_ <| xs_cons ?_ <| xs_cons ?_ <| xs_cons ?_ <| xs_cons ?_ <| xs_cons ?_ <| xs_nil
    · intro e9
      replace h := ifT (by rw [e9] <;> decide) h
      refine Y_dload_n (pc := 48) (j := 1) dX4_ofFloats_48 rfl rfl ?_
      refine Y_dload_n (pc := 49) (j := 2) dX4_ofFloats_49 rfl rfl ?_
      refine Y_dmul (pc := 50) dX4_ofFloats_50 ?_
      cases h
      exact Y_dret (pc := 51) rfl dX4_ofFloats_51 hP ⟨rfl, rfl⟩
    · intro e9
      replace h := ifF (by rw [e9] <;> decide) h
      replace h := ifT (by rw [e9] <;> decide) h
      refine Y_dload_n (pc := 40) (j := 1) dX4_ofFloats_40 rfl rfl ?_
      refine Y_dload_n (pc := 41) (j := 2) dX4_ofFloats_41 rfl rfl ?_
      refine Y_dadd (pc := 42) dX4_ofFloats_42 ?_
      cases h
      exact Y_dret (pc := 43) rfl dX4_ofFloats_43 hP ⟨rfl, rfl⟩
    · intro e9
      replace h := ifF (by rw [e9] <;> decide) h
      replace h := ifF (by rw [e9] <;> decide) h
      replace h := ifF (by rw [e9] <;> decide) h
      replace h := ifF (by rw [e9] <;> decide) h
      refine Y_dload_n (pc := 56) (j := 1) dX4_ofFloats_56 rfl rfl ?_
      refine Y_dload_n (pc := 57) (j := 2) dX4_ofFloats_57 rfl rfl ?_
      obtain ⟨y1, qy1, h⟩ := bindE h
      have cy1 := v_X4_rest hP qy1
      refine C_S2r (pc := 58) (k' := k_X4_rest) dX4_ofFloats_58 w6_44 i_X4_rest (Nat.le_of_ble_eq_true rfl) (Nat.le_of_ble_eq_true rfl) (Nat.le_of_ble_eq_true rfl) (cy1) ?_
      have hPy1 := cy1.1.1
      cases h
      exact Y_dret (pc := 61) rfl dX4_ofFloats_61 hPy1 ⟨rfl, rfl⟩
    · intro e9
      replace h := ifF (by rw [e9] <;> decide) h
      replace h := ifF (by rw [e9] <;> decide) h
      replace h := ifT (by rw [e9] <;> decide) h
      refine Y_dload_n (pc := 44) (j := 1) dX4_ofFloats_44 rfl rfl ?_
      refine Y_dload_n (pc := 45) (j := 2) dX4_ofFloats_45 rfl rfl ?_
      refine Y_dsub (pc := 46) dX4_ofFloats_46 ?_
      cases h
      exact Y_dret (pc := 47) rfl dX4_ofFloats_47 hP ⟨rfl, rfl⟩
    · intro e9
      replace h := ifF (by rw [e9] <;> decide) h
      replace h := ifF (by rw [e9] <;> decide) h
      replace h := ifF (by rw [e9] <;> decide) h
      replace h := ifF (by rw [e9] <;> decide) h
      refine Y_dload_n (pc := 56) (j := 1) dX4_ofFloats_56 rfl rfl ?_
      refine Y_dload_n (pc := 57) (j := 2) dX4_ofFloats_57 rfl rfl ?_
      obtain ⟨y1, qy1, h⟩ := bindE h
      have cy1 := v_X4_rest hP qy1
      refine C_S2r (pc := 58) (k' := k_X4_rest) dX4_ofFloats_58 w6_44 i_X4_rest (Nat.le_of_ble_eq_true rfl) (Nat.le_of_ble_eq_true rfl) (Nat.le_of_ble_eq_true rfl) (cy1) ?_
      have hPy1 := cy1.1.1
      cases h
      exact Y_dret (pc := 61) rfl dX4_ofFloats_61 hPy1 ⟨rfl, rfl⟩
    · intro e9
      replace h := ifF (by rw [e9] <;> decide) h
      replace h := ifF (by rw [e9] <;> decide) h
      replace h := ifF (by rw [e9] <;> decide) h
      replace h := ifT (by rw [e9] <;> decide) h
      refine Y_dload_n (pc := 52) (j := 1) dX4_ofFloats_52 rfl rfl ?_
      refine Y_dload_n (pc := 53) (j := 2) dX4_ofFloats_53 rfl rfl ?_
      refine Y_ddiv (pc := 54) dX4_ofFloats_54 ?_
      cases h
      exact Y_dret (pc := 55) rfl dX4_ofFloats_55 hP ⟨rfl, rfl⟩
  · intro n9
    replace h := ifF (xs_no n9 (by decide : ((42 : Int32), 48) ∈ _)) h
    replace h := ifF (xs_no n9 (by decide : ((43 : Int32), 40) ∈ _)) h
    replace h := ifF (xs_no n9 (by decide : ((45 : Int32), 44) ∈ _)) h
    replace h := ifF (xs_no n9 (by decide : ((47 : Int32), 52) ∈ _)) h
    refine Y_dload_n (pc := 56) (j := 1) dX4_ofFloats_56 rfl rfl ?_
    refine Y_dload_n (pc := 57) (j := 2) dX4_ofFloats_57 rfl rfl ?_
    obtain ⟨y1, qy1, h⟩ := bindE h
    have cy1 := v_X4_rest hP qy1
    refine C_S2r (pc := 58) (k' := k_X4_rest) dX4_ofFloats_58 w6_44 i_X4_rest (Nat.le_of_ble_eq_true rfl) (Nat.le_of_ble_eq_true rfl) (Nat.le_of_ble_eq_true rfl) (cy1) ?_
    have hPy1 := cy1.1.1
    cases h
    exact Y_dret (pc := 61) rfl dX4_ofFloats_61 hPy1 ⟨rfl, rfl⟩
theorem v_X4_ofFloats {x0 : Int32} {x1 : UInt64} {x2 : UInt64} {M z} (hP : Lay M) (h : d_X4_ofFloats x0 x1 x2 M = some z) : CC Lay k_X4_ofFloats [.int x0, .double x1, .double x2] M z.2 (Qv (some (.double z.1)) z.2) xF :=
  CC.ofVV (by decide) rfl (Nat.le_of_ble_eq_true rfl) (b_X4_ofFloats hP h)
noncomputable def d_X8_putReal (o : Nat) (x1 : Int32) (x2 : UInt64) (M : Mem) : Option (Unit × Mem) :=
  (d_X8_put o x1 (102 : Int32) (0 : Int32) M).bind fun y1 =>
  okk (vp_in x1 549) <|
  bnd (sD y1.2 (o + 4) x1.toNatClampNeg x2) fun M1 =>
  some ((), M1)
theorem b_X8_putReal {o : Nat} {x1 : Int32} {x2 : UInt64} {M z} (ho : o = 18 ∨ o = 28) (hP : Lay M) (h : d_X8_putReal o x1 x2 M = some z) : VV Lay k_X8_putReal 0 [(0, .ref (o + 1)), (1, .int x1), (2, .double x2)] [] M z.2 (Qv (none) z.2) xF := by
  unfold d_X8_putReal at h
  refine Y_aload_n (pc := 0) (j := 0) dX8_putReal_0 rfl rfl ?_
  refine Y_iload_n (pc := 1) (j := 1) dX8_putReal_1 rfl rfl ?_
  refine Y_bipush (pc := 2) (v := (102 : Int32)) dX8_putReal_2 rfl ?_
  refine Y_iconst (pc := 4) (v := (0 : Int32)) dX8_putReal_4 rfl ?_
  obtain ⟨y1, qy1, h⟩ := bindE h
  have cy1 := v_X8_put ho hP qy1
  refine C_V3o (pc := 5) (k' := k_X8_put) dX8_putReal_5 w5_238 i_X8_put (lo_1 hP ho) ⟨Nat.le_of_ble_eq_true rfl, Nat.le_of_ble_eq_true rfl⟩ rfl (Nat.le_of_ble_eq_true rfl) (Nat.le_of_ble_eq_true rfl) (Nat.le_of_ble_eq_true rfl) (cy1) ?_
  have hPy1 := cy1.1.1
  refine Y_aload_n (pc := 8) (j := 0) dX8_putReal_8 rfl rfl ?_
  refine Z_getr (pc := 9) dX8_putReal_9 w1_154 (lo_1 hPy1 ho) fr_8_2 (lor_1_2 hPy1 ho) ?_
  refine Y_iload_n (pc := 12) (j := 1) dX8_putReal_12 rfl rfl ?_
  refine Y_dload_n (pc := 13) (j := 2) dX8_putReal_13 rfl rfl ?_
  obtain ⟨hb1, h⟩ := okE h
  refine Y_dast (pc := 14) dX8_putReal_14 (lo_4 hPy1 ho) (lon_4 hPy1 ho) hb1 ?_
  obtain ⟨M1, eM1, h⟩ := bndE h
  refine VV.mem eM1 ?_
  have hP1 := hPy1.wD eM1
  cases h
  exact Y_vret (pc := 15) rfl dX8_putReal_15 hP1 ⟨rfl, rfl⟩
theorem v_X8_putReal {o : Nat} {x1 : Int32} {x2 : UInt64} {M z} (ho : o = 18 ∨ o = 28) (hP : Lay M) (h : d_X8_putReal o x1 x2 M = some z) : CC Lay k_X8_putReal [.ref (o + 1), .int x1, .double x2] M z.2 (Qv (none) z.2) xF :=
  CC.ofVV (by decide) rfl (Nat.le_of_ble_eq_true rfl) (b_X8_putReal ho hP h)
noncomputable def d_X8_combineReals_41 (o : Nat) (x2 : Int32) (M : Mem) : Option (Unit × Mem) :=
  (d_X8_put o x2 (102 : Int32) (1 : Int32) M).bind fun y1 =>
  some ((), y1.2)
theorem b_X8_combineReals_41 {o : Nat} {x2 : Int32} {M z} (ho : o = 18 ∨ o = 28) (hP : Lay M) (h : d_X8_combineReals_41 o x2 M = some z) : VV Lay k_X8_combineReals 41 [(0, .ref (o + 1)), (2, .int x2)] [] M z.2 (Qv (none) z.2) xF := by
  unfold d_X8_combineReals_41 at h
  refine Y_aload_n (pc := 41) (j := 0) dX8_combineReals_41 rfl rfl ?_
  refine Y_iload_n (pc := 42) (j := 1) dX8_combineReals_42 rfl rfl ?_
  refine Y_bipush (pc := 43) (v := (102 : Int32)) dX8_combineReals_43 rfl ?_
  refine Y_iconst (pc := 45) (v := (1 : Int32)) dX8_combineReals_45 rfl ?_
  obtain ⟨y1, qy1, h⟩ := bindE h
  have cy1 := v_X8_put ho hP qy1
  refine C_V3o (pc := 46) (k' := k_X8_put) dX8_combineReals_46 w5_238 i_X8_put (lo_1 hP ho) ⟨Nat.le_of_ble_eq_true rfl, Nat.le_of_ble_eq_true rfl⟩ rfl (Nat.le_of_ble_eq_true rfl) (Nat.le_of_ble_eq_true rfl) (Nat.le_of_ble_eq_true rfl) (cy1) ?_
  have hPy1 := cy1.1.1
  refine Y_goto (pc := 49) (tgt := 65) dX8_combineReals_49 (by decide) ?_
  cases h
  exact Y_vret (pc := 65) rfl dX8_combineReals_65 hPy1 ⟨rfl, rfl⟩
noncomputable def d_X8_combineReals (o : Nat) (x1 : Int32) (x2 : Int32) (x3 : Int32) (M : Mem) : Option (Unit × Mem) :=
  (d_X8_realAt o x2 M).bind fun y1 =>
  (d_X8_realAt o x3 y1.2).bind fun y2 =>
  (d_X8_isUndefined o x2 y2.2).bind fun y3 =>
  if y3.1 = 0 then (
    (d_X8_isUndefined o x3 y3.2).bind fun y4 =>
    if y4.1 = 0 then (
      (d_X4_isUndefined x1 y1.1 y2.1 y4.2).bind fun y5 =>
      if y5.1 = 0 then (
        (d_X4_ofFloats x1 y1.1 y2.1 y5.2).bind fun y6 =>
        (d_X8_putReal o x2 y6.1 y6.2).bind fun y7 =>
        some ((), y7.2))
      else (
        d_X8_combineReals_41 o x2 y5.2))
    else (
      d_X8_combineReals_41 o x2 y4.2))
  else (
    d_X8_combineReals_41 o x2 y3.2)
theorem b_X8_combineReals {o : Nat} {x1 : Int32} {x2 : Int32} {x3 : Int32} {M z} (ho : o = 18 ∨ o = 28) (hP : Lay M) (h : d_X8_combineReals o x1 x2 x3 M = some z) : VV Lay k_X8_combineReals 0 [(0, .ref (o + 1)), (1, .int x1), (2, .int x2), (3, .int x3)] [] M z.2 (Qv (none) z.2) xF := by
  unfold d_X8_combineReals at h
  refine Y_aload_n (pc := 0) (j := 0) dX8_combineReals_0 rfl rfl ?_
  refine Y_iload_n (pc := 1) (j := 2) dX8_combineReals_1 rfl rfl ?_
  obtain ⟨y1, qy1, h⟩ := bindE h
  have cy1 := v_X8_realAt ho hP qy1
  refine C_V1r (pc := 2) (k' := k_X8_realAt) dX8_combineReals_2 w6_8 i_X8_realAt (lo_1 hP ho) ⟨Nat.le_of_ble_eq_true rfl, Nat.le_of_ble_eq_true rfl⟩ rfl (Nat.le_of_ble_eq_true rfl) (Nat.le_of_ble_eq_true rfl) (Nat.le_of_ble_eq_true rfl) (cy1) ?_
  have hPy1 := cy1.1.1
  refine Y_dstore (pc := 5) (lv1 := [(4, .double y1.1), (0, .ref (o + 1)), (1, .int x1), (2, .int x2), (3, .int x3)]) dX8_combineReals_5 (by decide) rfl ?_
  refine Y_aload_n (pc := 7) (j := 1) dX8_combineReals_7 rfl rfl ?_
  refine Y_iload_n (pc := 8) (j := 4) dX8_combineReals_8 rfl rfl ?_
  obtain ⟨y2, qy2, h⟩ := bindE h
  have cy2 := v_X8_realAt ho hPy1 qy2
  refine C_V1r (pc := 9) (k' := k_X8_realAt) dX8_combineReals_9 w6_8 i_X8_realAt (lo_1 hPy1 ho) ⟨Nat.le_of_ble_eq_true rfl, Nat.le_of_ble_eq_true rfl⟩ rfl (Nat.le_of_ble_eq_true rfl) (Nat.le_of_ble_eq_true rfl) (Nat.le_of_ble_eq_true rfl) (cy2) ?_
  have hPy2 := cy2.1.1
  refine Y_dstore (pc := 12) (lv1 := [(6, .double y2.1), (4, .double y1.1), (0, .ref (o + 1)), (1, .int x1), (2, .int x2), (3, .int x3)]) dX8_combineReals_12 (by decide) rfl ?_
  refine Y_aload_n (pc := 14) (j := 2) dX8_combineReals_14 rfl rfl ?_
  refine Y_iload_n (pc := 15) (j := 4) dX8_combineReals_15 rfl rfl ?_
  obtain ⟨y3, qy3, h⟩ := bindE h
  have cy3 := v_X8_isUndefined ho hPy2 qy3
  refine C_V1r (pc := 16) (k' := k_X8_isUndefined) dX8_combineReals_16 w5_131 i_X8_isUndefined (lo_1 hPy2 ho) ⟨Nat.le_of_ble_eq_true rfl, Nat.le_of_ble_eq_true rfl⟩ rfl (Nat.le_of_ble_eq_true rfl) (Nat.le_of_ble_eq_true rfl) (Nat.le_of_ble_eq_true rfl) (cy3) ?_
  have hPy3 := cy3.1.1
  refine Y_if_ne (pc := 19) (tgt := 41) dX8_combineReals_19 (by decide) (fun hc1 => ?_) (fun hc1 => ?_)
  · replace h := ifF hc1 h
    refine VV.sub [2, 4] rfl ?_
    exact b_X8_combineReals_41 ho hPy3 h
  · replace h := ifT hc1 h
    refine Y_aload_n (pc := 22) (j := 2) dX8_combineReals_22 rfl rfl ?_
    refine Y_iload_n (pc := 23) (j := 5) dX8_combineReals_23 rfl rfl ?_
    obtain ⟨y4, qy4, h⟩ := bindE h
    have cy4 := v_X8_isUndefined ho hPy3 qy4
    refine C_V1r (pc := 24) (k' := k_X8_isUndefined) dX8_combineReals_24 w5_131 i_X8_isUndefined (lo_1 hPy3 ho) ⟨Nat.le_of_ble_eq_true rfl, Nat.le_of_ble_eq_true rfl⟩ rfl (Nat.le_of_ble_eq_true rfl) (Nat.le_of_ble_eq_true rfl) (Nat.le_of_ble_eq_true rfl) (cy4) ?_
    have hPy4 := cy4.1.1
    refine Y_if_ne (pc := 27) (tgt := 41) dX8_combineReals_27 (by decide) (fun hc2 => ?_) (fun hc2 => ?_)
    · replace h := ifF hc2 h
      refine VV.sub [2, 4] rfl ?_
      exact b_X8_combineReals_41 ho hPy4 h
    · replace h := ifT hc2 h
      refine Y_iload_n (pc := 30) (j := 3) dX8_combineReals_30 rfl rfl ?_
      refine Y_dload (pc := 31) (j := 1) dX8_combineReals_31 rfl ?_
      refine Y_dload (pc := 33) (j := 0) dX8_combineReals_33 rfl ?_
      obtain ⟨y5, qy5, h⟩ := bindE h
      have cy5 := v_X4_isUndefined hPy4 qy5
      refine C_S3r (pc := 35) (k' := k_X4_isUndefined) dX8_combineReals_35 w6_33 i_X4_isUndefined (Nat.le_of_ble_eq_true rfl) (Nat.le_of_ble_eq_true rfl) (Nat.le_of_ble_eq_true rfl) (cy5) ?_
      have hPy5 := cy5.1.1
      refine Y_if_eq (pc := 38) (tgt := 52) dX8_combineReals_38 (by decide) (fun hc3 => ?_) (fun hc3 => ?_)
      · replace h := ifT hc3 h
        refine Y_aload_n (pc := 52) (j := 2) dX8_combineReals_52 rfl rfl ?_
        refine Y_iload_n (pc := 53) (j := 4) dX8_combineReals_53 rfl rfl ?_
        refine Y_iload_n (pc := 54) (j := 3) dX8_combineReals_54 rfl rfl ?_
        refine Y_dload (pc := 55) (j := 1) dX8_combineReals_55 rfl ?_
        refine Y_dload (pc := 57) (j := 0) dX8_combineReals_57 rfl ?_
        obtain ⟨y6, qy6, h⟩ := bindE h
        have cy6 := v_X4_ofFloats hPy5 qy6
        refine C_S3r (pc := 59) (k' := k_X4_ofFloats) dX8_combineReals_59 w6_41 i_X4_ofFloats (Nat.le_of_ble_eq_true rfl) (Nat.le_of_ble_eq_true rfl) (Nat.le_of_ble_eq_true rfl) (cy6) ?_
        have hPy6 := cy6.1.1
        obtain ⟨y7, qy7, h⟩ := bindE h
        have cy7 := v_X8_putReal ho hPy6 qy7
        refine C_V2o (pc := 62) (k' := k_X8_putReal) dX8_combineReals_62 w6_48 i_X8_putReal (lo_1 hPy6 ho) ⟨Nat.le_of_ble_eq_true rfl, Nat.le_of_ble_eq_true rfl⟩ rfl (Nat.le_of_ble_eq_true rfl) (Nat.le_of_ble_eq_true rfl) (Nat.le_of_ble_eq_true rfl) (cy7) ?_
        have hPy7 := cy7.1.1
        cases h
        exact Y_vret (pc := 65) rfl dX8_combineReals_65 hPy7 ⟨rfl, rfl⟩
      · replace h := ifF hc3 h
        refine VV.sub [2, 4] rfl ?_
        exact b_X8_combineReals_41 ho hPy5 h
theorem v_X8_combineReals {o : Nat} {x1 : Int32} {x2 : Int32} {x3 : Int32} {M z} (ho : o = 18 ∨ o = 28) (hP : Lay M) (h : d_X8_combineReals o x1 x2 x3 M = some z) : CC Lay k_X8_combineReals [.ref (o + 1), .int x1, .int x2, .int x3] M z.2 (Qv (none) z.2) xF :=
  CC.ofVV (by decide) rfl (Nat.le_of_ble_eq_true rfl) (b_X8_combineReals ho hP h)
end VCR
